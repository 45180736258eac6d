/-! link(), the reference: which fault there is, exactly -/
def HLm (σ : St) (e : Nat) (l : Int) : Prop := (σ 9 e).toInt = 2 ∧ (l = 0 → (σ 10 e).toInt = 0 ∧ (σ 15 e).toInt = 0) ∧ (l ≠ 0 → (σ 10 e).toInt = -1 ∧ (σ 15 e).toInt = 1 ∧ (σ 16 (8 * e)).toInt = 0)
def HTm (σ : St) (e f : Nat) : Prop := (σ 9 e).toInt = (σ 9 f).toInt ∧ (σ 10 e).toInt = (σ 10 f).toInt ∧ ((σ 9 e).toInt = 1 → (0 ≤ (σ 11 e).toInt ↔ 0 ≤ (σ 11 f).toInt) ∧ ((σ 11 e).toInt ≤ 0 ∨ (σ 11 e).toInt = (σ 11 f).toInt)) ∧ ((σ 9 e).toInt ≠ 1 → (σ 15 e).toInt = (σ 15 f).toInt ∧ ∀ k : Nat, (k : Int) < (σ 15 e).toInt → (σ 16 (8 * e + k)).toInt = (σ 16 (8 * f + k)).toInt)
/-- a fault of a number at e, of what is picked as p-th -/
def HOm (σ : St) (num : Int) (p : Int) (e : Nat) (n : Int) : Prop := (num = 31 ∧ ((σ 12 e).toInt = 0 ∧ (σ 13 e).toInt = 1) ∧ ((∃ r, LIB σ e r ∧ 0 ≤ r.toInt) ∨ ∃ q f : Nat, FND σ e p q f)) ∨ (num ≠ 31 ∧ ((σ 12 e).toInt = 0 ∧ (σ 13 e).toInt = 0) ∧ ((num = 32 ∧ (σ 14 e).toInt ≠ 0 ∧ (∃ r, LIB σ e r ∧ r.toInt < 0) ∧ NFD σ e n) ∨ (num ≠ 32 ∧ ((∃ r, LIB σ e r ∧ 0 ≤ r.toInt ∧ ¬ HLm σ e r.toInt) ∨ ((∃ r, LIB σ e r ∧ r.toInt < 0) ∧ ∃ q f : Nat, FND σ e n q f ∧ ¬ HTm σ e f)))))
def NOm (σ : St) (num n : Int) : Prop := ∀ p : Nat, (p : Int) < n → ∀ e, InO σ (PO σ p) e → (σ 12 e).toInt = 0 → ¬ HOm σ num p e n
/-- the first of a number, at symbol c of the p-th -/
def FRm (σ : St) (num n : Int) (p e : Nat) (c : Int32) : Prop := (p : Int) < n ∧ (InO σ (PO σ p) e ∧ (σ 12 e).toInt = 0 ∧ HOm σ num p e n) ∧ (∀ p' : Nat, p' < p → ∀ e, InO σ (PO σ p') e → (σ 12 e).toInt = 0 → ¬ HOm σ num p' e n) ∧ (∀ e', InO σ (PO σ p) e' → e' < e → (σ 12 e').toInt = 0 → ¬ HOm σ num p e' n) ∧ c.toInt = ((czn (fun d => (σ 12 d).toInt) (fO σ (PO σ p)).toNat ((e : Int) - fO σ (PO σ p)).toNat : Nat) : Int)
/-- a main that can be begun with -/
def MNm (σ : St) (f : Nat) : Prop := ((σ 19 f).toInt = 4 ∧ nfm σ f 0 = 109 ∧ nfm σ f 1 = 97 ∧ nfm σ f 2 = 105 ∧ nfm σ f 3 = 110) ∧ ((σ 12 f).toInt = 0 ∧ (σ 13 f).toInt = 1) ∧ (σ 9 f).toInt = 2 ∧ (σ 10 f).toInt = 0 ∧ (σ 15 f).toInt = 0
section LKM
variable {σ s t τ u : St} {vs z : List Nat} {e f l num p n x : Int32} {q : Nat}
theorem rx_hasLibraryType {Q : Int32 → Prop} (he : 0 ≤ e.toInt ∧ e.toInt < 10000) (k1 : HLm σ e.toNatClampNeg l.toInt → Q (1 : Int32)) (k0 : ¬ HLm σ e.toNatClampNeg l.toInt → Q (0 : Int32)) : pp_hasLibraryType e l σ τ vs Q := by
  have m1 := mul8 (x := e) he.1 (by omega)
  have ei : ((8 : Int32) * e).toNatClampNeg = 8 * e.toNatClampNeg := by rw [nt', nt', m1]; omega
  unfold pp_hasLibraryType
  rw [ei]
  refine fun _ => ⟨fun c9 => ⟨fun cl _ => ⟨fun c10 => k0 (fun h => c10 (h.2.2 cl).1), fun c10 _ => ⟨fun c15 => k0 (fun h => c15 (h.2.2 cl).2.1), fun c15 _ => ⟨fun c16 => k0 (fun h => c16 (h.2.2 cl).2.2), fun c16 => k1 ⟨c9, fun h => absurd h cl, fun _ => ⟨c10, c15, c16⟩⟩⟩⟩⟩, fun cl _ => ⟨fun c10 => k0 (fun h => c10 (h.2.1 cl).1), fun c10 _ => ⟨fun c15 => k0 (fun h => c15 (h.2.1 cl).2), fun c15 => k1 ⟨c9, fun _ => ⟨c10, c15⟩, fun h => absurd cl h⟩⟩⟩⟩, fun c9 => k0 (fun h => c9 h.1)⟩
theorem rx_hasType {Q : Int32 → Prop} (hA : AllIn 0 8 (σ 15)) (he : 0 ≤ e.toInt ∧ e.toInt < 10000) (hf : 0 ≤ f.toInt ∧ f.toInt < 10000) (k1 : HTm σ e.toNatClampNeg f.toNatClampNeg → Q (1 : Int32)) (k0 : ¬ HTm σ e.toNatClampNeg f.toNatClampNeg → Q (0 : Int32)) : pp_hasType e f σ τ vs Q := by
  unfold pp_hasType
  refine fun _ _ => ⟨fun c9 => k0 (fun h => c9 h.1), fun c9 _ _ => ⟨fun c10 _ => ⟨fun c1 _ _ => ⟨fun c15 => ?_, fun c15 => k0 (fun h => c15 (h.2.2.2 c1).1)⟩, fun c1 _ => ?_⟩, fun c10 => k0 (fun h => c10 h.2.1)⟩⟩
  · have hp := hA e.toNatClampNeg
    refine ⟨fun x => 0 ≤ x.toInt ∧ ∀ k : Nat, (k : Int) < x.toInt → (σ 16 (8 * e.toNatClampNeg + k)).toInt = (σ 16 (8 * f.toNatClampNeg + k)).toInt, ⟨by decide, fun k hk => absurd hk (by rw [show (0 : Int32).toInt = 0 from rfl]; omega)⟩, ?_⟩
    rintro x ⟨x0, hx⟩ -
    refine ⟨fun c => k1 ⟨c9, c10, fun h => absurd h c1, fun _ => ⟨c15, fun k hk => hx k (by omega)⟩⟩, fun c _ _ => ?_⟩
    have m1 := mul8 (x := e) he.1 (by omega)
    have m2 := mul8 (x := f) hf.1 (by omega)
    have a1 : (((8 : Int32) * e) + x).toNatClampNeg = 8 * e.toNatClampNeg + x.toInt.toNat := by rw [nt', nt', ad (by omega) (by omega), m1]; omega
    have a2 : (((8 : Int32) * f) + x).toNatClampNeg = 8 * f.toNatClampNeg + x.toInt.toNat := by rw [nt', nt', ad (by omega) (by omega), m2]; omega
    rw [a1, a2]
    refine ⟨fun ce => ⟨by rw [ad1 (by omega)]; omega, fun k hk => ?_⟩, fun ce => k0 (fun h => ce ((h.2.2.2 c1).2 x.toInt.toNat (by omega)))⟩
    rw [ad1 (by omega)] at hk
    by_cases ek : k = x.toInt.toNat
    · rw [ek]; exact ce
    · exact hx k (by omega)
  · refine ⟨fun y => y.toInt = 0 ↔ 0 ≤ (σ 11 e.toNatClampNeg).toInt, fun y0 r0 hy0 _ => ⟨fun y => y.toInt = 0 ↔ 0 ≤ (σ 11 f.toNatClampNeg).toInt, fun y1 r1 hy1 => ⟨fun cn => k0 (fun h => ?_), fun ce _ => ?_⟩, fun c => ⟨fun _ => c, fun _ => rfl⟩, fun c => ⟨fun h => absurd h (by decide), fun h => by omega⟩⟩, fun c => ⟨fun _ => c, fun _ => rfl⟩, fun c => ⟨fun h => absurd h (by decide), fun h => by omega⟩⟩
    · have hi := (h.2.2.1 c1).1
      rcases r0 with g | g <;> rcases r1 with g' | g'
      · exact cn (by rw [g, g'])
      · have := hy1.2 (hi.1 (hy0.1 (by rw [g]; rfl)))
        rw [g'] at this
        exact absurd this (by decide)
      · have := hy0.2 (hi.2 (hy1.1 (by rw [g']; rfl)))
        rw [g] at this
        exact absurd this (by decide)
      · exact cn (by rw [g, g'])
    · have hi : 0 ≤ (σ 11 e.toNatClampNeg).toInt ↔ 0 ≤ (σ 11 f.toNatClampNeg).toInt := ⟨fun h => hy1.1 (by rw [← ce]; exact hy0.2 h), fun h => hy0.1 (by rw [ce]; exact hy1.2 h)⟩
      refine ⟨fun cs => k1 ⟨c9, c10, fun _ => ⟨hi, Or.inl cs⟩, fun h => absurd c1 h⟩, fun cs _ _ => ⟨fun cd => k0 (fun h => ?_), fun cd => k1 ⟨c9, c10, fun _ => ⟨hi, Or.inr cd⟩, fun h => absurd c1 h⟩⟩⟩
      rcases (h.2.2.1 c1).2 with g | g
      · omega
      · exact cd g
theorem rx_library {Q : Int32 → Prop} (hM : NMo σ) (he : 0 ≤ e.toInt ∧ e.toInt < 10000) (h : ∀ r, LIB σ e.toNatClampNeg r → Q r) : pp_library_0 e σ τ vs Q := wl_wp_library_0 (fun v p => h v p) (sp_library (Q := fun r => LIB σ e.toNatClampNeg r) hM he (fun r p => p))
theorem rx_isSymbol {Q : Int32 → Prop} (k1 : (σ 12 e.toNatClampNeg).toInt = 0 ∧ (σ 13 e.toNatClampNeg).toInt = l.toInt → Q (1 : Int32)) (k0 : ¬ ((σ 12 e.toNatClampNeg).toInt = 0 ∧ (σ 13 e.toNatClampNeg).toInt = l.toInt) → Q (0 : Int32)) : pp_isSymbol e l σ τ vs Q := by
  unfold pp_isSymbol
  exact fun _ => ⟨fun c => k0 (fun h => c h.1), fun c _ => ⟨fun c2 => k0 (fun h => c2 h.2), fun c2 => k1 ⟨c, c2⟩⟩⟩
theorem rx_find {Q : Int32 → St → St → List Nat → Prop} (h : RWS σ n.toInt) (he : 0 ≤ e.toInt ∧ e.toInt < 10000) (k0 : NFD σ e.toNatClampNeg n.toInt → Q (0 : Int32) σ τ vs) (k1 : ∀ p f : Int32, (0 ≤ p.toInt ∧ p.toInt < 100) → (0 ≤ f.toInt ∧ f.toInt < 10000) → FND σ e.toNatClampNeg n.toInt p.toNatClampNeg f.toNatClampNeg → Q (1 : Int32) (upC (upC σ 0 73 p) 0 74 f) τ vs) : pp_find e n σ τ vs Q := wl_wp_find (fun v s t z p => p) (sp_find h he k0 k1)
theorem fnd_not {e : Nat} {n : Int} (nf : NFD σ e n) : ¬ ∃ q f : Nat, FND σ e n q f := fun ⟨q, f, fn⟩ => nf q fn.1 f fn.2.1 fn.2.2.1
theorem rx_holds {Q : Int32 → St → St → List Nat → Prop} (h : RWS σ n.toInt) (hp : 0 ≤ p.toInt ∧ p.toInt ≤ n.toInt) (he : 0 ≤ e.toInt ∧ e.toInt < 10000) (k1 : ∀ s, Kp [(0, 73), (0, 74)] [] σ s → HOm σ num.toInt p.toInt e.toNatClampNeg n.toInt → Q (1 : Int32) s τ vs) (k0 : ∀ s, Kp [(0, 73), (0, 74)] [] σ s → ¬ HOm σ num.toInt p.toInt e.toNatClampNeg n.toInt → Q (0 : Int32) s τ vs) : pp_holds num p e n σ τ vs Q := by
  have hn := h.1
  have lu : ∀ {r r' : Int32}, LIB σ e.toNatClampNeg r → LIB σ e.toNatClampNeg r' → r.toInt = r'.toInt := fun a b => lib_uniq a b
  unfold pp_holds
  refine rx_library h.2.1 he (fun l hl => ⟨fun c1 => ?_, fun c1 => ?_⟩)
  · refine rx_isSymbol (fun hs => ⟨fun _ => ⟨fun c2 => ⟨fun c3 => ?_, fun c3 => ?_⟩, fun c2 _ => ⟨fun c3 => ?_, fun c3 => ⟨fun c4 => ?_, fun c4 => ?_⟩⟩⟩, fun z => absurd z (by decide)⟩) (fun hs => ⟨fun z => absurd rfl z, fun _ => k0 _ kp_rf ?_⟩)
    · -- 33, not of the library
      refine rx_find h he (fun nf => ⟨fun _ => k0 _ kp_rf ?_, fun z => absurd rfl z⟩) (fun p' f' hp' hf' fn => ⟨fun z => absurd z (by decide), fun _ => ?_⟩)
      · rintro (⟨g, _⟩ | ⟨_, _, ⟨g, _⟩ | ⟨_, ⟨r, g1, g2, _⟩ | ⟨_, q, f, g1, _⟩⟩⟩)
        · exact c1 g
        · exact c2 g
        · have := lu g1 hl
          omega
        · exact fnd_not nf ⟨q, f, g1⟩
      · rw [show (upC (upC σ 0 73 p') 0 74 f') 0 74 = f' from rfl]
        have kk : Kp [(0, 73), (0, 74)] [] σ (upC (upC σ 0 73 p') 0 74 f') := kp_f (kp_f kp_rf rfl) rfl
        refine rx_hasType (σ := upC (upC σ 0 73 p') 0 74 f') h.2.2.1 he hf' (fun ht => ⟨fun _ => k0 _ kk ?_, fun z => absurd z (by decide)⟩) (fun ht => ⟨fun z => absurd rfl z, fun _ => k1 _ kk ?_⟩)
        · rintro (⟨g, _⟩ | ⟨_, _, ⟨g, _⟩ | ⟨_, ⟨r, g1, g2, _⟩ | ⟨_, q, f, g1, g2⟩⟩⟩)
          · exact c1 g
          · exact c2 g
          · have := lu g1 hl
            omega
          · obtain ⟨_, u2⟩ := fnd_uniq g1 fn
            rw [u2] at g2
            exact g2 ht
        · exact Or.inr ⟨c1, hs, Or.inr ⟨c2, Or.inr ⟨⟨l, hl, c3⟩, _, _, fn, ht⟩⟩⟩
    · refine rx_hasLibraryType he (fun ht => ⟨fun _ => k0 _ kp_rf ?_, fun z => absurd z (by decide)⟩) (fun ht => ⟨fun z => absurd rfl z, fun _ => k1 _ kp_rf (Or.inr ⟨c1, hs, Or.inr ⟨c2, Or.inl ⟨l, hl, c3, ht⟩⟩⟩)⟩)
      rintro (⟨g, _⟩ | ⟨_, _, ⟨g, _⟩ | ⟨_, ⟨r, g1, g2, g3⟩ | ⟨⟨r, g1, g2⟩, _⟩⟩⟩)
      · exact c1 g
      · exact c2 g
      · rw [lu g1 hl] at g3
        exact g3 ht
      · have := lu g1 hl
        omega
    · refine k0 _ kp_rf ?_
      rintro (⟨g, _⟩ | ⟨_, _, ⟨_, g, _⟩ | ⟨g, _⟩⟩)
      · exact c1 g
      · exact g c3
      · exact g c2
    · refine k0 _ kp_rf ?_
      rintro (⟨g, _⟩ | ⟨_, _, ⟨_, _, ⟨r, g1, g2⟩, _⟩ | ⟨g, _⟩⟩)
      · exact c1 g
      · have := lu g1 hl
        omega
      · exact g c2
    · refine rx_find h he (fun nf => ⟨fun z => absurd rfl z, fun _ => k1 _ kp_rf (Or.inr ⟨c1, hs, Or.inl ⟨c2, c3, ⟨l, hl, c4⟩, nf⟩⟩)⟩) (fun p' f' hp' hf' fn => ⟨fun _ => k0 _ (kp_f (kp_f kp_rf rfl) rfl) ?_, fun z => absurd z (by decide)⟩)
      rintro (⟨g, _⟩ | ⟨_, _, ⟨_, _, _, g⟩ | ⟨g, _⟩⟩)
      · exact c1 g
      · exact fnd_not g ⟨_, _, fn⟩
      · exact g c2
    · rintro (⟨g, _⟩ | ⟨_, g, _⟩)
      · exact c1 g
      · exact hs g
  · have hR : RWS σ p.toInt := ⟨by omega, h.2.1, h.2.2.1, fun p' hp' => h.2.2.2 p' (by omega)⟩
    refine rx_isSymbol (fun hs => ⟨fun z => absurd z (by decide), fun _ => ⟨fun c2 => k1 _ kp_rf (Or.inl ⟨c1, hs, Or.inl ⟨l, hl, c2⟩⟩), fun c2 => ?_⟩⟩) (fun hs => ⟨fun _ => k0 _ kp_rf ?_, fun z => absurd rfl z⟩)
    · refine rx_find hR he (fun nf => ⟨fun _ => k0 _ kp_rf ?_, fun z => absurd rfl z⟩) (fun p' f' hp' hf' fn => ⟨fun z => absurd z (by decide), fun _ => k1 _ (kp_f (kp_f kp_rf rfl) rfl) (Or.inl ⟨c1, hs, Or.inr ⟨_, _, fn⟩⟩)⟩)
      rintro (⟨_, _, ⟨r, g1, g2⟩ | g⟩ | ⟨g, _⟩)
      · have := lu g1 hl
        omega
      · exact fnd_not nf g
      · exact g c1
    · rintro (⟨_, g, _⟩ | ⟨g, _⟩)
      · exact hs g
      · exact g c1
/-- what is asked of the arrays alone -/
theorem hom_k {num p n : Int} {e : Nat} (k : ∀ c, c ≠ 0 → s c = σ c) : HOm s num p e n = HOm σ num p e n := by
  unfold HOm LIB LBk FND NFD MT ALK nfm InO fO PO HLm HTm
  rw [k 9 (by decide), k 10 (by decide), k 11 (by decide), k 12 (by decide), k 13 (by decide), k 14 (by decide), k 15 (by decide), k 16 (by decide), k 18 (by decide), k 19 (by decide), k 20 (by decide), k 22 (by decide), k 40 (by decide)]
theorem k7_rows (k : Kp [(0, 73), (0, 74)] [] σ s) : ∀ c, c ≠ 0 → s c = σ c := fun c hc => funext (fun j => k c j (by
  simp only [List.contains_cons, List.contains_nil, Bool.or_false, Bool.or_eq_false_iff, beq_eq_false_iff_ne, ne_eq, Prod.mk.injEq, not_and]
  omega) rfl)
theorem rx_isFault {Q : Int32 → St → St → List Nat → Prop} (h : RWS σ n.toInt) (k0 : ∀ s, Kp [(0, 73), (0, 74)] [] σ s → NOm σ num.toInt n.toInt → Q (0 : Int32) s τ vs) (k1 : ∀ s (p : Int32) (e : Nat) (c : Int32), Kp [(0, 73), (0, 74)] [] σ s → 0 ≤ p.toInt → FRm σ num.toInt n.toInt p.toNatClampNeg e c → Q (1 : Int32) (upC (upC s 0 71 p) 0 72 c) τ vs) : pp_isFault num n σ τ vs Q := by
  have hn := h.1
  unfold pp_isFault
  refine ⟨fun p s t z => 0 ≤ p.toInt ∧ Kp [(0, 73), (0, 74)] [] σ s ∧ t = τ ∧ z = vs ∧ ∀ p' : Nat, (p' : Int) < p.toInt → ∀ e, InO σ (PO σ p') e → (σ 12 e).toInt = 0 → ¬ HOm σ num.toInt p' e n.toInt, ⟨by decide, kp_rf, rfl, rfl, fun p' hp' => by rw [show (0 : Int32).toInt = 0 from rfl] at hp'; omega⟩, ?_⟩
  rintro p s t z ⟨q2, kk, rfl, rfl, q3⟩
  refine ⟨fun c => k0 s kk (fun p' hp' => q3 p' (by omega)), fun c _ _ => ?_⟩
  have hs := rws_k (kp_sub kk rfl rfl) h
  obtain ⟨i1, i2, i3, i4, i5, i6, i7, i8, i9⟩ := po_of hs q2 c
  have ar := k7_rows kk
  have ePO : PO s p.toNatClampNeg = PO σ p.toNatClampNeg := by unfold PO; rw [ar 40 (by decide)]
  rw [i3]
  rw [ePO] at i5 i6 i7 i9 ⊢
  have efs : ∀ o, fO s o = fO σ o := fun o => by unfold fO; rw [ar 22 (by decide)]
  rw [efs] at i6 i7 i9
  have np := nt q2
  have ep := ad1 (x := p) (by omega)
  have ef : (s 22 (PO σ p.toNatClampNeg)).toInt = fO σ (PO σ p.toNatClampNeg) := by rw [ar 22 (by decide)]; rfl
  refine ⟨fun x e s5 t5 z5 => fO σ (PO σ p.toNatClampNeg) ≤ e.toInt ∧ x.toInt = ((czn (fun d => (σ 12 d).toInt) (fO σ (PO σ p.toNatClampNeg)).toNat (e.toInt - fO σ (PO σ p.toNatClampNeg)).toNat : Nat) : Int) ∧ Kp [(0, 73), (0, 74)] [] σ s5 ∧ t5 = t ∧ z5 = z ∧ ∀ e' : Nat, InO σ (PO σ p.toNatClampNeg) e' → (e' : Int) < e.toInt → (σ 12 e').toInt = 0 → ¬ HOm σ num.toInt p.toInt e' n.toInt, ⟨by omega, ?_, kk, rfl, rfl, fun e' a b => by have := a.1; omega⟩, ?_⟩
  · rw [ef, show (fO σ (PO σ p.toNatClampNeg) - fO σ (PO σ p.toNatClampNeg)).toNat = 0 from by omega]
    rfl
  rintro x e s5 t5 z5 ⟨r2, rx, k5, rfl, rfl, r3⟩ - -
  have br := k7_rows k5
  rw [br 40 (by decide), br 22 (by decide), br 12 (by decide)]
  rw [ar 40 (by decide)] at i4 i5
  rw [i5]
  have ef2 : (σ 22 (PO σ p.toNatClampNeg + 1)).toInt = fO σ (PO σ p.toNatClampNeg + 1) := rfl
  refine ⟨fun c2 => ⟨by omega, kp_sub k5 rfl rfl, rfl, rfl, fun p' hp' e' he' hs' => ?_⟩, fun c2 _ => ?_⟩
  · by_cases e9 : p' = p.toNatClampNeg
    · subst e9
      rw [show ((p.toNatClampNeg : Nat) : Int) = p.toInt from np]
      exact r3 e' he' (by have := he'.2; omega) hs'
    · exact q3 p' (by omega) e' he' hs'
  have e1 := ad1 (x := e) (by omega)
  have ne := nt (x := e) (by omega)
  have hle := cz_le (f := fun d => (σ 12 d).toInt) (lo := (fO σ (PO σ p.toNatClampNeg)).toNat) (n := (e.toInt - fO σ (PO σ p.toNatClampNeg)).toNat)
  have step : czn (fun d => (σ 12 d).toInt) (fO σ (PO σ p.toNatClampNeg)).toNat ((e + 1).toInt - fO σ (PO σ p.toNatClampNeg)).toNat = czn (fun d => (σ 12 d).toInt) (fO σ (PO σ p.toNatClampNeg)).toNat (e.toInt - fO σ (PO σ p.toNatClampNeg)).toNat + if (σ 12 e.toNatClampNeg).toInt = 0 then 1 else 0 := by
    rw [show ((e + 1).toInt - fO σ (PO σ p.toNatClampNeg)).toNat = (e.toInt - fO σ (PO σ p.toNatClampNeg)).toNat + 1 from by omega, cz_s]
    show _ + (if (σ 12 ((fO σ (PO σ p.toNatClampNeg)).toNat + (e.toInt - fO σ (PO σ p.toNatClampNeg)).toNat)).toInt = 0 then 1 else 0) = _
    rw [show (fO σ (PO σ p.toNatClampNeg)).toNat + (e.toInt - fO σ (PO σ p.toNatClampNeg)).toNat = e.toNatClampNeg from by omega]
  refine ⟨fun x9 s9 t9 z9 => x9.toInt = ((czn (fun d => (σ 12 d).toInt) (fO σ (PO σ p.toNatClampNeg)).toNat ((e + 1).toInt - fO σ (PO σ p.toNatClampNeg)).toNat : Nat) : Int) ∧ Kp [(0, 73), (0, 74)] [] σ s9 ∧ t9 = t5 ∧ z9 = z5 ∧ ((σ 12 e.toNatClampNeg).toInt = 0 → ¬ HOm σ num.toInt p.toInt e.toNatClampNeg n.toInt), ?_, fun c3 => ?_, fun c3 => ⟨?_, k5, rfl, rfl, fun q => absurd q c3⟩⟩
  · rintro x9 s9 t9 z9 ⟨rx9, k9, rfl, rfl, hh⟩
    refine ⟨by omega, rx9, k9, rfl, rfl, fun e' a b hs' => ?_⟩
    by_cases e9 : e' = e.toNatClampNeg
    · subst e9; exact hh hs'
    · exact r3 e' a (by omega) hs'
  · refine rx_holds (rws_k (kp_sub k5 rfl rfl) h) ⟨q2, by omega⟩ (by omega) (fun s6 k6 hr => ⟨fun z => absurd z (by decide), fun _ => ?_⟩) (fun s6 k6 hr => ⟨fun _ => ⟨?_, kp_tr k5 k6, rfl, rfl, fun _ => ?_⟩, fun z => absurd rfl z⟩)
    · rw [hom_k br] at hr
      refine k1 s6 p e.toNatClampNeg x (kp_tr k5 k6) q2 ⟨by omega, ⟨⟨by omega, by omega⟩, c3, ?_⟩, fun p' hp' => q3 p' (by omega), fun e' he' hlt => ?_, ?_⟩
      · rw [show ((p.toNatClampNeg : Nat) : Int) = p.toInt from np]
        exact hr
      · rw [show ((p.toNatClampNeg : Nat) : Int) = p.toInt from np]
        exact r3 e' he' (by omega)
      · rw [rx, show ((e.toNatClampNeg : Nat) : Int) = e.toInt from ne]
    · rw [step, if_pos c3, ad1 (by omega), rx]
      rfl
    · rw [hom_k br] at hr
      exact hr
  · rw [step, if_neg c3, rx]
    rfl
theorem rx_mainOf {Q : Int32 → Prop} (h : RWS σ n.toInt) (k0 : (∀ p : Nat, (p : Int) < n.toInt → ∀ f, InO σ (PO σ p) f → ¬ MNm σ f) → Q ((-1) : Int32)) (k1 : ∀ p f : Nat, (p : Int) < n.toInt → InO σ (PO σ p) f → MNm σ f → Q (σ 17 f)) : pp_mainOf n σ τ vs Q := by
  have hn := h.1
  unfold pp_mainOf
  refine ⟨fun p => 0 ≤ p.toInt ∧ ∀ p' : Nat, (p' : Int) < p.toInt → ∀ f, InO σ (PO σ p') f → ¬ MNm σ f, ⟨by decide, fun p' hp' => by rw [show (0 : Int32).toInt = 0 from rfl] at hp'; omega⟩, ?_⟩
  rintro p ⟨q2, q3⟩
  refine ⟨fun c => k0 (fun p' hp' => q3 p' (by omega)), fun c _ _ => ?_⟩
  obtain ⟨i1, i2, i3, i4, i5, i6, i7, i8, i9⟩ := po_of h q2 c
  have np := nt q2
  have ep := ad1 (x := p) (by omega)
  rw [i3, i5]
  have ef : (σ 22 (PO σ p.toNatClampNeg)).toInt = fO σ (PO σ p.toNatClampNeg) := rfl
  have ef2 : (σ 22 (PO σ p.toNatClampNeg + 1)).toInt = fO σ (PO σ p.toNatClampNeg + 1) := rfl
  refine ⟨fun f => fO σ (PO σ p.toNatClampNeg) ≤ f.toInt ∧ ∀ f' : Nat, InO σ (PO σ p.toNatClampNeg) f' → (f' : Int) < f.toInt → ¬ MNm σ f', ⟨by omega, fun f' a b => by have := a.1; omega⟩, ?_⟩
  rintro f ⟨r2, r3⟩ - -
  refine ⟨fun c2 => ⟨by omega, fun p' hp' f' hf' => ?_⟩, fun c2 _ => ?_⟩
  · by_cases e9 : p' = p.toNatClampNeg
    · subst e9
      exact r3 f' hf' (by have := hf'.2; omega)
    · exact q3 p' (by omega) f' hf'
  have nf := nt (x := f) (by omega)
  have e1 := ad1 (x := f) (by omega)
  have nx : ¬ MNm σ f.toNatClampNeg → fO σ (PO σ p.toNatClampNeg) ≤ (f + 1).toInt ∧ ∀ f' : Nat, InO σ (PO σ p.toNatClampNeg) f' → (f' : Int) < (f + 1).toInt → ¬ MNm σ f' := fun hm => ⟨by omega, fun f' a b => by
    by_cases e9 : f' = f.toNatClampNeg
    · rw [e9]; exact hm
    · exact r3 f' a (by omega)⟩
  obtain ⟨m1, m2, m3⟩ := h.2.1 f.toNatClampNeg
  have ad4 : ∀ k : Int32, 0 ≤ k.toInt → k.toInt < 4 → (σ 19 f.toNatClampNeg).toInt = 4 → (σ 20 ((σ 18 f.toNatClampNeg) + k).toNatClampNeg).toInt = nfm σ f.toNatClampNeg k.toInt.toNat := fun k k1 k2 k3 => by
    have : ((σ 18 f.toNatClampNeg) + k).toInt = (σ 18 f.toNatClampNeg).toInt + k.toInt := ad (by omega) (by omega)
    unfold nfm
    rw [nt', this, show (σ 18 f.toNatClampNeg).toInt + k.toInt = (σ 18 f.toNatClampNeg).toInt + ((k.toInt.toNat : Nat) : Int) from by omega]
  have ad0 : (σ 20 (σ 18 f.toNatClampNeg).toNatClampNeg).toInt = nfm σ f.toNatClampNeg 0 := by
    unfold nfm
    rw [nt', show (σ 18 f.toNatClampNeg).toInt + ((0 : Nat) : Int) = (σ 18 f.toNatClampNeg).toInt from by omega]
  refine ⟨fun y => y.toInt ≠ 0 ↔ ((σ 19 f.toNatClampNeg).toInt = 4 ∧ nfm σ f.toNatClampNeg 0 = 109 ∧ nfm σ f.toNatClampNeg 1 = 97 ∧ nfm σ f.toNatClampNeg 2 = 105 ∧ nfm σ f.toNatClampNeg 3 = 110), fun y ry hy => ⟨¬ MNm σ f.toNatClampNeg, nx, fun c3 hm => ?_, fun c3 => rx_isSymbol (fun hs => ⟨fun z => absurd z (by decide), fun _ _ => ⟨fun c4 hm => c4 hm.2.2.1, fun c4 _ => ⟨fun c5 hm => c5 hm.2.2.2.1, fun c5 _ => ⟨fun c6 hm => c6 hm.2.2.2.2, fun c6 _ => k1 p.toNatClampNeg f.toNatClampNeg (by omega) ⟨by omega, by omega⟩ ⟨hy.1 c3, hs, c4, c5, c6⟩⟩⟩⟩⟩) (fun hs => ⟨fun _ hm => hs hm.2.1, fun z => absurd rfl z⟩)⟩, ?_⟩
  · exact (hy.2 hm.1) c3
  · by_cases g : (σ 19 f.toNatClampNeg).toInt = 4 ∧ nfm σ f.toNatClampNeg 0 = 109 ∧ nfm σ f.toNatClampNeg 1 = 97 ∧ nfm σ f.toNatClampNeg 2 = 105 ∧ nfm σ f.toNatClampNeg 3 = 110
    · have g' := g
      obtain ⟨g0, ga, gb, gc, gd⟩ := g'
      refine ⟨False, fun hx => hx.elim, fun c => absurd g0 c, fun _ _ _ => ⟨fun c => absurd (ad0.trans ga) c, fun _ _ _ => ⟨fun c => absurd ((ad4 1 (by decide) (by decide) g0).trans gb) c, fun _ _ _ => ⟨fun c => absurd ((ad4 2 (by decide) (by decide) g0).trans gc) c, fun _ _ _ => ⟨fun c => absurd ((ad4 3 (by decide) (by decide) g0).trans gd) c, fun _ => ⟨fun _ => g, fun _ => by decide⟩⟩⟩⟩⟩⟩
    · refine ⟨True, fun _ => ⟨fun hx => absurd rfl hx, fun h => absurd h g⟩, fun _ => trivial, fun c0 _ _ => ⟨fun _ => trivial, fun ca _ _ => ⟨fun _ => trivial, fun cb _ _ => ⟨fun _ => trivial, fun cc _ _ => ⟨fun _ => trivial, fun cd => absurd ⟨c0, ad0.symm.trans ca, (ad4 1 (by decide) (by decide) c0).symm.trans cb, (ad4 2 (by decide) (by decide) c0).symm.trans cc, (ad4 3 (by decide) (by decide) c0).symm.trans cd⟩ g⟩⟩⟩⟩⟩
end LKM
