section
/-! link(), the reference: which fault there is, exactly -/
def HLm (σ : St) (e : Nat) (l : Int) : Prop := (σ 9 e).toInt = 2 ∧ (l = 0 → (σ 10 e).toInt = 0 ∧ (σ 15 e).toInt = 0) ∧ (l ≠ 0 → (σ 10 e).toInt = -1 ∧ (σ 15 e).toInt = 1 ∧ (σ 16 (8 * e)).toInt = 0)
def HTm (σ : St) (e f : Nat) : Prop := (σ 9 e).toInt = (σ 9 f).toInt ∧ (σ 10 e).toInt = (σ 10 f).toInt ∧ ((σ 9 e).toInt = 1 → (0 ≤ (σ 11 e).toInt ↔ 0 ≤ (σ 11 f).toInt) ∧ ((σ 11 e).toInt ≤ 0 ∨ (σ 11 e).toInt = (σ 11 f).toInt)) ∧ ((σ 9 e).toInt ≠ 1 → (σ 15 e).toInt = (σ 15 f).toInt ∧ ∀ k : Nat, (k : Int) < (σ 15 e).toInt → (σ 16 (8 * e + k)).toInt = (σ 16 (8 * f + k)).toInt)
/-- a fault of a number at e, of what is picked as p-th -/
def HOm (σ : St) (num : Int) (p : Int) (e : Nat) (n : Int) : Prop := (num = 31 ∧ ((σ 12 e).toInt = 0 ∧ (σ 13 e).toInt = 1) ∧ ((∃ r, LIB σ e r ∧ 0 ≤ r.toInt) ∨ ∃ q f : Nat, FND σ e p q f)) ∨ (num ≠ 31 ∧ ((σ 12 e).toInt = 0 ∧ (σ 13 e).toInt = 0) ∧ ((num = 32 ∧ (σ 14 e).toInt ≠ 0 ∧ (∃ r, LIB σ e r ∧ r.toInt < 0) ∧ NFD σ e n) ∨ (num ≠ 32 ∧ ((∃ r, LIB σ e r ∧ 0 ≤ r.toInt ∧ ¬ HLm σ e r.toInt) ∨ ((∃ r, LIB σ e r ∧ r.toInt < 0) ∧ ∃ q f : Nat, FND σ e n q f ∧ ¬ HTm σ e f)))))
def NOm (σ : St) (num n : Int) : Prop := ∀ p : Nat, (p : Int) < n → ∀ e, InO σ (PO σ p) e → (σ 12 e).toInt = 0 → ¬ HOm σ num p e n
/-- the first of a number, at symbol c of the p-th -/
def FRm (σ : St) (num n : Int) (p e : Nat) (c : Int32) : Prop := (p : Int) < n ∧ (InO σ (PO σ p) e ∧ (σ 12 e).toInt = 0 ∧ HOm σ num p e n) ∧ (∀ p' : Nat, p' < p → ∀ e, InO σ (PO σ p') e → (σ 12 e).toInt = 0 → ¬ HOm σ num p' e n) ∧ (∀ e', InO σ (PO σ p) e' → e' < e → (σ 12 e').toInt = 0 → ¬ HOm σ num p e' n) ∧ c.toInt = ((czn (fun d => (σ 12 d).toInt) (fO σ (PO σ p)).toNat ((e : Int) - fO σ (PO σ p)).toNat : Nat) : Int)
/-- a main that can be begun with -/
def MNm (σ : St) (f : Nat) : Prop := ((σ 19 f).toInt = 4 ∧ nfm σ f 0 = 109 ∧ nfm σ f 1 = 97 ∧ nfm σ f 2 = 105 ∧ nfm σ f 3 = 110) ∧ ((σ 12 f).toInt = 0 ∧ (σ 13 f).toInt = 1) ∧ (σ 9 f).toInt = 2 ∧ (σ 10 f).toInt = 0 ∧ (σ 15 f).toInt = 0
section LKM
variable {σ s t τ u : St} {vs z : List Nat} {e f l num p n x : Int32} {q : Nat}
theorem rx_hasLibraryType {Q : Int32 → Prop} (he : 0 ≤ e.toInt ∧ e.toInt < 10000) (k1 : HLm σ e.toNatClampNeg l.toInt → Q (1 : Int32)) (k0 : ¬ HLm σ e.toNatClampNeg l.toInt → Q (0 : Int32)) : pp_hasLibraryType e l σ τ vs Q := by
  have m1 := mul8 (x := e) he.1 (by omega)
  have ei : ((8 : Int32) * e).toNatClampNeg = 8 * e.toNatClampNeg := by rw [nt', nt', m1]; omega
  unfold pp_hasLibraryType
  rw [ei]
  refine fun _ => ⟨fun c9 => ⟨fun cl _ => ⟨fun c10 => k0 (fun h => c10 (h.2.2 cl).1), fun c10 _ => ⟨fun c15 => k0 (fun h => c15 (h.2.2 cl).2.1), fun c15 _ => ⟨fun c16 => k0 (fun h => c16 (h.2.2 cl).2.2), fun c16 => k1 ⟨c9, fun h => absurd h cl, fun _ => ⟨c10, c15, c16⟩⟩⟩⟩⟩, fun cl _ => ⟨fun c10 => k0 (fun h => c10 (h.2.1 cl).1), fun c10 _ => ⟨fun c15 => k0 (fun h => c15 (h.2.1 cl).2), fun c15 => k1 ⟨c9, fun _ => ⟨c10, c15⟩, fun h => absurd cl h⟩⟩⟩⟩, fun c9 => k0 (fun h => c9 h.1)⟩
theorem rx_hasType {Q : Int32 → Prop} (hA : AllIn 0 8 (σ 15)) (he : 0 ≤ e.toInt ∧ e.toInt < 10000) (hf : 0 ≤ f.toInt ∧ f.toInt < 10000) (k1 : HTm σ e.toNatClampNeg f.toNatClampNeg → Q (1 : Int32)) (k0 : ¬ HTm σ e.toNatClampNeg f.toNatClampNeg → Q (0 : Int32)) : pp_hasType e f σ τ vs Q := by
  unfold pp_hasType
  refine fun _ _ => ⟨fun c9 => k0 (fun h => c9 h.1), fun c9 _ _ => ⟨fun c10 _ => ⟨fun c1 _ _ => ⟨fun c15 => ?_, fun c15 => k0 (fun h => c15 (h.2.2.2 c1).1)⟩, fun c1 _ => ?_⟩, fun c10 => k0 (fun h => c10 h.2.1)⟩⟩
  · have hp := hA e.toNatClampNeg
    refine ⟨fun x => 0 ≤ x.toInt ∧ ∀ k : Nat, (k : Int) < x.toInt → (σ 16 (8 * e.toNatClampNeg + k)).toInt = (σ 16 (8 * f.toNatClampNeg + k)).toInt, ⟨by decide, fun k hk => absurd hk (by rw [show (0 : Int32).toInt = 0 from rfl]; omega)⟩, ?_⟩
    rintro x ⟨x0, hx⟩ -
    refine ⟨fun c => k1 ⟨c9, c10, fun h => absurd h c1, fun _ => ⟨c15, fun k hk => hx k (by omega)⟩⟩, fun c _ _ => ?_⟩
    have m1 := mul8 (x := e) he.1 (by omega)
    have m2 := mul8 (x := f) hf.1 (by omega)
    have a1 : (((8 : Int32) * e) + x).toNatClampNeg = 8 * e.toNatClampNeg + x.toInt.toNat := by rw [nt', nt', ad (by omega) (by omega), m1]; omega
    have a2 : (((8 : Int32) * f) + x).toNatClampNeg = 8 * f.toNatClampNeg + x.toInt.toNat := by rw [nt', nt', ad (by omega) (by omega), m2]; omega
    rw [a1, a2]
    refine ⟨fun ce => ⟨by rw [ad1 (by omega)]; omega, fun k hk => ?_⟩, fun ce => k0 (fun h => ce ((h.2.2.2 c1).2 x.toInt.toNat (by omega)))⟩
    rw [ad1 (by omega)] at hk
    by_cases ek : k = x.toInt.toNat
    · rw [ek]; exact ce
    · exact hx k (by omega)
  · refine ⟨fun y => y.toInt = 0 ↔ 0 ≤ (σ 11 e.toNatClampNeg).toInt, fun y0 r0 hy0 _ => ⟨fun y => y.toInt = 0 ↔ 0 ≤ (σ 11 f.toNatClampNeg).toInt, fun y1 r1 hy1 => ⟨fun cn => k0 (fun h => ?_), fun ce _ => ?_⟩, fun c => ⟨fun _ => c, fun _ => rfl⟩, fun c => ⟨fun h => absurd h (by decide), fun h => by omega⟩⟩, fun c => ⟨fun _ => c, fun _ => rfl⟩, fun c => ⟨fun h => absurd h (by decide), fun h => by omega⟩⟩
    · have hi := (h.2.2.1 c1).1
      rcases r0 with g | g <;> rcases r1 with g' | g'
      · exact cn (by rw [g, g'])
      · have := hy1.2 (hi.1 (hy0.1 (by rw [g]; rfl)))
        rw [g'] at this
        exact absurd this (by decide)
      · have := hy0.2 (hi.2 (hy1.1 (by rw [g']; rfl)))
        rw [g] at this
        exact absurd this (by decide)
      · exact cn (by rw [g, g'])
    · have hi : 0 ≤ (σ 11 e.toNatClampNeg).toInt ↔ 0 ≤ (σ 11 f.toNatClampNeg).toInt := ⟨fun h => hy1.1 (by rw [← ce]; exact hy0.2 h), fun h => hy0.1 (by rw [ce]; exact hy1.2 h)⟩
      refine ⟨fun cs => k1 ⟨c9, c10, fun _ => ⟨hi, Or.inl cs⟩, fun h => absurd c1 h⟩, fun cs _ _ => ⟨fun cd => k0 (fun h => ?_), fun cd => k1 ⟨c9, c10, fun _ => ⟨hi, Or.inr cd⟩, fun h => absurd c1 h⟩⟩⟩
      rcases (h.2.2.1 c1).2 with g | g
      · omega
      · exact cd g
theorem rx_library {Q : Int32 → Prop} (hM : NMo σ) (he : 0 ≤ e.toInt ∧ e.toInt < 10000) (h : ∀ r, LIB σ e.toNatClampNeg r → Q r) : pp_library_0 e σ τ vs Q := wl_wp_library_0 (fun v p => h v p) (sp_library (Q := fun r => LIB σ e.toNatClampNeg r) hM he (fun r p => p))
theorem rx_isSymbol {Q : Int32 → Prop} (k1 : (σ 12 e.toNatClampNeg).toInt = 0 ∧ (σ 13 e.toNatClampNeg).toInt = l.toInt → Q (1 : Int32)) (k0 : ¬ ((σ 12 e.toNatClampNeg).toInt = 0 ∧ (σ 13 e.toNatClampNeg).toInt = l.toInt) → Q (0 : Int32)) : pp_isSymbol e l σ τ vs Q := by
  unfold pp_isSymbol
  exact fun _ => ⟨fun c => k0 (fun h => c h.1), fun c _ => ⟨fun c2 => k0 (fun h => c2 h.2), fun c2 => k1 ⟨c, c2⟩⟩⟩
theorem rx_find {Q : Int32 → St → St → List Nat → Prop} (h : RWS σ n.toInt) (he : 0 ≤ e.toInt ∧ e.toInt < 10000) (k0 : NFD σ e.toNatClampNeg n.toInt → Q (0 : Int32) σ τ vs) (k1 : ∀ p f : Int32, (0 ≤ p.toInt ∧ p.toInt < 100) → (0 ≤ f.toInt ∧ f.toInt < 10000) → FND σ e.toNatClampNeg n.toInt p.toNatClampNeg f.toNatClampNeg → Q (1 : Int32) (upC (upC σ 0 73 p) 0 74 f) τ vs) : pp_find e n σ τ vs Q := wl_wp_find (fun v s t z p => p) (sp_find h he k0 k1)
theorem fnd_not {e : Nat} {n : Int} (nf : NFD σ e n) : ¬ ∃ q f : Nat, FND σ e n q f := fun ⟨q, f, fn⟩ => nf q fn.1 f fn.2.1 fn.2.2.1
theorem rx_holds {Q : Int32 → St → St → List Nat → Prop} (h : RWS σ n.toInt) (hp : 0 ≤ p.toInt ∧ p.toInt ≤ n.toInt) (he : 0 ≤ e.toInt ∧ e.toInt < 10000) (k1 : ∀ s, Kp [(0, 73), (0, 74)] [] σ s → HOm σ num.toInt p.toInt e.toNatClampNeg n.toInt → Q (1 : Int32) s τ vs) (k0 : ∀ s, Kp [(0, 73), (0, 74)] [] σ s → ¬ HOm σ num.toInt p.toInt e.toNatClampNeg n.toInt → Q (0 : Int32) s τ vs) : pp_holds num p e n σ τ vs Q := by
  have hn := h.1
  have lu : ∀ {r r' : Int32}, LIB σ e.toNatClampNeg r → LIB σ e.toNatClampNeg r' → r.toInt = r'.toInt := fun a b => lib_uniq a b
  unfold pp_holds
  refine rx_library h.2.1 he (fun l hl => ⟨fun c1 => ?_, fun c1 => ?_⟩)
  · refine rx_isSymbol (fun hs => ⟨fun _ => ⟨fun c2 => ⟨fun c3 => ?_, fun c3 => ?_⟩, fun c2 _ => ⟨fun c3 => ?_, fun c3 => ⟨fun c4 => ?_, fun c4 => ?_⟩⟩⟩, fun z => absurd z (by decide)⟩) (fun hs => ⟨fun z => absurd rfl z, fun _ => k0 _ kp_rf ?_⟩)
    · -- 33, not of the library
      refine rx_find h he (fun nf => ⟨fun _ => k0 _ kp_rf ?_, fun z => absurd rfl z⟩) (fun p' f' hp' hf' fn => ⟨fun z => absurd z (by decide), fun _ => ?_⟩)
      · rintro (⟨g, _⟩ | ⟨_, _, ⟨g, _⟩ | ⟨_, ⟨r, g1, g2, _⟩ | ⟨_, q, f, g1, _⟩⟩⟩)
        · exact c1 g
        · exact c2 g
        · have := lu g1 hl
          omega
        · exact fnd_not nf ⟨q, f, g1⟩
      · rw [show (upC (upC σ 0 73 p') 0 74 f') 0 74 = f' from rfl]
        have kk : Kp [(0, 73), (0, 74)] [] σ (upC (upC σ 0 73 p') 0 74 f') := kp_f (kp_f kp_rf rfl) rfl
        refine rx_hasType (σ := upC (upC σ 0 73 p') 0 74 f') h.2.2.1 he hf' (fun ht => ⟨fun _ => k0 _ kk ?_, fun z => absurd z (by decide)⟩) (fun ht => ⟨fun z => absurd rfl z, fun _ => k1 _ kk ?_⟩)
        · rintro (⟨g, _⟩ | ⟨_, _, ⟨g, _⟩ | ⟨_, ⟨r, g1, g2, _⟩ | ⟨_, q, f, g1, g2⟩⟩⟩)
          · exact c1 g
          · exact c2 g
          · have := lu g1 hl
            omega
          · obtain ⟨_, u2⟩ := fnd_uniq g1 fn
            rw [u2] at g2
            exact g2 ht
        · exact Or.inr ⟨c1, hs, Or.inr ⟨c2, Or.inr ⟨⟨l, hl, c3⟩, _, _, fn, ht⟩⟩⟩
    · refine rx_hasLibraryType he (fun ht => ⟨fun _ => k0 _ kp_rf ?_, fun z => absurd z (by decide)⟩) (fun ht => ⟨fun z => absurd rfl z, fun _ => k1 _ kp_rf (Or.inr ⟨c1, hs, Or.inr ⟨c2, Or.inl ⟨l, hl, c3, ht⟩⟩⟩)⟩)
      rintro (⟨g, _⟩ | ⟨_, _, ⟨g, _⟩ | ⟨_, ⟨r, g1, g2, g3⟩ | ⟨⟨r, g1, g2⟩, _⟩⟩⟩)
      · exact c1 g
      · exact c2 g
      · rw [lu g1 hl] at g3
        exact g3 ht
      · have := lu g1 hl
        omega
    · refine k0 _ kp_rf ?_
      rintro (⟨g, _⟩ | ⟨_, _, ⟨_, g, _⟩ | ⟨g, _⟩⟩)
      · exact c1 g
      · exact g c3
      · exact g c2
    · refine k0 _ kp_rf ?_
      rintro (⟨g, _⟩ | ⟨_, _, ⟨_, _, ⟨r, g1, g2⟩, _⟩ | ⟨g, _⟩⟩)
      · exact c1 g
      · have := lu g1 hl
        omega
      · exact g c2
    · refine rx_find h he (fun nf => ⟨fun z => absurd rfl z, fun _ => k1 _ kp_rf (Or.inr ⟨c1, hs, Or.inl ⟨c2, c3, ⟨l, hl, c4⟩, nf⟩⟩)⟩) (fun p' f' hp' hf' fn => ⟨fun _ => k0 _ (kp_f (kp_f kp_rf rfl) rfl) ?_, fun z => absurd z (by decide)⟩)
      rintro (⟨g, _⟩ | ⟨_, _, ⟨_, _, _, g⟩ | ⟨g, _⟩⟩)
      · exact c1 g
      · exact fnd_not g ⟨_, _, fn⟩
      · exact g c2
    · rintro (⟨g, _⟩ | ⟨_, g, _⟩)
      · exact c1 g
      · exact hs g
  · have hR : RWS σ p.toInt := ⟨by omega, h.2.1, h.2.2.1, fun p' hp' => h.2.2.2 p' (by omega)⟩
    refine rx_isSymbol (fun hs => ⟨fun z => absurd z (by decide), fun _ => ⟨fun c2 => k1 _ kp_rf (Or.inl ⟨c1, hs, Or.inl ⟨l, hl, c2⟩⟩), fun c2 => ?_⟩⟩) (fun hs => ⟨fun _ => k0 _ kp_rf ?_, fun z => absurd rfl z⟩)
    · refine rx_find hR he (fun nf => ⟨fun _ => k0 _ kp_rf ?_, fun z => absurd rfl z⟩) (fun p' f' hp' hf' fn => ⟨fun z => absurd z (by decide), fun _ => k1 _ (kp_f (kp_f kp_rf rfl) rfl) (Or.inl ⟨c1, hs, Or.inr ⟨_, _, fn⟩⟩)⟩)
      rintro (⟨_, _, ⟨r, g1, g2⟩ | g⟩ | ⟨g, _⟩)
      · have := lu g1 hl
        omega
      · exact fnd_not nf g
      · exact g c1
    · rintro (⟨_, g, _⟩ | ⟨g, _⟩)
      · exact hs g
      · exact g c1
/-- what is asked of the arrays alone -/
theorem hom_k {num p n : Int} {e : Nat} (k : ∀ c, c ≠ 0 → s c = σ c) : HOm s num p e n = HOm σ num p e n := by
  unfold HOm LIB LBk FND NFD MT ALK nfm InO fO PO HLm HTm
  rw [k 9 (by decide), k 10 (by decide), k 11 (by decide), k 12 (by decide), k 13 (by decide), k 14 (by decide), k 15 (by decide), k 16 (by decide), k 18 (by decide), k 19 (by decide), k 20 (by decide), k 22 (by decide), k 40 (by decide)]
theorem k7_rows (k : Kp [(0, 73), (0, 74)] [] σ s) : ∀ c, c ≠ 0 → s c = σ c := fun c hc => funext (fun j => k c j (by
  simp only [List.contains_cons, List.contains_nil, Bool.or_false, Bool.or_eq_false_iff, beq_eq_false_iff_ne, ne_eq, Prod.mk.injEq, not_and]
  omega) rfl)
theorem rx_isFault {Q : Int32 → St → St → List Nat → Prop} (h : RWS σ n.toInt) (k0 : ∀ s, Kp [(0, 73), (0, 74)] [] σ s → NOm σ num.toInt n.toInt → Q (0 : Int32) s τ vs) (k1 : ∀ s (p : Int32) (e : Nat) (c : Int32), Kp [(0, 73), (0, 74)] [] σ s → 0 ≤ p.toInt → FRm σ num.toInt n.toInt p.toNatClampNeg e c → Q (1 : Int32) (upC (upC s 0 71 p) 0 72 c) τ vs) : pp_isFault num n σ τ vs Q := by
  have hn := h.1
  unfold pp_isFault
  refine ⟨fun p s t z => 0 ≤ p.toInt ∧ Kp [(0, 73), (0, 74)] [] σ s ∧ t = τ ∧ z = vs ∧ ∀ p' : Nat, (p' : Int) < p.toInt → ∀ e, InO σ (PO σ p') e → (σ 12 e).toInt = 0 → ¬ HOm σ num.toInt p' e n.toInt, ⟨by decide, kp_rf, rfl, rfl, fun p' hp' => by rw [show (0 : Int32).toInt = 0 from rfl] at hp'; omega⟩, ?_⟩
  rintro p s t z ⟨q2, kk, rfl, rfl, q3⟩
  refine ⟨fun c => k0 s kk (fun p' hp' => q3 p' (by omega)), fun c _ _ => ?_⟩
  have hs := rws_k (kp_sub kk rfl rfl) h
  obtain ⟨i1, i2, i3, i4, i5, i6, i7, i8, i9⟩ := po_of hs q2 c
  have ar := k7_rows kk
  have ePO : PO s p.toNatClampNeg = PO σ p.toNatClampNeg := by unfold PO; rw [ar 40 (by decide)]
  rw [i3]
  rw [ePO] at i5 i6 i7 i9 ⊢
  have efs : ∀ o, fO s o = fO σ o := fun o => by unfold fO; rw [ar 22 (by decide)]
  rw [efs] at i6 i7 i9
  have np := nt q2
  have ep := ad1 (x := p) (by omega)
  have ef : (s 22 (PO σ p.toNatClampNeg)).toInt = fO σ (PO σ p.toNatClampNeg) := by rw [ar 22 (by decide)]; rfl
  refine ⟨fun x e s5 t5 z5 => fO σ (PO σ p.toNatClampNeg) ≤ e.toInt ∧ x.toInt = ((czn (fun d => (σ 12 d).toInt) (fO σ (PO σ p.toNatClampNeg)).toNat (e.toInt - fO σ (PO σ p.toNatClampNeg)).toNat : Nat) : Int) ∧ Kp [(0, 73), (0, 74)] [] σ s5 ∧ t5 = t ∧ z5 = z ∧ ∀ e' : Nat, InO σ (PO σ p.toNatClampNeg) e' → (e' : Int) < e.toInt → (σ 12 e').toInt = 0 → ¬ HOm σ num.toInt p.toInt e' n.toInt, ⟨by omega, ?_, kk, rfl, rfl, fun e' a b => by have := a.1; omega⟩, ?_⟩
  · rw [ef, show (fO σ (PO σ p.toNatClampNeg) - fO σ (PO σ p.toNatClampNeg)).toNat = 0 from by omega]
    rfl
  rintro x e s5 t5 z5 ⟨r2, rx, k5, rfl, rfl, r3⟩ - -
  have br := k7_rows k5
  rw [br 40 (by decide), br 22 (by decide), br 12 (by decide)]
  rw [ar 40 (by decide)] at i4 i5
  rw [i5]
  have ef2 : (σ 22 (PO σ p.toNatClampNeg + 1)).toInt = fO σ (PO σ p.toNatClampNeg + 1) := rfl
  refine ⟨fun c2 => ⟨by omega, kp_sub k5 rfl rfl, rfl, rfl, fun p' hp' e' he' hs' => ?_⟩, fun c2 _ => ?_⟩
  · by_cases e9 : p' = p.toNatClampNeg
    · subst e9
      rw [show ((p.toNatClampNeg : Nat) : Int) = p.toInt from np]
      exact r3 e' he' (by have := he'.2; omega) hs'
    · exact q3 p' (by omega) e' he' hs'
  have e1 := ad1 (x := e) (by omega)
  have ne := nt (x := e) (by omega)
  have hle := cz_le (f := fun d => (σ 12 d).toInt) (lo := (fO σ (PO σ p.toNatClampNeg)).toNat) (n := (e.toInt - fO σ (PO σ p.toNatClampNeg)).toNat)
  have step : czn (fun d => (σ 12 d).toInt) (fO σ (PO σ p.toNatClampNeg)).toNat ((e + 1).toInt - fO σ (PO σ p.toNatClampNeg)).toNat = czn (fun d => (σ 12 d).toInt) (fO σ (PO σ p.toNatClampNeg)).toNat (e.toInt - fO σ (PO σ p.toNatClampNeg)).toNat + if (σ 12 e.toNatClampNeg).toInt = 0 then 1 else 0 := by
    rw [show ((e + 1).toInt - fO σ (PO σ p.toNatClampNeg)).toNat = (e.toInt - fO σ (PO σ p.toNatClampNeg)).toNat + 1 from by omega, cz_s]
    show _ + (if (σ 12 ((fO σ (PO σ p.toNatClampNeg)).toNat + (e.toInt - fO σ (PO σ p.toNatClampNeg)).toNat)).toInt = 0 then 1 else 0) = _
    rw [show (fO σ (PO σ p.toNatClampNeg)).toNat + (e.toInt - fO σ (PO σ p.toNatClampNeg)).toNat = e.toNatClampNeg from by omega]
  refine ⟨fun x9 s9 t9 z9 => x9.toInt = ((czn (fun d => (σ 12 d).toInt) (fO σ (PO σ p.toNatClampNeg)).toNat ((e + 1).toInt - fO σ (PO σ p.toNatClampNeg)).toNat : Nat) : Int) ∧ Kp [(0, 73), (0, 74)] [] σ s9 ∧ t9 = t5 ∧ z9 = z5 ∧ ((σ 12 e.toNatClampNeg).toInt = 0 → ¬ HOm σ num.toInt p.toInt e.toNatClampNeg n.toInt), ?_, fun c3 => ?_, fun c3 => ⟨?_, k5, rfl, rfl, fun q => absurd q c3⟩⟩
  · rintro x9 s9 t9 z9 ⟨rx9, k9, rfl, rfl, hh⟩
    refine ⟨by omega, rx9, k9, rfl, rfl, fun e' a b hs' => ?_⟩
    by_cases e9 : e' = e.toNatClampNeg
    · subst e9; exact hh hs'
    · exact r3 e' a (by omega) hs'
  · refine rx_holds (rws_k (kp_sub k5 rfl rfl) h) ⟨q2, by omega⟩ (by omega) (fun s6 k6 hr => ⟨fun z => absurd z (by decide), fun _ => ?_⟩) (fun s6 k6 hr => ⟨fun _ => ⟨?_, kp_tr k5 k6, rfl, rfl, fun _ => ?_⟩, fun z => absurd rfl z⟩)
    · rw [hom_k br] at hr
      refine k1 s6 p e.toNatClampNeg x (kp_tr k5 k6) q2 ⟨by omega, ⟨⟨by omega, by omega⟩, c3, ?_⟩, fun p' hp' => q3 p' (by omega), fun e' he' hlt => ?_, ?_⟩
      · rw [show ((p.toNatClampNeg : Nat) : Int) = p.toInt from np]
        exact hr
      · rw [show ((p.toNatClampNeg : Nat) : Int) = p.toInt from np]
        exact r3 e' he' (by omega)
      · rw [rx, show ((e.toNatClampNeg : Nat) : Int) = e.toInt from ne]
    · rw [step, if_pos c3, ad1 (by omega), rx]
      rfl
    · rw [hom_k br] at hr
      exact hr
  · rw [step, if_neg c3, rx]
    rfl
theorem rx_mainOf {Q : Int32 → Prop} (h : RWS σ n.toInt) (k0 : (∀ p : Nat, (p : Int) < n.toInt → ∀ f, InO σ (PO σ p) f → ¬ MNm σ f) → Q ((-1) : Int32)) (k1 : ∀ p f : Nat, (p : Int) < n.toInt → InO σ (PO σ p) f → MNm σ f → Q (σ 17 f)) : pp_mainOf n σ τ vs Q := by
  have hn := h.1
  unfold pp_mainOf
  refine ⟨fun p => 0 ≤ p.toInt ∧ ∀ p' : Nat, (p' : Int) < p.toInt → ∀ f, InO σ (PO σ p') f → ¬ MNm σ f, ⟨by decide, fun p' hp' => by rw [show (0 : Int32).toInt = 0 from rfl] at hp'; omega⟩, ?_⟩
  rintro p ⟨q2, q3⟩
  refine ⟨fun c => k0 (fun p' hp' => q3 p' (by omega)), fun c _ _ => ?_⟩
  obtain ⟨i1, i2, i3, i4, i5, i6, i7, i8, i9⟩ := po_of h q2 c
  have np := nt q2
  have ep := ad1 (x := p) (by omega)
  rw [i3, i5]
  have ef : (σ 22 (PO σ p.toNatClampNeg)).toInt = fO σ (PO σ p.toNatClampNeg) := rfl
  have ef2 : (σ 22 (PO σ p.toNatClampNeg + 1)).toInt = fO σ (PO σ p.toNatClampNeg + 1) := rfl
  refine ⟨fun f => fO σ (PO σ p.toNatClampNeg) ≤ f.toInt ∧ ∀ f' : Nat, InO σ (PO σ p.toNatClampNeg) f' → (f' : Int) < f.toInt → ¬ MNm σ f', ⟨by omega, fun f' a b => by have := a.1; omega⟩, ?_⟩
  rintro f ⟨r2, r3⟩ - -
  refine ⟨fun c2 => ⟨by omega, fun p' hp' f' hf' => ?_⟩, fun c2 _ => ?_⟩
  · by_cases e9 : p' = p.toNatClampNeg
    · subst e9
      exact r3 f' hf' (by have := hf'.2; omega)
    · exact q3 p' (by omega) f' hf'
  have nf := nt (x := f) (by omega)
  have e1 := ad1 (x := f) (by omega)
  have nx : ¬ MNm σ f.toNatClampNeg → fO σ (PO σ p.toNatClampNeg) ≤ (f + 1).toInt ∧ ∀ f' : Nat, InO σ (PO σ p.toNatClampNeg) f' → (f' : Int) < (f + 1).toInt → ¬ MNm σ f' := fun hm => ⟨by omega, fun f' a b => by
    by_cases e9 : f' = f.toNatClampNeg
    · rw [e9]; exact hm
    · exact r3 f' a (by omega)⟩
  obtain ⟨m1, m2, m3⟩ := h.2.1 f.toNatClampNeg
  have ad4 : ∀ k : Int32, 0 ≤ k.toInt → k.toInt < 4 → (σ 19 f.toNatClampNeg).toInt = 4 → (σ 20 ((σ 18 f.toNatClampNeg) + k).toNatClampNeg).toInt = nfm σ f.toNatClampNeg k.toInt.toNat := fun k k1 k2 k3 => by
    have : ((σ 18 f.toNatClampNeg) + k).toInt = (σ 18 f.toNatClampNeg).toInt + k.toInt := ad (by omega) (by omega)
    unfold nfm
    rw [nt', this, show (σ 18 f.toNatClampNeg).toInt + k.toInt = (σ 18 f.toNatClampNeg).toInt + ((k.toInt.toNat : Nat) : Int) from by omega]
  have ad0 : (σ 20 (σ 18 f.toNatClampNeg).toNatClampNeg).toInt = nfm σ f.toNatClampNeg 0 := by
    unfold nfm
    rw [nt', show (σ 18 f.toNatClampNeg).toInt + ((0 : Nat) : Int) = (σ 18 f.toNatClampNeg).toInt from by omega]
  refine ⟨fun y => y.toInt ≠ 0 ↔ ((σ 19 f.toNatClampNeg).toInt = 4 ∧ nfm σ f.toNatClampNeg 0 = 109 ∧ nfm σ f.toNatClampNeg 1 = 97 ∧ nfm σ f.toNatClampNeg 2 = 105 ∧ nfm σ f.toNatClampNeg 3 = 110), fun y ry hy => ⟨¬ MNm σ f.toNatClampNeg, nx, fun c3 hm => ?_, fun c3 => rx_isSymbol (fun hs => ⟨fun z => absurd z (by decide), fun _ _ => ⟨fun c4 hm => c4 hm.2.2.1, fun c4 _ => ⟨fun c5 hm => c5 hm.2.2.2.1, fun c5 _ => ⟨fun c6 hm => c6 hm.2.2.2.2, fun c6 _ => k1 p.toNatClampNeg f.toNatClampNeg (by omega) ⟨by omega, by omega⟩ ⟨hy.1 c3, hs, c4, c5, c6⟩⟩⟩⟩⟩) (fun hs => ⟨fun _ hm => hs hm.2.1, fun z => absurd rfl z⟩)⟩, ?_⟩
  · exact (hy.2 hm.1) c3
  · by_cases g : (σ 19 f.toNatClampNeg).toInt = 4 ∧ nfm σ f.toNatClampNeg 0 = 109 ∧ nfm σ f.toNatClampNeg 1 = 97 ∧ nfm σ f.toNatClampNeg 2 = 105 ∧ nfm σ f.toNatClampNeg 3 = 110
    · have g' := g
      obtain ⟨g0, ga, gb, gc, gd⟩ := g'
      refine ⟨False, fun hx => hx.elim, fun c => absurd g0 c, fun _ _ _ => ⟨fun c => absurd (ad0.trans ga) c, fun _ _ _ => ⟨fun c => absurd ((ad4 1 (by decide) (by decide) g0).trans gb) c, fun _ _ _ => ⟨fun c => absurd ((ad4 2 (by decide) (by decide) g0).trans gc) c, fun _ _ _ => ⟨fun c => absurd ((ad4 3 (by decide) (by decide) g0).trans gd) c, fun _ => ⟨fun _ => g, fun _ => by decide⟩⟩⟩⟩⟩⟩
    · refine ⟨True, fun _ => ⟨fun hx => absurd rfl hx, fun h => absurd h g⟩, fun _ => trivial, fun c0 _ _ => ⟨fun _ => trivial, fun ca _ _ => ⟨fun _ => trivial, fun cb _ _ => ⟨fun _ => trivial, fun cc _ _ => ⟨fun _ => trivial, fun cd => absurd ⟨c0, ad0.symm.trans ca, (ad4 1 (by decide) (by decide) c0).symm.trans cb, (ad4 2 (by decide) (by decide) c0).symm.trans cc, (ad4 3 (by decide) (by decide) c0).symm.trans cd⟩ g⟩⟩⟩⟩⟩
end LKM
end

section
/-! link(), both sides: the same definitions are found, the same faults -/
/-- where a library function's name stands on either side, and how long it is -/
def lbS (j : Nat) : Nat := [0, 3, 6, 11].getD j 0
def lbK (j : Nat) : Nat := [1, 5, 9, 15].getD j 0
def lbL (j : Nat) : Nat := [3, 3, 5, 4].getD j 0
/-- what both sides know between calls, at a link() -/
def LKx (w σ τ : St) (vs : List Nat) (o : Nat) : Prop := IVx w o ∧ GLI σ τ vs ∧ RLp w σ ∧ RLe w σ ∧ PKr w σ ∧ RLf w σ
section LEQ
variable {w σ s t τ : St} {vs z : List Nat} {x d dd v a3 a4 : Int32} {o e f p q j : Nat} {l l2 : List (Nat × Nat)}
theorem lb_bytes : ∀ j, j < 4 → ∀ k, k < lbL j → (sc0 30 (lbS j + k)).toInt = (chI (SF 2 (lbK j + k))).toInt := by decide +kernel
theorem lb_ends : ∀ j, j < 4 → (sc0 29 j).toInt = (lbS j + lbL j : Nat) ∧ lbS j + lbL j ≤ 15 ∧ ((sc0 25 j) &&& 4).toInt ≠ 0 ∧ ((sc0 25 j) &&& 2).toInt = 0 ∧ ((sc0 25 j) &&& 1).toInt ≠ 0 ∧ (sc0 26 j).toInt = (if j = 0 then 0 else -1) ∧ (sc0 27 j).toInt = (if j = 0 then 0 else 16777216) := by decide +kernel
theorem lb_starts : ∀ j, j < 3 → (sc0 29 j).toInt = (lbS (j + 1) : Nat) := by decide +kernel
theorem lib_at (e : Nat) : LIB σ e x ↔ (∃ j : Nat, j < 4 ∧ x.toInt = (j : Int) ∧ LBk σ e (lbK j) (lbL j) ∧ ∀ i, i < j → ¬ LBk σ e (lbK i) (lbL i)) ∨ (x.toInt = -1 ∧ ∀ i, i < 4 → ¬ LBk σ e (lbK i) (lbL i)) := by
  unfold LIB
  constructor
  · rintro (⟨h, a⟩ | ⟨h, a, b⟩ | ⟨h, a, b, c⟩ | ⟨h, a, b, c, d⟩ | ⟨h, a, b, c, d⟩)
    · exact Or.inl ⟨0, by decide, h, a, fun i hi => absurd hi (Nat.not_lt_zero i)⟩
    · refine Or.inl ⟨1, by decide, h, b, fun i hi => ?_⟩
      rw [show i = 0 from by omega]; exact a
    · refine Or.inl ⟨2, by decide, h, c, fun i hi => ?_⟩
      rcases (by omega : i = 0 ∨ i = 1) with g | g <;> rw [g]
      · exact a
      · exact b
    · refine Or.inl ⟨3, by decide, h, d, fun i hi => ?_⟩
      rcases (by omega : i = 0 ∨ i = 1 ∨ i = 2) with g | g | g <;> rw [g]
      · exact a
      · exact b
      · exact c
    · refine Or.inr ⟨h, fun i hi => ?_⟩
      rcases (by omega : i = 0 ∨ i = 1 ∨ i = 2 ∨ i = 3) with g | g | g | g <;> rw [g]
      · exact a
      · exact b
      · exact c
      · exact d
  · rintro (⟨j, hj, h, a, b⟩ | ⟨h, b⟩)
    · rcases (by omega : j = 0 ∨ j = 1 ∨ j = 2 ∨ j = 3) with g | g | g | g <;> rw [g] at h a b
      · exact Or.inl ⟨h, a⟩
      · exact Or.inr (Or.inl ⟨h, b 0 (by decide), a⟩)
      · exact Or.inr (Or.inr (Or.inl ⟨h, b 0 (by decide), b 1 (by decide), a⟩))
      · exact Or.inr (Or.inr (Or.inr (Or.inl ⟨h, b 0 (by decide), b 1 (by decide), b 2 (by decide), a⟩)))
    · exact Or.inr (Or.inr (Or.inr (Or.inr ⟨h, b 0 (by decide), b 1 (by decide), b 2 (by decide), b 3 (by decide)⟩)))
/-- where what is picked as p-th stands -/
theorem rg_at (K : LKx w σ τ vs o) (hp : (p : Int) < (σ 0 67).toInt) (hx : x.toInt = (p : Int) + 1) : PO σ p + 1 ≤ o ∧ (x.toInt < (w 10 5).toInt) ∧ LOi w x = fO σ (PO σ p) + 4 ∧ HIi w x = fO σ (PO σ p + 1) + 4 ∧ 0 ≤ fO σ (PO σ p) ∧ fO σ (PO σ p + 1) ≤ (σ 0 36).toInt := by
  obtain ⟨h, hG, r, re, pk, rf⟩ := K
  have hpk := hG.2.2.2.2.1.2.1 p hp
  have e56 := pk.2 p hp
  have hlt : x.toInt < (w 10 5).toInt := by have := pk.1; omega
  obtain ⟨A, a1, a2, a3, a4⟩ := rg_k h (x := x) (by omega) hlt
  have o100 := h.1.2
  have h13 := h.1.1
  have ek : kxI w x = w 56 (p + 1) := atv_at (by rw [hx]; rfl) (by have := hG.2.2.2.2.1.1.2; omega)
  have eA : (A : Int) = (σ 40 p).toInt := by rw [← a1, ek, e56]
  have ePO : PO σ p + 1 = A := by unfold PO; omega
  obtain ⟨b1, b2, b3⟩ := a4 (by omega)
  have w1 := re.1 (A - 1) (by omega)
  have w2 := re.1 A (by omega)
  have hd := hd_le h r re
  have hb := hd.2 (PO σ p) (by have := r.1; omega)
  refine ⟨by omega, hlt, ?_, ?_, hb.1, hb.2⟩
  · rw [b1, w1, ← ePO]
    rfl
  · rw [b2, w2, ePO]
    rfl
theorem rg_lib (K : LKx w σ τ vs o) (hx : x.toInt = 0) : LOi w x = 0 ∧ HIi w x = 4 := by
  obtain ⟨h, hG, r, re, pk, rf⟩ := K
  have hp0 := hG.2.2.2.2.1.1.1
  obtain ⟨A, a1, a2, a3, a4⟩ := rg_k h (x := x) (by omega) (by have := pk.1; omega)
  have ek : kxI w x = w 56 0 := atv_at hx (by decide)
  have e0 := h.2.2.2.2.2.2.2.2.2.2.1.2.1
  exact a3 (by rw [ek, e0] at a1; omega)
/-- a name that both sides have, and another -/
theorem nm_eq (K : LKx w σ τ vs o) (he : (e : Int) < (σ 0 36).toInt) (hf : (f : Int) < (σ 0 36).toInt) (hdd : dd.toInt = ((e + 4 : Nat) : Int)) (hd : d.toInt = ((f + 4 : Nat) : Int)) (hl : (σ 0 36).toInt ≤ 10000) : NMq w (w 30) 65600 d (atv 10100 (w 29) (dd - (1 : Int32))) ((atv 10100 (w 29) dd) - (atv 10100 (w 29) (dd - (1 : Int32)))) ↔ ALK σ e f := by
  obtain ⟨h, hG, r, re, pk, rf⟩ := K
  obtain ⟨_, _, _, _, a1, a2, a3, a4, a5, a6, a7⟩ := rf.2.1 e he
  obtain ⟨_, _, _, _, b1, b2, b3, b4, b5, b6, b7⟩ := rf.2.1 f hf
  have n57 := h.2.2.2.2.1.2.2
  have f65 := h.2.2.2.2.1.1
  have x1 : atv 10100 (w 29) dd = w 29 (e + 4) := atv_at hdd (by omega)
  have x2 : atv 10100 (w 29) (dd - (1 : Int32)) = w 29 (e + 3) := atv_at (by rw [sb (by rw [i1]; omega) (by rw [i1]; omega), i1]; omega) (by omega)
  have y1 : atv 10100 (w 29) d = w 29 (f + 4) := atv_at hd (by omega)
  have y2 : atv 10100 (w 29) (d - (1 : Int32)) = w 29 (f + 3) := atv_at (by rw [sb (by rw [i1]; omega) (by rw [i1]; omega), i1]; omega) (by omega)
  have z1 : ((w 29 (e + 4)) - (w 29 (e + 3))).toInt = (σ 19 e).toInt := by rw [sb (by omega) (by omega)]; exact a1
  have z2 : ((w 29 (f + 4)) - (w 29 (f + 3))).toInt = (σ 19 f).toInt := by rw [sb (by omega) (by omega)]; exact b1
  unfold NMq ALK nfm
  rw [x1, x2, y1, y2, z1, z2]
  constructor
  · rintro ⟨c1, c2⟩
    refine ⟨c1.symm, fun k hk => ?_⟩
    obtain ⟨d1, d2, d3, d4⟩ := c2 k hk
    have p1 := (a7 k hk).1
    have p2 := (b7 k (by omega)).1
    rw [show ((σ 18 e).toInt + (k : Int)).toNat = (σ 18 e).toInt.toNat + k from by omega, show ((σ 18 f).toInt + (k : Int)).toNat = (σ 18 f).toInt.toNat + k from by omega]
    rw [show ((w 29 (f + 3)).toInt + (k : Int)).toNat = (w 29 (f + 3)).toInt.toNat + k from by omega, show ((w 29 (e + 3)).toInt + (k : Int)).toNat = (w 29 (e + 3)).toInt.toNat + k from by omega] at d4
    omega
  · rintro ⟨c1, c2⟩
    refine ⟨c1.symm, fun k hk => ⟨by omega, a3, by show (w 29 (e + 3)).toInt + (k : Int) < ((65600 : Nat) : Int); omega, ?_⟩⟩
    have d4 := c2 k hk
    have p1 := (a7 k hk).1
    have p2 := (b7 k (by omega)).1
    rw [show ((σ 18 e).toInt + (k : Int)).toNat = (σ 18 e).toInt.toNat + k from by omega, show ((σ 18 f).toInt + (k : Int)).toNat = (σ 18 f).toInt.toNat + k from by omega] at d4
    rw [show ((w 29 (f + 3)).toInt + (k : Int)).toNat = (w 29 (f + 3)).toInt.toNat + k from by omega, show ((w 29 (e + 3)).toInt + (k : Int)).toNat = (w 29 (e + 3)).toInt.toNat + k from by omega]
    omega
/-- a name and one of the library -/
theorem nm_lib (K : LKx w σ τ vs o) (he : (e : Int) < (σ 0 36).toInt) (hdd : dd.toInt = ((e + 4 : Nat) : Int)) (hj : j < 4) (hd : d.toInt = (j : Int)) (hl : (σ 0 36).toInt ≤ 10000) : NMq w (w 30) 65600 d (atv 10100 (w 29) (dd - (1 : Int32))) ((atv 10100 (w 29) dd) - (atv 10100 (w 29) (dd - (1 : Int32)))) ↔ LBk σ e (lbK j) (lbL j) := by
  obtain ⟨h, hG, r, re, pk, rf⟩ := K
  obtain ⟨_, _, _, _, a1, a2, a3, a4, a5, a6, a7⟩ := rf.2.1 e he
  have n57 := h.2.2.2.2.1.2.2
  have f65 := h.2.2.2.2.1.1
  have x1 : atv 10100 (w 29) dd = w 29 (e + 4) := atv_at hdd (by omega)
  have x2 : atv 10100 (w 29) (dd - (1 : Int32)) = w 29 (e + 3) := atv_at (by rw [sb (by rw [i1]; omega) (by rw [i1]; omega), i1]; omega) (by omega)
  have z1 : ((w 29 (e + 4)) - (w 29 (e + 3))).toInt = (σ 19 e).toInt := by rw [sb (by omega) (by omega)]; exact a1
  have lb := lb_ends j hj
  have y1 : (atv 10100 (w 29) d).toInt = ((lbS j + lbL j : Nat) : Int) := by
    rw [atv_at hd (by omega), (rf.1.1 j hj).2.2.2.2]
    exact lb.1
  have y2 : (atv 10100 (w 29) (d - (1 : Int32))).toInt = (lbS j : Int) := by
    have ed : (d - (1 : Int32)).toInt = (j : Int) - 1 := by rw [sb (by rw [i1]; omega) (by rw [i1]; omega), i1, hd]
    by_cases j0 : j = 0
    · rw [j0] at ed ⊢
      rcases atv_cases 10100 (w 29) (d - (1 : Int32)) with ⟨g1, g2⟩ | ⟨i, g1, g2, g3⟩
      · rw [g1]; rfl
      · omega
    · rw [atv_at (j := j - 1) (by rw [ed]; omega) (by omega), (rf.1.1 (j - 1) (by omega)).2.2.2.2, lb_starts (j - 1) (by omega), show j - 1 + 1 = j from by omega]
  have z2 : ((atv 10100 (w 29) d) - (atv 10100 (w 29) (d - (1 : Int32)))).toInt = (lbL j : Int) := by rw [sb (by omega) (by omega)]; omega
  have lby : ∀ k : Nat, k < lbL j → (w 30 (lbS j + k)).toInt = (chI (SF 2 (lbK j + k))).toInt := fun k hk => by
    rw [rf.1.2 (lbS j + k) (by omega)]
    exact lb_bytes j hj k hk
  unfold NMq LBk nfm
  rw [x1, x2, y2, z1, z2]
  constructor
  · rintro ⟨c1, c2⟩
    refine ⟨c1.symm, fun k hk => ?_⟩
    obtain ⟨d1, d2, d3, d4⟩ := c2 k (by omega)
    have p1 := (a7 k (by omega)).1
    rw [show ((σ 18 e).toInt + (k : Int)).toNat = (σ 18 e).toInt.toNat + k from by omega, ← lby k hk]
    rw [show ((lbS j : Int) + (k : Int)).toNat = lbS j + k from by omega, show ((w 29 (e + 3)).toInt + (k : Int)).toNat = (w 29 (e + 3)).toInt.toNat + k from by omega] at d4
    omega
  · rintro ⟨c1, c2⟩
    refine ⟨c1.symm, fun k hk => ⟨by omega, a3, by show (w 29 (e + 3)).toInt + (k : Int) < ((65600 : Nat) : Int); omega, ?_⟩⟩
    have d4 := c2 k (by omega)
    have p1 := (a7 k hk).1
    rw [show ((σ 18 e).toInt + (k : Int)).toNat = (σ 18 e).toInt.toNat + k from by omega, ← lby k (by omega)] at d4
    rw [show ((lbS j : Int) + (k : Int)).toNat = lbS j + k from by omega, show ((w 29 (e + 3)).toInt + (k : Int)).toNat = (w 29 (e + 3)).toInt.toNat + k from by omega]
    omega
/-- its flags -/
theorem fl_at (K : LKx w σ τ vs o) (hf : (f : Int) < (σ 0 36).toInt) (hl : (σ 0 36).toInt ≤ 10000) (hd : d.toInt = ((f + 4 : Nat) : Int)) : (FLb (atv 10100 (w 25) d) 1 ↔ (σ 9 f).toInt ≠ 1) ∧ (FLb (atv 10100 (w 25) d) 2 ↔ (σ 12 f).toInt ≠ 0) ∧ (FLb (atv 10100 (w 25) d) 4 ↔ (σ 13 f).toInt = 1) ∧ (FLb (atv 10100 (w 25) d) 8 ↔ (σ 14 f).toInt ≠ 0) ∧ ((σ 9 f).toInt = 1 ∨ (σ 9 f).toInt = 2) ∧ ((σ 13 f).toInt = 0 ∨ (σ 13 f).toInt = 1) := by
  obtain ⟨h, hG, r, re, pk, rf⟩ := K
  have q := re.2.2 f hf
  have q8 := (rf.2.1 f hf).2.1
  have b13 := rf.2.2.2 f
  rw [atv_at hd (by omega)]
  unfold FLq at q q8
  unfold FLb
  refine ⟨q.1, q.2.1, ⟨fun g => ?_, fun g => q.2.2.1.2 (by omega)⟩, q8, q.2.2.2, b13⟩
  have := q.2.2.1.1 g
  omega
theorem lib_fl (K : LKx w σ τ vs o) (hj : j < 4) (hd : d.toInt = (j : Int)) : FLb (atv 10100 (w 25) d) 4 ∧ ¬ FLb (atv 10100 (w 25) d) 2 ∧ FLb (atv 10100 (w 25) d) 1 ∧ (atv 10100 (w 26) d).toInt = (if j = 0 then 0 else -1) ∧ (atv 10100 (w 27) d).toInt = (if j = 0 then 0 else 16777216) := by
  obtain ⟨h, hG, r, re, pk, rf⟩ := K
  obtain ⟨l1, l2, l3, l4, l5⟩ := rf.1.1 j hj
  obtain ⟨_, _, b3, b4, b5, b6, b7⟩ := lb_ends j hj
  rw [atv_at hd (by omega), atv_at hd (by omega), atv_at hd (by omega), l1, l2, l3]
  exact ⟨b3, fun g => g b4, b5, b6, b7⟩
/-- what is found on both sides -/
theorem df_eq (K : LKx w σ τ vs o) (hl : (σ 0 36).toInt ≤ 10000) (he : (e : Int) < (σ 0 36).toInt) (hdd : dd.toInt = ((e + 4 : Nat) : Int)) (hq : (q : Int) ≤ (σ 0 67).toInt) (h : DFi w ((q : Int) + 1) dd v) : (∃ j : Nat, j < 4 ∧ v.toInt = (j : Int) ∧ ∃ r, LIB σ e r ∧ r.toInt = (j : Int)) ∨ ((∃ r, LIB σ e r ∧ r.toInt < 0) ∧ ((NFD σ e q ∧ v = -1) ∨ ∃ p f : Nat, FND σ e q p f ∧ v.toInt = ((f + 4 : Nat) : Int))) := by
  have q100 : q ≤ 100 := by have := K.2.1.2.2.2.2.1.1.2; omega
  have fit : ∀ (p f : Nat) (d : Int32), (p : Int) < (σ 0 67).toInt → InO σ (PO σ p) f → d.toInt = ((f + 4 : Nat) : Int) → (CDi w (w 30) 65600 (atv 10100 (w 29) (dd - (1 : Int32))) ((atv 10100 (w 29) dd) - (atv 10100 (w 29) (dd - (1 : Int32)))) d ↔ MT σ e f) := fun p f d hp hf hd => by
    have p100 : p ≤ 100 := by have := K.2.1.2.2.2.2.1.1.2; omega
    obtain ⟨_, _, _, _, _, g6⟩ := rg_at K hp (x := nI (p + 1)) (by rw [nI_toInt (by omega)]; rfl)
    have hf2 : (f : Int) < (σ 0 36).toInt := by have := hf.2; omega
    obtain ⟨_, f2, f4, _, _, f13⟩ := fl_at K hf2 hl hd
    unfold CDi MT
    rw [nm_eq K he hf2 hdd hd hl, f4, f2]
    constructor
    · rintro ⟨c1, c2, c3⟩
      exact ⟨Classical.byContradiction c2, c1, c3⟩
    · rintro ⟨c1, c2, c3⟩
      exact ⟨c2, fun g => g c1, c3⟩
  have lfit : ∀ (j : Nat) (d : Int32), j < 4 → d.toInt = (j : Int) → (CDi w (w 30) 65600 (atv 10100 (w 29) (dd - (1 : Int32))) ((atv 10100 (w 29) dd) - (atv 10100 (w 29) (dd - (1 : Int32)))) d ↔ LBk σ e (lbK j) (lbL j)) := fun j d hj hd => by
    obtain ⟨f4, f2, _⟩ := lib_fl K hj hd
    unfold CDi
    rw [nm_lib K he hdd hj hd hl]
    exact ⟨fun c => c.2.2, fun c => ⟨f4, f2, c⟩⟩
  have z0 : ((0 : Int32)).toInt = 0 := rfl
  obtain ⟨rl, rh⟩ := rg_lib K z0
  have nolib : (∀ d, RGi w (0 : Int32) d → ¬ CDi w (w 30) 65600 (atv 10100 (w 29) (dd - (1 : Int32))) ((atv 10100 (w 29) dd) - (atv 10100 (w 29) (dd - (1 : Int32)))) d) → ∃ r, LIB σ e r ∧ r.toInt < 0 := fun hn => ⟨(-1 : Int32), (lib_at e).2 (Or.inr ⟨by decide, fun i hi g => hn (nI i) ⟨by rw [rl, nI_toInt (by omega)]; omega, by rw [rh, nI_toInt (by omega)]; omega⟩ ((lfit i (nI i) hi (nI_toInt (by omega))).2 g)⟩), by decide⟩
  have nofnd : ∀ m : Nat, m ≤ q → (∀ x : Int32, 0 ≤ x.toInt → x.toInt < (m : Int) + 1 → ∀ d, RGi w x d → ¬ CDi w (w 30) 65600 (atv 10100 (w 29) (dd - (1 : Int32))) ((atv 10100 (w 29) dd) - (atv 10100 (w 29) (dd - (1 : Int32)))) d) → NFD σ e m := fun m hm hn p hp f hf g => by
    have hx : (nI (p + 1)).toInt = (p : Int) + 1 := by rw [nI_toInt (by omega)]; rfl
    obtain ⟨_, _, g3, g4, g5, g6⟩ := rg_at K (by omega) hx
    have hf4 : (nI (f + 4)).toInt = ((f + 4 : Nat) : Int) := nI_toInt (by have := hf.2; omega)
    exact hn (nI (p + 1)) (by omega) (by omega) (nI (f + 4)) ⟨by rw [g3, hf4]; have := hf.1; omega, by rw [g4, hf4]; have := hf.2; omega⟩ ((fit p f (nI (f + 4)) (by omega) hf hf4).2 g)
  rcases h with ⟨h1, h2⟩ | ⟨x, h1, h2, h3, h4, h5⟩
  · exact Or.inr ⟨nolib (h2 0 (by rw [z0]; omega) (by rw [z0]; omega)), Or.inl ⟨nofnd q (Nat.le_refl _) h2, h1⟩⟩
  · by_cases x0 : x.toInt = 0
    · have ex : x = 0 := ieq x0
      rw [ex] at h2 h5
      obtain ⟨j, hj⟩ : ∃ j : Nat, v.toInt = (j : Int) := ⟨v.toInt.toNat, by have := h2.1; omega⟩
      have j4 : j < 4 := by have := h2.2; omega
      refine Or.inl ⟨j, j4, hj, nI j, (lib_at e).2 (Or.inl ⟨j, j4, nI_toInt (by omega), (lfit j v j4 hj).1 h3, fun i hi g => ?_⟩), nI_toInt (by omega)⟩
      exact h5 (nI i) ⟨by rw [rl, nI_toInt (by omega)]; omega, by rw [rh, nI_toInt (by omega)]; omega⟩ (by rw [nI_toInt (by omega)]; omega) ((lfit i (nI i) (by omega) (nI_toInt (by omega))).2 g)
    · obtain ⟨p, hp⟩ : ∃ p : Nat, x.toInt = (p : Int) + 1 := ⟨(x.toInt - 1).toNat, by omega⟩
      have hpq : (p : Int) < (σ 0 67).toInt := by omega
      obtain ⟨_, _, g3, g4, g5, g6⟩ := rg_at K hpq hp
      obtain ⟨f, hf⟩ : ∃ f : Nat, v.toInt = ((f + 4 : Nat) : Int) := ⟨(v.toInt - 4).toNat, by have := h2.1; omega⟩
      have hin : InO σ (PO σ p) f := ⟨by have := h2.1; omega, by have := h2.2; omega⟩
      refine Or.inr ⟨nolib (h4 0 (by rw [z0]; omega) (by rw [z0]; omega)), Or.inr ⟨p, f, ⟨by omega, hin, (fit p f v hpq hin hf).1 h3, nofnd p (by omega) (fun x' a b => h4 x' a (by omega)), fun f' a b g => ?_⟩, hf⟩⟩
      have hf4 : (nI (f' + 4)).toInt = ((f' + 4 : Nat) : Int) := nI_toInt (by have := hin.2; omega)
      exact h5 (nI (f' + 4)) ⟨by rw [g3, hf4]; omega, by have := h2.2; rw [hf4]; omega⟩ (by rw [hf4]; omega) ((fit p f' (nI (f' + 4)) hpq ⟨a, by have := hin.2; omega⟩ hf4).2 g)
/-- signatures are one where all is one that they tell -/
theorem sg_same {a b : Int32} (hl : l.length ≤ 8) (ht : Tyq l) (ha : a.toInt = sgI l) (hl2 : l2.length ≤ 8) (ht2 : Tyq l2) (hb : b.toInt = sgI l2) (hn : sgN a = sgN b) (hk : ∀ k : Nat, (k : Int) < sgN a → sgT a (nI k) = sgT b (nI k)) : a.toInt = b.toInt := by
  obtain ⟨a1, a2⟩ := sg_says hl ht ha
  obtain ⟨b1, b2⟩ := sg_says hl2 ht2 hb
  have el : l.length = l2.length := by omega
  rw [ha, hb]
  unfold sgI sgX
  rw [el, sgv_ext el (fun k x y hx hy => ?_)]
  have hk' := hk k (by rw [a1]; have := (List.getElem?_eq_some_iff.mp hx).1; omega)
  rw [a2 k x hx, b2 k y hy] at hk'
  omega
/-- the types of a declaration and its definition -/
theorem ag_eq (K : LKx w σ τ vs o) (hl : (σ 0 36).toInt ≤ 10000) (he : (e : Int) < (σ 0 36).toInt) (hf : (f : Int) < (σ 0 36).toInt) (hdd : dd.toInt = ((e + 4 : Nat) : Int)) (hv : v.toInt = ((f + 4 : Nat) : Int)) : AGc w dd v ↔ HTm σ e f := by
  obtain ⟨e1, _, _, _, e9, _⟩ := fl_at K he hl hdd
  obtain ⟨f1, _, _, _, f9, _⟩ := fl_at K hf hl hv
  obtain ⟨h, hG, r, re, pk, rf⟩ := K
  obtain ⟨a1, _, a3, a4, _⟩ := rf.2.1 e he
  obtain ⟨b1, _, b3, b4, _⟩ := rf.2.1 f hf
  have x26 : atv 10100 (w 26) dd = w 26 (e + 4) := atv_at hdd (by omega)
  have y26 : atv 10100 (w 26) v = w 26 (f + 4) := atv_at hv (by omega)
  have x27 : atv 10100 (w 27) dd = w 27 (e + 4) := atv_at hdd (by omega)
  have y27 : atv 10100 (w 27) v = w 27 (f + 4) := atv_at hv (by omega)
  have x25 : FLb (atv 10100 (w 25) dd) 1 ↔ FLq w (e + 4) 1 := by rw [atv_at hdd (by omega)]; exact Iff.rfl
  have y25 : FLb (atv 10100 (w 25) v) 1 ↔ FLq w (f + 4) 1 := by rw [atv_at hv (by omega)]; exact Iff.rfl
  unfold AGc HTm
  rw [x26, y26, x27, y27, e1, f1, a1, b1]
  have nv : ¬ v.toInt < 0 := by omega
  by_cases c9 : (σ 9 e).toInt = 1
  · have ne : ¬ FLq w (e + 4) 1 := fun g => (e1.1 (x25.2 g)) c9
    by_cases d9 : (σ 9 f).toInt = 1
    · have nf : ¬ FLq w (f + 4) 1 := fun g => (f1.1 (y25.2 g)) d9
      obtain ⟨a5, a6⟩ := a3 ne
      obtain ⟨b5, b6⟩ := b3 nf
      rw [a5, b5]
      rw [a5] at a6
      rw [b5] at b6
      constructor
      · rintro (g | ⟨_, g2, g3⟩)
        · exact absurd g nv
        · refine ⟨by omega, g2, fun _ => ?_, fun g => absurd c9 g⟩
          rcases g3 with g | ⟨_, g, g'⟩
          · exact ⟨by omega, Or.inr g⟩
          · exact ⟨by omega, Or.inl (by omega)⟩
      · rintro ⟨_, g2, g3, _⟩
        obtain ⟨g4, g5⟩ := g3 c9
        refine Or.inr ⟨⟨fun g => absurd c9 g, fun g => absurd d9 g⟩, g2, ?_⟩
        rcases g5 with g | g
        · by_cases z : (σ 11 e).toInt = (σ 11 f).toInt
          · exact Or.inl z
          · refine Or.inr ⟨fun g => g c9, ?_, ?_⟩
            · by_cases y : (σ 11 e).toInt = 0
              · exact y
              · have : ¬ 0 ≤ (σ 11 f).toInt := fun q => by have := g4.2 q; omega
                omega
            · by_cases y : (σ 11 e).toInt = 0
              · have := g4.1 (by omega)
                omega
              · have : ¬ 0 ≤ (σ 11 f).toInt := fun q => by have := g4.2 q; omega
                omega
        · exact Or.inl g
    · constructor
      · rintro (g | ⟨g, _⟩)
        · exact absurd g nv
        · exact absurd c9 (g.2 d9)
      · rintro ⟨g, _⟩
        omega
  · by_cases d9 : (σ 9 f).toInt = 1
    · constructor
      · rintro (g | ⟨g, _⟩)
        · exact absurd g nv
        · exact absurd d9 (g.1 c9)
      · rintro ⟨g, _⟩
        omega
    · have ye : FLq w (e + 4) 1 := x25.1 (e1.2 c9)
      have yf : FLq w (f + 4) 1 := y25.1 (f1.2 d9)
      obtain ⟨a5, a6, a7, l, a8, a9, a10⟩ := a4 ye
      obtain ⟨b5, b6, b7, l2, b8, b9, b10⟩ := b4 yf
      constructor
      · rintro (g | ⟨_, g2, g3⟩)
        · exact absurd g nv
        · have g4 : (w 27 (e + 4)).toInt = (w 27 (f + 4)).toInt := by
            rcases g3 with g | ⟨g, _⟩
            · exact g
            · exact absurd c9 g
          have g5 := ieq g4
          refine ⟨by omega, g2, fun g => absurd g c9, fun _ => ⟨by rw [← a5, ← b5, g5], fun k hk => ?_⟩⟩
          have k1 := a7 (nI k) (by rw [nI_toInt (by omega)]; omega) (by rw [nI_toInt (by omega)]; exact hk)
          have k2 := b7 (nI k) (by rw [nI_toInt (by omega)]; omega) (by rw [nI_toInt (by omega), ← b5, ← g5, a5]; exact hk)
          rw [nI_toInt (by omega)] at k1 k2
          rw [show ((k : Int)).toNat = k from rfl] at k1 k2
          rw [← k1, ← k2, g5]
      · rintro ⟨_, g2, _, g4⟩
        obtain ⟨g5, g6⟩ := g4 c9
        refine Or.inr ⟨⟨fun _ => d9, fun _ => c9⟩, g2, Or.inl (sg_same a8 a9 a10 b8 b9 b10 (by rw [a5, b5]; exact g5) (fun k hk => ?_))⟩
        rw [a5] at hk
        have k1 := a7 (nI k) (by rw [nI_toInt (by omega)]; omega) (by rw [nI_toInt (by omega)]; exact hk)
        have k2 := b7 (nI k) (by rw [nI_toInt (by omega)]; omega) (by rw [nI_toInt (by omega)]; omega)
        rw [nI_toInt (by omega)] at k1 k2
        rw [show ((k : Int)).toNat = k from rfl] at k1 k2
        rw [k1, k2]
        exact g6 k hk
/-- the types of a declaration and the library's function -/
theorem ag_lib (K : LKx w σ τ vs o) (hl : (σ 0 36).toInt ≤ 10000) (he : (e : Int) < (σ 0 36).toInt) (hdd : dd.toInt = ((e + 4 : Nat) : Int)) (hj : j < 4) (hv : v.toInt = (j : Int)) : AGc w dd v ↔ HLm σ e j := by
  obtain ⟨e1, _, _, _, e9, _⟩ := fl_at K he hl hdd
  obtain ⟨_, _, v1, v26, v27⟩ := lib_fl K hj hv
  obtain ⟨h, hG, r, re, pk, rf⟩ := K
  obtain ⟨a1, _, a3, a4, _⟩ := rf.2.1 e he
  have x26 : atv 10100 (w 26) dd = w 26 (e + 4) := atv_at hdd (by omega)
  have x27 : atv 10100 (w 27) dd = w 27 (e + 4) := atv_at hdd (by omega)
  have x25 : FLb (atv 10100 (w 25) dd) 1 ↔ FLq w (e + 4) 1 := by rw [atv_at hdd (by omega)]; exact Iff.rfl
  unfold AGc HLm
  rw [x26, x27, e1, v26, v27, a1]
  have nv : ¬ v.toInt < 0 := by omega
  by_cases c9 : (σ 9 e).toInt = 1
  · constructor
    · rintro (g | ⟨g, _⟩)
      · exact absurd g nv
      · exact absurd c9 (g.2 v1)
    · rintro ⟨g, _⟩
      omega
  · have ye : FLq w (e + 4) 1 := x25.1 (e1.2 c9)
    obtain ⟨a5, a6, a7, l, a8, a9, a10⟩ := a4 ye
    obtain ⟨s1, s2⟩ := sg_says a8 a9 a10
    have vlt := sgv_lt a9
    have d9 : (σ 9 e).toInt = 2 := by omega
    have eg : (w 27 (e + 4)).toInt = 16777216 * (l.length : Int) + (sgV l : Int) := by
      rw [a10]
      unfold sgI sgX
      omega
    have len : (l.length : Int) = (σ 15 e).toInt := by rw [← s1]; exact a5
    by_cases j0 : j = 0
    · rw [if_pos j0, if_pos j0]
      constructor
      · rintro (g | ⟨_, g2, g3⟩)
        · exact absurd g nv
        · have g4 : (w 27 (e + 4)).toInt = 0 := by
            rcases g3 with g | ⟨g, _⟩
            · exact g
            · exact absurd c9 g
          exact ⟨d9, fun _ => ⟨g2, by omega⟩, fun g => absurd (by omega : (j : Int) = 0) g⟩
      · rintro ⟨_, g2, _⟩
        obtain ⟨g3, g4⟩ := g2 (by omega)
        have l0 : l.length = 0 := by omega
        have ln : l = [] := List.eq_nil_of_length_eq_zero l0
        refine Or.inr ⟨⟨fun _ => v1, fun _ => c9⟩, g3, Or.inl ?_⟩
        rw [eg, ln]
        rfl
    · rw [if_neg j0, if_neg j0]
      constructor
      · rintro (g | ⟨_, g2, g3⟩)
        · exact absurd g nv
        · have g4 : (w 27 (e + 4)).toInt = 16777216 := by
            rcases g3 with g | ⟨g, _⟩
            · exact g
            · exact absurd c9 g
          have l1 : l.length = 1 := by
            have p8 : 8 ^ l.length ≤ 8 ^ 8 := Nat.pow_le_pow_right (by decide) a8
            have : (8 : Nat) ^ 8 = 16777216 := by decide
            omega
          obtain ⟨y, hy⟩ := List.length_eq_one_iff.mp l1
          have v0 : sgV l = 0 := by omega
          rw [hy] at v0
          have y0 : y.1 = 0 := by
            have : y.1 + 8 * 0 = 0 := v0
            omega
          refine ⟨d9, fun g => absurd (by omega : j = 0) j0, fun _ => ⟨g2, by omega, ?_⟩⟩
          have k1 := a7 (nI 0) (by rw [nI_toInt (by decide)]; omega) (by rw [nI_toInt (by decide)]; omega)
          rw [s2 0 y (by rw [hy]; rfl), nI_toInt (by decide), y0] at k1
          exact k1.symm
      · rintro ⟨_, _, g2⟩
        obtain ⟨g3, g4, g5⟩ := g2 (by omega)
        have l1 : l.length = 1 := by omega
        obtain ⟨y, hy⟩ := List.length_eq_one_iff.mp l1
        have k1 := a7 (nI 0) (by rw [nI_toInt (by decide)]; omega) (by rw [nI_toInt (by decide)]; omega)
        rw [s2 0 y (by rw [hy]; rfl), nI_toInt (by decide)] at k1
        have k2 : (y.1 : Int) = 0 := k1.trans g5
        refine Or.inr ⟨⟨fun _ => v1, fun _ => c9⟩, g3, Or.inl ?_⟩
        rw [eg, l1, hy]
        show 16777216 * (((1 : Nat)) : Int) + ((y.1 + 8 * 0 : Nat) : Int) = 16777216
        omega
end LEQ
end

section
/-! link(), the class, exactly but for the places of what is linked -/
def dsm (g : Nat → Int) : Nat → Int
  | 0 => 0
  | n + 1 => dsm g n + g n
def LN0 (w : St) : St := upC (upC w 10 3 ((-1) : Int32)) 10 4 ((-1) : Int32)
def MFc (w : St) (v : Int32) : Prop := FSTi w (w 10 5).toInt (CDi w (w 55) 4 0 4) v
def DSc (w : St) : Int := dsm (fun i => (w 37 (w 56 (i + 1)).toInt.toNat).toInt) ((w 10 5).toInt.toNat - 1)
/-- what link() comes to -/
def LNc (w : St) (v : Int32) (t : St) : Prop :=
  (∃ (kind x d c : Int32), (31 ≤ kind.toInt ∧ kind.toInt ≤ 33) ∧ (∀ k : Int, 31 ≤ k → k < kind.toInt → NOc w k) ∧ FRc w kind.toInt x d c ∧ v = -kind ∧ t = upC (upC (upC (LN0 w) 10 3 (x - (1 : Int32))) 10 4 c) 10 5 (1 : Int32))
  ∨ ((∀ k : Int, 31 ≤ k → k < 34 → NOc w k) ∧ ∃ m, MFc w m ∧ ((¬ MNc w m ∧ v = -(34 : Int32) ∧ t = upC (LN0 w) 10 5 (1 : Int32)) ∨ (MNc w m ∧ ((16000 < DSc w ∧ v = -(35 : Int32) ∧ t = upC (LN0 w) 10 5 (1 : Int32)) ∨ (DSc w ≤ 16000 ∧ v = 0 ∧ ∃ s, KxS (LN0 w) s ∧ t = upC (upC (upC s 10 11 (atv 10100 (s 59) m)) 10 2 (1 : Int32)) 10 5 (1 : Int32))))))
section LNJ
variable {w s t u : St} {a1 a2 x v d c m : Int32} {o n : Nat} {g g2 : Nat → Int}
theorem dsm_s : dsm g (n + 1) = dsm g n + g n := rfl
theorem dsm_eq (h : ∀ i, i < n → g i = g2 i) : dsm g n = dsm g2 n := by
  induction n with
  | zero => rfl
  | succ n ih => rw [dsm_s, dsm_s, ih (fun i hi => h i (by omega)), h n (by omega)]
theorem dsm_rng (h : ∀ i, i < n → 0 ≤ g i ∧ g i ≤ 16000) : 0 ≤ dsm g n ∧ dsm g n ≤ 16000 * (n : Int) := by
  induction n with
  | zero => exact ⟨Int.le_refl _, Int.le_refl _⟩
  | succ n ih =>
    have a := ih (fun i hi => h i (by omega))
    have b := h n (by omega)
    rw [dsm_s]
    omega
theorem ln_rows (h : ∀ c, c ≠ 10 → s c = w c) (h5 : s 10 5 = w 10 5) (k : Int) : NOc s k = NOc w k ∧ (∀ x d c, FRc s k x d c = FRc w k x d c) ∧ (∀ v, MNc s v = MNc w v) ∧ DSc s = DSc w := by
  unfold NOc FRc MNc DSc WRc DFi FSTi CDi NMq RGi LOi HIi kxI AGc
  rw [h5, h 25 (by decide), h 26 (by decide), h 27 (by decide), h 29 (by decide), h 30 (by decide), h 34 (by decide), h 37 (by decide), h 56 (by decide)]
  exact ⟨rfl, fun _ _ _ => rfl, fun _ => rfl, rfl⟩
theorem ln0_rows : ∀ c, c ≠ 10 → LN0 w c = w c := fun c hc => by unfold LN0; rw [rdC_ne hc, rdC_ne hc]
theorem px_dataCells {Q : Int32 → Prop} (hp : 1 ≤ (w 10 5).toInt ∧ (w 10 5).toInt ≤ 101) (h56 : ∀ j : Nat, 1 ≤ j → (j : Int) < (w 10 5).toInt → 0 ≤ (w 56 j).toInt ∧ (w 56 j).toInt ≤ 100) (hd : ∀ i : Nat, i < (w 10 5).toInt.toNat - 1 → 0 ≤ (w 37 (w 56 (i + 1)).toInt.toNat).toInt ∧ (w 37 (w 56 (i + 1)).toInt.toNat).toInt ≤ 16000) (k : ∀ v : Int32, v.toInt = DSc w → Q v) : pk_X4_dataCells w Q := by
  unfold pk_X4_dataCells
  refine ⟨fun y x => 1 ≤ x.toInt ∧ x.toInt ≤ (w 10 5).toInt ∧ y.toInt = dsm (fun i => (w 37 (w 56 (i + 1)).toInt.toNat).toInt) (x.toInt.toNat - 1), ⟨by decide, by rw [i1]; omega, rfl⟩, ?_⟩
  rintro y x ⟨h0, h1, hy⟩
  refine ⟨fun c => k y ?_, fun c => ?_⟩
  · rw [hy]
    unfold DSc
    rw [show x.toInt.toNat = (w 10 5).toInt.toNat from by omega]
  · have up := up_lt c
    have rg := dsm_rng (g := fun i => (w 37 (w 56 (i + 1)).toInt.toNat).toInt) (n := x.toInt.toNat - 1) (fun i hi => hd i (by omega))
    have dx := hd (x.toInt.toNat - 1) (by omega)
    rw [show x.toInt.toNat - 1 + 1 = x.toInt.toNat from by omega] at dx
    have k56 := h56 x.toInt.toNat (by omega) (by omega)
    have e56 : atv 101 (w 56) x = w 56 x.toInt.toNat := atv_at (by omega) (by omega)
    have e37 : atv 101 (w 37) (w 56 x.toInt.toNat) = w 37 (w 56 x.toInt.toNat).toInt.toNat := atv_at (by omega) (by omega)
    rw [e56, e37]
    refine ⟨by rw [up]; omega, by rw [up]; omega, ?_⟩
    rw [up, ad (by omega) (by omega), hy, show (x.toInt + 1).toNat - 1 = (x.toInt.toNat - 1) + 1 from by omega, dsm_s]
    show _ = _ + (w 37 (w 56 (x.toInt.toNat - 1 + 1)).toInt.toNat).toInt
    rw [show x.toInt.toNat - 1 + 1 = x.toInt.toNat from by omega]
theorem px_find55 {Q : Int32 → Prop} (hb : NEb w) (k : ∀ v, FSTi w a2.toInt (CDi w (w 55) 4 0 4) v → Q v) : pk_X4_find_r56_r55 a2 (0 : Int32) (4 : Int32) w Q := wl_wk_X4_find_r56_r55 (fun v p => k v p) (sp_find55 hb (by decide) (by decide) (fun v p => p))
theorem px_linkx {Q : Int32 → St → Prop} (h : IVx w o) (hd : ∀ i : Nat, i < (w 10 5).toInt.toNat - 1 → 0 ≤ (w 37 (w 56 (i + 1)).toInt.toNat).toInt ∧ (w 37 (w 56 (i + 1)).toInt.toNat).toInt ≤ 16000) (k : ∀ v t, LNc w v t → Q v t) : pk_X12_link w Q := by
  have rn0 := rn_iv h
  have hnb : NEb w := h.2.2.2.2.2.1.2
  have pkx := h.2.2.2.2.2.2.2.2.2.2.1
  have o100 := h.1.2
  unfold pk_X12_link pk_X4_join
  rw [show upC (upC w 10 3 ((-1) : Int32)) 10 4 ((-1) : Int32) = LN0 w from rfl]
  have r0 := ln0_rows (w := w)
  have h5 : LN0 w 10 5 = w 10 5 := rfl
  have nb0 : NEb (LN0 w) := by unfold NEb; rw [r0 29 (by decide)]; exact hnb
  have rnl : RNo (LN0 w) := by
    unfold RNo LOi HIi kxI
    rw [r0 34 (by decide), r0 56 (by decide), h5]
    exact rn0
  obtain ⟨_, lfr, lmn, lds⟩ := ln_rows (s := LN0 w) r0 h5 0
  refine px_find55 nb0 (fun v25 hf => ?_)
  have hM : MFc w v25 := by
    unfold MFc
    rw [fst_same (r0 56 (by decide)) (r0 34 (by decide)) (r0 25 (by decide)) (r0 29 (by decide)) (r0 30 (by decide)), r0 55 (by decide)] at hf
    exact hf
  refine ⟨fun x2 x3 s => (31 ≤ x3.toInt ∧ x3.toInt ≤ 34) ∧ ((x2 = 0 ∧ s = LN0 w ∧ ∀ k : Int, 31 ≤ k → k < x3.toInt → NOc w k) ∨ ∃ (x d c : Int32), (31 ≤ x2.toInt ∧ x2.toInt ≤ 33) ∧ (∀ k : Int, 31 ≤ k → k < x2.toInt → NOc w k) ∧ FRc w x2.toInt x d c ∧ s = upC (upC (LN0 w) 10 3 (x - (1 : Int32))) 10 4 c), ⟨by decide, Or.inl ⟨rfl, rfl, fun k k1 k2 => by rw [show (31 : Int32).toInt = 31 from rfl] at k2; omega⟩⟩, ?_⟩
  rintro x2 x3 s ⟨hx, hs⟩
  have e33 : (33 : Int32).toInt = 33 := rfl
  rcases hs with ⟨e2, es, hno⟩ | ⟨x, d, c, hk, hno, hfr, es⟩
  · subst e2 es
    refine ⟨∀ k : Int, 31 ≤ k → k < 34 → NOc w k, fun all => ?_, fun c3 k k1 k2 => hno k k1 (by omega), fun c3 => ⟨fun z => absurd rfl z, fun _ => px_look nb0 rnl (fun hn => ⟨by rw [ad1 (by omega)]; omega, Or.inl ⟨rfl, rfl, fun k k1 k2 => ?_⟩⟩) (fun x d c hf => ⟨by rw [ad1 (by omega)]; omega, Or.inr ⟨x, d, c, by omega, hno, ?_, rfl⟩⟩)⟩⟩
    rotate_left
    · rw [ad1 (by omega)] at k2
      by_cases e : k = x3.toInt
      · rw [e, ← (ln_rows (s := LN0 w) r0 h5 x3.toInt).1]
        exact hn
      · exact hno k k1 (by omega)
    · rw [← (ln_rows (s := LN0 w) r0 h5 x3.toInt).2.1]
      exact hf
    -- no fault of 31 .. 33
    have z0 : ((0 : Int32)).toInt = 0 := rfl
    have fail : ∀ a : Int32, (a = 34 → ¬ MNc w v25) → (a = 35 → MNc w v25 ∧ 16000 < DSc w) → (a = 34 ∨ a = 35) → Q (-a) (upC (LN0 w) 10 5 (1 : Int32)) := fun a a34 a35 ha => by
      rcases ha with e | e
      · rw [e]
        exact k _ _ (Or.inr ⟨all, v25, hM, Or.inl ⟨a34 e, rfl, rfl⟩⟩)
      · rw [e]
        exact k _ _ (Or.inr ⟨all, v25, hM, Or.inr ⟨(a35 e).1, Or.inl ⟨(a35 e).2, rfl, rfl⟩⟩⟩)
    refine ⟨fun a => (a = 0 ∧ MNc w v25) ∨ (a = 34 ∧ ¬ MNc w v25), fun a ha => ⟨fun b => (b = 0 ∧ MNc w v25 ∧ DSc w ≤ 16000) ∨ (b = 34 ∧ ¬ MNc w v25) ∨ (b = 35 ∧ MNc w v25 ∧ 16000 < DSc w), fun b hb => ⟨fun b0 => ?_, fun b0 => ?_⟩, fun a0 => ?_, fun a0 => ?_⟩, fun z => absurd rfl z, fun _ => px_isMain (fun hm => ⟨fun _ => Or.inl ⟨rfl, by rw [← lmn]; exact hm⟩, fun z => absurd z (by decide)⟩) (fun hm => ⟨fun z => absurd rfl z, fun _ => Or.inr ⟨rfl, by rw [← lmn]; exact hm⟩⟩)⟩
    · rcases hb with ⟨e, _⟩ | ⟨e, hm⟩ | ⟨e, hm⟩
      · rw [e] at b0
        exact absurd rfl b0
      · exact fail b (fun _ => hm) (fun e2 => by rw [e] at e2; exact absurd e2 (by decide)) (Or.inl e)
      · exact fail b (fun e2 => by rw [e] at e2; exact absurd e2 (by decide)) (fun _ => hm) (Or.inr e)
    · rcases hb with ⟨e, hm, hds⟩ | ⟨e, _⟩ | ⟨e, _⟩
      · rw [e]
        refine wl_wk_X4_settle (fun s93 p => ?_) (sk_settle (Q := fun s => KxS (LN0 w) s) nb0 rnl (by rw [h5]; have := pkx.1; omega) (fun t b kx _ _ _ => kx))
        exact k _ _ (Or.inr ⟨all, v25, hM, Or.inr ⟨hm, Or.inr ⟨hds, rfl, s93, p, rfl⟩⟩⟩)
      · rw [e] at b0
        exact absurd b0 (by decide)
      · rw [e] at b0
        exact absurd b0 (by decide)
    · rcases ha with ⟨e, _⟩ | ⟨e, hm⟩
      · rw [e] at a0
        exact absurd rfl a0
      · exact Or.inr (Or.inl ⟨e, hm⟩)
    · rcases ha with ⟨e, hm⟩ | ⟨e, _⟩
      · refine px_dataCells (by rw [h5]; have := pkx.1; omega) (fun j j1 j2 => ?_) (fun i hi => ?_) (fun v hv => ⟨fun c => Or.inl ⟨e, hm, by rw [← lds]; omega⟩, fun c => Or.inr (Or.inr ⟨rfl, hm, by rw [← lds]; omega⟩)⟩)
        · rw [h5] at j2
          rw [r0 56 (by decide)]
          have := pkx.2.2.1 j j1 j2
          omega
        · rw [h5] at hi
          rw [r0 37 (by decide), r0 56 (by decide)]
          exact hd i hi
      · rw [e] at a0
        exact absurd a0 (by decide)
  · have x20 : x2.toInt ≠ 0 := by omega
    refine ⟨True, fun _ => ⟨fun a => a = x2, fun a ha => ⟨fun b => b = x2, fun b hb => ⟨fun _ => ?_, fun b0 => by rw [hb] at b0; omega⟩, fun _ => ha, fun a0 => by rw [ha] at a0; omega⟩, fun _ => rfl, fun z => absurd z x20⟩, fun _ => trivial, fun _ => ⟨fun _ => trivial, fun z => absurd z x20⟩⟩
    rw [hb, es]
    exact k _ _ (Or.inl ⟨x2, x, d, c, hk, hno, hfr, rfl, rfl⟩)
end LNJ
end

section
/-! link(), the reference, exactly but for the places of what is linked -/
def LM0 (σ : St) : St := upC (upC (upC σ 0 67 (0 : Int32)) 0 71 ((-1) : Int32)) 0 72 ((-1) : Int32)
/-- main's body's number is told by an entity -/
def MFm (σ : St) (n : Int) (f : Nat) : Prop := ∃ p : Nat, (p : Int) < n ∧ InO σ (PO σ p) f ∧ MNm σ f
def LNm (σ : St) (v : Int32) (s : St) : Prop :=
  (∃ (kind p : Int32) (e : Nat) (c : Int32) (s' : St), (31 ≤ kind.toInt ∧ kind.toInt ≤ 33) ∧ (∀ k : Int, 31 ≤ k → k < kind.toInt → NOm σ k (σ 0 67).toInt) ∧ 0 ≤ p.toInt ∧ FRm σ kind.toInt (σ 0 67).toInt p.toNatClampNeg e c ∧ v = -kind ∧ Kp [(0, 73), (0, 74)] [] (LM0 σ) s' ∧ s = upC (upC s' 0 71 p) 0 72 c)
  ∨ ((∀ k : Int, 31 ≤ k → k < 34 → NOm σ k (σ 0 67).toInt) ∧ (((∀ f, ¬ MFm σ (σ 0 67).toInt f) ∧ v = -(34 : Int32) ∧ Kp [(0, 73), (0, 74)] [] (LM0 σ) s) ∨ ∃ f, MFm σ (σ 0 67).toInt f ∧ ((16000 < SUMd σ (σ 0 67).toInt.toNat ∧ v = -(35 : Int32) ∧ Kp [(0, 73), (0, 74)] [] (LM0 σ) s) ∨ (SUMd σ (σ 0 67).toInt.toNat ≤ 16000 ∧ v = 0 ∧ ∃ s1 s2, Kp [(0, 73), (0, 74)] [] (LM0 σ) s1 ∧ KLa (upC s1 0 78 (σ 17 f)) s2 ∧ s = upC s2 0 70 (σ 0 67)))))
section LMM
variable {σ s t τ u : St} {vs z : List Nat} {a x : Int32} {p n : Nat}
theorem lm0_rows : ∀ c, c ≠ 0 → LM0 σ c = σ c := fun c hc => by unfold LM0; rw [rdC_ne hc, rdC_ne hc, rdC_ne hc]
theorem lm_rows (h : ∀ c, c ≠ 0 → s c = σ c) (k n : Int) : NOm s k n = NOm σ k n ∧ (∀ p e c, FRm s k n p e c = FRm σ k n p e c) ∧ (∀ f, MFm s n f = MFm σ n f) ∧ (∀ p, PO s p = PO σ p) ∧ RWS s n = RWS σ n := by
  unfold NOm FRm MFm HOm MNm LIB LBk FND NFD MT ALK nfm InO fO PO HLm HTm RWS NMo AllIn
  first | unfold InO | skip
  first | unfold fO | skip
  first | unfold PO | skip
  rw [h 9 (by decide), h 10 (by decide), h 11 (by decide), h 12 (by decide), h 13 (by decide), h 14 (by decide), h 15 (by decide), h 16 (by decide), h 18 (by decide), h 19 (by decide), h 20 (by decide), h 22 (by decide), h 40 (by decide)]
  exact ⟨rfl, fun _ _ _ => rfl, fun _ => rfl, fun _ => rfl, rfl⟩
theorem sumd_rows (h : ∀ c, c ≠ 0 → s c = σ c) : ∀ p, SUMd s p = SUMd σ p
  | 0 => rfl
  | p + 1 => by
    show SUMd s p + (s 23 (PO s p)).toInt = SUMd σ p + (σ 23 (PO σ p)).toInt
    rw [sumd_rows h p]
    unfold PO
    rw [h 23 (by decide), h 40 (by decide)]
theorem rx_linkx {Q : Int32 → St → St → List Nat → Prop} (h : GLI σ τ vs) (hF : (σ 0 2).toInt ≤ 10240) (k : ∀ v s, LNm σ v s → Q v s τ vs) : pp_link σ τ vs Q := by
  have e31 : (31 : Int32).toInt = 31 := by decide
  have e0 : (0 : Int32).toInt = 0 := by decide
  have hR := rws_gi h
  have hn := hR.1
  unfold pp_link
  rw [show upC (upC (upC σ 0 67 (0 : Int32)) 0 71 ((-1) : Int32)) 0 72 ((-1) : Int32) = LM0 σ from rfl]
  refine ⟨fun x s t z => 31 ≤ x.toInt ∧ x.toInt ≤ 34 ∧ Kp [(0, 73), (0, 74)] [] (LM0 σ) s ∧ t = τ ∧ z = vs ∧ ∀ i : Int, 31 ≤ i → i < x.toInt → NOm σ i (σ 0 67).toInt, ⟨by omega, by omega, kp_rf, rfl, rfl, fun i i1 i2 => by omega⟩, ?_⟩
  rintro x s t z ⟨q2, q3, kl, rfl, rfl, q4⟩
  have rows : ∀ c, c ≠ 0 → s c = σ c := fun c hc => (k7_rows kl c hc).trans (lm0_rows c hc)
  obtain ⟨_, lfr, lmf, lpo, lrw⟩ := lm_rows rows x.toInt (σ 0 67).toInt
  have hRs : RWS s (σ 0 67).toInt := by rw [lrw]; exact hR
  refine ⟨fun c => ?_, fun c => ?_⟩
  rotate_left 1
  · have e1 := ad1 (x := x) (by omega)
    refine rx_isFault hRs (fun s2 k2 cl => ⟨fun _ => ⟨by omega, by omega, kp_tr kl k2, rfl, rfl, fun i i1 i2 => ?_⟩, fun z => absurd rfl z⟩) (fun s2 p e c k2 hp hf => ⟨fun z => absurd z (by decide), fun _ => ?_⟩)
    · by_cases e : i = x.toInt
      · rw [e, ← (lm_rows rows x.toInt (σ 0 67).toInt).1]
        exact cl
      · exact q4 i i1 (by omega)
    · rw [lfr] at hf
      exact k _ _ (Or.inl ⟨x, p, e, c, s2, by omega, q4, hp, hf, rfl, kp_tr kl k2, rfl⟩)
  have all : ∀ i : Int, 31 ≤ i → i < 34 → NOm σ i (σ 0 67).toInt := fun i i1 i2 => q4 i i1 (by omega)
  refine rx_mainOf hRs (fun hno => ⟨fun q => absurd q (by decide), fun _ => k _ _ (Or.inr ⟨all, Or.inl ⟨fun f hm => ?_, rfl, kl⟩⟩)⟩) (fun pm fm m1 m2 m3 => ⟨fun _ => ?_, fun hneg => ?_⟩)
  · rw [← lmf] at hm
    obtain ⟨p, hp, hi, hm⟩ := hm
    exact hno p hp f hi hm
  rotate_left
  · exfalso
    have w0 := (h.2.2.1.2.2.2.2.2.2.2.2.2.1 fm).1
    rw [rows 17 (by decide)] at hneg
    omega
  have hM : MFm σ (σ 0 67).toInt fm := by rw [← lmf]; exact ⟨pm, m1, m2, m3⟩
  have a40 := rows 40 (by decide)
  have a23 := rows 23 (by decide)
  refine ⟨fun y p => 0 ≤ p.toInt ∧ p.toInt ≤ (σ 0 67).toInt ∧ y.toInt = SUMd σ p.toNatClampNeg ∧ (0 ≤ y.toInt ∧ y.toInt ≤ 16000 * p.toInt), ⟨by omega, by omega, by rw [e0, show (0 : Int32).toNatClampNeg = 0 by decide]; rfl, by omega⟩, ?_⟩
  rintro y p ⟨r2, r5, r3, r4⟩
  have np := nt r2
  refine ⟨fun c3 => ⟨fun c4 => ?_, fun c4 => k _ _ (Or.inr ⟨all, Or.inr ⟨fm, hM, Or.inl ⟨?_, rfl, kl⟩⟩⟩)⟩, fun c3 _ _ => ?_⟩
  rotate_left 1
  · rw [← show p.toNatClampNeg = (σ 0 67).toInt.toNat from by omega, ← r3]
    exact c4
  · obtain ⟨i1, i2, i3, i4, i5, i6, i7, i8, i9⟩ := po_of hR r2 c3
    rw [a40, a23, i3]
    have ep := ad1 (x := p) (by omega)
    have epn : (p + 1).toNatClampNeg = p.toNatClampNeg + 1 := by rw [nt', ep]; omega
    have dc := (po_obj h (p := p.toNatClampNeg) (by omega)).2.2.2.1
    have ey : (y + σ 23 (PO σ p.toNatClampNeg)).toInt = y.toInt + (σ 23 (PO σ p.toNatClampNeg)).toInt := ad (by omega) (by omega)
    refine ⟨by omega, by omega, ?_, by omega⟩
    rw [ey, epn, r3]
    rfl
  have pe : p.toNatClampNeg = (σ 0 67).toInt.toNat := by omega
  rw [r3, pe] at c4
  have ly := lyb_gi h hF c4
  rw [rows 17 (by decide)]
  have ly2 : LYb (upC s 0 78 (σ 17 fm)) (σ 0 67).toInt := by
    have ea : ∀ c, c ≠ 0 → upC s 0 78 (σ 17 fm) c = σ c := fun c hc => by rw [rdC_ne hc]; exact rows c hc
    obtain ⟨l1, l2, l3⟩ := ly
    refine ⟨by rw [(lm_rows ea 0 (σ 0 67).toInt).2.2.2.2]; exact hR, ?_, by rw [sumd_rows ea]; exact l3⟩
    unfold ITr PO
    rw [ea 23 (by decide), ea 24 (by decide), ea 25 (by decide), ea 40 (by decide)]
    exact l2
  refine wl_wp_layAll (fun s6 t6 z6 p => p) (sp_layAll ly2 (fun s6 k6 l6 a6 => ?_))
  exact k _ _ (Or.inr ⟨all, Or.inr ⟨fm, hM, Or.inr ⟨c4, rfl, s, s6, kl, k6, rfl⟩⟩⟩)
end LMM
end

section
/-! link(), both sides: one answer, one fault -/
/-- what link() and run() leave that other calls tell -/
def LKa (w σ : St) : Prop := (∀ i, i < 4 → w 55 i = sc0 55 i) ∧ ((w 10 2).toInt ≠ 0 ↔ 0 ≤ (σ 0 70).toInt) ∧ (w 10 3).toInt = (σ 0 71).toInt ∧ (w 10 4).toInt = (σ 0 72).toInt ∧ (w 11 0).toInt = (σ 0 88).toInt
section LBQ
variable {w σ s t τ : St} {vs z : List Nat} {x d dd v m c c2 : Int32} {o e f p q j : Nat} {kind : Int}
theorem least {P : Nat → Prop} : ∀ n, P n → ∃ k, P k ∧ ∀ i, i < k → ¬ P i := fun n => by
  induction n using Nat.strongRecOn with
  | _ n ih =>
    intro hn
    by_cases h : ∃ i, i < n ∧ P i
    · obtain ⟨i, h1, h2⟩ := h
      exact ih i h1 h2
    · exact ⟨n, hn, fun i hi hp => h ⟨i, hi, hp⟩⟩
theorem dfi_ex (n : Int) (d : Int32) : ∃ v, DFi w n d v := by
  by_cases h : ∃ a : Nat, ∃ x : Int32, x.toInt = (a : Int) ∧ x.toInt < n ∧ ∃ y, RGi w x y ∧ CDi w (w 30) 65600 (atv 10100 (w 29) (d - (1 : Int32))) ((atv 10100 (w 29) d) - (atv 10100 (w 29) (d - (1 : Int32)))) y
  · obtain ⟨a0, h0⟩ := h
    obtain ⟨a, ⟨x, hx, hn, y0, g1, g2⟩, hmin⟩ := least (P := fun a => ∃ x : Int32, x.toInt = ((a : Nat) : Int) ∧ x.toInt < n ∧ ∃ y, RGi w x y ∧ CDi w (w 30) 65600 (atv 10100 (w 29) (d - (1 : Int32))) ((atv 10100 (w 29) d) - (atv 10100 (w 29) (d - (1 : Int32)))) y) a0 h0
    obtain ⟨b, ⟨y, hy, r, g⟩, hmin2⟩ := least (P := fun b => ∃ y : Int32, y.toInt = LOi w x + (b : Int) ∧ RGi w x y ∧ CDi w (w 30) 65600 (atv 10100 (w 29) (d - (1 : Int32))) ((atv 10100 (w 29) d) - (atv 10100 (w 29) (d - (1 : Int32)))) y) (y0.toInt - LOi w x).toNat ⟨y0, by have := g1.1; omega, g1, g2⟩
    refine ⟨y, Or.inr ⟨x, ⟨by omega, hn⟩, r, g, fun x' p1 p2 y' r' g' => hmin x'.toInt.toNat (by omega) ⟨x', by omega, by omega, y', r', g'⟩, fun y' r' lt g' => hmin2 (y'.toInt - LOi w x).toNat (by have := r'.1; omega) ⟨y', by have := r'.1; omega, r', g'⟩⟩⟩
  · exact ⟨(-1 : Int32), Or.inl ⟨rfl, fun x p1 p2 y r g => h ⟨x.toInt.toNat, x, by omega, p2, y, r, g⟩⟩⟩
theorem kx_le (K : LKx w σ τ vs o) : (σ 0 36).toInt ≤ 10000 := by
  obtain ⟨h, hG, r, re, pk, rf⟩ := K
  have d0 := de_le h.2.1 o (Nat.le_refl _)
  have h3 := h.2.2.1
  have h1 := h.1
  have r2 := r.2.1
  omega
theorem pik_le (K : LKx w σ τ vs o) : 0 ≤ (σ 0 67).toInt ∧ (σ 0 67).toInt ≤ 100 := K.2.1.2.2.2.2.1.1
theorem lib_neg {r r' : Int32} (h : LIB σ e r) (h' : LIB σ e r') : r.toInt = r'.toInt := lib_uniq h h'
theorem fn_in (K : LKx w σ τ vs o) {n : Int} (hn : n ≤ (σ 0 67).toInt) (h : FND σ e n q f) : (f : Int) < (σ 0 36).toInt := by
  have pl := pik_le K
  have hq := h.1
  obtain ⟨_, _, _, _, _, g6⟩ := rg_at K (p := q) (x := nI (q + 1)) (by omega) (by rw [nI_toInt (by omega)]; rfl)
  have := h.2.1.2
  omega
/-- a fault at a symbol on one side is one on the other -/
theorem wr_eq (K : LKx w σ τ vs o) (hp : (p : Int) < (σ 0 67).toInt) (he : InO σ (PO σ p) e) (hs : (σ 12 e).toInt = 0) (hx : x.toInt = (p : Int) + 1) (hd : d.toInt = ((e + 4 : Nat) : Int)) (hk : 31 ≤ kind ∧ kind ≤ 33) : WRc w kind x d ↔ HOm σ kind p e (σ 0 67).toInt := by
  have hl := kx_le K
  have pl := pik_le K
  obtain ⟨_, _, _, _, _, g6⟩ := rg_at K hp hx
  have he2 : (e : Int) < (σ 0 36).toInt := by have := he.2; omega
  obtain ⟨_, _, f4, f8, _, b13⟩ := fl_at K he2 hl hd
  have pk1 : (w 10 5).toInt = (((σ 0 67).toInt.toNat : Nat) : Int) + 1 := by have := K.2.2.2.2.1.1; omega
  have en : (((σ 0 67).toInt.toNat : Nat) : Int) = (σ 0 67).toInt := by omega
  have dq : ∀ {v}, DFi w (w 10 5).toInt d v → (∃ j : Nat, j < 4 ∧ v.toInt = (j : Int) ∧ ∃ r, LIB σ e r ∧ r.toInt = (j : Int)) ∨ ((∃ r, LIB σ e r ∧ r.toInt < 0) ∧ ((NFD σ e (σ 0 67).toInt ∧ v = -1) ∨ ∃ p f : Nat, FND σ e (σ 0 67).toInt p f ∧ v.toInt = ((f + 4 : Nat) : Int))) := fun {v} h => by
    rw [pk1] at h
    have hh := df_eq K hl he2 hd (q := (σ 0 67).toInt.toNat) (by omega) h
    rw [en] at hh
    exact hh
  unfold WRc HOm
  rw [f4, f8]
  constructor
  · rintro (⟨a1, a2, v, a3, a4⟩ | ⟨a1, a2, a3, v, a4, a5⟩ | ⟨a1, a2, v, a3, a4⟩)
    · refine Or.inl ⟨a2, ⟨hs, a1⟩, ?_⟩
      rw [hx] at a3
      rcases df_eq K hl he2 hd (q := p) (by omega) a3 with ⟨j, _, _, r, r1, r2⟩ | ⟨_, ⟨_, g⟩ | ⟨p', f, g, _⟩⟩
      · exact Or.inl ⟨r, r1, by omega⟩
      · rw [g] at a4
        exact absurd a4 (by decide)
      · exact Or.inr ⟨p', f, g⟩
    · refine Or.inr ⟨by omega, ⟨hs, by omega⟩, Or.inl ⟨a2, a3, ?_⟩⟩
      rcases dq a4 with ⟨j, _, g, _⟩ | ⟨g, ⟨g2, _⟩ | ⟨p', f, _, g2⟩⟩
      · omega
      · exact ⟨g, g2⟩
      · omega
    · refine Or.inr ⟨by omega, ⟨hs, by omega⟩, Or.inr ⟨by omega, ?_⟩⟩
      rcases dq a3 with ⟨j, j4, g, r, r1, r2⟩ | ⟨g, ⟨_, g2⟩ | ⟨p', f, g1, g2⟩⟩
      · refine Or.inl ⟨r, r1, by omega, ?_⟩
        rw [r2, ← ag_lib K hl he2 hd j4 g]
        exact a4
      · exfalso
        refine a4 (Or.inl ?_)
        rw [g2]
        decide
      · refine Or.inr ⟨g, p', f, g1, ?_⟩
        rw [← ag_eq K hl he2 (fn_in K (Int.le_refl _) g1) hd g2]
        exact a4
  · rintro (⟨a1, a2, a3⟩ | ⟨a0, a1, a2⟩)
    · refine Or.inl ⟨a2.2, a1, ?_⟩
      obtain ⟨v, hv⟩ := dfi_ex (w := w) ((p : Int) + 1) d
      rw [hx]
      refine ⟨v, hv, ?_⟩
      rcases df_eq K hl he2 hd (q := p) (by omega) hv with ⟨j, _, g, _⟩ | ⟨⟨r, r1, r2⟩, ⟨g1, g2⟩ | ⟨p', f, _, g⟩⟩
      · omega
      · exfalso
        rcases a3 with ⟨r', r1', r2'⟩ | g
        · have := lib_neg r1 r1'
          omega
        · exact fnd_not g1 g
      · omega
    · have k4 : ¬ (σ 13 e).toInt = 1 := by have := a1.2; omega
      obtain ⟨v, hv⟩ := dfi_ex (w := w) (w 10 5).toInt d
      have hv2 := dq hv
      rcases a2 with ⟨b1, b2, ⟨r, r1, r2⟩, b3⟩ | ⟨b1, b2⟩
      · refine Or.inr (Or.inl ⟨k4, b1, b2, v, hv, ?_⟩)
        rcases hv2 with ⟨j, _, g, r', r1', r2'⟩ | ⟨_, ⟨_, g⟩ | ⟨p', f, g, _⟩⟩
        · have := lib_neg r1 r1'
          omega
        · rw [g]; decide
        · exact absurd ⟨p', f, g⟩ (fnd_not b3)
      · refine Or.inr (Or.inr ⟨k4, (by first | exact b1 | (clear hv hv2 b2 dq; omega)), v, hv, ?_⟩)
        rcases b2 with ⟨r, r1, r2, r3⟩ | ⟨⟨r, r1, r2⟩, p', f, g1, g2⟩
        · rcases hv2 with ⟨j, j4, g, r', r1', r2'⟩ | ⟨⟨r', r1', r2'⟩, _⟩
          · rw [ag_lib K hl he2 hd j4 g, ← r2', ← lib_neg r1 r1']
            exact r3
          · have := lib_neg r1 r1'
            omega
        · rcases hv2 with ⟨j, _, _, r', r1', r2'⟩ | ⟨_, ⟨g, _⟩ | ⟨p2, f2, g3, g4⟩⟩
          · have := lib_neg r1 r1'
            omega
          · exact absurd ⟨p', f, g1⟩ (fnd_not g)
          · obtain ⟨_, u⟩ := fnd_uniq g1 g3
            rw [ag_eq K hl he2 (fn_in K (Int.le_refl _) g3) hd g4, ← u]
            exact g2
/-- where the class stands, told by the reference's numbers -/
theorem at_ref (K : LKx w σ τ vs o) (h1 : 1 ≤ x.toInt) (h2 : x.toInt < (w 10 5).toInt) (hr : RGi w x d) (hn : ¬ FLb (atv 10100 (w 25) d) 2) : ∃ p e : Nat, (p : Int) < (σ 0 67).toInt ∧ x.toInt = (p : Int) + 1 ∧ d.toInt = ((e + 4 : Nat) : Int) ∧ InO σ (PO σ p) e ∧ (σ 12 e).toInt = 0 := by
  have pk1 := K.2.2.2.2.1.1
  obtain ⟨p, hp⟩ : ∃ p : Nat, x.toInt = (p : Int) + 1 := ⟨(x.toInt - 1).toNat, by omega⟩
  obtain ⟨_, _, g3, g4, g5, g6⟩ := rg_at K (p := p) (by omega) hp
  obtain ⟨e, he⟩ : ∃ e : Nat, d.toInt = ((e + 4 : Nat) : Int) := ⟨(d.toInt - 4).toNat, by have := hr.1; omega⟩
  have hin : InO σ (PO σ p) e := ⟨by have := hr.1; omega, by have := hr.2; omega⟩
  refine ⟨p, e, by omega, hp, he, hin, ?_⟩
  have hf := (fl_at K (f := e) (d := d) (by have := hin.2; omega) (kx_le K) he).2.1
  exact Classical.byContradiction (fun hc => hn (hf.2 hc))
theorem at_cls (K : LKx w σ τ vs o) (hp : (p : Int) < (σ 0 67).toInt) (he : InO σ (PO σ p) e) (hs : (σ 12 e).toInt = 0) (hx : x.toInt = (p : Int) + 1) (hd : d.toInt = ((e + 4 : Nat) : Int)) : (1 ≤ x.toInt ∧ x.toInt < (w 10 5).toInt) ∧ RGi w x d ∧ ¬ FLb (atv 10100 (w 25) d) 2 := by
  obtain ⟨_, g2, g3, g4, g5, g6⟩ := rg_at K hp hx
  have hf := (fl_at K (f := e) (d := d) (by have := he.2; omega) (kx_le K) hd).2.1
  exact ⟨⟨by omega, g2⟩, ⟨by have := he.1; omega, by have := he.2; omega⟩, fun g => (hf.1 g) hs⟩
theorem no_eq (K : LKx w σ τ vs o) (hk : 31 ≤ kind ∧ kind ≤ 33) : NOc w kind ↔ NOm σ kind (σ 0 67).toInt := by
  have pl := pik_le K
  have hl := kx_le K
  constructor
  · intro h p hp e he hs g
    have hx : (nI (p + 1)).toInt = (p : Int) + 1 := by rw [nI_toInt (by omega)]; rfl
    obtain ⟨_, _, _, _, _, g6⟩ := rg_at K hp hx
    have hd : (nI (e + 4)).toInt = ((e + 4 : Nat) : Int) := nI_toInt (by have := he.2; omega)
    obtain ⟨c1, c2, c3⟩ := at_cls K hp he hs hx hd
    exact h _ c1.1 c1.2 _ c2 c3 ((wr_eq K hp he hs hx hd hk).2 g)
  · intro h x h1 h2 d hr hn g
    obtain ⟨p, e, a1, a2, a3, a4, a5⟩ := at_ref K h1 h2 hr hn
    exact h p a1 e a4 a5 ((wr_eq K a1 a4 a5 a2 a3 hk).1 g)
theorem fr_ref (K : LKx w σ τ vs o) (hk : 31 ≤ kind ∧ kind ≤ 33) (h : FRc w kind x d c) : ∃ p e : Nat, x.toInt = (p : Int) + 1 ∧ FRm σ kind (σ 0 67).toInt p e c := by
  have pl := pik_le K
  have hl := kx_le K
  obtain ⟨⟨h1, h2⟩, ⟨hr, hn, hw⟩, h3, h4, h5⟩ := h
  obtain ⟨p, e, a1, a2, a3, a4, a5⟩ := at_ref K h1 h2 hr hn
  obtain ⟨_, _, g3, g4, g5, g6⟩ := rg_at K a1 a2
  refine ⟨p, e, a2, a1, ⟨a4, a5, (wr_eq K a1 a4 a5 a2 a3 hk).1 hw⟩, fun p' hp' e' he' hs' g => ?_, fun e' he' hlt hs' g => ?_, ?_⟩
  · have hx : (nI (p' + 1)).toInt = (p' : Int) + 1 := by rw [nI_toInt (by omega)]; rfl
    obtain ⟨_, _, _, _, _, g6'⟩ := rg_at K (p := p') (by omega) hx
    have hd : (nI (e' + 4)).toInt = ((e' + 4 : Nat) : Int) := nI_toInt (by have := he'.2; omega)
    obtain ⟨c1, c2, c3⟩ := at_cls K (by omega) he' hs' hx hd
    exact h3 _ c1.1 (by omega) _ c2 c3 ((wr_eq K (by omega) he' hs' hx hd hk).2 g)
  · have hd : (nI (e' + 4)).toInt = ((e' + 4 : Nat) : Int) := nI_toInt (by have := he'.2; omega)
    obtain ⟨c1, c2, c3⟩ := at_cls K a1 he' hs' a2 hd
    exact h4 _ c2 (by omega) c3 ((wr_eq K a1 he' hs' a2 hd hk).2 g)
  · have ha := a4.1
    rw [h5, show (d.toInt - LOi w x).toNat = ((e : Int) - fO σ (PO σ p)).toNat from by omega]
    refine congrArg (fun n : Nat => (n : Int)) (cz_eq (fun i hi => ?_))
    have hf := (fl_at K (f := (fO σ (PO σ p)).toNat + i) (d := nI ((fO σ (PO σ p)).toNat + i + 4)) (by have := a4.2; omega) hl (nI_toInt (by have := a4.2; omega))).2.1
    rw [atv_at (nI_toInt (by have := a4.2; omega)) (by have := a4.2; omega)] at hf
    rw [show (LOi w x).toNat + i = (fO σ (PO σ p)).toNat + i + 4 from by omega]
    unfold FLb at hf
    exact ⟨fun hz => Classical.byContradiction (fun hc => (hf.2 hc) hz), fun hz => Classical.byContradiction (fun hc => (hf.1 hc) hz)⟩
theorem frm_uniq {n : Int} {p2 e2 : Nat} (h : FRm σ kind n p e c) (g : FRm σ kind n p2 e2 c2) : p = p2 ∧ c = c2 := by
  obtain ⟨h1, ⟨h2, h3, h4⟩, h5, h6, h7⟩ := h
  obtain ⟨g1, ⟨g2, g3, g4⟩, g5, g6, g7⟩ := g
  have ep : p = p2 := by
    rcases Nat.lt_trichotomy p p2 with l | l | l
    · exact absurd h4 (g5 p l e h2 h3)
    · exact l
    · exact absurd g4 (h5 p2 l e2 g2 g3)
  subst ep
  have ee : e = e2 := by
    rcases Nat.lt_trichotomy e e2 with l | l | l
    · exact absurd h4 (g6 e h2 l h3)
    · exact l
    · exact absurd g4 (h6 e2 g2 l g3)
  subst ee
  exact ⟨rfl, ieq (by rw [h7, g7])⟩
/-- a name is main -/
def NM4 (σ : St) (f : Nat) : Prop := (σ 19 f).toInt = 4 ∧ nfm σ f 0 = 109 ∧ nfm σ f 1 = 97 ∧ nfm σ f 2 = 105 ∧ nfm σ f 3 = 110
theorem nm4_sam (he : NM4 σ e) (hf : NM4 σ f) : ALK σ e f := by
  obtain ⟨a0, a1, a2, a3, a4⟩ := he
  obtain ⟨b0, b1, b2, b3, b4⟩ := hf
  refine ⟨by omega, fun k hk => ?_⟩
  rcases (by omega : k = 0 ∨ k = 1 ∨ k = 2 ∨ k = 3) with g | g | g | g <;> rw [g]
  · rw [a1, b1]
  · rw [a2, b2]
  · rw [a3, b3]
  · rw [a4, b4]
theorem sma_at : (sc0 55 0).toInt = 109 ∧ (sc0 55 1).toInt = 97 ∧ (sc0 55 2).toInt = 105 ∧ (sc0 55 3).toInt = 110 := by decide +kernel
theorem lb_main : ∀ j, j < 4 → lbL j = 4 → (sc0 30 (lbS j)).toInt ≠ 109 := by decide +kernel
/-- main is looked for alike -/
theorem mn_fit (K : LKx w σ τ vs o) (h55 : ∀ i, i < 4 → w 55 i = sc0 55 i) (hf : (f : Int) < (σ 0 36).toInt) (hd : d.toInt = ((f + 4 : Nat) : Int)) : CDi w (w 55) 4 0 4 d ↔ ((σ 12 f).toInt = 0 ∧ (σ 13 f).toInt = 1) ∧ NM4 σ f := by
  have hl := kx_le K
  obtain ⟨_, f2, f4, _, _, _⟩ := fl_at K hf hl hd
  obtain ⟨h, hG, r, re, pk, rf⟩ := K
  obtain ⟨_, _, _, _, b1, b2, b3, b4, b5, b6, b7⟩ := rf.2.1 f hf
  have n57 := h.2.2.2.2.1.2.2
  have f65 := h.2.2.2.2.1.1
  have y1 : atv 10100 (w 29) d = w 29 (f + 4) := atv_at hd (by omega)
  have y2 : atv 10100 (w 29) (d - (1 : Int32)) = w 29 (f + 3) := atv_at (by rw [sb (by rw [i1]; omega) (by rw [i1]; omega), i1]; omega) (by omega)
  have z2 : ((w 29 (f + 4)) - (w 29 (f + 3))).toInt = (σ 19 f).toInt := by rw [sb (by omega) (by omega)]; exact b1
  obtain ⟨m0, m1, m2, m3⟩ := sma_at
  have e4 : (4 : Int32).toInt = 4 := rfl
  have e0 : (0 : Int32).toInt = 0 := rfl
  have by' : ∀ k : Nat, (k : Int) < (σ 19 f).toInt → (w 30 ((w 29 (f + 3)).toInt + (k : Int)).toNat).toInt = nfm σ f k := fun k hk => by
    unfold nfm
    rw [show ((w 29 (f + 3)).toInt + (k : Int)).toNat = (w 29 (f + 3)).toInt.toNat + k from by omega, show ((σ 18 f).toInt + (k : Int)).toNat = (σ 18 f).toInt.toNat + k from by omega]
    exact (b7 k hk).1
  have mb : ∀ k : Nat, k < 4 → (w 55 ((0 : Int) + (k : Int)).toNat).toInt = (sc0 55 k).toInt := fun k hk => by rw [show ((0 : Int) + (k : Int)).toNat = k from by omega, h55 k hk]
  unfold CDi NMq NM4
  rw [f2, f4, y1, y2, z2, e4, e0]
  constructor
  · rintro ⟨c1, c2, c3, c4⟩
    have q : ∀ k : Nat, k < 4 → nfm σ f k = (sc0 55 k).toInt := fun k hk => by
      rw [← by' k (by omega), ← mb k hk]
      exact (c4 k (by omega)).2.2.2
    exact ⟨⟨Classical.byContradiction c2, c1⟩, c3, by rw [q 0 (by decide), m0], by rw [q 1 (by decide), m1], by rw [q 2 (by decide), m2], by rw [q 3 (by decide), m3]⟩
  · rintro ⟨⟨c1, c2⟩, c3, d0, d1, d2, d3⟩
    refine ⟨c2, fun g => g c1, c3, fun k hk => ⟨by omega, Int.le_refl _, by show (0 : Int) + (k : Int) < ((4 : Nat) : Int); omega, ?_⟩⟩
    rw [by' k (by omega), mb k (by omega)]
    rcases (by omega : k = 0 ∨ k = 1 ∨ k = 2 ∨ k = 3) with g | g | g | g <;> rw [g]
    · rw [d0, m0]
    · rw [d1, m1]
    · rw [d2, m2]
    · rw [d3, m3]
theorem mn_lib (K : LKx w σ τ vs o) (h55 : ∀ i, i < 4 → w 55 i = sc0 55 i) (hj : j < 4) (hd : d.toInt = (j : Int)) : ¬ CDi w (w 55) 4 0 4 d := by
  obtain ⟨h, hG, r, re, pk, rf⟩ := K
  have lb := lb_ends j hj
  have y1 : (atv 10100 (w 29) d).toInt = ((lbS j + lbL j : Nat) : Int) := by
    rw [atv_at hd (by omega), (rf.1.1 j hj).2.2.2.2]
    exact lb.1
  have y2 : (atv 10100 (w 29) (d - (1 : Int32))).toInt = (lbS j : Int) := by
    have ed : (d - (1 : Int32)).toInt = (j : Int) - 1 := by rw [sb (by rw [i1]; omega) (by rw [i1]; omega), i1, hd]
    by_cases j0 : j = 0
    · rw [j0] at ed ⊢
      rcases atv_cases 10100 (w 29) (d - (1 : Int32)) with ⟨g1, g2⟩ | ⟨i, g1, g2, g3⟩
      · rw [g1]; rfl
      · omega
    · rw [atv_at (j := j - 1) (by rw [ed]; omega) (by omega), (rf.1.1 (j - 1) (by omega)).2.2.2.2, lb_starts (j - 1) (by omega), show j - 1 + 1 = j from by omega]
  have z2 : ((atv 10100 (w 29) d) - (atv 10100 (w 29) (d - (1 : Int32)))).toInt = (lbL j : Int) := by rw [sb (by omega) (by omega)]; omega
  rintro ⟨_, _, c3, c4⟩
  rw [z2, show (4 : Int32).toInt = 4 from rfl] at c3
  have hb := (c4 0 (by rw [show (4 : Int32).toInt = 4 from rfl]; omega)).2.2.2
  rw [y2, show ((lbS j : Int) + ((0 : Nat) : Int)).toNat = lbS j from by omega, show ((0 : Int32).toInt + ((0 : Nat) : Int)).toNat = 0 from rfl, rf.1.2 (lbS j) (by omega), h55 0 (by decide), sma_at.1] at hb
  exact lb_main j hj (by omega) hb
/-- the first main is one to begin with on both sides or on none -/
theorem mn_eq (K : LKx w σ τ vs o) (h55 : ∀ i, i < 4 → w 55 i = sc0 55 i) (hno : NOm σ 31 (σ 0 67).toInt) (hm : MFc w m) : (MNc w m → ∃ f, MFm σ (σ 0 67).toInt f ∧ m.toInt = ((f + 4 : Nat) : Int)) ∧ ∀ f, MFm σ (σ 0 67).toInt f → MNc w m ∧ m.toInt = ((f + 4 : Nat) : Int) := by
  have pl := pik_le K
  have hl := kx_le K
  have pk1 := K.2.2.2.2.1.1
  have z0 : ((0 : Int32)).toInt = 0 := rfl
  have lz := rg_lib K z0
  -- where m stands
  have place : ∀ x : Int32, 0 ≤ x.toInt → x.toInt < (w 10 5).toInt → RGi w x m → CDi w (w 55) 4 0 4 m → ∃ p f : Nat, (p : Int) < (σ 0 67).toInt ∧ x.toInt = (p : Int) + 1 ∧ m.toInt = ((f + 4 : Nat) : Int) ∧ InO σ (PO σ p) f ∧ ((σ 12 f).toInt = 0 ∧ (σ 13 f).toInt = 1) ∧ NM4 σ f := fun x x0 x1 hr hc => by
    by_cases e0 : x.toInt = 0
    · obtain ⟨a1, a2⟩ := rg_lib K e0
      have b1 := hr.1
      have b2 := hr.2
      exact absurd hc (mn_lib K h55 (j := m.toInt.toNat) (by omega) (by omega))
    · obtain ⟨p, hp⟩ : ∃ p : Nat, x.toInt = (p : Int) + 1 := ⟨(x.toInt - 1).toNat, by omega⟩
      obtain ⟨_, _, g3, g4, g5, g6⟩ := rg_at K (p := p) (by omega) hp
      obtain ⟨f, hf⟩ : ∃ f : Nat, m.toInt = ((f + 4 : Nat) : Int) := ⟨(m.toInt - 4).toNat, by have := hr.1; omega⟩
      have hin : InO σ (PO σ p) f := ⟨by have := hr.1; omega, by have := hr.2; omega⟩
      have ht := (mn_fit K h55 (f := f) (by have := hin.2; omega) hf).1 hc
      exact ⟨p, f, by omega, hp, hf, hin, ht.1, ht.2⟩
  -- its type
  have typ : ∀ f : Nat, (f : Int) < (σ 0 36).toInt → m.toInt = ((f + 4 : Nat) : Int) → (MNc w m ↔ (σ 9 f).toInt = 2 ∧ (σ 10 f).toInt = 0 ∧ (σ 15 f).toInt = 0) := fun f hf hmf => by
    obtain ⟨f1, _, _, _, f9, _⟩ := fl_at K hf hl hmf
    have K2 := K
    obtain ⟨h, hG, r, re, pk, rf⟩ := K2
    obtain ⟨a1, _, _, a4, _⟩ := rf.2.1 f hf
    have x26 : atv 10100 (w 26) m = w 26 (f + 4) := atv_at hmf (by omega)
    have x27 : atv 10100 (w 27) m = w 27 (f + 4) := atv_at hmf (by omega)
    have x25 : FLb (atv 10100 (w 25) m) 1 ↔ FLq w (f + 4) 1 := by rw [atv_at hmf (by omega)]; exact Iff.rfl
    unfold MNc
    rw [f1, x26, x27, a1]
    have s0 : FLq w (f + 4) 1 → ((w 27 (f + 4)).toInt = 0 ↔ (σ 15 f).toInt = 0) := fun y => by
      obtain ⟨a5, a6, a7, l, a8, a9, a10⟩ := a4 y
      obtain ⟨s1, s2⟩ := sg_says a8 a9 a10
      have eg : (w 27 (f + 4)).toInt = 16777216 * (l.length : Int) + (sgV l : Int) := by
        rw [a10]
        unfold sgI sgX
        omega
      have len : (l.length : Int) = (σ 15 f).toInt := by rw [← s1]; exact a5
      constructor
      · intro g
        omega
      · intro g
        have ln : l = [] := List.eq_nil_of_length_eq_zero (by omega)
        rw [eg, ln]
        rfl
    constructor
    · rintro ⟨b1, b2, b3, b4⟩
      exact ⟨by omega, b3, (s0 (x25.1 (f1.2 b2))).1 b4⟩
    · rintro ⟨b2, b3, b4⟩
      exact ⟨by omega, by omega, b3, (s0 (x25.1 (f1.2 (by omega)))).2 b4⟩
  refine ⟨fun hn => ?_, fun f hf => ?_⟩
  · rcases hm with ⟨h1, _⟩ | ⟨x, h1, h2, h3, _, _⟩
    · have := hn.1
      rw [h1] at this
      exact absurd this (by decide)
    · obtain ⟨p, f, a1, a2, a3, a4, a5, a6⟩ := place x h1.1 h1.2 h2 h3
      obtain ⟨_, _, _, _, _, g6⟩ := rg_at K a1 a2
      have hf : (f : Int) < (σ 0 36).toInt := by have := a4.2; omega
      exact ⟨f, ⟨p, a1, a4, a6, a5, (typ f hf a3).1 hn⟩, a3⟩
  · obtain ⟨p, hp, hin, n4, hsd, hty⟩ := hf
    have hx : (nI (p + 1)).toInt = (p : Int) + 1 := by rw [nI_toInt (by omega)]; rfl
    obtain ⟨_, _, g3, g4, g5, g6⟩ := rg_at K hp hx
    have hf2 : (f : Int) < (σ 0 36).toInt := by have := hin.2; omega
    have hd : (nI (f + 4)).toInt = ((f + 4 : Nat) : Int) := nI_toInt (by omega)
    have cand : CDi w (w 55) 4 0 4 (nI (f + 4)) := (mn_fit K h55 hf2 hd).2 ⟨hsd, n4⟩
    have rg : RGi w (nI (p + 1)) (nI (f + 4)) := ⟨by have := hin.1; omega, by have := hin.2; omega⟩
    rcases hm with ⟨_, h2⟩ | ⟨x, h1, h2, h3, h4, h5⟩
    · exact absurd cand (h2 _ (by omega) (by omega) _ rg)
    · obtain ⟨p', f', a1, a2, a3, a4, a5, a6⟩ := place x h1.1 h1.2 h2 h3
      have hle : p' ≤ p := by
        by_cases c : p < p'
        · exact absurd cand (h4 _ (by omega) (by omega) _ rg)
        · omega
      have ef : p' = p ∧ f' = f := by
        by_cases c : p' = p
        · refine ⟨c, ?_⟩
          rw [c] at a2 a4
          have exx : x = nI (p + 1) := ieq (by omega)
          rw [exx] at h5
          have hle2 : f' ≤ f := by
            by_cases c2 : f < f'
            · exact absurd cand (h5 _ rg (by omega))
            · omega
          by_cases c2 : f' = f
          · exact c2
          · exfalso
            have K2 := K
            obtain ⟨h, hG, r, re, pk, rf⟩ := K2
            have po := po_obj hG (p := p) hp
            refine rf.2.2.1 (PO σ p) po.2.1.2 f' f a4.1 (by omega) hin.2 ?_
            have al := nm4_sam a6 n4
            refine ⟨al.1, fun k hk => ?_⟩
            have := al.2 k hk
            unfold nfm at this
            obtain ⟨_, _, _, _, n1⟩ := rf.2.1 f hf2
            obtain ⟨_, _, _, _, n2⟩ := rf.2.1 f' (by omega)
            have p1 := n1.2.2.2.1
            have p2 := n2.2.2.2.1
            rw [show ((σ 18 f').toInt + (k : Int)).toNat = (σ 18 f').toInt.toNat + k from by omega, show ((σ 18 f).toInt + (k : Int)).toNat = (σ 18 f).toInt.toNat + k from by omega] at this
            exact this
        · exfalso
          refine hno p hp f hin hsd.1 (Or.inl ⟨rfl, hsd, ?_⟩)
          obtain ⟨v, hv⟩ := dfi_ex (w := w) ((p : Int) + 1) (nI (f + 4))
          rcases df_eq K hl hf2 hd (q := p) (by omega) hv with ⟨j, _, _, r, r1, r2⟩ | ⟨_, ⟨g, _⟩ | ⟨q, f2, g, _⟩⟩
          · exact Or.inl ⟨r, r1, by omega⟩
          · exact absurd ⟨a5.1, a5.2, nm4_sam n4 a6⟩ (g p' (by omega) f' a4)
          · exact Or.inr ⟨q, f2, g⟩
      rw [ef.2] at a3
      exact ⟨(typ f hf2 a3).2 hty, a3⟩
/-- cells of data, alike -/
theorem ds_eq (K : LKx w σ τ vs o) : DSc w = SUMd σ (σ 0 67).toInt.toNat ∧ ∀ i : Nat, i < (w 10 5).toInt.toNat - 1 → 0 ≤ (w 37 (w 56 (i + 1)).toInt.toNat).toInt ∧ (w 37 (w 56 (i + 1)).toInt.toNat).toInt ≤ 16000 := by
  have pl := pik_le K
  obtain ⟨h, hG, r, re, pk, rf⟩ := K
  have pk1 := pk.1
  have one : ∀ i : Nat, (i : Int) < (σ 0 67).toInt → (w 37 (w 56 (i + 1)).toInt.toNat).toInt = (σ 23 (PO σ i)).toInt := fun i hi => by
    have po := po_obj hG (p := i) hi
    rw [pk.2 i hi, show (σ 40 i).toInt.toNat = PO σ i + 1 from by have := po.2.1.1; omega]
    exact re.2.1 (PO σ i) (by have := po.2.1.2; have := r.1; omega)
  refine ⟨?_, fun i hi => ?_⟩
  · unfold DSc
    rw [show (w 10 5).toInt.toNat - 1 = (σ 0 67).toInt.toNat from by omega]
    have : ∀ n : Nat, (n : Int) ≤ (σ 0 67).toInt → dsm (fun i => (w 37 (w 56 (i + 1)).toInt.toNat).toInt) n = SUMd σ n := fun n => by
      induction n with
      | zero => exact fun _ => rfl
      | succ n ih =>
        intro hn
        rw [dsm_s, ih (by omega)]
        show _ + (w 37 (w 56 (n + 1)).toInt.toNat).toInt = SUMd σ n + (σ 23 (PO σ n)).toInt
        rw [one n (by omega)]
    exact this _ (by omega)
  · rw [one i (by omega)]
    exact (po_obj hG (p := i) (by omega)).2.2.2.1
/-- link(): one answer; what it leaves that other calls tell is alike -/
theorem ln_eq {v2 : Int32} (K : LKx w σ τ vs o) (ka : LKa w σ) (c : LNc w v t) (m : LNm σ v2 s) : v = v2 ∧ LKa t s := by
  have pl := pik_le K
  obtain ⟨k55, kr, k3, k4, k11⟩ := ka
  have nk : ∀ k : Int, 31 ≤ k → k < 34 → (NOc w k ↔ NOm σ k (σ 0 67).toInt) := fun k k1 k2 => no_eq K ⟨k1, by omega⟩
  have l0 : LN0 w 10 2 = w 10 2 := rfl
  have notboth : ∀ {kind x d cc}, (31 ≤ kind ∧ kind ≤ 33) → FRc w kind x d cc → ¬ NOm σ kind (σ 0 67).toInt := fun {kind x d cc} hk hf hn => by
    obtain ⟨p, e, _, g1, ⟨g2, g3, g4⟩, _⟩ := fr_ref K hk hf
    exact hn p g1 e g2 g3 g4
  have notboth2 : ∀ {kind p e cc}, FRm σ kind (σ 0 67).toInt p e cc → ¬ NOm σ kind (σ 0 67).toInt := fun {kind p e cc} hf hn => hn p hf.1 e hf.2.1.1 hf.2.1.2.1 hf.2.1.2.2
  rcases c with ⟨kind, x, d, cc, c1, c2, c3, c4, c5⟩ | ⟨c1, mm, c2, c3⟩
  · rcases m with ⟨kind2, p2, e2, cc2, s', m1, m2, m0, m3, m4, m5, m6⟩ | ⟨m1, _⟩
    · have ek : kind = kind2 := by
        refine ieq ?_
        rcases (by omega : kind.toInt < kind2.toInt ∨ kind.toInt = kind2.toInt ∨ kind2.toInt < kind.toInt) with l | l | l
        · exact absurd (m2 kind.toInt c1.1 l) (notboth c1 c3)
        · exact l
        · exact absurd ((nk kind2.toInt m1.1 (by omega)).1 (c2 kind2.toInt m1.1 l)) (notboth2 m3)
      subst ek
      obtain ⟨p, e, hx, hf⟩ := fr_ref K c1 c3
      obtain ⟨u1, u2⟩ := frm_uniq hf m3
      refine ⟨by rw [c4, m4], ?_⟩
      rw [c5, m6]
      refine ⟨fun i hi => ?_, ?_, ?_, ?_, ?_⟩
      · rw [rdC_ne (by decide), rdC_ne (by decide), rdC_ne (by decide), ln0_rows 55 (by decide)]
        exact k55 i hi
      · rw [rdA_ne (by decide), rdA_ne (by decide), rdA_ne (by decide), rdA_ne (by decide), rdA_ne (by decide), show s' 0 70 = σ 0 70 from m5 0 70 rfl rfl, l0]
        exact kr
      · have n0 := nt m0
        have n1 := (s_rng p2).2
        rw [rdA_ne (by decide), rdA_ne (by decide), rdA_eq rfl, rdA_ne (by decide), rdA_eq rfl, sb (by rw [i1]; omega) (by rw [i1]; omega), i1, hx, u1]
        omega
      · rw [rdA_ne (by decide), rdA_eq rfl, rdA_eq rfl, u2]
      · rw [rdC_ne (by decide), rdC_ne (by decide), rdC_ne (by decide), ln0_rows 11 (by decide), rdA_ne (by decide), rdA_ne (by decide), show s' 0 88 = σ 0 88 from m5 0 88 rfl rfl]
        exact k11
    · exact absurd (m1 kind.toInt c1.1 (by omega)) (notboth c1 c3)
  · have allm : ∀ k : Int, 31 ≤ k → k < 34 → NOm σ k (σ 0 67).toInt := fun k k1 k2 => (nk k k1 k2).1 (c1 k k1 k2)
    rcases m with ⟨kind2, p2, e2, cc2, s', m1, m2, m0, m3, m4, m5, m6⟩ | ⟨_, m1⟩
    · exact absurd (allm kind2.toInt m1.1 (by omega)) (notboth2 m3)
    · obtain ⟨q1, q2⟩ := mn_eq K k55 (allm 31 (by decide) (by decide)) c2
      obtain ⟨d1, _⟩ := ds_eq K
      have same : ∀ a : St, Kp [(0, 73), (0, 74)] [] (LM0 σ) a → LKa (upC (LN0 w) 10 5 (1 : Int32)) a := fun a ha => by
        refine ⟨fun i hi => ?_, ?_, ?_, ?_, ?_⟩
        · rw [rdC_ne (by decide), ln0_rows 55 (by decide)]
          exact k55 i hi
        · rw [rdA_ne (by decide), show a 0 70 = σ 0 70 from ha 0 70 rfl rfl, l0]
          exact kr
        · rw [rdA_ne (by decide), show a 0 71 = -1 from ha 0 71 rfl rfl]
          rfl
        · rw [rdA_ne (by decide), show a 0 72 = -1 from ha 0 72 rfl rfl]
          rfl
        · rw [rdC_ne (by decide), ln0_rows 11 (by decide), show a 0 88 = σ 0 88 from ha 0 88 rfl rfl]
          exact k11
      rcases c3 with ⟨n1, n2, n3⟩ | ⟨n1, n2⟩
      · rcases m1 with ⟨_, g2, g3⟩ | ⟨f, g, _⟩
        · rw [n3]
          exact ⟨by rw [n2, g2], same s g3⟩
        · exact absurd (q2 f g).1 n1
      · obtain ⟨f0, hf0, _⟩ := q1 n1
        rcases m1 with ⟨g, _⟩ | ⟨f, g, g2⟩
        · exact absurd hf0 (g f0)
        · rcases n2 with ⟨a1, a2, a3⟩ | ⟨a1, a2, s9, a3, a4⟩
          · rcases g2 with ⟨b1, b2, b3⟩ | ⟨b1, _⟩
            · rw [a3]
              exact ⟨by rw [a2, b2], same s b3⟩
            · omega
          · rcases g2 with ⟨b1, _⟩ | ⟨b1, b2, s1, s2, b3, b4, b5⟩
            · omega
            · refine ⟨by rw [a2, b2], ?_⟩
              rw [a4, b5]
              have r70 : (upC s2 0 70 (σ 0 67)) 0 70 = σ 0 67 := rfl
              refine ⟨fun i hi => ?_, ?_, ?_, ?_, ?_⟩
              · rw [rdC_ne (by decide), rdC_ne (by decide), rdC_ne (by decide), show s9 55 i = LN0 w 55 i from a3 55 i rfl rfl, ln0_rows 55 (by decide)]
                exact k55 i hi
              · rw [rdA_ne (by decide), rdA_eq rfl, r70]
                exact ⟨fun _ => pl.1, fun _ => by decide⟩
              · rw [rdA_ne (by decide), rdA_ne (by decide), rdA_ne (by decide), show s9 10 3 = LN0 w 10 3 from a3 10 3 rfl rfl, rdA_ne (by decide), show s2 0 71 = (upC s1 0 78 (σ 17 f)) 0 71 from b4 0 71 rfl rfl, rdA_ne (by decide), show s1 0 71 = LM0 σ 0 71 from b3 0 71 rfl rfl]
                rfl
              · rw [rdA_ne (by decide), rdA_ne (by decide), rdA_ne (by decide), show s9 10 4 = LN0 w 10 4 from a3 10 4 rfl rfl, rdA_ne (by decide), show s2 0 72 = (upC s1 0 78 (σ 17 f)) 0 72 from b4 0 72 rfl rfl, rdA_ne (by decide), show s1 0 72 = LM0 σ 0 72 from b3 0 72 rfl rfl]
                rfl
              · rw [rdC_ne (by decide), rdC_ne (by decide), rdC_ne (by decide), show s9 11 0 = LN0 w 11 0 from a3 11 0 rfl rfl, ln0_rows 11 (by decide), rdA_ne (by decide), show s2 0 88 = (upC s1 0 78 (σ 17 f)) 0 88 from b4 0 88 rfl rfl, rdA_ne (by decide), show s1 0 88 = LM0 σ 0 88 from b3 0 88 rfl rfl]
                exact k11
end LBQ
end

