/-! link: names, the library, what is found -/
def nfm (σ : St) (e k : Nat) : Int := ((σ 20) (((σ 18) e).toInt + k).toNat).toInt
def ALK (σ : St) (e f : Nat) : Prop := ((σ 19) e).toInt = ((σ 19) f).toInt ∧ ∀ k : Nat, (k : Int) < ((σ 19) e).toInt → nfm σ e k = nfm σ f k
def MT (σ : St) (e f : Nat) : Prop := ((σ 12) f).toInt = 0 ∧ ((σ 13) f).toInt = 1 ∧ ALK σ e f
def PO (σ : St) (p : Nat) : Nat := (((σ 40) p).toInt - 1).toNat
def NFD (σ : St) (e : Nat) (m : Int) : Prop := ∀ p : Nat, (p : Int) < m → ∀ f, InO σ (PO σ p) f → ¬ MT σ e f
def FND (σ : St) (e : Nat) (n : Int) (p f : Nat) : Prop := (p : Int) < n ∧ InO σ (PO σ p) f ∧ MT σ e f ∧ NFD σ e p ∧ ∀ f' : Nat, fO σ (PO σ p) ≤ (f' : Int) → f' < f → ¬ MT σ e f'
def RWS (σ : St) (n : Int) : Prop := (0 ≤ n ∧ n ≤ 100) ∧ NMo σ ∧ AllIn 0 8 (σ 15) ∧ ∀ p : Nat, (p : Int) < n → (1 ≤ ((σ 40) p).toInt ∧ ((σ 40) p).toInt ≤ 100) ∧ 0 ≤ fO σ (PO σ p) ∧ fO σ (PO σ p + 1) ≤ 10000 ∧ fO σ (PO σ p) ≤ 9900
def LBk (σ : St) (e k len : Nat) : Prop := ((σ 19) e).toInt = len ∧ ∀ j : Nat, j < len → (chI (SF 2 (k + j))).toInt = nfm σ e j
def LIB (σ : St) (e : Nat) (r : Int32) : Prop := (r.toInt = 0 ∧ LBk σ e 1 3) ∨ (r.toInt = 1 ∧ ¬ LBk σ e 1 3 ∧ LBk σ e 5 3) ∨ (r.toInt = 2 ∧ ¬ LBk σ e 1 3 ∧ ¬ LBk σ e 5 3 ∧ LBk σ e 9 5) ∨ (r.toInt = 3 ∧ ¬ LBk σ e 1 3 ∧ ¬ LBk σ e 5 3 ∧ ¬ LBk σ e 9 5 ∧ LBk σ e 15 4) ∨ (r.toInt = -1 ∧ ¬ LBk σ e 1 3 ∧ ¬ LBk σ e 5 3 ∧ ¬ LBk σ e 9 5 ∧ ¬ LBk σ e 15 4)
section FND
variable {σ s τ t : St} {vs z : List Nat}
theorem fnd_uniq {e p p' f f' : Nat} {n : Int} (h : FND σ e n p f) (g : FND σ e n p' f') : p = p' ∧ f = f' := by
  obtain ⟨h1, h2, h3, h4, h5⟩ := h
  obtain ⟨g1, g2, g3, g4, g5⟩ := g
  have ep : p = p' := by
    rcases Nat.lt_trichotomy p p' with c | c | c
    · exact absurd h3 (g4 p (by omega) f h2)
    · exact c
    · exact absurd g3 (h4 p' (by omega) f' g2)
  subst ep
  refine ⟨rfl, ?_⟩
  rcases Nat.lt_trichotomy f f' with c | c | c
  · exact absurd h3 (g5 f h2.1 c)
  · exact c
  · exact absurd g3 (h5 f' g2.1 c)
theorem lib_uniq {e : Nat} {r r' : Int32} (h : LIB σ e r) (g : LIB σ e r') : r.toInt = r'.toInt := by
  rcases h with ⟨h, a1⟩ | ⟨h, a1, a2⟩ | ⟨h, a1, a2, a3⟩ | ⟨h, a1, a2, a3, a4⟩ | ⟨h, a1, a2, a3, a4⟩ <;> rcases g with ⟨g, b1⟩ | ⟨g, b1, b2⟩ | ⟨g, b1, b2, b3⟩ | ⟨g, b1, b2, b3, b4⟩ | ⟨g, b1, b2, b3, b4⟩ <;> first | exact h.trans g.symm | contradiction
theorem sp_isSymbol {a d : Int32} {Q : Int32 → Prop} (ha : 0 ≤ a.toInt ∧ a.toInt < 10000) (k1 : ((σ 12) a.toNatClampNeg).toInt = 0 → ((σ 13) a.toNatClampNeg).toInt = d.toInt → Q 1) (k0 : ¬ (((σ 12) a.toNatClampNeg).toInt = 0 ∧ ((σ 13) a.toNatClampNeg).toInt = d.toInt) → Q 0) : wp_isSymbol a d σ τ vs Q := by
  unfold wp_isSymbol
  exact ⟨ha, fun c => k0 (fun q => c q.1), fun c => ⟨ha, fun c2 => k0 (fun q => c2 q.2), fun c2 => k1 c c2⟩⟩
theorem nf_ix (h : NMo σ) {e x : Int32} (h0 : 0 ≤ x.toInt) (h1 : x.toInt < ((σ 19) e.toNatClampNeg).toInt) : (0 ≤ ((σ 18) e.toNatClampNeg + x).toInt ∧ ((σ 18) e.toNatClampNeg + x).toInt < 65536) ∧ ((σ 20) ((σ 18) e.toNatClampNeg + x).toNatClampNeg).toInt = nfm σ e.toNatClampNeg x.toNatClampNeg := by
  obtain ⟨m1, m2, m3⟩ := h e.toNatClampNeg
  have e1 : ((σ 18) e.toNatClampNeg + x).toInt = ((σ 18) e.toNatClampNeg).toInt + x.toInt := ad (by omega) (by omega)
  refine ⟨by omega, ?_⟩
  unfold nfm
  rw [nt', e1, nt h0]
theorem sp_isAlike {a b : Int32} {Q : Int32 → Prop} (h : NMo σ) (ha : 0 ≤ a.toInt ∧ a.toInt < 10000) (hb : 0 ≤ b.toInt ∧ b.toInt < 10000) (k1 : ALK σ a.toNatClampNeg b.toNatClampNeg → Q 1) (k0 : ¬ ALK σ a.toNatClampNeg b.toNatClampNeg → Q 0) : wp_isAlike a b σ τ vs Q := by
  unfold wp_isAlike
  refine ⟨ha, hb, fun c => ?_, fun c => k0 (fun q => c q.1)⟩
  have e0 : (0 : Int32).toInt = 0 := by decide
  have ml := (h a.toNatClampNeg).2.1
  have ml2 := (h a.toNatClampNeg).2.2
  have ml3 := (h a.toNatClampNeg).1
  refine ⟨fun n x => (n : Int) = ((σ 19) a.toNatClampNeg).toInt - x.toInt ∧ 0 ≤ x.toInt ∧ ∀ k : Nat, (k : Int) < x.toInt → nfm σ a.toNatClampNeg k = nfm σ b.toNatClampNeg k, ⟨(((σ 19) a.toNatClampNeg).toInt).toNat, by omega, by omega, fun k hk => by omega⟩, ?_⟩
  rintro n x ⟨q1, q2, q3⟩
  have nx := nt q2
  refine ⟨ha, fun c2 => k1 ⟨c, fun k hk => q3 k (by omega)⟩, fun c2 => ?_⟩
  obtain ⟨i1, i2⟩ := nf_ix h (e := a) q2 c2
  obtain ⟨i3, i4⟩ := nf_ix h (e := b) q2 (by omega)
  have e1 := ad1 (x := x) (by omega)
  refine ⟨ha, i1, hb, i3, fun c3 => ⟨n - 1, by omega, by omega, by omega, fun k hk => ?_⟩, fun c3 => k0 (fun q => ?_)⟩
  · by_cases e : k = x.toNatClampNeg
    · rw [e, ← i2, ← i4]; exact c3
    · exact q3 k (by omega)
  · rw [i2, i4] at c3
    exact c3 (q.2 _ (by omega))
theorem po_of {n : Int} (h : RWS σ n) {p : Int32} (h0 : 0 ≤ p.toInt) (h1 : p.toInt < n) : (0 ≤ p.toInt ∧ p.toInt < 100) ∧ (0 ≤ ((σ 40) p.toNatClampNeg - (1 : Int32)).toInt ∧ ((σ 40) p.toNatClampNeg - (1 : Int32)).toInt < 100) ∧ ((σ 40) p.toNatClampNeg - (1 : Int32)).toNatClampNeg = PO σ p.toNatClampNeg ∧ (0 ≤ ((σ 40) p.toNatClampNeg).toInt ∧ ((σ 40) p.toNatClampNeg).toInt < 102) ∧ ((σ 40) p.toNatClampNeg).toNatClampNeg = PO σ p.toNatClampNeg + 1 ∧ 0 ≤ fO σ (PO σ p.toNatClampNeg) ∧ fO σ (PO σ p.toNatClampNeg + 1) ≤ 10000 ∧ (((σ 40) p.toNatClampNeg - (1 : Int32)) + (1 : Int32)) = (σ 40) p.toNatClampNeg ∧ fO σ (PO σ p.toNatClampNeg) ≤ 9900 := by
  have np := nt h0
  have hn := h.1
  obtain ⟨⟨g1, g2⟩, g3, g4, g5⟩ := h.2.2.2 p.toNatClampNeg (by omega)
  have e := sb1 (x := (σ 40) p.toNatClampNeg) (by omega)
  have e2 := ad1 (x := (σ 40) p.toNatClampNeg - (1 : Int32)) (by omega)
  refine ⟨by omega, by omega, by unfold PO; rw [nt', e], by omega, ?_, g3, g4, ieq (by omega), g5⟩
  have := nt (x := (σ 40) p.toNatClampNeg) (by omega)
  unfold PO
  omega
theorem sp_find {e n : Int32} {Q : Int32 → St → St → List Nat → Prop} (h : RWS σ n.toInt) (he : 0 ≤ e.toInt ∧ e.toInt < 10000) (k0 : NFD σ e.toNatClampNeg n.toInt → Q 0 σ τ vs) (k1 : ∀ p f : Int32, (0 ≤ p.toInt ∧ p.toInt < 100) → (0 ≤ f.toInt ∧ f.toInt < 10000) → FND σ e.toNatClampNeg n.toInt p.toNatClampNeg f.toNatClampNeg → Q 1 (upC (upC σ 0 73 p) 0 74 f) τ vs) : wp_find e n σ τ vs Q := by
  have hn := h.1
  have e0 : (0 : Int32).toInt = 0 := by decide
  have e1' : (1 : Int32).toInt = 1 := by decide
  unfold wp_find
  refine ⟨fun m p => (m : Int) = n.toInt - p.toInt ∧ 0 ≤ p.toInt ∧ NFD σ e.toNatClampNeg p.toInt, ⟨n.toInt.toNat, by omega, by omega, fun p hp => by omega⟩, ?_⟩
  rintro m p ⟨q1, q2, q3⟩
  refine ⟨fun c => k0 (fun p' hp' => q3 p' (by omega)), fun c => ?_⟩
  obtain ⟨i1, i2, i3, i4, i5, i6, i7, i8, i9⟩ := po_of h q2 c
  have np := nt q2
  have ep := ad1 (x := p) (by omega)
  rw [i3, i5]
  have ef : ((σ 22) (PO σ p.toNatClampNeg)).toInt = fO σ (PO σ p.toNatClampNeg) := rfl
  have ef2 : ((σ 22) (PO σ p.toNatClampNeg + 1)).toInt = fO σ (PO σ p.toNatClampNeg + 1) := rfl
  refine ⟨i1, by omega, fun m' f => m' = (fO σ (PO σ p.toNatClampNeg + 1) - f.toInt).toNat ∧ fO σ (PO σ p.toNatClampNeg) ≤ f.toInt ∧ ∀ f' : Nat, fO σ (PO σ p.toNatClampNeg) ≤ (f' : Int) → (f' : Int) < f.toInt → ¬ MT σ e.toNatClampNeg f', ⟨_, rfl, by omega, fun f' a b => by omega⟩, ?_⟩
  rintro m' f ⟨r1, r2, r3⟩
  have nf := nt (x := f) (by omega)
  refine ⟨i1, i4, fun c2 => ⟨m - 1, by omega, by omega, by omega, fun p' hp' f' hf' => ?_⟩, fun c2 => ?_⟩
  · by_cases e9 : p' = p.toNatClampNeg
    · subst e9
      exact r3 f' hf'.1 (by have := hf'.2; omega)
    · exact q3 p' (by omega) f' hf'
  have nl := ad1 (x := f) (by omega)
  have nxt9 : ¬ MT σ e.toNatClampNeg f.toNatClampNeg → ∃ m_1, m_1 < m' ∧ (m_1 = (fO σ (PO σ p.toNatClampNeg + 1) - (f + 1).toInt).toNat ∧ fO σ (PO σ p.toNatClampNeg) ≤ (f + 1).toInt ∧ ∀ f' : Nat, fO σ (PO σ p.toNatClampNeg) ≤ (f' : Int) → (f' : Int) < (f + 1).toInt → ¬ MT σ e.toNatClampNeg f') := fun hM => ⟨_, by omega, rfl, by omega, fun f' a b => by
    by_cases e9 : f' = f.toNatClampNeg
    · rw [e9]; exact hM
    · exact r3 f' a (by omega)⟩
  refine sp_isSymbol (by omega) (fun a1 a2 => ⟨¬ MT σ e.toNatClampNeg f.toNatClampNeg, nxt9, no1, fun _ => ?_⟩) (fun a1 => ⟨¬ MT σ e.toNatClampNeg f.toNatClampNeg, nxt9, fun _ q => a1 ⟨q.1, by rw [q.2.1, e1']⟩, no0⟩)
  rw [e1'] at a2
  refine sp_isAlike h.2.1 he (by omega) (fun al => ⟨fun _ => ?_, no1⟩) (fun al => ⟨no0, fun _ q => al q.2.2⟩)
  exact k1 p f i1 (by omega) ⟨by omega, ⟨by omega, by omega⟩, ⟨a1, a2, al⟩, fun p' hp' => q3 p' (by omega), fun f' x1 x2 => r3 f' x1 (by omega)⟩
theorem lib_word {e x2 : Int32} {k len : Nat} {Y : Prop} {N : Int32 → Prop} (hM : NMo σ) (he : 0 ≤ e.toInt ∧ e.toInt < 10000) (h2 : x2.toInt = k) (hl : k + len < 20) (h3 : ∀ j, j < len → (chI (SF 2 (k + j))).toInt ≠ 32) (kY : LBk σ e.toNatClampNeg k len → Y) (kN : ¬ LBk σ e.toNatClampNeg k len → ∀ x4 : Int32, x4.toInt = (k : Int) + len → N x4) (h4 : (chI (SF 2 (k + len))).toInt = 32) :
    ∃ L12 : Nat → Int32 → Prop, (∃ n, L12 n x2) ∧ ∀ (n12 : Nat) (x4_12 : Int32), L12 n12 x4_12 → (((0 ≤ x4_12.toInt ∧ x4_12.toInt < SN 2) ∧ ((chI (SF 2 x4_12.toNatClampNeg)).toInt = 32 → ((0 ≤ e.toInt ∧ e.toInt < 10000) ∧ (∃ J49 : Int32 → Prop, (∀ (y0_49 : Int32), y0_49 = 0 ∨ y0_49 = 1 → J49 y0_49 → (∃ L54 : Nat → Int32 → Int32 → Prop, (∃ n, L54 n y0_49 (0 : Int32)) ∧ ∀ (n54 : Nat) (x5_54 : Int32) (x6_54 : Int32), x5_54 = 0 ∨ x5_54 = 1 → L54 n54 x5_54 x6_54 → ((∃ J108 : Prop, (J108  → ((x5_54.toInt = 0 → N x4_12) ∧ (x5_54.toInt ≠ 0 → Y))) ∧ (x5_54.toInt = 0 → J108) ∧ (x5_54.toInt ≠ 0 → ((x4_12 - x2).toInt ≤ x6_54.toInt → J108) ∧ (x6_54.toInt < (x4_12 - x2).toInt → ((0 ≤ (x2 + x6_54).toInt ∧ (x2 + x6_54).toInt < SN 2) ∧ ((0 ≤ e.toInt ∧ e.toInt < 10000) ∧ ((0 ≤ ((σ 18 e.toNatClampNeg) + x6_54).toInt ∧ ((σ 18 e.toNatClampNeg) + x6_54).toInt < 65536) ∧ (∃ J100 : Int32 → Prop, (∀ (y0_100 : Int32), y0_100 = 0 ∨ y0_100 = 1 → J100 y0_100 → (∃ m, m < n54 ∧ L54 m y0_100 (x6_54 + 1))) ∧ ((chI (SF 2 (x2 + x6_54).toNatClampNeg)).toInt ≠ (σ 20 ((σ 18 e.toNatClampNeg) + x6_54).toNatClampNeg).toInt → J100 (0 : Int32)) ∧ ((chI (SF 2 (x2 + x6_54).toNatClampNeg)).toInt = (σ 20 ((σ 18 e.toNatClampNeg) + x6_54).toNatClampNeg).toInt → J100 (1 : Int32)))))))))))) ∧ ((x4_12 - x2).toInt ≠ (σ 19 e.toNatClampNeg).toInt → J49 (0 : Int32)) ∧ ((x4_12 - x2).toInt = (σ 19 e.toNatClampNeg).toInt → J49 (1 : Int32))))) ∧ ((chI (SF 2 x4_12.toNatClampNeg)).toInt ≠ 32 → ∃ m, m < n12 ∧ L12 m (x4_12 + 1)))) := by
  have eN : ((SN 2 : Nat) : Int) = 20 := by decide
  have e0 : (0 : Int32).toInt = 0 := by decide
  have e1' : (1 : Int32).toInt = 1 := by decide
  refine ⟨fun n x => (n : Int) = (k : Int) + len - x.toInt ∧ (k : Int) ≤ x.toInt ∧ x.toInt ≤ (k : Int) + len, ⟨len, by omega, by omega, by omega⟩, ?_⟩
  rintro n x ⟨q1, q2, q3⟩
  have nx := nt (x := x) (by omega)
  have ex := ad1 (x := x) (by omega)
  refine ⟨by omega, fun c => ⟨he, ?_⟩, fun c => ⟨n - 1, ?_⟩⟩
  · have hx : x.toInt = (k : Int) + len := by
      by_cases q : x.toInt = (k : Int) + len
      · exact q
      · have e9 : x.toNatClampNeg = k + (x.toNatClampNeg - k) := by omega
        rw [e9] at c
        exact absurd c (h3 _ (by omega))
    have es : (x - x2).toInt = len := by rw [sb (by omega) (by omega)]; omega
    rw [es]
    refine ⟨fun y => y.toInt ≠ 0 ↔ ((σ 19) e.toNatClampNeg).toInt = len, fun y hy hj => ?_, fun c2 => ⟨fun q => absurd e0 q, fun q => absurd q.symm c2⟩, fun c2 => ⟨fun _ => c2.symm, fun _ => by decide⟩⟩
    refine ⟨fun n5 x5 x6 => (n5 : Int) = len - x6.toInt ∧ (0 ≤ x6.toInt ∧ x6.toInt ≤ len) ∧ (x5.toInt ≠ 0 → ((σ 19) e.toNatClampNeg).toInt = len ∧ ∀ j : Nat, (j : Int) < x6.toInt → (chI (SF 2 (k + j))).toInt = nfm σ e.toNatClampNeg j) ∧ (x5.toInt = 0 → ¬ LBk σ e.toNatClampNeg k len), ⟨len, by omega, by omega, fun c2 => ⟨hj.mp c2, fun j hj => by omega⟩, fun c2 q => (hj.mpr q.1) c2⟩, ?_⟩
    rintro n5 x5 x6 hx5 ⟨r1, r2, r3, r4⟩
    have n6 := nt (x := x6) (by omega)
    have e6 := ad1 (x := x6) (by omega)
    refine ⟨(x5.toInt ≠ 0 → LBk σ e.toNatClampNeg k len) ∧ (x5.toInt = 0 → ¬ LBk σ e.toNatClampNeg k len), fun hJ => ⟨fun c2 => kN (hJ.2 c2) x hx, fun c2 => kY (hJ.1 c2)⟩, fun c2 => ⟨fun c3 => absurd c2 c3, r4⟩, fun c2 => ⟨fun c3 => ⟨fun _ => ⟨(r3 c2).1, fun j hj => (r3 c2).2 j (by omega)⟩, r4⟩, fun c3 => ?_⟩⟩
    have e2 : (x2 + x6).toInt = x2.toInt + x6.toInt := ad (by omega) (by omega)
    have en : (x2 + x6).toNatClampNeg = k + x6.toNatClampNeg := by have := nt (x := x2 + x6) (by omega); omega
    obtain ⟨i1, i2⟩ := nf_ix hM (e := e) (x := x6) (by omega) (by rw [(r3 c2).1]; exact c3)
    rw [i2, en]
    refine ⟨by omega, he, i1, fun y => (y.toInt ≠ 0 ↔ (chI (SF 2 (k + x6.toNatClampNeg))).toInt = nfm σ e.toNatClampNeg x6.toNatClampNeg), fun y hy hJ => ⟨n5 - 1, by omega, by omega, by omega, fun c4 => ⟨(r3 c2).1, fun j hj => ?_⟩, fun c4 q => ?_⟩, fun c4 => ⟨fun q => absurd e0 q, fun q => absurd q c4⟩, fun c4 => ⟨fun _ => c4, fun _ => by decide⟩⟩
    · by_cases e9 : j = x6.toNatClampNeg
      · rw [e9]; exact hJ.mp c4
      · exact (r3 c2).2 j (by omega)
    · exact hJ.mpr (q.2 _ (by omega)) c4
  · have hx : x.toInt ≠ (k : Int) + len := fun q => by
      have e9 : x.toNatClampNeg = k + len := by omega
      rw [e9] at c
      exact c h4
    exact ⟨by omega, by omega, by omega, by omega⟩
theorem sp_library {e : Int32} {Q : Int32 → Prop} (hM : NMo σ) (he : 0 ≤ e.toInt ∧ e.toInt < 10000) (h : ∀ r, LIB σ e.toNatClampNeg r → Q r) : wp_library_0 e σ τ vs Q := by
  have e0 : (0 : Int32).toInt = 0 := by decide
  have e1' : (1 : Int32).toInt = 1 := by decide
  unfold wp_library_0
  refine ⟨fun n x i => (n : Int) = 4 - i.toInt ∧ ((i.toInt = 0 ∧ x.toInt = (1 : Nat)) ∨ (i.toInt = 1 ∧ x.toInt = (5 : Nat) ∧ ¬ LBk σ e.toNatClampNeg 1 3) ∨ (i.toInt = 2 ∧ x.toInt = (9 : Nat) ∧ ¬ LBk σ e.toNatClampNeg 1 3 ∧ ¬ LBk σ e.toNatClampNeg 5 3) ∨ (i.toInt = 3 ∧ x.toInt = (15 : Nat) ∧ ¬ LBk σ e.toNatClampNeg 1 3 ∧ ¬ LBk σ e.toNatClampNeg 5 3 ∧ ¬ LBk σ e.toNatClampNeg 9 5) ∨ (i.toInt = 4 ∧ ¬ LBk σ e.toNatClampNeg 1 3 ∧ ¬ LBk σ e.toNatClampNeg 5 3 ∧ ¬ LBk σ e.toNatClampNeg 9 5 ∧ ¬ LBk σ e.toNatClampNeg 15 4)), ⟨4, by omega, Or.inl ⟨e0, e1'⟩⟩, ?_⟩
  rintro n x i ⟨q1, q2⟩
  have ei : ∀ j : Int, i.toInt = j → j < 100 → (i + 1).toInt = j + 1 := fun j hj h1 => by rw [ad1 (by omega), hj]
  have ex : ∀ (y : Int32) (j : Int), y.toInt = j → j < 100 → (y + (1 : Int32)).toInt = j + 1 := fun y j hj h1 => by rw [ad1 (by omega), hj]
  rcases q2 with ⟨a, b⟩ | ⟨a, b, c1⟩ | ⟨a, b, c1, c2⟩ | ⟨a, b, c1, c2, c3⟩ | ⟨a, c1, c2, c3, c4⟩
  · refine ⟨fun c => by omega, fun _ => lib_word (k := 1) (len := 3) hM he b (by decide) (by decide +kernel) (fun y => h _ (Or.inl ⟨a, y⟩)) (fun y x4 hx4 => ⟨3, by omega, by rw [ei 0 a (by decide)]; omega, Or.inr (Or.inl ⟨by rw [ei 0 a (by decide)]; decide, by rw [ex _ _ hx4 (by decide)]; decide, y⟩)⟩) (by decide +kernel)⟩
  · refine ⟨fun c => by omega, fun _ => lib_word (k := 5) (len := 3) hM he b (by decide) (by decide +kernel) (fun y => h _ (Or.inr (Or.inl ⟨a, c1, y⟩))) (fun y x4 hx4 => ⟨2, by omega, by rw [ei 1 a (by decide)]; omega, Or.inr (Or.inr (Or.inl ⟨by rw [ei 1 a (by decide)]; decide, by rw [ex _ _ hx4 (by decide)]; decide, c1, y⟩))⟩) (by decide +kernel)⟩
  · refine ⟨fun c => by omega, fun _ => lib_word (k := 9) (len := 5) hM he b (by decide) (by decide +kernel) (fun y => h _ (Or.inr (Or.inr (Or.inl ⟨a, c1, c2, y⟩)))) (fun y x4 hx4 => ⟨1, by omega, by rw [ei 2 a (by decide)]; omega, Or.inr (Or.inr (Or.inr (Or.inl ⟨by rw [ei 2 a (by decide)]; decide, by rw [ex _ _ hx4 (by decide)]; decide, c1, c2, y⟩)))⟩) (by decide +kernel)⟩
  · refine ⟨fun c => by omega, fun _ => lib_word (k := 15) (len := 4) hM he b (by decide) (by decide +kernel) (fun y => h _ (Or.inr (Or.inr (Or.inr (Or.inl ⟨a, c1, c2, c3, y⟩))))) (fun y x4 hx4 => ⟨0, by omega, by rw [ei 3 a (by decide)]; omega, Or.inr (Or.inr (Or.inr (Or.inr ⟨by rw [ei 3 a (by decide)]; decide, c1, c2, c3, y⟩)))⟩) (by decide +kernel)⟩
  · exact ⟨fun _ => h _ (Or.inr (Or.inr (Or.inr (Or.inr ⟨by decide, c1, c2, c3, c4⟩)))), fun c => by omega⟩
theorem sp_hasLibraryType {e l : Int32} {Q : Int32 → Prop} (he : 0 ≤ e.toInt ∧ e.toInt < 10000) (k1 : ((σ 9) e.toNatClampNeg).toInt = 2 → (l.toInt = 0 → ((σ 10) e.toNatClampNeg).toInt = 0 ∧ ((σ 15) e.toNatClampNeg).toInt = 0) → (l.toInt ≠ 0 → ((σ 10) e.toNatClampNeg).toInt = -1 ∧ ((σ 15) e.toNatClampNeg).toInt = 1) → Q 1) (k0 : Q 0) : wp_hasLibraryType e l σ τ vs Q := by
  have e8 : ((8 : Int32)).toInt = 8 := by decide
  unfold wp_hasLibraryType
  refine ⟨he, fun c => ⟨fun c1 => ⟨he, fun _ => k0, fun c2 => ⟨he, fun _ => k0, fun c3 => ⟨?_, fun _ => k0, fun _ => k1 c (fun q => absurd q c1) (fun _ => ⟨c2, c3⟩)⟩⟩⟩, fun c1 => ⟨he, fun _ => k0, fun c2 => ⟨he, fun _ => k0, fun c3 => k1 c (fun _ => ⟨c2, c3⟩) (fun q => absurd c1 q)⟩⟩⟩, fun _ => k0⟩
  have := mul8 (x := e) he.1 (by omega)
  omega
end FND
