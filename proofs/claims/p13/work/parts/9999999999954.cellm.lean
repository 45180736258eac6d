/-! cell(), the reference, exactly -/
/-- the name in the tray is an entity's, and it is a symbol that is defined -/
def TRm (σ : St) (f : Nat) : Prop := ((σ 12 f).toInt = 0 ∧ (σ 13 f).toInt = 1) ∧ (σ 19 f).toInt = (σ 0 1).toInt ∧ ∀ k : Nat, (k : Int) < (σ 0 1).toInt → nfm σ f k = (σ 1 k).toInt
/-- .. is the library's -/
def LBt (σ : St) (j : Nat) : Prop := (lbL j : Int) = (σ 0 1).toInt ∧ ∀ k : Nat, k < lbL j → (chI (SF 2 (lbK j + k))).toInt = (σ 1 k).toInt
def CZm (σ : St) (v : Int32) : Prop := ((σ 0 70).toInt < 0 → v = -1) ∧ (0 ≤ (σ 0 70).toInt → (∃ p f : Nat, (p : Int) < (σ 0 70).toInt ∧ InO σ (LPo σ p) f ∧ TRm σ f ∧ (∀ p' : Nat, p' < p → ∀ f', InO σ (LPo σ p') f' → ¬ TRm σ f') ∧ (∀ f', InO σ (LPo σ p) f' → f' < f → ¬ TRm σ f') ∧ ((σ 9 f).toInt ≠ 1 → v = 0) ∧ ((σ 9 f).toInt = 1 → v = σ 42 p + σ 17 f)) ∨ ((∀ p : Nat, (p : Int) < (σ 0 70).toInt → ∀ f, InO σ (LPo σ p) f → ¬ TRm σ f) ∧ ((∃ j, j < 4 ∧ LBt σ j) → v = 0) ∧ ((∀ j, j < 4 → ¬ LBt σ j) → v = -1)))
section CLM
variable {σ s τ t u : St} {vs z : List Nat} {v : Int32}
theorem lb_sp : ∀ j, j < 4 → (∀ k, k < lbL j → (chI (SF 2 (lbK j + k))).toInt ≠ 32) ∧ (chI (SF 2 (lbK j + lbL j))).toInt = 32 ∧ lbK j + lbL j < 20 ∧ (j < 3 → lbK (j + 1) = lbK j + lbL j + 1) := by decide +kernel
theorem rx_isTray {a : Int32} {Q : Int32 → Prop} (hM : NMo σ) (h1 : 0 ≤ (σ 0 1).toInt ∧ (σ 0 1).toInt ≤ 16000) (k1 : ((σ 19 a.toNatClampNeg).toInt = (σ 0 1).toInt ∧ ∀ k : Nat, (k : Int) < (σ 0 1).toInt → nfm σ a.toNatClampNeg k = (σ 1 k).toInt) → Q 1) (k0 : ¬ ((σ 19 a.toNatClampNeg).toInt = (σ 0 1).toInt ∧ ∀ k : Nat, (k : Int) < (σ 0 1).toInt → nfm σ a.toNatClampNeg k = (σ 1 k).toInt) → Q 0) : pp_isTray a (σ 0 1) (upC σ 0 1 (0 : Int32)) τ vs Q := by
  have e0 : (0 : Int32).toInt = 0 := by decide
  unfold pp_isTray
  rw [rdC_ne (by decide), rdC_ne (by decide), rdC_ne (by decide), rdC_ne (by decide)]
  refine fun ha => ⟨fun c => ?_, fun c => k0 (fun q => c q.1)⟩
  refine ⟨fun x => 0 ≤ x.toInt ∧ ∀ k : Nat, (k : Int) < x.toInt → nfm σ a.toNatClampNeg k = (σ 1 k).toInt, ⟨by omega, fun k hk => by omega⟩, ?_⟩
  rintro x ⟨q1, q2⟩
  refine ⟨fun c1 => k1 ⟨c, fun k hk => q2 k (by omega)⟩, fun c1 _ _ _ => ?_⟩
  obtain ⟨i1, i2⟩ := nf_ix hM (e := a) q1 (by omega)
  have nx := nt q1
  have e1 := ad1 (x := x) (by omega)
  rw [i2]
  refine ⟨fun c2 => ⟨by omega, fun k hk => ?_⟩, fun c2 => k0 (fun q => ?_)⟩
  · by_cases e : k = x.toNatClampNeg
    · rw [e]; exact c2
    · exact q2 k (by omega)
  · exact c2 (q.2 _ (by omega))
theorem rx_cellx {Q : Int32 → St → St → List Nat → Prop} (h : GLI σ τ vs) (k : ∀ v s, CZm σ v → Q v s τ vs) : pp_cell σ τ vs Q := by
  have z0 : (0 : Int32).toInt = 0 := by decide
  have e1' : (1 : Int32).toInt = 1 := by decide
  have eN : ((SN 2 : Nat) : Int) = 20 := by decide
  have ht := h.1.1
  have hM := h.2.2.1.2.2.2.2.2.1
  unfold pp_cell
  refine ⟨fun c => ?_, fun c => k _ _ ⟨fun _ => rfl, fun q => by omega⟩⟩
  obtain ⟨⟨l1, l2⟩, l3⟩ := h.2.2.2.2.2.1
  obtain ⟨l4, -⟩ := l3 c
  have o2 := h.1.2.1
  refine ⟨fun p => 0 ≤ p.toInt ∧ ∀ p' : Nat, (p' : Int) < p.toInt → ∀ f, InO σ (LPo σ p') f → ¬ TRm σ f, ⟨by omega, fun p' hp' => by omega⟩, ?_⟩
  rintro p ⟨q2, q3⟩
  have np := nt q2
  refine ⟨fun c1 => ?_, fun c2 _ _ => ?_⟩
  · have none : ∀ p : Nat, (p : Int) < (σ 0 70).toInt → ∀ f, InO σ (LPo σ p) f → ¬ TRm σ f := fun p' hp' => q3 p' (by omega)
    have yes : ∀ j, j < 4 → LBt σ j → Q (0 : Int32) (upC σ 0 1 (0 : Int32)) τ vs := fun j hj hb => k _ _ ⟨fun g => by omega, fun _ => Or.inr ⟨none, fun _ => rfl, fun g => absurd hb (g j hj)⟩⟩
    refine ⟨fun x i => ∃ j : Nat, i.toInt = (j : Int) ∧ j ≤ 4 ∧ (j < 4 → x.toInt = (lbK j : Int)) ∧ ∀ i', i' < j → ¬ LBt σ i', ⟨0, z0, by decide, fun _ => e1', fun i' hi' => absurd hi' (Nat.not_lt_zero i')⟩, ?_⟩
    rintro x i ⟨j, hi, hj4, hx, hno⟩
    refine ⟨fun c3 => k _ _ ⟨fun g => by omega, fun _ => Or.inr ⟨none, fun ⟨j', hj', hb⟩ => absurd hb (hno j' (by omega)), fun _ => rfl⟩⟩, fun c3 => ?_⟩
    have hj : j < 4 := by omega
    have hx' := hx hj
    obtain ⟨s1, s2, s3, s4⟩ := lb_sp j hj
    have ei := ad1 (x := i) (by omega)
    refine ⟨fun y => (lbK j : Int) ≤ y.toInt ∧ y.toInt ≤ (lbK j : Int) + lbL j, ⟨by omega, by omega⟩, ?_⟩
    rintro y ⟨y1, y2⟩ hyb
    have ny := nt (x := y) (by omega)
    have ey := ad1 (x := y) (by omega)
    have eyn : y.toNatClampNeg = lbK j + (y.toNatClampNeg - lbK j) := by omega
    refine ⟨fun c4 => ?_, fun c4 => ?_⟩
    · have hy : y.toInt = (lbK j : Int) + lbL j := by
        by_cases q : y.toInt = (lbK j : Int) + lbL j
        · exact q
        · rw [eyn] at c4
          exact absurd c4 (s1 _ (by omega))
      have es : (y - x).toInt = (lbL j : Int) := by rw [sb (by omega) (by omega)]; omega
      rw [es]
      refine ⟨fun u => u.toInt ≠ 0 ↔ (lbL j : Int) = (σ 0 1).toInt, fun u hu hJ => ?_, fun c5 => ⟨fun q => absurd z0 q, fun q => absurd q c5⟩, fun c5 => ⟨fun _ => c5, fun _ => by decide⟩⟩
      refine ⟨fun x5 x6 => 0 ≤ x6.toInt ∧ (x5.toInt ≠ 0 → (lbL j : Int) = (σ 0 1).toInt ∧ ∀ k : Nat, (k : Int) < x6.toInt → k < lbL j → (chI (SF 2 (lbK j + k))).toInt = (σ 1 k).toInt) ∧ (x5.toInt = 0 → ¬ LBt σ j), ⟨by omega, fun q => ⟨hJ.1 q, fun k hk => by omega⟩, fun q hb => (hJ.2 hb.1) q⟩, ?_⟩
      rintro x5 x6 hx5 ⟨r1, r2, r3⟩
      have n6 := nt r1
      refine ⟨(x5.toInt ≠ 0 → LBt σ j) ∧ (x5.toInt = 0 → ¬ LBt σ j), fun hj' => ⟨fun c6 => ?_, fun c6 => yes j hj (hj'.1 c6)⟩, fun c6 => ⟨fun q => absurd c6 q, r3⟩, fun c6 => ⟨fun c7 => ⟨fun _ => ⟨(r2 c6).1, fun k hk => (r2 c6).2 k (by have := (r2 c6).1; omega) hk⟩, fun q => absurd q c6⟩, fun c7 _ _ => ?_⟩⟩
      · refine ⟨j + 1, by rw [ei]; omega, by omega, fun q => ?_, fun i' hi' => ?_⟩
        · have := s4 (by omega)
          show (y + 1).toInt = _
          rw [ey]
          omega
        · by_cases e : i' = j
          · rw [e]; exact hj'.2 c6
          · exact hno i' (by omega)
      · have r4 := (r2 c6).1
        have e6 := ad1 (x := x6) (by omega)
        have e2 : (x + x6).toInt = x.toInt + x6.toInt := ad (by omega) (by omega)
        have en : (x + x6).toNatClampNeg = lbK j + x6.toNatClampNeg := by have := nt (x := x + x6) (by omega); omega
        rw [en]
        refine ⟨fun y => (y.toInt ≠ 0 ↔ (chI (SF 2 (lbK j + x6.toNatClampNeg))).toInt = (σ 1 x6.toNatClampNeg).toInt), fun y hy hJ => ⟨by omega, fun c8 => ⟨r4, fun k hk hk2 => ?_⟩, fun c8 hb => ?_⟩, fun c8 => ⟨fun q => absurd z0 q, fun q => absurd q c8⟩, fun c8 => ⟨fun _ => c8, fun _ => by decide⟩⟩
        · by_cases e : k = x6.toNatClampNeg
          · rw [e]; exact hJ.1 c8
          · exact (r2 c6).2 k (by omega) hk2
        · exact (hJ.2 (hb.2 x6.toNatClampNeg (by omega))) c8
    · have hy : y.toInt ≠ (lbK j : Int) + lbL j := fun q => by
        have e9 : y.toNatClampNeg = lbK j + lbL j := by omega
        rw [e9] at c4
        exact c4 s2
      exact ⟨by omega, by omega⟩
  · have lp := l4 p.toNatClampNeg (by omega)
    have n1 : (σ 41 p.toNatClampNeg - (1 : Int32)).toInt = (σ 41 p.toNatClampNeg).toInt - 1 := sb1 (by omega)
    have nP : (σ 41 p.toNatClampNeg - (1 : Int32)).toNatClampNeg = LPo σ p.toNatClampNeg := by unfold LPo; rw [nt', n1]
    have nP1 : (σ 41 p.toNatClampNeg).toNatClampNeg = LPo σ p.toNatClampNeg + 1 := by unfold LPo; rw [nt']; omega
    rw [nP, nP1]
    have ep := ad1 (x := p) (by omega)
    have ob := h.2.2.2.1 (LPo σ p.toNatClampNeg) (by unfold LPo; omega)
    have ef : (σ 22 (LPo σ p.toNatClampNeg)).toInt = fO σ (LPo σ p.toNatClampNeg) := rfl
    have ef2 : (σ 22 (LPo σ p.toNatClampNeg + 1)).toInt = fO σ (LPo σ p.toNatClampNeg + 1) := rfl
    have o1 := ob.1
    have oL : LPo σ p.toNatClampNeg < 100 := by unfold LPo; omega
    refine ⟨fun f => fO σ (LPo σ p.toNatClampNeg) ≤ f.toInt ∧ ∀ f' : Nat, fO σ (LPo σ p.toNatClampNeg) ≤ (f' : Int) → (f' : Int) < f.toInt → ¬ TRm σ f', ⟨by omega, fun f' a b => by omega⟩, ?_⟩
    rintro f ⟨r1, r2⟩ _ _
    have nf := nt (x := f) (by omega)
    refine ⟨fun c3 => ⟨by omega, fun p' hp' f' hf' => ?_⟩, fun c3 => ?_⟩
    · by_cases e : p' = p.toNatClampNeg
      · rw [e] at hf'
        exact r2 f' hf'.1 (by have := hf'.2; omega)
      · exact q3 p' (by omega) f' hf'
    have e7 := ad1 (x := f) (by omega)
    have nx : ¬ TRm σ f.toNatClampNeg → fO σ (LPo σ p.toNatClampNeg) ≤ (f + 1).toInt ∧ ∀ f' : Nat, fO σ (LPo σ p.toNatClampNeg) ≤ (f' : Int) → (f' : Int) < (f + 1).toInt → ¬ TRm σ f' := fun hn => ⟨by omega, fun f' a b => by
      by_cases e : f' = f.toNatClampNeg
      · rw [e]; exact hn
      · exact r2 f' a (by omega)⟩
    refine rx_isSymbol (fun hs => ⟨¬ TRm σ f.toNatClampNeg, nx, fun q => absurd q (by decide), fun _ => ?_⟩) (fun hs => ⟨¬ TRm σ f.toNatClampNeg, nx, fun _ q => hs ⟨q.1.1, by rw [e1']; exact q.1.2⟩, fun q => absurd rfl q⟩)
    rw [e1'] at hs
    refine rx_isTray hM ht (fun ht => ⟨fun q => absurd q (by decide), fun _ _ => ?_⟩) (fun hn => ⟨fun _ q => hn q.2, fun q => absurd rfl q⟩)
    have tr : TRm σ f.toNatClampNeg := ⟨hs, ht⟩
    have fin : ∀ v, ((σ 9 f.toNatClampNeg).toInt ≠ 1 → v = 0) → ((σ 9 f.toNatClampNeg).toInt = 1 → v = σ 42 p.toNatClampNeg + σ 17 f.toNatClampNeg) → Q v (upC σ 0 1 (0 : Int32)) τ vs := fun v g1 g2 => k _ _ ⟨fun g => by omega, fun _ => Or.inl ⟨p.toNatClampNeg, f.toNatClampNeg, by omega, ⟨by omega, by omega⟩, tr, fun p' hp' => q3 p' (by omega), fun f' hf' hlt => r2 f' hf'.1 (by omega), g1, g2⟩⟩
    exact ⟨fun c4 => fin _ (fun _ => rfl) (fun q => absurd q c4), fun c4 _ _ => fin _ (fun q => absurd c4 q) (fun _ => rfl)⟩
end CLM
