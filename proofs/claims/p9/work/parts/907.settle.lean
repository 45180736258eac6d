/-! link(): addresses -/
abbrev KxS (a b : St) : Prop := Kp [(10, 7)] [57, 58, 59] a b
/-- defined ones have what they had; -/
def ADd (σ s : St) (b : Nat → Int32) : Prop := ∀ d, FLb (atv 10100 (σ 25) d) 4 → atv 10100 (s 59) d = atv 10100 b d
/-- one that is not has its definition's -/
def ADn (σ s : St) (b : Nat → Int32) (d : Int32) : Prop := ∀ v, DFi σ (σ 10 5).toInt d v → atv 10100 (s 59) d = atv 10100 b v
section STL
variable {σ s z t ρ : St} {m i j k o d : Nat} {n : Int} {x y v a a1 a2 a3 a4 a5 : Int32} {C : Int32 → Prop} {b : Nat → Int32}
theorem atv_set {n : Nat} {f : Nat → Int32} (h : 0 ≤ x.toInt ∧ x.toInt < n) : atv n (setv n f x v) x = v := by
  unfold atv setv
  rw [if_pos h, if_pos h]
  exact if_pos rfl
theorem atv_nst {n : Nat} {f : Nat → Int32} (h : y.toInt ≠ x.toInt) : atv n (setv n f x v) y = atv n f y := by
  unfold atv setv
  by_cases c : 0 ≤ y.toInt ∧ y.toInt < n
  · rw [if_pos c, if_pos c]
    by_cases c2 : 0 ≤ x.toInt ∧ x.toInt < n
    · rw [if_pos c2]
      exact if_neg (by rw [nt', nt']; omega)
    · rw [if_neg c2]
  · rw [if_neg c, if_neg c]
theorem sp_firstS {Q : Int32 → Prop} (e34 : s 34 = σ 34) (k : ∀ v : Int32, v.toInt = LOi σ x → Q v) : wk_X8_firstOf (kxI σ x) s Q := by
  unfold wk_X8_firstOf
  rw [e34]
  refine ⟨fun c => k _ ?_, fun c => k _ ?_⟩
  · unfold LOi
    rw [if_pos c]
  · unfold LOi
    rw [if_neg (by omega)]
    rfl
theorem kx_rows (k : KxS σ s) : s 56 = σ 56 ∧ s 34 = σ 34 ∧ s 25 = σ 25 ∧ s 29 = σ 29 ∧ s 30 = σ 30 ∧ s 28 = σ 28 ∧ s 37 = σ 37 := ⟨funext (fun j => k 56 j rfl rfl), funext (fun j => k 34 j rfl rfl), funext (fun j => k 25 j rfl rfl), funext (fun j => k 29 j rfl rfl), funext (fun j => k 30 j rfl rfl), funext (fun j => k 28 j rfl rfl), funext (fun j => k 37 j rfl rfl)⟩
theorem sp_refer {Q : St → Prop} (hb : NEb σ) (rg : 0 ≤ LOi σ x ∧ HIi σ x ≤ 10100) (ks : KxS σ s) (e7 : s 10 7 = σ 10 5) (h1 : ADd σ s b) (k : ∀ t, Kp [] [59] s t → ADd σ t b → (∀ d, RGi σ x d → ¬ FLb (atv 10100 (σ 25) d) 4 → ADn σ t b d) → (∀ d, ¬ FLb (atv 10100 (σ 25) d) 4 → ADn σ s b d → ADn σ t b d) → Q t) : wk_X4_refer (kxI σ x) s Q := by
  obtain ⟨r56, r34, r25, r29, r30, -, -⟩ := kx_rows ks
  unfold wk_X4_refer
  refine sp_firstS r34 (fun v0 hv0 => ?_)
  let P : Int32 → St → Prop := fun y u => Kp [] [59] s u ∧ ADd σ u b ∧ LOi σ x ≤ y.toInt ∧ (∀ d, RGi σ x d → d.toInt < y.toInt → ¬ FLb (atv 10100 (σ 25) d) 4 → ADn σ u b d) ∧ (∀ d, ¬ FLb (atv 10100 (σ 25) d) 4 → ADn σ s b d → ADn σ u b d)
  refine ⟨fun q y u => q = (HIi σ x - y.toInt).toNat ∧ P y u, ⟨_, rfl, kp_rf, h1, by omega, fun d p1 p2 => absurd p1.1 (by omega), fun d _ q => q⟩, ?_⟩
  rintro q y u ⟨hq, ku, hd, hl, hy, ho⟩
  have kx : KxS σ u := kp_tr ks (kp_sub ku rfl rfl)
  obtain ⟨w56, w34, w25, w29, w30, -, -⟩ := kx_rows kx
  rw [w34]
  refine ⟨fun c1 => ?_, fun c1 => ?_⟩
  · have c2 : HIi σ x ≤ y.toInt := c1
    exact k u ku hd (fun d p1 p2 => hy d p1 (by have := p1.2; omega) p2) ho
  · have c2 : y.toInt < HIi σ x := c1
    have upy := up_lt c1
    refine is_all (fun v30 n30 y30 _ => ?_)
    rw [w25] at n30 y30
    refine ⟨fun u' => P (y + 1) u', fun u' h' => ⟨_, by rw [upy]; omega, rfl, h'⟩, fun c3 => ⟨ku, hd, by rw [upy]; omega, fun d p1 p2 p3 => ?_, ho⟩, fun c3 => sp_definition (by unfold NEb; rw [w29]; exact hb) (fun v hv => ?_)⟩
    · rw [upy] at p2
      by_cases ce : d.toInt = y.toInt
      · have ex : d = y := Int32.toInt_inj.mp ce
        rw [ex] at p3
        exact absurd (y30 c3) p3
      · exact hy d p1 (by omega) p3
    · rw [show (u 10 7).toInt = (σ 10 5).toInt from by rw [ku 10 7 rfl rfl, e7], dfi_same w56 w34 w25 w29 w30] at hv
      have val : atv 10100 (u 59) v = atv 10100 b v := by
        rcases hv with ⟨q1, q2⟩ | ⟨x', q1, q2, q3, q4, q5⟩
        · rw [q1]; rfl
        · exact hd v q3.1
      have nf := n30 c3
      have same : ∀ d, d.toInt ≠ y.toInt → atv 10100 ((upF u 59 (setv 10100 (u 59) y (atv 10100 (u 59) v))) 59) d = atv 10100 (u 59) d := fun d hd' => by rw [rdF_eq]; exact atv_nst hd'
      have new : ∀ w, DFi σ (σ 10 5).toInt y w → atv 10100 ((upF u 59 (setv 10100 (u 59) y (atv 10100 (u 59) v))) 59) y = atv 10100 b w := fun w hw => by
        rw [rdF_eq, atv_set ⟨by omega, by omega⟩, val, fst_one hv hw]
      refine ⟨kp_F ku rfl, fun d hf => ?_, by rw [upy]; omega, fun d p1 p2 p3 => ?_, fun d p3 p4 => ?_⟩
      · by_cases ce : d.toInt = y.toInt
        · have ex : d = y := Int32.toInt_inj.mp ce
          rw [ex] at hf
          exact absurd hf nf
        · rw [same d ce]
          exact hd d hf
      · rw [upy] at p2
        by_cases ce : d.toInt = y.toInt
        · have ex : d = y := Int32.toInt_inj.mp ce
          rw [ex]
          exact new
        · intro w hw
          rw [same d ce]
          exact hy d p1 (by omega) p3 w hw
      · by_cases ce : d.toInt = y.toInt
        · have ex : d = y := Int32.toInt_inj.mp ce
          rw [ex]
          exact new
        · intro w hw
          rw [same d ce]
          exact ho d p3 p4 w hw
end STL
