/-! the reference looks ahead: how many initials -/
section RTD
variable {σ s τ t : St} {kd : Nat → Int} {n p q : Nat} {vs z : List Nat}
theorem rk_to (tk : RTk σ kd n) (hq : q ≤ n) (c : Nat) (hc : c ≤ 62) {j : Int} (hj : rkI (c : Int) = j) : (σ 2 q).toInt = j ↔ kd q = (c : Int) := by
  rw [tk.2.1 q hq]
  exact ⟨fun h => rk_one (tk.2.2.1 q) (by omega) (by rw [h, hj]), fun h => by rw [h, hj]⟩
theorem mr_told {Q : Int32 → Prop} (tk : RTk σ kd n) (g : GMt σ n p) (hp : p < n) (h6 : kd (p + 1) = 4 → (σ 6 (p + 1)).toInt < 2147483647)
    (ka : ALq kd (p + 1) → ∀ v : Int32, v.toInt = (σ 6 (p + 1)).toInt + 1 → Q v) (kb : kd (p + 1) = 22 → ∀ v : Int32, TDq kd (p + 1) 1 0 v.toInt → Q v) (kc : ¬ ALq kd (p + 1) → kd (p + 1) ≠ 22 → Q (-1)) : pp_told σ τ vs Q := by
  have hn := tk.1
  have g1 := g.1
  have e1 : ((σ 0 10) + (1 : Int32)).toInt = ((p + 1 : Nat) : Int) := by rw [ad1 (by omega), g1]; rfl
  have e2 : (((σ 0 10) + (1 : Int32)) + (1 : Int32)).toInt = ((p + 2 : Nat) : Int) := by rw [ad1 (by omega), e1]; rfl
  have n1 : ((σ 0 10) + (1 : Int32)).toNatClampNeg = p + 1 := nat_of e1
  have n2 : (((σ 0 10) + (1 : Int32)) + (1 : Int32)).toNatClampNeg = p + 2 := nat_of e2
  have r4 := rk_to tk (q := p + 1) (by omega) 4 (by decide) (j := 4) (by decide)
  have r22 := rk_to tk (q := p + 1) (by omega) 22 (by decide) (j := 54) (by decide)
  unfold pp_told
  rw [n1, n2]
  refine fun _ => ⟨fun y => p + 2 ≤ n → (y.toInt ≠ 0 ↔ kd (p + 2) = 26 ∨ kd (p + 2) = 27), fun y _ hy _ => ⟨fun c4 _ => ⟨fun c22 => ?_, fun c22 => kc (fun h => c4 (r4.2 h.1)) (fun h => c22 (r22.2 h))⟩, fun c4 => ?_⟩, (p + 2 ≤ n → kd (p + 2) = 26 ∨ kd (p + 2) = 27), fun hj hp2 => ⟨fun _ => hj hp2, fun _ => by decide⟩, fun c hp2 => ?_, fun c _ => ⟨fun c2 hp2 => ⟨fun hx => absurd rfl hx, fun hx => ?_⟩, fun c2 hp2 => ?_⟩⟩
  · have k22 : kd (p + 1) = 22 := r22.1 c22
    refine ⟨fun x1 x3 x4 => ∃ q : Nat, x1.toInt = (q : Int) ∧ q ≤ n ∧ (-(q : Int) ≤ x3.toInt ∧ x3.toInt ≤ q + 1) ∧ (-(q : Int) ≤ x4.toInt ∧ x4.toInt ≤ q) ∧ ∀ R, TDq kd q x3.toInt x4.toInt R → TDq kd (p + 1) 1 0 R, ⟨p + 1, e1, by omega, ⟨by rw [i1]; omega, by rw [i1]; omega⟩, ⟨by rw [i0]; omega, by rw [i0]; omega⟩, fun R h => h⟩, ?_⟩
    rintro x1 x3 x4 ⟨q, hx, hq, ⟨a1, a2⟩, ⟨b1, b2⟩, hT⟩
    have nq : x1.toNatClampNeg = q := nat_of hx
    rw [nq]
    have z0 := rk_to tk hq 0 (by decide) (j := 0) (by decide)
    have z1 := rk_to tk hq 1 (by decide) (j := 1) (by decide)
    refine fun _ => ⟨fun c0 => kb k22 x3 (hT _ (ev_up (ev_t (Or.inl (z0.1 c0)) ev_c))), fun c0 _ => ⟨fun c1 => kb k22 x3 (hT _ (ev_up (ev_t (Or.inr (z1.1 c1)) ev_c))), fun c1 _ => ?_⟩⟩
    have k0 : kd q ≠ 0 := fun h => c0 (z0.2 h)
    have k1 : kd q ≠ 1 := fun h => c1 (z1.2 h)
    have hrr : ∀ a : Nat, a < 63 → 0 ≤ rkI (a : Int) ∧ rkI (a : Int) ≤ 100 := by decide
    have h2 := hrr (kd q).toNat (by have := tk.2.2.1 q; omega)
    rw [show (((kd q).toNat : Nat) : Int) = kd q from by have := tk.2.2.1 q; omega] at h2
    have hr : 0 ≤ (σ 2 q).toInt ∧ (σ 2 q).toInt ≤ 100 := by rw [tk.2.1 q hq]; exact h2
    have es : ((σ 2 q) - (32 : Int32)).toInt = (σ 2 q).toInt - 32 := sbc (n := 32) (by decide) (by omega) (by omega)
    have hqn : q < n := by
      have := tk.2.2.2.2
      have := tk.2.2.1 n
      by_cases c2 : q = n
      · rw [c2] at k0 k1
        omega
      · omega
    have sg : ∀ (c : Nat) (j : Int), c ≤ 62 → rkI (c : Int) = j + 32 → (((σ 2 q) - (32 : Int32)).toInt = j ↔ kd q = (c : Int)) := fun c j hc hj => by
      rw [es]
      have := rk_to tk hq c hc hj
      omega
    have s20 := sg 20 20 (by decide) (by decide)
    have s21 := sg 21 21 (by decide) (by decide)
    have s22 := sg 22 22 (by decide) (by decide)
    have s23 := sg 23 23 (by decide) (by decide)
    have s24 := sg 24 24 (by decide) (by decide)
    have s25 := sg 25 25 (by decide) (by decide)
    have s26 := sg 26 26 (by decide) (by decide)
    clear sg es hr h2 hrr z0 z1 c0 c1 r4 r22
    refine ⟨fun x => x.toInt = x4.toInt + (if kd q = 20 ∨ kd q = 22 ∨ kd q = 24 then 1 else 0), fun x hx4 => ⟨fun x => x.toInt = x4.toInt + opq (kd q), fun x5 hx5 => ⟨fun cz => ?_, fun cz => kb k22 x3 (hT _ (ev_up (ev_f (fun h => h.elim k0 k1) (ev_t (by rw [← hx5]; exact cz) ev_c))))⟩, (kd q = 21 ∨ kd q = 23 ∨ kd q = 25), fun hj => ?_, fun c => Or.inl (s21.1 c), fun c => ⟨fun c => Or.inr (Or.inl (s23.1 c)), fun c' => ⟨fun c'' => ?_, fun c => Or.inr (Or.inr (s25.1 c))⟩⟩⟩, (kd q = 20 ∨ kd q = 22 ∨ kd q = 24), fun hj => ?_, fun c => Or.inl (s20.1 c), fun c => ⟨fun c => Or.inr (Or.inl (s22.1 c)), fun c' => ⟨fun c'' => ?_, fun c => Or.inr (Or.inr (s24.1 c))⟩⟩⟩
    · have ox : -1 ≤ opq (kd q) ∧ opq (kd q) ≤ 1 := by
        unfold opq
        split
        · omega
        · split <;> omega
      have step : ∀ x6 : Int32, x6.toInt = (if kd q = 26 ∧ x4.toInt + opq (kd q) = 1 then x3.toInt + 1 else x3.toInt) → (∃ q_1 : Nat, (x1 + 1).toInt = (q_1 : Int) ∧ q_1 ≤ n ∧ (-(q_1 : Int) ≤ x6.toInt ∧ x6.toInt ≤ q_1 + 1) ∧ (-(q_1 : Int) ≤ x5.toInt ∧ x5.toInt ≤ q_1) ∧ ∀ R, TDq kd q_1 x6.toInt x5.toInt R → TDq kd (p + 1) 1 0 R) := fun x6 h6 => by
        refine ⟨q + 1, by rw [ad1 (by omega), hx]; rfl, hqn, ?_, ⟨by omega, by omega⟩, fun R hR => hT R (td_s k0 k1 (by rw [← hx5]; exact cz) (by rw [← h6, ← hx5]; exact hR))⟩
        rw [h6]
        split <;> constructor <;> omega
      refine ⟨fun x6 => x6.toInt = (if kd q = 26 ∧ x4.toInt + opq (kd q) = 1 then x3.toInt + 1 else x3.toInt), fun x6 h6 => step x6 h6, fun c => (if_neg (fun h => c (s26.2 h.1))).symm, fun c => ⟨fun c2 => (if_neg (fun h => c2 (by rw [hx5]; exact h.2))).symm, fun c2 => ?_⟩⟩
      show (x3 + (1 : Int32)).toInt = (if kd q = 26 ∧ x4.toInt + opq (kd q) = 1 then x3.toInt + 1 else x3.toInt)
      rw [if_pos ⟨s26.1 c, by rw [← hx5]; exact c2⟩, ad1 (by omega)]
    · have : opq (kd q) = -1 := (if_neg (by omega)).trans (if_pos hj)
      rw [if_neg (by omega)] at hx4
      show (x + (-1 : Int32)).toInt = x4.toInt + opq (kd q)
      rw [dc1 (by omega), hx4, this]
      omega
    · have n21 : ¬ (kd q = 21 ∨ kd q = 23 ∨ kd q = 25) := fun h => h.elim (fun h => c (s21.2 h)) (fun h => h.elim (fun h => c' (s23.2 h)) (fun h => c'' (s25.2 h)))
      show x.toInt = x4.toInt + opq (kd q)
      rw [show x.toInt = x4.toInt + (if kd q = 20 ∨ kd q = 22 ∨ kd q = 24 then 1 else 0) from hx4]
      unfold opq
      split
      · rfl
      · rfl
    · show (x4 + (1 : Int32)).toInt = x4.toInt + (if kd q = 20 ∨ kd q = 22 ∨ kd q = 24 then 1 else 0)
      rw [if_pos hj, ad1 (by omega)]
    · have n20 : ¬ (kd q = 20 ∨ kd q = 22 ∨ kd q = 24) := fun h => h.elim (fun h => c (s20.2 h)) (fun h => h.elim (fun h => c' (s22.2 h)) (fun h => c'' (s24.2 h)))
      show x4.toInt = x4.toInt + (if kd q = 20 ∨ kd q = 22 ∨ kd q = 24 then 1 else 0)
      rw [if_neg n20]
      omega
  · have k4 : kd (p + 1) = 4 := r4.1 c4
    have hp2 : p + 2 ≤ n := by
      by_cases c2 : p + 1 = n
      · have := tk.2.2.2.2
        rw [← c2, k4] at this
        omega
      · omega
    refine ⟨fun cy => kc (fun h => (hy hp2).2 h.2 cy) (by omega), fun cy _ => ka ⟨k4, (hy hp2).1 cy⟩ _ (ad1 (h6 k4))⟩
  · exact Or.inl ((rk_to tk hp2 26 (by decide) (j := 58) (by decide)).1 c)
  · rcases hx with h | h
    · exact fun _ => c ((rk_to tk hp2 26 (by decide) (j := 58) (by decide)).2 h)
    · exact fun _ => c2 ((rk_to tk hp2 27 (by decide) (j := 59) (by decide)).2 h)
  · exact Or.inr ((rk_to tk hp2 27 (by decide) (j := 59) (by decide)).1 c2)
end RTD
