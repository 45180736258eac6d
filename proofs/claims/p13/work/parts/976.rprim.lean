/-! the reference's expressions: the primary ones -/
section RPR
variable {w σ σ' σ1 s r τ t : St} {kd : Nat → Int} {n S m lo c d k p p' sel u q : Nat} {vs z : List Nat} {K T H Z F I : Int} {X a b : Int32}
theorem mv_zero (hA : MVq t q k T H Z F X I) : MVq (upC t q 5 b) q k T H b.toInt F X I := by
  obtain ⟨q0, q1, q2, q3, q4, q5, q6⟩ := hA
  refine ⟨?_, ?_, ?_, ?_, ?_, fun hf => ?_, fun hi => ?_⟩
  · rw [rdA_ne (by decide)]; exact q0
  · rw [rdA_ne (by decide)]; exact q1
  · rw [rdA_ne (by decide)]; exact q2
  · rw [rdA_eq rfl]
  · rw [rdA_ne (by decide)]; exact q4
  · rw [rdA_ne (by decide)]; exact q5 hf
  · rw [rdA_ne (by decide)]; exact q6 hi
theorem rk_is (hG : RGm kd n S m lo σ) (c : Nat) (hc : c ≤ 62) (j : Int) (hj : rkI (c : Int) = j) (h : rkI (kd p) = j) : kd p = (c : Int) := rk_one (hG.1.2.2.1 p) (by omega) (by rw [h, hj])
theorem gm_k (h : GMt σ n p) (e : s 0 10 = σ 0 10) : GMt s n p := by
  unfold GMt
  rw [e]
  exact h
theorem vr_num {Z : Int} : VRq 0 0 1 Z 1 := ⟨by omega, by omega, by omega, fun _ => rfl, fun _ => rfl, fun h => absurd h (by decide), by omega, fun _ => by decide⟩
/-- an end of a primary one, a token long -/
theorem ep_one {y : Stq} (hG : RGm kd n S m lo σ) (hg : GMt σ n p) (h2 : 2 ≤ kd p) (hpv : ∀ L, PVq kd 4 d 0 p L (some (p + 1, L ++ [y]))) (k0 : Kp [(0, 10)] [] σ σ1) (g1 : GMt σ1 n (p + 1)) (hr : KEr σ1 s) (e10 : s 0 10 = σ1 0 10) (hD : ∃ D : Nat, (s 0 37).toInt = (D : Int) ∧ D ≤ 16000) (h12 : 0 ≤ (s 0 12).toInt) (hM : MNq σ1 s) (hT : TFq τ vs t (vs ++ [q])) (hq : q ∉ vs) (mv : MVq t q K T 1 Z F X I) (vr : VRq K T 1 Z F)
    (hX : ∀ c, c < 480 → EXq kd n S m lo c [y] σ1 s K T 1 Z F X) : EPq kd n S m lo 4 d 0 p σ τ vs q s t (vs ++ [q]) := by
  have kk : KEr σ s := kp_tr (kpr_p k0).1 hr
  have e12 : σ1 0 12 = σ 0 12 := k0 0 12 rfl rfl
  refine ⟨p + 1, [y], hpv, by omega, gm_k g1 e10, kk, ?_, rgm_k hG kk hD h12, hT, List.mem_append_right _ (List.mem_singleton.mpr rfl), hq, K, T, 1, Z, F, I, X, mv, vr, by omega, fun c hc => ex_src (kpr_p k0) e12 (hX c ?_)⟩
  · unfold MNq at hM ⊢
    rw [← e12]
    exact hM
  · unfold ROq at hc
    omega
end RPR
