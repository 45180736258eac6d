/-! the reference's expressions: signs before one -/
section RUN
variable {σ σ1 σ2 s s2 τ t t2 : St} {kd : Nat → Int} {n S m lo d p p' c u q : Nat} {vs z : List Nat} {l : List Stq} {K T H Z F I K3 T3 F3 sg : Int} {X X3 : Int32} {B : Prop} {a : Int32}
theorem ft_from (e12 : s 0 12 = σ 0 12) (e15 : s 0 15 = σ 0 15) (h : FTq s s2 B) : FTq σ s2 B := by
  unfold FTq at h ⊢
  rw [e12, e15] at h
  exact h
theorem tf_new (hT : TFq τ vs t z) (hT2 : TFq t z t2 (z ++ [q])) : TFq τ vs t2 (z ++ [q]) := tf_tr hT hT2
/-- the end of a sign before one -/
theorem ep_un (hp : p ≤ n) (h2 : 2 ≤ kd p) (hd : d < 25) (hun : UNq (kd p)) (k0 : Kp [(0, 10)] [] σ σ1)
    (h1 : ∀ L, PVq kd 2 (d + 1) 0 (p + 1) L (some (p', L ++ l))) (hpp : p + 1 < p') (hg : GMt s n p') (hr : KEr σ1 s) (hM : MNq σ1 s) (hG : RGm kd n S m lo s) (hT : TFq τ vs t z) (hvs : u ∉ vs)
    (vr : VRq K T H Z F) (hH : H ≤ (p' : Int) - ((p + 1 : Nat) : Int)) (hX : ∀ c, ROq c (d + 1) (rmq 2 0) → EXq kd n S m lo c l σ1 s K T H Z F X)
    (k3 : KPr s s2) (e10 : s2 0 10 = s 0 10) (f3 : FTq s s2 (B ∨ 60 < 1 + H)) (hq : q ∉ z) (hT2 : TFq τ vs t2 (z ++ [q])) (mv : MVq t2 q K3 T3 (1 + H) 0 F3 X3 I) (v3 : VRq K3 T3 (1 + H) 0 F3)
    (hF : F3 = 1 → F = 1 ∧ ¬ B ∧ 1 + H ≤ 60) (hU : T ≠ -2 → (B ↔ uyB (kd p) K T) ∧ (¬ B → 1 + H ≤ 60 → T3 ≠ -2 ∧ K3 = uyK (kd p) ∧ T3 = uyT (kd p) T ∧ F3 = uyF (kd p) K F ∧ (F3 = 1 → X3 = ivq (kd p) X))) :
    EPq kd n S m lo 2 d 0 p σ τ vs q s2 t2 (z ++ [q]) := by
  have e12 : σ1 0 12 = σ 0 12 := k0 0 12 rfl rfl
  refine ⟨p', l ++ [stp 11 p], fun L => ?_, by omega, gm_k hg e10, kp_tr (kpr_p k0).1 (kp_tr hr k3.1), fun hx => f3.2.2 (Or.inl (hM (by rw [e12]; exact hx))), rgm_k hG k3.1 ?_ f3.1, hT2, List.mem_append_right _ (List.mem_singleton.mpr rfl), fun hx => hq (hT.1 q hx), K3, T3, 1 + H, 0, F3, I, X3, mv, v3, by omega, fun c hc => ex_src (kpr_p k0) e12 ?_⟩
  · have := pv_u1 (m := 0) hun hd (h1 L)
    rw [← List.append_assoc]
    exact this
  · rw [k3.2.2.1]
    exact hG.2.2.2.2.2.2.2.2.2.2.1
  · have hc2 : ROq c (d + 1) (rmq 2 0) ∧ c < 490 := by
      unfold ROq rmq at hc ⊢
      rw [if_neg (by decide), if_neg (by decide), if_neg (by decide)] at hc ⊢
      omega
    exact ex_unary (hX c hc2.1) vr hp rfl hun hc2.2 hr k3 f3 hF hU
end RUN
