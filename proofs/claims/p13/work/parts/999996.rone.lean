/-! the reference: one initial within functions -/
section RON
variable {w s r σ σ' τ t : St} {kd vl : Nat → Int} {n S m lo d p : Nat} {vs z : List Nat} {a1 a2 a3 a4 : Int32} {F0 : Prop}
theorem es_one {Q : Int32 → St → St → List Nat → Prop} (h4 : a4.toInt ≠ 0) (hG : RGs kd vl n S m lo d σ) (hg : GMt σ n p)
    (kk : ∀ (v : Int32) s t z p' l s8 K T H Z F X, EVq (fun N => EXn kd N p) (some (p', gqs l)) → p < p' → GMt s n p' → RGs kd vl n S m lo d s → MNq σ s → s 0 57 = σ 0 57 → TFq τ vs t z → (∀ y, y ∈ l → 1 ≤ y.1 ∧ y.1 ≤ 16) → KEr σ s8 → VRq K T H Z F → EXq kd n S m lo 0 l σ s8 K T H Z F X → Kp [(0, 17)] [8] s8 s → (v.toInt = 0 ∨ v.toInt = 1) → (v.toInt = 1 ↔ T = a1.toInt ∨ (0 < a1.toInt ∧ Z ≠ 0)) → Q v s t z) (kn : EVq (fun N => EXn kd N p) none → F0) : pp_one_1 a1 a2 a3 a4 σ τ vs Q (fun _ _ _ => F0) := by
  unfold pp_one_1
  refine es_expr hG hg (fun u s8 t8 z8 p' l K T H Z F' I X hev hp g8 hG8 hr hm htf hu hun hmv hvr hact hex => ?_) kn
  refine mr_read hmv (fun _ s16 t16 kw hne hmv2 => ⟨fun _ => ?_, fun c => absurd c h4⟩)
  have fin : ∀ s9, Kp [(0, 17)] [8] s8 s9 → pp_fits u a1 s9 t16 z8 (fun v130 => Q v130 s9 t16 z8) := fun s9 k9 => mr_fits hmv2 (fun v hv1 hv2 =>
    kk v s9 t16 z8 p' l s8 K T H Z F' X hev hp (gm_k g8 (k9 0 10 rfl rfl)) (rg_ds hG8 (ds_k k9 rfl rfl) (by rw [k9 0 12 rfl rfl]; exact rgq_0 hG8.1)) (fun hx => by rw [k9 0 12 rfl rfl]; exact hm hx) (by rw [k9 0 57 rfl rfl, hr 0 57 rfl rfl]) (tf_read htf hun hne) hact hr hvr hex k9 hv1 hv2)
  refine ⟨fun s9 t9 z9 => t9 = t16 ∧ z9 = z8 ∧ Kp [(0, 17)] [8] s8 s9, ?_, fun _ => ⟨rfl, rfl, kw⟩, fun _ _ => ⟨fun _ => ⟨rfl, rfl, kw⟩, fun _ => mr_put1 (fun s9 k9 => ⟨rfl, rfl, kp_tr kw k9⟩)⟩⟩
  rintro s9 t9 z9 ⟨e1, e2, k9⟩
  rw [e1, e2]
  refine ⟨fun s10 t10 z10 => t10 = t16 ∧ z10 = z8 ∧ Kp [(0, 17)] [8] s8 s10, ?_, fun _ => ⟨rfl, rfl, k9⟩, fun _ _ => ⟨fun _ => ⟨rfl, rfl, k9⟩, fun _ => mr_put0 (fun s10 k10 => ⟨rfl, rfl, kp_tr k9 k10⟩)⟩⟩
  rintro s10 t10 z10 ⟨e3, e4, k10⟩
  rw [e3, e4]
  exact fin s10 k10
end RON
