/-! the reference: one initial outside of functions -/
section RONG
variable {w s r σ σ' τ t : St} {kd vl : Nat → Int} {n S m lo d p : Nat} {vs z : List Nat} {a1 a2 a3 a4 : Int32} {F0 : Prop}
theorem es_oneg {Q : Int32 → St → St → List Nat → Prop} (h4 : a4.toInt = 0) (hG : RGs kd vl n S m lo d σ) (hg : GMt σ n p)
    (kk : ∀ (v : Int32) s t z p' l s8 K T H Z F X, EVq (fun N => EXn kd N p) (some (p', gqs l)) → p < p' → GMt s n p' → RGs kd vl n S m lo d s → MNq σ s → s 0 57 = σ 0 57 → TFq τ vs t z → (∀ y, y ∈ l → 1 ≤ y.1 ∧ y.1 ≤ 16) → KEr σ s8 → VRq K T H Z F → EXq kd n S m lo 0 l σ s8 K T H Z F X → Kp [(0, 17), (0, 39)] [8, 25] s8 s → (v = 0 ∨ v = 1) → (v.toInt ≠ 0 ↔ INm a1.toInt T Z F) → Q v s t z) (kn : EVq (fun N => EXn kd N p) none → F0) : pp_one_1 a1 a2 a3 a4 σ τ vs Q (fun _ _ _ => F0) := by
  unfold pp_one_1
  refine es_expr hG hg (fun u s8 t8 z8 p' l K T H Z F' I X hev hp g8 hG8 hr hm htf hu hun hmv hvr hact hex => ?_) kn
  refine mr_read hmv (fun _ s16 t16 kw hne hmv2 => ⟨fun c => absurd h4 c, fun _ => ?_⟩)
  have kw2 : Kp [(0, 17), (0, 39)] [8, 25] s8 (upC s16 0 17 (σ 0 17)) := kp_f (kp_sub kw rfl rfl) rfl
  generalize upC s16 0 17 (σ 0 17) = s17 at kw2
  have fin : ∀ s9, Kp [(0, 17), (0, 39)] [8, 25] s8 s9 → pp_isInitial u a1 s9 t16 z8 (fun v84 => Q v84 s9 t16 z8) := fun s9 k9 => mr_isInitial hmv2 (fun v hv1 hv2 =>
    kk v s9 t16 z8 p' l s8 K T H Z F' X hev hp (gm_k g8 (k9 0 10 rfl rfl)) (rg_ds hG8 (ds_k k9 rfl rfl) (by rw [k9 0 12 rfl rfl]; exact rgq_0 hG8.1)) (fun hx => by rw [k9 0 12 rfl rfl]; exact hm hx) (by rw [k9 0 57 rfl rfl, hr 0 57 rfl rfl]) (tf_read htf hun hne) hact hr hvr hex k9 hv1 hv2)
  refine mr_isInitial hmv2 (fun v34 _ _ => ⟨fun s9 t9 z9 => t9 = t16 ∧ z9 = z8 ∧ Kp [(0, 17), (0, 39)] [8, 25] s8 s9, ?_, fun _ => ⟨rfl, rfl, kw2⟩, fun _ _ => ?_⟩)
  · rintro s9 t9 z9 ⟨e1, e2, k9⟩
    rw [e1, e2]
    exact fin s9 k9
  · exact ⟨fun _ => True, fun _ _ => ⟨fun _ => True, fun _ _ => mr_init (fun s9 k9 => ⟨rfl, rfl, kp_tr kw2 (kp_sub k9 rfl rfl)⟩), fun _ => trivial, fun _ => trivial⟩, fun _ => trivial, fun _ => trivial⟩
end RONG
