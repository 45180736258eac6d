/-! the reference's operators on one Value -/
def onB (sg ty : Int) : Prop := if sg = 59 then ty < 0 else ty ≠ 0
section ROP3
variable {σ s r τ t : St} {vs z : List Nat} {u v q : Nat} {k ty h zz f i sg : Int} {x y a b c : Int32} {B B2 : Prop}
theorem mx_same : mxq h h = h := by unfold mxq; split <;> rfl
theorem rk_iff2 : ∀ a : Nat, a < 63 → (rkI (a : Int) - 32 = 41 ↔ a = 59) ∧ (rkI (a : Int) - 32 = 37 ↔ a = 44) ∧ (rkI (a : Int) - 32 = 33 ↔ a = 48) ∧ (rkI (a : Int) - 32 = 38 ↔ a = 45) ∧ (rkI (a : Int) - 32 = 18 ↔ a = 61) ∧ (rkI (a : Int) - 32 = 19 ↔ a = 62) := by decide
theorem rk_iff3 (hr : 0 ≤ sg ∧ sg ≤ 62) (hs : a.toInt = rkI sg - 32) : (a.toInt = 41 ↔ sg = 59) ∧ (a.toInt = 37 ↔ sg = 44) ∧ (a.toInt = 33 ↔ sg = 48) ∧ (a.toInt = 38 ↔ sg = 45) ∧ (a.toInt = 18 ↔ sg = 61) ∧ (a.toInt = 19 ↔ sg = 62) := by
  have hi := rk_iff2 sg.toNat (by omega)
  rw [show ((sg.toNat : Nat) : Int) = sg from by omega, ← hs] at hi
  omega
theorem mr_one {Q : Nat → St → St → List Nat → Prop} (h0 : 0 ≤ (σ 0 12).toInt) (hA : MVq τ u k ty h zz f x i) (hu : u ∈ vs) (hr : sg = 44 ∨ sg = 59 ∨ sg = 60) (hs : a.toInt = rkI sg - 32) (hf : f = 1 → ty = 0) (hh : 0 ≤ h ∧ h ≤ 20000)
    (kk : ∀ q s t F X, q ∉ vs → KXr σ s → TFq τ vs t (vs ++ [q]) → MVq t q 0 0 (1 + h) 0 F X 0 → (F = 0 ∨ F = 1) → (F = 1 → f = 1 ∧ 1 + h ≤ 60) → FTq σ s (onB sg ty ∨ 60 < 1 + h) → (1 + h ≤ 60 → F = (if f = 1 then 1 else 0) ∧ (F = 1 → X = ivq sg x)) → Q q s t (vs ++ [q])) : pp_one_2 a u b σ τ vs Q := by
  obtain ⟨i41, i37, _⟩ := rk_iff3 (by omega) hs
  unfold pp_one_2
  have nx : ∀ y : Int32, (y.toInt = 0 ↔ onB sg ty) → pp_must y b σ τ vs (fun s19 t19 z19 => pp_made (0 : Int32) u u b s19 t19 z19 (fun u27 s27 t27 z27 => ∃ J57 : Int32 → Prop, (∀ (y1_57 : Int32), J57 y1_57 → (pp_put_0 y1_57 s27 t27 z27 (fun s57 t57 z57 => (u ∈ z57) → (((t57 u 6).toInt ≠ 1 → (Q u27 s57 t57 z57)) ∧ ((t57 u 6).toInt = 1 → (pp_isInt u s57 t57 z57 (fun v69 => (v69.toInt = 0 → (Q u27 s57 t57 z57)) ∧ (v69.toInt ≠ 0 → ((u27 ∈ z57) → (((t57 u27 3).toInt ≤ 60 → (∃ J131 : Int32 → Prop, (∀ (y1_131 : Int32), J131 y1_131 → (pp_Vconstant u27 y1_131 s57 t57 z57 (fun u131 s131 t131 z131 => Q u131 s131 t131 z131))) ∧ ((a.toInt ≠ 41 → ((a.toInt ≠ 37 → (J131 ((t57 u 7) ^^^ ((-1) : Int32)))) ∧ (a.toInt = 37 → (J131 (-(t57 u 7)))))) ∧ (a.toInt = 41 → (((t57 u 7).toInt ≠ 0 → (J131 (0 : Int32))) ∧ ((t57 u 7).toInt = 0 → (J131 (1 : Int32)))))))) ∧ (60 < (t57 u27 3).toInt → (Q u27 s57 t57 z57)))))))))))) ∧ ((a.toInt ≠ 41 → ((a.toInt ≠ 37 → (J57 (13 : Int32))) ∧ (a.toInt = 37 → (J57 (12 : Int32))))) ∧ (a.toInt = 41 → (J57 (14 : Int32)))))) := fun y hy => by
    refine mr_must h0 (fun s k1 f1 => mr_made f1.1 hA hA hu hu ⟨hh.1, hh.2, hh.1, hh.2⟩ (fun q s2 t hq k2 tf t0 mv f2 => ⟨fun _ => True, fun y2 _ => mr_put0 (fun s3 k3 _ => ?_), fun _ => ⟨fun _ => trivial, fun _ => trivial⟩, fun _ => trivial⟩))
    rw [mx_same] at mv f2
    have ks : KXr σ s3 := kp_tr (kp_tr (kf_x k1) (kf_x k2)) (kw_x k3)
    have fs : FTq σ s3 (onB sg ty ∨ 60 < 1 + h) := ft_k (ft_iff (ft_tr f1 f2 (k1 0 15 rfl rfl)) (or_congr hy Iff.rfl)) (k3 0 12 rfl rfl)
    have am := mv_tf hA hu tf
    have am6 := am.2.2.2.2.1
    have mv3 := mv.2.2.1
    refine ⟨fun c => kk q s3 t 0 0 hq ks tf mv (Or.inl rfl) (fun hx => absurd hx (by decide)) fs (fun _ => ⟨by rw [if_neg (fun e => c (am6.trans e))], fun hx => absurd hx (by decide)⟩), fun c => mr_isI am (fun v _ hv => ⟨fun c2 => absurd c2 (hv.2 (hf (am6.symm.trans c))), fun c2 _ => ⟨fun c3 => ?_, fun c3 => kk q s3 t 0 0 hq ks tf mv (Or.inl rfl) (fun hx => absurd hx (by decide)) fs (fun hx => absurd c3 (by rw [mv3]; omega))⟩⟩)⟩
    have ax := am.2.2.2.2.2.1 (am6.symm.trans c)
    rw [mv3] at c3
    refine ⟨fun y => y = ivq sg x, fun y3 hy3 _ => kk q s3 _ 1 y3 hq ks (tf_up (tf_up tf hq) hq) (mv_const mv) (Or.inr rfl) (fun _ => ⟨am6.symm.trans c, c3⟩) fs (fun _ => ⟨by rw [if_pos (am6.symm.trans c)], fun _ => hy3⟩), fun d => ⟨fun d2 => ?_, fun d2 => ?_⟩, fun d => ⟨fun d2 => ?_, fun d2 => ?_⟩⟩
    · unfold ivq
      rw [ax, if_neg (fun e => d2 (i37.2 e)), if_pos (by rcases hr with e | e | e; exact absurd (i37.2 e) d2; exact absurd (i41.2 e) d; exact e)]
    · unfold ivq
      rw [ax, if_pos (i37.1 d2)]
    · have e := i41.1 d
      unfold ivq
      rw [ax] at d2
      rw [if_neg (by omega), if_neg (by omega), if_neg d2]
    · have e := i41.1 d
      unfold ivq
      rw [ax] at d2
      rw [if_neg (by omega), if_neg (by omega), if_pos d2]
  refine ⟨fun y => (y.toInt = 0 ↔ onB sg ty), fun y _ hy => nx y hy, fun c => mr_isI hA (fun v _ hv => ?_), fun c => mr_isA hA (fun v _ hv => ?_)⟩
  · unfold onB
    rw [if_neg (fun e => c (i41.2 e))]
    omega
  · unfold onB
    rw [if_pos (i41.1 c)]
    omega
/-- behind a pointer -/
theorem mr_pointedTo {Q : Nat → St → St → List Nat → Prop} (h0 : 0 ≤ (σ 0 12).toInt) (hA : MVq τ u k ty h zz f x i) (hu : u ∈ vs) (hty : -2 ≤ ty ∧ ty ≤ 9) (hh : 0 ≤ h ∧ h ≤ 20000)
    (kk : ∀ q s t, q ∉ vs → KXr σ s → TFq τ vs t (vs ++ [q]) → MVq t q 3 (if 0 < ty then ty - 1 else -2) (1 + h) 0 0 0 0 → FTq σ s (ty < 1 ∨ 60 < 1 + h) → Q q s t (vs ++ [q])) : pp_pointedTo u b σ τ vs Q := by
  unfold pp_pointedTo
  refine mr_isP hA (fun v _ hv => mr_must h0 (fun s k1 f1 => mr_isP hA (fun v2 _ hv2 => ⟨fun y => y.toInt = (if 0 < ty then ty - 1 else -2), fun y hy => mr_made f1.1 hA hA hu hu ⟨hh.1, hh.2, hh.1, hh.2⟩ (fun q s2 t hq k2 tf t0 mv f2 _ => ?_), fun c => ?_, fun c _ => ?_⟩)))
  · rw [mx_same] at mv f2
    rw [hy] at mv
    refine kk q s2 _ hq (kp_tr (kf_x k1) (kf_x k2)) (tf_up (tf_up tf hq) hq) ?_ (ft_iff (ft_tr f1 f2 (k1 0 15 rfl rfl)) (or_congr (by omega) Iff.rfl))
    obtain ⟨q0, q1, q2, q3, q4, q5, q6⟩ := mv
    refine ⟨?_, ?_, ?_, ?_, ?_, fun hf => absurd hf (by decide), fun hi => by omega⟩
    · rw [rdA_ne (by decide), rdA_eq rfl]; rfl
    · rw [rdA_ne (by decide), rdA_ne (by decide)]; exact q1
    · rw [rdA_ne (by decide), rdA_ne (by decide)]; exact q2
    · rw [rdA_ne (by decide), rdA_ne (by decide)]; exact q3
    · rw [rdA_ne (by decide), rdA_ne (by decide)]; exact q4
  · rw [if_neg (by omega)]
    rfl
  · have := hA.2.1
    show ((τ u 0) - (1 : Int32)).toInt = _
    rw [if_pos (by omega), sb1 (by omega)]
    omega
/-- the address of a place -/
def ptB (k ty : Int) : Prop := k = 0 ∨ ty < 0 ∨ 9 ≤ ty
theorem mr_pointed {Q : Nat → St → St → List Nat → Prop} (h0 : 0 ≤ (σ 0 12).toInt) (hA : MVq τ u k ty h zz f x i) (hu : u ∈ vs) (hk : 0 ≤ k ∧ k ≤ 3) (hty : -2 ≤ ty ∧ ty ≤ 9) (hh : 0 ≤ h ∧ h ≤ 20000)
    (kk : ∀ q s t T F, q ∉ vs → KXr σ s → TFq τ vs t (vs ++ [q]) → MVq t q 0 T (1 + h) 0 F 0 0 → (ptB k ty → T = -2) → (¬ ptB k ty → T = ty + 1) → (F = if k = 2 ∧ 1 + h ≤ 60 then 2 else 0) → FTq σ s (ptB k ty ∨ 60 < 1 + h) → Q q s t (vs ++ [q])) : pp_pointed u b σ τ vs Q := by
  unfold pp_pointed
  have a1 := hA.1
  have a2 := hA.2.1
  refine fun _ => ⟨fun y => (y.toInt = 0 ↔ ptB k ty), fun y _ hy => mr_must h0 (fun s k1 f1 => ⟨fun y => (ptB k ty → y.toInt = -2) ∧ (¬ ptB k ty → y.toInt = ty + 1), fun y1 hy1 => mr_made f1.1 hA hA hu hu ⟨hh.1, hh.2, hh.1, hh.2⟩ (fun q s2 t hq k2 tf t0 mv f2 _ => ?_), fun c => ⟨fun _ => by decide, fun hx => absurd (hy.1 c) hx⟩, fun c _ => ⟨fun hx => absurd (hy.2 hx) c, fun hx => ?_⟩⟩), ptB k ty, fun hx => ⟨fun _ => hx, fun _ => rfl⟩, fun c => Or.inl (a1.symm.trans c), fun c => ⟨fun c2 => Or.inr (Or.inl (by omega)), fun c2 => ⟨fun c3 => Or.inr (Or.inr (by omega)), fun c3 => ⟨fun hx => absurd hx (by decide), fun hx => ?_⟩⟩⟩⟩
  · rw [mx_same] at mv f2
    have k12 : KXr σ s2 := kp_tr (kf_x k1) (kf_x k2)
    have fs : FTq σ s2 (ptB k ty ∨ 60 < 1 + h) := ft_iff (ft_tr f1 f2 (k1 0 15 rfl rfl)) (or_congr hy Iff.rfl)
    have am := mv_tf hA hu tf
    have am1 := am.1
    have mv3 := mv.2.2.1
    refine ⟨fun s' t' z' => KXr σ s' ∧ FTq σ s' (ptB k ty ∨ 60 < 1 + h) ∧ t' = t ∧ z' = vs ++ [q], ?_, fun c => ⟨k12, fs, rfl, rfl⟩, fun c _ => mr_put1 (fun s3 k3 => ⟨kp_tr k12 (kp_tr (kp_a kp_rf rfl) (kw_x k3)), ft_k fs ((k3 0 12 rfl rfl).trans (by rw [rdC_ne (by decide)])), rfl, rfl⟩)⟩
    rintro s3 t3 z3 ⟨k3, f3, rfl, rfl⟩ _
    refine ⟨fun c => mr_put1 (fun s4 k4 _ => ⟨fun c6 _ _ => ?_, fun c6 => ?_⟩), fun c => kk q s3 _ _ 0 hq k3 tf mv hy1.1 hy1.2 (by rw [if_neg (fun hx => c (am1.trans hx.1))]) f3⟩
    · rw [mv3] at c6
      exact kk q s4 _ _ 2 hq (kp_tr k3 (kw_x k4)) (tf_up (tf_up (tf_up tf hq) hq) hq) (mv_addr mv) hy1.1 hy1.2 (by rw [if_pos ⟨am1.symm.trans c, c6⟩]) (ft_k f3 (k4 0 12 rfl rfl))
    · rw [mv3] at c6
      exact kk q s4 _ _ 0 hq (kp_tr k3 (kw_x k4)) tf mv hy1.1 hy1.2 (by rw [if_neg (fun hx => by omega)]) (ft_k f3 (k4 0 12 rfl rfl))
  · unfold ptB at hx
    show ((τ u 0) + (1 : Int32)).toInt = _
    rw [ad0 i1 (by omega) (by omega), a2]
  · unfold ptB at hx
    omega
/-- one more or less of a place -/
theorem mr_stepped {Q : Nat → St → St → List Nat → Prop} (h0 : 0 ≤ (σ 0 12).toInt) (hA : MVq τ u k ty h zz f x i) (hu : u ∈ vs) (hh : 0 ≤ h ∧ h ≤ 20000)
    (kk : ∀ q s t T, q ∉ vs → KXr σ s → TFq τ vs t (vs ++ [q]) → MVq t q 0 T (1 + h) 0 0 0 0 → (k = 0 ∨ ty < 0 → T = -2) → (¬ (k = 0 ∨ ty < 0) → T = ty) → FTq σ s ((k = 0 ∨ ty < 0) ∨ 60 < 1 + h) → Q q s t (vs ++ [q])) : pp_stepped u a c b σ τ vs Q := by
  unfold pp_stepped
  have a1 := hA.1
  have a2 := hA.2.1
  refine fun _ => ⟨fun y => (y.toInt = 0 ↔ (k = 0 ∨ ty < 0)), fun y _ hy => mr_must h0 (fun s k1 f1 => ⟨fun y => ((k = 0 ∨ ty < 0) → y.toInt = -2) ∧ (¬ (k = 0 ∨ ty < 0) → y.toInt = ty), fun y1 hy1 => mr_made f1.1 hA hA hu hu ⟨hh.1, hh.2, hh.1, hh.2⟩ (fun q s2 t hq k2 tf t0 mv f2 => ⟨fun _ => True, fun y2 _ _ => ?_, fun _ => trivial, fun _ => trivial⟩), fun c => ⟨fun _ => by decide, fun hx => absurd (hy.1 c) hx⟩, fun c _ => ⟨fun hx => absurd (hy.2 hx) c, fun hx => a2⟩⟩), (k = 0 ∨ ty < 0), fun hx => ⟨fun _ => hx, fun _ => rfl⟩, fun c => Or.inl (a1.symm.trans c), fun c => ⟨fun c2 => Or.inr (by omega), fun c2 => ⟨fun hx => absurd hx (by decide), fun hx => ?_⟩⟩⟩
  · rw [mx_same] at mv f2
    have k12 : KXr σ s2 := kp_tr (kf_x k1) (kf_x k2)
    have fs : FTq σ s2 ((k = 0 ∨ ty < 0) ∨ 60 < 1 + h) := ft_iff (ft_tr f1 f2 (k1 0 15 rfl rfl)) (or_congr hy Iff.rfl)
    have fin : ∀ s', KXr σ s' → FTq σ s' ((k = 0 ∨ ty < 0) ∨ 60 < 1 + h) → Q q s' t (vs ++ [q]) := fun s' g1 g2 => kk q s' t y1.toInt hq g1 tf mv hy1.1 hy1.2 g2
    refine ⟨fun s' t' z' => KXr σ s' ∧ FTq σ s' ((k = 0 ∨ ty < 0) ∨ 60 < 1 + h) ∧ t' = t ∧ z' = vs ++ [q], ?_, fun c => ⟨k12, fs, rfl, rfl⟩, fun c => mr_put1 (fun s3 k3 => ⟨kp_tr k12 (kw_x k3), ft_k fs (k3 0 12 rfl rfl), rfl, rfl⟩)⟩
    rintro s3 t3 z3 ⟨k3, f3, rfl, rfl⟩ _
    refine ⟨fun s' t' z' => KXr σ s' ∧ FTq σ s' ((k = 0 ∨ ty < 0) ∨ 60 < 1 + h) ∧ t' = t3 ∧ z' = vs ++ [q], ?_, fun c _ => mr_put2 (fun s4 k4 => ⟨kp_tr k3 (kw_x k4), ft_k f3 (k4 0 12 rfl rfl), rfl, rfl⟩), fun c => mr_put2 (fun s4 k4 => ⟨kp_tr k3 (kw_x k4), ft_k f3 (k4 0 12 rfl rfl), rfl, rfl⟩)⟩
    rintro s5 t5 z5 ⟨k5, f5, rfl, rfl⟩
    exact mr_put0 (fun s6 k6 => fin s6 (kp_tr k5 (kw_x k6)) (ft_k f5 (k6 0 12 rfl rfl)))
  · omega
end ROP3
