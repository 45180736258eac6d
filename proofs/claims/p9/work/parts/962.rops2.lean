/-! the reference's operators on Values, on -/
section ROP2
variable {σ s r τ t : St} {vs z : List Nat} {u v q : Nat} {k ty h zz f i k2 ty2 h2 z2 f2 i2 sg : Int} {x x2 y a b c : Int32} {B B2 : Prop}
theorem mv_const (hA : MVq t q k ty h zz f x i) : MVq (upC (upC t q 6 (1 : Int32)) q 7 y) q k ty h zz 1 y i := by
  obtain ⟨q0, q1, q2, q3, q4, q5, q6⟩ := hA
  refine ⟨?_, ?_, ?_, ?_, ?_, fun _ => rdA_eq rfl, fun hi => ?_⟩
  · rw [rdA_ne (by decide), rdA_ne (by decide)]; exact q0
  · rw [rdA_ne (by decide), rdA_ne (by decide)]; exact q1
  · rw [rdA_ne (by decide), rdA_ne (by decide)]; exact q2
  · rw [rdA_ne (by decide), rdA_ne (by decide)]; exact q3
  · rw [rdA_ne (by decide), rdA_eq rfl]; rfl
  · rw [rdA_ne (by decide), rdA_ne (by decide)]; exact q6 hi
theorem mv_addr (hA : MVq t q k ty h zz f x i) : MVq (upC (upC (upC t q 6 (2 : Int32)) q 8 a) q 7 b) q k ty h zz 2 0 i := by
  obtain ⟨q0, q1, q2, q3, q4, q5, q6⟩ := hA
  refine ⟨?_, ?_, ?_, ?_, ?_, fun hf => absurd hf (by decide), fun hi => ?_⟩
  · rw [rdA_ne (by decide), rdA_ne (by decide), rdA_ne (by decide)]; exact q0
  · rw [rdA_ne (by decide), rdA_ne (by decide), rdA_ne (by decide)]; exact q1
  · rw [rdA_ne (by decide), rdA_ne (by decide), rdA_ne (by decide)]; exact q2
  · rw [rdA_ne (by decide), rdA_ne (by decide), rdA_ne (by decide)]; exact q3
  · rw [rdA_ne (by decide), rdA_ne (by decide), rdA_eq rfl]; rfl
  · rw [rdA_ne (by decide), rdA_ne (by decide), rdA_ne (by decide)]; exact q6 hi
theorem tf_up {m : Nat} (hT : TFq τ vs t z) (hq : q ∉ vs) : TFq τ vs (upC t q m a) z := ⟨hT.1, fun w hw m' => by rw [rdC_ne (nvq hq hw)]; exact hT.2 w hw m'⟩
theorem kw_x (h : KWr σ s) : KXr σ s := kp_sub h rfl rfl
theorem kf_x (h : KFr σ s) : KXr σ s := kp_sub h rfl rfl
theorem fc_0 {sg fa fb : Int} {xb : Int32} (h : ¬ (fa = 1 ∧ fb = 1 ∧ sg < 57 ∧ ¬ ((sg = 46 ∨ sg = 47) ∧ xb.toInt = 0)) ∧ ¬ ((sg = 43 ∨ sg = 44) ∧ fa = 2 ∧ fb = 1) ∧ ¬ (sg = 43 ∧ fa = 1 ∧ fb = 2)) : fcq sg fa fb xb = 0 := by
  unfold fcq
  rw [if_neg h.1, if_neg h.2.1, if_neg h.2.2]
theorem fc_1 {sg fa fb : Int} {xb : Int32} (h : fa = 1 ∧ fb = 1 ∧ sg < 57 ∧ ¬ ((sg = 46 ∨ sg = 47) ∧ xb.toInt = 0)) : fcq sg fa fb xb = 1 := by
  unfold fcq
  rw [if_pos h]
theorem fc_2 {sg fa fb : Int} {xb : Int32} (h : ((sg = 43 ∨ sg = 44) ∧ fa = 2 ∧ fb = 1) ∨ (sg = 43 ∧ fa = 1 ∧ fb = 2)) : fcq sg fa fb xb = 2 := by
  unfold fcq
  (repeat' split) <;> omega
theorem lt_57 {n : Int} (h : n ≤ 56) : n < 57 := by omega
/-- two Values by a sign -/
theorem mr_two {Q : Nat → St → St → List Nat → Prop} (h0 : 0 ≤ (σ 0 12).toInt) (hA : MVq τ u k ty h zz f x i) (hB : MVq τ v k2 ty2 h2 z2 f2 x2 i2) (hu : u ∈ vs) (hv : v ∈ vs) (hr : 41 ≤ sg ∧ sg ≤ 56) (hs : a.toInt = rkI sg - 32)
    (hty : -2 ≤ ty ∧ ty ≤ 9 ∧ -2 ≤ ty2 ∧ ty2 ≤ 9) (hz : (zz ≠ 0 → ty ≠ -1) ∧ (z2 ≠ 0 → ty2 ≠ -1)) (hf : (f = 1 → ty = 0) ∧ (f = 2 → 0 < ty ∨ ty = -2) ∧ (f2 = 1 → ty2 = 0) ∧ (f2 = 2 → 0 < ty2 ∨ ty2 = -2)) (hh : 0 ≤ h ∧ h ≤ 20000 ∧ 0 ≤ h2 ∧ h2 ≤ 20000)
    (kk : ∀ q s t T F X, q ∉ vs → (0 ≤ F ∧ F ≤ 2) → KXr σ s → TFq τ vs t (vs ++ [q]) → MVq t q 0 T (1 + mxq h h2) 0 F X 0 → -2 ≤ T ∧ T ≤ 9 → (F = 1 → T = 0 ∧ f = 1 ∧ f2 = 1 ∧ 1 + mxq h h2 ≤ 60) → (F = 2 → 0 < T) → FTq σ s (T = -2 ∨ 60 < 1 + mxq h h2) → (ty ≠ -2 → ty2 ≠ -2 → T = tyq sg ty ty2 zz z2 ∧ (T ≠ -2 → 1 + mxq h h2 ≤ 60 → F = fcq sg f f2 x2 ∧ (F = 1 → X = wkq sg x x2))) → Q q s t (vs ++ [q])) : pp_two a u v b σ τ vs Q := by
  have hi := rk_iff sg.toNat (by omega)
  rw [show ((sg.toNat : Nat) : Int) = sg from by omega, ← hs] at hi
  obtain ⟨i36, i37, _, _, _⟩ := hi
  have i39 : a.toInt = 39 → sg = 46 := sn_of (by omega) hs 46 (by decide) 39 (by decide)
  have i40 : a.toInt = 40 → sg = 47 := sn_of (by omega) hs 47 (by decide) 40 (by decide)
  have hn43 : sg.toNat = 43 → sg = 43 := fun e => by omega
  have hn44 : sg.toNat = 44 → sg = 44 := fun e => by omega
  have hm43 : sg = 43 → sg.toNat = 43 := fun e => by omega
  have hm44 : sg = 44 → sg.toNat = 44 := fun e => by omega
  unfold pp_two
  refine mr_typeOf hA hB hr hs hty hz (fun r hr9 hT => ⟨fun y => (y.toInt = 0 ↔ r.toInt = -2), fun y _ hy => mr_must h0 (fun s k1 f1 => mr_made f1.1 hA hB hu hv hh (fun q s2 t hq k2 tf t0 mv f2' => mr_rank (by omega) hs (fun vr hvr => ⟨fun _ => True, fun y3 _ _ => ⟨fun _ => True, fun y4 _ _ => mr_put2 (fun s3 k3 _ => ?_), fun _ => trivial, fun _ => trivial⟩, True, fun _ => trivial, fun _ => trivial, fun _ => mr_isP (mv_tf hA hu tf) (fun _ _ _ => ⟨fun _ => trivial, fun _ => trivial⟩)⟩))), fun c => ⟨fun _ => c, fun _ => rfl⟩, fun c => ⟨fun hx => absurd hx (by decide), fun hx => absurd hx c⟩⟩)
  have ks : KXr σ s3 := kp_tr (kp_tr (kf_x k1) (kf_x k2)) (kw_x k3)
  have fs : FTq σ s3 (r.toInt = -2 ∨ 60 < 1 + mxq h h2) := ft_k (ft_iff (ft_tr f1 f2' (k1 0 15 rfl rfl)) (or_congr hy Iff.rfl)) (k3 0 12 rfl rfl)
  have am := mv_tf hA hu tf
  have bm := mv_tf hB hv tf
  have kf : ∀ t' F X, (0 ≤ F ∧ F ≤ 2) → TFq τ vs t' (vs ++ [q]) → MVq t' q 0 r.toInt (1 + mxq h h2) 0 F X 0 → (F = 1 → r.toInt = 0 ∧ f = 1 ∧ f2 = 1 ∧ 1 + mxq h h2 ≤ 60) → (F = 2 → 0 < r.toInt) → (ty ≠ -2 → ty2 ≠ -2 → r.toInt = tyq sg ty ty2 zz z2 → r.toInt ≠ -2 → 1 + mxq h h2 ≤ 60 → F = fcq sg f f2 x2 ∧ (F = 1 → X = wkq sg x x2)) → Q q s3 t' (vs ++ [q])   := fun t' F X g0 g1 g2 g3 g4 g5 => kk q s3 t' r.toInt F X hq g0 ks g1 g2 hr9 g3 g4 fs (fun e1 e2 => ⟨hT e1 e2, fun e3 e4 => g5 e1 e2 (hT e1 e2) e3 e4⟩)
  have hT0 : ty = 0 → ty2 = 0 → r.toInt = 0 := fun e1 e2 => by
    rw [hT (by omega) (by omega)]
    exact ty_ez ⟨by omega, e1, e2⟩
  have hT1 : (sg = 43 ∨ sg = 44) → 0 < ty → ty2 = 0 → 0 < r.toInt := fun e0 e1 e2 => by
    rw [hT (by omega) (by omega)]
    rcases e0 with e0 | e0
    · rw [ty_43p ⟨e0, e2, by omega⟩]; exact e1
    · rw [ty_44p ⟨e0, e2, by omega⟩]; exact e1
  have hT2 : sg = 43 → ty = 0 → 0 < ty2 → 0 < r.toInt := fun e0 e1 e2 => by
    rw [hT (by omega) (by omega), ty_43q ⟨e0, e1, by omega⟩]
    exact e2
  have hT3 : sg = 44 → ty = 0 → 0 < ty2 → ¬ 0 < r.toInt := fun e0 e1 e2 => by
    rw [hT (by omega) (by omega), ty_44n ⟨e0, by omega⟩]
    decide
  have am6 := am.2.2.2.2.1
  have bm6 := bm.2.2.2.2.1
  clear hT k1 k2 k3 f1 f2' kk
  have n0 : (ty ≠ -2 → ty2 ≠ -2 → ¬ (f = 1 ∧ f2 = 1 ∧ ¬ ((sg = 46 ∨ sg = 47) ∧ x2.toInt = 0)) ∧ ¬ ((sg = 43 ∨ sg = 44) ∧ f = 2 ∧ f2 = 1) ∧ ¬ (sg = 43 ∧ f = 1 ∧ f2 = 2)) → Q q s3 t (vs ++ [q]) := fun ee => kf t 0 0 ⟨by decide, by decide⟩ tf mv (fun hx => absurd hx (by decide)) (fun hx => absurd hx (by decide)) (fun q1 q2 _ _ _ => ⟨(fc_0 ⟨fun hx => (ee q1 q2).1 ⟨hx.1, hx.2.1, hx.2.2.2⟩, (ee q1 q2).2.1, (ee q1 q2).2.2⟩).symm, fun hx => absurd hx (by decide)⟩)
  have n2 : ∀ b1 b2 : Int32, 0 < r.toInt → (ty ≠ -2 → ty2 ≠ -2 → ((sg = 43 ∨ sg = 44) ∧ f = 2 ∧ f2 = 1) ∨ (sg = 43 ∧ f = 1 ∧ f2 = 2)) → Q q s3 (upC (upC (upC t q 6 (2 : Int32)) q 8 b1) q 7 b2) (vs ++ [q]) := fun b1 b2 e1 e2 => kf _ 2 0 ⟨by decide, by decide⟩ (tf_up (tf_up (tf_up tf hq) hq) hq) (mv_addr mv) (fun hx => absurd hx (by decide)) (fun _ => e1) (fun q1 q2 _ _ _ => ⟨(fc_2 (e2 q1 q2)).symm, fun hx => absurd hx (by decide)⟩)
  have hf1 := hf.1
  have hf2 := hf.2.1
  have hf3 := hf.2.2.1
  have hf4 := hf.2.2.2
  refine ⟨fun c60 _ => ⟨¬ (f = 1 ∧ f2 = 1 ∧ ty = 0 ∧ ty2 = 0), fun hj => ⟨fun y => (y.toInt ≠ 0 ↔ (0 < r.toInt ∧ (sg = 43 ∨ sg = 44))), fun y5 _ hy5 => ⟨¬ (y5.toInt ≠ 0 ∧ f = 2 ∧ f2 = 1), fun hj2 => ?_, fun c hx => hx.1 c, fun c => ⟨fun c2 hx => c2 (am6.trans hx.2.1), fun c2 _ => ⟨fun c3 hx => c3 (bm6.trans hx.2.2), fun c3 => ⟨fun _ => True, fun y6 _ _ => n2 _ _ (hy5.1 c).1 (fun _ _ => Or.inl ⟨(hy5.1 c).2, am6.symm.trans c2, bm6.symm.trans c3⟩), fun _ => trivial, fun _ => trivial⟩⟩⟩⟩, ?_⟩, ?_⟩, fun c60 => ?_⟩
  · have hj' : ¬ (f = 1 ∧ f2 = 1 ∧ ¬ ((sg = 46 ∨ sg = 47) ∧ x2.toInt = 0)) := fun hx => hj ⟨hx.1, hx.2.1, hf1 hx.1, hf3 hx.2.1⟩
    have hb : ty ≠ -2 → ((sg = 43 ∨ sg = 44) ∧ f = 2 ∧ f2 = 1) → y5.toInt ≠ 0 := fun e hx => hy5.2 ⟨hT1 hx.1 ((hf2 hx.2.1).resolve_right e) (hf3 hx.2.2), hx.1⟩
    have hc : ty2 ≠ -2 → (sg = 43 ∧ f = 1 ∧ f2 = 2) → y5.toInt ≠ 0 := fun e hx => hy5.2 ⟨hT2 hx.1 (hf1 hx.2.1) ((hf4 hx.2.2).resolve_right e), Or.inl hx.1⟩
    refine ⟨fun c => n0 (fun e1 e2 => ⟨hj', fun hx => hb e1 hx c, fun hx => hc e2 hx c⟩), fun c => ⟨fun c2 => n0 (fun e1 e2 => ⟨hj', fun hx => hj2 ⟨c, hx.2⟩, fun hx => c2 (am6.trans hx.2.1)⟩), fun c2 _ => ⟨fun c3 => n0 (fun e1 e2 => ⟨hj', fun hx => hj2 ⟨c, hx.2⟩, fun hx => c3 (bm6.trans hx.2.2)⟩), fun c3 _ => n2 _ _ (hy5.1 c).1 (fun e1 e2 => Or.inr ⟨?_, am6.symm.trans c2, bm6.symm.trans c3⟩)⟩⟩⟩
    rcases (hy5.1 c).2 with e | e
    · exact e
    · exact absurd (hy5.1 c).1 (hT3 e (hf1 (am6.symm.trans c2)) ((hf4 (bm6.symm.trans c3)).resolve_right e2))
  · refine ⟨¬ (0 < r.toInt ∧ (sg = 43 ∨ sg = 44)), fun hx => ⟨fun e => absurd rfl e, fun e => absurd e hx⟩, sg = 43 ∨ sg = 44, fun hx => mr_isP mv (fun v6 _ w6 => ⟨fun c hy6 => w6.2 hy6.1 c, fun c => ⟨fun _ => ⟨w6.1 c, hx⟩, fun _ => by decide⟩⟩), fun c => Or.inl (hn43 (i36.1 c)), fun c => ⟨fun c2 hy6 => ?_, fun c2 => Or.inr (hn44 (i37.1 c2))⟩⟩
    rcases hy6.2 with e | e
    · exact c (i36.2 (hm43 e))
    · exact c2 (i37.2 (hm44 e))
  · refine ⟨fun c hx => c (am6.trans hx.1), fun c _ => ⟨fun c2 hx => c2 (bm6.trans hx.2.1), fun c2 => mr_isI am (fun v6 _ w6 => ⟨fun c3 hx => w6.2 hx.2.2.1 c3, fun c3 => mr_isI bm (fun v7 _ w7 => ⟨fun c4 hx => w7.2 hx.2.2.2 c4, fun c4 => ⟨¬ ((sg = 46 ∨ sg = 47) ∧ x2.toInt = 0), fun hj => ?_, sg = 46 ∨ sg = 47, fun hj => ⟨fun c5 hx => c5 ?_, fun c5 => ?_⟩, fun c5 => Or.inl (i39 c5), fun c5 => ⟨fun c6 hx => ?_, fun c6 => Or.inr (i40 c6)⟩⟩⟩)⟩)⟩⟩
    · have e1 := am.2.2.2.2.2.1 (am6.symm.trans c)
      have e2 := bm.2.2.2.2.2.1 (bm6.symm.trans c2)
      rw [e1, e2]
      refine mr_work hr hs (fun _ => ?_)
      have e3 := mv.2.2.1
      exact kf _ 1 (wkq sg x x2) ⟨by decide, by decide⟩ (tf_up (tf_up tf hq) hq) (mv_const mv) (fun _ => ⟨hT0 (w6.1 c3) (w7.1 c4), am6.symm.trans c, bm6.symm.trans c2, by rw [← e3]; exact c60⟩) (fun hx => absurd hx (by decide)) (fun _ _ _ _ _ => ⟨(fc_1 ⟨am6.symm.trans c, bm6.symm.trans c2, lt_57 hr.2, hj⟩).symm, fun _ => rfl⟩)
    · rw [bm.2.2.2.2.2.1 (bm6.symm.trans c2)]
      exact hx.2
    · rw [bm.2.2.2.2.2.1 (bm6.symm.trans c2)] at c5
      exact n0 (fun _ _ => ⟨fun hx => hx.2.2 ⟨hj, c5⟩, fun hx => absurd (am6.symm.trans c |>.symm.trans hx.2.1) (by decide), fun hx => absurd (bm6.symm.trans c2 |>.symm.trans hx.2.2) (by decide)⟩)
    · rcases hx.1 with e | e
      · exact c5 (by rw [hs, e]; decide)
      · exact c6 (by rw [hs, e]; decide)
  · have e3 := mv.2.2.1
    rw [e3] at c60
    exact kf t 0 0 ⟨by decide, by decide⟩ tf mv (fun hx => absurd hx (by decide)) (fun hx => absurd hx (by decide)) (fun _ _ _ _ hx => absurd c60 (Int.not_lt.mpr hx))
end ROP2
