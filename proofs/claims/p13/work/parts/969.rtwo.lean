/-! both sides: operators -/
section RTW
variable {w σ σ1 σ2 σ3 σ' s r τ t : St} {kd : Nat → Int} {n S m lo u v c p q j : Nat} {l l1 l2 : List Stq} {Q Q2 : St → Prop} {B B2 : Prop} {K T H Z F I K2 T2 H2 Z2 F2 T3 F3 sg : Int} {X X2 X3 : Int32}
theorem kpr_rf : KPr σ σ := ⟨kp_rf, rfl, rfl, rfl⟩
theorem kpr_tr (h : KPr σ s) (g : KPr s r) : KPr σ r := ⟨kp_tr h.1 g.1, g.2.1.trans h.2.1, g.2.2.1.trans h.2.2.1, g.2.2.2.trans h.2.2.2⟩
theorem kpr_x (h : KXr σ s) : KPr σ s := ⟨kp_sub h rfl rfl, funext (fun i => h 14 i rfl rfl), h 0 37 rfl rfl, funext (fun i => h 21 i rfl rfl)⟩
theorem kpr_p (h : Kp [(0, 10)] [] σ s) : KPr σ s := ⟨kp_sub h rfl rfl, funext (fun i => h 14 i rfl rfl), h 0 37 rfl rfl, funext (fun i => h 21 i rfl rfl)⟩
theorem re_ref (h : REq kd n S m lo w σ) (k : KPr σ σ') : REq kd n S m lo w σ' := re_same h (ste_rf (j := 0)) k rfl rfl rfl
theorem ker_15 (h : KEr σ σ') : σ' 0 15 = σ 0 15 := h 0 15 rfl rfl
theorem bd_mono (hb : BDr σ σ1 F) (h15 : σ1 0 15 = σ 0 15) (h1 : (σ1 0 12).toInt ≠ 0 → (σ' 0 12).toInt ≠ 0) (h2 : F ≠ 1 → F2 ≠ 1) : BDr σ σ' F2 := by
  rcases hb with hb | hb
  · exact Or.inl ⟨hb.1, h1 hb.2⟩
  · exact Or.inr ⟨hb.1, h2 hb.2⟩
theorem bd_from (hb : BDr σ1 σ2 F) (h15 : σ1 0 15 = σ 0 15) : BDr σ σ2 F := by
  unfold BDr at hb ⊢
  rw [h15] at hb
  exact hb
theorem av_x {q : Nat} {x x2 : Int32} {k t h z f i : Int} (hA : AVq w q k t h z f x i) (e : f = 1 → x2 = x) : AVq w q k t h z f x2 i := by
  obtain ⟨q0, q1, q2, q3, q4, q5, q6⟩ := hA
  exact ⟨q0, q1, q2, q3, q4, fun hf => (q5 hf).trans (e hf).symm, q6⟩
/-- what comes behind an expression -/
theorem ex_then (hE : EXq kd n S m lo c l1 σ σ1 K T H Z F X) (h0 : (σ 0 12).toInt = 0) (hR : REq kd n S m lo w σ) (hf : (w 6 3).toInt = 0) (hc7 : (w 7 7).toInt = (c : Int)) (hb : BDr σ σ1 F → B) (hq : ∀ s, (s 6 3).toInt ≠ 0 → B → Q s)
    (kk : ∀ s i, (s 6 3).toInt = 0 → (σ1 0 12).toInt = 0 → T ≠ -2 → H ≤ 60 → REq kd n S m lo s σ1 → STe c w s → (s 7 7).toInt = (c : Int) + 1 → AVq s (65 + c) K T H Z F X i → XW l2 s Q B) : XW (l1 ++ l2) w Q B := by
  refine xw_app (xw_mono (hE h0 w hR hf hc7) (fun s hs => ?_) hb)
  by_cases c0 : (s 6 3).toInt = 0
  · obtain ⟨g1, g2, g3, g4, g5, g6, i, g7⟩ := hs.2 c0
    exact kk s i c0 g1 g2 g3 g4 g5 g6 g7
  · exact xw_bad c0 (hb (hs.1 c0)) (fun s' h => hq s' h (hb (hs.1 c0)))
theorem kd_at (hR : REq kd n S m lo w σ) {a : Int32} (ha : a.toInt = (q : Int)) (hq : q ≤ n) : (atv 16002 (w 13) a).toInt = kd q := by
  rw [atv_at ha (by have := hR.1.1.1; omega)]
  exact hR.1.2.1 q hq
/-- an expression whose Value changes no more in the reference -/
theorem ex_ref (hE : EXq kd n S m lo c l σ σ1 K T H Z F X) (k : KPr σ1 σ') (e12 : σ' 0 12 = σ1 0 12) : EXq kd n S m lo c l σ σ' K T H Z F X := by
  intro h0 w hR hf hc7
  have hb : BDr σ σ1 F → BDr σ σ' F := fun hb => by
    unfold BDr
    rw [e12]
    exact hb
  refine xw_mono (hE h0 w hR hf hc7) (fun s hs => ⟨fun hx => hb (hs.1 hx), fun hx => ?_⟩) hb
  obtain ⟨g1, g2, g3, g4, g5⟩ := hs.2 hx
  exact ⟨by rw [e12]; exact g1, g2, g3, re_ref g4 k, g5⟩
/-- two sides -/
theorem ex_two (hA : EXq kd n S m lo c l1 σ σ1 K T H Z F X) (hB : EXq kd n S m lo (c + 1) l2 σ1 σ2 K2 T2 H2 Z2 F2 X2) (vA : VRq K T H Z F) (vB : VRq K2 T2 H2 Z2 F2) (hq : q ≤ n) (hs : kd q = sg) (hr : 41 ≤ sg ∧ sg ≤ 58) (hc : c < 490)
    (k1 : KEr σ σ1) (k2 : KEr σ1 σ2) (m2 : (σ1 0 12).toInt ≠ 0 → (σ2 0 12).toInt ≠ 0) (k3 : KPr σ2 σ3) (f3 : FTq σ2 σ3 (B ∨ 60 < 1 + mxq H H2))
    (hF : F3 = 1 → F = 1 ∧ F2 = 1 ∧ ¬ B ∧ 1 + mxq H H2 ≤ 60) (hT : T ≠ -2 → T2 ≠ -2 → (B ↔ tyq sg T T2 Z Z2 = -2) ∧ (¬ B → 1 + mxq H H2 ≤ 60 → T3 = tyq sg T T2 Z Z2 ∧ F3 = fcq sg F F2 X2 ∧ (F3 = 1 → X3 = wkq sg X X2))) :
    EXq kd n S m lo c (l1 ++ [stp 7 q] ++ l2 ++ [stp 8 q]) σ σ3 0 T3 (1 + mxq H H2) 0 F3 X3 := by
  intro h0 w hR hf hc7
  have e15 : σ1 0 15 = σ 0 15 := ker_15 k1
  have f23 : (σ2 0 12).toInt ≠ 0 → (σ3 0 12).toInt ≠ 0 := fun hx => f3.2.2 (Or.inl hx)
  have hbA : BDr σ σ1 F → BDr σ σ3 F3 := fun hb => bd_mono hb e15 (fun hx => f23 (m2 hx)) (fun hx hy => hx (hF hy).1)
  have hbB : BDr σ1 σ2 F2 → BDr σ σ3 F3 := fun hb => bd_mono (bd_from hb e15) ((ker_15 k2).trans e15) f23 (fun hx hy => hx (hF hy).2.1)
  have qb : ∀ s, (s 6 3).toInt ≠ 0 → BDr σ σ3 F3 → ((s 6 3).toInt ≠ 0 → BDr σ σ3 F3) ∧ ((s 6 3).toInt = 0 → (σ3 0 12).toInt = 0 ∧ T3 ≠ -2 ∧ 1 + mxq H H2 ≤ 60 ∧ REq kd n S m lo s σ3 ∧ STe c w s ∧ (s 7 7).toInt = (c : Int) + 1 ∧ ∃ i, AVq s (65 + c) 0 T3 (1 + mxq H H2) 0 F3 X3 i) := fun s hx hb => ⟨fun _ => hb, fun hy => absurd hy hx⟩
  rw [List.append_assoc, List.append_assoc]
  refine ex_then hA h0 hR hf hc7 hbA qb (fun s i c0 g1 g2 g3 g4 g5 g6 g7 => xw_app (xw_one (fun _ => xk_left (fun a ha => xt_left g6 (by omega) g7 vA.1 (kd_at g4 ha hq) (fun s2 ks e6 e7 hA2 => ?_))) (fun hx => absurd c0 hx)))
  rw [if_neg (by omega)] at hA2
  have r2 : REq kd n S m lo s2 σ1 := re_x g4 ks
  refine ex_then hB g1 r2 (by rw [e6]; exact c0) e7 hbB qb (fun s3 i3 c3 d1 d2 d3 d4 d5 d6 d7 => xw_one (fun _ => xk_binary (fun a ha => ?_)) (fun hx => absurd c3 hx))
  have hA3 : AVq s3 (65 + c) 0 T H Z F X i := av_eq hA2 (fun k => d5.2 c k (by omega))
  refine xt_binary (by rw [d6]; omega) (by omega) c3 hA3 d7 vB.1 (by have := vA.2.2.1; have := vB.2.2.1; omega) ((kd_at d4 ha hq).trans hs) hr (fun s4 k4 e47 hA4 ef => ?_)
  obtain ⟨t1, t2⟩ := hT g2 d2
  refine ⟨fun hx => ?_, fun hx => ?_⟩
  · have hb : B ∨ 60 < 1 + mxq H H2 := (ef.1 hx).imp t1.2 id
    by_cases q15 : (σ 0 15).toInt ≤ 0
    · exact Or.inl ⟨q15, f3.2.2 (Or.inr ⟨hb, by rw [(ker_15 k2).trans e15]; exact q15⟩)⟩
    · refine Or.inr ⟨by omega, fun hy => ?_⟩
      obtain ⟨_, _, y1, y2⟩ := hF hy
      rcases hb with hb | hb
      · exact y1 hb
      · omega
  · have hb : ¬ (B ∨ 60 < 1 + mxq H H2) := fun hy => ef.2 (hy.imp t1.1 id) hx
    have hh3 : 1 + mxq H H2 ≤ 60 := Int.not_lt.mp (fun hy => hb (Or.inr hy))
    obtain ⟨t3, t4, t5⟩ := t2 (fun hy => hb (Or.inl hy)) hh3
    have ht3 : T3 ≠ -2 := fun hy => hb (Or.inl (t1.2 (t3.symm.trans hy)))
    rw [← t3, ← t4] at hA4
    refine ⟨nbq_of d1 f3 hb, ht3, hh3, re_ref (re_x d4 k4) k3, ste_tr (ste_tr g5 (ste_x ks)) (ste_tr (ste_le d5 (by omega)) (ste_x k4)), e47, 0, av_x hA4 t5⟩
end RTW
