/-! both sides: operators, on: casts, indices, assignments -/
section RMO
variable {w σ σ1 σ2 σ3 σ' s r τ t : St} {kd : Nat → Int} {n S m lo u c p q j : Nat} {l l1 l2 : List Stq} {Q Q2 : St → Prop} {B B2 : Prop} {K T H Z F I K2 T2 H2 Z2 F2 K3 T3 Z3 F3 sg v : Int} {X X2 X3 : Int32}
/-- a cast -/
theorem ex_cast (hA : EXq kd n S m lo c l1 σ σ1 K T H Z F X) (vA : VRq K T H Z F) (hc : c < 490) (k1 : KEr σ σ1) (k3 : KPr σ1 σ3) (f3 : FTq σ1 σ3 (B ∨ 60 < 1 + H)) (hv : v ≠ -2) (hB : T ≠ -2 → (B ↔ T = -1)) :
    EXq kd n S m lo c (l1 ++ [(12, q, v, 0)]) σ σ3 0 v (1 + H) 0 0 0 := by
  refine ex_end1 hA k1 k3 f3 (fun hx => absurd hx (by decide)) (fun s i c0 g2 g3 g4 g6 g7 Q kk => xk_cast (fun a b ha hb => xt_cast g6 (by omega) c0 g7 vA.1 (by have := vA.2.2.1; omega) (fun s4 k4 e47 hA4 ef => kk s4 k4 e47 (by rw [ef, hB g2]) (fun _ _ => ⟨hv, 0, by rw [← hb]; exact hA4⟩))))
/-- the end of a step over two -/
theorem ex_end2 (hA : EXq kd n S m lo c l1 σ σ1 K T H Z F X) (hB : EXq kd n S m lo (c + 1) l2 σ1 σ2 K2 T2 H2 Z2 F2 X2) (vA : VRq K T H Z F) (hq : q ≤ n) (hc : c < 490)
    (k1 : KEr σ σ1) (k2 : KEr σ1 σ2) (m2 : (σ1 0 12).toInt ≠ 0 → (σ2 0 12).toInt ≠ 0) (k3 : KPr σ2 σ3) (f3 : FTq σ2 σ3 (B ∨ 60 < 1 + mxq H H2)) {y : Stq} (hF : F3 = 1 → F = 1 ∧ F2 = 1 ∧ ¬ B ∧ 1 + mxq H H2 ≤ 60)
    (hx : ∀ s i i2, (s 6 3).toInt = 0 → T ≠ -2 → T2 ≠ -2 → H ≤ 60 → H2 ≤ 60 → REq kd n S m lo s σ2 → (s 7 7).toInt = (c : Int) + 2 → AVq s (65 + c) (if 30 ≤ kd q ∧ kd q ≤ 40 then K else 0) T H Z F X i → AVq s (65 + (c + 1)) K2 T2 H2 Z2 F2 X2 i2 →
      ∀ Q : St → Prop, (∀ s4, STx c s s4 → (s4 7 7).toInt = (c : Int) + 1 → ((s4 6 3).toInt ≠ 0 ↔ B ∨ 60 < 1 + mxq H H2) → (¬ B → 1 + mxq H H2 ≤ 60 → T3 ≠ -2 ∧ ∃ i, AVq s4 (65 + c) K3 T3 (1 + mxq H H2) Z3 F3 X3 i) → Q s4) → XTq y s Q) :
    EXq kd n S m lo c (l1 ++ [stp 7 q] ++ l2 ++ [y]) σ σ3 K3 T3 (1 + mxq H H2) Z3 F3 X3 := by
  intro h0 w hR hf hc7
  have e15 : σ1 0 15 = σ 0 15 := ker_15 k1
  have f23 : (σ2 0 12).toInt ≠ 0 → (σ3 0 12).toInt ≠ 0 := fun hx => f3.2.2 (Or.inl hx)
  have hbA : BDr σ σ1 F → BDr σ σ3 F3 := fun hb => bd_mono hb e15 (fun hx => f23 (m2 hx)) (fun hx hy => hx (hF hy).1)
  have hbB : BDr σ1 σ2 F2 → BDr σ σ3 F3 := fun hb => bd_mono (bd_from hb e15) ((ker_15 k2).trans e15) f23 (fun hx hy => hx (hF hy).2.1)
  have qb : ∀ s, (s 6 3).toInt ≠ 0 → BDr σ σ3 F3 → ((s 6 3).toInt ≠ 0 → BDr σ σ3 F3) ∧ ((s 6 3).toInt = 0 → (σ3 0 12).toInt = 0 ∧ T3 ≠ -2 ∧ 1 + mxq H H2 ≤ 60 ∧ REq kd n S m lo s σ3 ∧ STe c w s ∧ (s 7 7).toInt = (c : Int) + 1 ∧ ∃ i, AVq s (65 + c) K3 T3 (1 + mxq H H2) Z3 F3 X3 i) := fun s hx hb => ⟨fun _ => hb, fun hy => absurd hy hx⟩
  rw [List.append_assoc, List.append_assoc]
  refine ex_then hA h0 hR hf hc7 hbA qb (fun s i c0 g1 g2 g3 g4 g5 g6 g7 => xw_app (xw_one (fun _ => xk_left (fun a ha => xt_left g6 (by omega) g7 vA.1 (kd_at g4 ha hq) (fun s2 ks e6 e7 hA2 => ?_))) (fun hx => absurd c0 hx)))
  have r2 : REq kd n S m lo s2 σ1 := re_x g4 ks
  refine ex_then hB g1 r2 (by rw [e6]; exact c0) e7 hbB qb (fun s3 i3 c3 d1 d2 d3 d4 d5 d6 d7 => xw_one (fun _ => ?_) (fun hx => absurd c3 hx))
  have hA3 := av_eq (s := s3) hA2 (fun k => d5.2 c k (by omega))
  refine hx s3 i i3 c3 g2 d2 g3 d3 d4 (by rw [d6]; omega) hA3 d7 _ (fun s4 k4 e47 ef hA4 => ?_)
  refine ⟨fun hx => ?_, fun hx => ?_⟩
  · have hb := ef.1 hx
    by_cases q15 : (σ 0 15).toInt ≤ 0
    · exact Or.inl ⟨q15, f3.2.2 (Or.inr ⟨hb, by rw [(ker_15 k2).trans e15]; exact q15⟩)⟩
    · refine Or.inr ⟨by omega, fun hy => ?_⟩
      obtain ⟨_, _, y1, y2⟩ := hF hy
      rcases hb with hb | hb
      · exact y1 hb
      · omega
  · have hb : ¬ (B ∨ 60 < 1 + mxq H H2) := fun hy => ef.2 hy hx
    have hh3 : 1 + mxq H H2 ≤ 60 := Int.not_lt.mp (fun hy => hb (Or.inr hy))
    obtain ⟨ht3, hA5⟩ := hA4 (fun hy => hb (Or.inl hy)) hh3
    exact ⟨nbq_of d1 f3 hb, ht3, hh3, re_ref (re_x d4 k4) k3, ste_tr (ste_tr g5 (ste_x ks)) (ste_tr (ste_le d5 (by omega)) (ste_x k4)), e47, hA5⟩
/-- an index -/
theorem ex_index (hA : EXq kd n S m lo c l1 σ σ1 K T H Z F X) (hB : EXq kd n S m lo (c + 1) l2 σ1 σ2 K2 T2 H2 Z2 F2 X2) (vA : VRq K T H Z F) (vB : VRq K2 T2 H2 Z2 F2) (hq : q ≤ n) (hs : kd q = 24) (hc : c < 490)
    (k1 : KEr σ σ1) (k2 : KEr σ1 σ2) (m2 : (σ1 0 12).toInt ≠ 0 → (σ2 0 12).toInt ≠ 0) (k3 : KPr σ2 σ3) (f3 : FTq σ2 σ3 (B ∨ 60 < 1 + mxq H H2)) (hb : T ≠ -2 → T2 ≠ -2 → (B ↔ (T2 ≠ 0 ∨ T < 1)) ∧ (¬ B → T3 = T - 1)) :
    EXq kd n S m lo c (l1 ++ [stp 7 q] ++ l2 ++ [stp 10 q]) σ σ3 3 T3 (1 + mxq H H2) 0 0 0 := by
  refine ex_end2 hA hB vA hq hc k1 k2 m2 k3 f3 (fun hx => absurd hx (by decide)) (fun s i i2 c0 g2 d2 g3 d3 g4 g6 g7 d7 Q kk => xk_index (fun a ha => ?_))
  rw [if_neg (by omega)] at g7
  obtain ⟨b1, b2⟩ := hb g2 d2
  refine xt_index g6 (by omega) c0 g7 d7 vB.1 (by have := vA.2.1; omega) (by have := vA.2.2.1; have := vB.2.2.1; omega) (fun s4 k4 e47 hA4 ef => kk s4 k4 e47 (by rw [ef, b1]) (fun hx _ => ?_))
  have e3 := b2 hx
  have nb : ¬ (T2 ≠ 0 ∨ T < 1) := fun hy => hx (b1.2 hy)
  refine ⟨by omega, (s4 (65 + c) 4).toInt, ?_⟩
  rw [e3]
  exact hA4
/-- an assignment -/
theorem ex_assign (hA : EXq kd n S m lo c l1 σ σ1 K T H Z F X) (hB : EXq kd n S m lo (c + 1) l2 σ1 σ2 K2 T2 H2 Z2 F2 X2) (vA : VRq K T H Z F) (vB : VRq K2 T2 H2 Z2 F2) (hq : q ≤ n) (hs : kd q = sg) (hr : 30 ≤ sg ∧ sg ≤ 40) (hc : c < 490)
    (k1 : KEr σ σ1) (k2 : KEr σ1 σ2) (m2 : (σ1 0 12).toInt ≠ 0 → (σ2 0 12).toInt ≠ 0) (k3 : KPr σ2 σ3) (f3 : FTq σ2 σ3 (B ∨ 60 < 1 + mxq H H2)) (hb : T ≠ -2 → T2 ≠ -2 → (B ↔ asB sg K T T2 Z2) ∧ (¬ B → T3 = T)) :
    EXq kd n S m lo c (l1 ++ [stp 7 q] ++ l2 ++ [stp 9 q]) σ σ3 0 T3 (1 + mxq H H2) 0 0 0 := by
  refine ex_end2 hA hB vA hq hc k1 k2 m2 k3 f3 (fun hx => absurd hx (by decide)) (fun s i i2 c0 g2 d2 g3 d3 g4 g6 g7 d7 Q kk => xk_assign (fun a ha => ?_))
  rw [if_pos (by omega)] at g7
  obtain ⟨b1, b2⟩ := hb g2 d2
  refine xt_assign g6 (by omega) c0 g7 d7 vB.1 (by have := vA.2.2.1; have := vB.2.2.1; omega) ((kd_at g4 ha hq).trans hs) (fun s4 k4 e47 hA4 ef => kk s4 k4 e47 (by rw [ef, b1]) (fun hx _ => ⟨by rw [b2 hx]; exact g2, 0, ?_⟩))
  rw [b2 hx]
  exact hA4
end RMO
