/-! both sides: choices -/
section RCH
variable {w σ σ1 σ2 σ3 σ4 s r : St} {kd : Nat → Int} {n S m lo c p q : Nat} {l l1 l2 l3 : List Stq} {Q : St → Prop} {B : Prop} {K T H Z F K2 T2 H2 Z2 F2 K3 T3 H3 Z3 F3 T4 : Int} {X X2 X3 : Int32}
theorem xk_quest (h : pk_X2_top w (fun u216 => pk_X2_top w (fun u222 => pk_X2_loaded u222 w (fun u225 s225 => pk_X2_unless u225 ((-1) : Int32) s225 (fun v229 s229 => ∀ s45n : St, s45n = upC s229 u216 10 v229 → (Q s45n)))))) : XTq (stp 14 p) w Q := fun a e0 e2 e3 => by
  have e1 : (atv 32100 (w 18) a).toInt = 14 := e0
  unfold pk_X2_take
  exact ⟨fun h => absurd (e1.symm.trans h) (by decide), fun _ => ⟨fun h => absurd (e1.symm.trans h) (by decide), fun _ => ⟨fun h => absurd (e1.symm.trans h) (by decide), fun _ => ⟨fun h => absurd (e1.symm.trans h) (by decide), fun _ => ⟨fun h => absurd (e1.symm.trans h) (by decide), fun _ => ⟨fun h => absurd (e1.symm.trans h) (by decide), fun _ => ⟨fun h => absurd (e1.symm.trans h) (by decide), fun _ => ⟨fun h => absurd (e1.symm.trans h) (by decide), fun _ => ⟨fun h => absurd (e1.symm.trans h) (by decide), fun _ => ⟨fun h => absurd (e1.symm.trans h) (by decide), fun _ => ⟨fun h => absurd (e1.symm.trans h) (by decide), fun _ => ⟨fun h => absurd (e1.symm.trans h) (by decide), fun _ => ⟨fun h => absurd (e1.symm.trans h) (by decide), fun _ => ⟨fun _ => h, fun h => absurd e1 h⟩⟩⟩⟩⟩⟩⟩⟩⟩⟩⟩⟩⟩⟩
theorem ex_choice (hA : EXq kd n S m lo c l1 σ σ1 K T H Z F X) (hB : EXq kd n S m lo (c + 1) l2 σ1 σ2 K2 T2 H2 Z2 F2 X2) (hC : EXq kd n S m lo (c + 2) l3 σ2 σ3 K3 T3 H3 Z3 F3 X3) (vA : VRq K T H Z F) (vB : VRq K2 T2 H2 Z2 F2) (vC : VRq K3 T3 H3 Z3 F3) (hc : c < 490)
    (k1 : KEr σ σ1) (k2 : KEr σ1 σ2) (k3 : KEr σ2 σ3) (m2 : (σ1 0 12).toInt ≠ 0 → (σ2 0 12).toInt ≠ 0) (m3 : (σ2 0 12).toInt ≠ 0 → (σ3 0 12).toInt ≠ 0) (k4 : KPr σ3 σ4) (f4 : FTq σ3 σ4 (B ∨ 60 < 1 + mxq H (mxq H2 H3))) (hb : T ≠ -2 → T2 ≠ -2 → T3 ≠ -2 → (B ↔ chB T T2 Z2 T3 Z3) ∧ (¬ B → T4 = mxq T2 T3)) :
    EXq kd n S m lo c (l1 ++ [stp 14 q] ++ l2 ++ [stp 15 q] ++ l3 ++ [stp 16 q]) σ σ4 0 T4 (1 + mxq H (mxq H2 H3)) 0 0 0 := by
  intro h0 w hR hf hc7
  have e15 : σ1 0 15 = σ 0 15 := ker_15 k1
  have e25 : σ2 0 15 = σ 0 15 := (ker_15 k2).trans e15
  have e35 : σ3 0 15 = σ 0 15 := (ker_15 k3).trans e25
  have f34 : (σ3 0 12).toInt ≠ 0 → (σ4 0 12).toInt ≠ 0 := fun hx => f4.2.2 (Or.inl hx)
  have hbA : BDr σ σ1 F → BDr σ σ4 0 := fun hb => bd_mono hb e15 (fun hx => f34 (m3 (m2 hx))) (fun _ => by decide)
  have hbB : BDr σ1 σ2 F2 → BDr σ σ4 0 := fun hb => bd_mono (bd_from hb e15) e25 (fun hx => f34 (m3 hx)) (fun _ => by decide)
  have hbC : BDr σ2 σ3 F3 → BDr σ σ4 0 := fun hb => bd_mono (bd_from hb e25) e35 f34 (fun _ => by decide)
  have qb : ∀ s, (s 6 3).toInt ≠ 0 → BDr σ σ4 0 → ((s 6 3).toInt ≠ 0 → BDr σ σ4 0) ∧ ((s 6 3).toInt = 0 → (σ4 0 12).toInt = 0 ∧ T4 ≠ -2 ∧ 1 + mxq H (mxq H2 H3) ≤ 60 ∧ REq kd n S m lo s σ4 ∧ STe c w s ∧ (s 7 7).toInt = (c : Int) + 1 ∧ ∃ i, AVq s (65 + c) 0 T4 (1 + mxq H (mxq H2 H3)) 0 0 0 i) := fun s hx hb => ⟨fun _ => hb, fun hy => absurd hy hx⟩
  rw [List.append_assoc, List.append_assoc, List.append_assoc, List.append_assoc]
  refine ex_then hA h0 hR hf hc7 hbA qb (fun s i c0 g1 g2 g3 g4 g5 g6 g7 => xw_app (xw_one (fun _ => xk_quest (xt_quest g6 (by omega) g7 vA.1 (fun s2 ks e7 e6 hA2 => ?_))) (fun hx => absurd c0 hx)))
  have r2 : REq kd n S m lo s2 σ1 := re_x g4 ks
  refine ex_then hB g1 r2 (by rw [e6]; exact c0) e7 hbB qb (fun s3 i3 c3 d1 d2 d3 d4 d5 d6 d7 => xw_app (xw_one (fun _ => xk_colon ?_) (fun hx => absurd c3 hx)))
  have hA3 : AVq s3 (65 + c) 0 T H Z F X i := av_eq hA2 (fun k => d5.2 c k (by omega))
  refine xt_colon (by rw [d6]; omega) (by omega) hA3 d7 vB.1 (fun s4 k5 e47 e46 hA4 hB4 => ?_)
  have r4 : REq kd n S m lo s4 σ2 := re_x d4 k5
  refine ex_then hC d1 r4 (by rw [e46]; exact c3) (by rw [e47]; omega) hbC qb (fun s5 i5 c5 b1 b2 b3 b4 b5 b6 b7 => xw_one (fun _ => xk_choice (fun a ha => ?_)) (fun hx => absurd c5 hx))
  have hA5 : AVq s5 (65 + c) 0 T H Z F X i := av_eq hA4 (fun k => b5.2 c k (by omega))
  have hB5 : AVq s5 (65 + (c + 1)) 0 T2 H2 Z2 F2 X2 i3 := av_eq hB4 (fun k => b5.2 (c + 1) k (by omega))
  refine xt_choice (by rw [b6]; omega) (by omega) c5 hA5 hB5 b7 vC.1 (by have := vA.2.2.1; have := vB.2.2.1; have := vC.2.2.1; omega) (fun s6 k6 e67 hA6 ef => ?_)
  obtain ⟨t1, t2⟩ := hb g2 d2 b2
  refine ⟨fun hx => ?_, fun hx => ?_⟩
  · have hb := (ef.1 hx).imp t1.2 id
    by_cases q15 : (σ 0 15).toInt ≤ 0
    · exact Or.inl ⟨q15, f4.2.2 (Or.inr ⟨hb, by rw [e35]; exact q15⟩)⟩
    · exact Or.inr ⟨by omega, by decide⟩
  · have hb : ¬ (B ∨ 60 < 1 + mxq H (mxq H2 H3)) := fun hy => ef.2 (hy.imp t1.1 id) hx
    have hh3 : 1 + mxq H (mxq H2 H3) ≤ 60 := Int.not_lt.mp (fun hy => hb (Or.inr hy))
    have t3 := t2 (fun hy => hb (Or.inl hy))
    rw [← t3] at hA6
    have ht4 : T4 ≠ -2 := by
      rw [t3]
      unfold mxq
      have := vB.2.1
      have := vC.2.1
      split <;> omega
    exact ⟨nbq_of b1 f4 hb, ht4, hh3, re_ref (re_x b4 k6) k4, ste_tr (ste_tr (ste_tr g5 (ste_x ks)) (ste_tr (ste_le d5 (by omega)) (ste_x k5))) (ste_tr (ste_le b5 (by omega)) (ste_x k6)), e67, 0, hA6⟩
end RCH
