set_option maxHeartbeats 4000000 in
set_option maxRecDepth 100000 in
theorem c_X12_turns (a : Nat → Nat) (g : Nat → Nat → Int32) (r : Nat → Nat) (σ0 : St) (i0 : Inv σ0) (l : Launch) (D : va_G) (cy : Nat → ClassId) : Ct l D cy SC r (EC a g) y_X12_turns (Cond.code y_X12_turns b_X12_turns 1 (some .int)) 0 [.ref (r 0)] σ0 Z0 [] (QI (fun _ σ9 => σ9 = σ0)) QF := by
  refine Ct_of (EC_ok a g) (by decide) (Nat.le_of_ble_eq_true rfl) (by decide) (fun X hnn hF => ?_)
  show G SC r X σ0 Z0 [] [(0, .ref (r 0))] [] 0
  refine g_aload_n hF d_X12_turns_0 rfl 0 rfl ?_
  refine g_get (v := .ref (r 12)) hF 14 obC_0 (by decide) m_749 rfl d_X12_turns_1 ?_
  refine g_getN (v := .int (σ0 12 14)) hF 14 obC_12 (by decide) nm_687 rfl d_X12_turns_4 ?_
  exact g_iret hF rfl d_X12_turns_7 ⟨rfl, rfl, (σ0 12 14), rfl, rfl⟩
set_option maxHeartbeats 4000000 in
set_option maxRecDepth 100000 in
theorem c_X8_objectAt (a : Nat → Nat) (g : Nat → Nat → Int32) (r : Nat → Nat) (σ0 : St) (a1 : Int32) (i0 : Inv σ0) (l : Launch) (D : va_G) (cy : Nat → ClassId) : Ct l D cy SC r (EC a g) y_X8_objectAt (Cond.code y_X8_objectAt b_X8_objectAt 3 (some .int)) 1 [.ref (r 5), .int a1] σ0 Z0 [] (QI (fun _ σ9 => σ9 = σ0)) QF := by
  refine Ct_of (EC_ok a g) (by decide) (Nat.le_of_ble_eq_true rfl) (by decide) (fun X hnn hF => ?_)
  show G SC r X σ0 Z0 [] [(0, .ref (r 5)), (1, .int a1)] [] 0
  have b2 : ∀ (N : Nat) (x1 : Int32) (x2 : Int32) , upm x2 = N → G SC r X σ0 Z0 [] [(0, .ref (r 5)), (1, .int x1), (2, .int x2)] [] 2 := by
    intro M2
    induction M2 using Nat.strongRecOn with
    | _ M2 ih2 =>
      intro x1 x2 N2
      refine g_iload_n hF d_X8_objectAt_2 rfl 2 rfl ?_
      refine g_aload_n hF d_X8_objectAt_3 rfl 0 rfl ?_
      refine g_get (v := .int (σ0 5 13)) hF 13 obC_5 (by decide) m_249 rfl d_X8_objectAt_4 ?_
      refine g_icmp_gt hF 34 d_X8_objectAt_7 (by decide) rfl rfl (fun c1_7 => ?_) (fun c1_7 => ?_)
      · -- taken at 7
        refine g_iconst hF (v := 0) d_X8_objectAt_34 (by decide) ?_
        exact g_iret hF rfl d_X8_objectAt_35 ⟨rfl, rfl, (0 : Int32), rfl, rfl⟩
      · -- not taken at 7
        refine g_iload_n hF d_X8_objectAt_10 rfl 1 rfl ?_
        refine g_if_lt hF 34 d_X8_objectAt_11 (by decide) rfl (fun c2_11 => ?_) (fun c2_11 => ?_)
        · -- taken at 11
          refine g_iconst hF (v := 0) d_X8_objectAt_34 (by decide) ?_
          exact g_iret hF rfl d_X8_objectAt_35 ⟨rfl, rfl, (0 : Int32), rfl, rfl⟩
        · -- not taken at 11
          refine g_iload_n hF d_X8_objectAt_14 rfl 1 rfl ?_
          refine g_aload_n hF d_X8_objectAt_15 rfl 0 rfl ?_
          refine g_get (v := .ref (r 36)) hF 16 obC_5 (by decide) m_256 rfl d_X8_objectAt_16 ?_
          refine g_iload_n hF d_X8_objectAt_19 rfl 2 rfl ?_
          refine g_callSN (As := [.ref (r 36), .int x2]) (rest := [.int x1]) hF (c_at a g r σ0 arC_36 (by decide) x2) (Nat.le_of_ble_eq_true rfl) mS_X12_at nm_1125 rfl rfl (Nat.le_of_ble_eq_true rfl) d_X8_objectAt_20 (k_rop (fun r3 hr3 => ?_))
          refine g_icmp_ge hF 28 d_X8_objectAt_23 (by decide) rfl rfl (fun c4_23 => ?_) (fun c4_23 => ?_)
          · -- taken at 23
            refine g_iinc hF (x2 + 1) [(2, .int (x2 + 1)), (0, .ref (r 5)), (1, .int x1)] d_X8_objectAt_28 2 rfl rfl hnn (by decide) rfl ?_
            refine g_goto hF 2 d_X8_objectAt_31 (by decide) ?_
            exact g_sub (L' := [(0, .ref (r 5)), (1, .int x1), (2, .int (x2 + 1))]) [1, 2, 0] rfl (ih2 _ (by show upm (x2 + 1) < _; have hN := N2; unfold upm at hN ⊢; have e0 := s_rng x2; have e1 : (1 : Int32).toInt = 1 := (by decide); obtain ⟨k2, e2⟩ := s_add x2 (1 : Int32); have e2a := s_rng (x2 + 1); have e4 := s_rng (σ0 5 13); have e5 := i0.2.2.2.2.2.2.2.2.2.2.2.2.1; omega) x1 (x2 + 1) rfl)
          · -- not taken at 23
            refine g_iload_n hF d_X8_objectAt_26 rfl 2 rfl ?_
            exact g_iret hF rfl d_X8_objectAt_27 ⟨rfl, rfl, x2, rfl, rfl⟩
  refine g_iconst hF (v := 1) d_X8_objectAt_0 (by decide) ?_
  refine g_istore_n hF [(2, .int 1), (0, .ref (r 5)), (1, .int a1)] d_X8_objectAt_1 rfl hnn (by decide) rfl ?_
  exact g_sub (L' := [(0, .ref (r 5)), (1, .int a1), (2, .int 1)]) [1, 2, 0] rfl (b2 _ a1 (1 : Int32) rfl)
set_option maxHeartbeats 4000000 in
set_option maxRecDepth 100000 in
theorem c_X12_written (a : Nat → Nat) (g : Nat → Nat → Int32) (r : Nat → Nat) (σ0 : St) (i0 : Inv σ0) (l : Launch) (D : va_G) (cy : Nat → ClassId) : Ct l D cy SC r (EC a g) y_X12_written (Cond.code y_X12_written b_X12_written 1 (some .int)) 0 [.ref (r 0)] σ0 Z0 [] (QI (fun _ σ9 => σ9 = σ0)) QF := by
  refine Ct_of (EC_ok a g) (by decide) (Nat.le_of_ble_eq_true rfl) (by decide) (fun X hnn hF => ?_)
  show G SC r X σ0 Z0 [] [(0, .ref (r 0))] [] 0
  refine g_aload_n hF d_X12_written_0 rfl 0 rfl ?_
  refine g_get (v := .ref (r 11)) hF 13 obC_0 (by decide) m_748 rfl d_X12_written_1 ?_
  refine g_getN (v := .int (σ0 11 2)) hF 2 obC_11 (by decide) nm_649 rfl d_X12_written_4 ?_
  exact g_iret hF rfl d_X12_written_7 ⟨rfl, rfl, (σ0 11 2), rfl, rfl⟩
set_option maxHeartbeats 4000000 in
set_option maxRecDepth 100000 in
theorem c_X9_byteAt (a : Nat → Nat) (g : Nat → Nat → Int32) (r : Nat → Nat) (σ0 : St) (a1 : Int32) (i0 : Inv σ0) (l : Launch) (D : va_G) (cy : Nat → ClassId) : Ct l D cy SC r (EC a g) y_X9_byteAt (Cond.code y_X9_byteAt b_X9_byteAt 2 (some .int)) 0 [.ref (r 11), .int a1] σ0 Z0 [] (QI (fun _ σ9 => σ9 = σ0)) QF := by
  refine Ct_of (EC_ok a g) (by decide) (Nat.le_of_ble_eq_true rfl) (by decide) (fun X hnn hF => ?_)
  show G SC r X σ0 Z0 [] [(0, .ref (r 11)), (1, .int a1)] [] 0
  refine g_iload_n hF d_X9_byteAt_0 rfl 1 rfl ?_
  refine g_if_lt hF 34 d_X9_byteAt_1 (by decide) rfl (fun c1_1 => ?_) (fun c1_1 => ?_)
  · -- taken at 1
    refine g_iconst hF (v := (-1)) d_X9_byteAt_34 (by decide) ?_
    exact g_iret hF rfl d_X9_byteAt_35 ⟨rfl, rfl, ((-1) : Int32), rfl, rfl⟩
  · -- not taken at 1
    refine g_iload_n hF d_X9_byteAt_4 rfl 1 rfl ?_
    refine g_aload_n hF d_X9_byteAt_5 rfl 0 rfl ?_
    refine g_get (v := .int (σ0 11 2)) hF 2 obC_11 (by decide) m_648 rfl d_X9_byteAt_6 ?_
    refine g_icmp_ge hF 34 d_X9_byteAt_9 (by decide) rfl rfl (fun c2_9 => ?_) (fun c2_9 => ?_)
    · -- taken at 9
      refine g_iconst hF (v := (-1)) d_X9_byteAt_34 (by decide) ?_
      exact g_iret hF rfl d_X9_byteAt_35 ⟨rfl, rfl, ((-1) : Int32), rfl, rfl⟩
    · -- not taken at 9
      refine g_iload_n hF d_X9_byteAt_12 rfl 1 rfl ?_
      refine g_aload_n hF d_X9_byteAt_13 rfl 0 rfl ?_
      refine g_get (v := .ref (r 61)) hF 4 obC_11 (by decide) m_651 rfl d_X9_byteAt_14 ?_
      refine g_alen hF arC_61 (fun _ => ⟨0, _, rfl⟩) (v := 4096) (by decide) d_X9_byteAt_17 ?_
      refine g_icmp_ge (yv := 4096) hF 34 d_X9_byteAt_18 (by decide) rfl (by decide) (fun c3_18 => ?_) (fun c3_18 => ?_)
      · -- taken at 18
        refine g_iconst hF (v := (-1)) d_X9_byteAt_34 (by decide) ?_
        exact g_iret hF rfl d_X9_byteAt_35 ⟨rfl, rfl, ((-1) : Int32), rfl, rfl⟩
      · -- not taken at 18
        refine g_aload_n hF d_X9_byteAt_21 rfl 0 rfl ?_
        refine g_get (v := .ref (r 61)) hF 4 obC_11 (by decide) m_651 rfl d_X9_byteAt_22 ?_
        refine g_iload_n hF d_X9_byteAt_25 rfl 1 rfl ?_
        refine g_bald hF arC_61 (by refine s_in (by decide) ?_ ?_ <;> (have e0 := s_rng a1; have e1 : (0 : Int32).toInt = 0 := (by decide); have e2 := s_rng (σ0 11 2); have e3 := i0.2.2.2.2.2.2.2.2.2.2.2.1; have e4 : (4096 : Int32).toInt = 4096 := (by decide); omega)) d_X9_byteAt_26 ?_
        refine g_any (fun v4 => ?_)
        refine g_sipush hF (v := 255) d_X9_byteAt_27 (by decide) ?_
        refine g_iand hF d_X9_byteAt_30 ?_
        refine g_any (fun v5 => ?_)
        refine g_goto hF 35 d_X9_byteAt_31 (by decide) ?_
        exact g_iret hF rfl d_X9_byteAt_35 ⟨rfl, rfl, v5, rfl, rfl⟩
set_option maxHeartbeats 4000000 in
set_option maxRecDepth 100000 in
theorem c_X12_peek (a : Nat → Nat) (g : Nat → Nat → Int32) (r : Nat → Nat) (σ0 : St) (a1 : Int32) (i0 : Inv σ0) (l : Launch) (D : va_G) (cy : Nat → ClassId) : Ct l D cy SC r (EC a g) y_X12_peek (Cond.code y_X12_peek b_X12_peek 2 (some .int)) 1 [.ref (r 0), .int a1] σ0 Z0 [] (QI (fun _ σ9 => σ9 = σ0)) QF := by
  refine Ct_of (EC_ok a g) (by decide) (Nat.le_of_ble_eq_true rfl) (by decide) (fun X hnn hF => ?_)
  show G SC r X σ0 Z0 [] [(0, .ref (r 0)), (1, .int a1)] [] 0
  refine g_aload_n hF d_X12_peek_0 rfl 0 rfl ?_
  refine g_get (v := .ref (r 12)) hF 14 obC_0 (by decide) m_749 rfl d_X12_peek_1 ?_
  refine g_getN (v := .ref (r 62)) hF 4 obC_12 (by decide) nm_676 rfl d_X12_peek_4 ?_
  refine g_iload_n hF d_X12_peek_7 rfl 1 rfl ?_
  refine g_callS (As := [.ref (r 62), .int a1]) (rest := []) hF (c_at a g r σ0 arC_62 (by decide) a1) (Nat.le_of_ble_eq_true rfl) mS_X12_at m_1036 rfl rfl (Nat.le_of_ble_eq_true rfl) d_X12_peek_8 (k_rop (fun r1 hr1 => ?_)) (fun _ _ _ h => h.elim)
  exact g_iret hF rfl d_X12_peek_11 ⟨rfl, rfl, r1, rfl, rfl⟩
set_option maxHeartbeats 4000000 in
set_option maxRecDepth 100000 in
theorem c_X12_strays (a : Nat → Nat) (g : Nat → Nat → Int32) (r : Nat → Nat) (σ0 : St) (i0 : Inv σ0) (l : Launch) (D : va_G) (cy : Nat → ClassId) : Ct l D cy SC r (EC a g) y_X12_strays (Cond.code y_X12_strays b_X12_strays 1 (some .int)) 0 [.ref (r 0)] σ0 Z0 [] (QI (fun _ σ9 => σ9 = σ0)) QF := by
  refine Ct_of (EC_ok a g) (by decide) (Nat.le_of_ble_eq_true rfl) (by decide) (fun X hnn hF => ?_)
  show G SC r X σ0 Z0 [] [(0, .ref (r 0))] [] 0
  refine g_aload_n hF d_X12_strays_0 rfl 0 rfl ?_
  refine g_get (v := .ref (r 12)) hF 14 obC_0 (by decide) m_749 rfl d_X12_strays_1 ?_
  refine g_getN (v := .int (σ0 12 18)) hF 18 obC_12 (by decide) nm_695 rfl d_X12_strays_4 ?_
  exact g_iret hF rfl d_X12_strays_7 ⟨rfl, rfl, (σ0 12 18), rfl, rfl⟩
set_option maxHeartbeats 4000000 in
set_option maxRecDepth 100000 in
theorem c_X5_stepped_r12_r62 (a : Nat → Nat) (g : Nat → Nat → Int32) (r : Nat → Nat) (σ0 : St) (a2 : Int32) (a3 : Int32) (i0 : Inv σ0) (l : Launch) (D : va_G) (cy : Nat → ClassId) : Ct l D cy SC r (EC a g) y_X5_stepped (Cond.code y_X5_stepped b_X5_stepped 5 none) 2 [.ref (r 12), .ref (r 62), .int a2, .int a3] σ0 Z0 [] (QV (fun σ9 => (Inv σ9 ∧ Keep [(12, 9)] [62, 63] σ0 σ9))) QF := by
  refine Ct_of (EC_ok a g) (by decide) (Nat.le_of_ble_eq_true rfl) (by decide) (fun X hnn hF => ?_)
  show G SC r X σ0 Z0 [] [(0, .ref (r 12)), (1, .ref (r 62)), (2, .int a2), (3, .int a3)] [] 0
  have kp : Keep [(12, 9)] [62, 63] σ0 σ0 := keep_rf
  refine g_aload_n hF d_X5_stepped_0 rfl 1 rfl ?_
  refine g_iload_n hF d_X5_stepped_1 rfl 2 rfl ?_
  refine g_callSN (As := [.ref (r 62), .int a2]) (rest := []) hF (c_at a g r σ0 arC_62 (by decide) a2) (Nat.le_of_ble_eq_true rfl) mS_X12_at nm_1660 rfl rfl (Nat.le_of_ble_eq_true rfl) d_X5_stepped_2 (k_rop (fun r1 hr1 => ?_))
  refine g_aload_n hF d_X5_stepped_5 rfl 0 rfl ?_
  refine g_get (v := .ref (r 24)) hF 3 obC_12 (by decide) m_674 rfl d_X5_stepped_6 ?_
  refine g_iload_n hF d_X5_stepped_9 rfl 3 rfl ?_
  refine g_iconst hF (v := 2) d_X5_stepped_10 (by decide) ?_
  refine g_iadd hF d_X5_stepped_11 ?_
  refine g_callSN (As := [.ref (r 24), .int (a3 + 2)]) (rest := [.int r1]) hF (c_at a g r σ0 arC_24 (by decide) (a3 + 2)) (Nat.le_of_ble_eq_true rfl) mS_X12_at nm_1660 rfl rfl (Nat.le_of_ble_eq_true rfl) d_X5_stepped_12 (k_rop (fun r2 hr2 => ?_))
  refine g_iadd hF d_X5_stepped_15 ?_
  refine g_istore hF [(4, .int (r1 + r2)), (0, .ref (r 12)), (1, .ref (r 62)), (2, .int a2), (3, .int a3)] d_X5_stepped_16 hnn (by decide) rfl ?_
  refine g_aload_n hF d_X5_stepped_18 rfl 2 rfl ?_
  refine g_iload_n hF d_X5_stepped_19 rfl 3 rfl ?_
  refine g_iload hF d_X5_stepped_20 0 rfl ?_
  refine g_callSN (As := [.ref (r 62), .int a2, .int (r1 + r2)]) (rest := []) hF (c_set a g r σ0 arC_62 (by decide) a2 (r1 + r2)) (Nat.le_of_ble_eq_true rfl) mS_X12_set nm_1661 rfl rfl (Nat.le_of_ble_eq_true rfl) d_X5_stepped_22 (k_v (fun σ3 ⟨g3, eσ3, hg3⟩ => ?_))
  subst eσ3
  have kp : Keep [(12, 9)] [62, 63] σ0 (upF σ0 62 g3) := keep_F kp (by decide)
  refine g_aload_n hF d_X5_stepped_25 rfl 1 rfl ?_
  refine g_iload hF d_X5_stepped_26 0 rfl ?_
  refine g_aload_n hF d_X5_stepped_28 rfl 1 rfl ?_
  refine g_get (v := .ref (r 24)) hF 3 obC_12 (by decide) m_674 rfl d_X5_stepped_29 ?_
  refine g_iload_n hF d_X5_stepped_32 rfl 4 rfl ?_
  refine g_iconst hF (v := 3) d_X5_stepped_33 (by decide) ?_
  refine g_iadd hF d_X5_stepped_34 ?_
  refine g_callSN (As := [.ref (r 24), .int (a3 + 3)]) (rest := [.int (r1 + r2), .ref (r 12)]) hF (c_at a g r (upF σ0 62 g3) arC_24 (by decide) (a3 + 3)) (Nat.le_of_ble_eq_true rfl) mS_X12_at nm_1660 rfl rfl (Nat.le_of_ble_eq_true rfl) d_X5_stepped_35 (k_rop (fun r4 hr4 => ?_))
  refine g_isub hF d_X5_stepped_38 ?_
  have j6 : Inv (upF σ0 62 g3) := ⟨i0.1, i0.2.1, i0.2.2.1, i0.2.2.2.1, i0.2.2.2.2.1, i0.2.2.2.2.2.1, i0.2.2.2.2.2.2.1, i0.2.2.2.2.2.2.2.1, i0.2.2.2.2.2.2.2.2.1, i0.2.2.2.2.2.2.2.2.2.1, i0.2.2.2.2.2.2.2.2.2.2.1, i0.2.2.2.2.2.2.2.2.2.2.2.1, i0.2.2.2.2.2.2.2.2.2.2.2.2.1, i0.2.2.2.2.2.2.2.2.2.2.2.2.2.1, i0.2.2.2.2.2.2.2.2.2.2.2.2.2.2.1, i0.2.2.2.2.2.2.2.2.2.2.2.2.2.2.2.1, i0.2.2.2.2.2.2.2.2.2.2.2.2.2.2.2.2.1, i0.2.2.2.2.2.2.2.2.2.2.2.2.2.2.2.2.2.1, i0.2.2.2.2.2.2.2.2.2.2.2.2.2.2.2.2.2.2.1, i0.2.2.2.2.2.2.2.2.2.2.2.2.2.2.2.2.2.2.2⟩
  refine g_callV (As := [.int ((r1 + r2) - r4)]) (rest := []) hF (c_X5_push a g r (upF σ0 62 g3) ((r1 + r2) - r4) j6) (Nat.le_of_ble_eq_true rfl) mV_X5_push m_1686 (recv_ob obC_12) rfl rfl (Nat.le_of_ble_eq_true rfl) d_X5_stepped_39 (k_v (fun σ5 ⟨iσ5, ik5⟩ => ?_)) (fun _ _ _ h => h.elim)
  have kp : Keep [(12, 9)] [62, 63] σ0 σ5 := keep_c kp ik5 (by decide) (by decide)
  exact g_vret hF rfl d_X5_stepped_42 ⟨rfl, rfl, rfl, ⟨iσ5, kp⟩⟩
set_option maxHeartbeats 4000000 in
set_option maxRecDepth 100000 in
theorem c_X12_feed (a : Nat → Nat) (g : Nat → Nat → Int32) (r : Nat → Nat) (σ0 : St) (a1 : Int32) (a2 : Int32) (a3 : Int32) (a4 : Int32) (a5 : Int32) (i0 : Inv σ0) (l : Launch) (D : va_G) (cy : Nat → ClassId) : Ct l D cy SC r (EC a g) y_X12_feed (Cond.code y_X12_feed b_X12_feed 6 (some .int)) 1 [.ref (r 0), .int a1, .int a2, .int a3, .int a4, .int a5] σ0 Z0 [] (QI (fun v9 σ9 => (((((σ0 0 1).toInt ≤ 15980 ∧ (σ0 0 2).toInt ≤ 65516) → (v9.toInt = (σ0 0 1).toInt + 20 ∧ (σ9 0 1).toInt = (σ0 0 1).toInt + 20 ∧ (σ9 0 2).toInt = (σ0 0 2).toInt + 20)) ∧ (¬ ((σ0 0 1).toInt ≤ 15980 ∧ (σ0 0 2).toInt ≤ 65516) → (v9.toInt = -1 ∧ (σ9 0 1).toInt = (σ0 0 1).toInt ∧ (σ9 0 2).toInt = (σ0 0 2).toInt))) ∧ Inv σ9 ∧ Keep [(0, 1), (0, 2)] [1] σ0 σ9))) QF := by
  refine Ct_of (EC_ok a g) (by decide) (Nat.le_of_ble_eq_true rfl) (by decide) (fun X hnn hF => ?_)
  show G SC r X σ0 Z0 [] [(0, .ref (r 0)), (1, .int a1), (2, .int a2), (3, .int a3), (4, .int a4), (5, .int a5)] [] 0
  have kp : Keep [(0, 1), (0, 2)] [1] σ0 σ0 := keep_rf
  refine g_aload_n hF d_X12_feed_0 rfl 0 rfl ?_
  refine g_get (v := .int (σ0 0 1)) hF 1 obC_0 (by decide) m_736 rfl d_X12_feed_1 ?_
  refine g_bipush hF (v := 20) d_X12_feed_4 (by decide) ?_
  refine g_iadd hF d_X12_feed_6 ?_
  refine g_sipush hF (v := 16000) d_X12_feed_7 (by decide) ?_
  refine g_icmp_gt (yv := 16000) hF 25 d_X12_feed_10 (by decide) rfl (by decide) (fun c1_10 => ?_) (fun c1_10 => ?_)
  · -- taken at 10
    refine g_iconst hF (v := (-1)) d_X12_feed_25 (by decide) ?_
    exact g_iret hF rfl d_X12_feed_26 ⟨rfl, rfl, ((-1) : Int32), rfl, ⟨(by show (((σ0 0 1).toInt ≤ 15980 ∧ (σ0 0 2).toInt ≤ 65516) → (-1 = (σ0 0 1).toInt + 20 ∧ (σ0 0 1).toInt = (σ0 0 1).toInt + 20 ∧ (σ0 0 2).toInt = (σ0 0 2).toInt + 20)) ∧ (¬ ((σ0 0 1).toInt ≤ 15980 ∧ (σ0 0 2).toInt ≤ 65516) → (-1 = -1 ∧ (σ0 0 1).toInt = (σ0 0 1).toInt ∧ (σ0 0 2).toInt = (σ0 0 2).toInt)); have e0 : ((-1) : Int32).toInt = -1 := (by decide); have e1 := s_rng (σ0 0 1); have e2 := i0.1; have e3 := s_rng (σ0 0 2); have e4 := i0.2.1; have e5 : (20 : Int32).toInt = 20 := (by decide); obtain ⟨k6, e6⟩ := s_add (σ0 0 1) (20 : Int32); have e6a := s_rng ((σ0 0 1) + 20); have e8 : (16000 : Int32).toInt = 16000 := (by decide); omega), i0, kp⟩⟩
  · -- not taken at 10
    refine g_aload_n hF d_X12_feed_13 rfl 0 rfl ?_
    refine g_get (v := .int (σ0 0 2)) hF 2 obC_0 (by decide) m_737 rfl d_X12_feed_14 ?_
    refine g_bipush hF (v := 20) d_X12_feed_17 (by decide) ?_
    refine g_iadd hF d_X12_feed_19 ?_
    refine g_ldc (v := 65536) hF m_785 d_X12_feed_20 ?_
    refine g_icmp_le (yv := 65536) hF 27 d_X12_feed_22 (by decide) rfl (by decide) (fun c2_22 => ?_) (fun c2_22 => ?_)
    · -- taken at 22
      refine g_aload_n hF d_X12_feed_27 rfl 0 rfl ?_
      refine g_iload_n hF d_X12_feed_28 rfl 1 rfl ?_
      refine g_callV (As := [.int a1]) (rest := []) hF (c_X12_takeBytes a g r σ0 a1 (by show (σ0 0 1).toInt ≤ 15996; have e0 := s_rng a1; have e1 := s_rng (σ0 0 1); have e2 := i0.1; have e3 : (20 : Int32).toInt = 20 := (by decide); obtain ⟨k4, e4⟩ := s_add (σ0 0 1) (20 : Int32); have e4a := s_rng ((σ0 0 1) + 20); have e6 : (16000 : Int32).toInt = 16000 := (by decide); omega) i0) (Nat.le_of_ble_eq_true rfl) mV_X12_takeBytes m_786 (recv_ob obC_0) rfl rfl (Nat.le_of_ble_eq_true rfl) d_X12_feed_29 (k_v (fun σ3 ⟨hs3, iσ3, ik3⟩ => ?_)) (fun _ _ _ h => h.elim)
      have hs3 : (σ3 0 1).toInt = (σ0 0 1).toInt + 4 := hs3
      have kp : Keep [(0, 1), (0, 2)] [1] σ0 σ3 := keep_c kp ik3 (by decide) (by decide)
      refine g_aload_n hF d_X12_feed_32 rfl 0 rfl ?_
      refine g_iload_n hF d_X12_feed_33 rfl 2 rfl ?_
      refine g_callV (As := [.int a2]) (rest := []) hF (c_X12_takeBytes a g r σ3 a2 (by show (σ3 0 1).toInt ≤ 15996; have e0 := s_rng a2; have e1 := s_rng (σ3 0 1); have e2 := iσ3.1; have e3 := s_rng (σ0 0 1); have e4 := i0.1; have e5 : (20 : Int32).toInt = 20 := (by decide); obtain ⟨k6, e6⟩ := s_add (σ0 0 1) (20 : Int32); have e6a := s_rng ((σ0 0 1) + 20); have e8 : (16000 : Int32).toInt = 16000 := (by decide); omega) iσ3) (Nat.le_of_ble_eq_true rfl) mV_X12_takeBytes m_786 (recv_ob obC_0) rfl rfl (Nat.le_of_ble_eq_true rfl) d_X12_feed_34 (k_v (fun σ4 ⟨hs4, iσ4, ik4⟩ => ?_)) (fun _ _ _ h => h.elim)
      have hs4 : (σ4 0 1).toInt = (σ3 0 1).toInt + 4 := hs4
      have kp : Keep [(0, 1), (0, 2)] [1] σ0 σ4 := keep_c kp ik4 (by decide) (by decide)
      refine g_aload_n hF d_X12_feed_37 rfl 0 rfl ?_
      refine g_iload_n hF d_X12_feed_38 rfl 3 rfl ?_
      refine g_callV (As := [.int a3]) (rest := []) hF (c_X12_takeBytes a g r σ4 a3 (by show (σ4 0 1).toInt ≤ 15996; have e0 := s_rng a3; have e1 := s_rng (σ4 0 1); have e2 := iσ4.1; have e3 := s_rng (σ0 0 1); have e4 := i0.1; have e5 : (20 : Int32).toInt = 20 := (by decide); obtain ⟨k6, e6⟩ := s_add (σ0 0 1) (20 : Int32); have e6a := s_rng ((σ0 0 1) + 20); have e8 : (16000 : Int32).toInt = 16000 := (by decide); omega) iσ4) (Nat.le_of_ble_eq_true rfl) mV_X12_takeBytes m_786 (recv_ob obC_0) rfl rfl (Nat.le_of_ble_eq_true rfl) d_X12_feed_39 (k_v (fun σ5 ⟨hs5, iσ5, ik5⟩ => ?_)) (fun _ _ _ h => h.elim)
      have hs5 : (σ5 0 1).toInt = (σ4 0 1).toInt + 4 := hs5
      have kp : Keep [(0, 1), (0, 2)] [1] σ0 σ5 := keep_c kp ik5 (by decide) (by decide)
      refine g_aload_n hF d_X12_feed_42 rfl 0 rfl ?_
      refine g_iload hF d_X12_feed_43 4 rfl ?_
      refine g_callV (As := [.int a4]) (rest := []) hF (c_X12_takeBytes a g r σ5 a4 (by show (σ5 0 1).toInt ≤ 15996; have e0 := s_rng a4; have e1 := s_rng (σ5 0 1); have e2 := iσ5.1; have e3 := s_rng (σ0 0 1); have e4 := i0.1; have e5 : (20 : Int32).toInt = 20 := (by decide); obtain ⟨k6, e6⟩ := s_add (σ0 0 1) (20 : Int32); have e6a := s_rng ((σ0 0 1) + 20); have e8 : (16000 : Int32).toInt = 16000 := (by decide); omega) iσ5) (Nat.le_of_ble_eq_true rfl) mV_X12_takeBytes m_786 (recv_ob obC_0) rfl rfl (Nat.le_of_ble_eq_true rfl) d_X12_feed_45 (k_v (fun σ6 ⟨hs6, iσ6, ik6⟩ => ?_)) (fun _ _ _ h => h.elim)
      have hs6 : (σ6 0 1).toInt = (σ5 0 1).toInt + 4 := hs6
      have kp : Keep [(0, 1), (0, 2)] [1] σ0 σ6 := keep_c kp ik6 (by decide) (by decide)
      refine g_aload_n hF d_X12_feed_48 rfl 0 rfl ?_
      refine g_iload hF d_X12_feed_49 5 rfl ?_
      refine g_callV (As := [.int a5]) (rest := []) hF (c_X12_takeBytes a g r σ6 a5 (by show (σ6 0 1).toInt ≤ 15996; have e0 := s_rng a5; have e1 := s_rng (σ6 0 1); have e2 := iσ6.1; have e3 := s_rng (σ0 0 1); have e4 := i0.1; have e5 : (20 : Int32).toInt = 20 := (by decide); obtain ⟨k6, e6⟩ := s_add (σ0 0 1) (20 : Int32); have e6a := s_rng ((σ0 0 1) + 20); have e8 : (16000 : Int32).toInt = 16000 := (by decide); omega) iσ6) (Nat.le_of_ble_eq_true rfl) mV_X12_takeBytes m_786 (recv_ob obC_0) rfl rfl (Nat.le_of_ble_eq_true rfl) d_X12_feed_51 (k_v (fun σ7 ⟨hs7, iσ7, ik7⟩ => ?_)) (fun _ _ _ h => h.elim)
      have hs7 : (σ7 0 1).toInt = (σ6 0 1).toInt + 4 := hs7
      have kp : Keep [(0, 1), (0, 2)] [1] σ0 σ7 := keep_c kp ik7 (by decide) (by decide)
      refine g_aload_n hF d_X12_feed_54 rfl 0 rfl ?_
      refine g_dup hF d_X12_feed_55 rfl ?_
      refine g_get (v := .int (σ7 0 2)) hF 2 obC_0 (by decide) m_737 rfl d_X12_feed_56 ?_
      refine g_top (v := (σ0 0 2)) ((ik7 0 2 rfl rfl rfl).trans ((ik6 0 2 rfl rfl rfl).trans ((ik5 0 2 rfl rfl rfl).trans ((ik4 0 2 rfl rfl rfl).trans (ik3 0 2 rfl rfl rfl))))) ?_
      refine g_bipush hF (v := 20) d_X12_feed_59 (by decide) ?_
      refine g_iadd hF d_X12_feed_61 ?_
      refine g_put (v := ((σ0 0 2) + 20)) hF 2 obC_0 (by decide) m_737 rfl rfl rfl d_X12_feed_62 ?_
      have kp : Keep [(0, 1), (0, 2)] [1] σ0 (upC σ7 0 2 ((σ0 0 2) + 20)) := keep_f kp (by decide)
      have p8 : 0 ≤ ((σ0 0 2) + 20).toInt ∧ ((σ0 0 2) + 20).toInt ≤ 65536 := (by have e0 := s_rng (σ0 0 2); have e1 := i0.2.1; have e2 : (20 : Int32).toInt = 20 := (by decide); obtain ⟨k3, e3⟩ := s_add (σ0 0 2) (20 : Int32); have e3a := s_rng ((σ0 0 2) + 20); have e5 : (65536 : Int32).toInt = 65536 := (by decide); omega)
      refine g_aload_n hF d_X12_feed_65 rfl 0 rfl ?_
      refine g_get (v := .int (σ7 0 1)) hF 1 obC_0 (by decide) m_736 rfl d_X12_feed_66 ?_
      have j9 : Inv (upC σ7 0 2 ((σ0 0 2) + 20)) := ⟨iσ7.1, p8, iσ7.2.2.1, iσ7.2.2.2.1, iσ7.2.2.2.2.1, iσ7.2.2.2.2.2.1, iσ7.2.2.2.2.2.2.1, iσ7.2.2.2.2.2.2.2.1, iσ7.2.2.2.2.2.2.2.2.1, iσ7.2.2.2.2.2.2.2.2.2.1, iσ7.2.2.2.2.2.2.2.2.2.2.1, iσ7.2.2.2.2.2.2.2.2.2.2.2.1, iσ7.2.2.2.2.2.2.2.2.2.2.2.2.1, iσ7.2.2.2.2.2.2.2.2.2.2.2.2.2.1, iσ7.2.2.2.2.2.2.2.2.2.2.2.2.2.2.1, iσ7.2.2.2.2.2.2.2.2.2.2.2.2.2.2.2.1, iσ7.2.2.2.2.2.2.2.2.2.2.2.2.2.2.2.2.1, iσ7.2.2.2.2.2.2.2.2.2.2.2.2.2.2.2.2.2.1, iσ7.2.2.2.2.2.2.2.2.2.2.2.2.2.2.2.2.2.2.1, iσ7.2.2.2.2.2.2.2.2.2.2.2.2.2.2.2.2.2.2.2⟩
      exact g_iret hF rfl d_X12_feed_69 ⟨rfl, rfl, (σ7 0 1), rfl, ⟨(by show (((σ0 0 1).toInt ≤ 15980 ∧ (σ0 0 2).toInt ≤ 65516) → ((σ7 0 1).toInt = (σ0 0 1).toInt + 20 ∧ (σ7 0 1).toInt = (σ0 0 1).toInt + 20 ∧ ((σ0 0 2) + 20).toInt = (σ0 0 2).toInt + 20)) ∧ (¬ ((σ0 0 1).toInt ≤ 15980 ∧ (σ0 0 2).toInt ≤ 65516) → ((σ7 0 1).toInt = -1 ∧ (σ7 0 1).toInt = (σ0 0 1).toInt ∧ ((σ0 0 2) + 20).toInt = (σ0 0 2).toInt)); have e0 := s_rng (σ7 0 1); have e1 := iσ7.1; have e2 := s_rng (σ0 0 1); have e3 := i0.1; have e4 := s_rng (σ0 0 2); have e5 := i0.2.1; have e6 : (20 : Int32).toInt = 20 := (by decide); obtain ⟨k7, e7⟩ := s_add (σ0 0 2) (20 : Int32); have e7a := s_rng ((σ0 0 2) + 20); obtain ⟨k9, e9⟩ := s_add (σ0 0 1) (20 : Int32); have e9a := s_rng ((σ0 0 1) + 20); have e11 : (16000 : Int32).toInt = 16000 := (by decide); have e12 : (65536 : Int32).toInt = 65536 := (by decide); omega), j9, kp⟩⟩
    · -- not taken at 22
      refine g_iconst hF (v := (-1)) d_X12_feed_25 (by decide) ?_
      exact g_iret hF rfl d_X12_feed_26 ⟨rfl, rfl, ((-1) : Int32), rfl, ⟨(by show (((σ0 0 1).toInt ≤ 15980 ∧ (σ0 0 2).toInt ≤ 65516) → (-1 = (σ0 0 1).toInt + 20 ∧ (σ0 0 1).toInt = (σ0 0 1).toInt + 20 ∧ (σ0 0 2).toInt = (σ0 0 2).toInt + 20)) ∧ (¬ ((σ0 0 1).toInt ≤ 15980 ∧ (σ0 0 2).toInt ≤ 65516) → (-1 = -1 ∧ (σ0 0 1).toInt = (σ0 0 1).toInt ∧ (σ0 0 2).toInt = (σ0 0 2).toInt)); have e0 : ((-1) : Int32).toInt = -1 := (by decide); have e1 := s_rng (σ0 0 1); have e2 := i0.1; have e3 := s_rng (σ0 0 2); have e4 := i0.2.1; have e5 : (20 : Int32).toInt = 20 := (by decide); obtain ⟨k6, e6⟩ := s_add (σ0 0 1) (20 : Int32); have e6a := s_rng ((σ0 0 1) + 20); have e8 : (16000 : Int32).toInt = 16000 := (by decide); obtain ⟨k9, e9⟩ := s_add (σ0 0 2) (20 : Int32); have e9a := s_rng ((σ0 0 2) + 20); have e11 : (65536 : Int32).toInt = 65536 := (by decide); omega), i0, kp⟩⟩
set_option maxHeartbeats 4000000 in
set_option maxRecDepth 100000 in
theorem c_X10_bad (a : Nat → Nat) (g : Nat → Nat → Int32) (r : Nat → Nat) (σ0 : St) (a1 : Int32) (hpre : 0 ≤ a1.toInt ∧ a1.toInt ≤ 40000) (i0 : Inv σ0) (l : Launch) (D : va_G) (cy : Nat → ClassId) : Ct l D cy SC r (EC a g) y_X10_bad (Cond.code y_X10_bad b_X10_bad 2 (some .boolean)) 1 [.ref (r 2), .int a1] σ0 Z0 [] (QI (fun v9 σ9 => (v9 = 0 ∨ v9 = 1) ∧ (Inv σ9 ∧ Keep [(2, 2), (2, 4)] [13, 14, 15, 16] σ0 σ9))) QF := by
  refine Ct_of (EC_ok a g) (by decide) (Nat.le_of_ble_eq_true rfl) (by decide) (fun X hnn hF => ?_)
  show G SC r X σ0 Z0 [] [(0, .ref (r 2)), (1, .int a1)] [] 0
  have kp : Keep [(2, 2), (2, 4)] [13, 14, 15, 16] σ0 σ0 := keep_rf
  refine g_aload_n hF d_X10_bad_0 rfl 0 rfl ?_
  refine g_iload_n hF d_X10_bad_1 rfl 1 rfl ?_
  refine g_put (v := a1) hF 2 obC_2 (by decide) m_44 rfl rfl rfl d_X10_bad_2 ?_
  have kp : Keep [(2, 2), (2, 4)] [13, 14, 15, 16] σ0 (upC σ0 2 2 a1) := keep_f kp (by decide)
  have p1 : 0 ≤ a1.toInt ∧ a1.toInt ≤ 40000 := (by have e0 := s_rng a1; omega)
  refine g_aload_n hF d_X10_bad_5 rfl 0 rfl ?_
  refine g_iconst hF (v := 1) d_X10_bad_6 (by decide) ?_
  refine g_iconst hF (v := 0) d_X10_bad_7 (by decide) ?_
  refine g_iconst hF (v := 0) d_X10_bad_8 (by decide) ?_
  have j3 : Inv (upC σ0 2 2 a1) := ⟨i0.1, i0.2.1, i0.2.2.1, i0.2.2.2.1, p1, i0.2.2.2.2.2.1, i0.2.2.2.2.2.2.1, i0.2.2.2.2.2.2.2.1, i0.2.2.2.2.2.2.2.2.1, i0.2.2.2.2.2.2.2.2.2.1, i0.2.2.2.2.2.2.2.2.2.2.1, i0.2.2.2.2.2.2.2.2.2.2.2.1, i0.2.2.2.2.2.2.2.2.2.2.2.2.1, i0.2.2.2.2.2.2.2.2.2.2.2.2.2.1, i0.2.2.2.2.2.2.2.2.2.2.2.2.2.2.1, i0.2.2.2.2.2.2.2.2.2.2.2.2.2.2.2.1, i0.2.2.2.2.2.2.2.2.2.2.2.2.2.2.2.2.1, i0.2.2.2.2.2.2.2.2.2.2.2.2.2.2.2.2.2.1, i0.2.2.2.2.2.2.2.2.2.2.2.2.2.2.2.2.2.2.1, i0.2.2.2.2.2.2.2.2.2.2.2.2.2.2.2.2.2.2.2⟩
  refine g_callV (As := [.int 1, .int 0, .int 0]) (rest := []) hF (c_X10_add a g r (upC σ0 2 2 a1) (1 : Int32) (0 : Int32) (0 : Int32) (by show 0 ≤ a1.toInt + 0 ∧ a1.toInt + 0 ≤ 40000 ∧ (1 = 2 → 0 ≤ 0 ∧ 0 ≤ 16001); have e0 : (1 : Int32).toInt = 1 := (by decide); have e1 : (0 : Int32).toInt = 0 := (by decide); have e2 := s_rng a1; have e3 := s_rng (σ0 2 2); have e4 := i0.2.2.2.2.1; omega) j3) (Nat.le_of_ble_eq_true rfl) mV_X10_add m_821 (recv_ob obC_2) rfl rfl (Nat.le_of_ble_eq_true rfl) d_X10_bad_9 (k_i (fun r2 σ2 ⟨hz2, iσ2, ik2⟩ => ?_)) (fun _ _ _ h => h.elim)
  have kp : Keep [(2, 2), (2, 4)] [13, 14, 15, 16] σ0 σ2 := keep_c kp ik2 (by decide) (by decide)
  refine g_pop hF d_X10_bad_12 rfl ?_
  refine g_iconst hF (v := 0) d_X10_bad_13 (by decide) ?_
  exact g_zret hF rfl (k_nz (Or.inl rfl)) d_X10_bad_14 ⟨rfl, rfl, (0 : Int32), rfl, (Or.inl rfl), ⟨iσ2, kp⟩⟩
set_option maxHeartbeats 4000000 in
set_option maxRecDepth 100000 in
theorem c_X10_skipComment (a : Nat → Nat) (g : Nat → Nat → Int32) (r : Nat → Nat) (σ0 : St) (i0 : Inv σ0) (l : Launch) (D : va_G) (cy : Nat → ClassId) : Ct l D cy SC r (EC a g) y_X10_skipComment (Cond.code y_X10_skipComment b_X10_skipComment 3 (some .boolean)) 2 [.ref (r 2)] σ0 Z0 [] (QI (fun v9 σ9 => (v9 = 0 ∨ v9 = 1) ∧ (Inv σ9 ∧ Keep [(2, 2), (2, 3), (2, 4)] [13, 14, 15, 16] σ0 σ9))) QF := by
  refine Ct_of (EC_ok a g) (by decide) (Nat.le_of_ble_eq_true rfl) (by decide) (fun X hnn hF => ?_)
  show G SC r X σ0 Z0 [] [(0, .ref (r 2))] [] 0
  have b7 : ∀ (N : Nat) (σ : St) (x1 : Int32) , upm x1 = N → Inv σ → Keep [(2, 2), (2, 3), (2, 4)] [13, 14, 15, 16] σ0 σ → (0 ≤ x1.toInt) → G SC r X σ Z0 [] [(0, .ref (r 2)), (1, .int x1)] [] 7 := by
    intro M7
    induction M7 using Nat.strongRecOn with
    | _ M7 ih7 =>
      intro σ x1 N7 inv kp hj
      refine g_iload_n hF d_X10_skipComment_7 rfl 1 rfl ?_
      refine g_aload_n hF d_X10_skipComment_8 rfl 0 rfl ?_
      refine g_get (v := .int (σ 2 1)) hF 1 obC_2 (by decide) m_43 rfl d_X10_skipComment_9 ?_
      refine g_icmp_ge hF 87 d_X10_skipComment_12 (by decide) rfl rfl (fun c1_12 => ?_) (fun c1_12 => ?_)
      · -- taken at 12
        refine g_aload_n hF d_X10_skipComment_87 rfl 0 rfl ?_
        refine g_aload_n hF d_X10_skipComment_88 rfl 0 rfl ?_
        refine g_get (v := .int (σ 2 2)) hF 2 obC_2 (by decide) m_44 rfl d_X10_skipComment_89 ?_
        refine g_callV (As := [.int (σ 2 2)]) (rest := []) hF (c_X10_bad a g r σ (σ 2 2) (by show 0 ≤ (σ 2 2).toInt ∧ (σ 2 2).toInt ≤ 40000; have e0 := s_rng (σ 2 2); have e1 := inv.2.2.2.2.1; omega) inv) (Nat.le_of_ble_eq_true rfl) mV_X10_bad m_817 (recv_ob obC_2) rfl rfl (Nat.le_of_ble_eq_true rfl) d_X10_skipComment_92 (k_i (fun r2 σ2 ⟨hz2, iσ2, ik2⟩ => ?_)) (fun _ _ _ h => h.elim)
        have kp : Keep [(2, 2), (2, 3), (2, 4)] [13, 14, 15, 16] σ0 σ2 := keep_c kp ik2 (by decide) (by decide)
        exact g_zret hF rfl (k_nz hz2) d_X10_skipComment_95 ⟨rfl, rfl, r2, rfl, hz2, ⟨iσ2, kp⟩⟩
      · -- not taken at 12
        refine g_aload_n hF d_X10_skipComment_15 rfl 0 rfl ?_
        refine g_iload_n hF d_X10_skipComment_16 rfl 1 rfl ?_
        refine g_callV (As := [.int x1]) (rest := []) hF (c_X10_byteAt a g r σ x1 inv) (Nat.le_of_ble_eq_true rfl) mV_X10_byteAt m_806 (recv_ob obC_2) rfl rfl (Nat.le_of_ble_eq_true rfl) d_X10_skipComment_17 (k_rop (fun r3 hp3 => ?_)) (fun _ _ _ h => h.elim)
        have hp3 : 0 ≤ r3.toInt → (0 ≤ x1.toInt ∧ x1.toInt < 16000) := hp3
        refine g_istore_n hF [(2, .int r3), (0, .ref (r 2)), (1, .int x1)] d_X10_skipComment_20 rfl hnn (by decide) rfl ?_
        refine g_iload_n hF d_X10_skipComment_21 rfl 0 rfl ?_
        refine g_callS (As := [.int r3]) (rest := []) hF (c_X10_mayOccur a g r σ r3 inv) (Nat.le_of_ble_eq_true rfl) mS_X10_mayOccur m_814 rfl rfl (Nat.le_of_ble_eq_true rfl) d_X10_skipComment_22 (k_roz (fun r4 hz4 => ?_)) (fun _ _ _ h => h.elim)
        refine g_if_ne hF 34 d_X10_skipComment_25 (by decide) rfl (fun c5_25 => ?_) (fun c5_25 => ?_)
        · -- taken at 25
          refine g_aload_n hF d_X10_skipComment_34 rfl 1 rfl ?_
          refine g_dup hF d_X10_skipComment_35 rfl ?_
          refine g_get (v := .int (σ 2 3)) hF 3 obC_2 (by decide) m_45 rfl d_X10_skipComment_36 ?_
          refine g_iload_n hF d_X10_skipComment_39 rfl 0 rfl ?_
          refine g_bipush hF (v := 10) d_X10_skipComment_40 (by decide) ?_
          refine g_icmp_ne (yv := 10) hF 49 d_X10_skipComment_42 (by decide) rfl (by decide) (fun c6_42 => ?_) (fun c6_42 => ?_)
          · -- taken at 42
            refine g_iconst hF (v := 0) d_X10_skipComment_49 (by decide) ?_
            refine g_iadd hF d_X10_skipComment_50 ?_
            refine g_put (v := ((σ 2 3) + 0)) hF 3 obC_2 (by decide) m_45 rfl rfl rfl d_X10_skipComment_51 ?_
            have kp : Keep [(2, 2), (2, 3), (2, 4)] [13, 14, 15, 16] σ0 (upC σ 2 3 ((σ 2 3) + 0)) := keep_f kp (by decide)
            refine g_iload_n hF d_X10_skipComment_54 rfl 0 rfl ?_
            refine g_bipush hF (v := 42) d_X10_skipComment_55 (by decide) ?_
            refine g_icmp_ne (yv := 42) hF 81 d_X10_skipComment_57 (by decide) rfl (by decide) (fun c7_57 => ?_) (fun c7_57 => ?_)
            · -- taken at 57
              refine g_iinc hF (x1 + 1) [(1, .int (x1 + 1)), (2, .int r3), (0, .ref (r 2))] d_X10_skipComment_81 2 rfl rfl hnn (by decide) rfl ?_
              refine g_goto hF 7 d_X10_skipComment_84 (by decide) ?_
              have j8 : Inv (upC σ 2 3 ((σ 2 3) + 0)) := ⟨inv.1, inv.2.1, inv.2.2.1, inv.2.2.2.1, inv.2.2.2.2.1, inv.2.2.2.2.2.1, inv.2.2.2.2.2.2.1, inv.2.2.2.2.2.2.2.1, inv.2.2.2.2.2.2.2.2.1, inv.2.2.2.2.2.2.2.2.2.1, inv.2.2.2.2.2.2.2.2.2.2.1, inv.2.2.2.2.2.2.2.2.2.2.2.1, inv.2.2.2.2.2.2.2.2.2.2.2.2.1, inv.2.2.2.2.2.2.2.2.2.2.2.2.2.1, inv.2.2.2.2.2.2.2.2.2.2.2.2.2.2.1, inv.2.2.2.2.2.2.2.2.2.2.2.2.2.2.2.1, inv.2.2.2.2.2.2.2.2.2.2.2.2.2.2.2.2.1, inv.2.2.2.2.2.2.2.2.2.2.2.2.2.2.2.2.2.1, inv.2.2.2.2.2.2.2.2.2.2.2.2.2.2.2.2.2.2.1, inv.2.2.2.2.2.2.2.2.2.2.2.2.2.2.2.2.2.2.2⟩
              exact g_sub (L' := [(0, .ref (r 2)), (1, .int (x1 + 1))]) [2, 0] rfl (ih7 _ (N7 ▸ upm_lt c1_12 (s_rng (σ 2 1)).2) (upC σ 2 3 ((σ 2 3) + 0)) (x1 + 1) rfl j8 kp (by show 0 ≤ (x1 + 1).toInt; have e0 := s_rng x1; have e1 : (1 : Int32).toInt = 1 := (by decide); obtain ⟨k2, e2⟩ := s_add x1 (1 : Int32); have e2a := s_rng (x1 + 1); have e4 := s_rng r3; have e5 := s_rng (σ 2 1); have e6 := inv.2.2.2.2.2.2.2.2.1; have e7 : (10 : Int32).toInt = 10 := (by decide); have e8 : (42 : Int32).toInt = 42 := (by decide); omega))
            · -- not taken at 57
              refine g_aload_n hF d_X10_skipComment_60 rfl 1 rfl ?_
              refine g_iload_n hF d_X10_skipComment_61 rfl 2 rfl ?_
              refine g_iconst hF (v := 1) d_X10_skipComment_62 (by decide) ?_
              refine g_iadd hF d_X10_skipComment_63 ?_
              have j10 : Inv (upC σ 2 3 ((σ 2 3) + 0)) := ⟨inv.1, inv.2.1, inv.2.2.1, inv.2.2.2.1, inv.2.2.2.2.1, inv.2.2.2.2.2.1, inv.2.2.2.2.2.2.1, inv.2.2.2.2.2.2.2.1, inv.2.2.2.2.2.2.2.2.1, inv.2.2.2.2.2.2.2.2.2.1, inv.2.2.2.2.2.2.2.2.2.2.1, inv.2.2.2.2.2.2.2.2.2.2.2.1, inv.2.2.2.2.2.2.2.2.2.2.2.2.1, inv.2.2.2.2.2.2.2.2.2.2.2.2.2.1, inv.2.2.2.2.2.2.2.2.2.2.2.2.2.2.1, inv.2.2.2.2.2.2.2.2.2.2.2.2.2.2.2.1, inv.2.2.2.2.2.2.2.2.2.2.2.2.2.2.2.2.1, inv.2.2.2.2.2.2.2.2.2.2.2.2.2.2.2.2.2.1, inv.2.2.2.2.2.2.2.2.2.2.2.2.2.2.2.2.2.2.1, inv.2.2.2.2.2.2.2.2.2.2.2.2.2.2.2.2.2.2.2⟩
              refine g_callV (As := [.int (x1 + 1)]) (rest := []) hF (c_X10_byteAt a g r (upC σ 2 3 ((σ 2 3) + 0)) (x1 + 1) j10) (Nat.le_of_ble_eq_true rfl) mV_X10_byteAt m_806 (recv_ob obC_2) rfl rfl (Nat.le_of_ble_eq_true rfl) d_X10_skipComment_64 (k_rop (fun r9 hp9 => ?_)) (fun _ _ _ h => h.elim)
              have hp9 : 0 ≤ r9.toInt → (0 ≤ (x1 + 1).toInt ∧ (x1 + 1).toInt < 16000) := hp9
              refine g_bipush hF (v := 47) d_X10_skipComment_67 (by decide) ?_
              refine g_icmp_ne (yv := 47) hF 81 d_X10_skipComment_69 (by decide) rfl (by decide) (fun c11_69 => ?_) (fun c11_69 => ?_)
              · -- taken at 69
                refine g_iinc hF (x1 + 1) [(1, .int (x1 + 1)), (2, .int r3), (0, .ref (r 2))] d_X10_skipComment_81 2 rfl rfl hnn (by decide) rfl ?_
                refine g_goto hF 7 d_X10_skipComment_84 (by decide) ?_
                exact g_sub (L' := [(0, .ref (r 2)), (1, .int (x1 + 1))]) [2, 0] rfl (ih7 _ (N7 ▸ upm_lt c1_12 (s_rng (σ 2 1)).2) (upC σ 2 3 ((σ 2 3) + 0)) (x1 + 1) rfl j10 kp (by show 0 ≤ (x1 + 1).toInt; have e0 := s_rng x1; have e1 : (1 : Int32).toInt = 1 := (by decide); obtain ⟨k2, e2⟩ := s_add x1 (1 : Int32); have e2a := s_rng (x1 + 1); have e4 := s_rng r3; have e5 := s_rng (σ 2 1); have e6 := inv.2.2.2.2.2.2.2.2.1; have e7 : (10 : Int32).toInt = 10 := (by decide); have e8 : (42 : Int32).toInt = 42 := (by decide); have e9 := s_rng r9; have e10 : (47 : Int32).toInt = 47 := (by decide); omega))
              · -- not taken at 69
                refine g_aload_n hF d_X10_skipComment_72 rfl 1 rfl ?_
                refine g_iload_n hF d_X10_skipComment_73 rfl 2 rfl ?_
                refine g_iconst hF (v := 2) d_X10_skipComment_74 (by decide) ?_
                refine g_iadd hF d_X10_skipComment_75 ?_
                refine g_put (v := (x1 + 2)) hF 2 obC_2 (by decide) m_44 rfl rfl rfl d_X10_skipComment_76 ?_
                have kp : Keep [(2, 2), (2, 3), (2, 4)] [13, 14, 15, 16] σ0 (upC (upC σ 2 3 ((σ 2 3) + 0)) 2 2 (x1 + 2)) := keep_f kp (by decide)
                have p12 : 0 ≤ (x1 + 2).toInt ∧ (x1 + 2).toInt ≤ 40000 := (by have e0 := s_rng x1; have e1 : (2 : Int32).toInt = 2 := (by decide); obtain ⟨k2, e2⟩ := s_add x1 (2 : Int32); have e2a := s_rng (x1 + 2); have e4 := s_rng (σ 2 1); have e5 := inv.2.2.2.2.2.2.2.2.1; have e6 := s_rng r3; have e7 : (10 : Int32).toInt = 10 := (by decide); have e8 : (42 : Int32).toInt = 42 := (by decide); have e9 := s_rng r9; have e10 : (1 : Int32).toInt = 1 := (by decide); obtain ⟨k11, e11⟩ := s_add x1 (1 : Int32); have e11a := s_rng (x1 + 1); have e13 : (47 : Int32).toInt = 47 := (by decide); omega)
                refine g_iconst hF (v := 1) d_X10_skipComment_79 (by decide) ?_
                have j13 : Inv (upC (upC σ 2 3 ((σ 2 3) + 0)) 2 2 (x1 + 2)) := ⟨j10.1, j10.2.1, j10.2.2.1, j10.2.2.2.1, p12, j10.2.2.2.2.2.1, j10.2.2.2.2.2.2.1, j10.2.2.2.2.2.2.2.1, j10.2.2.2.2.2.2.2.2.1, j10.2.2.2.2.2.2.2.2.2.1, j10.2.2.2.2.2.2.2.2.2.2.1, j10.2.2.2.2.2.2.2.2.2.2.2.1, j10.2.2.2.2.2.2.2.2.2.2.2.2.1, j10.2.2.2.2.2.2.2.2.2.2.2.2.2.1, j10.2.2.2.2.2.2.2.2.2.2.2.2.2.2.1, j10.2.2.2.2.2.2.2.2.2.2.2.2.2.2.2.1, j10.2.2.2.2.2.2.2.2.2.2.2.2.2.2.2.2.1, j10.2.2.2.2.2.2.2.2.2.2.2.2.2.2.2.2.2.1, j10.2.2.2.2.2.2.2.2.2.2.2.2.2.2.2.2.2.2.1, j10.2.2.2.2.2.2.2.2.2.2.2.2.2.2.2.2.2.2.2⟩
                exact g_zret hF rfl (k_nz (Or.inr rfl)) d_X10_skipComment_80 ⟨rfl, rfl, (1 : Int32), rfl, (Or.inr rfl), ⟨j13, kp⟩⟩
          · -- not taken at 42
            refine g_iconst hF (v := 1) d_X10_skipComment_45 (by decide) ?_
            refine g_goto hF 50 d_X10_skipComment_46 (by decide) ?_
            refine g_iadd hF d_X10_skipComment_50 ?_
            refine g_put (v := ((σ 2 3) + 1)) hF 3 obC_2 (by decide) m_45 rfl rfl rfl d_X10_skipComment_51 ?_
            have kp : Keep [(2, 2), (2, 3), (2, 4)] [13, 14, 15, 16] σ0 (upC σ 2 3 ((σ 2 3) + 1)) := keep_f kp (by decide)
            refine g_iload_n hF d_X10_skipComment_54 rfl 0 rfl ?_
            refine g_bipush hF (v := 42) d_X10_skipComment_55 (by decide) ?_
            refine g_icmp_ne (yv := 42) hF 81 d_X10_skipComment_57 (by decide) rfl (by decide) (fun c14_57 => ?_) (fun c14_57 => ?_)
            · -- taken at 57
              refine g_iinc hF (x1 + 1) [(1, .int (x1 + 1)), (2, .int r3), (0, .ref (r 2))] d_X10_skipComment_81 2 rfl rfl hnn (by decide) rfl ?_
              refine g_goto hF 7 d_X10_skipComment_84 (by decide) ?_
              have j15 : Inv (upC σ 2 3 ((σ 2 3) + 1)) := ⟨inv.1, inv.2.1, inv.2.2.1, inv.2.2.2.1, inv.2.2.2.2.1, inv.2.2.2.2.2.1, inv.2.2.2.2.2.2.1, inv.2.2.2.2.2.2.2.1, inv.2.2.2.2.2.2.2.2.1, inv.2.2.2.2.2.2.2.2.2.1, inv.2.2.2.2.2.2.2.2.2.2.1, inv.2.2.2.2.2.2.2.2.2.2.2.1, inv.2.2.2.2.2.2.2.2.2.2.2.2.1, inv.2.2.2.2.2.2.2.2.2.2.2.2.2.1, inv.2.2.2.2.2.2.2.2.2.2.2.2.2.2.1, inv.2.2.2.2.2.2.2.2.2.2.2.2.2.2.2.1, inv.2.2.2.2.2.2.2.2.2.2.2.2.2.2.2.2.1, inv.2.2.2.2.2.2.2.2.2.2.2.2.2.2.2.2.2.1, inv.2.2.2.2.2.2.2.2.2.2.2.2.2.2.2.2.2.2.1, inv.2.2.2.2.2.2.2.2.2.2.2.2.2.2.2.2.2.2.2⟩
              exact g_sub (L' := [(0, .ref (r 2)), (1, .int (x1 + 1))]) [2, 0] rfl (ih7 _ (N7 ▸ upm_lt c1_12 (s_rng (σ 2 1)).2) (upC σ 2 3 ((σ 2 3) + 1)) (x1 + 1) rfl j15 kp (by show 0 ≤ (x1 + 1).toInt; have e0 := s_rng x1; have e1 : (1 : Int32).toInt = 1 := (by decide); obtain ⟨k2, e2⟩ := s_add x1 (1 : Int32); have e2a := s_rng (x1 + 1); have e4 := s_rng r3; have e5 := s_rng (σ 2 1); have e6 := inv.2.2.2.2.2.2.2.2.1; have e7 : (10 : Int32).toInt = 10 := (by decide); have e8 : (42 : Int32).toInt = 42 := (by decide); omega))
            · -- not taken at 57
              refine g_aload_n hF d_X10_skipComment_60 rfl 1 rfl ?_
              refine g_iload_n hF d_X10_skipComment_61 rfl 2 rfl ?_
              refine g_iconst hF (v := 1) d_X10_skipComment_62 (by decide) ?_
              refine g_iadd hF d_X10_skipComment_63 ?_
              have j17 : Inv (upC σ 2 3 ((σ 2 3) + 1)) := ⟨inv.1, inv.2.1, inv.2.2.1, inv.2.2.2.1, inv.2.2.2.2.1, inv.2.2.2.2.2.1, inv.2.2.2.2.2.2.1, inv.2.2.2.2.2.2.2.1, inv.2.2.2.2.2.2.2.2.1, inv.2.2.2.2.2.2.2.2.2.1, inv.2.2.2.2.2.2.2.2.2.2.1, inv.2.2.2.2.2.2.2.2.2.2.2.1, inv.2.2.2.2.2.2.2.2.2.2.2.2.1, inv.2.2.2.2.2.2.2.2.2.2.2.2.2.1, inv.2.2.2.2.2.2.2.2.2.2.2.2.2.2.1, inv.2.2.2.2.2.2.2.2.2.2.2.2.2.2.2.1, inv.2.2.2.2.2.2.2.2.2.2.2.2.2.2.2.2.1, inv.2.2.2.2.2.2.2.2.2.2.2.2.2.2.2.2.2.1, inv.2.2.2.2.2.2.2.2.2.2.2.2.2.2.2.2.2.2.1, inv.2.2.2.2.2.2.2.2.2.2.2.2.2.2.2.2.2.2.2⟩
              refine g_callV (As := [.int (x1 + 1)]) (rest := []) hF (c_X10_byteAt a g r (upC σ 2 3 ((σ 2 3) + 1)) (x1 + 1) j17) (Nat.le_of_ble_eq_true rfl) mV_X10_byteAt m_806 (recv_ob obC_2) rfl rfl (Nat.le_of_ble_eq_true rfl) d_X10_skipComment_64 (k_rop (fun r16 hp16 => ?_)) (fun _ _ _ h => h.elim)
              have hp16 : 0 ≤ r16.toInt → (0 ≤ (x1 + 1).toInt ∧ (x1 + 1).toInt < 16000) := hp16
              refine g_bipush hF (v := 47) d_X10_skipComment_67 (by decide) ?_
              refine g_icmp_ne (yv := 47) hF 81 d_X10_skipComment_69 (by decide) rfl (by decide) (fun c18_69 => ?_) (fun c18_69 => ?_)
              · -- taken at 69
                refine g_iinc hF (x1 + 1) [(1, .int (x1 + 1)), (2, .int r3), (0, .ref (r 2))] d_X10_skipComment_81 2 rfl rfl hnn (by decide) rfl ?_
                refine g_goto hF 7 d_X10_skipComment_84 (by decide) ?_
                exact g_sub (L' := [(0, .ref (r 2)), (1, .int (x1 + 1))]) [2, 0] rfl (ih7 _ (N7 ▸ upm_lt c1_12 (s_rng (σ 2 1)).2) (upC σ 2 3 ((σ 2 3) + 1)) (x1 + 1) rfl j17 kp (by show 0 ≤ (x1 + 1).toInt; have e0 := s_rng x1; have e1 : (1 : Int32).toInt = 1 := (by decide); obtain ⟨k2, e2⟩ := s_add x1 (1 : Int32); have e2a := s_rng (x1 + 1); have e4 := s_rng r3; have e5 := s_rng (σ 2 1); have e6 := inv.2.2.2.2.2.2.2.2.1; have e7 : (10 : Int32).toInt = 10 := (by decide); have e8 : (42 : Int32).toInt = 42 := (by decide); have e9 := s_rng r16; have e10 : (47 : Int32).toInt = 47 := (by decide); omega))
              · -- not taken at 69
                refine g_aload_n hF d_X10_skipComment_72 rfl 1 rfl ?_
                refine g_iload_n hF d_X10_skipComment_73 rfl 2 rfl ?_
                refine g_iconst hF (v := 2) d_X10_skipComment_74 (by decide) ?_
                refine g_iadd hF d_X10_skipComment_75 ?_
                refine g_put (v := (x1 + 2)) hF 2 obC_2 (by decide) m_44 rfl rfl rfl d_X10_skipComment_76 ?_
                have kp : Keep [(2, 2), (2, 3), (2, 4)] [13, 14, 15, 16] σ0 (upC (upC σ 2 3 ((σ 2 3) + 1)) 2 2 (x1 + 2)) := keep_f kp (by decide)
                have p19 : 0 ≤ (x1 + 2).toInt ∧ (x1 + 2).toInt ≤ 40000 := (by have e0 := s_rng x1; have e1 : (2 : Int32).toInt = 2 := (by decide); obtain ⟨k2, e2⟩ := s_add x1 (2 : Int32); have e2a := s_rng (x1 + 2); have e4 := s_rng (σ 2 1); have e5 := inv.2.2.2.2.2.2.2.2.1; have e6 := s_rng r3; have e7 : (10 : Int32).toInt = 10 := (by decide); have e8 : (42 : Int32).toInt = 42 := (by decide); have e9 := s_rng r16; have e10 : (1 : Int32).toInt = 1 := (by decide); obtain ⟨k11, e11⟩ := s_add x1 (1 : Int32); have e11a := s_rng (x1 + 1); have e13 : (47 : Int32).toInt = 47 := (by decide); omega)
                refine g_iconst hF (v := 1) d_X10_skipComment_79 (by decide) ?_
                have j20 : Inv (upC (upC σ 2 3 ((σ 2 3) + 1)) 2 2 (x1 + 2)) := ⟨j17.1, j17.2.1, j17.2.2.1, j17.2.2.2.1, p19, j17.2.2.2.2.2.1, j17.2.2.2.2.2.2.1, j17.2.2.2.2.2.2.2.1, j17.2.2.2.2.2.2.2.2.1, j17.2.2.2.2.2.2.2.2.2.1, j17.2.2.2.2.2.2.2.2.2.2.1, j17.2.2.2.2.2.2.2.2.2.2.2.1, j17.2.2.2.2.2.2.2.2.2.2.2.2.1, j17.2.2.2.2.2.2.2.2.2.2.2.2.2.1, j17.2.2.2.2.2.2.2.2.2.2.2.2.2.2.1, j17.2.2.2.2.2.2.2.2.2.2.2.2.2.2.2.1, j17.2.2.2.2.2.2.2.2.2.2.2.2.2.2.2.2.1, j17.2.2.2.2.2.2.2.2.2.2.2.2.2.2.2.2.2.1, j17.2.2.2.2.2.2.2.2.2.2.2.2.2.2.2.2.2.2.1, j17.2.2.2.2.2.2.2.2.2.2.2.2.2.2.2.2.2.2.2⟩
                exact g_zret hF rfl (k_nz (Or.inr rfl)) d_X10_skipComment_80 ⟨rfl, rfl, (1 : Int32), rfl, (Or.inr rfl), ⟨j20, kp⟩⟩
        · -- not taken at 25
          refine g_aload_n hF d_X10_skipComment_28 rfl 1 rfl ?_
          refine g_iload_n hF d_X10_skipComment_29 rfl 2 rfl ?_
          refine g_callV (As := [.int x1]) (rest := []) hF (c_X10_bad a g r σ x1 (by show 0 ≤ x1.toInt ∧ x1.toInt ≤ 40000; have e0 := s_rng x1; have e1 := s_rng (σ 2 1); have e2 := inv.2.2.2.2.2.2.2.2.1; have e3 := s_rng r3; omega) inv) (Nat.le_of_ble_eq_true rfl) mV_X10_bad m_817 (recv_ob obC_2) rfl rfl (Nat.le_of_ble_eq_true rfl) d_X10_skipComment_30 (k_i (fun r21 σ21 ⟨hz21, iσ21, ik21⟩ => ?_)) (fun _ _ _ h => h.elim)
          have kp : Keep [(2, 2), (2, 3), (2, 4)] [13, 14, 15, 16] σ0 σ21 := keep_c kp ik21 (by decide) (by decide)
          exact g_zret hF rfl (k_nz hz21) d_X10_skipComment_33 ⟨rfl, rfl, r21, rfl, hz21, ⟨iσ21, kp⟩⟩
  have kp : Keep [(2, 2), (2, 3), (2, 4)] [13, 14, 15, 16] σ0 σ0 := keep_rf
  refine g_aload_n hF d_X10_skipComment_0 rfl 0 rfl ?_
  refine g_get (v := .int (σ0 2 2)) hF 2 obC_2 (by decide) m_44 rfl d_X10_skipComment_1 ?_
  refine g_iconst hF (v := 2) d_X10_skipComment_4 (by decide) ?_
  refine g_iadd hF d_X10_skipComment_5 ?_
  refine g_istore_n hF [(1, .int ((σ0 2 2) + 2)), (0, .ref (r 2))] d_X10_skipComment_6 rfl hnn (by decide) rfl ?_
  exact g_sub (L' := [(0, .ref (r 2)), (1, .int ((σ0 2 2) + 2))]) [1, 0] rfl (b7 _ σ0 ((σ0 2 2) + 2) rfl i0 kp (by show 0 ≤ ((σ0 2 2) + 2).toInt; have e0 := s_rng (σ0 2 2); have e1 := i0.2.2.2.2.1; have e2 : (2 : Int32).toInt = 2 := (by decide); obtain ⟨k3, e3⟩ := s_add (σ0 2 2) (2 : Int32); have e3a := s_rng ((σ0 2 2) + 2); omega))
set_option maxHeartbeats 4000000 in
set_option maxRecDepth 100000 in
theorem c_X10_sixteens (a : Nat → Nat) (g : Nat → Nat → Int32) (r : Nat → Nat) (σ0 : St) (hpre : (σ0 2 2).toInt < 16000) (i0 : Inv σ0) (l : Launch) (D : va_G) (cy : Nat → ClassId) : Ct l D cy SC r (EC a g) y_X10_sixteens (Cond.code y_X10_sixteens b_X10_sixteens 4 (some .boolean)) 2 [.ref (r 2)] σ0 Z0 [] (QI (fun v9 σ9 => (v9 = 0 ∨ v9 = 1) ∧ (Inv σ9 ∧ Keep [(2, 2), (2, 4)] [13, 14, 15, 16] σ0 σ9))) QF := by
  refine Ct_of (EC_ok a g) (by decide) (Nat.le_of_ble_eq_true rfl) (by decide) (fun X hnn hF => ?_)
  show G SC r X σ0 Z0 [] [(0, .ref (r 2))] [] 0
  have b18 : ∀ (N : Nat) (σ : St) (x1 : Int32) (x2 : Int32) (x3 : Int32) , upm x2 = N → Inv σ → Keep [(2, 2), (2, 4)] [13, 14, 15, 16] σ0 σ → ((σ 2 2).toInt < 16000 ∧ 0 ≤ x2.toInt ∧ x2.toInt ≤ 16001) → G SC r X σ Z0 [] [(0, .ref (r 2)), (1, .int x1), (2, .int x2), (3, .int x3)] [] 18 := by
    intro M18
    induction M18 using Nat.strongRecOn with
    | _ M18 ih18 =>
      intro σ x1 x2 x3 N18 inv kp hj
      refine g_iload_n hF d_X10_sixteens_18 rfl 2 rfl ?_
      refine g_aload_n hF d_X10_sixteens_19 rfl 0 rfl ?_
      refine g_get (v := .int (σ 2 1)) hF 1 obC_2 (by decide) m_43 rfl d_X10_sixteens_20 ?_
      refine g_icmp_gt hF 59 d_X10_sixteens_23 (by decide) rfl rfl (fun c1_23 => ?_) (fun c1_23 => ?_)
      · -- taken at 23
        refine g_iload_n hF d_X10_sixteens_59 rfl 2 rfl ?_
        refine g_bipush hF (v := 10) d_X10_sixteens_60 (by decide) ?_
        refine g_icmp_le (yv := 10) hF 76 d_X10_sixteens_62 (by decide) rfl (by decide) (fun c2_62 => ?_) (fun c2_62 => ?_)
        · -- taken at 62
          refine g_aload_n hF d_X10_sixteens_76 rfl 0 rfl ?_
          refine g_iconst hF (v := 3) d_X10_sixteens_77 (by decide) ?_
          refine g_iload_n hF d_X10_sixteens_78 rfl 1 rfl ?_
          refine g_iload_n hF d_X10_sixteens_79 rfl 2 rfl ?_
          refine g_callV (As := [.int 3, .int x1, .int x2]) (rest := []) hF (c_X10_add a g r σ (3 : Int32) x1 x2 (by show 0 ≤ (σ 2 2).toInt + x2.toInt ∧ (σ 2 2).toInt + x2.toInt ≤ 40000 ∧ (3 = 2 → 0 ≤ x1.toInt ∧ x1.toInt ≤ 16001); have e0 : (3 : Int32).toInt = 3 := (by decide); have e1 := s_rng x1; have e2 := s_rng x2; have e3 := s_rng (σ 2 2); have e4 := inv.2.2.2.2.1; have e5 := s_rng (σ0 2 2); have e6 := i0.2.2.2.2.1; have e7 := s_rng (σ 2 1); have e8 := inv.2.2.2.2.2.2.2.2.1; have e9 : (10 : Int32).toInt = 10 := (by decide); omega) inv) (Nat.le_of_ble_eq_true rfl) mV_X10_add m_821 (recv_ob obC_2) rfl rfl (Nat.le_of_ble_eq_true rfl) d_X10_sixteens_80 (k_i (fun r3 σ3 ⟨hz3, iσ3, ik3⟩ => ?_)) (fun _ _ _ h => h.elim)
          have kp : Keep [(2, 2), (2, 4)] [13, 14, 15, 16] σ0 σ3 := keep_c kp ik3 (by decide) (by decide)
          exact g_zret hF rfl (k_nz hz3) d_X10_sixteens_83 ⟨rfl, rfl, r3, rfl, hz3, ⟨iσ3, kp⟩⟩
        · -- not taken at 62
          refine g_aload_n hF d_X10_sixteens_65 rfl 0 rfl ?_
          refine g_aload_n hF d_X10_sixteens_66 rfl 0 rfl ?_
          refine g_get (v := .int (σ 2 2)) hF 2 obC_2 (by decide) m_44 rfl d_X10_sixteens_67 ?_
          refine g_callV (As := [.int (σ 2 2)]) (rest := []) hF (c_X10_bad a g r σ (σ 2 2) (by show 0 ≤ (σ 2 2).toInt ∧ (σ 2 2).toInt ≤ 40000; have e0 := s_rng (σ 2 2); have e1 := inv.2.2.2.2.1; omega) inv) (Nat.le_of_ble_eq_true rfl) mV_X10_bad m_817 (recv_ob obC_2) rfl rfl (Nat.le_of_ble_eq_true rfl) d_X10_sixteens_70 (k_i (fun r4 σ4 ⟨hz4, iσ4, ik4⟩ => ?_)) (fun _ _ _ h => h.elim)
          have kp : Keep [(2, 2), (2, 4)] [13, 14, 15, 16] σ0 σ4 := keep_c kp ik4 (by decide) (by decide)
          refine g_goto hF 83 d_X10_sixteens_73 (by decide) ?_
          exact g_zret hF rfl (k_nz hz4) d_X10_sixteens_83 ⟨rfl, rfl, r4, rfl, hz4, ⟨iσ4, kp⟩⟩
      · -- not taken at 23
        refine g_iload_n hF d_X10_sixteens_26 rfl 3 rfl ?_
        refine g_if_lt hF 59 d_X10_sixteens_27 (by decide) rfl (fun c5_27 => ?_) (fun c5_27 => ?_)
        · -- taken at 27
          refine g_iload_n hF d_X10_sixteens_59 rfl 2 rfl ?_
          refine g_bipush hF (v := 10) d_X10_sixteens_60 (by decide) ?_
          refine g_icmp_le (yv := 10) hF 76 d_X10_sixteens_62 (by decide) rfl (by decide) (fun c6_62 => ?_) (fun c6_62 => ?_)
          · -- taken at 62
            refine g_aload_n hF d_X10_sixteens_76 rfl 0 rfl ?_
            refine g_iconst hF (v := 3) d_X10_sixteens_77 (by decide) ?_
            refine g_iload_n hF d_X10_sixteens_78 rfl 1 rfl ?_
            refine g_iload_n hF d_X10_sixteens_79 rfl 2 rfl ?_
            refine g_callV (As := [.int 3, .int x1, .int x2]) (rest := []) hF (c_X10_add a g r σ (3 : Int32) x1 x2 (by show 0 ≤ (σ 2 2).toInt + x2.toInt ∧ (σ 2 2).toInt + x2.toInt ≤ 40000 ∧ (3 = 2 → 0 ≤ x1.toInt ∧ x1.toInt ≤ 16001); have e0 : (3 : Int32).toInt = 3 := (by decide); have e1 := s_rng x1; have e2 := s_rng x2; have e3 := s_rng (σ 2 2); have e4 := inv.2.2.2.2.1; have e5 := s_rng (σ0 2 2); have e6 := i0.2.2.2.2.1; have e7 := s_rng (σ 2 1); have e8 := inv.2.2.2.2.2.2.2.2.1; have e9 : (10 : Int32).toInt = 10 := (by decide); omega) inv) (Nat.le_of_ble_eq_true rfl) mV_X10_add m_821 (recv_ob obC_2) rfl rfl (Nat.le_of_ble_eq_true rfl) d_X10_sixteens_80 (k_i (fun r7 σ7 ⟨hz7, iσ7, ik7⟩ => ?_)) (fun _ _ _ h => h.elim)
            have kp : Keep [(2, 2), (2, 4)] [13, 14, 15, 16] σ0 σ7 := keep_c kp ik7 (by decide) (by decide)
            exact g_zret hF rfl (k_nz hz7) d_X10_sixteens_83 ⟨rfl, rfl, r7, rfl, hz7, ⟨iσ7, kp⟩⟩
          · -- not taken at 62
            refine g_aload_n hF d_X10_sixteens_65 rfl 0 rfl ?_
            refine g_aload_n hF d_X10_sixteens_66 rfl 0 rfl ?_
            refine g_get (v := .int (σ 2 2)) hF 2 obC_2 (by decide) m_44 rfl d_X10_sixteens_67 ?_
            refine g_callV (As := [.int (σ 2 2)]) (rest := []) hF (c_X10_bad a g r σ (σ 2 2) (by show 0 ≤ (σ 2 2).toInt ∧ (σ 2 2).toInt ≤ 40000; have e0 := s_rng (σ 2 2); have e1 := inv.2.2.2.2.1; omega) inv) (Nat.le_of_ble_eq_true rfl) mV_X10_bad m_817 (recv_ob obC_2) rfl rfl (Nat.le_of_ble_eq_true rfl) d_X10_sixteens_70 (k_i (fun r8 σ8 ⟨hz8, iσ8, ik8⟩ => ?_)) (fun _ _ _ h => h.elim)
            have kp : Keep [(2, 2), (2, 4)] [13, 14, 15, 16] σ0 σ8 := keep_c kp ik8 (by decide) (by decide)
            refine g_goto hF 83 d_X10_sixteens_73 (by decide) ?_
            exact g_zret hF rfl (k_nz hz8) d_X10_sixteens_83 ⟨rfl, rfl, r8, rfl, hz8, ⟨iσ8, kp⟩⟩
        · -- not taken at 27
          refine g_iload_n hF d_X10_sixteens_30 rfl 1 rfl ?_
          refine g_bipush hF (v := 16) d_X10_sixteens_31 (by decide) ?_
          refine g_imul hF d_X10_sixteens_33 ?_
          refine g_any (fun v9 => ?_)
          refine g_iload_n hF d_X10_sixteens_34 rfl 3 rfl ?_
          refine g_iadd hF d_X10_sixteens_35 ?_
          refine g_istore_n hF [(1, .int (v9 + x3)), (0, .ref (r 2)), (2, .int x2), (3, .int x3)] d_X10_sixteens_36 rfl hnn (by decide) rfl ?_
          refine g_aload_n hF d_X10_sixteens_37 rfl 1 rfl ?_
          refine g_aload_n hF d_X10_sixteens_38 rfl 1 rfl ?_
          refine g_get (v := .int (σ 2 2)) hF 2 obC_2 (by decide) m_44 rfl d_X10_sixteens_39 ?_
          refine g_iload_n hF d_X10_sixteens_42 rfl 2 rfl ?_
          refine g_iadd hF d_X10_sixteens_43 ?_
          refine g_iconst hF (v := 1) d_X10_sixteens_44 (by decide) ?_
          refine g_iadd hF d_X10_sixteens_45 ?_
          refine g_callV (As := [.int (((σ 2 2) + x2) + 1)]) (rest := []) hF (c_X10_byteAt a g r σ (((σ 2 2) + x2) + 1) inv) (Nat.le_of_ble_eq_true rfl) mV_X10_byteAt m_806 (recv_ob obC_2) rfl rfl (Nat.le_of_ble_eq_true rfl) d_X10_sixteens_46 (k_rop (fun r10 hp10 => ?_)) (fun _ _ _ h => h.elim)
          have hp10 : 0 ≤ r10.toInt → (0 ≤ (((σ 2 2) + x2) + 1).toInt ∧ (((σ 2 2) + x2) + 1).toInt < 16000) := hp10
          refine g_callS (As := [.int r10]) (rest := []) hF (c_X10_sixteenth a g r σ r10 inv) (Nat.le_of_ble_eq_true rfl) mS_X10_sixteenth m_854 rfl rfl (Nat.le_of_ble_eq_true rfl) d_X10_sixteens_49 (k_ro (fun r11 => ?_)) (fun _ _ _ h => h.elim)
          refine g_istore_n hF [(3, .int r11), (1, .int (v9 + x3)), (0, .ref (r 2)), (2, .int x2)] d_X10_sixteens_52 rfl hnn (by decide) rfl ?_
          refine g_iinc hF (x2 + 1) [(2, .int (x2 + 1)), (3, .int r11), (1, .int (v9 + x3)), (0, .ref (r 2))] d_X10_sixteens_53 3 rfl rfl hnn (by decide) rfl ?_
          refine g_goto hF 18 d_X10_sixteens_56 (by decide) ?_
          exact g_sub (L' := [(0, .ref (r 2)), (1, .int (v9 + x3)), (2, .int (x2 + 1)), (3, .int r11)]) [3, 2, 0, 1] rfl (ih18 _ (by show upm (x2 + 1) < _; have hN := N18; unfold upm at hN ⊢; have e0 := s_rng x2; have e1 : (1 : Int32).toInt = 1 := (by decide); obtain ⟨k2, e2⟩ := s_add x2 (1 : Int32); have e2a := s_rng (x2 + 1); have e4 := s_rng (σ 2 1); have e5 := inv.2.2.2.2.2.2.2.2.1; have e6 := s_rng r10; have e7 := s_rng (σ 2 2); have e8 := inv.2.2.2.2.1; obtain ⟨k9, e9⟩ := s_add (σ 2 2) x2; have e9a := s_rng ((σ 2 2) + x2); obtain ⟨k11, e11⟩ := s_add ((σ 2 2) + x2) (1 : Int32); have e11a := s_rng (((σ 2 2) + x2) + 1); omega) σ (v9 + x3) (x2 + 1) r11 rfl inv kp (by show (σ 2 2).toInt < 16000 ∧ 0 ≤ (x2 + 1).toInt ∧ (x2 + 1).toInt ≤ 16001; have e0 := s_rng x2; have e1 : (1 : Int32).toInt = 1 := (by decide); obtain ⟨k2, e2⟩ := s_add x2 (1 : Int32); have e2a := s_rng (x2 + 1); have e4 := s_rng r11; have e5 := s_rng v9; have e6 := s_rng x3; obtain ⟨k7, e7⟩ := s_add v9 x3; have e7a := s_rng (v9 + x3); have e9 := s_rng (σ 2 2); have e10 := inv.2.2.2.2.1; have e11 := s_rng (σ0 2 2); have e12 := i0.2.2.2.2.1; have e13 := s_rng (σ 2 1); have e14 := inv.2.2.2.2.2.2.2.2.1; have e15 : (0 : Int32).toInt = 0 := (by decide); have e16 := s_rng r10; obtain ⟨k17, e17⟩ := s_add (σ 2 2) x2; have e17a := s_rng ((σ 2 2) + x2); obtain ⟨k19, e19⟩ := s_add ((σ 2 2) + x2) (1 : Int32); have e19a := s_rng (((σ 2 2) + x2) + 1); omega))
  have kp : Keep [(2, 2), (2, 4)] [13, 14, 15, 16] σ0 σ0 := keep_rf
  refine g_iconst hF (v := 0) d_X10_sixteens_0 (by decide) ?_
  refine g_istore_n hF [(1, .int 0), (0, .ref (r 2))] d_X10_sixteens_1 rfl hnn (by decide) rfl ?_
  refine g_iconst hF (v := 2) d_X10_sixteens_2 (by decide) ?_
  refine g_istore_n hF [(2, .int 2), (1, .int 0), (0, .ref (r 2))] d_X10_sixteens_3 rfl hnn (by decide) rfl ?_
  refine g_aload_n hF d_X10_sixteens_4 rfl 2 rfl ?_
  refine g_aload_n hF d_X10_sixteens_5 rfl 2 rfl ?_
  refine g_get (v := .int (σ0 2 2)) hF 2 obC_2 (by decide) m_44 rfl d_X10_sixteens_6 ?_
  refine g_iconst hF (v := 2) d_X10_sixteens_9 (by decide) ?_
  refine g_iadd hF d_X10_sixteens_10 ?_
  refine g_callV (As := [.int ((σ0 2 2) + 2)]) (rest := []) hF (c_X10_byteAt a g r σ0 ((σ0 2 2) + 2) i0) (Nat.le_of_ble_eq_true rfl) mV_X10_byteAt m_806 (recv_ob obC_2) rfl rfl (Nat.le_of_ble_eq_true rfl) d_X10_sixteens_11 (k_rop (fun r12 hp12 => ?_)) (fun _ _ _ h => h.elim)
  have hp12 : 0 ≤ r12.toInt → (0 ≤ ((σ0 2 2) + 2).toInt ∧ ((σ0 2 2) + 2).toInt < 16000) := hp12
  refine g_callS (As := [.int r12]) (rest := []) hF (c_X10_sixteenth a g r σ0 r12 i0) (Nat.le_of_ble_eq_true rfl) mS_X10_sixteenth m_854 rfl rfl (Nat.le_of_ble_eq_true rfl) d_X10_sixteens_14 (k_ro (fun r13 => ?_)) (fun _ _ _ h => h.elim)
  refine g_istore_n hF [(3, .int r13), (2, .int 2), (1, .int 0), (0, .ref (r 2))] d_X10_sixteens_17 rfl hnn (by decide) rfl ?_
  exact g_sub (L' := [(0, .ref (r 2)), (1, .int 0), (2, .int 2), (3, .int r13)]) [3, 2, 1, 0] rfl (b18 _ σ0 (0 : Int32) (2 : Int32) r13 rfl i0 kp (by show (σ0 2 2).toInt < 16000 ∧ 0 ≤ 2 ∧ 2 ≤ 16001; have e0 := s_rng r13; have e1 : (2 : Int32).toInt = 2 := (by decide); have e2 : (0 : Int32).toInt = 0 := (by decide); have e3 := s_rng (σ0 2 2); have e4 := i0.2.2.2.2.1; have e5 := s_rng r12; obtain ⟨k6, e6⟩ := s_add (σ0 2 2) (2 : Int32); have e6a := s_rng ((σ0 2 2) + 2); omega))
set_option maxHeartbeats 4000000 in
set_option maxRecDepth 100000 in
theorem c_X10_character (a : Nat → Nat) (g : Nat → Nat → Int32) (r : Nat → Nat) (σ0 : St) (hpre : (σ0 2 2).toInt < 16000) (i0 : Inv σ0) (l : Launch) (D : va_G) (cy : Nat → ClassId) : Ct l D cy SC r (EC a g) y_X10_character (Cond.code y_X10_character b_X10_character 3 (some .boolean)) 2 [.ref (r 2)] σ0 Z0 [] (QI (fun v9 σ9 => (v9 = 0 ∨ v9 = 1) ∧ (Inv σ9 ∧ Keep [(2, 2), (2, 4)] [13, 14, 15, 16] σ0 σ9))) QF := by
  refine Ct_of (EC_ok a g) (by decide) (Nat.le_of_ble_eq_true rfl) (by decide) (fun X hnn hF => ?_)
  show G SC r X σ0 Z0 [] [(0, .ref (r 2))] [] 0
  have kp : Keep [(2, 2), (2, 4)] [13, 14, 15, 16] σ0 σ0 := keep_rf
  refine g_aload_n hF d_X10_character_0 rfl 0 rfl ?_
  refine g_aload_n hF d_X10_character_1 rfl 0 rfl ?_
  refine g_get (v := .int (σ0 2 2)) hF 2 obC_2 (by decide) m_44 rfl d_X10_character_2 ?_
  refine g_iconst hF (v := 1) d_X10_character_5 (by decide) ?_
  refine g_iadd hF d_X10_character_6 ?_
  refine g_bipush hF (v := 39) d_X10_character_7 (by decide) ?_
  refine g_callV (As := [.int ((σ0 2 2) + 1), .int 39]) (rest := []) hF (c_X10_codeAt a g r σ0 ((σ0 2 2) + 1) (39 : Int32) i0) (Nat.le_of_ble_eq_true rfl) mV_X10_codeAt m_875 (recv_ob obC_2) rfl rfl (Nat.le_of_ble_eq_true rfl) d_X10_character_9 (k_ro (fun r1 => ?_)) (fun _ _ _ h => h.elim)
  refine g_istore_n hF [(1, .int r1), (0, .ref (r 2))] d_X10_character_12 rfl hnn (by decide) rfl ?_
  refine g_iconst hF (v := 1) d_X10_character_13 (by decide) ?_
  refine g_aload_n hF d_X10_character_14 rfl 1 rfl ?_
  refine g_aload_n hF d_X10_character_15 rfl 1 rfl ?_
  refine g_get (v := .int (σ0 2 2)) hF 2 obC_2 (by decide) m_44 rfl d_X10_character_16 ?_
  refine g_iconst hF (v := 1) d_X10_character_19 (by decide) ?_
  refine g_iadd hF d_X10_character_20 ?_
  refine g_callV (As := [.int ((σ0 2 2) + 1)]) (rest := [.int 1]) hF (c_X10_widthAt a g r σ0 ((σ0 2 2) + 1) i0) (Nat.le_of_ble_eq_true rfl) mV_X10_widthAt m_879 (recv_ob obC_2) rfl rfl (Nat.le_of_ble_eq_true rfl) d_X10_character_21 (k_rop (fun r2 hp2 => ?_)) (fun _ _ _ h => h.elim)
  have hp2 : 1 ≤ r2.toInt ∧ r2.toInt ≤ 2 := hp2
  refine g_iadd hF d_X10_character_24 ?_
  refine g_istore_n hF [(2, .int (1 + r2)), (1, .int r1), (0, .ref (r 2))] d_X10_character_25 rfl hnn (by decide) rfl ?_
  refine g_iload_n hF d_X10_character_26 rfl 1 rfl ?_
  refine g_if_lt hF 45 d_X10_character_27 (by decide) rfl (fun c3_27 => ?_) (fun c3_27 => ?_)
  · -- taken at 27
    refine g_aload_n hF d_X10_character_45 rfl 2 rfl ?_
    refine g_aload_n hF d_X10_character_46 rfl 2 rfl ?_
    refine g_get (v := .int (σ0 2 2)) hF 2 obC_2 (by decide) m_44 rfl d_X10_character_47 ?_
    refine g_callV (As := [.int (σ0 2 2)]) (rest := []) hF (c_X10_bad a g r σ0 (σ0 2 2) (by show 0 ≤ (σ0 2 2).toInt ∧ (σ0 2 2).toInt ≤ 40000; have e0 := s_rng (σ0 2 2); have e1 := i0.2.2.2.2.1; have e2 := s_rng r2; have e3 : (1 : Int32).toInt = 1 := (by decide); obtain ⟨k4, e4⟩ := s_add (σ0 2 2) (1 : Int32); have e4a := s_rng ((σ0 2 2) + 1); omega) i0) (Nat.le_of_ble_eq_true rfl) mV_X10_bad m_817 (recv_ob obC_2) rfl rfl (Nat.le_of_ble_eq_true rfl) d_X10_character_50 (k_i (fun r4 σ4 ⟨hz4, iσ4, ik4⟩ => ?_)) (fun _ _ _ h => h.elim)
    have kp : Keep [(2, 2), (2, 4)] [13, 14, 15, 16] σ0 σ4 := keep_c kp ik4 (by decide) (by decide)
    refine g_goto hF 65 d_X10_character_53 (by decide) ?_
    exact g_zret hF rfl (k_nz hz4) d_X10_character_65 ⟨rfl, rfl, r4, rfl, hz4, ⟨iσ4, kp⟩⟩
  · -- not taken at 27
    refine g_aload_n hF d_X10_character_30 rfl 2 rfl ?_
    refine g_aload_n hF d_X10_character_31 rfl 2 rfl ?_
    refine g_get (v := .int (σ0 2 2)) hF 2 obC_2 (by decide) m_44 rfl d_X10_character_32 ?_
    refine g_iload_n hF d_X10_character_35 rfl 0 rfl ?_
    refine g_iadd hF d_X10_character_36 ?_
    refine g_callV (As := [.int ((σ0 2 2) + (1 + r2))]) (rest := []) hF (c_X10_byteAt a g r σ0 ((σ0 2 2) + (1 + r2)) i0) (Nat.le_of_ble_eq_true rfl) mV_X10_byteAt m_806 (recv_ob obC_2) rfl rfl (Nat.le_of_ble_eq_true rfl) d_X10_character_37 (k_rop (fun r5 hp5 => ?_)) (fun _ _ _ h => h.elim)
    have hp5 : 0 ≤ r5.toInt → (0 ≤ ((σ0 2 2) + (1 + r2)).toInt ∧ ((σ0 2 2) + (1 + r2)).toInt < 16000) := hp5
    refine g_bipush hF (v := 39) d_X10_character_40 (by decide) ?_
    refine g_icmp_eq (yv := 39) hF 56 d_X10_character_42 (by decide) rfl (by decide) (fun c6_42 => ?_) (fun c6_42 => ?_)
    · -- taken at 42
      refine g_aload_n hF d_X10_character_56 rfl 2 rfl ?_
      refine g_iconst hF (v := 3) d_X10_character_57 (by decide) ?_
      refine g_iload_n hF d_X10_character_58 rfl 1 rfl ?_
      refine g_iload_n hF d_X10_character_59 rfl 0 rfl ?_
      refine g_iconst hF (v := 1) d_X10_character_60 (by decide) ?_
      refine g_iadd hF d_X10_character_61 ?_
      refine g_callV (As := [.int 3, .int r1, .int ((1 + r2) + 1)]) (rest := []) hF (c_X10_add a g r σ0 (3 : Int32) r1 ((1 + r2) + 1) (by show 0 ≤ (σ0 2 2).toInt + ((1 + r2) + 1).toInt ∧ (σ0 2 2).toInt + ((1 + r2) + 1).toInt ≤ 40000 ∧ (3 = 2 → 0 ≤ r1.toInt ∧ r1.toInt ≤ 16001); have e0 : (3 : Int32).toInt = 3 := (by decide); have e1 := s_rng r1; have e2 : (1 : Int32).toInt = 1 := (by decide); have e3 := s_rng r2; obtain ⟨k4, e4⟩ := s_add (1 : Int32) r2; have e4a := s_rng (1 + r2); obtain ⟨k6, e6⟩ := s_add (1 + r2) (1 : Int32); have e6a := s_rng ((1 + r2) + 1); have e8 := s_rng (σ0 2 2); have e9 := i0.2.2.2.2.1; obtain ⟨k10, e10⟩ := s_add (σ0 2 2) (1 : Int32); have e10a := s_rng ((σ0 2 2) + 1); have e12 : (0 : Int32).toInt = 0 := (by decide); have e13 := s_rng r5; obtain ⟨k14, e14⟩ := s_add (σ0 2 2) (1 + r2); have e14a := s_rng ((σ0 2 2) + (1 + r2)); have e16 : (39 : Int32).toInt = 39 := (by decide); omega) i0) (Nat.le_of_ble_eq_true rfl) mV_X10_add m_821 (recv_ob obC_2) rfl rfl (Nat.le_of_ble_eq_true rfl) d_X10_character_62 (k_i (fun r7 σ7 ⟨hz7, iσ7, ik7⟩ => ?_)) (fun _ _ _ h => h.elim)
      have kp : Keep [(2, 2), (2, 4)] [13, 14, 15, 16] σ0 σ7 := keep_c kp ik7 (by decide) (by decide)
      exact g_zret hF rfl (k_nz hz7) d_X10_character_65 ⟨rfl, rfl, r7, rfl, hz7, ⟨iσ7, kp⟩⟩
    · -- not taken at 42
      refine g_aload_n hF d_X10_character_45 rfl 2 rfl ?_
      refine g_aload_n hF d_X10_character_46 rfl 2 rfl ?_
      refine g_get (v := .int (σ0 2 2)) hF 2 obC_2 (by decide) m_44 rfl d_X10_character_47 ?_
      refine g_callV (As := [.int (σ0 2 2)]) (rest := []) hF (c_X10_bad a g r σ0 (σ0 2 2) (by show 0 ≤ (σ0 2 2).toInt ∧ (σ0 2 2).toInt ≤ 40000; have e0 := s_rng (σ0 2 2); have e1 := i0.2.2.2.2.1; have e2 := s_rng r2; have e3 : (1 : Int32).toInt = 1 := (by decide); obtain ⟨k4, e4⟩ := s_add (σ0 2 2) (1 : Int32); have e4a := s_rng ((σ0 2 2) + 1); have e6 := s_rng r5; obtain ⟨k7, e7⟩ := s_add (1 : Int32) r2; have e7a := s_rng (1 + r2); obtain ⟨k9, e9⟩ := s_add (σ0 2 2) (1 + r2); have e9a := s_rng ((σ0 2 2) + (1 + r2)); have e11 : (39 : Int32).toInt = 39 := (by decide); omega) i0) (Nat.le_of_ble_eq_true rfl) mV_X10_bad m_817 (recv_ob obC_2) rfl rfl (Nat.le_of_ble_eq_true rfl) d_X10_character_50 (k_i (fun r8 σ8 ⟨hz8, iσ8, ik8⟩ => ?_)) (fun _ _ _ h => h.elim)
      have kp : Keep [(2, 2), (2, 4)] [13, 14, 15, 16] σ0 σ8 := keep_c kp ik8 (by decide) (by decide)
      refine g_goto hF 65 d_X10_character_53 (by decide) ?_
      exact g_zret hF rfl (k_nz hz8) d_X10_character_65 ⟨rfl, rfl, r8, rfl, hz8, ⟨iσ8, kp⟩⟩
set_option maxHeartbeats 4000000 in
set_option maxRecDepth 100000 in
theorem c_X10_string (a : Nat → Nat) (g : Nat → Nat → Int32) (r : Nat → Nat) (σ0 : St) (hpre : (σ0 2 2).toInt < 16000) (i0 : Inv σ0) (l : Launch) (D : va_G) (cy : Nat → ClassId) : Ct l D cy SC r (EC a g) y_X10_string (Cond.code y_X10_string b_X10_string 3 (some .boolean)) 2 [.ref (r 2)] σ0 Z0 [] (QI (fun v9 σ9 => (v9 = 0 ∨ v9 = 1) ∧ (Inv σ9 ∧ Keep [(2, 2), (2, 4)] [13, 14, 15, 16] σ0 σ9))) QF := by
  refine Ct_of (EC_ok a g) (by decide) (Nat.le_of_ble_eq_true rfl) (by decide) (fun X hnn hF => ?_)
  show G SC r X σ0 Z0 [] [(0, .ref (r 2))] [] 0
  have b4 : ∀ (N : Nat) (σ : St) (x1 : Int32) (x2 : Int32) , upm x2 = N → Inv σ → Keep [(2, 2), (2, 4)] [13, 14, 15, 16] σ0 σ → ((σ 2 2).toInt < 16000 ∧ 1 ≤ x1.toInt ∧ x1.toInt ≤ 1 + 2 * x2.toInt ∧ 0 ≤ x2.toInt ∧ x2.toInt ≤ 201) → G SC r X σ Z0 [] [(0, .ref (r 2)), (1, .int x1), (2, .int x2)] [] 4 := by
    intro M4
    induction M4 using Nat.strongRecOn with
    | _ M4 ih4 =>
      intro σ x1 x2 N4 inv kp hj
      refine g_iload_n hF d_X10_string_4 rfl 2 rfl ?_
      refine g_sipush hF (v := 200) d_X10_string_5 (by decide) ?_
      refine g_icmp_gt (yv := 200) hF 69 d_X10_string_8 (by decide) rfl (by decide) (fun c1_8 => ?_) (fun c1_8 => ?_)
      · -- taken at 8
        refine g_iload_n hF d_X10_string_69 rfl 2 rfl ?_
        refine g_sipush hF (v := 200) d_X10_string_70 (by decide) ?_
        refine g_icmp_le (yv := 200) hF 87 d_X10_string_73 (by decide) rfl (by decide) (fun c2_73 => ?_) (fun c2_73 => ?_)
        · -- taken at 73
          refine g_aload_n hF d_X10_string_87 rfl 0 rfl ?_
          refine g_iconst hF (v := 4) d_X10_string_88 (by decide) ?_
          refine g_iload_n hF d_X10_string_89 rfl 2 rfl ?_
          refine g_iload_n hF d_X10_string_90 rfl 1 rfl ?_
          refine g_iconst hF (v := 1) d_X10_string_91 (by decide) ?_
          refine g_iadd hF d_X10_string_92 ?_
          refine g_callV (As := [.int 4, .int x2, .int (x1 + 1)]) (rest := []) hF (c_X10_add a g r σ (4 : Int32) x2 (x1 + 1) (by show 0 ≤ (σ 2 2).toInt + (x1 + 1).toInt ∧ (σ 2 2).toInt + (x1 + 1).toInt ≤ 40000 ∧ (4 = 2 → 0 ≤ x2.toInt ∧ x2.toInt ≤ 16001); have e0 : (4 : Int32).toInt = 4 := (by decide); have e1 := s_rng x2; have e2 := s_rng x1; have e3 : (1 : Int32).toInt = 1 := (by decide); obtain ⟨k4, e4⟩ := s_add x1 (1 : Int32); have e4a := s_rng (x1 + 1); have e6 := s_rng (σ 2 2); have e7 := inv.2.2.2.2.1; have e8 := s_rng (σ0 2 2); have e9 := i0.2.2.2.2.1; have e10 : (200 : Int32).toInt = 200 := (by decide); omega) inv) (Nat.le_of_ble_eq_true rfl) mV_X10_add m_821 (recv_ob obC_2) rfl rfl (Nat.le_of_ble_eq_true rfl) d_X10_string_93 (k_i (fun r3 σ3 ⟨hz3, iσ3, ik3⟩ => ?_)) (fun _ _ _ h => h.elim)
          have kp : Keep [(2, 2), (2, 4)] [13, 14, 15, 16] σ0 σ3 := keep_c kp ik3 (by decide) (by decide)
          exact g_zret hF rfl (k_nz hz3) d_X10_string_96 ⟨rfl, rfl, r3, rfl, hz3, ⟨iσ3, kp⟩⟩
        · -- not taken at 73
          refine g_aload_n hF d_X10_string_76 rfl 0 rfl ?_
          refine g_aload_n hF d_X10_string_77 rfl 0 rfl ?_
          refine g_get (v := .int (σ 2 2)) hF 2 obC_2 (by decide) m_44 rfl d_X10_string_78 ?_
          refine g_callV (As := [.int (σ 2 2)]) (rest := []) hF (c_X10_bad a g r σ (σ 2 2) (by show 0 ≤ (σ 2 2).toInt ∧ (σ 2 2).toInt ≤ 40000; have e0 := s_rng (σ 2 2); have e1 := inv.2.2.2.2.1; omega) inv) (Nat.le_of_ble_eq_true rfl) mV_X10_bad m_817 (recv_ob obC_2) rfl rfl (Nat.le_of_ble_eq_true rfl) d_X10_string_81 (k_i (fun r4 σ4 ⟨hz4, iσ4, ik4⟩ => ?_)) (fun _ _ _ h => h.elim)
          have kp : Keep [(2, 2), (2, 4)] [13, 14, 15, 16] σ0 σ4 := keep_c kp ik4 (by decide) (by decide)
          refine g_goto hF 96 d_X10_string_84 (by decide) ?_
          exact g_zret hF rfl (k_nz hz4) d_X10_string_96 ⟨rfl, rfl, r4, rfl, hz4, ⟨iσ4, kp⟩⟩
      · -- not taken at 8
        refine g_aload_n hF d_X10_string_11 rfl 0 rfl ?_
        refine g_aload_n hF d_X10_string_12 rfl 0 rfl ?_
        refine g_get (v := .int (σ 2 2)) hF 2 obC_2 (by decide) m_44 rfl d_X10_string_13 ?_
        refine g_iload_n hF d_X10_string_16 rfl 1 rfl ?_
        refine g_iadd hF d_X10_string_17 ?_
        refine g_callV (As := [.int ((σ 2 2) + x1)]) (rest := []) hF (c_X10_byteAt a g r σ ((σ 2 2) + x1) inv) (Nat.le_of_ble_eq_true rfl) mV_X10_byteAt m_806 (recv_ob obC_2) rfl rfl (Nat.le_of_ble_eq_true rfl) d_X10_string_18 (k_rop (fun r5 hp5 => ?_)) (fun _ _ _ h => h.elim)
        have hp5 : 0 ≤ r5.toInt → (0 ≤ ((σ 2 2) + x1).toInt ∧ ((σ 2 2) + x1).toInt < 16000) := hp5
        refine g_bipush hF (v := 34) d_X10_string_21 (by decide) ?_
        refine g_icmp_eq (yv := 34) hF 69 d_X10_string_23 (by decide) rfl (by decide) (fun c6_23 => ?_) (fun c6_23 => ?_)
        · -- taken at 23
          refine g_iload_n hF d_X10_string_69 rfl 2 rfl ?_
          refine g_sipush hF (v := 200) d_X10_string_70 (by decide) ?_
          refine g_icmp_le (yv := 200) hF 87 d_X10_string_73 (by decide) rfl (by decide) (fun c7_73 => ?_) (fun c7_73 => ?_)
          · -- taken at 73
            refine g_aload_n hF d_X10_string_87 rfl 0 rfl ?_
            refine g_iconst hF (v := 4) d_X10_string_88 (by decide) ?_
            refine g_iload_n hF d_X10_string_89 rfl 2 rfl ?_
            refine g_iload_n hF d_X10_string_90 rfl 1 rfl ?_
            refine g_iconst hF (v := 1) d_X10_string_91 (by decide) ?_
            refine g_iadd hF d_X10_string_92 ?_
            refine g_callV (As := [.int 4, .int x2, .int (x1 + 1)]) (rest := []) hF (c_X10_add a g r σ (4 : Int32) x2 (x1 + 1) (by show 0 ≤ (σ 2 2).toInt + (x1 + 1).toInt ∧ (σ 2 2).toInt + (x1 + 1).toInt ≤ 40000 ∧ (4 = 2 → 0 ≤ x2.toInt ∧ x2.toInt ≤ 16001); have e0 : (4 : Int32).toInt = 4 := (by decide); have e1 := s_rng x2; have e2 := s_rng x1; have e3 : (1 : Int32).toInt = 1 := (by decide); obtain ⟨k4, e4⟩ := s_add x1 (1 : Int32); have e4a := s_rng (x1 + 1); have e6 := s_rng (σ 2 2); have e7 := inv.2.2.2.2.1; have e8 := s_rng (σ0 2 2); have e9 := i0.2.2.2.2.1; have e10 : (200 : Int32).toInt = 200 := (by decide); have e11 := s_rng r5; obtain ⟨k12, e12⟩ := s_add (σ 2 2) x1; have e12a := s_rng ((σ 2 2) + x1); have e14 : (34 : Int32).toInt = 34 := (by decide); omega) inv) (Nat.le_of_ble_eq_true rfl) mV_X10_add m_821 (recv_ob obC_2) rfl rfl (Nat.le_of_ble_eq_true rfl) d_X10_string_93 (k_i (fun r8 σ8 ⟨hz8, iσ8, ik8⟩ => ?_)) (fun _ _ _ h => h.elim)
            have kp : Keep [(2, 2), (2, 4)] [13, 14, 15, 16] σ0 σ8 := keep_c kp ik8 (by decide) (by decide)
            exact g_zret hF rfl (k_nz hz8) d_X10_string_96 ⟨rfl, rfl, r8, rfl, hz8, ⟨iσ8, kp⟩⟩
          · -- not taken at 73
            refine g_aload_n hF d_X10_string_76 rfl 0 rfl ?_
            refine g_aload_n hF d_X10_string_77 rfl 0 rfl ?_
            refine g_get (v := .int (σ 2 2)) hF 2 obC_2 (by decide) m_44 rfl d_X10_string_78 ?_
            refine g_callV (As := [.int (σ 2 2)]) (rest := []) hF (c_X10_bad a g r σ (σ 2 2) (by show 0 ≤ (σ 2 2).toInt ∧ (σ 2 2).toInt ≤ 40000; have e0 := s_rng (σ 2 2); have e1 := inv.2.2.2.2.1; have e2 := s_rng r5; have e3 := s_rng x1; obtain ⟨k4, e4⟩ := s_add (σ 2 2) x1; have e4a := s_rng ((σ 2 2) + x1); have e6 : (34 : Int32).toInt = 34 := (by decide); omega) inv) (Nat.le_of_ble_eq_true rfl) mV_X10_bad m_817 (recv_ob obC_2) rfl rfl (Nat.le_of_ble_eq_true rfl) d_X10_string_81 (k_i (fun r9 σ9 ⟨hz9, iσ9, ik9⟩ => ?_)) (fun _ _ _ h => h.elim)
            have kp : Keep [(2, 2), (2, 4)] [13, 14, 15, 16] σ0 σ9 := keep_c kp ik9 (by decide) (by decide)
            refine g_goto hF 96 d_X10_string_84 (by decide) ?_
            exact g_zret hF rfl (k_nz hz9) d_X10_string_96 ⟨rfl, rfl, r9, rfl, hz9, ⟨iσ9, kp⟩⟩
        · -- not taken at 23
          refine g_aload_n hF d_X10_string_26 rfl 0 rfl ?_
          refine g_aload_n hF d_X10_string_27 rfl 0 rfl ?_
          refine g_get (v := .int (σ 2 2)) hF 2 obC_2 (by decide) m_44 rfl d_X10_string_28 ?_
          refine g_iload_n hF d_X10_string_31 rfl 1 rfl ?_
          refine g_iadd hF d_X10_string_32 ?_
          refine g_bipush hF (v := 34) d_X10_string_33 (by decide) ?_
          refine g_callV (As := [.int ((σ 2 2) + x1), .int 34]) (rest := []) hF (c_X10_codeAt a g r σ ((σ 2 2) + x1) (34 : Int32) inv) (Nat.le_of_ble_eq_true rfl) mV_X10_codeAt m_875 (recv_ob obC_2) rfl rfl (Nat.le_of_ble_eq_true rfl) d_X10_string_35 (k_ro (fun r10 => ?_)) (fun _ _ _ h => h.elim)
          refine g_if_ge hF 50 d_X10_string_38 (by decide) rfl (fun c11_38 => ?_) (fun c11_38 => ?_)
          · -- taken at 38
            refine g_iload_n hF d_X10_string_50 rfl 1 rfl ?_
            refine g_aload_n hF d_X10_string_51 rfl 0 rfl ?_
            refine g_aload_n hF d_X10_string_52 rfl 0 rfl ?_
            refine g_get (v := .int (σ 2 2)) hF 2 obC_2 (by decide) m_44 rfl d_X10_string_53 ?_
            refine g_iload_n hF d_X10_string_56 rfl 1 rfl ?_
            refine g_iadd hF d_X10_string_57 ?_
            refine g_callV (As := [.int ((σ 2 2) + x1)]) (rest := [.int x1]) hF (c_X10_widthAt a g r σ ((σ 2 2) + x1) inv) (Nat.le_of_ble_eq_true rfl) mV_X10_widthAt m_879 (recv_ob obC_2) rfl rfl (Nat.le_of_ble_eq_true rfl) d_X10_string_58 (k_rop (fun r12 hp12 => ?_)) (fun _ _ _ h => h.elim)
            have hp12 : 1 ≤ r12.toInt ∧ r12.toInt ≤ 2 := hp12
            refine g_iadd hF d_X10_string_61 ?_
            refine g_istore_n hF [(1, .int (x1 + r12)), (0, .ref (r 2)), (2, .int x2)] d_X10_string_62 rfl hnn (by decide) rfl ?_
            refine g_iinc hF (x2 + 1) [(2, .int (x2 + 1)), (1, .int (x1 + r12)), (0, .ref (r 2))] d_X10_string_63 2 rfl rfl hnn (by decide) rfl ?_
            refine g_goto hF 4 d_X10_string_66 (by decide) ?_
            exact g_sub (L' := [(0, .ref (r 2)), (1, .int (x1 + r12)), (2, .int (x2 + 1))]) [2, 1, 0] rfl (ih4 _ (by show upm (x2 + 1) < _; have hN := N4; unfold upm at hN ⊢; have e0 := s_rng x2; have e1 : (1 : Int32).toInt = 1 := (by decide); obtain ⟨k2, e2⟩ := s_add x2 (1 : Int32); have e2a := s_rng (x2 + 1); have e4 : (200 : Int32).toInt = 200 := (by decide); omega) σ (x1 + r12) (x2 + 1) rfl inv kp (by show (σ 2 2).toInt < 16000 ∧ 1 ≤ (x1 + r12).toInt ∧ (x1 + r12).toInt ≤ 1 + 2 * (x2 + 1).toInt ∧ 0 ≤ (x2 + 1).toInt ∧ (x2 + 1).toInt ≤ 201; have e0 := s_rng x2; have e1 : (1 : Int32).toInt = 1 := (by decide); obtain ⟨k2, e2⟩ := s_add x2 (1 : Int32); have e2a := s_rng (x2 + 1); have e4 := s_rng x1; have e5 := s_rng r12; obtain ⟨k6, e6⟩ := s_add x1 r12; have e6a := s_rng (x1 + r12); have e8 := s_rng (σ 2 2); have e9 := inv.2.2.2.2.1; have e10 := s_rng (σ0 2 2); have e11 := i0.2.2.2.2.1; have e12 : (200 : Int32).toInt = 200 := (by decide); have e13 := s_rng r5; obtain ⟨k14, e14⟩ := s_add (σ 2 2) x1; have e14a := s_rng ((σ 2 2) + x1); have e16 : (34 : Int32).toInt = 34 := (by decide); omega))
          · -- not taken at 38
            refine g_aload_n hF d_X10_string_41 rfl 0 rfl ?_
            refine g_aload_n hF d_X10_string_42 rfl 0 rfl ?_
            refine g_get (v := .int (σ 2 2)) hF 2 obC_2 (by decide) m_44 rfl d_X10_string_43 ?_
            refine g_callV (As := [.int (σ 2 2)]) (rest := []) hF (c_X10_bad a g r σ (σ 2 2) (by show 0 ≤ (σ 2 2).toInt ∧ (σ 2 2).toInt ≤ 40000; have e0 := s_rng (σ 2 2); have e1 := inv.2.2.2.2.1; have e2 := s_rng r5; have e3 := s_rng x1; obtain ⟨k4, e4⟩ := s_add (σ 2 2) x1; have e4a := s_rng ((σ 2 2) + x1); have e6 : (34 : Int32).toInt = 34 := (by decide); omega) inv) (Nat.le_of_ble_eq_true rfl) mV_X10_bad m_817 (recv_ob obC_2) rfl rfl (Nat.le_of_ble_eq_true rfl) d_X10_string_46 (k_i (fun r13 σ13 ⟨hz13, iσ13, ik13⟩ => ?_)) (fun _ _ _ h => h.elim)
            have kp : Keep [(2, 2), (2, 4)] [13, 14, 15, 16] σ0 σ13 := keep_c kp ik13 (by decide) (by decide)
            exact g_zret hF rfl (k_nz hz13) d_X10_string_49 ⟨rfl, rfl, r13, rfl, hz13, ⟨iσ13, kp⟩⟩
  have kp : Keep [(2, 2), (2, 4)] [13, 14, 15, 16] σ0 σ0 := keep_rf
  refine g_iconst hF (v := 1) d_X10_string_0 (by decide) ?_
  refine g_istore_n hF [(1, .int 1), (0, .ref (r 2))] d_X10_string_1 rfl hnn (by decide) rfl ?_
  refine g_iconst hF (v := 0) d_X10_string_2 (by decide) ?_
  refine g_istore_n hF [(2, .int 0), (1, .int 1), (0, .ref (r 2))] d_X10_string_3 rfl hnn (by decide) rfl ?_
  exact g_sub (L' := [(0, .ref (r 2)), (1, .int 1), (2, .int 0)]) [2, 1, 0] rfl (b4 _ σ0 (1 : Int32) (0 : Int32) rfl i0 kp (by show (σ0 2 2).toInt < 16000 ∧ 1 ≤ 1 ∧ 1 ≤ 1 + 2 * 0 ∧ 0 ≤ 0 ∧ 0 ≤ 201; have e0 : (0 : Int32).toInt = 0 := (by decide); have e1 : (1 : Int32).toInt = 1 := (by decide); have e2 := s_rng (σ0 2 2); have e3 := i0.2.2.2.2.1; omega))
set_option maxHeartbeats 4000000 in
set_option maxRecDepth 100000 in
theorem c_X3_expect (a : Nat → Nat) (g : Nat → Nat → Int32) (r : Nat → Nat) (σ0 : St) (a1 : Int32) (hgp : GPS σ0) (hpre : ¬ (a1.toInt = 0 ∨ a1.toInt = -1)) (i0 : Inv σ0) (l : Launch) (D : va_G) (cy : Nat → ClassId) : Ct l D cy SC r (EC a g) y_X3_expect (Cond.code y_X3_expect b_X3_expect 2 none) 1 [.ref (r 3), .int a1] σ0 Z0 [] (QV (fun σ9 => ((GPS σ9 ∧ Mo σ9 σ0) ∧ (((σ9 3 3).toInt < 0 → (σ0 3 2).toInt = a1.toInt) ∧ Inv σ9 ∧ Keep [(3, 1), (3, 2), (3, 3)] [] σ0 σ9)))) QF := by
  refine Ct_of (EC_ok a g) (by decide) (Nat.le_of_ble_eq_true rfl) (by decide) (fun X hnn hF => ?_)
  show G SC r X σ0 Z0 [] [(0, .ref (r 3)), (1, .int a1)] [] 0
  have kp : Keep [(3, 1), (3, 2), (3, 3)] [] σ0 σ0 := keep_rf
  refine g_aload_n hF d_X3_expect_0 rfl 0 rfl ?_
  refine g_get (v := .int (σ0 3 2)) hF 2 obC_3 (by decide) m_96 rfl d_X3_expect_1 ?_
  refine g_iload_n hF d_X3_expect_4 rfl 1 rfl ?_
  refine g_icmp_ne hF 15 d_X3_expect_5 (by decide) rfl rfl (fun c1_5 => ?_) (fun c1_5 => ?_)
  · -- taken at 5
    refine g_aload_n hF d_X3_expect_15 rfl 0 rfl ?_
    refine g_callV (As := []) (rest := []) hF (c_X3_fail a g r σ0 hgp i0) (Nat.le_of_ble_eq_true rfl) mV_X3_fail m_907 (recv_ob obC_3) rfl rfl (Nat.le_of_ble_eq_true rfl) d_X3_expect_16 (k_v (fun σ2 ⟨⟨hgp2, hgm2⟩, hs2, iσ2, ik2⟩ => ?_)) (fun _ _ _ h => h.elim)
    have hs2 : 0 ≤ (σ2 3 3).toInt := hs2
    have hmo2 : Mo σ2 σ0 := fun h9 => mo_e (show σ0 3 3 = σ0 3 3 from rfl) (hgm2 h9)
    have kp : Keep [(3, 1), (3, 2), (3, 3)] [] σ0 σ2 := keep_c kp ik2 (by decide) (by decide)
    exact g_vret hF rfl d_X3_expect_19 ⟨rfl, rfl, rfl, ⟨⟨hgp2, (fun h9 => (hmo2 (mo_e (show σ2 3 3 = σ2 3 3 from rfl) h9)))⟩, (by show (σ2 3 3).toInt < 0 → (σ0 3 2).toInt = a1.toInt; have e0 := s_rng (σ2 3 3); have e1 := s_rng (σ0 3 3); omega), iσ2, kp⟩⟩
  · -- not taken at 5
    refine g_aload_n hF d_X3_expect_8 rfl 0 rfl ?_
    refine g_callV (As := []) (rest := []) hF (c_X3_advance a g r σ0 hgp.2.2 (by show -1 ≤ (σ0 3 1).toInt ∧ (σ0 3 1).toInt ≤ 16001; have hki := hgp.2.1.1; have hgz := hgp.1; have e0 := s_rng (σ0 3 1); omega) i0) (Nat.le_of_ble_eq_true rfl) mV_X3_advance m_899 (recv_ob obC_3) rfl rfl (Nat.le_of_ble_eq_true rfl) d_X3_expect_9 (k_v (fun σ3 ⟨⟨hgp3, hgm3⟩, hs3, iσ3, ik3⟩ => ?_)) (fun _ _ _ h => h.elim)
    have hs3 : (σ3 3 1).toInt = (σ0 3 1).toInt + 1 := hs3
    have hmo3 : Mo σ3 σ0 := fun h9 => mo_e (show σ0 3 3 = σ0 3 3 from rfl) (hgm3 h9)
    have kp : Keep [(3, 1), (3, 2), (3, 3)] [] σ0 σ3 := keep_c kp ik3 (by decide) (by decide)
    refine g_goto hF 19 d_X3_expect_12 (by decide) ?_
    exact g_vret hF rfl d_X3_expect_19 ⟨rfl, rfl, rfl, ⟨⟨hgp3, (fun h9 => (mo_e (show σ3 3 3 = σ0 3 3 from (ik3 3 3 rfl rfl rfl)) h9))⟩, (by rw [show (σ3 3 3) = (σ0 3 3) from (ik3 3 3 rfl rfl rfl)]; show (σ0 3 3).toInt < 0 → (σ0 3 2).toInt = a1.toInt; have e0 := s_rng (σ0 3 3); omega), iσ3, kp⟩⟩
set_option maxHeartbeats 4000000 in
set_option maxRecDepth 100000 in
theorem c_X8_withParameter (a : Nat → Nat) (g : Nat → Nat → Int32) (r : Nat → Nat) (σ0 : St) (a0 : Int32) (a1 : Int32) (i0 : Inv σ0) (l : Launch) (D : va_G) (cy : Nat → ClassId) : Ct l D cy SC r (EC a g) y_X8_withParameter (Cond.code y_X8_withParameter b_X8_withParameter 2 (some .int)) 1 [.int a0, .int a1] σ0 Z0 [] (QI (fun _ σ9 => σ9 = σ0)) QF := by
  refine Ct_of (EC_ok a g) (by decide) (Nat.le_of_ble_eq_true rfl) (by decide) (fun X hnn hF => ?_)
  show G SC r X σ0 Z0 [] [(0, .int a0), (1, .int a1)] [] 0
  refine g_iload_n hF d_X8_withParameter_0 rfl 0 rfl ?_
  refine g_ldc (v := 16777216) hF m_219 d_X8_withParameter_1 ?_
  refine g_iadd hF d_X8_withParameter_3 ?_
  refine g_iload_n hF d_X8_withParameter_4 rfl 1 rfl ?_
  refine g_iconst hF (v := 3) d_X8_withParameter_5 (by decide) ?_
  refine g_iload_n hF d_X8_withParameter_6 rfl 0 rfl ?_
  refine g_callS (As := [.int a0]) (rest := [.int 3, .int a1, .int (a0 + 16777216)]) hF (c_X8_parameters a g r σ0 a0 i0) (Nat.le_of_ble_eq_true rfl) mS_X8_parameters m_997 rfl rfl (Nat.le_of_ble_eq_true rfl) d_X8_withParameter_7 (k_ro (fun r1 => ?_)) (fun _ _ _ h => h.elim)
  refine g_imul hF d_X8_withParameter_10 ?_
  refine g_any (fun v2 => ?_)
  refine g_ishl hF d_X8_withParameter_11 ?_
  refine g_any (fun v3 => ?_)
  refine g_ior hF d_X8_withParameter_12 ?_
  refine g_any (fun v4 => ?_)
  exact g_iret hF rfl d_X8_withParameter_13 ⟨rfl, rfl, v4, rfl, rfl⟩
set_option maxHeartbeats 4000000 in
set_option maxRecDepth 100000 in
theorem c_X11_begin (a : Nat → Nat) (g : Nat → Nat → Int32) (r : Nat → Nat) (σ0 : St) (a1 : Int32) (i0 : Inv σ0) (l : Launch) (D : va_G) (cy : Nat → ClassId) : Ct l D cy SC r (EC a g) y_X11_begin (Cond.code y_X11_begin b_X11_begin 2 none) 1 [.ref (r 6), .int a1] σ0 Z0 [] (QV (fun σ9 => (((σ9 6 17).toInt = 0 ∧ (σ9 6 10).toInt = 0) ∧ Inv σ9 ∧ Keep [(6, 2), (6, 3), (6, 4), (6, 5), (6, 6), (6, 7), (6, 10), (6, 15), (6, 17)] [] σ0 σ9))) QF := by
  refine Ct_of (EC_ok a g) (by decide) (Nat.le_of_ble_eq_true rfl) (by decide) (fun X hnn hF => ?_)
  show G SC r X σ0 Z0 [] [(0, .ref (r 6)), (1, .int a1)] [] 0
  have kp : Keep [(6, 2), (6, 3), (6, 4), (6, 5), (6, 6), (6, 7), (6, 10), (6, 15), (6, 17)] [] σ0 σ0 := keep_rf
  refine g_aload_n hF d_X11_begin_0 rfl 0 rfl ?_
  refine g_iload_n hF d_X11_begin_1 rfl 1 rfl ?_
  refine g_put (v := a1) hF 2 obC_6 (by decide) m_311 rfl rfl rfl d_X11_begin_2 ?_
  have kp : Keep [(6, 2), (6, 3), (6, 4), (6, 5), (6, 6), (6, 7), (6, 10), (6, 15), (6, 17)] [] σ0 (upC σ0 6 2 a1) := keep_f kp (by decide)
  refine g_aload_n hF d_X11_begin_5 rfl 0 rfl ?_
  refine g_iconst hF (v := 0) d_X11_begin_6 (by decide) ?_
  refine g_put (v := 0) hF 3 obC_6 (by decide) m_314 rfl rfl rfl d_X11_begin_7 ?_
  have kp : Keep [(6, 2), (6, 3), (6, 4), (6, 5), (6, 6), (6, 7), (6, 10), (6, 15), (6, 17)] [] σ0 (upC (upC σ0 6 2 a1) 6 3 0) := keep_f kp (by decide)
  refine g_aload_n hF d_X11_begin_10 rfl 0 rfl ?_
  refine g_iconst hF (v := (-1)) d_X11_begin_11 (by decide) ?_
  refine g_put (v := (-1)) hF 4 obC_6 (by decide) m_318 rfl rfl rfl d_X11_begin_12 ?_
  have kp : Keep [(6, 2), (6, 3), (6, 4), (6, 5), (6, 6), (6, 7), (6, 10), (6, 15), (6, 17)] [] σ0 (upC (upC (upC σ0 6 2 a1) 6 3 0) 6 4 (-1)) := keep_f kp (by decide)
  refine g_aload_n hF d_X11_begin_15 rfl 0 rfl ?_
  refine g_iconst hF (v := 0) d_X11_begin_16 (by decide) ?_
  refine g_put (v := 0) hF 5 obC_6 (by decide) m_320 rfl rfl rfl d_X11_begin_17 ?_
  have kp : Keep [(6, 2), (6, 3), (6, 4), (6, 5), (6, 6), (6, 7), (6, 10), (6, 15), (6, 17)] [] σ0 (upC (upC (upC (upC σ0 6 2 a1) 6 3 0) 6 4 (-1)) 6 5 0) := keep_f kp (by decide)
  refine g_aload_n hF d_X11_begin_20 rfl 0 rfl ?_
  refine g_iconst hF (v := 0) d_X11_begin_21 (by decide) ?_
  refine g_put (v := 0) hF 7 obC_6 (by decide) m_327 rfl rfl rfl d_X11_begin_22 ?_
  have kp : Keep [(6, 2), (6, 3), (6, 4), (6, 5), (6, 6), (6, 7), (6, 10), (6, 15), (6, 17)] [] σ0 (upC (upC (upC (upC (upC σ0 6 2 a1) 6 3 0) 6 4 (-1)) 6 5 0) 6 7 0) := keep_f kp (by decide)
  refine g_aload_n hF d_X11_begin_25 rfl 0 rfl ?_
  have j2 : Inv (upC (upC (upC (upC (upC σ0 6 2 a1) 6 3 0) 6 4 (-1)) 6 5 0) 6 7 0) := ⟨i0.1, i0.2.1, i0.2.2.1, i0.2.2.2.1, i0.2.2.2.2.1, i0.2.2.2.2.2.1, i0.2.2.2.2.2.2.1, i0.2.2.2.2.2.2.2.1, i0.2.2.2.2.2.2.2.2.1, i0.2.2.2.2.2.2.2.2.2.1, i0.2.2.2.2.2.2.2.2.2.2.1, i0.2.2.2.2.2.2.2.2.2.2.2.1, i0.2.2.2.2.2.2.2.2.2.2.2.2.1, i0.2.2.2.2.2.2.2.2.2.2.2.2.2.1, i0.2.2.2.2.2.2.2.2.2.2.2.2.2.2.1, i0.2.2.2.2.2.2.2.2.2.2.2.2.2.2.2.1, i0.2.2.2.2.2.2.2.2.2.2.2.2.2.2.2.2.1, i0.2.2.2.2.2.2.2.2.2.2.2.2.2.2.2.2.2.1, i0.2.2.2.2.2.2.2.2.2.2.2.2.2.2.2.2.2.2.1, i0.2.2.2.2.2.2.2.2.2.2.2.2.2.2.2.2.2.2.2⟩
  refine g_callV (As := []) (rest := []) hF (c_X11_leave a g r (upC (upC (upC (upC (upC σ0 6 2 a1) 6 3 0) 6 4 (-1)) 6 5 0) 6 7 0) j2) (Nat.le_of_ble_eq_true rfl) mV_X11_leave m_1045 (recv_ob obC_6) rfl rfl (Nat.le_of_ble_eq_true rfl) d_X11_begin_26 (k_v (fun σ1 ⟨hs1, iσ1, ik1⟩ => ?_)) (fun _ _ _ h => h.elim)
  have hs1 : (σ1 6 17).toInt = 0 ∧ (σ1 6 10).toInt = 0 := hs1
  have kp : Keep [(6, 2), (6, 3), (6, 4), (6, 5), (6, 6), (6, 7), (6, 10), (6, 15), (6, 17)] [] σ0 σ1 := keep_c kp ik1 (by decide) (by decide)
  exact g_vret hF rfl d_X11_begin_29 ⟨rfl, rfl, rfl, ⟨(by show (σ1 6 17).toInt = 0 ∧ (σ1 6 10).toInt = 0; have e0 := s_rng (σ1 6 17); have e1 := s_rng (σ0 6 17); have e2 := s_rng (σ1 6 10); have e3 := iσ1.2.2.2.2.2.1; have e4 := s_rng (σ0 6 10); have e5 := i0.2.2.2.2.2.1; omega), iσ1, kp⟩⟩
set_option maxHeartbeats 4000000 in
set_option maxRecDepth 100000 in
theorem c_X2_push (a : Nat → Nat) (g : Nat → Nat → Int32) (r : Nat → Nat) (σ0 : St) (i0 : Inv σ0) (l : Launch) (D : va_G) (cy : Nat → ClassId) : Ct l D cy SC r (EC a g) y_X2_push (Cond.code y_X2_push b_X2_push 2 (some (.object "LinkedUnits$Operand"))) 1 [.ref (r 7)] σ0 Z0 [] (QA r (fun q9 σ9 => isOp q9 ∧ (Inv σ9 ∧ Keep [(7, 7)] [] σ0 σ9))) QF := by
  refine Ct_of (EC_ok a g) (by decide) (Nat.le_of_ble_eq_true rfl) (by decide) (fun X hnn hF => ?_)
  show G SC r X σ0 Z0 [] [(0, .ref (r 7))] [] 0
  have kp : Keep [(7, 7)] [] σ0 σ0 := keep_rf
  refine g_aload_n hF d_X2_push_0 rfl 0 rfl ?_
  refine g_get (v := .int (σ0 7 7)) hF 7 obC_7 (by decide) m_464 rfl d_X2_push_1 ?_
  refine g_if_lt hF 31 d_X2_push_4 (by decide) rfl (fun c1_4 => ?_) (fun c1_4 => ?_)
  · -- taken at 4
    refine g_aload_n hF d_X2_push_31 rfl 0 rfl ?_
    refine g_get (v := .ref (r 47)) hF 6 obC_7 (by decide) m_463 rfl d_X2_push_32 ?_
    refine g_astore_n hF [(1, .ref (r 47)), (0, .ref (r 7))] d_X2_push_35 rfl hnn (by decide) rfl ?_
    refine g_aload_n hF d_X2_push_36 rfl 0 rfl ?_
    refine g_aload_n hF d_X2_push_37 rfl 1 rfl ?_
    refine g_get (v := .ref (r 4)) hF 4 obC_7 (by decide) m_461 rfl d_X2_push_38 ?_
    refine g_getN (v := .int (σ0 4 1)) hF 1 obC_4 (by decide) nm_155 rfl d_X2_push_41 ?_
    refine g_callVN (As := [.int (σ0 4 1)]) (rest := []) hF (c_X6_reset a g r σ0 (σ0 4 1) 47 (Or.inl rfl) i0) (Nat.le_of_ble_eq_true rfl) mV_X6_reset nm_1067 (recv_ob obC_47) rfl rfl (Nat.le_of_ble_eq_true rfl) d_X2_push_44 (k_v (fun σ2 ⟨iσ2, ik2⟩ => ?_))
    have kp : Keep [(7, 7)] [] σ0 σ2 := keep_c kp ik2 (by decide) (by decide)
    refine g_aload_n hF d_X2_push_47 rfl 1 rfl ?_
    refine g_dup hF d_X2_push_48 rfl ?_
    refine g_get (v := .int (σ2 7 7)) hF 7 obC_7 (by decide) m_464 rfl d_X2_push_49 ?_
    refine g_top (v := (σ0 7 7)) (ik2 7 7 rfl rfl rfl) ?_
    refine g_iconst hF (v := 1) d_X2_push_52 (by decide) ?_
    refine g_iadd hF d_X2_push_53 ?_
    refine g_put (v := ((σ0 7 7) + 1)) hF 7 obC_7 (by decide) m_464 rfl rfl rfl d_X2_push_54 ?_
    have kp : Keep [(7, 7)] [] σ0 (upC σ2 7 7 ((σ0 7 7) + 1)) := keep_f kp (by decide)
    refine g_aload_n hF d_X2_push_57 rfl 0 rfl ?_
    have j3 : Inv (upC σ2 7 7 ((σ0 7 7) + 1)) := ⟨iσ2.1, iσ2.2.1, iσ2.2.2.1, iσ2.2.2.2.1, iσ2.2.2.2.2.1, iσ2.2.2.2.2.2.1, iσ2.2.2.2.2.2.2.1, iσ2.2.2.2.2.2.2.2.1, iσ2.2.2.2.2.2.2.2.2.1, iσ2.2.2.2.2.2.2.2.2.2.1, iσ2.2.2.2.2.2.2.2.2.2.2.1, iσ2.2.2.2.2.2.2.2.2.2.2.2.1, iσ2.2.2.2.2.2.2.2.2.2.2.2.2.1, iσ2.2.2.2.2.2.2.2.2.2.2.2.2.2.1, iσ2.2.2.2.2.2.2.2.2.2.2.2.2.2.2.1, iσ2.2.2.2.2.2.2.2.2.2.2.2.2.2.2.2.1, iσ2.2.2.2.2.2.2.2.2.2.2.2.2.2.2.2.2.1, iσ2.2.2.2.2.2.2.2.2.2.2.2.2.2.2.2.2.2.1, iσ2.2.2.2.2.2.2.2.2.2.2.2.2.2.2.2.2.2.2.1, iσ2.2.2.2.2.2.2.2.2.2.2.2.2.2.2.2.2.2.2.2⟩
    exact g_aret hF rfl d_X2_push_58 ⟨rfl, rfl, 47, rfl, (Or.inl rfl), ⟨j3, kp⟩⟩
  · -- not taken at 4
    refine g_aload_n hF d_X2_push_7 rfl 0 rfl ?_
    refine g_get (v := .int (σ0 7 7)) hF 7 obC_7 (by decide) m_464 rfl d_X2_push_8 ?_
    refine g_aload_n hF d_X2_push_11 rfl 0 rfl ?_
    refine g_get (v := .ref (r 46)) hF 5 obC_7 (by decide) m_462 rfl d_X2_push_12 ?_
    refine g_alenR hF (by decide) rfl (v := 500) (by decide) d_X2_push_15 ?_
    refine g_icmp_ge (yv := 500) hF 31 d_X2_push_16 (by decide) rfl (by decide) (fun c4_16 => ?_) (fun c4_16 => ?_)
    · -- taken at 16
      refine g_aload_n hF d_X2_push_31 rfl 0 rfl ?_
      refine g_get (v := .ref (r 47)) hF 6 obC_7 (by decide) m_463 rfl d_X2_push_32 ?_
      refine g_astore_n hF [(1, .ref (r 47)), (0, .ref (r 7))] d_X2_push_35 rfl hnn (by decide) rfl ?_
      refine g_aload_n hF d_X2_push_36 rfl 0 rfl ?_
      refine g_aload_n hF d_X2_push_37 rfl 1 rfl ?_
      refine g_get (v := .ref (r 4)) hF 4 obC_7 (by decide) m_461 rfl d_X2_push_38 ?_
      refine g_getN (v := .int (σ0 4 1)) hF 1 obC_4 (by decide) nm_155 rfl d_X2_push_41 ?_
      refine g_callVN (As := [.int (σ0 4 1)]) (rest := []) hF (c_X6_reset a g r σ0 (σ0 4 1) 47 (Or.inl rfl) i0) (Nat.le_of_ble_eq_true rfl) mV_X6_reset nm_1067 (recv_ob obC_47) rfl rfl (Nat.le_of_ble_eq_true rfl) d_X2_push_44 (k_v (fun σ5 ⟨iσ5, ik5⟩ => ?_))
      have kp : Keep [(7, 7)] [] σ0 σ5 := keep_c kp ik5 (by decide) (by decide)
      refine g_aload_n hF d_X2_push_47 rfl 1 rfl ?_
      refine g_dup hF d_X2_push_48 rfl ?_
      refine g_get (v := .int (σ5 7 7)) hF 7 obC_7 (by decide) m_464 rfl d_X2_push_49 ?_
      refine g_top (v := (σ0 7 7)) (ik5 7 7 rfl rfl rfl) ?_
      refine g_iconst hF (v := 1) d_X2_push_52 (by decide) ?_
      refine g_iadd hF d_X2_push_53 ?_
      refine g_put (v := ((σ0 7 7) + 1)) hF 7 obC_7 (by decide) m_464 rfl rfl rfl d_X2_push_54 ?_
      have kp : Keep [(7, 7)] [] σ0 (upC σ5 7 7 ((σ0 7 7) + 1)) := keep_f kp (by decide)
      refine g_aload_n hF d_X2_push_57 rfl 0 rfl ?_
      have j6 : Inv (upC σ5 7 7 ((σ0 7 7) + 1)) := ⟨iσ5.1, iσ5.2.1, iσ5.2.2.1, iσ5.2.2.2.1, iσ5.2.2.2.2.1, iσ5.2.2.2.2.2.1, iσ5.2.2.2.2.2.2.1, iσ5.2.2.2.2.2.2.2.1, iσ5.2.2.2.2.2.2.2.2.1, iσ5.2.2.2.2.2.2.2.2.2.1, iσ5.2.2.2.2.2.2.2.2.2.2.1, iσ5.2.2.2.2.2.2.2.2.2.2.2.1, iσ5.2.2.2.2.2.2.2.2.2.2.2.2.1, iσ5.2.2.2.2.2.2.2.2.2.2.2.2.2.1, iσ5.2.2.2.2.2.2.2.2.2.2.2.2.2.2.1, iσ5.2.2.2.2.2.2.2.2.2.2.2.2.2.2.2.1, iσ5.2.2.2.2.2.2.2.2.2.2.2.2.2.2.2.2.1, iσ5.2.2.2.2.2.2.2.2.2.2.2.2.2.2.2.2.2.1, iσ5.2.2.2.2.2.2.2.2.2.2.2.2.2.2.2.2.2.2.1, iσ5.2.2.2.2.2.2.2.2.2.2.2.2.2.2.2.2.2.2.2⟩
      exact g_aret hF rfl d_X2_push_58 ⟨rfl, rfl, 47, rfl, (Or.inl rfl), ⟨j6, kp⟩⟩
    · -- not taken at 16
      refine g_aload_n hF d_X2_push_19 rfl 0 rfl ?_
      refine g_get (v := .ref (r 46)) hF 5 obC_7 (by decide) m_462 rfl d_X2_push_20 ?_
      refine g_aload_n hF d_X2_push_23 rfl 0 rfl ?_
      refine g_get (v := .int (σ0 7 7)) hF 7 obC_7 (by decide) m_464 rfl d_X2_push_24 ?_
      refine g_aald hF (by decide) rfl (by refine s_in (by decide) ?_ ?_ <;> (have e0 := s_rng (σ0 7 7); have e1 : (0 : Int32).toInt = 0 := (by decide); have e2 : (500 : Int32).toInt = 500 := (by decide); omega)) d_X2_push_27 ?_
      obtain ⟨q7, eq7⟩ : ∃ q, q = 65 + ((σ0 7 7)).toNatClampNeg := ⟨_, rfl⟩
      rw [← eq7]
      have hq7 : isOp q7 := isOp_pv eq7 (by refine s_in (by decide) ?_ ?_ <;> (have e0 := s_rng (σ0 7 7); have e1 : (0 : Int32).toInt = 0 := (by decide); have e2 : (500 : Int32).toInt = 500 := (by decide); omega))
      refine g_goto hF 35 d_X2_push_28 (by decide) ?_
      refine g_astore_n hF [(1, .ref (r q7)), (0, .ref (r 7))] d_X2_push_35 rfl hnn (by decide) rfl ?_
      refine g_aload_n hF d_X2_push_36 rfl 0 rfl ?_
      refine g_aload_n hF d_X2_push_37 rfl 1 rfl ?_
      refine g_get (v := .ref (r 4)) hF 4 obC_7 (by decide) m_461 rfl d_X2_push_38 ?_
      refine g_getN (v := .int (σ0 4 1)) hF 1 obC_4 (by decide) nm_155 rfl d_X2_push_41 ?_
      refine g_callVN (As := [.int (σ0 4 1)]) (rest := []) hF (c_X6_reset a g r σ0 (σ0 4 1) q7 hq7 i0) (Nat.le_of_ble_eq_true rfl) mV_X6_reset nm_1067 (recv_ob (obC_op hq7)) rfl rfl (Nat.le_of_ble_eq_true rfl) d_X2_push_44 (k_v (fun σ8 ⟨iσ8, ik8⟩ => ?_))
      have kp : Keep [(7, 7)] [] σ0 σ8 := keep_c kp ik8 (by decide) (by decide)
      refine g_aload_n hF d_X2_push_47 rfl 1 rfl ?_
      refine g_dup hF d_X2_push_48 rfl ?_
      refine g_get (v := .int (σ8 7 7)) hF 7 obC_7 (by decide) m_464 rfl d_X2_push_49 ?_
      refine g_top (v := (σ0 7 7)) (ik8 7 7 rfl rfl rfl) ?_
      refine g_iconst hF (v := 1) d_X2_push_52 (by decide) ?_
      refine g_iadd hF d_X2_push_53 ?_
      refine g_put (v := ((σ0 7 7) + 1)) hF 7 obC_7 (by decide) m_464 rfl rfl rfl d_X2_push_54 ?_
      have kp : Keep [(7, 7)] [] σ0 (upC σ8 7 7 ((σ0 7 7) + 1)) := keep_f kp (by decide)
      refine g_aload_n hF d_X2_push_57 rfl 0 rfl ?_
      have j9 : Inv (upC σ8 7 7 ((σ0 7 7) + 1)) := ⟨iσ8.1, iσ8.2.1, iσ8.2.2.1, iσ8.2.2.2.1, iσ8.2.2.2.2.1, iσ8.2.2.2.2.2.1, iσ8.2.2.2.2.2.2.1, iσ8.2.2.2.2.2.2.2.1, iσ8.2.2.2.2.2.2.2.2.1, iσ8.2.2.2.2.2.2.2.2.2.1, iσ8.2.2.2.2.2.2.2.2.2.2.1, iσ8.2.2.2.2.2.2.2.2.2.2.2.1, iσ8.2.2.2.2.2.2.2.2.2.2.2.2.1, iσ8.2.2.2.2.2.2.2.2.2.2.2.2.2.1, iσ8.2.2.2.2.2.2.2.2.2.2.2.2.2.2.1, iσ8.2.2.2.2.2.2.2.2.2.2.2.2.2.2.2.1, iσ8.2.2.2.2.2.2.2.2.2.2.2.2.2.2.2.2.1, iσ8.2.2.2.2.2.2.2.2.2.2.2.2.2.2.2.2.2.1, iσ8.2.2.2.2.2.2.2.2.2.2.2.2.2.2.2.2.2.2.1, iσ8.2.2.2.2.2.2.2.2.2.2.2.2.2.2.2.2.2.2.2⟩
      exact g_aret hF rfl d_X2_push_58 ⟨rfl, rfl, q7, rfl, hq7, ⟨j9, kp⟩⟩
set_option maxHeartbeats 4000000 in
set_option maxRecDepth 100000 in
theorem c_X11_localFrom (a : Nat → Nat) (g : Nat → Nat → Int32) (r : Nat → Nat) (σ0 : St) (a1 : Int32) (a2 : Int32) (hpre : 0 ≤ a1.toInt) (i0 : Inv σ0) (l : Launch) (D : va_G) (cy : Nat → ClassId) : Ct l D cy SC r (EC a g) y_X11_localFrom (Cond.code y_X11_localFrom b_X11_localFrom 5 (some .int)) 2 [.ref (r 6), .int a1, .int a2] σ0 Z0 [] (QI (fun _ σ9 => σ9 = σ0)) QF := by
  refine Ct_of (EC_ok a g) (by decide) (Nat.le_of_ble_eq_true rfl) (by decide) (fun X hnn hF => ?_)
  show G SC r X σ0 Z0 [] [(0, .ref (r 6)), (1, .int a1), (2, .int a2)] [] 0
  have b7 : ∀ (N : Nat) (x1 : Int32) (x2 : Int32) (x3 : Int32) , dnm x3 = N → (0 ≤ x1.toInt) → G SC r X σ0 Z0 [] [(0, .ref (r 6)), (1, .int x1), (2, .int x2), (3, .int x3)] [] 7 := by
    intro M7
    induction M7 using Nat.strongRecOn with
    | _ M7 ih7 =>
      intro x1 x2 x3 N7 hj
      refine g_iload_n hF d_X11_localFrom_7 rfl 3 rfl ?_
      refine g_iload_n hF d_X11_localFrom_8 rfl 1 rfl ?_
      refine g_icmp_lt hF 51 d_X11_localFrom_9 (by decide) rfl rfl (fun c1_9 => ?_) (fun c1_9 => ?_)
      · -- taken at 9
        refine g_iconst hF (v := (-1)) d_X11_localFrom_51 (by decide) ?_
        exact g_iret hF rfl d_X11_localFrom_52 ⟨rfl, rfl, ((-1) : Int32), rfl, rfl⟩
      · -- not taken at 9
        refine g_aload_n hF d_X11_localFrom_12 rfl 0 rfl ?_
        refine g_get (v := .ref (r 44)) hF 16 obC_6 (by decide) m_343 rfl d_X11_localFrom_13 ?_
        refine g_iload_n hF d_X11_localFrom_16 rfl 3 rfl ?_
        refine g_callSN (As := [.ref (r 44), .int x3]) (rest := []) hF (c_at a g r σ0 arC_44 (by decide) x3) (Nat.le_of_ble_eq_true rfl) mS_X12_at nm_1112 rfl rfl (Nat.le_of_ble_eq_true rfl) d_X11_localFrom_17 (k_rop (fun r2 hr2 => ?_))
        refine g_istore hF [(4, .int r2), (0, .ref (r 6)), (1, .int x1), (2, .int x2), (3, .int x3)] d_X11_localFrom_20 hnn (by decide) rfl ?_
        refine g_aload_n hF d_X11_localFrom_22 rfl 1 rfl ?_
        refine g_get (v := .ref (r 2)) hF 0 obC_6 (by decide) m_305 rfl d_X11_localFrom_23 ?_
        refine g_aload_n hF d_X11_localFrom_26 rfl 1 rfl ?_
        refine g_get (v := .ref (r 40)) hF 11 obC_6 (by decide) m_333 rfl d_X11_localFrom_27 ?_
        refine g_iload hF d_X11_localFrom_30 0 rfl ?_
        refine g_callSN (As := [.ref (r 40), .int r2]) (rest := [.ref (r 2)]) hF (c_at a g r σ0 arC_40 (by decide) r2) (Nat.le_of_ble_eq_true rfl) mS_X12_at nm_1112 rfl rfl (Nat.le_of_ble_eq_true rfl) d_X11_localFrom_32 (k_rop (fun r3 hr3 => ?_))
        refine g_iload_n hF d_X11_localFrom_35 rfl 3 rfl ?_
        refine g_callVN (As := [.int r3, .int x2]) (rest := []) hF (c_X10_sameName a g r σ0 r3 x2 i0) (Nat.le_of_ble_eq_true rfl) mV_X10_sameName nm_1113 (recv_ob obC_2) rfl rfl (Nat.le_of_ble_eq_true rfl) d_X11_localFrom_36 (k_roz (fun r4 hz4 => ?_))
        refine g_if_eq hF 45 d_X11_localFrom_39 (by decide) rfl (fun c5_39 => ?_) (fun c5_39 => ?_)
        · -- taken at 39
          refine g_iinc hF (x3 + (-1)) [(3, .int (x3 + (-1))), (4, .int r2), (0, .ref (r 6)), (1, .int x1), (2, .int x2)] d_X11_localFrom_45 4 rfl rfl hnn (by decide) rfl ?_
          refine g_goto hF 7 d_X11_localFrom_48 (by decide) ?_
          exact g_sub (L' := [(0, .ref (r 6)), (1, .int x1), (2, .int x2), (3, .int (x3 + (-1)))]) [2, 3, 4, 0] rfl (ih7 _ (N7 ▸ dnm_le c1_9 (by have e0 := s_rng x1; have e1 := s_rng x3; omega)) x1 x2 (x3 + (-1)) rfl (by show 0 ≤ x1.toInt; have e0 := s_rng x3; have e1 : ((-1) : Int32).toInt = -1 := (by decide); obtain ⟨k2, e2⟩ := s_add x3 ((-1) : Int32); have e2a := s_rng (x3 + (-1)); have e4 := s_rng r2; have e5 := s_rng x1; have e6 := s_rng x2; omega))
        · -- not taken at 39
          refine g_iload hF d_X11_localFrom_42 0 rfl ?_
          exact g_iret hF rfl d_X11_localFrom_44 ⟨rfl, rfl, r2, rfl, rfl⟩
  refine g_aload_n hF d_X11_localFrom_0 rfl 0 rfl ?_
  refine g_get (v := .int (σ0 6 15)) hF 15 obC_6 (by decide) m_342 rfl d_X11_localFrom_1 ?_
  refine g_iconst hF (v := 1) d_X11_localFrom_4 (by decide) ?_
  refine g_isub hF d_X11_localFrom_5 ?_
  refine g_istore_n hF [(3, .int ((σ0 6 15) - 1)), (0, .ref (r 6)), (1, .int a1), (2, .int a2)] d_X11_localFrom_6 rfl hnn (by decide) rfl ?_
  exact g_sub (L' := [(0, .ref (r 6)), (1, .int a1), (2, .int a2), (3, .int ((σ0 6 15) - 1))]) [1, 2, 3, 0] rfl (b7 _ a1 a2 ((σ0 6 15) - 1) rfl (by show 0 ≤ a1.toInt; have e0 := s_rng (σ0 6 15); have e1 := i0.2.2.2.2.2.2.1; have e2 := i0.2.2.2.2.2.2.2.2.2.2.2.2.2.2.2.2.2.2.1.1; have e3 : (1 : Int32).toInt = 1 := (by decide); obtain ⟨k4, e4⟩ := s_sub (σ0 6 15) (1 : Int32); have e4a := s_rng ((σ0 6 15) - 1); have e6 := s_rng a1; have e7 := s_rng a2; omega))
set_option maxHeartbeats 4000000 in
set_option maxRecDepth 100000 in
theorem c_X2_callee (a : Nat → Nat) (g : Nat → Nat → Int32) (r : Nat → Nat) (σ0 : St) (a1 : Int32) (i0 : Inv σ0) (l : Launch) (D : va_G) (cy : Nat → ClassId) : Ct l D cy SC r (EC a g) y_X2_callee (Cond.code y_X2_callee b_X2_callee 4 none) 3 [.ref (r 7), .int a1] σ0 Z0 [] (QV (fun σ9 => (Inv σ9 ∧ Keep [(6, 3), (6, 4), (7, 7)] [25, 39] σ0 σ9))) QF := by
  refine Ct_of (EC_ok a g) (by decide) (Nat.le_of_ble_eq_true rfl) (by decide) (fun X hnn hF => ?_)
  show G SC r X σ0 Z0 [] [(0, .ref (r 7)), (1, .int a1)] [] 0
  have kp : Keep [(6, 3), (6, 4), (7, 7)] [25, 39] σ0 σ0 := keep_rf
  refine g_aload_n hF d_X2_callee_0 rfl 0 rfl ?_
  refine g_get (v := .ref (r 6)) hF 2 obC_7 (by decide) m_458 rfl d_X2_callee_1 ?_
  refine g_iconst hF (v := 0) d_X2_callee_4 (by decide) ?_
  refine g_iload_n hF d_X2_callee_5 rfl 1 rfl ?_
  refine g_callVN (As := [.int 0, .int a1]) (rest := []) hF (c_X11_localFrom a g r σ0 (0 : Int32) a1 (by show 0 ≤ 0; have e0 : (0 : Int32).toInt = 0 := (by decide); have e1 := s_rng a1; omega) i0) (Nat.le_of_ble_eq_true rfl) mV_X11_localFrom nm_1108 (recv_ob obC_6) rfl rfl (Nat.le_of_ble_eq_true rfl) d_X2_callee_6 (k_ro (fun r1 => ?_))
  refine g_if_ge hF 23 d_X2_callee_9 (by decide) rfl (fun c2_9 => ?_) (fun c2_9 => ?_)
  · -- taken at 9
    refine g_iconst hF (v := (-1)) d_X2_callee_23 (by decide) ?_
    refine g_istore_n hF [(2, .int (-1)), (0, .ref (r 7)), (1, .int a1)] d_X2_callee_24 rfl hnn (by decide) rfl ?_
    refine g_iload_n hF d_X2_callee_25 rfl 0 rfl ?_
    refine g_if_lt (xv := -1) hF 41 d_X2_callee_26 (by decide) (by decide) (fun _ => ?_) (fun c_26 => absurd c_26 (by decide))
    refine g_aload_n hF d_X2_callee_41 rfl 1 rfl ?_
    refine g_iload_n hF d_X2_callee_42 rfl 2 rfl ?_
    refine g_callV (As := [.int a1]) (rest := []) hF (c_X2_refuse a g r σ0 a1 i0) (Nat.le_of_ble_eq_true rfl) mV_X2_refuse m_1126 (recv_ob obC_7) rfl rfl (Nat.le_of_ble_eq_true rfl) d_X2_callee_43 (k_v (fun σ3 ⟨iσ3, ik3⟩ => ?_)) (fun _ _ _ h => h.elim)
    have kp : Keep [(6, 3), (6, 4), (7, 7)] [25, 39] σ0 σ3 := keep_c kp ik3 (by decide) (by decide)
    exact g_vret hF rfl d_X2_callee_46 ⟨rfl, rfl, rfl, ⟨iσ3, kp⟩⟩
  · -- not taken at 9
    refine g_aload_n hF d_X2_callee_12 rfl 0 rfl ?_
    refine g_get (v := .ref (r 6)) hF 2 obC_7 (by decide) m_458 rfl d_X2_callee_13 ?_
    refine g_iload_n hF d_X2_callee_16 rfl 1 rfl ?_
    refine g_callVN (As := [.int a1]) (rest := []) hF (c_X11_outerOf a g r σ0 a1 i0) (Nat.le_of_ble_eq_true rfl) mV_X11_outerOf nm_1117 (recv_ob obC_6) rfl rfl (Nat.le_of_ble_eq_true rfl) d_X2_callee_17 (k_ro (fun r4 => ?_))
    refine g_goto hF 24 d_X2_callee_20 (by decide) ?_
    refine g_istore_n hF [(2, .int r4), (0, .ref (r 7)), (1, .int a1)] d_X2_callee_24 rfl hnn (by decide) rfl ?_
    refine g_iload_n hF d_X2_callee_25 rfl 0 rfl ?_
    refine g_if_lt hF 41 d_X2_callee_26 (by decide) rfl (fun c5_26 => ?_) (fun c5_26 => ?_)
    · -- taken at 26
      refine g_aload_n hF d_X2_callee_41 rfl 1 rfl ?_
      refine g_iload_n hF d_X2_callee_42 rfl 2 rfl ?_
      refine g_callV (As := [.int a1]) (rest := []) hF (c_X2_refuse a g r σ0 a1 i0) (Nat.le_of_ble_eq_true rfl) mV_X2_refuse m_1126 (recv_ob obC_7) rfl rfl (Nat.le_of_ble_eq_true rfl) d_X2_callee_43 (k_v (fun σ6 ⟨iσ6, ik6⟩ => ?_)) (fun _ _ _ h => h.elim)
      have kp : Keep [(6, 3), (6, 4), (7, 7)] [25, 39] σ0 σ6 := keep_c kp ik6 (by decide) (by decide)
      exact g_vret hF rfl d_X2_callee_46 ⟨rfl, rfl, rfl, ⟨iσ6, kp⟩⟩
    · -- not taken at 26
      refine g_aload_n hF d_X2_callee_29 rfl 1 rfl ?_
      refine g_get (v := .ref (r 5)) hF 3 obC_7 (by decide) m_459 rfl d_X2_callee_30 ?_
      refine g_iload_n hF d_X2_callee_33 rfl 0 rfl ?_
      refine g_iconst hF (v := 1) d_X2_callee_34 (by decide) ?_
      refine g_callVN (As := [.int r4, .int 1]) (rest := []) hF (c_X8_is a g r σ0 r4 (1 : Int32) i0) (Nat.le_of_ble_eq_true rfl) mV_X8_is nm_1121 (recv_ob obC_5) rfl rfl (Nat.le_of_ble_eq_true rfl) d_X2_callee_35 (k_roz (fun r7 hz7 => ?_))
      refine g_if_ne hF 47 d_X2_callee_38 (by decide) rfl (fun c8_38 => ?_) (fun c8_38 => ?_)
      · -- taken at 38
        refine g_aload_n hF d_X2_callee_47 rfl 1 rfl ?_
        refine g_get (v := .ref (r 6)) hF 2 obC_7 (by decide) m_458 rfl d_X2_callee_48 ?_
        refine g_iload_n hF d_X2_callee_51 rfl 0 rfl ?_
        refine g_iload_n hF d_X2_callee_52 rfl 2 rfl ?_
        refine g_callVN (As := [.int r4, .int a1]) (rest := []) hF (c_X11_mentionCall a g r σ0 r4 a1 i0) (Nat.le_of_ble_eq_true rfl) mV_X11_mentionCall nm_1146 (recv_ob obC_6) rfl rfl (Nat.le_of_ble_eq_true rfl) d_X2_callee_53 (k_v (fun σ9 ⟨iσ9, ik9⟩ => ?_))
        have kp : Keep [(6, 3), (6, 4), (7, 7)] [25, 39] σ0 σ9 := keep_c kp ik9 (by decide) (by decide)
        refine g_aload_n hF d_X2_callee_56 rfl 1 rfl ?_
        refine g_callV (As := []) (rest := []) hF (c_X2_push a g r σ9 iσ9) (Nat.le_of_ble_eq_true rfl) mV_X2_push m_1063 (recv_ob obC_7) rfl rfl (Nat.le_of_ble_eq_true rfl) d_X2_callee_57 (k_a (fun q10 σ10 ⟨hq10, iσ10, ik10⟩ => ?_)) (fun _ _ _ h => h.elim)
        have kp : Keep [(6, 3), (6, 4), (7, 7)] [25, 39] σ0 σ10 := keep_c kp ik10 (by decide) (by decide)
        refine g_astore_n hF [(3, .ref (r q10)), (2, .int r4), (0, .ref (r 7)), (1, .int a1)] d_X2_callee_60 rfl hnn (by decide) rfl ?_
        refine g_aload_n hF d_X2_callee_61 rfl 0 rfl ?_
        refine g_iconst hF (v := 4) d_X2_callee_62 (by decide) ?_
        refine g_putN hF 0 (obC_op hq10) (by decide) nm_399 rfl rfl (rf_op hq10) d_X2_callee_63 ?_
        obtain ⟨σ11, eσ11⟩ : ∃ z, z = upC σ10 q10 0 (4 : Int32) := ⟨_, rfl⟩
        rw [← eσ11]
        have ik11 : Keep [] [] σ10 σ11 := by rw [eσ11]; exact keep_op hq10
        have kp : Keep [(6, 3), (6, 4), (7, 7)] [25, 39] σ0 σ11 := keep_c kp ik11 (by decide) (by decide)
        have iσ11 : Inv σ11 := inv_keep ik11 iσ10
        refine g_aload_n hF d_X2_callee_66 rfl 0 rfl ?_
        refine g_iload_n hF d_X2_callee_67 rfl 1 rfl ?_
        refine g_putN hF 4 (obC_op hq10) (by decide) nm_408 rfl rfl (rf_op hq10) d_X2_callee_68 ?_
        obtain ⟨σ12, eσ12⟩ : ∃ z, z = upC σ11 q10 4 r4 := ⟨_, rfl⟩
        rw [← eσ12]
        have ik12 : Keep [] [] σ11 σ12 := by rw [eσ12]; exact keep_op hq10
        have kp : Keep [(6, 3), (6, 4), (7, 7)] [25, 39] σ0 σ12 := keep_c kp ik12 (by decide) (by decide)
        have iσ12 : Inv σ12 := inv_keep ik12 iσ11
        refine g_aload_n hF d_X2_callee_71 rfl 0 rfl ?_
        refine g_aload_n hF d_X2_callee_72 rfl 2 rfl ?_
        refine g_get (v := .ref (r 5)) hF 3 obC_7 (by decide) m_459 rfl d_X2_callee_73 ?_
        refine g_getN (v := .ref (r 26)) hF 3 obC_5 (by decide) nm_229 rfl d_X2_callee_76 ?_
        refine g_iload_n hF d_X2_callee_79 rfl 1 rfl ?_
        refine g_callSN (As := [.ref (r 26), .int r4]) (rest := [.ref (r q10)]) hF (c_at a g r σ12 arC_26 (by decide) r4) (Nat.le_of_ble_eq_true rfl) mS_X12_at nm_1058 rfl rfl (Nat.le_of_ble_eq_true rfl) d_X2_callee_80 (k_rop (fun r13 hr13 => ?_))
        refine g_putN hF 1 (obC_op hq10) (by decide) nm_402 rfl rfl (rf_op hq10) d_X2_callee_83 ?_
        obtain ⟨σ14, eσ14⟩ : ∃ z, z = upC σ12 q10 1 r13 := ⟨_, rfl⟩
        rw [← eσ14]
        have ik14 : Keep [] [] σ12 σ14 := by rw [eσ14]; exact keep_op hq10
        have kp : Keep [(6, 3), (6, 4), (7, 7)] [25, 39] σ0 σ14 := keep_c kp ik14 (by decide) (by decide)
        have iσ14 : Inv σ14 := inv_keep ik14 iσ12
        refine g_aload_n hF d_X2_callee_86 rfl 0 rfl ?_
        refine g_iconst hF (v := 0) d_X2_callee_87 (by decide) ?_
        refine g_putN hF 2 (obC_op hq10) (by decide) nm_404 rfl rfl (rf_op hq10) d_X2_callee_88 ?_
        obtain ⟨σ15, eσ15⟩ : ∃ z, z = upC σ14 q10 2 (0 : Int32) := ⟨_, rfl⟩
        rw [← eσ15]
        have ik15 : Keep [] [] σ14 σ15 := by rw [eσ15]; exact keep_op hq10
        have kp : Keep [(6, 3), (6, 4), (7, 7)] [25, 39] σ0 σ15 := keep_c kp ik15 (by decide) (by decide)
        have iσ15 : Inv σ15 := inv_keep ik15 iσ14
        exact g_vret hF rfl d_X2_callee_91 ⟨rfl, rfl, rfl, ⟨iσ15, kp⟩⟩
      · -- not taken at 38
        refine g_aload_n hF d_X2_callee_41 rfl 1 rfl ?_
        refine g_iload_n hF d_X2_callee_42 rfl 2 rfl ?_
        refine g_callV (As := [.int a1]) (rest := []) hF (c_X2_refuse a g r σ0 a1 i0) (Nat.le_of_ble_eq_true rfl) mV_X2_refuse m_1126 (recv_ob obC_7) rfl rfl (Nat.le_of_ble_eq_true rfl) d_X2_callee_43 (k_v (fun σ16 ⟨iσ16, ik16⟩ => ?_)) (fun _ _ _ h => h.elim)
        have kp : Keep [(6, 3), (6, 4), (7, 7)] [25, 39] σ0 σ16 := keep_c kp ik16 (by decide) (by decide)
        exact g_vret hF rfl d_X2_callee_46 ⟨rfl, rfl, rfl, ⟨iσ16, kp⟩⟩
set_option maxHeartbeats 4000000 in
set_option maxRecDepth 100000 in
theorem c_X2_loaded (a : Nat → Nat) (g : Nat → Nat → Int32) (r : Nat → Nat) (σ0 : St) (qa1 : Nat) (hqa1 : isOp qa1) (i0 : Inv σ0) (l : Launch) (D : va_G) (cy : Nat → ClassId) : Ct l D cy SC r (EC a g) y_X2_loaded (Cond.code y_X2_loaded b_X2_loaded 2 (some (.object "LinkedUnits$Operand"))) 1 [.ref (r 7), .ref (r qa1)] σ0 Z0 [] (QA r (fun q9 σ9 => isOp q9 ∧ (Inv σ9 ∧ Keep [(4, 1)] [24] σ0 σ9))) QF := by
  refine Ct_of (EC_ok a g) (by decide) (Nat.le_of_ble_eq_true rfl) (by decide) (fun X hnn hF => ?_)
  show G SC r X σ0 Z0 [] [(0, .ref (r 7)), (1, .ref (r qa1))] [] 0
  have kp : Keep [(4, 1)] [24] σ0 σ0 := keep_rf
  refine g_aload_n hF d_X2_loaded_0 rfl 1 rfl ?_
  refine g_callVN (As := []) (rest := []) hF (c_X6_isPlace a g r σ0 qa1 hqa1 i0) (Nat.le_of_ble_eq_true rfl) mV_X6_isPlace nm_1168 (recv_ob (obC_op hqa1)) rfl rfl (Nat.le_of_ble_eq_true rfl) d_X2_loaded_1 (k_roz (fun r1 hz1 => ?_))
  refine g_if_eq hF 67 d_X2_loaded_4 (by decide) rfl (fun c2_4 => ?_) (fun c2_4 => ?_)
  · -- taken at 4
    refine g_aload_n hF d_X2_loaded_67 rfl 1 rfl ?_
    exact g_aret hF rfl d_X2_loaded_68 ⟨rfl, rfl, qa1, rfl, hqa1, ⟨i0, kp⟩⟩
  · -- not taken at 4
    refine g_aload_n hF d_X2_loaded_7 rfl 1 rfl ?_
    refine g_getN hF 0 (obC_op hqa1) (by decide) nm_399 (fval_op hqa1) d_X2_loaded_8 ?_
    refine g_any (fun v3 => ?_)
    refine g_iconst hF (v := 3) d_X2_loaded_11 (by decide) ?_
    refine g_icmp_ne (yv := 3) hF 34 d_X2_loaded_12 (by decide) rfl (by decide) (fun c4_12 => ?_) (fun c4_12 => ?_)
    · -- taken at 12
      refine g_aload_n hF d_X2_loaded_34 rfl 0 rfl ?_
      refine g_get (v := .ref (r 4)) hF 4 obC_7 (by decide) m_461 rfl d_X2_loaded_35 ?_
      refine g_aload_n hF d_X2_loaded_38 rfl 1 rfl ?_
      refine g_getN hF 0 (obC_op hqa1) (by decide) nm_399 (fval_op hqa1) d_X2_loaded_39 ?_
      refine g_any (fun v5 => ?_)
      refine g_iconst hF (v := 1) d_X2_loaded_42 (by decide) ?_
      refine g_icmp_ne (yv := 1) hF 51 d_X2_loaded_43 (by decide) rfl (by decide) (fun c6_43 => ?_) (fun c6_43 => ?_)
      · -- taken at 43
        refine g_iconst hF (v := 5) d_X2_loaded_51 (by decide) ?_
        refine g_aload_n hF d_X2_loaded_52 rfl 1 rfl ?_
        refine g_getN hF 4 (obC_op hqa1) (by decide) nm_408 (fval_op hqa1) d_X2_loaded_53 ?_
        refine g_any (fun v7 => ?_)
        refine g_iconst hF (v := 0) d_X2_loaded_56 (by decide) ?_
        refine g_iconst hF (v := 0) d_X2_loaded_57 (by decide) ?_
        refine g_callVN (As := [.int 5, .int v7, .int 0, .int 0]) (rest := []) hF (c_X0_emit a g r σ0 (5 : Int32) v7 (0 : Int32) (0 : Int32) i0) (Nat.le_of_ble_eq_true rfl) mV_X0_emit nm_1071 (recv_ob obC_4) rfl rfl (Nat.le_of_ble_eq_true rfl) d_X2_loaded_58 (k_i (fun r8 σ8 ⟨iσ8, ik8⟩ => ?_))
        have kp : Keep [(4, 1)] [24] σ0 σ8 := keep_c kp ik8 (by decide) (by decide)
        refine g_pop hF d_X2_loaded_61 rfl ?_
        refine g_aload_n hF d_X2_loaded_62 rfl 1 rfl ?_
        refine g_iconst hF (v := 0) d_X2_loaded_63 (by decide) ?_
        refine g_putN hF 0 (obC_op hqa1) (by decide) nm_399 rfl rfl (rf_op hqa1) d_X2_loaded_64 ?_
        obtain ⟨σ9, eσ9⟩ : ∃ z, z = upC σ8 qa1 0 (0 : Int32) := ⟨_, rfl⟩
        rw [← eσ9]
        have ik9 : Keep [] [] σ8 σ9 := by rw [eσ9]; exact keep_op hqa1
        have kp : Keep [(4, 1)] [24] σ0 σ9 := keep_c kp ik9 (by decide) (by decide)
        have iσ9 : Inv σ9 := inv_keep ik9 iσ8
        refine g_aload_n hF d_X2_loaded_67 rfl 1 rfl ?_
        exact g_aret hF rfl d_X2_loaded_68 ⟨rfl, rfl, qa1, rfl, hqa1, ⟨iσ9, kp⟩⟩
      · -- not taken at 43
        refine g_bipush hF (v := 8) d_X2_loaded_46 (by decide) ?_
        refine g_goto hF 52 d_X2_loaded_48 (by decide) ?_
        refine g_aload_n hF d_X2_loaded_52 rfl 1 rfl ?_
        refine g_getN hF 4 (obC_op hqa1) (by decide) nm_408 (fval_op hqa1) d_X2_loaded_53 ?_
        refine g_any (fun v10 => ?_)
        refine g_iconst hF (v := 0) d_X2_loaded_56 (by decide) ?_
        refine g_iconst hF (v := 0) d_X2_loaded_57 (by decide) ?_
        refine g_callVN (As := [.int 8, .int v10, .int 0, .int 0]) (rest := []) hF (c_X0_emit a g r σ0 (8 : Int32) v10 (0 : Int32) (0 : Int32) i0) (Nat.le_of_ble_eq_true rfl) mV_X0_emit nm_1071 (recv_ob obC_4) rfl rfl (Nat.le_of_ble_eq_true rfl) d_X2_loaded_58 (k_i (fun r11 σ11 ⟨iσ11, ik11⟩ => ?_))
        have kp : Keep [(4, 1)] [24] σ0 σ11 := keep_c kp ik11 (by decide) (by decide)
        refine g_pop hF d_X2_loaded_61 rfl ?_
        refine g_aload_n hF d_X2_loaded_62 rfl 1 rfl ?_
        refine g_iconst hF (v := 0) d_X2_loaded_63 (by decide) ?_
        refine g_putN hF 0 (obC_op hqa1) (by decide) nm_399 rfl rfl (rf_op hqa1) d_X2_loaded_64 ?_
        obtain ⟨σ12, eσ12⟩ : ∃ z, z = upC σ11 qa1 0 (0 : Int32) := ⟨_, rfl⟩
        rw [← eσ12]
        have ik12 : Keep [] [] σ11 σ12 := by rw [eσ12]; exact keep_op hqa1
        have kp : Keep [(4, 1)] [24] σ0 σ12 := keep_c kp ik12 (by decide) (by decide)
        have iσ12 : Inv σ12 := inv_keep ik12 iσ11
        refine g_aload_n hF d_X2_loaded_67 rfl 1 rfl ?_
        exact g_aret hF rfl d_X2_loaded_68 ⟨rfl, rfl, qa1, rfl, hqa1, ⟨iσ12, kp⟩⟩
    · -- not taken at 12
      refine g_aload_n hF d_X2_loaded_15 rfl 0 rfl ?_
      refine g_get (v := .ref (r 4)) hF 4 obC_7 (by decide) m_461 rfl d_X2_loaded_16 ?_
      refine g_bipush hF (v := 18) d_X2_loaded_19 (by decide) ?_
      refine g_aload_n hF d_X2_loaded_21 rfl 1 rfl ?_
      refine g_getN hF 5 (obC_op hqa1) (by decide) nm_410 (fval_op hqa1) d_X2_loaded_22 ?_
      refine g_any (fun v13 => ?_)
      refine g_iconst hF (v := 0) d_X2_loaded_25 (by decide) ?_
      refine g_iconst hF (v := 0) d_X2_loaded_26 (by decide) ?_
      refine g_callVN (As := [.int 18, .int v13, .int 0, .int 0]) (rest := []) hF (c_X0_emit a g r σ0 (18 : Int32) v13 (0 : Int32) (0 : Int32) i0) (Nat.le_of_ble_eq_true rfl) mV_X0_emit nm_1071 (recv_ob obC_4) rfl rfl (Nat.le_of_ble_eq_true rfl) d_X2_loaded_27 (k_i (fun r14 σ14 ⟨iσ14, ik14⟩ => ?_))
      have kp : Keep [(4, 1)] [24] σ0 σ14 := keep_c kp ik14 (by decide) (by decide)
      refine g_pop hF d_X2_loaded_30 rfl ?_
      refine g_goto hF 62 d_X2_loaded_31 (by decide) ?_
      refine g_aload_n hF d_X2_loaded_62 rfl 1 rfl ?_
      refine g_iconst hF (v := 0) d_X2_loaded_63 (by decide) ?_
      refine g_putN hF 0 (obC_op hqa1) (by decide) nm_399 rfl rfl (rf_op hqa1) d_X2_loaded_64 ?_
      obtain ⟨σ15, eσ15⟩ : ∃ z, z = upC σ14 qa1 0 (0 : Int32) := ⟨_, rfl⟩
      rw [← eσ15]
      have ik15 : Keep [] [] σ14 σ15 := by rw [eσ15]; exact keep_op hqa1
      have kp : Keep [(4, 1)] [24] σ0 σ15 := keep_c kp ik15 (by decide) (by decide)
      have iσ15 : Inv σ15 := inv_keep ik15 iσ14
      refine g_aload_n hF d_X2_loaded_67 rfl 1 rfl ?_
      exact g_aret hF rfl d_X2_loaded_68 ⟨rfl, rfl, qa1, rfl, hqa1, ⟨iσ15, kp⟩⟩
