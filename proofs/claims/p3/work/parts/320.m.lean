set_option maxHeartbeats 4000000 in
set_option maxRecDepth 100000 in
theorem c_X7_take (a : Nat → Nat) (g : Nat → Nat → Int32) (r : Nat → Nat) (σ0 : St) (a1 : Int32) (a2 : Int32) (hpre : -100000 ≤ (σ0 6 17).toInt ∧ (σ0 6 17).toInt ≤ 100000) (i0 : Inv σ0) (l : Launch) (D : va_G) (cy : Nat → ClassId) : Ct l D cy SC r (EC a g) y_X7_take (Cond.code y_X7_take b_X7_take 5 none) 5 [.ref (r 9), .int a1, .int a2] σ0 Z0 [] (QV (fun σ9 => (((σ9 6 17).toInt ≤ (σ0 6 17).toInt + 1 ∧ (σ0 6 17).toInt - 1 ≤ (σ9 6 17).toInt) ∧ Inv σ9 ∧ Keep [(4, 1), (6, 3), (6, 4), (6, 15), (6, 17), (7, 7), (9, 5)] [24, 45, 49, 50, 51, 52, 53, 54] σ0 σ9))) QF := by
  refine Ct_of (EC_ok a g) (by decide) (Nat.le_of_ble_eq_true rfl) (by decide) (fun X hnn hF => ?_)
  show G SC r X σ0 Z0 [] [(0, .ref (r 9)), (1, .int a1), (2, .int a2)] [] 0
  have kp : Keep [(4, 1), (6, 3), (6, 4), (6, 15), (6, 17), (7, 7), (9, 5)] [24, 45, 49, 50, 51, 52, 53, 54] σ0 σ0 := keep_rf
  refine g_aload_n hF d_X7_take_0 rfl 0 rfl ?_
  refine g_get (v := .ref (r 3)) hF 0 obC_9 (by decide) m_553 rfl d_X7_take_1 ?_
  refine g_getN (v := .ref (r 19)) hF 6 obC_3 (by decide) nm_107 rfl d_X7_take_4 ?_
  refine g_iload_n hF d_X7_take_7 rfl 2 rfl ?_
  refine g_callSN (As := [.ref (r 19), .int a2]) (rest := []) hF (c_at a g r σ0 arC_19 (by decide) a2) (Nat.le_of_ble_eq_true rfl) mS_X12_at nm_1053 rfl rfl (Nat.le_of_ble_eq_true rfl) d_X7_take_8 (k_rop (fun r1 hr1 => ?_))
  have hs1 := hr1
  refine g_istore_n hF [(3, .int r1), (0, .ref (r 9)), (1, .int a1), (2, .int a2)] d_X7_take_11 rfl hnn (by decide) rfl ?_
  refine g_aload_n hF d_X7_take_12 rfl 1 rfl ?_
  refine g_get (v := .ref (r 3)) hF 0 obC_9 (by decide) m_553 rfl d_X7_take_13 ?_
  refine g_getN (v := .ref (r 20)) hF 7 obC_3 (by decide) nm_109 rfl d_X7_take_16 ?_
  refine g_iload_n hF d_X7_take_19 rfl 3 rfl ?_
  refine g_callSN (As := [.ref (r 20), .int a2]) (rest := []) hF (c_at a g r σ0 arC_20 (by decide) a2) (Nat.le_of_ble_eq_true rfl) mS_X12_at nm_1053 rfl rfl (Nat.le_of_ble_eq_true rfl) d_X7_take_20 (k_rop (fun r2 hr2 => ?_))
  refine g_if_eq hF 30 d_X7_take_23 (by decide) rfl (fun c3_23 => ?_) (fun c3_23 => ?_)
  · -- taken at 23
    refine g_iconst hF (v := 0) d_X7_take_30 (by decide) ?_
    refine g_istore hF [(4, .int 0), (3, .int r1), (0, .ref (r 9)), (1, .int a1), (2, .int a2)] d_X7_take_31 hnn (by decide) rfl ?_
    refine g_iload_n hF d_X7_take_33 rfl 3 rfl ?_
    refine (Decidable.em (a1.toInt = 20)).elim (fun q4_34_0 => ?_) (fun q4_34_0 => ?_)
    · refine g_tableIn (off := 90) hF 124 d_X7_take_34 q4_34_0 (by decide) (by decide) (by decide +kernel) (by decide) ?_
      refine g_aload_n hF d_X7_take_124 rfl 2 rfl ?_
      refine g_get (v := .ref (r 6)) hF 1 obC_9 (by decide) m_554 rfl d_X7_take_125 ?_
      refine g_callVN (As := []) (rest := []) hF (c_X11_open a g r σ0 (by show -100000 ≤ (σ0 6 17).toInt ∧ (σ0 6 17).toInt ≤ 100000; have e0 := s_rng (σ0 6 17); omega) i0) (Nat.le_of_ble_eq_true rfl) mV_X11_open nm_1289 (recv_ob obC_6) rfl rfl (Nat.le_of_ble_eq_true rfl) d_X7_take_128 (k_v (fun σ5 ⟨hs5, iσ5, ik5⟩ => ?_))
      have hs5 : (σ5 6 17).toInt = (σ0 6 17).toInt + 1 := hs5
      have kp : Keep [(4, 1), (6, 3), (6, 4), (6, 15), (6, 17), (7, 7), (9, 5)] [24, 45, 49, 50, 51, 52, 53, 54] σ0 σ5 := keep_c kp ik5 (by decide) (by decide)
      refine g_goto hF 237 d_X7_take_131 (by decide) ?_
      exact g_vret hF rfl d_X7_take_237 ⟨rfl, rfl, rfl, ⟨(by show (σ5 6 17).toInt ≤ (σ0 6 17).toInt + 1 ∧ (σ0 6 17).toInt - 1 ≤ (σ5 6 17).toInt; have e0 := s_rng (σ5 6 17); have e1 := s_rng (σ0 6 17); omega), iσ5, kp⟩⟩
    refine (Decidable.em (a1.toInt = 21)).elim (fun q6_34_1 => ?_) (fun q6_34_1 => ?_)
    · refine g_tableIn (off := 100) hF 134 d_X7_take_34 q6_34_1 (by decide) (by decide) (by decide +kernel) (by decide) ?_
      refine g_aload_n hF d_X7_take_134 rfl 2 rfl ?_
      refine g_get (v := .ref (r 6)) hF 1 obC_9 (by decide) m_554 rfl d_X7_take_135 ?_
      refine g_callVN (As := []) (rest := []) hF (c_X11_close a g r σ0 (by show -100000 ≤ (σ0 6 17).toInt ∧ (σ0 6 17).toInt ≤ 100000; have e0 := s_rng (σ0 6 17); omega) i0) (Nat.le_of_ble_eq_true rfl) mV_X11_close nm_1293 (recv_ob obC_6) rfl rfl (Nat.le_of_ble_eq_true rfl) d_X7_take_138 (k_v (fun σ7 ⟨hs7, iσ7, ik7⟩ => ?_))
      have hs7 : (σ7 6 17).toInt = (σ0 6 17).toInt - 1 := hs7
      have kp : Keep [(4, 1), (6, 3), (6, 4), (6, 15), (6, 17), (7, 7), (9, 5)] [24, 45, 49, 50, 51, 52, 53, 54] σ0 σ7 := keep_c kp ik7 (by decide) (by decide)
      refine g_goto hF 237 d_X7_take_141 (by decide) ?_
      exact g_vret hF rfl d_X7_take_237 ⟨rfl, rfl, rfl, ⟨(by show (σ7 6 17).toInt ≤ (σ0 6 17).toInt + 1 ∧ (σ0 6 17).toInt - 1 ≤ (σ7 6 17).toInt; have e0 := s_rng (σ7 6 17); have e1 := s_rng (σ0 6 17); omega), iσ7, kp⟩⟩
    refine (Decidable.em (a1.toInt = 22)).elim (fun q8_34_2 => ?_) (fun q8_34_2 => ?_)
    · refine g_tableIn (off := 110) hF 144 d_X7_take_34 q8_34_2 (by decide) (by decide) (by decide +kernel) (by decide) ?_
      refine g_aload_n hF d_X7_take_144 rfl 2 rfl ?_
      refine g_get (v := .ref (r 7)) hF 3 obC_9 (by decide) m_556 rfl d_X7_take_145 ?_
      refine g_callVN (As := []) (rest := []) hF (c_X2_pop a g r σ0 i0) (Nat.le_of_ble_eq_true rfl) mV_X2_pop nm_1297 (recv_ob obC_7) rfl rfl (Nat.le_of_ble_eq_true rfl) d_X7_take_148 (k_a (fun q9 σ9 ⟨hq9, iσ9, ik9⟩ => ?_))
      have kp : Keep [(4, 1), (6, 3), (6, 4), (6, 15), (6, 17), (7, 7), (9, 5)] [24, 45, 49, 50, 51, 52, 53, 54] σ0 σ9 := keep_c kp ik9 (by decide) (by decide)
      refine g_pop hF d_X7_take_151 rfl ?_
      refine g_aload_n hF d_X7_take_152 rfl 2 rfl ?_
      refine g_get (v := .ref (r 4)) hF 2 obC_9 (by decide) m_555 rfl d_X7_take_153 ?_
      refine g_iconst hF (v := 2) d_X7_take_156 (by decide) ?_
      refine g_iconst hF (v := 0) d_X7_take_157 (by decide) ?_
      refine g_iconst hF (v := 0) d_X7_take_158 (by decide) ?_
      refine g_iconst hF (v := 0) d_X7_take_159 (by decide) ?_
      refine g_callVN (As := [.int 2, .int 0, .int 0, .int 0]) (rest := []) hF (c_X0_emit a g r σ9 (2 : Int32) (0 : Int32) (0 : Int32) (0 : Int32) iσ9) (Nat.le_of_ble_eq_true rfl) mV_X0_emit nm_1298 (recv_ob obC_4) rfl rfl (Nat.le_of_ble_eq_true rfl) d_X7_take_160 (k_i (fun r10 σ10 ⟨iσ10, ik10⟩ => ?_))
      have kp : Keep [(4, 1), (6, 3), (6, 4), (6, 15), (6, 17), (7, 7), (9, 5)] [24, 45, 49, 50, 51, 52, 53, 54] σ0 σ10 := keep_c kp ik10 (by decide) (by decide)
      refine g_pop hF d_X7_take_163 rfl ?_
      refine g_goto hF 237 d_X7_take_164 (by decide) ?_
      exact g_vret hF rfl d_X7_take_237 ⟨rfl, rfl, rfl, ⟨(by rw [show (σ10 6 17) = (σ0 6 17) from ((ik10 6 17 rfl rfl rfl).trans (ik9 6 17 rfl rfl rfl))]; show (σ0 6 17).toInt ≤ (σ0 6 17).toInt + 1 ∧ (σ0 6 17).toInt - 1 ≤ (σ0 6 17).toInt; have e0 := s_rng (σ0 6 17); omega), iσ10, kp⟩⟩
    refine (Decidable.em (a1.toInt = 23)).elim (fun q11_34_3 => ?_) (fun q11_34_3 => ?_)
    · refine g_tableIn (off := 133) hF 167 d_X7_take_34 q11_34_3 (by decide) (by decide) (by decide +kernel) (by decide) ?_
      refine g_aload_n hF d_X7_take_167 rfl 2 rfl ?_
      refine g_iload_n hF d_X7_take_168 rfl 3 rfl ?_
      refine g_iload_n hF d_X7_take_169 rfl 1 rfl ?_
      refine g_callV (As := [.int a1, .int r1]) (rest := []) hF (c_X7_conditional a g r σ0 a1 r1 i0) (Nat.le_of_ble_eq_true rfl) mV_X7_conditional m_1299 (recv_ob obC_9) rfl rfl (Nat.le_of_ble_eq_true rfl) d_X7_take_170 (k_v (fun σ12 ⟨iσ12, ik12⟩ => ?_)) (fun _ _ _ h => h.elim)
      have kp : Keep [(4, 1), (6, 3), (6, 4), (6, 15), (6, 17), (7, 7), (9, 5)] [24, 45, 49, 50, 51, 52, 53, 54] σ0 σ12 := keep_c kp ik12 (by decide) (by decide)
      refine g_goto hF 237 d_X7_take_173 (by decide) ?_
      exact g_vret hF rfl d_X7_take_237 ⟨rfl, rfl, rfl, ⟨(by rw [show (σ12 6 17) = (σ0 6 17) from (ik12 6 17 rfl rfl rfl)]; show (σ0 6 17).toInt ≤ (σ0 6 17).toInt + 1 ∧ (σ0 6 17).toInt - 1 ≤ (σ0 6 17).toInt; have e0 := s_rng (σ0 6 17); omega), iσ12, kp⟩⟩
    refine (Decidable.em (a1.toInt = 24)).elim (fun q13_34_4 => ?_) (fun q13_34_4 => ?_)
    · refine g_tableIn (off := 133) hF 167 d_X7_take_34 q13_34_4 (by decide) (by decide) (by decide +kernel) (by decide) ?_
      refine g_aload_n hF d_X7_take_167 rfl 2 rfl ?_
      refine g_iload_n hF d_X7_take_168 rfl 3 rfl ?_
      refine g_iload_n hF d_X7_take_169 rfl 1 rfl ?_
      refine g_callV (As := [.int a1, .int r1]) (rest := []) hF (c_X7_conditional a g r σ0 a1 r1 i0) (Nat.le_of_ble_eq_true rfl) mV_X7_conditional m_1299 (recv_ob obC_9) rfl rfl (Nat.le_of_ble_eq_true rfl) d_X7_take_170 (k_v (fun σ14 ⟨iσ14, ik14⟩ => ?_)) (fun _ _ _ h => h.elim)
      have kp : Keep [(4, 1), (6, 3), (6, 4), (6, 15), (6, 17), (7, 7), (9, 5)] [24, 45, 49, 50, 51, 52, 53, 54] σ0 σ14 := keep_c kp ik14 (by decide) (by decide)
      refine g_goto hF 237 d_X7_take_173 (by decide) ?_
      exact g_vret hF rfl d_X7_take_237 ⟨rfl, rfl, rfl, ⟨(by rw [show (σ14 6 17) = (σ0 6 17) from (ik14 6 17 rfl rfl rfl)]; show (σ0 6 17).toInt ≤ (σ0 6 17).toInt + 1 ∧ (σ0 6 17).toInt - 1 ≤ (σ0 6 17).toInt; have e0 := s_rng (σ0 6 17); omega), iσ14, kp⟩⟩
    refine (Decidable.em (a1.toInt = 25)).elim (fun q15_34_5 => ?_) (fun q15_34_5 => ?_)
    · refine g_tableIn (off := 133) hF 167 d_X7_take_34 q15_34_5 (by decide) (by decide) (by decide +kernel) (by decide) ?_
      refine g_aload_n hF d_X7_take_167 rfl 2 rfl ?_
      refine g_iload_n hF d_X7_take_168 rfl 3 rfl ?_
      refine g_iload_n hF d_X7_take_169 rfl 1 rfl ?_
      refine g_callV (As := [.int a1, .int r1]) (rest := []) hF (c_X7_conditional a g r σ0 a1 r1 i0) (Nat.le_of_ble_eq_true rfl) mV_X7_conditional m_1299 (recv_ob obC_9) rfl rfl (Nat.le_of_ble_eq_true rfl) d_X7_take_170 (k_v (fun σ16 ⟨iσ16, ik16⟩ => ?_)) (fun _ _ _ h => h.elim)
      have kp : Keep [(4, 1), (6, 3), (6, 4), (6, 15), (6, 17), (7, 7), (9, 5)] [24, 45, 49, 50, 51, 52, 53, 54] σ0 σ16 := keep_c kp ik16 (by decide) (by decide)
      refine g_goto hF 237 d_X7_take_173 (by decide) ?_
      exact g_vret hF rfl d_X7_take_237 ⟨rfl, rfl, rfl, ⟨(by rw [show (σ16 6 17) = (σ0 6 17) from (ik16 6 17 rfl rfl rfl)]; show (σ0 6 17).toInt ≤ (σ0 6 17).toInt + 1 ∧ (σ0 6 17).toInt - 1 ≤ (σ0 6 17).toInt; have e0 := s_rng (σ0 6 17); omega), iσ16, kp⟩⟩
    refine (Decidable.em (a1.toInt = 26)).elim (fun q17_34_6 => ?_) (fun q17_34_6 => ?_)
    · refine g_tableIn (off := 177) hF 211 d_X7_take_34 q17_34_6 (by decide) (by decide) (by decide +kernel) (by decide) ?_
      refine g_aload_n hF d_X7_take_211 rfl 2 rfl ?_
      refine g_iload_n hF d_X7_take_212 rfl 3 rfl ?_
      refine g_iload_n hF d_X7_take_213 rfl 1 rfl ?_
      refine g_callV (As := [.int a1, .int r1]) (rest := []) hF (c_X7_whileLoop a g r σ0 a1 r1 i0) (Nat.le_of_ble_eq_true rfl) mV_X7_whileLoop m_1332 (recv_ob obC_9) rfl rfl (Nat.le_of_ble_eq_true rfl) d_X7_take_214 (k_v (fun σ18 ⟨iσ18, ik18⟩ => ?_)) (fun _ _ _ h => h.elim)
      have kp : Keep [(4, 1), (6, 3), (6, 4), (6, 15), (6, 17), (7, 7), (9, 5)] [24, 45, 49, 50, 51, 52, 53, 54] σ0 σ18 := keep_c kp ik18 (by decide) (by decide)
      refine g_goto hF 237 d_X7_take_217 (by decide) ?_
      exact g_vret hF rfl d_X7_take_237 ⟨rfl, rfl, rfl, ⟨(by rw [show (σ18 6 17) = (σ0 6 17) from (ik18 6 17 rfl rfl rfl)]; show (σ0 6 17).toInt ≤ (σ0 6 17).toInt + 1 ∧ (σ0 6 17).toInt - 1 ≤ (σ0 6 17).toInt; have e0 := s_rng (σ0 6 17); omega), iσ18, kp⟩⟩
    refine (Decidable.em (a1.toInt = 27)).elim (fun q19_34_7 => ?_) (fun q19_34_7 => ?_)
    · refine g_tableIn (off := 177) hF 211 d_X7_take_34 q19_34_7 (by decide) (by decide) (by decide +kernel) (by decide) ?_
      refine g_aload_n hF d_X7_take_211 rfl 2 rfl ?_
      refine g_iload_n hF d_X7_take_212 rfl 3 rfl ?_
      refine g_iload_n hF d_X7_take_213 rfl 1 rfl ?_
      refine g_callV (As := [.int a1, .int r1]) (rest := []) hF (c_X7_whileLoop a g r σ0 a1 r1 i0) (Nat.le_of_ble_eq_true rfl) mV_X7_whileLoop m_1332 (recv_ob obC_9) rfl rfl (Nat.le_of_ble_eq_true rfl) d_X7_take_214 (k_v (fun σ20 ⟨iσ20, ik20⟩ => ?_)) (fun _ _ _ h => h.elim)
      have kp : Keep [(4, 1), (6, 3), (6, 4), (6, 15), (6, 17), (7, 7), (9, 5)] [24, 45, 49, 50, 51, 52, 53, 54] σ0 σ20 := keep_c kp ik20 (by decide) (by decide)
      refine g_goto hF 237 d_X7_take_217 (by decide) ?_
      exact g_vret hF rfl d_X7_take_237 ⟨rfl, rfl, rfl, ⟨(by rw [show (σ20 6 17) = (σ0 6 17) from (ik20 6 17 rfl rfl rfl)]; show (σ0 6 17).toInt ≤ (σ0 6 17).toInt + 1 ∧ (σ0 6 17).toInt - 1 ≤ (σ0 6 17).toInt; have e0 := s_rng (σ0 6 17); omega), iσ20, kp⟩⟩
    refine (Decidable.em (a1.toInt = 28)).elim (fun q21_34_8 => ?_) (fun q21_34_8 => ?_)
    · refine g_tableIn (off := 177) hF 211 d_X7_take_34 q21_34_8 (by decide) (by decide) (by decide +kernel) (by decide) ?_
      refine g_aload_n hF d_X7_take_211 rfl 2 rfl ?_
      refine g_iload_n hF d_X7_take_212 rfl 3 rfl ?_
      refine g_iload_n hF d_X7_take_213 rfl 1 rfl ?_
      refine g_callV (As := [.int a1, .int r1]) (rest := []) hF (c_X7_whileLoop a g r σ0 a1 r1 i0) (Nat.le_of_ble_eq_true rfl) mV_X7_whileLoop m_1332 (recv_ob obC_9) rfl rfl (Nat.le_of_ble_eq_true rfl) d_X7_take_214 (k_v (fun σ22 ⟨iσ22, ik22⟩ => ?_)) (fun _ _ _ h => h.elim)
      have kp : Keep [(4, 1), (6, 3), (6, 4), (6, 15), (6, 17), (7, 7), (9, 5)] [24, 45, 49, 50, 51, 52, 53, 54] σ0 σ22 := keep_c kp ik22 (by decide) (by decide)
      refine g_goto hF 237 d_X7_take_217 (by decide) ?_
      exact g_vret hF rfl d_X7_take_237 ⟨rfl, rfl, rfl, ⟨(by rw [show (σ22 6 17) = (σ0 6 17) from (ik22 6 17 rfl rfl rfl)]; show (σ0 6 17).toInt ≤ (σ0 6 17).toInt + 1 ∧ (σ0 6 17).toInt - 1 ≤ (σ0 6 17).toInt; have e0 := s_rng (σ0 6 17); omega), iσ22, kp⟩⟩
    refine (Decidable.em (a1.toInt = 29)).elim (fun q23_34_9 => ?_) (fun q23_34_9 => ?_)
    · refine g_tableIn (off := 186) hF 220 d_X7_take_34 q23_34_9 (by decide) (by decide) (by decide +kernel) (by decide) ?_
      refine g_aload_n hF d_X7_take_220 rfl 2 rfl ?_
      refine g_iload_n hF d_X7_take_221 rfl 3 rfl ?_
      refine g_iload_n hF d_X7_take_222 rfl 1 rfl ?_
      refine g_callV (As := [.int a1, .int r1]) (rest := []) hF (c_X7_doLoop a g r σ0 a1 r1 i0) (Nat.le_of_ble_eq_true rfl) mV_X7_doLoop m_1344 (recv_ob obC_9) rfl rfl (Nat.le_of_ble_eq_true rfl) d_X7_take_223 (k_v (fun σ24 ⟨iσ24, ik24⟩ => ?_)) (fun _ _ _ h => h.elim)
      have kp : Keep [(4, 1), (6, 3), (6, 4), (6, 15), (6, 17), (7, 7), (9, 5)] [24, 45, 49, 50, 51, 52, 53, 54] σ0 σ24 := keep_c kp ik24 (by decide) (by decide)
      refine g_goto hF 237 d_X7_take_226 (by decide) ?_
      exact g_vret hF rfl d_X7_take_237 ⟨rfl, rfl, rfl, ⟨(by rw [show (σ24 6 17) = (σ0 6 17) from (ik24 6 17 rfl rfl rfl)]; show (σ0 6 17).toInt ≤ (σ0 6 17).toInt + 1 ∧ (σ0 6 17).toInt - 1 ≤ (σ0 6 17).toInt; have e0 := s_rng (σ0 6 17); omega), iσ24, kp⟩⟩
    refine (Decidable.em (a1.toInt = 30)).elim (fun q25_34_10 => ?_) (fun q25_34_10 => ?_)
    · refine g_tableIn (off := 186) hF 220 d_X7_take_34 q25_34_10 (by decide) (by decide) (by decide +kernel) (by decide) ?_
      refine g_aload_n hF d_X7_take_220 rfl 2 rfl ?_
      refine g_iload_n hF d_X7_take_221 rfl 3 rfl ?_
      refine g_iload_n hF d_X7_take_222 rfl 1 rfl ?_
      refine g_callV (As := [.int a1, .int r1]) (rest := []) hF (c_X7_doLoop a g r σ0 a1 r1 i0) (Nat.le_of_ble_eq_true rfl) mV_X7_doLoop m_1344 (recv_ob obC_9) rfl rfl (Nat.le_of_ble_eq_true rfl) d_X7_take_223 (k_v (fun σ26 ⟨iσ26, ik26⟩ => ?_)) (fun _ _ _ h => h.elim)
      have kp : Keep [(4, 1), (6, 3), (6, 4), (6, 15), (6, 17), (7, 7), (9, 5)] [24, 45, 49, 50, 51, 52, 53, 54] σ0 σ26 := keep_c kp ik26 (by decide) (by decide)
      refine g_goto hF 237 d_X7_take_226 (by decide) ?_
      exact g_vret hF rfl d_X7_take_237 ⟨rfl, rfl, rfl, ⟨(by rw [show (σ26 6 17) = (σ0 6 17) from (ik26 6 17 rfl rfl rfl)]; show (σ0 6 17).toInt ≤ (σ0 6 17).toInt + 1 ∧ (σ0 6 17).toInt - 1 ≤ (σ0 6 17).toInt; have e0 := s_rng (σ0 6 17); omega), iσ26, kp⟩⟩
    refine (Decidable.em (a1.toInt = 31)).elim (fun q27_34_11 => ?_) (fun q27_34_11 => ?_)
    · refine g_tableIn (off := 186) hF 220 d_X7_take_34 q27_34_11 (by decide) (by decide) (by decide +kernel) (by decide) ?_
      refine g_aload_n hF d_X7_take_220 rfl 2 rfl ?_
      refine g_iload_n hF d_X7_take_221 rfl 3 rfl ?_
      refine g_iload_n hF d_X7_take_222 rfl 1 rfl ?_
      refine g_callV (As := [.int a1, .int r1]) (rest := []) hF (c_X7_doLoop a g r σ0 a1 r1 i0) (Nat.le_of_ble_eq_true rfl) mV_X7_doLoop m_1344 (recv_ob obC_9) rfl rfl (Nat.le_of_ble_eq_true rfl) d_X7_take_223 (k_v (fun σ28 ⟨iσ28, ik28⟩ => ?_)) (fun _ _ _ h => h.elim)
      have kp : Keep [(4, 1), (6, 3), (6, 4), (6, 15), (6, 17), (7, 7), (9, 5)] [24, 45, 49, 50, 51, 52, 53, 54] σ0 σ28 := keep_c kp ik28 (by decide) (by decide)
      refine g_goto hF 237 d_X7_take_226 (by decide) ?_
      exact g_vret hF rfl d_X7_take_237 ⟨rfl, rfl, rfl, ⟨(by rw [show (σ28 6 17) = (σ0 6 17) from (ik28 6 17 rfl rfl rfl)]; show (σ0 6 17).toInt ≤ (σ0 6 17).toInt + 1 ∧ (σ0 6 17).toInt - 1 ≤ (σ0 6 17).toInt; have e0 := s_rng (σ0 6 17); omega), iσ28, kp⟩⟩
    refine (Decidable.em (a1.toInt = 32)).elim (fun q29_34_12 => ?_) (fun q29_34_12 => ?_)
    · refine g_tableIn (off := 195) hF 229 d_X7_take_34 q29_34_12 (by decide) (by decide) (by decide +kernel) (by decide) ?_
      refine g_aload_n hF d_X7_take_229 rfl 2 rfl ?_
      refine g_iload_n hF d_X7_take_230 rfl 3 rfl ?_
      refine g_iload_n hF d_X7_take_231 rfl 1 rfl ?_
      refine g_iload hF d_X7_take_232 0 rfl ?_
      refine g_callV (As := [.int a1, .int r1, .int 0]) (rest := []) hF (c_X7_forLoop a g r σ0 a1 r1 (0 : Int32) i0 (Or.inl rfl)) (Nat.le_of_ble_eq_true rfl) mV_X7_forLoop m_1348 (recv_ob obC_9) rfl rfl (Nat.le_of_ble_eq_true rfl) d_X7_take_234 (k_v (fun σ30 ⟨iσ30, ik30⟩ => ?_)) (fun _ _ _ h => h.elim)
      have kp : Keep [(4, 1), (6, 3), (6, 4), (6, 15), (6, 17), (7, 7), (9, 5)] [24, 45, 49, 50, 51, 52, 53, 54] σ0 σ30 := keep_c kp ik30 (by decide) (by decide)
      exact g_vret hF rfl d_X7_take_237 ⟨rfl, rfl, rfl, ⟨(by rw [show (σ30 6 17) = (σ0 6 17) from (ik30 6 17 rfl rfl rfl)]; show (σ0 6 17).toInt ≤ (σ0 6 17).toInt + 1 ∧ (σ0 6 17).toInt - 1 ≤ (σ0 6 17).toInt; have e0 := s_rng (σ0 6 17); omega), iσ30, kp⟩⟩
    refine (Decidable.em (a1.toInt = 33)).elim (fun q31_34_13 => ?_) (fun q31_34_13 => ?_)
    · refine g_tableIn (off := 195) hF 229 d_X7_take_34 q31_34_13 (by decide) (by decide) (by decide +kernel) (by decide) ?_
      refine g_aload_n hF d_X7_take_229 rfl 2 rfl ?_
      refine g_iload_n hF d_X7_take_230 rfl 3 rfl ?_
      refine g_iload_n hF d_X7_take_231 rfl 1 rfl ?_
      refine g_iload hF d_X7_take_232 0 rfl ?_
      refine g_callV (As := [.int a1, .int r1, .int 0]) (rest := []) hF (c_X7_forLoop a g r σ0 a1 r1 (0 : Int32) i0 (Or.inl rfl)) (Nat.le_of_ble_eq_true rfl) mV_X7_forLoop m_1348 (recv_ob obC_9) rfl rfl (Nat.le_of_ble_eq_true rfl) d_X7_take_234 (k_v (fun σ32 ⟨iσ32, ik32⟩ => ?_)) (fun _ _ _ h => h.elim)
      have kp : Keep [(4, 1), (6, 3), (6, 4), (6, 15), (6, 17), (7, 7), (9, 5)] [24, 45, 49, 50, 51, 52, 53, 54] σ0 σ32 := keep_c kp ik32 (by decide) (by decide)
      exact g_vret hF rfl d_X7_take_237 ⟨rfl, rfl, rfl, ⟨(by rw [show (σ32 6 17) = (σ0 6 17) from (ik32 6 17 rfl rfl rfl)]; show (σ0 6 17).toInt ≤ (σ0 6 17).toInt + 1 ∧ (σ0 6 17).toInt - 1 ≤ (σ0 6 17).toInt; have e0 := s_rng (σ0 6 17); omega), iσ32, kp⟩⟩
    refine (Decidable.em (a1.toInt = 34)).elim (fun q33_34_14 => ?_) (fun q33_34_14 => ?_)
    · refine g_tableIn (off := 195) hF 229 d_X7_take_34 q33_34_14 (by decide) (by decide) (by decide +kernel) (by decide) ?_
      refine g_aload_n hF d_X7_take_229 rfl 2 rfl ?_
      refine g_iload_n hF d_X7_take_230 rfl 3 rfl ?_
      refine g_iload_n hF d_X7_take_231 rfl 1 rfl ?_
      refine g_iload hF d_X7_take_232 0 rfl ?_
      refine g_callV (As := [.int a1, .int r1, .int 0]) (rest := []) hF (c_X7_forLoop a g r σ0 a1 r1 (0 : Int32) i0 (Or.inl rfl)) (Nat.le_of_ble_eq_true rfl) mV_X7_forLoop m_1348 (recv_ob obC_9) rfl rfl (Nat.le_of_ble_eq_true rfl) d_X7_take_234 (k_v (fun σ34 ⟨iσ34, ik34⟩ => ?_)) (fun _ _ _ h => h.elim)
      have kp : Keep [(4, 1), (6, 3), (6, 4), (6, 15), (6, 17), (7, 7), (9, 5)] [24, 45, 49, 50, 51, 52, 53, 54] σ0 σ34 := keep_c kp ik34 (by decide) (by decide)
      exact g_vret hF rfl d_X7_take_237 ⟨rfl, rfl, rfl, ⟨(by rw [show (σ34 6 17) = (σ0 6 17) from (ik34 6 17 rfl rfl rfl)]; show (σ0 6 17).toInt ≤ (σ0 6 17).toInt + 1 ∧ (σ0 6 17).toInt - 1 ≤ (σ0 6 17).toInt; have e0 := s_rng (σ0 6 17); omega), iσ34, kp⟩⟩
    refine (Decidable.em (a1.toInt = 35)).elim (fun q35_34_15 => ?_) (fun q35_34_15 => ?_)
    · refine g_tableIn (off := 195) hF 229 d_X7_take_34 q35_34_15 (by decide) (by decide) (by decide +kernel) (by decide) ?_
      refine g_aload_n hF d_X7_take_229 rfl 2 rfl ?_
      refine g_iload_n hF d_X7_take_230 rfl 3 rfl ?_
      refine g_iload_n hF d_X7_take_231 rfl 1 rfl ?_
      refine g_iload hF d_X7_take_232 0 rfl ?_
      refine g_callV (As := [.int a1, .int r1, .int 0]) (rest := []) hF (c_X7_forLoop a g r σ0 a1 r1 (0 : Int32) i0 (Or.inl rfl)) (Nat.le_of_ble_eq_true rfl) mV_X7_forLoop m_1348 (recv_ob obC_9) rfl rfl (Nat.le_of_ble_eq_true rfl) d_X7_take_234 (k_v (fun σ36 ⟨iσ36, ik36⟩ => ?_)) (fun _ _ _ h => h.elim)
      have kp : Keep [(4, 1), (6, 3), (6, 4), (6, 15), (6, 17), (7, 7), (9, 5)] [24, 45, 49, 50, 51, 52, 53, 54] σ0 σ36 := keep_c kp ik36 (by decide) (by decide)
      exact g_vret hF rfl d_X7_take_237 ⟨rfl, rfl, rfl, ⟨(by rw [show (σ36 6 17) = (σ0 6 17) from (ik36 6 17 rfl rfl rfl)]; show (σ0 6 17).toInt ≤ (σ0 6 17).toInt + 1 ∧ (σ0 6 17).toInt - 1 ≤ (σ0 6 17).toInt; have e0 := s_rng (σ0 6 17); omega), iσ36, kp⟩⟩
    refine (Decidable.em (a1.toInt = 36)).elim (fun q37_34_16 => ?_) (fun q37_34_16 => ?_)
    · refine g_tableIn (off := 142) hF 176 d_X7_take_34 q37_34_16 (by decide) (by decide) (by decide +kernel) (by decide) ?_
      refine g_aload_n hF d_X7_take_176 rfl 2 rfl ?_
      refine g_iload_n hF d_X7_take_177 rfl 1 rfl ?_
      refine g_iload_n hF d_X7_take_178 rfl 3 rfl ?_
      refine g_bipush hF (v := 36) d_X7_take_179 (by decide) ?_
      refine g_icmp_ne (yv := 36) hF 191 d_X7_take_181 (by decide) rfl (by decide) (fun c38_181 => ?_) (fun c38_181 => ?_)
      · -- taken at 181
        refine g_aload_n hF d_X7_take_191 rfl 2 rfl ?_
        refine g_get (v := .ref (r 52)) hF 9 obC_9 (by decide) m_562 rfl d_X7_take_192 ?_
        refine g_callV (As := [.int r1, .ref (r 52)]) (rest := []) hF (c_X7_leave_r9_r52 a g r σ0 r1 i0) (Nat.le_of_ble_eq_true rfl) mV_X7_leave m_1323 (recv_ob obC_9) rfl rfl (Nat.le_of_ble_eq_true rfl) d_X7_take_195 (k_v (fun σ39 ⟨iσ39, ik39⟩ => ?_)) (fun _ _ _ h => h.elim)
        have kp : Keep [(4, 1), (6, 3), (6, 4), (6, 15), (6, 17), (7, 7), (9, 5)] [24, 45, 49, 50, 51, 52, 53, 54] σ0 σ39 := keep_c kp ik39 (by decide) (by decide)
        refine g_goto hF 237 d_X7_take_198 (by decide) ?_
        exact g_vret hF rfl d_X7_take_237 ⟨rfl, rfl, rfl, ⟨(by rw [show (σ39 6 17) = (σ0 6 17) from (ik39 6 17 rfl rfl rfl)]; show (σ0 6 17).toInt ≤ (σ0 6 17).toInt + 1 ∧ (σ0 6 17).toInt - 1 ≤ (σ0 6 17).toInt; have e0 := s_rng (σ0 6 17); omega), iσ39, kp⟩⟩
      · -- not taken at 181
        refine g_aload_n hF d_X7_take_184 rfl 2 rfl ?_
        refine g_get (v := .ref (r 51)) hF 8 obC_9 (by decide) m_561 rfl d_X7_take_185 ?_
        refine g_goto hF 195 d_X7_take_188 (by decide) ?_
        refine g_callV (As := [.int r1, .ref (r 51)]) (rest := []) hF (c_X7_leave_r9_r51 a g r σ0 r1 i0) (Nat.le_of_ble_eq_true rfl) mV_X7_leave m_1323 (recv_ob obC_9) rfl rfl (Nat.le_of_ble_eq_true rfl) d_X7_take_195 (k_v (fun σ40 ⟨iσ40, ik40⟩ => ?_)) (fun _ _ _ h => h.elim)
        have kp : Keep [(4, 1), (6, 3), (6, 4), (6, 15), (6, 17), (7, 7), (9, 5)] [24, 45, 49, 50, 51, 52, 53, 54] σ0 σ40 := keep_c kp ik40 (by decide) (by decide)
        refine g_goto hF 237 d_X7_take_198 (by decide) ?_
        exact g_vret hF rfl d_X7_take_237 ⟨rfl, rfl, rfl, ⟨(by rw [show (σ40 6 17) = (σ0 6 17) from (ik40 6 17 rfl rfl rfl)]; show (σ0 6 17).toInt ≤ (σ0 6 17).toInt + 1 ∧ (σ0 6 17).toInt - 1 ≤ (σ0 6 17).toInt; have e0 := s_rng (σ0 6 17); omega), iσ40, kp⟩⟩
    refine (Decidable.em (a1.toInt = 37)).elim (fun q41_34_17 => ?_) (fun q41_34_17 => ?_)
    · refine g_tableIn (off := 142) hF 176 d_X7_take_34 q41_34_17 (by decide) (by decide) (by decide +kernel) (by decide) ?_
      refine g_aload_n hF d_X7_take_176 rfl 2 rfl ?_
      refine g_iload_n hF d_X7_take_177 rfl 1 rfl ?_
      refine g_iload_n hF d_X7_take_178 rfl 3 rfl ?_
      refine g_bipush hF (v := 36) d_X7_take_179 (by decide) ?_
      refine g_icmp_ne (yv := 36) hF 191 d_X7_take_181 (by decide) rfl (by decide) (fun c42_181 => ?_) (fun c42_181 => ?_)
      · -- taken at 181
        refine g_aload_n hF d_X7_take_191 rfl 2 rfl ?_
        refine g_get (v := .ref (r 52)) hF 9 obC_9 (by decide) m_562 rfl d_X7_take_192 ?_
        refine g_callV (As := [.int r1, .ref (r 52)]) (rest := []) hF (c_X7_leave_r9_r52 a g r σ0 r1 i0) (Nat.le_of_ble_eq_true rfl) mV_X7_leave m_1323 (recv_ob obC_9) rfl rfl (Nat.le_of_ble_eq_true rfl) d_X7_take_195 (k_v (fun σ43 ⟨iσ43, ik43⟩ => ?_)) (fun _ _ _ h => h.elim)
        have kp : Keep [(4, 1), (6, 3), (6, 4), (6, 15), (6, 17), (7, 7), (9, 5)] [24, 45, 49, 50, 51, 52, 53, 54] σ0 σ43 := keep_c kp ik43 (by decide) (by decide)
        refine g_goto hF 237 d_X7_take_198 (by decide) ?_
        exact g_vret hF rfl d_X7_take_237 ⟨rfl, rfl, rfl, ⟨(by rw [show (σ43 6 17) = (σ0 6 17) from (ik43 6 17 rfl rfl rfl)]; show (σ0 6 17).toInt ≤ (σ0 6 17).toInt + 1 ∧ (σ0 6 17).toInt - 1 ≤ (σ0 6 17).toInt; have e0 := s_rng (σ0 6 17); omega), iσ43, kp⟩⟩
      · -- not taken at 181
        refine g_aload_n hF d_X7_take_184 rfl 2 rfl ?_
        refine g_get (v := .ref (r 51)) hF 8 obC_9 (by decide) m_561 rfl d_X7_take_185 ?_
        refine g_goto hF 195 d_X7_take_188 (by decide) ?_
        refine g_callV (As := [.int r1, .ref (r 51)]) (rest := []) hF (c_X7_leave_r9_r51 a g r σ0 r1 i0) (Nat.le_of_ble_eq_true rfl) mV_X7_leave m_1323 (recv_ob obC_9) rfl rfl (Nat.le_of_ble_eq_true rfl) d_X7_take_195 (k_v (fun σ44 ⟨iσ44, ik44⟩ => ?_)) (fun _ _ _ h => h.elim)
        have kp : Keep [(4, 1), (6, 3), (6, 4), (6, 15), (6, 17), (7, 7), (9, 5)] [24, 45, 49, 50, 51, 52, 53, 54] σ0 σ44 := keep_c kp ik44 (by decide) (by decide)
        refine g_goto hF 237 d_X7_take_198 (by decide) ?_
        exact g_vret hF rfl d_X7_take_237 ⟨rfl, rfl, rfl, ⟨(by rw [show (σ44 6 17) = (σ0 6 17) from (ik44 6 17 rfl rfl rfl)]; show (σ0 6 17).toInt ≤ (σ0 6 17).toInt + 1 ∧ (σ0 6 17).toInt - 1 ≤ (σ0 6 17).toInt; have e0 := s_rng (σ0 6 17); omega), iσ44, kp⟩⟩
    refine (Decidable.em (a1.toInt = 38)).elim (fun q45_34_18 => ?_) (fun q45_34_18 => ?_)
    · refine g_tableIn (off := 167) hF 201 d_X7_take_34 q45_34_18 (by decide) (by decide) (by decide +kernel) (by decide) ?_
      refine g_aload_n hF d_X7_take_201 rfl 2 rfl ?_
      refine g_iload_n hF d_X7_take_202 rfl 1 rfl ?_
      refine g_iload hF d_X7_take_203 0 rfl ?_
      refine g_callV (As := [.int r1, .int 0]) (rest := []) hF (c_X7_giveBack a g r σ0 r1 (0 : Int32) i0 (Or.inl rfl)) (Nat.le_of_ble_eq_true rfl) mV_X7_giveBack m_1327 (recv_ob obC_9) rfl rfl (Nat.le_of_ble_eq_true rfl) d_X7_take_205 (k_v (fun σ46 ⟨iσ46, ik46⟩ => ?_)) (fun _ _ _ h => h.elim)
      have kp : Keep [(4, 1), (6, 3), (6, 4), (6, 15), (6, 17), (7, 7), (9, 5)] [24, 45, 49, 50, 51, 52, 53, 54] σ0 σ46 := keep_c kp ik46 (by decide) (by decide)
      refine g_goto hF 237 d_X7_take_208 (by decide) ?_
      exact g_vret hF rfl d_X7_take_237 ⟨rfl, rfl, rfl, ⟨(by rw [show (σ46 6 17) = (σ0 6 17) from (ik46 6 17 rfl rfl rfl)]; show (σ0 6 17).toInt ≤ (σ0 6 17).toInt + 1 ∧ (σ0 6 17).toInt - 1 ≤ (σ0 6 17).toInt; have e0 := s_rng (σ0 6 17); omega), iσ46, kp⟩⟩
    refine g_tableOut hF 229 d_X7_take_34 rfl (by omega) (by decide) ?_
    refine g_aload_n hF d_X7_take_229 rfl 2 rfl ?_
    refine g_iload_n hF d_X7_take_230 rfl 3 rfl ?_
    refine g_iload_n hF d_X7_take_231 rfl 1 rfl ?_
    refine g_iload hF d_X7_take_232 0 rfl ?_
    refine g_callV (As := [.int a1, .int r1, .int 0]) (rest := []) hF (c_X7_forLoop a g r σ0 a1 r1 (0 : Int32) i0 (Or.inl rfl)) (Nat.le_of_ble_eq_true rfl) mV_X7_forLoop m_1348 (recv_ob obC_9) rfl rfl (Nat.le_of_ble_eq_true rfl) d_X7_take_234 (k_v (fun σ47 ⟨iσ47, ik47⟩ => ?_)) (fun _ _ _ h => h.elim)
    have kp : Keep [(4, 1), (6, 3), (6, 4), (6, 15), (6, 17), (7, 7), (9, 5)] [24, 45, 49, 50, 51, 52, 53, 54] σ0 σ47 := keep_c kp ik47 (by decide) (by decide)
    exact g_vret hF rfl d_X7_take_237 ⟨rfl, rfl, rfl, ⟨(by rw [show (σ47 6 17) = (σ0 6 17) from (ik47 6 17 rfl rfl rfl)]; show (σ0 6 17).toInt ≤ (σ0 6 17).toInt + 1 ∧ (σ0 6 17).toInt - 1 ≤ (σ0 6 17).toInt; have e0 := s_rng (σ0 6 17); omega), iσ47, kp⟩⟩
  · -- not taken at 23
    refine g_iconst hF (v := 1) d_X7_take_26 (by decide) ?_
    refine g_goto hF 31 d_X7_take_27 (by decide) ?_
    refine g_istore hF [(4, .int 1), (3, .int r1), (0, .ref (r 9)), (1, .int a1), (2, .int a2)] d_X7_take_31 hnn (by decide) rfl ?_
    refine g_iload_n hF d_X7_take_33 rfl 3 rfl ?_
    refine (Decidable.em (a1.toInt = 20)).elim (fun q48_34_0 => ?_) (fun q48_34_0 => ?_)
    · refine g_tableIn (off := 90) hF 124 d_X7_take_34 q48_34_0 (by decide) (by decide) (by decide +kernel) (by decide) ?_
      refine g_aload_n hF d_X7_take_124 rfl 2 rfl ?_
      refine g_get (v := .ref (r 6)) hF 1 obC_9 (by decide) m_554 rfl d_X7_take_125 ?_
      refine g_callVN (As := []) (rest := []) hF (c_X11_open a g r σ0 (by show -100000 ≤ (σ0 6 17).toInt ∧ (σ0 6 17).toInt ≤ 100000; have e0 := s_rng (σ0 6 17); omega) i0) (Nat.le_of_ble_eq_true rfl) mV_X11_open nm_1289 (recv_ob obC_6) rfl rfl (Nat.le_of_ble_eq_true rfl) d_X7_take_128 (k_v (fun σ49 ⟨hs49, iσ49, ik49⟩ => ?_))
      have hs49 : (σ49 6 17).toInt = (σ0 6 17).toInt + 1 := hs49
      have kp : Keep [(4, 1), (6, 3), (6, 4), (6, 15), (6, 17), (7, 7), (9, 5)] [24, 45, 49, 50, 51, 52, 53, 54] σ0 σ49 := keep_c kp ik49 (by decide) (by decide)
      refine g_goto hF 237 d_X7_take_131 (by decide) ?_
      exact g_vret hF rfl d_X7_take_237 ⟨rfl, rfl, rfl, ⟨(by show (σ49 6 17).toInt ≤ (σ0 6 17).toInt + 1 ∧ (σ0 6 17).toInt - 1 ≤ (σ49 6 17).toInt; have e0 := s_rng (σ49 6 17); have e1 := s_rng (σ0 6 17); omega), iσ49, kp⟩⟩
    refine (Decidable.em (a1.toInt = 21)).elim (fun q50_34_1 => ?_) (fun q50_34_1 => ?_)
    · refine g_tableIn (off := 100) hF 134 d_X7_take_34 q50_34_1 (by decide) (by decide) (by decide +kernel) (by decide) ?_
      refine g_aload_n hF d_X7_take_134 rfl 2 rfl ?_
      refine g_get (v := .ref (r 6)) hF 1 obC_9 (by decide) m_554 rfl d_X7_take_135 ?_
      refine g_callVN (As := []) (rest := []) hF (c_X11_close a g r σ0 (by show -100000 ≤ (σ0 6 17).toInt ∧ (σ0 6 17).toInt ≤ 100000; have e0 := s_rng (σ0 6 17); omega) i0) (Nat.le_of_ble_eq_true rfl) mV_X11_close nm_1293 (recv_ob obC_6) rfl rfl (Nat.le_of_ble_eq_true rfl) d_X7_take_138 (k_v (fun σ51 ⟨hs51, iσ51, ik51⟩ => ?_))
      have hs51 : (σ51 6 17).toInt = (σ0 6 17).toInt - 1 := hs51
      have kp : Keep [(4, 1), (6, 3), (6, 4), (6, 15), (6, 17), (7, 7), (9, 5)] [24, 45, 49, 50, 51, 52, 53, 54] σ0 σ51 := keep_c kp ik51 (by decide) (by decide)
      refine g_goto hF 237 d_X7_take_141 (by decide) ?_
      exact g_vret hF rfl d_X7_take_237 ⟨rfl, rfl, rfl, ⟨(by show (σ51 6 17).toInt ≤ (σ0 6 17).toInt + 1 ∧ (σ0 6 17).toInt - 1 ≤ (σ51 6 17).toInt; have e0 := s_rng (σ51 6 17); have e1 := s_rng (σ0 6 17); omega), iσ51, kp⟩⟩
    refine (Decidable.em (a1.toInt = 22)).elim (fun q52_34_2 => ?_) (fun q52_34_2 => ?_)
    · refine g_tableIn (off := 110) hF 144 d_X7_take_34 q52_34_2 (by decide) (by decide) (by decide +kernel) (by decide) ?_
      refine g_aload_n hF d_X7_take_144 rfl 2 rfl ?_
      refine g_get (v := .ref (r 7)) hF 3 obC_9 (by decide) m_556 rfl d_X7_take_145 ?_
      refine g_callVN (As := []) (rest := []) hF (c_X2_pop a g r σ0 i0) (Nat.le_of_ble_eq_true rfl) mV_X2_pop nm_1297 (recv_ob obC_7) rfl rfl (Nat.le_of_ble_eq_true rfl) d_X7_take_148 (k_a (fun q53 σ53 ⟨hq53, iσ53, ik53⟩ => ?_))
      have kp : Keep [(4, 1), (6, 3), (6, 4), (6, 15), (6, 17), (7, 7), (9, 5)] [24, 45, 49, 50, 51, 52, 53, 54] σ0 σ53 := keep_c kp ik53 (by decide) (by decide)
      refine g_pop hF d_X7_take_151 rfl ?_
      refine g_aload_n hF d_X7_take_152 rfl 2 rfl ?_
      refine g_get (v := .ref (r 4)) hF 2 obC_9 (by decide) m_555 rfl d_X7_take_153 ?_
      refine g_iconst hF (v := 2) d_X7_take_156 (by decide) ?_
      refine g_iconst hF (v := 0) d_X7_take_157 (by decide) ?_
      refine g_iconst hF (v := 0) d_X7_take_158 (by decide) ?_
      refine g_iconst hF (v := 0) d_X7_take_159 (by decide) ?_
      refine g_callVN (As := [.int 2, .int 0, .int 0, .int 0]) (rest := []) hF (c_X0_emit a g r σ53 (2 : Int32) (0 : Int32) (0 : Int32) (0 : Int32) iσ53) (Nat.le_of_ble_eq_true rfl) mV_X0_emit nm_1298 (recv_ob obC_4) rfl rfl (Nat.le_of_ble_eq_true rfl) d_X7_take_160 (k_i (fun r54 σ54 ⟨iσ54, ik54⟩ => ?_))
      have kp : Keep [(4, 1), (6, 3), (6, 4), (6, 15), (6, 17), (7, 7), (9, 5)] [24, 45, 49, 50, 51, 52, 53, 54] σ0 σ54 := keep_c kp ik54 (by decide) (by decide)
      refine g_pop hF d_X7_take_163 rfl ?_
      refine g_goto hF 237 d_X7_take_164 (by decide) ?_
      exact g_vret hF rfl d_X7_take_237 ⟨rfl, rfl, rfl, ⟨(by rw [show (σ54 6 17) = (σ0 6 17) from ((ik54 6 17 rfl rfl rfl).trans (ik53 6 17 rfl rfl rfl))]; show (σ0 6 17).toInt ≤ (σ0 6 17).toInt + 1 ∧ (σ0 6 17).toInt - 1 ≤ (σ0 6 17).toInt; have e0 := s_rng (σ0 6 17); omega), iσ54, kp⟩⟩
    refine (Decidable.em (a1.toInt = 23)).elim (fun q55_34_3 => ?_) (fun q55_34_3 => ?_)
    · refine g_tableIn (off := 133) hF 167 d_X7_take_34 q55_34_3 (by decide) (by decide) (by decide +kernel) (by decide) ?_
      refine g_aload_n hF d_X7_take_167 rfl 2 rfl ?_
      refine g_iload_n hF d_X7_take_168 rfl 3 rfl ?_
      refine g_iload_n hF d_X7_take_169 rfl 1 rfl ?_
      refine g_callV (As := [.int a1, .int r1]) (rest := []) hF (c_X7_conditional a g r σ0 a1 r1 i0) (Nat.le_of_ble_eq_true rfl) mV_X7_conditional m_1299 (recv_ob obC_9) rfl rfl (Nat.le_of_ble_eq_true rfl) d_X7_take_170 (k_v (fun σ56 ⟨iσ56, ik56⟩ => ?_)) (fun _ _ _ h => h.elim)
      have kp : Keep [(4, 1), (6, 3), (6, 4), (6, 15), (6, 17), (7, 7), (9, 5)] [24, 45, 49, 50, 51, 52, 53, 54] σ0 σ56 := keep_c kp ik56 (by decide) (by decide)
      refine g_goto hF 237 d_X7_take_173 (by decide) ?_
      exact g_vret hF rfl d_X7_take_237 ⟨rfl, rfl, rfl, ⟨(by rw [show (σ56 6 17) = (σ0 6 17) from (ik56 6 17 rfl rfl rfl)]; show (σ0 6 17).toInt ≤ (σ0 6 17).toInt + 1 ∧ (σ0 6 17).toInt - 1 ≤ (σ0 6 17).toInt; have e0 := s_rng (σ0 6 17); omega), iσ56, kp⟩⟩
    refine (Decidable.em (a1.toInt = 24)).elim (fun q57_34_4 => ?_) (fun q57_34_4 => ?_)
    · refine g_tableIn (off := 133) hF 167 d_X7_take_34 q57_34_4 (by decide) (by decide) (by decide +kernel) (by decide) ?_
      refine g_aload_n hF d_X7_take_167 rfl 2 rfl ?_
      refine g_iload_n hF d_X7_take_168 rfl 3 rfl ?_
      refine g_iload_n hF d_X7_take_169 rfl 1 rfl ?_
      refine g_callV (As := [.int a1, .int r1]) (rest := []) hF (c_X7_conditional a g r σ0 a1 r1 i0) (Nat.le_of_ble_eq_true rfl) mV_X7_conditional m_1299 (recv_ob obC_9) rfl rfl (Nat.le_of_ble_eq_true rfl) d_X7_take_170 (k_v (fun σ58 ⟨iσ58, ik58⟩ => ?_)) (fun _ _ _ h => h.elim)
      have kp : Keep [(4, 1), (6, 3), (6, 4), (6, 15), (6, 17), (7, 7), (9, 5)] [24, 45, 49, 50, 51, 52, 53, 54] σ0 σ58 := keep_c kp ik58 (by decide) (by decide)
      refine g_goto hF 237 d_X7_take_173 (by decide) ?_
      exact g_vret hF rfl d_X7_take_237 ⟨rfl, rfl, rfl, ⟨(by rw [show (σ58 6 17) = (σ0 6 17) from (ik58 6 17 rfl rfl rfl)]; show (σ0 6 17).toInt ≤ (σ0 6 17).toInt + 1 ∧ (σ0 6 17).toInt - 1 ≤ (σ0 6 17).toInt; have e0 := s_rng (σ0 6 17); omega), iσ58, kp⟩⟩
    refine (Decidable.em (a1.toInt = 25)).elim (fun q59_34_5 => ?_) (fun q59_34_5 => ?_)
    · refine g_tableIn (off := 133) hF 167 d_X7_take_34 q59_34_5 (by decide) (by decide) (by decide +kernel) (by decide) ?_
      refine g_aload_n hF d_X7_take_167 rfl 2 rfl ?_
      refine g_iload_n hF d_X7_take_168 rfl 3 rfl ?_
      refine g_iload_n hF d_X7_take_169 rfl 1 rfl ?_
      refine g_callV (As := [.int a1, .int r1]) (rest := []) hF (c_X7_conditional a g r σ0 a1 r1 i0) (Nat.le_of_ble_eq_true rfl) mV_X7_conditional m_1299 (recv_ob obC_9) rfl rfl (Nat.le_of_ble_eq_true rfl) d_X7_take_170 (k_v (fun σ60 ⟨iσ60, ik60⟩ => ?_)) (fun _ _ _ h => h.elim)
      have kp : Keep [(4, 1), (6, 3), (6, 4), (6, 15), (6, 17), (7, 7), (9, 5)] [24, 45, 49, 50, 51, 52, 53, 54] σ0 σ60 := keep_c kp ik60 (by decide) (by decide)
      refine g_goto hF 237 d_X7_take_173 (by decide) ?_
      exact g_vret hF rfl d_X7_take_237 ⟨rfl, rfl, rfl, ⟨(by rw [show (σ60 6 17) = (σ0 6 17) from (ik60 6 17 rfl rfl rfl)]; show (σ0 6 17).toInt ≤ (σ0 6 17).toInt + 1 ∧ (σ0 6 17).toInt - 1 ≤ (σ0 6 17).toInt; have e0 := s_rng (σ0 6 17); omega), iσ60, kp⟩⟩
    refine (Decidable.em (a1.toInt = 26)).elim (fun q61_34_6 => ?_) (fun q61_34_6 => ?_)
    · refine g_tableIn (off := 177) hF 211 d_X7_take_34 q61_34_6 (by decide) (by decide) (by decide +kernel) (by decide) ?_
      refine g_aload_n hF d_X7_take_211 rfl 2 rfl ?_
      refine g_iload_n hF d_X7_take_212 rfl 3 rfl ?_
      refine g_iload_n hF d_X7_take_213 rfl 1 rfl ?_
      refine g_callV (As := [.int a1, .int r1]) (rest := []) hF (c_X7_whileLoop a g r σ0 a1 r1 i0) (Nat.le_of_ble_eq_true rfl) mV_X7_whileLoop m_1332 (recv_ob obC_9) rfl rfl (Nat.le_of_ble_eq_true rfl) d_X7_take_214 (k_v (fun σ62 ⟨iσ62, ik62⟩ => ?_)) (fun _ _ _ h => h.elim)
      have kp : Keep [(4, 1), (6, 3), (6, 4), (6, 15), (6, 17), (7, 7), (9, 5)] [24, 45, 49, 50, 51, 52, 53, 54] σ0 σ62 := keep_c kp ik62 (by decide) (by decide)
      refine g_goto hF 237 d_X7_take_217 (by decide) ?_
      exact g_vret hF rfl d_X7_take_237 ⟨rfl, rfl, rfl, ⟨(by rw [show (σ62 6 17) = (σ0 6 17) from (ik62 6 17 rfl rfl rfl)]; show (σ0 6 17).toInt ≤ (σ0 6 17).toInt + 1 ∧ (σ0 6 17).toInt - 1 ≤ (σ0 6 17).toInt; have e0 := s_rng (σ0 6 17); omega), iσ62, kp⟩⟩
    refine (Decidable.em (a1.toInt = 27)).elim (fun q63_34_7 => ?_) (fun q63_34_7 => ?_)
    · refine g_tableIn (off := 177) hF 211 d_X7_take_34 q63_34_7 (by decide) (by decide) (by decide +kernel) (by decide) ?_
      refine g_aload_n hF d_X7_take_211 rfl 2 rfl ?_
      refine g_iload_n hF d_X7_take_212 rfl 3 rfl ?_
      refine g_iload_n hF d_X7_take_213 rfl 1 rfl ?_
      refine g_callV (As := [.int a1, .int r1]) (rest := []) hF (c_X7_whileLoop a g r σ0 a1 r1 i0) (Nat.le_of_ble_eq_true rfl) mV_X7_whileLoop m_1332 (recv_ob obC_9) rfl rfl (Nat.le_of_ble_eq_true rfl) d_X7_take_214 (k_v (fun σ64 ⟨iσ64, ik64⟩ => ?_)) (fun _ _ _ h => h.elim)
      have kp : Keep [(4, 1), (6, 3), (6, 4), (6, 15), (6, 17), (7, 7), (9, 5)] [24, 45, 49, 50, 51, 52, 53, 54] σ0 σ64 := keep_c kp ik64 (by decide) (by decide)
      refine g_goto hF 237 d_X7_take_217 (by decide) ?_
      exact g_vret hF rfl d_X7_take_237 ⟨rfl, rfl, rfl, ⟨(by rw [show (σ64 6 17) = (σ0 6 17) from (ik64 6 17 rfl rfl rfl)]; show (σ0 6 17).toInt ≤ (σ0 6 17).toInt + 1 ∧ (σ0 6 17).toInt - 1 ≤ (σ0 6 17).toInt; have e0 := s_rng (σ0 6 17); omega), iσ64, kp⟩⟩
    refine (Decidable.em (a1.toInt = 28)).elim (fun q65_34_8 => ?_) (fun q65_34_8 => ?_)
    · refine g_tableIn (off := 177) hF 211 d_X7_take_34 q65_34_8 (by decide) (by decide) (by decide +kernel) (by decide) ?_
      refine g_aload_n hF d_X7_take_211 rfl 2 rfl ?_
      refine g_iload_n hF d_X7_take_212 rfl 3 rfl ?_
      refine g_iload_n hF d_X7_take_213 rfl 1 rfl ?_
      refine g_callV (As := [.int a1, .int r1]) (rest := []) hF (c_X7_whileLoop a g r σ0 a1 r1 i0) (Nat.le_of_ble_eq_true rfl) mV_X7_whileLoop m_1332 (recv_ob obC_9) rfl rfl (Nat.le_of_ble_eq_true rfl) d_X7_take_214 (k_v (fun σ66 ⟨iσ66, ik66⟩ => ?_)) (fun _ _ _ h => h.elim)
      have kp : Keep [(4, 1), (6, 3), (6, 4), (6, 15), (6, 17), (7, 7), (9, 5)] [24, 45, 49, 50, 51, 52, 53, 54] σ0 σ66 := keep_c kp ik66 (by decide) (by decide)
      refine g_goto hF 237 d_X7_take_217 (by decide) ?_
      exact g_vret hF rfl d_X7_take_237 ⟨rfl, rfl, rfl, ⟨(by rw [show (σ66 6 17) = (σ0 6 17) from (ik66 6 17 rfl rfl rfl)]; show (σ0 6 17).toInt ≤ (σ0 6 17).toInt + 1 ∧ (σ0 6 17).toInt - 1 ≤ (σ0 6 17).toInt; have e0 := s_rng (σ0 6 17); omega), iσ66, kp⟩⟩
    refine (Decidable.em (a1.toInt = 29)).elim (fun q67_34_9 => ?_) (fun q67_34_9 => ?_)
    · refine g_tableIn (off := 186) hF 220 d_X7_take_34 q67_34_9 (by decide) (by decide) (by decide +kernel) (by decide) ?_
      refine g_aload_n hF d_X7_take_220 rfl 2 rfl ?_
      refine g_iload_n hF d_X7_take_221 rfl 3 rfl ?_
      refine g_iload_n hF d_X7_take_222 rfl 1 rfl ?_
      refine g_callV (As := [.int a1, .int r1]) (rest := []) hF (c_X7_doLoop a g r σ0 a1 r1 i0) (Nat.le_of_ble_eq_true rfl) mV_X7_doLoop m_1344 (recv_ob obC_9) rfl rfl (Nat.le_of_ble_eq_true rfl) d_X7_take_223 (k_v (fun σ68 ⟨iσ68, ik68⟩ => ?_)) (fun _ _ _ h => h.elim)
      have kp : Keep [(4, 1), (6, 3), (6, 4), (6, 15), (6, 17), (7, 7), (9, 5)] [24, 45, 49, 50, 51, 52, 53, 54] σ0 σ68 := keep_c kp ik68 (by decide) (by decide)
      refine g_goto hF 237 d_X7_take_226 (by decide) ?_
      exact g_vret hF rfl d_X7_take_237 ⟨rfl, rfl, rfl, ⟨(by rw [show (σ68 6 17) = (σ0 6 17) from (ik68 6 17 rfl rfl rfl)]; show (σ0 6 17).toInt ≤ (σ0 6 17).toInt + 1 ∧ (σ0 6 17).toInt - 1 ≤ (σ0 6 17).toInt; have e0 := s_rng (σ0 6 17); omega), iσ68, kp⟩⟩
    refine (Decidable.em (a1.toInt = 30)).elim (fun q69_34_10 => ?_) (fun q69_34_10 => ?_)
    · refine g_tableIn (off := 186) hF 220 d_X7_take_34 q69_34_10 (by decide) (by decide) (by decide +kernel) (by decide) ?_
      refine g_aload_n hF d_X7_take_220 rfl 2 rfl ?_
      refine g_iload_n hF d_X7_take_221 rfl 3 rfl ?_
      refine g_iload_n hF d_X7_take_222 rfl 1 rfl ?_
      refine g_callV (As := [.int a1, .int r1]) (rest := []) hF (c_X7_doLoop a g r σ0 a1 r1 i0) (Nat.le_of_ble_eq_true rfl) mV_X7_doLoop m_1344 (recv_ob obC_9) rfl rfl (Nat.le_of_ble_eq_true rfl) d_X7_take_223 (k_v (fun σ70 ⟨iσ70, ik70⟩ => ?_)) (fun _ _ _ h => h.elim)
      have kp : Keep [(4, 1), (6, 3), (6, 4), (6, 15), (6, 17), (7, 7), (9, 5)] [24, 45, 49, 50, 51, 52, 53, 54] σ0 σ70 := keep_c kp ik70 (by decide) (by decide)
      refine g_goto hF 237 d_X7_take_226 (by decide) ?_
      exact g_vret hF rfl d_X7_take_237 ⟨rfl, rfl, rfl, ⟨(by rw [show (σ70 6 17) = (σ0 6 17) from (ik70 6 17 rfl rfl rfl)]; show (σ0 6 17).toInt ≤ (σ0 6 17).toInt + 1 ∧ (σ0 6 17).toInt - 1 ≤ (σ0 6 17).toInt; have e0 := s_rng (σ0 6 17); omega), iσ70, kp⟩⟩
    refine (Decidable.em (a1.toInt = 31)).elim (fun q71_34_11 => ?_) (fun q71_34_11 => ?_)
    · refine g_tableIn (off := 186) hF 220 d_X7_take_34 q71_34_11 (by decide) (by decide) (by decide +kernel) (by decide) ?_
      refine g_aload_n hF d_X7_take_220 rfl 2 rfl ?_
      refine g_iload_n hF d_X7_take_221 rfl 3 rfl ?_
      refine g_iload_n hF d_X7_take_222 rfl 1 rfl ?_
      refine g_callV (As := [.int a1, .int r1]) (rest := []) hF (c_X7_doLoop a g r σ0 a1 r1 i0) (Nat.le_of_ble_eq_true rfl) mV_X7_doLoop m_1344 (recv_ob obC_9) rfl rfl (Nat.le_of_ble_eq_true rfl) d_X7_take_223 (k_v (fun σ72 ⟨iσ72, ik72⟩ => ?_)) (fun _ _ _ h => h.elim)
      have kp : Keep [(4, 1), (6, 3), (6, 4), (6, 15), (6, 17), (7, 7), (9, 5)] [24, 45, 49, 50, 51, 52, 53, 54] σ0 σ72 := keep_c kp ik72 (by decide) (by decide)
      refine g_goto hF 237 d_X7_take_226 (by decide) ?_
      exact g_vret hF rfl d_X7_take_237 ⟨rfl, rfl, rfl, ⟨(by rw [show (σ72 6 17) = (σ0 6 17) from (ik72 6 17 rfl rfl rfl)]; show (σ0 6 17).toInt ≤ (σ0 6 17).toInt + 1 ∧ (σ0 6 17).toInt - 1 ≤ (σ0 6 17).toInt; have e0 := s_rng (σ0 6 17); omega), iσ72, kp⟩⟩
    refine (Decidable.em (a1.toInt = 32)).elim (fun q73_34_12 => ?_) (fun q73_34_12 => ?_)
    · refine g_tableIn (off := 195) hF 229 d_X7_take_34 q73_34_12 (by decide) (by decide) (by decide +kernel) (by decide) ?_
      refine g_aload_n hF d_X7_take_229 rfl 2 rfl ?_
      refine g_iload_n hF d_X7_take_230 rfl 3 rfl ?_
      refine g_iload_n hF d_X7_take_231 rfl 1 rfl ?_
      refine g_iload hF d_X7_take_232 0 rfl ?_
      refine g_callV (As := [.int a1, .int r1, .int 1]) (rest := []) hF (c_X7_forLoop a g r σ0 a1 r1 (1 : Int32) i0 (Or.inr rfl)) (Nat.le_of_ble_eq_true rfl) mV_X7_forLoop m_1348 (recv_ob obC_9) rfl rfl (Nat.le_of_ble_eq_true rfl) d_X7_take_234 (k_v (fun σ74 ⟨iσ74, ik74⟩ => ?_)) (fun _ _ _ h => h.elim)
      have kp : Keep [(4, 1), (6, 3), (6, 4), (6, 15), (6, 17), (7, 7), (9, 5)] [24, 45, 49, 50, 51, 52, 53, 54] σ0 σ74 := keep_c kp ik74 (by decide) (by decide)
      exact g_vret hF rfl d_X7_take_237 ⟨rfl, rfl, rfl, ⟨(by rw [show (σ74 6 17) = (σ0 6 17) from (ik74 6 17 rfl rfl rfl)]; show (σ0 6 17).toInt ≤ (σ0 6 17).toInt + 1 ∧ (σ0 6 17).toInt - 1 ≤ (σ0 6 17).toInt; have e0 := s_rng (σ0 6 17); omega), iσ74, kp⟩⟩
    refine (Decidable.em (a1.toInt = 33)).elim (fun q75_34_13 => ?_) (fun q75_34_13 => ?_)
    · refine g_tableIn (off := 195) hF 229 d_X7_take_34 q75_34_13 (by decide) (by decide) (by decide +kernel) (by decide) ?_
      refine g_aload_n hF d_X7_take_229 rfl 2 rfl ?_
      refine g_iload_n hF d_X7_take_230 rfl 3 rfl ?_
      refine g_iload_n hF d_X7_take_231 rfl 1 rfl ?_
      refine g_iload hF d_X7_take_232 0 rfl ?_
      refine g_callV (As := [.int a1, .int r1, .int 1]) (rest := []) hF (c_X7_forLoop a g r σ0 a1 r1 (1 : Int32) i0 (Or.inr rfl)) (Nat.le_of_ble_eq_true rfl) mV_X7_forLoop m_1348 (recv_ob obC_9) rfl rfl (Nat.le_of_ble_eq_true rfl) d_X7_take_234 (k_v (fun σ76 ⟨iσ76, ik76⟩ => ?_)) (fun _ _ _ h => h.elim)
      have kp : Keep [(4, 1), (6, 3), (6, 4), (6, 15), (6, 17), (7, 7), (9, 5)] [24, 45, 49, 50, 51, 52, 53, 54] σ0 σ76 := keep_c kp ik76 (by decide) (by decide)
      exact g_vret hF rfl d_X7_take_237 ⟨rfl, rfl, rfl, ⟨(by rw [show (σ76 6 17) = (σ0 6 17) from (ik76 6 17 rfl rfl rfl)]; show (σ0 6 17).toInt ≤ (σ0 6 17).toInt + 1 ∧ (σ0 6 17).toInt - 1 ≤ (σ0 6 17).toInt; have e0 := s_rng (σ0 6 17); omega), iσ76, kp⟩⟩
    refine (Decidable.em (a1.toInt = 34)).elim (fun q77_34_14 => ?_) (fun q77_34_14 => ?_)
    · refine g_tableIn (off := 195) hF 229 d_X7_take_34 q77_34_14 (by decide) (by decide) (by decide +kernel) (by decide) ?_
      refine g_aload_n hF d_X7_take_229 rfl 2 rfl ?_
      refine g_iload_n hF d_X7_take_230 rfl 3 rfl ?_
      refine g_iload_n hF d_X7_take_231 rfl 1 rfl ?_
      refine g_iload hF d_X7_take_232 0 rfl ?_
      refine g_callV (As := [.int a1, .int r1, .int 1]) (rest := []) hF (c_X7_forLoop a g r σ0 a1 r1 (1 : Int32) i0 (Or.inr rfl)) (Nat.le_of_ble_eq_true rfl) mV_X7_forLoop m_1348 (recv_ob obC_9) rfl rfl (Nat.le_of_ble_eq_true rfl) d_X7_take_234 (k_v (fun σ78 ⟨iσ78, ik78⟩ => ?_)) (fun _ _ _ h => h.elim)
      have kp : Keep [(4, 1), (6, 3), (6, 4), (6, 15), (6, 17), (7, 7), (9, 5)] [24, 45, 49, 50, 51, 52, 53, 54] σ0 σ78 := keep_c kp ik78 (by decide) (by decide)
      exact g_vret hF rfl d_X7_take_237 ⟨rfl, rfl, rfl, ⟨(by rw [show (σ78 6 17) = (σ0 6 17) from (ik78 6 17 rfl rfl rfl)]; show (σ0 6 17).toInt ≤ (σ0 6 17).toInt + 1 ∧ (σ0 6 17).toInt - 1 ≤ (σ0 6 17).toInt; have e0 := s_rng (σ0 6 17); omega), iσ78, kp⟩⟩
    refine (Decidable.em (a1.toInt = 35)).elim (fun q79_34_15 => ?_) (fun q79_34_15 => ?_)
    · refine g_tableIn (off := 195) hF 229 d_X7_take_34 q79_34_15 (by decide) (by decide) (by decide +kernel) (by decide) ?_
      refine g_aload_n hF d_X7_take_229 rfl 2 rfl ?_
      refine g_iload_n hF d_X7_take_230 rfl 3 rfl ?_
      refine g_iload_n hF d_X7_take_231 rfl 1 rfl ?_
      refine g_iload hF d_X7_take_232 0 rfl ?_
      refine g_callV (As := [.int a1, .int r1, .int 1]) (rest := []) hF (c_X7_forLoop a g r σ0 a1 r1 (1 : Int32) i0 (Or.inr rfl)) (Nat.le_of_ble_eq_true rfl) mV_X7_forLoop m_1348 (recv_ob obC_9) rfl rfl (Nat.le_of_ble_eq_true rfl) d_X7_take_234 (k_v (fun σ80 ⟨iσ80, ik80⟩ => ?_)) (fun _ _ _ h => h.elim)
      have kp : Keep [(4, 1), (6, 3), (6, 4), (6, 15), (6, 17), (7, 7), (9, 5)] [24, 45, 49, 50, 51, 52, 53, 54] σ0 σ80 := keep_c kp ik80 (by decide) (by decide)
      exact g_vret hF rfl d_X7_take_237 ⟨rfl, rfl, rfl, ⟨(by rw [show (σ80 6 17) = (σ0 6 17) from (ik80 6 17 rfl rfl rfl)]; show (σ0 6 17).toInt ≤ (σ0 6 17).toInt + 1 ∧ (σ0 6 17).toInt - 1 ≤ (σ0 6 17).toInt; have e0 := s_rng (σ0 6 17); omega), iσ80, kp⟩⟩
    refine (Decidable.em (a1.toInt = 36)).elim (fun q81_34_16 => ?_) (fun q81_34_16 => ?_)
    · refine g_tableIn (off := 142) hF 176 d_X7_take_34 q81_34_16 (by decide) (by decide) (by decide +kernel) (by decide) ?_
      refine g_aload_n hF d_X7_take_176 rfl 2 rfl ?_
      refine g_iload_n hF d_X7_take_177 rfl 1 rfl ?_
      refine g_iload_n hF d_X7_take_178 rfl 3 rfl ?_
      refine g_bipush hF (v := 36) d_X7_take_179 (by decide) ?_
      refine g_icmp_ne (yv := 36) hF 191 d_X7_take_181 (by decide) rfl (by decide) (fun c82_181 => ?_) (fun c82_181 => ?_)
      · -- taken at 181
        refine g_aload_n hF d_X7_take_191 rfl 2 rfl ?_
        refine g_get (v := .ref (r 52)) hF 9 obC_9 (by decide) m_562 rfl d_X7_take_192 ?_
        refine g_callV (As := [.int r1, .ref (r 52)]) (rest := []) hF (c_X7_leave_r9_r52 a g r σ0 r1 i0) (Nat.le_of_ble_eq_true rfl) mV_X7_leave m_1323 (recv_ob obC_9) rfl rfl (Nat.le_of_ble_eq_true rfl) d_X7_take_195 (k_v (fun σ83 ⟨iσ83, ik83⟩ => ?_)) (fun _ _ _ h => h.elim)
        have kp : Keep [(4, 1), (6, 3), (6, 4), (6, 15), (6, 17), (7, 7), (9, 5)] [24, 45, 49, 50, 51, 52, 53, 54] σ0 σ83 := keep_c kp ik83 (by decide) (by decide)
        refine g_goto hF 237 d_X7_take_198 (by decide) ?_
        exact g_vret hF rfl d_X7_take_237 ⟨rfl, rfl, rfl, ⟨(by rw [show (σ83 6 17) = (σ0 6 17) from (ik83 6 17 rfl rfl rfl)]; show (σ0 6 17).toInt ≤ (σ0 6 17).toInt + 1 ∧ (σ0 6 17).toInt - 1 ≤ (σ0 6 17).toInt; have e0 := s_rng (σ0 6 17); omega), iσ83, kp⟩⟩
      · -- not taken at 181
        refine g_aload_n hF d_X7_take_184 rfl 2 rfl ?_
        refine g_get (v := .ref (r 51)) hF 8 obC_9 (by decide) m_561 rfl d_X7_take_185 ?_
        refine g_goto hF 195 d_X7_take_188 (by decide) ?_
        refine g_callV (As := [.int r1, .ref (r 51)]) (rest := []) hF (c_X7_leave_r9_r51 a g r σ0 r1 i0) (Nat.le_of_ble_eq_true rfl) mV_X7_leave m_1323 (recv_ob obC_9) rfl rfl (Nat.le_of_ble_eq_true rfl) d_X7_take_195 (k_v (fun σ84 ⟨iσ84, ik84⟩ => ?_)) (fun _ _ _ h => h.elim)
        have kp : Keep [(4, 1), (6, 3), (6, 4), (6, 15), (6, 17), (7, 7), (9, 5)] [24, 45, 49, 50, 51, 52, 53, 54] σ0 σ84 := keep_c kp ik84 (by decide) (by decide)
        refine g_goto hF 237 d_X7_take_198 (by decide) ?_
        exact g_vret hF rfl d_X7_take_237 ⟨rfl, rfl, rfl, ⟨(by rw [show (σ84 6 17) = (σ0 6 17) from (ik84 6 17 rfl rfl rfl)]; show (σ0 6 17).toInt ≤ (σ0 6 17).toInt + 1 ∧ (σ0 6 17).toInt - 1 ≤ (σ0 6 17).toInt; have e0 := s_rng (σ0 6 17); omega), iσ84, kp⟩⟩
    refine (Decidable.em (a1.toInt = 37)).elim (fun q85_34_17 => ?_) (fun q85_34_17 => ?_)
    · refine g_tableIn (off := 142) hF 176 d_X7_take_34 q85_34_17 (by decide) (by decide) (by decide +kernel) (by decide) ?_
      refine g_aload_n hF d_X7_take_176 rfl 2 rfl ?_
      refine g_iload_n hF d_X7_take_177 rfl 1 rfl ?_
      refine g_iload_n hF d_X7_take_178 rfl 3 rfl ?_
      refine g_bipush hF (v := 36) d_X7_take_179 (by decide) ?_
      refine g_icmp_ne (yv := 36) hF 191 d_X7_take_181 (by decide) rfl (by decide) (fun c86_181 => ?_) (fun c86_181 => ?_)
      · -- taken at 181
        refine g_aload_n hF d_X7_take_191 rfl 2 rfl ?_
        refine g_get (v := .ref (r 52)) hF 9 obC_9 (by decide) m_562 rfl d_X7_take_192 ?_
        refine g_callV (As := [.int r1, .ref (r 52)]) (rest := []) hF (c_X7_leave_r9_r52 a g r σ0 r1 i0) (Nat.le_of_ble_eq_true rfl) mV_X7_leave m_1323 (recv_ob obC_9) rfl rfl (Nat.le_of_ble_eq_true rfl) d_X7_take_195 (k_v (fun σ87 ⟨iσ87, ik87⟩ => ?_)) (fun _ _ _ h => h.elim)
        have kp : Keep [(4, 1), (6, 3), (6, 4), (6, 15), (6, 17), (7, 7), (9, 5)] [24, 45, 49, 50, 51, 52, 53, 54] σ0 σ87 := keep_c kp ik87 (by decide) (by decide)
        refine g_goto hF 237 d_X7_take_198 (by decide) ?_
        exact g_vret hF rfl d_X7_take_237 ⟨rfl, rfl, rfl, ⟨(by rw [show (σ87 6 17) = (σ0 6 17) from (ik87 6 17 rfl rfl rfl)]; show (σ0 6 17).toInt ≤ (σ0 6 17).toInt + 1 ∧ (σ0 6 17).toInt - 1 ≤ (σ0 6 17).toInt; have e0 := s_rng (σ0 6 17); omega), iσ87, kp⟩⟩
      · -- not taken at 181
        refine g_aload_n hF d_X7_take_184 rfl 2 rfl ?_
        refine g_get (v := .ref (r 51)) hF 8 obC_9 (by decide) m_561 rfl d_X7_take_185 ?_
        refine g_goto hF 195 d_X7_take_188 (by decide) ?_
        refine g_callV (As := [.int r1, .ref (r 51)]) (rest := []) hF (c_X7_leave_r9_r51 a g r σ0 r1 i0) (Nat.le_of_ble_eq_true rfl) mV_X7_leave m_1323 (recv_ob obC_9) rfl rfl (Nat.le_of_ble_eq_true rfl) d_X7_take_195 (k_v (fun σ88 ⟨iσ88, ik88⟩ => ?_)) (fun _ _ _ h => h.elim)
        have kp : Keep [(4, 1), (6, 3), (6, 4), (6, 15), (6, 17), (7, 7), (9, 5)] [24, 45, 49, 50, 51, 52, 53, 54] σ0 σ88 := keep_c kp ik88 (by decide) (by decide)
        refine g_goto hF 237 d_X7_take_198 (by decide) ?_
        exact g_vret hF rfl d_X7_take_237 ⟨rfl, rfl, rfl, ⟨(by rw [show (σ88 6 17) = (σ0 6 17) from (ik88 6 17 rfl rfl rfl)]; show (σ0 6 17).toInt ≤ (σ0 6 17).toInt + 1 ∧ (σ0 6 17).toInt - 1 ≤ (σ0 6 17).toInt; have e0 := s_rng (σ0 6 17); omega), iσ88, kp⟩⟩
    refine (Decidable.em (a1.toInt = 38)).elim (fun q89_34_18 => ?_) (fun q89_34_18 => ?_)
    · refine g_tableIn (off := 167) hF 201 d_X7_take_34 q89_34_18 (by decide) (by decide) (by decide +kernel) (by decide) ?_
      refine g_aload_n hF d_X7_take_201 rfl 2 rfl ?_
      refine g_iload_n hF d_X7_take_202 rfl 1 rfl ?_
      refine g_iload hF d_X7_take_203 0 rfl ?_
      refine g_callV (As := [.int r1, .int 1]) (rest := []) hF (c_X7_giveBack a g r σ0 r1 (1 : Int32) i0 (Or.inr rfl)) (Nat.le_of_ble_eq_true rfl) mV_X7_giveBack m_1327 (recv_ob obC_9) rfl rfl (Nat.le_of_ble_eq_true rfl) d_X7_take_205 (k_v (fun σ90 ⟨iσ90, ik90⟩ => ?_)) (fun _ _ _ h => h.elim)
      have kp : Keep [(4, 1), (6, 3), (6, 4), (6, 15), (6, 17), (7, 7), (9, 5)] [24, 45, 49, 50, 51, 52, 53, 54] σ0 σ90 := keep_c kp ik90 (by decide) (by decide)
      refine g_goto hF 237 d_X7_take_208 (by decide) ?_
      exact g_vret hF rfl d_X7_take_237 ⟨rfl, rfl, rfl, ⟨(by rw [show (σ90 6 17) = (σ0 6 17) from (ik90 6 17 rfl rfl rfl)]; show (σ0 6 17).toInt ≤ (σ0 6 17).toInt + 1 ∧ (σ0 6 17).toInt - 1 ≤ (σ0 6 17).toInt; have e0 := s_rng (σ0 6 17); omega), iσ90, kp⟩⟩
    refine g_tableOut hF 229 d_X7_take_34 rfl (by omega) (by decide) ?_
    refine g_aload_n hF d_X7_take_229 rfl 2 rfl ?_
    refine g_iload_n hF d_X7_take_230 rfl 3 rfl ?_
    refine g_iload_n hF d_X7_take_231 rfl 1 rfl ?_
    refine g_iload hF d_X7_take_232 0 rfl ?_
    refine g_callV (As := [.int a1, .int r1, .int 1]) (rest := []) hF (c_X7_forLoop a g r σ0 a1 r1 (1 : Int32) i0 (Or.inr rfl)) (Nat.le_of_ble_eq_true rfl) mV_X7_forLoop m_1348 (recv_ob obC_9) rfl rfl (Nat.le_of_ble_eq_true rfl) d_X7_take_234 (k_v (fun σ91 ⟨iσ91, ik91⟩ => ?_)) (fun _ _ _ h => h.elim)
    have kp : Keep [(4, 1), (6, 3), (6, 4), (6, 15), (6, 17), (7, 7), (9, 5)] [24, 45, 49, 50, 51, 52, 53, 54] σ0 σ91 := keep_c kp ik91 (by decide) (by decide)
    exact g_vret hF rfl d_X7_take_237 ⟨rfl, rfl, rfl, ⟨(by rw [show (σ91 6 17) = (σ0 6 17) from (ik91 6 17 rfl rfl rfl)]; show (σ0 6 17).toInt ≤ (σ0 6 17).toInt + 1 ∧ (σ0 6 17).toInt - 1 ≤ (σ0 6 17).toInt; have e0 := s_rng (σ0 6 17); omega), iσ91, kp⟩⟩
set_option maxHeartbeats 4000000 in
set_option maxRecDepth 100000 in
theorem c_X12_run (a : Nat → Nat) (g : Nat → Nat → Int32) (r : Nat → Nat) (σ0 : St) (a1 : Int32) (i0 : Inv σ0) (l : Launch) (D : va_G) (cy : Nat → ClassId) : Ct l D cy SC r (EC a g) y_X12_run (Cond.code y_X12_run b_X12_run 2 (some .int)) 7 [.ref (r 0), .int a1] σ0 Z0 [] (QI (fun _ σ9 => (Inv σ9 ∧ Keep [(11, 0), (11, 1), (11, 2), (12, 7), (12, 8), (12, 9), (12, 10), (12, 11), (12, 12), (12, 13), (12, 14), (12, 15), (12, 16), (12, 17), (12, 18)] [61, 62, 63, 64] σ0 σ9))) QF := by
  refine Ct_of (EC_ok a g) (by decide) (Nat.le_of_ble_eq_true rfl) (by decide) (fun X hnn hF => ?_)
  show G SC r X σ0 Z0 [] [(0, .ref (r 0)), (1, .int a1)] [] 0
  have kp : Keep [(11, 0), (11, 1), (11, 2), (12, 7), (12, 8), (12, 9), (12, 10), (12, 11), (12, 12), (12, 13), (12, 14), (12, 15), (12, 16), (12, 17), (12, 18)] [61, 62, 63, 64] σ0 σ0 := keep_rf
  refine g_aload_n hF d_X12_run_0 rfl 0 rfl ?_
  refine g_get (v := .ref (r 10)) hF 12 obC_0 (by decide) m_747 rfl d_X12_run_1 ?_
  refine g_getN (v := .int (σ0 10 2)) hF 2 obC_10 (by decide) nm_600 rfl d_X12_run_4 ?_
  refine g_if_ne hF 12 d_X12_run_7 (by decide) rfl (fun c1_7 => ?_) (fun c1_7 => ?_)
  · -- taken at 7
    refine g_iload_n hF d_X12_run_12 rfl 1 rfl ?_
    refine g_if_lt hF 23 d_X12_run_13 (by decide) rfl (fun c2_13 => ?_) (fun c2_13 => ?_)
    · -- taken at 13
      refine g_bipush hF (v := (-2)) d_X12_run_23 (by decide) ?_
      refine g_goto hF 36 d_X12_run_25 (by decide) ?_
      exact g_iret hF rfl d_X12_run_36 ⟨rfl, rfl, ((-2) : Int32), rfl, ⟨i0, kp⟩⟩
    · -- not taken at 13
      refine g_iload_n hF d_X12_run_16 rfl 1 rfl ?_
      refine g_sipush hF (v := 20000) d_X12_run_17 (by decide) ?_
      refine g_icmp_le (yv := 20000) hF 28 d_X12_run_20 (by decide) rfl (by decide) (fun c3_20 => ?_) (fun c3_20 => ?_)
      · -- taken at 20
        refine g_aload_n hF d_X12_run_28 rfl 0 rfl ?_
        refine g_get (v := .ref (r 12)) hF 14 obC_0 (by decide) m_749 rfl d_X12_run_29 ?_
        refine g_iload_n hF d_X12_run_32 rfl 1 rfl ?_
        refine g_callVN (As := [.int a1]) (rest := []) hF (c_X5_execute a g r σ0 a1 i0) (Nat.le_of_ble_eq_true rfl) mV_X5_execute nm_1629 (recv_ob obC_12) rfl rfl (Nat.le_of_ble_eq_true rfl) d_X12_run_33 (k_i (fun r4 σ4 ⟨iσ4, ik4⟩ => ?_))
        have kp : Keep [(11, 0), (11, 1), (11, 2), (12, 7), (12, 8), (12, 9), (12, 10), (12, 11), (12, 12), (12, 13), (12, 14), (12, 15), (12, 16), (12, 17), (12, 18)] [61, 62, 63, 64] σ0 σ4 := keep_c kp ik4 (by decide) (by decide)
        exact g_iret hF rfl d_X12_run_36 ⟨rfl, rfl, r4, rfl, ⟨iσ4, kp⟩⟩
      · -- not taken at 20
        refine g_bipush hF (v := (-2)) d_X12_run_23 (by decide) ?_
        refine g_goto hF 36 d_X12_run_25 (by decide) ?_
        exact g_iret hF rfl d_X12_run_36 ⟨rfl, rfl, ((-2) : Int32), rfl, ⟨i0, kp⟩⟩
  · -- not taken at 7
    refine g_iconst hF (v := (-1)) d_X12_run_10 (by decide) ?_
    exact g_iret hF rfl d_X12_run_11 ⟨rfl, rfl, ((-1) : Int32), rfl, ⟨i0, kp⟩⟩
set_option maxHeartbeats 4000000 in
set_option maxRecDepth 100000 in
theorem c_X8_isNamed_r5_r55 (a : Nat → Nat) (g : Nat → Nat → Int32) (r : Nat → Nat) (σ0 : St) (a1 : Int32) (a3 : Int32) (a4 : Int32) (i0 : Inv σ0) (l : Launch) (D : va_G) (cy : Nat → ClassId) : Ct l D cy SC r (EC a g) y_X8_isNamed (Cond.code y_X8_isNamed b_X8_isNamed 7 (some .boolean)) 1 [.ref (r 5), .int a1, .ref (r 55), .int a3, .int a4] σ0 Z0 [] (QI (fun v9 σ9 => (v9 = 0 ∨ v9 = 1) ∧ σ9 = σ0)) QF := by
  refine Ct_of (EC_ok a g) (by decide) (Nat.le_of_ble_eq_true rfl) (by decide) (fun X hnn hF => ?_)
  show G SC r X σ0 Z0 [] [(0, .ref (r 5)), (1, .int a1), (2, .ref (r 55)), (3, .int a3), (4, .int a4)] [] 0
  have b33 : ∀ (N : Nat) (x1 : Int32) (x3 : Int32) (x4 : Int32) (x5 : Int32) (x6 : Int32) , upm x6 = N → (0 ≤ x5.toInt ∧ 0 ≤ x6.toInt ∧ x5.toInt + x6.toInt ≤ 65600 ∧ (x6.toInt = 0 ∨ (0 ≤ x3.toInt ∧ x3.toInt + x6.toInt ≤ 65600))) → G SC r X σ0 Z0 [] [(0, .ref (r 5)), (1, .int x1), (2, .ref (r 55)), (3, .int x3), (4, .int x4), (5, .int x5), (6, .int x6)] [] 33 := by
    intro M33
    induction M33 using Nat.strongRecOn with
    | _ M33 ih33 =>
      intro x1 x3 x4 x5 x6 N33 hj
      refine g_iload hF d_X8_isNamed_33 6 rfl ?_
      refine g_iload hF d_X8_isNamed_35 4 rfl ?_
      refine g_icmp_ge hF 93 d_X8_isNamed_37 (by decide) rfl rfl (fun c1_37 => ?_) (fun c1_37 => ?_)
      · -- taken at 37
        refine g_iconst hF (v := 1) d_X8_isNamed_93 (by decide) ?_
        exact g_zret hF rfl (k_nz (Or.inr rfl)) d_X8_isNamed_94 ⟨rfl, rfl, (1 : Int32), rfl, (Or.inr rfl), rfl⟩
      · -- not taken at 37
        refine g_iload hF d_X8_isNamed_40 5 rfl ?_
        refine g_iload hF d_X8_isNamed_42 6 rfl ?_
        refine g_iadd hF d_X8_isNamed_44 ?_
        refine g_aload_n hF d_X8_isNamed_45 rfl 0 rfl ?_
        refine g_get (v := .ref (r 30)) hF 8 obC_5 (by decide) m_240 rfl d_X8_isNamed_46 ?_
        refine g_alen hF arC_30 (fun _ => ⟨0, _, rfl⟩) (v := 65600) (by decide) d_X8_isNamed_49 ?_
        refine g_icmp_ge (yv := 65600) hF 85 d_X8_isNamed_50 (by decide) rfl (by decide) (fun c2_50 => ?_) (fun c2_50 => ?_)
        · -- taken at 50
          refine g_iconst hF (v := 0) d_X8_isNamed_85 (by decide) ?_
          exact g_zret hF rfl (k_nz (Or.inl rfl)) d_X8_isNamed_86 ⟨rfl, rfl, (0 : Int32), rfl, (Or.inl rfl), rfl⟩
        · -- not taken at 50
          refine g_iload_n hF d_X8_isNamed_53 rfl 3 rfl ?_
          refine g_if_lt hF 85 d_X8_isNamed_54 (by decide) rfl (fun c3_54 => ?_) (fun c3_54 => ?_)
          · -- taken at 54
            refine g_iconst hF (v := 0) d_X8_isNamed_85 (by decide) ?_
            exact g_zret hF rfl (k_nz (Or.inl rfl)) d_X8_isNamed_86 ⟨rfl, rfl, (0 : Int32), rfl, (Or.inl rfl), rfl⟩
          · -- not taken at 54
            refine g_iload_n hF d_X8_isNamed_57 rfl 3 rfl ?_
            refine g_iload hF d_X8_isNamed_58 6 rfl ?_
            refine g_iadd hF d_X8_isNamed_60 ?_
            refine g_aload_n hF d_X8_isNamed_61 rfl 2 rfl ?_
            refine g_alen hF arC_55 (fun _ => ⟨0, _, rfl⟩) (v := 4) (by decide) d_X8_isNamed_62 ?_
            refine g_icmp_ge (yv := 4) hF 85 d_X8_isNamed_63 (by decide) rfl (by decide) (fun c4_63 => ?_) (fun c4_63 => ?_)
            · -- taken at 63
              refine g_iconst hF (v := 0) d_X8_isNamed_85 (by decide) ?_
              exact g_zret hF rfl (k_nz (Or.inl rfl)) d_X8_isNamed_86 ⟨rfl, rfl, (0 : Int32), rfl, (Or.inl rfl), rfl⟩
            · -- not taken at 63
              refine g_aload_n hF d_X8_isNamed_66 rfl 0 rfl ?_
              refine g_get (v := .ref (r 30)) hF 8 obC_5 (by decide) m_240 rfl d_X8_isNamed_67 ?_
              refine g_iload hF d_X8_isNamed_70 5 rfl ?_
              refine g_iload hF d_X8_isNamed_72 6 rfl ?_
              refine g_iadd hF d_X8_isNamed_74 ?_
              refine g_bald hF arC_30 (by refine s_in (by decide) ?_ ?_ <;> (have e0 := s_rng x5; have e1 := s_rng x6; obtain ⟨k2, e2⟩ := s_add x5 x6; have e2a := s_rng (x5 + x6); have e4 := s_rng x4; have e5 : (65600 : Int32).toInt = 65600 := (by decide); have e6 := s_rng x3; obtain ⟨k7, e7⟩ := s_add x3 x6; have e7a := s_rng (x3 + x6); have e9 : (4 : Int32).toInt = 4 := (by decide); have e10 : (0 : Int32).toInt = 0 := (by decide); omega)) d_X8_isNamed_75 ?_
              refine g_any (fun v5 => ?_)
              refine g_aload_n hF d_X8_isNamed_76 rfl 2 rfl ?_
              refine g_iload_n hF d_X8_isNamed_77 rfl 3 rfl ?_
              refine g_iload hF d_X8_isNamed_78 6 rfl ?_
              refine g_iadd hF d_X8_isNamed_80 ?_
              refine g_bald hF arC_55 (by refine s_in (by decide) ?_ ?_ <;> (have e0 := s_rng x3; have e1 := s_rng x6; obtain ⟨k2, e2⟩ := s_add x3 x6; have e2a := s_rng (x3 + x6); have e4 := s_rng x4; have e5 := s_rng x5; obtain ⟨k6, e6⟩ := s_add x5 x6; have e6a := s_rng (x5 + x6); have e8 : (65600 : Int32).toInt = 65600 := (by decide); have e9 : (0 : Int32).toInt = 0 := (by decide); have e10 : (4 : Int32).toInt = 4 := (by decide); omega)) d_X8_isNamed_81 ?_
              refine g_any (fun v6 => ?_)
              refine g_icmp_eq hF 87 d_X8_isNamed_82 (by decide) rfl rfl (fun c7_82 => ?_) (fun c7_82 => ?_)
              · -- taken at 82
                refine g_iinc hF (x6 + 1) [(6, .int (x6 + 1)), (0, .ref (r 5)), (1, .int x1), (2, .ref (r 55)), (3, .int x3), (4, .int x4), (5, .int x5)] d_X8_isNamed_87 6 rfl rfl hnn (by decide) rfl ?_
                refine g_goto hF 33 d_X8_isNamed_90 (by decide) ?_
                exact g_sub (L' := [(0, .ref (r 5)), (1, .int x1), (2, .ref (r 55)), (3, .int x3), (4, .int x4), (5, .int x5), (6, .int (x6 + 1))]) [1, 2, 3, 4, 5, 6, 0] rfl (ih33 _ (N33 ▸ upm_lt c1_37 (s_rng x4).2) x1 x3 x4 x5 (x6 + 1) rfl (by show 0 ≤ x5.toInt ∧ 0 ≤ (x6 + 1).toInt ∧ x5.toInt + (x6 + 1).toInt ≤ 65600 ∧ ((x6 + 1).toInt = 0 ∨ (0 ≤ x3.toInt ∧ x3.toInt + (x6 + 1).toInt ≤ 65600)); have e0 := s_rng x6; have e1 : (1 : Int32).toInt = 1 := (by decide); obtain ⟨k2, e2⟩ := s_add x6 (1 : Int32); have e2a := s_rng (x6 + 1); have e4 := s_rng x1; have e5 := s_rng x3; have e6 := s_rng x4; have e7 := s_rng x5; obtain ⟨k8, e8⟩ := s_add x5 x6; have e8a := s_rng (x5 + x6); have e10 : (65600 : Int32).toInt = 65600 := (by decide); have e11 : (0 : Int32).toInt = 0 := (by decide); obtain ⟨k12, e12⟩ := s_add x3 x6; have e12a := s_rng (x3 + x6); have e14 : (4 : Int32).toInt = 4 := (by decide); omega))
              · -- not taken at 82
                refine g_iconst hF (v := 0) d_X8_isNamed_85 (by decide) ?_
                exact g_zret hF rfl (k_nz (Or.inl rfl)) d_X8_isNamed_86 ⟨rfl, rfl, (0 : Int32), rfl, (Or.inl rfl), rfl⟩
  refine g_aload_n hF d_X8_isNamed_0 rfl 0 rfl ?_
  refine g_get (v := .ref (r 29)) hF 6 obC_5 (by decide) m_237 rfl d_X8_isNamed_1 ?_
  refine g_iload_n hF d_X8_isNamed_4 rfl 1 rfl ?_
  refine g_iconst hF (v := 1) d_X8_isNamed_5 (by decide) ?_
  refine g_isub hF d_X8_isNamed_6 ?_
  refine g_callSN (As := [.ref (r 29), .int (a1 - 1)]) (rest := []) hF (c_at a g r σ0 arC_29 (by decide) (a1 - 1)) (Nat.le_of_ble_eq_true rfl) mS_X12_at nm_1125 rfl rfl (Nat.le_of_ble_eq_true rfl) d_X8_isNamed_7 (k_rop (fun r8 hr8 => ?_))
  have hr8 : 0 ≤ r8.toInt ∧ r8.toInt ≤ 65600 := acr_at i0.2.2.2.2.2.2.2.2.2.2.2.2.2.2.2.1 (by decide) (by decide) (hr8.imp And.left (fun h => ⟨_, h.2⟩))
  refine g_istore hF [(5, .int r8), (0, .ref (r 5)), (1, .int a1), (2, .ref (r 55)), (3, .int a3), (4, .int a4)] d_X8_isNamed_10 hnn (by decide) rfl ?_
  refine g_aload_n hF d_X8_isNamed_12 rfl 1 rfl ?_
  refine g_get (v := .ref (r 29)) hF 6 obC_5 (by decide) m_237 rfl d_X8_isNamed_13 ?_
  refine g_iload_n hF d_X8_isNamed_16 rfl 2 rfl ?_
  refine g_callSN (As := [.ref (r 29), .int a1]) (rest := []) hF (c_at a g r σ0 arC_29 (by decide) a1) (Nat.le_of_ble_eq_true rfl) mS_X12_at nm_1125 rfl rfl (Nat.le_of_ble_eq_true rfl) d_X8_isNamed_17 (k_rop (fun r9 hr9 => ?_))
  have hr9 : 0 ≤ r9.toInt ∧ r9.toInt ≤ 65600 := acr_at i0.2.2.2.2.2.2.2.2.2.2.2.2.2.2.2.1 (by decide) (by decide) (hr9.imp And.left (fun h => ⟨_, h.2⟩))
  refine g_iload hF d_X8_isNamed_20 0 rfl ?_
  refine g_isub hF d_X8_isNamed_22 ?_
  refine g_iload hF d_X8_isNamed_23 5 rfl ?_
  refine g_icmp_eq hF 30 d_X8_isNamed_25 (by decide) rfl rfl (fun c10_25 => ?_) (fun c10_25 => ?_)
  · -- taken at 25
    refine g_iconst hF (v := 0) d_X8_isNamed_30 (by decide) ?_
    refine g_istore hF [(6, .int 0), (5, .int r8), (0, .ref (r 5)), (1, .int a1), (2, .ref (r 55)), (3, .int a3), (4, .int a4)] d_X8_isNamed_31 hnn (by decide) rfl ?_
    exact g_sub (L' := [(0, .ref (r 5)), (1, .int a1), (2, .ref (r 55)), (3, .int a3), (4, .int a4), (5, .int r8), (6, .int 0)]) [2, 3, 4, 5, 6, 1, 0] rfl (b33 _ a1 a3 a4 r8 (0 : Int32) rfl (by show 0 ≤ r8.toInt ∧ 0 ≤ 0 ∧ r8.toInt + 0 ≤ 65600 ∧ (0 = 0 ∨ (0 ≤ a3.toInt ∧ a3.toInt + 0 ≤ 65600)); have e0 : (0 : Int32).toInt = 0 := (by decide); have e1 := s_rng r8; have e2 := s_rng a1; have e3 := s_rng a3; have e4 := s_rng a4; have e5 := s_rng r9; obtain ⟨k6, e6⟩ := s_sub r9 r8; have e6a := s_rng (r9 - r8); omega))
  · -- not taken at 25
    refine g_iconst hF (v := 0) d_X8_isNamed_28 (by decide) ?_
    exact g_zret hF rfl (k_nz (Or.inl rfl)) d_X8_isNamed_29 ⟨rfl, rfl, (0 : Int32), rfl, (Or.inl rfl), rfl⟩
set_option maxHeartbeats 4000000 in
set_option maxRecDepth 100000 in
theorem c_X4_find_r10_r56_r55 (a : Nat → Nat) (g : Nat → Nat → Int32) (r : Nat → Nat) (σ0 : St) (a2 : Int32) (a4 : Int32) (a5 : Int32) (i0 : Inv σ0) (l : Launch) (D : va_G) (cy : Nat → ClassId) : Ct l D cy SC r (EC a g) y_X4_find (Cond.code y_X4_find b_X4_find 9 (some .int)) 2 [.ref (r 10), .ref (r 56), .int a2, .ref (r 55), .int a4, .int a5] σ0 Z0 [] (QI (fun _ σ9 => σ9 = σ0)) QF := by
  refine Ct_of (EC_ok a g) (by decide) (Nat.le_of_ble_eq_true rfl) (by decide) (fun X hnn hF => ?_)
  show G SC r X σ0 Z0 [] [(0, .ref (r 10)), (1, .ref (r 56)), (2, .int a2), (3, .ref (r 55)), (4, .int a4), (5, .int a5)] [] 0
  have b3 : ∀ (N : Nat) (x2 : Int32) (x4 : Int32) (x5 : Int32) (x6 : Int32) , upm x6 = N → G SC r X σ0 Z0 [] [(0, .ref (r 10)), (1, .ref (r 56)), (2, .int x2), (3, .ref (r 55)), (4, .int x4), (5, .int x5), (6, .int x6)] [] 3 := by
    intro M3
    induction M3 using Nat.strongRecOn with
    | _ M3 ih3 =>
      intro x2 x4 x5 x6 N3
      have b28 : ∀ (N : Nat) (x2 : Int32) (x4 : Int32) (x5 : Int32) (x6 : Int32) (x7 : Int32) (x8 : Int32) , upm x8 = N → upm (x6 + 1) < M3 → G SC r X σ0 Z0 [] [(0, .ref (r 10)), (1, .ref (r 56)), (2, .int x2), (3, .ref (r 55)), (4, .int x4), (5, .int x5), (6, .int x6), (7, .int x7), (8, .int x8)] [] 28 := by
        intro M28
        induction M28 using Nat.strongRecOn with
        | _ M28 ih28 =>
          intro x2 x4 x5 x6 x7 x8 N28 gc3
          refine g_iload hF d_X4_find_28 8 rfl ?_
          refine g_aload_n hF d_X4_find_30 rfl 0 rfl ?_
          refine g_get (v := .ref (r 5)) hF 0 obC_10 (by decide) m_597 rfl d_X4_find_31 ?_
          refine g_getN (v := .ref (r 34)) hF 14 obC_5 (by decide) nm_253 rfl d_X4_find_34 ?_
          refine g_iload hF d_X4_find_37 7 rfl ?_
          refine g_callSN (As := [.ref (r 34), .int x7]) (rest := [.int x8]) hF (c_at a g r σ0 arC_34 (by decide) x7) (Nat.le_of_ble_eq_true rfl) mS_X12_at nm_1552 rfl rfl (Nat.le_of_ble_eq_true rfl) d_X4_find_39 (k_rop (fun r1 hr1 => ?_))
          have hr1 : 0 ≤ r1.toInt ∧ r1.toInt ≤ 10100 := acr_at i0.2.2.2.2.2.2.2.2.2.2.2.2.2.1 (by decide) (by decide) (hr1.imp And.left (fun h => ⟨_, h.2⟩))
          refine g_icmp_ge hF 97 d_X4_find_42 (by decide) rfl rfl (fun c2_42 => ?_) (fun c2_42 => ?_)
          · -- taken at 42
            refine g_iinc hF (x6 + 1) [(6, .int (x6 + 1)), (0, .ref (r 10)), (1, .ref (r 56)), (2, .int x2), (3, .ref (r 55)), (4, .int x4), (5, .int x5), (7, .int x7), (8, .int x8)] d_X4_find_97 6 rfl rfl hnn (by decide) rfl ?_
            refine g_goto hF 3 d_X4_find_100 (by decide) ?_
            exact g_sub (L' := [(0, .ref (r 10)), (1, .ref (r 56)), (2, .int x2), (3, .ref (r 55)), (4, .int x4), (5, .int x5), (6, .int (x6 + 1))]) [1, 2, 3, 4, 5, 6, 0] rfl (ih3 _ gc3 x2 x4 x5 (x6 + 1) rfl)
          · -- not taken at 42
            refine g_aload_n hF d_X4_find_45 rfl 0 rfl ?_
            refine g_get (v := .ref (r 5)) hF 0 obC_10 (by decide) m_597 rfl d_X4_find_46 ?_
            refine g_iload hF d_X4_find_49 8 rfl ?_
            refine g_iconst hF (v := 4) d_X4_find_51 (by decide) ?_
            refine g_callVN (As := [.int x8, .int 4]) (rest := []) hF (c_X8_is a g r σ0 x8 (4 : Int32) i0) (Nat.le_of_ble_eq_true rfl) mV_X8_is nm_1567 (recv_ob obC_5) rfl rfl (Nat.le_of_ble_eq_true rfl) d_X4_find_52 (k_roz (fun r3 hz3 => ?_))
            refine g_if_eq hF 91 d_X4_find_55 (by decide) rfl (fun c4_55 => ?_) (fun c4_55 => ?_)
            · -- taken at 55
              refine g_iinc hF (x8 + 1) [(8, .int (x8 + 1)), (0, .ref (r 10)), (1, .ref (r 56)), (2, .int x2), (3, .ref (r 55)), (4, .int x4), (5, .int x5), (6, .int x6), (7, .int x7)] d_X4_find_91 8 rfl rfl hnn (by decide) rfl ?_
              refine g_goto hF 28 d_X4_find_94 (by decide) ?_
              exact g_sub (L' := [(0, .ref (r 10)), (1, .ref (r 56)), (2, .int x2), (3, .ref (r 55)), (4, .int x4), (5, .int x5), (6, .int x6), (7, .int x7), (8, .int (x8 + 1))]) [1, 2, 3, 4, 5, 6, 7, 8, 0] rfl (ih28 _ (N28 ▸ upm_lt c2_42 (s_rng r1).2) x2 x4 x5 x6 x7 (x8 + 1) rfl gc3)
            · -- not taken at 55
              refine g_aload_n hF d_X4_find_58 rfl 0 rfl ?_
              refine g_get (v := .ref (r 5)) hF 0 obC_10 (by decide) m_597 rfl d_X4_find_59 ?_
              refine g_iload hF d_X4_find_62 8 rfl ?_
              refine g_iconst hF (v := 2) d_X4_find_64 (by decide) ?_
              refine g_callVN (As := [.int x8, .int 2]) (rest := []) hF (c_X8_is a g r σ0 x8 (2 : Int32) i0) (Nat.le_of_ble_eq_true rfl) mV_X8_is nm_1567 (recv_ob obC_5) rfl rfl (Nat.le_of_ble_eq_true rfl) d_X4_find_65 (k_roz (fun r5 hz5 => ?_))
              refine g_if_ne hF 91 d_X4_find_68 (by decide) rfl (fun c6_68 => ?_) (fun c6_68 => ?_)
              · -- taken at 68
                refine g_iinc hF (x8 + 1) [(8, .int (x8 + 1)), (0, .ref (r 10)), (1, .ref (r 56)), (2, .int x2), (3, .ref (r 55)), (4, .int x4), (5, .int x5), (6, .int x6), (7, .int x7)] d_X4_find_91 8 rfl rfl hnn (by decide) rfl ?_
                refine g_goto hF 28 d_X4_find_94 (by decide) ?_
                exact g_sub (L' := [(0, .ref (r 10)), (1, .ref (r 56)), (2, .int x2), (3, .ref (r 55)), (4, .int x4), (5, .int x5), (6, .int x6), (7, .int x7), (8, .int (x8 + 1))]) [1, 2, 3, 4, 5, 6, 7, 8, 0] rfl (ih28 _ (N28 ▸ upm_lt c2_42 (s_rng r1).2) x2 x4 x5 x6 x7 (x8 + 1) rfl gc3)
              · -- not taken at 68
                refine g_aload_n hF d_X4_find_71 rfl 0 rfl ?_
                refine g_get (v := .ref (r 5)) hF 0 obC_10 (by decide) m_597 rfl d_X4_find_72 ?_
                refine g_iload hF d_X4_find_75 8 rfl ?_
                refine g_aload_n hF d_X4_find_77 rfl 3 rfl ?_
                refine g_iload hF d_X4_find_78 4 rfl ?_
                refine g_iload hF d_X4_find_80 5 rfl ?_
                refine g_callVN (As := [.int x8, .ref (r 55), .int x4, .int x5]) (rest := []) hF (c_X8_isNamed_r5_r55 a g r σ0 x8 x4 x5 i0) (Nat.le_of_ble_eq_true rfl) mV_X8_isNamed nm_1568 (recv_ob obC_5) rfl rfl (Nat.le_of_ble_eq_true rfl) d_X4_find_82 (k_roz (fun r7 hz7 => ?_))
                refine g_if_eq hF 91 d_X4_find_85 (by decide) rfl (fun c8_85 => ?_) (fun c8_85 => ?_)
                · -- taken at 85
                  refine g_iinc hF (x8 + 1) [(8, .int (x8 + 1)), (0, .ref (r 10)), (1, .ref (r 56)), (2, .int x2), (3, .ref (r 55)), (4, .int x4), (5, .int x5), (6, .int x6), (7, .int x7)] d_X4_find_91 8 rfl rfl hnn (by decide) rfl ?_
                  refine g_goto hF 28 d_X4_find_94 (by decide) ?_
                  exact g_sub (L' := [(0, .ref (r 10)), (1, .ref (r 56)), (2, .int x2), (3, .ref (r 55)), (4, .int x4), (5, .int x5), (6, .int x6), (7, .int x7), (8, .int (x8 + 1))]) [1, 2, 3, 4, 5, 6, 7, 8, 0] rfl (ih28 _ (N28 ▸ upm_lt c2_42 (s_rng r1).2) x2 x4 x5 x6 x7 (x8 + 1) rfl gc3)
                · -- not taken at 85
                  refine g_iload hF d_X4_find_88 8 rfl ?_
                  exact g_iret hF rfl d_X4_find_90 ⟨rfl, rfl, x8, rfl, rfl⟩
      refine g_iload hF d_X4_find_3 6 rfl ?_
      refine g_iload_n hF d_X4_find_5 rfl 2 rfl ?_
      refine g_icmp_ge hF 103 d_X4_find_6 (by decide) rfl rfl (fun c9_6 => ?_) (fun c9_6 => ?_)
      · -- taken at 6
        refine g_iconst hF (v := (-1)) d_X4_find_103 (by decide) ?_
        exact g_iret hF rfl d_X4_find_104 ⟨rfl, rfl, ((-1) : Int32), rfl, rfl⟩
      · -- not taken at 6
        refine g_aload_n hF d_X4_find_9 rfl 1 rfl ?_
        refine g_iload hF d_X4_find_10 6 rfl ?_
        refine g_callSN (As := [.ref (r 56), .int x6]) (rest := []) hF (c_at a g r σ0 arC_56 (by decide) x6) (Nat.le_of_ble_eq_true rfl) mS_X12_at nm_1552 rfl rfl (Nat.le_of_ble_eq_true rfl) d_X4_find_12 (k_rop (fun r10 hr10 => ?_))
        refine g_istore hF [(7, .int r10), (0, .ref (r 10)), (1, .ref (r 56)), (2, .int x2), (3, .ref (r 55)), (4, .int x4), (5, .int x5), (6, .int x6)] d_X4_find_15 hnn (by decide) rfl ?_
        refine g_aload_n hF d_X4_find_17 rfl 1 rfl ?_
        refine g_get (v := .ref (r 5)) hF 0 obC_10 (by decide) m_597 rfl d_X4_find_18 ?_
        refine g_iload hF d_X4_find_21 0 rfl ?_
        refine g_callVN (As := [.int r10]) (rest := []) hF (c_X8_firstOf a g r σ0 r10 i0) (Nat.le_of_ble_eq_true rfl) mV_X8_firstOf nm_1566 (recv_ob obC_5) rfl rfl (Nat.le_of_ble_eq_true rfl) d_X4_find_23 (k_ro (fun r11 => ?_))
        refine g_istore hF [(8, .int r11), (7, .int r10), (0, .ref (r 10)), (1, .ref (r 56)), (2, .int x2), (3, .ref (r 55)), (4, .int x4), (5, .int x5), (6, .int x6)] d_X4_find_26 hnn (by decide) rfl ?_
        exact g_sub (L' := [(0, .ref (r 10)), (1, .ref (r 56)), (2, .int x2), (3, .ref (r 55)), (4, .int x4), (5, .int x5), (6, .int x6), (7, .int r10), (8, .int r11)]) [2, 3, 4, 5, 6, 7, 8, 1, 0] rfl (b28 _ x2 x4 x5 x6 r10 r11 rfl (N3 ▸ upm_lt c9_6 (s_rng x2).2))
  refine g_iconst hF (v := 0) d_X4_find_0 (by decide) ?_
  refine g_istore hF [(6, .int 0), (0, .ref (r 10)), (1, .ref (r 56)), (2, .int a2), (3, .ref (r 55)), (4, .int a4), (5, .int a5)] d_X4_find_1 hnn (by decide) rfl ?_
  exact g_sub (L' := [(0, .ref (r 10)), (1, .ref (r 56)), (2, .int a2), (3, .ref (r 55)), (4, .int a4), (5, .int a5), (6, .int 0)]) [1, 2, 3, 4, 5, 6, 0] rfl (b3 _ a2 a4 a5 (0 : Int32) rfl)
