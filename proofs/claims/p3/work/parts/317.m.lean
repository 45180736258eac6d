set_option maxHeartbeats 4000000 in
set_option maxRecDepth 100000 in
theorem c_X7_forLoop (a : Nat → Nat) (g : Nat → Nat → Int32) (r : Nat → Nat) (σ0 : St) (a1 : Int32) (a2 : Int32) (a3 : Int32) (i0 : Inv σ0) (z_a3 : a3 = 0 ∨ a3 = 1) (l : Launch) (D : va_G) (cy : Nat → ClassId) : Ct l D cy SC r (EC a g) y_X7_forLoop (Cond.code y_X7_forLoop b_X7_forLoop 4 none) 4 [.ref (r 9), .int a1, .int a2, .int a3] σ0 Z0 [] (QV (fun σ9 => (Inv σ9 ∧ Keep [(4, 1), (6, 3), (6, 4), (7, 7), (9, 5)] [24, 49, 50, 51, 52, 53, 54] σ0 σ9))) QF := by
  refine Ct_of (EC_ok a g) (by decide) (Nat.le_of_ble_eq_true rfl) (by decide) (fun X hnn hF => ?_)
  show G SC r X σ0 Z0 [] [(0, .ref (r 9)), (1, .int a1), (2, .int a2), (3, .int a3)] [] 0
  have kp : Keep [(4, 1), (6, 3), (6, 4), (7, 7), (9, 5)] [24, 49, 50, 51, 52, 53, 54] σ0 σ0 := keep_rf
  refine g_iload_n hF d_X7_forLoop_0 rfl 1 rfl ?_
  refine g_bipush hF (v := 32) d_X7_forLoop_1 (by decide) ?_
  refine g_icmp_ne (yv := 32) hF 14 d_X7_forLoop_3 (by decide) rfl (by decide) (fun c1_3 => ?_) (fun c1_3 => ?_)
  · -- taken at 3
    refine g_iload_n hF d_X7_forLoop_14 rfl 1 rfl ?_
    refine g_bipush hF (v := 33) d_X7_forLoop_15 (by decide) ?_
    refine g_icmp_ne (yv := 33) hF 81 d_X7_forLoop_17 (by decide) rfl (by decide) (fun c2_17 => ?_) (fun c2_17 => ?_)
    · -- taken at 17
      refine g_iload_n hF d_X7_forLoop_81 rfl 1 rfl ?_
      refine g_bipush hF (v := 34) d_X7_forLoop_82 (by decide) ?_
      refine g_icmp_ne (yv := 34) hF 139 d_X7_forLoop_84 (by decide) rfl (by decide) (fun c3_84 => ?_) (fun c3_84 => ?_)
      · -- taken at 84
        refine g_aload_n hF d_X7_forLoop_139 rfl 0 rfl ?_
        refine g_get (v := .ref (r 4)) hF 2 obC_9 (by decide) m_555 rfl d_X7_forLoop_140 ?_
        refine g_aload_n hF d_X7_forLoop_143 rfl 0 rfl ?_
        refine g_get (v := .ref (r 52)) hF 9 obC_9 (by decide) m_562 rfl d_X7_forLoop_144 ?_
        refine g_aload_n hF d_X7_forLoop_147 rfl 0 rfl ?_
        refine g_get (v := .int (σ0 9 5)) hF 5 obC_9 (by decide) m_558 rfl d_X7_forLoop_148 ?_
        refine g_iconst hF (v := 1) d_X7_forLoop_151 (by decide) ?_
        refine g_isub hF d_X7_forLoop_152 ?_
        refine g_callSN (As := [.ref (r 52), .int ((σ0 9 5) - 1)]) (rest := [.ref (r 4)]) hF (c_at a g r σ0 arC_52 (by decide) ((σ0 9 5) - 1)) (Nat.le_of_ble_eq_true rfl) mS_X12_at nm_1053 rfl rfl (Nat.le_of_ble_eq_true rfl) d_X7_forLoop_153 (k_rop (fun r4 hr4 => ?_))
        refine g_aload_n hF d_X7_forLoop_156 rfl 0 rfl ?_
        refine g_get (v := .ref (r 54)) hF 11 obC_9 (by decide) m_564 rfl d_X7_forLoop_157 ?_
        refine g_aload_n hF d_X7_forLoop_160 rfl 0 rfl ?_
        refine g_get (v := .int (σ0 9 5)) hF 5 obC_9 (by decide) m_558 rfl d_X7_forLoop_161 ?_
        refine g_iconst hF (v := 1) d_X7_forLoop_164 (by decide) ?_
        refine g_isub hF d_X7_forLoop_165 ?_
        refine g_callSN (As := [.ref (r 54), .int ((σ0 9 5) - 1)]) (rest := [.int r4, .ref (r 4)]) hF (c_at a g r σ0 arC_54 (by decide) ((σ0 9 5) - 1)) (Nat.le_of_ble_eq_true rfl) mS_X12_at nm_1053 rfl rfl (Nat.le_of_ble_eq_true rfl) d_X7_forLoop_166 (k_rop (fun r5 hr5 => ?_))
        refine g_callVN (As := [.int r4, .int r5]) (rest := []) hF (c_X0_aim a g r σ0 r4 r5 i0) (Nat.le_of_ble_eq_true rfl) mV_X0_aim nm_1318 (recv_ob obC_4) rfl rfl (Nat.le_of_ble_eq_true rfl) d_X7_forLoop_169 (k_v (fun σ6 ⟨iσ6, ik6⟩ => ?_))
        have kp : Keep [(4, 1), (6, 3), (6, 4), (7, 7), (9, 5)] [24, 49, 50, 51, 52, 53, 54] σ0 σ6 := keep_c kp ik6 (by decide) (by decide)
        refine g_aload_n hF d_X7_forLoop_172 rfl 0 rfl ?_
        refine g_aload_n hF d_X7_forLoop_173 rfl 0 rfl ?_
        refine g_get (v := .ref (r 54)) hF 11 obC_9 (by decide) m_564 rfl d_X7_forLoop_174 ?_
        refine g_aload_n hF d_X7_forLoop_177 rfl 0 rfl ?_
        refine g_get (v := .int (σ6 9 5)) hF 5 obC_9 (by decide) m_558 rfl d_X7_forLoop_178 ?_
        refine g_top (v := (σ0 9 5)) (ik6 9 5 rfl rfl rfl) ?_
        refine g_iconst hF (v := 1) d_X7_forLoop_181 (by decide) ?_
        refine g_isub hF d_X7_forLoop_182 ?_
        refine g_callSN (As := [.ref (r 54), .int ((σ0 9 5) - 1)]) (rest := [.ref (r 9)]) hF (c_at a g r σ6 arC_54 (by decide) ((σ0 9 5) - 1)) (Nat.le_of_ble_eq_true rfl) mS_X12_at nm_1053 rfl rfl (Nat.le_of_ble_eq_true rfl) d_X7_forLoop_183 (k_rop (fun r7 hr7 => ?_))
        refine g_callV (As := [.int r7]) (rest := []) hF (c_X7_jumpBack a g r σ6 r7 iσ6) (Nat.le_of_ble_eq_true rfl) mV_X7_jumpBack m_1340 (recv_ob obC_9) rfl rfl (Nat.le_of_ble_eq_true rfl) d_X7_forLoop_186 (k_v (fun σ8 ⟨iσ8, ik8⟩ => ?_)) (fun _ _ _ h => h.elim)
        have kp : Keep [(4, 1), (6, 3), (6, 4), (7, 7), (9, 5)] [24, 49, 50, 51, 52, 53, 54] σ0 σ8 := keep_c kp ik8 (by decide) (by decide)
        refine g_aload_n hF d_X7_forLoop_189 rfl 0 rfl ?_
        refine g_callV (As := []) (rest := []) hF (c_X7_finish a g r σ8 iσ8) (Nat.le_of_ble_eq_true rfl) mV_X7_finish m_1319 (recv_ob obC_9) rfl rfl (Nat.le_of_ble_eq_true rfl) d_X7_forLoop_190 (k_v (fun σ9 ⟨iσ9, ik9⟩ => ?_)) (fun _ _ _ h => h.elim)
        have kp : Keep [(4, 1), (6, 3), (6, 4), (7, 7), (9, 5)] [24, 49, 50, 51, 52, 53, 54] σ0 σ9 := keep_c kp ik9 (by decide) (by decide)
        exact g_vret hF rfl d_X7_forLoop_193 ⟨rfl, rfl, rfl, ⟨iσ9, kp⟩⟩
      · -- not taken at 84
        refine g_aload_n hF d_X7_forLoop_87 rfl 0 rfl ?_
        refine g_aload_n hF d_X7_forLoop_88 rfl 0 rfl ?_
        refine g_get (v := .ref (r 50)) hF 7 obC_9 (by decide) m_560 rfl d_X7_forLoop_89 ?_
        refine g_aload_n hF d_X7_forLoop_92 rfl 0 rfl ?_
        refine g_get (v := .int (σ0 9 5)) hF 5 obC_9 (by decide) m_558 rfl d_X7_forLoop_93 ?_
        refine g_iconst hF (v := 1) d_X7_forLoop_96 (by decide) ?_
        refine g_isub hF d_X7_forLoop_97 ?_
        refine g_callSN (As := [.ref (r 50), .int ((σ0 9 5) - 1)]) (rest := [.ref (r 9)]) hF (c_at a g r σ0 arC_50 (by decide) ((σ0 9 5) - 1)) (Nat.le_of_ble_eq_true rfl) mS_X12_at nm_1053 rfl rfl (Nat.le_of_ble_eq_true rfl) d_X7_forLoop_98 (k_rop (fun r10 hr10 => ?_))
        refine g_callV (As := [.int r10]) (rest := []) hF (c_X7_jumpBack a g r σ0 r10 i0) (Nat.le_of_ble_eq_true rfl) mV_X7_jumpBack m_1340 (recv_ob obC_9) rfl rfl (Nat.le_of_ble_eq_true rfl) d_X7_forLoop_101 (k_v (fun σ11 ⟨iσ11, ik11⟩ => ?_)) (fun _ _ _ h => h.elim)
        have kp : Keep [(4, 1), (6, 3), (6, 4), (7, 7), (9, 5)] [24, 49, 50, 51, 52, 53, 54] σ0 σ11 := keep_c kp ik11 (by decide) (by decide)
        refine g_aload_n hF d_X7_forLoop_104 rfl 0 rfl ?_
        refine g_get (v := .ref (r 4)) hF 2 obC_9 (by decide) m_555 rfl d_X7_forLoop_105 ?_
        refine g_aload_n hF d_X7_forLoop_108 rfl 0 rfl ?_
        refine g_get (v := .ref (r 53)) hF 10 obC_9 (by decide) m_563 rfl d_X7_forLoop_109 ?_
        refine g_aload_n hF d_X7_forLoop_112 rfl 0 rfl ?_
        refine g_get (v := .int (σ11 9 5)) hF 5 obC_9 (by decide) m_558 rfl d_X7_forLoop_113 ?_
        refine g_top (v := (σ0 9 5)) (ik11 9 5 rfl rfl rfl) ?_
        refine g_iconst hF (v := 1) d_X7_forLoop_116 (by decide) ?_
        refine g_isub hF d_X7_forLoop_117 ?_
        refine g_callSN (As := [.ref (r 53), .int ((σ0 9 5) - 1)]) (rest := [.ref (r 4)]) hF (c_at a g r σ11 arC_53 (by decide) ((σ0 9 5) - 1)) (Nat.le_of_ble_eq_true rfl) mS_X12_at nm_1053 rfl rfl (Nat.le_of_ble_eq_true rfl) d_X7_forLoop_118 (k_rop (fun r12 hr12 => ?_))
        refine g_aload_n hF d_X7_forLoop_121 rfl 0 rfl ?_
        refine g_get (v := .ref (r 4)) hF 2 obC_9 (by decide) m_555 rfl d_X7_forLoop_122 ?_
        refine g_getN (v := .int (σ11 4 1)) hF 1 obC_4 (by decide) nm_154 rfl d_X7_forLoop_125 ?_
        refine g_callVN (As := [.int r12, .int (σ11 4 1)]) (rest := []) hF (c_X0_aim a g r σ11 r12 (σ11 4 1) iσ11) (Nat.le_of_ble_eq_true rfl) mV_X0_aim nm_1318 (recv_ob obC_4) rfl rfl (Nat.le_of_ble_eq_true rfl) d_X7_forLoop_128 (k_v (fun σ13 ⟨iσ13, ik13⟩ => ?_))
        have kp : Keep [(4, 1), (6, 3), (6, 4), (7, 7), (9, 5)] [24, 49, 50, 51, 52, 53, 54] σ0 σ13 := keep_c kp ik13 (by decide) (by decide)
        refine g_aload_n hF d_X7_forLoop_131 rfl 0 rfl ?_
        refine g_iload_n hF d_X7_forLoop_132 rfl 2 rfl ?_
        refine g_callV (As := [.int a2]) (rest := []) hF (c_X7_turn a g r σ13 a2 iσ13) (Nat.le_of_ble_eq_true rfl) mV_X7_turn m_1336 (recv_ob obC_9) rfl rfl (Nat.le_of_ble_eq_true rfl) d_X7_forLoop_133 (k_v (fun σ14 ⟨iσ14, ik14⟩ => ?_)) (fun _ _ _ h => h.elim)
        have kp : Keep [(4, 1), (6, 3), (6, 4), (7, 7), (9, 5)] [24, 49, 50, 51, 52, 53, 54] σ0 σ14 := keep_c kp ik14 (by decide) (by decide)
        refine g_goto hF 193 d_X7_forLoop_136 (by decide) ?_
        exact g_vret hF rfl d_X7_forLoop_193 ⟨rfl, rfl, rfl, ⟨iσ14, kp⟩⟩
    · -- not taken at 17
      refine g_iload_n hF d_X7_forLoop_20 rfl 3 rfl ?_
      refine g_if_eq hF 33 d_X7_forLoop_21 (by decide) rfl (fun c15_21 => ?_) (fun c15_21 => ?_)
      · -- taken at 21
        refine g_aload_n hF d_X7_forLoop_33 rfl 0 rfl ?_
        refine g_get (v := .ref (r 53)) hF 10 obC_9 (by decide) m_563 rfl d_X7_forLoop_34 ?_
        refine g_aload_n hF d_X7_forLoop_37 rfl 0 rfl ?_
        refine g_get (v := .int (σ0 9 5)) hF 5 obC_9 (by decide) m_558 rfl d_X7_forLoop_38 ?_
        refine g_iconst hF (v := 1) d_X7_forLoop_41 (by decide) ?_
        refine g_isub hF d_X7_forLoop_42 ?_
        refine g_aload_n hF d_X7_forLoop_43 rfl 0 rfl ?_
        refine g_get (v := .ref (r 4)) hF 2 obC_9 (by decide) m_555 rfl d_X7_forLoop_44 ?_
        refine g_bipush hF (v := 26) d_X7_forLoop_47 (by decide) ?_
        refine g_iconst hF (v := (-1)) d_X7_forLoop_49 (by decide) ?_
        refine g_iconst hF (v := 0) d_X7_forLoop_50 (by decide) ?_
        refine g_iconst hF (v := 0) d_X7_forLoop_51 (by decide) ?_
        refine g_callVN (As := [.int 26, .int (-1), .int 0, .int 0]) (rest := [.int ((σ0 9 5) - 1), .ref (r 53)]) hF (c_X0_emit a g r σ0 (26 : Int32) ((-1) : Int32) (0 : Int32) (0 : Int32) i0) (Nat.le_of_ble_eq_true rfl) mV_X0_emit nm_1298 (recv_ob obC_4) rfl rfl (Nat.le_of_ble_eq_true rfl) d_X7_forLoop_52 (k_i (fun r16 σ16 ⟨iσ16, ik16⟩ => ?_))
        have kp : Keep [(4, 1), (6, 3), (6, 4), (7, 7), (9, 5)] [24, 49, 50, 51, 52, 53, 54] σ0 σ16 := keep_c kp ik16 (by decide) (by decide)
        refine g_callSN (As := [.ref (r 53), .int ((σ0 9 5) - 1), .int r16]) (rest := []) hF (c_set a g r σ16 arC_53 (by decide) ((σ0 9 5) - 1) r16) (Nat.le_of_ble_eq_true rfl) mS_X12_set nm_1312 rfl rfl (Nat.le_of_ble_eq_true rfl) d_X7_forLoop_55 (k_v (fun σ17 ⟨g17, eσ17, hg17⟩ => ?_))
        subst eσ17
        have kp : Keep [(4, 1), (6, 3), (6, 4), (7, 7), (9, 5)] [24, 49, 50, 51, 52, 53, 54] σ0 (upF σ16 53 g17) := keep_F kp (by decide)
        refine g_aload_n hF d_X7_forLoop_58 rfl 0 rfl ?_
        refine g_get (v := .ref (r 54)) hF 11 obC_9 (by decide) m_564 rfl d_X7_forLoop_59 ?_
        refine g_aload_n hF d_X7_forLoop_62 rfl 0 rfl ?_
        refine g_get (v := .int (σ16 9 5)) hF 5 obC_9 (by decide) m_558 rfl d_X7_forLoop_63 ?_
        refine g_top (v := (σ0 9 5)) (ik16 9 5 rfl rfl rfl) ?_
        refine g_iconst hF (v := 1) d_X7_forLoop_66 (by decide) ?_
        refine g_isub hF d_X7_forLoop_67 ?_
        refine g_aload_n hF d_X7_forLoop_68 rfl 0 rfl ?_
        refine g_get (v := .ref (r 4)) hF 2 obC_9 (by decide) m_555 rfl d_X7_forLoop_69 ?_
        refine g_getN (v := .int (σ16 4 1)) hF 1 obC_4 (by decide) nm_154 rfl d_X7_forLoop_72 ?_
        refine g_callSN (As := [.ref (r 54), .int ((σ0 9 5) - 1), .int (σ16 4 1)]) (rest := []) hF (c_set a g r (upF σ16 53 g17) arC_54 (by decide) ((σ0 9 5) - 1) (σ16 4 1)) (Nat.le_of_ble_eq_true rfl) mS_X12_set nm_1312 rfl rfl (Nat.le_of_ble_eq_true rfl) d_X7_forLoop_75 (k_v (fun σ18 ⟨g18, eσ18, hg18⟩ => ?_))
        subst eσ18
        have kp : Keep [(4, 1), (6, 3), (6, 4), (7, 7), (9, 5)] [24, 49, 50, 51, 52, 53, 54] σ0 (upF (upF σ16 53 g17) 54 g18) := keep_F kp (by decide)
        refine g_goto hF 193 d_X7_forLoop_78 (by decide) ?_
        have j19 : Inv (upF (upF σ16 53 g17) 54 g18) := ⟨iσ16.1, iσ16.2.1, iσ16.2.2.1, iσ16.2.2.2.1, iσ16.2.2.2.2.1, iσ16.2.2.2.2.2.1, iσ16.2.2.2.2.2.2.1, iσ16.2.2.2.2.2.2.2.1, iσ16.2.2.2.2.2.2.2.2.1, iσ16.2.2.2.2.2.2.2.2.2.1, iσ16.2.2.2.2.2.2.2.2.2.2.1, iσ16.2.2.2.2.2.2.2.2.2.2.2.1, iσ16.2.2.2.2.2.2.2.2.2.2.2.2.1, iσ16.2.2.2.2.2.2.2.2.2.2.2.2.2.1, iσ16.2.2.2.2.2.2.2.2.2.2.2.2.2.2.1, iσ16.2.2.2.2.2.2.2.2.2.2.2.2.2.2.2.1, iσ16.2.2.2.2.2.2.2.2.2.2.2.2.2.2.2.2.1, iσ16.2.2.2.2.2.2.2.2.2.2.2.2.2.2.2.2.2.1, iσ16.2.2.2.2.2.2.2.2.2.2.2.2.2.2.2.2.2.2.1, iσ16.2.2.2.2.2.2.2.2.2.2.2.2.2.2.2.2.2.2.2⟩
        exact g_vret hF rfl d_X7_forLoop_193 ⟨rfl, rfl, rfl, ⟨j19, kp⟩⟩
      · -- not taken at 21
        refine g_aload_n hF d_X7_forLoop_24 rfl 0 rfl ?_
        refine g_aload_n hF d_X7_forLoop_25 rfl 0 rfl ?_
        refine g_iload_n hF d_X7_forLoop_26 rfl 2 rfl ?_
        refine g_callV (As := [.int a2]) (rest := [.ref (r 9)]) hF (c_X7_condition a g r σ0 a2 i0) (Nat.le_of_ble_eq_true rfl) mV_X7_condition m_1303 (recv_ob obC_9) rfl rfl (Nat.le_of_ble_eq_true rfl) d_X7_forLoop_27 (k_a (fun q20 σ20 ⟨hq20, iσ20, ik20⟩ => ?_)) (fun _ _ _ h => h.elim)
        have kp : Keep [(4, 1), (6, 3), (6, 4), (7, 7), (9, 5)] [24, 49, 50, 51, 52, 53, 54] σ0 σ20 := keep_c kp ik20 (by decide) (by decide)
        refine g_callV (As := [.ref (r q20)]) (rest := []) hF (c_X7_exitUnless a g r σ20 q20 hq20 iσ20) (Nat.le_of_ble_eq_true rfl) mV_X7_exitUnless m_1313 (recv_ob obC_9) rfl rfl (Nat.le_of_ble_eq_true rfl) d_X7_forLoop_30 (k_v (fun σ21 ⟨iσ21, ik21⟩ => ?_)) (fun _ _ _ h => h.elim)
        have kp : Keep [(4, 1), (6, 3), (6, 4), (7, 7), (9, 5)] [24, 49, 50, 51, 52, 53, 54] σ0 σ21 := keep_c kp ik21 (by decide) (by decide)
        refine g_aload_n hF d_X7_forLoop_33 rfl 0 rfl ?_
        refine g_get (v := .ref (r 53)) hF 10 obC_9 (by decide) m_563 rfl d_X7_forLoop_34 ?_
        refine g_aload_n hF d_X7_forLoop_37 rfl 0 rfl ?_
        refine g_get (v := .int (σ21 9 5)) hF 5 obC_9 (by decide) m_558 rfl d_X7_forLoop_38 ?_
        refine g_top (v := (σ0 9 5)) ((ik21 9 5 rfl rfl rfl).trans (ik20 9 5 rfl rfl rfl)) ?_
        refine g_iconst hF (v := 1) d_X7_forLoop_41 (by decide) ?_
        refine g_isub hF d_X7_forLoop_42 ?_
        refine g_aload_n hF d_X7_forLoop_43 rfl 0 rfl ?_
        refine g_get (v := .ref (r 4)) hF 2 obC_9 (by decide) m_555 rfl d_X7_forLoop_44 ?_
        refine g_bipush hF (v := 26) d_X7_forLoop_47 (by decide) ?_
        refine g_iconst hF (v := (-1)) d_X7_forLoop_49 (by decide) ?_
        refine g_iconst hF (v := 0) d_X7_forLoop_50 (by decide) ?_
        refine g_iconst hF (v := 0) d_X7_forLoop_51 (by decide) ?_
        refine g_callVN (As := [.int 26, .int (-1), .int 0, .int 0]) (rest := [.int ((σ0 9 5) - 1), .ref (r 53)]) hF (c_X0_emit a g r σ21 (26 : Int32) ((-1) : Int32) (0 : Int32) (0 : Int32) iσ21) (Nat.le_of_ble_eq_true rfl) mV_X0_emit nm_1298 (recv_ob obC_4) rfl rfl (Nat.le_of_ble_eq_true rfl) d_X7_forLoop_52 (k_i (fun r22 σ22 ⟨iσ22, ik22⟩ => ?_))
        have kp : Keep [(4, 1), (6, 3), (6, 4), (7, 7), (9, 5)] [24, 49, 50, 51, 52, 53, 54] σ0 σ22 := keep_c kp ik22 (by decide) (by decide)
        refine g_callSN (As := [.ref (r 53), .int ((σ0 9 5) - 1), .int r22]) (rest := []) hF (c_set a g r σ22 arC_53 (by decide) ((σ0 9 5) - 1) r22) (Nat.le_of_ble_eq_true rfl) mS_X12_set nm_1312 rfl rfl (Nat.le_of_ble_eq_true rfl) d_X7_forLoop_55 (k_v (fun σ23 ⟨g23, eσ23, hg23⟩ => ?_))
        subst eσ23
        have kp : Keep [(4, 1), (6, 3), (6, 4), (7, 7), (9, 5)] [24, 49, 50, 51, 52, 53, 54] σ0 (upF σ22 53 g23) := keep_F kp (by decide)
        refine g_aload_n hF d_X7_forLoop_58 rfl 0 rfl ?_
        refine g_get (v := .ref (r 54)) hF 11 obC_9 (by decide) m_564 rfl d_X7_forLoop_59 ?_
        refine g_aload_n hF d_X7_forLoop_62 rfl 0 rfl ?_
        refine g_get (v := .int (σ22 9 5)) hF 5 obC_9 (by decide) m_558 rfl d_X7_forLoop_63 ?_
        refine g_top (v := (σ0 9 5)) ((ik22 9 5 rfl rfl rfl).trans ((ik21 9 5 rfl rfl rfl).trans (ik20 9 5 rfl rfl rfl))) ?_
        refine g_iconst hF (v := 1) d_X7_forLoop_66 (by decide) ?_
        refine g_isub hF d_X7_forLoop_67 ?_
        refine g_aload_n hF d_X7_forLoop_68 rfl 0 rfl ?_
        refine g_get (v := .ref (r 4)) hF 2 obC_9 (by decide) m_555 rfl d_X7_forLoop_69 ?_
        refine g_getN (v := .int (σ22 4 1)) hF 1 obC_4 (by decide) nm_154 rfl d_X7_forLoop_72 ?_
        refine g_callSN (As := [.ref (r 54), .int ((σ0 9 5) - 1), .int (σ22 4 1)]) (rest := []) hF (c_set a g r (upF σ22 53 g23) arC_54 (by decide) ((σ0 9 5) - 1) (σ22 4 1)) (Nat.le_of_ble_eq_true rfl) mS_X12_set nm_1312 rfl rfl (Nat.le_of_ble_eq_true rfl) d_X7_forLoop_75 (k_v (fun σ24 ⟨g24, eσ24, hg24⟩ => ?_))
        subst eσ24
        have kp : Keep [(4, 1), (6, 3), (6, 4), (7, 7), (9, 5)] [24, 49, 50, 51, 52, 53, 54] σ0 (upF (upF σ22 53 g23) 54 g24) := keep_F kp (by decide)
        refine g_goto hF 193 d_X7_forLoop_78 (by decide) ?_
        have j25 : Inv (upF (upF σ22 53 g23) 54 g24) := ⟨iσ22.1, iσ22.2.1, iσ22.2.2.1, iσ22.2.2.2.1, iσ22.2.2.2.2.1, iσ22.2.2.2.2.2.1, iσ22.2.2.2.2.2.2.1, iσ22.2.2.2.2.2.2.2.1, iσ22.2.2.2.2.2.2.2.2.1, iσ22.2.2.2.2.2.2.2.2.2.1, iσ22.2.2.2.2.2.2.2.2.2.2.1, iσ22.2.2.2.2.2.2.2.2.2.2.2.1, iσ22.2.2.2.2.2.2.2.2.2.2.2.2.1, iσ22.2.2.2.2.2.2.2.2.2.2.2.2.2.1, iσ22.2.2.2.2.2.2.2.2.2.2.2.2.2.2.1, iσ22.2.2.2.2.2.2.2.2.2.2.2.2.2.2.2.1, iσ22.2.2.2.2.2.2.2.2.2.2.2.2.2.2.2.2.1, iσ22.2.2.2.2.2.2.2.2.2.2.2.2.2.2.2.2.2.1, iσ22.2.2.2.2.2.2.2.2.2.2.2.2.2.2.2.2.2.2.1, iσ22.2.2.2.2.2.2.2.2.2.2.2.2.2.2.2.2.2.2.2⟩
        exact g_vret hF rfl d_X7_forLoop_193 ⟨rfl, rfl, rfl, ⟨j25, kp⟩⟩
  · -- not taken at 3
    refine g_aload_n hF d_X7_forLoop_6 rfl 0 rfl ?_
    refine g_iconst hF (v := 1) d_X7_forLoop_7 (by decide) ?_
    refine g_callV (As := [.int 1]) (rest := []) hF (c_X7_begin a g r σ0 (1 : Int32) i0 (Or.inr rfl)) (Nat.le_of_ble_eq_true rfl) mV_X7_begin m_1308 (recv_ob obC_9) rfl rfl (Nat.le_of_ble_eq_true rfl) d_X7_forLoop_8 (k_v (fun σ26 ⟨iσ26, ik26⟩ => ?_)) (fun _ _ _ h => h.elim)
    have kp : Keep [(4, 1), (6, 3), (6, 4), (7, 7), (9, 5)] [24, 49, 50, 51, 52, 53, 54] σ0 σ26 := keep_c kp ik26 (by decide) (by decide)
    refine g_goto hF 193 d_X7_forLoop_11 (by decide) ?_
    exact g_vret hF rfl d_X7_forLoop_193 ⟨rfl, rfl, rfl, ⟨iσ26, kp⟩⟩
set_option maxHeartbeats 4000000 in
set_option maxRecDepth 100000 in
theorem c_X1_item (a : Nat → Nat) (g : Nat → Nat → Int32) (r : Nat → Nat) (σ0 : St) (i0 : Inv σ0) (l : Launch) (D : va_G) (cy : Nat → ClassId) : Ct l D cy SC r (EC a g) y_X1_item (Cond.code y_X1_item b_X1_item 2 none) 3 [.ref (r 8)] σ0 Z0 [] (QV (fun σ9 => (Inv σ9 ∧ Keep [(4, 1), (5, 9), (7, 7), (8, 15), (8, 16)] [24, 31, 32, 33] σ0 σ9))) QF := by
  refine Ct_of (EC_ok a g) (by decide) (Nat.le_of_ble_eq_true rfl) (by decide) (fun X hnn hF => ?_)
  show G SC r X σ0 Z0 [] [(0, .ref (r 8))] [] 0
  have kp : Keep [(4, 1), (5, 9), (7, 7), (8, 15), (8, 16)] [24, 31, 32, 33] σ0 σ0 := keep_rf
  refine g_aload_n hF d_X1_item_0 rfl 0 rfl ?_
  refine g_get (v := .ref (r 7)) hF 5 obC_8 (by decide) m_495 rfl d_X1_item_1 ?_
  refine g_callVN (As := []) (rest := []) hF (c_X2_pop a g r σ0 i0) (Nat.le_of_ble_eq_true rfl) mV_X2_pop nm_1415 (recv_ob obC_7) rfl rfl (Nat.le_of_ble_eq_true rfl) d_X1_item_4 (k_a (fun q1 σ1 ⟨hq1, iσ1, ik1⟩ => ?_))
  have kp : Keep [(4, 1), (5, 9), (7, 7), (8, 15), (8, 16)] [24, 31, 32, 33] σ0 σ1 := keep_c kp ik1 (by decide) (by decide)
  refine g_astore_n hF [(1, .ref (r q1)), (0, .ref (r 8))] d_X1_item_7 rfl hnn (by decide) rfl ?_
  refine g_aload_n hF d_X1_item_8 rfl 1 rfl ?_
  refine g_get (v := .int (σ1 8 15)) hF 15 obC_8 (by decide) m_507 rfl d_X1_item_9 ?_
  refine g_top (v := (σ0 8 15)) (ik1 8 15 rfl rfl rfl) ?_
  refine g_aload_n hF d_X1_item_12 rfl 1 rfl ?_
  refine g_get (v := .int (σ1 8 12)) hF 12 obC_8 (by decide) m_504 rfl d_X1_item_13 ?_
  refine g_top (v := (σ0 8 12)) (ik1 8 12 rfl rfl rfl) ?_
  refine g_icmp_ge hF 27 d_X1_item_16 (by decide) rfl rfl (fun c2_16 => ?_) (fun c2_16 => ?_)
  · -- taken at 16
    refine g_aload_n hF d_X1_item_27 rfl 1 rfl ?_
    refine g_iconst hF (v := 1) d_X1_item_28 (by decide) ?_
    refine g_putZ (v := 1) hF 16 obC_8 (by decide) m_508 rfl rfl rfl (Or.inr rfl) d_X1_item_29 ?_
    have kp : Keep [(4, 1), (5, 9), (7, 7), (8, 15), (8, 16)] [24, 31, 32, 33] σ0 (upC σ1 8 16 1) := keep_f kp (by decide)
    refine g_goto hF 73 d_X1_item_32 (by decide) ?_
    refine g_aload_n hF d_X1_item_73 rfl 1 rfl ?_
    refine g_dup hF d_X1_item_74 rfl ?_
    refine g_get (v := .int (σ1 8 15)) hF 15 obC_8 (by decide) m_507 rfl d_X1_item_75 ?_
    refine g_top (v := (σ0 8 15)) (ik1 8 15 rfl rfl rfl) ?_
    refine g_iconst hF (v := 1) d_X1_item_78 (by decide) ?_
    refine g_iadd hF d_X1_item_79 ?_
    refine g_put (v := ((σ0 8 15) + 1)) hF 15 obC_8 (by decide) m_507 rfl rfl rfl d_X1_item_80 ?_
    have kp : Keep [(4, 1), (5, 9), (7, 7), (8, 15), (8, 16)] [24, 31, 32, 33] σ0 (upC (upC σ1 8 16 1) 8 15 ((σ0 8 15) + 1)) := keep_f kp (by decide)
    have j3 : Inv (upC (upC σ1 8 16 1) 8 15 ((σ0 8 15) + 1)) := ⟨iσ1.1, iσ1.2.1, iσ1.2.2.1, iσ1.2.2.2.1, iσ1.2.2.2.2.1, iσ1.2.2.2.2.2.1, iσ1.2.2.2.2.2.2.1, iσ1.2.2.2.2.2.2.2.1, iσ1.2.2.2.2.2.2.2.2.1, iσ1.2.2.2.2.2.2.2.2.2.1, iσ1.2.2.2.2.2.2.2.2.2.2.1, iσ1.2.2.2.2.2.2.2.2.2.2.2.1, iσ1.2.2.2.2.2.2.2.2.2.2.2.2.1, iσ1.2.2.2.2.2.2.2.2.2.2.2.2.2.1, iσ1.2.2.2.2.2.2.2.2.2.2.2.2.2.2.1, iσ1.2.2.2.2.2.2.2.2.2.2.2.2.2.2.2.1, iσ1.2.2.2.2.2.2.2.2.2.2.2.2.2.2.2.2.1, iσ1.2.2.2.2.2.2.2.2.2.2.2.2.2.2.2.2.2.1, iσ1.2.2.2.2.2.2.2.2.2.2.2.2.2.2.2.2.2.2.1, iσ1.2.2.2.2.2.2.2.2.2.2.2.2.2.2.2.2.2.2.2⟩
    exact g_vret hF rfl d_X1_item_83 ⟨rfl, rfl, rfl, ⟨j3, kp⟩⟩
  · -- not taken at 16
    refine g_aload_n hF d_X1_item_19 rfl 1 rfl ?_
    refine g_aload_n hF d_X1_item_20 rfl 0 rfl ?_
    refine g_callV (As := [.ref (r q1)]) (rest := []) hF (c_X1_suits a g r σ1 q1 hq1 iσ1) (Nat.le_of_ble_eq_true rfl) mV_X1_suits m_1416 (recv_ob obC_8) rfl rfl (Nat.le_of_ble_eq_true rfl) d_X1_item_21 (k_roz (fun r4 hz4 => ?_)) (fun _ _ _ h => h.elim)
    refine g_if_ne hF 35 d_X1_item_24 (by decide) rfl (fun c5_24 => ?_) (fun c5_24 => ?_)
    · -- taken at 24
      refine g_aload_n hF d_X1_item_35 rfl 1 rfl ?_
      refine g_get (v := .int (σ1 8 9)) hF 9 obC_8 (by decide) m_501 rfl d_X1_item_36 ?_
      refine g_top (v := (σ0 8 9)) (ik1 8 9 rfl rfl rfl) ?_
      refine g_if_eq hF 64 d_X1_item_39 (by decide) rfl (fun c6_39 => ?_) (fun c6_39 => ?_)
      · -- taken at 39
        refine g_aload_n hF d_X1_item_64 rfl 1 rfl ?_
        refine g_aload_n hF d_X1_item_65 rfl 1 rfl ?_
        refine g_get (v := .int (σ1 8 15)) hF 15 obC_8 (by decide) m_507 rfl d_X1_item_66 ?_
        refine g_top (v := (σ0 8 15)) (ik1 8 15 rfl rfl rfl) ?_
        refine g_aload_n hF d_X1_item_69 rfl 0 rfl ?_
        refine g_callV (As := [.int (σ0 8 15), .ref (r q1)]) (rest := []) hF (c_X1_putInitial a g r σ1 (σ0 8 15) q1 hq1 iσ1) (Nat.le_of_ble_eq_true rfl) mV_X1_putInitial m_1425 (recv_ob obC_8) rfl rfl (Nat.le_of_ble_eq_true rfl) d_X1_item_70 (k_v (fun σ7 ⟨iσ7, ik7⟩ => ?_)) (fun _ _ _ h => h.elim)
        have kp : Keep [(4, 1), (5, 9), (7, 7), (8, 15), (8, 16)] [24, 31, 32, 33] σ0 σ7 := keep_c kp ik7 (by decide) (by decide)
        refine g_aload_n hF d_X1_item_73 rfl 1 rfl ?_
        refine g_dup hF d_X1_item_74 rfl ?_
        refine g_get (v := .int (σ7 8 15)) hF 15 obC_8 (by decide) m_507 rfl d_X1_item_75 ?_
        refine g_top (v := (σ0 8 15)) ((ik7 8 15 rfl rfl rfl).trans (ik1 8 15 rfl rfl rfl)) ?_
        refine g_iconst hF (v := 1) d_X1_item_78 (by decide) ?_
        refine g_iadd hF d_X1_item_79 ?_
        refine g_put (v := ((σ0 8 15) + 1)) hF 15 obC_8 (by decide) m_507 rfl rfl rfl d_X1_item_80 ?_
        have kp : Keep [(4, 1), (5, 9), (7, 7), (8, 15), (8, 16)] [24, 31, 32, 33] σ0 (upC σ7 8 15 ((σ0 8 15) + 1)) := keep_f kp (by decide)
        have j8 : Inv (upC σ7 8 15 ((σ0 8 15) + 1)) := ⟨iσ7.1, iσ7.2.1, iσ7.2.2.1, iσ7.2.2.2.1, iσ7.2.2.2.2.1, iσ7.2.2.2.2.2.1, iσ7.2.2.2.2.2.2.1, iσ7.2.2.2.2.2.2.2.1, iσ7.2.2.2.2.2.2.2.2.1, iσ7.2.2.2.2.2.2.2.2.2.1, iσ7.2.2.2.2.2.2.2.2.2.2.1, iσ7.2.2.2.2.2.2.2.2.2.2.2.1, iσ7.2.2.2.2.2.2.2.2.2.2.2.2.1, iσ7.2.2.2.2.2.2.2.2.2.2.2.2.2.1, iσ7.2.2.2.2.2.2.2.2.2.2.2.2.2.2.1, iσ7.2.2.2.2.2.2.2.2.2.2.2.2.2.2.2.1, iσ7.2.2.2.2.2.2.2.2.2.2.2.2.2.2.2.2.1, iσ7.2.2.2.2.2.2.2.2.2.2.2.2.2.2.2.2.2.1, iσ7.2.2.2.2.2.2.2.2.2.2.2.2.2.2.2.2.2.2.1, iσ7.2.2.2.2.2.2.2.2.2.2.2.2.2.2.2.2.2.2.2⟩
        exact g_vret hF rfl d_X1_item_83 ⟨rfl, rfl, rfl, ⟨j8, kp⟩⟩
      · -- not taken at 39
        refine g_aload_n hF d_X1_item_42 rfl 1 rfl ?_
        refine g_get (v := .ref (r 4)) hF 4 obC_8 (by decide) m_493 rfl d_X1_item_43 ?_
        refine g_bipush hF (v := 16) d_X1_item_46 (by decide) ?_
        refine g_aload_n hF d_X1_item_48 rfl 1 rfl ?_
        refine g_get (v := .int (σ1 8 10)) hF 10 obC_8 (by decide) m_502 rfl d_X1_item_49 ?_
        refine g_top (v := (σ0 8 10)) (ik1 8 10 rfl rfl rfl) ?_
        refine g_aload_n hF d_X1_item_52 rfl 1 rfl ?_
        refine g_get (v := .int (σ1 8 15)) hF 15 obC_8 (by decide) m_507 rfl d_X1_item_53 ?_
        refine g_top (v := (σ0 8 15)) (ik1 8 15 rfl rfl rfl) ?_
        refine g_iconst hF (v := 0) d_X1_item_56 (by decide) ?_
        refine g_callVN (As := [.int 16, .int (σ0 8 10), .int (σ0 8 15), .int 0]) (rest := []) hF (c_X0_emit a g r σ1 (16 : Int32) (σ0 8 10) (σ0 8 15) (0 : Int32) iσ1) (Nat.le_of_ble_eq_true rfl) mV_X0_emit nm_1379 (recv_ob obC_4) rfl rfl (Nat.le_of_ble_eq_true rfl) d_X1_item_57 (k_i (fun r9 σ9 ⟨iσ9, ik9⟩ => ?_))
        have kp : Keep [(4, 1), (5, 9), (7, 7), (8, 15), (8, 16)] [24, 31, 32, 33] σ0 σ9 := keep_c kp ik9 (by decide) (by decide)
        refine g_pop hF d_X1_item_60 rfl ?_
        refine g_goto hF 73 d_X1_item_61 (by decide) ?_
        refine g_aload_n hF d_X1_item_73 rfl 1 rfl ?_
        refine g_dup hF d_X1_item_74 rfl ?_
        refine g_get (v := .int (σ9 8 15)) hF 15 obC_8 (by decide) m_507 rfl d_X1_item_75 ?_
        refine g_top (v := (σ0 8 15)) ((ik9 8 15 rfl rfl rfl).trans (ik1 8 15 rfl rfl rfl)) ?_
        refine g_iconst hF (v := 1) d_X1_item_78 (by decide) ?_
        refine g_iadd hF d_X1_item_79 ?_
        refine g_put (v := ((σ0 8 15) + 1)) hF 15 obC_8 (by decide) m_507 rfl rfl rfl d_X1_item_80 ?_
        have kp : Keep [(4, 1), (5, 9), (7, 7), (8, 15), (8, 16)] [24, 31, 32, 33] σ0 (upC σ9 8 15 ((σ0 8 15) + 1)) := keep_f kp (by decide)
        have j10 : Inv (upC σ9 8 15 ((σ0 8 15) + 1)) := ⟨iσ9.1, iσ9.2.1, iσ9.2.2.1, iσ9.2.2.2.1, iσ9.2.2.2.2.1, iσ9.2.2.2.2.2.1, iσ9.2.2.2.2.2.2.1, iσ9.2.2.2.2.2.2.2.1, iσ9.2.2.2.2.2.2.2.2.1, iσ9.2.2.2.2.2.2.2.2.2.1, iσ9.2.2.2.2.2.2.2.2.2.2.1, iσ9.2.2.2.2.2.2.2.2.2.2.2.1, iσ9.2.2.2.2.2.2.2.2.2.2.2.2.1, iσ9.2.2.2.2.2.2.2.2.2.2.2.2.2.1, iσ9.2.2.2.2.2.2.2.2.2.2.2.2.2.2.1, iσ9.2.2.2.2.2.2.2.2.2.2.2.2.2.2.2.1, iσ9.2.2.2.2.2.2.2.2.2.2.2.2.2.2.2.2.1, iσ9.2.2.2.2.2.2.2.2.2.2.2.2.2.2.2.2.2.1, iσ9.2.2.2.2.2.2.2.2.2.2.2.2.2.2.2.2.2.2.1, iσ9.2.2.2.2.2.2.2.2.2.2.2.2.2.2.2.2.2.2.2⟩
        exact g_vret hF rfl d_X1_item_83 ⟨rfl, rfl, rfl, ⟨j10, kp⟩⟩
    · -- not taken at 24
      refine g_aload_n hF d_X1_item_27 rfl 1 rfl ?_
      refine g_iconst hF (v := 1) d_X1_item_28 (by decide) ?_
      refine g_putZ (v := 1) hF 16 obC_8 (by decide) m_508 rfl rfl rfl (Or.inr rfl) d_X1_item_29 ?_
      have kp : Keep [(4, 1), (5, 9), (7, 7), (8, 15), (8, 16)] [24, 31, 32, 33] σ0 (upC σ1 8 16 1) := keep_f kp (by decide)
      refine g_goto hF 73 d_X1_item_32 (by decide) ?_
      refine g_aload_n hF d_X1_item_73 rfl 1 rfl ?_
      refine g_dup hF d_X1_item_74 rfl ?_
      refine g_get (v := .int (σ1 8 15)) hF 15 obC_8 (by decide) m_507 rfl d_X1_item_75 ?_
      refine g_top (v := (σ0 8 15)) (ik1 8 15 rfl rfl rfl) ?_
      refine g_iconst hF (v := 1) d_X1_item_78 (by decide) ?_
      refine g_iadd hF d_X1_item_79 ?_
      refine g_put (v := ((σ0 8 15) + 1)) hF 15 obC_8 (by decide) m_507 rfl rfl rfl d_X1_item_80 ?_
      have kp : Keep [(4, 1), (5, 9), (7, 7), (8, 15), (8, 16)] [24, 31, 32, 33] σ0 (upC (upC σ1 8 16 1) 8 15 ((σ0 8 15) + 1)) := keep_f kp (by decide)
      have j11 : Inv (upC (upC σ1 8 16 1) 8 15 ((σ0 8 15) + 1)) := ⟨iσ1.1, iσ1.2.1, iσ1.2.2.1, iσ1.2.2.2.1, iσ1.2.2.2.2.1, iσ1.2.2.2.2.2.1, iσ1.2.2.2.2.2.2.1, iσ1.2.2.2.2.2.2.2.1, iσ1.2.2.2.2.2.2.2.2.1, iσ1.2.2.2.2.2.2.2.2.2.1, iσ1.2.2.2.2.2.2.2.2.2.2.1, iσ1.2.2.2.2.2.2.2.2.2.2.2.1, iσ1.2.2.2.2.2.2.2.2.2.2.2.2.1, iσ1.2.2.2.2.2.2.2.2.2.2.2.2.2.1, iσ1.2.2.2.2.2.2.2.2.2.2.2.2.2.2.1, iσ1.2.2.2.2.2.2.2.2.2.2.2.2.2.2.2.1, iσ1.2.2.2.2.2.2.2.2.2.2.2.2.2.2.2.2.1, iσ1.2.2.2.2.2.2.2.2.2.2.2.2.2.2.2.2.2.1, iσ1.2.2.2.2.2.2.2.2.2.2.2.2.2.2.2.2.2.2.1, iσ1.2.2.2.2.2.2.2.2.2.2.2.2.2.2.2.2.2.2.2⟩
      exact g_vret hF rfl d_X1_item_83 ⟨rfl, rfl, rfl, ⟨j11, kp⟩⟩
set_option maxHeartbeats 4000000 in
set_option maxRecDepth 100000 in
theorem c_X1_initial (a : Nat → Nat) (g : Nat → Nat → Int32) (r : Nat → Nat) (σ0 : St) (a1 : Int32) (a2 : Int32) (i0 : Inv σ0) (l : Launch) (D : va_G) (cy : Nat → ClassId) : Ct l D cy SC r (EC a g) y_X1_initial (Cond.code y_X1_initial b_X1_initial 4 none) 3 [.ref (r 8), .int a1, .int a2] σ0 Z0 [] (QV (fun σ9 => (Inv σ9 ∧ Keep [(4, 1), (5, 9), (6, 3), (6, 4), (7, 7), (8, 16)] [24, 31, 32, 33] σ0 σ9))) QF := by
  refine Ct_of (EC_ok a g) (by decide) (Nat.le_of_ble_eq_true rfl) (by decide) (fun X hnn hF => ?_)
  show G SC r X σ0 Z0 [] [(0, .ref (r 8)), (1, .int a1), (2, .int a2)] [] 0
  have kp : Keep [(4, 1), (5, 9), (6, 3), (6, 4), (7, 7), (8, 16)] [24, 31, 32, 33] σ0 σ0 := keep_rf
  refine g_iload_n hF d_X1_initial_0 rfl 2 rfl ?_
  refine g_iconst hF (v := 1) d_X1_initial_1 (by decide) ?_
  refine g_icmp_ne (yv := 1) hF 32 d_X1_initial_2 (by decide) rfl (by decide) (fun c1_2 => ?_) (fun c1_2 => ?_)
  · -- taken at 2
    refine g_iload_n hF d_X1_initial_32 rfl 2 rfl ?_
    refine g_if_ne hF 89 d_X1_initial_33 (by decide) rfl (fun c2_33 => ?_) (fun c2_33 => ?_)
    · -- taken at 33
      refine g_aload_n hF d_X1_initial_89 rfl 0 rfl ?_
      refine g_get (v := .int (σ0 8 16)) hF 16 obC_8 (by decide) m_508 rfl d_X1_initial_90 ?_
      refine g_if_ne hF 103 d_X1_initial_93 (by decide) rfl (fun c3_93 => ?_) (fun c3_93 => ?_)
      · -- taken at 93
        refine g_aload_n hF d_X1_initial_103 rfl 0 rfl ?_
        refine g_get (v := .ref (r 6)) hF 2 obC_8 (by decide) m_491 rfl d_X1_initial_104 ?_
        refine g_iconst hF (v := 2) d_X1_initial_107 (by decide) ?_
        refine g_iload_n hF d_X1_initial_108 rfl 1 rfl ?_
        refine g_callVN (As := [.int 2, .int a1]) (rest := []) hF (c_X11_fail a g r σ0 (2 : Int32) a1 i0) (Nat.le_of_ble_eq_true rfl) mV_X11_fail nm_1370 (recv_ob obC_6) rfl rfl (Nat.le_of_ble_eq_true rfl) d_X1_initial_109 (k_v (fun σ4 ⟨iσ4, ik4⟩ => ?_))
        have kp : Keep [(4, 1), (5, 9), (6, 3), (6, 4), (7, 7), (8, 16)] [24, 31, 32, 33] σ0 σ4 := keep_c kp ik4 (by decide) (by decide)
        exact g_vret hF rfl d_X1_initial_112 ⟨rfl, rfl, rfl, ⟨iσ4, kp⟩⟩
      · -- not taken at 93
        refine g_aload_n hF d_X1_initial_96 rfl 0 rfl ?_
        refine g_get (v := .int (σ0 8 13)) hF 13 obC_8 (by decide) m_505 rfl d_X1_initial_97 ?_
        refine g_if_eq hF 112 d_X1_initial_100 (by decide) rfl (fun c5_100 => ?_) (fun c5_100 => ?_)
        · -- taken at 100
          exact g_vret hF rfl d_X1_initial_112 ⟨rfl, rfl, rfl, ⟨i0, kp⟩⟩
        · -- not taken at 100
          refine g_aload_n hF d_X1_initial_103 rfl 0 rfl ?_
          refine g_get (v := .ref (r 6)) hF 2 obC_8 (by decide) m_491 rfl d_X1_initial_104 ?_
          refine g_iconst hF (v := 2) d_X1_initial_107 (by decide) ?_
          refine g_iload_n hF d_X1_initial_108 rfl 1 rfl ?_
          refine g_callVN (As := [.int 2, .int a1]) (rest := []) hF (c_X11_fail a g r σ0 (2 : Int32) a1 i0) (Nat.le_of_ble_eq_true rfl) mV_X11_fail nm_1370 (recv_ob obC_6) rfl rfl (Nat.le_of_ble_eq_true rfl) d_X1_initial_109 (k_v (fun σ6 ⟨iσ6, ik6⟩ => ?_))
          have kp : Keep [(4, 1), (5, 9), (6, 3), (6, 4), (7, 7), (8, 16)] [24, 31, 32, 33] σ0 σ6 := keep_c kp ik6 (by decide) (by decide)
          exact g_vret hF rfl d_X1_initial_112 ⟨rfl, rfl, rfl, ⟨iσ6, kp⟩⟩
    · -- not taken at 33
      refine g_aload_n hF d_X1_initial_36 rfl 0 rfl ?_
      refine g_get (v := .ref (r 7)) hF 5 obC_8 (by decide) m_495 rfl d_X1_initial_37 ?_
      refine g_callVN (As := []) (rest := []) hF (c_X2_pop a g r σ0 i0) (Nat.le_of_ble_eq_true rfl) mV_X2_pop nm_1415 (recv_ob obC_7) rfl rfl (Nat.le_of_ble_eq_true rfl) d_X1_initial_40 (k_a (fun q7 σ7 ⟨hq7, iσ7, ik7⟩ => ?_))
      have kp : Keep [(4, 1), (5, 9), (6, 3), (6, 4), (7, 7), (8, 16)] [24, 31, 32, 33] σ0 σ7 := keep_c kp ik7 (by decide) (by decide)
      refine g_astore_n hF [(3, .ref (r q7)), (0, .ref (r 8)), (1, .int a1), (2, .int a2)] d_X1_initial_43 rfl hnn (by decide) rfl ?_
      refine g_aload_n hF d_X1_initial_44 rfl 1 rfl ?_
      refine g_aload_n hF d_X1_initial_45 rfl 1 rfl ?_
      refine g_get (v := .int (σ7 8 12)) hF 12 obC_8 (by decide) m_504 rfl d_X1_initial_46 ?_
      refine g_top (v := (σ0 8 12)) (ik7 8 12 rfl rfl rfl) ?_
      refine g_iconst hF (v := (-1)) d_X1_initial_49 (by decide) ?_
      refine g_icmp_ne (yv := -1) hF 61 d_X1_initial_50 (by decide) rfl (by decide) (fun c8_50 => ?_) (fun c8_50 => ?_)
      · -- taken at 50
        refine g_iconst hF (v := 1) d_X1_initial_61 (by decide) ?_
        refine g_goto hF 66 d_X1_initial_62 (by decide) ?_
        refine g_putZ (v := 1) hF 16 obC_8 (by decide) m_508 rfl rfl rfl (Or.inr rfl) d_X1_initial_66 ?_
        have kp : Keep [(4, 1), (5, 9), (6, 3), (6, 4), (7, 7), (8, 16)] [24, 31, 32, 33] σ0 (upC σ7 8 16 1) := keep_f kp (by decide)
        refine g_aload_n hF d_X1_initial_69 rfl 1 rfl ?_
        refine g_get (v := .int (σ7 8 9)) hF 9 obC_8 (by decide) m_501 rfl d_X1_initial_70 ?_
        refine g_top (v := (σ0 8 9)) (ik7 8 9 rfl rfl rfl) ?_
        refine g_if_eq hF 83 d_X1_initial_73 (by decide) rfl (fun c9_73 => ?_) (fun c9_73 => ?_)
        · -- taken at 73
          refine g_aload_n hF d_X1_initial_83 rfl 1 rfl ?_
          refine g_iconst hF (v := 0) d_X1_initial_84 (by decide) ?_
          refine g_aload_n hF d_X1_initial_85 rfl 0 rfl ?_
          have j11 : Inv (upC σ7 8 16 1) := ⟨iσ7.1, iσ7.2.1, iσ7.2.2.1, iσ7.2.2.2.1, iσ7.2.2.2.2.1, iσ7.2.2.2.2.2.1, iσ7.2.2.2.2.2.2.1, iσ7.2.2.2.2.2.2.2.1, iσ7.2.2.2.2.2.2.2.2.1, iσ7.2.2.2.2.2.2.2.2.2.1, iσ7.2.2.2.2.2.2.2.2.2.2.1, iσ7.2.2.2.2.2.2.2.2.2.2.2.1, iσ7.2.2.2.2.2.2.2.2.2.2.2.2.1, iσ7.2.2.2.2.2.2.2.2.2.2.2.2.2.1, iσ7.2.2.2.2.2.2.2.2.2.2.2.2.2.2.1, iσ7.2.2.2.2.2.2.2.2.2.2.2.2.2.2.2.1, iσ7.2.2.2.2.2.2.2.2.2.2.2.2.2.2.2.2.1, iσ7.2.2.2.2.2.2.2.2.2.2.2.2.2.2.2.2.2.1, iσ7.2.2.2.2.2.2.2.2.2.2.2.2.2.2.2.2.2.2.1, iσ7.2.2.2.2.2.2.2.2.2.2.2.2.2.2.2.2.2.2.2⟩
          refine g_callV (As := [.int 0, .ref (r q7)]) (rest := []) hF (c_X1_putInitial a g r (upC σ7 8 16 1) (0 : Int32) q7 hq7 j11) (Nat.le_of_ble_eq_true rfl) mV_X1_putInitial m_1425 (recv_ob obC_8) rfl rfl (Nat.le_of_ble_eq_true rfl) d_X1_initial_86 (k_v (fun σ10 ⟨iσ10, ik10⟩ => ?_)) (fun _ _ _ h => h.elim)
          have kp : Keep [(4, 1), (5, 9), (6, 3), (6, 4), (7, 7), (8, 16)] [24, 31, 32, 33] σ0 σ10 := keep_c kp ik10 (by decide) (by decide)
          refine g_aload_n hF d_X1_initial_89 rfl 1 rfl ?_
          refine g_get (v := .int (σ10 8 16)) hF 16 obC_8 (by decide) m_508 rfl d_X1_initial_90 ?_
          refine g_top (v := 1) (ik10 8 16 rfl rfl rfl) ?_
          refine g_if_ne (xv := 1) hF 103 d_X1_initial_93 (by decide) (by decide) (fun _ => ?_) (fun c_93 => absurd c_93 (by decide))
          refine g_aload_n hF d_X1_initial_103 rfl 1 rfl ?_
          refine g_get (v := .ref (r 6)) hF 2 obC_8 (by decide) m_491 rfl d_X1_initial_104 ?_
          refine g_iconst hF (v := 2) d_X1_initial_107 (by decide) ?_
          refine g_iload_n hF d_X1_initial_108 rfl 2 rfl ?_
          refine g_callVN (As := [.int 2, .int a1]) (rest := []) hF (c_X11_fail a g r σ10 (2 : Int32) a1 iσ10) (Nat.le_of_ble_eq_true rfl) mV_X11_fail nm_1370 (recv_ob obC_6) rfl rfl (Nat.le_of_ble_eq_true rfl) d_X1_initial_109 (k_v (fun σ12 ⟨iσ12, ik12⟩ => ?_))
          have kp : Keep [(4, 1), (5, 9), (6, 3), (6, 4), (7, 7), (8, 16)] [24, 31, 32, 33] σ0 σ12 := keep_c kp ik12 (by decide) (by decide)
          exact g_vret hF rfl d_X1_initial_112 ⟨rfl, rfl, rfl, ⟨iσ12, kp⟩⟩
        · -- not taken at 73
          refine g_aload_n hF d_X1_initial_76 rfl 1 rfl ?_
          have j14 : Inv (upC σ7 8 16 1) := ⟨iσ7.1, iσ7.2.1, iσ7.2.2.1, iσ7.2.2.2.1, iσ7.2.2.2.2.1, iσ7.2.2.2.2.2.1, iσ7.2.2.2.2.2.2.1, iσ7.2.2.2.2.2.2.2.1, iσ7.2.2.2.2.2.2.2.2.1, iσ7.2.2.2.2.2.2.2.2.2.1, iσ7.2.2.2.2.2.2.2.2.2.2.1, iσ7.2.2.2.2.2.2.2.2.2.2.2.1, iσ7.2.2.2.2.2.2.2.2.2.2.2.2.1, iσ7.2.2.2.2.2.2.2.2.2.2.2.2.2.1, iσ7.2.2.2.2.2.2.2.2.2.2.2.2.2.2.1, iσ7.2.2.2.2.2.2.2.2.2.2.2.2.2.2.2.1, iσ7.2.2.2.2.2.2.2.2.2.2.2.2.2.2.2.2.1, iσ7.2.2.2.2.2.2.2.2.2.2.2.2.2.2.2.2.2.1, iσ7.2.2.2.2.2.2.2.2.2.2.2.2.2.2.2.2.2.2.1, iσ7.2.2.2.2.2.2.2.2.2.2.2.2.2.2.2.2.2.2.2⟩
          refine g_callV (As := []) (rest := []) hF (c_X1_storeLocal a g r (upC σ7 8 16 1) j14) (Nat.le_of_ble_eq_true rfl) mV_X1_storeLocal m_1380 (recv_ob obC_8) rfl rfl (Nat.le_of_ble_eq_true rfl) d_X1_initial_77 (k_v (fun σ13 ⟨iσ13, ik13⟩ => ?_)) (fun _ _ _ h => h.elim)
          have kp : Keep [(4, 1), (5, 9), (6, 3), (6, 4), (7, 7), (8, 16)] [24, 31, 32, 33] σ0 σ13 := keep_c kp ik13 (by decide) (by decide)
          refine g_goto hF 89 d_X1_initial_80 (by decide) ?_
          refine g_aload_n hF d_X1_initial_89 rfl 1 rfl ?_
          refine g_get (v := .int (σ13 8 16)) hF 16 obC_8 (by decide) m_508 rfl d_X1_initial_90 ?_
          refine g_top (v := 1) (ik13 8 16 rfl rfl rfl) ?_
          refine g_if_ne (xv := 1) hF 103 d_X1_initial_93 (by decide) (by decide) (fun _ => ?_) (fun c_93 => absurd c_93 (by decide))
          refine g_aload_n hF d_X1_initial_103 rfl 1 rfl ?_
          refine g_get (v := .ref (r 6)) hF 2 obC_8 (by decide) m_491 rfl d_X1_initial_104 ?_
          refine g_iconst hF (v := 2) d_X1_initial_107 (by decide) ?_
          refine g_iload_n hF d_X1_initial_108 rfl 2 rfl ?_
          refine g_callVN (As := [.int 2, .int a1]) (rest := []) hF (c_X11_fail a g r σ13 (2 : Int32) a1 iσ13) (Nat.le_of_ble_eq_true rfl) mV_X11_fail nm_1370 (recv_ob obC_6) rfl rfl (Nat.le_of_ble_eq_true rfl) d_X1_initial_109 (k_v (fun σ15 ⟨iσ15, ik15⟩ => ?_))
          have kp : Keep [(4, 1), (5, 9), (6, 3), (6, 4), (7, 7), (8, 16)] [24, 31, 32, 33] σ0 σ15 := keep_c kp ik15 (by decide) (by decide)
          exact g_vret hF rfl d_X1_initial_112 ⟨rfl, rfl, rfl, ⟨iσ15, kp⟩⟩
      · -- not taken at 50
        refine g_aload_n hF d_X1_initial_53 rfl 1 rfl ?_
        refine g_aload_n hF d_X1_initial_54 rfl 0 rfl ?_
        refine g_callV (As := [.ref (r q7)]) (rest := [.ref (r 8)]) hF (c_X1_suits a g r σ7 q7 hq7 iσ7) (Nat.le_of_ble_eq_true rfl) mV_X1_suits m_1416 (recv_ob obC_8) rfl rfl (Nat.le_of_ble_eq_true rfl) d_X1_initial_55 (k_roz (fun r16 hz16 => ?_)) (fun _ _ _ h => h.elim)
        refine g_if_ne hF 65 d_X1_initial_58 (by decide) rfl (fun c17_58 => ?_) (fun c17_58 => ?_)
        · -- taken at 58
          refine g_iconst hF (v := 0) d_X1_initial_65 (by decide) ?_
          refine g_putZ (v := 0) hF 16 obC_8 (by decide) m_508 rfl rfl rfl (Or.inl rfl) d_X1_initial_66 ?_
          have kp : Keep [(4, 1), (5, 9), (6, 3), (6, 4), (7, 7), (8, 16)] [24, 31, 32, 33] σ0 (upC σ7 8 16 0) := keep_f kp (by decide)
          refine g_aload_n hF d_X1_initial_69 rfl 1 rfl ?_
          refine g_get (v := .int (σ7 8 9)) hF 9 obC_8 (by decide) m_501 rfl d_X1_initial_70 ?_
          refine g_top (v := (σ0 8 9)) (ik7 8 9 rfl rfl rfl) ?_
          refine g_if_eq hF 83 d_X1_initial_73 (by decide) rfl (fun c18_73 => ?_) (fun c18_73 => ?_)
          · -- taken at 73
            refine g_aload_n hF d_X1_initial_83 rfl 1 rfl ?_
            refine g_iconst hF (v := 0) d_X1_initial_84 (by decide) ?_
            refine g_aload_n hF d_X1_initial_85 rfl 0 rfl ?_
            have j20 : Inv (upC σ7 8 16 0) := ⟨iσ7.1, iσ7.2.1, iσ7.2.2.1, iσ7.2.2.2.1, iσ7.2.2.2.2.1, iσ7.2.2.2.2.2.1, iσ7.2.2.2.2.2.2.1, iσ7.2.2.2.2.2.2.2.1, iσ7.2.2.2.2.2.2.2.2.1, iσ7.2.2.2.2.2.2.2.2.2.1, iσ7.2.2.2.2.2.2.2.2.2.2.1, iσ7.2.2.2.2.2.2.2.2.2.2.2.1, iσ7.2.2.2.2.2.2.2.2.2.2.2.2.1, iσ7.2.2.2.2.2.2.2.2.2.2.2.2.2.1, iσ7.2.2.2.2.2.2.2.2.2.2.2.2.2.2.1, iσ7.2.2.2.2.2.2.2.2.2.2.2.2.2.2.2.1, iσ7.2.2.2.2.2.2.2.2.2.2.2.2.2.2.2.2.1, iσ7.2.2.2.2.2.2.2.2.2.2.2.2.2.2.2.2.2.1, iσ7.2.2.2.2.2.2.2.2.2.2.2.2.2.2.2.2.2.2.1, iσ7.2.2.2.2.2.2.2.2.2.2.2.2.2.2.2.2.2.2.2⟩
            refine g_callV (As := [.int 0, .ref (r q7)]) (rest := []) hF (c_X1_putInitial a g r (upC σ7 8 16 0) (0 : Int32) q7 hq7 j20) (Nat.le_of_ble_eq_true rfl) mV_X1_putInitial m_1425 (recv_ob obC_8) rfl rfl (Nat.le_of_ble_eq_true rfl) d_X1_initial_86 (k_v (fun σ19 ⟨iσ19, ik19⟩ => ?_)) (fun _ _ _ h => h.elim)
            have kp : Keep [(4, 1), (5, 9), (6, 3), (6, 4), (7, 7), (8, 16)] [24, 31, 32, 33] σ0 σ19 := keep_c kp ik19 (by decide) (by decide)
            refine g_aload_n hF d_X1_initial_89 rfl 1 rfl ?_
            refine g_get (v := .int (σ19 8 16)) hF 16 obC_8 (by decide) m_508 rfl d_X1_initial_90 ?_
            refine g_top (v := 0) (ik19 8 16 rfl rfl rfl) ?_
            refine g_if_ne (xv := 0) hF 103 d_X1_initial_93 (by decide) (by decide) (fun c_93 => absurd c_93 (by decide)) (fun _ => ?_)
            refine g_aload_n hF d_X1_initial_96 rfl 1 rfl ?_
            refine g_get (v := .int (σ19 8 13)) hF 13 obC_8 (by decide) m_505 rfl d_X1_initial_97 ?_
            refine g_top (v := (σ0 8 13)) ((ik19 8 13 rfl rfl rfl).trans (ik7 8 13 rfl rfl rfl)) ?_
            refine g_if_eq hF 112 d_X1_initial_100 (by decide) rfl (fun c21_100 => ?_) (fun c21_100 => ?_)
            · -- taken at 100
              exact g_vret hF rfl d_X1_initial_112 ⟨rfl, rfl, rfl, ⟨iσ19, kp⟩⟩
            · -- not taken at 100
              refine g_aload_n hF d_X1_initial_103 rfl 1 rfl ?_
              refine g_get (v := .ref (r 6)) hF 2 obC_8 (by decide) m_491 rfl d_X1_initial_104 ?_
              refine g_iconst hF (v := 2) d_X1_initial_107 (by decide) ?_
              refine g_iload_n hF d_X1_initial_108 rfl 2 rfl ?_
              refine g_callVN (As := [.int 2, .int a1]) (rest := []) hF (c_X11_fail a g r σ19 (2 : Int32) a1 iσ19) (Nat.le_of_ble_eq_true rfl) mV_X11_fail nm_1370 (recv_ob obC_6) rfl rfl (Nat.le_of_ble_eq_true rfl) d_X1_initial_109 (k_v (fun σ22 ⟨iσ22, ik22⟩ => ?_))
              have kp : Keep [(4, 1), (5, 9), (6, 3), (6, 4), (7, 7), (8, 16)] [24, 31, 32, 33] σ0 σ22 := keep_c kp ik22 (by decide) (by decide)
              exact g_vret hF rfl d_X1_initial_112 ⟨rfl, rfl, rfl, ⟨iσ22, kp⟩⟩
          · -- not taken at 73
            refine g_aload_n hF d_X1_initial_76 rfl 1 rfl ?_
            have j24 : Inv (upC σ7 8 16 0) := ⟨iσ7.1, iσ7.2.1, iσ7.2.2.1, iσ7.2.2.2.1, iσ7.2.2.2.2.1, iσ7.2.2.2.2.2.1, iσ7.2.2.2.2.2.2.1, iσ7.2.2.2.2.2.2.2.1, iσ7.2.2.2.2.2.2.2.2.1, iσ7.2.2.2.2.2.2.2.2.2.1, iσ7.2.2.2.2.2.2.2.2.2.2.1, iσ7.2.2.2.2.2.2.2.2.2.2.2.1, iσ7.2.2.2.2.2.2.2.2.2.2.2.2.1, iσ7.2.2.2.2.2.2.2.2.2.2.2.2.2.1, iσ7.2.2.2.2.2.2.2.2.2.2.2.2.2.2.1, iσ7.2.2.2.2.2.2.2.2.2.2.2.2.2.2.2.1, iσ7.2.2.2.2.2.2.2.2.2.2.2.2.2.2.2.2.1, iσ7.2.2.2.2.2.2.2.2.2.2.2.2.2.2.2.2.2.1, iσ7.2.2.2.2.2.2.2.2.2.2.2.2.2.2.2.2.2.2.1, iσ7.2.2.2.2.2.2.2.2.2.2.2.2.2.2.2.2.2.2.2⟩
            refine g_callV (As := []) (rest := []) hF (c_X1_storeLocal a g r (upC σ7 8 16 0) j24) (Nat.le_of_ble_eq_true rfl) mV_X1_storeLocal m_1380 (recv_ob obC_8) rfl rfl (Nat.le_of_ble_eq_true rfl) d_X1_initial_77 (k_v (fun σ23 ⟨iσ23, ik23⟩ => ?_)) (fun _ _ _ h => h.elim)
            have kp : Keep [(4, 1), (5, 9), (6, 3), (6, 4), (7, 7), (8, 16)] [24, 31, 32, 33] σ0 σ23 := keep_c kp ik23 (by decide) (by decide)
            refine g_goto hF 89 d_X1_initial_80 (by decide) ?_
            refine g_aload_n hF d_X1_initial_89 rfl 1 rfl ?_
            refine g_get (v := .int (σ23 8 16)) hF 16 obC_8 (by decide) m_508 rfl d_X1_initial_90 ?_
            refine g_top (v := 0) (ik23 8 16 rfl rfl rfl) ?_
            refine g_if_ne (xv := 0) hF 103 d_X1_initial_93 (by decide) (by decide) (fun c_93 => absurd c_93 (by decide)) (fun _ => ?_)
            refine g_aload_n hF d_X1_initial_96 rfl 1 rfl ?_
            refine g_get (v := .int (σ23 8 13)) hF 13 obC_8 (by decide) m_505 rfl d_X1_initial_97 ?_
            refine g_top (v := (σ0 8 13)) ((ik23 8 13 rfl rfl rfl).trans (ik7 8 13 rfl rfl rfl)) ?_
            refine g_if_eq hF 112 d_X1_initial_100 (by decide) rfl (fun c25_100 => ?_) (fun c25_100 => ?_)
            · -- taken at 100
              exact g_vret hF rfl d_X1_initial_112 ⟨rfl, rfl, rfl, ⟨iσ23, kp⟩⟩
            · -- not taken at 100
              refine g_aload_n hF d_X1_initial_103 rfl 1 rfl ?_
              refine g_get (v := .ref (r 6)) hF 2 obC_8 (by decide) m_491 rfl d_X1_initial_104 ?_
              refine g_iconst hF (v := 2) d_X1_initial_107 (by decide) ?_
              refine g_iload_n hF d_X1_initial_108 rfl 2 rfl ?_
              refine g_callVN (As := [.int 2, .int a1]) (rest := []) hF (c_X11_fail a g r σ23 (2 : Int32) a1 iσ23) (Nat.le_of_ble_eq_true rfl) mV_X11_fail nm_1370 (recv_ob obC_6) rfl rfl (Nat.le_of_ble_eq_true rfl) d_X1_initial_109 (k_v (fun σ26 ⟨iσ26, ik26⟩ => ?_))
              have kp : Keep [(4, 1), (5, 9), (6, 3), (6, 4), (7, 7), (8, 16)] [24, 31, 32, 33] σ0 σ26 := keep_c kp ik26 (by decide) (by decide)
              exact g_vret hF rfl d_X1_initial_112 ⟨rfl, rfl, rfl, ⟨iσ26, kp⟩⟩
        · -- not taken at 58
          refine g_iconst hF (v := 1) d_X1_initial_61 (by decide) ?_
          refine g_goto hF 66 d_X1_initial_62 (by decide) ?_
          refine g_putZ (v := 1) hF 16 obC_8 (by decide) m_508 rfl rfl rfl (Or.inr rfl) d_X1_initial_66 ?_
          have kp : Keep [(4, 1), (5, 9), (6, 3), (6, 4), (7, 7), (8, 16)] [24, 31, 32, 33] σ0 (upC σ7 8 16 1) := keep_f kp (by decide)
          refine g_aload_n hF d_X1_initial_69 rfl 1 rfl ?_
          refine g_get (v := .int (σ7 8 9)) hF 9 obC_8 (by decide) m_501 rfl d_X1_initial_70 ?_
          refine g_top (v := (σ0 8 9)) (ik7 8 9 rfl rfl rfl) ?_
          refine g_if_eq hF 83 d_X1_initial_73 (by decide) rfl (fun c27_73 => ?_) (fun c27_73 => ?_)
          · -- taken at 73
            refine g_aload_n hF d_X1_initial_83 rfl 1 rfl ?_
            refine g_iconst hF (v := 0) d_X1_initial_84 (by decide) ?_
            refine g_aload_n hF d_X1_initial_85 rfl 0 rfl ?_
            have j29 : Inv (upC σ7 8 16 1) := ⟨iσ7.1, iσ7.2.1, iσ7.2.2.1, iσ7.2.2.2.1, iσ7.2.2.2.2.1, iσ7.2.2.2.2.2.1, iσ7.2.2.2.2.2.2.1, iσ7.2.2.2.2.2.2.2.1, iσ7.2.2.2.2.2.2.2.2.1, iσ7.2.2.2.2.2.2.2.2.2.1, iσ7.2.2.2.2.2.2.2.2.2.2.1, iσ7.2.2.2.2.2.2.2.2.2.2.2.1, iσ7.2.2.2.2.2.2.2.2.2.2.2.2.1, iσ7.2.2.2.2.2.2.2.2.2.2.2.2.2.1, iσ7.2.2.2.2.2.2.2.2.2.2.2.2.2.2.1, iσ7.2.2.2.2.2.2.2.2.2.2.2.2.2.2.2.1, iσ7.2.2.2.2.2.2.2.2.2.2.2.2.2.2.2.2.1, iσ7.2.2.2.2.2.2.2.2.2.2.2.2.2.2.2.2.2.1, iσ7.2.2.2.2.2.2.2.2.2.2.2.2.2.2.2.2.2.2.1, iσ7.2.2.2.2.2.2.2.2.2.2.2.2.2.2.2.2.2.2.2⟩
            refine g_callV (As := [.int 0, .ref (r q7)]) (rest := []) hF (c_X1_putInitial a g r (upC σ7 8 16 1) (0 : Int32) q7 hq7 j29) (Nat.le_of_ble_eq_true rfl) mV_X1_putInitial m_1425 (recv_ob obC_8) rfl rfl (Nat.le_of_ble_eq_true rfl) d_X1_initial_86 (k_v (fun σ28 ⟨iσ28, ik28⟩ => ?_)) (fun _ _ _ h => h.elim)
            have kp : Keep [(4, 1), (5, 9), (6, 3), (6, 4), (7, 7), (8, 16)] [24, 31, 32, 33] σ0 σ28 := keep_c kp ik28 (by decide) (by decide)
            refine g_aload_n hF d_X1_initial_89 rfl 1 rfl ?_
            refine g_get (v := .int (σ28 8 16)) hF 16 obC_8 (by decide) m_508 rfl d_X1_initial_90 ?_
            refine g_top (v := 1) (ik28 8 16 rfl rfl rfl) ?_
            refine g_if_ne (xv := 1) hF 103 d_X1_initial_93 (by decide) (by decide) (fun _ => ?_) (fun c_93 => absurd c_93 (by decide))
            refine g_aload_n hF d_X1_initial_103 rfl 1 rfl ?_
            refine g_get (v := .ref (r 6)) hF 2 obC_8 (by decide) m_491 rfl d_X1_initial_104 ?_
            refine g_iconst hF (v := 2) d_X1_initial_107 (by decide) ?_
            refine g_iload_n hF d_X1_initial_108 rfl 2 rfl ?_
            refine g_callVN (As := [.int 2, .int a1]) (rest := []) hF (c_X11_fail a g r σ28 (2 : Int32) a1 iσ28) (Nat.le_of_ble_eq_true rfl) mV_X11_fail nm_1370 (recv_ob obC_6) rfl rfl (Nat.le_of_ble_eq_true rfl) d_X1_initial_109 (k_v (fun σ30 ⟨iσ30, ik30⟩ => ?_))
            have kp : Keep [(4, 1), (5, 9), (6, 3), (6, 4), (7, 7), (8, 16)] [24, 31, 32, 33] σ0 σ30 := keep_c kp ik30 (by decide) (by decide)
            exact g_vret hF rfl d_X1_initial_112 ⟨rfl, rfl, rfl, ⟨iσ30, kp⟩⟩
          · -- not taken at 73
            refine g_aload_n hF d_X1_initial_76 rfl 1 rfl ?_
            have j32 : Inv (upC σ7 8 16 1) := ⟨iσ7.1, iσ7.2.1, iσ7.2.2.1, iσ7.2.2.2.1, iσ7.2.2.2.2.1, iσ7.2.2.2.2.2.1, iσ7.2.2.2.2.2.2.1, iσ7.2.2.2.2.2.2.2.1, iσ7.2.2.2.2.2.2.2.2.1, iσ7.2.2.2.2.2.2.2.2.2.1, iσ7.2.2.2.2.2.2.2.2.2.2.1, iσ7.2.2.2.2.2.2.2.2.2.2.2.1, iσ7.2.2.2.2.2.2.2.2.2.2.2.2.1, iσ7.2.2.2.2.2.2.2.2.2.2.2.2.2.1, iσ7.2.2.2.2.2.2.2.2.2.2.2.2.2.2.1, iσ7.2.2.2.2.2.2.2.2.2.2.2.2.2.2.2.1, iσ7.2.2.2.2.2.2.2.2.2.2.2.2.2.2.2.2.1, iσ7.2.2.2.2.2.2.2.2.2.2.2.2.2.2.2.2.2.1, iσ7.2.2.2.2.2.2.2.2.2.2.2.2.2.2.2.2.2.2.1, iσ7.2.2.2.2.2.2.2.2.2.2.2.2.2.2.2.2.2.2.2⟩
            refine g_callV (As := []) (rest := []) hF (c_X1_storeLocal a g r (upC σ7 8 16 1) j32) (Nat.le_of_ble_eq_true rfl) mV_X1_storeLocal m_1380 (recv_ob obC_8) rfl rfl (Nat.le_of_ble_eq_true rfl) d_X1_initial_77 (k_v (fun σ31 ⟨iσ31, ik31⟩ => ?_)) (fun _ _ _ h => h.elim)
            have kp : Keep [(4, 1), (5, 9), (6, 3), (6, 4), (7, 7), (8, 16)] [24, 31, 32, 33] σ0 σ31 := keep_c kp ik31 (by decide) (by decide)
            refine g_goto hF 89 d_X1_initial_80 (by decide) ?_
            refine g_aload_n hF d_X1_initial_89 rfl 1 rfl ?_
            refine g_get (v := .int (σ31 8 16)) hF 16 obC_8 (by decide) m_508 rfl d_X1_initial_90 ?_
            refine g_top (v := 1) (ik31 8 16 rfl rfl rfl) ?_
            refine g_if_ne (xv := 1) hF 103 d_X1_initial_93 (by decide) (by decide) (fun _ => ?_) (fun c_93 => absurd c_93 (by decide))
            refine g_aload_n hF d_X1_initial_103 rfl 1 rfl ?_
            refine g_get (v := .ref (r 6)) hF 2 obC_8 (by decide) m_491 rfl d_X1_initial_104 ?_
            refine g_iconst hF (v := 2) d_X1_initial_107 (by decide) ?_
            refine g_iload_n hF d_X1_initial_108 rfl 2 rfl ?_
            refine g_callVN (As := [.int 2, .int a1]) (rest := []) hF (c_X11_fail a g r σ31 (2 : Int32) a1 iσ31) (Nat.le_of_ble_eq_true rfl) mV_X11_fail nm_1370 (recv_ob obC_6) rfl rfl (Nat.le_of_ble_eq_true rfl) d_X1_initial_109 (k_v (fun σ33 ⟨iσ33, ik33⟩ => ?_))
            have kp : Keep [(4, 1), (5, 9), (6, 3), (6, 4), (7, 7), (8, 16)] [24, 31, 32, 33] σ0 σ33 := keep_c kp ik33 (by decide) (by decide)
            exact g_vret hF rfl d_X1_initial_112 ⟨rfl, rfl, rfl, ⟨iσ33, kp⟩⟩
  · -- not taken at 2
    refine g_aload_n hF d_X1_initial_5 rfl 0 rfl ?_
    refine g_aload_n hF d_X1_initial_6 rfl 0 rfl ?_
    refine g_get (v := .int (σ0 8 16)) hF 16 obC_8 (by decide) m_508 rfl d_X1_initial_7 ?_
    refine g_if_ne hF 21 d_X1_initial_10 (by decide) rfl (fun c34_10 => ?_) (fun c34_10 => ?_)
    · -- taken at 10
      refine g_iconst hF (v := 1) d_X1_initial_21 (by decide) ?_
      refine g_goto hF 26 d_X1_initial_22 (by decide) ?_
      refine g_putZ (v := 1) hF 16 obC_8 (by decide) m_508 rfl rfl rfl (Or.inr rfl) d_X1_initial_26 ?_
      have kp : Keep [(4, 1), (5, 9), (6, 3), (6, 4), (7, 7), (8, 16)] [24, 31, 32, 33] σ0 (upC σ0 8 16 1) := keep_f kp (by decide)
      refine g_goto hF 89 d_X1_initial_29 (by decide) ?_
      refine g_aload_n hF d_X1_initial_89 rfl 0 rfl ?_
      refine g_get (v := .int 1) hF 16 obC_8 (by decide) m_508 rfl d_X1_initial_90 ?_
      refine g_if_ne (xv := 1) hF 103 d_X1_initial_93 (by decide) (by decide) (fun _ => ?_) (fun c_93 => absurd c_93 (by decide))
      refine g_aload_n hF d_X1_initial_103 rfl 0 rfl ?_
      refine g_get (v := .ref (r 6)) hF 2 obC_8 (by decide) m_491 rfl d_X1_initial_104 ?_
      refine g_iconst hF (v := 2) d_X1_initial_107 (by decide) ?_
      refine g_iload_n hF d_X1_initial_108 rfl 1 rfl ?_
      have j36 : Inv (upC σ0 8 16 1) := ⟨i0.1, i0.2.1, i0.2.2.1, i0.2.2.2.1, i0.2.2.2.2.1, i0.2.2.2.2.2.1, i0.2.2.2.2.2.2.1, i0.2.2.2.2.2.2.2.1, i0.2.2.2.2.2.2.2.2.1, i0.2.2.2.2.2.2.2.2.2.1, i0.2.2.2.2.2.2.2.2.2.2.1, i0.2.2.2.2.2.2.2.2.2.2.2.1, i0.2.2.2.2.2.2.2.2.2.2.2.2.1, i0.2.2.2.2.2.2.2.2.2.2.2.2.2.1, i0.2.2.2.2.2.2.2.2.2.2.2.2.2.2.1, i0.2.2.2.2.2.2.2.2.2.2.2.2.2.2.2.1, i0.2.2.2.2.2.2.2.2.2.2.2.2.2.2.2.2.1, i0.2.2.2.2.2.2.2.2.2.2.2.2.2.2.2.2.2.1, i0.2.2.2.2.2.2.2.2.2.2.2.2.2.2.2.2.2.2.1, i0.2.2.2.2.2.2.2.2.2.2.2.2.2.2.2.2.2.2.2⟩
      refine g_callVN (As := [.int 2, .int a1]) (rest := []) hF (c_X11_fail a g r (upC σ0 8 16 1) (2 : Int32) a1 j36) (Nat.le_of_ble_eq_true rfl) mV_X11_fail nm_1370 (recv_ob obC_6) rfl rfl (Nat.le_of_ble_eq_true rfl) d_X1_initial_109 (k_v (fun σ35 ⟨iσ35, ik35⟩ => ?_))
      have kp : Keep [(4, 1), (5, 9), (6, 3), (6, 4), (7, 7), (8, 16)] [24, 31, 32, 33] σ0 σ35 := keep_c kp ik35 (by decide) (by decide)
      exact g_vret hF rfl d_X1_initial_112 ⟨rfl, rfl, rfl, ⟨iσ35, kp⟩⟩
    · -- not taken at 10
      refine g_aload_n hF d_X1_initial_13 rfl 0 rfl ?_
      refine g_get (v := .int (σ0 8 12)) hF 12 obC_8 (by decide) m_504 rfl d_X1_initial_14 ?_
      refine g_iconst hF (v := (-1)) d_X1_initial_17 (by decide) ?_
      refine g_icmp_ne (yv := -1) hF 25 d_X1_initial_18 (by decide) rfl (by decide) (fun c37_18 => ?_) (fun c37_18 => ?_)
      · -- taken at 18
        refine g_iconst hF (v := 0) d_X1_initial_25 (by decide) ?_
        refine g_putZ (v := 0) hF 16 obC_8 (by decide) m_508 rfl rfl rfl (Or.inl rfl) d_X1_initial_26 ?_
        have kp : Keep [(4, 1), (5, 9), (6, 3), (6, 4), (7, 7), (8, 16)] [24, 31, 32, 33] σ0 (upC σ0 8 16 0) := keep_f kp (by decide)
        refine g_goto hF 89 d_X1_initial_29 (by decide) ?_
        refine g_aload_n hF d_X1_initial_89 rfl 0 rfl ?_
        refine g_get (v := .int 0) hF 16 obC_8 (by decide) m_508 rfl d_X1_initial_90 ?_
        refine g_if_ne (xv := 0) hF 103 d_X1_initial_93 (by decide) (by decide) (fun c_93 => absurd c_93 (by decide)) (fun _ => ?_)
        refine g_aload_n hF d_X1_initial_96 rfl 0 rfl ?_
        refine g_get (v := .int (σ0 8 13)) hF 13 obC_8 (by decide) m_505 rfl d_X1_initial_97 ?_
        refine g_if_eq hF 112 d_X1_initial_100 (by decide) rfl (fun c38_100 => ?_) (fun c38_100 => ?_)
        · -- taken at 100
          have j39 : Inv (upC σ0 8 16 0) := ⟨i0.1, i0.2.1, i0.2.2.1, i0.2.2.2.1, i0.2.2.2.2.1, i0.2.2.2.2.2.1, i0.2.2.2.2.2.2.1, i0.2.2.2.2.2.2.2.1, i0.2.2.2.2.2.2.2.2.1, i0.2.2.2.2.2.2.2.2.2.1, i0.2.2.2.2.2.2.2.2.2.2.1, i0.2.2.2.2.2.2.2.2.2.2.2.1, i0.2.2.2.2.2.2.2.2.2.2.2.2.1, i0.2.2.2.2.2.2.2.2.2.2.2.2.2.1, i0.2.2.2.2.2.2.2.2.2.2.2.2.2.2.1, i0.2.2.2.2.2.2.2.2.2.2.2.2.2.2.2.1, i0.2.2.2.2.2.2.2.2.2.2.2.2.2.2.2.2.1, i0.2.2.2.2.2.2.2.2.2.2.2.2.2.2.2.2.2.1, i0.2.2.2.2.2.2.2.2.2.2.2.2.2.2.2.2.2.2.1, i0.2.2.2.2.2.2.2.2.2.2.2.2.2.2.2.2.2.2.2⟩
          exact g_vret hF rfl d_X1_initial_112 ⟨rfl, rfl, rfl, ⟨j39, kp⟩⟩
        · -- not taken at 100
          refine g_aload_n hF d_X1_initial_103 rfl 0 rfl ?_
          refine g_get (v := .ref (r 6)) hF 2 obC_8 (by decide) m_491 rfl d_X1_initial_104 ?_
          refine g_iconst hF (v := 2) d_X1_initial_107 (by decide) ?_
          refine g_iload_n hF d_X1_initial_108 rfl 1 rfl ?_
          have j41 : Inv (upC σ0 8 16 0) := ⟨i0.1, i0.2.1, i0.2.2.1, i0.2.2.2.1, i0.2.2.2.2.1, i0.2.2.2.2.2.1, i0.2.2.2.2.2.2.1, i0.2.2.2.2.2.2.2.1, i0.2.2.2.2.2.2.2.2.1, i0.2.2.2.2.2.2.2.2.2.1, i0.2.2.2.2.2.2.2.2.2.2.1, i0.2.2.2.2.2.2.2.2.2.2.2.1, i0.2.2.2.2.2.2.2.2.2.2.2.2.1, i0.2.2.2.2.2.2.2.2.2.2.2.2.2.1, i0.2.2.2.2.2.2.2.2.2.2.2.2.2.2.1, i0.2.2.2.2.2.2.2.2.2.2.2.2.2.2.2.1, i0.2.2.2.2.2.2.2.2.2.2.2.2.2.2.2.2.1, i0.2.2.2.2.2.2.2.2.2.2.2.2.2.2.2.2.2.1, i0.2.2.2.2.2.2.2.2.2.2.2.2.2.2.2.2.2.2.1, i0.2.2.2.2.2.2.2.2.2.2.2.2.2.2.2.2.2.2.2⟩
          refine g_callVN (As := [.int 2, .int a1]) (rest := []) hF (c_X11_fail a g r (upC σ0 8 16 0) (2 : Int32) a1 j41) (Nat.le_of_ble_eq_true rfl) mV_X11_fail nm_1370 (recv_ob obC_6) rfl rfl (Nat.le_of_ble_eq_true rfl) d_X1_initial_109 (k_v (fun σ40 ⟨iσ40, ik40⟩ => ?_))
          have kp : Keep [(4, 1), (5, 9), (6, 3), (6, 4), (7, 7), (8, 16)] [24, 31, 32, 33] σ0 σ40 := keep_c kp ik40 (by decide) (by decide)
          exact g_vret hF rfl d_X1_initial_112 ⟨rfl, rfl, rfl, ⟨iσ40, kp⟩⟩
      · -- not taken at 18
        refine g_iconst hF (v := 1) d_X1_initial_21 (by decide) ?_
        refine g_goto hF 26 d_X1_initial_22 (by decide) ?_
        refine g_putZ (v := 1) hF 16 obC_8 (by decide) m_508 rfl rfl rfl (Or.inr rfl) d_X1_initial_26 ?_
        have kp : Keep [(4, 1), (5, 9), (6, 3), (6, 4), (7, 7), (8, 16)] [24, 31, 32, 33] σ0 (upC σ0 8 16 1) := keep_f kp (by decide)
        refine g_goto hF 89 d_X1_initial_29 (by decide) ?_
        refine g_aload_n hF d_X1_initial_89 rfl 0 rfl ?_
        refine g_get (v := .int 1) hF 16 obC_8 (by decide) m_508 rfl d_X1_initial_90 ?_
        refine g_if_ne (xv := 1) hF 103 d_X1_initial_93 (by decide) (by decide) (fun _ => ?_) (fun c_93 => absurd c_93 (by decide))
        refine g_aload_n hF d_X1_initial_103 rfl 0 rfl ?_
        refine g_get (v := .ref (r 6)) hF 2 obC_8 (by decide) m_491 rfl d_X1_initial_104 ?_
        refine g_iconst hF (v := 2) d_X1_initial_107 (by decide) ?_
        refine g_iload_n hF d_X1_initial_108 rfl 1 rfl ?_
        have j43 : Inv (upC σ0 8 16 1) := ⟨i0.1, i0.2.1, i0.2.2.1, i0.2.2.2.1, i0.2.2.2.2.1, i0.2.2.2.2.2.1, i0.2.2.2.2.2.2.1, i0.2.2.2.2.2.2.2.1, i0.2.2.2.2.2.2.2.2.1, i0.2.2.2.2.2.2.2.2.2.1, i0.2.2.2.2.2.2.2.2.2.2.1, i0.2.2.2.2.2.2.2.2.2.2.2.1, i0.2.2.2.2.2.2.2.2.2.2.2.2.1, i0.2.2.2.2.2.2.2.2.2.2.2.2.2.1, i0.2.2.2.2.2.2.2.2.2.2.2.2.2.2.1, i0.2.2.2.2.2.2.2.2.2.2.2.2.2.2.2.1, i0.2.2.2.2.2.2.2.2.2.2.2.2.2.2.2.2.1, i0.2.2.2.2.2.2.2.2.2.2.2.2.2.2.2.2.2.1, i0.2.2.2.2.2.2.2.2.2.2.2.2.2.2.2.2.2.2.1, i0.2.2.2.2.2.2.2.2.2.2.2.2.2.2.2.2.2.2.2⟩
        refine g_callVN (As := [.int 2, .int a1]) (rest := []) hF (c_X11_fail a g r (upC σ0 8 16 1) (2 : Int32) a1 j43) (Nat.le_of_ble_eq_true rfl) mV_X11_fail nm_1370 (recv_ob obC_6) rfl rfl (Nat.le_of_ble_eq_true rfl) d_X1_initial_109 (k_v (fun σ42 ⟨iσ42, ik42⟩ => ?_))
        have kp : Keep [(4, 1), (5, 9), (6, 3), (6, 4), (7, 7), (8, 16)] [24, 31, 32, 33] σ0 σ42 := keep_c kp ik42 (by decide) (by decide)
        exact g_vret hF rfl d_X1_initial_112 ⟨rfl, rfl, rfl, ⟨iσ42, kp⟩⟩
set_option maxHeartbeats 4000000 in
set_option maxRecDepth 100000 in
theorem c_X5_call (a : Nat → Nat) (g : Nat → Nat → Int32) (r : Nat → Nat) (σ0 : St) (a1 : Int32) (a2 : Int32) (i0 : Inv σ0) (l : Launch) (D : va_G) (cy : Nat → ClassId) : Ct l D cy SC r (EC a g) y_X5_call (Cond.code y_X5_call b_X5_call 3 none) 3 [.ref (r 12), .int a1, .int a2] σ0 Z0 [] (QV (fun σ9 => (Inv σ9 ∧ Keep [(11, 1), (11, 2), (12, 7), (12, 8), (12, 9), (12, 10), (12, 11), (12, 13), (12, 14), (12, 15), (12, 16), (12, 17)] [61, 62, 63, 64] σ0 σ9))) QF := by
  refine Ct_of (EC_ok a g) (by decide) (Nat.le_of_ble_eq_true rfl) (by decide) (fun X hnn hF => ?_)
  show G SC r X σ0 Z0 [] [(0, .ref (r 12)), (1, .int a1), (2, .int a2)] [] 0
  have kp : Keep [(11, 1), (11, 2), (12, 7), (12, 8), (12, 9), (12, 10), (12, 11), (12, 13), (12, 14), (12, 15), (12, 16), (12, 17)] [61, 62, 63, 64] σ0 σ0 := keep_rf
  refine g_iload_n hF d_X5_call_0 rfl 1 rfl ?_
  refine g_if_lt hF 13 d_X5_call_1 (by decide) rfl (fun c1_1 => ?_) (fun c1_1 => ?_)
  · -- taken at 1
    refine g_aload_n hF d_X5_call_13 rfl 0 rfl ?_
    refine g_iconst hF (v := (-1)) d_X5_call_14 (by decide) ?_
    refine g_iload_n hF d_X5_call_15 rfl 1 rfl ?_
    refine g_isub hF d_X5_call_16 ?_
    refine g_iload_n hF d_X5_call_17 rfl 2 rfl ?_
    refine g_callV (As := [.int ((-1) - a1), .int a2]) (rest := []) hF (c_X5_useLibrary a g r σ0 ((-1) - a1) a2 i0) (Nat.le_of_ble_eq_true rfl) mV_X5_useLibrary m_1702 (recv_ob obC_12) rfl rfl (Nat.le_of_ble_eq_true rfl) d_X5_call_18 (k_v (fun σ2 ⟨iσ2, ik2⟩ => ?_)) (fun _ _ _ h => h.elim)
    have kp : Keep [(11, 1), (11, 2), (12, 7), (12, 8), (12, 9), (12, 10), (12, 11), (12, 13), (12, 14), (12, 15), (12, 16), (12, 17)] [61, 62, 63, 64] σ0 σ2 := keep_c kp ik2 (by decide) (by decide)
    exact g_vret hF rfl d_X5_call_21 ⟨rfl, rfl, rfl, ⟨iσ2, kp⟩⟩
  · -- not taken at 1
    refine g_aload_n hF d_X5_call_4 rfl 0 rfl ?_
    refine g_iload_n hF d_X5_call_5 rfl 1 rfl ?_
    refine g_iload_n hF d_X5_call_6 rfl 2 rfl ?_
    refine g_callV (As := [.int a1, .int a2]) (rest := []) hF (c_X5_enter a g r σ0 a1 a2 i0) (Nat.le_of_ble_eq_true rfl) mV_X5_enter m_1648 (recv_ob obC_12) rfl rfl (Nat.le_of_ble_eq_true rfl) d_X5_call_7 (k_v (fun σ3 ⟨iσ3, ik3⟩ => ?_)) (fun _ _ _ h => h.elim)
    have kp : Keep [(11, 1), (11, 2), (12, 7), (12, 8), (12, 9), (12, 10), (12, 11), (12, 13), (12, 14), (12, 15), (12, 16), (12, 17)] [61, 62, 63, 64] σ0 σ3 := keep_c kp ik3 (by decide) (by decide)
    refine g_goto hF 21 d_X5_call_10 (by decide) ?_
    exact g_vret hF rfl d_X5_call_21 ⟨rfl, rfl, rfl, ⟨iσ3, kp⟩⟩
set_option maxHeartbeats 4000000 in
set_option maxRecDepth 100000 in
theorem c_X2_argument (a : Nat → Nat) (g : Nat → Nat → Int32) (r : Nat → Nat) (σ0 : St) (i0 : Inv σ0) (l : Launch) (D : va_G) (cy : Nat → ClassId) : Ct l D cy SC r (EC a g) y_X2_argument (Cond.code y_X2_argument b_X2_argument 5 none) 3 [.ref (r 7)] σ0 Z0 [] (QV (fun σ9 => (Inv σ9 ∧ Keep [(4, 1), (7, 7)] [24] σ0 σ9))) QF := by
  refine Ct_of (EC_ok a g) (by decide) (Nat.le_of_ble_eq_true rfl) (by decide) (fun X hnn hF => ?_)
  show G SC r X σ0 Z0 [] [(0, .ref (r 7))] [] 0
  have kp : Keep [(4, 1), (7, 7)] [24] σ0 σ0 := keep_rf
  refine g_aload_n hF d_X2_argument_0 rfl 0 rfl ?_
  refine g_callV (As := []) (rest := []) hF (c_X2_pop a g r σ0 i0) (Nat.le_of_ble_eq_true rfl) mV_X2_pop m_1156 (recv_ob obC_7) rfl rfl (Nat.le_of_ble_eq_true rfl) d_X2_argument_1 (k_a (fun q1 σ1 ⟨hq1, iσ1, ik1⟩ => ?_)) (fun _ _ _ h => h.elim)
  have kp : Keep [(4, 1), (7, 7)] [24] σ0 σ1 := keep_c kp ik1 (by decide) (by decide)
  refine g_astore_n hF [(1, .ref (r q1)), (0, .ref (r 7))] d_X2_argument_4 rfl hnn (by decide) rfl ?_
  refine g_aload_n hF d_X2_argument_5 rfl 1 rfl ?_
  refine g_callV (As := []) (rest := []) hF (c_X2_top a g r σ1 iσ1) (Nat.le_of_ble_eq_true rfl) mV_X2_top m_1160 (recv_ob obC_7) rfl rfl (Nat.le_of_ble_eq_true rfl) d_X2_argument_6 (k_roa (fun q2 hq2 => ?_)) (fun _ _ _ h => h.elim)
  refine g_astore_n hF [(2, .ref (r q2)), (1, .ref (r q1)), (0, .ref (r 7))] d_X2_argument_9 rfl hnn (by decide) rfl ?_
  refine g_aload_n hF d_X2_argument_10 rfl 2 rfl ?_
  refine g_get (v := .ref (r 5)) hF 3 obC_7 (by decide) m_459 rfl d_X2_argument_11 ?_
  refine g_getN (v := .ref (r 27)) hF 4 obC_5 (by decide) nm_233 rfl d_X2_argument_14 ?_
  refine g_aload_n hF d_X2_argument_17 rfl 0 rfl ?_
  refine g_getN hF 4 (obC_op hq2) (by decide) nm_408 (fval_op hq2) d_X2_argument_18 ?_
  refine g_any (fun v3 => ?_)
  refine g_callSN (As := [.ref (r 27), .int v3]) (rest := []) hF (c_at a g r σ1 arC_27 (by decide) v3) (Nat.le_of_ble_eq_true rfl) mS_X12_at nm_1058 rfl rfl (Nat.le_of_ble_eq_true rfl) d_X2_argument_21 (k_rop (fun r4 hr4 => ?_))
  refine g_istore_n hF [(3, .int r4), (2, .ref (r q2)), (1, .ref (r q1)), (0, .ref (r 7))] d_X2_argument_24 rfl hnn (by decide) rfl ?_
  refine g_aload_n hF d_X2_argument_25 rfl 1 rfl ?_
  refine g_getN hF 11 (obC_op hq2) (by decide) nm_426 (fval_op hq2) d_X2_argument_26 ?_
  refine g_any (fun v5 => ?_)
  refine g_istore hF [(4, .int v5), (3, .int r4), (2, .ref (r q2)), (1, .ref (r q1)), (0, .ref (r 7))] d_X2_argument_29 hnn (by decide) rfl ?_
  refine g_iload hF d_X2_argument_31 0 rfl ?_
  refine g_iload_n hF d_X2_argument_33 rfl 1 rfl ?_
  refine g_callSN (As := [.int r4]) (rest := [.int v5]) hF (c_X8_parameters a g r σ1 r4 iσ1) (Nat.le_of_ble_eq_true rfl) mS_X8_parameters nm_1172 rfl rfl (Nat.le_of_ble_eq_true rfl) d_X2_argument_34 (k_ro (fun r6 => ?_))
  refine g_icmp_ge hF 53 d_X2_argument_37 (by decide) rfl rfl (fun c7_37 => ?_) (fun c7_37 => ?_)
  · -- taken at 37
    refine g_aload_n hF d_X2_argument_53 rfl 2 rfl ?_
    refine g_iconst hF (v := 1) d_X2_argument_54 (by decide) ?_
    refine g_putZN hF 12 (obC_op hq2) (by decide) nm_428 rfl rfl (rf_op hq2) (Or.inr rfl) d_X2_argument_55 ?_
    obtain ⟨σ8, eσ8⟩ : ∃ z, z = upC σ1 q2 12 (1 : Int32) := ⟨_, rfl⟩
    rw [← eσ8]
    have ik8 : Keep [] [] σ1 σ8 := by rw [eσ8]; exact keep_op hq2
    have kp : Keep [(4, 1), (7, 7)] [24] σ0 σ8 := keep_c kp ik8 (by decide) (by decide)
    have iσ8 : Inv σ8 := inv_keep ik8 iσ1
    refine g_aload_n hF d_X2_argument_58 rfl 2 rfl ?_
    refine g_dup hF d_X2_argument_59 rfl ?_
    refine g_getN hF 11 (obC_op hq2) (by decide) nm_426 (fval_op hq2) d_X2_argument_60 ?_
    refine g_any (fun v9 => ?_)
    refine g_iconst hF (v := 1) d_X2_argument_63 (by decide) ?_
    refine g_iadd hF d_X2_argument_64 ?_
    refine g_putN hF 11 (obC_op hq2) (by decide) nm_426 rfl rfl (rf_op hq2) d_X2_argument_65 ?_
    obtain ⟨σ10, eσ10⟩ : ∃ z, z = upC σ8 q2 11 (v9 + 1) := ⟨_, rfl⟩
    rw [← eσ10]
    have ik10 : Keep [] [] σ8 σ10 := by rw [eσ10]; exact keep_op hq2
    have kp : Keep [(4, 1), (7, 7)] [24] σ0 σ10 := keep_c kp ik10 (by decide) (by decide)
    have iσ10 : Inv σ10 := inv_keep ik10 iσ8
    refine g_aload_n hF d_X2_argument_68 rfl 2 rfl ?_
    refine g_aload_n hF d_X2_argument_69 rfl 2 rfl ?_
    refine g_getN hF 2 (obC_op hq2) (by decide) nm_404 (fval_op hq2) d_X2_argument_70 ?_
    refine g_any (fun v11 => ?_)
    refine g_aload_n hF d_X2_argument_73 rfl 3 rfl ?_
    refine g_getN hF 2 (obC_op hq1) (by decide) nm_404 (fval_op hq1) d_X2_argument_74 ?_
    refine g_any (fun v12 => ?_)
    refine g_mmax hF (Nat.le_of_ble_eq_true rfl) m_1130 m_1131 m_23 m_1132 (Nat.le_of_ble_eq_true rfl) d_X2_argument_77 ?_
    refine g_nm (fun v14 ev14 => ?_)
    have mv14 := s_max ev14
    refine g_putN hF 2 (obC_op hq2) (by decide) nm_404 rfl rfl (rf_op hq2) d_X2_argument_80 ?_
    obtain ⟨σ15, eσ15⟩ : ∃ z, z = upC σ10 q2 2 v14 := ⟨_, rfl⟩
    rw [← eσ15]
    have ik15 : Keep [] [] σ10 σ15 := by rw [eσ15]; exact keep_op hq2
    have kp : Keep [(4, 1), (7, 7)] [24] σ0 σ15 := keep_c kp ik15 (by decide) (by decide)
    have iσ15 : Inv σ15 := inv_keep ik15 iσ10
    exact g_vret hF rfl d_X2_argument_83 ⟨rfl, rfl, rfl, ⟨iσ15, kp⟩⟩
  · -- not taken at 37
    refine g_aload_n hF d_X2_argument_40 rfl 3 rfl ?_
    refine g_iload_n hF d_X2_argument_41 rfl 1 rfl ?_
    refine g_iload hF d_X2_argument_42 0 rfl ?_
    refine g_callSN (As := [.int r4, .int v5]) (rest := [.ref (r q1)]) hF (c_X8_parameter a g r σ1 r4 v5 iσ1) (Nat.le_of_ble_eq_true rfl) mS_X8_parameter nm_1173 rfl rfl (Nat.le_of_ble_eq_true rfl) d_X2_argument_44 (k_ro (fun r16 => ?_))
    refine g_callVN (As := [.int r16]) (rest := []) hF (c_X6_fits a g r σ1 r16 q1 hq1 iσ1) (Nat.le_of_ble_eq_true rfl) mV_X6_fits nm_1174 (recv_ob (obC_op hq1)) rfl rfl (Nat.le_of_ble_eq_true rfl) d_X2_argument_47 (k_roz (fun r17 hz17 => ?_))
    refine g_if_ne hF 58 d_X2_argument_50 (by decide) rfl (fun c18_50 => ?_) (fun c18_50 => ?_)
    · -- taken at 50
      refine g_aload_n hF d_X2_argument_58 rfl 2 rfl ?_
      refine g_dup hF d_X2_argument_59 rfl ?_
      refine g_getN hF 11 (obC_op hq2) (by decide) nm_426 (fval_op hq2) d_X2_argument_60 ?_
      refine g_any (fun v19 => ?_)
      refine g_iconst hF (v := 1) d_X2_argument_63 (by decide) ?_
      refine g_iadd hF d_X2_argument_64 ?_
      refine g_putN hF 11 (obC_op hq2) (by decide) nm_426 rfl rfl (rf_op hq2) d_X2_argument_65 ?_
      obtain ⟨σ20, eσ20⟩ : ∃ z, z = upC σ1 q2 11 (v19 + 1) := ⟨_, rfl⟩
      rw [← eσ20]
      have ik20 : Keep [] [] σ1 σ20 := by rw [eσ20]; exact keep_op hq2
      have kp : Keep [(4, 1), (7, 7)] [24] σ0 σ20 := keep_c kp ik20 (by decide) (by decide)
      have iσ20 : Inv σ20 := inv_keep ik20 iσ1
      refine g_aload_n hF d_X2_argument_68 rfl 2 rfl ?_
      refine g_aload_n hF d_X2_argument_69 rfl 2 rfl ?_
      refine g_getN hF 2 (obC_op hq2) (by decide) nm_404 (fval_op hq2) d_X2_argument_70 ?_
      refine g_any (fun v21 => ?_)
      refine g_aload_n hF d_X2_argument_73 rfl 3 rfl ?_
      refine g_getN hF 2 (obC_op hq1) (by decide) nm_404 (fval_op hq1) d_X2_argument_74 ?_
      refine g_any (fun v22 => ?_)
      refine g_mmax hF (Nat.le_of_ble_eq_true rfl) m_1130 m_1131 m_23 m_1132 (Nat.le_of_ble_eq_true rfl) d_X2_argument_77 ?_
      refine g_nm (fun v24 ev24 => ?_)
      have mv24 := s_max ev24
      refine g_putN hF 2 (obC_op hq2) (by decide) nm_404 rfl rfl (rf_op hq2) d_X2_argument_80 ?_
      obtain ⟨σ25, eσ25⟩ : ∃ z, z = upC σ20 q2 2 v24 := ⟨_, rfl⟩
      rw [← eσ25]
      have ik25 : Keep [] [] σ20 σ25 := by rw [eσ25]; exact keep_op hq2
      have kp : Keep [(4, 1), (7, 7)] [24] σ0 σ25 := keep_c kp ik25 (by decide) (by decide)
      have iσ25 : Inv σ25 := inv_keep ik25 iσ20
      exact g_vret hF rfl d_X2_argument_83 ⟨rfl, rfl, rfl, ⟨iσ25, kp⟩⟩
    · -- not taken at 50
      refine g_aload_n hF d_X2_argument_53 rfl 2 rfl ?_
      refine g_iconst hF (v := 1) d_X2_argument_54 (by decide) ?_
      refine g_putZN hF 12 (obC_op hq2) (by decide) nm_428 rfl rfl (rf_op hq2) (Or.inr rfl) d_X2_argument_55 ?_
      obtain ⟨σ26, eσ26⟩ : ∃ z, z = upC σ1 q2 12 (1 : Int32) := ⟨_, rfl⟩
      rw [← eσ26]
      have ik26 : Keep [] [] σ1 σ26 := by rw [eσ26]; exact keep_op hq2
      have kp : Keep [(4, 1), (7, 7)] [24] σ0 σ26 := keep_c kp ik26 (by decide) (by decide)
      have iσ26 : Inv σ26 := inv_keep ik26 iσ1
      refine g_aload_n hF d_X2_argument_58 rfl 2 rfl ?_
      refine g_dup hF d_X2_argument_59 rfl ?_
      refine g_getN hF 11 (obC_op hq2) (by decide) nm_426 (fval_op hq2) d_X2_argument_60 ?_
      refine g_any (fun v27 => ?_)
      refine g_iconst hF (v := 1) d_X2_argument_63 (by decide) ?_
      refine g_iadd hF d_X2_argument_64 ?_
      refine g_putN hF 11 (obC_op hq2) (by decide) nm_426 rfl rfl (rf_op hq2) d_X2_argument_65 ?_
      obtain ⟨σ28, eσ28⟩ : ∃ z, z = upC σ26 q2 11 (v27 + 1) := ⟨_, rfl⟩
      rw [← eσ28]
      have ik28 : Keep [] [] σ26 σ28 := by rw [eσ28]; exact keep_op hq2
      have kp : Keep [(4, 1), (7, 7)] [24] σ0 σ28 := keep_c kp ik28 (by decide) (by decide)
      have iσ28 : Inv σ28 := inv_keep ik28 iσ26
      refine g_aload_n hF d_X2_argument_68 rfl 2 rfl ?_
      refine g_aload_n hF d_X2_argument_69 rfl 2 rfl ?_
      refine g_getN hF 2 (obC_op hq2) (by decide) nm_404 (fval_op hq2) d_X2_argument_70 ?_
      refine g_any (fun v29 => ?_)
      refine g_aload_n hF d_X2_argument_73 rfl 3 rfl ?_
      refine g_getN hF 2 (obC_op hq1) (by decide) nm_404 (fval_op hq1) d_X2_argument_74 ?_
      refine g_any (fun v30 => ?_)
      refine g_mmax hF (Nat.le_of_ble_eq_true rfl) m_1130 m_1131 m_23 m_1132 (Nat.le_of_ble_eq_true rfl) d_X2_argument_77 ?_
      refine g_nm (fun v32 ev32 => ?_)
      have mv32 := s_max ev32
      refine g_putN hF 2 (obC_op hq2) (by decide) nm_404 rfl rfl (rf_op hq2) d_X2_argument_80 ?_
      obtain ⟨σ33, eσ33⟩ : ∃ z, z = upC σ28 q2 2 v32 := ⟨_, rfl⟩
      rw [← eσ33]
      have ik33 : Keep [] [] σ28 σ33 := by rw [eσ33]; exact keep_op hq2
      have kp : Keep [(4, 1), (7, 7)] [24] σ0 σ33 := keep_c kp ik33 (by decide) (by decide)
      have iσ33 : Inv σ33 := inv_keep ik33 iσ28
      exact g_vret hF rfl d_X2_argument_83 ⟨rfl, rfl, rfl, ⟨iσ33, kp⟩⟩
