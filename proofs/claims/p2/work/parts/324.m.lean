set_option maxHeartbeats 4000000 in
set_option maxRecDepth 100000 in
theorem c_X3_unary (a : Nat → Nat) (g : Nat → Nat → Int32) (r : Nat → Nat) (k : Nat) (σ0 : St) (a1 : Int32) (ih : 2 ≤ k → RX a g r (k - 1)) (h1 : 1 ≤ a1.toInt) (hk : a1.toInt + (k : Int) = 26) (i0 : Inv σ0) (l : Launch) (D : va_G) (cy : Nat → ClassId) : Ct l D cy SC r (EC a g) y_X3_unary (Cond.code y_X3_unary b_X3_unary 3 none) (14 * k + 5) [.ref (r 3), .int a1] σ0 Z0 [] (QV (fun σ9 => (Inv σ9 ∧ Keep [(3, 1), (3, 2), (3, 3), (3, 4), (3, 9)] [18, 19, 20, 21, 22, 23] σ0 σ9))) QF := by
  refine Ct_of (EC_ok a g) (by decide) (Nat.le_of_ble_eq_true rfl) (by decide) (fun X hnn hF => ?_)
  show G SC r X σ0 Z0 [] [(0, .ref (r 3)), (1, .int a1)] [] 0
  have kp : Keep [(3, 1), (3, 2), (3, 3), (3, 4), (3, 9)] [18, 19, 20, 21, 22, 23] σ0 σ0 := keep_rf
  refine g_aload_n hF d_X3_unary_0 rfl 0 rfl ?_
  refine g_get (v := .int (σ0 3 1)) hF 1 obC_3 (by decide) m_95 rfl d_X3_unary_1 ?_
  refine g_istore_n hF [(2, .int (σ0 3 1)), (0, .ref (r 3)), (1, .int a1)] d_X3_unary_4 rfl hnn (by decide) rfl ?_
  refine g_aload_n hF d_X3_unary_5 rfl 1 rfl ?_
  refine g_get (v := .int (σ0 3 2)) hF 2 obC_3 (by decide) m_96 rfl d_X3_unary_6 ?_
  refine (Decidable.em ((σ0 3 2).toInt = 44)).elim (fun q1_9_0 => ?_) (fun q1_9_0 => ?_)
  · refine g_tableIn (off := 91) hF 100 d_X3_unary_9 q1_9_0 (by decide) (by decide) (by decide +kernel) (by decide) ?_
    refine g_aload_n hF d_X3_unary_100 rfl 1 rfl ?_
    refine g_iload_n hF d_X3_unary_101 rfl 2 rfl ?_
    refine g_callV (As := [.int a1]) (rest := []) hF (c_X3_deeper a g r σ0 a1 i0) (Nat.le_of_ble_eq_true rfl) mV_X3_deeper m_943 (recv_ob obC_3) rfl rfl (Nat.le_of_ble_eq_true rfl) d_X3_unary_102 (k_i (fun r2 σ2 ⟨hz2, hp2, iσ2, ik2⟩ => ?_)) (fun _ _ _ h => h.elim)
    have kp : Keep [(3, 1), (3, 2), (3, 3), (3, 4), (3, 9)] [18, 19, 20, 21, 22, 23] σ0 σ2 := keep_c kp ik2 (by decide) (by decide)
    refine g_if_eq hF 167 d_X3_unary_105 (by decide) rfl (fun c3_105 => ?_) (fun c3_105 => ?_)
    · -- taken at 105
      exact g_vret hF rfl d_X3_unary_167 ⟨rfl, rfl, rfl, ⟨iσ2, kp⟩⟩
    · -- not taken at 105
      refine g_aload_n hF d_X3_unary_108 rfl 1 rfl ?_
      refine g_iload_n hF d_X3_unary_109 rfl 2 rfl ?_
      refine g_iconst hF (v := 1) d_X3_unary_110 (by decide) ?_
      refine g_iadd hF d_X3_unary_111 ?_
      refine g_callV (As := [.int (a1 + 1)]) (rest := []) hF (((ih (by have e0 := s_rng a1; have e1 : (1 : Int32).toInt = 1 := (by decide); obtain ⟨k2, e2⟩ := s_add a1 (1 : Int32); have e2a := s_rng (a1 + 1); have e4 := s_rng r2; have e5 : (0 : Int32).toInt = 0 := (by decide); omega)) σ2 (a1 + 1) (by have e0 := s_rng a1; have e1 : (1 : Int32).toInt = 1 := (by decide); obtain ⟨k2, e2⟩ := s_add a1 (1 : Int32); have e2a := s_rng (a1 + 1); have e4 := s_rng r2; have e5 : (0 : Int32).toInt = 0 := (by decide); omega) (by have e0 := s_rng a1; have e1 : (1 : Int32).toInt = 1 := (by decide); obtain ⟨k2, e2⟩ := s_add a1 (1 : Int32); have e2a := s_rng (a1 + 1); have e4 := s_rng r2; have e5 : (0 : Int32).toInt = 0 := (by decide); omega) iσ2).2.2) (by have : 2 ≤ k := (by have e0 := s_rng a1; have e1 : (1 : Int32).toInt = 1 := (by decide); obtain ⟨k2, e2⟩ := s_add a1 (1 : Int32); have e2a := s_rng (a1 + 1); have e4 := s_rng r2; have e5 : (0 : Int32).toInt = 0 := (by decide); omega); omega) mV_X3_unary m_939 (recv_ob obC_3) rfl rfl (Nat.le_of_ble_eq_true rfl) d_X3_unary_112 (k_v (fun σ4 ⟨iσ4, ik4⟩ => ?_)) (fun _ _ _ h => h.elim)
      have kp : Keep [(3, 1), (3, 2), (3, 3), (3, 4), (3, 9)] [18, 19, 20, 21, 22, 23] σ0 σ4 := keep_c kp ik4 (by decide) (by decide)
      refine g_aload_n hF d_X3_unary_115 rfl 1 rfl ?_
      refine g_bipush hF (v := 11) d_X3_unary_116 (by decide) ?_
      refine g_iload_n hF d_X3_unary_118 rfl 0 rfl ?_
      refine g_iconst hF (v := 0) d_X3_unary_119 (by decide) ?_
      refine g_iconst hF (v := 0) d_X3_unary_120 (by decide) ?_
      refine g_callV (As := [.int 11, .int (σ0 3 1), .int 0, .int 0]) (rest := []) hF (c_X3_add a g r σ4 (11 : Int32) (σ0 3 1) (0 : Int32) (0 : Int32) iσ4) (Nat.le_of_ble_eq_true rfl) mV_X3_add m_923 (recv_ob obC_3) rfl rfl (Nat.le_of_ble_eq_true rfl) d_X3_unary_121 (k_i (fun r5 σ5 ⟨iσ5, ik5⟩ => ?_)) (fun _ _ _ h => h.elim)
      have kp : Keep [(3, 1), (3, 2), (3, 3), (3, 4), (3, 9)] [18, 19, 20, 21, 22, 23] σ0 σ5 := keep_c kp ik5 (by decide) (by decide)
      refine g_pop hF d_X3_unary_124 rfl ?_
      refine g_goto hF 167 d_X3_unary_125 (by decide) ?_
      exact g_vret hF rfl d_X3_unary_167 ⟨rfl, rfl, rfl, ⟨iσ5, kp⟩⟩
  refine (Decidable.em ((σ0 3 2).toInt = 45)).elim (fun q6_9_1 => ?_) (fun q6_9_1 => ?_)
  · refine g_tableIn (off := 91) hF 100 d_X3_unary_9 q6_9_1 (by decide) (by decide) (by decide +kernel) (by decide) ?_
    refine g_aload_n hF d_X3_unary_100 rfl 1 rfl ?_
    refine g_iload_n hF d_X3_unary_101 rfl 2 rfl ?_
    refine g_callV (As := [.int a1]) (rest := []) hF (c_X3_deeper a g r σ0 a1 i0) (Nat.le_of_ble_eq_true rfl) mV_X3_deeper m_943 (recv_ob obC_3) rfl rfl (Nat.le_of_ble_eq_true rfl) d_X3_unary_102 (k_i (fun r7 σ7 ⟨hz7, hp7, iσ7, ik7⟩ => ?_)) (fun _ _ _ h => h.elim)
    have kp : Keep [(3, 1), (3, 2), (3, 3), (3, 4), (3, 9)] [18, 19, 20, 21, 22, 23] σ0 σ7 := keep_c kp ik7 (by decide) (by decide)
    refine g_if_eq hF 167 d_X3_unary_105 (by decide) rfl (fun c8_105 => ?_) (fun c8_105 => ?_)
    · -- taken at 105
      exact g_vret hF rfl d_X3_unary_167 ⟨rfl, rfl, rfl, ⟨iσ7, kp⟩⟩
    · -- not taken at 105
      refine g_aload_n hF d_X3_unary_108 rfl 1 rfl ?_
      refine g_iload_n hF d_X3_unary_109 rfl 2 rfl ?_
      refine g_iconst hF (v := 1) d_X3_unary_110 (by decide) ?_
      refine g_iadd hF d_X3_unary_111 ?_
      refine g_callV (As := [.int (a1 + 1)]) (rest := []) hF (((ih (by have e0 := s_rng a1; have e1 : (1 : Int32).toInt = 1 := (by decide); obtain ⟨k2, e2⟩ := s_add a1 (1 : Int32); have e2a := s_rng (a1 + 1); have e4 := s_rng r7; have e5 : (0 : Int32).toInt = 0 := (by decide); omega)) σ7 (a1 + 1) (by have e0 := s_rng a1; have e1 : (1 : Int32).toInt = 1 := (by decide); obtain ⟨k2, e2⟩ := s_add a1 (1 : Int32); have e2a := s_rng (a1 + 1); have e4 := s_rng r7; have e5 : (0 : Int32).toInt = 0 := (by decide); omega) (by have e0 := s_rng a1; have e1 : (1 : Int32).toInt = 1 := (by decide); obtain ⟨k2, e2⟩ := s_add a1 (1 : Int32); have e2a := s_rng (a1 + 1); have e4 := s_rng r7; have e5 : (0 : Int32).toInt = 0 := (by decide); omega) iσ7).2.2) (by have : 2 ≤ k := (by have e0 := s_rng a1; have e1 : (1 : Int32).toInt = 1 := (by decide); obtain ⟨k2, e2⟩ := s_add a1 (1 : Int32); have e2a := s_rng (a1 + 1); have e4 := s_rng r7; have e5 : (0 : Int32).toInt = 0 := (by decide); omega); omega) mV_X3_unary m_939 (recv_ob obC_3) rfl rfl (Nat.le_of_ble_eq_true rfl) d_X3_unary_112 (k_v (fun σ9 ⟨iσ9, ik9⟩ => ?_)) (fun _ _ _ h => h.elim)
      have kp : Keep [(3, 1), (3, 2), (3, 3), (3, 4), (3, 9)] [18, 19, 20, 21, 22, 23] σ0 σ9 := keep_c kp ik9 (by decide) (by decide)
      refine g_aload_n hF d_X3_unary_115 rfl 1 rfl ?_
      refine g_bipush hF (v := 11) d_X3_unary_116 (by decide) ?_
      refine g_iload_n hF d_X3_unary_118 rfl 0 rfl ?_
      refine g_iconst hF (v := 0) d_X3_unary_119 (by decide) ?_
      refine g_iconst hF (v := 0) d_X3_unary_120 (by decide) ?_
      refine g_callV (As := [.int 11, .int (σ0 3 1), .int 0, .int 0]) (rest := []) hF (c_X3_add a g r σ9 (11 : Int32) (σ0 3 1) (0 : Int32) (0 : Int32) iσ9) (Nat.le_of_ble_eq_true rfl) mV_X3_add m_923 (recv_ob obC_3) rfl rfl (Nat.le_of_ble_eq_true rfl) d_X3_unary_121 (k_i (fun r10 σ10 ⟨iσ10, ik10⟩ => ?_)) (fun _ _ _ h => h.elim)
      have kp : Keep [(3, 1), (3, 2), (3, 3), (3, 4), (3, 9)] [18, 19, 20, 21, 22, 23] σ0 σ10 := keep_c kp ik10 (by decide) (by decide)
      refine g_pop hF d_X3_unary_124 rfl ?_
      refine g_goto hF 167 d_X3_unary_125 (by decide) ?_
      exact g_vret hF rfl d_X3_unary_167 ⟨rfl, rfl, rfl, ⟨iσ10, kp⟩⟩
  refine (Decidable.em ((σ0 3 2).toInt = 46)).elim (fun q11_9_2 => ?_) (fun q11_9_2 => ?_)
  · refine g_tableIn (off := 119) hF 128 d_X3_unary_9 q11_9_2 (by decide) (by decide) (by decide +kernel) (by decide) ?_
    refine g_aload_n hF d_X3_unary_128 rfl 1 rfl ?_
    refine g_get (v := .int (σ0 3 2)) hF 2 obC_3 (by decide) m_96 rfl d_X3_unary_129 ?_
    refine g_bipush hF (v := 20) d_X3_unary_132 (by decide) ?_
    refine g_icmp_ne (yv := 20) hF 162 d_X3_unary_134 (by decide) rfl (by decide) (fun c12_134 => ?_) (fun c12_134 => ?_)
    · -- taken at 134
      refine g_aload_n hF d_X3_unary_162 rfl 1 rfl ?_
      refine g_iload_n hF d_X3_unary_163 rfl 2 rfl ?_
      refine g_callV (As := [.int a1]) (rest := []) hF (c_X3_behind a g r k σ0 a1 ih h1 hk i0) (by omega) mV_X3_behind m_954 (recv_ob obC_3) rfl rfl (Nat.le_of_ble_eq_true rfl) d_X3_unary_164 (k_v (fun σ13 ⟨iσ13, ik13⟩ => ?_)) (fun _ _ _ h => h.elim)
      have kp : Keep [(3, 1), (3, 2), (3, 3), (3, 4), (3, 9)] [18, 19, 20, 21, 22, 23] σ0 σ13 := keep_c kp ik13 (by decide) (by decide)
      exact g_vret hF rfl d_X3_unary_167 ⟨rfl, rfl, rfl, ⟨iσ13, kp⟩⟩
    · -- not taken at 134
      refine g_aload_n hF d_X3_unary_137 rfl 1 rfl ?_
      refine g_get (v := .ref (r 2)) hF 0 obC_3 (by decide) m_94 rfl d_X3_unary_138 ?_
      refine g_getN (v := .ref (r 13)) hF 5 obC_2 (by decide) nm_50 rfl d_X3_unary_141 ?_
      refine g_iload_n hF d_X3_unary_144 rfl 0 rfl ?_
      refine g_iconst hF (v := 1) d_X3_unary_145 (by decide) ?_
      refine g_iadd hF d_X3_unary_146 ?_
      refine g_callSN (As := [.ref (r 13), .int ((σ0 3 1) + 1)]) (rest := []) hF (c_at a g r σ0 arC_13 (by decide) ((σ0 3 1) + 1)) (Nat.le_of_ble_eq_true rfl) mS_X12_at nm_947 rfl rfl (Nat.le_of_ble_eq_true rfl) d_X3_unary_147 (k_rop (fun r14 hr14 => ?_))
      refine g_iconst hF (v := 5) d_X3_unary_150 (by decide) ?_
      refine g_icmp_ne (yv := 5) hF 162 d_X3_unary_151 (by decide) rfl (by decide) (fun c15_151 => ?_) (fun c15_151 => ?_)
      · -- taken at 151
        refine g_aload_n hF d_X3_unary_162 rfl 1 rfl ?_
        refine g_iload_n hF d_X3_unary_163 rfl 2 rfl ?_
        refine g_callV (As := [.int a1]) (rest := []) hF (c_X3_behind a g r k σ0 a1 ih h1 hk i0) (by omega) mV_X3_behind m_954 (recv_ob obC_3) rfl rfl (Nat.le_of_ble_eq_true rfl) d_X3_unary_164 (k_v (fun σ16 ⟨iσ16, ik16⟩ => ?_)) (fun _ _ _ h => h.elim)
        have kp : Keep [(3, 1), (3, 2), (3, 3), (3, 4), (3, 9)] [18, 19, 20, 21, 22, 23] σ0 σ16 := keep_c kp ik16 (by decide) (by decide)
        exact g_vret hF rfl d_X3_unary_167 ⟨rfl, rfl, rfl, ⟨iσ16, kp⟩⟩
      · -- not taken at 151
        refine g_aload_n hF d_X3_unary_154 rfl 1 rfl ?_
        refine g_iload_n hF d_X3_unary_155 rfl 2 rfl ?_
        refine g_callV (As := [.int a1]) (rest := []) hF (c_X3_cast a g r k σ0 a1 ih h1 hk i0) (by omega) mV_X3_cast m_950 (recv_ob obC_3) rfl rfl (Nat.le_of_ble_eq_true rfl) d_X3_unary_156 (k_v (fun σ17 ⟨iσ17, ik17⟩ => ?_)) (fun _ _ _ h => h.elim)
        have kp : Keep [(3, 1), (3, 2), (3, 3), (3, 4), (3, 9)] [18, 19, 20, 21, 22, 23] σ0 σ17 := keep_c kp ik17 (by decide) (by decide)
        refine g_goto hF 167 d_X3_unary_159 (by decide) ?_
        exact g_vret hF rfl d_X3_unary_167 ⟨rfl, rfl, rfl, ⟨iσ17, kp⟩⟩
  refine (Decidable.em ((σ0 3 2).toInt = 47)).elim (fun q18_9_3 => ?_) (fun q18_9_3 => ?_)
  · refine g_tableIn (off := 119) hF 128 d_X3_unary_9 q18_9_3 (by decide) (by decide) (by decide +kernel) (by decide) ?_
    refine g_aload_n hF d_X3_unary_128 rfl 1 rfl ?_
    refine g_get (v := .int (σ0 3 2)) hF 2 obC_3 (by decide) m_96 rfl d_X3_unary_129 ?_
    refine g_bipush hF (v := 20) d_X3_unary_132 (by decide) ?_
    refine g_icmp_ne (yv := 20) hF 162 d_X3_unary_134 (by decide) rfl (by decide) (fun c19_134 => ?_) (fun c19_134 => ?_)
    · -- taken at 134
      refine g_aload_n hF d_X3_unary_162 rfl 1 rfl ?_
      refine g_iload_n hF d_X3_unary_163 rfl 2 rfl ?_
      refine g_callV (As := [.int a1]) (rest := []) hF (c_X3_behind a g r k σ0 a1 ih h1 hk i0) (by omega) mV_X3_behind m_954 (recv_ob obC_3) rfl rfl (Nat.le_of_ble_eq_true rfl) d_X3_unary_164 (k_v (fun σ20 ⟨iσ20, ik20⟩ => ?_)) (fun _ _ _ h => h.elim)
      have kp : Keep [(3, 1), (3, 2), (3, 3), (3, 4), (3, 9)] [18, 19, 20, 21, 22, 23] σ0 σ20 := keep_c kp ik20 (by decide) (by decide)
      exact g_vret hF rfl d_X3_unary_167 ⟨rfl, rfl, rfl, ⟨iσ20, kp⟩⟩
    · -- not taken at 134
      refine g_aload_n hF d_X3_unary_137 rfl 1 rfl ?_
      refine g_get (v := .ref (r 2)) hF 0 obC_3 (by decide) m_94 rfl d_X3_unary_138 ?_
      refine g_getN (v := .ref (r 13)) hF 5 obC_2 (by decide) nm_50 rfl d_X3_unary_141 ?_
      refine g_iload_n hF d_X3_unary_144 rfl 0 rfl ?_
      refine g_iconst hF (v := 1) d_X3_unary_145 (by decide) ?_
      refine g_iadd hF d_X3_unary_146 ?_
      refine g_callSN (As := [.ref (r 13), .int ((σ0 3 1) + 1)]) (rest := []) hF (c_at a g r σ0 arC_13 (by decide) ((σ0 3 1) + 1)) (Nat.le_of_ble_eq_true rfl) mS_X12_at nm_947 rfl rfl (Nat.le_of_ble_eq_true rfl) d_X3_unary_147 (k_rop (fun r21 hr21 => ?_))
      refine g_iconst hF (v := 5) d_X3_unary_150 (by decide) ?_
      refine g_icmp_ne (yv := 5) hF 162 d_X3_unary_151 (by decide) rfl (by decide) (fun c22_151 => ?_) (fun c22_151 => ?_)
      · -- taken at 151
        refine g_aload_n hF d_X3_unary_162 rfl 1 rfl ?_
        refine g_iload_n hF d_X3_unary_163 rfl 2 rfl ?_
        refine g_callV (As := [.int a1]) (rest := []) hF (c_X3_behind a g r k σ0 a1 ih h1 hk i0) (by omega) mV_X3_behind m_954 (recv_ob obC_3) rfl rfl (Nat.le_of_ble_eq_true rfl) d_X3_unary_164 (k_v (fun σ23 ⟨iσ23, ik23⟩ => ?_)) (fun _ _ _ h => h.elim)
        have kp : Keep [(3, 1), (3, 2), (3, 3), (3, 4), (3, 9)] [18, 19, 20, 21, 22, 23] σ0 σ23 := keep_c kp ik23 (by decide) (by decide)
        exact g_vret hF rfl d_X3_unary_167 ⟨rfl, rfl, rfl, ⟨iσ23, kp⟩⟩
      · -- not taken at 151
        refine g_aload_n hF d_X3_unary_154 rfl 1 rfl ?_
        refine g_iload_n hF d_X3_unary_155 rfl 2 rfl ?_
        refine g_callV (As := [.int a1]) (rest := []) hF (c_X3_cast a g r k σ0 a1 ih h1 hk i0) (by omega) mV_X3_cast m_950 (recv_ob obC_3) rfl rfl (Nat.le_of_ble_eq_true rfl) d_X3_unary_156 (k_v (fun σ24 ⟨iσ24, ik24⟩ => ?_)) (fun _ _ _ h => h.elim)
        have kp : Keep [(3, 1), (3, 2), (3, 3), (3, 4), (3, 9)] [18, 19, 20, 21, 22, 23] σ0 σ24 := keep_c kp ik24 (by decide) (by decide)
        refine g_goto hF 167 d_X3_unary_159 (by decide) ?_
        exact g_vret hF rfl d_X3_unary_167 ⟨rfl, rfl, rfl, ⟨iσ24, kp⟩⟩
  refine (Decidable.em ((σ0 3 2).toInt = 48)).elim (fun q25_9_4 => ?_) (fun q25_9_4 => ?_)
  · refine g_tableIn (off := 91) hF 100 d_X3_unary_9 q25_9_4 (by decide) (by decide) (by decide +kernel) (by decide) ?_
    refine g_aload_n hF d_X3_unary_100 rfl 1 rfl ?_
    refine g_iload_n hF d_X3_unary_101 rfl 2 rfl ?_
    refine g_callV (As := [.int a1]) (rest := []) hF (c_X3_deeper a g r σ0 a1 i0) (Nat.le_of_ble_eq_true rfl) mV_X3_deeper m_943 (recv_ob obC_3) rfl rfl (Nat.le_of_ble_eq_true rfl) d_X3_unary_102 (k_i (fun r26 σ26 ⟨hz26, hp26, iσ26, ik26⟩ => ?_)) (fun _ _ _ h => h.elim)
    have kp : Keep [(3, 1), (3, 2), (3, 3), (3, 4), (3, 9)] [18, 19, 20, 21, 22, 23] σ0 σ26 := keep_c kp ik26 (by decide) (by decide)
    refine g_if_eq hF 167 d_X3_unary_105 (by decide) rfl (fun c27_105 => ?_) (fun c27_105 => ?_)
    · -- taken at 105
      exact g_vret hF rfl d_X3_unary_167 ⟨rfl, rfl, rfl, ⟨iσ26, kp⟩⟩
    · -- not taken at 105
      refine g_aload_n hF d_X3_unary_108 rfl 1 rfl ?_
      refine g_iload_n hF d_X3_unary_109 rfl 2 rfl ?_
      refine g_iconst hF (v := 1) d_X3_unary_110 (by decide) ?_
      refine g_iadd hF d_X3_unary_111 ?_
      refine g_callV (As := [.int (a1 + 1)]) (rest := []) hF (((ih (by have e0 := s_rng a1; have e1 : (1 : Int32).toInt = 1 := (by decide); obtain ⟨k2, e2⟩ := s_add a1 (1 : Int32); have e2a := s_rng (a1 + 1); have e4 := s_rng r26; have e5 : (0 : Int32).toInt = 0 := (by decide); omega)) σ26 (a1 + 1) (by have e0 := s_rng a1; have e1 : (1 : Int32).toInt = 1 := (by decide); obtain ⟨k2, e2⟩ := s_add a1 (1 : Int32); have e2a := s_rng (a1 + 1); have e4 := s_rng r26; have e5 : (0 : Int32).toInt = 0 := (by decide); omega) (by have e0 := s_rng a1; have e1 : (1 : Int32).toInt = 1 := (by decide); obtain ⟨k2, e2⟩ := s_add a1 (1 : Int32); have e2a := s_rng (a1 + 1); have e4 := s_rng r26; have e5 : (0 : Int32).toInt = 0 := (by decide); omega) iσ26).2.2) (by have : 2 ≤ k := (by have e0 := s_rng a1; have e1 : (1 : Int32).toInt = 1 := (by decide); obtain ⟨k2, e2⟩ := s_add a1 (1 : Int32); have e2a := s_rng (a1 + 1); have e4 := s_rng r26; have e5 : (0 : Int32).toInt = 0 := (by decide); omega); omega) mV_X3_unary m_939 (recv_ob obC_3) rfl rfl (Nat.le_of_ble_eq_true rfl) d_X3_unary_112 (k_v (fun σ28 ⟨iσ28, ik28⟩ => ?_)) (fun _ _ _ h => h.elim)
      have kp : Keep [(3, 1), (3, 2), (3, 3), (3, 4), (3, 9)] [18, 19, 20, 21, 22, 23] σ0 σ28 := keep_c kp ik28 (by decide) (by decide)
      refine g_aload_n hF d_X3_unary_115 rfl 1 rfl ?_
      refine g_bipush hF (v := 11) d_X3_unary_116 (by decide) ?_
      refine g_iload_n hF d_X3_unary_118 rfl 0 rfl ?_
      refine g_iconst hF (v := 0) d_X3_unary_119 (by decide) ?_
      refine g_iconst hF (v := 0) d_X3_unary_120 (by decide) ?_
      refine g_callV (As := [.int 11, .int (σ0 3 1), .int 0, .int 0]) (rest := []) hF (c_X3_add a g r σ28 (11 : Int32) (σ0 3 1) (0 : Int32) (0 : Int32) iσ28) (Nat.le_of_ble_eq_true rfl) mV_X3_add m_923 (recv_ob obC_3) rfl rfl (Nat.le_of_ble_eq_true rfl) d_X3_unary_121 (k_i (fun r29 σ29 ⟨iσ29, ik29⟩ => ?_)) (fun _ _ _ h => h.elim)
      have kp : Keep [(3, 1), (3, 2), (3, 3), (3, 4), (3, 9)] [18, 19, 20, 21, 22, 23] σ0 σ29 := keep_c kp ik29 (by decide) (by decide)
      refine g_pop hF d_X3_unary_124 rfl ?_
      refine g_goto hF 167 d_X3_unary_125 (by decide) ?_
      exact g_vret hF rfl d_X3_unary_167 ⟨rfl, rfl, rfl, ⟨iσ29, kp⟩⟩
  refine (Decidable.em ((σ0 3 2).toInt = 49)).elim (fun q30_9_5 => ?_) (fun q30_9_5 => ?_)
  · refine g_tableIn (off := 119) hF 128 d_X3_unary_9 q30_9_5 (by decide) (by decide) (by decide +kernel) (by decide) ?_
    refine g_aload_n hF d_X3_unary_128 rfl 1 rfl ?_
    refine g_get (v := .int (σ0 3 2)) hF 2 obC_3 (by decide) m_96 rfl d_X3_unary_129 ?_
    refine g_bipush hF (v := 20) d_X3_unary_132 (by decide) ?_
    refine g_icmp_ne (yv := 20) hF 162 d_X3_unary_134 (by decide) rfl (by decide) (fun c31_134 => ?_) (fun c31_134 => ?_)
    · -- taken at 134
      refine g_aload_n hF d_X3_unary_162 rfl 1 rfl ?_
      refine g_iload_n hF d_X3_unary_163 rfl 2 rfl ?_
      refine g_callV (As := [.int a1]) (rest := []) hF (c_X3_behind a g r k σ0 a1 ih h1 hk i0) (by omega) mV_X3_behind m_954 (recv_ob obC_3) rfl rfl (Nat.le_of_ble_eq_true rfl) d_X3_unary_164 (k_v (fun σ32 ⟨iσ32, ik32⟩ => ?_)) (fun _ _ _ h => h.elim)
      have kp : Keep [(3, 1), (3, 2), (3, 3), (3, 4), (3, 9)] [18, 19, 20, 21, 22, 23] σ0 σ32 := keep_c kp ik32 (by decide) (by decide)
      exact g_vret hF rfl d_X3_unary_167 ⟨rfl, rfl, rfl, ⟨iσ32, kp⟩⟩
    · -- not taken at 134
      refine g_aload_n hF d_X3_unary_137 rfl 1 rfl ?_
      refine g_get (v := .ref (r 2)) hF 0 obC_3 (by decide) m_94 rfl d_X3_unary_138 ?_
      refine g_getN (v := .ref (r 13)) hF 5 obC_2 (by decide) nm_50 rfl d_X3_unary_141 ?_
      refine g_iload_n hF d_X3_unary_144 rfl 0 rfl ?_
      refine g_iconst hF (v := 1) d_X3_unary_145 (by decide) ?_
      refine g_iadd hF d_X3_unary_146 ?_
      refine g_callSN (As := [.ref (r 13), .int ((σ0 3 1) + 1)]) (rest := []) hF (c_at a g r σ0 arC_13 (by decide) ((σ0 3 1) + 1)) (Nat.le_of_ble_eq_true rfl) mS_X12_at nm_947 rfl rfl (Nat.le_of_ble_eq_true rfl) d_X3_unary_147 (k_rop (fun r33 hr33 => ?_))
      refine g_iconst hF (v := 5) d_X3_unary_150 (by decide) ?_
      refine g_icmp_ne (yv := 5) hF 162 d_X3_unary_151 (by decide) rfl (by decide) (fun c34_151 => ?_) (fun c34_151 => ?_)
      · -- taken at 151
        refine g_aload_n hF d_X3_unary_162 rfl 1 rfl ?_
        refine g_iload_n hF d_X3_unary_163 rfl 2 rfl ?_
        refine g_callV (As := [.int a1]) (rest := []) hF (c_X3_behind a g r k σ0 a1 ih h1 hk i0) (by omega) mV_X3_behind m_954 (recv_ob obC_3) rfl rfl (Nat.le_of_ble_eq_true rfl) d_X3_unary_164 (k_v (fun σ35 ⟨iσ35, ik35⟩ => ?_)) (fun _ _ _ h => h.elim)
        have kp : Keep [(3, 1), (3, 2), (3, 3), (3, 4), (3, 9)] [18, 19, 20, 21, 22, 23] σ0 σ35 := keep_c kp ik35 (by decide) (by decide)
        exact g_vret hF rfl d_X3_unary_167 ⟨rfl, rfl, rfl, ⟨iσ35, kp⟩⟩
      · -- not taken at 151
        refine g_aload_n hF d_X3_unary_154 rfl 1 rfl ?_
        refine g_iload_n hF d_X3_unary_155 rfl 2 rfl ?_
        refine g_callV (As := [.int a1]) (rest := []) hF (c_X3_cast a g r k σ0 a1 ih h1 hk i0) (by omega) mV_X3_cast m_950 (recv_ob obC_3) rfl rfl (Nat.le_of_ble_eq_true rfl) d_X3_unary_156 (k_v (fun σ36 ⟨iσ36, ik36⟩ => ?_)) (fun _ _ _ h => h.elim)
        have kp : Keep [(3, 1), (3, 2), (3, 3), (3, 4), (3, 9)] [18, 19, 20, 21, 22, 23] σ0 σ36 := keep_c kp ik36 (by decide) (by decide)
        refine g_goto hF 167 d_X3_unary_159 (by decide) ?_
        exact g_vret hF rfl d_X3_unary_167 ⟨rfl, rfl, rfl, ⟨iσ36, kp⟩⟩
  refine (Decidable.em ((σ0 3 2).toInt = 50)).elim (fun q37_9_6 => ?_) (fun q37_9_6 => ?_)
  · refine g_tableIn (off := 119) hF 128 d_X3_unary_9 q37_9_6 (by decide) (by decide) (by decide +kernel) (by decide) ?_
    refine g_aload_n hF d_X3_unary_128 rfl 1 rfl ?_
    refine g_get (v := .int (σ0 3 2)) hF 2 obC_3 (by decide) m_96 rfl d_X3_unary_129 ?_
    refine g_bipush hF (v := 20) d_X3_unary_132 (by decide) ?_
    refine g_icmp_ne (yv := 20) hF 162 d_X3_unary_134 (by decide) rfl (by decide) (fun c38_134 => ?_) (fun c38_134 => ?_)
    · -- taken at 134
      refine g_aload_n hF d_X3_unary_162 rfl 1 rfl ?_
      refine g_iload_n hF d_X3_unary_163 rfl 2 rfl ?_
      refine g_callV (As := [.int a1]) (rest := []) hF (c_X3_behind a g r k σ0 a1 ih h1 hk i0) (by omega) mV_X3_behind m_954 (recv_ob obC_3) rfl rfl (Nat.le_of_ble_eq_true rfl) d_X3_unary_164 (k_v (fun σ39 ⟨iσ39, ik39⟩ => ?_)) (fun _ _ _ h => h.elim)
      have kp : Keep [(3, 1), (3, 2), (3, 3), (3, 4), (3, 9)] [18, 19, 20, 21, 22, 23] σ0 σ39 := keep_c kp ik39 (by decide) (by decide)
      exact g_vret hF rfl d_X3_unary_167 ⟨rfl, rfl, rfl, ⟨iσ39, kp⟩⟩
    · -- not taken at 134
      refine g_aload_n hF d_X3_unary_137 rfl 1 rfl ?_
      refine g_get (v := .ref (r 2)) hF 0 obC_3 (by decide) m_94 rfl d_X3_unary_138 ?_
      refine g_getN (v := .ref (r 13)) hF 5 obC_2 (by decide) nm_50 rfl d_X3_unary_141 ?_
      refine g_iload_n hF d_X3_unary_144 rfl 0 rfl ?_
      refine g_iconst hF (v := 1) d_X3_unary_145 (by decide) ?_
      refine g_iadd hF d_X3_unary_146 ?_
      refine g_callSN (As := [.ref (r 13), .int ((σ0 3 1) + 1)]) (rest := []) hF (c_at a g r σ0 arC_13 (by decide) ((σ0 3 1) + 1)) (Nat.le_of_ble_eq_true rfl) mS_X12_at nm_947 rfl rfl (Nat.le_of_ble_eq_true rfl) d_X3_unary_147 (k_rop (fun r40 hr40 => ?_))
      refine g_iconst hF (v := 5) d_X3_unary_150 (by decide) ?_
      refine g_icmp_ne (yv := 5) hF 162 d_X3_unary_151 (by decide) rfl (by decide) (fun c41_151 => ?_) (fun c41_151 => ?_)
      · -- taken at 151
        refine g_aload_n hF d_X3_unary_162 rfl 1 rfl ?_
        refine g_iload_n hF d_X3_unary_163 rfl 2 rfl ?_
        refine g_callV (As := [.int a1]) (rest := []) hF (c_X3_behind a g r k σ0 a1 ih h1 hk i0) (by omega) mV_X3_behind m_954 (recv_ob obC_3) rfl rfl (Nat.le_of_ble_eq_true rfl) d_X3_unary_164 (k_v (fun σ42 ⟨iσ42, ik42⟩ => ?_)) (fun _ _ _ h => h.elim)
        have kp : Keep [(3, 1), (3, 2), (3, 3), (3, 4), (3, 9)] [18, 19, 20, 21, 22, 23] σ0 σ42 := keep_c kp ik42 (by decide) (by decide)
        exact g_vret hF rfl d_X3_unary_167 ⟨rfl, rfl, rfl, ⟨iσ42, kp⟩⟩
      · -- not taken at 151
        refine g_aload_n hF d_X3_unary_154 rfl 1 rfl ?_
        refine g_iload_n hF d_X3_unary_155 rfl 2 rfl ?_
        refine g_callV (As := [.int a1]) (rest := []) hF (c_X3_cast a g r k σ0 a1 ih h1 hk i0) (by omega) mV_X3_cast m_950 (recv_ob obC_3) rfl rfl (Nat.le_of_ble_eq_true rfl) d_X3_unary_156 (k_v (fun σ43 ⟨iσ43, ik43⟩ => ?_)) (fun _ _ _ h => h.elim)
        have kp : Keep [(3, 1), (3, 2), (3, 3), (3, 4), (3, 9)] [18, 19, 20, 21, 22, 23] σ0 σ43 := keep_c kp ik43 (by decide) (by decide)
        refine g_goto hF 167 d_X3_unary_159 (by decide) ?_
        exact g_vret hF rfl d_X3_unary_167 ⟨rfl, rfl, rfl, ⟨iσ43, kp⟩⟩
  refine (Decidable.em ((σ0 3 2).toInt = 51)).elim (fun q44_9_7 => ?_) (fun q44_9_7 => ?_)
  · refine g_tableIn (off := 119) hF 128 d_X3_unary_9 q44_9_7 (by decide) (by decide) (by decide +kernel) (by decide) ?_
    refine g_aload_n hF d_X3_unary_128 rfl 1 rfl ?_
    refine g_get (v := .int (σ0 3 2)) hF 2 obC_3 (by decide) m_96 rfl d_X3_unary_129 ?_
    refine g_bipush hF (v := 20) d_X3_unary_132 (by decide) ?_
    refine g_icmp_ne (yv := 20) hF 162 d_X3_unary_134 (by decide) rfl (by decide) (fun c45_134 => ?_) (fun c45_134 => ?_)
    · -- taken at 134
      refine g_aload_n hF d_X3_unary_162 rfl 1 rfl ?_
      refine g_iload_n hF d_X3_unary_163 rfl 2 rfl ?_
      refine g_callV (As := [.int a1]) (rest := []) hF (c_X3_behind a g r k σ0 a1 ih h1 hk i0) (by omega) mV_X3_behind m_954 (recv_ob obC_3) rfl rfl (Nat.le_of_ble_eq_true rfl) d_X3_unary_164 (k_v (fun σ46 ⟨iσ46, ik46⟩ => ?_)) (fun _ _ _ h => h.elim)
      have kp : Keep [(3, 1), (3, 2), (3, 3), (3, 4), (3, 9)] [18, 19, 20, 21, 22, 23] σ0 σ46 := keep_c kp ik46 (by decide) (by decide)
      exact g_vret hF rfl d_X3_unary_167 ⟨rfl, rfl, rfl, ⟨iσ46, kp⟩⟩
    · -- not taken at 134
      refine g_aload_n hF d_X3_unary_137 rfl 1 rfl ?_
      refine g_get (v := .ref (r 2)) hF 0 obC_3 (by decide) m_94 rfl d_X3_unary_138 ?_
      refine g_getN (v := .ref (r 13)) hF 5 obC_2 (by decide) nm_50 rfl d_X3_unary_141 ?_
      refine g_iload_n hF d_X3_unary_144 rfl 0 rfl ?_
      refine g_iconst hF (v := 1) d_X3_unary_145 (by decide) ?_
      refine g_iadd hF d_X3_unary_146 ?_
      refine g_callSN (As := [.ref (r 13), .int ((σ0 3 1) + 1)]) (rest := []) hF (c_at a g r σ0 arC_13 (by decide) ((σ0 3 1) + 1)) (Nat.le_of_ble_eq_true rfl) mS_X12_at nm_947 rfl rfl (Nat.le_of_ble_eq_true rfl) d_X3_unary_147 (k_rop (fun r47 hr47 => ?_))
      refine g_iconst hF (v := 5) d_X3_unary_150 (by decide) ?_
      refine g_icmp_ne (yv := 5) hF 162 d_X3_unary_151 (by decide) rfl (by decide) (fun c48_151 => ?_) (fun c48_151 => ?_)
      · -- taken at 151
        refine g_aload_n hF d_X3_unary_162 rfl 1 rfl ?_
        refine g_iload_n hF d_X3_unary_163 rfl 2 rfl ?_
        refine g_callV (As := [.int a1]) (rest := []) hF (c_X3_behind a g r k σ0 a1 ih h1 hk i0) (by omega) mV_X3_behind m_954 (recv_ob obC_3) rfl rfl (Nat.le_of_ble_eq_true rfl) d_X3_unary_164 (k_v (fun σ49 ⟨iσ49, ik49⟩ => ?_)) (fun _ _ _ h => h.elim)
        have kp : Keep [(3, 1), (3, 2), (3, 3), (3, 4), (3, 9)] [18, 19, 20, 21, 22, 23] σ0 σ49 := keep_c kp ik49 (by decide) (by decide)
        exact g_vret hF rfl d_X3_unary_167 ⟨rfl, rfl, rfl, ⟨iσ49, kp⟩⟩
      · -- not taken at 151
        refine g_aload_n hF d_X3_unary_154 rfl 1 rfl ?_
        refine g_iload_n hF d_X3_unary_155 rfl 2 rfl ?_
        refine g_callV (As := [.int a1]) (rest := []) hF (c_X3_cast a g r k σ0 a1 ih h1 hk i0) (by omega) mV_X3_cast m_950 (recv_ob obC_3) rfl rfl (Nat.le_of_ble_eq_true rfl) d_X3_unary_156 (k_v (fun σ50 ⟨iσ50, ik50⟩ => ?_)) (fun _ _ _ h => h.elim)
        have kp : Keep [(3, 1), (3, 2), (3, 3), (3, 4), (3, 9)] [18, 19, 20, 21, 22, 23] σ0 σ50 := keep_c kp ik50 (by decide) (by decide)
        refine g_goto hF 167 d_X3_unary_159 (by decide) ?_
        exact g_vret hF rfl d_X3_unary_167 ⟨rfl, rfl, rfl, ⟨iσ50, kp⟩⟩
  refine (Decidable.em ((σ0 3 2).toInt = 52)).elim (fun q51_9_8 => ?_) (fun q51_9_8 => ?_)
  · refine g_tableIn (off := 119) hF 128 d_X3_unary_9 q51_9_8 (by decide) (by decide) (by decide +kernel) (by decide) ?_
    refine g_aload_n hF d_X3_unary_128 rfl 1 rfl ?_
    refine g_get (v := .int (σ0 3 2)) hF 2 obC_3 (by decide) m_96 rfl d_X3_unary_129 ?_
    refine g_bipush hF (v := 20) d_X3_unary_132 (by decide) ?_
    refine g_icmp_ne (yv := 20) hF 162 d_X3_unary_134 (by decide) rfl (by decide) (fun c52_134 => ?_) (fun c52_134 => ?_)
    · -- taken at 134
      refine g_aload_n hF d_X3_unary_162 rfl 1 rfl ?_
      refine g_iload_n hF d_X3_unary_163 rfl 2 rfl ?_
      refine g_callV (As := [.int a1]) (rest := []) hF (c_X3_behind a g r k σ0 a1 ih h1 hk i0) (by omega) mV_X3_behind m_954 (recv_ob obC_3) rfl rfl (Nat.le_of_ble_eq_true rfl) d_X3_unary_164 (k_v (fun σ53 ⟨iσ53, ik53⟩ => ?_)) (fun _ _ _ h => h.elim)
      have kp : Keep [(3, 1), (3, 2), (3, 3), (3, 4), (3, 9)] [18, 19, 20, 21, 22, 23] σ0 σ53 := keep_c kp ik53 (by decide) (by decide)
      exact g_vret hF rfl d_X3_unary_167 ⟨rfl, rfl, rfl, ⟨iσ53, kp⟩⟩
    · -- not taken at 134
      refine g_aload_n hF d_X3_unary_137 rfl 1 rfl ?_
      refine g_get (v := .ref (r 2)) hF 0 obC_3 (by decide) m_94 rfl d_X3_unary_138 ?_
      refine g_getN (v := .ref (r 13)) hF 5 obC_2 (by decide) nm_50 rfl d_X3_unary_141 ?_
      refine g_iload_n hF d_X3_unary_144 rfl 0 rfl ?_
      refine g_iconst hF (v := 1) d_X3_unary_145 (by decide) ?_
      refine g_iadd hF d_X3_unary_146 ?_
      refine g_callSN (As := [.ref (r 13), .int ((σ0 3 1) + 1)]) (rest := []) hF (c_at a g r σ0 arC_13 (by decide) ((σ0 3 1) + 1)) (Nat.le_of_ble_eq_true rfl) mS_X12_at nm_947 rfl rfl (Nat.le_of_ble_eq_true rfl) d_X3_unary_147 (k_rop (fun r54 hr54 => ?_))
      refine g_iconst hF (v := 5) d_X3_unary_150 (by decide) ?_
      refine g_icmp_ne (yv := 5) hF 162 d_X3_unary_151 (by decide) rfl (by decide) (fun c55_151 => ?_) (fun c55_151 => ?_)
      · -- taken at 151
        refine g_aload_n hF d_X3_unary_162 rfl 1 rfl ?_
        refine g_iload_n hF d_X3_unary_163 rfl 2 rfl ?_
        refine g_callV (As := [.int a1]) (rest := []) hF (c_X3_behind a g r k σ0 a1 ih h1 hk i0) (by omega) mV_X3_behind m_954 (recv_ob obC_3) rfl rfl (Nat.le_of_ble_eq_true rfl) d_X3_unary_164 (k_v (fun σ56 ⟨iσ56, ik56⟩ => ?_)) (fun _ _ _ h => h.elim)
        have kp : Keep [(3, 1), (3, 2), (3, 3), (3, 4), (3, 9)] [18, 19, 20, 21, 22, 23] σ0 σ56 := keep_c kp ik56 (by decide) (by decide)
        exact g_vret hF rfl d_X3_unary_167 ⟨rfl, rfl, rfl, ⟨iσ56, kp⟩⟩
      · -- not taken at 151
        refine g_aload_n hF d_X3_unary_154 rfl 1 rfl ?_
        refine g_iload_n hF d_X3_unary_155 rfl 2 rfl ?_
        refine g_callV (As := [.int a1]) (rest := []) hF (c_X3_cast a g r k σ0 a1 ih h1 hk i0) (by omega) mV_X3_cast m_950 (recv_ob obC_3) rfl rfl (Nat.le_of_ble_eq_true rfl) d_X3_unary_156 (k_v (fun σ57 ⟨iσ57, ik57⟩ => ?_)) (fun _ _ _ h => h.elim)
        have kp : Keep [(3, 1), (3, 2), (3, 3), (3, 4), (3, 9)] [18, 19, 20, 21, 22, 23] σ0 σ57 := keep_c kp ik57 (by decide) (by decide)
        refine g_goto hF 167 d_X3_unary_159 (by decide) ?_
        exact g_vret hF rfl d_X3_unary_167 ⟨rfl, rfl, rfl, ⟨iσ57, kp⟩⟩
  refine (Decidable.em ((σ0 3 2).toInt = 53)).elim (fun q58_9_9 => ?_) (fun q58_9_9 => ?_)
  · refine g_tableIn (off := 119) hF 128 d_X3_unary_9 q58_9_9 (by decide) (by decide) (by decide +kernel) (by decide) ?_
    refine g_aload_n hF d_X3_unary_128 rfl 1 rfl ?_
    refine g_get (v := .int (σ0 3 2)) hF 2 obC_3 (by decide) m_96 rfl d_X3_unary_129 ?_
    refine g_bipush hF (v := 20) d_X3_unary_132 (by decide) ?_
    refine g_icmp_ne (yv := 20) hF 162 d_X3_unary_134 (by decide) rfl (by decide) (fun c59_134 => ?_) (fun c59_134 => ?_)
    · -- taken at 134
      refine g_aload_n hF d_X3_unary_162 rfl 1 rfl ?_
      refine g_iload_n hF d_X3_unary_163 rfl 2 rfl ?_
      refine g_callV (As := [.int a1]) (rest := []) hF (c_X3_behind a g r k σ0 a1 ih h1 hk i0) (by omega) mV_X3_behind m_954 (recv_ob obC_3) rfl rfl (Nat.le_of_ble_eq_true rfl) d_X3_unary_164 (k_v (fun σ60 ⟨iσ60, ik60⟩ => ?_)) (fun _ _ _ h => h.elim)
      have kp : Keep [(3, 1), (3, 2), (3, 3), (3, 4), (3, 9)] [18, 19, 20, 21, 22, 23] σ0 σ60 := keep_c kp ik60 (by decide) (by decide)
      exact g_vret hF rfl d_X3_unary_167 ⟨rfl, rfl, rfl, ⟨iσ60, kp⟩⟩
    · -- not taken at 134
      refine g_aload_n hF d_X3_unary_137 rfl 1 rfl ?_
      refine g_get (v := .ref (r 2)) hF 0 obC_3 (by decide) m_94 rfl d_X3_unary_138 ?_
      refine g_getN (v := .ref (r 13)) hF 5 obC_2 (by decide) nm_50 rfl d_X3_unary_141 ?_
      refine g_iload_n hF d_X3_unary_144 rfl 0 rfl ?_
      refine g_iconst hF (v := 1) d_X3_unary_145 (by decide) ?_
      refine g_iadd hF d_X3_unary_146 ?_
      refine g_callSN (As := [.ref (r 13), .int ((σ0 3 1) + 1)]) (rest := []) hF (c_at a g r σ0 arC_13 (by decide) ((σ0 3 1) + 1)) (Nat.le_of_ble_eq_true rfl) mS_X12_at nm_947 rfl rfl (Nat.le_of_ble_eq_true rfl) d_X3_unary_147 (k_rop (fun r61 hr61 => ?_))
      refine g_iconst hF (v := 5) d_X3_unary_150 (by decide) ?_
      refine g_icmp_ne (yv := 5) hF 162 d_X3_unary_151 (by decide) rfl (by decide) (fun c62_151 => ?_) (fun c62_151 => ?_)
      · -- taken at 151
        refine g_aload_n hF d_X3_unary_162 rfl 1 rfl ?_
        refine g_iload_n hF d_X3_unary_163 rfl 2 rfl ?_
        refine g_callV (As := [.int a1]) (rest := []) hF (c_X3_behind a g r k σ0 a1 ih h1 hk i0) (by omega) mV_X3_behind m_954 (recv_ob obC_3) rfl rfl (Nat.le_of_ble_eq_true rfl) d_X3_unary_164 (k_v (fun σ63 ⟨iσ63, ik63⟩ => ?_)) (fun _ _ _ h => h.elim)
        have kp : Keep [(3, 1), (3, 2), (3, 3), (3, 4), (3, 9)] [18, 19, 20, 21, 22, 23] σ0 σ63 := keep_c kp ik63 (by decide) (by decide)
        exact g_vret hF rfl d_X3_unary_167 ⟨rfl, rfl, rfl, ⟨iσ63, kp⟩⟩
      · -- not taken at 151
        refine g_aload_n hF d_X3_unary_154 rfl 1 rfl ?_
        refine g_iload_n hF d_X3_unary_155 rfl 2 rfl ?_
        refine g_callV (As := [.int a1]) (rest := []) hF (c_X3_cast a g r k σ0 a1 ih h1 hk i0) (by omega) mV_X3_cast m_950 (recv_ob obC_3) rfl rfl (Nat.le_of_ble_eq_true rfl) d_X3_unary_156 (k_v (fun σ64 ⟨iσ64, ik64⟩ => ?_)) (fun _ _ _ h => h.elim)
        have kp : Keep [(3, 1), (3, 2), (3, 3), (3, 4), (3, 9)] [18, 19, 20, 21, 22, 23] σ0 σ64 := keep_c kp ik64 (by decide) (by decide)
        refine g_goto hF 167 d_X3_unary_159 (by decide) ?_
        exact g_vret hF rfl d_X3_unary_167 ⟨rfl, rfl, rfl, ⟨iσ64, kp⟩⟩
  refine (Decidable.em ((σ0 3 2).toInt = 54)).elim (fun q65_9_10 => ?_) (fun q65_9_10 => ?_)
  · refine g_tableIn (off := 119) hF 128 d_X3_unary_9 q65_9_10 (by decide) (by decide) (by decide +kernel) (by decide) ?_
    refine g_aload_n hF d_X3_unary_128 rfl 1 rfl ?_
    refine g_get (v := .int (σ0 3 2)) hF 2 obC_3 (by decide) m_96 rfl d_X3_unary_129 ?_
    refine g_bipush hF (v := 20) d_X3_unary_132 (by decide) ?_
    refine g_icmp_ne (yv := 20) hF 162 d_X3_unary_134 (by decide) rfl (by decide) (fun c66_134 => ?_) (fun c66_134 => ?_)
    · -- taken at 134
      refine g_aload_n hF d_X3_unary_162 rfl 1 rfl ?_
      refine g_iload_n hF d_X3_unary_163 rfl 2 rfl ?_
      refine g_callV (As := [.int a1]) (rest := []) hF (c_X3_behind a g r k σ0 a1 ih h1 hk i0) (by omega) mV_X3_behind m_954 (recv_ob obC_3) rfl rfl (Nat.le_of_ble_eq_true rfl) d_X3_unary_164 (k_v (fun σ67 ⟨iσ67, ik67⟩ => ?_)) (fun _ _ _ h => h.elim)
      have kp : Keep [(3, 1), (3, 2), (3, 3), (3, 4), (3, 9)] [18, 19, 20, 21, 22, 23] σ0 σ67 := keep_c kp ik67 (by decide) (by decide)
      exact g_vret hF rfl d_X3_unary_167 ⟨rfl, rfl, rfl, ⟨iσ67, kp⟩⟩
    · -- not taken at 134
      refine g_aload_n hF d_X3_unary_137 rfl 1 rfl ?_
      refine g_get (v := .ref (r 2)) hF 0 obC_3 (by decide) m_94 rfl d_X3_unary_138 ?_
      refine g_getN (v := .ref (r 13)) hF 5 obC_2 (by decide) nm_50 rfl d_X3_unary_141 ?_
      refine g_iload_n hF d_X3_unary_144 rfl 0 rfl ?_
      refine g_iconst hF (v := 1) d_X3_unary_145 (by decide) ?_
      refine g_iadd hF d_X3_unary_146 ?_
      refine g_callSN (As := [.ref (r 13), .int ((σ0 3 1) + 1)]) (rest := []) hF (c_at a g r σ0 arC_13 (by decide) ((σ0 3 1) + 1)) (Nat.le_of_ble_eq_true rfl) mS_X12_at nm_947 rfl rfl (Nat.le_of_ble_eq_true rfl) d_X3_unary_147 (k_rop (fun r68 hr68 => ?_))
      refine g_iconst hF (v := 5) d_X3_unary_150 (by decide) ?_
      refine g_icmp_ne (yv := 5) hF 162 d_X3_unary_151 (by decide) rfl (by decide) (fun c69_151 => ?_) (fun c69_151 => ?_)
      · -- taken at 151
        refine g_aload_n hF d_X3_unary_162 rfl 1 rfl ?_
        refine g_iload_n hF d_X3_unary_163 rfl 2 rfl ?_
        refine g_callV (As := [.int a1]) (rest := []) hF (c_X3_behind a g r k σ0 a1 ih h1 hk i0) (by omega) mV_X3_behind m_954 (recv_ob obC_3) rfl rfl (Nat.le_of_ble_eq_true rfl) d_X3_unary_164 (k_v (fun σ70 ⟨iσ70, ik70⟩ => ?_)) (fun _ _ _ h => h.elim)
        have kp : Keep [(3, 1), (3, 2), (3, 3), (3, 4), (3, 9)] [18, 19, 20, 21, 22, 23] σ0 σ70 := keep_c kp ik70 (by decide) (by decide)
        exact g_vret hF rfl d_X3_unary_167 ⟨rfl, rfl, rfl, ⟨iσ70, kp⟩⟩
      · -- not taken at 151
        refine g_aload_n hF d_X3_unary_154 rfl 1 rfl ?_
        refine g_iload_n hF d_X3_unary_155 rfl 2 rfl ?_
        refine g_callV (As := [.int a1]) (rest := []) hF (c_X3_cast a g r k σ0 a1 ih h1 hk i0) (by omega) mV_X3_cast m_950 (recv_ob obC_3) rfl rfl (Nat.le_of_ble_eq_true rfl) d_X3_unary_156 (k_v (fun σ71 ⟨iσ71, ik71⟩ => ?_)) (fun _ _ _ h => h.elim)
        have kp : Keep [(3, 1), (3, 2), (3, 3), (3, 4), (3, 9)] [18, 19, 20, 21, 22, 23] σ0 σ71 := keep_c kp ik71 (by decide) (by decide)
        refine g_goto hF 167 d_X3_unary_159 (by decide) ?_
        exact g_vret hF rfl d_X3_unary_167 ⟨rfl, rfl, rfl, ⟨iσ71, kp⟩⟩
  refine (Decidable.em ((σ0 3 2).toInt = 55)).elim (fun q72_9_11 => ?_) (fun q72_9_11 => ?_)
  · refine g_tableIn (off := 119) hF 128 d_X3_unary_9 q72_9_11 (by decide) (by decide) (by decide +kernel) (by decide) ?_
    refine g_aload_n hF d_X3_unary_128 rfl 1 rfl ?_
    refine g_get (v := .int (σ0 3 2)) hF 2 obC_3 (by decide) m_96 rfl d_X3_unary_129 ?_
    refine g_bipush hF (v := 20) d_X3_unary_132 (by decide) ?_
    refine g_icmp_ne (yv := 20) hF 162 d_X3_unary_134 (by decide) rfl (by decide) (fun c73_134 => ?_) (fun c73_134 => ?_)
    · -- taken at 134
      refine g_aload_n hF d_X3_unary_162 rfl 1 rfl ?_
      refine g_iload_n hF d_X3_unary_163 rfl 2 rfl ?_
      refine g_callV (As := [.int a1]) (rest := []) hF (c_X3_behind a g r k σ0 a1 ih h1 hk i0) (by omega) mV_X3_behind m_954 (recv_ob obC_3) rfl rfl (Nat.le_of_ble_eq_true rfl) d_X3_unary_164 (k_v (fun σ74 ⟨iσ74, ik74⟩ => ?_)) (fun _ _ _ h => h.elim)
      have kp : Keep [(3, 1), (3, 2), (3, 3), (3, 4), (3, 9)] [18, 19, 20, 21, 22, 23] σ0 σ74 := keep_c kp ik74 (by decide) (by decide)
      exact g_vret hF rfl d_X3_unary_167 ⟨rfl, rfl, rfl, ⟨iσ74, kp⟩⟩
    · -- not taken at 134
      refine g_aload_n hF d_X3_unary_137 rfl 1 rfl ?_
      refine g_get (v := .ref (r 2)) hF 0 obC_3 (by decide) m_94 rfl d_X3_unary_138 ?_
      refine g_getN (v := .ref (r 13)) hF 5 obC_2 (by decide) nm_50 rfl d_X3_unary_141 ?_
      refine g_iload_n hF d_X3_unary_144 rfl 0 rfl ?_
      refine g_iconst hF (v := 1) d_X3_unary_145 (by decide) ?_
      refine g_iadd hF d_X3_unary_146 ?_
      refine g_callSN (As := [.ref (r 13), .int ((σ0 3 1) + 1)]) (rest := []) hF (c_at a g r σ0 arC_13 (by decide) ((σ0 3 1) + 1)) (Nat.le_of_ble_eq_true rfl) mS_X12_at nm_947 rfl rfl (Nat.le_of_ble_eq_true rfl) d_X3_unary_147 (k_rop (fun r75 hr75 => ?_))
      refine g_iconst hF (v := 5) d_X3_unary_150 (by decide) ?_
      refine g_icmp_ne (yv := 5) hF 162 d_X3_unary_151 (by decide) rfl (by decide) (fun c76_151 => ?_) (fun c76_151 => ?_)
      · -- taken at 151
        refine g_aload_n hF d_X3_unary_162 rfl 1 rfl ?_
        refine g_iload_n hF d_X3_unary_163 rfl 2 rfl ?_
        refine g_callV (As := [.int a1]) (rest := []) hF (c_X3_behind a g r k σ0 a1 ih h1 hk i0) (by omega) mV_X3_behind m_954 (recv_ob obC_3) rfl rfl (Nat.le_of_ble_eq_true rfl) d_X3_unary_164 (k_v (fun σ77 ⟨iσ77, ik77⟩ => ?_)) (fun _ _ _ h => h.elim)
        have kp : Keep [(3, 1), (3, 2), (3, 3), (3, 4), (3, 9)] [18, 19, 20, 21, 22, 23] σ0 σ77 := keep_c kp ik77 (by decide) (by decide)
        exact g_vret hF rfl d_X3_unary_167 ⟨rfl, rfl, rfl, ⟨iσ77, kp⟩⟩
      · -- not taken at 151
        refine g_aload_n hF d_X3_unary_154 rfl 1 rfl ?_
        refine g_iload_n hF d_X3_unary_155 rfl 2 rfl ?_
        refine g_callV (As := [.int a1]) (rest := []) hF (c_X3_cast a g r k σ0 a1 ih h1 hk i0) (by omega) mV_X3_cast m_950 (recv_ob obC_3) rfl rfl (Nat.le_of_ble_eq_true rfl) d_X3_unary_156 (k_v (fun σ78 ⟨iσ78, ik78⟩ => ?_)) (fun _ _ _ h => h.elim)
        have kp : Keep [(3, 1), (3, 2), (3, 3), (3, 4), (3, 9)] [18, 19, 20, 21, 22, 23] σ0 σ78 := keep_c kp ik78 (by decide) (by decide)
        refine g_goto hF 167 d_X3_unary_159 (by decide) ?_
        exact g_vret hF rfl d_X3_unary_167 ⟨rfl, rfl, rfl, ⟨iσ78, kp⟩⟩
  refine (Decidable.em ((σ0 3 2).toInt = 56)).elim (fun q79_9_12 => ?_) (fun q79_9_12 => ?_)
  · refine g_tableIn (off := 119) hF 128 d_X3_unary_9 q79_9_12 (by decide) (by decide) (by decide +kernel) (by decide) ?_
    refine g_aload_n hF d_X3_unary_128 rfl 1 rfl ?_
    refine g_get (v := .int (σ0 3 2)) hF 2 obC_3 (by decide) m_96 rfl d_X3_unary_129 ?_
    refine g_bipush hF (v := 20) d_X3_unary_132 (by decide) ?_
    refine g_icmp_ne (yv := 20) hF 162 d_X3_unary_134 (by decide) rfl (by decide) (fun c80_134 => ?_) (fun c80_134 => ?_)
    · -- taken at 134
      refine g_aload_n hF d_X3_unary_162 rfl 1 rfl ?_
      refine g_iload_n hF d_X3_unary_163 rfl 2 rfl ?_
      refine g_callV (As := [.int a1]) (rest := []) hF (c_X3_behind a g r k σ0 a1 ih h1 hk i0) (by omega) mV_X3_behind m_954 (recv_ob obC_3) rfl rfl (Nat.le_of_ble_eq_true rfl) d_X3_unary_164 (k_v (fun σ81 ⟨iσ81, ik81⟩ => ?_)) (fun _ _ _ h => h.elim)
      have kp : Keep [(3, 1), (3, 2), (3, 3), (3, 4), (3, 9)] [18, 19, 20, 21, 22, 23] σ0 σ81 := keep_c kp ik81 (by decide) (by decide)
      exact g_vret hF rfl d_X3_unary_167 ⟨rfl, rfl, rfl, ⟨iσ81, kp⟩⟩
    · -- not taken at 134
      refine g_aload_n hF d_X3_unary_137 rfl 1 rfl ?_
      refine g_get (v := .ref (r 2)) hF 0 obC_3 (by decide) m_94 rfl d_X3_unary_138 ?_
      refine g_getN (v := .ref (r 13)) hF 5 obC_2 (by decide) nm_50 rfl d_X3_unary_141 ?_
      refine g_iload_n hF d_X3_unary_144 rfl 0 rfl ?_
      refine g_iconst hF (v := 1) d_X3_unary_145 (by decide) ?_
      refine g_iadd hF d_X3_unary_146 ?_
      refine g_callSN (As := [.ref (r 13), .int ((σ0 3 1) + 1)]) (rest := []) hF (c_at a g r σ0 arC_13 (by decide) ((σ0 3 1) + 1)) (Nat.le_of_ble_eq_true rfl) mS_X12_at nm_947 rfl rfl (Nat.le_of_ble_eq_true rfl) d_X3_unary_147 (k_rop (fun r82 hr82 => ?_))
      refine g_iconst hF (v := 5) d_X3_unary_150 (by decide) ?_
      refine g_icmp_ne (yv := 5) hF 162 d_X3_unary_151 (by decide) rfl (by decide) (fun c83_151 => ?_) (fun c83_151 => ?_)
      · -- taken at 151
        refine g_aload_n hF d_X3_unary_162 rfl 1 rfl ?_
        refine g_iload_n hF d_X3_unary_163 rfl 2 rfl ?_
        refine g_callV (As := [.int a1]) (rest := []) hF (c_X3_behind a g r k σ0 a1 ih h1 hk i0) (by omega) mV_X3_behind m_954 (recv_ob obC_3) rfl rfl (Nat.le_of_ble_eq_true rfl) d_X3_unary_164 (k_v (fun σ84 ⟨iσ84, ik84⟩ => ?_)) (fun _ _ _ h => h.elim)
        have kp : Keep [(3, 1), (3, 2), (3, 3), (3, 4), (3, 9)] [18, 19, 20, 21, 22, 23] σ0 σ84 := keep_c kp ik84 (by decide) (by decide)
        exact g_vret hF rfl d_X3_unary_167 ⟨rfl, rfl, rfl, ⟨iσ84, kp⟩⟩
      · -- not taken at 151
        refine g_aload_n hF d_X3_unary_154 rfl 1 rfl ?_
        refine g_iload_n hF d_X3_unary_155 rfl 2 rfl ?_
        refine g_callV (As := [.int a1]) (rest := []) hF (c_X3_cast a g r k σ0 a1 ih h1 hk i0) (by omega) mV_X3_cast m_950 (recv_ob obC_3) rfl rfl (Nat.le_of_ble_eq_true rfl) d_X3_unary_156 (k_v (fun σ85 ⟨iσ85, ik85⟩ => ?_)) (fun _ _ _ h => h.elim)
        have kp : Keep [(3, 1), (3, 2), (3, 3), (3, 4), (3, 9)] [18, 19, 20, 21, 22, 23] σ0 σ85 := keep_c kp ik85 (by decide) (by decide)
        refine g_goto hF 167 d_X3_unary_159 (by decide) ?_
        exact g_vret hF rfl d_X3_unary_167 ⟨rfl, rfl, rfl, ⟨iσ85, kp⟩⟩
  refine (Decidable.em ((σ0 3 2).toInt = 57)).elim (fun q86_9_13 => ?_) (fun q86_9_13 => ?_)
  · refine g_tableIn (off := 119) hF 128 d_X3_unary_9 q86_9_13 (by decide) (by decide) (by decide +kernel) (by decide) ?_
    refine g_aload_n hF d_X3_unary_128 rfl 1 rfl ?_
    refine g_get (v := .int (σ0 3 2)) hF 2 obC_3 (by decide) m_96 rfl d_X3_unary_129 ?_
    refine g_bipush hF (v := 20) d_X3_unary_132 (by decide) ?_
    refine g_icmp_ne (yv := 20) hF 162 d_X3_unary_134 (by decide) rfl (by decide) (fun c87_134 => ?_) (fun c87_134 => ?_)
    · -- taken at 134
      refine g_aload_n hF d_X3_unary_162 rfl 1 rfl ?_
      refine g_iload_n hF d_X3_unary_163 rfl 2 rfl ?_
      refine g_callV (As := [.int a1]) (rest := []) hF (c_X3_behind a g r k σ0 a1 ih h1 hk i0) (by omega) mV_X3_behind m_954 (recv_ob obC_3) rfl rfl (Nat.le_of_ble_eq_true rfl) d_X3_unary_164 (k_v (fun σ88 ⟨iσ88, ik88⟩ => ?_)) (fun _ _ _ h => h.elim)
      have kp : Keep [(3, 1), (3, 2), (3, 3), (3, 4), (3, 9)] [18, 19, 20, 21, 22, 23] σ0 σ88 := keep_c kp ik88 (by decide) (by decide)
      exact g_vret hF rfl d_X3_unary_167 ⟨rfl, rfl, rfl, ⟨iσ88, kp⟩⟩
    · -- not taken at 134
      refine g_aload_n hF d_X3_unary_137 rfl 1 rfl ?_
      refine g_get (v := .ref (r 2)) hF 0 obC_3 (by decide) m_94 rfl d_X3_unary_138 ?_
      refine g_getN (v := .ref (r 13)) hF 5 obC_2 (by decide) nm_50 rfl d_X3_unary_141 ?_
      refine g_iload_n hF d_X3_unary_144 rfl 0 rfl ?_
      refine g_iconst hF (v := 1) d_X3_unary_145 (by decide) ?_
      refine g_iadd hF d_X3_unary_146 ?_
      refine g_callSN (As := [.ref (r 13), .int ((σ0 3 1) + 1)]) (rest := []) hF (c_at a g r σ0 arC_13 (by decide) ((σ0 3 1) + 1)) (Nat.le_of_ble_eq_true rfl) mS_X12_at nm_947 rfl rfl (Nat.le_of_ble_eq_true rfl) d_X3_unary_147 (k_rop (fun r89 hr89 => ?_))
      refine g_iconst hF (v := 5) d_X3_unary_150 (by decide) ?_
      refine g_icmp_ne (yv := 5) hF 162 d_X3_unary_151 (by decide) rfl (by decide) (fun c90_151 => ?_) (fun c90_151 => ?_)
      · -- taken at 151
        refine g_aload_n hF d_X3_unary_162 rfl 1 rfl ?_
        refine g_iload_n hF d_X3_unary_163 rfl 2 rfl ?_
        refine g_callV (As := [.int a1]) (rest := []) hF (c_X3_behind a g r k σ0 a1 ih h1 hk i0) (by omega) mV_X3_behind m_954 (recv_ob obC_3) rfl rfl (Nat.le_of_ble_eq_true rfl) d_X3_unary_164 (k_v (fun σ91 ⟨iσ91, ik91⟩ => ?_)) (fun _ _ _ h => h.elim)
        have kp : Keep [(3, 1), (3, 2), (3, 3), (3, 4), (3, 9)] [18, 19, 20, 21, 22, 23] σ0 σ91 := keep_c kp ik91 (by decide) (by decide)
        exact g_vret hF rfl d_X3_unary_167 ⟨rfl, rfl, rfl, ⟨iσ91, kp⟩⟩
      · -- not taken at 151
        refine g_aload_n hF d_X3_unary_154 rfl 1 rfl ?_
        refine g_iload_n hF d_X3_unary_155 rfl 2 rfl ?_
        refine g_callV (As := [.int a1]) (rest := []) hF (c_X3_cast a g r k σ0 a1 ih h1 hk i0) (by omega) mV_X3_cast m_950 (recv_ob obC_3) rfl rfl (Nat.le_of_ble_eq_true rfl) d_X3_unary_156 (k_v (fun σ92 ⟨iσ92, ik92⟩ => ?_)) (fun _ _ _ h => h.elim)
        have kp : Keep [(3, 1), (3, 2), (3, 3), (3, 4), (3, 9)] [18, 19, 20, 21, 22, 23] σ0 σ92 := keep_c kp ik92 (by decide) (by decide)
        refine g_goto hF 167 d_X3_unary_159 (by decide) ?_
        exact g_vret hF rfl d_X3_unary_167 ⟨rfl, rfl, rfl, ⟨iσ92, kp⟩⟩
  refine (Decidable.em ((σ0 3 2).toInt = 58)).elim (fun q93_9_14 => ?_) (fun q93_9_14 => ?_)
  · refine g_tableIn (off := 119) hF 128 d_X3_unary_9 q93_9_14 (by decide) (by decide) (by decide +kernel) (by decide) ?_
    refine g_aload_n hF d_X3_unary_128 rfl 1 rfl ?_
    refine g_get (v := .int (σ0 3 2)) hF 2 obC_3 (by decide) m_96 rfl d_X3_unary_129 ?_
    refine g_bipush hF (v := 20) d_X3_unary_132 (by decide) ?_
    refine g_icmp_ne (yv := 20) hF 162 d_X3_unary_134 (by decide) rfl (by decide) (fun c94_134 => ?_) (fun c94_134 => ?_)
    · -- taken at 134
      refine g_aload_n hF d_X3_unary_162 rfl 1 rfl ?_
      refine g_iload_n hF d_X3_unary_163 rfl 2 rfl ?_
      refine g_callV (As := [.int a1]) (rest := []) hF (c_X3_behind a g r k σ0 a1 ih h1 hk i0) (by omega) mV_X3_behind m_954 (recv_ob obC_3) rfl rfl (Nat.le_of_ble_eq_true rfl) d_X3_unary_164 (k_v (fun σ95 ⟨iσ95, ik95⟩ => ?_)) (fun _ _ _ h => h.elim)
      have kp : Keep [(3, 1), (3, 2), (3, 3), (3, 4), (3, 9)] [18, 19, 20, 21, 22, 23] σ0 σ95 := keep_c kp ik95 (by decide) (by decide)
      exact g_vret hF rfl d_X3_unary_167 ⟨rfl, rfl, rfl, ⟨iσ95, kp⟩⟩
    · -- not taken at 134
      refine g_aload_n hF d_X3_unary_137 rfl 1 rfl ?_
      refine g_get (v := .ref (r 2)) hF 0 obC_3 (by decide) m_94 rfl d_X3_unary_138 ?_
      refine g_getN (v := .ref (r 13)) hF 5 obC_2 (by decide) nm_50 rfl d_X3_unary_141 ?_
      refine g_iload_n hF d_X3_unary_144 rfl 0 rfl ?_
      refine g_iconst hF (v := 1) d_X3_unary_145 (by decide) ?_
      refine g_iadd hF d_X3_unary_146 ?_
      refine g_callSN (As := [.ref (r 13), .int ((σ0 3 1) + 1)]) (rest := []) hF (c_at a g r σ0 arC_13 (by decide) ((σ0 3 1) + 1)) (Nat.le_of_ble_eq_true rfl) mS_X12_at nm_947 rfl rfl (Nat.le_of_ble_eq_true rfl) d_X3_unary_147 (k_rop (fun r96 hr96 => ?_))
      refine g_iconst hF (v := 5) d_X3_unary_150 (by decide) ?_
      refine g_icmp_ne (yv := 5) hF 162 d_X3_unary_151 (by decide) rfl (by decide) (fun c97_151 => ?_) (fun c97_151 => ?_)
      · -- taken at 151
        refine g_aload_n hF d_X3_unary_162 rfl 1 rfl ?_
        refine g_iload_n hF d_X3_unary_163 rfl 2 rfl ?_
        refine g_callV (As := [.int a1]) (rest := []) hF (c_X3_behind a g r k σ0 a1 ih h1 hk i0) (by omega) mV_X3_behind m_954 (recv_ob obC_3) rfl rfl (Nat.le_of_ble_eq_true rfl) d_X3_unary_164 (k_v (fun σ98 ⟨iσ98, ik98⟩ => ?_)) (fun _ _ _ h => h.elim)
        have kp : Keep [(3, 1), (3, 2), (3, 3), (3, 4), (3, 9)] [18, 19, 20, 21, 22, 23] σ0 σ98 := keep_c kp ik98 (by decide) (by decide)
        exact g_vret hF rfl d_X3_unary_167 ⟨rfl, rfl, rfl, ⟨iσ98, kp⟩⟩
      · -- not taken at 151
        refine g_aload_n hF d_X3_unary_154 rfl 1 rfl ?_
        refine g_iload_n hF d_X3_unary_155 rfl 2 rfl ?_
        refine g_callV (As := [.int a1]) (rest := []) hF (c_X3_cast a g r k σ0 a1 ih h1 hk i0) (by omega) mV_X3_cast m_950 (recv_ob obC_3) rfl rfl (Nat.le_of_ble_eq_true rfl) d_X3_unary_156 (k_v (fun σ99 ⟨iσ99, ik99⟩ => ?_)) (fun _ _ _ h => h.elim)
        have kp : Keep [(3, 1), (3, 2), (3, 3), (3, 4), (3, 9)] [18, 19, 20, 21, 22, 23] σ0 σ99 := keep_c kp ik99 (by decide) (by decide)
        refine g_goto hF 167 d_X3_unary_159 (by decide) ?_
        exact g_vret hF rfl d_X3_unary_167 ⟨rfl, rfl, rfl, ⟨iσ99, kp⟩⟩
  refine (Decidable.em ((σ0 3 2).toInt = 59)).elim (fun q100_9_15 => ?_) (fun q100_9_15 => ?_)
  · refine g_tableIn (off := 91) hF 100 d_X3_unary_9 q100_9_15 (by decide) (by decide) (by decide +kernel) (by decide) ?_
    refine g_aload_n hF d_X3_unary_100 rfl 1 rfl ?_
    refine g_iload_n hF d_X3_unary_101 rfl 2 rfl ?_
    refine g_callV (As := [.int a1]) (rest := []) hF (c_X3_deeper a g r σ0 a1 i0) (Nat.le_of_ble_eq_true rfl) mV_X3_deeper m_943 (recv_ob obC_3) rfl rfl (Nat.le_of_ble_eq_true rfl) d_X3_unary_102 (k_i (fun r101 σ101 ⟨hz101, hp101, iσ101, ik101⟩ => ?_)) (fun _ _ _ h => h.elim)
    have kp : Keep [(3, 1), (3, 2), (3, 3), (3, 4), (3, 9)] [18, 19, 20, 21, 22, 23] σ0 σ101 := keep_c kp ik101 (by decide) (by decide)
    refine g_if_eq hF 167 d_X3_unary_105 (by decide) rfl (fun c102_105 => ?_) (fun c102_105 => ?_)
    · -- taken at 105
      exact g_vret hF rfl d_X3_unary_167 ⟨rfl, rfl, rfl, ⟨iσ101, kp⟩⟩
    · -- not taken at 105
      refine g_aload_n hF d_X3_unary_108 rfl 1 rfl ?_
      refine g_iload_n hF d_X3_unary_109 rfl 2 rfl ?_
      refine g_iconst hF (v := 1) d_X3_unary_110 (by decide) ?_
      refine g_iadd hF d_X3_unary_111 ?_
      refine g_callV (As := [.int (a1 + 1)]) (rest := []) hF (((ih (by have e0 := s_rng a1; have e1 : (1 : Int32).toInt = 1 := (by decide); obtain ⟨k2, e2⟩ := s_add a1 (1 : Int32); have e2a := s_rng (a1 + 1); have e4 := s_rng r101; have e5 : (0 : Int32).toInt = 0 := (by decide); omega)) σ101 (a1 + 1) (by have e0 := s_rng a1; have e1 : (1 : Int32).toInt = 1 := (by decide); obtain ⟨k2, e2⟩ := s_add a1 (1 : Int32); have e2a := s_rng (a1 + 1); have e4 := s_rng r101; have e5 : (0 : Int32).toInt = 0 := (by decide); omega) (by have e0 := s_rng a1; have e1 : (1 : Int32).toInt = 1 := (by decide); obtain ⟨k2, e2⟩ := s_add a1 (1 : Int32); have e2a := s_rng (a1 + 1); have e4 := s_rng r101; have e5 : (0 : Int32).toInt = 0 := (by decide); omega) iσ101).2.2) (by have : 2 ≤ k := (by have e0 := s_rng a1; have e1 : (1 : Int32).toInt = 1 := (by decide); obtain ⟨k2, e2⟩ := s_add a1 (1 : Int32); have e2a := s_rng (a1 + 1); have e4 := s_rng r101; have e5 : (0 : Int32).toInt = 0 := (by decide); omega); omega) mV_X3_unary m_939 (recv_ob obC_3) rfl rfl (Nat.le_of_ble_eq_true rfl) d_X3_unary_112 (k_v (fun σ103 ⟨iσ103, ik103⟩ => ?_)) (fun _ _ _ h => h.elim)
      have kp : Keep [(3, 1), (3, 2), (3, 3), (3, 4), (3, 9)] [18, 19, 20, 21, 22, 23] σ0 σ103 := keep_c kp ik103 (by decide) (by decide)
      refine g_aload_n hF d_X3_unary_115 rfl 1 rfl ?_
      refine g_bipush hF (v := 11) d_X3_unary_116 (by decide) ?_
      refine g_iload_n hF d_X3_unary_118 rfl 0 rfl ?_
      refine g_iconst hF (v := 0) d_X3_unary_119 (by decide) ?_
      refine g_iconst hF (v := 0) d_X3_unary_120 (by decide) ?_
      refine g_callV (As := [.int 11, .int (σ0 3 1), .int 0, .int 0]) (rest := []) hF (c_X3_add a g r σ103 (11 : Int32) (σ0 3 1) (0 : Int32) (0 : Int32) iσ103) (Nat.le_of_ble_eq_true rfl) mV_X3_add m_923 (recv_ob obC_3) rfl rfl (Nat.le_of_ble_eq_true rfl) d_X3_unary_121 (k_i (fun r104 σ104 ⟨iσ104, ik104⟩ => ?_)) (fun _ _ _ h => h.elim)
      have kp : Keep [(3, 1), (3, 2), (3, 3), (3, 4), (3, 9)] [18, 19, 20, 21, 22, 23] σ0 σ104 := keep_c kp ik104 (by decide) (by decide)
      refine g_pop hF d_X3_unary_124 rfl ?_
      refine g_goto hF 167 d_X3_unary_125 (by decide) ?_
      exact g_vret hF rfl d_X3_unary_167 ⟨rfl, rfl, rfl, ⟨iσ104, kp⟩⟩
  refine (Decidable.em ((σ0 3 2).toInt = 60)).elim (fun q105_9_16 => ?_) (fun q105_9_16 => ?_)
  · refine g_tableIn (off := 91) hF 100 d_X3_unary_9 q105_9_16 (by decide) (by decide) (by decide +kernel) (by decide) ?_
    refine g_aload_n hF d_X3_unary_100 rfl 1 rfl ?_
    refine g_iload_n hF d_X3_unary_101 rfl 2 rfl ?_
    refine g_callV (As := [.int a1]) (rest := []) hF (c_X3_deeper a g r σ0 a1 i0) (Nat.le_of_ble_eq_true rfl) mV_X3_deeper m_943 (recv_ob obC_3) rfl rfl (Nat.le_of_ble_eq_true rfl) d_X3_unary_102 (k_i (fun r106 σ106 ⟨hz106, hp106, iσ106, ik106⟩ => ?_)) (fun _ _ _ h => h.elim)
    have kp : Keep [(3, 1), (3, 2), (3, 3), (3, 4), (3, 9)] [18, 19, 20, 21, 22, 23] σ0 σ106 := keep_c kp ik106 (by decide) (by decide)
    refine g_if_eq hF 167 d_X3_unary_105 (by decide) rfl (fun c107_105 => ?_) (fun c107_105 => ?_)
    · -- taken at 105
      exact g_vret hF rfl d_X3_unary_167 ⟨rfl, rfl, rfl, ⟨iσ106, kp⟩⟩
    · -- not taken at 105
      refine g_aload_n hF d_X3_unary_108 rfl 1 rfl ?_
      refine g_iload_n hF d_X3_unary_109 rfl 2 rfl ?_
      refine g_iconst hF (v := 1) d_X3_unary_110 (by decide) ?_
      refine g_iadd hF d_X3_unary_111 ?_
      refine g_callV (As := [.int (a1 + 1)]) (rest := []) hF (((ih (by have e0 := s_rng a1; have e1 : (1 : Int32).toInt = 1 := (by decide); obtain ⟨k2, e2⟩ := s_add a1 (1 : Int32); have e2a := s_rng (a1 + 1); have e4 := s_rng r106; have e5 : (0 : Int32).toInt = 0 := (by decide); omega)) σ106 (a1 + 1) (by have e0 := s_rng a1; have e1 : (1 : Int32).toInt = 1 := (by decide); obtain ⟨k2, e2⟩ := s_add a1 (1 : Int32); have e2a := s_rng (a1 + 1); have e4 := s_rng r106; have e5 : (0 : Int32).toInt = 0 := (by decide); omega) (by have e0 := s_rng a1; have e1 : (1 : Int32).toInt = 1 := (by decide); obtain ⟨k2, e2⟩ := s_add a1 (1 : Int32); have e2a := s_rng (a1 + 1); have e4 := s_rng r106; have e5 : (0 : Int32).toInt = 0 := (by decide); omega) iσ106).2.2) (by have : 2 ≤ k := (by have e0 := s_rng a1; have e1 : (1 : Int32).toInt = 1 := (by decide); obtain ⟨k2, e2⟩ := s_add a1 (1 : Int32); have e2a := s_rng (a1 + 1); have e4 := s_rng r106; have e5 : (0 : Int32).toInt = 0 := (by decide); omega); omega) mV_X3_unary m_939 (recv_ob obC_3) rfl rfl (Nat.le_of_ble_eq_true rfl) d_X3_unary_112 (k_v (fun σ108 ⟨iσ108, ik108⟩ => ?_)) (fun _ _ _ h => h.elim)
      have kp : Keep [(3, 1), (3, 2), (3, 3), (3, 4), (3, 9)] [18, 19, 20, 21, 22, 23] σ0 σ108 := keep_c kp ik108 (by decide) (by decide)
      refine g_aload_n hF d_X3_unary_115 rfl 1 rfl ?_
      refine g_bipush hF (v := 11) d_X3_unary_116 (by decide) ?_
      refine g_iload_n hF d_X3_unary_118 rfl 0 rfl ?_
      refine g_iconst hF (v := 0) d_X3_unary_119 (by decide) ?_
      refine g_iconst hF (v := 0) d_X3_unary_120 (by decide) ?_
      refine g_callV (As := [.int 11, .int (σ0 3 1), .int 0, .int 0]) (rest := []) hF (c_X3_add a g r σ108 (11 : Int32) (σ0 3 1) (0 : Int32) (0 : Int32) iσ108) (Nat.le_of_ble_eq_true rfl) mV_X3_add m_923 (recv_ob obC_3) rfl rfl (Nat.le_of_ble_eq_true rfl) d_X3_unary_121 (k_i (fun r109 σ109 ⟨iσ109, ik109⟩ => ?_)) (fun _ _ _ h => h.elim)
      have kp : Keep [(3, 1), (3, 2), (3, 3), (3, 4), (3, 9)] [18, 19, 20, 21, 22, 23] σ0 σ109 := keep_c kp ik109 (by decide) (by decide)
      refine g_pop hF d_X3_unary_124 rfl ?_
      refine g_goto hF 167 d_X3_unary_125 (by decide) ?_
      exact g_vret hF rfl d_X3_unary_167 ⟨rfl, rfl, rfl, ⟨iσ109, kp⟩⟩
  refine (Decidable.em ((σ0 3 2).toInt = 61)).elim (fun q110_9_17 => ?_) (fun q110_9_17 => ?_)
  · refine g_tableIn (off := 91) hF 100 d_X3_unary_9 q110_9_17 (by decide) (by decide) (by decide +kernel) (by decide) ?_
    refine g_aload_n hF d_X3_unary_100 rfl 1 rfl ?_
    refine g_iload_n hF d_X3_unary_101 rfl 2 rfl ?_
    refine g_callV (As := [.int a1]) (rest := []) hF (c_X3_deeper a g r σ0 a1 i0) (Nat.le_of_ble_eq_true rfl) mV_X3_deeper m_943 (recv_ob obC_3) rfl rfl (Nat.le_of_ble_eq_true rfl) d_X3_unary_102 (k_i (fun r111 σ111 ⟨hz111, hp111, iσ111, ik111⟩ => ?_)) (fun _ _ _ h => h.elim)
    have kp : Keep [(3, 1), (3, 2), (3, 3), (3, 4), (3, 9)] [18, 19, 20, 21, 22, 23] σ0 σ111 := keep_c kp ik111 (by decide) (by decide)
    refine g_if_eq hF 167 d_X3_unary_105 (by decide) rfl (fun c112_105 => ?_) (fun c112_105 => ?_)
    · -- taken at 105
      exact g_vret hF rfl d_X3_unary_167 ⟨rfl, rfl, rfl, ⟨iσ111, kp⟩⟩
    · -- not taken at 105
      refine g_aload_n hF d_X3_unary_108 rfl 1 rfl ?_
      refine g_iload_n hF d_X3_unary_109 rfl 2 rfl ?_
      refine g_iconst hF (v := 1) d_X3_unary_110 (by decide) ?_
      refine g_iadd hF d_X3_unary_111 ?_
      refine g_callV (As := [.int (a1 + 1)]) (rest := []) hF (((ih (by have e0 := s_rng a1; have e1 : (1 : Int32).toInt = 1 := (by decide); obtain ⟨k2, e2⟩ := s_add a1 (1 : Int32); have e2a := s_rng (a1 + 1); have e4 := s_rng r111; have e5 : (0 : Int32).toInt = 0 := (by decide); omega)) σ111 (a1 + 1) (by have e0 := s_rng a1; have e1 : (1 : Int32).toInt = 1 := (by decide); obtain ⟨k2, e2⟩ := s_add a1 (1 : Int32); have e2a := s_rng (a1 + 1); have e4 := s_rng r111; have e5 : (0 : Int32).toInt = 0 := (by decide); omega) (by have e0 := s_rng a1; have e1 : (1 : Int32).toInt = 1 := (by decide); obtain ⟨k2, e2⟩ := s_add a1 (1 : Int32); have e2a := s_rng (a1 + 1); have e4 := s_rng r111; have e5 : (0 : Int32).toInt = 0 := (by decide); omega) iσ111).2.2) (by have : 2 ≤ k := (by have e0 := s_rng a1; have e1 : (1 : Int32).toInt = 1 := (by decide); obtain ⟨k2, e2⟩ := s_add a1 (1 : Int32); have e2a := s_rng (a1 + 1); have e4 := s_rng r111; have e5 : (0 : Int32).toInt = 0 := (by decide); omega); omega) mV_X3_unary m_939 (recv_ob obC_3) rfl rfl (Nat.le_of_ble_eq_true rfl) d_X3_unary_112 (k_v (fun σ113 ⟨iσ113, ik113⟩ => ?_)) (fun _ _ _ h => h.elim)
      have kp : Keep [(3, 1), (3, 2), (3, 3), (3, 4), (3, 9)] [18, 19, 20, 21, 22, 23] σ0 σ113 := keep_c kp ik113 (by decide) (by decide)
      refine g_aload_n hF d_X3_unary_115 rfl 1 rfl ?_
      refine g_bipush hF (v := 11) d_X3_unary_116 (by decide) ?_
      refine g_iload_n hF d_X3_unary_118 rfl 0 rfl ?_
      refine g_iconst hF (v := 0) d_X3_unary_119 (by decide) ?_
      refine g_iconst hF (v := 0) d_X3_unary_120 (by decide) ?_
      refine g_callV (As := [.int 11, .int (σ0 3 1), .int 0, .int 0]) (rest := []) hF (c_X3_add a g r σ113 (11 : Int32) (σ0 3 1) (0 : Int32) (0 : Int32) iσ113) (Nat.le_of_ble_eq_true rfl) mV_X3_add m_923 (recv_ob obC_3) rfl rfl (Nat.le_of_ble_eq_true rfl) d_X3_unary_121 (k_i (fun r114 σ114 ⟨iσ114, ik114⟩ => ?_)) (fun _ _ _ h => h.elim)
      have kp : Keep [(3, 1), (3, 2), (3, 3), (3, 4), (3, 9)] [18, 19, 20, 21, 22, 23] σ0 σ114 := keep_c kp ik114 (by decide) (by decide)
      refine g_pop hF d_X3_unary_124 rfl ?_
      refine g_goto hF 167 d_X3_unary_125 (by decide) ?_
      exact g_vret hF rfl d_X3_unary_167 ⟨rfl, rfl, rfl, ⟨iσ114, kp⟩⟩
  refine (Decidable.em ((σ0 3 2).toInt = 62)).elim (fun q115_9_18 => ?_) (fun q115_9_18 => ?_)
  · refine g_tableIn (off := 91) hF 100 d_X3_unary_9 q115_9_18 (by decide) (by decide) (by decide +kernel) (by decide) ?_
    refine g_aload_n hF d_X3_unary_100 rfl 1 rfl ?_
    refine g_iload_n hF d_X3_unary_101 rfl 2 rfl ?_
    refine g_callV (As := [.int a1]) (rest := []) hF (c_X3_deeper a g r σ0 a1 i0) (Nat.le_of_ble_eq_true rfl) mV_X3_deeper m_943 (recv_ob obC_3) rfl rfl (Nat.le_of_ble_eq_true rfl) d_X3_unary_102 (k_i (fun r116 σ116 ⟨hz116, hp116, iσ116, ik116⟩ => ?_)) (fun _ _ _ h => h.elim)
    have kp : Keep [(3, 1), (3, 2), (3, 3), (3, 4), (3, 9)] [18, 19, 20, 21, 22, 23] σ0 σ116 := keep_c kp ik116 (by decide) (by decide)
    refine g_if_eq hF 167 d_X3_unary_105 (by decide) rfl (fun c117_105 => ?_) (fun c117_105 => ?_)
    · -- taken at 105
      exact g_vret hF rfl d_X3_unary_167 ⟨rfl, rfl, rfl, ⟨iσ116, kp⟩⟩
    · -- not taken at 105
      refine g_aload_n hF d_X3_unary_108 rfl 1 rfl ?_
      refine g_iload_n hF d_X3_unary_109 rfl 2 rfl ?_
      refine g_iconst hF (v := 1) d_X3_unary_110 (by decide) ?_
      refine g_iadd hF d_X3_unary_111 ?_
      refine g_callV (As := [.int (a1 + 1)]) (rest := []) hF (((ih (by have e0 := s_rng a1; have e1 : (1 : Int32).toInt = 1 := (by decide); obtain ⟨k2, e2⟩ := s_add a1 (1 : Int32); have e2a := s_rng (a1 + 1); have e4 := s_rng r116; have e5 : (0 : Int32).toInt = 0 := (by decide); omega)) σ116 (a1 + 1) (by have e0 := s_rng a1; have e1 : (1 : Int32).toInt = 1 := (by decide); obtain ⟨k2, e2⟩ := s_add a1 (1 : Int32); have e2a := s_rng (a1 + 1); have e4 := s_rng r116; have e5 : (0 : Int32).toInt = 0 := (by decide); omega) (by have e0 := s_rng a1; have e1 : (1 : Int32).toInt = 1 := (by decide); obtain ⟨k2, e2⟩ := s_add a1 (1 : Int32); have e2a := s_rng (a1 + 1); have e4 := s_rng r116; have e5 : (0 : Int32).toInt = 0 := (by decide); omega) iσ116).2.2) (by have : 2 ≤ k := (by have e0 := s_rng a1; have e1 : (1 : Int32).toInt = 1 := (by decide); obtain ⟨k2, e2⟩ := s_add a1 (1 : Int32); have e2a := s_rng (a1 + 1); have e4 := s_rng r116; have e5 : (0 : Int32).toInt = 0 := (by decide); omega); omega) mV_X3_unary m_939 (recv_ob obC_3) rfl rfl (Nat.le_of_ble_eq_true rfl) d_X3_unary_112 (k_v (fun σ118 ⟨iσ118, ik118⟩ => ?_)) (fun _ _ _ h => h.elim)
      have kp : Keep [(3, 1), (3, 2), (3, 3), (3, 4), (3, 9)] [18, 19, 20, 21, 22, 23] σ0 σ118 := keep_c kp ik118 (by decide) (by decide)
      refine g_aload_n hF d_X3_unary_115 rfl 1 rfl ?_
      refine g_bipush hF (v := 11) d_X3_unary_116 (by decide) ?_
      refine g_iload_n hF d_X3_unary_118 rfl 0 rfl ?_
      refine g_iconst hF (v := 0) d_X3_unary_119 (by decide) ?_
      refine g_iconst hF (v := 0) d_X3_unary_120 (by decide) ?_
      refine g_callV (As := [.int 11, .int (σ0 3 1), .int 0, .int 0]) (rest := []) hF (c_X3_add a g r σ118 (11 : Int32) (σ0 3 1) (0 : Int32) (0 : Int32) iσ118) (Nat.le_of_ble_eq_true rfl) mV_X3_add m_923 (recv_ob obC_3) rfl rfl (Nat.le_of_ble_eq_true rfl) d_X3_unary_121 (k_i (fun r119 σ119 ⟨iσ119, ik119⟩ => ?_)) (fun _ _ _ h => h.elim)
      have kp : Keep [(3, 1), (3, 2), (3, 3), (3, 4), (3, 9)] [18, 19, 20, 21, 22, 23] σ0 σ119 := keep_c kp ik119 (by decide) (by decide)
      refine g_pop hF d_X3_unary_124 rfl ?_
      refine g_goto hF 167 d_X3_unary_125 (by decide) ?_
      exact g_vret hF rfl d_X3_unary_167 ⟨rfl, rfl, rfl, ⟨iσ119, kp⟩⟩
  refine g_tableOut hF 128 d_X3_unary_9 rfl (by omega) (by decide) ?_
  refine g_aload_n hF d_X3_unary_128 rfl 1 rfl ?_
  refine g_get (v := .int (σ0 3 2)) hF 2 obC_3 (by decide) m_96 rfl d_X3_unary_129 ?_
  refine g_bipush hF (v := 20) d_X3_unary_132 (by decide) ?_
  refine g_icmp_ne (yv := 20) hF 162 d_X3_unary_134 (by decide) rfl (by decide) (fun c120_134 => ?_) (fun c120_134 => ?_)
  · -- taken at 134
    refine g_aload_n hF d_X3_unary_162 rfl 1 rfl ?_
    refine g_iload_n hF d_X3_unary_163 rfl 2 rfl ?_
    refine g_callV (As := [.int a1]) (rest := []) hF (c_X3_behind a g r k σ0 a1 ih h1 hk i0) (by omega) mV_X3_behind m_954 (recv_ob obC_3) rfl rfl (Nat.le_of_ble_eq_true rfl) d_X3_unary_164 (k_v (fun σ121 ⟨iσ121, ik121⟩ => ?_)) (fun _ _ _ h => h.elim)
    have kp : Keep [(3, 1), (3, 2), (3, 3), (3, 4), (3, 9)] [18, 19, 20, 21, 22, 23] σ0 σ121 := keep_c kp ik121 (by decide) (by decide)
    exact g_vret hF rfl d_X3_unary_167 ⟨rfl, rfl, rfl, ⟨iσ121, kp⟩⟩
  · -- not taken at 134
    refine g_aload_n hF d_X3_unary_137 rfl 1 rfl ?_
    refine g_get (v := .ref (r 2)) hF 0 obC_3 (by decide) m_94 rfl d_X3_unary_138 ?_
    refine g_getN (v := .ref (r 13)) hF 5 obC_2 (by decide) nm_50 rfl d_X3_unary_141 ?_
    refine g_iload_n hF d_X3_unary_144 rfl 0 rfl ?_
    refine g_iconst hF (v := 1) d_X3_unary_145 (by decide) ?_
    refine g_iadd hF d_X3_unary_146 ?_
    refine g_callSN (As := [.ref (r 13), .int ((σ0 3 1) + 1)]) (rest := []) hF (c_at a g r σ0 arC_13 (by decide) ((σ0 3 1) + 1)) (Nat.le_of_ble_eq_true rfl) mS_X12_at nm_947 rfl rfl (Nat.le_of_ble_eq_true rfl) d_X3_unary_147 (k_rop (fun r122 hr122 => ?_))
    refine g_iconst hF (v := 5) d_X3_unary_150 (by decide) ?_
    refine g_icmp_ne (yv := 5) hF 162 d_X3_unary_151 (by decide) rfl (by decide) (fun c123_151 => ?_) (fun c123_151 => ?_)
    · -- taken at 151
      refine g_aload_n hF d_X3_unary_162 rfl 1 rfl ?_
      refine g_iload_n hF d_X3_unary_163 rfl 2 rfl ?_
      refine g_callV (As := [.int a1]) (rest := []) hF (c_X3_behind a g r k σ0 a1 ih h1 hk i0) (by omega) mV_X3_behind m_954 (recv_ob obC_3) rfl rfl (Nat.le_of_ble_eq_true rfl) d_X3_unary_164 (k_v (fun σ124 ⟨iσ124, ik124⟩ => ?_)) (fun _ _ _ h => h.elim)
      have kp : Keep [(3, 1), (3, 2), (3, 3), (3, 4), (3, 9)] [18, 19, 20, 21, 22, 23] σ0 σ124 := keep_c kp ik124 (by decide) (by decide)
      exact g_vret hF rfl d_X3_unary_167 ⟨rfl, rfl, rfl, ⟨iσ124, kp⟩⟩
    · -- not taken at 151
      refine g_aload_n hF d_X3_unary_154 rfl 1 rfl ?_
      refine g_iload_n hF d_X3_unary_155 rfl 2 rfl ?_
      refine g_callV (As := [.int a1]) (rest := []) hF (c_X3_cast a g r k σ0 a1 ih h1 hk i0) (by omega) mV_X3_cast m_950 (recv_ob obC_3) rfl rfl (Nat.le_of_ble_eq_true rfl) d_X3_unary_156 (k_v (fun σ125 ⟨iσ125, ik125⟩ => ?_)) (fun _ _ _ h => h.elim)
      have kp : Keep [(3, 1), (3, 2), (3, 3), (3, 4), (3, 9)] [18, 19, 20, 21, 22, 23] σ0 σ125 := keep_c kp ik125 (by decide) (by decide)
      refine g_goto hF 167 d_X3_unary_159 (by decide) ?_
      exact g_vret hF rfl d_X3_unary_167 ⟨rfl, rfl, rfl, ⟨iσ125, kp⟩⟩
set_option maxHeartbeats 4000000 in
set_option maxRecDepth 100000 in
theorem c_X3_binary (a : Nat → Nat) (g : Nat → Nat → Int32) (r : Nat → Nat) (k : Nat) (σ0 : St) (a1 : Int32) (ih : 2 ≤ k → RX a g r (k - 1)) (h1 : 1 ≤ a1.toInt) (hk : a1.toInt + (k : Int) = 26) (i0 : Inv σ0) (l : Launch) (D : va_G) (cy : Nat → ClassId) : Ct l D cy SC r (EC a g) y_X3_binary (Cond.code y_X3_binary b_X3_binary 4 none) (14 * k + 6) [.ref (r 3), .int a1] σ0 Z0 [] (QV (fun σ9 => (Inv σ9 ∧ Keep [(3, 1), (3, 2), (3, 3), (3, 4), (3, 9)] [18, 19, 20, 21, 22, 23] σ0 σ9))) QF := by
  refine Ct_of (EC_ok a g) (by decide) (Nat.le_of_ble_eq_true rfl) (by decide) (fun X hnn hF => ?_)
  show G SC r X σ0 Z0 [] [(0, .ref (r 3)), (1, .int a1)] [] 0
  have b18 : ∀ (N : Nat) (σ : St) (x1 : Int32) (x2 : Int32) (x3 : Int32) , dnm x3 = N → Inv σ → Keep [(3, 1), (3, 2), (3, 3), (3, 4), (3, 9)] [18, 19, 20, 21, 22, 23] σ0 σ → 1 ≤ x1.toInt → x1.toInt + (k : Int) = 26 → G SC r X σ Z0 [] [(0, .ref (r 3)), (1, .int x1), (2, .int x2), (3, .int x3)] [] 18 := by
    intro M18
    induction M18 using Nat.strongRecOn with
    | _ M18 ih18 =>
      intro σ x1 x2 x3 N18 inv kp h1 hk
      refine g_iload_n hF d_X3_binary_18 rfl 3 rfl ?_
      refine g_if_le hF 97 d_X3_binary_19 (by decide) rfl (fun c1_19 => ?_) (fun c1_19 => ?_)
      · -- taken at 19
        refine g_aload_n hF d_X3_binary_97 rfl 0 rfl ?_
        refine g_iload_n hF d_X3_binary_98 rfl 2 rfl ?_
        refine g_iconst hF (v := 0) d_X3_binary_99 (by decide) ?_
        refine g_callV (As := [.int x2, .int 0]) (rest := []) hF (c_X3_settle a g r σ x2 (0 : Int32) inv) (Nat.le_of_ble_eq_true rfl) mV_X3_settle m_975 (recv_ob obC_3) rfl rfl (Nat.le_of_ble_eq_true rfl) d_X3_binary_100 (k_v (fun σ2 ⟨iσ2, ik2⟩ => ?_)) (fun _ _ _ h => h.elim)
        have kp : Keep [(3, 1), (3, 2), (3, 3), (3, 4), (3, 9)] [18, 19, 20, 21, 22, 23] σ0 σ2 := keep_c kp ik2 (by decide) (by decide)
        exact g_vret hF rfl d_X3_binary_103 ⟨rfl, rfl, rfl, ⟨iσ2, kp⟩⟩
      · -- not taken at 19
        refine g_aload_n hF d_X3_binary_22 rfl 0 rfl ?_
        refine g_get (v := .int (σ 3 2)) hF 2 obC_3 (by decide) m_96 rfl d_X3_binary_23 ?_
        refine g_callS (As := [.int (σ 3 2)]) (rest := []) hF (c_X3_levelOf a g r σ (σ 3 2) inv) (Nat.le_of_ble_eq_true rfl) mS_X3_levelOf m_970 rfl rfl (Nat.le_of_ble_eq_true rfl) d_X3_binary_26 (k_ro (fun r3 => ?_)) (fun _ _ _ h => h.elim)
        refine g_if_le hF 97 d_X3_binary_29 (by decide) rfl (fun c4_29 => ?_) (fun c4_29 => ?_)
        · -- taken at 29
          refine g_aload_n hF d_X3_binary_97 rfl 0 rfl ?_
          refine g_iload_n hF d_X3_binary_98 rfl 2 rfl ?_
          refine g_iconst hF (v := 0) d_X3_binary_99 (by decide) ?_
          refine g_callV (As := [.int x2, .int 0]) (rest := []) hF (c_X3_settle a g r σ x2 (0 : Int32) inv) (Nat.le_of_ble_eq_true rfl) mV_X3_settle m_975 (recv_ob obC_3) rfl rfl (Nat.le_of_ble_eq_true rfl) d_X3_binary_100 (k_v (fun σ5 ⟨iσ5, ik5⟩ => ?_)) (fun _ _ _ h => h.elim)
          have kp : Keep [(3, 1), (3, 2), (3, 3), (3, 4), (3, 9)] [18, 19, 20, 21, 22, 23] σ0 σ5 := keep_c kp ik5 (by decide) (by decide)
          exact g_vret hF rfl d_X3_binary_103 ⟨rfl, rfl, rfl, ⟨iσ5, kp⟩⟩
        · -- not taken at 29
          refine g_aload_n hF d_X3_binary_32 rfl 0 rfl ?_
          refine g_iload_n hF d_X3_binary_33 rfl 2 rfl ?_
          refine g_aload_n hF d_X3_binary_34 rfl 0 rfl ?_
          refine g_get (v := .int (σ 3 2)) hF 2 obC_3 (by decide) m_96 rfl d_X3_binary_35 ?_
          refine g_callS (As := [.int (σ 3 2)]) (rest := [.int x2, .ref (r 3)]) hF (c_X3_levelOf a g r σ (σ 3 2) inv) (Nat.le_of_ble_eq_true rfl) mS_X3_levelOf m_970 rfl rfl (Nat.le_of_ble_eq_true rfl) d_X3_binary_38 (k_ro (fun r6 => ?_)) (fun _ _ _ h => h.elim)
          refine g_callV (As := [.int x2, .int r6]) (rest := []) hF (c_X3_settle a g r σ x2 r6 inv) (Nat.le_of_ble_eq_true rfl) mV_X3_settle m_975 (recv_ob obC_3) rfl rfl (Nat.le_of_ble_eq_true rfl) d_X3_binary_41 (k_v (fun σ7 ⟨iσ7, ik7⟩ => ?_)) (fun _ _ _ h => h.elim)
          have kp : Keep [(3, 1), (3, 2), (3, 3), (3, 4), (3, 9)] [18, 19, 20, 21, 22, 23] σ0 σ7 := keep_c kp ik7 (by decide) (by decide)
          refine g_aload_n hF d_X3_binary_44 rfl 0 rfl ?_
          refine g_get (v := .ref (r 22)) hF 10 obC_3 (by decide) m_115 rfl d_X3_binary_45 ?_
          refine g_aload_n hF d_X3_binary_48 rfl 0 rfl ?_
          refine g_get (v := .int (σ7 3 9)) hF 9 obC_3 (by decide) m_114 rfl d_X3_binary_49 ?_
          refine g_aload_n hF d_X3_binary_52 rfl 0 rfl ?_
          refine g_get (v := .int (σ7 3 1)) hF 1 obC_3 (by decide) m_95 rfl d_X3_binary_53 ?_
          refine g_top (v := (σ 3 1)) (ik7 3 1 rfl rfl rfl) ?_
          refine g_callSN (As := [.ref (r 22), .int (σ7 3 9), .int (σ 3 1)]) (rest := []) hF (c_set a g r σ7 arC_22 (by decide) (σ7 3 9) (σ 3 1)) (Nat.le_of_ble_eq_true rfl) mS_X12_set nm_979 rfl rfl (Nat.le_of_ble_eq_true rfl) d_X3_binary_56 (k_v (fun σ8 ⟨g8, eσ8, hg8⟩ => ?_))
          subst eσ8
          have kp : Keep [(3, 1), (3, 2), (3, 3), (3, 4), (3, 9)] [18, 19, 20, 21, 22, 23] σ0 (upF σ7 22 g8) := keep_F kp (by decide)
          refine g_aload_n hF d_X3_binary_59 rfl 0 rfl ?_
          refine g_dup hF d_X3_binary_60 rfl ?_
          refine g_get (v := .int (σ7 3 9)) hF 9 obC_3 (by decide) m_114 rfl d_X3_binary_61 ?_
          refine g_iconst hF (v := 1) d_X3_binary_64 (by decide) ?_
          refine g_iadd hF d_X3_binary_65 ?_
          refine g_put (v := ((σ7 3 9) + 1)) hF 9 obC_3 (by decide) m_114 rfl rfl rfl d_X3_binary_66 ?_
          have kp : Keep [(3, 1), (3, 2), (3, 3), (3, 4), (3, 9)] [18, 19, 20, 21, 22, 23] σ0 (upC (upF σ7 22 g8) 3 9 ((σ7 3 9) + 1)) := keep_f kp (by decide)
          refine g_aload_n hF d_X3_binary_69 rfl 0 rfl ?_
          refine g_bipush hF (v := 7) d_X3_binary_70 (by decide) ?_
          refine g_aload_n hF d_X3_binary_72 rfl 0 rfl ?_
          refine g_get (v := .int (σ7 3 1)) hF 1 obC_3 (by decide) m_95 rfl d_X3_binary_73 ?_
          refine g_top (v := (σ 3 1)) (ik7 3 1 rfl rfl rfl) ?_
          refine g_iconst hF (v := 0) d_X3_binary_76 (by decide) ?_
          refine g_iconst hF (v := 0) d_X3_binary_77 (by decide) ?_
          have j10 : Inv (upC (upF σ7 22 g8) 3 9 ((σ7 3 9) + 1)) := ⟨iσ7.1, iσ7.2.1, iσ7.2.2.1, iσ7.2.2.2.1, iσ7.2.2.2.2.1, iσ7.2.2.2.2.2.1, iσ7.2.2.2.2.2.2.1, iσ7.2.2.2.2.2.2.2.1, iσ7.2.2.2.2.2.2.2.2.1, iσ7.2.2.2.2.2.2.2.2.2.1, iσ7.2.2.2.2.2.2.2.2.2.2.1, iσ7.2.2.2.2.2.2.2.2.2.2.2.1, iσ7.2.2.2.2.2.2.2.2.2.2.2.2.1, iσ7.2.2.2.2.2.2.2.2.2.2.2.2.2.1, iσ7.2.2.2.2.2.2.2.2.2.2.2.2.2.2.1, iσ7.2.2.2.2.2.2.2.2.2.2.2.2.2.2.2⟩
          refine g_callV (As := [.int 7, .int (σ 3 1), .int 0, .int 0]) (rest := []) hF (c_X3_add a g r (upC (upF σ7 22 g8) 3 9 ((σ7 3 9) + 1)) (7 : Int32) (σ 3 1) (0 : Int32) (0 : Int32) j10) (Nat.le_of_ble_eq_true rfl) mV_X3_add m_923 (recv_ob obC_3) rfl rfl (Nat.le_of_ble_eq_true rfl) d_X3_binary_78 (k_i (fun r9 σ9 ⟨iσ9, ik9⟩ => ?_)) (fun _ _ _ h => h.elim)
          have kp : Keep [(3, 1), (3, 2), (3, 3), (3, 4), (3, 9)] [18, 19, 20, 21, 22, 23] σ0 σ9 := keep_c kp ik9 (by decide) (by decide)
          refine g_pop hF d_X3_binary_81 rfl ?_
          refine g_aload_n hF d_X3_binary_82 rfl 0 rfl ?_
          refine g_callV (As := []) (rest := []) hF (c_X3_advance a g r σ9 iσ9) (Nat.le_of_ble_eq_true rfl) mV_X3_advance m_899 (recv_ob obC_3) rfl rfl (Nat.le_of_ble_eq_true rfl) d_X3_binary_83 (k_v (fun σ11 ⟨iσ11, ik11⟩ => ?_)) (fun _ _ _ h => h.elim)
          have kp : Keep [(3, 1), (3, 2), (3, 3), (3, 4), (3, 9)] [18, 19, 20, 21, 22, 23] σ0 σ11 := keep_c kp ik11 (by decide) (by decide)
          refine g_aload_n hF d_X3_binary_86 rfl 0 rfl ?_
          refine g_iload_n hF d_X3_binary_87 rfl 1 rfl ?_
          refine g_callV (As := [.int x1]) (rest := []) hF (c_X3_unary a g r k σ11 x1 ih h1 hk iσ11) (by omega) mV_X3_unary m_939 (recv_ob obC_3) rfl rfl (Nat.le_of_ble_eq_true rfl) d_X3_binary_88 (k_v (fun σ12 ⟨iσ12, ik12⟩ => ?_)) (fun _ _ _ h => h.elim)
          have kp : Keep [(3, 1), (3, 2), (3, 3), (3, 4), (3, 9)] [18, 19, 20, 21, 22, 23] σ0 σ12 := keep_c kp ik12 (by decide) (by decide)
          refine g_iinc hF (x3 + (-1)) [(3, .int (x3 + (-1))), (0, .ref (r 3)), (1, .int x1), (2, .int x2)] d_X3_binary_91 3 rfl rfl hnn (by decide) rfl ?_
          refine g_goto hF 18 d_X3_binary_94 (by decide) ?_
          exact g_sub (L' := [(0, .ref (r 3)), (1, .int x1), (2, .int x2), (3, .int (x3 + (-1)))]) [1, 2, 3, 0] rfl (ih18 _ (N18 ▸ dnm_lt c1_19 (by decide)) σ12 x1 x2 (x3 + (-1)) rfl iσ12 kp h1 hk)
  have kp : Keep [(3, 1), (3, 2), (3, 3), (3, 4), (3, 9)] [18, 19, 20, 21, 22, 23] σ0 σ0 := keep_rf
  refine g_aload_n hF d_X3_binary_0 rfl 0 rfl ?_
  refine g_get (v := .int (σ0 3 9)) hF 9 obC_3 (by decide) m_114 rfl d_X3_binary_1 ?_
  refine g_istore_n hF [(2, .int (σ0 3 9)), (0, .ref (r 3)), (1, .int a1)] d_X3_binary_4 rfl hnn (by decide) rfl ?_
  refine g_aload_n hF d_X3_binary_5 rfl 1 rfl ?_
  refine g_iload_n hF d_X3_binary_6 rfl 2 rfl ?_
  refine g_callV (As := [.int a1]) (rest := []) hF (c_X3_unary a g r k σ0 a1 ih h1 hk i0) (by omega) mV_X3_unary m_939 (recv_ob obC_3) rfl rfl (Nat.le_of_ble_eq_true rfl) d_X3_binary_7 (k_v (fun σ13 ⟨iσ13, ik13⟩ => ?_)) (fun _ _ _ h => h.elim)
  have kp : Keep [(3, 1), (3, 2), (3, 3), (3, 4), (3, 9)] [18, 19, 20, 21, 22, 23] σ0 σ13 := keep_c kp ik13 (by decide) (by decide)
  refine g_aload_n hF d_X3_binary_10 rfl 1 rfl ?_
  refine g_get (v := .ref (r 2)) hF 0 obC_3 (by decide) m_94 rfl d_X3_binary_11 ?_
  refine g_getN (v := .int (σ13 2 4)) hF 4 obC_2 (by decide) nm_47 rfl d_X3_binary_14 ?_
  refine g_top (v := (σ0 2 4)) (ik13 2 4 rfl rfl rfl) ?_
  refine g_istore_n hF [(3, .int (σ0 2 4)), (2, .int (σ0 3 9)), (0, .ref (r 3)), (1, .int a1)] d_X3_binary_17 rfl hnn (by decide) rfl ?_
  exact g_sub (L' := [(0, .ref (r 3)), (1, .int a1), (2, .int (σ0 3 9)), (3, .int (σ0 2 4))]) [2, 3, 1, 0] rfl (b18 _ σ13 a1 (σ0 3 9) (σ0 2 4) rfl iσ13 kp h1 hk)
set_option maxHeartbeats 4000000 in
set_option maxRecDepth 100000 in
theorem c_X3_choice (a : Nat → Nat) (g : Nat → Nat → Int32) (r : Nat → Nat) (k : Nat) (σ0 : St) (a1 : Int32) (ih : 2 ≤ k → RX a g r (k - 1)) (h1 : 1 ≤ a1.toInt) (hk : a1.toInt + (k : Int) = 26) (i0 : Inv σ0) (l : Launch) (D : va_G) (cy : Nat → ClassId) : Ct l D cy SC r (EC a g) y_X3_choice (Cond.code y_X3_choice b_X3_choice 3 none) (14 * k + 7) [.ref (r 3), .int a1] σ0 Z0 [] (QV (fun σ9 => (Inv σ9 ∧ Keep [(3, 1), (3, 2), (3, 3), (3, 4), (3, 9)] [18, 19, 20, 21, 22, 23] σ0 σ9))) QF := by
  refine Ct_of (EC_ok a g) (by decide) (Nat.le_of_ble_eq_true rfl) (by decide) (fun X hnn hF => ?_)
  show G SC r X σ0 Z0 [] [(0, .ref (r 3)), (1, .int a1)] [] 0
  have kp : Keep [(3, 1), (3, 2), (3, 3), (3, 4), (3, 9)] [18, 19, 20, 21, 22, 23] σ0 σ0 := keep_rf
  refine g_aload_n hF d_X3_choice_0 rfl 0 rfl ?_
  refine g_iload_n hF d_X3_choice_1 rfl 1 rfl ?_
  refine g_callV (As := [.int a1]) (rest := []) hF (c_X3_binary a g r k σ0 a1 ih h1 hk i0) (by omega) mV_X3_binary m_935 (recv_ob obC_3) rfl rfl (Nat.le_of_ble_eq_true rfl) d_X3_choice_2 (k_v (fun σ1 ⟨iσ1, ik1⟩ => ?_)) (fun _ _ _ h => h.elim)
  have kp : Keep [(3, 1), (3, 2), (3, 3), (3, 4), (3, 9)] [18, 19, 20, 21, 22, 23] σ0 σ1 := keep_c kp ik1 (by decide) (by decide)
  refine g_aload_n hF d_X3_choice_5 rfl 0 rfl ?_
  refine g_get (v := .int (σ1 3 1)) hF 1 obC_3 (by decide) m_95 rfl d_X3_choice_6 ?_
  refine g_istore_n hF [(2, .int (σ1 3 1)), (0, .ref (r 3)), (1, .int a1)] d_X3_choice_9 rfl hnn (by decide) rfl ?_
  refine g_aload_n hF d_X3_choice_10 rfl 1 rfl ?_
  refine g_get (v := .int (σ1 3 2)) hF 2 obC_3 (by decide) m_96 rfl d_X3_choice_11 ?_
  refine g_bipush hF (v := 28) d_X3_choice_14 (by decide) ?_
  refine g_icmp_ne (yv := 28) hF 77 d_X3_choice_16 (by decide) rfl (by decide) (fun c2_16 => ?_) (fun c2_16 => ?_)
  · -- taken at 16
    exact g_vret hF rfl d_X3_choice_77 ⟨rfl, rfl, rfl, ⟨iσ1, kp⟩⟩
  · -- not taken at 16
    refine g_aload_n hF d_X3_choice_19 rfl 1 rfl ?_
    refine g_iload_n hF d_X3_choice_20 rfl 2 rfl ?_
    refine g_callV (As := [.int a1]) (rest := []) hF (c_X3_deeper a g r σ1 a1 iσ1) (Nat.le_of_ble_eq_true rfl) mV_X3_deeper m_943 (recv_ob obC_3) rfl rfl (Nat.le_of_ble_eq_true rfl) d_X3_choice_21 (k_i (fun r3 σ3 ⟨hz3, hp3, iσ3, ik3⟩ => ?_)) (fun _ _ _ h => h.elim)
    have kp : Keep [(3, 1), (3, 2), (3, 3), (3, 4), (3, 9)] [18, 19, 20, 21, 22, 23] σ0 σ3 := keep_c kp ik3 (by decide) (by decide)
    refine g_if_eq hF 77 d_X3_choice_24 (by decide) rfl (fun c4_24 => ?_) (fun c4_24 => ?_)
    · -- taken at 24
      exact g_vret hF rfl d_X3_choice_77 ⟨rfl, rfl, rfl, ⟨iσ3, kp⟩⟩
    · -- not taken at 24
      refine g_aload_n hF d_X3_choice_27 rfl 1 rfl ?_
      refine g_bipush hF (v := 14) d_X3_choice_28 (by decide) ?_
      refine g_iload_n hF d_X3_choice_30 rfl 0 rfl ?_
      refine g_iconst hF (v := 0) d_X3_choice_31 (by decide) ?_
      refine g_iconst hF (v := 0) d_X3_choice_32 (by decide) ?_
      refine g_callV (As := [.int 14, .int (σ1 3 1), .int 0, .int 0]) (rest := []) hF (c_X3_add a g r σ3 (14 : Int32) (σ1 3 1) (0 : Int32) (0 : Int32) iσ3) (Nat.le_of_ble_eq_true rfl) mV_X3_add m_923 (recv_ob obC_3) rfl rfl (Nat.le_of_ble_eq_true rfl) d_X3_choice_33 (k_i (fun r5 σ5 ⟨iσ5, ik5⟩ => ?_)) (fun _ _ _ h => h.elim)
      have kp : Keep [(3, 1), (3, 2), (3, 3), (3, 4), (3, 9)] [18, 19, 20, 21, 22, 23] σ0 σ5 := keep_c kp ik5 (by decide) (by decide)
      refine g_pop hF d_X3_choice_36 rfl ?_
      refine g_aload_n hF d_X3_choice_37 rfl 1 rfl ?_
      refine g_iload_n hF d_X3_choice_38 rfl 2 rfl ?_
      refine g_iconst hF (v := 1) d_X3_choice_39 (by decide) ?_
      refine g_iadd hF d_X3_choice_40 ?_
      refine g_callV (As := [.int (a1 + 1)]) (rest := []) hF (((ih (by have e0 := s_rng a1; have e1 : (1 : Int32).toInt = 1 := (by decide); obtain ⟨k2, e2⟩ := s_add a1 (1 : Int32); have e2a := s_rng (a1 + 1); have e4 := s_rng r3; have e5 : (0 : Int32).toInt = 0 := (by decide); omega)) σ5 (a1 + 1) (by have e0 := s_rng a1; have e1 : (1 : Int32).toInt = 1 := (by decide); obtain ⟨k2, e2⟩ := s_add a1 (1 : Int32); have e2a := s_rng (a1 + 1); have e4 := s_rng r3; have e5 : (0 : Int32).toInt = 0 := (by decide); omega) (by have e0 := s_rng a1; have e1 : (1 : Int32).toInt = 1 := (by decide); obtain ⟨k2, e2⟩ := s_add a1 (1 : Int32); have e2a := s_rng (a1 + 1); have e4 := s_rng r3; have e5 : (0 : Int32).toInt = 0 := (by decide); omega) iσ5).1) (by have : 2 ≤ k := (by have e0 := s_rng a1; have e1 : (1 : Int32).toInt = 1 := (by decide); obtain ⟨k2, e2⟩ := s_add a1 (1 : Int32); have e2a := s_rng (a1 + 1); have e4 := s_rng r3; have e5 : (0 : Int32).toInt = 0 := (by decide); omega); omega) mV_X3_expression m_927 (recv_ob obC_3) rfl rfl (Nat.le_of_ble_eq_true rfl) d_X3_choice_41 (k_v (fun σ6 ⟨iσ6, ik6⟩ => ?_)) (fun _ _ _ h => h.elim)
      have kp : Keep [(3, 1), (3, 2), (3, 3), (3, 4), (3, 9)] [18, 19, 20, 21, 22, 23] σ0 σ6 := keep_c kp ik6 (by decide) (by decide)
      refine g_aload_n hF d_X3_choice_44 rfl 1 rfl ?_
      refine g_bipush hF (v := 29) d_X3_choice_45 (by decide) ?_
      refine g_callV (As := [.int 29]) (rest := []) hF (c_X3_expect a g r σ6 (29 : Int32) iσ6) (Nat.le_of_ble_eq_true rfl) mV_X3_expect m_903 (recv_ob obC_3) rfl rfl (Nat.le_of_ble_eq_true rfl) d_X3_choice_47 (k_v (fun σ7 ⟨iσ7, ik7⟩ => ?_)) (fun _ _ _ h => h.elim)
      have kp : Keep [(3, 1), (3, 2), (3, 3), (3, 4), (3, 9)] [18, 19, 20, 21, 22, 23] σ0 σ7 := keep_c kp ik7 (by decide) (by decide)
      refine g_aload_n hF d_X3_choice_50 rfl 1 rfl ?_
      refine g_bipush hF (v := 15) d_X3_choice_51 (by decide) ?_
      refine g_iload_n hF d_X3_choice_53 rfl 0 rfl ?_
      refine g_iconst hF (v := 0) d_X3_choice_54 (by decide) ?_
      refine g_iconst hF (v := 0) d_X3_choice_55 (by decide) ?_
      refine g_callV (As := [.int 15, .int (σ1 3 1), .int 0, .int 0]) (rest := []) hF (c_X3_add a g r σ7 (15 : Int32) (σ1 3 1) (0 : Int32) (0 : Int32) iσ7) (Nat.le_of_ble_eq_true rfl) mV_X3_add m_923 (recv_ob obC_3) rfl rfl (Nat.le_of_ble_eq_true rfl) d_X3_choice_56 (k_i (fun r8 σ8 ⟨iσ8, ik8⟩ => ?_)) (fun _ _ _ h => h.elim)
      have kp : Keep [(3, 1), (3, 2), (3, 3), (3, 4), (3, 9)] [18, 19, 20, 21, 22, 23] σ0 σ8 := keep_c kp ik8 (by decide) (by decide)
      refine g_pop hF d_X3_choice_59 rfl ?_
      refine g_aload_n hF d_X3_choice_60 rfl 1 rfl ?_
      refine g_iload_n hF d_X3_choice_61 rfl 2 rfl ?_
      refine g_iconst hF (v := 1) d_X3_choice_62 (by decide) ?_
      refine g_iadd hF d_X3_choice_63 ?_
      refine g_callV (As := [.int (a1 + 1)]) (rest := []) hF (((ih (by have e0 := s_rng a1; have e1 : (1 : Int32).toInt = 1 := (by decide); obtain ⟨k2, e2⟩ := s_add a1 (1 : Int32); have e2a := s_rng (a1 + 1); have e4 := s_rng r3; have e5 : (0 : Int32).toInt = 0 := (by decide); omega)) σ8 (a1 + 1) (by have e0 := s_rng a1; have e1 : (1 : Int32).toInt = 1 := (by decide); obtain ⟨k2, e2⟩ := s_add a1 (1 : Int32); have e2a := s_rng (a1 + 1); have e4 := s_rng r3; have e5 : (0 : Int32).toInt = 0 := (by decide); omega) (by have e0 := s_rng a1; have e1 : (1 : Int32).toInt = 1 := (by decide); obtain ⟨k2, e2⟩ := s_add a1 (1 : Int32); have e2a := s_rng (a1 + 1); have e4 := s_rng r3; have e5 : (0 : Int32).toInt = 0 := (by decide); omega) iσ8).2.1) (by have : 2 ≤ k := (by have e0 := s_rng a1; have e1 : (1 : Int32).toInt = 1 := (by decide); obtain ⟨k2, e2⟩ := s_add a1 (1 : Int32); have e2a := s_rng (a1 + 1); have e4 := s_rng r3; have e5 : (0 : Int32).toInt = 0 := (by decide); omega); omega) mV_X3_choice m_931 (recv_ob obC_3) rfl rfl (Nat.le_of_ble_eq_true rfl) d_X3_choice_64 (k_v (fun σ9 ⟨iσ9, ik9⟩ => ?_)) (fun _ _ _ h => h.elim)
      have kp : Keep [(3, 1), (3, 2), (3, 3), (3, 4), (3, 9)] [18, 19, 20, 21, 22, 23] σ0 σ9 := keep_c kp ik9 (by decide) (by decide)
      refine g_aload_n hF d_X3_choice_67 rfl 1 rfl ?_
      refine g_bipush hF (v := 16) d_X3_choice_68 (by decide) ?_
      refine g_iload_n hF d_X3_choice_70 rfl 0 rfl ?_
      refine g_iconst hF (v := 0) d_X3_choice_71 (by decide) ?_
      refine g_iconst hF (v := 0) d_X3_choice_72 (by decide) ?_
      refine g_callV (As := [.int 16, .int (σ1 3 1), .int 0, .int 0]) (rest := []) hF (c_X3_add a g r σ9 (16 : Int32) (σ1 3 1) (0 : Int32) (0 : Int32) iσ9) (Nat.le_of_ble_eq_true rfl) mV_X3_add m_923 (recv_ob obC_3) rfl rfl (Nat.le_of_ble_eq_true rfl) d_X3_choice_73 (k_i (fun r10 σ10 ⟨iσ10, ik10⟩ => ?_)) (fun _ _ _ h => h.elim)
      have kp : Keep [(3, 1), (3, 2), (3, 3), (3, 4), (3, 9)] [18, 19, 20, 21, 22, 23] σ0 σ10 := keep_c kp ik10 (by decide) (by decide)
      refine g_pop hF d_X3_choice_76 rfl ?_
      exact g_vret hF rfl d_X3_choice_77 ⟨rfl, rfl, rfl, ⟨iσ10, kp⟩⟩
