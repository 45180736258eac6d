set_option maxHeartbeats 4000000 in
set_option maxRecDepth 100000 in
theorem c_X3_unary (a : Nat → Nat) (g : Nat → Nat → Int32) (r : Nat → Nat) (k : Nat) (σ0 : St) (a1 : Int32) (ih : 2 ≤ k → RX a g r (k - 1)) (h1 : 1 ≤ a1.toInt) (hk : a1.toInt + (k : Int) = 26) (hgp : GPS σ0) (i0 : Inv σ0) (l : Launch) (D : va_G) (cy : Nat → ClassId) : Ct l D cy SC r (EC a g) y_X3_unary (Cond.code y_X3_unary b_X3_unary 3 none) (14 * k + 5) [.ref (r 3), .int a1] σ0 Z0 [] (QV (fun σ9 => ((GPS σ9 ∧ Mo σ9 σ0) ∧ (Inv σ9 ∧ Keep [(3, 1), (3, 2), (3, 3), (3, 4), (3, 9)] [18, 19, 20, 21, 22, 23] σ0 σ9)))) QF := by
  refine Ct_of (EC_ok a g) (by decide) (Nat.le_of_ble_eq_true rfl) (by decide) (fun X hnn hF => ?_)
  show G SC r X σ0 Z0 [] [(0, .ref (r 3)), (1, .int a1)] [] 0
  have b162 : ∀ (σ : St) (x1 : Int32) (x2 : Int32) , Inv σ → Keep [(3, 1), (3, 2), (3, 3), (3, 4), (3, 9)] [18, 19, 20, 21, 22, 23] σ0 σ → GPS σ → Mo σ σ0 → 1 ≤ x1.toInt → x1.toInt + (k : Int) = 26 → G SC r X σ Z0 [] [(0, .ref (r 3)), (1, .int x1), (2, .int x2)] [] 162 := by
    intro σ x1 x2 inv kp hgp hgm h1 hk
    refine g_aload_n hF d_X3_unary_162 rfl 0 rfl ?_
    refine g_iload_n hF d_X3_unary_163 rfl 1 rfl ?_
    refine g_callV (As := [.int x1]) (rest := []) hF (c_X3_behind a g r k σ x1 ih h1 hk hgp inv) (by omega) mV_X3_behind m_954 (recv_ob obC_3) rfl rfl (Nat.le_of_ble_eq_true rfl) d_X3_unary_164 (k_v (fun σ1 ⟨⟨hgp1, hgm1⟩, iσ1, ik1⟩ => ?_)) (fun _ _ _ h => h.elim)
    have hmo1 : Mo σ1 σ := fun h9 => mo_e (show σ 3 3 = σ 3 3 from rfl) (hgm1 h9)
    have kp : Keep [(3, 1), (3, 2), (3, 3), (3, 4), (3, 9)] [18, 19, 20, 21, 22, 23] σ0 σ1 := keep_c kp ik1 (by decide) (by decide)
    exact g_vret hF rfl d_X3_unary_167 ⟨rfl, rfl, rfl, ⟨⟨hgp1, (fun h9 => (hgm (hmo1 (mo_e (show σ1 3 3 = σ1 3 3 from rfl) h9))))⟩, iσ1, kp⟩⟩
  have kp : Keep [(3, 1), (3, 2), (3, 3), (3, 4), (3, 9)] [18, 19, 20, 21, 22, 23] σ0 σ0 := keep_rf
  refine g_aload_n hF d_X3_unary_0 rfl 0 rfl ?_
  refine g_get (v := .int (σ0 3 1)) hF 1 obC_3 (by decide) m_95 rfl d_X3_unary_1 ?_
  refine g_istore_n hF [(2, .int (σ0 3 1)), (0, .ref (r 3)), (1, .int a1)] d_X3_unary_4 rfl hnn (by decide) rfl ?_
  refine g_aload_n hF d_X3_unary_5 rfl 1 rfl ?_
  refine g_get (v := .int (σ0 3 2)) hF 2 obC_3 (by decide) m_96 rfl d_X3_unary_6 ?_
  refine (Decidable.em ((σ0 3 2).toInt = 44)).elim (fun q2_9_0 => ?_) (fun q2_9_0 => ?_)
  · refine g_tableIn (off := 91) hF 100 d_X3_unary_9 q2_9_0 (by decide) (by decide) (by decide +kernel) (by decide) ?_
    refine g_aload_n hF d_X3_unary_100 rfl 1 rfl ?_
    refine g_iload_n hF d_X3_unary_101 rfl 2 rfl ?_
    refine g_callV (As := [.int a1]) (rest := []) hF (c_X3_deeper a g r σ0 a1 hgp (by show ¬ ((σ0 3 2).toInt = 0 ∨ (σ0 3 2).toInt = -1); have e0 := s_rng a1; have e1 := s_rng (σ0 3 2); have e2 : (1 : Int32).toInt = 1 := (by decide); have e3 : (44 : Int32).toInt = 44 := (by decide); omega) i0) (Nat.le_of_ble_eq_true rfl) mV_X3_deeper m_943 (recv_ob obC_3) rfl rfl (Nat.le_of_ble_eq_true rfl) d_X3_unary_102 (k_i (fun r3 σ3 ⟨hz3, hp3, ⟨hgp3, hgm3⟩, iσ3, ik3⟩ => ?_)) (fun _ _ _ h => h.elim)
    have hmo3 : Mo σ3 σ0 := fun h9 => mo_e (show σ0 3 3 = σ0 3 3 from rfl) (hgm3 h9)
    have kp : Keep [(3, 1), (3, 2), (3, 3), (3, 4), (3, 9)] [18, 19, 20, 21, 22, 23] σ0 σ3 := keep_c kp ik3 (by decide) (by decide)
    refine g_if_eq hF 167 d_X3_unary_105 (by decide) rfl (fun c4_105 => ?_) (fun c4_105 => ?_)
    · -- taken at 105
      exact g_vret hF rfl d_X3_unary_167 ⟨rfl, rfl, rfl, ⟨⟨hgp3, (fun h9 => (hmo3 (mo_e (show σ3 3 3 = σ3 3 3 from rfl) h9)))⟩, iσ3, kp⟩⟩
    · -- not taken at 105
      refine g_aload_n hF d_X3_unary_108 rfl 1 rfl ?_
      refine g_iload_n hF d_X3_unary_109 rfl 2 rfl ?_
      refine g_iconst hF (v := 1) d_X3_unary_110 (by decide) ?_
      refine g_iadd hF d_X3_unary_111 ?_
      refine g_callV (As := [.int (a1 + 1)]) (rest := []) hF (((ih (by have e0 := s_rng a1; have e1 : (1 : Int32).toInt = 1 := (by decide); obtain ⟨k2, e2⟩ := s_add a1 (1 : Int32); have e2a := s_rng (a1 + 1); have e4 := s_rng r3; have e5 : (0 : Int32).toInt = 0 := (by decide); omega)) σ3 (a1 + 1) (by have e0 := s_rng a1; have e1 : (1 : Int32).toInt = 1 := (by decide); obtain ⟨k2, e2⟩ := s_add a1 (1 : Int32); have e2a := s_rng (a1 + 1); have e4 := s_rng r3; have e5 : (0 : Int32).toInt = 0 := (by decide); omega) (by have e0 := s_rng a1; have e1 : (1 : Int32).toInt = 1 := (by decide); obtain ⟨k2, e2⟩ := s_add a1 (1 : Int32); have e2a := s_rng (a1 + 1); have e4 := s_rng r3; have e5 : (0 : Int32).toInt = 0 := (by decide); omega) iσ3 hgp3).2.2) (by have : 2 ≤ k := (by have e0 := s_rng a1; have e1 : (1 : Int32).toInt = 1 := (by decide); obtain ⟨k2, e2⟩ := s_add a1 (1 : Int32); have e2a := s_rng (a1 + 1); have e4 := s_rng r3; have e5 : (0 : Int32).toInt = 0 := (by decide); omega); omega) mV_X3_unary m_939 (recv_ob obC_3) rfl rfl (Nat.le_of_ble_eq_true rfl) d_X3_unary_112 (k_v (fun σ5 ⟨⟨hgp5, hgm5⟩, iσ5, ik5⟩ => ?_)) (fun _ _ _ h => h.elim)
      have hmo5 : Mo σ5 σ3 := fun h9 => mo_e (show σ3 3 3 = σ3 3 3 from rfl) (hgm5 h9)
      have kp : Keep [(3, 1), (3, 2), (3, 3), (3, 4), (3, 9)] [18, 19, 20, 21, 22, 23] σ0 σ5 := keep_c kp ik5 (by decide) (by decide)
      refine g_aload_n hF d_X3_unary_115 rfl 1 rfl ?_
      refine g_bipush hF (v := 11) d_X3_unary_116 (by decide) ?_
      refine g_iload_n hF d_X3_unary_118 rfl 0 rfl ?_
      refine g_iconst hF (v := 0) d_X3_unary_119 (by decide) ?_
      refine g_iconst hF (v := 0) d_X3_unary_120 (by decide) ?_
      refine g_callV (As := [.int 11, .int (σ0 3 1), .int 0, .int 0]) (rest := []) hF (c_X3_add a g r σ5 (11 : Int32) (σ0 3 1) (0 : Int32) (0 : Int32) (fun h9 => absurd h9 (by decide)) hgp5 iσ5) (Nat.le_of_ble_eq_true rfl) mV_X3_add m_923 (recv_ob obC_3) rfl rfl (Nat.le_of_ble_eq_true rfl) d_X3_unary_121 (k_i (fun r6 σ6 ⟨⟨hgp6, hgm6⟩, iσ6, ik6⟩ => ?_)) (fun _ _ _ h => h.elim)
      have hmo6 : Mo σ6 σ5 := fun h9 => mo_e (show σ5 3 3 = σ5 3 3 from rfl) (hgm6 h9)
      have kp : Keep [(3, 1), (3, 2), (3, 3), (3, 4), (3, 9)] [18, 19, 20, 21, 22, 23] σ0 σ6 := keep_c kp ik6 (by decide) (by decide)
      refine g_pop hF d_X3_unary_124 rfl ?_
      refine g_goto hF 167 d_X3_unary_125 (by decide) ?_
      exact g_vret hF rfl d_X3_unary_167 ⟨rfl, rfl, rfl, ⟨⟨hgp6, (fun h9 => (hmo3 (hmo5 (mo_e (show σ6 3 3 = σ5 3 3 from (ik6 3 3 rfl rfl rfl)) h9))))⟩, iσ6, kp⟩⟩
  refine (Decidable.em ((σ0 3 2).toInt = 45)).elim (fun q7_9_1 => ?_) (fun q7_9_1 => ?_)
  · refine g_tableIn (off := 91) hF 100 d_X3_unary_9 q7_9_1 (by decide) (by decide) (by decide +kernel) (by decide) ?_
    refine g_aload_n hF d_X3_unary_100 rfl 1 rfl ?_
    refine g_iload_n hF d_X3_unary_101 rfl 2 rfl ?_
    refine g_callV (As := [.int a1]) (rest := []) hF (c_X3_deeper a g r σ0 a1 hgp (by show ¬ ((σ0 3 2).toInt = 0 ∨ (σ0 3 2).toInt = -1); have e0 := s_rng a1; have e1 := s_rng (σ0 3 2); have e2 : (1 : Int32).toInt = 1 := (by decide); have e3 : (45 : Int32).toInt = 45 := (by decide); omega) i0) (Nat.le_of_ble_eq_true rfl) mV_X3_deeper m_943 (recv_ob obC_3) rfl rfl (Nat.le_of_ble_eq_true rfl) d_X3_unary_102 (k_i (fun r8 σ8 ⟨hz8, hp8, ⟨hgp8, hgm8⟩, iσ8, ik8⟩ => ?_)) (fun _ _ _ h => h.elim)
    have hmo8 : Mo σ8 σ0 := fun h9 => mo_e (show σ0 3 3 = σ0 3 3 from rfl) (hgm8 h9)
    have kp : Keep [(3, 1), (3, 2), (3, 3), (3, 4), (3, 9)] [18, 19, 20, 21, 22, 23] σ0 σ8 := keep_c kp ik8 (by decide) (by decide)
    refine g_if_eq hF 167 d_X3_unary_105 (by decide) rfl (fun c9_105 => ?_) (fun c9_105 => ?_)
    · -- taken at 105
      exact g_vret hF rfl d_X3_unary_167 ⟨rfl, rfl, rfl, ⟨⟨hgp8, (fun h9 => (hmo8 (mo_e (show σ8 3 3 = σ8 3 3 from rfl) h9)))⟩, iσ8, kp⟩⟩
    · -- not taken at 105
      refine g_aload_n hF d_X3_unary_108 rfl 1 rfl ?_
      refine g_iload_n hF d_X3_unary_109 rfl 2 rfl ?_
      refine g_iconst hF (v := 1) d_X3_unary_110 (by decide) ?_
      refine g_iadd hF d_X3_unary_111 ?_
      refine g_callV (As := [.int (a1 + 1)]) (rest := []) hF (((ih (by have e0 := s_rng a1; have e1 : (1 : Int32).toInt = 1 := (by decide); obtain ⟨k2, e2⟩ := s_add a1 (1 : Int32); have e2a := s_rng (a1 + 1); have e4 := s_rng r8; have e5 : (0 : Int32).toInt = 0 := (by decide); omega)) σ8 (a1 + 1) (by have e0 := s_rng a1; have e1 : (1 : Int32).toInt = 1 := (by decide); obtain ⟨k2, e2⟩ := s_add a1 (1 : Int32); have e2a := s_rng (a1 + 1); have e4 := s_rng r8; have e5 : (0 : Int32).toInt = 0 := (by decide); omega) (by have e0 := s_rng a1; have e1 : (1 : Int32).toInt = 1 := (by decide); obtain ⟨k2, e2⟩ := s_add a1 (1 : Int32); have e2a := s_rng (a1 + 1); have e4 := s_rng r8; have e5 : (0 : Int32).toInt = 0 := (by decide); omega) iσ8 hgp8).2.2) (by have : 2 ≤ k := (by have e0 := s_rng a1; have e1 : (1 : Int32).toInt = 1 := (by decide); obtain ⟨k2, e2⟩ := s_add a1 (1 : Int32); have e2a := s_rng (a1 + 1); have e4 := s_rng r8; have e5 : (0 : Int32).toInt = 0 := (by decide); omega); omega) mV_X3_unary m_939 (recv_ob obC_3) rfl rfl (Nat.le_of_ble_eq_true rfl) d_X3_unary_112 (k_v (fun σ10 ⟨⟨hgp10, hgm10⟩, iσ10, ik10⟩ => ?_)) (fun _ _ _ h => h.elim)
      have hmo10 : Mo σ10 σ8 := fun h9 => mo_e (show σ8 3 3 = σ8 3 3 from rfl) (hgm10 h9)
      have kp : Keep [(3, 1), (3, 2), (3, 3), (3, 4), (3, 9)] [18, 19, 20, 21, 22, 23] σ0 σ10 := keep_c kp ik10 (by decide) (by decide)
      refine g_aload_n hF d_X3_unary_115 rfl 1 rfl ?_
      refine g_bipush hF (v := 11) d_X3_unary_116 (by decide) ?_
      refine g_iload_n hF d_X3_unary_118 rfl 0 rfl ?_
      refine g_iconst hF (v := 0) d_X3_unary_119 (by decide) ?_
      refine g_iconst hF (v := 0) d_X3_unary_120 (by decide) ?_
      refine g_callV (As := [.int 11, .int (σ0 3 1), .int 0, .int 0]) (rest := []) hF (c_X3_add a g r σ10 (11 : Int32) (σ0 3 1) (0 : Int32) (0 : Int32) (fun h9 => absurd h9 (by decide)) hgp10 iσ10) (Nat.le_of_ble_eq_true rfl) mV_X3_add m_923 (recv_ob obC_3) rfl rfl (Nat.le_of_ble_eq_true rfl) d_X3_unary_121 (k_i (fun r11 σ11 ⟨⟨hgp11, hgm11⟩, iσ11, ik11⟩ => ?_)) (fun _ _ _ h => h.elim)
      have hmo11 : Mo σ11 σ10 := fun h9 => mo_e (show σ10 3 3 = σ10 3 3 from rfl) (hgm11 h9)
      have kp : Keep [(3, 1), (3, 2), (3, 3), (3, 4), (3, 9)] [18, 19, 20, 21, 22, 23] σ0 σ11 := keep_c kp ik11 (by decide) (by decide)
      refine g_pop hF d_X3_unary_124 rfl ?_
      refine g_goto hF 167 d_X3_unary_125 (by decide) ?_
      exact g_vret hF rfl d_X3_unary_167 ⟨rfl, rfl, rfl, ⟨⟨hgp11, (fun h9 => (hmo8 (hmo10 (mo_e (show σ11 3 3 = σ10 3 3 from (ik11 3 3 rfl rfl rfl)) h9))))⟩, iσ11, kp⟩⟩
  refine (Decidable.em ((σ0 3 2).toInt = 46)).elim (fun q12_9_2 => ?_) (fun q12_9_2 => ?_)
  · refine g_tableIn (off := 119) hF 128 d_X3_unary_9 q12_9_2 (by decide) (by decide) (by decide +kernel) (by decide) ?_
    refine g_aload_n hF d_X3_unary_128 rfl 1 rfl ?_
    refine g_get (v := .int (σ0 3 2)) hF 2 obC_3 (by decide) m_96 rfl d_X3_unary_129 ?_
    refine g_bipush hF (v := 20) d_X3_unary_132 (by decide) ?_
    refine g_icmp_ne (yv := 20) hF 162 d_X3_unary_134 (by decide) rfl (by decide) (fun c13_134 => ?_) (fun c13_134 => ?_)
    · -- taken at 134
      exact g_sub (L' := [(0, .ref (r 3)), (1, .int a1), (2, .int (σ0 3 1))]) [1, 2, 0] rfl (b162 σ0 a1 (σ0 3 1) i0 kp hgp (fun h9 => (mo_e (show σ0 3 3 = σ0 3 3 from rfl) h9)) h1 hk)
    · -- not taken at 134
      refine g_aload_n hF d_X3_unary_137 rfl 1 rfl ?_
      refine g_get (v := .ref (r 2)) hF 0 obC_3 (by decide) m_94 rfl d_X3_unary_138 ?_
      refine g_getN (v := .ref (r 13)) hF 5 obC_2 (by decide) nm_50 rfl d_X3_unary_141 ?_
      refine g_iload_n hF d_X3_unary_144 rfl 0 rfl ?_
      refine g_iconst hF (v := 1) d_X3_unary_145 (by decide) ?_
      refine g_iadd hF d_X3_unary_146 ?_
      refine g_callSN (As := [.ref (r 13), .int ((σ0 3 1) + 1)]) (rest := []) hF (c_at a g r σ0 arC_13 (by decide) ((σ0 3 1) + 1)) (Nat.le_of_ble_eq_true rfl) mS_X12_at nm_947 rfl rfl (Nat.le_of_ble_eq_true rfl) d_X3_unary_147 (k_rop (fun r14 hr14 => ?_))
      refine g_iconst hF (v := 5) d_X3_unary_150 (by decide) ?_
      refine g_icmp_ne (yv := 5) hF 162 d_X3_unary_151 (by decide) rfl (by decide) (fun c15_151 => ?_) (fun c15_151 => ?_)
      · -- taken at 151
        exact g_sub (L' := [(0, .ref (r 3)), (1, .int a1), (2, .int (σ0 3 1))]) [1, 2, 0] rfl (b162 σ0 a1 (σ0 3 1) i0 kp hgp (fun h9 => (mo_e (show σ0 3 3 = σ0 3 3 from rfl) h9)) h1 hk)
      · -- not taken at 151
        refine g_aload_n hF d_X3_unary_154 rfl 1 rfl ?_
        refine g_iload_n hF d_X3_unary_155 rfl 2 rfl ?_
        refine g_callV (As := [.int a1]) (rest := []) hF (c_X3_cast a g r k σ0 a1 ih h1 hk hgp (by show ¬ ((σ0 3 2).toInt = 0 ∨ (σ0 3 2).toInt = -1); have e0 := s_rng a1; have e1 := s_rng (σ0 3 2); have e2 : (1 : Int32).toInt = 1 := (by decide); have e3 : (46 : Int32).toInt = 46 := (by decide); have e4 : (20 : Int32).toInt = 20 := (by decide); omega) i0) (by omega) mV_X3_cast m_950 (recv_ob obC_3) rfl rfl (Nat.le_of_ble_eq_true rfl) d_X3_unary_156 (k_v (fun σ16 ⟨⟨hgp16, hgm16⟩, iσ16, ik16⟩ => ?_)) (fun _ _ _ h => h.elim)
        have hmo16 : Mo σ16 σ0 := fun h9 => mo_e (show σ0 3 3 = σ0 3 3 from rfl) (hgm16 h9)
        have kp : Keep [(3, 1), (3, 2), (3, 3), (3, 4), (3, 9)] [18, 19, 20, 21, 22, 23] σ0 σ16 := keep_c kp ik16 (by decide) (by decide)
        refine g_goto hF 167 d_X3_unary_159 (by decide) ?_
        exact g_vret hF rfl d_X3_unary_167 ⟨rfl, rfl, rfl, ⟨⟨hgp16, (fun h9 => (hmo16 (mo_e (show σ16 3 3 = σ16 3 3 from rfl) h9)))⟩, iσ16, kp⟩⟩
  refine (Decidable.em ((σ0 3 2).toInt = 47)).elim (fun q17_9_3 => ?_) (fun q17_9_3 => ?_)
  · refine g_tableIn (off := 119) hF 128 d_X3_unary_9 q17_9_3 (by decide) (by decide) (by decide +kernel) (by decide) ?_
    refine g_aload_n hF d_X3_unary_128 rfl 1 rfl ?_
    refine g_get (v := .int (σ0 3 2)) hF 2 obC_3 (by decide) m_96 rfl d_X3_unary_129 ?_
    refine g_bipush hF (v := 20) d_X3_unary_132 (by decide) ?_
    refine g_icmp_ne (yv := 20) hF 162 d_X3_unary_134 (by decide) rfl (by decide) (fun c18_134 => ?_) (fun c18_134 => ?_)
    · -- taken at 134
      exact g_sub (L' := [(0, .ref (r 3)), (1, .int a1), (2, .int (σ0 3 1))]) [1, 2, 0] rfl (b162 σ0 a1 (σ0 3 1) i0 kp hgp (fun h9 => (mo_e (show σ0 3 3 = σ0 3 3 from rfl) h9)) h1 hk)
    · -- not taken at 134
      refine g_aload_n hF d_X3_unary_137 rfl 1 rfl ?_
      refine g_get (v := .ref (r 2)) hF 0 obC_3 (by decide) m_94 rfl d_X3_unary_138 ?_
      refine g_getN (v := .ref (r 13)) hF 5 obC_2 (by decide) nm_50 rfl d_X3_unary_141 ?_
      refine g_iload_n hF d_X3_unary_144 rfl 0 rfl ?_
      refine g_iconst hF (v := 1) d_X3_unary_145 (by decide) ?_
      refine g_iadd hF d_X3_unary_146 ?_
      refine g_callSN (As := [.ref (r 13), .int ((σ0 3 1) + 1)]) (rest := []) hF (c_at a g r σ0 arC_13 (by decide) ((σ0 3 1) + 1)) (Nat.le_of_ble_eq_true rfl) mS_X12_at nm_947 rfl rfl (Nat.le_of_ble_eq_true rfl) d_X3_unary_147 (k_rop (fun r19 hr19 => ?_))
      refine g_iconst hF (v := 5) d_X3_unary_150 (by decide) ?_
      refine g_icmp_ne (yv := 5) hF 162 d_X3_unary_151 (by decide) rfl (by decide) (fun c20_151 => ?_) (fun c20_151 => ?_)
      · -- taken at 151
        exact g_sub (L' := [(0, .ref (r 3)), (1, .int a1), (2, .int (σ0 3 1))]) [1, 2, 0] rfl (b162 σ0 a1 (σ0 3 1) i0 kp hgp (fun h9 => (mo_e (show σ0 3 3 = σ0 3 3 from rfl) h9)) h1 hk)
      · -- not taken at 151
        refine g_aload_n hF d_X3_unary_154 rfl 1 rfl ?_
        refine g_iload_n hF d_X3_unary_155 rfl 2 rfl ?_
        refine g_callV (As := [.int a1]) (rest := []) hF (c_X3_cast a g r k σ0 a1 ih h1 hk hgp (by show ¬ ((σ0 3 2).toInt = 0 ∨ (σ0 3 2).toInt = -1); have e0 := s_rng a1; have e1 := s_rng (σ0 3 2); have e2 : (1 : Int32).toInt = 1 := (by decide); have e3 : (47 : Int32).toInt = 47 := (by decide); have e4 : (20 : Int32).toInt = 20 := (by decide); omega) i0) (by omega) mV_X3_cast m_950 (recv_ob obC_3) rfl rfl (Nat.le_of_ble_eq_true rfl) d_X3_unary_156 (k_v (fun σ21 ⟨⟨hgp21, hgm21⟩, iσ21, ik21⟩ => ?_)) (fun _ _ _ h => h.elim)
        have hmo21 : Mo σ21 σ0 := fun h9 => mo_e (show σ0 3 3 = σ0 3 3 from rfl) (hgm21 h9)
        have kp : Keep [(3, 1), (3, 2), (3, 3), (3, 4), (3, 9)] [18, 19, 20, 21, 22, 23] σ0 σ21 := keep_c kp ik21 (by decide) (by decide)
        refine g_goto hF 167 d_X3_unary_159 (by decide) ?_
        exact g_vret hF rfl d_X3_unary_167 ⟨rfl, rfl, rfl, ⟨⟨hgp21, (fun h9 => (hmo21 (mo_e (show σ21 3 3 = σ21 3 3 from rfl) h9)))⟩, iσ21, kp⟩⟩
  refine (Decidable.em ((σ0 3 2).toInt = 48)).elim (fun q22_9_4 => ?_) (fun q22_9_4 => ?_)
  · refine g_tableIn (off := 91) hF 100 d_X3_unary_9 q22_9_4 (by decide) (by decide) (by decide +kernel) (by decide) ?_
    refine g_aload_n hF d_X3_unary_100 rfl 1 rfl ?_
    refine g_iload_n hF d_X3_unary_101 rfl 2 rfl ?_
    refine g_callV (As := [.int a1]) (rest := []) hF (c_X3_deeper a g r σ0 a1 hgp (by show ¬ ((σ0 3 2).toInt = 0 ∨ (σ0 3 2).toInt = -1); have e0 := s_rng a1; have e1 := s_rng (σ0 3 2); have e2 : (1 : Int32).toInt = 1 := (by decide); have e3 : (48 : Int32).toInt = 48 := (by decide); omega) i0) (Nat.le_of_ble_eq_true rfl) mV_X3_deeper m_943 (recv_ob obC_3) rfl rfl (Nat.le_of_ble_eq_true rfl) d_X3_unary_102 (k_i (fun r23 σ23 ⟨hz23, hp23, ⟨hgp23, hgm23⟩, iσ23, ik23⟩ => ?_)) (fun _ _ _ h => h.elim)
    have hmo23 : Mo σ23 σ0 := fun h9 => mo_e (show σ0 3 3 = σ0 3 3 from rfl) (hgm23 h9)
    have kp : Keep [(3, 1), (3, 2), (3, 3), (3, 4), (3, 9)] [18, 19, 20, 21, 22, 23] σ0 σ23 := keep_c kp ik23 (by decide) (by decide)
    refine g_if_eq hF 167 d_X3_unary_105 (by decide) rfl (fun c24_105 => ?_) (fun c24_105 => ?_)
    · -- taken at 105
      exact g_vret hF rfl d_X3_unary_167 ⟨rfl, rfl, rfl, ⟨⟨hgp23, (fun h9 => (hmo23 (mo_e (show σ23 3 3 = σ23 3 3 from rfl) h9)))⟩, iσ23, kp⟩⟩
    · -- not taken at 105
      refine g_aload_n hF d_X3_unary_108 rfl 1 rfl ?_
      refine g_iload_n hF d_X3_unary_109 rfl 2 rfl ?_
      refine g_iconst hF (v := 1) d_X3_unary_110 (by decide) ?_
      refine g_iadd hF d_X3_unary_111 ?_
      refine g_callV (As := [.int (a1 + 1)]) (rest := []) hF (((ih (by have e0 := s_rng a1; have e1 : (1 : Int32).toInt = 1 := (by decide); obtain ⟨k2, e2⟩ := s_add a1 (1 : Int32); have e2a := s_rng (a1 + 1); have e4 := s_rng r23; have e5 : (0 : Int32).toInt = 0 := (by decide); omega)) σ23 (a1 + 1) (by have e0 := s_rng a1; have e1 : (1 : Int32).toInt = 1 := (by decide); obtain ⟨k2, e2⟩ := s_add a1 (1 : Int32); have e2a := s_rng (a1 + 1); have e4 := s_rng r23; have e5 : (0 : Int32).toInt = 0 := (by decide); omega) (by have e0 := s_rng a1; have e1 : (1 : Int32).toInt = 1 := (by decide); obtain ⟨k2, e2⟩ := s_add a1 (1 : Int32); have e2a := s_rng (a1 + 1); have e4 := s_rng r23; have e5 : (0 : Int32).toInt = 0 := (by decide); omega) iσ23 hgp23).2.2) (by have : 2 ≤ k := (by have e0 := s_rng a1; have e1 : (1 : Int32).toInt = 1 := (by decide); obtain ⟨k2, e2⟩ := s_add a1 (1 : Int32); have e2a := s_rng (a1 + 1); have e4 := s_rng r23; have e5 : (0 : Int32).toInt = 0 := (by decide); omega); omega) mV_X3_unary m_939 (recv_ob obC_3) rfl rfl (Nat.le_of_ble_eq_true rfl) d_X3_unary_112 (k_v (fun σ25 ⟨⟨hgp25, hgm25⟩, iσ25, ik25⟩ => ?_)) (fun _ _ _ h => h.elim)
      have hmo25 : Mo σ25 σ23 := fun h9 => mo_e (show σ23 3 3 = σ23 3 3 from rfl) (hgm25 h9)
      have kp : Keep [(3, 1), (3, 2), (3, 3), (3, 4), (3, 9)] [18, 19, 20, 21, 22, 23] σ0 σ25 := keep_c kp ik25 (by decide) (by decide)
      refine g_aload_n hF d_X3_unary_115 rfl 1 rfl ?_
      refine g_bipush hF (v := 11) d_X3_unary_116 (by decide) ?_
      refine g_iload_n hF d_X3_unary_118 rfl 0 rfl ?_
      refine g_iconst hF (v := 0) d_X3_unary_119 (by decide) ?_
      refine g_iconst hF (v := 0) d_X3_unary_120 (by decide) ?_
      refine g_callV (As := [.int 11, .int (σ0 3 1), .int 0, .int 0]) (rest := []) hF (c_X3_add a g r σ25 (11 : Int32) (σ0 3 1) (0 : Int32) (0 : Int32) (fun h9 => absurd h9 (by decide)) hgp25 iσ25) (Nat.le_of_ble_eq_true rfl) mV_X3_add m_923 (recv_ob obC_3) rfl rfl (Nat.le_of_ble_eq_true rfl) d_X3_unary_121 (k_i (fun r26 σ26 ⟨⟨hgp26, hgm26⟩, iσ26, ik26⟩ => ?_)) (fun _ _ _ h => h.elim)
      have hmo26 : Mo σ26 σ25 := fun h9 => mo_e (show σ25 3 3 = σ25 3 3 from rfl) (hgm26 h9)
      have kp : Keep [(3, 1), (3, 2), (3, 3), (3, 4), (3, 9)] [18, 19, 20, 21, 22, 23] σ0 σ26 := keep_c kp ik26 (by decide) (by decide)
      refine g_pop hF d_X3_unary_124 rfl ?_
      refine g_goto hF 167 d_X3_unary_125 (by decide) ?_
      exact g_vret hF rfl d_X3_unary_167 ⟨rfl, rfl, rfl, ⟨⟨hgp26, (fun h9 => (hmo23 (hmo25 (mo_e (show σ26 3 3 = σ25 3 3 from (ik26 3 3 rfl rfl rfl)) h9))))⟩, iσ26, kp⟩⟩
  refine (Decidable.em ((σ0 3 2).toInt = 49)).elim (fun q27_9_5 => ?_) (fun q27_9_5 => ?_)
  · refine g_tableIn (off := 119) hF 128 d_X3_unary_9 q27_9_5 (by decide) (by decide) (by decide +kernel) (by decide) ?_
    refine g_aload_n hF d_X3_unary_128 rfl 1 rfl ?_
    refine g_get (v := .int (σ0 3 2)) hF 2 obC_3 (by decide) m_96 rfl d_X3_unary_129 ?_
    refine g_bipush hF (v := 20) d_X3_unary_132 (by decide) ?_
    refine g_icmp_ne (yv := 20) hF 162 d_X3_unary_134 (by decide) rfl (by decide) (fun c28_134 => ?_) (fun c28_134 => ?_)
    · -- taken at 134
      exact g_sub (L' := [(0, .ref (r 3)), (1, .int a1), (2, .int (σ0 3 1))]) [1, 2, 0] rfl (b162 σ0 a1 (σ0 3 1) i0 kp hgp (fun h9 => (mo_e (show σ0 3 3 = σ0 3 3 from rfl) h9)) h1 hk)
    · -- not taken at 134
      refine g_aload_n hF d_X3_unary_137 rfl 1 rfl ?_
      refine g_get (v := .ref (r 2)) hF 0 obC_3 (by decide) m_94 rfl d_X3_unary_138 ?_
      refine g_getN (v := .ref (r 13)) hF 5 obC_2 (by decide) nm_50 rfl d_X3_unary_141 ?_
      refine g_iload_n hF d_X3_unary_144 rfl 0 rfl ?_
      refine g_iconst hF (v := 1) d_X3_unary_145 (by decide) ?_
      refine g_iadd hF d_X3_unary_146 ?_
      refine g_callSN (As := [.ref (r 13), .int ((σ0 3 1) + 1)]) (rest := []) hF (c_at a g r σ0 arC_13 (by decide) ((σ0 3 1) + 1)) (Nat.le_of_ble_eq_true rfl) mS_X12_at nm_947 rfl rfl (Nat.le_of_ble_eq_true rfl) d_X3_unary_147 (k_rop (fun r29 hr29 => ?_))
      refine g_iconst hF (v := 5) d_X3_unary_150 (by decide) ?_
      refine g_icmp_ne (yv := 5) hF 162 d_X3_unary_151 (by decide) rfl (by decide) (fun c30_151 => ?_) (fun c30_151 => ?_)
      · -- taken at 151
        exact g_sub (L' := [(0, .ref (r 3)), (1, .int a1), (2, .int (σ0 3 1))]) [1, 2, 0] rfl (b162 σ0 a1 (σ0 3 1) i0 kp hgp (fun h9 => (mo_e (show σ0 3 3 = σ0 3 3 from rfl) h9)) h1 hk)
      · -- not taken at 151
        refine g_aload_n hF d_X3_unary_154 rfl 1 rfl ?_
        refine g_iload_n hF d_X3_unary_155 rfl 2 rfl ?_
        refine g_callV (As := [.int a1]) (rest := []) hF (c_X3_cast a g r k σ0 a1 ih h1 hk hgp (by show ¬ ((σ0 3 2).toInt = 0 ∨ (σ0 3 2).toInt = -1); have e0 := s_rng a1; have e1 := s_rng (σ0 3 2); have e2 : (1 : Int32).toInt = 1 := (by decide); have e3 : (49 : Int32).toInt = 49 := (by decide); have e4 : (20 : Int32).toInt = 20 := (by decide); omega) i0) (by omega) mV_X3_cast m_950 (recv_ob obC_3) rfl rfl (Nat.le_of_ble_eq_true rfl) d_X3_unary_156 (k_v (fun σ31 ⟨⟨hgp31, hgm31⟩, iσ31, ik31⟩ => ?_)) (fun _ _ _ h => h.elim)
        have hmo31 : Mo σ31 σ0 := fun h9 => mo_e (show σ0 3 3 = σ0 3 3 from rfl) (hgm31 h9)
        have kp : Keep [(3, 1), (3, 2), (3, 3), (3, 4), (3, 9)] [18, 19, 20, 21, 22, 23] σ0 σ31 := keep_c kp ik31 (by decide) (by decide)
        refine g_goto hF 167 d_X3_unary_159 (by decide) ?_
        exact g_vret hF rfl d_X3_unary_167 ⟨rfl, rfl, rfl, ⟨⟨hgp31, (fun h9 => (hmo31 (mo_e (show σ31 3 3 = σ31 3 3 from rfl) h9)))⟩, iσ31, kp⟩⟩
  refine (Decidable.em ((σ0 3 2).toInt = 50)).elim (fun q32_9_6 => ?_) (fun q32_9_6 => ?_)
  · refine g_tableIn (off := 119) hF 128 d_X3_unary_9 q32_9_6 (by decide) (by decide) (by decide +kernel) (by decide) ?_
    refine g_aload_n hF d_X3_unary_128 rfl 1 rfl ?_
    refine g_get (v := .int (σ0 3 2)) hF 2 obC_3 (by decide) m_96 rfl d_X3_unary_129 ?_
    refine g_bipush hF (v := 20) d_X3_unary_132 (by decide) ?_
    refine g_icmp_ne (yv := 20) hF 162 d_X3_unary_134 (by decide) rfl (by decide) (fun c33_134 => ?_) (fun c33_134 => ?_)
    · -- taken at 134
      exact g_sub (L' := [(0, .ref (r 3)), (1, .int a1), (2, .int (σ0 3 1))]) [1, 2, 0] rfl (b162 σ0 a1 (σ0 3 1) i0 kp hgp (fun h9 => (mo_e (show σ0 3 3 = σ0 3 3 from rfl) h9)) h1 hk)
    · -- not taken at 134
      refine g_aload_n hF d_X3_unary_137 rfl 1 rfl ?_
      refine g_get (v := .ref (r 2)) hF 0 obC_3 (by decide) m_94 rfl d_X3_unary_138 ?_
      refine g_getN (v := .ref (r 13)) hF 5 obC_2 (by decide) nm_50 rfl d_X3_unary_141 ?_
      refine g_iload_n hF d_X3_unary_144 rfl 0 rfl ?_
      refine g_iconst hF (v := 1) d_X3_unary_145 (by decide) ?_
      refine g_iadd hF d_X3_unary_146 ?_
      refine g_callSN (As := [.ref (r 13), .int ((σ0 3 1) + 1)]) (rest := []) hF (c_at a g r σ0 arC_13 (by decide) ((σ0 3 1) + 1)) (Nat.le_of_ble_eq_true rfl) mS_X12_at nm_947 rfl rfl (Nat.le_of_ble_eq_true rfl) d_X3_unary_147 (k_rop (fun r34 hr34 => ?_))
      refine g_iconst hF (v := 5) d_X3_unary_150 (by decide) ?_
      refine g_icmp_ne (yv := 5) hF 162 d_X3_unary_151 (by decide) rfl (by decide) (fun c35_151 => ?_) (fun c35_151 => ?_)
      · -- taken at 151
        exact g_sub (L' := [(0, .ref (r 3)), (1, .int a1), (2, .int (σ0 3 1))]) [1, 2, 0] rfl (b162 σ0 a1 (σ0 3 1) i0 kp hgp (fun h9 => (mo_e (show σ0 3 3 = σ0 3 3 from rfl) h9)) h1 hk)
      · -- not taken at 151
        refine g_aload_n hF d_X3_unary_154 rfl 1 rfl ?_
        refine g_iload_n hF d_X3_unary_155 rfl 2 rfl ?_
        refine g_callV (As := [.int a1]) (rest := []) hF (c_X3_cast a g r k σ0 a1 ih h1 hk hgp (by show ¬ ((σ0 3 2).toInt = 0 ∨ (σ0 3 2).toInt = -1); have e0 := s_rng a1; have e1 := s_rng (σ0 3 2); have e2 : (1 : Int32).toInt = 1 := (by decide); have e3 : (50 : Int32).toInt = 50 := (by decide); have e4 : (20 : Int32).toInt = 20 := (by decide); omega) i0) (by omega) mV_X3_cast m_950 (recv_ob obC_3) rfl rfl (Nat.le_of_ble_eq_true rfl) d_X3_unary_156 (k_v (fun σ36 ⟨⟨hgp36, hgm36⟩, iσ36, ik36⟩ => ?_)) (fun _ _ _ h => h.elim)
        have hmo36 : Mo σ36 σ0 := fun h9 => mo_e (show σ0 3 3 = σ0 3 3 from rfl) (hgm36 h9)
        have kp : Keep [(3, 1), (3, 2), (3, 3), (3, 4), (3, 9)] [18, 19, 20, 21, 22, 23] σ0 σ36 := keep_c kp ik36 (by decide) (by decide)
        refine g_goto hF 167 d_X3_unary_159 (by decide) ?_
        exact g_vret hF rfl d_X3_unary_167 ⟨rfl, rfl, rfl, ⟨⟨hgp36, (fun h9 => (hmo36 (mo_e (show σ36 3 3 = σ36 3 3 from rfl) h9)))⟩, iσ36, kp⟩⟩
  refine (Decidable.em ((σ0 3 2).toInt = 51)).elim (fun q37_9_7 => ?_) (fun q37_9_7 => ?_)
  · refine g_tableIn (off := 119) hF 128 d_X3_unary_9 q37_9_7 (by decide) (by decide) (by decide +kernel) (by decide) ?_
    refine g_aload_n hF d_X3_unary_128 rfl 1 rfl ?_
    refine g_get (v := .int (σ0 3 2)) hF 2 obC_3 (by decide) m_96 rfl d_X3_unary_129 ?_
    refine g_bipush hF (v := 20) d_X3_unary_132 (by decide) ?_
    refine g_icmp_ne (yv := 20) hF 162 d_X3_unary_134 (by decide) rfl (by decide) (fun c38_134 => ?_) (fun c38_134 => ?_)
    · -- taken at 134
      exact g_sub (L' := [(0, .ref (r 3)), (1, .int a1), (2, .int (σ0 3 1))]) [1, 2, 0] rfl (b162 σ0 a1 (σ0 3 1) i0 kp hgp (fun h9 => (mo_e (show σ0 3 3 = σ0 3 3 from rfl) h9)) h1 hk)
    · -- not taken at 134
      refine g_aload_n hF d_X3_unary_137 rfl 1 rfl ?_
      refine g_get (v := .ref (r 2)) hF 0 obC_3 (by decide) m_94 rfl d_X3_unary_138 ?_
      refine g_getN (v := .ref (r 13)) hF 5 obC_2 (by decide) nm_50 rfl d_X3_unary_141 ?_
      refine g_iload_n hF d_X3_unary_144 rfl 0 rfl ?_
      refine g_iconst hF (v := 1) d_X3_unary_145 (by decide) ?_
      refine g_iadd hF d_X3_unary_146 ?_
      refine g_callSN (As := [.ref (r 13), .int ((σ0 3 1) + 1)]) (rest := []) hF (c_at a g r σ0 arC_13 (by decide) ((σ0 3 1) + 1)) (Nat.le_of_ble_eq_true rfl) mS_X12_at nm_947 rfl rfl (Nat.le_of_ble_eq_true rfl) d_X3_unary_147 (k_rop (fun r39 hr39 => ?_))
      refine g_iconst hF (v := 5) d_X3_unary_150 (by decide) ?_
      refine g_icmp_ne (yv := 5) hF 162 d_X3_unary_151 (by decide) rfl (by decide) (fun c40_151 => ?_) (fun c40_151 => ?_)
      · -- taken at 151
        exact g_sub (L' := [(0, .ref (r 3)), (1, .int a1), (2, .int (σ0 3 1))]) [1, 2, 0] rfl (b162 σ0 a1 (σ0 3 1) i0 kp hgp (fun h9 => (mo_e (show σ0 3 3 = σ0 3 3 from rfl) h9)) h1 hk)
      · -- not taken at 151
        refine g_aload_n hF d_X3_unary_154 rfl 1 rfl ?_
        refine g_iload_n hF d_X3_unary_155 rfl 2 rfl ?_
        refine g_callV (As := [.int a1]) (rest := []) hF (c_X3_cast a g r k σ0 a1 ih h1 hk hgp (by show ¬ ((σ0 3 2).toInt = 0 ∨ (σ0 3 2).toInt = -1); have e0 := s_rng a1; have e1 := s_rng (σ0 3 2); have e2 : (1 : Int32).toInt = 1 := (by decide); have e3 : (51 : Int32).toInt = 51 := (by decide); have e4 : (20 : Int32).toInt = 20 := (by decide); omega) i0) (by omega) mV_X3_cast m_950 (recv_ob obC_3) rfl rfl (Nat.le_of_ble_eq_true rfl) d_X3_unary_156 (k_v (fun σ41 ⟨⟨hgp41, hgm41⟩, iσ41, ik41⟩ => ?_)) (fun _ _ _ h => h.elim)
        have hmo41 : Mo σ41 σ0 := fun h9 => mo_e (show σ0 3 3 = σ0 3 3 from rfl) (hgm41 h9)
        have kp : Keep [(3, 1), (3, 2), (3, 3), (3, 4), (3, 9)] [18, 19, 20, 21, 22, 23] σ0 σ41 := keep_c kp ik41 (by decide) (by decide)
        refine g_goto hF 167 d_X3_unary_159 (by decide) ?_
        exact g_vret hF rfl d_X3_unary_167 ⟨rfl, rfl, rfl, ⟨⟨hgp41, (fun h9 => (hmo41 (mo_e (show σ41 3 3 = σ41 3 3 from rfl) h9)))⟩, iσ41, kp⟩⟩
  refine (Decidable.em ((σ0 3 2).toInt = 52)).elim (fun q42_9_8 => ?_) (fun q42_9_8 => ?_)
  · refine g_tableIn (off := 119) hF 128 d_X3_unary_9 q42_9_8 (by decide) (by decide) (by decide +kernel) (by decide) ?_
    refine g_aload_n hF d_X3_unary_128 rfl 1 rfl ?_
    refine g_get (v := .int (σ0 3 2)) hF 2 obC_3 (by decide) m_96 rfl d_X3_unary_129 ?_
    refine g_bipush hF (v := 20) d_X3_unary_132 (by decide) ?_
    refine g_icmp_ne (yv := 20) hF 162 d_X3_unary_134 (by decide) rfl (by decide) (fun c43_134 => ?_) (fun c43_134 => ?_)
    · -- taken at 134
      exact g_sub (L' := [(0, .ref (r 3)), (1, .int a1), (2, .int (σ0 3 1))]) [1, 2, 0] rfl (b162 σ0 a1 (σ0 3 1) i0 kp hgp (fun h9 => (mo_e (show σ0 3 3 = σ0 3 3 from rfl) h9)) h1 hk)
    · -- not taken at 134
      refine g_aload_n hF d_X3_unary_137 rfl 1 rfl ?_
      refine g_get (v := .ref (r 2)) hF 0 obC_3 (by decide) m_94 rfl d_X3_unary_138 ?_
      refine g_getN (v := .ref (r 13)) hF 5 obC_2 (by decide) nm_50 rfl d_X3_unary_141 ?_
      refine g_iload_n hF d_X3_unary_144 rfl 0 rfl ?_
      refine g_iconst hF (v := 1) d_X3_unary_145 (by decide) ?_
      refine g_iadd hF d_X3_unary_146 ?_
      refine g_callSN (As := [.ref (r 13), .int ((σ0 3 1) + 1)]) (rest := []) hF (c_at a g r σ0 arC_13 (by decide) ((σ0 3 1) + 1)) (Nat.le_of_ble_eq_true rfl) mS_X12_at nm_947 rfl rfl (Nat.le_of_ble_eq_true rfl) d_X3_unary_147 (k_rop (fun r44 hr44 => ?_))
      refine g_iconst hF (v := 5) d_X3_unary_150 (by decide) ?_
      refine g_icmp_ne (yv := 5) hF 162 d_X3_unary_151 (by decide) rfl (by decide) (fun c45_151 => ?_) (fun c45_151 => ?_)
      · -- taken at 151
        exact g_sub (L' := [(0, .ref (r 3)), (1, .int a1), (2, .int (σ0 3 1))]) [1, 2, 0] rfl (b162 σ0 a1 (σ0 3 1) i0 kp hgp (fun h9 => (mo_e (show σ0 3 3 = σ0 3 3 from rfl) h9)) h1 hk)
      · -- not taken at 151
        refine g_aload_n hF d_X3_unary_154 rfl 1 rfl ?_
        refine g_iload_n hF d_X3_unary_155 rfl 2 rfl ?_
        refine g_callV (As := [.int a1]) (rest := []) hF (c_X3_cast a g r k σ0 a1 ih h1 hk hgp (by show ¬ ((σ0 3 2).toInt = 0 ∨ (σ0 3 2).toInt = -1); have e0 := s_rng a1; have e1 := s_rng (σ0 3 2); have e2 : (1 : Int32).toInt = 1 := (by decide); have e3 : (52 : Int32).toInt = 52 := (by decide); have e4 : (20 : Int32).toInt = 20 := (by decide); omega) i0) (by omega) mV_X3_cast m_950 (recv_ob obC_3) rfl rfl (Nat.le_of_ble_eq_true rfl) d_X3_unary_156 (k_v (fun σ46 ⟨⟨hgp46, hgm46⟩, iσ46, ik46⟩ => ?_)) (fun _ _ _ h => h.elim)
        have hmo46 : Mo σ46 σ0 := fun h9 => mo_e (show σ0 3 3 = σ0 3 3 from rfl) (hgm46 h9)
        have kp : Keep [(3, 1), (3, 2), (3, 3), (3, 4), (3, 9)] [18, 19, 20, 21, 22, 23] σ0 σ46 := keep_c kp ik46 (by decide) (by decide)
        refine g_goto hF 167 d_X3_unary_159 (by decide) ?_
        exact g_vret hF rfl d_X3_unary_167 ⟨rfl, rfl, rfl, ⟨⟨hgp46, (fun h9 => (hmo46 (mo_e (show σ46 3 3 = σ46 3 3 from rfl) h9)))⟩, iσ46, kp⟩⟩
  refine (Decidable.em ((σ0 3 2).toInt = 53)).elim (fun q47_9_9 => ?_) (fun q47_9_9 => ?_)
  · refine g_tableIn (off := 119) hF 128 d_X3_unary_9 q47_9_9 (by decide) (by decide) (by decide +kernel) (by decide) ?_
    refine g_aload_n hF d_X3_unary_128 rfl 1 rfl ?_
    refine g_get (v := .int (σ0 3 2)) hF 2 obC_3 (by decide) m_96 rfl d_X3_unary_129 ?_
    refine g_bipush hF (v := 20) d_X3_unary_132 (by decide) ?_
    refine g_icmp_ne (yv := 20) hF 162 d_X3_unary_134 (by decide) rfl (by decide) (fun c48_134 => ?_) (fun c48_134 => ?_)
    · -- taken at 134
      exact g_sub (L' := [(0, .ref (r 3)), (1, .int a1), (2, .int (σ0 3 1))]) [1, 2, 0] rfl (b162 σ0 a1 (σ0 3 1) i0 kp hgp (fun h9 => (mo_e (show σ0 3 3 = σ0 3 3 from rfl) h9)) h1 hk)
    · -- not taken at 134
      refine g_aload_n hF d_X3_unary_137 rfl 1 rfl ?_
      refine g_get (v := .ref (r 2)) hF 0 obC_3 (by decide) m_94 rfl d_X3_unary_138 ?_
      refine g_getN (v := .ref (r 13)) hF 5 obC_2 (by decide) nm_50 rfl d_X3_unary_141 ?_
      refine g_iload_n hF d_X3_unary_144 rfl 0 rfl ?_
      refine g_iconst hF (v := 1) d_X3_unary_145 (by decide) ?_
      refine g_iadd hF d_X3_unary_146 ?_
      refine g_callSN (As := [.ref (r 13), .int ((σ0 3 1) + 1)]) (rest := []) hF (c_at a g r σ0 arC_13 (by decide) ((σ0 3 1) + 1)) (Nat.le_of_ble_eq_true rfl) mS_X12_at nm_947 rfl rfl (Nat.le_of_ble_eq_true rfl) d_X3_unary_147 (k_rop (fun r49 hr49 => ?_))
      refine g_iconst hF (v := 5) d_X3_unary_150 (by decide) ?_
      refine g_icmp_ne (yv := 5) hF 162 d_X3_unary_151 (by decide) rfl (by decide) (fun c50_151 => ?_) (fun c50_151 => ?_)
      · -- taken at 151
        exact g_sub (L' := [(0, .ref (r 3)), (1, .int a1), (2, .int (σ0 3 1))]) [1, 2, 0] rfl (b162 σ0 a1 (σ0 3 1) i0 kp hgp (fun h9 => (mo_e (show σ0 3 3 = σ0 3 3 from rfl) h9)) h1 hk)
      · -- not taken at 151
        refine g_aload_n hF d_X3_unary_154 rfl 1 rfl ?_
        refine g_iload_n hF d_X3_unary_155 rfl 2 rfl ?_
        refine g_callV (As := [.int a1]) (rest := []) hF (c_X3_cast a g r k σ0 a1 ih h1 hk hgp (by show ¬ ((σ0 3 2).toInt = 0 ∨ (σ0 3 2).toInt = -1); have e0 := s_rng a1; have e1 := s_rng (σ0 3 2); have e2 : (1 : Int32).toInt = 1 := (by decide); have e3 : (53 : Int32).toInt = 53 := (by decide); have e4 : (20 : Int32).toInt = 20 := (by decide); omega) i0) (by omega) mV_X3_cast m_950 (recv_ob obC_3) rfl rfl (Nat.le_of_ble_eq_true rfl) d_X3_unary_156 (k_v (fun σ51 ⟨⟨hgp51, hgm51⟩, iσ51, ik51⟩ => ?_)) (fun _ _ _ h => h.elim)
        have hmo51 : Mo σ51 σ0 := fun h9 => mo_e (show σ0 3 3 = σ0 3 3 from rfl) (hgm51 h9)
        have kp : Keep [(3, 1), (3, 2), (3, 3), (3, 4), (3, 9)] [18, 19, 20, 21, 22, 23] σ0 σ51 := keep_c kp ik51 (by decide) (by decide)
        refine g_goto hF 167 d_X3_unary_159 (by decide) ?_
        exact g_vret hF rfl d_X3_unary_167 ⟨rfl, rfl, rfl, ⟨⟨hgp51, (fun h9 => (hmo51 (mo_e (show σ51 3 3 = σ51 3 3 from rfl) h9)))⟩, iσ51, kp⟩⟩
  refine (Decidable.em ((σ0 3 2).toInt = 54)).elim (fun q52_9_10 => ?_) (fun q52_9_10 => ?_)
  · refine g_tableIn (off := 119) hF 128 d_X3_unary_9 q52_9_10 (by decide) (by decide) (by decide +kernel) (by decide) ?_
    refine g_aload_n hF d_X3_unary_128 rfl 1 rfl ?_
    refine g_get (v := .int (σ0 3 2)) hF 2 obC_3 (by decide) m_96 rfl d_X3_unary_129 ?_
    refine g_bipush hF (v := 20) d_X3_unary_132 (by decide) ?_
    refine g_icmp_ne (yv := 20) hF 162 d_X3_unary_134 (by decide) rfl (by decide) (fun c53_134 => ?_) (fun c53_134 => ?_)
    · -- taken at 134
      exact g_sub (L' := [(0, .ref (r 3)), (1, .int a1), (2, .int (σ0 3 1))]) [1, 2, 0] rfl (b162 σ0 a1 (σ0 3 1) i0 kp hgp (fun h9 => (mo_e (show σ0 3 3 = σ0 3 3 from rfl) h9)) h1 hk)
    · -- not taken at 134
      refine g_aload_n hF d_X3_unary_137 rfl 1 rfl ?_
      refine g_get (v := .ref (r 2)) hF 0 obC_3 (by decide) m_94 rfl d_X3_unary_138 ?_
      refine g_getN (v := .ref (r 13)) hF 5 obC_2 (by decide) nm_50 rfl d_X3_unary_141 ?_
      refine g_iload_n hF d_X3_unary_144 rfl 0 rfl ?_
      refine g_iconst hF (v := 1) d_X3_unary_145 (by decide) ?_
      refine g_iadd hF d_X3_unary_146 ?_
      refine g_callSN (As := [.ref (r 13), .int ((σ0 3 1) + 1)]) (rest := []) hF (c_at a g r σ0 arC_13 (by decide) ((σ0 3 1) + 1)) (Nat.le_of_ble_eq_true rfl) mS_X12_at nm_947 rfl rfl (Nat.le_of_ble_eq_true rfl) d_X3_unary_147 (k_rop (fun r54 hr54 => ?_))
      refine g_iconst hF (v := 5) d_X3_unary_150 (by decide) ?_
      refine g_icmp_ne (yv := 5) hF 162 d_X3_unary_151 (by decide) rfl (by decide) (fun c55_151 => ?_) (fun c55_151 => ?_)
      · -- taken at 151
        exact g_sub (L' := [(0, .ref (r 3)), (1, .int a1), (2, .int (σ0 3 1))]) [1, 2, 0] rfl (b162 σ0 a1 (σ0 3 1) i0 kp hgp (fun h9 => (mo_e (show σ0 3 3 = σ0 3 3 from rfl) h9)) h1 hk)
      · -- not taken at 151
        refine g_aload_n hF d_X3_unary_154 rfl 1 rfl ?_
        refine g_iload_n hF d_X3_unary_155 rfl 2 rfl ?_
        refine g_callV (As := [.int a1]) (rest := []) hF (c_X3_cast a g r k σ0 a1 ih h1 hk hgp (by show ¬ ((σ0 3 2).toInt = 0 ∨ (σ0 3 2).toInt = -1); have e0 := s_rng a1; have e1 := s_rng (σ0 3 2); have e2 : (1 : Int32).toInt = 1 := (by decide); have e3 : (54 : Int32).toInt = 54 := (by decide); have e4 : (20 : Int32).toInt = 20 := (by decide); omega) i0) (by omega) mV_X3_cast m_950 (recv_ob obC_3) rfl rfl (Nat.le_of_ble_eq_true rfl) d_X3_unary_156 (k_v (fun σ56 ⟨⟨hgp56, hgm56⟩, iσ56, ik56⟩ => ?_)) (fun _ _ _ h => h.elim)
        have hmo56 : Mo σ56 σ0 := fun h9 => mo_e (show σ0 3 3 = σ0 3 3 from rfl) (hgm56 h9)
        have kp : Keep [(3, 1), (3, 2), (3, 3), (3, 4), (3, 9)] [18, 19, 20, 21, 22, 23] σ0 σ56 := keep_c kp ik56 (by decide) (by decide)
        refine g_goto hF 167 d_X3_unary_159 (by decide) ?_
        exact g_vret hF rfl d_X3_unary_167 ⟨rfl, rfl, rfl, ⟨⟨hgp56, (fun h9 => (hmo56 (mo_e (show σ56 3 3 = σ56 3 3 from rfl) h9)))⟩, iσ56, kp⟩⟩
  refine (Decidable.em ((σ0 3 2).toInt = 55)).elim (fun q57_9_11 => ?_) (fun q57_9_11 => ?_)
  · refine g_tableIn (off := 119) hF 128 d_X3_unary_9 q57_9_11 (by decide) (by decide) (by decide +kernel) (by decide) ?_
    refine g_aload_n hF d_X3_unary_128 rfl 1 rfl ?_
    refine g_get (v := .int (σ0 3 2)) hF 2 obC_3 (by decide) m_96 rfl d_X3_unary_129 ?_
    refine g_bipush hF (v := 20) d_X3_unary_132 (by decide) ?_
    refine g_icmp_ne (yv := 20) hF 162 d_X3_unary_134 (by decide) rfl (by decide) (fun c58_134 => ?_) (fun c58_134 => ?_)
    · -- taken at 134
      exact g_sub (L' := [(0, .ref (r 3)), (1, .int a1), (2, .int (σ0 3 1))]) [1, 2, 0] rfl (b162 σ0 a1 (σ0 3 1) i0 kp hgp (fun h9 => (mo_e (show σ0 3 3 = σ0 3 3 from rfl) h9)) h1 hk)
    · -- not taken at 134
      refine g_aload_n hF d_X3_unary_137 rfl 1 rfl ?_
      refine g_get (v := .ref (r 2)) hF 0 obC_3 (by decide) m_94 rfl d_X3_unary_138 ?_
      refine g_getN (v := .ref (r 13)) hF 5 obC_2 (by decide) nm_50 rfl d_X3_unary_141 ?_
      refine g_iload_n hF d_X3_unary_144 rfl 0 rfl ?_
      refine g_iconst hF (v := 1) d_X3_unary_145 (by decide) ?_
      refine g_iadd hF d_X3_unary_146 ?_
      refine g_callSN (As := [.ref (r 13), .int ((σ0 3 1) + 1)]) (rest := []) hF (c_at a g r σ0 arC_13 (by decide) ((σ0 3 1) + 1)) (Nat.le_of_ble_eq_true rfl) mS_X12_at nm_947 rfl rfl (Nat.le_of_ble_eq_true rfl) d_X3_unary_147 (k_rop (fun r59 hr59 => ?_))
      refine g_iconst hF (v := 5) d_X3_unary_150 (by decide) ?_
      refine g_icmp_ne (yv := 5) hF 162 d_X3_unary_151 (by decide) rfl (by decide) (fun c60_151 => ?_) (fun c60_151 => ?_)
      · -- taken at 151
        exact g_sub (L' := [(0, .ref (r 3)), (1, .int a1), (2, .int (σ0 3 1))]) [1, 2, 0] rfl (b162 σ0 a1 (σ0 3 1) i0 kp hgp (fun h9 => (mo_e (show σ0 3 3 = σ0 3 3 from rfl) h9)) h1 hk)
      · -- not taken at 151
        refine g_aload_n hF d_X3_unary_154 rfl 1 rfl ?_
        refine g_iload_n hF d_X3_unary_155 rfl 2 rfl ?_
        refine g_callV (As := [.int a1]) (rest := []) hF (c_X3_cast a g r k σ0 a1 ih h1 hk hgp (by show ¬ ((σ0 3 2).toInt = 0 ∨ (σ0 3 2).toInt = -1); have e0 := s_rng a1; have e1 := s_rng (σ0 3 2); have e2 : (1 : Int32).toInt = 1 := (by decide); have e3 : (55 : Int32).toInt = 55 := (by decide); have e4 : (20 : Int32).toInt = 20 := (by decide); omega) i0) (by omega) mV_X3_cast m_950 (recv_ob obC_3) rfl rfl (Nat.le_of_ble_eq_true rfl) d_X3_unary_156 (k_v (fun σ61 ⟨⟨hgp61, hgm61⟩, iσ61, ik61⟩ => ?_)) (fun _ _ _ h => h.elim)
        have hmo61 : Mo σ61 σ0 := fun h9 => mo_e (show σ0 3 3 = σ0 3 3 from rfl) (hgm61 h9)
        have kp : Keep [(3, 1), (3, 2), (3, 3), (3, 4), (3, 9)] [18, 19, 20, 21, 22, 23] σ0 σ61 := keep_c kp ik61 (by decide) (by decide)
        refine g_goto hF 167 d_X3_unary_159 (by decide) ?_
        exact g_vret hF rfl d_X3_unary_167 ⟨rfl, rfl, rfl, ⟨⟨hgp61, (fun h9 => (hmo61 (mo_e (show σ61 3 3 = σ61 3 3 from rfl) h9)))⟩, iσ61, kp⟩⟩
  refine (Decidable.em ((σ0 3 2).toInt = 56)).elim (fun q62_9_12 => ?_) (fun q62_9_12 => ?_)
  · refine g_tableIn (off := 119) hF 128 d_X3_unary_9 q62_9_12 (by decide) (by decide) (by decide +kernel) (by decide) ?_
    refine g_aload_n hF d_X3_unary_128 rfl 1 rfl ?_
    refine g_get (v := .int (σ0 3 2)) hF 2 obC_3 (by decide) m_96 rfl d_X3_unary_129 ?_
    refine g_bipush hF (v := 20) d_X3_unary_132 (by decide) ?_
    refine g_icmp_ne (yv := 20) hF 162 d_X3_unary_134 (by decide) rfl (by decide) (fun c63_134 => ?_) (fun c63_134 => ?_)
    · -- taken at 134
      exact g_sub (L' := [(0, .ref (r 3)), (1, .int a1), (2, .int (σ0 3 1))]) [1, 2, 0] rfl (b162 σ0 a1 (σ0 3 1) i0 kp hgp (fun h9 => (mo_e (show σ0 3 3 = σ0 3 3 from rfl) h9)) h1 hk)
    · -- not taken at 134
      refine g_aload_n hF d_X3_unary_137 rfl 1 rfl ?_
      refine g_get (v := .ref (r 2)) hF 0 obC_3 (by decide) m_94 rfl d_X3_unary_138 ?_
      refine g_getN (v := .ref (r 13)) hF 5 obC_2 (by decide) nm_50 rfl d_X3_unary_141 ?_
      refine g_iload_n hF d_X3_unary_144 rfl 0 rfl ?_
      refine g_iconst hF (v := 1) d_X3_unary_145 (by decide) ?_
      refine g_iadd hF d_X3_unary_146 ?_
      refine g_callSN (As := [.ref (r 13), .int ((σ0 3 1) + 1)]) (rest := []) hF (c_at a g r σ0 arC_13 (by decide) ((σ0 3 1) + 1)) (Nat.le_of_ble_eq_true rfl) mS_X12_at nm_947 rfl rfl (Nat.le_of_ble_eq_true rfl) d_X3_unary_147 (k_rop (fun r64 hr64 => ?_))
      refine g_iconst hF (v := 5) d_X3_unary_150 (by decide) ?_
      refine g_icmp_ne (yv := 5) hF 162 d_X3_unary_151 (by decide) rfl (by decide) (fun c65_151 => ?_) (fun c65_151 => ?_)
      · -- taken at 151
        exact g_sub (L' := [(0, .ref (r 3)), (1, .int a1), (2, .int (σ0 3 1))]) [1, 2, 0] rfl (b162 σ0 a1 (σ0 3 1) i0 kp hgp (fun h9 => (mo_e (show σ0 3 3 = σ0 3 3 from rfl) h9)) h1 hk)
      · -- not taken at 151
        refine g_aload_n hF d_X3_unary_154 rfl 1 rfl ?_
        refine g_iload_n hF d_X3_unary_155 rfl 2 rfl ?_
        refine g_callV (As := [.int a1]) (rest := []) hF (c_X3_cast a g r k σ0 a1 ih h1 hk hgp (by show ¬ ((σ0 3 2).toInt = 0 ∨ (σ0 3 2).toInt = -1); have e0 := s_rng a1; have e1 := s_rng (σ0 3 2); have e2 : (1 : Int32).toInt = 1 := (by decide); have e3 : (56 : Int32).toInt = 56 := (by decide); have e4 : (20 : Int32).toInt = 20 := (by decide); omega) i0) (by omega) mV_X3_cast m_950 (recv_ob obC_3) rfl rfl (Nat.le_of_ble_eq_true rfl) d_X3_unary_156 (k_v (fun σ66 ⟨⟨hgp66, hgm66⟩, iσ66, ik66⟩ => ?_)) (fun _ _ _ h => h.elim)
        have hmo66 : Mo σ66 σ0 := fun h9 => mo_e (show σ0 3 3 = σ0 3 3 from rfl) (hgm66 h9)
        have kp : Keep [(3, 1), (3, 2), (3, 3), (3, 4), (3, 9)] [18, 19, 20, 21, 22, 23] σ0 σ66 := keep_c kp ik66 (by decide) (by decide)
        refine g_goto hF 167 d_X3_unary_159 (by decide) ?_
        exact g_vret hF rfl d_X3_unary_167 ⟨rfl, rfl, rfl, ⟨⟨hgp66, (fun h9 => (hmo66 (mo_e (show σ66 3 3 = σ66 3 3 from rfl) h9)))⟩, iσ66, kp⟩⟩
  refine (Decidable.em ((σ0 3 2).toInt = 57)).elim (fun q67_9_13 => ?_) (fun q67_9_13 => ?_)
  · refine g_tableIn (off := 119) hF 128 d_X3_unary_9 q67_9_13 (by decide) (by decide) (by decide +kernel) (by decide) ?_
    refine g_aload_n hF d_X3_unary_128 rfl 1 rfl ?_
    refine g_get (v := .int (σ0 3 2)) hF 2 obC_3 (by decide) m_96 rfl d_X3_unary_129 ?_
    refine g_bipush hF (v := 20) d_X3_unary_132 (by decide) ?_
    refine g_icmp_ne (yv := 20) hF 162 d_X3_unary_134 (by decide) rfl (by decide) (fun c68_134 => ?_) (fun c68_134 => ?_)
    · -- taken at 134
      exact g_sub (L' := [(0, .ref (r 3)), (1, .int a1), (2, .int (σ0 3 1))]) [1, 2, 0] rfl (b162 σ0 a1 (σ0 3 1) i0 kp hgp (fun h9 => (mo_e (show σ0 3 3 = σ0 3 3 from rfl) h9)) h1 hk)
    · -- not taken at 134
      refine g_aload_n hF d_X3_unary_137 rfl 1 rfl ?_
      refine g_get (v := .ref (r 2)) hF 0 obC_3 (by decide) m_94 rfl d_X3_unary_138 ?_
      refine g_getN (v := .ref (r 13)) hF 5 obC_2 (by decide) nm_50 rfl d_X3_unary_141 ?_
      refine g_iload_n hF d_X3_unary_144 rfl 0 rfl ?_
      refine g_iconst hF (v := 1) d_X3_unary_145 (by decide) ?_
      refine g_iadd hF d_X3_unary_146 ?_
      refine g_callSN (As := [.ref (r 13), .int ((σ0 3 1) + 1)]) (rest := []) hF (c_at a g r σ0 arC_13 (by decide) ((σ0 3 1) + 1)) (Nat.le_of_ble_eq_true rfl) mS_X12_at nm_947 rfl rfl (Nat.le_of_ble_eq_true rfl) d_X3_unary_147 (k_rop (fun r69 hr69 => ?_))
      refine g_iconst hF (v := 5) d_X3_unary_150 (by decide) ?_
      refine g_icmp_ne (yv := 5) hF 162 d_X3_unary_151 (by decide) rfl (by decide) (fun c70_151 => ?_) (fun c70_151 => ?_)
      · -- taken at 151
        exact g_sub (L' := [(0, .ref (r 3)), (1, .int a1), (2, .int (σ0 3 1))]) [1, 2, 0] rfl (b162 σ0 a1 (σ0 3 1) i0 kp hgp (fun h9 => (mo_e (show σ0 3 3 = σ0 3 3 from rfl) h9)) h1 hk)
      · -- not taken at 151
        refine g_aload_n hF d_X3_unary_154 rfl 1 rfl ?_
        refine g_iload_n hF d_X3_unary_155 rfl 2 rfl ?_
        refine g_callV (As := [.int a1]) (rest := []) hF (c_X3_cast a g r k σ0 a1 ih h1 hk hgp (by show ¬ ((σ0 3 2).toInt = 0 ∨ (σ0 3 2).toInt = -1); have e0 := s_rng a1; have e1 := s_rng (σ0 3 2); have e2 : (1 : Int32).toInt = 1 := (by decide); have e3 : (57 : Int32).toInt = 57 := (by decide); have e4 : (20 : Int32).toInt = 20 := (by decide); omega) i0) (by omega) mV_X3_cast m_950 (recv_ob obC_3) rfl rfl (Nat.le_of_ble_eq_true rfl) d_X3_unary_156 (k_v (fun σ71 ⟨⟨hgp71, hgm71⟩, iσ71, ik71⟩ => ?_)) (fun _ _ _ h => h.elim)
        have hmo71 : Mo σ71 σ0 := fun h9 => mo_e (show σ0 3 3 = σ0 3 3 from rfl) (hgm71 h9)
        have kp : Keep [(3, 1), (3, 2), (3, 3), (3, 4), (3, 9)] [18, 19, 20, 21, 22, 23] σ0 σ71 := keep_c kp ik71 (by decide) (by decide)
        refine g_goto hF 167 d_X3_unary_159 (by decide) ?_
        exact g_vret hF rfl d_X3_unary_167 ⟨rfl, rfl, rfl, ⟨⟨hgp71, (fun h9 => (hmo71 (mo_e (show σ71 3 3 = σ71 3 3 from rfl) h9)))⟩, iσ71, kp⟩⟩
  refine (Decidable.em ((σ0 3 2).toInt = 58)).elim (fun q72_9_14 => ?_) (fun q72_9_14 => ?_)
  · refine g_tableIn (off := 119) hF 128 d_X3_unary_9 q72_9_14 (by decide) (by decide) (by decide +kernel) (by decide) ?_
    refine g_aload_n hF d_X3_unary_128 rfl 1 rfl ?_
    refine g_get (v := .int (σ0 3 2)) hF 2 obC_3 (by decide) m_96 rfl d_X3_unary_129 ?_
    refine g_bipush hF (v := 20) d_X3_unary_132 (by decide) ?_
    refine g_icmp_ne (yv := 20) hF 162 d_X3_unary_134 (by decide) rfl (by decide) (fun c73_134 => ?_) (fun c73_134 => ?_)
    · -- taken at 134
      exact g_sub (L' := [(0, .ref (r 3)), (1, .int a1), (2, .int (σ0 3 1))]) [1, 2, 0] rfl (b162 σ0 a1 (σ0 3 1) i0 kp hgp (fun h9 => (mo_e (show σ0 3 3 = σ0 3 3 from rfl) h9)) h1 hk)
    · -- not taken at 134
      refine g_aload_n hF d_X3_unary_137 rfl 1 rfl ?_
      refine g_get (v := .ref (r 2)) hF 0 obC_3 (by decide) m_94 rfl d_X3_unary_138 ?_
      refine g_getN (v := .ref (r 13)) hF 5 obC_2 (by decide) nm_50 rfl d_X3_unary_141 ?_
      refine g_iload_n hF d_X3_unary_144 rfl 0 rfl ?_
      refine g_iconst hF (v := 1) d_X3_unary_145 (by decide) ?_
      refine g_iadd hF d_X3_unary_146 ?_
      refine g_callSN (As := [.ref (r 13), .int ((σ0 3 1) + 1)]) (rest := []) hF (c_at a g r σ0 arC_13 (by decide) ((σ0 3 1) + 1)) (Nat.le_of_ble_eq_true rfl) mS_X12_at nm_947 rfl rfl (Nat.le_of_ble_eq_true rfl) d_X3_unary_147 (k_rop (fun r74 hr74 => ?_))
      refine g_iconst hF (v := 5) d_X3_unary_150 (by decide) ?_
      refine g_icmp_ne (yv := 5) hF 162 d_X3_unary_151 (by decide) rfl (by decide) (fun c75_151 => ?_) (fun c75_151 => ?_)
      · -- taken at 151
        exact g_sub (L' := [(0, .ref (r 3)), (1, .int a1), (2, .int (σ0 3 1))]) [1, 2, 0] rfl (b162 σ0 a1 (σ0 3 1) i0 kp hgp (fun h9 => (mo_e (show σ0 3 3 = σ0 3 3 from rfl) h9)) h1 hk)
      · -- not taken at 151
        refine g_aload_n hF d_X3_unary_154 rfl 1 rfl ?_
        refine g_iload_n hF d_X3_unary_155 rfl 2 rfl ?_
        refine g_callV (As := [.int a1]) (rest := []) hF (c_X3_cast a g r k σ0 a1 ih h1 hk hgp (by show ¬ ((σ0 3 2).toInt = 0 ∨ (σ0 3 2).toInt = -1); have e0 := s_rng a1; have e1 := s_rng (σ0 3 2); have e2 : (1 : Int32).toInt = 1 := (by decide); have e3 : (58 : Int32).toInt = 58 := (by decide); have e4 : (20 : Int32).toInt = 20 := (by decide); omega) i0) (by omega) mV_X3_cast m_950 (recv_ob obC_3) rfl rfl (Nat.le_of_ble_eq_true rfl) d_X3_unary_156 (k_v (fun σ76 ⟨⟨hgp76, hgm76⟩, iσ76, ik76⟩ => ?_)) (fun _ _ _ h => h.elim)
        have hmo76 : Mo σ76 σ0 := fun h9 => mo_e (show σ0 3 3 = σ0 3 3 from rfl) (hgm76 h9)
        have kp : Keep [(3, 1), (3, 2), (3, 3), (3, 4), (3, 9)] [18, 19, 20, 21, 22, 23] σ0 σ76 := keep_c kp ik76 (by decide) (by decide)
        refine g_goto hF 167 d_X3_unary_159 (by decide) ?_
        exact g_vret hF rfl d_X3_unary_167 ⟨rfl, rfl, rfl, ⟨⟨hgp76, (fun h9 => (hmo76 (mo_e (show σ76 3 3 = σ76 3 3 from rfl) h9)))⟩, iσ76, kp⟩⟩
  refine (Decidable.em ((σ0 3 2).toInt = 59)).elim (fun q77_9_15 => ?_) (fun q77_9_15 => ?_)
  · refine g_tableIn (off := 91) hF 100 d_X3_unary_9 q77_9_15 (by decide) (by decide) (by decide +kernel) (by decide) ?_
    refine g_aload_n hF d_X3_unary_100 rfl 1 rfl ?_
    refine g_iload_n hF d_X3_unary_101 rfl 2 rfl ?_
    refine g_callV (As := [.int a1]) (rest := []) hF (c_X3_deeper a g r σ0 a1 hgp (by show ¬ ((σ0 3 2).toInt = 0 ∨ (σ0 3 2).toInt = -1); have e0 := s_rng a1; have e1 := s_rng (σ0 3 2); have e2 : (1 : Int32).toInt = 1 := (by decide); have e3 : (59 : Int32).toInt = 59 := (by decide); omega) i0) (Nat.le_of_ble_eq_true rfl) mV_X3_deeper m_943 (recv_ob obC_3) rfl rfl (Nat.le_of_ble_eq_true rfl) d_X3_unary_102 (k_i (fun r78 σ78 ⟨hz78, hp78, ⟨hgp78, hgm78⟩, iσ78, ik78⟩ => ?_)) (fun _ _ _ h => h.elim)
    have hmo78 : Mo σ78 σ0 := fun h9 => mo_e (show σ0 3 3 = σ0 3 3 from rfl) (hgm78 h9)
    have kp : Keep [(3, 1), (3, 2), (3, 3), (3, 4), (3, 9)] [18, 19, 20, 21, 22, 23] σ0 σ78 := keep_c kp ik78 (by decide) (by decide)
    refine g_if_eq hF 167 d_X3_unary_105 (by decide) rfl (fun c79_105 => ?_) (fun c79_105 => ?_)
    · -- taken at 105
      exact g_vret hF rfl d_X3_unary_167 ⟨rfl, rfl, rfl, ⟨⟨hgp78, (fun h9 => (hmo78 (mo_e (show σ78 3 3 = σ78 3 3 from rfl) h9)))⟩, iσ78, kp⟩⟩
    · -- not taken at 105
      refine g_aload_n hF d_X3_unary_108 rfl 1 rfl ?_
      refine g_iload_n hF d_X3_unary_109 rfl 2 rfl ?_
      refine g_iconst hF (v := 1) d_X3_unary_110 (by decide) ?_
      refine g_iadd hF d_X3_unary_111 ?_
      refine g_callV (As := [.int (a1 + 1)]) (rest := []) hF (((ih (by have e0 := s_rng a1; have e1 : (1 : Int32).toInt = 1 := (by decide); obtain ⟨k2, e2⟩ := s_add a1 (1 : Int32); have e2a := s_rng (a1 + 1); have e4 := s_rng r78; have e5 : (0 : Int32).toInt = 0 := (by decide); omega)) σ78 (a1 + 1) (by have e0 := s_rng a1; have e1 : (1 : Int32).toInt = 1 := (by decide); obtain ⟨k2, e2⟩ := s_add a1 (1 : Int32); have e2a := s_rng (a1 + 1); have e4 := s_rng r78; have e5 : (0 : Int32).toInt = 0 := (by decide); omega) (by have e0 := s_rng a1; have e1 : (1 : Int32).toInt = 1 := (by decide); obtain ⟨k2, e2⟩ := s_add a1 (1 : Int32); have e2a := s_rng (a1 + 1); have e4 := s_rng r78; have e5 : (0 : Int32).toInt = 0 := (by decide); omega) iσ78 hgp78).2.2) (by have : 2 ≤ k := (by have e0 := s_rng a1; have e1 : (1 : Int32).toInt = 1 := (by decide); obtain ⟨k2, e2⟩ := s_add a1 (1 : Int32); have e2a := s_rng (a1 + 1); have e4 := s_rng r78; have e5 : (0 : Int32).toInt = 0 := (by decide); omega); omega) mV_X3_unary m_939 (recv_ob obC_3) rfl rfl (Nat.le_of_ble_eq_true rfl) d_X3_unary_112 (k_v (fun σ80 ⟨⟨hgp80, hgm80⟩, iσ80, ik80⟩ => ?_)) (fun _ _ _ h => h.elim)
      have hmo80 : Mo σ80 σ78 := fun h9 => mo_e (show σ78 3 3 = σ78 3 3 from rfl) (hgm80 h9)
      have kp : Keep [(3, 1), (3, 2), (3, 3), (3, 4), (3, 9)] [18, 19, 20, 21, 22, 23] σ0 σ80 := keep_c kp ik80 (by decide) (by decide)
      refine g_aload_n hF d_X3_unary_115 rfl 1 rfl ?_
      refine g_bipush hF (v := 11) d_X3_unary_116 (by decide) ?_
      refine g_iload_n hF d_X3_unary_118 rfl 0 rfl ?_
      refine g_iconst hF (v := 0) d_X3_unary_119 (by decide) ?_
      refine g_iconst hF (v := 0) d_X3_unary_120 (by decide) ?_
      refine g_callV (As := [.int 11, .int (σ0 3 1), .int 0, .int 0]) (rest := []) hF (c_X3_add a g r σ80 (11 : Int32) (σ0 3 1) (0 : Int32) (0 : Int32) (fun h9 => absurd h9 (by decide)) hgp80 iσ80) (Nat.le_of_ble_eq_true rfl) mV_X3_add m_923 (recv_ob obC_3) rfl rfl (Nat.le_of_ble_eq_true rfl) d_X3_unary_121 (k_i (fun r81 σ81 ⟨⟨hgp81, hgm81⟩, iσ81, ik81⟩ => ?_)) (fun _ _ _ h => h.elim)
      have hmo81 : Mo σ81 σ80 := fun h9 => mo_e (show σ80 3 3 = σ80 3 3 from rfl) (hgm81 h9)
      have kp : Keep [(3, 1), (3, 2), (3, 3), (3, 4), (3, 9)] [18, 19, 20, 21, 22, 23] σ0 σ81 := keep_c kp ik81 (by decide) (by decide)
      refine g_pop hF d_X3_unary_124 rfl ?_
      refine g_goto hF 167 d_X3_unary_125 (by decide) ?_
      exact g_vret hF rfl d_X3_unary_167 ⟨rfl, rfl, rfl, ⟨⟨hgp81, (fun h9 => (hmo78 (hmo80 (mo_e (show σ81 3 3 = σ80 3 3 from (ik81 3 3 rfl rfl rfl)) h9))))⟩, iσ81, kp⟩⟩
  refine (Decidable.em ((σ0 3 2).toInt = 60)).elim (fun q82_9_16 => ?_) (fun q82_9_16 => ?_)
  · refine g_tableIn (off := 91) hF 100 d_X3_unary_9 q82_9_16 (by decide) (by decide) (by decide +kernel) (by decide) ?_
    refine g_aload_n hF d_X3_unary_100 rfl 1 rfl ?_
    refine g_iload_n hF d_X3_unary_101 rfl 2 rfl ?_
    refine g_callV (As := [.int a1]) (rest := []) hF (c_X3_deeper a g r σ0 a1 hgp (by show ¬ ((σ0 3 2).toInt = 0 ∨ (σ0 3 2).toInt = -1); have e0 := s_rng a1; have e1 := s_rng (σ0 3 2); have e2 : (1 : Int32).toInt = 1 := (by decide); have e3 : (60 : Int32).toInt = 60 := (by decide); omega) i0) (Nat.le_of_ble_eq_true rfl) mV_X3_deeper m_943 (recv_ob obC_3) rfl rfl (Nat.le_of_ble_eq_true rfl) d_X3_unary_102 (k_i (fun r83 σ83 ⟨hz83, hp83, ⟨hgp83, hgm83⟩, iσ83, ik83⟩ => ?_)) (fun _ _ _ h => h.elim)
    have hmo83 : Mo σ83 σ0 := fun h9 => mo_e (show σ0 3 3 = σ0 3 3 from rfl) (hgm83 h9)
    have kp : Keep [(3, 1), (3, 2), (3, 3), (3, 4), (3, 9)] [18, 19, 20, 21, 22, 23] σ0 σ83 := keep_c kp ik83 (by decide) (by decide)
    refine g_if_eq hF 167 d_X3_unary_105 (by decide) rfl (fun c84_105 => ?_) (fun c84_105 => ?_)
    · -- taken at 105
      exact g_vret hF rfl d_X3_unary_167 ⟨rfl, rfl, rfl, ⟨⟨hgp83, (fun h9 => (hmo83 (mo_e (show σ83 3 3 = σ83 3 3 from rfl) h9)))⟩, iσ83, kp⟩⟩
    · -- not taken at 105
      refine g_aload_n hF d_X3_unary_108 rfl 1 rfl ?_
      refine g_iload_n hF d_X3_unary_109 rfl 2 rfl ?_
      refine g_iconst hF (v := 1) d_X3_unary_110 (by decide) ?_
      refine g_iadd hF d_X3_unary_111 ?_
      refine g_callV (As := [.int (a1 + 1)]) (rest := []) hF (((ih (by have e0 := s_rng a1; have e1 : (1 : Int32).toInt = 1 := (by decide); obtain ⟨k2, e2⟩ := s_add a1 (1 : Int32); have e2a := s_rng (a1 + 1); have e4 := s_rng r83; have e5 : (0 : Int32).toInt = 0 := (by decide); omega)) σ83 (a1 + 1) (by have e0 := s_rng a1; have e1 : (1 : Int32).toInt = 1 := (by decide); obtain ⟨k2, e2⟩ := s_add a1 (1 : Int32); have e2a := s_rng (a1 + 1); have e4 := s_rng r83; have e5 : (0 : Int32).toInt = 0 := (by decide); omega) (by have e0 := s_rng a1; have e1 : (1 : Int32).toInt = 1 := (by decide); obtain ⟨k2, e2⟩ := s_add a1 (1 : Int32); have e2a := s_rng (a1 + 1); have e4 := s_rng r83; have e5 : (0 : Int32).toInt = 0 := (by decide); omega) iσ83 hgp83).2.2) (by have : 2 ≤ k := (by have e0 := s_rng a1; have e1 : (1 : Int32).toInt = 1 := (by decide); obtain ⟨k2, e2⟩ := s_add a1 (1 : Int32); have e2a := s_rng (a1 + 1); have e4 := s_rng r83; have e5 : (0 : Int32).toInt = 0 := (by decide); omega); omega) mV_X3_unary m_939 (recv_ob obC_3) rfl rfl (Nat.le_of_ble_eq_true rfl) d_X3_unary_112 (k_v (fun σ85 ⟨⟨hgp85, hgm85⟩, iσ85, ik85⟩ => ?_)) (fun _ _ _ h => h.elim)
      have hmo85 : Mo σ85 σ83 := fun h9 => mo_e (show σ83 3 3 = σ83 3 3 from rfl) (hgm85 h9)
      have kp : Keep [(3, 1), (3, 2), (3, 3), (3, 4), (3, 9)] [18, 19, 20, 21, 22, 23] σ0 σ85 := keep_c kp ik85 (by decide) (by decide)
      refine g_aload_n hF d_X3_unary_115 rfl 1 rfl ?_
      refine g_bipush hF (v := 11) d_X3_unary_116 (by decide) ?_
      refine g_iload_n hF d_X3_unary_118 rfl 0 rfl ?_
      refine g_iconst hF (v := 0) d_X3_unary_119 (by decide) ?_
      refine g_iconst hF (v := 0) d_X3_unary_120 (by decide) ?_
      refine g_callV (As := [.int 11, .int (σ0 3 1), .int 0, .int 0]) (rest := []) hF (c_X3_add a g r σ85 (11 : Int32) (σ0 3 1) (0 : Int32) (0 : Int32) (fun h9 => absurd h9 (by decide)) hgp85 iσ85) (Nat.le_of_ble_eq_true rfl) mV_X3_add m_923 (recv_ob obC_3) rfl rfl (Nat.le_of_ble_eq_true rfl) d_X3_unary_121 (k_i (fun r86 σ86 ⟨⟨hgp86, hgm86⟩, iσ86, ik86⟩ => ?_)) (fun _ _ _ h => h.elim)
      have hmo86 : Mo σ86 σ85 := fun h9 => mo_e (show σ85 3 3 = σ85 3 3 from rfl) (hgm86 h9)
      have kp : Keep [(3, 1), (3, 2), (3, 3), (3, 4), (3, 9)] [18, 19, 20, 21, 22, 23] σ0 σ86 := keep_c kp ik86 (by decide) (by decide)
      refine g_pop hF d_X3_unary_124 rfl ?_
      refine g_goto hF 167 d_X3_unary_125 (by decide) ?_
      exact g_vret hF rfl d_X3_unary_167 ⟨rfl, rfl, rfl, ⟨⟨hgp86, (fun h9 => (hmo83 (hmo85 (mo_e (show σ86 3 3 = σ85 3 3 from (ik86 3 3 rfl rfl rfl)) h9))))⟩, iσ86, kp⟩⟩
  refine (Decidable.em ((σ0 3 2).toInt = 61)).elim (fun q87_9_17 => ?_) (fun q87_9_17 => ?_)
  · refine g_tableIn (off := 91) hF 100 d_X3_unary_9 q87_9_17 (by decide) (by decide) (by decide +kernel) (by decide) ?_
    refine g_aload_n hF d_X3_unary_100 rfl 1 rfl ?_
    refine g_iload_n hF d_X3_unary_101 rfl 2 rfl ?_
    refine g_callV (As := [.int a1]) (rest := []) hF (c_X3_deeper a g r σ0 a1 hgp (by show ¬ ((σ0 3 2).toInt = 0 ∨ (σ0 3 2).toInt = -1); have e0 := s_rng a1; have e1 := s_rng (σ0 3 2); have e2 : (1 : Int32).toInt = 1 := (by decide); have e3 : (61 : Int32).toInt = 61 := (by decide); omega) i0) (Nat.le_of_ble_eq_true rfl) mV_X3_deeper m_943 (recv_ob obC_3) rfl rfl (Nat.le_of_ble_eq_true rfl) d_X3_unary_102 (k_i (fun r88 σ88 ⟨hz88, hp88, ⟨hgp88, hgm88⟩, iσ88, ik88⟩ => ?_)) (fun _ _ _ h => h.elim)
    have hmo88 : Mo σ88 σ0 := fun h9 => mo_e (show σ0 3 3 = σ0 3 3 from rfl) (hgm88 h9)
    have kp : Keep [(3, 1), (3, 2), (3, 3), (3, 4), (3, 9)] [18, 19, 20, 21, 22, 23] σ0 σ88 := keep_c kp ik88 (by decide) (by decide)
    refine g_if_eq hF 167 d_X3_unary_105 (by decide) rfl (fun c89_105 => ?_) (fun c89_105 => ?_)
    · -- taken at 105
      exact g_vret hF rfl d_X3_unary_167 ⟨rfl, rfl, rfl, ⟨⟨hgp88, (fun h9 => (hmo88 (mo_e (show σ88 3 3 = σ88 3 3 from rfl) h9)))⟩, iσ88, kp⟩⟩
    · -- not taken at 105
      refine g_aload_n hF d_X3_unary_108 rfl 1 rfl ?_
      refine g_iload_n hF d_X3_unary_109 rfl 2 rfl ?_
      refine g_iconst hF (v := 1) d_X3_unary_110 (by decide) ?_
      refine g_iadd hF d_X3_unary_111 ?_
      refine g_callV (As := [.int (a1 + 1)]) (rest := []) hF (((ih (by have e0 := s_rng a1; have e1 : (1 : Int32).toInt = 1 := (by decide); obtain ⟨k2, e2⟩ := s_add a1 (1 : Int32); have e2a := s_rng (a1 + 1); have e4 := s_rng r88; have e5 : (0 : Int32).toInt = 0 := (by decide); omega)) σ88 (a1 + 1) (by have e0 := s_rng a1; have e1 : (1 : Int32).toInt = 1 := (by decide); obtain ⟨k2, e2⟩ := s_add a1 (1 : Int32); have e2a := s_rng (a1 + 1); have e4 := s_rng r88; have e5 : (0 : Int32).toInt = 0 := (by decide); omega) (by have e0 := s_rng a1; have e1 : (1 : Int32).toInt = 1 := (by decide); obtain ⟨k2, e2⟩ := s_add a1 (1 : Int32); have e2a := s_rng (a1 + 1); have e4 := s_rng r88; have e5 : (0 : Int32).toInt = 0 := (by decide); omega) iσ88 hgp88).2.2) (by have : 2 ≤ k := (by have e0 := s_rng a1; have e1 : (1 : Int32).toInt = 1 := (by decide); obtain ⟨k2, e2⟩ := s_add a1 (1 : Int32); have e2a := s_rng (a1 + 1); have e4 := s_rng r88; have e5 : (0 : Int32).toInt = 0 := (by decide); omega); omega) mV_X3_unary m_939 (recv_ob obC_3) rfl rfl (Nat.le_of_ble_eq_true rfl) d_X3_unary_112 (k_v (fun σ90 ⟨⟨hgp90, hgm90⟩, iσ90, ik90⟩ => ?_)) (fun _ _ _ h => h.elim)
      have hmo90 : Mo σ90 σ88 := fun h9 => mo_e (show σ88 3 3 = σ88 3 3 from rfl) (hgm90 h9)
      have kp : Keep [(3, 1), (3, 2), (3, 3), (3, 4), (3, 9)] [18, 19, 20, 21, 22, 23] σ0 σ90 := keep_c kp ik90 (by decide) (by decide)
      refine g_aload_n hF d_X3_unary_115 rfl 1 rfl ?_
      refine g_bipush hF (v := 11) d_X3_unary_116 (by decide) ?_
      refine g_iload_n hF d_X3_unary_118 rfl 0 rfl ?_
      refine g_iconst hF (v := 0) d_X3_unary_119 (by decide) ?_
      refine g_iconst hF (v := 0) d_X3_unary_120 (by decide) ?_
      refine g_callV (As := [.int 11, .int (σ0 3 1), .int 0, .int 0]) (rest := []) hF (c_X3_add a g r σ90 (11 : Int32) (σ0 3 1) (0 : Int32) (0 : Int32) (fun h9 => absurd h9 (by decide)) hgp90 iσ90) (Nat.le_of_ble_eq_true rfl) mV_X3_add m_923 (recv_ob obC_3) rfl rfl (Nat.le_of_ble_eq_true rfl) d_X3_unary_121 (k_i (fun r91 σ91 ⟨⟨hgp91, hgm91⟩, iσ91, ik91⟩ => ?_)) (fun _ _ _ h => h.elim)
      have hmo91 : Mo σ91 σ90 := fun h9 => mo_e (show σ90 3 3 = σ90 3 3 from rfl) (hgm91 h9)
      have kp : Keep [(3, 1), (3, 2), (3, 3), (3, 4), (3, 9)] [18, 19, 20, 21, 22, 23] σ0 σ91 := keep_c kp ik91 (by decide) (by decide)
      refine g_pop hF d_X3_unary_124 rfl ?_
      refine g_goto hF 167 d_X3_unary_125 (by decide) ?_
      exact g_vret hF rfl d_X3_unary_167 ⟨rfl, rfl, rfl, ⟨⟨hgp91, (fun h9 => (hmo88 (hmo90 (mo_e (show σ91 3 3 = σ90 3 3 from (ik91 3 3 rfl rfl rfl)) h9))))⟩, iσ91, kp⟩⟩
  refine (Decidable.em ((σ0 3 2).toInt = 62)).elim (fun q92_9_18 => ?_) (fun q92_9_18 => ?_)
  · refine g_tableIn (off := 91) hF 100 d_X3_unary_9 q92_9_18 (by decide) (by decide) (by decide +kernel) (by decide) ?_
    refine g_aload_n hF d_X3_unary_100 rfl 1 rfl ?_
    refine g_iload_n hF d_X3_unary_101 rfl 2 rfl ?_
    refine g_callV (As := [.int a1]) (rest := []) hF (c_X3_deeper a g r σ0 a1 hgp (by show ¬ ((σ0 3 2).toInt = 0 ∨ (σ0 3 2).toInt = -1); have e0 := s_rng a1; have e1 := s_rng (σ0 3 2); have e2 : (1 : Int32).toInt = 1 := (by decide); have e3 : (62 : Int32).toInt = 62 := (by decide); omega) i0) (Nat.le_of_ble_eq_true rfl) mV_X3_deeper m_943 (recv_ob obC_3) rfl rfl (Nat.le_of_ble_eq_true rfl) d_X3_unary_102 (k_i (fun r93 σ93 ⟨hz93, hp93, ⟨hgp93, hgm93⟩, iσ93, ik93⟩ => ?_)) (fun _ _ _ h => h.elim)
    have hmo93 : Mo σ93 σ0 := fun h9 => mo_e (show σ0 3 3 = σ0 3 3 from rfl) (hgm93 h9)
    have kp : Keep [(3, 1), (3, 2), (3, 3), (3, 4), (3, 9)] [18, 19, 20, 21, 22, 23] σ0 σ93 := keep_c kp ik93 (by decide) (by decide)
    refine g_if_eq hF 167 d_X3_unary_105 (by decide) rfl (fun c94_105 => ?_) (fun c94_105 => ?_)
    · -- taken at 105
      exact g_vret hF rfl d_X3_unary_167 ⟨rfl, rfl, rfl, ⟨⟨hgp93, (fun h9 => (hmo93 (mo_e (show σ93 3 3 = σ93 3 3 from rfl) h9)))⟩, iσ93, kp⟩⟩
    · -- not taken at 105
      refine g_aload_n hF d_X3_unary_108 rfl 1 rfl ?_
      refine g_iload_n hF d_X3_unary_109 rfl 2 rfl ?_
      refine g_iconst hF (v := 1) d_X3_unary_110 (by decide) ?_
      refine g_iadd hF d_X3_unary_111 ?_
      refine g_callV (As := [.int (a1 + 1)]) (rest := []) hF (((ih (by have e0 := s_rng a1; have e1 : (1 : Int32).toInt = 1 := (by decide); obtain ⟨k2, e2⟩ := s_add a1 (1 : Int32); have e2a := s_rng (a1 + 1); have e4 := s_rng r93; have e5 : (0 : Int32).toInt = 0 := (by decide); omega)) σ93 (a1 + 1) (by have e0 := s_rng a1; have e1 : (1 : Int32).toInt = 1 := (by decide); obtain ⟨k2, e2⟩ := s_add a1 (1 : Int32); have e2a := s_rng (a1 + 1); have e4 := s_rng r93; have e5 : (0 : Int32).toInt = 0 := (by decide); omega) (by have e0 := s_rng a1; have e1 : (1 : Int32).toInt = 1 := (by decide); obtain ⟨k2, e2⟩ := s_add a1 (1 : Int32); have e2a := s_rng (a1 + 1); have e4 := s_rng r93; have e5 : (0 : Int32).toInt = 0 := (by decide); omega) iσ93 hgp93).2.2) (by have : 2 ≤ k := (by have e0 := s_rng a1; have e1 : (1 : Int32).toInt = 1 := (by decide); obtain ⟨k2, e2⟩ := s_add a1 (1 : Int32); have e2a := s_rng (a1 + 1); have e4 := s_rng r93; have e5 : (0 : Int32).toInt = 0 := (by decide); omega); omega) mV_X3_unary m_939 (recv_ob obC_3) rfl rfl (Nat.le_of_ble_eq_true rfl) d_X3_unary_112 (k_v (fun σ95 ⟨⟨hgp95, hgm95⟩, iσ95, ik95⟩ => ?_)) (fun _ _ _ h => h.elim)
      have hmo95 : Mo σ95 σ93 := fun h9 => mo_e (show σ93 3 3 = σ93 3 3 from rfl) (hgm95 h9)
      have kp : Keep [(3, 1), (3, 2), (3, 3), (3, 4), (3, 9)] [18, 19, 20, 21, 22, 23] σ0 σ95 := keep_c kp ik95 (by decide) (by decide)
      refine g_aload_n hF d_X3_unary_115 rfl 1 rfl ?_
      refine g_bipush hF (v := 11) d_X3_unary_116 (by decide) ?_
      refine g_iload_n hF d_X3_unary_118 rfl 0 rfl ?_
      refine g_iconst hF (v := 0) d_X3_unary_119 (by decide) ?_
      refine g_iconst hF (v := 0) d_X3_unary_120 (by decide) ?_
      refine g_callV (As := [.int 11, .int (σ0 3 1), .int 0, .int 0]) (rest := []) hF (c_X3_add a g r σ95 (11 : Int32) (σ0 3 1) (0 : Int32) (0 : Int32) (fun h9 => absurd h9 (by decide)) hgp95 iσ95) (Nat.le_of_ble_eq_true rfl) mV_X3_add m_923 (recv_ob obC_3) rfl rfl (Nat.le_of_ble_eq_true rfl) d_X3_unary_121 (k_i (fun r96 σ96 ⟨⟨hgp96, hgm96⟩, iσ96, ik96⟩ => ?_)) (fun _ _ _ h => h.elim)
      have hmo96 : Mo σ96 σ95 := fun h9 => mo_e (show σ95 3 3 = σ95 3 3 from rfl) (hgm96 h9)
      have kp : Keep [(3, 1), (3, 2), (3, 3), (3, 4), (3, 9)] [18, 19, 20, 21, 22, 23] σ0 σ96 := keep_c kp ik96 (by decide) (by decide)
      refine g_pop hF d_X3_unary_124 rfl ?_
      refine g_goto hF 167 d_X3_unary_125 (by decide) ?_
      exact g_vret hF rfl d_X3_unary_167 ⟨rfl, rfl, rfl, ⟨⟨hgp96, (fun h9 => (hmo93 (hmo95 (mo_e (show σ96 3 3 = σ95 3 3 from (ik96 3 3 rfl rfl rfl)) h9))))⟩, iσ96, kp⟩⟩
  refine g_tableOut hF 128 d_X3_unary_9 rfl (by omega) (by decide) ?_
  refine g_aload_n hF d_X3_unary_128 rfl 1 rfl ?_
  refine g_get (v := .int (σ0 3 2)) hF 2 obC_3 (by decide) m_96 rfl d_X3_unary_129 ?_
  refine g_bipush hF (v := 20) d_X3_unary_132 (by decide) ?_
  refine g_icmp_ne (yv := 20) hF 162 d_X3_unary_134 (by decide) rfl (by decide) (fun c97_134 => ?_) (fun c97_134 => ?_)
  · -- taken at 134
    exact g_sub (L' := [(0, .ref (r 3)), (1, .int a1), (2, .int (σ0 3 1))]) [1, 2, 0] rfl (b162 σ0 a1 (σ0 3 1) i0 kp hgp (fun h9 => (mo_e (show σ0 3 3 = σ0 3 3 from rfl) h9)) h1 hk)
  · -- not taken at 134
    refine g_aload_n hF d_X3_unary_137 rfl 1 rfl ?_
    refine g_get (v := .ref (r 2)) hF 0 obC_3 (by decide) m_94 rfl d_X3_unary_138 ?_
    refine g_getN (v := .ref (r 13)) hF 5 obC_2 (by decide) nm_50 rfl d_X3_unary_141 ?_
    refine g_iload_n hF d_X3_unary_144 rfl 0 rfl ?_
    refine g_iconst hF (v := 1) d_X3_unary_145 (by decide) ?_
    refine g_iadd hF d_X3_unary_146 ?_
    refine g_callSN (As := [.ref (r 13), .int ((σ0 3 1) + 1)]) (rest := []) hF (c_at a g r σ0 arC_13 (by decide) ((σ0 3 1) + 1)) (Nat.le_of_ble_eq_true rfl) mS_X12_at nm_947 rfl rfl (Nat.le_of_ble_eq_true rfl) d_X3_unary_147 (k_rop (fun r98 hr98 => ?_))
    refine g_iconst hF (v := 5) d_X3_unary_150 (by decide) ?_
    refine g_icmp_ne (yv := 5) hF 162 d_X3_unary_151 (by decide) rfl (by decide) (fun c99_151 => ?_) (fun c99_151 => ?_)
    · -- taken at 151
      exact g_sub (L' := [(0, .ref (r 3)), (1, .int a1), (2, .int (σ0 3 1))]) [1, 2, 0] rfl (b162 σ0 a1 (σ0 3 1) i0 kp hgp (fun h9 => (mo_e (show σ0 3 3 = σ0 3 3 from rfl) h9)) h1 hk)
    · -- not taken at 151
      refine g_aload_n hF d_X3_unary_154 rfl 1 rfl ?_
      refine g_iload_n hF d_X3_unary_155 rfl 2 rfl ?_
      refine g_callV (As := [.int a1]) (rest := []) hF (c_X3_cast a g r k σ0 a1 ih h1 hk hgp (by show ¬ ((σ0 3 2).toInt = 0 ∨ (σ0 3 2).toInt = -1); have e0 := s_rng a1; have e1 := s_rng (σ0 3 2); have e2 : (1 : Int32).toInt = 1 := (by decide); have e3 : (20 : Int32).toInt = 20 := (by decide); omega) i0) (by omega) mV_X3_cast m_950 (recv_ob obC_3) rfl rfl (Nat.le_of_ble_eq_true rfl) d_X3_unary_156 (k_v (fun σ100 ⟨⟨hgp100, hgm100⟩, iσ100, ik100⟩ => ?_)) (fun _ _ _ h => h.elim)
      have hmo100 : Mo σ100 σ0 := fun h9 => mo_e (show σ0 3 3 = σ0 3 3 from rfl) (hgm100 h9)
      have kp : Keep [(3, 1), (3, 2), (3, 3), (3, 4), (3, 9)] [18, 19, 20, 21, 22, 23] σ0 σ100 := keep_c kp ik100 (by decide) (by decide)
      refine g_goto hF 167 d_X3_unary_159 (by decide) ?_
      exact g_vret hF rfl d_X3_unary_167 ⟨rfl, rfl, rfl, ⟨⟨hgp100, (fun h9 => (hmo100 (mo_e (show σ100 3 3 = σ100 3 3 from rfl) h9)))⟩, iσ100, kp⟩⟩
set_option maxHeartbeats 4000000 in
set_option maxRecDepth 100000 in
theorem c_X3_binary (a : Nat → Nat) (g : Nat → Nat → Int32) (r : Nat → Nat) (k : Nat) (σ0 : St) (a1 : Int32) (ih : 2 ≤ k → RX a g r (k - 1)) (h1 : 1 ≤ a1.toInt) (hk : a1.toInt + (k : Int) = 26) (hgp : GPS σ0) (i0 : Inv σ0) (l : Launch) (D : va_G) (cy : Nat → ClassId) : Ct l D cy SC r (EC a g) y_X3_binary (Cond.code y_X3_binary b_X3_binary 4 none) (14 * k + 6) [.ref (r 3), .int a1] σ0 Z0 [] (QV (fun σ9 => ((GPS σ9 ∧ Mo σ9 σ0) ∧ (Inv σ9 ∧ Keep [(3, 1), (3, 2), (3, 3), (3, 4), (3, 9)] [18, 19, 20, 21, 22, 23] σ0 σ9)))) QF := by
  refine Ct_of (EC_ok a g) (by decide) (Nat.le_of_ble_eq_true rfl) (by decide) (fun X hnn hF => ?_)
  show G SC r X σ0 Z0 [] [(0, .ref (r 3)), (1, .int a1)] [] 0
  have b18 : ∀ (N : Nat) (σ : St) (x1 : Int32) (x2 : Int32) (x3 : Int32) , dnm x3 = N → Inv σ → Keep [(3, 1), (3, 2), (3, 3), (3, 4), (3, 9)] [18, 19, 20, 21, 22, 23] σ0 σ → GPS σ → Mo σ σ0 → 1 ≤ x1.toInt → x1.toInt + (k : Int) = 26 → G SC r X σ Z0 [] [(0, .ref (r 3)), (1, .int x1), (2, .int x2), (3, .int x3)] [] 18 := by
    intro M18
    induction M18 using Nat.strongRecOn with
    | _ M18 ih18 =>
      intro σ x1 x2 x3 N18 inv kp hgp hgm h1 hk
      refine g_iload_n hF d_X3_binary_18 rfl 3 rfl ?_
      refine g_if_le hF 97 d_X3_binary_19 (by decide) rfl (fun c1_19 => ?_) (fun c1_19 => ?_)
      · -- taken at 19
        refine g_aload_n hF d_X3_binary_97 rfl 0 rfl ?_
        refine g_iload_n hF d_X3_binary_98 rfl 2 rfl ?_
        refine g_iconst hF (v := 0) d_X3_binary_99 (by decide) ?_
        refine g_callV (As := [.int x2, .int 0]) (rest := []) hF (c_X3_settle a g r σ x2 (0 : Int32) hgp inv) (Nat.le_of_ble_eq_true rfl) mV_X3_settle m_975 (recv_ob obC_3) rfl rfl (Nat.le_of_ble_eq_true rfl) d_X3_binary_100 (k_v (fun σ2 ⟨⟨hgp2, hgm2⟩, iσ2, ik2⟩ => ?_)) (fun _ _ _ h => h.elim)
        have hmo2 : Mo σ2 σ := fun h9 => mo_e (show σ 3 3 = σ 3 3 from rfl) (hgm2 h9)
        have kp : Keep [(3, 1), (3, 2), (3, 3), (3, 4), (3, 9)] [18, 19, 20, 21, 22, 23] σ0 σ2 := keep_c kp ik2 (by decide) (by decide)
        exact g_vret hF rfl d_X3_binary_103 ⟨rfl, rfl, rfl, ⟨⟨hgp2, (fun h9 => (hgm (mo_e (show σ2 3 3 = σ 3 3 from (ik2 3 3 rfl rfl rfl)) h9)))⟩, iσ2, kp⟩⟩
      · -- not taken at 19
        refine g_aload_n hF d_X3_binary_22 rfl 0 rfl ?_
        refine g_get (v := .int (σ 3 2)) hF 2 obC_3 (by decide) m_96 rfl d_X3_binary_23 ?_
        refine g_callS (As := [.int (σ 3 2)]) (rest := []) hF (c_X3_levelOf a g r σ (σ 3 2) inv) (Nat.le_of_ble_eq_true rfl) mS_X3_levelOf m_970 rfl rfl (Nat.le_of_ble_eq_true rfl) d_X3_binary_26 (k_rop (fun r3 hp3 => ?_)) (fun _ _ _ h => h.elim)
        have hp3 : (0 : Int) < r3.toInt → 1 ≤ (σ 3 2).toInt := hp3
        refine g_if_le hF 97 d_X3_binary_29 (by decide) rfl (fun c4_29 => ?_) (fun c4_29 => ?_)
        · -- taken at 29
          refine g_aload_n hF d_X3_binary_97 rfl 0 rfl ?_
          refine g_iload_n hF d_X3_binary_98 rfl 2 rfl ?_
          refine g_iconst hF (v := 0) d_X3_binary_99 (by decide) ?_
          refine g_callV (As := [.int x2, .int 0]) (rest := []) hF (c_X3_settle a g r σ x2 (0 : Int32) hgp inv) (Nat.le_of_ble_eq_true rfl) mV_X3_settle m_975 (recv_ob obC_3) rfl rfl (Nat.le_of_ble_eq_true rfl) d_X3_binary_100 (k_v (fun σ5 ⟨⟨hgp5, hgm5⟩, iσ5, ik5⟩ => ?_)) (fun _ _ _ h => h.elim)
          have hmo5 : Mo σ5 σ := fun h9 => mo_e (show σ 3 3 = σ 3 3 from rfl) (hgm5 h9)
          have kp : Keep [(3, 1), (3, 2), (3, 3), (3, 4), (3, 9)] [18, 19, 20, 21, 22, 23] σ0 σ5 := keep_c kp ik5 (by decide) (by decide)
          exact g_vret hF rfl d_X3_binary_103 ⟨rfl, rfl, rfl, ⟨⟨hgp5, (fun h9 => (hgm (mo_e (show σ5 3 3 = σ 3 3 from (ik5 3 3 rfl rfl rfl)) h9)))⟩, iσ5, kp⟩⟩
        · -- not taken at 29
          refine g_aload_n hF d_X3_binary_32 rfl 0 rfl ?_
          refine g_iload_n hF d_X3_binary_33 rfl 2 rfl ?_
          refine g_aload_n hF d_X3_binary_34 rfl 0 rfl ?_
          refine g_get (v := .int (σ 3 2)) hF 2 obC_3 (by decide) m_96 rfl d_X3_binary_35 ?_
          refine g_callS (As := [.int (σ 3 2)]) (rest := [.int x2, .ref (r 3)]) hF (c_X3_levelOf a g r σ (σ 3 2) inv) (Nat.le_of_ble_eq_true rfl) mS_X3_levelOf m_970 rfl rfl (Nat.le_of_ble_eq_true rfl) d_X3_binary_38 (k_rop (fun r6 hp6 => ?_)) (fun _ _ _ h => h.elim)
          have hp6 : (0 : Int) < r6.toInt → 1 ≤ (σ 3 2).toInt := hp6
          refine g_callV (As := [.int x2, .int r6]) (rest := []) hF (c_X3_settle a g r σ x2 r6 hgp inv) (Nat.le_of_ble_eq_true rfl) mV_X3_settle m_975 (recv_ob obC_3) rfl rfl (Nat.le_of_ble_eq_true rfl) d_X3_binary_41 (k_v (fun σ7 ⟨⟨hgp7, hgm7⟩, iσ7, ik7⟩ => ?_)) (fun _ _ _ h => h.elim)
          have hmo7 : Mo σ7 σ := fun h9 => mo_e (show σ 3 3 = σ 3 3 from rfl) (hgm7 h9)
          have kp : Keep [(3, 1), (3, 2), (3, 3), (3, 4), (3, 9)] [18, 19, 20, 21, 22, 23] σ0 σ7 := keep_c kp ik7 (by decide) (by decide)
          refine g_aload_n hF d_X3_binary_44 rfl 0 rfl ?_
          refine g_get (v := .ref (r 22)) hF 10 obC_3 (by decide) m_115 rfl d_X3_binary_45 ?_
          refine g_aload_n hF d_X3_binary_48 rfl 0 rfl ?_
          refine g_get (v := .int (σ7 3 9)) hF 9 obC_3 (by decide) m_114 rfl d_X3_binary_49 ?_
          refine g_aload_n hF d_X3_binary_52 rfl 0 rfl ?_
          refine g_get (v := .int (σ7 3 1)) hF 1 obC_3 (by decide) m_95 rfl d_X3_binary_53 ?_
          refine g_top (v := (σ 3 1)) (ik7 3 1 rfl rfl rfl) ?_
          refine g_callSN (As := [.ref (r 22), .int (σ7 3 9), .int (σ 3 1)]) (rest := []) hF (c_set a g r σ7 arC_22 (by decide) (σ7 3 9) (σ 3 1)) (Nat.le_of_ble_eq_true rfl) mS_X12_set nm_979 rfl rfl (Nat.le_of_ble_eq_true rfl) d_X3_binary_56 (k_v (fun σ8 ⟨g8, eσ8, hg8⟩ => ?_))
          subst eσ8
          have kp : Keep [(3, 1), (3, 2), (3, 3), (3, 4), (3, 9)] [18, 19, 20, 21, 22, 23] σ0 (upF σ7 22 g8) := keep_F kp (by decide)
          refine g_aload_n hF d_X3_binary_59 rfl 0 rfl ?_
          refine g_dup hF d_X3_binary_60 rfl ?_
          refine g_get (v := .int (σ7 3 9)) hF 9 obC_3 (by decide) m_114 rfl d_X3_binary_61 ?_
          refine g_iconst hF (v := 1) d_X3_binary_64 (by decide) ?_
          refine g_iadd hF d_X3_binary_65 ?_
          refine g_put (v := ((σ7 3 9) + 1)) hF 9 obC_3 (by decide) m_114 rfl rfl rfl d_X3_binary_66 ?_
          have kp : Keep [(3, 1), (3, 2), (3, 3), (3, 4), (3, 9)] [18, 19, 20, 21, 22, 23] σ0 (upC (upF σ7 22 g8) 3 9 ((σ7 3 9) + 1)) := keep_f kp (by decide)
          refine g_aload_n hF d_X3_binary_69 rfl 0 rfl ?_
          refine g_bipush hF (v := 7) d_X3_binary_70 (by decide) ?_
          refine g_aload_n hF d_X3_binary_72 rfl 0 rfl ?_
          refine g_get (v := .int (σ7 3 1)) hF 1 obC_3 (by decide) m_95 rfl d_X3_binary_73 ?_
          refine g_top (v := (σ 3 1)) (ik7 3 1 rfl rfl rfl) ?_
          refine g_iconst hF (v := 0) d_X3_binary_76 (by decide) ?_
          refine g_iconst hF (v := 0) d_X3_binary_77 (by decide) ?_
          have j10 : Inv (upC (upF σ7 22 g8) 3 9 ((σ7 3 9) + 1)) := ⟨iσ7.1, iσ7.2.1, iσ7.2.2.1, iσ7.2.2.2.1, iσ7.2.2.2.2.1, iσ7.2.2.2.2.2.1, iσ7.2.2.2.2.2.2.1, iσ7.2.2.2.2.2.2.2.1, iσ7.2.2.2.2.2.2.2.2.1, iσ7.2.2.2.2.2.2.2.2.2.1, iσ7.2.2.2.2.2.2.2.2.2.2.1, iσ7.2.2.2.2.2.2.2.2.2.2.2.1, iσ7.2.2.2.2.2.2.2.2.2.2.2.2.1, iσ7.2.2.2.2.2.2.2.2.2.2.2.2.2.1, iσ7.2.2.2.2.2.2.2.2.2.2.2.2.2.2.1, iσ7.2.2.2.2.2.2.2.2.2.2.2.2.2.2.2.1, iσ7.2.2.2.2.2.2.2.2.2.2.2.2.2.2.2.2.1, iσ7.2.2.2.2.2.2.2.2.2.2.2.2.2.2.2.2.2.1, iσ7.2.2.2.2.2.2.2.2.2.2.2.2.2.2.2.2.2.2.1, iσ7.2.2.2.2.2.2.2.2.2.2.2.2.2.2.2.2.2.2.2⟩
          refine g_callV (As := [.int 7, .int (σ 3 1), .int 0, .int 0]) (rest := []) hF (c_X3_add a g r (upC (upF σ7 22 g8) 3 9 ((σ7 3 9) + 1)) (7 : Int32) (σ 3 1) (0 : Int32) (0 : Int32) (fun h9 => absurd h9 (by decide)) hgp7 j10) (Nat.le_of_ble_eq_true rfl) mV_X3_add m_923 (recv_ob obC_3) rfl rfl (Nat.le_of_ble_eq_true rfl) d_X3_binary_78 (k_i (fun r9 σ9 ⟨⟨hgp9, hgm9⟩, iσ9, ik9⟩ => ?_)) (fun _ _ _ h => h.elim)
          have hmo9 : Mo σ9 σ := fun h9 => mo_e (show (upC (upF σ7 22 g8) 3 9 ((σ7 3 9) + 1)) 3 3 = σ 3 3 from (ik7 3 3 rfl rfl rfl)) (hgm9 h9)
          have kp : Keep [(3, 1), (3, 2), (3, 3), (3, 4), (3, 9)] [18, 19, 20, 21, 22, 23] σ0 σ9 := keep_c kp ik9 (by decide) (by decide)
          refine g_pop hF d_X3_binary_81 rfl ?_
          refine g_aload_n hF d_X3_binary_82 rfl 0 rfl ?_
          refine g_callV (As := []) (rest := []) hF (c_X3_advance a g r σ9 hgp9.2.2 (by rw [show (σ9 3 1) = (σ 3 1) from ((ik9 3 1 rfl rfl rfl).trans (ik7 3 1 rfl rfl rfl))]; show -1 ≤ (σ 3 1).toInt ∧ (σ 3 1).toInt ≤ 16001; have hki := hgp9.2.1.1; have hgz := hgp9.1; have hq91 : (σ9 3 1).toInt = (σ 3 1).toInt := (by rw [show (σ9 3 1) = (σ 3 1) from ((ik9 3 1 rfl rfl rfl).trans (ik7 3 1 rfl rfl rfl))]); have hq92 : (σ9 3 2).toInt = (σ 3 2).toInt := (by rw [show (σ9 3 2) = (σ 3 2) from ((ik9 3 2 rfl rfl rfl).trans (ik7 3 2 rfl rfl rfl))]); have e0 := s_rng (σ 3 1); have e1 := s_rng (σ0 3 1); omega) iσ9) (Nat.le_of_ble_eq_true rfl) mV_X3_advance m_899 (recv_ob obC_3) rfl rfl (Nat.le_of_ble_eq_true rfl) d_X3_binary_83 (k_v (fun σ11 ⟨⟨hgp11, hgm11⟩, hs11, iσ11, ik11⟩ => ?_)) (fun _ _ _ h => h.elim)
          have hs11 : (σ11 3 1).toInt = (σ 3 1).toInt + 1 := (by have h9 := hs11; rw [show (σ9 3 1) = (σ 3 1) from ((ik9 3 1 rfl rfl rfl).trans (ik7 3 1 rfl rfl rfl))] at h9; exact h9)
          have hmo11 : Mo σ11 σ := fun h9 => mo_e (show σ9 3 3 = σ 3 3 from ((ik9 3 3 rfl rfl rfl).trans (ik7 3 3 rfl rfl rfl))) (hgm11 h9)
          have kp : Keep [(3, 1), (3, 2), (3, 3), (3, 4), (3, 9)] [18, 19, 20, 21, 22, 23] σ0 σ11 := keep_c kp ik11 (by decide) (by decide)
          refine g_aload_n hF d_X3_binary_86 rfl 0 rfl ?_
          refine g_iload_n hF d_X3_binary_87 rfl 1 rfl ?_
          refine g_callV (As := [.int x1]) (rest := []) hF (c_X3_unary a g r k σ11 x1 ih h1 hk hgp11 iσ11) (by omega) mV_X3_unary m_939 (recv_ob obC_3) rfl rfl (Nat.le_of_ble_eq_true rfl) d_X3_binary_88 (k_v (fun σ12 ⟨⟨hgp12, hgm12⟩, iσ12, ik12⟩ => ?_)) (fun _ _ _ h => h.elim)
          have hmo12 : Mo σ12 σ := fun h9 => mo_e (show σ11 3 3 = σ 3 3 from ((ik11 3 3 rfl rfl rfl).trans ((ik9 3 3 rfl rfl rfl).trans (ik7 3 3 rfl rfl rfl)))) (hgm12 h9)
          have kp : Keep [(3, 1), (3, 2), (3, 3), (3, 4), (3, 9)] [18, 19, 20, 21, 22, 23] σ0 σ12 := keep_c kp ik12 (by decide) (by decide)
          refine g_iinc hF (x3 + (-1)) [(3, .int (x3 + (-1))), (0, .ref (r 3)), (1, .int x1), (2, .int x2)] d_X3_binary_91 3 rfl rfl hnn (by decide) rfl ?_
          refine g_goto hF 18 d_X3_binary_94 (by decide) ?_
          exact g_sub (L' := [(0, .ref (r 3)), (1, .int x1), (2, .int x2), (3, .int (x3 + (-1)))]) [1, 2, 3, 0] rfl (ih18 _ (N18 ▸ dnm_lt c1_19 (by decide)) σ12 x1 x2 (x3 + (-1)) rfl iσ12 kp hgp12 (fun h9 => (hgm (hmo12 (mo_e (show σ12 3 3 = σ12 3 3 from rfl) h9)))) h1 hk)
  have kp : Keep [(3, 1), (3, 2), (3, 3), (3, 4), (3, 9)] [18, 19, 20, 21, 22, 23] σ0 σ0 := keep_rf
  refine g_aload_n hF d_X3_binary_0 rfl 0 rfl ?_
  refine g_get (v := .int (σ0 3 9)) hF 9 obC_3 (by decide) m_114 rfl d_X3_binary_1 ?_
  refine g_istore_n hF [(2, .int (σ0 3 9)), (0, .ref (r 3)), (1, .int a1)] d_X3_binary_4 rfl hnn (by decide) rfl ?_
  refine g_aload_n hF d_X3_binary_5 rfl 1 rfl ?_
  refine g_iload_n hF d_X3_binary_6 rfl 2 rfl ?_
  refine g_callV (As := [.int a1]) (rest := []) hF (c_X3_unary a g r k σ0 a1 ih h1 hk hgp i0) (by omega) mV_X3_unary m_939 (recv_ob obC_3) rfl rfl (Nat.le_of_ble_eq_true rfl) d_X3_binary_7 (k_v (fun σ13 ⟨⟨hgp13, hgm13⟩, iσ13, ik13⟩ => ?_)) (fun _ _ _ h => h.elim)
  have hmo13 : Mo σ13 σ0 := fun h9 => mo_e (show σ0 3 3 = σ0 3 3 from rfl) (hgm13 h9)
  have kp : Keep [(3, 1), (3, 2), (3, 3), (3, 4), (3, 9)] [18, 19, 20, 21, 22, 23] σ0 σ13 := keep_c kp ik13 (by decide) (by decide)
  refine g_aload_n hF d_X3_binary_10 rfl 1 rfl ?_
  refine g_get (v := .ref (r 2)) hF 0 obC_3 (by decide) m_94 rfl d_X3_binary_11 ?_
  refine g_getN (v := .int (σ13 2 4)) hF 4 obC_2 (by decide) nm_47 rfl d_X3_binary_14 ?_
  refine g_top (v := (σ0 2 4)) (ik13 2 4 rfl rfl rfl) ?_
  refine g_istore_n hF [(3, .int (σ0 2 4)), (2, .int (σ0 3 9)), (0, .ref (r 3)), (1, .int a1)] d_X3_binary_17 rfl hnn (by decide) rfl ?_
  exact g_sub (L' := [(0, .ref (r 3)), (1, .int a1), (2, .int (σ0 3 9)), (3, .int (σ0 2 4))]) [2, 3, 1, 0] rfl (b18 _ σ13 a1 (σ0 3 9) (σ0 2 4) rfl iσ13 kp hgp13 (fun h9 => (hmo13 (mo_e (show σ13 3 3 = σ13 3 3 from rfl) h9))) h1 hk)
set_option maxHeartbeats 4000000 in
set_option maxRecDepth 100000 in
theorem c_X3_choice (a : Nat → Nat) (g : Nat → Nat → Int32) (r : Nat → Nat) (k : Nat) (σ0 : St) (a1 : Int32) (ih : 2 ≤ k → RX a g r (k - 1)) (h1 : 1 ≤ a1.toInt) (hk : a1.toInt + (k : Int) = 26) (hgp : GPS σ0) (i0 : Inv σ0) (l : Launch) (D : va_G) (cy : Nat → ClassId) : Ct l D cy SC r (EC a g) y_X3_choice (Cond.code y_X3_choice b_X3_choice 3 none) (14 * k + 7) [.ref (r 3), .int a1] σ0 Z0 [] (QV (fun σ9 => ((GPS σ9 ∧ Mo σ9 σ0) ∧ (Inv σ9 ∧ Keep [(3, 1), (3, 2), (3, 3), (3, 4), (3, 9)] [18, 19, 20, 21, 22, 23] σ0 σ9)))) QF := by
  refine Ct_of (EC_ok a g) (by decide) (Nat.le_of_ble_eq_true rfl) (by decide) (fun X hnn hF => ?_)
  show G SC r X σ0 Z0 [] [(0, .ref (r 3)), (1, .int a1)] [] 0
  have kp : Keep [(3, 1), (3, 2), (3, 3), (3, 4), (3, 9)] [18, 19, 20, 21, 22, 23] σ0 σ0 := keep_rf
  refine g_aload_n hF d_X3_choice_0 rfl 0 rfl ?_
  refine g_iload_n hF d_X3_choice_1 rfl 1 rfl ?_
  refine g_callV (As := [.int a1]) (rest := []) hF (c_X3_binary a g r k σ0 a1 ih h1 hk hgp i0) (by omega) mV_X3_binary m_935 (recv_ob obC_3) rfl rfl (Nat.le_of_ble_eq_true rfl) d_X3_choice_2 (k_v (fun σ1 ⟨⟨hgp1, hgm1⟩, iσ1, ik1⟩ => ?_)) (fun _ _ _ h => h.elim)
  have hmo1 : Mo σ1 σ0 := fun h9 => mo_e (show σ0 3 3 = σ0 3 3 from rfl) (hgm1 h9)
  have kp : Keep [(3, 1), (3, 2), (3, 3), (3, 4), (3, 9)] [18, 19, 20, 21, 22, 23] σ0 σ1 := keep_c kp ik1 (by decide) (by decide)
  refine g_aload_n hF d_X3_choice_5 rfl 0 rfl ?_
  refine g_get (v := .int (σ1 3 1)) hF 1 obC_3 (by decide) m_95 rfl d_X3_choice_6 ?_
  refine g_istore_n hF [(2, .int (σ1 3 1)), (0, .ref (r 3)), (1, .int a1)] d_X3_choice_9 rfl hnn (by decide) rfl ?_
  refine g_aload_n hF d_X3_choice_10 rfl 1 rfl ?_
  refine g_get (v := .int (σ1 3 2)) hF 2 obC_3 (by decide) m_96 rfl d_X3_choice_11 ?_
  refine g_bipush hF (v := 28) d_X3_choice_14 (by decide) ?_
  refine g_icmp_ne (yv := 28) hF 77 d_X3_choice_16 (by decide) rfl (by decide) (fun c2_16 => ?_) (fun c2_16 => ?_)
  · -- taken at 16
    exact g_vret hF rfl d_X3_choice_77 ⟨rfl, rfl, rfl, ⟨⟨hgp1, (fun h9 => (hmo1 (mo_e (show σ1 3 3 = σ1 3 3 from rfl) h9)))⟩, iσ1, kp⟩⟩
  · -- not taken at 16
    refine g_aload_n hF d_X3_choice_19 rfl 1 rfl ?_
    refine g_iload_n hF d_X3_choice_20 rfl 2 rfl ?_
    refine g_callV (As := [.int a1]) (rest := []) hF (c_X3_deeper a g r σ1 a1 hgp1 (by show ¬ ((σ1 3 2).toInt = 0 ∨ (σ1 3 2).toInt = -1); have e0 := s_rng a1; have e1 := s_rng (σ1 3 2); have e2 := s_rng (σ0 3 2); have e3 : (1 : Int32).toInt = 1 := (by decide); have e4 : (28 : Int32).toInt = 28 := (by decide); omega) iσ1) (Nat.le_of_ble_eq_true rfl) mV_X3_deeper m_943 (recv_ob obC_3) rfl rfl (Nat.le_of_ble_eq_true rfl) d_X3_choice_21 (k_i (fun r3 σ3 ⟨hz3, hp3, ⟨hgp3, hgm3⟩, iσ3, ik3⟩ => ?_)) (fun _ _ _ h => h.elim)
    have hmo3 : Mo σ3 σ1 := fun h9 => mo_e (show σ1 3 3 = σ1 3 3 from rfl) (hgm3 h9)
    have kp : Keep [(3, 1), (3, 2), (3, 3), (3, 4), (3, 9)] [18, 19, 20, 21, 22, 23] σ0 σ3 := keep_c kp ik3 (by decide) (by decide)
    refine g_if_eq hF 77 d_X3_choice_24 (by decide) rfl (fun c4_24 => ?_) (fun c4_24 => ?_)
    · -- taken at 24
      exact g_vret hF rfl d_X3_choice_77 ⟨rfl, rfl, rfl, ⟨⟨hgp3, (fun h9 => (hmo1 (hmo3 (mo_e (show σ3 3 3 = σ3 3 3 from rfl) h9))))⟩, iσ3, kp⟩⟩
    · -- not taken at 24
      refine g_aload_n hF d_X3_choice_27 rfl 1 rfl ?_
      refine g_bipush hF (v := 14) d_X3_choice_28 (by decide) ?_
      refine g_iload_n hF d_X3_choice_30 rfl 0 rfl ?_
      refine g_iconst hF (v := 0) d_X3_choice_31 (by decide) ?_
      refine g_iconst hF (v := 0) d_X3_choice_32 (by decide) ?_
      refine g_callV (As := [.int 14, .int (σ1 3 1), .int 0, .int 0]) (rest := []) hF (c_X3_add a g r σ3 (14 : Int32) (σ1 3 1) (0 : Int32) (0 : Int32) (fun h9 => absurd h9 (by decide)) hgp3 iσ3) (Nat.le_of_ble_eq_true rfl) mV_X3_add m_923 (recv_ob obC_3) rfl rfl (Nat.le_of_ble_eq_true rfl) d_X3_choice_33 (k_i (fun r5 σ5 ⟨⟨hgp5, hgm5⟩, iσ5, ik5⟩ => ?_)) (fun _ _ _ h => h.elim)
      have hmo5 : Mo σ5 σ3 := fun h9 => mo_e (show σ3 3 3 = σ3 3 3 from rfl) (hgm5 h9)
      have kp : Keep [(3, 1), (3, 2), (3, 3), (3, 4), (3, 9)] [18, 19, 20, 21, 22, 23] σ0 σ5 := keep_c kp ik5 (by decide) (by decide)
      refine g_pop hF d_X3_choice_36 rfl ?_
      refine g_aload_n hF d_X3_choice_37 rfl 1 rfl ?_
      refine g_iload_n hF d_X3_choice_38 rfl 2 rfl ?_
      refine g_iconst hF (v := 1) d_X3_choice_39 (by decide) ?_
      refine g_iadd hF d_X3_choice_40 ?_
      refine g_callV (As := [.int (a1 + 1)]) (rest := []) hF (((ih (by have e0 := s_rng a1; have e1 : (1 : Int32).toInt = 1 := (by decide); obtain ⟨k2, e2⟩ := s_add a1 (1 : Int32); have e2a := s_rng (a1 + 1); have e4 := s_rng r3; have e5 : (0 : Int32).toInt = 0 := (by decide); omega)) σ5 (a1 + 1) (by have e0 := s_rng a1; have e1 : (1 : Int32).toInt = 1 := (by decide); obtain ⟨k2, e2⟩ := s_add a1 (1 : Int32); have e2a := s_rng (a1 + 1); have e4 := s_rng r3; have e5 : (0 : Int32).toInt = 0 := (by decide); omega) (by have e0 := s_rng a1; have e1 : (1 : Int32).toInt = 1 := (by decide); obtain ⟨k2, e2⟩ := s_add a1 (1 : Int32); have e2a := s_rng (a1 + 1); have e4 := s_rng r3; have e5 : (0 : Int32).toInt = 0 := (by decide); omega) iσ5 hgp5).1) (by have : 2 ≤ k := (by have e0 := s_rng a1; have e1 : (1 : Int32).toInt = 1 := (by decide); obtain ⟨k2, e2⟩ := s_add a1 (1 : Int32); have e2a := s_rng (a1 + 1); have e4 := s_rng r3; have e5 : (0 : Int32).toInt = 0 := (by decide); omega); omega) mV_X3_expression m_927 (recv_ob obC_3) rfl rfl (Nat.le_of_ble_eq_true rfl) d_X3_choice_41 (k_v (fun σ6 ⟨⟨hgp6, hgm6⟩, iσ6, ik6⟩ => ?_)) (fun _ _ _ h => h.elim)
      have hmo6 : Mo σ6 σ3 := fun h9 => mo_e (show σ5 3 3 = σ3 3 3 from (ik5 3 3 rfl rfl rfl)) (hgm6 h9)
      have kp : Keep [(3, 1), (3, 2), (3, 3), (3, 4), (3, 9)] [18, 19, 20, 21, 22, 23] σ0 σ6 := keep_c kp ik6 (by decide) (by decide)
      refine g_aload_n hF d_X3_choice_44 rfl 1 rfl ?_
      refine g_bipush hF (v := 29) d_X3_choice_45 (by decide) ?_
      refine g_callV (As := [.int 29]) (rest := []) hF (c_X3_expect a g r σ6 (29 : Int32) hgp6 (by show ¬ (29 = 0 ∨ 29 = -1); have e0 : (29 : Int32).toInt = 29 := (by decide); omega) iσ6) (Nat.le_of_ble_eq_true rfl) mV_X3_expect m_903 (recv_ob obC_3) rfl rfl (Nat.le_of_ble_eq_true rfl) d_X3_choice_47 (k_v (fun σ7 ⟨⟨hgp7, hgm7⟩, hs7, iσ7, ik7⟩ => ?_)) (fun _ _ _ h => h.elim)
      have hs7 : (σ7 3 3).toInt < 0 → (σ6 3 2).toInt = 29 := hs7
      have hmo7 : Mo σ7 σ6 := fun h9 => mo_e (show σ6 3 3 = σ6 3 3 from rfl) (hgm7 h9)
      have kp : Keep [(3, 1), (3, 2), (3, 3), (3, 4), (3, 9)] [18, 19, 20, 21, 22, 23] σ0 σ7 := keep_c kp ik7 (by decide) (by decide)
      refine g_aload_n hF d_X3_choice_50 rfl 1 rfl ?_
      refine g_bipush hF (v := 15) d_X3_choice_51 (by decide) ?_
      refine g_iload_n hF d_X3_choice_53 rfl 0 rfl ?_
      refine g_iconst hF (v := 0) d_X3_choice_54 (by decide) ?_
      refine g_iconst hF (v := 0) d_X3_choice_55 (by decide) ?_
      refine g_callV (As := [.int 15, .int (σ1 3 1), .int 0, .int 0]) (rest := []) hF (c_X3_add a g r σ7 (15 : Int32) (σ1 3 1) (0 : Int32) (0 : Int32) (fun h9 => absurd h9 (by decide)) hgp7 iσ7) (Nat.le_of_ble_eq_true rfl) mV_X3_add m_923 (recv_ob obC_3) rfl rfl (Nat.le_of_ble_eq_true rfl) d_X3_choice_56 (k_i (fun r8 σ8 ⟨⟨hgp8, hgm8⟩, iσ8, ik8⟩ => ?_)) (fun _ _ _ h => h.elim)
      have hmo8 : Mo σ8 σ7 := fun h9 => mo_e (show σ7 3 3 = σ7 3 3 from rfl) (hgm8 h9)
      have kp : Keep [(3, 1), (3, 2), (3, 3), (3, 4), (3, 9)] [18, 19, 20, 21, 22, 23] σ0 σ8 := keep_c kp ik8 (by decide) (by decide)
      refine g_pop hF d_X3_choice_59 rfl ?_
      refine g_aload_n hF d_X3_choice_60 rfl 1 rfl ?_
      refine g_iload_n hF d_X3_choice_61 rfl 2 rfl ?_
      refine g_iconst hF (v := 1) d_X3_choice_62 (by decide) ?_
      refine g_iadd hF d_X3_choice_63 ?_
      refine g_callV (As := [.int (a1 + 1)]) (rest := []) hF (((ih (by have e0 := s_rng a1; have e1 : (1 : Int32).toInt = 1 := (by decide); obtain ⟨k2, e2⟩ := s_add a1 (1 : Int32); have e2a := s_rng (a1 + 1); have e4 := s_rng r3; have e5 : (0 : Int32).toInt = 0 := (by decide); omega)) σ8 (a1 + 1) (by have e0 := s_rng a1; have e1 : (1 : Int32).toInt = 1 := (by decide); obtain ⟨k2, e2⟩ := s_add a1 (1 : Int32); have e2a := s_rng (a1 + 1); have e4 := s_rng r3; have e5 : (0 : Int32).toInt = 0 := (by decide); omega) (by have e0 := s_rng a1; have e1 : (1 : Int32).toInt = 1 := (by decide); obtain ⟨k2, e2⟩ := s_add a1 (1 : Int32); have e2a := s_rng (a1 + 1); have e4 := s_rng r3; have e5 : (0 : Int32).toInt = 0 := (by decide); omega) iσ8 hgp8).2.1) (by have : 2 ≤ k := (by have e0 := s_rng a1; have e1 : (1 : Int32).toInt = 1 := (by decide); obtain ⟨k2, e2⟩ := s_add a1 (1 : Int32); have e2a := s_rng (a1 + 1); have e4 := s_rng r3; have e5 : (0 : Int32).toInt = 0 := (by decide); omega); omega) mV_X3_choice m_931 (recv_ob obC_3) rfl rfl (Nat.le_of_ble_eq_true rfl) d_X3_choice_64 (k_v (fun σ9 ⟨⟨hgp9, hgm9⟩, iσ9, ik9⟩ => ?_)) (fun _ _ _ h => h.elim)
      have hmo9 : Mo σ9 σ7 := fun h9 => mo_e (show σ8 3 3 = σ7 3 3 from (ik8 3 3 rfl rfl rfl)) (hgm9 h9)
      have kp : Keep [(3, 1), (3, 2), (3, 3), (3, 4), (3, 9)] [18, 19, 20, 21, 22, 23] σ0 σ9 := keep_c kp ik9 (by decide) (by decide)
      refine g_aload_n hF d_X3_choice_67 rfl 1 rfl ?_
      refine g_bipush hF (v := 16) d_X3_choice_68 (by decide) ?_
      refine g_iload_n hF d_X3_choice_70 rfl 0 rfl ?_
      refine g_iconst hF (v := 0) d_X3_choice_71 (by decide) ?_
      refine g_iconst hF (v := 0) d_X3_choice_72 (by decide) ?_
      refine g_callV (As := [.int 16, .int (σ1 3 1), .int 0, .int 0]) (rest := []) hF (c_X3_add a g r σ9 (16 : Int32) (σ1 3 1) (0 : Int32) (0 : Int32) (fun h9 => absurd h9 (by decide)) hgp9 iσ9) (Nat.le_of_ble_eq_true rfl) mV_X3_add m_923 (recv_ob obC_3) rfl rfl (Nat.le_of_ble_eq_true rfl) d_X3_choice_73 (k_i (fun r10 σ10 ⟨⟨hgp10, hgm10⟩, iσ10, ik10⟩ => ?_)) (fun _ _ _ h => h.elim)
      have hmo10 : Mo σ10 σ9 := fun h9 => mo_e (show σ9 3 3 = σ9 3 3 from rfl) (hgm10 h9)
      have kp : Keep [(3, 1), (3, 2), (3, 3), (3, 4), (3, 9)] [18, 19, 20, 21, 22, 23] σ0 σ10 := keep_c kp ik10 (by decide) (by decide)
      refine g_pop hF d_X3_choice_76 rfl ?_
      exact g_vret hF rfl d_X3_choice_77 ⟨rfl, rfl, rfl, ⟨⟨hgp10, (fun h9 => (hmo1 (hmo3 (hmo6 (hmo7 (hmo9 (mo_e (show σ10 3 3 = σ9 3 3 from (ik10 3 3 rfl rfl rfl)) h9)))))))⟩, iσ10, kp⟩⟩
