set_option maxHeartbeats 4000000 in
set_option maxRecDepth 100000 in
theorem c_X1_local (a : Nat → Nat) (g : Nat → Nat → Int32) (r : Nat → Nat) (σ0 : St) (a1 : Int32) (a2 : Int32) (hpre : (σ0 6 10).toInt < 90000) (i0 : Inv σ0) (z_a2 : a2 = 0 ∨ a2 = 1) (l : Launch) (D : va_G) (cy : Nat → ClassId) : Ct l D cy SC r (EC a g) y_X1_local (Cond.code y_X1_local b_X1_local 3 none) 3 [.ref (r 8), .int a1, .int a2] σ0 Z0 [] (QV (fun σ9 => (((σ9 6 10).toInt ≤ (σ0 6 10).toInt + 1) ∧ Inv σ9 ∧ Keep [(4, 1), (6, 3), (6, 4), (6, 10), (6, 15), (8, 10)] [24, 40, 41, 42, 43, 44] σ0 σ9))) QF := by
  refine Ct_of (EC_ok a g) (by decide) (Nat.le_of_ble_eq_true rfl) (by decide) (fun X hnn hF => ?_)
  show G SC r X σ0 Z0 [] [(0, .ref (r 8)), (1, .int a1), (2, .int a2)] [] 0
  have kp : Keep [(4, 1), (6, 3), (6, 4), (6, 10), (6, 15), (8, 10)] [24, 40, 41, 42, 43, 44] σ0 σ0 := keep_rf
  refine g_aload_n hF d_X1_local_0 rfl 0 rfl ?_
  refine g_get (v := .ref (r 6)) hF 2 obC_8 (by decide) m_491 rfl d_X1_local_1 ?_
  refine g_aload_n hF d_X1_local_4 rfl 0 rfl ?_
  refine g_get (v := .ref (r 6)) hF 2 obC_8 (by decide) m_491 rfl d_X1_local_5 ?_
  refine g_callVN (As := []) (rest := [.ref (r 6)]) hF (c_X11_scopeStart a g r σ0 i0) (Nat.le_of_ble_eq_true rfl) mV_X11_scopeStart nm_1365 (recv_ob obC_6) rfl rfl (Nat.le_of_ble_eq_true rfl) d_X1_local_8 (k_rop (fun r1 hp1 => ?_))
  have hp1 : 0 ≤ r1.toInt ∧ r1.toInt ≤ 100000 := hp1
  refine g_iload_n hF d_X1_local_11 rfl 1 rfl ?_
  refine g_callVN (As := [.int r1, .int a1]) (rest := []) hF (c_X11_localFrom a g r σ0 r1 a1 (by show 0 ≤ r1.toInt; have e0 := s_rng r1; have e1 := s_rng a1; omega) i0) (Nat.le_of_ble_eq_true rfl) mV_X11_localFrom nm_1369 (recv_ob obC_6) rfl rfl (Nat.le_of_ble_eq_true rfl) d_X1_local_12 (k_ro (fun r2 => ?_))
  refine g_if_lt hF 27 d_X1_local_15 (by decide) rfl (fun c3_15 => ?_) (fun c3_15 => ?_)
  · -- taken at 15
    refine g_aload_n hF d_X1_local_27 rfl 0 rfl ?_
    refine g_get (v := .ref (r 6)) hF 2 obC_8 (by decide) m_491 rfl d_X1_local_28 ?_
    refine g_getN (v := .int (σ0 6 10)) hF 10 obC_6 (by decide) nm_332 rfl d_X1_local_31 ?_
    refine g_bipush hF (v := 100) d_X1_local_34 (by decide) ?_
    refine g_icmp_lt (yv := 100) hF 48 d_X1_local_36 (by decide) rfl (by decide) (fun c4_36 => ?_) (fun c4_36 => ?_)
    · -- taken at 36
      refine g_aload_n hF d_X1_local_48 rfl 0 rfl ?_
      refine g_iload_n hF d_X1_local_49 rfl 2 rfl ?_
      refine g_callV (As := [.int a2]) (rest := []) hF (c_X1_checkSquare a g r σ0 a2 i0 z_a2) (Nat.le_of_ble_eq_true rfl) mV_X1_checkSquare m_1371 (recv_ob obC_8) rfl rfl (Nat.le_of_ble_eq_true rfl) d_X1_local_50 (k_v (fun σ5 ⟨iσ5, ik5⟩ => ?_)) (fun _ _ _ h => h.elim)
      have kp : Keep [(4, 1), (6, 3), (6, 4), (6, 10), (6, 15), (8, 10)] [24, 40, 41, 42, 43, 44] σ0 σ5 := keep_c kp ik5 (by decide) (by decide)
      refine g_aload_n hF d_X1_local_53 rfl 0 rfl ?_
      refine g_get (v := .ref (r 6)) hF 2 obC_8 (by decide) m_491 rfl d_X1_local_54 ?_
      refine g_getN (v := .int (σ5 6 3)) hF 3 obC_6 (by decide) nm_317 rfl d_X1_local_57 ?_
      refine g_if_eq hF 64 d_X1_local_60 (by decide) rfl (fun c6_60 => ?_) (fun c6_60 => ?_)
      · -- taken at 60
        refine g_aload_n hF d_X1_local_64 rfl 0 rfl ?_
        refine g_aload_n hF d_X1_local_65 rfl 0 rfl ?_
        refine g_get (v := .ref (r 6)) hF 2 obC_8 (by decide) m_491 rfl d_X1_local_66 ?_
        refine g_getN (v := .int (σ5 6 10)) hF 10 obC_6 (by decide) nm_332 rfl d_X1_local_69 ?_
        refine g_top (v := (σ0 6 10)) (ik5 6 10 rfl rfl rfl) ?_
        refine g_put (v := (σ0 6 10)) hF 10 obC_8 (by decide) m_502 rfl rfl rfl d_X1_local_72 ?_
        have kp : Keep [(4, 1), (6, 3), (6, 4), (6, 10), (6, 15), (8, 10)] [24, 40, 41, 42, 43, 44] σ0 (upC σ5 8 10 (σ0 6 10)) := keep_f kp (by decide)
        refine g_aload_n hF d_X1_local_75 rfl 0 rfl ?_
        refine g_get (v := .ref (r 6)) hF 2 obC_8 (by decide) m_491 rfl d_X1_local_76 ?_
        refine g_iload_n hF d_X1_local_79 rfl 1 rfl ?_
        refine g_aload_n hF d_X1_local_80 rfl 0 rfl ?_
        refine g_get (v := .int (σ5 8 11)) hF 11 obC_8 (by decide) m_503 rfl d_X1_local_81 ?_
        refine g_top (v := (σ0 8 11)) (ik5 8 11 rfl rfl rfl) ?_
        refine g_aload_n hF d_X1_local_84 rfl 0 rfl ?_
        refine g_get (v := .int (σ5 8 12)) hF 12 obC_8 (by decide) m_504 rfl d_X1_local_85 ?_
        refine g_top (v := (σ0 8 12)) (ik5 8 12 rfl rfl rfl) ?_
        have j8 : Inv (upC σ5 8 10 (σ0 6 10)) := ⟨iσ5.1, iσ5.2.1, iσ5.2.2.1, iσ5.2.2.2.1, iσ5.2.2.2.2.1, iσ5.2.2.2.2.2.1, iσ5.2.2.2.2.2.2.1, iσ5.2.2.2.2.2.2.2.1, iσ5.2.2.2.2.2.2.2.2.1, iσ5.2.2.2.2.2.2.2.2.2.1, iσ5.2.2.2.2.2.2.2.2.2.2.1, iσ5.2.2.2.2.2.2.2.2.2.2.2.1, iσ5.2.2.2.2.2.2.2.2.2.2.2.2.1, iσ5.2.2.2.2.2.2.2.2.2.2.2.2.2.1, iσ5.2.2.2.2.2.2.2.2.2.2.2.2.2.2.1, iσ5.2.2.2.2.2.2.2.2.2.2.2.2.2.2.2.1, iσ5.2.2.2.2.2.2.2.2.2.2.2.2.2.2.2.2.1, iσ5.2.2.2.2.2.2.2.2.2.2.2.2.2.2.2.2.2.1, iσ5.2.2.2.2.2.2.2.2.2.2.2.2.2.2.2.2.2.2.1, iσ5.2.2.2.2.2.2.2.2.2.2.2.2.2.2.2.2.2.2.2⟩
        refine g_callVN (As := [.int a1, .int (σ0 8 11), .int (σ0 8 12)]) (rest := []) hF (c_X11_declareLocal a g r (upC σ5 8 10 (σ0 6 10)) a1 (σ0 8 11) (σ0 8 12) (by rw [show ((upC σ5 8 10 (σ0 6 10)) 6 10) = (σ0 6 10) from (ik5 6 10 rfl rfl rfl)]; show (σ0 6 10).toInt < 90000; have e0 := s_rng a1; have e1 := s_rng (σ0 8 11); have e2 := s_rng (σ0 8 12); have e3 := s_rng (σ0 6 10); have e4 := i0.2.2.2.2.2.1; have e5 : (100 : Int32).toInt = 100 := (by decide); omega) j8) (Nat.le_of_ble_eq_true rfl) mV_X11_declareLocal nm_1375 (recv_ob obC_6) rfl rfl (Nat.le_of_ble_eq_true rfl) d_X1_local_88 (k_v (fun σ7 ⟨hs7, iσ7, ik7⟩ => ?_))
        have hs7 : (σ7 6 10).toInt = (σ0 6 10).toInt + 1 := (by have h9 := hs7; rw [show ((upC σ5 8 10 (σ0 6 10)) 6 10) = (σ0 6 10) from (ik5 6 10 rfl rfl rfl)] at h9; exact h9)
        have kp : Keep [(4, 1), (6, 3), (6, 4), (6, 10), (6, 15), (8, 10)] [24, 40, 41, 42, 43, 44] σ0 σ7 := keep_c kp ik7 (by decide) (by decide)
        refine g_aload_n hF d_X1_local_91 rfl 0 rfl ?_
        refine g_get (v := .int (σ7 8 12)) hF 12 obC_8 (by decide) m_504 rfl d_X1_local_92 ?_
        refine g_top (v := (σ0 8 12)) ((ik7 8 12 rfl rfl rfl).trans (ik5 8 12 rfl rfl rfl)) ?_
        refine g_iconst hF (v := (-1)) d_X1_local_95 (by decide) ?_
        refine g_icmp_ne (yv := -1) hF 118 d_X1_local_96 (by decide) rfl (by decide) (fun c9_96 => ?_) (fun c9_96 => ?_)
        · -- taken at 96
          refine g_aload_n hF d_X1_local_118 rfl 0 rfl ?_
          refine g_get (v := .ref (r 4)) hF 4 obC_8 (by decide) m_493 rfl d_X1_local_119 ?_
          refine g_bipush hF (v := 15) d_X1_local_122 (by decide) ?_
          refine g_aload_n hF d_X1_local_124 rfl 0 rfl ?_
          refine g_get (v := .int (σ7 8 10)) hF 10 obC_8 (by decide) m_502 rfl d_X1_local_125 ?_
          refine g_top (v := (σ0 6 10)) (ik7 8 10 rfl rfl rfl) ?_
          refine g_aload_n hF d_X1_local_128 rfl 0 rfl ?_
          refine g_get (v := .int (σ7 8 12)) hF 12 obC_8 (by decide) m_504 rfl d_X1_local_129 ?_
          refine g_top (v := (σ0 8 12)) ((ik7 8 12 rfl rfl rfl).trans (ik5 8 12 rfl rfl rfl)) ?_
          refine g_iconst hF (v := 0) d_X1_local_132 (by decide) ?_
          refine g_callVN (As := [.int 15, .int (σ0 6 10), .int (σ0 8 12), .int 0]) (rest := []) hF (c_X0_emit a g r σ7 (15 : Int32) (σ0 6 10) (σ0 8 12) (0 : Int32) iσ7) (Nat.le_of_ble_eq_true rfl) mV_X0_emit nm_1379 (recv_ob obC_4) rfl rfl (Nat.le_of_ble_eq_true rfl) d_X1_local_133 (k_i (fun r10 σ10 ⟨iσ10, ik10⟩ => ?_))
          have kp : Keep [(4, 1), (6, 3), (6, 4), (6, 10), (6, 15), (8, 10)] [24, 40, 41, 42, 43, 44] σ0 σ10 := keep_c kp ik10 (by decide) (by decide)
          refine g_pop hF d_X1_local_136 rfl ?_
          exact g_vret hF rfl d_X1_local_137 ⟨rfl, rfl, rfl, ⟨(by rw [show (σ10 6 10) = (σ7 6 10) from (ik10 6 10 rfl rfl rfl)]; show (σ7 6 10).toInt ≤ (σ0 6 10).toInt + 1; have e0 := s_rng (σ7 6 10); have e1 := iσ7.2.2.2.2.2.1; have e2 := s_rng (σ0 6 10); have e3 := i0.2.2.2.2.2.1; have e4 : (100 : Int32).toInt = 100 := (by decide); omega), iσ10, kp⟩⟩
        · -- not taken at 96
          refine g_aload_n hF d_X1_local_99 rfl 0 rfl ?_
          refine g_get (v := .ref (r 4)) hF 4 obC_8 (by decide) m_493 rfl d_X1_local_100 ?_
          refine g_iconst hF (v := 1) d_X1_local_103 (by decide) ?_
          refine g_iconst hF (v := 0) d_X1_local_104 (by decide) ?_
          refine g_iconst hF (v := 0) d_X1_local_105 (by decide) ?_
          refine g_iconst hF (v := 0) d_X1_local_106 (by decide) ?_
          refine g_callVN (As := [.int 1, .int 0, .int 0, .int 0]) (rest := []) hF (c_X0_emit a g r σ7 (1 : Int32) (0 : Int32) (0 : Int32) (0 : Int32) iσ7) (Nat.le_of_ble_eq_true rfl) mV_X0_emit nm_1379 (recv_ob obC_4) rfl rfl (Nat.le_of_ble_eq_true rfl) d_X1_local_107 (k_i (fun r11 σ11 ⟨iσ11, ik11⟩ => ?_))
          have kp : Keep [(4, 1), (6, 3), (6, 4), (6, 10), (6, 15), (8, 10)] [24, 40, 41, 42, 43, 44] σ0 σ11 := keep_c kp ik11 (by decide) (by decide)
          refine g_pop hF d_X1_local_110 rfl ?_
          refine g_aload_n hF d_X1_local_111 rfl 0 rfl ?_
          refine g_callV (As := []) (rest := []) hF (c_X1_storeLocal a g r σ11 iσ11) (Nat.le_of_ble_eq_true rfl) mV_X1_storeLocal m_1380 (recv_ob obC_8) rfl rfl (Nat.le_of_ble_eq_true rfl) d_X1_local_112 (k_v (fun σ12 ⟨iσ12, ik12⟩ => ?_)) (fun _ _ _ h => h.elim)
          have kp : Keep [(4, 1), (6, 3), (6, 4), (6, 10), (6, 15), (8, 10)] [24, 40, 41, 42, 43, 44] σ0 σ12 := keep_c kp ik12 (by decide) (by decide)
          refine g_goto hF 137 d_X1_local_115 (by decide) ?_
          exact g_vret hF rfl d_X1_local_137 ⟨rfl, rfl, rfl, ⟨(by rw [show (σ12 6 10) = (σ7 6 10) from ((ik12 6 10 rfl rfl rfl).trans (ik11 6 10 rfl rfl rfl))]; show (σ7 6 10).toInt ≤ (σ0 6 10).toInt + 1; have e0 := s_rng (σ7 6 10); have e1 := iσ7.2.2.2.2.2.1; have e2 := s_rng (σ0 6 10); have e3 := i0.2.2.2.2.2.1; have e4 : (100 : Int32).toInt = 100 := (by decide); omega), iσ12, kp⟩⟩
      · -- not taken at 60
        exact g_vret hF rfl d_X1_local_63 ⟨rfl, rfl, rfl, ⟨(by rw [show (σ5 6 10) = (σ0 6 10) from (ik5 6 10 rfl rfl rfl)]; show (σ0 6 10).toInt ≤ (σ0 6 10).toInt + 1; have e0 := s_rng (σ0 6 10); have e1 := i0.2.2.2.2.2.1; have e2 : (100 : Int32).toInt = 100 := (by decide); omega), iσ5, kp⟩⟩
    · -- not taken at 36
      refine g_aload_n hF d_X1_local_39 rfl 0 rfl ?_
      refine g_get (v := .ref (r 6)) hF 2 obC_8 (by decide) m_491 rfl d_X1_local_40 ?_
      refine g_iconst hF (v := 4) d_X1_local_43 (by decide) ?_
      refine g_iload_n hF d_X1_local_44 rfl 1 rfl ?_
      refine g_callVN (As := [.int 4, .int a1]) (rest := []) hF (c_X11_fail a g r σ0 (4 : Int32) a1 i0) (Nat.le_of_ble_eq_true rfl) mV_X11_fail nm_1370 (recv_ob obC_6) rfl rfl (Nat.le_of_ble_eq_true rfl) d_X1_local_45 (k_v (fun σ13 ⟨iσ13, ik13⟩ => ?_))
      have kp : Keep [(4, 1), (6, 3), (6, 4), (6, 10), (6, 15), (8, 10)] [24, 40, 41, 42, 43, 44] σ0 σ13 := keep_c kp ik13 (by decide) (by decide)
      refine g_aload_n hF d_X1_local_48 rfl 0 rfl ?_
      refine g_iload_n hF d_X1_local_49 rfl 2 rfl ?_
      refine g_callV (As := [.int a2]) (rest := []) hF (c_X1_checkSquare a g r σ13 a2 iσ13 z_a2) (Nat.le_of_ble_eq_true rfl) mV_X1_checkSquare m_1371 (recv_ob obC_8) rfl rfl (Nat.le_of_ble_eq_true rfl) d_X1_local_50 (k_v (fun σ14 ⟨iσ14, ik14⟩ => ?_)) (fun _ _ _ h => h.elim)
      have kp : Keep [(4, 1), (6, 3), (6, 4), (6, 10), (6, 15), (8, 10)] [24, 40, 41, 42, 43, 44] σ0 σ14 := keep_c kp ik14 (by decide) (by decide)
      refine g_aload_n hF d_X1_local_53 rfl 0 rfl ?_
      refine g_get (v := .ref (r 6)) hF 2 obC_8 (by decide) m_491 rfl d_X1_local_54 ?_
      refine g_getN (v := .int (σ14 6 3)) hF 3 obC_6 (by decide) nm_317 rfl d_X1_local_57 ?_
      refine g_if_eq hF 64 d_X1_local_60 (by decide) rfl (fun c15_60 => ?_) (fun c15_60 => ?_)
      · -- taken at 60
        refine g_aload_n hF d_X1_local_64 rfl 0 rfl ?_
        refine g_aload_n hF d_X1_local_65 rfl 0 rfl ?_
        refine g_get (v := .ref (r 6)) hF 2 obC_8 (by decide) m_491 rfl d_X1_local_66 ?_
        refine g_getN (v := .int (σ14 6 10)) hF 10 obC_6 (by decide) nm_332 rfl d_X1_local_69 ?_
        refine g_top (v := (σ0 6 10)) ((ik14 6 10 rfl rfl rfl).trans (ik13 6 10 rfl rfl rfl)) ?_
        refine g_put (v := (σ0 6 10)) hF 10 obC_8 (by decide) m_502 rfl rfl rfl d_X1_local_72 ?_
        have kp : Keep [(4, 1), (6, 3), (6, 4), (6, 10), (6, 15), (8, 10)] [24, 40, 41, 42, 43, 44] σ0 (upC σ14 8 10 (σ0 6 10)) := keep_f kp (by decide)
        refine g_aload_n hF d_X1_local_75 rfl 0 rfl ?_
        refine g_get (v := .ref (r 6)) hF 2 obC_8 (by decide) m_491 rfl d_X1_local_76 ?_
        refine g_iload_n hF d_X1_local_79 rfl 1 rfl ?_
        refine g_aload_n hF d_X1_local_80 rfl 0 rfl ?_
        refine g_get (v := .int (σ14 8 11)) hF 11 obC_8 (by decide) m_503 rfl d_X1_local_81 ?_
        refine g_top (v := (σ0 8 11)) ((ik14 8 11 rfl rfl rfl).trans (ik13 8 11 rfl rfl rfl)) ?_
        refine g_aload_n hF d_X1_local_84 rfl 0 rfl ?_
        refine g_get (v := .int (σ14 8 12)) hF 12 obC_8 (by decide) m_504 rfl d_X1_local_85 ?_
        refine g_top (v := (σ0 8 12)) ((ik14 8 12 rfl rfl rfl).trans (ik13 8 12 rfl rfl rfl)) ?_
        have j17 : Inv (upC σ14 8 10 (σ0 6 10)) := ⟨iσ14.1, iσ14.2.1, iσ14.2.2.1, iσ14.2.2.2.1, iσ14.2.2.2.2.1, iσ14.2.2.2.2.2.1, iσ14.2.2.2.2.2.2.1, iσ14.2.2.2.2.2.2.2.1, iσ14.2.2.2.2.2.2.2.2.1, iσ14.2.2.2.2.2.2.2.2.2.1, iσ14.2.2.2.2.2.2.2.2.2.2.1, iσ14.2.2.2.2.2.2.2.2.2.2.2.1, iσ14.2.2.2.2.2.2.2.2.2.2.2.2.1, iσ14.2.2.2.2.2.2.2.2.2.2.2.2.2.1, iσ14.2.2.2.2.2.2.2.2.2.2.2.2.2.2.1, iσ14.2.2.2.2.2.2.2.2.2.2.2.2.2.2.2.1, iσ14.2.2.2.2.2.2.2.2.2.2.2.2.2.2.2.2.1, iσ14.2.2.2.2.2.2.2.2.2.2.2.2.2.2.2.2.2.1, iσ14.2.2.2.2.2.2.2.2.2.2.2.2.2.2.2.2.2.2.1, iσ14.2.2.2.2.2.2.2.2.2.2.2.2.2.2.2.2.2.2.2⟩
        refine g_callVN (As := [.int a1, .int (σ0 8 11), .int (σ0 8 12)]) (rest := []) hF (c_X11_declareLocal a g r (upC σ14 8 10 (σ0 6 10)) a1 (σ0 8 11) (σ0 8 12) (by rw [show ((upC σ14 8 10 (σ0 6 10)) 6 10) = (σ0 6 10) from ((ik14 6 10 rfl rfl rfl).trans (ik13 6 10 rfl rfl rfl))]; show (σ0 6 10).toInt < 90000; have e0 := s_rng a1; have e1 := s_rng (σ0 8 11); have e2 := s_rng (σ0 8 12); have e3 := s_rng (σ0 6 10); have e4 := i0.2.2.2.2.2.1; have e5 : (100 : Int32).toInt = 100 := (by decide); omega) j17) (Nat.le_of_ble_eq_true rfl) mV_X11_declareLocal nm_1375 (recv_ob obC_6) rfl rfl (Nat.le_of_ble_eq_true rfl) d_X1_local_88 (k_v (fun σ16 ⟨hs16, iσ16, ik16⟩ => ?_))
        have hs16 : (σ16 6 10).toInt = (σ0 6 10).toInt + 1 := (by have h9 := hs16; rw [show ((upC σ14 8 10 (σ0 6 10)) 6 10) = (σ0 6 10) from ((ik14 6 10 rfl rfl rfl).trans (ik13 6 10 rfl rfl rfl))] at h9; exact h9)
        have kp : Keep [(4, 1), (6, 3), (6, 4), (6, 10), (6, 15), (8, 10)] [24, 40, 41, 42, 43, 44] σ0 σ16 := keep_c kp ik16 (by decide) (by decide)
        refine g_aload_n hF d_X1_local_91 rfl 0 rfl ?_
        refine g_get (v := .int (σ16 8 12)) hF 12 obC_8 (by decide) m_504 rfl d_X1_local_92 ?_
        refine g_top (v := (σ0 8 12)) ((ik16 8 12 rfl rfl rfl).trans ((ik14 8 12 rfl rfl rfl).trans (ik13 8 12 rfl rfl rfl))) ?_
        refine g_iconst hF (v := (-1)) d_X1_local_95 (by decide) ?_
        refine g_icmp_ne (yv := -1) hF 118 d_X1_local_96 (by decide) rfl (by decide) (fun c18_96 => ?_) (fun c18_96 => ?_)
        · -- taken at 96
          refine g_aload_n hF d_X1_local_118 rfl 0 rfl ?_
          refine g_get (v := .ref (r 4)) hF 4 obC_8 (by decide) m_493 rfl d_X1_local_119 ?_
          refine g_bipush hF (v := 15) d_X1_local_122 (by decide) ?_
          refine g_aload_n hF d_X1_local_124 rfl 0 rfl ?_
          refine g_get (v := .int (σ16 8 10)) hF 10 obC_8 (by decide) m_502 rfl d_X1_local_125 ?_
          refine g_top (v := (σ0 6 10)) (ik16 8 10 rfl rfl rfl) ?_
          refine g_aload_n hF d_X1_local_128 rfl 0 rfl ?_
          refine g_get (v := .int (σ16 8 12)) hF 12 obC_8 (by decide) m_504 rfl d_X1_local_129 ?_
          refine g_top (v := (σ0 8 12)) ((ik16 8 12 rfl rfl rfl).trans ((ik14 8 12 rfl rfl rfl).trans (ik13 8 12 rfl rfl rfl))) ?_
          refine g_iconst hF (v := 0) d_X1_local_132 (by decide) ?_
          refine g_callVN (As := [.int 15, .int (σ0 6 10), .int (σ0 8 12), .int 0]) (rest := []) hF (c_X0_emit a g r σ16 (15 : Int32) (σ0 6 10) (σ0 8 12) (0 : Int32) iσ16) (Nat.le_of_ble_eq_true rfl) mV_X0_emit nm_1379 (recv_ob obC_4) rfl rfl (Nat.le_of_ble_eq_true rfl) d_X1_local_133 (k_i (fun r19 σ19 ⟨iσ19, ik19⟩ => ?_))
          have kp : Keep [(4, 1), (6, 3), (6, 4), (6, 10), (6, 15), (8, 10)] [24, 40, 41, 42, 43, 44] σ0 σ19 := keep_c kp ik19 (by decide) (by decide)
          refine g_pop hF d_X1_local_136 rfl ?_
          exact g_vret hF rfl d_X1_local_137 ⟨rfl, rfl, rfl, ⟨(by rw [show (σ19 6 10) = (σ16 6 10) from (ik19 6 10 rfl rfl rfl)]; show (σ16 6 10).toInt ≤ (σ0 6 10).toInt + 1; have e0 := s_rng (σ16 6 10); have e1 := iσ16.2.2.2.2.2.1; have e2 := s_rng (σ0 6 10); have e3 := i0.2.2.2.2.2.1; have e4 : (100 : Int32).toInt = 100 := (by decide); omega), iσ19, kp⟩⟩
        · -- not taken at 96
          refine g_aload_n hF d_X1_local_99 rfl 0 rfl ?_
          refine g_get (v := .ref (r 4)) hF 4 obC_8 (by decide) m_493 rfl d_X1_local_100 ?_
          refine g_iconst hF (v := 1) d_X1_local_103 (by decide) ?_
          refine g_iconst hF (v := 0) d_X1_local_104 (by decide) ?_
          refine g_iconst hF (v := 0) d_X1_local_105 (by decide) ?_
          refine g_iconst hF (v := 0) d_X1_local_106 (by decide) ?_
          refine g_callVN (As := [.int 1, .int 0, .int 0, .int 0]) (rest := []) hF (c_X0_emit a g r σ16 (1 : Int32) (0 : Int32) (0 : Int32) (0 : Int32) iσ16) (Nat.le_of_ble_eq_true rfl) mV_X0_emit nm_1379 (recv_ob obC_4) rfl rfl (Nat.le_of_ble_eq_true rfl) d_X1_local_107 (k_i (fun r20 σ20 ⟨iσ20, ik20⟩ => ?_))
          have kp : Keep [(4, 1), (6, 3), (6, 4), (6, 10), (6, 15), (8, 10)] [24, 40, 41, 42, 43, 44] σ0 σ20 := keep_c kp ik20 (by decide) (by decide)
          refine g_pop hF d_X1_local_110 rfl ?_
          refine g_aload_n hF d_X1_local_111 rfl 0 rfl ?_
          refine g_callV (As := []) (rest := []) hF (c_X1_storeLocal a g r σ20 iσ20) (Nat.le_of_ble_eq_true rfl) mV_X1_storeLocal m_1380 (recv_ob obC_8) rfl rfl (Nat.le_of_ble_eq_true rfl) d_X1_local_112 (k_v (fun σ21 ⟨iσ21, ik21⟩ => ?_)) (fun _ _ _ h => h.elim)
          have kp : Keep [(4, 1), (6, 3), (6, 4), (6, 10), (6, 15), (8, 10)] [24, 40, 41, 42, 43, 44] σ0 σ21 := keep_c kp ik21 (by decide) (by decide)
          refine g_goto hF 137 d_X1_local_115 (by decide) ?_
          exact g_vret hF rfl d_X1_local_137 ⟨rfl, rfl, rfl, ⟨(by rw [show (σ21 6 10) = (σ16 6 10) from ((ik21 6 10 rfl rfl rfl).trans (ik20 6 10 rfl rfl rfl))]; show (σ16 6 10).toInt ≤ (σ0 6 10).toInt + 1; have e0 := s_rng (σ16 6 10); have e1 := iσ16.2.2.2.2.2.1; have e2 := s_rng (σ0 6 10); have e3 := i0.2.2.2.2.2.1; have e4 : (100 : Int32).toInt = 100 := (by decide); omega), iσ21, kp⟩⟩
      · -- not taken at 60
        exact g_vret hF rfl d_X1_local_63 ⟨rfl, rfl, rfl, ⟨(by rw [show (σ14 6 10) = (σ0 6 10) from ((ik14 6 10 rfl rfl rfl).trans (ik13 6 10 rfl rfl rfl))]; show (σ0 6 10).toInt ≤ (σ0 6 10).toInt + 1; have e0 := s_rng (σ0 6 10); have e1 := i0.2.2.2.2.2.1; have e2 : (100 : Int32).toInt = 100 := (by decide); omega), iσ14, kp⟩⟩
  · -- not taken at 15
    refine g_aload_n hF d_X1_local_18 rfl 0 rfl ?_
    refine g_get (v := .ref (r 6)) hF 2 obC_8 (by decide) m_491 rfl d_X1_local_19 ?_
    refine g_iconst hF (v := 2) d_X1_local_22 (by decide) ?_
    refine g_iload_n hF d_X1_local_23 rfl 1 rfl ?_
    refine g_callVN (As := [.int 2, .int a1]) (rest := []) hF (c_X11_fail a g r σ0 (2 : Int32) a1 i0) (Nat.le_of_ble_eq_true rfl) mV_X11_fail nm_1370 (recv_ob obC_6) rfl rfl (Nat.le_of_ble_eq_true rfl) d_X1_local_24 (k_v (fun σ22 ⟨iσ22, ik22⟩ => ?_))
    have kp : Keep [(4, 1), (6, 3), (6, 4), (6, 10), (6, 15), (8, 10)] [24, 40, 41, 42, 43, 44] σ0 σ22 := keep_c kp ik22 (by decide) (by decide)
    refine g_aload_n hF d_X1_local_27 rfl 0 rfl ?_
    refine g_get (v := .ref (r 6)) hF 2 obC_8 (by decide) m_491 rfl d_X1_local_28 ?_
    refine g_getN (v := .int (σ22 6 10)) hF 10 obC_6 (by decide) nm_332 rfl d_X1_local_31 ?_
    refine g_top (v := (σ0 6 10)) (ik22 6 10 rfl rfl rfl) ?_
    refine g_bipush hF (v := 100) d_X1_local_34 (by decide) ?_
    refine g_icmp_lt (yv := 100) hF 48 d_X1_local_36 (by decide) rfl (by decide) (fun c23_36 => ?_) (fun c23_36 => ?_)
    · -- taken at 36
      refine g_aload_n hF d_X1_local_48 rfl 0 rfl ?_
      refine g_iload_n hF d_X1_local_49 rfl 2 rfl ?_
      refine g_callV (As := [.int a2]) (rest := []) hF (c_X1_checkSquare a g r σ22 a2 iσ22 z_a2) (Nat.le_of_ble_eq_true rfl) mV_X1_checkSquare m_1371 (recv_ob obC_8) rfl rfl (Nat.le_of_ble_eq_true rfl) d_X1_local_50 (k_v (fun σ24 ⟨iσ24, ik24⟩ => ?_)) (fun _ _ _ h => h.elim)
      have kp : Keep [(4, 1), (6, 3), (6, 4), (6, 10), (6, 15), (8, 10)] [24, 40, 41, 42, 43, 44] σ0 σ24 := keep_c kp ik24 (by decide) (by decide)
      refine g_aload_n hF d_X1_local_53 rfl 0 rfl ?_
      refine g_get (v := .ref (r 6)) hF 2 obC_8 (by decide) m_491 rfl d_X1_local_54 ?_
      refine g_getN (v := .int (σ24 6 3)) hF 3 obC_6 (by decide) nm_317 rfl d_X1_local_57 ?_
      refine g_if_eq hF 64 d_X1_local_60 (by decide) rfl (fun c25_60 => ?_) (fun c25_60 => ?_)
      · -- taken at 60
        refine g_aload_n hF d_X1_local_64 rfl 0 rfl ?_
        refine g_aload_n hF d_X1_local_65 rfl 0 rfl ?_
        refine g_get (v := .ref (r 6)) hF 2 obC_8 (by decide) m_491 rfl d_X1_local_66 ?_
        refine g_getN (v := .int (σ24 6 10)) hF 10 obC_6 (by decide) nm_332 rfl d_X1_local_69 ?_
        refine g_top (v := (σ0 6 10)) ((ik24 6 10 rfl rfl rfl).trans (ik22 6 10 rfl rfl rfl)) ?_
        refine g_put (v := (σ0 6 10)) hF 10 obC_8 (by decide) m_502 rfl rfl rfl d_X1_local_72 ?_
        have kp : Keep [(4, 1), (6, 3), (6, 4), (6, 10), (6, 15), (8, 10)] [24, 40, 41, 42, 43, 44] σ0 (upC σ24 8 10 (σ0 6 10)) := keep_f kp (by decide)
        refine g_aload_n hF d_X1_local_75 rfl 0 rfl ?_
        refine g_get (v := .ref (r 6)) hF 2 obC_8 (by decide) m_491 rfl d_X1_local_76 ?_
        refine g_iload_n hF d_X1_local_79 rfl 1 rfl ?_
        refine g_aload_n hF d_X1_local_80 rfl 0 rfl ?_
        refine g_get (v := .int (σ24 8 11)) hF 11 obC_8 (by decide) m_503 rfl d_X1_local_81 ?_
        refine g_top (v := (σ0 8 11)) ((ik24 8 11 rfl rfl rfl).trans (ik22 8 11 rfl rfl rfl)) ?_
        refine g_aload_n hF d_X1_local_84 rfl 0 rfl ?_
        refine g_get (v := .int (σ24 8 12)) hF 12 obC_8 (by decide) m_504 rfl d_X1_local_85 ?_
        refine g_top (v := (σ0 8 12)) ((ik24 8 12 rfl rfl rfl).trans (ik22 8 12 rfl rfl rfl)) ?_
        have j27 : Inv (upC σ24 8 10 (σ0 6 10)) := ⟨iσ24.1, iσ24.2.1, iσ24.2.2.1, iσ24.2.2.2.1, iσ24.2.2.2.2.1, iσ24.2.2.2.2.2.1, iσ24.2.2.2.2.2.2.1, iσ24.2.2.2.2.2.2.2.1, iσ24.2.2.2.2.2.2.2.2.1, iσ24.2.2.2.2.2.2.2.2.2.1, iσ24.2.2.2.2.2.2.2.2.2.2.1, iσ24.2.2.2.2.2.2.2.2.2.2.2.1, iσ24.2.2.2.2.2.2.2.2.2.2.2.2.1, iσ24.2.2.2.2.2.2.2.2.2.2.2.2.2.1, iσ24.2.2.2.2.2.2.2.2.2.2.2.2.2.2.1, iσ24.2.2.2.2.2.2.2.2.2.2.2.2.2.2.2.1, iσ24.2.2.2.2.2.2.2.2.2.2.2.2.2.2.2.2.1, iσ24.2.2.2.2.2.2.2.2.2.2.2.2.2.2.2.2.2.1, iσ24.2.2.2.2.2.2.2.2.2.2.2.2.2.2.2.2.2.2.1, iσ24.2.2.2.2.2.2.2.2.2.2.2.2.2.2.2.2.2.2.2⟩
        refine g_callVN (As := [.int a1, .int (σ0 8 11), .int (σ0 8 12)]) (rest := []) hF (c_X11_declareLocal a g r (upC σ24 8 10 (σ0 6 10)) a1 (σ0 8 11) (σ0 8 12) (by rw [show ((upC σ24 8 10 (σ0 6 10)) 6 10) = (σ0 6 10) from ((ik24 6 10 rfl rfl rfl).trans (ik22 6 10 rfl rfl rfl))]; show (σ0 6 10).toInt < 90000; have e0 := s_rng a1; have e1 := s_rng (σ0 8 11); have e2 := s_rng (σ0 8 12); have e3 := s_rng (σ0 6 10); have e4 := i0.2.2.2.2.2.1; have e5 : (100 : Int32).toInt = 100 := (by decide); omega) j27) (Nat.le_of_ble_eq_true rfl) mV_X11_declareLocal nm_1375 (recv_ob obC_6) rfl rfl (Nat.le_of_ble_eq_true rfl) d_X1_local_88 (k_v (fun σ26 ⟨hs26, iσ26, ik26⟩ => ?_))
        have hs26 : (σ26 6 10).toInt = (σ0 6 10).toInt + 1 := (by have h9 := hs26; rw [show ((upC σ24 8 10 (σ0 6 10)) 6 10) = (σ0 6 10) from ((ik24 6 10 rfl rfl rfl).trans (ik22 6 10 rfl rfl rfl))] at h9; exact h9)
        have kp : Keep [(4, 1), (6, 3), (6, 4), (6, 10), (6, 15), (8, 10)] [24, 40, 41, 42, 43, 44] σ0 σ26 := keep_c kp ik26 (by decide) (by decide)
        refine g_aload_n hF d_X1_local_91 rfl 0 rfl ?_
        refine g_get (v := .int (σ26 8 12)) hF 12 obC_8 (by decide) m_504 rfl d_X1_local_92 ?_
        refine g_top (v := (σ0 8 12)) ((ik26 8 12 rfl rfl rfl).trans ((ik24 8 12 rfl rfl rfl).trans (ik22 8 12 rfl rfl rfl))) ?_
        refine g_iconst hF (v := (-1)) d_X1_local_95 (by decide) ?_
        refine g_icmp_ne (yv := -1) hF 118 d_X1_local_96 (by decide) rfl (by decide) (fun c28_96 => ?_) (fun c28_96 => ?_)
        · -- taken at 96
          refine g_aload_n hF d_X1_local_118 rfl 0 rfl ?_
          refine g_get (v := .ref (r 4)) hF 4 obC_8 (by decide) m_493 rfl d_X1_local_119 ?_
          refine g_bipush hF (v := 15) d_X1_local_122 (by decide) ?_
          refine g_aload_n hF d_X1_local_124 rfl 0 rfl ?_
          refine g_get (v := .int (σ26 8 10)) hF 10 obC_8 (by decide) m_502 rfl d_X1_local_125 ?_
          refine g_top (v := (σ0 6 10)) (ik26 8 10 rfl rfl rfl) ?_
          refine g_aload_n hF d_X1_local_128 rfl 0 rfl ?_
          refine g_get (v := .int (σ26 8 12)) hF 12 obC_8 (by decide) m_504 rfl d_X1_local_129 ?_
          refine g_top (v := (σ0 8 12)) ((ik26 8 12 rfl rfl rfl).trans ((ik24 8 12 rfl rfl rfl).trans (ik22 8 12 rfl rfl rfl))) ?_
          refine g_iconst hF (v := 0) d_X1_local_132 (by decide) ?_
          refine g_callVN (As := [.int 15, .int (σ0 6 10), .int (σ0 8 12), .int 0]) (rest := []) hF (c_X0_emit a g r σ26 (15 : Int32) (σ0 6 10) (σ0 8 12) (0 : Int32) iσ26) (Nat.le_of_ble_eq_true rfl) mV_X0_emit nm_1379 (recv_ob obC_4) rfl rfl (Nat.le_of_ble_eq_true rfl) d_X1_local_133 (k_i (fun r29 σ29 ⟨iσ29, ik29⟩ => ?_))
          have kp : Keep [(4, 1), (6, 3), (6, 4), (6, 10), (6, 15), (8, 10)] [24, 40, 41, 42, 43, 44] σ0 σ29 := keep_c kp ik29 (by decide) (by decide)
          refine g_pop hF d_X1_local_136 rfl ?_
          exact g_vret hF rfl d_X1_local_137 ⟨rfl, rfl, rfl, ⟨(by rw [show (σ29 6 10) = (σ26 6 10) from (ik29 6 10 rfl rfl rfl)]; show (σ26 6 10).toInt ≤ (σ0 6 10).toInt + 1; have e0 := s_rng (σ26 6 10); have e1 := iσ26.2.2.2.2.2.1; have e2 := s_rng (σ0 6 10); have e3 := i0.2.2.2.2.2.1; have e4 : (100 : Int32).toInt = 100 := (by decide); omega), iσ29, kp⟩⟩
        · -- not taken at 96
          refine g_aload_n hF d_X1_local_99 rfl 0 rfl ?_
          refine g_get (v := .ref (r 4)) hF 4 obC_8 (by decide) m_493 rfl d_X1_local_100 ?_
          refine g_iconst hF (v := 1) d_X1_local_103 (by decide) ?_
          refine g_iconst hF (v := 0) d_X1_local_104 (by decide) ?_
          refine g_iconst hF (v := 0) d_X1_local_105 (by decide) ?_
          refine g_iconst hF (v := 0) d_X1_local_106 (by decide) ?_
          refine g_callVN (As := [.int 1, .int 0, .int 0, .int 0]) (rest := []) hF (c_X0_emit a g r σ26 (1 : Int32) (0 : Int32) (0 : Int32) (0 : Int32) iσ26) (Nat.le_of_ble_eq_true rfl) mV_X0_emit nm_1379 (recv_ob obC_4) rfl rfl (Nat.le_of_ble_eq_true rfl) d_X1_local_107 (k_i (fun r30 σ30 ⟨iσ30, ik30⟩ => ?_))
          have kp : Keep [(4, 1), (6, 3), (6, 4), (6, 10), (6, 15), (8, 10)] [24, 40, 41, 42, 43, 44] σ0 σ30 := keep_c kp ik30 (by decide) (by decide)
          refine g_pop hF d_X1_local_110 rfl ?_
          refine g_aload_n hF d_X1_local_111 rfl 0 rfl ?_
          refine g_callV (As := []) (rest := []) hF (c_X1_storeLocal a g r σ30 iσ30) (Nat.le_of_ble_eq_true rfl) mV_X1_storeLocal m_1380 (recv_ob obC_8) rfl rfl (Nat.le_of_ble_eq_true rfl) d_X1_local_112 (k_v (fun σ31 ⟨iσ31, ik31⟩ => ?_)) (fun _ _ _ h => h.elim)
          have kp : Keep [(4, 1), (6, 3), (6, 4), (6, 10), (6, 15), (8, 10)] [24, 40, 41, 42, 43, 44] σ0 σ31 := keep_c kp ik31 (by decide) (by decide)
          refine g_goto hF 137 d_X1_local_115 (by decide) ?_
          exact g_vret hF rfl d_X1_local_137 ⟨rfl, rfl, rfl, ⟨(by rw [show (σ31 6 10) = (σ26 6 10) from ((ik31 6 10 rfl rfl rfl).trans (ik30 6 10 rfl rfl rfl))]; show (σ26 6 10).toInt ≤ (σ0 6 10).toInt + 1; have e0 := s_rng (σ26 6 10); have e1 := iσ26.2.2.2.2.2.1; have e2 := s_rng (σ0 6 10); have e3 := i0.2.2.2.2.2.1; have e4 : (100 : Int32).toInt = 100 := (by decide); omega), iσ31, kp⟩⟩
      · -- not taken at 60
        exact g_vret hF rfl d_X1_local_63 ⟨rfl, rfl, rfl, ⟨(by rw [show (σ24 6 10) = (σ0 6 10) from ((ik24 6 10 rfl rfl rfl).trans (ik22 6 10 rfl rfl rfl))]; show (σ0 6 10).toInt ≤ (σ0 6 10).toInt + 1; have e0 := s_rng (σ0 6 10); have e1 := i0.2.2.2.2.2.1; have e2 : (100 : Int32).toInt = 100 := (by decide); omega), iσ24, kp⟩⟩
    · -- not taken at 36
      refine g_aload_n hF d_X1_local_39 rfl 0 rfl ?_
      refine g_get (v := .ref (r 6)) hF 2 obC_8 (by decide) m_491 rfl d_X1_local_40 ?_
      refine g_iconst hF (v := 4) d_X1_local_43 (by decide) ?_
      refine g_iload_n hF d_X1_local_44 rfl 1 rfl ?_
      refine g_callVN (As := [.int 4, .int a1]) (rest := []) hF (c_X11_fail a g r σ22 (4 : Int32) a1 iσ22) (Nat.le_of_ble_eq_true rfl) mV_X11_fail nm_1370 (recv_ob obC_6) rfl rfl (Nat.le_of_ble_eq_true rfl) d_X1_local_45 (k_v (fun σ32 ⟨iσ32, ik32⟩ => ?_))
      have kp : Keep [(4, 1), (6, 3), (6, 4), (6, 10), (6, 15), (8, 10)] [24, 40, 41, 42, 43, 44] σ0 σ32 := keep_c kp ik32 (by decide) (by decide)
      refine g_aload_n hF d_X1_local_48 rfl 0 rfl ?_
      refine g_iload_n hF d_X1_local_49 rfl 2 rfl ?_
      refine g_callV (As := [.int a2]) (rest := []) hF (c_X1_checkSquare a g r σ32 a2 iσ32 z_a2) (Nat.le_of_ble_eq_true rfl) mV_X1_checkSquare m_1371 (recv_ob obC_8) rfl rfl (Nat.le_of_ble_eq_true rfl) d_X1_local_50 (k_v (fun σ33 ⟨iσ33, ik33⟩ => ?_)) (fun _ _ _ h => h.elim)
      have kp : Keep [(4, 1), (6, 3), (6, 4), (6, 10), (6, 15), (8, 10)] [24, 40, 41, 42, 43, 44] σ0 σ33 := keep_c kp ik33 (by decide) (by decide)
      refine g_aload_n hF d_X1_local_53 rfl 0 rfl ?_
      refine g_get (v := .ref (r 6)) hF 2 obC_8 (by decide) m_491 rfl d_X1_local_54 ?_
      refine g_getN (v := .int (σ33 6 3)) hF 3 obC_6 (by decide) nm_317 rfl d_X1_local_57 ?_
      refine g_if_eq hF 64 d_X1_local_60 (by decide) rfl (fun c34_60 => ?_) (fun c34_60 => ?_)
      · -- taken at 60
        refine g_aload_n hF d_X1_local_64 rfl 0 rfl ?_
        refine g_aload_n hF d_X1_local_65 rfl 0 rfl ?_
        refine g_get (v := .ref (r 6)) hF 2 obC_8 (by decide) m_491 rfl d_X1_local_66 ?_
        refine g_getN (v := .int (σ33 6 10)) hF 10 obC_6 (by decide) nm_332 rfl d_X1_local_69 ?_
        refine g_top (v := (σ0 6 10)) ((ik33 6 10 rfl rfl rfl).trans ((ik32 6 10 rfl rfl rfl).trans (ik22 6 10 rfl rfl rfl))) ?_
        refine g_put (v := (σ0 6 10)) hF 10 obC_8 (by decide) m_502 rfl rfl rfl d_X1_local_72 ?_
        have kp : Keep [(4, 1), (6, 3), (6, 4), (6, 10), (6, 15), (8, 10)] [24, 40, 41, 42, 43, 44] σ0 (upC σ33 8 10 (σ0 6 10)) := keep_f kp (by decide)
        refine g_aload_n hF d_X1_local_75 rfl 0 rfl ?_
        refine g_get (v := .ref (r 6)) hF 2 obC_8 (by decide) m_491 rfl d_X1_local_76 ?_
        refine g_iload_n hF d_X1_local_79 rfl 1 rfl ?_
        refine g_aload_n hF d_X1_local_80 rfl 0 rfl ?_
        refine g_get (v := .int (σ33 8 11)) hF 11 obC_8 (by decide) m_503 rfl d_X1_local_81 ?_
        refine g_top (v := (σ0 8 11)) ((ik33 8 11 rfl rfl rfl).trans ((ik32 8 11 rfl rfl rfl).trans (ik22 8 11 rfl rfl rfl))) ?_
        refine g_aload_n hF d_X1_local_84 rfl 0 rfl ?_
        refine g_get (v := .int (σ33 8 12)) hF 12 obC_8 (by decide) m_504 rfl d_X1_local_85 ?_
        refine g_top (v := (σ0 8 12)) ((ik33 8 12 rfl rfl rfl).trans ((ik32 8 12 rfl rfl rfl).trans (ik22 8 12 rfl rfl rfl))) ?_
        have j36 : Inv (upC σ33 8 10 (σ0 6 10)) := ⟨iσ33.1, iσ33.2.1, iσ33.2.2.1, iσ33.2.2.2.1, iσ33.2.2.2.2.1, iσ33.2.2.2.2.2.1, iσ33.2.2.2.2.2.2.1, iσ33.2.2.2.2.2.2.2.1, iσ33.2.2.2.2.2.2.2.2.1, iσ33.2.2.2.2.2.2.2.2.2.1, iσ33.2.2.2.2.2.2.2.2.2.2.1, iσ33.2.2.2.2.2.2.2.2.2.2.2.1, iσ33.2.2.2.2.2.2.2.2.2.2.2.2.1, iσ33.2.2.2.2.2.2.2.2.2.2.2.2.2.1, iσ33.2.2.2.2.2.2.2.2.2.2.2.2.2.2.1, iσ33.2.2.2.2.2.2.2.2.2.2.2.2.2.2.2.1, iσ33.2.2.2.2.2.2.2.2.2.2.2.2.2.2.2.2.1, iσ33.2.2.2.2.2.2.2.2.2.2.2.2.2.2.2.2.2.1, iσ33.2.2.2.2.2.2.2.2.2.2.2.2.2.2.2.2.2.2.1, iσ33.2.2.2.2.2.2.2.2.2.2.2.2.2.2.2.2.2.2.2⟩
        refine g_callVN (As := [.int a1, .int (σ0 8 11), .int (σ0 8 12)]) (rest := []) hF (c_X11_declareLocal a g r (upC σ33 8 10 (σ0 6 10)) a1 (σ0 8 11) (σ0 8 12) (by rw [show ((upC σ33 8 10 (σ0 6 10)) 6 10) = (σ0 6 10) from ((ik33 6 10 rfl rfl rfl).trans ((ik32 6 10 rfl rfl rfl).trans (ik22 6 10 rfl rfl rfl)))]; show (σ0 6 10).toInt < 90000; have e0 := s_rng a1; have e1 := s_rng (σ0 8 11); have e2 := s_rng (σ0 8 12); have e3 := s_rng (σ0 6 10); have e4 := i0.2.2.2.2.2.1; have e5 : (100 : Int32).toInt = 100 := (by decide); omega) j36) (Nat.le_of_ble_eq_true rfl) mV_X11_declareLocal nm_1375 (recv_ob obC_6) rfl rfl (Nat.le_of_ble_eq_true rfl) d_X1_local_88 (k_v (fun σ35 ⟨hs35, iσ35, ik35⟩ => ?_))
        have hs35 : (σ35 6 10).toInt = (σ0 6 10).toInt + 1 := (by have h9 := hs35; rw [show ((upC σ33 8 10 (σ0 6 10)) 6 10) = (σ0 6 10) from ((ik33 6 10 rfl rfl rfl).trans ((ik32 6 10 rfl rfl rfl).trans (ik22 6 10 rfl rfl rfl)))] at h9; exact h9)
        have kp : Keep [(4, 1), (6, 3), (6, 4), (6, 10), (6, 15), (8, 10)] [24, 40, 41, 42, 43, 44] σ0 σ35 := keep_c kp ik35 (by decide) (by decide)
        refine g_aload_n hF d_X1_local_91 rfl 0 rfl ?_
        refine g_get (v := .int (σ35 8 12)) hF 12 obC_8 (by decide) m_504 rfl d_X1_local_92 ?_
        refine g_top (v := (σ0 8 12)) ((ik35 8 12 rfl rfl rfl).trans ((ik33 8 12 rfl rfl rfl).trans ((ik32 8 12 rfl rfl rfl).trans (ik22 8 12 rfl rfl rfl)))) ?_
        refine g_iconst hF (v := (-1)) d_X1_local_95 (by decide) ?_
        refine g_icmp_ne (yv := -1) hF 118 d_X1_local_96 (by decide) rfl (by decide) (fun c37_96 => ?_) (fun c37_96 => ?_)
        · -- taken at 96
          refine g_aload_n hF d_X1_local_118 rfl 0 rfl ?_
          refine g_get (v := .ref (r 4)) hF 4 obC_8 (by decide) m_493 rfl d_X1_local_119 ?_
          refine g_bipush hF (v := 15) d_X1_local_122 (by decide) ?_
          refine g_aload_n hF d_X1_local_124 rfl 0 rfl ?_
          refine g_get (v := .int (σ35 8 10)) hF 10 obC_8 (by decide) m_502 rfl d_X1_local_125 ?_
          refine g_top (v := (σ0 6 10)) (ik35 8 10 rfl rfl rfl) ?_
          refine g_aload_n hF d_X1_local_128 rfl 0 rfl ?_
          refine g_get (v := .int (σ35 8 12)) hF 12 obC_8 (by decide) m_504 rfl d_X1_local_129 ?_
          refine g_top (v := (σ0 8 12)) ((ik35 8 12 rfl rfl rfl).trans ((ik33 8 12 rfl rfl rfl).trans ((ik32 8 12 rfl rfl rfl).trans (ik22 8 12 rfl rfl rfl)))) ?_
          refine g_iconst hF (v := 0) d_X1_local_132 (by decide) ?_
          refine g_callVN (As := [.int 15, .int (σ0 6 10), .int (σ0 8 12), .int 0]) (rest := []) hF (c_X0_emit a g r σ35 (15 : Int32) (σ0 6 10) (σ0 8 12) (0 : Int32) iσ35) (Nat.le_of_ble_eq_true rfl) mV_X0_emit nm_1379 (recv_ob obC_4) rfl rfl (Nat.le_of_ble_eq_true rfl) d_X1_local_133 (k_i (fun r38 σ38 ⟨iσ38, ik38⟩ => ?_))
          have kp : Keep [(4, 1), (6, 3), (6, 4), (6, 10), (6, 15), (8, 10)] [24, 40, 41, 42, 43, 44] σ0 σ38 := keep_c kp ik38 (by decide) (by decide)
          refine g_pop hF d_X1_local_136 rfl ?_
          exact g_vret hF rfl d_X1_local_137 ⟨rfl, rfl, rfl, ⟨(by rw [show (σ38 6 10) = (σ35 6 10) from (ik38 6 10 rfl rfl rfl)]; show (σ35 6 10).toInt ≤ (σ0 6 10).toInt + 1; have e0 := s_rng (σ35 6 10); have e1 := iσ35.2.2.2.2.2.1; have e2 := s_rng (σ0 6 10); have e3 := i0.2.2.2.2.2.1; have e4 : (100 : Int32).toInt = 100 := (by decide); omega), iσ38, kp⟩⟩
        · -- not taken at 96
          refine g_aload_n hF d_X1_local_99 rfl 0 rfl ?_
          refine g_get (v := .ref (r 4)) hF 4 obC_8 (by decide) m_493 rfl d_X1_local_100 ?_
          refine g_iconst hF (v := 1) d_X1_local_103 (by decide) ?_
          refine g_iconst hF (v := 0) d_X1_local_104 (by decide) ?_
          refine g_iconst hF (v := 0) d_X1_local_105 (by decide) ?_
          refine g_iconst hF (v := 0) d_X1_local_106 (by decide) ?_
          refine g_callVN (As := [.int 1, .int 0, .int 0, .int 0]) (rest := []) hF (c_X0_emit a g r σ35 (1 : Int32) (0 : Int32) (0 : Int32) (0 : Int32) iσ35) (Nat.le_of_ble_eq_true rfl) mV_X0_emit nm_1379 (recv_ob obC_4) rfl rfl (Nat.le_of_ble_eq_true rfl) d_X1_local_107 (k_i (fun r39 σ39 ⟨iσ39, ik39⟩ => ?_))
          have kp : Keep [(4, 1), (6, 3), (6, 4), (6, 10), (6, 15), (8, 10)] [24, 40, 41, 42, 43, 44] σ0 σ39 := keep_c kp ik39 (by decide) (by decide)
          refine g_pop hF d_X1_local_110 rfl ?_
          refine g_aload_n hF d_X1_local_111 rfl 0 rfl ?_
          refine g_callV (As := []) (rest := []) hF (c_X1_storeLocal a g r σ39 iσ39) (Nat.le_of_ble_eq_true rfl) mV_X1_storeLocal m_1380 (recv_ob obC_8) rfl rfl (Nat.le_of_ble_eq_true rfl) d_X1_local_112 (k_v (fun σ40 ⟨iσ40, ik40⟩ => ?_)) (fun _ _ _ h => h.elim)
          have kp : Keep [(4, 1), (6, 3), (6, 4), (6, 10), (6, 15), (8, 10)] [24, 40, 41, 42, 43, 44] σ0 σ40 := keep_c kp ik40 (by decide) (by decide)
          refine g_goto hF 137 d_X1_local_115 (by decide) ?_
          exact g_vret hF rfl d_X1_local_137 ⟨rfl, rfl, rfl, ⟨(by rw [show (σ40 6 10) = (σ35 6 10) from ((ik40 6 10 rfl rfl rfl).trans (ik39 6 10 rfl rfl rfl))]; show (σ35 6 10).toInt ≤ (σ0 6 10).toInt + 1; have e0 := s_rng (σ35 6 10); have e1 := iσ35.2.2.2.2.2.1; have e2 := s_rng (σ0 6 10); have e3 := i0.2.2.2.2.2.1; have e4 : (100 : Int32).toInt = 100 := (by decide); omega), iσ40, kp⟩⟩
      · -- not taken at 60
        exact g_vret hF rfl d_X1_local_63 ⟨rfl, rfl, rfl, ⟨(by rw [show (σ33 6 10) = (σ0 6 10) from ((ik33 6 10 rfl rfl rfl).trans ((ik32 6 10 rfl rfl rfl).trans (ik22 6 10 rfl rfl rfl)))]; show (σ0 6 10).toInt ≤ (σ0 6 10).toInt + 1; have e0 := s_rng (σ0 6 10); have e1 := i0.2.2.2.2.2.1; have e2 : (100 : Int32).toInt = 100 := (by decide); omega), iσ33, kp⟩⟩
set_option maxHeartbeats 4000000 in
set_option maxRecDepth 100000 in
theorem c_X1_suits (a : Nat → Nat) (g : Nat → Nat → Int32) (r : Nat → Nat) (σ0 : St) (qa1 : Nat) (hqa1 : isOp qa1) (i0 : Inv σ0) (l : Launch) (D : va_G) (cy : Nat → ClassId) : Ct l D cy SC r (EC a g) y_X1_suits (Cond.code y_X1_suits b_X1_suits 2 (some .boolean)) 1 [.ref (r 8), .ref (r qa1)] σ0 Z0 [] (QI (fun v9 σ9 => (v9 = 0 ∨ v9 = 1) ∧ σ9 = σ0)) QF := by
  refine Ct_of (EC_ok a g) (by decide) (Nat.le_of_ble_eq_true rfl) (by decide) (fun X hnn hF => ?_)
  show G SC r X σ0 Z0 [] [(0, .ref (r 8)), (1, .ref (r qa1))] [] 0
  refine g_aload_n hF d_X1_suits_0 rfl 1 rfl ?_
  refine g_aload_n hF d_X1_suits_1 rfl 0 rfl ?_
  refine g_get (v := .int (σ0 8 11)) hF 11 obC_8 (by decide) m_503 rfl d_X1_suits_2 ?_
  refine g_callVN (As := [.int (σ0 8 11)]) (rest := []) hF (c_X6_fits a g r σ0 (σ0 8 11) qa1 hqa1 i0) (Nat.le_of_ble_eq_true rfl) mV_X6_fits nm_1420 (recv_ob (obC_op hqa1)) rfl rfl (Nat.le_of_ble_eq_true rfl) d_X1_suits_5 (k_roz (fun r1 hz1 => ?_))
  refine g_if_eq hF 29 d_X1_suits_8 (by decide) rfl (fun c2_8 => ?_) (fun c2_8 => ?_)
  · -- taken at 8
    refine g_iconst hF (v := 0) d_X1_suits_29 (by decide) ?_
    exact g_zret hF rfl (k_nz (Or.inl rfl)) d_X1_suits_30 ⟨rfl, rfl, (0 : Int32), rfl, (Or.inl rfl), rfl⟩
  · -- not taken at 8
    refine g_aload_n hF d_X1_suits_11 rfl 0 rfl ?_
    refine g_get (v := .int (σ0 8 9)) hF 9 obC_8 (by decide) m_501 rfl d_X1_suits_12 ?_
    refine g_if_ne hF 25 d_X1_suits_15 (by decide) rfl (fun c3_15 => ?_) (fun c3_15 => ?_)
    · -- taken at 15
      refine g_iconst hF (v := 1) d_X1_suits_25 (by decide) ?_
      refine g_goto hF 30 d_X1_suits_26 (by decide) ?_
      exact g_zret hF rfl (k_nz (Or.inr rfl)) d_X1_suits_30 ⟨rfl, rfl, (1 : Int32), rfl, (Or.inr rfl), rfl⟩
    · -- not taken at 15
      refine g_aload_n hF d_X1_suits_18 rfl 1 rfl ?_
      refine g_callVN (As := []) (rest := []) hF (c_X6_isInitial a g r σ0 qa1 hqa1 i0) (Nat.le_of_ble_eq_true rfl) mV_X6_isInitial nm_1421 (recv_ob (obC_op hqa1)) rfl rfl (Nat.le_of_ble_eq_true rfl) d_X1_suits_19 (k_roz (fun r4 hz4 => ?_))
      refine g_if_eq hF 29 d_X1_suits_22 (by decide) rfl (fun c5_22 => ?_) (fun c5_22 => ?_)
      · -- taken at 22
        refine g_iconst hF (v := 0) d_X1_suits_29 (by decide) ?_
        exact g_zret hF rfl (k_nz (Or.inl rfl)) d_X1_suits_30 ⟨rfl, rfl, (0 : Int32), rfl, (Or.inl rfl), rfl⟩
      · -- not taken at 22
        refine g_iconst hF (v := 1) d_X1_suits_25 (by decide) ?_
        refine g_goto hF 30 d_X1_suits_26 (by decide) ?_
        exact g_zret hF rfl (k_nz (Or.inr rfl)) d_X1_suits_30 ⟨rfl, rfl, (1 : Int32), rfl, (Or.inr rfl), rfl⟩
set_option maxHeartbeats 4000000 in
set_option maxRecDepth 100000 in
theorem c_X1_parameter (a : Nat → Nat) (g : Nat → Nat → Int32) (r : Nat → Nat) (σ0 : St) (a1 : Int32) (a2 : Int32) (hpre : (σ0 6 10).toInt < 90000) (i0 : Inv σ0) (l : Launch) (D : va_G) (cy : Nat → ClassId) : Ct l D cy SC r (EC a g) y_X1_parameter (Cond.code y_X1_parameter b_X1_parameter 3 none) 3 [.ref (r 8), .int a1, .int a2] σ0 Z0 [] (QV (fun σ9 => (((σ9 6 10).toInt ≤ (σ0 6 10).toInt + 1) ∧ Inv σ9 ∧ Keep [(6, 3), (6, 4), (6, 10), (6, 15)] [40, 41, 42, 43, 44] σ0 σ9))) QF := by
  refine Ct_of (EC_ok a g) (by decide) (Nat.le_of_ble_eq_true rfl) (by decide) (fun X hnn hF => ?_)
  show G SC r X σ0 Z0 [] [(0, .ref (r 8)), (1, .int a1), (2, .int a2)] [] 0
  have kp : Keep [(6, 3), (6, 4), (6, 10), (6, 15)] [40, 41, 42, 43, 44] σ0 σ0 := keep_rf
  refine g_aload_n hF d_X1_parameter_0 rfl 0 rfl ?_
  refine g_get (v := .ref (r 2)) hF 1 obC_8 (by decide) m_490 rfl d_X1_parameter_1 ?_
  refine g_getN (v := .ref (r 13)) hF 5 obC_2 (by decide) nm_51 rfl d_X1_parameter_4 ?_
  refine g_iload_n hF d_X1_parameter_7 rfl 1 rfl ?_
  refine g_callSN (As := [.ref (r 13), .int a1]) (rest := []) hF (c_at a g r σ0 arC_13 (by decide) a1) (Nat.le_of_ble_eq_true rfl) mS_X12_at nm_1356 rfl rfl (Nat.le_of_ble_eq_true rfl) d_X1_parameter_8 (k_rop (fun r1 hr1 => ?_))
  refine g_iconst hF (v := 2) d_X1_parameter_11 (by decide) ?_
  refine g_icmp_ne (yv := 2) hF 27 d_X1_parameter_12 (by decide) rfl (by decide) (fun c2_12 => ?_) (fun c2_12 => ?_)
  · -- taken at 12
    refine g_aload_n hF d_X1_parameter_27 rfl 0 rfl ?_
    refine g_get (v := .ref (r 6)) hF 2 obC_8 (by decide) m_491 rfl d_X1_parameter_28 ?_
    refine g_iconst hF (v := 2) d_X1_parameter_31 (by decide) ?_
    refine g_iload_n hF d_X1_parameter_32 rfl 1 rfl ?_
    refine g_callVN (As := [.int 2, .int a1]) (rest := []) hF (c_X11_fail a g r σ0 (2 : Int32) a1 i0) (Nat.le_of_ble_eq_true rfl) mV_X11_fail nm_1370 (recv_ob obC_6) rfl rfl (Nat.le_of_ble_eq_true rfl) d_X1_parameter_33 (k_v (fun σ3 ⟨iσ3, ik3⟩ => ?_))
    have kp : Keep [(6, 3), (6, 4), (6, 10), (6, 15)] [40, 41, 42, 43, 44] σ0 σ3 := keep_c kp ik3 (by decide) (by decide)
    refine g_goto hF 49 d_X1_parameter_36 (by decide) ?_
    exact g_vret hF rfl d_X1_parameter_49 ⟨rfl, rfl, rfl, ⟨(by rw [show (σ3 6 10) = (σ0 6 10) from (ik3 6 10 rfl rfl rfl)]; show (σ0 6 10).toInt ≤ (σ0 6 10).toInt + 1; have e0 := s_rng (σ0 6 10); have e1 := i0.2.2.2.2.2.1; omega), iσ3, kp⟩⟩
  · -- not taken at 12
    refine g_aload_n hF d_X1_parameter_15 rfl 0 rfl ?_
    refine g_get (v := .ref (r 6)) hF 2 obC_8 (by decide) m_491 rfl d_X1_parameter_16 ?_
    refine g_iconst hF (v := 0) d_X1_parameter_19 (by decide) ?_
    refine g_iload_n hF d_X1_parameter_20 rfl 1 rfl ?_
    refine g_callVN (As := [.int 0, .int a1]) (rest := []) hF (c_X11_localFrom a g r σ0 (0 : Int32) a1 (by show 0 ≤ 0; have e0 : (0 : Int32).toInt = 0 := (by decide); have e1 := s_rng a1; omega) i0) (Nat.le_of_ble_eq_true rfl) mV_X11_localFrom nm_1369 (recv_ob obC_6) rfl rfl (Nat.le_of_ble_eq_true rfl) d_X1_parameter_21 (k_ro (fun r4 => ?_))
    refine g_if_lt hF 39 d_X1_parameter_24 (by decide) rfl (fun c5_24 => ?_) (fun c5_24 => ?_)
    · -- taken at 24
      refine g_aload_n hF d_X1_parameter_39 rfl 0 rfl ?_
      refine g_get (v := .ref (r 6)) hF 2 obC_8 (by decide) m_491 rfl d_X1_parameter_40 ?_
      refine g_iload_n hF d_X1_parameter_43 rfl 1 rfl ?_
      refine g_iload_n hF d_X1_parameter_44 rfl 2 rfl ?_
      refine g_iconst hF (v := (-1)) d_X1_parameter_45 (by decide) ?_
      refine g_callVN (As := [.int a1, .int a2, .int (-1)]) (rest := []) hF (c_X11_declareLocal a g r σ0 a1 a2 ((-1) : Int32) (by show (σ0 6 10).toInt < 90000; have e0 := s_rng a1; have e1 := s_rng a2; have e2 : ((-1) : Int32).toInt = -1 := (by decide); have e3 := s_rng (σ0 6 10); have e4 := i0.2.2.2.2.2.1; omega) i0) (Nat.le_of_ble_eq_true rfl) mV_X11_declareLocal nm_1375 (recv_ob obC_6) rfl rfl (Nat.le_of_ble_eq_true rfl) d_X1_parameter_46 (k_v (fun σ6 ⟨hs6, iσ6, ik6⟩ => ?_))
      have hs6 : (σ6 6 10).toInt = (σ0 6 10).toInt + 1 := hs6
      have kp : Keep [(6, 3), (6, 4), (6, 10), (6, 15)] [40, 41, 42, 43, 44] σ0 σ6 := keep_c kp ik6 (by decide) (by decide)
      exact g_vret hF rfl d_X1_parameter_49 ⟨rfl, rfl, rfl, ⟨(by show (σ6 6 10).toInt ≤ (σ0 6 10).toInt + 1; have e0 := s_rng (σ6 6 10); have e1 := iσ6.2.2.2.2.2.1; have e2 := s_rng (σ0 6 10); have e3 := i0.2.2.2.2.2.1; omega), iσ6, kp⟩⟩
    · -- not taken at 24
      refine g_aload_n hF d_X1_parameter_27 rfl 0 rfl ?_
      refine g_get (v := .ref (r 6)) hF 2 obC_8 (by decide) m_491 rfl d_X1_parameter_28 ?_
      refine g_iconst hF (v := 2) d_X1_parameter_31 (by decide) ?_
      refine g_iload_n hF d_X1_parameter_32 rfl 1 rfl ?_
      refine g_callVN (As := [.int 2, .int a1]) (rest := []) hF (c_X11_fail a g r σ0 (2 : Int32) a1 i0) (Nat.le_of_ble_eq_true rfl) mV_X11_fail nm_1370 (recv_ob obC_6) rfl rfl (Nat.le_of_ble_eq_true rfl) d_X1_parameter_33 (k_v (fun σ7 ⟨iσ7, ik7⟩ => ?_))
      have kp : Keep [(6, 3), (6, 4), (6, 10), (6, 15)] [40, 41, 42, 43, 44] σ0 σ7 := keep_c kp ik7 (by decide) (by decide)
      refine g_goto hF 49 d_X1_parameter_36 (by decide) ?_
      exact g_vret hF rfl d_X1_parameter_49 ⟨rfl, rfl, rfl, ⟨(by rw [show (σ7 6 10) = (σ0 6 10) from (ik7 6 10 rfl rfl rfl)]; show (σ0 6 10).toInt ≤ (σ0 6 10).toInt + 1; have e0 := s_rng (σ0 6 10); have e1 := i0.2.2.2.2.2.1; omega), iσ7, kp⟩⟩
set_option maxHeartbeats 4000000 in
set_option maxRecDepth 100000 in
theorem c_X8_symbolsOf (a : Nat → Nat) (g : Nat → Nat → Int32) (r : Nat → Nat) (σ0 : St) (a1 : Int32) (i0 : Inv σ0) (l : Launch) (D : va_G) (cy : Nat → ClassId) : Ct l D cy SC r (EC a g) y_X8_symbolsOf (Cond.code y_X8_symbolsOf b_X8_symbolsOf 4 (some .int)) 2 [.ref (r 5), .int a1] σ0 Z0 [] (QI (fun _ σ9 => σ9 = σ0)) QF := by
  refine Ct_of (EC_ok a g) (by decide) (Nat.le_of_ble_eq_true rfl) (by decide) (fun X hnn hF => ?_)
  show G SC r X σ0 Z0 [] [(0, .ref (r 5)), (1, .int a1)] [] 0
  have b8 : ∀ (N : Nat) (x1 : Int32) (x2 : Int32) (x3 : Int32) , upm x3 = N → G SC r X σ0 Z0 [] [(0, .ref (r 5)), (1, .int x1), (2, .int x2), (3, .int x3)] [] 8 := by
    intro M8
    induction M8 using Nat.strongRecOn with
    | _ M8 ih8 =>
      intro x1 x2 x3 N8
      refine g_iload_n hF d_X8_symbolsOf_8 rfl 3 rfl ?_
      refine g_aload_n hF d_X8_symbolsOf_9 rfl 0 rfl ?_
      refine g_get (v := .ref (r 34)) hF 14 obC_5 (by decide) m_252 rfl d_X8_symbolsOf_10 ?_
      refine g_iload_n hF d_X8_symbolsOf_13 rfl 1 rfl ?_
      refine g_callSN (As := [.ref (r 34), .int x1]) (rest := [.int x3]) hF (c_at a g r σ0 arC_34 (by decide) x1) (Nat.le_of_ble_eq_true rfl) mS_X12_at nm_1125 rfl rfl (Nat.le_of_ble_eq_true rfl) d_X8_symbolsOf_14 (k_rop (fun r1 hr1 => ?_))
      have hr1 : 0 ≤ r1.toInt ∧ r1.toInt ≤ 10100 := acr_at i0.2.2.2.2.2.2.2.2.2.2.2.2.2.1 (by decide) (by decide) (hr1.imp And.left (fun h => ⟨_, h.2⟩))
      refine g_icmp_ge hF 43 d_X8_symbolsOf_17 (by decide) rfl rfl (fun c2_17 => ?_) (fun c2_17 => ?_)
      · -- taken at 17
        refine g_iload_n hF d_X8_symbolsOf_43 rfl 2 rfl ?_
        exact g_iret hF rfl d_X8_symbolsOf_44 ⟨rfl, rfl, x2, rfl, rfl⟩
      · -- not taken at 17
        refine g_iload_n hF d_X8_symbolsOf_20 rfl 2 rfl ?_
        refine g_aload_n hF d_X8_symbolsOf_21 rfl 0 rfl ?_
        refine g_iload_n hF d_X8_symbolsOf_22 rfl 3 rfl ?_
        refine g_iconst hF (v := 2) d_X8_symbolsOf_23 (by decide) ?_
        refine g_callV (As := [.int x3, .int 2]) (rest := [.int x2]) hF (c_X8_is a g r σ0 x3 (2 : Int32) i0) (Nat.le_of_ble_eq_true rfl) mV_X8_is m_1525 (recv_ob obC_5) rfl rfl (Nat.le_of_ble_eq_true rfl) d_X8_symbolsOf_24 (k_roz (fun r3 hz3 => ?_)) (fun _ _ _ h => h.elim)
        refine g_if_eq hF 34 d_X8_symbolsOf_27 (by decide) rfl (fun c4_27 => ?_) (fun c4_27 => ?_)
        · -- taken at 27
          refine g_iconst hF (v := 1) d_X8_symbolsOf_34 (by decide) ?_
          refine g_iadd hF d_X8_symbolsOf_35 ?_
          refine g_istore_n hF [(2, .int (x2 + 1)), (0, .ref (r 5)), (1, .int x1), (3, .int x3)] d_X8_symbolsOf_36 rfl hnn (by decide) rfl ?_
          refine g_iinc hF (x3 + 1) [(3, .int (x3 + 1)), (2, .int (x2 + 1)), (0, .ref (r 5)), (1, .int x1)] d_X8_symbolsOf_37 3 rfl rfl hnn (by decide) rfl ?_
          refine g_goto hF 8 d_X8_symbolsOf_40 (by decide) ?_
          exact g_sub (L' := [(0, .ref (r 5)), (1, .int x1), (2, .int (x2 + 1)), (3, .int (x3 + 1))]) [2, 3, 1, 0] rfl (ih8 _ (N8 ▸ upm_lt c2_17 (s_rng r1).2) x1 (x2 + 1) (x3 + 1) rfl)
        · -- not taken at 27
          refine g_iconst hF (v := 0) d_X8_symbolsOf_30 (by decide) ?_
          refine g_goto hF 35 d_X8_symbolsOf_31 (by decide) ?_
          refine g_iadd hF d_X8_symbolsOf_35 ?_
          refine g_istore_n hF [(2, .int (x2 + 0)), (0, .ref (r 5)), (1, .int x1), (3, .int x3)] d_X8_symbolsOf_36 rfl hnn (by decide) rfl ?_
          refine g_iinc hF (x3 + 1) [(3, .int (x3 + 1)), (2, .int (x2 + 0)), (0, .ref (r 5)), (1, .int x1)] d_X8_symbolsOf_37 3 rfl rfl hnn (by decide) rfl ?_
          refine g_goto hF 8 d_X8_symbolsOf_40 (by decide) ?_
          exact g_sub (L' := [(0, .ref (r 5)), (1, .int x1), (2, .int (x2 + 0)), (3, .int (x3 + 1))]) [2, 3, 1, 0] rfl (ih8 _ (N8 ▸ upm_lt c2_17 (s_rng r1).2) x1 (x2 + 0) (x3 + 1) rfl)
  refine g_iconst hF (v := 0) d_X8_symbolsOf_0 (by decide) ?_
  refine g_istore_n hF [(2, .int 0), (0, .ref (r 5)), (1, .int a1)] d_X8_symbolsOf_1 rfl hnn (by decide) rfl ?_
  refine g_aload_n hF d_X8_symbolsOf_2 rfl 1 rfl ?_
  refine g_iload_n hF d_X8_symbolsOf_3 rfl 2 rfl ?_
  refine g_callV (As := [.int a1]) (rest := []) hF (c_X8_firstOf a g r σ0 a1 i0) (Nat.le_of_ble_eq_true rfl) mV_X8_firstOf m_1521 (recv_ob obC_5) rfl rfl (Nat.le_of_ble_eq_true rfl) d_X8_symbolsOf_4 (k_ro (fun r5 => ?_)) (fun _ _ _ h => h.elim)
  refine g_istore_n hF [(3, .int r5), (2, .int 0), (0, .ref (r 5)), (1, .int a1)] d_X8_symbolsOf_7 rfl hnn (by decide) rfl ?_
  exact g_sub (L' := [(0, .ref (r 5)), (1, .int a1), (2, .int 0), (3, .int r5)]) [2, 3, 1, 0] rfl (b8 _ a1 (0 : Int32) r5 rfl)
set_option maxHeartbeats 4000000 in
set_option maxRecDepth 100000 in
theorem c_X12_name (a : Nat → Nat) (g : Nat → Nat → Int32) (r : Nat → Nat) (σ0 : St) (a1 : Int32) (a2 : Int32) (a3 : Int32) (i0 : Inv σ0) (l : Launch) (D : va_G) (cy : Nat → ClassId) : Ct l D cy SC r (EC a g) y_X12_name (Cond.code y_X12_name b_X12_name 4 (some .int)) 3 [.ref (r 0), .int a1, .int a2, .int a3] σ0 Z0 [] (QI (fun _ σ9 => σ9 = σ0)) QF := by
  refine Ct_of (EC_ok a g) (by decide) (Nat.le_of_ble_eq_true rfl) (by decide) (fun X hnn hF => ?_)
  show G SC r X σ0 Z0 [] [(0, .ref (r 0)), (1, .int a1), (2, .int a2), (3, .int a3)] [] 0
  refine g_aload_n hF d_X12_name_0 rfl 0 rfl ?_
  refine g_get (v := .ref (r 5)) hF 7 obC_0 (by decide) m_742 rfl d_X12_name_1 ?_
  refine g_aload_n hF d_X12_name_4 rfl 0 rfl ?_
  refine g_get (v := .ref (r 5)) hF 7 obC_0 (by decide) m_742 rfl d_X12_name_5 ?_
  refine g_iload_n hF d_X12_name_8 rfl 1 rfl ?_
  refine g_iload_n hF d_X12_name_9 rfl 2 rfl ?_
  refine g_callVN (As := [.int a1, .int a2]) (rest := [.ref (r 5)]) hF (c_X8_symbolAt a g r σ0 a1 a2 i0) (Nat.le_of_ble_eq_true rfl) mV_X8_symbolAt nm_1530 (recv_ob obC_5) rfl rfl (Nat.le_of_ble_eq_true rfl) d_X12_name_10 (k_ro (fun r1 => ?_))
  refine g_iload_n hF d_X12_name_13 rfl 3 rfl ?_
  refine g_callVN (As := [.int r1, .int a3]) (rest := []) hF (c_X8_nameByte a g r σ0 r1 a3 i0) (Nat.le_of_ble_eq_true rfl) mV_X8_nameByte nm_1535 (recv_ob obC_5) rfl rfl (Nat.le_of_ble_eq_true rfl) d_X12_name_14 (k_ro (fun r2 => ?_))
  exact g_iret hF rfl d_X12_name_17 ⟨rfl, rfl, r2, rfl, rfl⟩
set_option maxHeartbeats 4000000 in
set_option maxRecDepth 100000 in
theorem c_X12_pick (a : Nat → Nat) (g : Nat → Nat → Int32) (r : Nat → Nat) (σ0 : St) (a1 : Int32) (i0 : Inv σ0) (l : Launch) (D : va_G) (cy : Nat → ClassId) : Ct l D cy SC r (EC a g) y_X12_pick (Cond.code y_X12_pick b_X12_pick 2 (some .int)) 2 [.ref (r 0), .int a1] σ0 Z0 [] (QI (fun _ σ9 => (Inv σ9 ∧ Keep [(10, 5)] [56] σ0 σ9))) QF := by
  refine Ct_of (EC_ok a g) (by decide) (Nat.le_of_ble_eq_true rfl) (by decide) (fun X hnn hF => ?_)
  show G SC r X σ0 Z0 [] [(0, .ref (r 0)), (1, .int a1)] [] 0
  have kp : Keep [(10, 5)] [56] σ0 σ0 := keep_rf
  refine g_aload_n hF d_X12_pick_0 rfl 0 rfl ?_
  refine g_get (v := .ref (r 5)) hF 7 obC_0 (by decide) m_742 rfl d_X12_pick_1 ?_
  refine g_iload_n hF d_X12_pick_4 rfl 1 rfl ?_
  refine g_callVN (As := [.int a1]) (rest := []) hF (c_X8_has a g r σ0 a1 i0) (Nat.le_of_ble_eq_true rfl) mV_X8_has nm_1513 (recv_ob obC_5) rfl rfl (Nat.le_of_ble_eq_true rfl) d_X12_pick_5 (k_roz (fun r1 hz1 => ?_))
  refine g_if_eq hF 22 d_X12_pick_8 (by decide) rfl (fun c2_8 => ?_) (fun c2_8 => ?_)
  · -- taken at 8
    refine g_iconst hF (v := (-1)) d_X12_pick_22 (by decide) ?_
    exact g_iret hF rfl d_X12_pick_23 ⟨rfl, rfl, ((-1) : Int32), rfl, ⟨i0, kp⟩⟩
  · -- not taken at 8
    refine g_aload_n hF d_X12_pick_11 rfl 0 rfl ?_
    refine g_get (v := .ref (r 10)) hF 12 obC_0 (by decide) m_747 rfl d_X12_pick_12 ?_
    refine g_iload_n hF d_X12_pick_15 rfl 1 rfl ?_
    refine g_callVN (As := [.int a1]) (rest := []) hF (c_X4_choose a g r σ0 a1 i0) (Nat.le_of_ble_eq_true rfl) mV_X4_choose nm_1548 (recv_ob obC_10) rfl rfl (Nat.le_of_ble_eq_true rfl) d_X12_pick_16 (k_i (fun r3 σ3 ⟨iσ3, ik3⟩ => ?_))
    have kp : Keep [(10, 5)] [56] σ0 σ3 := keep_c kp ik3 (by decide) (by decide)
    refine g_goto hF 23 d_X12_pick_19 (by decide) ?_
    exact g_iret hF rfl d_X12_pick_23 ⟨rfl, rfl, r3, rfl, ⟨iσ3, kp⟩⟩
set_option maxHeartbeats 4000000 in
set_option maxRecDepth 100000 in
theorem c_X12_input (a : Nat → Nat) (g : Nat → Nat → Int32) (r : Nat → Nat) (σ0 : St) (a1 : Int32) (i0 : Inv σ0) (l : Launch) (D : va_G) (cy : Nat → ClassId) : Ct l D cy SC r (EC a g) y_X12_input (Cond.code y_X12_input b_X12_input 2 (some .int)) 1 [.ref (r 0), .int a1] σ0 Z0 [] (QI (fun _ σ9 => (Inv σ9 ∧ Keep [(11, 0)] [60] σ0 σ9))) QF := by
  refine Ct_of (EC_ok a g) (by decide) (Nat.le_of_ble_eq_true rfl) (by decide) (fun X hnn hF => ?_)
  show G SC r X σ0 Z0 [] [(0, .ref (r 0)), (1, .int a1)] [] 0
  have kp : Keep [(11, 0)] [60] σ0 σ0 := keep_rf
  refine g_aload_n hF d_X12_input_0 rfl 0 rfl ?_
  refine g_get (v := .ref (r 11)) hF 13 obC_0 (by decide) m_748 rfl d_X12_input_1 ?_
  refine g_iload_n hF d_X12_input_4 rfl 1 rfl ?_
  refine g_callVN (As := [.int a1]) (rest := []) hF (c_X9_give a g r σ0 a1 i0) (Nat.le_of_ble_eq_true rfl) mV_X9_give nm_1621 (recv_ob obC_11) rfl rfl (Nat.le_of_ble_eq_true rfl) d_X12_input_5 (k_i (fun r1 σ1 ⟨iσ1, ik1⟩ => ?_))
  have kp : Keep [(11, 0)] [60] σ0 σ1 := keep_c kp ik1 (by decide) (by decide)
  exact g_iret hF rfl d_X12_input_8 ⟨rfl, rfl, r1, rfl, ⟨iσ1, kp⟩⟩
set_option maxHeartbeats 4000000 in
set_option maxRecDepth 100000 in
theorem c_X5_turn (a : Nat → Nat) (g : Nat → Nat → Int32) (r : Nat → Nat) (σ0 : St) (a1 : Int32) (i0 : Inv σ0) (l : Launch) (D : va_G) (cy : Nat → ClassId) : Ct l D cy SC r (EC a g) y_X5_turn (Cond.code y_X5_turn b_X5_turn 2 (some .boolean)) 1 [.ref (r 12), .int a1] σ0 Z0 [] (QI (fun v9 σ9 => (v9 = 0 ∨ v9 = 1) ∧ (Inv σ9 ∧ Keep [(12, 13), (12, 14), (12, 16), (12, 17)] [] σ0 σ9))) QF := by
  refine Ct_of (EC_ok a g) (by decide) (Nat.le_of_ble_eq_true rfl) (by decide) (fun X hnn hF => ?_)
  show G SC r X σ0 Z0 [] [(0, .ref (r 12)), (1, .int a1)] [] 0
  have kp : Keep [(12, 13), (12, 14), (12, 16), (12, 17)] [] σ0 σ0 := keep_rf
  refine g_aload_n hF d_X5_turn_0 rfl 0 rfl ?_
  refine g_get (v := .int (σ0 12 14)) hF 14 obC_12 (by decide) m_686 rfl d_X5_turn_1 ?_
  refine g_aload_n hF d_X5_turn_4 rfl 0 rfl ?_
  refine g_get (v := .int (σ0 12 12)) hF 12 obC_12 (by decide) m_684 rfl d_X5_turn_5 ?_
  refine g_icmp_lt hF 19 d_X5_turn_8 (by decide) rfl rfl (fun c1_8 => ?_) (fun c1_8 => ?_)
  · -- taken at 8
    refine g_aload_n hF d_X5_turn_19 rfl 0 rfl ?_
    refine g_dup hF d_X5_turn_20 rfl ?_
    refine g_get (v := .int (σ0 12 14)) hF 14 obC_12 (by decide) m_686 rfl d_X5_turn_21 ?_
    refine g_iconst hF (v := 1) d_X5_turn_24 (by decide) ?_
    refine g_iadd hF d_X5_turn_25 ?_
    refine g_put (v := ((σ0 12 14) + 1)) hF 14 obC_12 (by decide) m_686 rfl rfl rfl d_X5_turn_26 ?_
    have kp : Keep [(12, 13), (12, 14), (12, 16), (12, 17)] [] σ0 (upC σ0 12 14 ((σ0 12 14) + 1)) := keep_f kp (by decide)
    refine g_iconst hF (v := 1) d_X5_turn_29 (by decide) ?_
    have j2 : Inv (upC σ0 12 14 ((σ0 12 14) + 1)) := ⟨i0.1, i0.2.1, i0.2.2.1, i0.2.2.2.1, i0.2.2.2.2.1, i0.2.2.2.2.2.1, i0.2.2.2.2.2.2.1, i0.2.2.2.2.2.2.2.1, i0.2.2.2.2.2.2.2.2.1, i0.2.2.2.2.2.2.2.2.2.1, i0.2.2.2.2.2.2.2.2.2.2.1, i0.2.2.2.2.2.2.2.2.2.2.2.1, i0.2.2.2.2.2.2.2.2.2.2.2.2.1, i0.2.2.2.2.2.2.2.2.2.2.2.2.2.1, i0.2.2.2.2.2.2.2.2.2.2.2.2.2.2.1, i0.2.2.2.2.2.2.2.2.2.2.2.2.2.2.2.1, i0.2.2.2.2.2.2.2.2.2.2.2.2.2.2.2.2.1, i0.2.2.2.2.2.2.2.2.2.2.2.2.2.2.2.2.2.1, i0.2.2.2.2.2.2.2.2.2.2.2.2.2.2.2.2.2.2.1, i0.2.2.2.2.2.2.2.2.2.2.2.2.2.2.2.2.2.2.2⟩
    exact g_zret hF rfl (k_nz (Or.inr rfl)) d_X5_turn_30 ⟨rfl, rfl, (1 : Int32), rfl, (Or.inr rfl), ⟨j2, kp⟩⟩
  · -- not taken at 8
    refine g_aload_n hF d_X5_turn_11 rfl 0 rfl ?_
    refine g_iconst hF (v := 4) d_X5_turn_12 (by decide) ?_
    refine g_iload_n hF d_X5_turn_13 rfl 1 rfl ?_
    refine g_callV (As := [.int 4, .int a1]) (rest := []) hF (c_X5_fail a g r σ0 (4 : Int32) a1 i0) (Nat.le_of_ble_eq_true rfl) mV_X5_fail m_1656 (recv_ob obC_12) rfl rfl (Nat.le_of_ble_eq_true rfl) d_X5_turn_14 (k_v (fun σ3 ⟨iσ3, ik3⟩ => ?_)) (fun _ _ _ h => h.elim)
    have kp : Keep [(12, 13), (12, 14), (12, 16), (12, 17)] [] σ0 σ3 := keep_c kp ik3 (by decide) (by decide)
    refine g_iconst hF (v := 0) d_X5_turn_17 (by decide) ?_
    exact g_zret hF rfl (k_nz (Or.inl rfl)) d_X5_turn_18 ⟨rfl, rfl, (0 : Int32), rfl, (Or.inl rfl), ⟨iσ3, kp⟩⟩
set_option maxHeartbeats 4000000 in
set_option maxRecDepth 100000 in
theorem c_X5_reach (a : Nat → Nat) (g : Nat → Nat → Int32) (r : Nat → Nat) (σ0 : St) (a1 : Int32) (a2 : Int32) (i0 : Inv σ0) (l : Launch) (D : va_G) (cy : Nat → ClassId) : Ct l D cy SC r (EC a g) y_X5_reach (Cond.code y_X5_reach b_X5_reach 6 none) 3 [.ref (r 12), .int a1, .int a2] σ0 Z0 [] (QV (fun σ9 => (Inv σ9 ∧ Keep [(12, 9), (12, 13), (12, 16), (12, 17)] [62, 63] σ0 σ9))) QF := by
  refine Ct_of (EC_ok a g) (by decide) (Nat.le_of_ble_eq_true rfl) (by decide) (fun X hnn hF => ?_)
  show G SC r X σ0 Z0 [] [(0, .ref (r 12)), (1, .int a1), (2, .int a2)] [] 0
  have kp : Keep [(12, 9), (12, 13), (12, 16), (12, 17)] [62, 63] σ0 σ0 := keep_rf
  refine g_aload_n hF d_X5_reach_0 rfl 0 rfl ?_
  refine g_get (v := .ref (r 24)) hF 3 obC_12 (by decide) m_674 rfl d_X5_reach_1 ?_
  refine g_iload_n hF d_X5_reach_4 rfl 2 rfl ?_
  refine g_iconst hF (v := 1) d_X5_reach_5 (by decide) ?_
  refine g_iadd hF d_X5_reach_6 ?_
  refine g_callSN (As := [.ref (r 24), .int (a2 + 1)]) (rest := []) hF (c_at a g r σ0 arC_24 (by decide) (a2 + 1)) (Nat.le_of_ble_eq_true rfl) mS_X12_at nm_1660 rfl rfl (Nat.le_of_ble_eq_true rfl) d_X5_reach_7 (k_rop (fun r1 hr1 => ?_))
  refine g_istore_n hF [(3, .int r1), (0, .ref (r 12)), (1, .int a1), (2, .int a2)] d_X5_reach_10 rfl hnn (by decide) rfl ?_
  refine g_iload_n hF d_X5_reach_11 rfl 2 rfl ?_
  refine g_bipush hF (v := 19) d_X5_reach_12 (by decide) ?_
  refine g_icmp_ne (yv := 19) hF 24 d_X5_reach_14 (by decide) rfl (by decide) (fun c2_14 => ?_) (fun c2_14 => ?_)
  · -- taken at 14
    refine g_iconst hF (v := 0) d_X5_reach_24 (by decide) ?_
    refine g_istore hF [(4, .int 0), (3, .int r1), (0, .ref (r 12)), (1, .int a1), (2, .int a2)] d_X5_reach_25 hnn (by decide) rfl ?_
    refine g_aload_n hF d_X5_reach_27 rfl 2 rfl ?_
    refine g_callV (As := []) (rest := []) hF (c_X5_pop a g r σ0 i0) (Nat.le_of_ble_eq_true rfl) mV_X5_pop m_1681 (recv_ob obC_12) rfl rfl (Nat.le_of_ble_eq_true rfl) d_X5_reach_28 (k_i (fun r3 σ3 ⟨iσ3, ik3⟩ => ?_)) (fun _ _ _ h => h.elim)
    have kp : Keep [(12, 9), (12, 13), (12, 16), (12, 17)] [62, 63] σ0 σ3 := keep_c kp ik3 (by decide) (by decide)
    refine g_istore hF [(5, .int r3), (4, .int 0), (3, .int r1), (0, .ref (r 12)), (1, .int a1), (2, .int a2)] d_X5_reach_31 hnn (by decide) rfl ?_
    refine g_iload hF d_X5_reach_33 0 rfl ?_
    refine g_callS (As := [.int r3]) (rest := []) hF (c_X5_isCell a g r σ3 r3 iσ3) (Nat.le_of_ble_eq_true rfl) mS_X5_isCell m_1733 rfl rfl (Nat.le_of_ble_eq_true rfl) d_X5_reach_35 (k_roz (fun r4 hz4 => ?_)) (fun _ _ _ h => h.elim)
    refine g_if_ne hF 50 d_X5_reach_38 (by decide) rfl (fun c5_38 => ?_) (fun c5_38 => ?_)
    · -- taken at 38
      refine g_iload_n hF d_X5_reach_50 rfl 4 rfl ?_
      refine g_bipush hF (v := 18) d_X5_reach_51 (by decide) ?_
      refine g_icmp_ne (yv := 18) hF 72 d_X5_reach_53 (by decide) rfl (by decide) (fun c6_53 => ?_) (fun c6_53 => ?_)
      · -- taken at 53
        refine g_iload_n hF d_X5_reach_72 rfl 4 rfl ?_
        refine g_bipush hF (v := 19) d_X5_reach_73 (by decide) ?_
        refine g_icmp_ne (yv := 19) hF 98 d_X5_reach_75 (by decide) rfl (by decide) (fun c7_75 => ?_) (fun c7_75 => ?_)
        · -- taken at 75
          refine g_iload_n hF d_X5_reach_98 rfl 4 rfl ?_
          refine g_bipush hF (v := 20) d_X5_reach_99 (by decide) ?_
          refine g_icmp_ne (yv := 20) hF 118 d_X5_reach_101 (by decide) rfl (by decide) (fun c8_101 => ?_) (fun c8_101 => ?_)
          · -- taken at 101
            refine g_aload_n hF d_X5_reach_118 rfl 3 rfl ?_
            refine g_iload hF d_X5_reach_119 0 rfl ?_
            refine g_callV (As := [.int r3]) (rest := []) hF (c_X5_push a g r σ3 r3 iσ3) (Nat.le_of_ble_eq_true rfl) mV_X5_push m_1686 (recv_ob obC_12) rfl rfl (Nat.le_of_ble_eq_true rfl) d_X5_reach_121 (k_v (fun σ9 ⟨iσ9, ik9⟩ => ?_)) (fun _ _ _ h => h.elim)
            have kp : Keep [(12, 9), (12, 13), (12, 16), (12, 17)] [62, 63] σ0 σ9 := keep_c kp ik9 (by decide) (by decide)
            refine g_aload_n hF d_X5_reach_124 rfl 3 rfl ?_
            refine g_aload_n hF d_X5_reach_125 rfl 3 rfl ?_
            refine g_get (v := .ref (r 62)) hF 4 obC_12 (by decide) m_675 rfl d_X5_reach_126 ?_
            refine g_iload hF d_X5_reach_129 0 rfl ?_
            refine g_callSN (As := [.ref (r 62), .int r3]) (rest := [.ref (r 12)]) hF (c_at a g r σ9 arC_62 (by decide) r3) (Nat.le_of_ble_eq_true rfl) mS_X12_at nm_1660 rfl rfl (Nat.le_of_ble_eq_true rfl) d_X5_reach_131 (k_rop (fun r10 hr10 => ?_))
            refine g_callV (As := [.int r10]) (rest := []) hF (c_X5_push a g r σ9 r10 iσ9) (Nat.le_of_ble_eq_true rfl) mV_X5_push m_1686 (recv_ob obC_12) rfl rfl (Nat.le_of_ble_eq_true rfl) d_X5_reach_134 (k_v (fun σ11 ⟨iσ11, ik11⟩ => ?_)) (fun _ _ _ h => h.elim)
            have kp : Keep [(12, 9), (12, 13), (12, 16), (12, 17)] [62, 63] σ0 σ11 := keep_c kp ik11 (by decide) (by decide)
            exact g_vret hF rfl d_X5_reach_137 ⟨rfl, rfl, rfl, ⟨iσ11, kp⟩⟩
          · -- not taken at 101
            refine g_aload_n hF d_X5_reach_104 rfl 3 rfl ?_
            refine g_aload_n hF d_X5_reach_105 rfl 3 rfl ?_
            refine g_get (v := .ref (r 62)) hF 4 obC_12 (by decide) m_675 rfl d_X5_reach_106 ?_
            refine g_iload hF d_X5_reach_109 0 rfl ?_
            refine g_iload_n hF d_X5_reach_111 rfl 5 rfl ?_
            refine g_callV (As := [.ref (r 62), .int r3, .int a2]) (rest := []) hF (c_X5_stepped_r12_r62 a g r σ3 r3 a2 iσ3) (Nat.le_of_ble_eq_true rfl) mV_X5_stepped m_1736 (recv_ob obC_12) rfl rfl (Nat.le_of_ble_eq_true rfl) d_X5_reach_112 (k_v (fun σ12 ⟨iσ12, ik12⟩ => ?_)) (fun _ _ _ h => h.elim)
            have kp : Keep [(12, 9), (12, 13), (12, 16), (12, 17)] [62, 63] σ0 σ12 := keep_c kp ik12 (by decide) (by decide)
            refine g_goto hF 137 d_X5_reach_115 (by decide) ?_
            exact g_vret hF rfl d_X5_reach_137 ⟨rfl, rfl, rfl, ⟨iσ12, kp⟩⟩
        · -- not taken at 75
          refine g_aload_n hF d_X5_reach_78 rfl 3 rfl ?_
          refine g_get (v := .ref (r 62)) hF 4 obC_12 (by decide) m_675 rfl d_X5_reach_79 ?_
          refine g_iload hF d_X5_reach_82 0 rfl ?_
          refine g_iload hF d_X5_reach_84 1 rfl ?_
          refine g_callSN (As := [.ref (r 62), .int r3, .int 0]) (rest := []) hF (c_set a g r σ3 arC_62 (by decide) r3 (0 : Int32)) (Nat.le_of_ble_eq_true rfl) mS_X12_set nm_1661 rfl rfl (Nat.le_of_ble_eq_true rfl) d_X5_reach_86 (k_v (fun σ13 ⟨g13, eσ13, hg13⟩ => ?_))
          subst eσ13
          have kp : Keep [(12, 9), (12, 13), (12, 16), (12, 17)] [62, 63] σ0 (upF σ3 62 g13) := keep_F kp (by decide)
          refine g_aload_n hF d_X5_reach_89 rfl 3 rfl ?_
          refine g_iload hF d_X5_reach_90 1 rfl ?_
          have j15 : Inv (upF σ3 62 g13) := ⟨iσ3.1, iσ3.2.1, iσ3.2.2.1, iσ3.2.2.2.1, iσ3.2.2.2.2.1, iσ3.2.2.2.2.2.1, iσ3.2.2.2.2.2.2.1, iσ3.2.2.2.2.2.2.2.1, iσ3.2.2.2.2.2.2.2.2.1, iσ3.2.2.2.2.2.2.2.2.2.1, iσ3.2.2.2.2.2.2.2.2.2.2.1, iσ3.2.2.2.2.2.2.2.2.2.2.2.1, iσ3.2.2.2.2.2.2.2.2.2.2.2.2.1, iσ3.2.2.2.2.2.2.2.2.2.2.2.2.2.1, iσ3.2.2.2.2.2.2.2.2.2.2.2.2.2.2.1, iσ3.2.2.2.2.2.2.2.2.2.2.2.2.2.2.2.1, iσ3.2.2.2.2.2.2.2.2.2.2.2.2.2.2.2.2.1, iσ3.2.2.2.2.2.2.2.2.2.2.2.2.2.2.2.2.2.1, iσ3.2.2.2.2.2.2.2.2.2.2.2.2.2.2.2.2.2.2.1, iσ3.2.2.2.2.2.2.2.2.2.2.2.2.2.2.2.2.2.2.2⟩
          refine g_callV (As := [.int 0]) (rest := []) hF (c_X5_push a g r (upF σ3 62 g13) (0 : Int32) j15) (Nat.le_of_ble_eq_true rfl) mV_X5_push m_1686 (recv_ob obC_12) rfl rfl (Nat.le_of_ble_eq_true rfl) d_X5_reach_92 (k_v (fun σ14 ⟨iσ14, ik14⟩ => ?_)) (fun _ _ _ h => h.elim)
          have kp : Keep [(12, 9), (12, 13), (12, 16), (12, 17)] [62, 63] σ0 σ14 := keep_c kp ik14 (by decide) (by decide)
          refine g_goto hF 137 d_X5_reach_95 (by decide) ?_
          exact g_vret hF rfl d_X5_reach_137 ⟨rfl, rfl, rfl, ⟨iσ14, kp⟩⟩
      · -- not taken at 53
        refine g_aload_n hF d_X5_reach_56 rfl 3 rfl ?_
        refine g_aload_n hF d_X5_reach_57 rfl 3 rfl ?_
        refine g_get (v := .ref (r 62)) hF 4 obC_12 (by decide) m_675 rfl d_X5_reach_58 ?_
        refine g_iload hF d_X5_reach_61 0 rfl ?_
        refine g_callSN (As := [.ref (r 62), .int r3]) (rest := [.ref (r 12)]) hF (c_at a g r σ3 arC_62 (by decide) r3) (Nat.le_of_ble_eq_true rfl) mS_X12_at nm_1660 rfl rfl (Nat.le_of_ble_eq_true rfl) d_X5_reach_63 (k_rop (fun r16 hr16 => ?_))
        refine g_callV (As := [.int r16]) (rest := []) hF (c_X5_push a g r σ3 r16 iσ3) (Nat.le_of_ble_eq_true rfl) mV_X5_push m_1686 (recv_ob obC_12) rfl rfl (Nat.le_of_ble_eq_true rfl) d_X5_reach_66 (k_v (fun σ17 ⟨iσ17, ik17⟩ => ?_)) (fun _ _ _ h => h.elim)
        have kp : Keep [(12, 9), (12, 13), (12, 16), (12, 17)] [62, 63] σ0 σ17 := keep_c kp ik17 (by decide) (by decide)
        refine g_goto hF 137 d_X5_reach_69 (by decide) ?_
        exact g_vret hF rfl d_X5_reach_137 ⟨rfl, rfl, rfl, ⟨iσ17, kp⟩⟩
    · -- not taken at 38
      refine g_aload_n hF d_X5_reach_41 rfl 3 rfl ?_
      refine g_iconst hF (v := 2) d_X5_reach_42 (by decide) ?_
      refine g_iload_n hF d_X5_reach_43 rfl 2 rfl ?_
      refine g_callV (As := [.int 2, .int r1]) (rest := []) hF (c_X5_fail a g r σ3 (2 : Int32) r1 iσ3) (Nat.le_of_ble_eq_true rfl) mV_X5_fail m_1656 (recv_ob obC_12) rfl rfl (Nat.le_of_ble_eq_true rfl) d_X5_reach_44 (k_v (fun σ18 ⟨iσ18, ik18⟩ => ?_)) (fun _ _ _ h => h.elim)
      have kp : Keep [(12, 9), (12, 13), (12, 16), (12, 17)] [62, 63] σ0 σ18 := keep_c kp ik18 (by decide) (by decide)
      refine g_goto hF 137 d_X5_reach_47 (by decide) ?_
      exact g_vret hF rfl d_X5_reach_137 ⟨rfl, rfl, rfl, ⟨iσ18, kp⟩⟩
  · -- not taken at 14
    refine g_aload_n hF d_X5_reach_17 rfl 1 rfl ?_
    refine g_callV (As := []) (rest := []) hF (c_X5_pop a g r σ0 i0) (Nat.le_of_ble_eq_true rfl) mV_X5_pop m_1681 (recv_ob obC_12) rfl rfl (Nat.le_of_ble_eq_true rfl) d_X5_reach_18 (k_i (fun r19 σ19 ⟨iσ19, ik19⟩ => ?_)) (fun _ _ _ h => h.elim)
    have kp : Keep [(12, 9), (12, 13), (12, 16), (12, 17)] [62, 63] σ0 σ19 := keep_c kp ik19 (by decide) (by decide)
    refine g_goto hF 25 d_X5_reach_21 (by decide) ?_
    refine g_istore hF [(4, .int r19), (3, .int r1), (0, .ref (r 12)), (1, .int a1), (2, .int a2)] d_X5_reach_25 hnn (by decide) rfl ?_
    refine g_aload_n hF d_X5_reach_27 rfl 2 rfl ?_
    refine g_callV (As := []) (rest := []) hF (c_X5_pop a g r σ19 iσ19) (Nat.le_of_ble_eq_true rfl) mV_X5_pop m_1681 (recv_ob obC_12) rfl rfl (Nat.le_of_ble_eq_true rfl) d_X5_reach_28 (k_i (fun r20 σ20 ⟨iσ20, ik20⟩ => ?_)) (fun _ _ _ h => h.elim)
    have kp : Keep [(12, 9), (12, 13), (12, 16), (12, 17)] [62, 63] σ0 σ20 := keep_c kp ik20 (by decide) (by decide)
    refine g_istore hF [(5, .int r20), (4, .int r19), (3, .int r1), (0, .ref (r 12)), (1, .int a1), (2, .int a2)] d_X5_reach_31 hnn (by decide) rfl ?_
    refine g_iload hF d_X5_reach_33 0 rfl ?_
    refine g_callS (As := [.int r20]) (rest := []) hF (c_X5_isCell a g r σ20 r20 iσ20) (Nat.le_of_ble_eq_true rfl) mS_X5_isCell m_1733 rfl rfl (Nat.le_of_ble_eq_true rfl) d_X5_reach_35 (k_roz (fun r21 hz21 => ?_)) (fun _ _ _ h => h.elim)
    refine g_if_ne hF 50 d_X5_reach_38 (by decide) rfl (fun c22_38 => ?_) (fun c22_38 => ?_)
    · -- taken at 38
      refine g_iload_n hF d_X5_reach_50 rfl 4 rfl ?_
      refine g_bipush hF (v := 18) d_X5_reach_51 (by decide) ?_
      refine g_icmp_ne (yv := 18) hF 72 d_X5_reach_53 (by decide) rfl (by decide) (fun c23_53 => ?_) (fun c23_53 => ?_)
      · -- taken at 53
        refine g_iload_n hF d_X5_reach_72 rfl 4 rfl ?_
        refine g_bipush hF (v := 19) d_X5_reach_73 (by decide) ?_
        refine g_icmp_ne (yv := 19) hF 98 d_X5_reach_75 (by decide) rfl (by decide) (fun c24_75 => ?_) (fun c24_75 => ?_)
        · -- taken at 75
          refine g_iload_n hF d_X5_reach_98 rfl 4 rfl ?_
          refine g_bipush hF (v := 20) d_X5_reach_99 (by decide) ?_
          refine g_icmp_ne (yv := 20) hF 118 d_X5_reach_101 (by decide) rfl (by decide) (fun c25_101 => ?_) (fun c25_101 => ?_)
          · -- taken at 101
            refine g_aload_n hF d_X5_reach_118 rfl 3 rfl ?_
            refine g_iload hF d_X5_reach_119 0 rfl ?_
            refine g_callV (As := [.int r20]) (rest := []) hF (c_X5_push a g r σ20 r20 iσ20) (Nat.le_of_ble_eq_true rfl) mV_X5_push m_1686 (recv_ob obC_12) rfl rfl (Nat.le_of_ble_eq_true rfl) d_X5_reach_121 (k_v (fun σ26 ⟨iσ26, ik26⟩ => ?_)) (fun _ _ _ h => h.elim)
            have kp : Keep [(12, 9), (12, 13), (12, 16), (12, 17)] [62, 63] σ0 σ26 := keep_c kp ik26 (by decide) (by decide)
            refine g_aload_n hF d_X5_reach_124 rfl 3 rfl ?_
            refine g_aload_n hF d_X5_reach_125 rfl 3 rfl ?_
            refine g_get (v := .ref (r 62)) hF 4 obC_12 (by decide) m_675 rfl d_X5_reach_126 ?_
            refine g_iload hF d_X5_reach_129 0 rfl ?_
            refine g_callSN (As := [.ref (r 62), .int r20]) (rest := [.ref (r 12)]) hF (c_at a g r σ26 arC_62 (by decide) r20) (Nat.le_of_ble_eq_true rfl) mS_X12_at nm_1660 rfl rfl (Nat.le_of_ble_eq_true rfl) d_X5_reach_131 (k_rop (fun r27 hr27 => ?_))
            refine g_callV (As := [.int r27]) (rest := []) hF (c_X5_push a g r σ26 r27 iσ26) (Nat.le_of_ble_eq_true rfl) mV_X5_push m_1686 (recv_ob obC_12) rfl rfl (Nat.le_of_ble_eq_true rfl) d_X5_reach_134 (k_v (fun σ28 ⟨iσ28, ik28⟩ => ?_)) (fun _ _ _ h => h.elim)
            have kp : Keep [(12, 9), (12, 13), (12, 16), (12, 17)] [62, 63] σ0 σ28 := keep_c kp ik28 (by decide) (by decide)
            exact g_vret hF rfl d_X5_reach_137 ⟨rfl, rfl, rfl, ⟨iσ28, kp⟩⟩
          · -- not taken at 101
            refine g_aload_n hF d_X5_reach_104 rfl 3 rfl ?_
            refine g_aload_n hF d_X5_reach_105 rfl 3 rfl ?_
            refine g_get (v := .ref (r 62)) hF 4 obC_12 (by decide) m_675 rfl d_X5_reach_106 ?_
            refine g_iload hF d_X5_reach_109 0 rfl ?_
            refine g_iload_n hF d_X5_reach_111 rfl 5 rfl ?_
            refine g_callV (As := [.ref (r 62), .int r20, .int a2]) (rest := []) hF (c_X5_stepped_r12_r62 a g r σ20 r20 a2 iσ20) (Nat.le_of_ble_eq_true rfl) mV_X5_stepped m_1736 (recv_ob obC_12) rfl rfl (Nat.le_of_ble_eq_true rfl) d_X5_reach_112 (k_v (fun σ29 ⟨iσ29, ik29⟩ => ?_)) (fun _ _ _ h => h.elim)
            have kp : Keep [(12, 9), (12, 13), (12, 16), (12, 17)] [62, 63] σ0 σ29 := keep_c kp ik29 (by decide) (by decide)
            refine g_goto hF 137 d_X5_reach_115 (by decide) ?_
            exact g_vret hF rfl d_X5_reach_137 ⟨rfl, rfl, rfl, ⟨iσ29, kp⟩⟩
        · -- not taken at 75
          refine g_aload_n hF d_X5_reach_78 rfl 3 rfl ?_
          refine g_get (v := .ref (r 62)) hF 4 obC_12 (by decide) m_675 rfl d_X5_reach_79 ?_
          refine g_iload hF d_X5_reach_82 0 rfl ?_
          refine g_iload hF d_X5_reach_84 1 rfl ?_
          refine g_callSN (As := [.ref (r 62), .int r20, .int r19]) (rest := []) hF (c_set a g r σ20 arC_62 (by decide) r20 r19) (Nat.le_of_ble_eq_true rfl) mS_X12_set nm_1661 rfl rfl (Nat.le_of_ble_eq_true rfl) d_X5_reach_86 (k_v (fun σ30 ⟨g30, eσ30, hg30⟩ => ?_))
          subst eσ30
          have kp : Keep [(12, 9), (12, 13), (12, 16), (12, 17)] [62, 63] σ0 (upF σ20 62 g30) := keep_F kp (by decide)
          refine g_aload_n hF d_X5_reach_89 rfl 3 rfl ?_
          refine g_iload hF d_X5_reach_90 1 rfl ?_
          have j32 : Inv (upF σ20 62 g30) := ⟨iσ20.1, iσ20.2.1, iσ20.2.2.1, iσ20.2.2.2.1, iσ20.2.2.2.2.1, iσ20.2.2.2.2.2.1, iσ20.2.2.2.2.2.2.1, iσ20.2.2.2.2.2.2.2.1, iσ20.2.2.2.2.2.2.2.2.1, iσ20.2.2.2.2.2.2.2.2.2.1, iσ20.2.2.2.2.2.2.2.2.2.2.1, iσ20.2.2.2.2.2.2.2.2.2.2.2.1, iσ20.2.2.2.2.2.2.2.2.2.2.2.2.1, iσ20.2.2.2.2.2.2.2.2.2.2.2.2.2.1, iσ20.2.2.2.2.2.2.2.2.2.2.2.2.2.2.1, iσ20.2.2.2.2.2.2.2.2.2.2.2.2.2.2.2.1, iσ20.2.2.2.2.2.2.2.2.2.2.2.2.2.2.2.2.1, iσ20.2.2.2.2.2.2.2.2.2.2.2.2.2.2.2.2.2.1, iσ20.2.2.2.2.2.2.2.2.2.2.2.2.2.2.2.2.2.2.1, iσ20.2.2.2.2.2.2.2.2.2.2.2.2.2.2.2.2.2.2.2⟩
          refine g_callV (As := [.int r19]) (rest := []) hF (c_X5_push a g r (upF σ20 62 g30) r19 j32) (Nat.le_of_ble_eq_true rfl) mV_X5_push m_1686 (recv_ob obC_12) rfl rfl (Nat.le_of_ble_eq_true rfl) d_X5_reach_92 (k_v (fun σ31 ⟨iσ31, ik31⟩ => ?_)) (fun _ _ _ h => h.elim)
          have kp : Keep [(12, 9), (12, 13), (12, 16), (12, 17)] [62, 63] σ0 σ31 := keep_c kp ik31 (by decide) (by decide)
          refine g_goto hF 137 d_X5_reach_95 (by decide) ?_
          exact g_vret hF rfl d_X5_reach_137 ⟨rfl, rfl, rfl, ⟨iσ31, kp⟩⟩
      · -- not taken at 53
        refine g_aload_n hF d_X5_reach_56 rfl 3 rfl ?_
        refine g_aload_n hF d_X5_reach_57 rfl 3 rfl ?_
        refine g_get (v := .ref (r 62)) hF 4 obC_12 (by decide) m_675 rfl d_X5_reach_58 ?_
        refine g_iload hF d_X5_reach_61 0 rfl ?_
        refine g_callSN (As := [.ref (r 62), .int r20]) (rest := [.ref (r 12)]) hF (c_at a g r σ20 arC_62 (by decide) r20) (Nat.le_of_ble_eq_true rfl) mS_X12_at nm_1660 rfl rfl (Nat.le_of_ble_eq_true rfl) d_X5_reach_63 (k_rop (fun r33 hr33 => ?_))
        refine g_callV (As := [.int r33]) (rest := []) hF (c_X5_push a g r σ20 r33 iσ20) (Nat.le_of_ble_eq_true rfl) mV_X5_push m_1686 (recv_ob obC_12) rfl rfl (Nat.le_of_ble_eq_true rfl) d_X5_reach_66 (k_v (fun σ34 ⟨iσ34, ik34⟩ => ?_)) (fun _ _ _ h => h.elim)
        have kp : Keep [(12, 9), (12, 13), (12, 16), (12, 17)] [62, 63] σ0 σ34 := keep_c kp ik34 (by decide) (by decide)
        refine g_goto hF 137 d_X5_reach_69 (by decide) ?_
        exact g_vret hF rfl d_X5_reach_137 ⟨rfl, rfl, rfl, ⟨iσ34, kp⟩⟩
    · -- not taken at 38
      refine g_aload_n hF d_X5_reach_41 rfl 3 rfl ?_
      refine g_iconst hF (v := 2) d_X5_reach_42 (by decide) ?_
      refine g_iload_n hF d_X5_reach_43 rfl 2 rfl ?_
      refine g_callV (As := [.int 2, .int r1]) (rest := []) hF (c_X5_fail a g r σ20 (2 : Int32) r1 iσ20) (Nat.le_of_ble_eq_true rfl) mV_X5_fail m_1656 (recv_ob obC_12) rfl rfl (Nat.le_of_ble_eq_true rfl) d_X5_reach_44 (k_v (fun σ35 ⟨iσ35, ik35⟩ => ?_)) (fun _ _ _ h => h.elim)
      have kp : Keep [(12, 9), (12, 13), (12, 16), (12, 17)] [62, 63] σ0 σ35 := keep_c kp ik35 (by decide) (by decide)
      refine g_goto hF 137 d_X5_reach_47 (by decide) ?_
      exact g_vret hF rfl d_X5_reach_137 ⟨rfl, rfl, rfl, ⟨iσ35, kp⟩⟩
set_option maxHeartbeats 4000000 in
set_option maxRecDepth 100000 in
theorem c_X5_inFrame (a : Nat → Nat) (g : Nat → Nat → Int32) (r : Nat → Nat) (σ0 : St) (a1 : Int32) (a2 : Int32) (i0 : Inv σ0) (l : Launch) (D : va_G) (cy : Nat → ClassId) : Ct l D cy SC r (EC a g) y_X5_inFrame (Cond.code y_X5_inFrame b_X5_inFrame 6 none) 3 [.ref (r 12), .int a1, .int a2] σ0 Z0 [] (QV (fun σ9 => (Inv σ9 ∧ Keep [(12, 9)] [62, 63] σ0 σ9))) QF := by
  refine Ct_of (EC_ok a g) (by decide) (Nat.le_of_ble_eq_true rfl) (by decide) (fun X hnn hF => ?_)
  show G SC r X σ0 Z0 [] [(0, .ref (r 12)), (1, .int a1), (2, .int a2)] [] 0
  have b122 : ∀ (N : Nat) (σ : St) (x1 : Int32) (x2 : Int32) (x3 : Int32) (x4 : Int32) (x5 : Int32) , upm x5 = N → Inv σ → Keep [(12, 9)] [62, 63] σ0 σ → G SC r X σ Z0 [] [(0, .ref (r 12)), (1, .int x1), (2, .int x2), (3, .int x3), (4, .int x4), (5, .int x5)] [] 122 := by
    intro M122
    induction M122 using Nat.strongRecOn with
    | _ M122 ih122 =>
      intro σ x1 x2 x3 x4 x5 N122 inv kp
      refine g_iload hF d_X5_inFrame_122 5 rfl ?_
      refine g_iload hF d_X5_inFrame_124 4 rfl ?_
      refine g_icmp_ge hF 154 d_X5_inFrame_126 (by decide) rfl rfl (fun c1_126 => ?_) (fun c1_126 => ?_)
      · -- taken at 126
        refine g_goto hF 196 d_X5_inFrame_154 (by decide) ?_
        exact g_vret hF rfl d_X5_inFrame_196 ⟨rfl, rfl, rfl, ⟨inv, kp⟩⟩
      · -- not taken at 126
        refine g_iload hF d_X5_inFrame_129 5 rfl ?_
        refine g_ldc (v := 32768) hF m_669 d_X5_inFrame_131 ?_
        refine g_icmp_ge (yv := 32768) hF 154 d_X5_inFrame_133 (by decide) rfl (by decide) (fun c2_133 => ?_) (fun c2_133 => ?_)
        · -- taken at 133
          refine g_goto hF 196 d_X5_inFrame_154 (by decide) ?_
          exact g_vret hF rfl d_X5_inFrame_196 ⟨rfl, rfl, rfl, ⟨inv, kp⟩⟩
        · -- not taken at 133
          refine g_aload_n hF d_X5_inFrame_136 rfl 0 rfl ?_
          refine g_get (v := .ref (r 62)) hF 4 obC_12 (by decide) m_675 rfl d_X5_inFrame_137 ?_
          refine g_iload_n hF d_X5_inFrame_140 rfl 3 rfl ?_
          refine g_iload hF d_X5_inFrame_141 5 rfl ?_
          refine g_iadd hF d_X5_inFrame_143 ?_
          refine g_iconst hF (v := 0) d_X5_inFrame_144 (by decide) ?_
          refine g_callSN (As := [.ref (r 62), .int (x3 + x5), .int 0]) (rest := []) hF (c_set a g r σ arC_62 (by decide) (x3 + x5) (0 : Int32)) (Nat.le_of_ble_eq_true rfl) mS_X12_set nm_1661 rfl rfl (Nat.le_of_ble_eq_true rfl) d_X5_inFrame_145 (k_v (fun σ3 ⟨g3, eσ3, hg3⟩ => ?_))
          subst eσ3
          have kp : Keep [(12, 9)] [62, 63] σ0 (upF σ 62 g3) := keep_F kp (by decide)
          refine g_iinc hF (x5 + 1) [(5, .int (x5 + 1)), (0, .ref (r 12)), (1, .int x1), (2, .int x2), (3, .int x3), (4, .int x4)] d_X5_inFrame_148 5 rfl rfl hnn (by decide) rfl ?_
          refine g_goto hF 122 d_X5_inFrame_151 (by decide) ?_
          have j4 : Inv (upF σ 62 g3) := ⟨inv.1, inv.2.1, inv.2.2.1, inv.2.2.2.1, inv.2.2.2.2.1, inv.2.2.2.2.2.1, inv.2.2.2.2.2.2.1, inv.2.2.2.2.2.2.2.1, inv.2.2.2.2.2.2.2.2.1, inv.2.2.2.2.2.2.2.2.2.1, inv.2.2.2.2.2.2.2.2.2.2.1, inv.2.2.2.2.2.2.2.2.2.2.2.1, inv.2.2.2.2.2.2.2.2.2.2.2.2.1, inv.2.2.2.2.2.2.2.2.2.2.2.2.2.1, inv.2.2.2.2.2.2.2.2.2.2.2.2.2.2.1, inv.2.2.2.2.2.2.2.2.2.2.2.2.2.2.2.1, inv.2.2.2.2.2.2.2.2.2.2.2.2.2.2.2.2.1, inv.2.2.2.2.2.2.2.2.2.2.2.2.2.2.2.2.2.1, inv.2.2.2.2.2.2.2.2.2.2.2.2.2.2.2.2.2.2.1, inv.2.2.2.2.2.2.2.2.2.2.2.2.2.2.2.2.2.2.2⟩
          exact g_sub (L' := [(0, .ref (r 12)), (1, .int x1), (2, .int x2), (3, .int x3), (4, .int x4), (5, .int (x5 + 1))]) [1, 2, 3, 4, 5, 0] rfl (ih122 _ (N122 ▸ upm_lt c1_126 (s_rng x4).2) (upF σ 62 g3) x1 x2 x3 x4 (x5 + 1) rfl j4 kp)
  have kp : Keep [(12, 9)] [62, 63] σ0 σ0 := keep_rf
  refine g_aload_n hF d_X5_inFrame_0 rfl 0 rfl ?_
  refine g_get (v := .int (σ0 12 11)) hF 11 obC_12 (by decide) m_683 rfl d_X5_inFrame_1 ?_
  refine g_aload_n hF d_X5_inFrame_4 rfl 0 rfl ?_
  refine g_get (v := .ref (r 24)) hF 3 obC_12 (by decide) m_674 rfl d_X5_inFrame_5 ?_
  refine g_iload_n hF d_X5_inFrame_8 rfl 2 rfl ?_
  refine g_iconst hF (v := 1) d_X5_inFrame_9 (by decide) ?_
  refine g_iadd hF d_X5_inFrame_10 ?_
  refine g_callSN (As := [.ref (r 24), .int (a2 + 1)]) (rest := [.int (σ0 12 11)]) hF (c_at a g r σ0 arC_24 (by decide) (a2 + 1)) (Nat.le_of_ble_eq_true rfl) mS_X12_at nm_1660 rfl rfl (Nat.le_of_ble_eq_true rfl) d_X5_inFrame_11 (k_rop (fun r5 hr5 => ?_))
  refine g_iadd hF d_X5_inFrame_14 ?_
  refine g_istore_n hF [(3, .int ((σ0 12 11) + r5)), (0, .ref (r 12)), (1, .int a1), (2, .int a2)] d_X5_inFrame_15 rfl hnn (by decide) rfl ?_
  refine g_aload_n hF d_X5_inFrame_16 rfl 1 rfl ?_
  refine g_get (v := .ref (r 24)) hF 3 obC_12 (by decide) m_674 rfl d_X5_inFrame_17 ?_
  refine g_iload_n hF d_X5_inFrame_20 rfl 3 rfl ?_
  refine g_iconst hF (v := 2) d_X5_inFrame_21 (by decide) ?_
  refine g_iadd hF d_X5_inFrame_22 ?_
  refine g_callSN (As := [.ref (r 24), .int (a2 + 2)]) (rest := []) hF (c_at a g r σ0 arC_24 (by decide) (a2 + 2)) (Nat.le_of_ble_eq_true rfl) mS_X12_at nm_1660 rfl rfl (Nat.le_of_ble_eq_true rfl) d_X5_inFrame_23 (k_rop (fun r6 hr6 => ?_))
  refine g_istore hF [(4, .int r6), (3, .int ((σ0 12 11) + r5)), (0, .ref (r 12)), (1, .int a1), (2, .int a2)] d_X5_inFrame_26 hnn (by decide) rfl ?_
  refine g_iload_n hF d_X5_inFrame_28 rfl 3 rfl ?_
  refine (Decidable.em (a1.toInt = 11)).elim (fun q7_29_0 => ?_) (fun q7_29_0 => ?_)
  · refine g_tableIn (off := 39) hF 68 d_X5_inFrame_29 q7_29_0 (by decide) (by decide) (by decide +kernel) (by decide) ?_
    refine g_aload_n hF d_X5_inFrame_68 rfl 2 rfl ?_
    refine g_aload_n hF d_X5_inFrame_69 rfl 2 rfl ?_
    refine g_get (v := .ref (r 62)) hF 4 obC_12 (by decide) m_675 rfl d_X5_inFrame_70 ?_
    refine g_iload_n hF d_X5_inFrame_73 rfl 1 rfl ?_
    refine g_callSN (As := [.ref (r 62), .int ((σ0 12 11) + r5)]) (rest := [.ref (r 12)]) hF (c_at a g r σ0 arC_62 (by decide) ((σ0 12 11) + r5)) (Nat.le_of_ble_eq_true rfl) mS_X12_at nm_1660 rfl rfl (Nat.le_of_ble_eq_true rfl) d_X5_inFrame_74 (k_rop (fun r8 hr8 => ?_))
    refine g_callV (As := [.int r8]) (rest := []) hF (c_X5_push a g r σ0 r8 i0) (Nat.le_of_ble_eq_true rfl) mV_X5_push m_1686 (recv_ob obC_12) rfl rfl (Nat.le_of_ble_eq_true rfl) d_X5_inFrame_77 (k_v (fun σ9 ⟨iσ9, ik9⟩ => ?_)) (fun _ _ _ h => h.elim)
    have kp : Keep [(12, 9)] [62, 63] σ0 σ9 := keep_c kp ik9 (by decide) (by decide)
    refine g_goto hF 196 d_X5_inFrame_80 (by decide) ?_
    exact g_vret hF rfl d_X5_inFrame_196 ⟨rfl, rfl, rfl, ⟨iσ9, kp⟩⟩
  refine (Decidable.em (a1.toInt = 12)).elim (fun q10_29_1 => ?_) (fun q10_29_1 => ?_)
  · refine g_tableIn (off := 54) hF 83 d_X5_inFrame_29 q10_29_1 (by decide) (by decide) (by decide +kernel) (by decide) ?_
    refine g_aload_n hF d_X5_inFrame_83 rfl 2 rfl ?_
    refine g_get (v := .ref (r 62)) hF 4 obC_12 (by decide) m_675 rfl d_X5_inFrame_84 ?_
    refine g_iload_n hF d_X5_inFrame_87 rfl 1 rfl ?_
    refine g_aload_n hF d_X5_inFrame_88 rfl 2 rfl ?_
    refine g_callV (As := []) (rest := [.int ((σ0 12 11) + r5), .ref (r 62)]) hF (c_X5_peeked a g r σ0 i0) (Nat.le_of_ble_eq_true rfl) mV_X5_peeked m_1744 (recv_ob obC_12) rfl rfl (Nat.le_of_ble_eq_true rfl) d_X5_inFrame_89 (k_ro (fun r11 => ?_)) (fun _ _ _ h => h.elim)
    refine g_callSN (As := [.ref (r 62), .int ((σ0 12 11) + r5), .int r11]) (rest := []) hF (c_set a g r σ0 arC_62 (by decide) ((σ0 12 11) + r5) r11) (Nat.le_of_ble_eq_true rfl) mS_X12_set nm_1661 rfl rfl (Nat.le_of_ble_eq_true rfl) d_X5_inFrame_92 (k_v (fun σ12 ⟨g12, eσ12, hg12⟩ => ?_))
    subst eσ12
    have kp : Keep [(12, 9)] [62, 63] σ0 (upF σ0 62 g12) := keep_F kp (by decide)
    refine g_goto hF 196 d_X5_inFrame_95 (by decide) ?_
    have j13 : Inv (upF σ0 62 g12) := ⟨i0.1, i0.2.1, i0.2.2.1, i0.2.2.2.1, i0.2.2.2.2.1, i0.2.2.2.2.2.1, i0.2.2.2.2.2.2.1, i0.2.2.2.2.2.2.2.1, i0.2.2.2.2.2.2.2.2.1, i0.2.2.2.2.2.2.2.2.2.1, i0.2.2.2.2.2.2.2.2.2.2.1, i0.2.2.2.2.2.2.2.2.2.2.2.1, i0.2.2.2.2.2.2.2.2.2.2.2.2.1, i0.2.2.2.2.2.2.2.2.2.2.2.2.2.1, i0.2.2.2.2.2.2.2.2.2.2.2.2.2.2.1, i0.2.2.2.2.2.2.2.2.2.2.2.2.2.2.2.1, i0.2.2.2.2.2.2.2.2.2.2.2.2.2.2.2.2.1, i0.2.2.2.2.2.2.2.2.2.2.2.2.2.2.2.2.2.1, i0.2.2.2.2.2.2.2.2.2.2.2.2.2.2.2.2.2.2.1, i0.2.2.2.2.2.2.2.2.2.2.2.2.2.2.2.2.2.2.2⟩
    exact g_vret hF rfl d_X5_inFrame_196 ⟨rfl, rfl, rfl, ⟨j13, kp⟩⟩
  refine (Decidable.em (a1.toInt = 13)).elim (fun q14_29_2 => ?_) (fun q14_29_2 => ?_)
  · refine g_tableIn (off := 69) hF 98 d_X5_inFrame_29 q14_29_2 (by decide) (by decide) (by decide +kernel) (by decide) ?_
    refine g_aload_n hF d_X5_inFrame_98 rfl 2 rfl ?_
    refine g_aload_n hF d_X5_inFrame_99 rfl 2 rfl ?_
    refine g_get (v := .ref (r 62)) hF 4 obC_12 (by decide) m_675 rfl d_X5_inFrame_100 ?_
    refine g_iload_n hF d_X5_inFrame_103 rfl 1 rfl ?_
    refine g_iload_n hF d_X5_inFrame_104 rfl 4 rfl ?_
    refine g_callV (As := [.ref (r 62), .int ((σ0 12 11) + r5), .int a2]) (rest := []) hF (c_X5_stepped_r12_r62 a g r σ0 ((σ0 12 11) + r5) a2 i0) (Nat.le_of_ble_eq_true rfl) mV_X5_stepped m_1736 (recv_ob obC_12) rfl rfl (Nat.le_of_ble_eq_true rfl) d_X5_inFrame_105 (k_v (fun σ15 ⟨iσ15, ik15⟩ => ?_)) (fun _ _ _ h => h.elim)
    have kp : Keep [(12, 9)] [62, 63] σ0 σ15 := keep_c kp ik15 (by decide) (by decide)
    refine g_goto hF 196 d_X5_inFrame_108 (by decide) ?_
    exact g_vret hF rfl d_X5_inFrame_196 ⟨rfl, rfl, rfl, ⟨iσ15, kp⟩⟩
  refine (Decidable.em (a1.toInt = 14)).elim (fun q16_29_3 => ?_) (fun q16_29_3 => ?_)
  · refine g_tableIn (off := 82) hF 111 d_X5_inFrame_29 q16_29_3 (by decide) (by decide) (by decide +kernel) (by decide) ?_
    refine g_aload_n hF d_X5_inFrame_111 rfl 2 rfl ?_
    refine g_iload_n hF d_X5_inFrame_112 rfl 1 rfl ?_
    refine g_callV (As := [.int ((σ0 12 11) + r5)]) (rest := []) hF (c_X5_push a g r σ0 ((σ0 12 11) + r5) i0) (Nat.le_of_ble_eq_true rfl) mV_X5_push m_1686 (recv_ob obC_12) rfl rfl (Nat.le_of_ble_eq_true rfl) d_X5_inFrame_113 (k_v (fun σ17 ⟨iσ17, ik17⟩ => ?_)) (fun _ _ _ h => h.elim)
    have kp : Keep [(12, 9)] [62, 63] σ0 σ17 := keep_c kp ik17 (by decide) (by decide)
    refine g_goto hF 196 d_X5_inFrame_116 (by decide) ?_
    exact g_vret hF rfl d_X5_inFrame_196 ⟨rfl, rfl, rfl, ⟨iσ17, kp⟩⟩
  refine (Decidable.em (a1.toInt = 15)).elim (fun q18_29_4 => ?_) (fun q18_29_4 => ?_)
  · refine g_tableIn (off := 90) hF 119 d_X5_inFrame_29 q18_29_4 (by decide) (by decide) (by decide +kernel) (by decide) ?_
    refine g_iconst hF (v := 0) d_X5_inFrame_119 (by decide) ?_
    refine g_istore hF [(5, .int 0), (4, .int r6), (3, .int ((σ0 12 11) + r5)), (0, .ref (r 12)), (1, .int a1), (2, .int a2)] d_X5_inFrame_120 hnn (by decide) rfl ?_
    exact g_sub (L' := [(0, .ref (r 12)), (1, .int a1), (2, .int a2), (3, .int ((σ0 12 11) + r5)), (4, .int r6), (5, .int 0)]) [3, 4, 5, 2, 1, 0] rfl (b122 _ σ0 a1 a2 ((σ0 12 11) + r5) r6 (0 : Int32) rfl i0 kp)
  refine (Decidable.em (a1.toInt = 16)).elim (fun q19_29_5 => ?_) (fun q19_29_5 => ?_)
  · refine g_tableIn (off := 128) hF 157 d_X5_inFrame_29 q19_29_5 (by decide) (by decide) (by decide +kernel) (by decide) ?_
    refine g_aload_n hF d_X5_inFrame_157 rfl 2 rfl ?_
    refine g_get (v := .ref (r 62)) hF 4 obC_12 (by decide) m_675 rfl d_X5_inFrame_158 ?_
    refine g_iload_n hF d_X5_inFrame_161 rfl 1 rfl ?_
    refine g_iload hF d_X5_inFrame_162 0 rfl ?_
    refine g_iadd hF d_X5_inFrame_164 ?_
    refine g_aload_n hF d_X5_inFrame_165 rfl 2 rfl ?_
    refine g_callV (As := []) (rest := [.int (((σ0 12 11) + r5) + r6), .ref (r 62)]) hF (c_X5_pop a g r σ0 i0) (Nat.le_of_ble_eq_true rfl) mV_X5_pop m_1681 (recv_ob obC_12) rfl rfl (Nat.le_of_ble_eq_true rfl) d_X5_inFrame_166 (k_i (fun r20 σ20 ⟨iσ20, ik20⟩ => ?_)) (fun _ _ _ h => h.elim)
    have kp : Keep [(12, 9)] [62, 63] σ0 σ20 := keep_c kp ik20 (by decide) (by decide)
    refine g_callSN (As := [.ref (r 62), .int (((σ0 12 11) + r5) + r6), .int r20]) (rest := []) hF (c_set a g r σ20 arC_62 (by decide) (((σ0 12 11) + r5) + r6) r20) (Nat.le_of_ble_eq_true rfl) mS_X12_set nm_1661 rfl rfl (Nat.le_of_ble_eq_true rfl) d_X5_inFrame_169 (k_v (fun σ21 ⟨g21, eσ21, hg21⟩ => ?_))
    subst eσ21
    have kp : Keep [(12, 9)] [62, 63] σ0 (upF σ20 62 g21) := keep_F kp (by decide)
    refine g_goto hF 196 d_X5_inFrame_172 (by decide) ?_
    have j22 : Inv (upF σ20 62 g21) := ⟨iσ20.1, iσ20.2.1, iσ20.2.2.1, iσ20.2.2.2.1, iσ20.2.2.2.2.1, iσ20.2.2.2.2.2.1, iσ20.2.2.2.2.2.2.1, iσ20.2.2.2.2.2.2.2.1, iσ20.2.2.2.2.2.2.2.2.1, iσ20.2.2.2.2.2.2.2.2.2.1, iσ20.2.2.2.2.2.2.2.2.2.2.1, iσ20.2.2.2.2.2.2.2.2.2.2.2.1, iσ20.2.2.2.2.2.2.2.2.2.2.2.2.1, iσ20.2.2.2.2.2.2.2.2.2.2.2.2.2.1, iσ20.2.2.2.2.2.2.2.2.2.2.2.2.2.2.1, iσ20.2.2.2.2.2.2.2.2.2.2.2.2.2.2.2.1, iσ20.2.2.2.2.2.2.2.2.2.2.2.2.2.2.2.2.1, iσ20.2.2.2.2.2.2.2.2.2.2.2.2.2.2.2.2.2.1, iσ20.2.2.2.2.2.2.2.2.2.2.2.2.2.2.2.2.2.2.1, iσ20.2.2.2.2.2.2.2.2.2.2.2.2.2.2.2.2.2.2.2⟩
    exact g_vret hF rfl d_X5_inFrame_196 ⟨rfl, rfl, rfl, ⟨j22, kp⟩⟩
  refine g_tableOut hF 175 d_X5_inFrame_29 rfl (by omega) (by decide) ?_
  refine g_aload_n hF d_X5_inFrame_175 rfl 2 rfl ?_
  refine g_get (v := .ref (r 62)) hF 4 obC_12 (by decide) m_675 rfl d_X5_inFrame_176 ?_
  refine g_iload_n hF d_X5_inFrame_179 rfl 1 rfl ?_
  refine g_iload hF d_X5_inFrame_180 0 rfl ?_
  refine g_iadd hF d_X5_inFrame_182 ?_
  refine g_aload_n hF d_X5_inFrame_183 rfl 2 rfl ?_
  refine g_get (v := .ref (r 24)) hF 3 obC_12 (by decide) m_674 rfl d_X5_inFrame_184 ?_
  refine g_iload_n hF d_X5_inFrame_187 rfl 4 rfl ?_
  refine g_iconst hF (v := 3) d_X5_inFrame_188 (by decide) ?_
  refine g_iadd hF d_X5_inFrame_189 ?_
  refine g_callSN (As := [.ref (r 24), .int (a2 + 3)]) (rest := [.int (((σ0 12 11) + r5) + r6), .ref (r 62)]) hF (c_at a g r σ0 arC_24 (by decide) (a2 + 3)) (Nat.le_of_ble_eq_true rfl) mS_X12_at nm_1660 rfl rfl (Nat.le_of_ble_eq_true rfl) d_X5_inFrame_190 (k_rop (fun r23 hr23 => ?_))
  refine g_callSN (As := [.ref (r 62), .int (((σ0 12 11) + r5) + r6), .int r23]) (rest := []) hF (c_set a g r σ0 arC_62 (by decide) (((σ0 12 11) + r5) + r6) r23) (Nat.le_of_ble_eq_true rfl) mS_X12_set nm_1661 rfl rfl (Nat.le_of_ble_eq_true rfl) d_X5_inFrame_193 (k_v (fun σ24 ⟨g24, eσ24, hg24⟩ => ?_))
  subst eσ24
  have kp : Keep [(12, 9)] [62, 63] σ0 (upF σ0 62 g24) := keep_F kp (by decide)
  have j25 : Inv (upF σ0 62 g24) := ⟨i0.1, i0.2.1, i0.2.2.1, i0.2.2.2.1, i0.2.2.2.2.1, i0.2.2.2.2.2.1, i0.2.2.2.2.2.2.1, i0.2.2.2.2.2.2.2.1, i0.2.2.2.2.2.2.2.2.1, i0.2.2.2.2.2.2.2.2.2.1, i0.2.2.2.2.2.2.2.2.2.2.1, i0.2.2.2.2.2.2.2.2.2.2.2.1, i0.2.2.2.2.2.2.2.2.2.2.2.2.1, i0.2.2.2.2.2.2.2.2.2.2.2.2.2.1, i0.2.2.2.2.2.2.2.2.2.2.2.2.2.2.1, i0.2.2.2.2.2.2.2.2.2.2.2.2.2.2.2.1, i0.2.2.2.2.2.2.2.2.2.2.2.2.2.2.2.2.1, i0.2.2.2.2.2.2.2.2.2.2.2.2.2.2.2.2.2.1, i0.2.2.2.2.2.2.2.2.2.2.2.2.2.2.2.2.2.2.1, i0.2.2.2.2.2.2.2.2.2.2.2.2.2.2.2.2.2.2.2⟩
  exact g_vret hF rfl d_X5_inFrame_196 ⟨rfl, rfl, rfl, ⟨j25, kp⟩⟩
set_option maxHeartbeats 4000000 in
set_option maxRecDepth 100000 in
theorem c_X12_trap (a : Nat → Nat) (g : Nat → Nat → Int32) (r : Nat → Nat) (σ0 : St) (a1 : Int32) (i0 : Inv σ0) (l : Launch) (D : va_G) (cy : Nat → ClassId) : Ct l D cy SC r (EC a g) y_X12_trap (Cond.code y_X12_trap b_X12_trap 2 (some .int)) 2 [.ref (r 0), .int a1] σ0 Z0 [] (QI (fun _ σ9 => σ9 = σ0)) QF := by
  refine Ct_of (EC_ok a g) (by decide) (Nat.le_of_ble_eq_true rfl) (by decide) (fun X hnn hF => ?_)
  show G SC r X σ0 Z0 [] [(0, .ref (r 0)), (1, .int a1)] [] 0
  refine g_iload_n hF d_X12_trap_0 rfl 1 rfl ?_
  refine g_if_ne hF 21 d_X12_trap_1 (by decide) rfl (fun c1_1 => ?_) (fun c1_1 => ?_)
  · -- taken at 1
    refine g_iload_n hF d_X12_trap_21 rfl 1 rfl ?_
    refine g_iconst hF (v := 1) d_X12_trap_22 (by decide) ?_
    refine g_icmp_ne (yv := 1) hF 36 d_X12_trap_23 (by decide) rfl (by decide) (fun c2_23 => ?_) (fun c2_23 => ?_)
    · -- taken at 23
      refine g_iconst hF (v := 0) d_X12_trap_36 (by decide) ?_
      exact g_iret hF rfl d_X12_trap_37 ⟨rfl, rfl, (0 : Int32), rfl, rfl⟩
    · -- not taken at 23
      refine g_aload_n hF d_X12_trap_26 rfl 0 rfl ?_
      refine g_get (v := .ref (r 12)) hF 14 obC_0 (by decide) m_749 rfl d_X12_trap_27 ?_
      refine g_getN (v := .int (σ0 12 17)) hF 17 obC_12 (by decide) nm_693 rfl d_X12_trap_30 ?_
      refine g_goto hF 37 d_X12_trap_33 (by decide) ?_
      exact g_iret hF rfl d_X12_trap_37 ⟨rfl, rfl, (σ0 12 17), rfl, rfl⟩
  · -- not taken at 1
    refine g_aload_n hF d_X12_trap_4 rfl 0 rfl ?_
    refine g_get (v := .ref (r 5)) hF 7 obC_0 (by decide) m_742 rfl d_X12_trap_5 ?_
    refine g_aload_n hF d_X12_trap_8 rfl 0 rfl ?_
    refine g_get (v := .ref (r 12)) hF 14 obC_0 (by decide) m_749 rfl d_X12_trap_9 ?_
    refine g_getN (v := .int (σ0 12 16)) hF 16 obC_12 (by decide) nm_691 rfl d_X12_trap_12 ?_
    refine g_callVN (As := [.int (σ0 12 16)]) (rest := []) hF (c_X8_objectAt a g r σ0 (σ0 12 16) i0) (Nat.le_of_ble_eq_true rfl) mV_X8_objectAt nm_1768 (recv_ob obC_5) rfl rfl (Nat.le_of_ble_eq_true rfl) d_X12_trap_15 (k_ro (fun r3 => ?_))
    refine g_goto hF 37 d_X12_trap_18 (by decide) ?_
    exact g_iret hF rfl d_X12_trap_37 ⟨rfl, rfl, r3, rfl, rfl⟩
set_option maxHeartbeats 4000000 in
set_option maxRecDepth 100000 in
theorem c_X12_out (a : Nat → Nat) (g : Nat → Nat → Int32) (r : Nat → Nat) (σ0 : St) (a1 : Int32) (i0 : Inv σ0) (l : Launch) (D : va_G) (cy : Nat → ClassId) : Ct l D cy SC r (EC a g) y_X12_out (Cond.code y_X12_out b_X12_out 2 (some .int)) 1 [.ref (r 0), .int a1] σ0 Z0 [] (QI (fun _ σ9 => σ9 = σ0)) QF := by
  refine Ct_of (EC_ok a g) (by decide) (Nat.le_of_ble_eq_true rfl) (by decide) (fun X hnn hF => ?_)
  show G SC r X σ0 Z0 [] [(0, .ref (r 0)), (1, .int a1)] [] 0
  refine g_aload_n hF d_X12_out_0 rfl 0 rfl ?_
  refine g_get (v := .ref (r 11)) hF 13 obC_0 (by decide) m_748 rfl d_X12_out_1 ?_
  refine g_iload_n hF d_X12_out_4 rfl 1 rfl ?_
  refine g_callVN (As := [.int a1]) (rest := []) hF (c_X9_byteAt a g r σ0 a1 i0) (Nat.le_of_ble_eq_true rfl) mV_X9_byteAt nm_1780 (recv_ob obC_11) rfl rfl (Nat.le_of_ble_eq_true rfl) d_X12_out_5 (k_ro (fun r1 => ?_))
  exact g_iret hF rfl d_X12_out_8 ⟨rfl, rfl, r1, rfl, rfl⟩
set_option maxHeartbeats 4000000 in
set_option maxRecDepth 100000 in
theorem c_X8_isNamed_r5_r30 (a : Nat → Nat) (g : Nat → Nat → Int32) (r : Nat → Nat) (σ0 : St) (a1 : Int32) (a3 : Int32) (a4 : Int32) (i0 : Inv σ0) (l : Launch) (D : va_G) (cy : Nat → ClassId) : Ct l D cy SC r (EC a g) y_X8_isNamed (Cond.code y_X8_isNamed b_X8_isNamed 7 (some .boolean)) 1 [.ref (r 5), .int a1, .ref (r 30), .int a3, .int a4] σ0 Z0 [] (QI (fun v9 σ9 => (v9 = 0 ∨ v9 = 1) ∧ σ9 = σ0)) QF := by
  refine Ct_of (EC_ok a g) (by decide) (Nat.le_of_ble_eq_true rfl) (by decide) (fun X hnn hF => ?_)
  show G SC r X σ0 Z0 [] [(0, .ref (r 5)), (1, .int a1), (2, .ref (r 30)), (3, .int a3), (4, .int a4)] [] 0
  have b33 : ∀ (N : Nat) (x1 : Int32) (x3 : Int32) (x4 : Int32) (x5 : Int32) (x6 : Int32) , upm x6 = N → (0 ≤ x5.toInt ∧ 0 ≤ x6.toInt ∧ x5.toInt + x6.toInt ≤ 65600 ∧ (x6.toInt = 0 ∨ (0 ≤ x3.toInt ∧ x3.toInt + x6.toInt ≤ 65600))) → G SC r X σ0 Z0 [] [(0, .ref (r 5)), (1, .int x1), (2, .ref (r 30)), (3, .int x3), (4, .int x4), (5, .int x5), (6, .int x6)] [] 33 := by
    intro M33
    induction M33 using Nat.strongRecOn with
    | _ M33 ih33 =>
      intro x1 x3 x4 x5 x6 N33 hj
      refine g_iload hF d_X8_isNamed_33 6 rfl ?_
      refine g_iload hF d_X8_isNamed_35 4 rfl ?_
      refine g_icmp_ge hF 93 d_X8_isNamed_37 (by decide) rfl rfl (fun c1_37 => ?_) (fun c1_37 => ?_)
      · -- taken at 37
        refine g_iconst hF (v := 1) d_X8_isNamed_93 (by decide) ?_
        exact g_zret hF rfl (k_nz (Or.inr rfl)) d_X8_isNamed_94 ⟨rfl, rfl, (1 : Int32), rfl, (Or.inr rfl), rfl⟩
      · -- not taken at 37
        refine g_iload hF d_X8_isNamed_40 5 rfl ?_
        refine g_iload hF d_X8_isNamed_42 6 rfl ?_
        refine g_iadd hF d_X8_isNamed_44 ?_
        refine g_aload_n hF d_X8_isNamed_45 rfl 0 rfl ?_
        refine g_get (v := .ref (r 30)) hF 8 obC_5 (by decide) m_240 rfl d_X8_isNamed_46 ?_
        refine g_alen hF arC_30 (fun _ => ⟨0, _, rfl⟩) (v := 65600) (by decide) d_X8_isNamed_49 ?_
        refine g_icmp_ge (yv := 65600) hF 85 d_X8_isNamed_50 (by decide) rfl (by decide) (fun c2_50 => ?_) (fun c2_50 => ?_)
        · -- taken at 50
          refine g_iconst hF (v := 0) d_X8_isNamed_85 (by decide) ?_
          exact g_zret hF rfl (k_nz (Or.inl rfl)) d_X8_isNamed_86 ⟨rfl, rfl, (0 : Int32), rfl, (Or.inl rfl), rfl⟩
        · -- not taken at 50
          refine g_iload_n hF d_X8_isNamed_53 rfl 3 rfl ?_
          refine g_if_lt hF 85 d_X8_isNamed_54 (by decide) rfl (fun c3_54 => ?_) (fun c3_54 => ?_)
          · -- taken at 54
            refine g_iconst hF (v := 0) d_X8_isNamed_85 (by decide) ?_
            exact g_zret hF rfl (k_nz (Or.inl rfl)) d_X8_isNamed_86 ⟨rfl, rfl, (0 : Int32), rfl, (Or.inl rfl), rfl⟩
          · -- not taken at 54
            refine g_iload_n hF d_X8_isNamed_57 rfl 3 rfl ?_
            refine g_iload hF d_X8_isNamed_58 6 rfl ?_
            refine g_iadd hF d_X8_isNamed_60 ?_
            refine g_aload_n hF d_X8_isNamed_61 rfl 2 rfl ?_
            refine g_alen hF arC_30 (fun _ => ⟨0, _, rfl⟩) (v := 65600) (by decide) d_X8_isNamed_62 ?_
            refine g_icmp_ge (yv := 65600) hF 85 d_X8_isNamed_63 (by decide) rfl (by decide) (fun c4_63 => ?_) (fun c4_63 => ?_)
            · -- taken at 63
              refine g_iconst hF (v := 0) d_X8_isNamed_85 (by decide) ?_
              exact g_zret hF rfl (k_nz (Or.inl rfl)) d_X8_isNamed_86 ⟨rfl, rfl, (0 : Int32), rfl, (Or.inl rfl), rfl⟩
            · -- not taken at 63
              refine g_aload_n hF d_X8_isNamed_66 rfl 0 rfl ?_
              refine g_get (v := .ref (r 30)) hF 8 obC_5 (by decide) m_240 rfl d_X8_isNamed_67 ?_
              refine g_iload hF d_X8_isNamed_70 5 rfl ?_
              refine g_iload hF d_X8_isNamed_72 6 rfl ?_
              refine g_iadd hF d_X8_isNamed_74 ?_
              refine g_bald hF arC_30 (by refine s_in (by decide) ?_ ?_ <;> (have e0 := s_rng x5; have e1 := s_rng x6; obtain ⟨k2, e2⟩ := s_add x5 x6; have e2a := s_rng (x5 + x6); have e4 := s_rng x4; have e5 : (65600 : Int32).toInt = 65600 := (by decide); have e6 := s_rng x3; obtain ⟨k7, e7⟩ := s_add x3 x6; have e7a := s_rng (x3 + x6); have e9 : (0 : Int32).toInt = 0 := (by decide); omega)) d_X8_isNamed_75 ?_
              refine g_any (fun v5 => ?_)
              refine g_aload_n hF d_X8_isNamed_76 rfl 2 rfl ?_
              refine g_iload_n hF d_X8_isNamed_77 rfl 3 rfl ?_
              refine g_iload hF d_X8_isNamed_78 6 rfl ?_
              refine g_iadd hF d_X8_isNamed_80 ?_
              refine g_bald hF arC_30 (by refine s_in (by decide) ?_ ?_ <;> (have e0 := s_rng x3; have e1 := s_rng x6; obtain ⟨k2, e2⟩ := s_add x3 x6; have e2a := s_rng (x3 + x6); have e4 := s_rng x4; have e5 := s_rng x5; obtain ⟨k6, e6⟩ := s_add x5 x6; have e6a := s_rng (x5 + x6); have e8 : (65600 : Int32).toInt = 65600 := (by decide); have e9 : (0 : Int32).toInt = 0 := (by decide); omega)) d_X8_isNamed_81 ?_
              refine g_any (fun v6 => ?_)
              refine g_icmp_eq hF 87 d_X8_isNamed_82 (by decide) rfl rfl (fun c7_82 => ?_) (fun c7_82 => ?_)
              · -- taken at 82
                refine g_iinc hF (x6 + 1) [(6, .int (x6 + 1)), (0, .ref (r 5)), (1, .int x1), (2, .ref (r 30)), (3, .int x3), (4, .int x4), (5, .int x5)] d_X8_isNamed_87 6 rfl rfl hnn (by decide) rfl ?_
                refine g_goto hF 33 d_X8_isNamed_90 (by decide) ?_
                exact g_sub (L' := [(0, .ref (r 5)), (1, .int x1), (2, .ref (r 30)), (3, .int x3), (4, .int x4), (5, .int x5), (6, .int (x6 + 1))]) [1, 2, 3, 4, 5, 6, 0] rfl (ih33 _ (N33 ▸ upm_lt c1_37 (s_rng x4).2) x1 x3 x4 x5 (x6 + 1) rfl (by show 0 ≤ x5.toInt ∧ 0 ≤ (x6 + 1).toInt ∧ x5.toInt + (x6 + 1).toInt ≤ 65600 ∧ ((x6 + 1).toInt = 0 ∨ (0 ≤ x3.toInt ∧ x3.toInt + (x6 + 1).toInt ≤ 65600)); have e0 := s_rng x6; have e1 : (1 : Int32).toInt = 1 := (by decide); obtain ⟨k2, e2⟩ := s_add x6 (1 : Int32); have e2a := s_rng (x6 + 1); have e4 := s_rng x1; have e5 := s_rng x3; have e6 := s_rng x4; have e7 := s_rng x5; obtain ⟨k8, e8⟩ := s_add x5 x6; have e8a := s_rng (x5 + x6); have e10 : (65600 : Int32).toInt = 65600 := (by decide); have e11 : (0 : Int32).toInt = 0 := (by decide); obtain ⟨k12, e12⟩ := s_add x3 x6; have e12a := s_rng (x3 + x6); omega))
              · -- not taken at 82
                refine g_iconst hF (v := 0) d_X8_isNamed_85 (by decide) ?_
                exact g_zret hF rfl (k_nz (Or.inl rfl)) d_X8_isNamed_86 ⟨rfl, rfl, (0 : Int32), rfl, (Or.inl rfl), rfl⟩
  refine g_aload_n hF d_X8_isNamed_0 rfl 0 rfl ?_
  refine g_get (v := .ref (r 29)) hF 6 obC_5 (by decide) m_237 rfl d_X8_isNamed_1 ?_
  refine g_iload_n hF d_X8_isNamed_4 rfl 1 rfl ?_
  refine g_iconst hF (v := 1) d_X8_isNamed_5 (by decide) ?_
  refine g_isub hF d_X8_isNamed_6 ?_
  refine g_callSN (As := [.ref (r 29), .int (a1 - 1)]) (rest := []) hF (c_at a g r σ0 arC_29 (by decide) (a1 - 1)) (Nat.le_of_ble_eq_true rfl) mS_X12_at nm_1125 rfl rfl (Nat.le_of_ble_eq_true rfl) d_X8_isNamed_7 (k_rop (fun r8 hr8 => ?_))
  have hr8 : 0 ≤ r8.toInt ∧ r8.toInt ≤ 65600 := acr_at i0.2.2.2.2.2.2.2.2.2.2.2.2.2.2.2.1 (by decide) (by decide) (hr8.imp And.left (fun h => ⟨_, h.2⟩))
  refine g_istore hF [(5, .int r8), (0, .ref (r 5)), (1, .int a1), (2, .ref (r 30)), (3, .int a3), (4, .int a4)] d_X8_isNamed_10 hnn (by decide) rfl ?_
  refine g_aload_n hF d_X8_isNamed_12 rfl 1 rfl ?_
  refine g_get (v := .ref (r 29)) hF 6 obC_5 (by decide) m_237 rfl d_X8_isNamed_13 ?_
  refine g_iload_n hF d_X8_isNamed_16 rfl 2 rfl ?_
  refine g_callSN (As := [.ref (r 29), .int a1]) (rest := []) hF (c_at a g r σ0 arC_29 (by decide) a1) (Nat.le_of_ble_eq_true rfl) mS_X12_at nm_1125 rfl rfl (Nat.le_of_ble_eq_true rfl) d_X8_isNamed_17 (k_rop (fun r9 hr9 => ?_))
  have hr9 : 0 ≤ r9.toInt ∧ r9.toInt ≤ 65600 := acr_at i0.2.2.2.2.2.2.2.2.2.2.2.2.2.2.2.1 (by decide) (by decide) (hr9.imp And.left (fun h => ⟨_, h.2⟩))
  refine g_iload hF d_X8_isNamed_20 0 rfl ?_
  refine g_isub hF d_X8_isNamed_22 ?_
  refine g_iload hF d_X8_isNamed_23 5 rfl ?_
  refine g_icmp_eq hF 30 d_X8_isNamed_25 (by decide) rfl rfl (fun c10_25 => ?_) (fun c10_25 => ?_)
  · -- taken at 25
    refine g_iconst hF (v := 0) d_X8_isNamed_30 (by decide) ?_
    refine g_istore hF [(6, .int 0), (5, .int r8), (0, .ref (r 5)), (1, .int a1), (2, .ref (r 30)), (3, .int a3), (4, .int a4)] d_X8_isNamed_31 hnn (by decide) rfl ?_
    exact g_sub (L' := [(0, .ref (r 5)), (1, .int a1), (2, .ref (r 30)), (3, .int a3), (4, .int a4), (5, .int r8), (6, .int 0)]) [2, 3, 4, 5, 6, 1, 0] rfl (b33 _ a1 a3 a4 r8 (0 : Int32) rfl (by show 0 ≤ r8.toInt ∧ 0 ≤ 0 ∧ r8.toInt + 0 ≤ 65600 ∧ (0 = 0 ∨ (0 ≤ a3.toInt ∧ a3.toInt + 0 ≤ 65600)); have e0 : (0 : Int32).toInt = 0 := (by decide); have e1 := s_rng r8; have e2 := s_rng a1; have e3 := s_rng a3; have e4 := s_rng a4; have e5 := s_rng r9; obtain ⟨k6, e6⟩ := s_sub r9 r8; have e6a := s_rng (r9 - r8); omega))
  · -- not taken at 25
    refine g_iconst hF (v := 0) d_X8_isNamed_28 (by decide) ?_
    exact g_zret hF rfl (k_nz (Or.inl rfl)) d_X8_isNamed_29 ⟨rfl, rfl, (0 : Int32), rfl, (Or.inl rfl), rfl⟩
