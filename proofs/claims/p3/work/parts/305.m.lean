set_option maxHeartbeats 4000000 in
set_option maxRecDepth 100000 in
theorem c_X8_nameByte (a : Nat → Nat) (g : Nat → Nat → Int32) (r : Nat → Nat) (σ0 : St) (a1 : Int32) (a2 : Int32) (i0 : Inv σ0) (l : Launch) (D : va_G) (cy : Nat → ClassId) : Ct l D cy SC r (EC a g) y_X8_nameByte (Cond.code y_X8_nameByte b_X8_nameByte 5 (some .int)) 2 [.ref (r 5), .int a1, .int a2] σ0 Z0 [] (QI (fun _ σ9 => σ9 = σ0)) QF := by
  refine Ct_of (EC_ok a g) (by decide) (Nat.le_of_ble_eq_true rfl) (by decide) (fun X hnn hF => ?_)
  show G SC r X σ0 Z0 [] [(0, .ref (r 5)), (1, .int a1), (2, .int a2)] [] 0
  refine g_iload_n hF d_X8_nameByte_0 rfl 1 rfl ?_
  refine g_if_ge hF 8 d_X8_nameByte_1 (by decide) rfl (fun c1_1 => ?_) (fun c1_1 => ?_)
  · -- taken at 1
    refine g_aload_n hF d_X8_nameByte_8 rfl 0 rfl ?_
    refine g_get (v := .ref (r 29)) hF 6 obC_5 (by decide) m_237 rfl d_X8_nameByte_9 ?_
    refine g_iload_n hF d_X8_nameByte_12 rfl 1 rfl ?_
    refine g_callSN (As := [.ref (r 29), .int a1]) (rest := []) hF (c_at a g r σ0 arC_29 (by decide) a1) (Nat.le_of_ble_eq_true rfl) mS_X12_at nm_1125 rfl rfl (Nat.le_of_ble_eq_true rfl) d_X8_nameByte_13 (k_rop (fun r2 hr2 => ?_))
    have hr2 : 0 ≤ r2.toInt ∧ r2.toInt ≤ 65600 := acr_at i0.2.2.2.2.2.2.2.2.2.2.2.2.2.2.2.1 (by decide) (by decide) (hr2.imp And.left (fun h => ⟨_, h.2⟩))
    refine g_aload_n hF d_X8_nameByte_16 rfl 0 rfl ?_
    refine g_iload_n hF d_X8_nameByte_17 rfl 1 rfl ?_
    refine g_callV (As := [.int a1]) (rest := [.int r2]) hF (c_X8_nameStart a g r σ0 a1 i0) (Nat.le_of_ble_eq_true rfl) mV_X8_nameStart m_1492 (recv_ob obC_5) rfl rfl (Nat.le_of_ble_eq_true rfl) d_X8_nameByte_18 (k_rop (fun r3 hp3 => ?_)) (fun _ _ _ h => h.elim)
    have hp3 : 0 ≤ r3.toInt ∧ r3.toInt ≤ 65600 := hp3
    refine g_isub hF d_X8_nameByte_21 ?_
    refine g_istore_n hF [(3, .int (r2 - r3)), (0, .ref (r 5)), (1, .int a1), (2, .int a2)] d_X8_nameByte_22 rfl hnn (by decide) rfl ?_
    refine g_aload_n hF d_X8_nameByte_23 rfl 1 rfl ?_
    refine g_iload_n hF d_X8_nameByte_24 rfl 2 rfl ?_
    refine g_callV (As := [.int a1]) (rest := []) hF (c_X8_nameStart a g r σ0 a1 i0) (Nat.le_of_ble_eq_true rfl) mV_X8_nameStart m_1492 (recv_ob obC_5) rfl rfl (Nat.le_of_ble_eq_true rfl) d_X8_nameByte_25 (k_rop (fun r4 hp4 => ?_)) (fun _ _ _ h => h.elim)
    have hp4 : 0 ≤ r4.toInt ∧ r4.toInt ≤ 65600 := hp4
    refine g_iload_n hF d_X8_nameByte_28 rfl 3 rfl ?_
    refine g_iadd hF d_X8_nameByte_29 ?_
    refine g_istore hF [(4, .int (r4 + a2)), (3, .int (r2 - r3)), (0, .ref (r 5)), (1, .int a1), (2, .int a2)] d_X8_nameByte_30 hnn (by decide) rfl ?_
    refine g_iload_n hF d_X8_nameByte_32 rfl 4 rfl ?_
    refine g_if_lt hF 65 d_X8_nameByte_33 (by decide) rfl (fun c5_33 => ?_) (fun c5_33 => ?_)
    · -- taken at 33
      refine g_iconst hF (v := (-1)) d_X8_nameByte_65 (by decide) ?_
      exact g_iret hF rfl d_X8_nameByte_66 ⟨rfl, rfl, ((-1) : Int32), rfl, rfl⟩
    · -- not taken at 33
      refine g_iload_n hF d_X8_nameByte_36 rfl 4 rfl ?_
      refine g_iload_n hF d_X8_nameByte_37 rfl 1 rfl ?_
      refine g_icmp_ge hF 65 d_X8_nameByte_38 (by decide) rfl rfl (fun c6_38 => ?_) (fun c6_38 => ?_)
      · -- taken at 38
        refine g_iconst hF (v := (-1)) d_X8_nameByte_65 (by decide) ?_
        exact g_iret hF rfl d_X8_nameByte_66 ⟨rfl, rfl, ((-1) : Int32), rfl, rfl⟩
      · -- not taken at 38
        refine g_iload hF d_X8_nameByte_41 0 rfl ?_
        refine g_aload_n hF d_X8_nameByte_43 rfl 2 rfl ?_
        refine g_get (v := .ref (r 30)) hF 8 obC_5 (by decide) m_240 rfl d_X8_nameByte_44 ?_
        refine g_alen hF arC_30 (fun _ => ⟨0, _, rfl⟩) (v := 65600) (by decide) d_X8_nameByte_47 ?_
        refine g_icmp_ge (yv := 65600) hF 65 d_X8_nameByte_48 (by decide) rfl (by decide) (fun c7_48 => ?_) (fun c7_48 => ?_)
        · -- taken at 48
          refine g_iconst hF (v := (-1)) d_X8_nameByte_65 (by decide) ?_
          exact g_iret hF rfl d_X8_nameByte_66 ⟨rfl, rfl, ((-1) : Int32), rfl, rfl⟩
        · -- not taken at 48
          refine g_aload_n hF d_X8_nameByte_51 rfl 2 rfl ?_
          refine g_get (v := .ref (r 30)) hF 8 obC_5 (by decide) m_240 rfl d_X8_nameByte_52 ?_
          refine g_iload hF d_X8_nameByte_55 0 rfl ?_
          refine g_bald hF arC_30 (by refine s_in (by decide) ?_ ?_ <;> (have e0 := s_rng r4; have e1 := s_rng a2; obtain ⟨k2, e2⟩ := s_add r4 a2; have e2a := s_rng (r4 + a2); have e4 := s_rng a1; have e5 : (0 : Int32).toInt = 0 := (by decide); have e6 := s_rng r2; have e7 := s_rng r3; obtain ⟨k8, e8⟩ := s_sub r2 r3; have e8a := s_rng (r2 - r3); have e10 : (65600 : Int32).toInt = 65600 := (by decide); omega)) d_X8_nameByte_57 ?_
          refine g_any (fun v8 => ?_)
          refine g_sipush hF (v := 255) d_X8_nameByte_58 (by decide) ?_
          refine g_iand hF d_X8_nameByte_61 ?_
          refine g_any (fun v9 => ?_)
          refine g_goto hF 66 d_X8_nameByte_62 (by decide) ?_
          exact g_iret hF rfl d_X8_nameByte_66 ⟨rfl, rfl, v9, rfl, rfl⟩
  · -- not taken at 1
    refine g_iconst hF (v := 0) d_X8_nameByte_4 (by decide) ?_
    refine g_goto hF 22 d_X8_nameByte_5 (by decide) ?_
    refine g_istore_n hF [(3, .int 0), (0, .ref (r 5)), (1, .int a1), (2, .int a2)] d_X8_nameByte_22 rfl hnn (by decide) rfl ?_
    refine g_aload_n hF d_X8_nameByte_23 rfl 1 rfl ?_
    refine g_iload_n hF d_X8_nameByte_24 rfl 2 rfl ?_
    refine g_callV (As := [.int a1]) (rest := []) hF (c_X8_nameStart a g r σ0 a1 i0) (Nat.le_of_ble_eq_true rfl) mV_X8_nameStart m_1492 (recv_ob obC_5) rfl rfl (Nat.le_of_ble_eq_true rfl) d_X8_nameByte_25 (k_rop (fun r10 hp10 => ?_)) (fun _ _ _ h => h.elim)
    have hp10 : 0 ≤ r10.toInt ∧ r10.toInt ≤ 65600 := hp10
    refine g_iload_n hF d_X8_nameByte_28 rfl 3 rfl ?_
    refine g_iadd hF d_X8_nameByte_29 ?_
    refine g_istore hF [(4, .int (r10 + a2)), (3, .int 0), (0, .ref (r 5)), (1, .int a1), (2, .int a2)] d_X8_nameByte_30 hnn (by decide) rfl ?_
    refine g_iload_n hF d_X8_nameByte_32 rfl 4 rfl ?_
    refine g_if_lt hF 65 d_X8_nameByte_33 (by decide) rfl (fun c11_33 => ?_) (fun c11_33 => ?_)
    · -- taken at 33
      refine g_iconst hF (v := (-1)) d_X8_nameByte_65 (by decide) ?_
      exact g_iret hF rfl d_X8_nameByte_66 ⟨rfl, rfl, ((-1) : Int32), rfl, rfl⟩
    · -- not taken at 33
      refine g_iload_n hF d_X8_nameByte_36 rfl 4 rfl ?_
      refine g_iload_n hF d_X8_nameByte_37 rfl 1 rfl ?_
      refine g_icmp_ge (yv := 0) hF 65 d_X8_nameByte_38 (by decide) rfl (by decide) (fun c12_38 => ?_) (fun c12_38 => ?_)
      · -- taken at 38
        refine g_iconst hF (v := (-1)) d_X8_nameByte_65 (by decide) ?_
        exact g_iret hF rfl d_X8_nameByte_66 ⟨rfl, rfl, ((-1) : Int32), rfl, rfl⟩
      · -- not taken at 38
        refine g_iload hF d_X8_nameByte_41 0 rfl ?_
        refine g_aload_n hF d_X8_nameByte_43 rfl 2 rfl ?_
        refine g_get (v := .ref (r 30)) hF 8 obC_5 (by decide) m_240 rfl d_X8_nameByte_44 ?_
        refine g_alen hF arC_30 (fun _ => ⟨0, _, rfl⟩) (v := 65600) (by decide) d_X8_nameByte_47 ?_
        refine g_icmp_ge (yv := 65600) hF 65 d_X8_nameByte_48 (by decide) rfl (by decide) (fun c13_48 => ?_) (fun c13_48 => ?_)
        · -- taken at 48
          refine g_iconst hF (v := (-1)) d_X8_nameByte_65 (by decide) ?_
          exact g_iret hF rfl d_X8_nameByte_66 ⟨rfl, rfl, ((-1) : Int32), rfl, rfl⟩
        · -- not taken at 48
          refine g_aload_n hF d_X8_nameByte_51 rfl 2 rfl ?_
          refine g_get (v := .ref (r 30)) hF 8 obC_5 (by decide) m_240 rfl d_X8_nameByte_52 ?_
          refine g_iload hF d_X8_nameByte_55 0 rfl ?_
          refine g_bald hF arC_30 (by refine s_in (by decide) ?_ ?_ <;> (have e0 := s_rng r10; have e1 := s_rng a2; obtain ⟨k2, e2⟩ := s_add r10 a2; have e2a := s_rng (r10 + a2); have e4 := s_rng a1; have e5 : (0 : Int32).toInt = 0 := (by decide); have e6 : (65600 : Int32).toInt = 65600 := (by decide); omega)) d_X8_nameByte_57 ?_
          refine g_any (fun v14 => ?_)
          refine g_sipush hF (v := 255) d_X8_nameByte_58 (by decide) ?_
          refine g_iand hF d_X8_nameByte_61 ?_
          refine g_any (fun v15 => ?_)
          refine g_goto hF 66 d_X8_nameByte_62 (by decide) ?_
          exact g_iret hF rfl d_X8_nameByte_66 ⟨rfl, rfl, v15, rfl, rfl⟩
set_option maxHeartbeats 4000000 in
set_option maxRecDepth 100000 in
theorem c_X12_symbol (a : Nat → Nat) (g : Nat → Nat → Int32) (r : Nat → Nat) (σ0 : St) (a1 : Int32) (a2 : Int32) (i0 : Inv σ0) (l : Launch) (D : va_G) (cy : Nat → ClassId) : Ct l D cy SC r (EC a g) y_X12_symbol (Cond.code y_X12_symbol b_X12_symbol 5 (some .int)) 3 [.ref (r 0), .int a1, .int a2] σ0 Z0 [] (QI (fun _ σ9 => σ9 = σ0)) QF := by
  refine Ct_of (EC_ok a g) (by decide) (Nat.le_of_ble_eq_true rfl) (by decide) (fun X hnn hF => ?_)
  show G SC r X σ0 Z0 [] [(0, .ref (r 0)), (1, .int a1), (2, .int a2)] [] 0
  refine g_aload_n hF d_X12_symbol_0 rfl 0 rfl ?_
  refine g_get (v := .ref (r 5)) hF 7 obC_0 (by decide) m_742 rfl d_X12_symbol_1 ?_
  refine g_iload_n hF d_X12_symbol_4 rfl 1 rfl ?_
  refine g_iload_n hF d_X12_symbol_5 rfl 2 rfl ?_
  refine g_callVN (As := [.int a1, .int a2]) (rest := []) hF (c_X8_symbolAt a g r σ0 a1 a2 i0) (Nat.le_of_ble_eq_true rfl) mV_X8_symbolAt nm_1530 (recv_ob obC_5) rfl rfl (Nat.le_of_ble_eq_true rfl) d_X12_symbol_6 (k_ro (fun r1 => ?_))
  refine g_istore_n hF [(3, .int r1), (0, .ref (r 0)), (1, .int a1), (2, .int a2)] d_X12_symbol_9 rfl hnn (by decide) rfl ?_
  refine g_iload_n hF d_X12_symbol_10 rfl 0 rfl ?_
  refine g_if_ge hF 16 d_X12_symbol_11 (by decide) rfl (fun c2_11 => ?_) (fun c2_11 => ?_)
  · -- taken at 11
    refine g_aload_n hF d_X12_symbol_16 rfl 1 rfl ?_
    refine g_get (v := .ref (r 5)) hF 7 obC_0 (by decide) m_742 rfl d_X12_symbol_17 ?_
    refine g_iload_n hF d_X12_symbol_20 rfl 0 rfl ?_
    refine g_iconst hF (v := 1) d_X12_symbol_21 (by decide) ?_
    refine g_callVN (As := [.int r1, .int 1]) (rest := []) hF (c_X8_is a g r σ0 r1 (1 : Int32) i0) (Nat.le_of_ble_eq_true rfl) mV_X8_is nm_1543 (recv_ob obC_5) rfl rfl (Nat.le_of_ble_eq_true rfl) d_X12_symbol_22 (k_roz (fun r3 hz3 => ?_))
    refine g_if_eq hF 32 d_X12_symbol_25 (by decide) rfl (fun c4_25 => ?_) (fun c4_25 => ?_)
    · -- taken at 25
      refine g_iconst hF (v := 1) d_X12_symbol_32 (by decide) ?_
      refine g_istore hF [(4, .int 1), (3, .int r1), (0, .ref (r 0)), (1, .int a1), (2, .int a2)] d_X12_symbol_33 hnn (by decide) rfl ?_
      refine g_aload_n hF d_X12_symbol_35 rfl 2 rfl ?_
      refine g_get (v := .ref (r 5)) hF 7 obC_0 (by decide) m_742 rfl d_X12_symbol_36 ?_
      refine g_iload_n hF d_X12_symbol_39 rfl 1 rfl ?_
      refine g_iconst hF (v := 4) d_X12_symbol_40 (by decide) ?_
      refine g_callVN (As := [.int r1, .int 4]) (rest := []) hF (c_X8_is a g r σ0 r1 (4 : Int32) i0) (Nat.le_of_ble_eq_true rfl) mV_X8_is nm_1543 (recv_ob obC_5) rfl rfl (Nat.le_of_ble_eq_true rfl) d_X12_symbol_41 (k_roz (fun r5 hz5 => ?_))
      refine g_if_eq hF 52 d_X12_symbol_44 (by decide) rfl (fun c6_44 => ?_) (fun c6_44 => ?_)
      · -- taken at 44
        refine g_aload_n hF d_X12_symbol_52 rfl 2 rfl ?_
        refine g_get (v := .ref (r 5)) hF 7 obC_0 (by decide) m_742 rfl d_X12_symbol_53 ?_
        refine g_iload_n hF d_X12_symbol_56 rfl 1 rfl ?_
        refine g_bipush hF (v := 8) d_X12_symbol_57 (by decide) ?_
        refine g_callVN (As := [.int r1, .int 8]) (rest := []) hF (c_X8_is a g r σ0 r1 (8 : Int32) i0) (Nat.le_of_ble_eq_true rfl) mV_X8_is nm_1543 (recv_ob obC_5) rfl rfl (Nat.le_of_ble_eq_true rfl) d_X12_symbol_59 (k_roz (fun r7 hz7 => ?_))
        refine g_if_eq hF 73 d_X12_symbol_62 (by decide) rfl (fun c8_62 => ?_) (fun c8_62 => ?_)
        · -- taken at 62
          refine g_iload hF d_X12_symbol_73 0 rfl ?_
          exact g_iret hF rfl d_X12_symbol_75 ⟨rfl, rfl, (1 : Int32), rfl, rfl⟩
        · -- not taken at 62
          refine g_iload hF d_X12_symbol_65 0 rfl ?_
          refine g_bipush hF (v := 8) d_X12_symbol_67 (by decide) ?_
          refine g_iadd hF d_X12_symbol_69 ?_
          refine g_top (v := 9) (by decide) ?_
          refine g_goto hF 75 d_X12_symbol_70 (by decide) ?_
          exact g_iret hF rfl d_X12_symbol_75 ⟨rfl, rfl, (9 : Int32), rfl, rfl⟩
      · -- not taken at 44
        refine g_iload hF d_X12_symbol_47 0 rfl ?_
        refine g_iconst hF (v := 4) d_X12_symbol_49 (by decide) ?_
        refine g_iadd hF d_X12_symbol_50 ?_
        refine g_top (v := 5) (by decide) ?_
        exact g_iret hF rfl d_X12_symbol_51 ⟨rfl, rfl, (5 : Int32), rfl, rfl⟩
    · -- not taken at 25
      refine g_iconst hF (v := 2) d_X12_symbol_28 (by decide) ?_
      refine g_goto hF 33 d_X12_symbol_29 (by decide) ?_
      refine g_istore hF [(4, .int 2), (3, .int r1), (0, .ref (r 0)), (1, .int a1), (2, .int a2)] d_X12_symbol_33 hnn (by decide) rfl ?_
      refine g_aload_n hF d_X12_symbol_35 rfl 2 rfl ?_
      refine g_get (v := .ref (r 5)) hF 7 obC_0 (by decide) m_742 rfl d_X12_symbol_36 ?_
      refine g_iload_n hF d_X12_symbol_39 rfl 1 rfl ?_
      refine g_iconst hF (v := 4) d_X12_symbol_40 (by decide) ?_
      refine g_callVN (As := [.int r1, .int 4]) (rest := []) hF (c_X8_is a g r σ0 r1 (4 : Int32) i0) (Nat.le_of_ble_eq_true rfl) mV_X8_is nm_1543 (recv_ob obC_5) rfl rfl (Nat.le_of_ble_eq_true rfl) d_X12_symbol_41 (k_roz (fun r9 hz9 => ?_))
      refine g_if_eq hF 52 d_X12_symbol_44 (by decide) rfl (fun c10_44 => ?_) (fun c10_44 => ?_)
      · -- taken at 44
        refine g_aload_n hF d_X12_symbol_52 rfl 2 rfl ?_
        refine g_get (v := .ref (r 5)) hF 7 obC_0 (by decide) m_742 rfl d_X12_symbol_53 ?_
        refine g_iload_n hF d_X12_symbol_56 rfl 1 rfl ?_
        refine g_bipush hF (v := 8) d_X12_symbol_57 (by decide) ?_
        refine g_callVN (As := [.int r1, .int 8]) (rest := []) hF (c_X8_is a g r σ0 r1 (8 : Int32) i0) (Nat.le_of_ble_eq_true rfl) mV_X8_is nm_1543 (recv_ob obC_5) rfl rfl (Nat.le_of_ble_eq_true rfl) d_X12_symbol_59 (k_roz (fun r11 hz11 => ?_))
        refine g_if_eq hF 73 d_X12_symbol_62 (by decide) rfl (fun c12_62 => ?_) (fun c12_62 => ?_)
        · -- taken at 62
          refine g_iload hF d_X12_symbol_73 0 rfl ?_
          exact g_iret hF rfl d_X12_symbol_75 ⟨rfl, rfl, (2 : Int32), rfl, rfl⟩
        · -- not taken at 62
          refine g_iload hF d_X12_symbol_65 0 rfl ?_
          refine g_bipush hF (v := 8) d_X12_symbol_67 (by decide) ?_
          refine g_iadd hF d_X12_symbol_69 ?_
          refine g_top (v := 10) (by decide) ?_
          refine g_goto hF 75 d_X12_symbol_70 (by decide) ?_
          exact g_iret hF rfl d_X12_symbol_75 ⟨rfl, rfl, (10 : Int32), rfl, rfl⟩
      · -- not taken at 44
        refine g_iload hF d_X12_symbol_47 0 rfl ?_
        refine g_iconst hF (v := 4) d_X12_symbol_49 (by decide) ?_
        refine g_iadd hF d_X12_symbol_50 ?_
        refine g_top (v := 6) (by decide) ?_
        exact g_iret hF rfl d_X12_symbol_51 ⟨rfl, rfl, (6 : Int32), rfl, rfl⟩
  · -- not taken at 11
    refine g_iconst hF (v := (-1)) d_X12_symbol_14 (by decide) ?_
    exact g_iret hF rfl d_X12_symbol_15 ⟨rfl, rfl, ((-1) : Int32), rfl, rfl⟩
set_option maxHeartbeats 4000000 in
set_option maxRecDepth 100000 in
theorem c_X4_choose (a : Nat → Nat) (g : Nat → Nat → Int32) (r : Nat → Nat) (σ0 : St) (a1 : Int32) (i0 : Inv σ0) (l : Launch) (D : va_G) (cy : Nat → ClassId) : Ct l D cy SC r (EC a g) y_X4_choose (Cond.code y_X4_choose b_X4_choose 3 (some .int)) 1 [.ref (r 10), .int a1] σ0 Z0 [] (QI (fun _ σ9 => (Inv σ9 ∧ Keep [(10, 5)] [56] σ0 σ9))) QF := by
  refine Ct_of (EC_ok a g) (by decide) (Nat.le_of_ble_eq_true rfl) (by decide) (fun X hnn hF => ?_)
  show G SC r X σ0 Z0 [] [(0, .ref (r 10)), (1, .int a1)] [] 0
  have b2 : ∀ (N : Nat) (σ : St) (x1 : Int32) (x2 : Int32) , upm x2 = N → Inv σ → Keep [(10, 5)] [56] σ0 σ → G SC r X σ Z0 [] [(0, .ref (r 10)), (1, .int x1), (2, .int x2)] [] 2 := by
    intro M2
    induction M2 using Nat.strongRecOn with
    | _ M2 ih2 =>
      intro σ x1 x2 N2 inv kp
      refine g_iload_n hF d_X4_choose_2 rfl 2 rfl ?_
      refine g_aload_n hF d_X4_choose_3 rfl 0 rfl ?_
      refine g_get (v := .int (σ 10 5)) hF 5 obC_10 (by decide) m_605 rfl d_X4_choose_4 ?_
      refine g_icmp_ge hF 30 d_X4_choose_7 (by decide) rfl rfl (fun c1_7 => ?_) (fun c1_7 => ?_)
      · -- taken at 7
        refine g_aload_n hF d_X4_choose_30 rfl 0 rfl ?_
        refine g_get (v := .ref (r 56)) hF 6 obC_10 (by decide) m_606 rfl d_X4_choose_31 ?_
        refine g_aload_n hF d_X4_choose_34 rfl 0 rfl ?_
        refine g_get (v := .int (σ 10 5)) hF 5 obC_10 (by decide) m_605 rfl d_X4_choose_35 ?_
        refine g_iload_n hF d_X4_choose_38 rfl 1 rfl ?_
        refine g_callSN (As := [.ref (r 56), .int (σ 10 5), .int x1]) (rest := []) hF (c_set a g r σ arC_56 (by decide) (σ 10 5) x1) (Nat.le_of_ble_eq_true rfl) mS_X12_set nm_1553 rfl rfl (Nat.le_of_ble_eq_true rfl) d_X4_choose_39 (k_v (fun σ2 ⟨g2, eσ2, hg2⟩ => ?_))
        subst eσ2
        have kp : Keep [(10, 5)] [56] σ0 (upF σ 56 g2) := keep_F kp (by decide)
        refine g_aload_n hF d_X4_choose_42 rfl 0 rfl ?_
        refine g_dup hF d_X4_choose_43 rfl ?_
        refine g_get (v := .int (σ 10 5)) hF 5 obC_10 (by decide) m_605 rfl d_X4_choose_44 ?_
        refine g_iconst hF (v := 1) d_X4_choose_47 (by decide) ?_
        refine g_iadd hF d_X4_choose_48 ?_
        refine g_put (v := ((σ 10 5) + 1)) hF 5 obC_10 (by decide) m_605 rfl rfl rfl d_X4_choose_49 ?_
        have kp : Keep [(10, 5)] [56] σ0 (upC (upF σ 56 g2) 10 5 ((σ 10 5) + 1)) := keep_f kp (by decide)
        refine g_aload_n hF d_X4_choose_52 rfl 0 rfl ?_
        refine g_get (v := .int ((σ 10 5) + 1)) hF 5 obC_10 (by decide) m_605 rfl d_X4_choose_53 ?_
        refine g_iconst hF (v := 1) d_X4_choose_56 (by decide) ?_
        refine g_isub hF d_X4_choose_57 ?_
        have j3 : Inv (upC (upF σ 56 g2) 10 5 ((σ 10 5) + 1)) := ⟨inv.1, inv.2.1, inv.2.2.1, inv.2.2.2.1, inv.2.2.2.2.1, inv.2.2.2.2.2.1, inv.2.2.2.2.2.2.1, inv.2.2.2.2.2.2.2.1, inv.2.2.2.2.2.2.2.2.1, inv.2.2.2.2.2.2.2.2.2.1, inv.2.2.2.2.2.2.2.2.2.2.1, inv.2.2.2.2.2.2.2.2.2.2.2.1, inv.2.2.2.2.2.2.2.2.2.2.2.2.1, inv.2.2.2.2.2.2.2.2.2.2.2.2.2.1, inv.2.2.2.2.2.2.2.2.2.2.2.2.2.2.1, inv.2.2.2.2.2.2.2.2.2.2.2.2.2.2.2.1, inv.2.2.2.2.2.2.2.2.2.2.2.2.2.2.2.2.1, inv.2.2.2.2.2.2.2.2.2.2.2.2.2.2.2.2.2.1, inv.2.2.2.2.2.2.2.2.2.2.2.2.2.2.2.2.2.2.1, inv.2.2.2.2.2.2.2.2.2.2.2.2.2.2.2.2.2.2.2⟩
        exact g_iret hF rfl d_X4_choose_58 ⟨rfl, rfl, (((σ 10 5) + 1) - 1), rfl, ⟨j3, kp⟩⟩
      · -- not taken at 7
        refine g_aload_n hF d_X4_choose_10 rfl 0 rfl ?_
        refine g_get (v := .ref (r 56)) hF 6 obC_10 (by decide) m_606 rfl d_X4_choose_11 ?_
        refine g_iload_n hF d_X4_choose_14 rfl 2 rfl ?_
        refine g_callSN (As := [.ref (r 56), .int x2]) (rest := []) hF (c_at a g r σ arC_56 (by decide) x2) (Nat.le_of_ble_eq_true rfl) mS_X12_at nm_1552 rfl rfl (Nat.le_of_ble_eq_true rfl) d_X4_choose_15 (k_rop (fun r4 hr4 => ?_))
        refine g_iload_n hF d_X4_choose_18 rfl 1 rfl ?_
        refine g_icmp_ne hF 24 d_X4_choose_19 (by decide) rfl rfl (fun c5_19 => ?_) (fun c5_19 => ?_)
        · -- taken at 19
          refine g_iinc hF (x2 + 1) [(2, .int (x2 + 1)), (0, .ref (r 10)), (1, .int x1)] d_X4_choose_24 2 rfl rfl hnn (by decide) rfl ?_
          refine g_goto hF 2 d_X4_choose_27 (by decide) ?_
          exact g_sub (L' := [(0, .ref (r 10)), (1, .int x1), (2, .int (x2 + 1))]) [1, 2, 0] rfl (ih2 _ (N2 ▸ upm_lt c1_7 (s_rng (σ 10 5)).2) σ x1 (x2 + 1) rfl inv kp)
        · -- not taken at 19
          refine g_iconst hF (v := (-1)) d_X4_choose_22 (by decide) ?_
          exact g_iret hF rfl d_X4_choose_23 ⟨rfl, rfl, ((-1) : Int32), rfl, ⟨inv, kp⟩⟩
  have kp : Keep [(10, 5)] [56] σ0 σ0 := keep_rf
  refine g_iconst hF (v := 1) d_X4_choose_0 (by decide) ?_
  refine g_istore_n hF [(2, .int 1), (0, .ref (r 10)), (1, .int a1)] d_X4_choose_1 rfl hnn (by decide) rfl ?_
  exact g_sub (L' := [(0, .ref (r 10)), (1, .int a1), (2, .int 1)]) [1, 2, 0] rfl (b2 _ σ0 a1 (1 : Int32) rfl i0 kp)
set_option maxHeartbeats 4000000 in
set_option maxRecDepth 100000 in
theorem c_X4_agrees (a : Nat → Nat) (g : Nat → Nat → Int32) (r : Nat → Nat) (σ0 : St) (a1 : Int32) (a2 : Int32) (i0 : Inv σ0) (l : Launch) (D : va_G) (cy : Nat → ClassId) : Ct l D cy SC r (EC a g) y_X4_agrees (Cond.code y_X4_agrees b_X4_agrees 7 (some .boolean)) 2 [.ref (r 10), .int a1, .int a2] σ0 Z0 [] (QI (fun v9 σ9 => (v9 = 0 ∨ v9 = 1) ∧ σ9 = σ0)) QF := by
  refine Ct_of (EC_ok a g) (by decide) (Nat.le_of_ble_eq_true rfl) (by decide) (fun X hnn hF => ?_)
  show G SC r X σ0 Z0 [] [(0, .ref (r 10)), (1, .int a1), (2, .int a2)] [] 0
  refine g_aload_n hF d_X4_agrees_0 rfl 0 rfl ?_
  refine g_get (v := .ref (r 5)) hF 0 obC_10 (by decide) m_597 rfl d_X4_agrees_1 ?_
  refine g_getN (v := .ref (r 27)) hF 4 obC_5 (by decide) nm_231 rfl d_X4_agrees_4 ?_
  refine g_iload_n hF d_X4_agrees_7 rfl 1 rfl ?_
  refine g_callSN (As := [.ref (r 27), .int a1]) (rest := []) hF (c_at a g r σ0 arC_27 (by decide) a1) (Nat.le_of_ble_eq_true rfl) mS_X12_at nm_1552 rfl rfl (Nat.le_of_ble_eq_true rfl) d_X4_agrees_8 (k_rop (fun r1 hr1 => ?_))
  refine g_istore_n hF [(3, .int r1), (0, .ref (r 10)), (1, .int a1), (2, .int a2)] d_X4_agrees_11 rfl hnn (by decide) rfl ?_
  refine g_aload_n hF d_X4_agrees_12 rfl 1 rfl ?_
  refine g_get (v := .ref (r 5)) hF 0 obC_10 (by decide) m_597 rfl d_X4_agrees_13 ?_
  refine g_getN (v := .ref (r 27)) hF 4 obC_5 (by decide) nm_231 rfl d_X4_agrees_16 ?_
  refine g_iload_n hF d_X4_agrees_19 rfl 3 rfl ?_
  refine g_callSN (As := [.ref (r 27), .int a2]) (rest := []) hF (c_at a g r σ0 arC_27 (by decide) a2) (Nat.le_of_ble_eq_true rfl) mS_X12_at nm_1552 rfl rfl (Nat.le_of_ble_eq_true rfl) d_X4_agrees_20 (k_rop (fun r2 hr2 => ?_))
  refine g_istore hF [(4, .int r2), (3, .int r1), (0, .ref (r 10)), (1, .int a1), (2, .int a2)] d_X4_agrees_23 hnn (by decide) rfl ?_
  refine g_aload_n hF d_X4_agrees_25 rfl 2 rfl ?_
  refine g_get (v := .ref (r 5)) hF 0 obC_10 (by decide) m_597 rfl d_X4_agrees_26 ?_
  refine g_iload_n hF d_X4_agrees_29 rfl 3 rfl ?_
  refine g_iconst hF (v := 1) d_X4_agrees_30 (by decide) ?_
  refine g_callVN (As := [.int a1, .int 1]) (rest := []) hF (c_X8_is a g r σ0 a1 (1 : Int32) i0) (Nat.le_of_ble_eq_true rfl) mV_X8_is nm_1567 (recv_ob obC_5) rfl rfl (Nat.le_of_ble_eq_true rfl) d_X4_agrees_31 (k_roz (fun r3 hz3 => ?_))
  refine g_istore hF [(5, .int r3), (4, .int r2), (3, .int r1), (0, .ref (r 10)), (1, .int a1), (2, .int a2)] d_X4_agrees_34 hnn (by decide) rfl ?_
  refine g_iload hF d_X4_agrees_36 0 rfl ?_
  refine g_if_ne hF 54 d_X4_agrees_38 (by decide) rfl (fun c4_38 => ?_) (fun c4_38 => ?_)
  · -- taken at 38
    refine g_iconst hF (v := 0) d_X4_agrees_54 (by decide) ?_
    refine g_istore hF [(6, .int 0), (5, .int r3), (4, .int r2), (3, .int r1), (0, .ref (r 10)), (1, .int a1), (2, .int a2)] d_X4_agrees_55 hnn (by decide) rfl ?_
    refine g_iload_n hF d_X4_agrees_57 rfl 6 rfl ?_
    refine g_if_lt hF 111 d_X4_agrees_58 (by decide) rfl (fun c5_58 => ?_) (fun c5_58 => ?_)
    · -- taken at 58
      refine g_iconst hF (v := 1) d_X4_agrees_111 (by decide) ?_
      refine g_goto hF 116 d_X4_agrees_112 (by decide) ?_
      exact g_zret hF rfl (k_nz (Or.inr rfl)) d_X4_agrees_116 ⟨rfl, rfl, (1 : Int32), rfl, (Or.inr rfl), rfl⟩
    · -- not taken at 58
      refine g_iload hF d_X4_agrees_61 1 rfl ?_
      refine g_aload_n hF d_X4_agrees_63 rfl 4 rfl ?_
      refine g_get (v := .ref (r 5)) hF 0 obC_10 (by decide) m_597 rfl d_X4_agrees_64 ?_
      refine g_iload_n hF d_X4_agrees_67 rfl 6 rfl ?_
      refine g_iconst hF (v := 1) d_X4_agrees_68 (by decide) ?_
      refine g_callVN (As := [.int a2, .int 1]) (rest := [.int r3]) hF (c_X8_is a g r σ0 a2 (1 : Int32) i0) (Nat.le_of_ble_eq_true rfl) mV_X8_is nm_1567 (recv_ob obC_5) rfl rfl (Nat.le_of_ble_eq_true rfl) d_X4_agrees_69 (k_roz (fun r6 hz6 => ?_))
      refine g_icmp_ne hF 115 d_X4_agrees_72 (by decide) rfl rfl (fun c7_72 => ?_) (fun c7_72 => ?_)
      · -- taken at 72
        refine g_iconst hF (v := 0) d_X4_agrees_115 (by decide) ?_
        exact g_zret hF rfl (k_nz (Or.inl rfl)) d_X4_agrees_116 ⟨rfl, rfl, (0 : Int32), rfl, (Or.inl rfl), rfl⟩
      · -- not taken at 72
        refine g_aload_n hF d_X4_agrees_75 rfl 4 rfl ?_
        refine g_get (v := .ref (r 5)) hF 0 obC_10 (by decide) m_597 rfl d_X4_agrees_76 ?_
        refine g_getN (v := .ref (r 26)) hF 3 obC_5 (by decide) nm_226 rfl d_X4_agrees_79 ?_
        refine g_iload_n hF d_X4_agrees_82 rfl 5 rfl ?_
        refine g_callSN (As := [.ref (r 26), .int a1]) (rest := []) hF (c_at a g r σ0 arC_26 (by decide) a1) (Nat.le_of_ble_eq_true rfl) mS_X12_at nm_1552 rfl rfl (Nat.le_of_ble_eq_true rfl) d_X4_agrees_83 (k_rop (fun r8 hr8 => ?_))
        refine g_aload_n hF d_X4_agrees_86 rfl 4 rfl ?_
        refine g_get (v := .ref (r 5)) hF 0 obC_10 (by decide) m_597 rfl d_X4_agrees_87 ?_
        refine g_getN (v := .ref (r 26)) hF 3 obC_5 (by decide) nm_226 rfl d_X4_agrees_90 ?_
        refine g_iload_n hF d_X4_agrees_93 rfl 6 rfl ?_
        refine g_callSN (As := [.ref (r 26), .int a2]) (rest := [.int r8]) hF (c_at a g r σ0 arC_26 (by decide) a2) (Nat.le_of_ble_eq_true rfl) mS_X12_at nm_1552 rfl rfl (Nat.le_of_ble_eq_true rfl) d_X4_agrees_94 (k_rop (fun r9 hr9 => ?_))
        refine g_icmp_ne hF 115 d_X4_agrees_97 (by decide) rfl rfl (fun c10_97 => ?_) (fun c10_97 => ?_)
        · -- taken at 97
          refine g_iconst hF (v := 0) d_X4_agrees_115 (by decide) ?_
          exact g_zret hF rfl (k_nz (Or.inl rfl)) d_X4_agrees_116 ⟨rfl, rfl, (0 : Int32), rfl, (Or.inl rfl), rfl⟩
        · -- not taken at 97
          refine g_iload_n hF d_X4_agrees_100 rfl 3 rfl ?_
          refine g_iload hF d_X4_agrees_101 2 rfl ?_
          refine g_icmp_eq hF 111 d_X4_agrees_103 (by decide) rfl rfl (fun c11_103 => ?_) (fun c11_103 => ?_)
          · -- taken at 103
            refine g_iconst hF (v := 1) d_X4_agrees_111 (by decide) ?_
            refine g_goto hF 116 d_X4_agrees_112 (by decide) ?_
            exact g_zret hF rfl (k_nz (Or.inr rfl)) d_X4_agrees_116 ⟨rfl, rfl, (1 : Int32), rfl, (Or.inr rfl), rfl⟩
          · -- not taken at 103
            refine g_iload hF d_X4_agrees_106 0 rfl ?_
            refine g_if_eq (xv := 0) hF 115 d_X4_agrees_108 (by decide) (by decide) (fun _ => ?_) (fun c_108 => absurd c_108 (by decide))
            refine g_iconst hF (v := 0) d_X4_agrees_115 (by decide) ?_
            exact g_zret hF rfl (k_nz (Or.inl rfl)) d_X4_agrees_116 ⟨rfl, rfl, (0 : Int32), rfl, (Or.inl rfl), rfl⟩
  · -- not taken at 38
    refine g_iload_n hF d_X4_agrees_41 rfl 2 rfl ?_
    refine g_if_ne hF 54 d_X4_agrees_42 (by decide) rfl (fun c12_42 => ?_) (fun c12_42 => ?_)
    · -- taken at 42
      refine g_iconst hF (v := 0) d_X4_agrees_54 (by decide) ?_
      refine g_istore hF [(6, .int 0), (5, .int r3), (4, .int r2), (3, .int r1), (0, .ref (r 10)), (1, .int a1), (2, .int a2)] d_X4_agrees_55 hnn (by decide) rfl ?_
      refine g_iload_n hF d_X4_agrees_57 rfl 6 rfl ?_
      refine g_if_lt hF 111 d_X4_agrees_58 (by decide) rfl (fun c13_58 => ?_) (fun c13_58 => ?_)
      · -- taken at 58
        refine g_iconst hF (v := 1) d_X4_agrees_111 (by decide) ?_
        refine g_goto hF 116 d_X4_agrees_112 (by decide) ?_
        exact g_zret hF rfl (k_nz (Or.inr rfl)) d_X4_agrees_116 ⟨rfl, rfl, (1 : Int32), rfl, (Or.inr rfl), rfl⟩
      · -- not taken at 58
        refine g_iload hF d_X4_agrees_61 1 rfl ?_
        refine g_aload_n hF d_X4_agrees_63 rfl 4 rfl ?_
        refine g_get (v := .ref (r 5)) hF 0 obC_10 (by decide) m_597 rfl d_X4_agrees_64 ?_
        refine g_iload_n hF d_X4_agrees_67 rfl 6 rfl ?_
        refine g_iconst hF (v := 1) d_X4_agrees_68 (by decide) ?_
        refine g_callVN (As := [.int a2, .int 1]) (rest := [.int r3]) hF (c_X8_is a g r σ0 a2 (1 : Int32) i0) (Nat.le_of_ble_eq_true rfl) mV_X8_is nm_1567 (recv_ob obC_5) rfl rfl (Nat.le_of_ble_eq_true rfl) d_X4_agrees_69 (k_roz (fun r14 hz14 => ?_))
        refine g_icmp_ne hF 115 d_X4_agrees_72 (by decide) rfl rfl (fun c15_72 => ?_) (fun c15_72 => ?_)
        · -- taken at 72
          refine g_iconst hF (v := 0) d_X4_agrees_115 (by decide) ?_
          exact g_zret hF rfl (k_nz (Or.inl rfl)) d_X4_agrees_116 ⟨rfl, rfl, (0 : Int32), rfl, (Or.inl rfl), rfl⟩
        · -- not taken at 72
          refine g_aload_n hF d_X4_agrees_75 rfl 4 rfl ?_
          refine g_get (v := .ref (r 5)) hF 0 obC_10 (by decide) m_597 rfl d_X4_agrees_76 ?_
          refine g_getN (v := .ref (r 26)) hF 3 obC_5 (by decide) nm_226 rfl d_X4_agrees_79 ?_
          refine g_iload_n hF d_X4_agrees_82 rfl 5 rfl ?_
          refine g_callSN (As := [.ref (r 26), .int a1]) (rest := []) hF (c_at a g r σ0 arC_26 (by decide) a1) (Nat.le_of_ble_eq_true rfl) mS_X12_at nm_1552 rfl rfl (Nat.le_of_ble_eq_true rfl) d_X4_agrees_83 (k_rop (fun r16 hr16 => ?_))
          refine g_aload_n hF d_X4_agrees_86 rfl 4 rfl ?_
          refine g_get (v := .ref (r 5)) hF 0 obC_10 (by decide) m_597 rfl d_X4_agrees_87 ?_
          refine g_getN (v := .ref (r 26)) hF 3 obC_5 (by decide) nm_226 rfl d_X4_agrees_90 ?_
          refine g_iload_n hF d_X4_agrees_93 rfl 6 rfl ?_
          refine g_callSN (As := [.ref (r 26), .int a2]) (rest := [.int r16]) hF (c_at a g r σ0 arC_26 (by decide) a2) (Nat.le_of_ble_eq_true rfl) mS_X12_at nm_1552 rfl rfl (Nat.le_of_ble_eq_true rfl) d_X4_agrees_94 (k_rop (fun r17 hr17 => ?_))
          refine g_icmp_ne hF 115 d_X4_agrees_97 (by decide) rfl rfl (fun c18_97 => ?_) (fun c18_97 => ?_)
          · -- taken at 97
            refine g_iconst hF (v := 0) d_X4_agrees_115 (by decide) ?_
            exact g_zret hF rfl (k_nz (Or.inl rfl)) d_X4_agrees_116 ⟨rfl, rfl, (0 : Int32), rfl, (Or.inl rfl), rfl⟩
          · -- not taken at 97
            refine g_iload_n hF d_X4_agrees_100 rfl 3 rfl ?_
            refine g_iload hF d_X4_agrees_101 2 rfl ?_
            refine g_icmp_eq hF 111 d_X4_agrees_103 (by decide) rfl rfl (fun c19_103 => ?_) (fun c19_103 => ?_)
            · -- taken at 103
              refine g_iconst hF (v := 1) d_X4_agrees_111 (by decide) ?_
              refine g_goto hF 116 d_X4_agrees_112 (by decide) ?_
              exact g_zret hF rfl (k_nz (Or.inr rfl)) d_X4_agrees_116 ⟨rfl, rfl, (1 : Int32), rfl, (Or.inr rfl), rfl⟩
            · -- not taken at 103
              refine g_iload hF d_X4_agrees_106 0 rfl ?_
              refine g_if_eq (xv := 0) hF 115 d_X4_agrees_108 (by decide) (by decide) (fun _ => ?_) (fun c_108 => absurd c_108 (by decide))
              refine g_iconst hF (v := 0) d_X4_agrees_115 (by decide) ?_
              exact g_zret hF rfl (k_nz (Or.inl rfl)) d_X4_agrees_116 ⟨rfl, rfl, (0 : Int32), rfl, (Or.inl rfl), rfl⟩
    · -- not taken at 42
      refine g_iload hF d_X4_agrees_45 1 rfl ?_
      refine g_if_le hF 54 d_X4_agrees_47 (by decide) rfl (fun c20_47 => ?_) (fun c20_47 => ?_)
      · -- taken at 47
        refine g_iconst hF (v := 0) d_X4_agrees_54 (by decide) ?_
        refine g_istore hF [(6, .int 0), (5, .int r3), (4, .int r2), (3, .int r1), (0, .ref (r 10)), (1, .int a1), (2, .int a2)] d_X4_agrees_55 hnn (by decide) rfl ?_
        refine g_iload_n hF d_X4_agrees_57 rfl 6 rfl ?_
        refine g_if_lt hF 111 d_X4_agrees_58 (by decide) rfl (fun c21_58 => ?_) (fun c21_58 => ?_)
        · -- taken at 58
          refine g_iconst hF (v := 1) d_X4_agrees_111 (by decide) ?_
          refine g_goto hF 116 d_X4_agrees_112 (by decide) ?_
          exact g_zret hF rfl (k_nz (Or.inr rfl)) d_X4_agrees_116 ⟨rfl, rfl, (1 : Int32), rfl, (Or.inr rfl), rfl⟩
        · -- not taken at 58
          refine g_iload hF d_X4_agrees_61 1 rfl ?_
          refine g_aload_n hF d_X4_agrees_63 rfl 4 rfl ?_
          refine g_get (v := .ref (r 5)) hF 0 obC_10 (by decide) m_597 rfl d_X4_agrees_64 ?_
          refine g_iload_n hF d_X4_agrees_67 rfl 6 rfl ?_
          refine g_iconst hF (v := 1) d_X4_agrees_68 (by decide) ?_
          refine g_callVN (As := [.int a2, .int 1]) (rest := [.int r3]) hF (c_X8_is a g r σ0 a2 (1 : Int32) i0) (Nat.le_of_ble_eq_true rfl) mV_X8_is nm_1567 (recv_ob obC_5) rfl rfl (Nat.le_of_ble_eq_true rfl) d_X4_agrees_69 (k_roz (fun r22 hz22 => ?_))
          refine g_icmp_ne hF 115 d_X4_agrees_72 (by decide) rfl rfl (fun c23_72 => ?_) (fun c23_72 => ?_)
          · -- taken at 72
            refine g_iconst hF (v := 0) d_X4_agrees_115 (by decide) ?_
            exact g_zret hF rfl (k_nz (Or.inl rfl)) d_X4_agrees_116 ⟨rfl, rfl, (0 : Int32), rfl, (Or.inl rfl), rfl⟩
          · -- not taken at 72
            refine g_aload_n hF d_X4_agrees_75 rfl 4 rfl ?_
            refine g_get (v := .ref (r 5)) hF 0 obC_10 (by decide) m_597 rfl d_X4_agrees_76 ?_
            refine g_getN (v := .ref (r 26)) hF 3 obC_5 (by decide) nm_226 rfl d_X4_agrees_79 ?_
            refine g_iload_n hF d_X4_agrees_82 rfl 5 rfl ?_
            refine g_callSN (As := [.ref (r 26), .int a1]) (rest := []) hF (c_at a g r σ0 arC_26 (by decide) a1) (Nat.le_of_ble_eq_true rfl) mS_X12_at nm_1552 rfl rfl (Nat.le_of_ble_eq_true rfl) d_X4_agrees_83 (k_rop (fun r24 hr24 => ?_))
            refine g_aload_n hF d_X4_agrees_86 rfl 4 rfl ?_
            refine g_get (v := .ref (r 5)) hF 0 obC_10 (by decide) m_597 rfl d_X4_agrees_87 ?_
            refine g_getN (v := .ref (r 26)) hF 3 obC_5 (by decide) nm_226 rfl d_X4_agrees_90 ?_
            refine g_iload_n hF d_X4_agrees_93 rfl 6 rfl ?_
            refine g_callSN (As := [.ref (r 26), .int a2]) (rest := [.int r24]) hF (c_at a g r σ0 arC_26 (by decide) a2) (Nat.le_of_ble_eq_true rfl) mS_X12_at nm_1552 rfl rfl (Nat.le_of_ble_eq_true rfl) d_X4_agrees_94 (k_rop (fun r25 hr25 => ?_))
            refine g_icmp_ne hF 115 d_X4_agrees_97 (by decide) rfl rfl (fun c26_97 => ?_) (fun c26_97 => ?_)
            · -- taken at 97
              refine g_iconst hF (v := 0) d_X4_agrees_115 (by decide) ?_
              exact g_zret hF rfl (k_nz (Or.inl rfl)) d_X4_agrees_116 ⟨rfl, rfl, (0 : Int32), rfl, (Or.inl rfl), rfl⟩
            · -- not taken at 97
              refine g_iload_n hF d_X4_agrees_100 rfl 3 rfl ?_
              refine g_iload hF d_X4_agrees_101 2 rfl ?_
              refine g_icmp_eq hF 111 d_X4_agrees_103 (by decide) rfl rfl (fun c27_103 => ?_) (fun c27_103 => ?_)
              · -- taken at 103
                refine g_iconst hF (v := 1) d_X4_agrees_111 (by decide) ?_
                refine g_goto hF 116 d_X4_agrees_112 (by decide) ?_
                exact g_zret hF rfl (k_nz (Or.inr rfl)) d_X4_agrees_116 ⟨rfl, rfl, (1 : Int32), rfl, (Or.inr rfl), rfl⟩
              · -- not taken at 103
                refine g_iload hF d_X4_agrees_106 0 rfl ?_
                refine g_if_eq (xv := 0) hF 115 d_X4_agrees_108 (by decide) (by decide) (fun _ => ?_) (fun c_108 => absurd c_108 (by decide))
                refine g_iconst hF (v := 0) d_X4_agrees_115 (by decide) ?_
                exact g_zret hF rfl (k_nz (Or.inl rfl)) d_X4_agrees_116 ⟨rfl, rfl, (0 : Int32), rfl, (Or.inl rfl), rfl⟩
      · -- not taken at 47
        refine g_iconst hF (v := 1) d_X4_agrees_50 (by decide) ?_
        refine g_goto hF 55 d_X4_agrees_51 (by decide) ?_
        refine g_istore hF [(6, .int 1), (5, .int r3), (4, .int r2), (3, .int r1), (0, .ref (r 10)), (1, .int a1), (2, .int a2)] d_X4_agrees_55 hnn (by decide) rfl ?_
        refine g_iload_n hF d_X4_agrees_57 rfl 6 rfl ?_
        refine g_if_lt hF 111 d_X4_agrees_58 (by decide) rfl (fun c28_58 => ?_) (fun c28_58 => ?_)
        · -- taken at 58
          refine g_iconst hF (v := 1) d_X4_agrees_111 (by decide) ?_
          refine g_goto hF 116 d_X4_agrees_112 (by decide) ?_
          exact g_zret hF rfl (k_nz (Or.inr rfl)) d_X4_agrees_116 ⟨rfl, rfl, (1 : Int32), rfl, (Or.inr rfl), rfl⟩
        · -- not taken at 58
          refine g_iload hF d_X4_agrees_61 1 rfl ?_
          refine g_aload_n hF d_X4_agrees_63 rfl 4 rfl ?_
          refine g_get (v := .ref (r 5)) hF 0 obC_10 (by decide) m_597 rfl d_X4_agrees_64 ?_
          refine g_iload_n hF d_X4_agrees_67 rfl 6 rfl ?_
          refine g_iconst hF (v := 1) d_X4_agrees_68 (by decide) ?_
          refine g_callVN (As := [.int a2, .int 1]) (rest := [.int r3]) hF (c_X8_is a g r σ0 a2 (1 : Int32) i0) (Nat.le_of_ble_eq_true rfl) mV_X8_is nm_1567 (recv_ob obC_5) rfl rfl (Nat.le_of_ble_eq_true rfl) d_X4_agrees_69 (k_roz (fun r29 hz29 => ?_))
          refine g_icmp_ne hF 115 d_X4_agrees_72 (by decide) rfl rfl (fun c30_72 => ?_) (fun c30_72 => ?_)
          · -- taken at 72
            refine g_iconst hF (v := 0) d_X4_agrees_115 (by decide) ?_
            exact g_zret hF rfl (k_nz (Or.inl rfl)) d_X4_agrees_116 ⟨rfl, rfl, (0 : Int32), rfl, (Or.inl rfl), rfl⟩
          · -- not taken at 72
            refine g_aload_n hF d_X4_agrees_75 rfl 4 rfl ?_
            refine g_get (v := .ref (r 5)) hF 0 obC_10 (by decide) m_597 rfl d_X4_agrees_76 ?_
            refine g_getN (v := .ref (r 26)) hF 3 obC_5 (by decide) nm_226 rfl d_X4_agrees_79 ?_
            refine g_iload_n hF d_X4_agrees_82 rfl 5 rfl ?_
            refine g_callSN (As := [.ref (r 26), .int a1]) (rest := []) hF (c_at a g r σ0 arC_26 (by decide) a1) (Nat.le_of_ble_eq_true rfl) mS_X12_at nm_1552 rfl rfl (Nat.le_of_ble_eq_true rfl) d_X4_agrees_83 (k_rop (fun r31 hr31 => ?_))
            refine g_aload_n hF d_X4_agrees_86 rfl 4 rfl ?_
            refine g_get (v := .ref (r 5)) hF 0 obC_10 (by decide) m_597 rfl d_X4_agrees_87 ?_
            refine g_getN (v := .ref (r 26)) hF 3 obC_5 (by decide) nm_226 rfl d_X4_agrees_90 ?_
            refine g_iload_n hF d_X4_agrees_93 rfl 6 rfl ?_
            refine g_callSN (As := [.ref (r 26), .int a2]) (rest := [.int r31]) hF (c_at a g r σ0 arC_26 (by decide) a2) (Nat.le_of_ble_eq_true rfl) mS_X12_at nm_1552 rfl rfl (Nat.le_of_ble_eq_true rfl) d_X4_agrees_94 (k_rop (fun r32 hr32 => ?_))
            refine g_icmp_ne hF 115 d_X4_agrees_97 (by decide) rfl rfl (fun c33_97 => ?_) (fun c33_97 => ?_)
            · -- taken at 97
              refine g_iconst hF (v := 0) d_X4_agrees_115 (by decide) ?_
              exact g_zret hF rfl (k_nz (Or.inl rfl)) d_X4_agrees_116 ⟨rfl, rfl, (0 : Int32), rfl, (Or.inl rfl), rfl⟩
            · -- not taken at 97
              refine g_iload_n hF d_X4_agrees_100 rfl 3 rfl ?_
              refine g_iload hF d_X4_agrees_101 2 rfl ?_
              refine g_icmp_eq hF 111 d_X4_agrees_103 (by decide) rfl rfl (fun c34_103 => ?_) (fun c34_103 => ?_)
              · -- taken at 103
                refine g_iconst hF (v := 1) d_X4_agrees_111 (by decide) ?_
                refine g_goto hF 116 d_X4_agrees_112 (by decide) ?_
                exact g_zret hF rfl (k_nz (Or.inr rfl)) d_X4_agrees_116 ⟨rfl, rfl, (1 : Int32), rfl, (Or.inr rfl), rfl⟩
              · -- not taken at 103
                refine g_iload hF d_X4_agrees_106 0 rfl ?_
                refine g_if_eq (xv := 1) hF 115 d_X4_agrees_108 (by decide) (by decide) (fun c_108 => absurd c_108 (by decide)) (fun _ => ?_)
                refine g_iconst hF (v := 1) d_X4_agrees_111 (by decide) ?_
                refine g_goto hF 116 d_X4_agrees_112 (by decide) ?_
                exact g_zret hF rfl (k_nz (Or.inr rfl)) d_X4_agrees_116 ⟨rfl, rfl, (1 : Int32), rfl, (Or.inr rfl), rfl⟩
set_option maxHeartbeats 4000000 in
set_option maxRecDepth 100000 in
theorem c_X4_isMain (a : Nat → Nat) (g : Nat → Nat → Int32) (r : Nat → Nat) (σ0 : St) (a1 : Int32) (i0 : Inv σ0) (l : Launch) (D : va_G) (cy : Nat → ClassId) : Ct l D cy SC r (EC a g) y_X4_isMain (Cond.code y_X4_isMain b_X4_isMain 2 (some .boolean)) 2 [.ref (r 10), .int a1] σ0 Z0 [] (QI (fun v9 σ9 => (v9 = 0 ∨ v9 = 1) ∧ σ9 = σ0)) QF := by
  refine Ct_of (EC_ok a g) (by decide) (Nat.le_of_ble_eq_true rfl) (by decide) (fun X hnn hF => ?_)
  show G SC r X σ0 Z0 [] [(0, .ref (r 10)), (1, .int a1)] [] 0
  refine g_iload_n hF d_X4_isMain_0 rfl 1 rfl ?_
  refine g_if_lt hF 48 d_X4_isMain_1 (by decide) rfl (fun c1_1 => ?_) (fun c1_1 => ?_)
  · -- taken at 1
    refine g_iconst hF (v := 0) d_X4_isMain_48 (by decide) ?_
    exact g_zret hF rfl (k_nz (Or.inl rfl)) d_X4_isMain_49 ⟨rfl, rfl, (0 : Int32), rfl, (Or.inl rfl), rfl⟩
  · -- not taken at 1
    refine g_aload_n hF d_X4_isMain_4 rfl 0 rfl ?_
    refine g_get (v := .ref (r 5)) hF 0 obC_10 (by decide) m_597 rfl d_X4_isMain_5 ?_
    refine g_iload_n hF d_X4_isMain_8 rfl 1 rfl ?_
    refine g_iconst hF (v := 1) d_X4_isMain_9 (by decide) ?_
    refine g_callVN (As := [.int a1, .int 1]) (rest := []) hF (c_X8_is a g r σ0 a1 (1 : Int32) i0) (Nat.le_of_ble_eq_true rfl) mV_X8_is nm_1567 (recv_ob obC_5) rfl rfl (Nat.le_of_ble_eq_true rfl) d_X4_isMain_10 (k_roz (fun r2 hz2 => ?_))
    refine g_if_eq hF 48 d_X4_isMain_13 (by decide) rfl (fun c3_13 => ?_) (fun c3_13 => ?_)
    · -- taken at 13
      refine g_iconst hF (v := 0) d_X4_isMain_48 (by decide) ?_
      exact g_zret hF rfl (k_nz (Or.inl rfl)) d_X4_isMain_49 ⟨rfl, rfl, (0 : Int32), rfl, (Or.inl rfl), rfl⟩
    · -- not taken at 13
      refine g_aload_n hF d_X4_isMain_16 rfl 0 rfl ?_
      refine g_get (v := .ref (r 5)) hF 0 obC_10 (by decide) m_597 rfl d_X4_isMain_17 ?_
      refine g_getN (v := .ref (r 26)) hF 3 obC_5 (by decide) nm_226 rfl d_X4_isMain_20 ?_
      refine g_iload_n hF d_X4_isMain_23 rfl 1 rfl ?_
      refine g_callSN (As := [.ref (r 26), .int a1]) (rest := []) hF (c_at a g r σ0 arC_26 (by decide) a1) (Nat.le_of_ble_eq_true rfl) mS_X12_at nm_1552 rfl rfl (Nat.le_of_ble_eq_true rfl) d_X4_isMain_24 (k_rop (fun r4 hr4 => ?_))
      refine g_if_ne hF 48 d_X4_isMain_27 (by decide) rfl (fun c5_27 => ?_) (fun c5_27 => ?_)
      · -- taken at 27
        refine g_iconst hF (v := 0) d_X4_isMain_48 (by decide) ?_
        exact g_zret hF rfl (k_nz (Or.inl rfl)) d_X4_isMain_49 ⟨rfl, rfl, (0 : Int32), rfl, (Or.inl rfl), rfl⟩
      · -- not taken at 27
        refine g_aload_n hF d_X4_isMain_30 rfl 0 rfl ?_
        refine g_get (v := .ref (r 5)) hF 0 obC_10 (by decide) m_597 rfl d_X4_isMain_31 ?_
        refine g_getN (v := .ref (r 27)) hF 4 obC_5 (by decide) nm_231 rfl d_X4_isMain_34 ?_
        refine g_iload_n hF d_X4_isMain_37 rfl 1 rfl ?_
        refine g_callSN (As := [.ref (r 27), .int a1]) (rest := []) hF (c_at a g r σ0 arC_27 (by decide) a1) (Nat.le_of_ble_eq_true rfl) mS_X12_at nm_1552 rfl rfl (Nat.le_of_ble_eq_true rfl) d_X4_isMain_38 (k_rop (fun r6 hr6 => ?_))
        refine g_if_ne hF 48 d_X4_isMain_41 (by decide) rfl (fun c7_41 => ?_) (fun c7_41 => ?_)
        · -- taken at 41
          refine g_iconst hF (v := 0) d_X4_isMain_48 (by decide) ?_
          exact g_zret hF rfl (k_nz (Or.inl rfl)) d_X4_isMain_49 ⟨rfl, rfl, (0 : Int32), rfl, (Or.inl rfl), rfl⟩
        · -- not taken at 41
          refine g_iconst hF (v := 1) d_X4_isMain_44 (by decide) ?_
          refine g_goto hF 49 d_X4_isMain_45 (by decide) ?_
          exact g_zret hF rfl (k_nz (Or.inr rfl)) d_X4_isMain_49 ⟨rfl, rfl, (1 : Int32), rfl, (Or.inr rfl), rfl⟩
set_option maxHeartbeats 4000000 in
set_option maxRecDepth 100000 in
theorem c_X4_dataCells (a : Nat → Nat) (g : Nat → Nat → Int32) (r : Nat → Nat) (σ0 : St) (i0 : Inv σ0) (l : Launch) (D : va_G) (cy : Nat → ClassId) : Ct l D cy SC r (EC a g) y_X4_dataCells (Cond.code y_X4_dataCells b_X4_dataCells 3 (some .int)) 1 [.ref (r 10)] σ0 Z0 [] (QI (fun _ σ9 => σ9 = σ0)) QF := by
  refine Ct_of (EC_ok a g) (by decide) (Nat.le_of_ble_eq_true rfl) (by decide) (fun X hnn hF => ?_)
  show G SC r X σ0 Z0 [] [(0, .ref (r 10))] [] 0
  have b4 : ∀ (N : Nat) (x1 : Int32) (x2 : Int32) , upm x2 = N → G SC r X σ0 Z0 [] [(0, .ref (r 10)), (1, .int x1), (2, .int x2)] [] 4 := by
    intro M4
    induction M4 using Nat.strongRecOn with
    | _ M4 ih4 =>
      intro x1 x2 N4
      refine g_iload_n hF d_X4_dataCells_4 rfl 2 rfl ?_
      refine g_aload_n hF d_X4_dataCells_5 rfl 0 rfl ?_
      refine g_get (v := .int (σ0 10 5)) hF 5 obC_10 (by decide) m_605 rfl d_X4_dataCells_6 ?_
      refine g_icmp_ge hF 39 d_X4_dataCells_9 (by decide) rfl rfl (fun c1_9 => ?_) (fun c1_9 => ?_)
      · -- taken at 9
        refine g_iload_n hF d_X4_dataCells_39 rfl 1 rfl ?_
        exact g_iret hF rfl d_X4_dataCells_40 ⟨rfl, rfl, x1, rfl, rfl⟩
      · -- not taken at 9
        refine g_iload_n hF d_X4_dataCells_12 rfl 1 rfl ?_
        refine g_aload_n hF d_X4_dataCells_13 rfl 0 rfl ?_
        refine g_get (v := .ref (r 5)) hF 0 obC_10 (by decide) m_597 rfl d_X4_dataCells_14 ?_
        refine g_getN (v := .ref (r 37)) hF 17 obC_5 (by decide) nm_258 rfl d_X4_dataCells_17 ?_
        refine g_aload_n hF d_X4_dataCells_20 rfl 0 rfl ?_
        refine g_get (v := .ref (r 56)) hF 6 obC_10 (by decide) m_606 rfl d_X4_dataCells_21 ?_
        refine g_iload_n hF d_X4_dataCells_24 rfl 2 rfl ?_
        refine g_callSN (As := [.ref (r 56), .int x2]) (rest := [.ref (r 37), .int x1]) hF (c_at a g r σ0 arC_56 (by decide) x2) (Nat.le_of_ble_eq_true rfl) mS_X12_at nm_1552 rfl rfl (Nat.le_of_ble_eq_true rfl) d_X4_dataCells_25 (k_rop (fun r2 hr2 => ?_))
        refine g_callSN (As := [.ref (r 37), .int r2]) (rest := [.int x1]) hF (c_at a g r σ0 arC_37 (by decide) r2) (Nat.le_of_ble_eq_true rfl) mS_X12_at nm_1552 rfl rfl (Nat.le_of_ble_eq_true rfl) d_X4_dataCells_28 (k_rop (fun r3 hr3 => ?_))
        refine g_iadd hF d_X4_dataCells_31 ?_
        refine g_istore_n hF [(1, .int (x1 + r3)), (0, .ref (r 10)), (2, .int x2)] d_X4_dataCells_32 rfl hnn (by decide) rfl ?_
        refine g_iinc hF (x2 + 1) [(2, .int (x2 + 1)), (1, .int (x1 + r3)), (0, .ref (r 10))] d_X4_dataCells_33 2 rfl rfl hnn (by decide) rfl ?_
        refine g_goto hF 4 d_X4_dataCells_36 (by decide) ?_
        exact g_sub (L' := [(0, .ref (r 10)), (1, .int (x1 + r3)), (2, .int (x2 + 1))]) [2, 1, 0] rfl (ih4 _ (N4 ▸ upm_lt c1_9 (s_rng (σ0 10 5)).2) (x1 + r3) (x2 + 1) rfl)
  refine g_iconst hF (v := 0) d_X4_dataCells_0 (by decide) ?_
  refine g_istore_n hF [(1, .int 0), (0, .ref (r 10))] d_X4_dataCells_1 rfl hnn (by decide) rfl ?_
  refine g_iconst hF (v := 1) d_X4_dataCells_2 (by decide) ?_
  refine g_istore_n hF [(2, .int 1), (1, .int 0), (0, .ref (r 10))] d_X4_dataCells_3 rfl hnn (by decide) rfl ?_
  exact g_sub (L' := [(0, .ref (r 10)), (1, .int 0), (2, .int 1)]) [2, 1, 0] rfl (b4 _ (0 : Int32) (1 : Int32) rfl)
set_option maxHeartbeats 4000000 in
set_option maxRecDepth 100000 in
theorem c_X12_fault (a : Nat → Nat) (g : Nat → Nat → Int32) (r : Nat → Nat) (σ0 : St) (a1 : Int32) (i0 : Inv σ0) (l : Launch) (D : va_G) (cy : Nat → ClassId) : Ct l D cy SC r (EC a g) y_X12_fault (Cond.code y_X12_fault b_X12_fault 2 (some .int)) 0 [.ref (r 0), .int a1] σ0 Z0 [] (QI (fun _ σ9 => σ9 = σ0)) QF := by
  refine Ct_of (EC_ok a g) (by decide) (Nat.le_of_ble_eq_true rfl) (by decide) (fun X hnn hF => ?_)
  show G SC r X σ0 Z0 [] [(0, .ref (r 0)), (1, .int a1)] [] 0
  refine g_iload_n hF d_X12_fault_0 rfl 1 rfl ?_
  refine g_if_ne hF 14 d_X12_fault_1 (by decide) rfl (fun c1_1 => ?_) (fun c1_1 => ?_)
  · -- taken at 1
    refine g_iload_n hF d_X12_fault_14 rfl 1 rfl ?_
    refine g_iconst hF (v := 1) d_X12_fault_15 (by decide) ?_
    refine g_icmp_ne (yv := 1) hF 29 d_X12_fault_16 (by decide) rfl (by decide) (fun c2_16 => ?_) (fun c2_16 => ?_)
    · -- taken at 16
      refine g_iconst hF (v := (-1)) d_X12_fault_29 (by decide) ?_
      exact g_iret hF rfl d_X12_fault_30 ⟨rfl, rfl, ((-1) : Int32), rfl, rfl⟩
    · -- not taken at 16
      refine g_aload_n hF d_X12_fault_19 rfl 0 rfl ?_
      refine g_get (v := .ref (r 10)) hF 12 obC_0 (by decide) m_747 rfl d_X12_fault_20 ?_
      refine g_getN (v := .int (σ0 10 4)) hF 4 obC_10 (by decide) nm_604 rfl d_X12_fault_23 ?_
      refine g_goto hF 30 d_X12_fault_26 (by decide) ?_
      exact g_iret hF rfl d_X12_fault_30 ⟨rfl, rfl, (σ0 10 4), rfl, rfl⟩
  · -- not taken at 1
    refine g_aload_n hF d_X12_fault_4 rfl 0 rfl ?_
    refine g_get (v := .ref (r 10)) hF 12 obC_0 (by decide) m_747 rfl d_X12_fault_5 ?_
    refine g_getN (v := .int (σ0 10 3)) hF 3 obC_10 (by decide) nm_602 rfl d_X12_fault_8 ?_
    refine g_goto hF 30 d_X12_fault_11 (by decide) ?_
    exact g_iret hF rfl d_X12_fault_30 ⟨rfl, rfl, (σ0 10 3), rfl, rfl⟩
set_option maxHeartbeats 4000000 in
set_option maxRecDepth 100000 in
theorem c_X9_give (a : Nat → Nat) (g : Nat → Nat → Int32) (r : Nat → Nat) (σ0 : St) (a1 : Int32) (i0 : Inv σ0) (l : Launch) (D : va_G) (cy : Nat → ClassId) : Ct l D cy SC r (EC a g) y_X9_give (Cond.code y_X9_give b_X9_give 2 (some .int)) 0 [.ref (r 11), .int a1] σ0 Z0 [] (QI (fun _ σ9 => (Inv σ9 ∧ Keep [(11, 0)] [60] σ0 σ9))) QF := by
  refine Ct_of (EC_ok a g) (by decide) (Nat.le_of_ble_eq_true rfl) (by decide) (fun X hnn hF => ?_)
  show G SC r X σ0 Z0 [] [(0, .ref (r 11)), (1, .int a1)] [] 0
  have kp : Keep [(11, 0)] [60] σ0 σ0 := keep_rf
  refine g_aload_n hF d_X9_give_0 rfl 0 rfl ?_
  refine g_get (v := .int (σ0 11 0)) hF 0 obC_11 (by decide) m_646 rfl d_X9_give_1 ?_
  refine g_sipush hF (v := 4096) d_X9_give_4 (by decide) ?_
  refine g_icmp_ge (yv := 4096) hF 22 d_X9_give_7 (by decide) rfl (by decide) (fun c1_7 => ?_) (fun c1_7 => ?_)
  · -- taken at 7
    refine g_iconst hF (v := (-1)) d_X9_give_22 (by decide) ?_
    exact g_iret hF rfl d_X9_give_23 ⟨rfl, rfl, ((-1) : Int32), rfl, ⟨i0, kp⟩⟩
  · -- not taken at 7
    refine g_aload_n hF d_X9_give_10 rfl 0 rfl ?_
    refine g_get (v := .int (σ0 11 0)) hF 0 obC_11 (by decide) m_646 rfl d_X9_give_11 ?_
    refine g_aload_n hF d_X9_give_14 rfl 0 rfl ?_
    refine g_get (v := .ref (r 60)) hF 3 obC_11 (by decide) m_650 rfl d_X9_give_15 ?_
    refine g_alen hF arC_60 (fun _ => ⟨0, _, rfl⟩) (v := 4096) (by decide) d_X9_give_18 ?_
    refine g_icmp_lt (yv := 4096) hF 24 d_X9_give_19 (by decide) rfl (by decide) (fun c2_19 => ?_) (fun c2_19 => ?_)
    · -- taken at 19
      refine g_aload_n hF d_X9_give_24 rfl 0 rfl ?_
      refine g_get (v := .ref (r 60)) hF 3 obC_11 (by decide) m_650 rfl d_X9_give_25 ?_
      refine g_aload_n hF d_X9_give_28 rfl 0 rfl ?_
      refine g_get (v := .int (σ0 11 0)) hF 0 obC_11 (by decide) m_646 rfl d_X9_give_29 ?_
      refine g_iload_n hF d_X9_give_32 rfl 1 rfl ?_
      refine g_i2b hF d_X9_give_33 ?_
      refine g_any (fun v3 => ?_)
      refine g_bast hF arC_60 (by refine s_in (by decide) ?_ ?_ <;> (have e0 := s_rng (σ0 11 0); have e1 := i0.2.2.2.2.2.2.2.2.2.1; have e2 : (4096 : Int32).toInt = 4096 := (by decide); omega)) d_X9_give_34 ?_
      have kp : Keep [(11, 0)] [60] σ0 (upC σ0 60 ((σ0 11 0)).toNatClampNeg (vp_nar .byte v3)) := keep_a kp (by decide)
      refine g_aload_n hF d_X9_give_35 rfl 0 rfl ?_
      refine g_dup hF d_X9_give_36 rfl ?_
      refine g_get (v := .int (σ0 11 0)) hF 0 obC_11 (by decide) m_646 rfl d_X9_give_37 ?_
      refine g_iconst hF (v := 1) d_X9_give_40 (by decide) ?_
      refine g_iadd hF d_X9_give_41 ?_
      refine g_put (v := ((σ0 11 0) + 1)) hF 0 obC_11 (by decide) m_646 rfl rfl rfl d_X9_give_42 ?_
      have kp : Keep [(11, 0)] [60] σ0 (upC (upC σ0 60 ((σ0 11 0)).toNatClampNeg (vp_nar .byte v3)) 11 0 ((σ0 11 0) + 1)) := keep_f kp (by decide)
      have p4 : 0 ≤ ((σ0 11 0) + 1).toInt ∧ ((σ0 11 0) + 1).toInt ≤ 4096 := (by have e0 := s_rng (σ0 11 0); have e1 := i0.2.2.2.2.2.2.2.2.2.1; have e2 : (1 : Int32).toInt = 1 := (by decide); obtain ⟨k3, e3⟩ := s_add (σ0 11 0) (1 : Int32); have e3a := s_rng ((σ0 11 0) + 1); have e5 : (4096 : Int32).toInt = 4096 := (by decide); omega)
      refine g_aload_n hF d_X9_give_45 rfl 0 rfl ?_
      refine g_get (v := .int ((σ0 11 0) + 1)) hF 0 obC_11 (by decide) m_646 rfl d_X9_give_46 ?_
      have j5 : Inv (upC (upC σ0 60 ((σ0 11 0)).toNatClampNeg (vp_nar .byte v3)) 11 0 ((σ0 11 0) + 1)) := ⟨i0.1, i0.2.1, i0.2.2.1, i0.2.2.2.1, i0.2.2.2.2.1, i0.2.2.2.2.2.1, i0.2.2.2.2.2.2.1, i0.2.2.2.2.2.2.2.1, i0.2.2.2.2.2.2.2.2.1, p4, i0.2.2.2.2.2.2.2.2.2.2.1, i0.2.2.2.2.2.2.2.2.2.2.2.1, i0.2.2.2.2.2.2.2.2.2.2.2.2.1, i0.2.2.2.2.2.2.2.2.2.2.2.2.2.1, i0.2.2.2.2.2.2.2.2.2.2.2.2.2.2.1, i0.2.2.2.2.2.2.2.2.2.2.2.2.2.2.2.1, i0.2.2.2.2.2.2.2.2.2.2.2.2.2.2.2.2.1, i0.2.2.2.2.2.2.2.2.2.2.2.2.2.2.2.2.2.1, i0.2.2.2.2.2.2.2.2.2.2.2.2.2.2.2.2.2.2.1, i0.2.2.2.2.2.2.2.2.2.2.2.2.2.2.2.2.2.2.2⟩
      exact g_iret hF rfl d_X9_give_49 ⟨rfl, rfl, ((σ0 11 0) + 1), rfl, ⟨j5, kp⟩⟩
    · -- not taken at 19
      refine g_iconst hF (v := (-1)) d_X9_give_22 (by decide) ?_
      exact g_iret hF rfl d_X9_give_23 ⟨rfl, rfl, ((-1) : Int32), rfl, ⟨i0, kp⟩⟩
set_option maxHeartbeats 4000000 in
set_option maxRecDepth 100000 in
theorem c_X9_begin (a : Nat → Nat) (g : Nat → Nat → Int32) (r : Nat → Nat) (σ0 : St) (i0 : Inv σ0) (l : Launch) (D : va_G) (cy : Nat → ClassId) : Ct l D cy SC r (EC a g) y_X9_begin (Cond.code y_X9_begin b_X9_begin 1 none) 0 [.ref (r 11)] σ0 Z0 [] (QV (fun σ9 => (Inv σ9 ∧ Keep [(11, 1), (11, 2)] [] σ0 σ9))) QF := by
  refine Ct_of (EC_ok a g) (by decide) (Nat.le_of_ble_eq_true rfl) (by decide) (fun X hnn hF => ?_)
  show G SC r X σ0 Z0 [] [(0, .ref (r 11))] [] 0
  have kp : Keep [(11, 1), (11, 2)] [] σ0 σ0 := keep_rf
  refine g_aload_n hF d_X9_begin_0 rfl 0 rfl ?_
  refine g_iconst hF (v := 0) d_X9_begin_1 (by decide) ?_
  refine g_put (v := 0) hF 1 obC_11 (by decide) m_647 rfl rfl rfl d_X9_begin_2 ?_
  have kp : Keep [(11, 1), (11, 2)] [] σ0 (upC σ0 11 1 0) := keep_f kp (by decide)
  have p1 : 0 ≤ (0 : Int32).toInt ∧ (0 : Int32).toInt ≤ 4096 := (by have e0 : (0 : Int32).toInt = 0 := (by decide); omega)
  refine g_aload_n hF d_X9_begin_5 rfl 0 rfl ?_
  refine g_iconst hF (v := 0) d_X9_begin_6 (by decide) ?_
  refine g_put (v := 0) hF 2 obC_11 (by decide) m_648 rfl rfl rfl d_X9_begin_7 ?_
  have kp : Keep [(11, 1), (11, 2)] [] σ0 (upC (upC σ0 11 1 0) 11 2 0) := keep_f kp (by decide)
  have p2 : 0 ≤ (0 : Int32).toInt ∧ (0 : Int32).toInt ≤ 4096 := (by have e0 : (0 : Int32).toInt = 0 := (by decide); omega)
  have j3 : Inv (upC (upC σ0 11 1 0) 11 2 0) := ⟨i0.1, i0.2.1, i0.2.2.1, i0.2.2.2.1, i0.2.2.2.2.1, i0.2.2.2.2.2.1, i0.2.2.2.2.2.2.1, i0.2.2.2.2.2.2.2.1, i0.2.2.2.2.2.2.2.2.1, i0.2.2.2.2.2.2.2.2.2.1, p1, p2, i0.2.2.2.2.2.2.2.2.2.2.2.2.1, i0.2.2.2.2.2.2.2.2.2.2.2.2.2.1, i0.2.2.2.2.2.2.2.2.2.2.2.2.2.2.1, i0.2.2.2.2.2.2.2.2.2.2.2.2.2.2.2.1, i0.2.2.2.2.2.2.2.2.2.2.2.2.2.2.2.2.1, i0.2.2.2.2.2.2.2.2.2.2.2.2.2.2.2.2.2.1, i0.2.2.2.2.2.2.2.2.2.2.2.2.2.2.2.2.2.2.1, i0.2.2.2.2.2.2.2.2.2.2.2.2.2.2.2.2.2.2.2⟩
  exact g_vret hF rfl d_X9_begin_10 ⟨rfl, rfl, rfl, ⟨j3, kp⟩⟩
set_option maxHeartbeats 4000000 in
set_option maxRecDepth 100000 in
theorem c_X5_fail (a : Nat → Nat) (g : Nat → Nat → Int32) (r : Nat → Nat) (σ0 : St) (a1 : Int32) (a2 : Int32) (i0 : Inv σ0) (l : Launch) (D : va_G) (cy : Nat → ClassId) : Ct l D cy SC r (EC a g) y_X5_fail (Cond.code y_X5_fail b_X5_fail 3 none) 0 [.ref (r 12), .int a1, .int a2] σ0 Z0 [] (QV (fun σ9 => (Inv σ9 ∧ Keep [(12, 13), (12, 16), (12, 17)] [] σ0 σ9))) QF := by
  refine Ct_of (EC_ok a g) (by decide) (Nat.le_of_ble_eq_true rfl) (by decide) (fun X hnn hF => ?_)
  show G SC r X σ0 Z0 [] [(0, .ref (r 12)), (1, .int a1), (2, .int a2)] [] 0
  have kp : Keep [(12, 13), (12, 16), (12, 17)] [] σ0 σ0 := keep_rf
  refine g_aload_n hF d_X5_fail_0 rfl 0 rfl ?_
  refine g_iload_n hF d_X5_fail_1 rfl 1 rfl ?_
  refine g_put (v := a1) hF 13 obC_12 (by decide) m_685 rfl rfl rfl d_X5_fail_2 ?_
  have kp : Keep [(12, 13), (12, 16), (12, 17)] [] σ0 (upC σ0 12 13 a1) := keep_f kp (by decide)
  refine g_aload_n hF d_X5_fail_5 rfl 0 rfl ?_
  refine g_aload_n hF d_X5_fail_6 rfl 0 rfl ?_
  refine g_get (v := .int (σ0 12 8)) hF 8 obC_12 (by decide) m_680 rfl d_X5_fail_7 ?_
  refine g_iconst hF (v := 1) d_X5_fail_10 (by decide) ?_
  refine g_isub hF d_X5_fail_11 ?_
  refine g_put (v := ((σ0 12 8) - 1)) hF 16 obC_12 (by decide) m_690 rfl rfl rfl d_X5_fail_12 ?_
  have kp : Keep [(12, 13), (12, 16), (12, 17)] [] σ0 (upC (upC σ0 12 13 a1) 12 16 ((σ0 12 8) - 1)) := keep_f kp (by decide)
  refine g_aload_n hF d_X5_fail_15 rfl 0 rfl ?_
  refine g_iload_n hF d_X5_fail_16 rfl 2 rfl ?_
  refine g_put (v := a2) hF 17 obC_12 (by decide) m_692 rfl rfl rfl d_X5_fail_17 ?_
  have kp : Keep [(12, 13), (12, 16), (12, 17)] [] σ0 (upC (upC (upC σ0 12 13 a1) 12 16 ((σ0 12 8) - 1)) 12 17 a2) := keep_f kp (by decide)
  have j1 : Inv (upC (upC (upC σ0 12 13 a1) 12 16 ((σ0 12 8) - 1)) 12 17 a2) := ⟨i0.1, i0.2.1, i0.2.2.1, i0.2.2.2.1, i0.2.2.2.2.1, i0.2.2.2.2.2.1, i0.2.2.2.2.2.2.1, i0.2.2.2.2.2.2.2.1, i0.2.2.2.2.2.2.2.2.1, i0.2.2.2.2.2.2.2.2.2.1, i0.2.2.2.2.2.2.2.2.2.2.1, i0.2.2.2.2.2.2.2.2.2.2.2.1, i0.2.2.2.2.2.2.2.2.2.2.2.2.1, i0.2.2.2.2.2.2.2.2.2.2.2.2.2.1, i0.2.2.2.2.2.2.2.2.2.2.2.2.2.2.1, i0.2.2.2.2.2.2.2.2.2.2.2.2.2.2.2.1, i0.2.2.2.2.2.2.2.2.2.2.2.2.2.2.2.2.1, i0.2.2.2.2.2.2.2.2.2.2.2.2.2.2.2.2.2.1, i0.2.2.2.2.2.2.2.2.2.2.2.2.2.2.2.2.2.2.1, i0.2.2.2.2.2.2.2.2.2.2.2.2.2.2.2.2.2.2.2⟩
  exact g_vret hF rfl d_X5_fail_20 ⟨rfl, rfl, rfl, ⟨j1, kp⟩⟩
set_option maxHeartbeats 4000000 in
set_option maxRecDepth 100000 in
theorem c_X5_copyParameters (a : Nat → Nat) (g : Nat → Nat → Int32) (r : Nat → Nat) (σ0 : St) (a1 : Int32) (a2 : Int32) (i0 : Inv σ0) (l : Launch) (D : va_G) (cy : Nat → ClassId) : Ct l D cy SC r (EC a g) y_X5_copyParameters (Cond.code y_X5_copyParameters b_X5_copyParameters 5 none) 1 [.ref (r 12), .int a1, .int a2] σ0 Z0 [] (QV (fun σ9 => (Inv σ9 ∧ Keep [] [62] σ0 σ9))) QF := by
  refine Ct_of (EC_ok a g) (by decide) (Nat.le_of_ble_eq_true rfl) (by decide) (fun X hnn hF => ?_)
  show G SC r X σ0 Z0 [] [(0, .ref (r 12)), (1, .int a1), (2, .int a2)] [] 0
  have b8 : ∀ (N : Nat) (σ : St) (x1 : Int32) (x2 : Int32) (x3 : Int32) (x4 : Int32) , upm x4 = N → Inv σ → Keep [] [62] σ0 σ → G SC r X σ Z0 [] [(0, .ref (r 12)), (1, .int x1), (2, .int x2), (3, .int x3), (4, .int x4)] [] 8 := by
    intro M8
    induction M8 using Nat.strongRecOn with
    | _ M8 ih8 =>
      intro σ x1 x2 x3 x4 N8 inv kp
      refine g_iload hF d_X5_copyParameters_8 4 rfl ?_
      refine g_iload_n hF d_X5_copyParameters_10 rfl 1 rfl ?_
      refine g_icmp_ge hF 54 d_X5_copyParameters_11 (by decide) rfl rfl (fun c1_11 => ?_) (fun c1_11 => ?_)
      · -- taken at 11
        exact g_vret hF rfl d_X5_copyParameters_54 ⟨rfl, rfl, rfl, ⟨inv, kp⟩⟩
      · -- not taken at 11
        refine g_iload_n hF d_X5_copyParameters_14 rfl 2 rfl ?_
        refine g_iload hF d_X5_copyParameters_15 4 rfl ?_
        refine g_ishr hF d_X5_copyParameters_17 ?_
        refine g_any (fun v2 => ?_)
        refine g_iconst hF (v := 1) d_X5_copyParameters_18 (by decide) ?_
        refine g_iand hF d_X5_copyParameters_19 ?_
        refine g_any (fun v3 => ?_)
        refine g_if_eq hF 48 d_X5_copyParameters_20 (by decide) rfl (fun c4_20 => ?_) (fun c4_20 => ?_)
        · -- taken at 20
          refine g_iinc hF (x4 + 1) [(4, .int (x4 + 1)), (0, .ref (r 12)), (1, .int x1), (2, .int x2), (3, .int x3)] d_X5_copyParameters_48 4 rfl rfl hnn (by decide) rfl ?_
          refine g_goto hF 8 d_X5_copyParameters_51 (by decide) ?_
          exact g_sub (L' := [(0, .ref (r 12)), (1, .int x1), (2, .int x2), (3, .int x3), (4, .int (x4 + 1))]) [1, 2, 3, 4, 0] rfl (ih8 _ (N8 ▸ upm_lt c1_11 (s_rng x1).2) σ x1 x2 x3 (x4 + 1) rfl inv kp)
        · -- not taken at 20
          refine g_aload_n hF d_X5_copyParameters_23 rfl 0 rfl ?_
          refine g_get (v := .ref (r 62)) hF 4 obC_12 (by decide) m_675 rfl d_X5_copyParameters_24 ?_
          refine g_iload_n hF d_X5_copyParameters_27 rfl 3 rfl ?_
          refine g_aload_n hF d_X5_copyParameters_28 rfl 0 rfl ?_
          refine g_get (v := .ref (r 63)) hF 5 obC_12 (by decide) m_677 rfl d_X5_copyParameters_29 ?_
          refine g_aload_n hF d_X5_copyParameters_32 rfl 0 rfl ?_
          refine g_get (v := .int (σ 12 10)) hF 10 obC_12 (by decide) m_682 rfl d_X5_copyParameters_33 ?_
          refine g_iload hF d_X5_copyParameters_36 4 rfl ?_
          refine g_iadd hF d_X5_copyParameters_38 ?_
          refine g_callSN (As := [.ref (r 63), .int ((σ 12 10) + x4)]) (rest := [.int x3, .ref (r 62)]) hF (c_at a g r σ arC_63 (by decide) ((σ 12 10) + x4)) (Nat.le_of_ble_eq_true rfl) mS_X12_at nm_1660 rfl rfl (Nat.le_of_ble_eq_true rfl) d_X5_copyParameters_39 (k_rop (fun r5 hr5 => ?_))
          refine g_callSN (As := [.ref (r 62), .int x3, .int r5]) (rest := []) hF (c_set a g r σ arC_62 (by decide) x3 r5) (Nat.le_of_ble_eq_true rfl) mS_X12_set nm_1661 rfl rfl (Nat.le_of_ble_eq_true rfl) d_X5_copyParameters_42 (k_v (fun σ6 ⟨g6, eσ6, hg6⟩ => ?_))
          subst eσ6
          have kp : Keep [] [62] σ0 (upF σ 62 g6) := keep_F kp (by decide)
          refine g_iinc hF (x3 + 1) [(3, .int (x3 + 1)), (0, .ref (r 12)), (1, .int x1), (2, .int x2), (4, .int x4)] d_X5_copyParameters_45 3 rfl rfl hnn (by decide) rfl ?_
          refine g_iinc hF (x4 + 1) [(4, .int (x4 + 1)), (3, .int (x3 + 1)), (0, .ref (r 12)), (1, .int x1), (2, .int x2)] d_X5_copyParameters_48 4 rfl rfl hnn (by decide) rfl ?_
          refine g_goto hF 8 d_X5_copyParameters_51 (by decide) ?_
          have j7 : Inv (upF σ 62 g6) := ⟨inv.1, inv.2.1, inv.2.2.1, inv.2.2.2.1, inv.2.2.2.2.1, inv.2.2.2.2.2.1, inv.2.2.2.2.2.2.1, inv.2.2.2.2.2.2.2.1, inv.2.2.2.2.2.2.2.2.1, inv.2.2.2.2.2.2.2.2.2.1, inv.2.2.2.2.2.2.2.2.2.2.1, inv.2.2.2.2.2.2.2.2.2.2.2.1, inv.2.2.2.2.2.2.2.2.2.2.2.2.1, inv.2.2.2.2.2.2.2.2.2.2.2.2.2.1, inv.2.2.2.2.2.2.2.2.2.2.2.2.2.2.1, inv.2.2.2.2.2.2.2.2.2.2.2.2.2.2.2.1, inv.2.2.2.2.2.2.2.2.2.2.2.2.2.2.2.2.1, inv.2.2.2.2.2.2.2.2.2.2.2.2.2.2.2.2.2.1, inv.2.2.2.2.2.2.2.2.2.2.2.2.2.2.2.2.2.2.1, inv.2.2.2.2.2.2.2.2.2.2.2.2.2.2.2.2.2.2.2⟩
          exact g_sub (L' := [(0, .ref (r 12)), (1, .int x1), (2, .int x2), (3, .int (x3 + 1)), (4, .int (x4 + 1))]) [2, 3, 4, 1, 0] rfl (ih8 _ (N8 ▸ upm_lt c1_11 (s_rng x1).2) (upF σ 62 g6) x1 x2 (x3 + 1) (x4 + 1) rfl j7 kp)
  have kp : Keep [] [62] σ0 σ0 := keep_rf
  refine g_aload_n hF d_X5_copyParameters_0 rfl 0 rfl ?_
  refine g_get (v := .int (σ0 12 11)) hF 11 obC_12 (by decide) m_683 rfl d_X5_copyParameters_1 ?_
  refine g_istore_n hF [(3, .int (σ0 12 11)), (0, .ref (r 12)), (1, .int a1), (2, .int a2)] d_X5_copyParameters_4 rfl hnn (by decide) rfl ?_
  refine g_iconst hF (v := 0) d_X5_copyParameters_5 (by decide) ?_
  refine g_istore hF [(4, .int 0), (3, .int (σ0 12 11)), (0, .ref (r 12)), (1, .int a1), (2, .int a2)] d_X5_copyParameters_6 hnn (by decide) rfl ?_
  exact g_sub (L' := [(0, .ref (r 12)), (1, .int a1), (2, .int a2), (3, .int (σ0 12 11)), (4, .int 0)]) [2, 3, 4, 1, 0] rfl (b8 _ σ0 a1 a2 (σ0 12 11) (0 : Int32) rfl i0 kp)
set_option maxHeartbeats 4000000 in
set_option maxRecDepth 100000 in
theorem c_X5_stray (a : Nat → Nat) (g : Nat → Nat → Int32) (r : Nat → Nat) (σ0 : St) (i0 : Inv σ0) (l : Launch) (D : va_G) (cy : Nat → ClassId) : Ct l D cy SC r (EC a g) y_X5_stray (Cond.code y_X5_stray b_X5_stray 1 none) 0 [.ref (r 12)] σ0 Z0 [] (QV (fun σ9 => (Inv σ9 ∧ Keep [(12, 13), (12, 18)] [] σ0 σ9))) QF := by
  refine Ct_of (EC_ok a g) (by decide) (Nat.le_of_ble_eq_true rfl) (by decide) (fun X hnn hF => ?_)
  show G SC r X σ0 Z0 [] [(0, .ref (r 12))] [] 0
  have kp : Keep [(12, 13), (12, 18)] [] σ0 σ0 := keep_rf
  refine g_aload_n hF d_X5_stray_0 rfl 0 rfl ?_
  refine g_dup hF d_X5_stray_1 rfl ?_
  refine g_get (v := .int (σ0 12 18)) hF 18 obC_12 (by decide) m_694 rfl d_X5_stray_2 ?_
  refine g_iconst hF (v := 1) d_X5_stray_5 (by decide) ?_
  refine g_iadd hF d_X5_stray_6 ?_
  refine g_put (v := ((σ0 12 18) + 1)) hF 18 obC_12 (by decide) m_694 rfl rfl rfl d_X5_stray_7 ?_
  have kp : Keep [(12, 13), (12, 18)] [] σ0 (upC σ0 12 18 ((σ0 12 18) + 1)) := keep_f kp (by decide)
  refine g_aload_n hF d_X5_stray_10 rfl 0 rfl ?_
  refine g_iconst hF (v := 0) d_X5_stray_11 (by decide) ?_
  refine g_put (v := 0) hF 13 obC_12 (by decide) m_685 rfl rfl rfl d_X5_stray_12 ?_
  have kp : Keep [(12, 13), (12, 18)] [] σ0 (upC (upC σ0 12 18 ((σ0 12 18) + 1)) 12 13 0) := keep_f kp (by decide)
  have j1 : Inv (upC (upC σ0 12 18 ((σ0 12 18) + 1)) 12 13 0) := ⟨i0.1, i0.2.1, i0.2.2.1, i0.2.2.2.1, i0.2.2.2.2.1, i0.2.2.2.2.2.1, i0.2.2.2.2.2.2.1, i0.2.2.2.2.2.2.2.1, i0.2.2.2.2.2.2.2.2.1, i0.2.2.2.2.2.2.2.2.2.1, i0.2.2.2.2.2.2.2.2.2.2.1, i0.2.2.2.2.2.2.2.2.2.2.2.1, i0.2.2.2.2.2.2.2.2.2.2.2.2.1, i0.2.2.2.2.2.2.2.2.2.2.2.2.2.1, i0.2.2.2.2.2.2.2.2.2.2.2.2.2.2.1, i0.2.2.2.2.2.2.2.2.2.2.2.2.2.2.2.1, i0.2.2.2.2.2.2.2.2.2.2.2.2.2.2.2.2.1, i0.2.2.2.2.2.2.2.2.2.2.2.2.2.2.2.2.2.1, i0.2.2.2.2.2.2.2.2.2.2.2.2.2.2.2.2.2.2.1, i0.2.2.2.2.2.2.2.2.2.2.2.2.2.2.2.2.2.2.2⟩
  exact g_vret hF rfl d_X5_stray_15 ⟨rfl, rfl, rfl, ⟨j1, kp⟩⟩
set_option maxHeartbeats 4000000 in
set_option maxRecDepth 100000 in
theorem c_X5_pop (a : Nat → Nat) (g : Nat → Nat → Int32) (r : Nat → Nat) (σ0 : St) (i0 : Inv σ0) (l : Launch) (D : va_G) (cy : Nat → ClassId) : Ct l D cy SC r (EC a g) y_X5_pop (Cond.code y_X5_pop b_X5_pop 1 (some .int)) 1 [.ref (r 12)] σ0 Z0 [] (QI (fun _ σ9 => (Inv σ9 ∧ Keep [(12, 9)] [] σ0 σ9))) QF := by
  refine Ct_of (EC_ok a g) (by decide) (Nat.le_of_ble_eq_true rfl) (by decide) (fun X hnn hF => ?_)
  show G SC r X σ0 Z0 [] [(0, .ref (r 12))] [] 0
  have kp : Keep [(12, 9)] [] σ0 σ0 := keep_rf
  refine g_aload_n hF d_X5_pop_0 rfl 0 rfl ?_
  refine g_dup hF d_X5_pop_1 rfl ?_
  refine g_get (v := .int (σ0 12 9)) hF 9 obC_12 (by decide) m_681 rfl d_X5_pop_2 ?_
  refine g_iconst hF (v := 1) d_X5_pop_5 (by decide) ?_
  refine g_isub hF d_X5_pop_6 ?_
  refine g_put (v := ((σ0 12 9) - 1)) hF 9 obC_12 (by decide) m_681 rfl rfl rfl d_X5_pop_7 ?_
  have kp : Keep [(12, 9)] [] σ0 (upC σ0 12 9 ((σ0 12 9) - 1)) := keep_f kp (by decide)
  refine g_aload_n hF d_X5_pop_10 rfl 0 rfl ?_
  refine g_get (v := .ref (r 63)) hF 5 obC_12 (by decide) m_677 rfl d_X5_pop_11 ?_
  refine g_aload_n hF d_X5_pop_14 rfl 0 rfl ?_
  refine g_get (v := .int ((σ0 12 9) - 1)) hF 9 obC_12 (by decide) m_681 rfl d_X5_pop_15 ?_
  refine g_callSN (As := [.ref (r 63), .int ((σ0 12 9) - 1)]) (rest := []) hF (c_at a g r (upC σ0 12 9 ((σ0 12 9) - 1)) arC_63 (by decide) ((σ0 12 9) - 1)) (Nat.le_of_ble_eq_true rfl) mS_X12_at nm_1660 rfl rfl (Nat.le_of_ble_eq_true rfl) d_X5_pop_18 (k_rop (fun r1 hr1 => ?_))
  have j2 : Inv (upC σ0 12 9 ((σ0 12 9) - 1)) := ⟨i0.1, i0.2.1, i0.2.2.1, i0.2.2.2.1, i0.2.2.2.2.1, i0.2.2.2.2.2.1, i0.2.2.2.2.2.2.1, i0.2.2.2.2.2.2.2.1, i0.2.2.2.2.2.2.2.2.1, i0.2.2.2.2.2.2.2.2.2.1, i0.2.2.2.2.2.2.2.2.2.2.1, i0.2.2.2.2.2.2.2.2.2.2.2.1, i0.2.2.2.2.2.2.2.2.2.2.2.2.1, i0.2.2.2.2.2.2.2.2.2.2.2.2.2.1, i0.2.2.2.2.2.2.2.2.2.2.2.2.2.2.1, i0.2.2.2.2.2.2.2.2.2.2.2.2.2.2.2.1, i0.2.2.2.2.2.2.2.2.2.2.2.2.2.2.2.2.1, i0.2.2.2.2.2.2.2.2.2.2.2.2.2.2.2.2.2.1, i0.2.2.2.2.2.2.2.2.2.2.2.2.2.2.2.2.2.2.1, i0.2.2.2.2.2.2.2.2.2.2.2.2.2.2.2.2.2.2.2⟩
  exact g_iret hF rfl d_X5_pop_21 ⟨rfl, rfl, r1, rfl, ⟨j2, kp⟩⟩
set_option maxHeartbeats 4000000 in
set_option maxRecDepth 100000 in
theorem c_X5_push (a : Nat → Nat) (g : Nat → Nat → Int32) (r : Nat → Nat) (σ0 : St) (a1 : Int32) (i0 : Inv σ0) (l : Launch) (D : va_G) (cy : Nat → ClassId) : Ct l D cy SC r (EC a g) y_X5_push (Cond.code y_X5_push b_X5_push 2 none) 1 [.ref (r 12), .int a1] σ0 Z0 [] (QV (fun σ9 => (Inv σ9 ∧ Keep [(12, 9)] [63] σ0 σ9))) QF := by
  refine Ct_of (EC_ok a g) (by decide) (Nat.le_of_ble_eq_true rfl) (by decide) (fun X hnn hF => ?_)
  show G SC r X σ0 Z0 [] [(0, .ref (r 12)), (1, .int a1)] [] 0
  have kp : Keep [(12, 9)] [63] σ0 σ0 := keep_rf
  refine g_aload_n hF d_X5_push_0 rfl 0 rfl ?_
  refine g_get (v := .ref (r 63)) hF 5 obC_12 (by decide) m_677 rfl d_X5_push_1 ?_
  refine g_aload_n hF d_X5_push_4 rfl 0 rfl ?_
  refine g_get (v := .int (σ0 12 9)) hF 9 obC_12 (by decide) m_681 rfl d_X5_push_5 ?_
  refine g_iload_n hF d_X5_push_8 rfl 1 rfl ?_
  refine g_callSN (As := [.ref (r 63), .int (σ0 12 9), .int a1]) (rest := []) hF (c_set a g r σ0 arC_63 (by decide) (σ0 12 9) a1) (Nat.le_of_ble_eq_true rfl) mS_X12_set nm_1661 rfl rfl (Nat.le_of_ble_eq_true rfl) d_X5_push_9 (k_v (fun σ1 ⟨g1, eσ1, hg1⟩ => ?_))
  subst eσ1
  have kp : Keep [(12, 9)] [63] σ0 (upF σ0 63 g1) := keep_F kp (by decide)
  refine g_aload_n hF d_X5_push_12 rfl 0 rfl ?_
  refine g_dup hF d_X5_push_13 rfl ?_
  refine g_get (v := .int (σ0 12 9)) hF 9 obC_12 (by decide) m_681 rfl d_X5_push_14 ?_
  refine g_iconst hF (v := 1) d_X5_push_17 (by decide) ?_
  refine g_iadd hF d_X5_push_18 ?_
  refine g_put (v := ((σ0 12 9) + 1)) hF 9 obC_12 (by decide) m_681 rfl rfl rfl d_X5_push_19 ?_
  have kp : Keep [(12, 9)] [63] σ0 (upC (upF σ0 63 g1) 12 9 ((σ0 12 9) + 1)) := keep_f kp (by decide)
  have j2 : Inv (upC (upF σ0 63 g1) 12 9 ((σ0 12 9) + 1)) := ⟨i0.1, i0.2.1, i0.2.2.1, i0.2.2.2.1, i0.2.2.2.2.1, i0.2.2.2.2.2.1, i0.2.2.2.2.2.2.1, i0.2.2.2.2.2.2.2.1, i0.2.2.2.2.2.2.2.2.1, i0.2.2.2.2.2.2.2.2.2.1, i0.2.2.2.2.2.2.2.2.2.2.1, i0.2.2.2.2.2.2.2.2.2.2.2.1, i0.2.2.2.2.2.2.2.2.2.2.2.2.1, i0.2.2.2.2.2.2.2.2.2.2.2.2.2.1, i0.2.2.2.2.2.2.2.2.2.2.2.2.2.2.1, i0.2.2.2.2.2.2.2.2.2.2.2.2.2.2.2.1, i0.2.2.2.2.2.2.2.2.2.2.2.2.2.2.2.2.1, i0.2.2.2.2.2.2.2.2.2.2.2.2.2.2.2.2.2.1, i0.2.2.2.2.2.2.2.2.2.2.2.2.2.2.2.2.2.2.1, i0.2.2.2.2.2.2.2.2.2.2.2.2.2.2.2.2.2.2.2⟩
  exact g_vret hF rfl d_X5_push_22 ⟨rfl, rfl, rfl, ⟨j2, kp⟩⟩
set_option maxHeartbeats 4000000 in
set_option maxRecDepth 100000 in
theorem c_X5_decide (a : Nat → Nat) (g : Nat → Nat → Int32) (r : Nat → Nat) (σ0 : St) (a1 : Int32) (a2 : Int32) (i0 : Inv σ0) (z_a1 : a1 = 0 ∨ a1 = 1) (l : Launch) (D : va_G) (cy : Nat → ClassId) : Ct l D cy SC r (EC a g) y_X5_decide (Cond.code y_X5_decide b_X5_decide 3 none) 2 [.ref (r 12), .int a1, .int a2] σ0 Z0 [] (QV (fun σ9 => (Inv σ9 ∧ Keep [(12, 8), (12, 9)] [63] σ0 σ9))) QF := by
  refine Ct_of (EC_ok a g) (by decide) (Nat.le_of_ble_eq_true rfl) (by decide) (fun X hnn hF => ?_)
  show G SC r X σ0 Z0 [] [(0, .ref (r 12)), (1, .int a1), (2, .int a2)] [] 0
  have kp : Keep [(12, 8), (12, 9)] [63] σ0 σ0 := keep_rf
  refine g_aload_n hF d_X5_decide_0 rfl 0 rfl ?_
  refine g_callV (As := []) (rest := []) hF (c_X5_pop a g r σ0 i0) (Nat.le_of_ble_eq_true rfl) mV_X5_pop m_1681 (recv_ob obC_12) rfl rfl (Nat.le_of_ble_eq_true rfl) d_X5_decide_1 (k_i (fun r1 σ1 ⟨iσ1, ik1⟩ => ?_)) (fun _ _ _ h => h.elim)
  have kp : Keep [(12, 8), (12, 9)] [63] σ0 σ1 := keep_c kp ik1 (by decide) (by decide)
  refine g_if_eq hF 11 d_X5_decide_4 (by decide) rfl (fun c2_4 => ?_) (fun c2_4 => ?_)
  · -- taken at 4
    refine g_iconst hF (v := 0) d_X5_decide_11 (by decide) ?_
    refine g_iload_n hF d_X5_decide_12 rfl 1 rfl ?_
    refine g_icmp_ne (xv := 0) hF 34 d_X5_decide_13 (by decide) (by decide) rfl (fun c3_13 => ?_) (fun c3_13 => ?_)
    · -- taken at 13
      exact g_vret hF rfl d_X5_decide_34 ⟨rfl, rfl, rfl, ⟨iσ1, kp⟩⟩
    · -- not taken at 13
      refine g_aload_n hF d_X5_decide_16 rfl 0 rfl ?_
      refine g_iload_n hF d_X5_decide_17 rfl 1 rfl ?_
      refine g_if_eq hF 25 d_X5_decide_18 (by decide) rfl (fun c4_18 => ?_) (fun c4_18 => ?_)
      · -- taken at 18
        refine g_iconst hF (v := 0) d_X5_decide_25 (by decide) ?_
        refine g_callV (As := [.int 0]) (rest := []) hF (c_X5_push a g r σ1 (0 : Int32) iσ1) (Nat.le_of_ble_eq_true rfl) mV_X5_push m_1686 (recv_ob obC_12) rfl rfl (Nat.le_of_ble_eq_true rfl) d_X5_decide_26 (k_v (fun σ5 ⟨iσ5, ik5⟩ => ?_)) (fun _ _ _ h => h.elim)
        have kp : Keep [(12, 8), (12, 9)] [63] σ0 σ5 := keep_c kp ik5 (by decide) (by decide)
        refine g_aload_n hF d_X5_decide_29 rfl 0 rfl ?_
        refine g_iload_n hF d_X5_decide_30 rfl 2 rfl ?_
        refine g_put (v := a2) hF 8 obC_12 (by decide) m_680 rfl rfl rfl d_X5_decide_31 ?_
        have kp : Keep [(12, 8), (12, 9)] [63] σ0 (upC σ5 12 8 a2) := keep_f kp (by decide)
        have j6 : Inv (upC σ5 12 8 a2) := ⟨iσ5.1, iσ5.2.1, iσ5.2.2.1, iσ5.2.2.2.1, iσ5.2.2.2.2.1, iσ5.2.2.2.2.2.1, iσ5.2.2.2.2.2.2.1, iσ5.2.2.2.2.2.2.2.1, iσ5.2.2.2.2.2.2.2.2.1, iσ5.2.2.2.2.2.2.2.2.2.1, iσ5.2.2.2.2.2.2.2.2.2.2.1, iσ5.2.2.2.2.2.2.2.2.2.2.2.1, iσ5.2.2.2.2.2.2.2.2.2.2.2.2.1, iσ5.2.2.2.2.2.2.2.2.2.2.2.2.2.1, iσ5.2.2.2.2.2.2.2.2.2.2.2.2.2.2.1, iσ5.2.2.2.2.2.2.2.2.2.2.2.2.2.2.2.1, iσ5.2.2.2.2.2.2.2.2.2.2.2.2.2.2.2.2.1, iσ5.2.2.2.2.2.2.2.2.2.2.2.2.2.2.2.2.2.1, iσ5.2.2.2.2.2.2.2.2.2.2.2.2.2.2.2.2.2.2.1, iσ5.2.2.2.2.2.2.2.2.2.2.2.2.2.2.2.2.2.2.2⟩
        exact g_vret hF rfl d_X5_decide_34 ⟨rfl, rfl, rfl, ⟨j6, kp⟩⟩
      · -- not taken at 18
        refine g_iconst hF (v := 1) d_X5_decide_21 (by decide) ?_
        refine g_goto hF 26 d_X5_decide_22 (by decide) ?_
        refine g_callV (As := [.int 1]) (rest := []) hF (c_X5_push a g r σ1 (1 : Int32) iσ1) (Nat.le_of_ble_eq_true rfl) mV_X5_push m_1686 (recv_ob obC_12) rfl rfl (Nat.le_of_ble_eq_true rfl) d_X5_decide_26 (k_v (fun σ7 ⟨iσ7, ik7⟩ => ?_)) (fun _ _ _ h => h.elim)
        have kp : Keep [(12, 8), (12, 9)] [63] σ0 σ7 := keep_c kp ik7 (by decide) (by decide)
        refine g_aload_n hF d_X5_decide_29 rfl 0 rfl ?_
        refine g_iload_n hF d_X5_decide_30 rfl 2 rfl ?_
        refine g_put (v := a2) hF 8 obC_12 (by decide) m_680 rfl rfl rfl d_X5_decide_31 ?_
        have kp : Keep [(12, 8), (12, 9)] [63] σ0 (upC σ7 12 8 a2) := keep_f kp (by decide)
        have j8 : Inv (upC σ7 12 8 a2) := ⟨iσ7.1, iσ7.2.1, iσ7.2.2.1, iσ7.2.2.2.1, iσ7.2.2.2.2.1, iσ7.2.2.2.2.2.1, iσ7.2.2.2.2.2.2.1, iσ7.2.2.2.2.2.2.2.1, iσ7.2.2.2.2.2.2.2.2.1, iσ7.2.2.2.2.2.2.2.2.2.1, iσ7.2.2.2.2.2.2.2.2.2.2.1, iσ7.2.2.2.2.2.2.2.2.2.2.2.1, iσ7.2.2.2.2.2.2.2.2.2.2.2.2.1, iσ7.2.2.2.2.2.2.2.2.2.2.2.2.2.1, iσ7.2.2.2.2.2.2.2.2.2.2.2.2.2.2.1, iσ7.2.2.2.2.2.2.2.2.2.2.2.2.2.2.2.1, iσ7.2.2.2.2.2.2.2.2.2.2.2.2.2.2.2.2.1, iσ7.2.2.2.2.2.2.2.2.2.2.2.2.2.2.2.2.2.1, iσ7.2.2.2.2.2.2.2.2.2.2.2.2.2.2.2.2.2.2.1, iσ7.2.2.2.2.2.2.2.2.2.2.2.2.2.2.2.2.2.2.2⟩
        exact g_vret hF rfl d_X5_decide_34 ⟨rfl, rfl, rfl, ⟨j8, kp⟩⟩
  · -- not taken at 4
    refine g_iconst hF (v := 1) d_X5_decide_7 (by decide) ?_
    refine g_goto hF 12 d_X5_decide_8 (by decide) ?_
    refine g_iload_n hF d_X5_decide_12 rfl 1 rfl ?_
    refine g_icmp_ne (xv := 1) hF 34 d_X5_decide_13 (by decide) (by decide) rfl (fun c9_13 => ?_) (fun c9_13 => ?_)
    · -- taken at 13
      exact g_vret hF rfl d_X5_decide_34 ⟨rfl, rfl, rfl, ⟨iσ1, kp⟩⟩
    · -- not taken at 13
      refine g_aload_n hF d_X5_decide_16 rfl 0 rfl ?_
      refine g_iload_n hF d_X5_decide_17 rfl 1 rfl ?_
      refine g_if_eq hF 25 d_X5_decide_18 (by decide) rfl (fun c10_18 => ?_) (fun c10_18 => ?_)
      · -- taken at 18
        refine g_iconst hF (v := 0) d_X5_decide_25 (by decide) ?_
        refine g_callV (As := [.int 0]) (rest := []) hF (c_X5_push a g r σ1 (0 : Int32) iσ1) (Nat.le_of_ble_eq_true rfl) mV_X5_push m_1686 (recv_ob obC_12) rfl rfl (Nat.le_of_ble_eq_true rfl) d_X5_decide_26 (k_v (fun σ11 ⟨iσ11, ik11⟩ => ?_)) (fun _ _ _ h => h.elim)
        have kp : Keep [(12, 8), (12, 9)] [63] σ0 σ11 := keep_c kp ik11 (by decide) (by decide)
        refine g_aload_n hF d_X5_decide_29 rfl 0 rfl ?_
        refine g_iload_n hF d_X5_decide_30 rfl 2 rfl ?_
        refine g_put (v := a2) hF 8 obC_12 (by decide) m_680 rfl rfl rfl d_X5_decide_31 ?_
        have kp : Keep [(12, 8), (12, 9)] [63] σ0 (upC σ11 12 8 a2) := keep_f kp (by decide)
        have j12 : Inv (upC σ11 12 8 a2) := ⟨iσ11.1, iσ11.2.1, iσ11.2.2.1, iσ11.2.2.2.1, iσ11.2.2.2.2.1, iσ11.2.2.2.2.2.1, iσ11.2.2.2.2.2.2.1, iσ11.2.2.2.2.2.2.2.1, iσ11.2.2.2.2.2.2.2.2.1, iσ11.2.2.2.2.2.2.2.2.2.1, iσ11.2.2.2.2.2.2.2.2.2.2.1, iσ11.2.2.2.2.2.2.2.2.2.2.2.1, iσ11.2.2.2.2.2.2.2.2.2.2.2.2.1, iσ11.2.2.2.2.2.2.2.2.2.2.2.2.2.1, iσ11.2.2.2.2.2.2.2.2.2.2.2.2.2.2.1, iσ11.2.2.2.2.2.2.2.2.2.2.2.2.2.2.2.1, iσ11.2.2.2.2.2.2.2.2.2.2.2.2.2.2.2.2.1, iσ11.2.2.2.2.2.2.2.2.2.2.2.2.2.2.2.2.2.1, iσ11.2.2.2.2.2.2.2.2.2.2.2.2.2.2.2.2.2.2.1, iσ11.2.2.2.2.2.2.2.2.2.2.2.2.2.2.2.2.2.2.2⟩
        exact g_vret hF rfl d_X5_decide_34 ⟨rfl, rfl, rfl, ⟨j12, kp⟩⟩
      · -- not taken at 18
        refine g_iconst hF (v := 1) d_X5_decide_21 (by decide) ?_
        refine g_goto hF 26 d_X5_decide_22 (by decide) ?_
        refine g_callV (As := [.int 1]) (rest := []) hF (c_X5_push a g r σ1 (1 : Int32) iσ1) (Nat.le_of_ble_eq_true rfl) mV_X5_push m_1686 (recv_ob obC_12) rfl rfl (Nat.le_of_ble_eq_true rfl) d_X5_decide_26 (k_v (fun σ13 ⟨iσ13, ik13⟩ => ?_)) (fun _ _ _ h => h.elim)
        have kp : Keep [(12, 8), (12, 9)] [63] σ0 σ13 := keep_c kp ik13 (by decide) (by decide)
        refine g_aload_n hF d_X5_decide_29 rfl 0 rfl ?_
        refine g_iload_n hF d_X5_decide_30 rfl 2 rfl ?_
        refine g_put (v := a2) hF 8 obC_12 (by decide) m_680 rfl rfl rfl d_X5_decide_31 ?_
        have kp : Keep [(12, 8), (12, 9)] [63] σ0 (upC σ13 12 8 a2) := keep_f kp (by decide)
        have j14 : Inv (upC σ13 12 8 a2) := ⟨iσ13.1, iσ13.2.1, iσ13.2.2.1, iσ13.2.2.2.1, iσ13.2.2.2.2.1, iσ13.2.2.2.2.2.1, iσ13.2.2.2.2.2.2.1, iσ13.2.2.2.2.2.2.2.1, iσ13.2.2.2.2.2.2.2.2.1, iσ13.2.2.2.2.2.2.2.2.2.1, iσ13.2.2.2.2.2.2.2.2.2.2.1, iσ13.2.2.2.2.2.2.2.2.2.2.2.1, iσ13.2.2.2.2.2.2.2.2.2.2.2.2.1, iσ13.2.2.2.2.2.2.2.2.2.2.2.2.2.1, iσ13.2.2.2.2.2.2.2.2.2.2.2.2.2.2.1, iσ13.2.2.2.2.2.2.2.2.2.2.2.2.2.2.2.1, iσ13.2.2.2.2.2.2.2.2.2.2.2.2.2.2.2.2.1, iσ13.2.2.2.2.2.2.2.2.2.2.2.2.2.2.2.2.2.1, iσ13.2.2.2.2.2.2.2.2.2.2.2.2.2.2.2.2.2.2.1, iσ13.2.2.2.2.2.2.2.2.2.2.2.2.2.2.2.2.2.2.2⟩
        exact g_vret hF rfl d_X5_decide_34 ⟨rfl, rfl, rfl, ⟨j14, kp⟩⟩
set_option maxHeartbeats 4000000 in
set_option maxRecDepth 100000 in
theorem c_X9_next (a : Nat → Nat) (g : Nat → Nat → Int32) (r : Nat → Nat) (σ0 : St) (i0 : Inv σ0) (l : Launch) (D : va_G) (cy : Nat → ClassId) : Ct l D cy SC r (EC a g) y_X9_next (Cond.code y_X9_next b_X9_next 1 (some .int)) 0 [.ref (r 11)] σ0 Z0 [] (QI (fun _ σ9 => (Inv σ9 ∧ Keep [(11, 1)] [] σ0 σ9))) QF := by
  refine Ct_of (EC_ok a g) (by decide) (Nat.le_of_ble_eq_true rfl) (by decide) (fun X hnn hF => ?_)
  show G SC r X σ0 Z0 [] [(0, .ref (r 11))] [] 0
  have kp : Keep [(11, 1)] [] σ0 σ0 := keep_rf
  refine g_aload_n hF d_X9_next_0 rfl 0 rfl ?_
  refine g_get (v := .int (σ0 11 1)) hF 1 obC_11 (by decide) m_647 rfl d_X9_next_1 ?_
  refine g_if_lt hF 30 d_X9_next_4 (by decide) rfl (fun c1_4 => ?_) (fun c1_4 => ?_)
  · -- taken at 4
    refine g_iconst hF (v := (-1)) d_X9_next_30 (by decide) ?_
    exact g_iret hF rfl d_X9_next_31 ⟨rfl, rfl, ((-1) : Int32), rfl, ⟨i0, kp⟩⟩
  · -- not taken at 4
    refine g_aload_n hF d_X9_next_7 rfl 0 rfl ?_
    refine g_get (v := .int (σ0 11 1)) hF 1 obC_11 (by decide) m_647 rfl d_X9_next_8 ?_
    refine g_aload_n hF d_X9_next_11 rfl 0 rfl ?_
    refine g_get (v := .int (σ0 11 0)) hF 0 obC_11 (by decide) m_646 rfl d_X9_next_12 ?_
    refine g_icmp_ge hF 30 d_X9_next_15 (by decide) rfl rfl (fun c2_15 => ?_) (fun c2_15 => ?_)
    · -- taken at 15
      refine g_iconst hF (v := (-1)) d_X9_next_30 (by decide) ?_
      exact g_iret hF rfl d_X9_next_31 ⟨rfl, rfl, ((-1) : Int32), rfl, ⟨i0, kp⟩⟩
    · -- not taken at 15
      refine g_aload_n hF d_X9_next_18 rfl 0 rfl ?_
      refine g_get (v := .int (σ0 11 1)) hF 1 obC_11 (by decide) m_647 rfl d_X9_next_19 ?_
      refine g_aload_n hF d_X9_next_22 rfl 0 rfl ?_
      refine g_get (v := .ref (r 60)) hF 3 obC_11 (by decide) m_650 rfl d_X9_next_23 ?_
      refine g_alen hF arC_60 (fun _ => ⟨0, _, rfl⟩) (v := 4096) (by decide) d_X9_next_26 ?_
      refine g_icmp_lt (yv := 4096) hF 32 d_X9_next_27 (by decide) rfl (by decide) (fun c3_27 => ?_) (fun c3_27 => ?_)
      · -- taken at 27
        refine g_aload_n hF d_X9_next_32 rfl 0 rfl ?_
        refine g_dup hF d_X9_next_33 rfl ?_
        refine g_get (v := .int (σ0 11 1)) hF 1 obC_11 (by decide) m_647 rfl d_X9_next_34 ?_
        refine g_iconst hF (v := 1) d_X9_next_37 (by decide) ?_
        refine g_iadd hF d_X9_next_38 ?_
        refine g_put (v := ((σ0 11 1) + 1)) hF 1 obC_11 (by decide) m_647 rfl rfl rfl d_X9_next_39 ?_
        have kp : Keep [(11, 1)] [] σ0 (upC σ0 11 1 ((σ0 11 1) + 1)) := keep_f kp (by decide)
        have p4 : 0 ≤ ((σ0 11 1) + 1).toInt ∧ ((σ0 11 1) + 1).toInt ≤ 4096 := (by have e0 := s_rng (σ0 11 1); have e1 := i0.2.2.2.2.2.2.2.2.2.2.1; have e2 : (1 : Int32).toInt = 1 := (by decide); obtain ⟨k3, e3⟩ := s_add (σ0 11 1) (1 : Int32); have e3a := s_rng ((σ0 11 1) + 1); have e5 : (0 : Int32).toInt = 0 := (by decide); have e6 := s_rng (σ0 11 0); have e7 := i0.2.2.2.2.2.2.2.2.2.1; have e8 : (4096 : Int32).toInt = 4096 := (by decide); omega)
        refine g_aload_n hF d_X9_next_42 rfl 0 rfl ?_
        refine g_get (v := .ref (r 60)) hF 3 obC_11 (by decide) m_650 rfl d_X9_next_43 ?_
        refine g_aload_n hF d_X9_next_46 rfl 0 rfl ?_
        refine g_get (v := .int ((σ0 11 1) + 1)) hF 1 obC_11 (by decide) m_647 rfl d_X9_next_47 ?_
        refine g_iconst hF (v := 1) d_X9_next_50 (by decide) ?_
        refine g_isub hF d_X9_next_51 ?_
        refine g_bald hF arC_60 (by refine s_in (by decide) ?_ ?_ <;> (have e0 := s_rng (σ0 11 1); have e1 := i0.2.2.2.2.2.2.2.2.2.2.1; have e2 : (1 : Int32).toInt = 1 := (by decide); obtain ⟨k3, e3⟩ := s_add (σ0 11 1) (1 : Int32); have e3a := s_rng ((σ0 11 1) + 1); obtain ⟨k5, e5⟩ := s_sub ((σ0 11 1) + 1) (1 : Int32); have e5a := s_rng (((σ0 11 1) + 1) - 1); have e7 : (0 : Int32).toInt = 0 := (by decide); have e8 := s_rng (σ0 11 0); have e9 := i0.2.2.2.2.2.2.2.2.2.1; have e10 : (4096 : Int32).toInt = 4096 := (by decide); omega)) d_X9_next_52 ?_
        refine g_any (fun v5 => ?_)
        refine g_sipush hF (v := 255) d_X9_next_53 (by decide) ?_
        refine g_iand hF d_X9_next_56 ?_
        refine g_any (fun v6 => ?_)
        have j7 : Inv (upC σ0 11 1 ((σ0 11 1) + 1)) := ⟨i0.1, i0.2.1, i0.2.2.1, i0.2.2.2.1, i0.2.2.2.2.1, i0.2.2.2.2.2.1, i0.2.2.2.2.2.2.1, i0.2.2.2.2.2.2.2.1, i0.2.2.2.2.2.2.2.2.1, i0.2.2.2.2.2.2.2.2.2.1, p4, i0.2.2.2.2.2.2.2.2.2.2.2.1, i0.2.2.2.2.2.2.2.2.2.2.2.2.1, i0.2.2.2.2.2.2.2.2.2.2.2.2.2.1, i0.2.2.2.2.2.2.2.2.2.2.2.2.2.2.1, i0.2.2.2.2.2.2.2.2.2.2.2.2.2.2.2.1, i0.2.2.2.2.2.2.2.2.2.2.2.2.2.2.2.2.1, i0.2.2.2.2.2.2.2.2.2.2.2.2.2.2.2.2.2.1, i0.2.2.2.2.2.2.2.2.2.2.2.2.2.2.2.2.2.2.1, i0.2.2.2.2.2.2.2.2.2.2.2.2.2.2.2.2.2.2.2⟩
        exact g_iret hF rfl d_X9_next_57 ⟨rfl, rfl, v6, rfl, ⟨j7, kp⟩⟩
      · -- not taken at 27
        refine g_iconst hF (v := (-1)) d_X9_next_30 (by decide) ?_
        exact g_iret hF rfl d_X9_next_31 ⟨rfl, rfl, ((-1) : Int32), rfl, ⟨i0, kp⟩⟩
set_option maxHeartbeats 4000000 in
set_option maxRecDepth 100000 in
theorem c_X9_put (a : Nat → Nat) (g : Nat → Nat → Int32) (r : Nat → Nat) (σ0 : St) (a1 : Int32) (i0 : Inv σ0) (l : Launch) (D : va_G) (cy : Nat → ClassId) : Ct l D cy SC r (EC a g) y_X9_put (Cond.code y_X9_put b_X9_put 2 (some .boolean)) 0 [.ref (r 11), .int a1] σ0 Z0 [] (QI (fun v9 σ9 => (v9 = 0 ∨ v9 = 1) ∧ (Inv σ9 ∧ Keep [(11, 2)] [61] σ0 σ9))) QF := by
  refine Ct_of (EC_ok a g) (by decide) (Nat.le_of_ble_eq_true rfl) (by decide) (fun X hnn hF => ?_)
  show G SC r X σ0 Z0 [] [(0, .ref (r 11)), (1, .int a1)] [] 0
  have kp : Keep [(11, 2)] [61] σ0 σ0 := keep_rf
  refine g_aload_n hF d_X9_put_0 rfl 0 rfl ?_
  refine g_get (v := .int (σ0 11 2)) hF 2 obC_11 (by decide) m_648 rfl d_X9_put_1 ?_
  refine g_if_lt hF 19 d_X9_put_4 (by decide) rfl (fun c1_4 => ?_) (fun c1_4 => ?_)
  · -- taken at 4
    refine g_iconst hF (v := 0) d_X9_put_19 (by decide) ?_
    exact g_zret hF rfl (k_nz (Or.inl rfl)) d_X9_put_20 ⟨rfl, rfl, (0 : Int32), rfl, (Or.inl rfl), ⟨i0, kp⟩⟩
  · -- not taken at 4
    refine g_aload_n hF d_X9_put_7 rfl 0 rfl ?_
    refine g_get (v := .int (σ0 11 2)) hF 2 obC_11 (by decide) m_648 rfl d_X9_put_8 ?_
    refine g_aload_n hF d_X9_put_11 rfl 0 rfl ?_
    refine g_get (v := .ref (r 61)) hF 4 obC_11 (by decide) m_651 rfl d_X9_put_12 ?_
    refine g_alen hF arC_61 (fun _ => ⟨0, _, rfl⟩) (v := 4096) (by decide) d_X9_put_15 ?_
    refine g_icmp_lt (yv := 4096) hF 21 d_X9_put_16 (by decide) rfl (by decide) (fun c2_16 => ?_) (fun c2_16 => ?_)
    · -- taken at 16
      refine g_aload_n hF d_X9_put_21 rfl 0 rfl ?_
      refine g_get (v := .ref (r 61)) hF 4 obC_11 (by decide) m_651 rfl d_X9_put_22 ?_
      refine g_aload_n hF d_X9_put_25 rfl 0 rfl ?_
      refine g_get (v := .int (σ0 11 2)) hF 2 obC_11 (by decide) m_648 rfl d_X9_put_26 ?_
      refine g_iload_n hF d_X9_put_29 rfl 1 rfl ?_
      refine g_i2b hF d_X9_put_30 ?_
      refine g_any (fun v3 => ?_)
      refine g_bast hF arC_61 (by refine s_in (by decide) ?_ ?_ <;> (have e0 := s_rng (σ0 11 2); have e1 := i0.2.2.2.2.2.2.2.2.2.2.2.1; have e2 : (0 : Int32).toInt = 0 := (by decide); have e3 : (4096 : Int32).toInt = 4096 := (by decide); omega)) d_X9_put_31 ?_
      have kp : Keep [(11, 2)] [61] σ0 (upC σ0 61 ((σ0 11 2)).toNatClampNeg (vp_nar .byte v3)) := keep_a kp (by decide)
      refine g_aload_n hF d_X9_put_32 rfl 0 rfl ?_
      refine g_dup hF d_X9_put_33 rfl ?_
      refine g_get (v := .int (σ0 11 2)) hF 2 obC_11 (by decide) m_648 rfl d_X9_put_34 ?_
      refine g_iconst hF (v := 1) d_X9_put_37 (by decide) ?_
      refine g_iadd hF d_X9_put_38 ?_
      refine g_put (v := ((σ0 11 2) + 1)) hF 2 obC_11 (by decide) m_648 rfl rfl rfl d_X9_put_39 ?_
      have kp : Keep [(11, 2)] [61] σ0 (upC (upC σ0 61 ((σ0 11 2)).toNatClampNeg (vp_nar .byte v3)) 11 2 ((σ0 11 2) + 1)) := keep_f kp (by decide)
      have p4 : 0 ≤ ((σ0 11 2) + 1).toInt ∧ ((σ0 11 2) + 1).toInt ≤ 4096 := (by have e0 := s_rng (σ0 11 2); have e1 := i0.2.2.2.2.2.2.2.2.2.2.2.1; have e2 : (1 : Int32).toInt = 1 := (by decide); obtain ⟨k3, e3⟩ := s_add (σ0 11 2) (1 : Int32); have e3a := s_rng ((σ0 11 2) + 1); have e5 : (0 : Int32).toInt = 0 := (by decide); have e6 : (4096 : Int32).toInt = 4096 := (by decide); omega)
      refine g_iconst hF (v := 1) d_X9_put_42 (by decide) ?_
      have j5 : Inv (upC (upC σ0 61 ((σ0 11 2)).toNatClampNeg (vp_nar .byte v3)) 11 2 ((σ0 11 2) + 1)) := ⟨i0.1, i0.2.1, i0.2.2.1, i0.2.2.2.1, i0.2.2.2.2.1, i0.2.2.2.2.2.1, i0.2.2.2.2.2.2.1, i0.2.2.2.2.2.2.2.1, i0.2.2.2.2.2.2.2.2.1, i0.2.2.2.2.2.2.2.2.2.1, i0.2.2.2.2.2.2.2.2.2.2.1, p4, i0.2.2.2.2.2.2.2.2.2.2.2.2.1, i0.2.2.2.2.2.2.2.2.2.2.2.2.2.1, i0.2.2.2.2.2.2.2.2.2.2.2.2.2.2.1, i0.2.2.2.2.2.2.2.2.2.2.2.2.2.2.2.1, i0.2.2.2.2.2.2.2.2.2.2.2.2.2.2.2.2.1, i0.2.2.2.2.2.2.2.2.2.2.2.2.2.2.2.2.2.1, i0.2.2.2.2.2.2.2.2.2.2.2.2.2.2.2.2.2.2.1, i0.2.2.2.2.2.2.2.2.2.2.2.2.2.2.2.2.2.2.2⟩
      exact g_zret hF rfl (k_nz (Or.inr rfl)) d_X9_put_43 ⟨rfl, rfl, (1 : Int32), rfl, (Or.inr rfl), ⟨j5, kp⟩⟩
    · -- not taken at 16
      refine g_iconst hF (v := 0) d_X9_put_19 (by decide) ?_
      exact g_zret hF rfl (k_nz (Or.inl rfl)) d_X9_put_20 ⟨rfl, rfl, (0 : Int32), rfl, (Or.inl rfl), ⟨i0, kp⟩⟩
set_option maxHeartbeats 4000000 in
set_option maxRecDepth 100000 in
theorem c_X5_giveBack (a : Nat → Nat) (g : Nat → Nat → Int32) (r : Nat → Nat) (σ0 : St) (i0 : Inv σ0) (l : Launch) (D : va_G) (cy : Nat → ClassId) : Ct l D cy SC r (EC a g) y_X5_giveBack (Cond.code y_X5_giveBack b_X5_giveBack 2 none) 2 [.ref (r 12)] σ0 Z0 [] (QV (fun σ9 => (Inv σ9 ∧ Keep [(12, 7), (12, 8), (12, 9), (12, 10), (12, 11), (12, 13), (12, 15)] [63] σ0 σ9))) QF := by
  refine Ct_of (EC_ok a g) (by decide) (Nat.le_of_ble_eq_true rfl) (by decide) (fun X hnn hF => ?_)
  show G SC r X σ0 Z0 [] [(0, .ref (r 12))] [] 0
  have kp : Keep [(12, 7), (12, 8), (12, 9), (12, 10), (12, 11), (12, 13), (12, 15)] [63] σ0 σ0 := keep_rf
  refine g_aload_n hF d_X5_giveBack_0 rfl 0 rfl ?_
  refine g_callV (As := []) (rest := []) hF (c_X5_pop a g r σ0 i0) (Nat.le_of_ble_eq_true rfl) mV_X5_pop m_1681 (recv_ob obC_12) rfl rfl (Nat.le_of_ble_eq_true rfl) d_X5_giveBack_1 (k_i (fun r1 σ1 ⟨iσ1, ik1⟩ => ?_)) (fun _ _ _ h => h.elim)
  have kp : Keep [(12, 7), (12, 8), (12, 9), (12, 10), (12, 11), (12, 13), (12, 15)] [63] σ0 σ1 := keep_c kp ik1 (by decide) (by decide)
  refine g_istore_n hF [(1, .int r1), (0, .ref (r 12))] d_X5_giveBack_4 rfl hnn (by decide) rfl ?_
  refine g_aload_n hF d_X5_giveBack_5 rfl 1 rfl ?_
  refine g_dup hF d_X5_giveBack_6 rfl ?_
  refine g_get (v := .int (σ1 12 7)) hF 7 obC_12 (by decide) m_679 rfl d_X5_giveBack_7 ?_
  refine g_top (v := (σ0 12 7)) (ik1 12 7 rfl rfl rfl) ?_
  refine g_iconst hF (v := 1) d_X5_giveBack_10 (by decide) ?_
  refine g_isub hF d_X5_giveBack_11 ?_
  refine g_put (v := ((σ0 12 7) - 1)) hF 7 obC_12 (by decide) m_679 rfl rfl rfl d_X5_giveBack_12 ?_
  have kp : Keep [(12, 7), (12, 8), (12, 9), (12, 10), (12, 11), (12, 13), (12, 15)] [63] σ0 (upC σ1 12 7 ((σ0 12 7) - 1)) := keep_f kp (by decide)
  refine g_aload_n hF d_X5_giveBack_15 rfl 1 rfl ?_
  refine g_aload_n hF d_X5_giveBack_16 rfl 1 rfl ?_
  refine g_get (v := .int (σ1 12 10)) hF 10 obC_12 (by decide) m_682 rfl d_X5_giveBack_17 ?_
  refine g_top (v := (σ0 12 10)) (ik1 12 10 rfl rfl rfl) ?_
  refine g_put (v := (σ0 12 10)) hF 9 obC_12 (by decide) m_681 rfl rfl rfl d_X5_giveBack_20 ?_
  have kp : Keep [(12, 7), (12, 8), (12, 9), (12, 10), (12, 11), (12, 13), (12, 15)] [63] σ0 (upC (upC σ1 12 7 ((σ0 12 7) - 1)) 12 9 (σ0 12 10)) := keep_f kp (by decide)
  refine g_aload_n hF d_X5_giveBack_23 rfl 1 rfl ?_
  refine g_aload_n hF d_X5_giveBack_24 rfl 1 rfl ?_
  refine g_get (v := .ref (r 64)) hF 6 obC_12 (by decide) m_678 rfl d_X5_giveBack_25 ?_
  refine g_iconst hF (v := 3) d_X5_giveBack_28 (by decide) ?_
  refine g_aload_n hF d_X5_giveBack_29 rfl 1 rfl ?_
  refine g_get (v := .int ((σ0 12 7) - 1)) hF 7 obC_12 (by decide) m_679 rfl d_X5_giveBack_30 ?_
  refine g_imul hF d_X5_giveBack_33 ?_
  refine g_any (fun v2 => ?_)
  refine g_callSN (As := [.ref (r 64), .int v2]) (rest := [.ref (r 12)]) hF (c_at a g r (upC (upC σ1 12 7 ((σ0 12 7) - 1)) 12 9 (σ0 12 10)) arC_64 (by decide) v2) (Nat.le_of_ble_eq_true rfl) mS_X12_at nm_1660 rfl rfl (Nat.le_of_ble_eq_true rfl) d_X5_giveBack_34 (k_rop (fun r3 hr3 => ?_))
  refine g_put (v := r3) hF 8 obC_12 (by decide) m_680 rfl rfl rfl d_X5_giveBack_37 ?_
  have kp : Keep [(12, 7), (12, 8), (12, 9), (12, 10), (12, 11), (12, 13), (12, 15)] [63] σ0 (upC (upC (upC σ1 12 7 ((σ0 12 7) - 1)) 12 9 (σ0 12 10)) 12 8 r3) := keep_f kp (by decide)
  refine g_aload_n hF d_X5_giveBack_40 rfl 1 rfl ?_
  refine g_aload_n hF d_X5_giveBack_41 rfl 1 rfl ?_
  refine g_get (v := .ref (r 64)) hF 6 obC_12 (by decide) m_678 rfl d_X5_giveBack_42 ?_
  refine g_iconst hF (v := 3) d_X5_giveBack_45 (by decide) ?_
  refine g_aload_n hF d_X5_giveBack_46 rfl 1 rfl ?_
  refine g_get (v := .int ((σ0 12 7) - 1)) hF 7 obC_12 (by decide) m_679 rfl d_X5_giveBack_47 ?_
  refine g_imul hF d_X5_giveBack_50 ?_
  refine g_any (fun v4 => ?_)
  refine g_iconst hF (v := 1) d_X5_giveBack_51 (by decide) ?_
  refine g_iadd hF d_X5_giveBack_52 ?_
  refine g_callSN (As := [.ref (r 64), .int (v4 + 1)]) (rest := [.ref (r 12)]) hF (c_at a g r (upC (upC (upC σ1 12 7 ((σ0 12 7) - 1)) 12 9 (σ0 12 10)) 12 8 r3) arC_64 (by decide) (v4 + 1)) (Nat.le_of_ble_eq_true rfl) mS_X12_at nm_1660 rfl rfl (Nat.le_of_ble_eq_true rfl) d_X5_giveBack_53 (k_rop (fun r5 hr5 => ?_))
  refine g_put (v := r5) hF 10 obC_12 (by decide) m_682 rfl rfl rfl d_X5_giveBack_56 ?_
  have kp : Keep [(12, 7), (12, 8), (12, 9), (12, 10), (12, 11), (12, 13), (12, 15)] [63] σ0 (upC (upC (upC (upC σ1 12 7 ((σ0 12 7) - 1)) 12 9 (σ0 12 10)) 12 8 r3) 12 10 r5) := keep_f kp (by decide)
  refine g_aload_n hF d_X5_giveBack_59 rfl 1 rfl ?_
  refine g_aload_n hF d_X5_giveBack_60 rfl 1 rfl ?_
  refine g_get (v := .ref (r 64)) hF 6 obC_12 (by decide) m_678 rfl d_X5_giveBack_61 ?_
  refine g_iconst hF (v := 3) d_X5_giveBack_64 (by decide) ?_
  refine g_aload_n hF d_X5_giveBack_65 rfl 1 rfl ?_
  refine g_get (v := .int ((σ0 12 7) - 1)) hF 7 obC_12 (by decide) m_679 rfl d_X5_giveBack_66 ?_
  refine g_imul hF d_X5_giveBack_69 ?_
  refine g_any (fun v6 => ?_)
  refine g_iconst hF (v := 2) d_X5_giveBack_70 (by decide) ?_
  refine g_iadd hF d_X5_giveBack_71 ?_
  refine g_callSN (As := [.ref (r 64), .int (v6 + 2)]) (rest := [.ref (r 12)]) hF (c_at a g r (upC (upC (upC (upC σ1 12 7 ((σ0 12 7) - 1)) 12 9 (σ0 12 10)) 12 8 r3) 12 10 r5) arC_64 (by decide) (v6 + 2)) (Nat.le_of_ble_eq_true rfl) mS_X12_at nm_1660 rfl rfl (Nat.le_of_ble_eq_true rfl) d_X5_giveBack_72 (k_rop (fun r7 hr7 => ?_))
  refine g_put (v := r7) hF 11 obC_12 (by decide) m_683 rfl rfl rfl d_X5_giveBack_75 ?_
  have kp : Keep [(12, 7), (12, 8), (12, 9), (12, 10), (12, 11), (12, 13), (12, 15)] [63] σ0 (upC (upC (upC (upC (upC σ1 12 7 ((σ0 12 7) - 1)) 12 9 (σ0 12 10)) 12 8 r3) 12 10 r5) 12 11 r7) := keep_f kp (by decide)
  refine g_aload_n hF d_X5_giveBack_78 rfl 1 rfl ?_
  refine g_get (v := .int ((σ0 12 7) - 1)) hF 7 obC_12 (by decide) m_679 rfl d_X5_giveBack_79 ?_
  refine g_if_gt hF 98 d_X5_giveBack_82 (by decide) rfl (fun c8_82 => ?_) (fun c8_82 => ?_)
  · -- taken at 82
    refine g_aload_n hF d_X5_giveBack_98 rfl 1 rfl ?_
    refine g_iload_n hF d_X5_giveBack_99 rfl 0 rfl ?_
    have j10 : Inv (upC (upC (upC (upC (upC σ1 12 7 ((σ0 12 7) - 1)) 12 9 (σ0 12 10)) 12 8 r3) 12 10 r5) 12 11 r7) := ⟨iσ1.1, iσ1.2.1, iσ1.2.2.1, iσ1.2.2.2.1, iσ1.2.2.2.2.1, iσ1.2.2.2.2.2.1, iσ1.2.2.2.2.2.2.1, iσ1.2.2.2.2.2.2.2.1, iσ1.2.2.2.2.2.2.2.2.1, iσ1.2.2.2.2.2.2.2.2.2.1, iσ1.2.2.2.2.2.2.2.2.2.2.1, iσ1.2.2.2.2.2.2.2.2.2.2.2.1, iσ1.2.2.2.2.2.2.2.2.2.2.2.2.1, iσ1.2.2.2.2.2.2.2.2.2.2.2.2.2.1, iσ1.2.2.2.2.2.2.2.2.2.2.2.2.2.2.1, iσ1.2.2.2.2.2.2.2.2.2.2.2.2.2.2.2.1, iσ1.2.2.2.2.2.2.2.2.2.2.2.2.2.2.2.2.1, iσ1.2.2.2.2.2.2.2.2.2.2.2.2.2.2.2.2.2.1, iσ1.2.2.2.2.2.2.2.2.2.2.2.2.2.2.2.2.2.2.1, iσ1.2.2.2.2.2.2.2.2.2.2.2.2.2.2.2.2.2.2.2⟩
    refine g_callV (As := [.int r1]) (rest := []) hF (c_X5_push a g r (upC (upC (upC (upC (upC σ1 12 7 ((σ0 12 7) - 1)) 12 9 (σ0 12 10)) 12 8 r3) 12 10 r5) 12 11 r7) r1 j10) (Nat.le_of_ble_eq_true rfl) mV_X5_push m_1686 (recv_ob obC_12) rfl rfl (Nat.le_of_ble_eq_true rfl) d_X5_giveBack_100 (k_v (fun σ9 ⟨iσ9, ik9⟩ => ?_)) (fun _ _ _ h => h.elim)
    have kp : Keep [(12, 7), (12, 8), (12, 9), (12, 10), (12, 11), (12, 13), (12, 15)] [63] σ0 σ9 := keep_c kp ik9 (by decide) (by decide)
    exact g_vret hF rfl d_X5_giveBack_103 ⟨rfl, rfl, rfl, ⟨iσ9, kp⟩⟩
  · -- not taken at 82
    refine g_aload_n hF d_X5_giveBack_85 rfl 1 rfl ?_
    refine g_iload_n hF d_X5_giveBack_86 rfl 0 rfl ?_
    refine g_put (v := r1) hF 15 obC_12 (by decide) m_688 rfl rfl rfl d_X5_giveBack_87 ?_
    have kp : Keep [(12, 7), (12, 8), (12, 9), (12, 10), (12, 11), (12, 13), (12, 15)] [63] σ0 (upC (upC (upC (upC (upC (upC σ1 12 7 ((σ0 12 7) - 1)) 12 9 (σ0 12 10)) 12 8 r3) 12 10 r5) 12 11 r7) 12 15 r1) := keep_f kp (by decide)
    refine g_aload_n hF d_X5_giveBack_90 rfl 1 rfl ?_
    refine g_iconst hF (v := 0) d_X5_giveBack_91 (by decide) ?_
    refine g_put (v := 0) hF 13 obC_12 (by decide) m_685 rfl rfl rfl d_X5_giveBack_92 ?_
    have kp : Keep [(12, 7), (12, 8), (12, 9), (12, 10), (12, 11), (12, 13), (12, 15)] [63] σ0 (upC (upC (upC (upC (upC (upC (upC σ1 12 7 ((σ0 12 7) - 1)) 12 9 (σ0 12 10)) 12 8 r3) 12 10 r5) 12 11 r7) 12 15 r1) 12 13 0) := keep_f kp (by decide)
    refine g_goto hF 103 d_X5_giveBack_95 (by decide) ?_
    have j11 : Inv (upC (upC (upC (upC (upC (upC (upC σ1 12 7 ((σ0 12 7) - 1)) 12 9 (σ0 12 10)) 12 8 r3) 12 10 r5) 12 11 r7) 12 15 r1) 12 13 0) := ⟨iσ1.1, iσ1.2.1, iσ1.2.2.1, iσ1.2.2.2.1, iσ1.2.2.2.2.1, iσ1.2.2.2.2.2.1, iσ1.2.2.2.2.2.2.1, iσ1.2.2.2.2.2.2.2.1, iσ1.2.2.2.2.2.2.2.2.1, iσ1.2.2.2.2.2.2.2.2.2.1, iσ1.2.2.2.2.2.2.2.2.2.2.1, iσ1.2.2.2.2.2.2.2.2.2.2.2.1, iσ1.2.2.2.2.2.2.2.2.2.2.2.2.1, iσ1.2.2.2.2.2.2.2.2.2.2.2.2.2.1, iσ1.2.2.2.2.2.2.2.2.2.2.2.2.2.2.1, iσ1.2.2.2.2.2.2.2.2.2.2.2.2.2.2.2.1, iσ1.2.2.2.2.2.2.2.2.2.2.2.2.2.2.2.2.1, iσ1.2.2.2.2.2.2.2.2.2.2.2.2.2.2.2.2.2.1, iσ1.2.2.2.2.2.2.2.2.2.2.2.2.2.2.2.2.2.2.1, iσ1.2.2.2.2.2.2.2.2.2.2.2.2.2.2.2.2.2.2.2⟩
    exact g_vret hF rfl d_X5_giveBack_103 ⟨rfl, rfl, rfl, ⟨j11, kp⟩⟩
set_option maxHeartbeats 4000000 in
set_option maxRecDepth 100000 in
theorem c_X5_isCell (a : Nat → Nat) (g : Nat → Nat → Int32) (r : Nat → Nat) (σ0 : St) (a0 : Int32) (i0 : Inv σ0) (l : Launch) (D : va_G) (cy : Nat → ClassId) : Ct l D cy SC r (EC a g) y_X5_isCell (Cond.code y_X5_isCell b_X5_isCell 1 (some .boolean)) 0 [.int a0] σ0 Z0 [] (QI (fun v9 σ9 => (v9 = 0 ∨ v9 = 1) ∧ σ9 = σ0)) QF := by
  refine Ct_of (EC_ok a g) (by decide) (Nat.le_of_ble_eq_true rfl) (by decide) (fun X hnn hF => ?_)
  show G SC r X σ0 Z0 [] [(0, .int a0)] [] 0
  refine g_iload_n hF d_X5_isCell_0 rfl 0 rfl ?_
  refine g_bipush hF (v := 16) d_X5_isCell_1 (by decide) ?_
  refine g_icmp_lt (yv := 16) hF 16 d_X5_isCell_3 (by decide) rfl (by decide) (fun c1_3 => ?_) (fun c1_3 => ?_)
  · -- taken at 3
    refine g_iconst hF (v := 0) d_X5_isCell_16 (by decide) ?_
    exact g_zret hF rfl (k_nz (Or.inl rfl)) d_X5_isCell_17 ⟨rfl, rfl, (0 : Int32), rfl, (Or.inl rfl), rfl⟩
  · -- not taken at 3
    refine g_iload_n hF d_X5_isCell_6 rfl 0 rfl ?_
    refine g_ldc (v := 32768) hF m_669 d_X5_isCell_7 ?_
    refine g_icmp_ge (yv := 32768) hF 16 d_X5_isCell_9 (by decide) rfl (by decide) (fun c2_9 => ?_) (fun c2_9 => ?_)
    · -- taken at 9
      refine g_iconst hF (v := 0) d_X5_isCell_16 (by decide) ?_
      exact g_zret hF rfl (k_nz (Or.inl rfl)) d_X5_isCell_17 ⟨rfl, rfl, (0 : Int32), rfl, (Or.inl rfl), rfl⟩
    · -- not taken at 9
      refine g_iconst hF (v := 1) d_X5_isCell_12 (by decide) ?_
      refine g_goto hF 17 d_X5_isCell_13 (by decide) ?_
      exact g_zret hF rfl (k_nz (Or.inr rfl)) d_X5_isCell_17 ⟨rfl, rfl, (1 : Int32), rfl, (Or.inr rfl), rfl⟩
set_option maxHeartbeats 4000000 in
set_option maxRecDepth 100000 in
theorem c_X5_peeked (a : Nat → Nat) (g : Nat → Nat → Int32) (r : Nat → Nat) (σ0 : St) (i0 : Inv σ0) (l : Launch) (D : va_G) (cy : Nat → ClassId) : Ct l D cy SC r (EC a g) y_X5_peeked (Cond.code y_X5_peeked b_X5_peeked 1 (some .int)) 1 [.ref (r 12)] σ0 Z0 [] (QI (fun _ σ9 => σ9 = σ0)) QF := by
  refine Ct_of (EC_ok a g) (by decide) (Nat.le_of_ble_eq_true rfl) (by decide) (fun X hnn hF => ?_)
  show G SC r X σ0 Z0 [] [(0, .ref (r 12))] [] 0
  refine g_aload_n hF d_X5_peeked_0 rfl 0 rfl ?_
  refine g_get (v := .ref (r 63)) hF 5 obC_12 (by decide) m_677 rfl d_X5_peeked_1 ?_
  refine g_aload_n hF d_X5_peeked_4 rfl 0 rfl ?_
  refine g_get (v := .int (σ0 12 9)) hF 9 obC_12 (by decide) m_681 rfl d_X5_peeked_5 ?_
  refine g_iconst hF (v := 1) d_X5_peeked_8 (by decide) ?_
  refine g_isub hF d_X5_peeked_9 ?_
  refine g_callSN (As := [.ref (r 63), .int ((σ0 12 9) - 1)]) (rest := []) hF (c_at a g r σ0 arC_63 (by decide) ((σ0 12 9) - 1)) (Nat.le_of_ble_eq_true rfl) mS_X12_at nm_1660 rfl rfl (Nat.le_of_ble_eq_true rfl) d_X5_peeked_10 (k_rop (fun r1 hr1 => ?_))
  exact g_iret hF rfl d_X5_peeked_13 ⟨rfl, rfl, r1, rfl, rfl⟩
set_option maxHeartbeats 4000000 in
set_option maxRecDepth 100000 in
theorem c_X9_useUp (a : Nat → Nat) (g : Nat → Nat → Int32) (r : Nat → Nat) (σ0 : St) (i0 : Inv σ0) (l : Launch) (D : va_G) (cy : Nat → ClassId) : Ct l D cy SC r (EC a g) y_X9_useUp (Cond.code y_X9_useUp b_X9_useUp 1 none) 0 [.ref (r 11)] σ0 Z0 [] (QV (fun σ9 => (Inv σ9 ∧ Keep [(11, 0)] [] σ0 σ9))) QF := by
  refine Ct_of (EC_ok a g) (by decide) (Nat.le_of_ble_eq_true rfl) (by decide) (fun X hnn hF => ?_)
  show G SC r X σ0 Z0 [] [(0, .ref (r 11))] [] 0
  have kp : Keep [(11, 0)] [] σ0 σ0 := keep_rf
  refine g_aload_n hF d_X9_useUp_0 rfl 0 rfl ?_
  refine g_iconst hF (v := 0) d_X9_useUp_1 (by decide) ?_
  refine g_put (v := 0) hF 0 obC_11 (by decide) m_646 rfl rfl rfl d_X9_useUp_2 ?_
  have kp : Keep [(11, 0)] [] σ0 (upC σ0 11 0 0) := keep_f kp (by decide)
  have p1 : 0 ≤ (0 : Int32).toInt ∧ (0 : Int32).toInt ≤ 4096 := (by have e0 : (0 : Int32).toInt = 0 := (by decide); omega)
  have j2 : Inv (upC σ0 11 0 0) := ⟨i0.1, i0.2.1, i0.2.2.1, i0.2.2.2.1, i0.2.2.2.2.1, i0.2.2.2.2.2.1, i0.2.2.2.2.2.2.1, i0.2.2.2.2.2.2.2.1, i0.2.2.2.2.2.2.2.2.1, p1, i0.2.2.2.2.2.2.2.2.2.2.1, i0.2.2.2.2.2.2.2.2.2.2.2.1, i0.2.2.2.2.2.2.2.2.2.2.2.2.1, i0.2.2.2.2.2.2.2.2.2.2.2.2.2.1, i0.2.2.2.2.2.2.2.2.2.2.2.2.2.2.1, i0.2.2.2.2.2.2.2.2.2.2.2.2.2.2.2.1, i0.2.2.2.2.2.2.2.2.2.2.2.2.2.2.2.2.1, i0.2.2.2.2.2.2.2.2.2.2.2.2.2.2.2.2.2.1, i0.2.2.2.2.2.2.2.2.2.2.2.2.2.2.2.2.2.2.1, i0.2.2.2.2.2.2.2.2.2.2.2.2.2.2.2.2.2.2.2⟩
  exact g_vret hF rfl d_X9_useUp_5 ⟨rfl, rfl, rfl, ⟨j2, kp⟩⟩
set_option maxHeartbeats 4000000 in
set_option maxRecDepth 100000 in
theorem c_X12_result (a : Nat → Nat) (g : Nat → Nat → Int32) (r : Nat → Nat) (σ0 : St) (i0 : Inv σ0) (l : Launch) (D : va_G) (cy : Nat → ClassId) : Ct l D cy SC r (EC a g) y_X12_result (Cond.code y_X12_result b_X12_result 1 (some .int)) 0 [.ref (r 0)] σ0 Z0 [] (QI (fun _ σ9 => σ9 = σ0)) QF := by
  refine Ct_of (EC_ok a g) (by decide) (Nat.le_of_ble_eq_true rfl) (by decide) (fun X hnn hF => ?_)
  show G SC r X σ0 Z0 [] [(0, .ref (r 0))] [] 0
  refine g_aload_n hF d_X12_result_0 rfl 0 rfl ?_
  refine g_get (v := .ref (r 12)) hF 14 obC_0 (by decide) m_749 rfl d_X12_result_1 ?_
  refine g_getN (v := .int (σ0 12 15)) hF 15 obC_12 (by decide) nm_689 rfl d_X12_result_4 ?_
  exact g_iret hF rfl d_X12_result_7 ⟨rfl, rfl, (σ0 12 15), rfl, rfl⟩
