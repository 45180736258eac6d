set_option maxHeartbeats 4000000 in
set_option maxRecDepth 100000 in
theorem kt_X10_readCodes (a : Nat → Nat) (r : Nat → Nat) {a1 : Int32} {σ : St} {Q : Int32 → St → Prop} (w : wk_X10_readCodes a1 σ Q) (l : Launch) (D : va_G) (cy : Nat → ClassId) : Ct l D cy SC r (EC a gC) y_X10_readCodes (Cond.code y_X10_readCodes b_X10_readCodes 5 (some .int)) 2 [.ref (r 2), .int a1] σ Z0 [] (QI Q) QT0 := by
  unfold wk_X10_readCodes at w
  refine Ct_of (EC_ok a gC) (by decide) (Nat.le_of_ble_eq_true rfl) (by decide) (fun X hnn hF => ?_)
  show G SC r X σ Z0 [] [(0, .ref (r 2)), (1, .int a1)] [] 0
  refine g_aload_n hF d_X10_readCodes_0 rfl 0 rfl ?_
  refine g_get (v := .ref (r 14)) hF 6 obC_2 (by decide) m_52 rfl d_X10_readCodes_1 ?_
  refine g_iload_n hF d_X10_readCodes_4 rfl 1 rfl ?_
  refine g_callSN (As := [.ref (r 14), .int a1]) (rest := []) hF (c_atv a r σ arC_14 (by decide) a1) (Nat.le_of_ble_eq_true rfl) mS_X12_at nm_1085 rfl rfl (Nat.le_of_ble_eq_true rfl) d_X10_readCodes_5 (kQ ?_)
  refine g_top (v := (atv 16002 (σ 14) a1)) rfl ?_
  refine g_sipush hF (v := 200) d_X10_readCodes_8 (by decide) ?_
  refine g_mmin hF (Nat.le_of_ble_eq_true rfl) m_1086 m_1087 m_23 m_1088 (Nat.le_of_ble_eq_true rfl) d_X10_readCodes_11 ?_
  refine g_istore_n hF [(2, .int (if (200 : Int32) < (atv 16002 (σ 14) a1) then (200 : Int32) else (atv 16002 (σ 14) a1))), (0, .ref (r 2)), (1, .int a1)] d_X10_readCodes_14 rfl hnn (by decide) rfl ?_
  refine g_aload_n hF d_X10_readCodes_15 rfl 1 rfl ?_
  refine g_get (v := .ref (r 15)) hF 7 obC_2 (by decide) m_56 rfl d_X10_readCodes_16 ?_
  refine g_iload_n hF d_X10_readCodes_19 rfl 2 rfl ?_
  refine g_callSN (As := [.ref (r 15), .int a1]) (rest := []) hF (c_atv a r σ arC_15 (by decide) a1) (Nat.le_of_ble_eq_true rfl) mS_X12_at nm_1085 rfl rfl (Nat.le_of_ble_eq_true rfl) d_X10_readCodes_20 (kQ ?_)
  refine g_top (v := (atv 16002 (σ 15) a1)) rfl ?_
  refine g_iconst hF (v := 1) d_X10_readCodes_23 (by decide) ?_
  refine g_iadd hF d_X10_readCodes_24 ?_
  refine g_istore_n hF [(3, .int ((atv 16002 (σ 15) a1) + (1 : Int32))), (2, .int (if (200 : Int32) < (atv 16002 (σ 14) a1) then (200 : Int32) else (atv 16002 (σ 14) a1))), (0, .ref (r 2)), (1, .int a1)] d_X10_readCodes_25 rfl hnn (by decide) rfl ?_
  refine g_iconst hF (v := 0) d_X10_readCodes_26 (by decide) ?_
  refine g_istore hF [(4, .int 0), (3, .int ((atv 16002 (σ 15) a1) + (1 : Int32))), (2, .int (if (200 : Int32) < (atv 16002 (σ 14) a1) then (200 : Int32) else (atv 16002 (σ 14) a1))), (0, .ref (r 2)), (1, .int a1)] d_X10_readCodes_27 hnn (by decide) rfl ?_
  obtain ⟨L29, ⟨i29, u29⟩, h29⟩ := w
  have b29 : ∀ (n29 : Nat) (x3_29 : Int32) (x4_29 : Int32) (s29 : St), L29 n29 x3_29 x4_29 s29 → G SC r X s29 Z0 [] [(0, .ref (r 2)), (2, .int (if (200 : Int32) < (atv 16002 (σ 14) a1) then (200 : Int32) else (atv 16002 (σ 14) a1))), (3, .int x3_29), (4, .int x4_29)] [] 29 := by
    intro n29
    induction n29 using Nat.strongRecOn with
    | _ n29 ih29 =>
      intro x3_29 x4_29 s29  w29_
      have w29_ := h29 n29 x3_29 x4_29 s29  w29_
      refine g_iload hF d_X10_readCodes_29 3 rfl ?_
      refine g_iload_n hF d_X10_readCodes_31 rfl 1 rfl ?_
      refine g_icmp_ge hF 65 d_X10_readCodes_32 (by decide) rfl rfl (fun c => ?_) (fun c => ?_)
      · have w1 := w29_.1 c
        refine g_iload_n hF d_X10_readCodes_65 rfl 1 rfl ?_
        exact g_iret hF rfl d_X10_readCodes_66 ⟨rfl, rfl, (if (200 : Int32) < (atv 16002 (σ 14) a1) then (200 : Int32) else (atv 16002 (σ 14) a1)), rfl, w1⟩
      · have w2 := w29_.2 c
        refine g_aload_n hF d_X10_readCodes_35 rfl 0 rfl ?_
        refine g_get (v := .ref (r 17)) hF 9 obC_2 (by decide) m_62 rfl d_X10_readCodes_36 ?_
        refine g_iload hF d_X10_readCodes_39 3 rfl ?_
        refine g_aload_n hF d_X10_readCodes_41 rfl 0 rfl ?_
        refine g_iload_n hF d_X10_readCodes_42 rfl 2 rfl ?_
        refine g_bipush hF (v := 34) d_X10_readCodes_43 (by decide) ?_
        refine g_callV (As := [.int x3_29, .int 34]) (rest := [.int x4_29, .ref (r 17)]) hF (fun l D cy => kt_X10_codeAt a r w2 l D cy) (Nat.le_of_ble_eq_true rfl) mV_X10_codeAt m_875 (recv_ob obC_2) rfl rfl (Nat.le_of_ble_eq_true rfl) d_X10_readCodes_45 (qIr (fun v45 w3 => ?_)) (fun _ _ _ h => h.elim)
        refine g_callSN (As := [.ref (r 17), .int x4_29, .int v45]) (rest := []) hF (c_setv a r s29 arC_17 (by decide) x4_29 v45) (Nat.le_of_ble_eq_true rfl) mS_X12_set nm_1089 rfl rfl (Nat.le_of_ble_eq_true rfl) d_X10_readCodes_48 (kU ?_)
        refine g_iload_n hF d_X10_readCodes_51 rfl 2 rfl ?_
        refine g_aload_n hF d_X10_readCodes_52 rfl 0 rfl ?_
        refine g_iload_n hF d_X10_readCodes_53 rfl 2 rfl ?_
        refine g_callV (As := [.int x3_29]) (rest := [.int x3_29]) hF (fun l D cy => kt_X10_widthAt a r w3 l D cy) (Nat.le_of_ble_eq_true rfl) mV_X10_widthAt m_879 (recv_ob obC_2) rfl rfl (Nat.le_of_ble_eq_true rfl) d_X10_readCodes_54 (qIr (fun v54 w4 => ?_)) (fun _ _ _ h => h.elim)
        refine g_iadd hF d_X10_readCodes_57 ?_
        refine g_istore_n hF [(3, .int (x3_29 + v54)), (0, .ref (r 2)), (2, .int (if (200 : Int32) < (atv 16002 (σ 14) a1) then (200 : Int32) else (atv 16002 (σ 14) a1))), (4, .int x4_29)] d_X10_readCodes_58 rfl hnn (by decide) rfl ?_
        refine g_iinc hF (x4_29 + 1) [(4, .int (x4_29 + 1)), (3, .int (x3_29 + v54)), (0, .ref (r 2)), (2, .int (if (200 : Int32) < (atv 16002 (σ 14) a1) then (200 : Int32) else (atv 16002 (σ 14) a1)))] d_X10_readCodes_59 3 rfl rfl hnn (by decide) rfl ?_
        refine g_goto hF 29 d_X10_readCodes_62 (by decide) ?_
        obtain ⟨m29, hm29, w9⟩ := w4
        exact g_sub (L' := [(0, .ref (r 2)), (2, .int (if (200 : Int32) < (atv 16002 (σ 14) a1) then (200 : Int32) else (atv 16002 (σ 14) a1))), (3, .int (x3_29 + v54)), (4, .int (x4_29 + 1))]) [2, 3, 1, 0] rfl (ih29 m29 hm29 (x3_29 + v54) (x4_29 + 1) (upF s29 17 (setv 200 (s29 17) x4_29 v45)) w9)
  exact g_sub (L' := [(0, .ref (r 2)), (2, .int (if (200 : Int32) < (atv 16002 (σ 14) a1) then (200 : Int32) else (atv 16002 (σ 14) a1))), (3, .int ((atv 16002 (σ 15) a1) + (1 : Int32))), (4, .int 0)]) [3, 2, 1, 0] rfl (b29 i29 ((atv 16002 (σ 15) a1) + (1 : Int32)) (0 : Int32) σ u29)
set_option maxHeartbeats 4000000 in
set_option maxRecDepth 100000 in
theorem kt_X6_become (a : Nat → Nat) (r : Nat → Nat) {a0 : Nat} {a1 : Int32} {a2 : Int32} {σ : St} {Q : St → Prop} (ha0 : isOp a0) (w : wk_X6_become a0 a1 a2 σ Q) (l : Launch) (D : va_G) (cy : Nat → ClassId) : Ct l D cy SC r (EC a gC) y_X6_become (Cond.code y_X6_become b_X6_become 3 none) 0 [.ref (r a0), .int a1, .int a2] σ Z0 [] (QV Q) QT0 := by
  unfold wk_X6_become at w
  refine Ct_of (EC_ok a gC) (by decide) (Nat.le_of_ble_eq_true rfl) (by decide) (fun X hnn hF => ?_)
  show G SC r X σ Z0 [] [(0, .ref (r a0)), (1, .int a1), (2, .int a2)] [] 0
  refine g_aload_n hF d_X6_become_0 rfl 0 rfl ?_
  refine g_iconst hF (v := 0) d_X6_become_1 (by decide) ?_
  refine g_put (v := 0) hF 0 (obC_op ha0) (by decide) m_398 rfl rfl (rf_op ha0) d_X6_become_2 ?_
  obtain ⟨s0n, es0n⟩ : ∃ z, z = upC σ a0 0 (0 : Int32) := ⟨_, rfl⟩
  rw [← es0n]
  have w2 := w s0n es0n
  refine g_aload_n hF d_X6_become_5 rfl 0 rfl ?_
  refine g_iload_n hF d_X6_become_6 rfl 1 rfl ?_
  refine g_put (v := a1) hF 1 (obC_op ha0) (by decide) m_400 rfl rfl (rf_op ha0) d_X6_become_7 ?_
  obtain ⟨s2n, es2n⟩ : ∃ z, z = upC s0n a0 1 a1 := ⟨_, rfl⟩
  rw [← es2n]
  have w4 := w2 s2n es2n
  refine g_aload_n hF d_X6_become_10 rfl 0 rfl ?_
  refine g_iload_n hF d_X6_become_11 rfl 2 rfl ?_
  refine g_put (v := a2) hF 6 (obC_op ha0) (by decide) m_411 rfl rfl (rf_op ha0) d_X6_become_12 ?_
  obtain ⟨s4n, es4n⟩ : ∃ z, z = upC s2n a0 6 a2 := ⟨_, rfl⟩
  rw [← es4n]
  have w6 := w4 s4n es4n
  refine g_aload_n hF d_X6_become_15 rfl 0 rfl ?_
  refine g_iconst hF (v := 0) d_X6_become_16 (by decide) ?_
  refine g_putZ (v := 0) hF 3 (obC_op ha0) (by decide) m_405 rfl rfl (rf_op ha0) (Or.inl rfl) d_X6_become_17 ?_
  obtain ⟨s6n, es6n⟩ : ∃ z, z = upC s4n a0 3 (0 : Int32) := ⟨_, rfl⟩
  rw [← es6n]
  have w8 := w6 s6n es6n
  exact g_vret hF rfl d_X6_become_20 ⟨rfl, rfl, rfl, w8⟩
set_option maxHeartbeats 4000000 in
set_option maxRecDepth 100000 in
theorem kt_X8_addInitial (a : Nat → Nat) (r : Nat → Nat) {a1 : Int32} {a2 : Int32} {a3 : Int32} {σ : St} {Q : St → Prop} (w : wk_X8_addInitial a1 a2 a3 σ Q) (l : Launch) (D : va_G) (cy : Nat → ClassId) : Ct l D cy SC r (EC a gC) y_X8_addInitial (Cond.code y_X8_addInitial b_X8_addInitial 4 none) 1 [.ref (r 5), .int a1, .int a2, .int a3] σ Z0 [] (QV Q) QT0 := by
  unfold wk_X8_addInitial at w
  refine Ct_of (EC_ok a gC) (by decide) (Nat.le_of_ble_eq_true rfl) (by decide) (fun X hnn hF => ?_)
  show G SC r X σ Z0 [] [(0, .ref (r 5)), (1, .int a1), (2, .int a2), (3, .int a3)] [] 0
  refine g_aload_n hF d_X8_addInitial_0 rfl 0 rfl ?_
  refine g_get (v := .ref (r 31)) hF 10 obC_5 (by decide) m_243 rfl d_X8_addInitial_1 ?_
  refine g_aload_n hF d_X8_addInitial_4 rfl 0 rfl ?_
  refine g_get (v := .int (σ 5 9)) hF 9 obC_5 (by decide) m_242 rfl d_X8_addInitial_5 ?_
  refine g_iload_n hF d_X8_addInitial_8 rfl 1 rfl ?_
  refine g_callSN (As := [.ref (r 31), .int (σ 5 9), .int a1]) (rest := []) hF (c_setv a r σ arC_31 (by decide) (σ 5 9) a1) (Nat.le_of_ble_eq_true rfl) mS_X12_set nm_1098 rfl rfl (Nat.le_of_ble_eq_true rfl) d_X8_addInitial_9 (kU ?_)
  refine g_aload_n hF d_X8_addInitial_12 rfl 0 rfl ?_
  refine g_get (v := .ref (r 32)) hF 11 obC_5 (by decide) m_245 rfl d_X8_addInitial_13 ?_
  refine g_aload_n hF d_X8_addInitial_16 rfl 0 rfl ?_
  refine g_get (v := .int (σ 5 9)) hF 9 obC_5 (by decide) m_242 rfl d_X8_addInitial_17 ?_
  refine g_iload_n hF d_X8_addInitial_20 rfl 2 rfl ?_
  refine g_callSN (As := [.ref (r 32), .int (σ 5 9), .int a2]) (rest := []) hF (c_setv a r (upF σ 31 (setv 65536 (σ 31) (σ 5 9) a1)) arC_32 (by decide) (σ 5 9) a2) (Nat.le_of_ble_eq_true rfl) mS_X12_set nm_1098 rfl rfl (Nat.le_of_ble_eq_true rfl) d_X8_addInitial_21 (kU ?_)
  refine g_aload_n hF d_X8_addInitial_24 rfl 0 rfl ?_
  refine g_get (v := .ref (r 33)) hF 12 obC_5 (by decide) m_247 rfl d_X8_addInitial_25 ?_
  refine g_aload_n hF d_X8_addInitial_28 rfl 0 rfl ?_
  refine g_get (v := .int (σ 5 9)) hF 9 obC_5 (by decide) m_242 rfl d_X8_addInitial_29 ?_
  refine g_iload_n hF d_X8_addInitial_32 rfl 3 rfl ?_
  refine g_callSN (As := [.ref (r 33), .int (σ 5 9), .int a3]) (rest := []) hF (c_setv a r (upF (upF σ 31 (setv 65536 (σ 31) (σ 5 9) a1)) 32 (setv 65536 ((upF σ 31 (setv 65536 (σ 31) (σ 5 9) a1)) 32) (σ 5 9) a2)) arC_33 (by decide) (σ 5 9) a3) (Nat.le_of_ble_eq_true rfl) mS_X12_set nm_1098 rfl rfl (Nat.le_of_ble_eq_true rfl) d_X8_addInitial_33 (kU ?_)
  refine g_aload_n hF d_X8_addInitial_36 rfl 0 rfl ?_
  refine g_aload_n hF d_X8_addInitial_37 rfl 0 rfl ?_
  refine g_get (v := .int (σ 5 9)) hF 9 obC_5 (by decide) m_242 rfl d_X8_addInitial_38 ?_
  refine g_iconst hF (v := 1) d_X8_addInitial_41 (by decide) ?_
  refine g_iadd hF d_X8_addInitial_42 ?_
  refine g_ldc (v := 65536) hF m_169 d_X8_addInitial_43 ?_
  refine g_mmin hF (Nat.le_of_ble_eq_true rfl) m_1099 m_1087 m_23 m_1088 (Nat.le_of_ble_eq_true rfl) d_X8_addInitial_45 ?_
  refine g_put (v := (if (65536 : Int32) < ((σ 5 9) + (1 : Int32)) then (65536 : Int32) else ((σ 5 9) + (1 : Int32)))) hF 9 obC_5 (by decide) m_242 rfl rfl rfl d_X8_addInitial_48 ?_
  exact g_vret hF rfl d_X8_addInitial_51 ⟨rfl, rfl, rfl, w⟩
set_option maxHeartbeats 4000000 in
set_option maxRecDepth 100000 in
theorem kt_X2_string (a : Nat → Nat) (r : Nat → Nat) {a1 : Int32} {σ : St} {Q : St → Prop} (w : wk_X2_string a1 σ Q) (l : Launch) (D : va_G) (cy : Nat → ClassId) : Ct l D cy SC r (EC a gC) y_X2_string (Cond.code y_X2_string b_X2_string 5 none) 3 [.ref (r 7), .int a1] σ Z0 [] (QV Q) QT0 := by
  unfold wk_X2_string at w
  refine Ct_of (EC_ok a gC) (by decide) (Nat.le_of_ble_eq_true rfl) (by decide) (fun X hnn hF => ?_)
  show G SC r X σ Z0 [] [(0, .ref (r 7)), (1, .int a1)] [] 0
  refine g_aload_n hF d_X2_string_0 rfl 0 rfl ?_
  refine g_get (v := .ref (r 2)) hF 1 obC_7 (by decide) m_457 rfl d_X2_string_1 ?_
  refine g_iload_n hF d_X2_string_4 rfl 1 rfl ?_
  refine g_callVN (As := [.int a1]) (rest := []) hF (fun l D cy => kt_X10_readCodes a r w l D cy) (Nat.le_of_ble_eq_true rfl) mV_X10_readCodes nm_1081 (recv_ob obC_2) rfl rfl (Nat.le_of_ble_eq_true rfl) d_X2_string_5 (qI (fun v5 s5 w1 => ?_))
  refine g_istore_n hF [(2, .int v5), (0, .ref (r 7)), (1, .int a1)] d_X2_string_8 rfl hnn (by decide) rfl ?_
  refine g_aload_n hF d_X2_string_9 rfl 1 rfl ?_
  refine g_get (v := .ref (r 6)) hF 2 obC_7 (by decide) m_458 rfl d_X2_string_10 ?_
  refine g_getN (v := .int (s5 6 5)) hF 5 obC_6 (by decide) nm_323 rfl d_X2_string_13 ?_
  refine g_istore_n hF [(3, .int (s5 6 5)), (2, .int v5), (0, .ref (r 7)), (1, .int a1)] d_X2_string_16 rfl hnn (by decide) rfl ?_
  refine g_iload_n hF d_X2_string_17 rfl 0 rfl ?_
  refine g_iload_n hF d_X2_string_18 rfl 1 rfl ?_
  refine g_iadd hF d_X2_string_19 ?_
  refine g_iconst hF (v := 1) d_X2_string_20 (by decide) ?_
  refine g_iadd hF d_X2_string_21 ?_
  refine g_sipush hF (v := 16000) d_X2_string_22 (by decide) ?_
  obtain ⟨J37, h37, w2⟩ := w1
  have b37 : ∀ (s37 : St), J37 s37 → G SC r X s37 Z0 [] [(0, .ref (r 7)), (2, .int v5), (3, .int (s5 6 5))] [] 37 := by
    intro s37  w37_
    have w37_ := h37 s37  w37_
    refine g_aload_n hF d_X2_string_37 rfl 0 rfl ?_
    refine g_get (v := .ref (r 6)) hF 2 obC_7 (by decide) m_458 rfl d_X2_string_38 ?_
    refine g_dup hF d_X2_string_41 rfl ?_
    refine g_getN (v := .int (s37 6 5)) hF 5 obC_6 (by decide) nm_323 rfl d_X2_string_42 ?_
    refine g_iload_n hF d_X2_string_45 rfl 1 rfl ?_
    refine g_iconst hF (v := 1) d_X2_string_46 (by decide) ?_
    refine g_iadd hF d_X2_string_47 ?_
    refine g_iadd hF d_X2_string_48 ?_
    refine g_putN (v := ((s37 6 5) + (v5 + (1 : Int32)))) hF 5 obC_6 (by decide) nm_323 rfl rfl rfl d_X2_string_49 ?_
    refine g_iconst hF (v := 0) d_X2_string_52 (by decide) ?_
    refine g_istore hF [(4, .int 0), (0, .ref (r 7)), (2, .int v5), (3, .int (s5 6 5))] d_X2_string_53 hnn (by decide) rfl ?_
    obtain ⟨L55, ⟨i55, u55⟩, h55⟩ := w37_
    have b55 : ∀ (n55 : Nat) (x4_55 : Int32) (s55 : St), L55 n55 x4_55 s55 → G SC r X s55 Z0 [] [(0, .ref (r 7)), (2, .int v5), (3, .int (s5 6 5)), (4, .int x4_55)] [] 55 := by
      intro n55
      induction n55 using Nat.strongRecOn with
      | _ n55 ih55 =>
        intro x4_55 s55  w55_
        have w55_ := h55 n55 x4_55 s55  w55_
        refine g_iload hF d_X2_string_55 3 rfl ?_
        refine g_iload_n hF d_X2_string_57 rfl 1 rfl ?_
        refine g_icmp_ge hF 92 d_X2_string_58 (by decide) rfl rfl (fun c => ?_) (fun c => ?_)
        · have w3 := w55_.1 c
          refine g_aload_n hF d_X2_string_92 rfl 0 rfl ?_
          refine g_callV (As := []) (rest := []) hF (fun l D cy => kt_X2_push a r w3 l D cy) (Nat.le_of_ble_eq_true rfl) mV_X2_push m_1063 (recv_ob obC_7) rfl rfl (Nat.le_of_ble_eq_true rfl) d_X2_string_93 (qA (fun u93 s93 hz93 w4 => ?_)) (fun _ _ _ h => h.elim)
          refine g_astore hF [(4, .ref (r u93)), (0, .ref (r 7)), (2, .int v5), (3, .int (s5 6 5))] d_X2_string_96 hnn (by decide) rfl ?_
          refine g_aload hF d_X2_string_98 0 rfl ?_
          refine g_iconst hF (v := 1) d_X2_string_100 (by decide) ?_
          refine g_iconst hF (v := 2) d_X2_string_101 (by decide) ?_
          refine g_callVN (As := [.int 1, .int 2]) (rest := []) hF (fun l D cy => kt_X6_become a r hz93 w4 l D cy) (Nat.le_of_ble_eq_true rfl) mV_X6_become nm_1100 (recv_ob (obC_op hz93)) rfl rfl (Nat.le_of_ble_eq_true rfl) d_X2_string_102 (qV (fun s102 w5 => ?_))
          refine g_aload hF d_X2_string_105 0 rfl ?_
          refine g_iconst hF (v := (-1)) d_X2_string_107 (by decide) ?_
          refine g_putN (v := (-1)) hF 7 (obC_op hz93) (by decide) nm_414 rfl rfl (rf_op hz93) d_X2_string_108 ?_
          obtain ⟨s5n, es5n⟩ : ∃ z, z = upC s102 u93 7 ((-1) : Int32) := ⟨_, rfl⟩
          rw [← es5n]
          have w7 := w5 s5n es5n
          refine g_aload hF d_X2_string_111 0 rfl ?_
          refine g_iload_n hF d_X2_string_113 rfl 3 rfl ?_
          refine g_putN (v := (s5 6 5)) hF 8 (obC_op hz93) (by decide) nm_418 rfl rfl (rf_op hz93) d_X2_string_114 ?_
          obtain ⟨s7n, es7n⟩ : ∃ z, z = upC s5n u93 8 (s5 6 5) := ⟨_, rfl⟩
          rw [← es7n]
          have w9 := w7 s7n es7n
          refine g_aload_n hF d_X2_string_117 rfl 1 rfl ?_
          refine g_get (v := .ref (r 4)) hF 4 obC_7 (by decide) m_461 rfl d_X2_string_118 ?_
          refine g_iconst hF (v := 3) d_X2_string_121 (by decide) ?_
          refine g_aload_n hF d_X2_string_122 rfl 1 rfl ?_
          refine g_get (v := .ref (r 5)) hF 3 obC_7 (by decide) m_459 rfl d_X2_string_123 ?_
          refine g_getN (v := .int (s7n 5 13)) hF 13 obC_5 (by decide) nm_251 rfl d_X2_string_126 ?_
          refine g_iconst hF (v := 1) d_X2_string_129 (by decide) ?_
          refine g_iadd hF d_X2_string_130 ?_
          refine g_iload_n hF d_X2_string_131 rfl 3 rfl ?_
          refine g_iconst hF (v := 0) d_X2_string_132 (by decide) ?_
          refine g_callVN (As := [.int 3, .int ((s7n 5 13) + (1 : Int32)), .int (s5 6 5), .int 0]) (rest := []) hF (fun l D cy => kt_X0_emit a r w9 l D cy) (Nat.le_of_ble_eq_true rfl) mV_X0_emit nm_1071 (recv_ob obC_4) rfl rfl (Nat.le_of_ble_eq_true rfl) d_X2_string_133 (qI (fun v133 s133 w10 => ?_))
          refine g_pop hF d_X2_string_136 rfl ?_
          exact g_vret hF rfl d_X2_string_137 ⟨rfl, rfl, rfl, w10⟩
        · have w11 := w55_.2 c
          refine g_aload_n hF d_X2_string_61 rfl 0 rfl ?_
          refine g_get (v := .ref (r 5)) hF 3 obC_7 (by decide) m_459 rfl d_X2_string_62 ?_
          refine g_iload_n hF d_X2_string_65 rfl 2 rfl ?_
          refine g_iload hF d_X2_string_66 3 rfl ?_
          refine g_iadd hF d_X2_string_68 ?_
          refine g_bipush hF (v := (-2)) d_X2_string_69 (by decide) ?_
          refine g_aload_n hF d_X2_string_71 rfl 0 rfl ?_
          refine g_get (v := .ref (r 2)) hF 1 obC_7 (by decide) m_457 rfl d_X2_string_72 ?_
          refine g_getN (v := .ref (r 17)) hF 9 obC_2 (by decide) nm_63 rfl d_X2_string_75 ?_
          refine g_iload hF d_X2_string_78 3 rfl ?_
          refine g_callSN (As := [.ref (r 17), .int x4_55]) (rest := [.int (-2), .int ((s5 6 5) + x4_55), .ref (r 5)]) hF (c_atv a r s55 arC_17 (by decide) x4_55) (Nat.le_of_ble_eq_true rfl) mS_X12_at nm_1058 rfl rfl (Nat.le_of_ble_eq_true rfl) d_X2_string_80 (kQ ?_)
          refine g_top (v := (atv 200 (s55 17) x4_55)) rfl ?_
          refine g_callVN (As := [.int ((s5 6 5) + x4_55), .int (-2), .int (atv 200 (s55 17) x4_55)]) (rest := []) hF (fun l D cy => kt_X8_addInitial a r w11 l D cy) (Nat.le_of_ble_eq_true rfl) mV_X8_addInitial nm_1094 (recv_ob obC_5) rfl rfl (Nat.le_of_ble_eq_true rfl) d_X2_string_83 (qV (fun s83 w12 => ?_))
          refine g_iinc hF (x4_55 + 1) [(4, .int (x4_55 + 1)), (0, .ref (r 7)), (2, .int v5), (3, .int (s5 6 5))] d_X2_string_86 3 rfl rfl hnn (by decide) rfl ?_
          refine g_goto hF 55 d_X2_string_89 (by decide) ?_
          obtain ⟨m55, hm55, w9⟩ := w12
          exact g_sub (L' := [(0, .ref (r 7)), (2, .int v5), (3, .int (s5 6 5)), (4, .int (x4_55 + 1))]) [1, 2, 3, 0] rfl (ih55 m55 hm55 (x4_55 + 1) s83 w9)
    exact g_sub (L' := [(0, .ref (r 7)), (2, .int v5), (3, .int (s5 6 5)), (4, .int 0)]) [1, 2, 3, 0] rfl (b55 i55 (0 : Int32) (upC s37 6 5 ((s37 6 5) + (v5 + (1 : Int32)))) u55)
  refine g_icmp_le (yv := 16000) hF 37 d_X2_string_25 (by decide) rfl (by decide) (fun c => ?_) (fun c => ?_)
  · have w13 := w2.1 c
    exact g_sub (L' := [(0, .ref (r 7)), (2, .int v5), (3, .int (s5 6 5))]) [2, 1, 0] rfl (b37 s5 w13)
  · have w14 := w2.2 c
    refine g_aload_n hF d_X2_string_28 rfl 2 rfl ?_
    refine g_get (v := .ref (r 6)) hF 2 obC_7 (by decide) m_458 rfl d_X2_string_29 ?_
    refine g_iconst hF (v := 4) d_X2_string_32 (by decide) ?_
    refine g_iload_n hF d_X2_string_33 rfl 3 rfl ?_
    refine g_callVN (As := [.int 4, .int a1]) (rest := []) hF (fun l D cy => kt_X11_fail a r w14 l D cy) (Nat.le_of_ble_eq_true rfl) mV_X11_fail nm_1090 (recv_ob obC_6) rfl rfl (Nat.le_of_ble_eq_true rfl) d_X2_string_34 (qV (fun s34 w15 => ?_))
    exact g_sub (L' := [(0, .ref (r 7)), (2, .int v5), (3, .int (s5 6 5))]) [2, 1, 0] rfl (b37 s34 w15)
set_option maxHeartbeats 4000000 in
set_option maxRecDepth 100000 in
theorem kt_X10_sameName (a : Nat → Nat) (r : Nat → Nat) {a1 : Int32} {a2 : Int32} {σ : St} {Q : Int32 → Prop} (w : wk_X10_sameName a1 a2 σ Q) (l : Launch) (D : va_G) (cy : Nat → ClassId) : Ct l D cy SC r (EC a gC) y_X10_sameName (Cond.code y_X10_sameName b_X10_sameName 7 (some .boolean)) 1 [.ref (r 2), .int a1, .int a2] σ Z0 [] (QI (fun x σ9 => (x = 0 ∨ x = 1) ∧ σ9 = σ ∧ Q x)) QT0 := by
  unfold wk_X10_sameName at w
  refine Ct_of (EC_ok a gC) (by decide) (Nat.le_of_ble_eq_true rfl) (by decide) (fun X hnn hF => ?_)
  show G SC r X σ Z0 [] [(0, .ref (r 2)), (1, .int a1), (2, .int a2)] [] 0
  refine g_aload_n hF d_X10_sameName_0 rfl 0 rfl ?_
  refine g_get (v := .ref (r 14)) hF 6 obC_2 (by decide) m_52 rfl d_X10_sameName_1 ?_
  refine g_iload_n hF d_X10_sameName_4 rfl 1 rfl ?_
  refine g_callSN (As := [.ref (r 14), .int a1]) (rest := []) hF (c_atv a r σ arC_14 (by decide) a1) (Nat.le_of_ble_eq_true rfl) mS_X12_at nm_1085 rfl rfl (Nat.le_of_ble_eq_true rfl) d_X10_sameName_5 (kQ ?_)
  refine g_top (v := (atv 16002 (σ 14) a1)) rfl ?_
  refine g_istore_n hF [(3, .int (atv 16002 (σ 14) a1)), (0, .ref (r 2)), (1, .int a1), (2, .int a2)] d_X10_sameName_8 rfl hnn (by decide) rfl ?_
  refine g_iload_n hF d_X10_sameName_9 rfl 0 rfl ?_
  refine g_aload_n hF d_X10_sameName_10 rfl 1 rfl ?_
  refine g_get (v := .ref (r 14)) hF 6 obC_2 (by decide) m_52 rfl d_X10_sameName_11 ?_
  refine g_iload_n hF d_X10_sameName_14 rfl 3 rfl ?_
  refine g_callSN (As := [.ref (r 14), .int a2]) (rest := [.int (atv 16002 (σ 14) a1)]) hF (c_atv a r σ arC_14 (by decide) a2) (Nat.le_of_ble_eq_true rfl) mS_X12_at nm_1085 rfl rfl (Nat.le_of_ble_eq_true rfl) d_X10_sameName_15 (kQ ?_)
  refine g_top (v := (atv 16002 (σ 14) a2)) rfl ?_
  refine g_icmp_eq hF 23 d_X10_sameName_18 (by decide) rfl rfl (fun c => ?_) (fun c => ?_)
  · have w1 := w.1 c
    refine g_aload_n hF d_X10_sameName_23 rfl 1 rfl ?_
    refine g_get (v := .ref (r 15)) hF 7 obC_2 (by decide) m_56 rfl d_X10_sameName_24 ?_
    refine g_iload_n hF d_X10_sameName_27 rfl 2 rfl ?_
    refine g_callSN (As := [.ref (r 15), .int a1]) (rest := []) hF (c_atv a r σ arC_15 (by decide) a1) (Nat.le_of_ble_eq_true rfl) mS_X12_at nm_1085 rfl rfl (Nat.le_of_ble_eq_true rfl) d_X10_sameName_28 (kQ ?_)
    refine g_top (v := (atv 16002 (σ 15) a1)) rfl ?_
    refine g_istore hF [(4, .int (atv 16002 (σ 15) a1)), (3, .int (atv 16002 (σ 14) a1)), (0, .ref (r 2)), (1, .int a1), (2, .int a2)] d_X10_sameName_31 hnn (by decide) rfl ?_
    refine g_aload_n hF d_X10_sameName_33 rfl 2 rfl ?_
    refine g_get (v := .ref (r 15)) hF 7 obC_2 (by decide) m_56 rfl d_X10_sameName_34 ?_
    refine g_iload_n hF d_X10_sameName_37 rfl 4 rfl ?_
    refine g_callSN (As := [.ref (r 15), .int a2]) (rest := []) hF (c_atv a r σ arC_15 (by decide) a2) (Nat.le_of_ble_eq_true rfl) mS_X12_at nm_1085 rfl rfl (Nat.le_of_ble_eq_true rfl) d_X10_sameName_38 (kQ ?_)
    refine g_top (v := (atv 16002 (σ 15) a2)) rfl ?_
    refine g_istore hF [(5, .int (atv 16002 (σ 15) a2)), (4, .int (atv 16002 (σ 15) a1)), (3, .int (atv 16002 (σ 14) a1)), (0, .ref (r 2)), (1, .int a1), (2, .int a2)] d_X10_sameName_41 hnn (by decide) rfl ?_
    refine g_iconst hF (v := 0) d_X10_sameName_43 (by decide) ?_
    refine g_istore hF [(6, .int 0), (5, .int (atv 16002 (σ 15) a2)), (4, .int (atv 16002 (σ 15) a1)), (3, .int (atv 16002 (σ 14) a1)), (0, .ref (r 2)), (1, .int a1), (2, .int a2)] d_X10_sameName_44 hnn (by decide) rfl ?_
    obtain ⟨L46, ⟨i46, u46⟩, h46⟩ := w1
    have b46 : ∀ (n46 : Nat) (x6_46 : Int32), L46 n46 x6_46 → G SC r X σ Z0 [] [(0, .ref (r 2)), (3, .int (atv 16002 (σ 14) a1)), (4, .int (atv 16002 (σ 15) a1)), (5, .int (atv 16002 (σ 15) a2)), (6, .int x6_46)] [] 46 := by
      intro n46
      induction n46 using Nat.strongRecOn with
      | _ n46 ih46 =>
        intro x6_46  w46_
        have w46_ := h46 n46 x6_46  w46_
        refine g_iload hF d_X10_sameName_46 4 rfl ?_
        refine g_iload_n hF d_X10_sameName_48 rfl 1 rfl ?_
        refine g_icmp_ge hF 109 d_X10_sameName_49 (by decide) rfl rfl (fun c => ?_) (fun c => ?_)
        · have w2 := w46_.1 c
          refine g_iconst hF (v := 1) d_X10_sameName_109 (by decide) ?_
          exact g_zret hF rfl (k_nz (Or.inr rfl)) d_X10_sameName_110 ⟨rfl, rfl, (1 : Int32), rfl, (Or.inr rfl), ⟨rfl, w2⟩⟩
        · have w3 := w46_.2 c
          refine g_iload hF d_X10_sameName_52 2 rfl ?_
          refine g_iload hF d_X10_sameName_54 4 rfl ?_
          refine g_iadd hF d_X10_sameName_56 ?_
          refine g_aload_n hF d_X10_sameName_57 rfl 0 rfl ?_
          refine g_get (v := .ref (r 1)) hF 0 obC_2 (by decide) m_41 rfl d_X10_sameName_58 ?_
          refine g_alen hF arC_1 (fun _ => ⟨0, _, rfl⟩) (v := 16000) (by decide) d_X10_sameName_61 ?_
          refine g_icmp_ge (yv := 16000) hF 101 d_X10_sameName_62 (by decide) rfl (by decide) (fun c => ?_) (fun c => ?_)
          · have w4 := w3.1 c
            refine g_iconst hF (v := 0) d_X10_sameName_101 (by decide) ?_
            exact g_zret hF rfl (k_nz (Or.inl rfl)) d_X10_sameName_102 ⟨rfl, rfl, (0 : Int32), rfl, (Or.inl rfl), ⟨rfl, w4⟩⟩
          · have w5 := w3.2 c
            refine g_iload hF d_X10_sameName_65 3 rfl ?_
            refine g_iload hF d_X10_sameName_67 4 rfl ?_
            refine g_iadd hF d_X10_sameName_69 ?_
            refine g_aload_n hF d_X10_sameName_70 rfl 0 rfl ?_
            refine g_get (v := .ref (r 1)) hF 0 obC_2 (by decide) m_41 rfl d_X10_sameName_71 ?_
            refine g_alen hF arC_1 (fun _ => ⟨0, _, rfl⟩) (v := 16000) (by decide) d_X10_sameName_74 ?_
            refine g_icmp_ge (yv := 16000) hF 101 d_X10_sameName_75 (by decide) rfl (by decide) (fun c => ?_) (fun c => ?_)
            · have w6 := w5.1 c
              refine g_iconst hF (v := 0) d_X10_sameName_101 (by decide) ?_
              exact g_zret hF rfl (k_nz (Or.inl rfl)) d_X10_sameName_102 ⟨rfl, rfl, (0 : Int32), rfl, (Or.inl rfl), ⟨rfl, w6⟩⟩
            · have w7 := w5.2 c
              refine g_aload_n hF d_X10_sameName_78 rfl 0 rfl ?_
              refine g_get (v := .ref (r 1)) hF 0 obC_2 (by decide) m_41 rfl d_X10_sameName_79 ?_
              refine g_iload hF d_X10_sameName_82 2 rfl ?_
              refine g_iload hF d_X10_sameName_84 4 rfl ?_
              refine g_iadd hF d_X10_sameName_86 ?_
              have w8 := w7.2
              refine g_bald hF arC_1 (s_in (Nat.le_of_ble_eq_true rfl) w7.1.1 w7.1.2) d_X10_sameName_87 ?_
              refine g_top (v := (σ 1 ((atv 16002 (σ 15) a1) + x6_46).toNatClampNeg)) rfl ?_
              refine g_aload_n hF d_X10_sameName_88 rfl 0 rfl ?_
              refine g_get (v := .ref (r 1)) hF 0 obC_2 (by decide) m_41 rfl d_X10_sameName_89 ?_
              refine g_iload hF d_X10_sameName_92 3 rfl ?_
              refine g_iload hF d_X10_sameName_94 4 rfl ?_
              refine g_iadd hF d_X10_sameName_96 ?_
              have w9 := w8.2
              refine g_bald hF arC_1 (s_in (Nat.le_of_ble_eq_true rfl) w8.1.1 w8.1.2) d_X10_sameName_97 ?_
              refine g_top (v := (σ 1 ((atv 16002 (σ 15) a2) + x6_46).toNatClampNeg)) rfl ?_
              refine g_icmp_eq hF 103 d_X10_sameName_98 (by decide) rfl rfl (fun c => ?_) (fun c => ?_)
              · have w10 := w9.1 c
                refine g_iinc hF (x6_46 + 1) [(6, .int (x6_46 + 1)), (0, .ref (r 2)), (3, .int (atv 16002 (σ 14) a1)), (4, .int (atv 16002 (σ 15) a1)), (5, .int (atv 16002 (σ 15) a2))] d_X10_sameName_103 4 rfl rfl hnn (by decide) rfl ?_
                refine g_goto hF 46 d_X10_sameName_106 (by decide) ?_
                obtain ⟨m46, hm46, w9⟩ := w10
                exact g_sub (L' := [(0, .ref (r 2)), (3, .int (atv 16002 (σ 14) a1)), (4, .int (atv 16002 (σ 15) a1)), (5, .int (atv 16002 (σ 15) a2)), (6, .int (x6_46 + 1))]) [1, 2, 3, 4, 0] rfl (ih46 m46 hm46 (x6_46 + 1) w9)
              · have w11 := w9.2 c
                refine g_iconst hF (v := 0) d_X10_sameName_101 (by decide) ?_
                exact g_zret hF rfl (k_nz (Or.inl rfl)) d_X10_sameName_102 ⟨rfl, rfl, (0 : Int32), rfl, (Or.inl rfl), ⟨rfl, w11⟩⟩
    exact g_sub (L' := [(0, .ref (r 2)), (3, .int (atv 16002 (σ 14) a1)), (4, .int (atv 16002 (σ 15) a1)), (5, .int (atv 16002 (σ 15) a2)), (6, .int 0)]) [4, 3, 2, 1, 0] rfl (b46 i46 (0 : Int32) u46)
  · have w12 := w.2 c
    refine g_iconst hF (v := 0) d_X10_sameName_21 (by decide) ?_
    exact g_zret hF rfl (k_nz (Or.inl rfl)) d_X10_sameName_22 ⟨rfl, rfl, (0 : Int32), rfl, (Or.inl rfl), ⟨rfl, w12⟩⟩
set_option maxHeartbeats 4000000 in
set_option maxRecDepth 100000 in
theorem kt_X11_localFrom (a : Nat → Nat) (r : Nat → Nat) {a1 : Int32} {a2 : Int32} {σ : St} {Q : Int32 → Prop} (w : wk_X11_localFrom a1 a2 σ Q) (l : Launch) (D : va_G) (cy : Nat → ClassId) : Ct l D cy SC r (EC a gC) y_X11_localFrom (Cond.code y_X11_localFrom b_X11_localFrom 5 (some .int)) 2 [.ref (r 6), .int a1, .int a2] σ Z0 [] (QI (fun x σ9 => σ9 = σ ∧ Q x)) QT0 := by
  unfold wk_X11_localFrom at w
  refine Ct_of (EC_ok a gC) (by decide) (Nat.le_of_ble_eq_true rfl) (by decide) (fun X hnn hF => ?_)
  show G SC r X σ Z0 [] [(0, .ref (r 6)), (1, .int a1), (2, .int a2)] [] 0
  refine g_aload_n hF d_X11_localFrom_0 rfl 0 rfl ?_
  refine g_get (v := .int (σ 6 15)) hF 15 obC_6 (by decide) m_342 rfl d_X11_localFrom_1 ?_
  refine g_iconst hF (v := 1) d_X11_localFrom_4 (by decide) ?_
  refine g_isub hF d_X11_localFrom_5 ?_
  refine g_istore_n hF [(3, .int ((σ 6 15) - (1 : Int32))), (0, .ref (r 6)), (1, .int a1), (2, .int a2)] d_X11_localFrom_6 rfl hnn (by decide) rfl ?_
  obtain ⟨L7, ⟨i7, u7⟩, h7⟩ := w
  have b7 : ∀ (n7 : Nat) (x3_7 : Int32), L7 n7 x3_7 → G SC r X σ Z0 [] [(0, .ref (r 6)), (1, .int a1), (2, .int a2), (3, .int x3_7)] [] 7 := by
    intro n7
    induction n7 using Nat.strongRecOn with
    | _ n7 ih7 =>
      intro x3_7  w7_
      have w7_ := h7 n7 x3_7  w7_
      refine g_iload_n hF d_X11_localFrom_7 rfl 3 rfl ?_
      refine g_iload_n hF d_X11_localFrom_8 rfl 1 rfl ?_
      refine g_icmp_lt hF 51 d_X11_localFrom_9 (by decide) rfl rfl (fun c => ?_) (fun c => ?_)
      · have w1 := w7_.1 c
        refine g_iconst hF (v := (-1)) d_X11_localFrom_51 (by decide) ?_
        exact g_iret hF rfl d_X11_localFrom_52 ⟨rfl, rfl, ((-1) : Int32), rfl, ⟨rfl, w1⟩⟩
      · have w2 := w7_.2 c
        refine g_aload_n hF d_X11_localFrom_12 rfl 0 rfl ?_
        refine g_get (v := .ref (r 44)) hF 16 obC_6 (by decide) m_343 rfl d_X11_localFrom_13 ?_
        refine g_iload_n hF d_X11_localFrom_16 rfl 3 rfl ?_
        refine g_callSN (As := [.ref (r 44), .int x3_7]) (rest := []) hF (c_atv a r σ arC_44 (by decide) x3_7) (Nat.le_of_ble_eq_true rfl) mS_X12_at nm_1112 rfl rfl (Nat.le_of_ble_eq_true rfl) d_X11_localFrom_17 (kQ ?_)
        refine g_top (v := (atv 100 (σ 44) x3_7)) rfl ?_
        refine g_istore hF [(4, .int (atv 100 (σ 44) x3_7)), (0, .ref (r 6)), (1, .int a1), (2, .int a2), (3, .int x3_7)] d_X11_localFrom_20 hnn (by decide) rfl ?_
        refine g_aload_n hF d_X11_localFrom_22 rfl 1 rfl ?_
        refine g_get (v := .ref (r 2)) hF 0 obC_6 (by decide) m_305 rfl d_X11_localFrom_23 ?_
        refine g_aload_n hF d_X11_localFrom_26 rfl 1 rfl ?_
        refine g_get (v := .ref (r 40)) hF 11 obC_6 (by decide) m_333 rfl d_X11_localFrom_27 ?_
        refine g_iload hF d_X11_localFrom_30 0 rfl ?_
        refine g_callSN (As := [.ref (r 40), .int (atv 100 (σ 44) x3_7)]) (rest := [.ref (r 2)]) hF (c_atv a r σ arC_40 (by decide) (atv 100 (σ 44) x3_7)) (Nat.le_of_ble_eq_true rfl) mS_X12_at nm_1112 rfl rfl (Nat.le_of_ble_eq_true rfl) d_X11_localFrom_32 (kQ ?_)
        refine g_top (v := (atv 100 (σ 40) (atv 100 (σ 44) x3_7))) rfl ?_
        refine g_iload_n hF d_X11_localFrom_35 rfl 3 rfl ?_
        refine g_callVN (As := [.int (atv 100 (σ 40) (atv 100 (σ 44) x3_7)), .int a2]) (rest := []) hF (fun l D cy => kt_X10_sameName a r w2 l D cy) (Nat.le_of_ble_eq_true rfl) mV_X10_sameName nm_1113 (recv_ob obC_2) rfl rfl (Nat.le_of_ble_eq_true rfl) d_X11_localFrom_36 (qZr (fun v36 hz36 w3 => ?_))
        refine g_if_eq hF 45 d_X11_localFrom_39 (by decide) rfl (fun c => ?_) (fun c => ?_)
        · have w4 := w3.1 c
          refine g_iinc hF (x3_7 + (-1)) [(3, .int (x3_7 + (-1))), (4, .int (atv 100 (σ 44) x3_7)), (0, .ref (r 6)), (1, .int a1), (2, .int a2)] d_X11_localFrom_45 4 rfl rfl hnn (by decide) rfl ?_
          refine g_goto hF 7 d_X11_localFrom_48 (by decide) ?_
          obtain ⟨m7, hm7, w9⟩ := w4
          exact g_sub (L' := [(0, .ref (r 6)), (1, .int a1), (2, .int a2), (3, .int (x3_7 + (-1)))]) [2, 3, 4, 0] rfl (ih7 m7 hm7 (x3_7 + (-1)) w9)
        · have w5 := w3.2 c
          refine g_iload hF d_X11_localFrom_42 0 rfl ?_
          exact g_iret hF rfl d_X11_localFrom_44 ⟨rfl, rfl, (atv 100 (σ 44) x3_7), rfl, ⟨rfl, w5⟩⟩
  exact g_sub (L' := [(0, .ref (r 6)), (1, .int a1), (2, .int a2), (3, .int ((σ 6 15) - (1 : Int32)))]) [1, 2, 3, 0] rfl (b7 i7 ((σ 6 15) - (1 : Int32)) u7)
set_option maxHeartbeats 4000000 in
set_option maxRecDepth 100000 in
theorem kt_X8_mark (a : Nat → Nat) (r : Nat → Nat) {a1 : Int32} {a2 : Int32} {σ : St} {Q : St → Prop} (w : wk_X8_mark a1 a2 σ Q) (l : Launch) (D : va_G) (cy : Nat → ClassId) : Ct l D cy SC r (EC a gC) y_X8_mark (Cond.code y_X8_mark b_X8_mark 3 none) 1 [.ref (r 5), .int a1, .int a2] σ Z0 [] (QV Q) QT0 := by
  unfold wk_X8_mark at w
  refine Ct_of (EC_ok a gC) (by decide) (Nat.le_of_ble_eq_true rfl) (by decide) (fun X hnn hF => ?_)
  show G SC r X σ Z0 [] [(0, .ref (r 5)), (1, .int a1), (2, .int a2)] [] 0
  refine g_aload_n hF d_X8_mark_0 rfl 0 rfl ?_
  refine g_get (v := .ref (r 25)) hF 2 obC_5 (by decide) m_224 rfl d_X8_mark_1 ?_
  refine g_iload_n hF d_X8_mark_4 rfl 1 rfl ?_
  refine g_aload_n hF d_X8_mark_5 rfl 0 rfl ?_
  refine g_get (v := .ref (r 25)) hF 2 obC_5 (by decide) m_224 rfl d_X8_mark_6 ?_
  refine g_iload_n hF d_X8_mark_9 rfl 1 rfl ?_
  refine g_callSN (As := [.ref (r 25), .int a1]) (rest := [.int a1, .ref (r 25)]) hF (c_atv a r σ arC_25 (by decide) a1) (Nat.le_of_ble_eq_true rfl) mS_X12_at nm_1125 rfl rfl (Nat.le_of_ble_eq_true rfl) d_X8_mark_10 (kQ ?_)
  refine g_top (v := (atv 10100 (σ 25) a1)) rfl ?_
  refine g_iload_n hF d_X8_mark_13 rfl 2 rfl ?_
  refine g_ior hF d_X8_mark_14 ?_
  refine g_callSN (As := [.ref (r 25), .int a1, .int ((atv 10100 (σ 25) a1) ||| a2)]) (rest := []) hF (c_setv a r σ arC_25 (by decide) a1 ((atv 10100 (σ 25) a1) ||| a2)) (Nat.le_of_ble_eq_true rfl) mS_X12_set nm_1098 rfl rfl (Nat.le_of_ble_eq_true rfl) d_X8_mark_15 (kU ?_)
  exact g_vret hF rfl d_X8_mark_18 ⟨rfl, rfl, rfl, w⟩
set_option maxHeartbeats 4000000 in
set_option maxRecDepth 100000 in
theorem kt_X2_address (a : Nat → Nat) (r : Nat → Nat) {a1 : Nat} {σ : St} {Q : St → Prop} (ha1 : isOp a1) (w : wk_X2_address a1 σ Q) (l : Launch) (D : va_G) (cy : Nat → ClassId) : Ct l D cy SC r (EC a gC) y_X2_address (Cond.code y_X2_address b_X2_address 3 none) 1 [.ref (r 7), .ref (r a1)] σ Z0 [] (QV Q) QT0 := by
  unfold wk_X2_address at w
  refine Ct_of (EC_ok a gC) (by decide) (Nat.le_of_ble_eq_true rfl) (by decide) (fun X hnn hF => ?_)
  show G SC r X σ Z0 [] [(0, .ref (r 7)), (1, .ref (r a1))] [] 0
  refine g_aload_n hF d_X2_address_0 rfl 1 rfl ?_
  refine g_getN (v := .int (σ a1 0)) hF 0 (obC_op ha1) (by decide) nm_399 (fval_op ha1) d_X2_address_1 ?_
  refine g_iconst hF (v := 2) d_X2_address_4 (by decide) ?_
  obtain ⟨J13, h13, w1⟩ := w
  have b13 : ∀ (y0_13 : Int32), y0_13 = 0 ∨ y0_13 = 1 → J13 y0_13 → G SC r X σ Z0 [] [(0, .ref (r 7)), (1, .ref (r a1))] [.int y0_13] 13 := by
    intro y0_13 hy0_13 w13_
    have w13_ := h13 y0_13 hy0_13 w13_
    refine g_istore_n hF [(2, .int y0_13), (0, .ref (r 7)), (1, .ref (r a1))] d_X2_address_13 rfl hnn (by decide) rfl ?_
    refine g_aload_n hF d_X2_address_14 rfl 2 rfl ?_
    refine g_getN (v := .int (σ a1 0)) hF 0 (obC_op ha1) (by decide) nm_399 (fval_op ha1) d_X2_address_15 ?_
    refine g_iconst hF (v := 1) d_X2_address_18 (by decide) ?_
    obtain ⟨J75, h75, w2⟩ := w13_
    have b75 : ∀ (s75 : St), J75 s75 → G SC r X s75 Z0 [] [(1, .ref (r a1)), (2, .int y0_13)] [] 75 := by
      intro s75  w75_
      have w75_ := h75 s75  w75_
      refine g_aload_n hF d_X2_address_75 rfl 0 rfl ?_
      refine g_aload_n hF d_X2_address_76 rfl 0 rfl ?_
      refine g_getN (v := .int (s75 a1 1)) hF 1 (obC_op ha1) (by decide) nm_402 (fval_op ha1) d_X2_address_77 ?_
      refine g_iconst hF (v := 1) d_X2_address_80 (by decide) ?_
      refine g_iadd hF d_X2_address_81 ?_
      refine g_iload_n hF d_X2_address_82 rfl 1 rfl ?_
      obtain ⟨J91, h91, w3⟩ := w75_
      have b91 : ∀ (y2_91 : Int32), J91 y2_91 → G SC r X s75 Z0 [] [(1, .ref (r a1))] [.int y2_91, .int ((s75 a1 1) + (1 : Int32)), .ref (r a1)] 91 := by
        intro y2_91  w91_
        have w91_ := h91 y2_91  w91_
        refine g_callVN (As := [.int ((s75 a1 1) + (1 : Int32)), .int y2_91]) (rest := []) hF (fun l D cy => kt_X6_become a r ha1 w91_ l D cy) (Nat.le_of_ble_eq_true rfl) mV_X6_become nm_1100 (recv_ob (obC_op ha1)) rfl rfl (Nat.le_of_ble_eq_true rfl) d_X2_address_91 (qV (fun s91 w4 => ?_))
        refine g_aload_n hF d_X2_address_94 rfl 0 rfl ?_
        refine g_aload_n hF d_X2_address_95 rfl 0 rfl ?_
        refine g_getN (v := .int (s91 a1 4)) hF 4 (obC_op ha1) (by decide) nm_408 (fval_op ha1) d_X2_address_96 ?_
        refine g_putN (v := (s91 a1 4)) hF 7 (obC_op ha1) (by decide) nm_414 rfl rfl (rf_op ha1) d_X2_address_99 ?_
        obtain ⟨s4n, es4n⟩ : ∃ z, z = upC s91 a1 7 (s91 a1 4) := ⟨_, rfl⟩
        rw [← es4n]
        have w6 := w4 s4n es4n
        refine g_aload_n hF d_X2_address_102 rfl 0 rfl ?_
        refine g_iconst hF (v := 0) d_X2_address_103 (by decide) ?_
        refine g_putN (v := 0) hF 8 (obC_op ha1) (by decide) nm_418 rfl rfl (rf_op ha1) d_X2_address_104 ?_
        obtain ⟨s6n, es6n⟩ : ∃ z, z = upC s4n a1 8 (0 : Int32) := ⟨_, rfl⟩
        rw [← es6n]
        have w8 := w6 s6n es6n
        exact g_vret hF rfl d_X2_address_107 ⟨rfl, rfl, rfl, w8⟩
      refine g_if_eq hF 90 d_X2_address_83 (by decide) rfl (fun c => ?_) (fun c => ?_)
      · have w9 := w3.1 c
        refine g_iconst hF (v := 0) d_X2_address_90 (by decide) ?_
        exact g_sub (L' := [(1, .ref (r a1))]) [0] rfl (b91 (0 : Int32) w9)
      · have w10 := w3.2 c
        refine g_iconst hF (v := 2) d_X2_address_86 (by decide) ?_
        refine g_goto hF 91 d_X2_address_87 (by decide) ?_
        exact g_sub (L' := [(1, .ref (r a1))]) [0] rfl (b91 (2 : Int32) w10)
    refine g_icmp_ne (yv := 1) hF 56 d_X2_address_19 (by decide) rfl (by decide) (fun c => ?_) (fun c => ?_)
    · have w11 := w2.1 c
      refine g_iload_n hF d_X2_address_56 rfl 0 rfl ?_
      refine g_if_eq hF 75 d_X2_address_57 (by decide) rfl (fun c => ?_) (fun c => ?_)
      · have w12 := w11.1 c
        exact g_sub (L' := [(1, .ref (r a1)), (2, .int y0_13)]) [2, 0] rfl (b75 σ w12)
      · have w13 := w11.2 c
        refine g_aload_n hF d_X2_address_60 rfl 1 rfl ?_
        refine g_get (v := .ref (r 4)) hF 4 obC_7 (by decide) m_461 rfl d_X2_address_61 ?_
        refine g_iconst hF (v := 4) d_X2_address_64 (by decide) ?_
        refine g_aload_n hF d_X2_address_65 rfl 2 rfl ?_
        refine g_getN (v := .int (σ a1 4)) hF 4 (obC_op ha1) (by decide) nm_408 (fval_op ha1) d_X2_address_66 ?_
        refine g_iconst hF (v := 0) d_X2_address_69 (by decide) ?_
        refine g_iconst hF (v := 0) d_X2_address_70 (by decide) ?_
        refine g_callVN (As := [.int 4, .int (σ a1 4), .int 0, .int 0]) (rest := []) hF (fun l D cy => kt_X0_emit a r w13 l D cy) (Nat.le_of_ble_eq_true rfl) mV_X0_emit nm_1071 (recv_ob obC_4) rfl rfl (Nat.le_of_ble_eq_true rfl) d_X2_address_71 (qI (fun v71 s71 w14 => ?_))
        refine g_pop hF d_X2_address_74 rfl ?_
        exact g_sub (L' := [(1, .ref (r a1)), (2, .int y0_13)]) [2, 0] rfl (b75 s71 w14)
    · have w15 := w2.2 c
      refine g_aload_n hF d_X2_address_22 rfl 1 rfl ?_
      refine g_get (v := .ref (r 6)) hF 2 obC_7 (by decide) m_458 rfl d_X2_address_23 ?_
      refine g_getN (v := .ref (r 43)) hF 14 obC_6 (by decide) nm_340 rfl d_X2_address_26 ?_
      refine g_aload_n hF d_X2_address_29 rfl 2 rfl ?_
      refine g_getN (v := .int (σ a1 4)) hF 4 (obC_op ha1) (by decide) nm_408 (fval_op ha1) d_X2_address_30 ?_
      refine g_iconst hF (v := 1) d_X2_address_33 (by decide) ?_
      refine g_callSN (As := [.ref (r 43), .int (σ a1 4), .int 1]) (rest := []) hF (c_setv a r σ arC_43 (by decide) (σ a1 4) (1 : Int32)) (Nat.le_of_ble_eq_true rfl) mS_X12_set nm_1141 rfl rfl (Nat.le_of_ble_eq_true rfl) d_X2_address_34 (kU ?_)
      refine g_aload_n hF d_X2_address_37 rfl 1 rfl ?_
      refine g_get (v := .ref (r 4)) hF 4 obC_7 (by decide) m_461 rfl d_X2_address_38 ?_
      refine g_bipush hF (v := 14) d_X2_address_41 (by decide) ?_
      refine g_aload_n hF d_X2_address_43 rfl 2 rfl ?_
      refine g_getN (v := .int ((upF σ 43 (setv 100 (σ 43) (σ a1 4) (1 : Int32))) a1 4)) hF 4 (obC_op ha1) (by decide) nm_408 (fval_op ha1) d_X2_address_44 ?_
      refine g_iconst hF (v := 0) d_X2_address_47 (by decide) ?_
      refine g_iconst hF (v := 0) d_X2_address_48 (by decide) ?_
      refine g_callVN (As := [.int 14, .int ((upF σ 43 (setv 100 (σ 43) (σ a1 4) (1 : Int32))) a1 4), .int 0, .int 0]) (rest := []) hF (fun l D cy => kt_X0_emit a r w15 l D cy) (Nat.le_of_ble_eq_true rfl) mV_X0_emit nm_1071 (recv_ob obC_4) rfl rfl (Nat.le_of_ble_eq_true rfl) d_X2_address_49 (qI (fun v49 s49 w16 => ?_))
      refine g_pop hF d_X2_address_52 rfl ?_
      refine g_goto hF 75 d_X2_address_53 (by decide) ?_
      exact g_sub (L' := [(1, .ref (r a1)), (2, .int y0_13)]) [2, 0] rfl (b75 s49 w16)
  refine g_icmp_ne (yv := 2) hF 12 d_X2_address_5 (by decide) rfl (by decide) (fun c => ?_) (fun c => ?_)
  · have w17 := w1.1 c
    refine g_iconst hF (v := 0) d_X2_address_12 (by decide) ?_
    exact b13 (0 : Int32) (Or.inl rfl) w17
  · have w18 := w1.2 c
    refine g_iconst hF (v := 1) d_X2_address_8 (by decide) ?_
    refine g_goto hF 13 d_X2_address_9 (by decide) ?_
    exact b13 (1 : Int32) (Or.inr rfl) w18
set_option maxHeartbeats 4000000 in
set_option maxRecDepth 100000 in
theorem kt_X2_refuse (a : Nat → Nat) (r : Nat → Nat) {a1 : Int32} {σ : St} {Q : St → Prop} (w : wk_X2_refuse a1 σ Q) (l : Launch) (D : va_G) (cy : Nat → ClassId) : Ct l D cy SC r (EC a gC) y_X2_refuse (Cond.code y_X2_refuse b_X2_refuse 2 none) 1 [.ref (r 7), .int a1] σ Z0 [] (QV Q) QT0 := by
  unfold wk_X2_refuse at w
  refine Ct_of (EC_ok a gC) (by decide) (Nat.le_of_ble_eq_true rfl) (by decide) (fun X hnn hF => ?_)
  show G SC r X σ Z0 [] [(0, .ref (r 7)), (1, .int a1)] [] 0
  refine g_aload_n hF d_X2_refuse_0 rfl 0 rfl ?_
  refine g_get (v := .ref (r 6)) hF 2 obC_7 (by decide) m_458 rfl d_X2_refuse_1 ?_
  refine g_iconst hF (v := 2) d_X2_refuse_4 (by decide) ?_
  refine g_iload_n hF d_X2_refuse_5 rfl 1 rfl ?_
  refine g_callVN (As := [.int 2, .int a1]) (rest := []) hF (fun l D cy => kt_X11_fail a r w l D cy) (Nat.le_of_ble_eq_true rfl) mV_X11_fail nm_1090 (recv_ob obC_6) rfl rfl (Nat.le_of_ble_eq_true rfl) d_X2_refuse_6 (qV (fun s6 w1 => ?_))
  exact g_vret hF rfl d_X2_refuse_9 ⟨rfl, rfl, rfl, w1⟩
set_option maxHeartbeats 4000000 in
set_option maxRecDepth 100000 in
theorem kt_X11_outerOf (a : Nat → Nat) (r : Nat → Nat) {a1 : Int32} {σ : St} {Q : Int32 → Prop} (w : wk_X11_outerOf a1 σ Q) (l : Launch) (D : va_G) (cy : Nat → ClassId) : Ct l D cy SC r (EC a gC) y_X11_outerOf (Cond.code y_X11_outerOf b_X11_outerOf 3 (some .int)) 2 [.ref (r 6), .int a1] σ Z0 [] (QI (fun x σ9 => σ9 = σ ∧ Q x)) QT0 := by
  unfold wk_X11_outerOf at w
  refine Ct_of (EC_ok a gC) (by decide) (Nat.le_of_ble_eq_true rfl) (by decide) (fun X hnn hF => ?_)
  show G SC r X σ Z0 [] [(0, .ref (r 6)), (1, .int a1)] [] 0
  refine g_iconst hF (v := 0) d_X11_outerOf_0 (by decide) ?_
  refine g_istore_n hF [(2, .int 0), (0, .ref (r 6)), (1, .int a1)] d_X11_outerOf_1 rfl hnn (by decide) rfl ?_
  obtain ⟨L2, ⟨i2, u2⟩, h2⟩ := w
  have b2 : ∀ (n2 : Nat) (x2_2 : Int32), L2 n2 x2_2 → G SC r X σ Z0 [] [(0, .ref (r 6)), (1, .int a1), (2, .int x2_2)] [] 2 := by
    intro n2
    induction n2 using Nat.strongRecOn with
    | _ n2 ih2 =>
      intro x2_2  w2_
      have w2_ := h2 n2 x2_2  w2_
      refine g_iload_n hF d_X11_outerOf_2 rfl 2 rfl ?_
      refine g_aload_n hF d_X11_outerOf_3 rfl 0 rfl ?_
      refine g_get (v := .int (σ 6 7)) hF 7 obC_6 (by decide) m_327 rfl d_X11_outerOf_4 ?_
      refine g_icmp_ge hF 50 d_X11_outerOf_7 (by decide) rfl rfl (fun c => ?_) (fun c => ?_)
      · have w1 := w2_.1 c
        refine g_iconst hF (v := (-1)) d_X11_outerOf_50 (by decide) ?_
        exact g_iret hF rfl d_X11_outerOf_51 ⟨rfl, rfl, ((-1) : Int32), rfl, ⟨rfl, w1⟩⟩
      · have w2 := w2_.2 c
        refine g_aload_n hF d_X11_outerOf_10 rfl 0 rfl ?_
        refine g_get (v := .ref (r 2)) hF 0 obC_6 (by decide) m_305 rfl d_X11_outerOf_11 ?_
        refine g_aload_n hF d_X11_outerOf_14 rfl 0 rfl ?_
        refine g_get (v := .ref (r 38)) hF 8 obC_6 (by decide) m_329 rfl d_X11_outerOf_15 ?_
        refine g_iload_n hF d_X11_outerOf_18 rfl 2 rfl ?_
        refine g_callSN (As := [.ref (r 38), .int x2_2]) (rest := [.ref (r 2)]) hF (c_atv a r σ arC_38 (by decide) x2_2) (Nat.le_of_ble_eq_true rfl) mS_X12_at nm_1112 rfl rfl (Nat.le_of_ble_eq_true rfl) d_X11_outerOf_19 (kQ ?_)
        refine g_top (v := (atv 100 (σ 38) x2_2)) rfl ?_
        refine g_iload_n hF d_X11_outerOf_22 rfl 1 rfl ?_
        refine g_callVN (As := [.int (atv 100 (σ 38) x2_2), .int a1]) (rest := []) hF (fun l D cy => kt_X10_sameName a r w2 l D cy) (Nat.le_of_ble_eq_true rfl) mV_X10_sameName nm_1113 (recv_ob obC_2) rfl rfl (Nat.le_of_ble_eq_true rfl) d_X11_outerOf_23 (qZr (fun v23 hz23 w3 => ?_))
        refine g_if_eq hF 44 d_X11_outerOf_26 (by decide) rfl (fun c => ?_) (fun c => ?_)
        · have w4 := w3.1 c
          refine g_iinc hF (x2_2 + 1) [(2, .int (x2_2 + 1)), (0, .ref (r 6)), (1, .int a1)] d_X11_outerOf_44 2 rfl rfl hnn (by decide) rfl ?_
          refine g_goto hF 2 d_X11_outerOf_47 (by decide) ?_
          obtain ⟨m2, hm2, w9⟩ := w4
          exact g_sub (L' := [(0, .ref (r 6)), (1, .int a1), (2, .int (x2_2 + 1))]) [1, 2, 0] rfl (ih2 m2 hm2 (x2_2 + 1) w9)
        · have w5 := w3.2 c
          refine g_aload_n hF d_X11_outerOf_29 rfl 0 rfl ?_
          refine g_get (v := .ref (r 5)) hF 1 obC_6 (by decide) m_309 rfl d_X11_outerOf_30 ?_
          refine g_getN (v := .int (σ 5 1)) hF 1 obC_5 (by decide) nm_223 rfl d_X11_outerOf_33 ?_
          refine g_aload_n hF d_X11_outerOf_36 rfl 0 rfl ?_
          refine g_get (v := .int (σ 6 7)) hF 7 obC_6 (by decide) m_327 rfl d_X11_outerOf_37 ?_
          refine g_isub hF d_X11_outerOf_40 ?_
          refine g_iload_n hF d_X11_outerOf_41 rfl 2 rfl ?_
          refine g_iadd hF d_X11_outerOf_42 ?_
          exact g_iret hF rfl d_X11_outerOf_43 ⟨rfl, rfl, (((σ 5 1) - (σ 6 7)) + x2_2), rfl, ⟨rfl, w5⟩⟩
  exact g_sub (L' := [(0, .ref (r 6)), (1, .int a1), (2, .int 0)]) [1, 2, 0] rfl (b2 i2 (0 : Int32) u2)
set_option maxHeartbeats 4000000 in
set_option maxRecDepth 100000 in
theorem kt_X2_named (a : Nat → Nat) (r : Nat → Nat) {a1 : Int32} {σ : St} {Q : St → Prop} (w : wk_X2_named a1 σ Q) (l : Launch) (D : va_G) (cy : Nat → ClassId) : Ct l D cy SC r (EC a gC) y_X2_named (Cond.code y_X2_named b_X2_named 5 none) 3 [.ref (r 7), .int a1] σ Z0 [] (QV Q) QT0 := by
  unfold wk_X2_named at w
  refine Ct_of (EC_ok a gC) (by decide) (Nat.le_of_ble_eq_true rfl) (by decide) (fun X hnn hF => ?_)
  show G SC r X σ Z0 [] [(0, .ref (r 7)), (1, .int a1)] [] 0
  refine g_aload_n hF d_X2_named_0 rfl 0 rfl ?_
  refine g_get (v := .ref (r 6)) hF 2 obC_7 (by decide) m_458 rfl d_X2_named_1 ?_
  refine g_iconst hF (v := 0) d_X2_named_4 (by decide) ?_
  refine g_iload_n hF d_X2_named_5 rfl 1 rfl ?_
  refine g_callVN (As := [.int 0, .int a1]) (rest := []) hF (fun l D cy => kt_X11_localFrom a r w l D cy) (Nat.le_of_ble_eq_true rfl) mV_X11_localFrom nm_1108 (recv_ob obC_6) rfl rfl (Nat.le_of_ble_eq_true rfl) d_X2_named_6 (qIr (fun v6 w1 => ?_))
  refine g_istore_n hF [(2, .int v6), (0, .ref (r 7)), (1, .int a1)] d_X2_named_9 rfl hnn (by decide) rfl ?_
  refine g_iload_n hF d_X2_named_10 rfl 0 rfl ?_
  obtain ⟨J26, h26, w2⟩ := w1
  have b26 : ∀ (y0_26 : Int32), J26 y0_26 → G SC r X σ Z0 [] [(0, .ref (r 7)), (1, .int a1), (2, .int v6)] [.int y0_26] 26 := by
    intro y0_26  w26_
    have w26_ := h26 y0_26  w26_
    refine g_istore_n hF [(3, .int y0_26), (0, .ref (r 7)), (1, .int a1), (2, .int v6)] d_X2_named_26 rfl hnn (by decide) rfl ?_
    refine g_iload_n hF d_X2_named_27 rfl 3 rfl ?_
    obtain ⟨J53, h53, w3⟩ := w26_
    have b53 : J53  → G SC r X σ Z0 [] [(0, .ref (r 7)), (2, .int v6), (3, .int y0_26)] [] 53 := by
      intro   w53_
      have w53_ := h53   w53_
      refine g_aload_n hF d_X2_named_53 rfl 0 rfl ?_
      refine g_callV (As := []) (rest := []) hF (fun l D cy => kt_X2_push a r w53_ l D cy) (Nat.le_of_ble_eq_true rfl) mV_X2_push m_1063 (recv_ob obC_7) rfl rfl (Nat.le_of_ble_eq_true rfl) d_X2_named_54 (qA (fun u54 s54 hz54 w4 => ?_)) (fun _ _ _ h => h.elim)
      refine g_astore hF [(4, .ref (r u54)), (0, .ref (r 7)), (2, .int v6), (3, .int y0_26)] d_X2_named_57 hnn (by decide) rfl ?_
      refine g_aload hF d_X2_named_59 0 rfl ?_
      refine g_iload_n hF d_X2_named_61 rfl 2 rfl ?_
      refine g_iload_n hF d_X2_named_62 rfl 3 rfl ?_
      refine g_mmax hF (Nat.le_of_ble_eq_true rfl) m_1130 m_1131 m_23 m_1132 (Nat.le_of_ble_eq_true rfl) d_X2_named_63 ?_
      refine g_putN (v := (if v6 < y0_26 then y0_26 else v6)) hF 4 (obC_op hz54) (by decide) nm_408 rfl rfl (rf_op hz54) d_X2_named_66 ?_
      obtain ⟨s4n, es4n⟩ : ∃ z, z = upC s54 u54 4 (if v6 < y0_26 then y0_26 else v6) := ⟨_, rfl⟩
      rw [← es4n]
      have w6 := w4 s4n es4n
      refine g_aload hF d_X2_named_69 0 rfl ?_
      refine g_iload_n hF d_X2_named_71 rfl 2 rfl ?_
      obtain ⟨J80, h80, w7⟩ := w6
      have b80 : ∀ (y1_80 : Int32), J80 y1_80 → G SC r X s4n Z0 [] [(0, .ref (r 7)), (2, .int v6), (3, .int y0_26), (4, .ref (r u54))] [.int y1_80, .ref (r u54)] 80 := by
        intro y1_80  w80_
        have w80_ := h80 y1_80  w80_
        refine g_putN (v := y1_80) hF 0 (obC_op hz54) (by decide) nm_399 rfl rfl (rf_op hz54) d_X2_named_80 ?_
        obtain ⟨s7n, es7n⟩ : ∃ z, z = upC s4n u54 0 y1_80 := ⟨_, rfl⟩
        rw [← es7n]
        have w9 := w80_ s7n es7n
        refine g_aload hF d_X2_named_83 3 rfl ?_
        refine g_iload_n hF d_X2_named_85 rfl 1 rfl ?_
        obtain ⟨J114, h114, w10⟩ := w9
        have b114 : ∀ (y1_114 : Int32), J114 y1_114 → G SC r X s7n Z0 [] [(0, .ref (r 7)), (2, .int v6), (3, .int y0_26), (4, .ref (r u54))] [.int y1_114, .ref (r u54)] 114 := by
          intro y1_114  w114_
          have w114_ := h114 y1_114  w114_
          refine g_putN (v := y1_114) hF 1 (obC_op hz54) (by decide) nm_402 rfl rfl (rf_op hz54) d_X2_named_114 ?_
          obtain ⟨s10n, es10n⟩ : ∃ z, z = upC s7n u54 1 y1_114 := ⟨_, rfl⟩
          rw [← es10n]
          have w12 := w114_ s10n es10n
          refine g_aload_n hF d_X2_named_117 rfl 0 rfl ?_
          refine g_get (v := .ref (r 5)) hF 3 obC_7 (by decide) m_459 rfl d_X2_named_118 ?_
          refine g_iload_n hF d_X2_named_121 rfl 2 rfl ?_
          refine g_bipush hF (v := 8) d_X2_named_122 (by decide) ?_
          refine g_callVN (As := [.int y0_26, .int 8]) (rest := []) hF (fun l D cy => kt_X8_mark a r w12 l D cy) (Nat.le_of_ble_eq_true rfl) mV_X8_mark nm_1133 (recv_ob obC_5) rfl rfl (Nat.le_of_ble_eq_true rfl) d_X2_named_124 (qV (fun s124 w13 => ?_))
          refine g_iload_n hF d_X2_named_127 rfl 1 rfl ?_
          refine g_if_lt hF 141 d_X2_named_128 (by decide) rfl (fun c => ?_) (fun c => ?_)
          · have w14 := w13.1 c
            refine g_aload_n hF d_X2_named_141 rfl 0 rfl ?_
            refine g_get (v := .ref (r 5)) hF 3 obC_7 (by decide) m_459 rfl d_X2_named_142 ?_
            refine g_getN (v := .ref (r 27)) hF 4 obC_5 (by decide) nm_233 rfl d_X2_named_145 ?_
            refine g_aload hF d_X2_named_148 3 rfl ?_
            refine g_getN (v := .int (s124 u54 4)) hF 4 (obC_op hz54) (by decide) nm_408 (fval_op hz54) d_X2_named_150 ?_
            refine g_callSN (As := [.ref (r 27), .int (s124 u54 4)]) (rest := []) hF (c_atv a r s124 arC_27 (by decide) (s124 u54 4)) (Nat.le_of_ble_eq_true rfl) mS_X12_at nm_1058 rfl rfl (Nat.le_of_ble_eq_true rfl) d_X2_named_153 (kQ ?_)
            refine g_top (v := (atv 10100 (s124 27) (s124 u54 4))) rfl ?_
            refine g_if_lt hF 165 d_X2_named_156 (by decide) rfl (fun c => ?_) (fun c => ?_)
            · have w15 := w14.1 c
              exact g_vret hF rfl d_X2_named_165 ⟨rfl, rfl, rfl, w15⟩
            · have w16 := w14.2 c
              refine g_aload_n hF d_X2_named_159 rfl 0 rfl ?_
              refine g_aload hF d_X2_named_160 3 rfl ?_
              refine g_callV (As := [.ref (r u54)]) (rest := []) hF (fun l D cy => kt_X2_address a r hz54 w16 l D cy) (Nat.le_of_ble_eq_true rfl) mV_X2_address m_1137 (recv_ob obC_7) rfl rfl (Nat.le_of_ble_eq_true rfl) d_X2_named_162 (qV (fun s162 w17 => ?_)) (fun _ _ _ h => h.elim)
              exact g_vret hF rfl d_X2_named_165 ⟨rfl, rfl, rfl, w17⟩
          · have w18 := w13.2 c
            refine g_aload_n hF d_X2_named_131 rfl 0 rfl ?_
            refine g_get (v := .ref (r 6)) hF 2 obC_7 (by decide) m_458 rfl d_X2_named_132 ?_
            refine g_getN (v := .ref (r 42)) hF 13 obC_6 (by decide) nm_337 rfl d_X2_named_135 ?_
            refine g_goto hF 148 d_X2_named_138 (by decide) ?_
            refine g_aload hF d_X2_named_148 3 rfl ?_
            refine g_getN (v := .int (s124 u54 4)) hF 4 (obC_op hz54) (by decide) nm_408 (fval_op hz54) d_X2_named_150 ?_
            refine g_callSN (As := [.ref (r 42), .int (s124 u54 4)]) (rest := []) hF (c_atv a r s124 arC_42 (by decide) (s124 u54 4)) (Nat.le_of_ble_eq_true rfl) mS_X12_at nm_1058 rfl rfl (Nat.le_of_ble_eq_true rfl) d_X2_named_153 (kQ ?_)
            refine g_top (v := (atv 100 (s124 42) (s124 u54 4))) rfl ?_
            refine g_if_lt hF 165 d_X2_named_156 (by decide) rfl (fun c => ?_) (fun c => ?_)
            · have w19 := w18.1 c
              exact g_vret hF rfl d_X2_named_165 ⟨rfl, rfl, rfl, w19⟩
            · have w20 := w18.2 c
              refine g_aload_n hF d_X2_named_159 rfl 0 rfl ?_
              refine g_aload hF d_X2_named_160 3 rfl ?_
              refine g_callV (As := [.ref (r u54)]) (rest := []) hF (fun l D cy => kt_X2_address a r hz54 w20 l D cy) (Nat.le_of_ble_eq_true rfl) mV_X2_address m_1137 (recv_ob obC_7) rfl rfl (Nat.le_of_ble_eq_true rfl) d_X2_named_162 (qV (fun s162 w21 => ?_)) (fun _ _ _ h => h.elim)
              exact g_vret hF rfl d_X2_named_165 ⟨rfl, rfl, rfl, w21⟩
        refine g_if_lt hF 103 d_X2_named_86 (by decide) rfl (fun c => ?_) (fun c => ?_)
        · have w22 := w10.1 c
          refine g_aload_n hF d_X2_named_103 rfl 0 rfl ?_
          refine g_get (v := .ref (r 5)) hF 3 obC_7 (by decide) m_459 rfl d_X2_named_104 ?_
          refine g_getN (v := .ref (r 26)) hF 3 obC_5 (by decide) nm_229 rfl d_X2_named_107 ?_
          refine g_iload_n hF d_X2_named_110 rfl 2 rfl ?_
          refine g_callSN (As := [.ref (r 26), .int y0_26]) (rest := [.ref (r u54)]) hF (c_atv a r s7n arC_26 (by decide) y0_26) (Nat.le_of_ble_eq_true rfl) mS_X12_at nm_1058 rfl rfl (Nat.le_of_ble_eq_true rfl) d_X2_named_111 (kQ ?_)
          refine g_top (v := (atv 10100 (s7n 26) y0_26)) rfl ?_
          exact b114 (atv 10100 (s7n 26) y0_26) w22
        · have w23 := w10.2 c
          refine g_aload_n hF d_X2_named_89 rfl 0 rfl ?_
          refine g_get (v := .ref (r 6)) hF 2 obC_7 (by decide) m_458 rfl d_X2_named_90 ?_
          refine g_getN (v := .ref (r 41)) hF 12 obC_6 (by decide) nm_335 rfl d_X2_named_93 ?_
          refine g_iload_n hF d_X2_named_96 rfl 1 rfl ?_
          refine g_callSN (As := [.ref (r 41), .int v6]) (rest := [.ref (r u54)]) hF (c_atv a r s7n arC_41 (by decide) v6) (Nat.le_of_ble_eq_true rfl) mS_X12_at nm_1058 rfl rfl (Nat.le_of_ble_eq_true rfl) d_X2_named_97 (kQ ?_)
          refine g_top (v := (atv 100 (s7n 41) v6)) rfl ?_
          refine g_goto hF 114 d_X2_named_100 (by decide) ?_
          exact b114 (atv 100 (s7n 41) v6) w23
      refine g_if_lt hF 79 d_X2_named_72 (by decide) rfl (fun c => ?_) (fun c => ?_)
      · have w24 := w7.1 c
        refine g_iconst hF (v := 2) d_X2_named_79 (by decide) ?_
        exact g_sub (L' := [(0, .ref (r 7)), (2, .int v6), (3, .int y0_26), (4, .ref (r u54))]) [1, 2, 3, 0] rfl (b80 (2 : Int32) w24)
      · have w25 := w7.2 c
        refine g_iconst hF (v := 1) d_X2_named_75 (by decide) ?_
        refine g_goto hF 80 d_X2_named_76 (by decide) ?_
        exact g_sub (L' := [(0, .ref (r 7)), (2, .int v6), (3, .int y0_26), (4, .ref (r u54))]) [1, 2, 3, 0] rfl (b80 (1 : Int32) w25)
    refine g_if_ge hF 53 d_X2_named_28 (by decide) rfl (fun c => ?_) (fun c => ?_)
    · have w26 := w3.1 c
      exact g_sub (L' := [(0, .ref (r 7)), (2, .int v6), (3, .int y0_26)]) [1, 3, 0] rfl (b53  w26)
    · have w27 := w3.2 c
      refine g_iload_n hF d_X2_named_31 rfl 0 rfl ?_
      obtain ⟨J47, h47, w28⟩ := w27
      have b47 : J47  → G SC r X σ Z0 [] [(0, .ref (r 7)), (1, .int a1)] [] 47 := by
        intro   w47_
        have w47_ := h47   w47_
        refine g_aload_n hF d_X2_named_47 rfl 0 rfl ?_
        refine g_iload_n hF d_X2_named_48 rfl 1 rfl ?_
        refine g_callV (As := [.int a1]) (rest := []) hF (fun l D cy => kt_X2_refuse a r w47_ l D cy) (Nat.le_of_ble_eq_true rfl) mV_X2_refuse m_1126 (recv_ob obC_7) rfl rfl (Nat.le_of_ble_eq_true rfl) d_X2_named_49 (qV (fun s49 w29 => ?_)) (fun _ _ _ h => h.elim)
        exact g_vret hF rfl d_X2_named_52 ⟨rfl, rfl, rfl, w29⟩
      refine g_if_lt hF 47 d_X2_named_32 (by decide) rfl (fun c => ?_) (fun c => ?_)
      · have w30 := w28.1 c
        exact g_sub (L' := [(0, .ref (r 7)), (1, .int a1)]) [1, 2] rfl (b47  w30)
      · have w31 := w28.2 c
        refine g_aload_n hF d_X2_named_35 rfl 1 rfl ?_
        refine g_get (v := .ref (r 5)) hF 3 obC_7 (by decide) m_459 rfl d_X2_named_36 ?_
        refine g_iload_n hF d_X2_named_39 rfl 0 rfl ?_
        refine g_iconst hF (v := 1) d_X2_named_40 (by decide) ?_
        refine g_callVN (As := [.int y0_26, .int 1]) (rest := []) hF (fun l D cy => kt_X8_is a r w31 l D cy) (Nat.le_of_ble_eq_true rfl) mV_X8_is nm_1121 (recv_ob obC_5) rfl rfl (Nat.le_of_ble_eq_true rfl) d_X2_named_41 (qZr (fun v41 hz41 w32 => ?_))
        refine g_if_eq hF 53 d_X2_named_44 (by decide) rfl (fun c => ?_) (fun c => ?_)
        · have w33 := w32.1 c
          exact g_sub (L' := [(0, .ref (r 7)), (2, .int v6), (3, .int y0_26)]) [1, 3, 0] rfl (b53  w33)
        · have w34 := w32.2 c
          exact g_sub (L' := [(0, .ref (r 7)), (1, .int a1)]) [1, 2] rfl (b47  w34)
  refine g_if_ge hF 25 d_X2_named_11 (by decide) rfl (fun c => ?_) (fun c => ?_)
  · have w35 := w2.1 c
    refine g_iconst hF (v := (-1)) d_X2_named_25 (by decide) ?_
    exact g_sub (L' := [(0, .ref (r 7)), (1, .int a1), (2, .int v6)]) [1, 2, 0] rfl (b26 ((-1) : Int32) w35)
  · have w36 := w2.2 c
    refine g_aload_n hF d_X2_named_14 rfl 1 rfl ?_
    refine g_get (v := .ref (r 6)) hF 2 obC_7 (by decide) m_458 rfl d_X2_named_15 ?_
    refine g_iload_n hF d_X2_named_18 rfl 2 rfl ?_
    refine g_callVN (As := [.int a1]) (rest := []) hF (fun l D cy => kt_X11_outerOf a r w36 l D cy) (Nat.le_of_ble_eq_true rfl) mV_X11_outerOf nm_1117 (recv_ob obC_6) rfl rfl (Nat.le_of_ble_eq_true rfl) d_X2_named_19 (qIr (fun v19 w37 => ?_))
    refine g_goto hF 26 d_X2_named_22 (by decide) ?_
    exact g_sub (L' := [(0, .ref (r 7)), (1, .int a1), (2, .int v6)]) [1, 2, 0] rfl (b26 v19 w37)
set_option maxHeartbeats 4000000 in
set_option maxRecDepth 100000 in
theorem kt_X11_mentionCall (a : Nat → Nat) (r : Nat → Nat) {a1 : Int32} {a2 : Int32} {σ : St} {Q : St → Prop} (w : wk_X11_mentionCall a1 a2 σ Q) (l : Launch) (D : va_G) (cy : Nat → ClassId) : Ct l D cy SC r (EC a gC) y_X11_mentionCall (Cond.code y_X11_mentionCall b_X11_mentionCall 4 none) 2 [.ref (r 6), .int a1, .int a2] σ Z0 [] (QV Q) QT0 := by
  unfold wk_X11_mentionCall at w
  refine Ct_of (EC_ok a gC) (by decide) (Nat.le_of_ble_eq_true rfl) (by decide) (fun X hnn hF => ?_)
  show G SC r X σ Z0 [] [(0, .ref (r 6)), (1, .int a1), (2, .int a2)] [] 0
  refine g_iload_n hF d_X11_mentionCall_0 rfl 1 rfl ?_
  refine g_aload_n hF d_X11_mentionCall_1 rfl 0 rfl ?_
  refine g_get (v := .ref (r 5)) hF 1 obC_6 (by decide) m_309 rfl d_X11_mentionCall_2 ?_
  refine g_getN (v := .int (σ 5 1)) hF 1 obC_5 (by decide) nm_223 rfl d_X11_mentionCall_5 ?_
  refine g_aload_n hF d_X11_mentionCall_8 rfl 0 rfl ?_
  refine g_get (v := .int (σ 6 7)) hF 7 obC_6 (by decide) m_327 rfl d_X11_mentionCall_9 ?_
  refine g_isub hF d_X11_mentionCall_12 ?_
  refine g_isub hF d_X11_mentionCall_13 ?_
  refine g_istore_n hF [(3, .int (a1 - ((σ 5 1) - (σ 6 7)))), (0, .ref (r 6)), (1, .int a1), (2, .int a2)] d_X11_mentionCall_14 rfl hnn (by decide) rfl ?_
  refine g_aload_n hF d_X11_mentionCall_15 rfl 1 rfl ?_
  refine g_get (v := .ref (r 5)) hF 1 obC_6 (by decide) m_309 rfl d_X11_mentionCall_16 ?_
  refine g_iload_n hF d_X11_mentionCall_19 rfl 2 rfl ?_
  refine g_bipush hF (v := 8) d_X11_mentionCall_20 (by decide) ?_
  refine g_callVN (As := [.int a1, .int 8]) (rest := []) hF (fun l D cy => kt_X8_mark a r w l D cy) (Nat.le_of_ble_eq_true rfl) mV_X8_mark nm_1150 (recv_ob obC_5) rfl rfl (Nat.le_of_ble_eq_true rfl) d_X11_mentionCall_22 (qV (fun s22 w1 => ?_))
  refine g_aload_n hF d_X11_mentionCall_25 rfl 1 rfl ?_
  refine g_get (v := .ref (r 39)) hF 9 obC_6 (by decide) m_330 rfl d_X11_mentionCall_26 ?_
  refine g_iload_n hF d_X11_mentionCall_29 rfl 0 rfl ?_
  refine g_callSN (As := [.ref (r 39), .int (a1 - ((σ 5 1) - (σ 6 7)))]) (rest := []) hF (c_atv a r s22 arC_39 (by decide) (a1 - ((σ 5 1) - (σ 6 7)))) (Nat.le_of_ble_eq_true rfl) mS_X12_at nm_1112 rfl rfl (Nat.le_of_ble_eq_true rfl) d_X11_mentionCall_30 (kQ ?_)
  refine g_top (v := (atv 100 (s22 39) (a1 - ((σ 5 1) - (σ 6 7))))) rfl ?_
  refine g_if_ge hF 45 d_X11_mentionCall_33 (by decide) rfl (fun c => ?_) (fun c => ?_)
  · have w2 := w1.1 c
    exact g_vret hF rfl d_X11_mentionCall_45 ⟨rfl, rfl, rfl, w2⟩
  · have w3 := w1.2 c
    refine g_aload_n hF d_X11_mentionCall_36 rfl 1 rfl ?_
    refine g_get (v := .ref (r 39)) hF 9 obC_6 (by decide) m_330 rfl d_X11_mentionCall_37 ?_
    refine g_iload_n hF d_X11_mentionCall_40 rfl 0 rfl ?_
    refine g_iload_n hF d_X11_mentionCall_41 rfl 3 rfl ?_
    refine g_callSN (As := [.ref (r 39), .int (a1 - ((σ 5 1) - (σ 6 7))), .int a2]) (rest := []) hF (c_setv a r s22 arC_39 (by decide) (a1 - ((σ 5 1) - (σ 6 7))) a2) (Nat.le_of_ble_eq_true rfl) mS_X12_set nm_1151 rfl rfl (Nat.le_of_ble_eq_true rfl) d_X11_mentionCall_42 (kU ?_)
    exact g_vret hF rfl d_X11_mentionCall_45 ⟨rfl, rfl, rfl, w3⟩
