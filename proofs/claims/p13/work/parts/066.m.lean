set_option maxHeartbeats 4000000 in
set_option maxRecDepth 100000 in
theorem kt_X2_callee (a : Nat → Nat) (r : Nat → Nat) {a1 : Int32} {σ : St} {Q : St → Prop} (w : wk_X2_callee a1 σ Q) (l : Launch) (D : va_G) (cy : Nat → ClassId) : Ct l D cy SC r (EC a gC) y_X2_callee (Cond.code y_X2_callee b_X2_callee 4 none) 3 [.ref (r 7), .int a1] σ Z0 [] (QV Q) QT0 := by
  unfold wk_X2_callee at w
  refine Ct_of (EC_ok a gC) (by decide) (Nat.le_of_ble_eq_true rfl) (by decide) (fun X hnn hF => ?_)
  show G SC r X σ Z0 [] [(0, .ref (r 7)), (1, .int a1)] [] 0
  refine g_aload_n hF d_X2_callee_0 rfl 0 rfl ?_
  refine g_get (v := .ref (r 6)) hF 2 obC_7 (by decide) m_458 rfl d_X2_callee_1 ?_
  refine g_iconst hF (v := 0) d_X2_callee_4 (by decide) ?_
  refine g_iload_n hF d_X2_callee_5 rfl 1 rfl ?_
  refine g_callVN (As := [.int 0, .int a1]) (rest := []) hF (fun l D cy => kt_X11_localFrom a r w l D cy) (Nat.le_of_ble_eq_true rfl) mV_X11_localFrom nm_1108 (recv_ob obC_6) rfl rfl (Nat.le_of_ble_eq_true rfl) d_X2_callee_6 (qIr (fun v6 w1 => ?_))
  obtain ⟨J24, h24, w2⟩ := w1
  have b24 : ∀ (y0_24 : Int32), J24 y0_24 → G SC r X σ Z0 [] [(0, .ref (r 7)), (1, .int a1)] [.int y0_24] 24 := by
    intro y0_24  w24_
    have w24_ := h24 y0_24  w24_
    refine g_istore_n hF [(2, .int y0_24), (0, .ref (r 7)), (1, .int a1)] d_X2_callee_24 rfl hnn (by decide) rfl ?_
    refine g_iload_n hF d_X2_callee_25 rfl 0 rfl ?_
    obtain ⟨J41, h41, w3⟩ := w24_
    have b41 : J41  → G SC r X σ Z0 [] [(0, .ref (r 7)), (1, .int a1)] [] 41 := by
      intro   w41_
      have w41_ := h41   w41_
      refine g_aload_n hF d_X2_callee_41 rfl 0 rfl ?_
      refine g_iload_n hF d_X2_callee_42 rfl 1 rfl ?_
      refine g_callV (As := [.int a1]) (rest := []) hF (fun l D cy => kt_X2_refuse a r w41_ l D cy) (Nat.le_of_ble_eq_true rfl) mV_X2_refuse m_1126 (recv_ob obC_7) rfl rfl (Nat.le_of_ble_eq_true rfl) d_X2_callee_43 (qV (fun s43 w4 => ?_)) (fun _ _ _ h => h.elim)
      exact g_vret hF rfl d_X2_callee_46 ⟨rfl, rfl, rfl, w4⟩
    refine g_if_lt hF 41 d_X2_callee_26 (by decide) rfl (fun c => ?_) (fun c => ?_)
    · have w5 := w3.1 c
      exact g_sub (L' := [(0, .ref (r 7)), (1, .int a1)]) [1, 2] rfl (b41  w5)
    · have w6 := w3.2 c
      refine g_aload_n hF d_X2_callee_29 rfl 1 rfl ?_
      refine g_get (v := .ref (r 5)) hF 3 obC_7 (by decide) m_459 rfl d_X2_callee_30 ?_
      refine g_iload_n hF d_X2_callee_33 rfl 0 rfl ?_
      refine g_iconst hF (v := 1) d_X2_callee_34 (by decide) ?_
      refine g_callVN (As := [.int y0_24, .int 1]) (rest := []) hF (fun l D cy => kt_X8_is a r w6 l D cy) (Nat.le_of_ble_eq_true rfl) mV_X8_is nm_1121 (recv_ob obC_5) rfl rfl (Nat.le_of_ble_eq_true rfl) d_X2_callee_35 (qZr (fun v35 hz35 w7 => ?_))
      refine g_if_ne hF 47 d_X2_callee_38 (by decide) rfl (fun c => ?_) (fun c => ?_)
      · have w8 := w7.1 c
        refine g_aload_n hF d_X2_callee_47 rfl 1 rfl ?_
        refine g_get (v := .ref (r 6)) hF 2 obC_7 (by decide) m_458 rfl d_X2_callee_48 ?_
        refine g_iload_n hF d_X2_callee_51 rfl 0 rfl ?_
        refine g_iload_n hF d_X2_callee_52 rfl 2 rfl ?_
        refine g_callVN (As := [.int y0_24, .int a1]) (rest := []) hF (fun l D cy => kt_X11_mentionCall a r w8 l D cy) (Nat.le_of_ble_eq_true rfl) mV_X11_mentionCall nm_1146 (recv_ob obC_6) rfl rfl (Nat.le_of_ble_eq_true rfl) d_X2_callee_53 (qV (fun s53 w9 => ?_))
        refine g_aload_n hF d_X2_callee_56 rfl 1 rfl ?_
        refine g_callV (As := []) (rest := []) hF (fun l D cy => kt_X2_push a r w9 l D cy) (Nat.le_of_ble_eq_true rfl) mV_X2_push m_1063 (recv_ob obC_7) rfl rfl (Nat.le_of_ble_eq_true rfl) d_X2_callee_57 (qA (fun u57 s57 hz57 w10 => ?_)) (fun _ _ _ h => h.elim)
        refine g_astore_n hF [(3, .ref (r u57)), (2, .int y0_24), (0, .ref (r 7)), (1, .int a1)] d_X2_callee_60 rfl hnn (by decide) rfl ?_
        refine g_aload_n hF d_X2_callee_61 rfl 0 rfl ?_
        refine g_iconst hF (v := 4) d_X2_callee_62 (by decide) ?_
        refine g_putN (v := 4) hF 0 (obC_op hz57) (by decide) nm_399 rfl rfl (rf_op hz57) d_X2_callee_63 ?_
        obtain ⟨s10n, es10n⟩ : ∃ z, z = upC s57 u57 0 (4 : Int32) := ⟨_, rfl⟩
        rw [← es10n]
        have w12 := w10 s10n es10n
        refine g_aload_n hF d_X2_callee_66 rfl 0 rfl ?_
        refine g_iload_n hF d_X2_callee_67 rfl 1 rfl ?_
        refine g_putN (v := y0_24) hF 4 (obC_op hz57) (by decide) nm_408 rfl rfl (rf_op hz57) d_X2_callee_68 ?_
        obtain ⟨s12n, es12n⟩ : ∃ z, z = upC s10n u57 4 y0_24 := ⟨_, rfl⟩
        rw [← es12n]
        have w14 := w12 s12n es12n
        refine g_aload_n hF d_X2_callee_71 rfl 0 rfl ?_
        refine g_aload_n hF d_X2_callee_72 rfl 2 rfl ?_
        refine g_get (v := .ref (r 5)) hF 3 obC_7 (by decide) m_459 rfl d_X2_callee_73 ?_
        refine g_getN (v := .ref (r 26)) hF 3 obC_5 (by decide) nm_229 rfl d_X2_callee_76 ?_
        refine g_iload_n hF d_X2_callee_79 rfl 1 rfl ?_
        refine g_callSN (As := [.ref (r 26), .int y0_24]) (rest := [.ref (r u57)]) hF (c_atv a r s12n arC_26 (by decide) y0_24) (Nat.le_of_ble_eq_true rfl) mS_X12_at nm_1058 rfl rfl (Nat.le_of_ble_eq_true rfl) d_X2_callee_80 (kQ ?_)
        refine g_top (v := (atv 10100 (s12n 26) y0_24)) rfl ?_
        refine g_putN (v := (atv 10100 (s12n 26) y0_24)) hF 1 (obC_op hz57) (by decide) nm_402 rfl rfl (rf_op hz57) d_X2_callee_83 ?_
        obtain ⟨s14n, es14n⟩ : ∃ z, z = upC s12n u57 1 (atv 10100 (s12n 26) y0_24) := ⟨_, rfl⟩
        rw [← es14n]
        have w16 := w14 s14n es14n
        refine g_aload_n hF d_X2_callee_86 rfl 0 rfl ?_
        refine g_iconst hF (v := 0) d_X2_callee_87 (by decide) ?_
        refine g_putN (v := 0) hF 2 (obC_op hz57) (by decide) nm_404 rfl rfl (rf_op hz57) d_X2_callee_88 ?_
        obtain ⟨s16n, es16n⟩ : ∃ z, z = upC s14n u57 2 (0 : Int32) := ⟨_, rfl⟩
        rw [← es16n]
        have w18 := w16 s16n es16n
        exact g_vret hF rfl d_X2_callee_91 ⟨rfl, rfl, rfl, w18⟩
      · have w19 := w7.2 c
        exact g_sub (L' := [(0, .ref (r 7)), (1, .int a1)]) [1, 2] rfl (b41  w19)
  refine g_if_ge hF 23 d_X2_callee_9 (by decide) rfl (fun c => ?_) (fun c => ?_)
  · have w20 := w2.1 c
    refine g_iconst hF (v := (-1)) d_X2_callee_23 (by decide) ?_
    exact b24 ((-1) : Int32) w20
  · have w21 := w2.2 c
    refine g_aload_n hF d_X2_callee_12 rfl 0 rfl ?_
    refine g_get (v := .ref (r 6)) hF 2 obC_7 (by decide) m_458 rfl d_X2_callee_13 ?_
    refine g_iload_n hF d_X2_callee_16 rfl 1 rfl ?_
    refine g_callVN (As := [.int a1]) (rest := []) hF (fun l D cy => kt_X11_outerOf a r w21 l D cy) (Nat.le_of_ble_eq_true rfl) mV_X11_outerOf nm_1117 (recv_ob obC_6) rfl rfl (Nat.le_of_ble_eq_true rfl) d_X2_callee_17 (qIr (fun v17 w22 => ?_))
    refine g_goto hF 24 d_X2_callee_20 (by decide) ?_
    exact b24 v17 w22
set_option maxHeartbeats 4000000 in
set_option maxRecDepth 100000 in
theorem kt_X6_isPlace (a : Nat → Nat) (r : Nat → Nat) {a0 : Nat} {σ : St} {Q : Int32 → Prop} (ha0 : isOp a0) (w : wk_X6_isPlace a0 σ Q) (l : Launch) (D : va_G) (cy : Nat → ClassId) : Ct l D cy SC r (EC a gC) y_X6_isPlace (Cond.code y_X6_isPlace b_X6_isPlace 1 (some .boolean)) 0 [.ref (r a0)] σ Z0 [] (QI (fun x σ9 => (x = 0 ∨ x = 1) ∧ σ9 = σ ∧ Q x)) QT0 := by
  unfold wk_X6_isPlace at w
  refine Ct_of (EC_ok a gC) (by decide) (Nat.le_of_ble_eq_true rfl) (by decide) (fun X hnn hF => ?_)
  show G SC r X σ Z0 [] [(0, .ref (r a0))] [] 0
  refine g_aload_n hF d_X6_isPlace_0 rfl 0 rfl ?_
  refine g_get (v := .int (σ a0 0)) hF 0 (obC_op ha0) (by decide) m_398 (fval_op ha0) d_X6_isPlace_1 ?_
  refine g_iconst hF (v := 1) d_X6_isPlace_4 (by decide) ?_
  refine g_icmp_eq (yv := 1) hF 24 d_X6_isPlace_5 (by decide) rfl (by decide) (fun c => ?_) (fun c => ?_)
  · have w1 := w.1 c
    refine g_iconst hF (v := 1) d_X6_isPlace_24 (by decide) ?_
    refine g_goto hF 29 d_X6_isPlace_25 (by decide) ?_
    exact g_zret hF rfl (k_nz (Or.inr rfl)) d_X6_isPlace_29 ⟨rfl, rfl, (1 : Int32), rfl, (Or.inr rfl), ⟨rfl, w1⟩⟩
  · have w2 := w.2 c
    refine g_aload_n hF d_X6_isPlace_8 rfl 0 rfl ?_
    refine g_get (v := .int (σ a0 0)) hF 0 (obC_op ha0) (by decide) m_398 (fval_op ha0) d_X6_isPlace_9 ?_
    refine g_iconst hF (v := 2) d_X6_isPlace_12 (by decide) ?_
    refine g_icmp_eq (yv := 2) hF 24 d_X6_isPlace_13 (by decide) rfl (by decide) (fun c => ?_) (fun c => ?_)
    · have w3 := w2.1 c
      refine g_iconst hF (v := 1) d_X6_isPlace_24 (by decide) ?_
      refine g_goto hF 29 d_X6_isPlace_25 (by decide) ?_
      exact g_zret hF rfl (k_nz (Or.inr rfl)) d_X6_isPlace_29 ⟨rfl, rfl, (1 : Int32), rfl, (Or.inr rfl), ⟨rfl, w3⟩⟩
    · have w4 := w2.2 c
      refine g_aload_n hF d_X6_isPlace_16 rfl 0 rfl ?_
      refine g_get (v := .int (σ a0 0)) hF 0 (obC_op ha0) (by decide) m_398 (fval_op ha0) d_X6_isPlace_17 ?_
      refine g_iconst hF (v := 3) d_X6_isPlace_20 (by decide) ?_
      refine g_icmp_ne (yv := 3) hF 28 d_X6_isPlace_21 (by decide) rfl (by decide) (fun c => ?_) (fun c => ?_)
      · have w5 := w4.1 c
        refine g_iconst hF (v := 0) d_X6_isPlace_28 (by decide) ?_
        exact g_zret hF rfl (k_nz (Or.inl rfl)) d_X6_isPlace_29 ⟨rfl, rfl, (0 : Int32), rfl, (Or.inl rfl), ⟨rfl, w5⟩⟩
      · have w6 := w4.2 c
        refine g_iconst hF (v := 1) d_X6_isPlace_24 (by decide) ?_
        refine g_goto hF 29 d_X6_isPlace_25 (by decide) ?_
        exact g_zret hF rfl (k_nz (Or.inr rfl)) d_X6_isPlace_29 ⟨rfl, rfl, (1 : Int32), rfl, (Or.inr rfl), ⟨rfl, w6⟩⟩
set_option maxHeartbeats 4000000 in
set_option maxRecDepth 100000 in
theorem kt_X2_loaded (a : Nat → Nat) (r : Nat → Nat) {a1 : Nat} {σ : St} {Q : Nat → St → Prop} (ha1 : isOp a1) (w : wk_X2_loaded a1 σ Q) (l : Launch) (D : va_G) (cy : Nat → ClassId) : Ct l D cy SC r (EC a gC) y_X2_loaded (Cond.code y_X2_loaded b_X2_loaded 2 (some (.object "LinkedUnits$Operand"))) 1 [.ref (r 7), .ref (r a1)] σ Z0 [] (QA r (fun q σ9 => isOp q ∧ Q q σ9)) QT0 := by
  unfold wk_X2_loaded at w
  refine Ct_of (EC_ok a gC) (by decide) (Nat.le_of_ble_eq_true rfl) (by decide) (fun X hnn hF => ?_)
  show G SC r X σ Z0 [] [(0, .ref (r 7)), (1, .ref (r a1))] [] 0
  refine g_aload_n hF d_X2_loaded_0 rfl 1 rfl ?_
  refine g_callVN (As := []) (rest := []) hF (fun l D cy => kt_X6_isPlace a r ha1 w l D cy) (Nat.le_of_ble_eq_true rfl) mV_X6_isPlace nm_1168 (recv_ob (obC_op ha1)) rfl rfl (Nat.le_of_ble_eq_true rfl) d_X2_loaded_1 (qZr (fun v1 hz1 w1 => ?_))
  refine g_if_eq hF 67 d_X2_loaded_4 (by decide) rfl (fun c => ?_) (fun c => ?_)
  · have w2 := w1.1 c
    refine g_aload_n hF d_X2_loaded_67 rfl 1 rfl ?_
    exact g_aret hF rfl d_X2_loaded_68 ⟨rfl, rfl, a1, rfl, ha1, w2⟩
  · have w3 := w1.2 c
    refine g_aload_n hF d_X2_loaded_7 rfl 1 rfl ?_
    refine g_getN (v := .int (σ a1 0)) hF 0 (obC_op ha1) (by decide) nm_399 (fval_op ha1) d_X2_loaded_8 ?_
    refine g_iconst hF (v := 3) d_X2_loaded_11 (by decide) ?_
    refine g_icmp_ne (yv := 3) hF 34 d_X2_loaded_12 (by decide) rfl (by decide) (fun c => ?_) (fun c => ?_)
    · have w4 := w3.1 c
      refine g_aload_n hF d_X2_loaded_34 rfl 0 rfl ?_
      refine g_get (v := .ref (r 4)) hF 4 obC_7 (by decide) m_461 rfl d_X2_loaded_35 ?_
      refine g_aload_n hF d_X2_loaded_38 rfl 1 rfl ?_
      refine g_getN (v := .int (σ a1 0)) hF 0 (obC_op ha1) (by decide) nm_399 (fval_op ha1) d_X2_loaded_39 ?_
      refine g_iconst hF (v := 1) d_X2_loaded_42 (by decide) ?_
      obtain ⟨J52, h52, w5⟩ := w4
      have b52 : ∀ (y1_52 : Int32), J52 y1_52 → G SC r X σ Z0 [] [(1, .ref (r a1))] [.int y1_52, .ref (r 4)] 52 := by
        intro y1_52  w52_
        have w52_ := h52 y1_52  w52_
        refine g_aload_n hF d_X2_loaded_52 rfl 0 rfl ?_
        refine g_getN (v := .int (σ a1 4)) hF 4 (obC_op ha1) (by decide) nm_408 (fval_op ha1) d_X2_loaded_53 ?_
        refine g_iconst hF (v := 0) d_X2_loaded_56 (by decide) ?_
        refine g_iconst hF (v := 0) d_X2_loaded_57 (by decide) ?_
        refine g_callVN (As := [.int y1_52, .int (σ a1 4), .int 0, .int 0]) (rest := []) hF (fun l D cy => kt_X0_emit a r w52_ l D cy) (Nat.le_of_ble_eq_true rfl) mV_X0_emit nm_1071 (recv_ob obC_4) rfl rfl (Nat.le_of_ble_eq_true rfl) d_X2_loaded_58 (qI (fun v58 s58 w6 => ?_))
        refine g_pop hF d_X2_loaded_61 rfl ?_
        refine g_aload_n hF d_X2_loaded_62 rfl 0 rfl ?_
        refine g_iconst hF (v := 0) d_X2_loaded_63 (by decide) ?_
        refine g_putN (v := 0) hF 0 (obC_op ha1) (by decide) nm_399 rfl rfl (rf_op ha1) d_X2_loaded_64 ?_
        obtain ⟨s6n, es6n⟩ : ∃ z, z = upC s58 a1 0 (0 : Int32) := ⟨_, rfl⟩
        rw [← es6n]
        have w8 := w6 s6n es6n
        refine g_aload_n hF d_X2_loaded_67 rfl 0 rfl ?_
        exact g_aret hF rfl d_X2_loaded_68 ⟨rfl, rfl, a1, rfl, ha1, w8⟩
      refine g_icmp_ne (yv := 1) hF 51 d_X2_loaded_43 (by decide) rfl (by decide) (fun c => ?_) (fun c => ?_)
      · have w9 := w5.1 c
        refine g_iconst hF (v := 5) d_X2_loaded_51 (by decide) ?_
        exact g_sub (L' := [(1, .ref (r a1))]) [1] rfl (b52 (5 : Int32) w9)
      · have w10 := w5.2 c
        refine g_bipush hF (v := 8) d_X2_loaded_46 (by decide) ?_
        refine g_goto hF 52 d_X2_loaded_48 (by decide) ?_
        exact g_sub (L' := [(1, .ref (r a1))]) [1] rfl (b52 (8 : Int32) w10)
    · have w11 := w3.2 c
      refine g_aload_n hF d_X2_loaded_15 rfl 0 rfl ?_
      refine g_get (v := .ref (r 4)) hF 4 obC_7 (by decide) m_461 rfl d_X2_loaded_16 ?_
      refine g_bipush hF (v := 18) d_X2_loaded_19 (by decide) ?_
      refine g_aload_n hF d_X2_loaded_21 rfl 1 rfl ?_
      refine g_getN (v := .int (σ a1 5)) hF 5 (obC_op ha1) (by decide) nm_410 (fval_op ha1) d_X2_loaded_22 ?_
      refine g_iconst hF (v := 0) d_X2_loaded_25 (by decide) ?_
      refine g_iconst hF (v := 0) d_X2_loaded_26 (by decide) ?_
      refine g_callVN (As := [.int 18, .int (σ a1 5), .int 0, .int 0]) (rest := []) hF (fun l D cy => kt_X0_emit a r w11 l D cy) (Nat.le_of_ble_eq_true rfl) mV_X0_emit nm_1071 (recv_ob obC_4) rfl rfl (Nat.le_of_ble_eq_true rfl) d_X2_loaded_27 (qI (fun v27 s27 w12 => ?_))
      refine g_pop hF d_X2_loaded_30 rfl ?_
      refine g_goto hF 62 d_X2_loaded_31 (by decide) ?_
      refine g_aload_n hF d_X2_loaded_62 rfl 1 rfl ?_
      refine g_iconst hF (v := 0) d_X2_loaded_63 (by decide) ?_
      refine g_putN (v := 0) hF 0 (obC_op ha1) (by decide) nm_399 rfl rfl (rf_op ha1) d_X2_loaded_64 ?_
      obtain ⟨s12n, es12n⟩ : ∃ z, z = upC s27 a1 0 (0 : Int32) := ⟨_, rfl⟩
      rw [← es12n]
      have w14 := w12 s12n es12n
      refine g_aload_n hF d_X2_loaded_67 rfl 1 rfl ?_
      exact g_aret hF rfl d_X2_loaded_68 ⟨rfl, rfl, a1, rfl, ha1, w14⟩
set_option maxHeartbeats 4000000 in
set_option maxRecDepth 100000 in
theorem kt_X2_pop (a : Nat → Nat) (r : Nat → Nat) {σ : St} {Q : Nat → St → Prop} (w : wk_X2_pop  σ Q) (l : Launch) (D : va_G) (cy : Nat → ClassId) : Ct l D cy SC r (EC a gC) y_X2_pop (Cond.code y_X2_pop b_X2_pop 2 (some (.object "LinkedUnits$Operand"))) 2 [.ref (r 7)] σ Z0 [] (QA r (fun q σ9 => isOp q ∧ Q q σ9)) QT0 := by
  unfold wk_X2_pop at w
  refine Ct_of (EC_ok a gC) (by decide) (Nat.le_of_ble_eq_true rfl) (by decide) (fun X hnn hF => ?_)
  show G SC r X σ Z0 [] [(0, .ref (r 7))] [] 0
  refine g_aload_n hF d_X2_pop_0 rfl 0 rfl ?_
  refine g_aload_n hF d_X2_pop_1 rfl 0 rfl ?_
  refine g_callV (As := []) (rest := [.ref (r 7)]) hF (fun l D cy => kt_X2_top a r w l D cy) (Nat.le_of_ble_eq_true rfl) mV_X2_top m_1160 (recv_ob obC_7) rfl rfl (Nat.le_of_ble_eq_true rfl) d_X2_pop_2 (qAr (fun u2 hz2 w1 => ?_)) (fun _ _ _ h => h.elim)
  refine g_callV (As := [.ref (r u2)]) (rest := []) hF (fun l D cy => kt_X2_loaded a r hz2 w1 l D cy) (Nat.le_of_ble_eq_true rfl) mV_X2_loaded m_1164 (recv_ob obC_7) rfl rfl (Nat.le_of_ble_eq_true rfl) d_X2_pop_5 (qA (fun u5 s5 hz5 w2 => ?_)) (fun _ _ _ h => h.elim)
  refine g_astore_n hF [(1, .ref (r u5)), (0, .ref (r 7))] d_X2_pop_8 rfl hnn (by decide) rfl ?_
  refine g_aload_n hF d_X2_pop_9 rfl 1 rfl ?_
  refine g_dup hF d_X2_pop_10 rfl ?_
  refine g_get (v := .int (s5 7 7)) hF 7 obC_7 (by decide) m_464 rfl d_X2_pop_11 ?_
  refine g_aload_n hF d_X2_pop_14 rfl 1 rfl ?_
  refine g_get (v := .int (s5 7 7)) hF 7 obC_7 (by decide) m_464 rfl d_X2_pop_15 ?_
  refine g_if_le hF 25 d_X2_pop_18 (by decide) rfl (fun c => ?_) (fun c => ?_)
  · have w3 := w2.1 c
    refine g_iconst hF (v := 0) d_X2_pop_25 (by decide) ?_
    refine g_isub hF d_X2_pop_26 ?_
    refine g_put (v := ((s5 7 7) - (0 : Int32))) hF 7 obC_7 (by decide) m_464 rfl rfl rfl d_X2_pop_27 ?_
    refine g_aload_n hF d_X2_pop_30 rfl 0 rfl ?_
    exact g_aret hF rfl d_X2_pop_31 ⟨rfl, rfl, u5, rfl, hz5, w3⟩
  · have w4 := w2.2 c
    refine g_iconst hF (v := 1) d_X2_pop_21 (by decide) ?_
    refine g_goto hF 26 d_X2_pop_22 (by decide) ?_
    refine g_isub hF d_X2_pop_26 ?_
    refine g_put (v := ((s5 7 7) - (1 : Int32))) hF 7 obC_7 (by decide) m_464 rfl rfl rfl d_X2_pop_27 ?_
    refine g_aload_n hF d_X2_pop_30 rfl 0 rfl ?_
    exact g_aret hF rfl d_X2_pop_31 ⟨rfl, rfl, u5, rfl, hz5, w4⟩
set_option maxHeartbeats 4000000 in
set_option maxRecDepth 100000 in
theorem kt_X6_fits (a : Nat → Nat) (r : Nat → Nat) {a0 : Nat} {a1 : Int32} {σ : St} {Q : Int32 → Prop} (ha0 : isOp a0) (w : wk_X6_fits a0 a1 σ Q) (l : Launch) (D : va_G) (cy : Nat → ClassId) : Ct l D cy SC r (EC a gC) y_X6_fits (Cond.code y_X6_fits b_X6_fits 2 (some .boolean)) 0 [.ref (r a0), .int a1] σ Z0 [] (QI (fun x σ9 => (x = 0 ∨ x = 1) ∧ σ9 = σ ∧ Q x)) QT0 := by
  unfold wk_X6_fits at w
  refine Ct_of (EC_ok a gC) (by decide) (Nat.le_of_ble_eq_true rfl) (by decide) (fun X hnn hF => ?_)
  show G SC r X σ Z0 [] [(0, .ref (r a0)), (1, .int a1)] [] 0
  refine g_aload_n hF d_X6_fits_0 rfl 0 rfl ?_
  refine g_get (v := .int (σ a0 1)) hF 1 (obC_op ha0) (by decide) m_400 (fval_op ha0) d_X6_fits_1 ?_
  refine g_iload_n hF d_X6_fits_4 rfl 1 rfl ?_
  obtain ⟨J13, h13, w1⟩ := w
  have b13 : J13  → G SC r X σ Z0 [] [(0, .ref (r a0)), (1, .int a1)] [] 13 := by
    intro   w13_
    have w13_ := h13   w13_
    refine g_iload_n hF d_X6_fits_13 rfl 1 rfl ?_
    refine g_if_le hF 28 d_X6_fits_14 (by decide) rfl (fun c => ?_) (fun c => ?_)
    · have w2 := w13_.1 c
      refine g_iconst hF (v := 0) d_X6_fits_28 (by decide) ?_
      exact g_zret hF rfl (k_nz (Or.inl rfl)) d_X6_fits_29 ⟨rfl, rfl, (0 : Int32), rfl, (Or.inl rfl), ⟨rfl, w2⟩⟩
    · have w3 := w13_.2 c
      refine g_aload_n hF d_X6_fits_17 rfl 0 rfl ?_
      refine g_get (v := .int (σ a0 3)) hF 3 (obC_op ha0) (by decide) m_405 (fval_op ha0) d_X6_fits_18 ?_
      refine g_if_eq hF 28 d_X6_fits_21 (by decide) rfl (fun c => ?_) (fun c => ?_)
      · have w4 := w3.1 c
        refine g_iconst hF (v := 0) d_X6_fits_28 (by decide) ?_
        exact g_zret hF rfl (k_nz (Or.inl rfl)) d_X6_fits_29 ⟨rfl, rfl, (0 : Int32), rfl, (Or.inl rfl), ⟨rfl, w4⟩⟩
      · have w5 := w3.2 c
        refine g_iconst hF (v := 1) d_X6_fits_24 (by decide) ?_
        refine g_goto hF 29 d_X6_fits_25 (by decide) ?_
        exact g_zret hF rfl (k_nz (Or.inr rfl)) d_X6_fits_29 ⟨rfl, rfl, (1 : Int32), rfl, (Or.inr rfl), ⟨rfl, w5⟩⟩
  refine g_icmp_ne hF 13 d_X6_fits_5 (by decide) rfl rfl (fun c => ?_) (fun c => ?_)
  · have w6 := w1.1 c
    exact b13  w6
  · have w7 := w1.2 c
    refine g_iload_n hF d_X6_fits_8 rfl 1 rfl ?_
    refine g_iconst hF (v := (-1)) d_X6_fits_9 (by decide) ?_
    refine g_icmp_ne (yv := -1) hF 24 d_X6_fits_10 (by decide) rfl (by decide) (fun c => ?_) (fun c => ?_)
    · have w8 := w7.1 c
      refine g_iconst hF (v := 1) d_X6_fits_24 (by decide) ?_
      refine g_goto hF 29 d_X6_fits_25 (by decide) ?_
      exact g_zret hF rfl (k_nz (Or.inr rfl)) d_X6_fits_29 ⟨rfl, rfl, (1 : Int32), rfl, (Or.inr rfl), ⟨rfl, w8⟩⟩
    · have w9 := w7.2 c
      exact b13  w9
set_option maxHeartbeats 4000000 in
set_option maxRecDepth 100000 in
theorem kt_X2_argument (a : Nat → Nat) (r : Nat → Nat) {σ : St} {Q : St → Prop} (w : wk_X2_argument  σ Q) (l : Launch) (D : va_G) (cy : Nat → ClassId) : Ct l D cy SC r (EC a gC) y_X2_argument (Cond.code y_X2_argument b_X2_argument 5 none) 3 [.ref (r 7)] σ Z0 [] (QV Q) QT0 := by
  unfold wk_X2_argument at w
  refine Ct_of (EC_ok a gC) (by decide) (Nat.le_of_ble_eq_true rfl) (by decide) (fun X hnn hF => ?_)
  show G SC r X σ Z0 [] [(0, .ref (r 7))] [] 0
  refine g_aload_n hF d_X2_argument_0 rfl 0 rfl ?_
  refine g_callV (As := []) (rest := []) hF (fun l D cy => kt_X2_pop a r w l D cy) (Nat.le_of_ble_eq_true rfl) mV_X2_pop m_1156 (recv_ob obC_7) rfl rfl (Nat.le_of_ble_eq_true rfl) d_X2_argument_1 (qA (fun u1 s1 hz1 w1 => ?_)) (fun _ _ _ h => h.elim)
  refine g_astore_n hF [(1, .ref (r u1)), (0, .ref (r 7))] d_X2_argument_4 rfl hnn (by decide) rfl ?_
  refine g_aload_n hF d_X2_argument_5 rfl 1 rfl ?_
  refine g_callV (As := []) (rest := []) hF (fun l D cy => kt_X2_top a r w1 l D cy) (Nat.le_of_ble_eq_true rfl) mV_X2_top m_1160 (recv_ob obC_7) rfl rfl (Nat.le_of_ble_eq_true rfl) d_X2_argument_6 (qAr (fun u6 hz6 w2 => ?_)) (fun _ _ _ h => h.elim)
  refine g_astore_n hF [(2, .ref (r u6)), (1, .ref (r u1)), (0, .ref (r 7))] d_X2_argument_9 rfl hnn (by decide) rfl ?_
  refine g_aload_n hF d_X2_argument_10 rfl 2 rfl ?_
  refine g_get (v := .ref (r 5)) hF 3 obC_7 (by decide) m_459 rfl d_X2_argument_11 ?_
  refine g_getN (v := .ref (r 27)) hF 4 obC_5 (by decide) nm_233 rfl d_X2_argument_14 ?_
  refine g_aload_n hF d_X2_argument_17 rfl 0 rfl ?_
  refine g_getN (v := .int (s1 u6 4)) hF 4 (obC_op hz6) (by decide) nm_408 (fval_op hz6) d_X2_argument_18 ?_
  refine g_callSN (As := [.ref (r 27), .int (s1 u6 4)]) (rest := []) hF (c_atv a r s1 arC_27 (by decide) (s1 u6 4)) (Nat.le_of_ble_eq_true rfl) mS_X12_at nm_1058 rfl rfl (Nat.le_of_ble_eq_true rfl) d_X2_argument_21 (kQ ?_)
  refine g_top (v := (atv 10100 (s1 27) (s1 u6 4))) rfl ?_
  refine g_istore_n hF [(3, .int (atv 10100 (s1 27) (s1 u6 4))), (2, .ref (r u6)), (1, .ref (r u1)), (0, .ref (r 7))] d_X2_argument_24 rfl hnn (by decide) rfl ?_
  refine g_aload_n hF d_X2_argument_25 rfl 1 rfl ?_
  refine g_getN (v := .int (s1 u6 11)) hF 11 (obC_op hz6) (by decide) nm_426 (fval_op hz6) d_X2_argument_26 ?_
  refine g_istore hF [(4, .int (s1 u6 11)), (3, .int (atv 10100 (s1 27) (s1 u6 4))), (2, .ref (r u6)), (1, .ref (r u1)), (0, .ref (r 7))] d_X2_argument_29 hnn (by decide) rfl ?_
  refine g_iload hF d_X2_argument_31 0 rfl ?_
  refine g_iload_n hF d_X2_argument_33 rfl 1 rfl ?_
  refine g_callSN (As := [.int (atv 10100 (s1 27) (s1 u6 4))]) (rest := [.int (s1 u6 11)]) hF (fun l D cy => kt_X8_parameters a r w2 l D cy) (Nat.le_of_ble_eq_true rfl) mS_X8_parameters nm_1172 rfl rfl (Nat.le_of_ble_eq_true rfl) d_X2_argument_34 (qIr (fun v34 w3 => ?_))
  obtain ⟨J58, h58, w4⟩ := w3
  have b58 : ∀ (s58 : St), J58 s58 → G SC r X s58 Z0 [] [(1, .ref (r u1)), (2, .ref (r u6))] [] 58 := by
    intro s58  w58_
    have w58_ := h58 s58  w58_
    refine g_aload_n hF d_X2_argument_58 rfl 1 rfl ?_
    refine g_dup hF d_X2_argument_59 rfl ?_
    refine g_getN (v := .int (s58 u6 11)) hF 11 (obC_op hz6) (by decide) nm_426 (fval_op hz6) d_X2_argument_60 ?_
    refine g_iconst hF (v := 1) d_X2_argument_63 (by decide) ?_
    refine g_iadd hF d_X2_argument_64 ?_
    refine g_putN (v := ((s58 u6 11) + (1 : Int32))) hF 11 (obC_op hz6) (by decide) nm_426 rfl rfl (rf_op hz6) d_X2_argument_65 ?_
    obtain ⟨s4n, es4n⟩ : ∃ z, z = upC s58 u6 11 ((s58 u6 11) + (1 : Int32)) := ⟨_, rfl⟩
    rw [← es4n]
    have w6 := w58_ s4n es4n
    refine g_aload_n hF d_X2_argument_68 rfl 1 rfl ?_
    refine g_aload_n hF d_X2_argument_69 rfl 1 rfl ?_
    refine g_getN (v := .int (s4n u6 2)) hF 2 (obC_op hz6) (by decide) nm_404 (fval_op hz6) d_X2_argument_70 ?_
    refine g_aload_n hF d_X2_argument_73 rfl 0 rfl ?_
    refine g_getN (v := .int (s4n u1 2)) hF 2 (obC_op hz1) (by decide) nm_404 (fval_op hz1) d_X2_argument_74 ?_
    refine g_mmax hF (Nat.le_of_ble_eq_true rfl) m_1130 m_1131 m_23 m_1132 (Nat.le_of_ble_eq_true rfl) d_X2_argument_77 ?_
    refine g_putN (v := (if (s4n u6 2) < (s4n u1 2) then (s4n u1 2) else (s4n u6 2))) hF 2 (obC_op hz6) (by decide) nm_404 rfl rfl (rf_op hz6) d_X2_argument_80 ?_
    obtain ⟨s6n, es6n⟩ : ∃ z, z = upC s4n u6 2 (if (s4n u6 2) < (s4n u1 2) then (s4n u1 2) else (s4n u6 2)) := ⟨_, rfl⟩
    rw [← es6n]
    have w8 := w6 s6n es6n
    exact g_vret hF rfl d_X2_argument_83 ⟨rfl, rfl, rfl, w8⟩
  obtain ⟨J53, h53, w9⟩ := w4
  have b53 : J53  → G SC r X s1 Z0 [] [(1, .ref (r u1)), (2, .ref (r u6))] [] 53 := by
    intro   w53_
    have w53_ := h53   w53_
    refine g_aload_n hF d_X2_argument_53 rfl 1 rfl ?_
    refine g_iconst hF (v := 1) d_X2_argument_54 (by decide) ?_
    refine g_putZN (v := 1) hF 12 (obC_op hz6) (by decide) nm_428 rfl rfl (rf_op hz6) (Or.inr rfl) d_X2_argument_55 ?_
    obtain ⟨s9n, es9n⟩ : ∃ z, z = upC s1 u6 12 (1 : Int32) := ⟨_, rfl⟩
    rw [← es9n]
    have w11 := w53_ s9n es9n
    exact b58 s9n w11
  refine g_icmp_ge hF 53 d_X2_argument_37 (by decide) rfl rfl (fun c => ?_) (fun c => ?_)
  · have w12 := w9.1 c
    exact g_sub (L' := [(1, .ref (r u1)), (2, .ref (r u6))]) [3, 2] rfl (b53  w12)
  · have w13 := w9.2 c
    refine g_aload_n hF d_X2_argument_40 rfl 3 rfl ?_
    refine g_iload_n hF d_X2_argument_41 rfl 1 rfl ?_
    refine g_iload hF d_X2_argument_42 0 rfl ?_
    refine g_callSN (As := [.int (atv 10100 (s1 27) (s1 u6 4)), .int (s1 u6 11)]) (rest := [.ref (r u1)]) hF (fun l D cy => kt_X8_parameter a r w13 l D cy) (Nat.le_of_ble_eq_true rfl) mS_X8_parameter nm_1173 rfl rfl (Nat.le_of_ble_eq_true rfl) d_X2_argument_44 (qIr (fun v44 w14 => ?_))
    refine g_callVN (As := [.int v44]) (rest := []) hF (fun l D cy => kt_X6_fits a r hz1 w14 l D cy) (Nat.le_of_ble_eq_true rfl) mV_X6_fits nm_1174 (recv_ob (obC_op hz1)) rfl rfl (Nat.le_of_ble_eq_true rfl) d_X2_argument_47 (qZr (fun v47 hz47 w15 => ?_))
    refine g_if_ne hF 58 d_X2_argument_50 (by decide) rfl (fun c => ?_) (fun c => ?_)
    · have w16 := w15.1 c
      exact g_sub (L' := [(1, .ref (r u1)), (2, .ref (r u6))]) [3, 2] rfl (b58 s1 w16)
    · have w17 := w15.2 c
      exact g_sub (L' := [(1, .ref (r u1)), (2, .ref (r u6))]) [3, 2] rfl (b53  w17)
set_option maxHeartbeats 4000000 in
set_option maxRecDepth 100000 in
theorem kt_X2_lineOf (a : Nat → Nat) (r : Nat → Nat) {a1 : Int32} {σ : St} {Q : Int32 → Prop} (w : wk_X2_lineOf a1 σ Q) (l : Launch) (D : va_G) (cy : Nat → ClassId) : Ct l D cy SC r (EC a gC) y_X2_lineOf (Cond.code y_X2_lineOf b_X2_lineOf 2 (some .int)) 1 [.ref (r 7), .int a1] σ Z0 [] (QI (fun x σ9 => σ9 = σ ∧ Q x)) QT0 := by
  unfold wk_X2_lineOf at w
  refine Ct_of (EC_ok a gC) (by decide) (Nat.le_of_ble_eq_true rfl) (by decide) (fun X hnn hF => ?_)
  show G SC r X σ Z0 [] [(0, .ref (r 7)), (1, .int a1)] [] 0
  refine g_aload_n hF d_X2_lineOf_0 rfl 0 rfl ?_
  refine g_get (v := .ref (r 2)) hF 1 obC_7 (by decide) m_457 rfl d_X2_lineOf_1 ?_
  refine g_getN (v := .ref (r 16)) hF 8 obC_2 (by decide) nm_60 rfl d_X2_lineOf_4 ?_
  refine g_iload_n hF d_X2_lineOf_7 rfl 1 rfl ?_
  refine g_callSN (As := [.ref (r 16), .int a1]) (rest := []) hF (c_atv a r σ arC_16 (by decide) a1) (Nat.le_of_ble_eq_true rfl) mS_X12_at nm_1058 rfl rfl (Nat.le_of_ble_eq_true rfl) d_X2_lineOf_8 (kQ ?_)
  refine g_top (v := (atv 16002 (σ 16) a1)) rfl ?_
  exact g_iret hF rfl d_X2_lineOf_11 ⟨rfl, rfl, (atv 16002 (σ 16) a1), rfl, ⟨rfl, w⟩⟩
set_option maxHeartbeats 4000000 in
set_option maxRecDepth 100000 in
theorem kt_X2_raise (a : Nat → Nat) (r : Nat → Nat) {a1 : Nat} {a2 : Int32} {a3 : Int32} {σ : St} {Q : St → Prop} (ha1 : isOp a1) (w : wk_X2_raise a1 a2 a3 σ Q) (l : Launch) (D : va_G) (cy : Nat → ClassId) : Ct l D cy SC r (EC a gC) y_X2_raise (Cond.code y_X2_raise b_X2_raise 4 none) 1 [.ref (r 7), .ref (r a1), .int a2, .int a3] σ Z0 [] (QV Q) QT0 := by
  unfold wk_X2_raise at w
  refine Ct_of (EC_ok a gC) (by decide) (Nat.le_of_ble_eq_true rfl) (by decide) (fun X hnn hF => ?_)
  show G SC r X σ Z0 [] [(0, .ref (r 7)), (1, .ref (r a1)), (2, .int a2), (3, .int a3)] [] 0
  refine g_aload_n hF d_X2_raise_0 rfl 1 rfl ?_
  refine g_iload_n hF d_X2_raise_1 rfl 2 rfl ?_
  refine g_putN (v := a2) hF 2 (obC_op ha1) (by decide) nm_404 rfl rfl (rf_op ha1) d_X2_raise_2 ?_
  obtain ⟨s0n, es0n⟩ : ∃ z, z = upC σ a1 2 a2 := ⟨_, rfl⟩
  rw [← es0n]
  have w2 := w s0n es0n
  refine g_iload_n hF d_X2_raise_5 rfl 2 rfl ?_
  refine g_bipush hF (v := 60) d_X2_raise_6 (by decide) ?_
  refine g_icmp_le (yv := 60) hF 20 d_X2_raise_8 (by decide) rfl (by decide) (fun c => ?_) (fun c => ?_)
  · have w3 := w2.1 c
    exact g_vret hF rfl d_X2_raise_20 ⟨rfl, rfl, rfl, w3⟩
  · have w4 := w2.2 c
    refine g_aload_n hF d_X2_raise_11 rfl 0 rfl ?_
    refine g_get (v := .ref (r 6)) hF 2 obC_7 (by decide) m_458 rfl d_X2_raise_12 ?_
    refine g_iconst hF (v := 4) d_X2_raise_15 (by decide) ?_
    refine g_iload_n hF d_X2_raise_16 rfl 3 rfl ?_
    refine g_callVN (As := [.int 4, .int a3]) (rest := []) hF (fun l D cy => kt_X11_fail a r w4 l D cy) (Nat.le_of_ble_eq_true rfl) mV_X11_fail nm_1090 (recv_ob obC_6) rfl rfl (Nat.le_of_ble_eq_true rfl) d_X2_raise_17 (qV (fun s17 w5 => ?_))
    exact g_vret hF rfl d_X2_raise_20 ⟨rfl, rfl, rfl, w5⟩
set_option maxHeartbeats 4000000 in
set_option maxRecDepth 100000 in
theorem kt_X2_call (a : Nat → Nat) (r : Nat → Nat) {a1 : Int32} {σ : St} {Q : St → Prop} (w : wk_X2_call a1 σ Q) (l : Launch) (D : va_G) (cy : Nat → ClassId) : Ct l D cy SC r (EC a gC) y_X2_call (Cond.code y_X2_call b_X2_call 3 none) 2 [.ref (r 7), .int a1] σ Z0 [] (QV Q) QT0 := by
  unfold wk_X2_call at w
  refine Ct_of (EC_ok a gC) (by decide) (Nat.le_of_ble_eq_true rfl) (by decide) (fun X hnn hF => ?_)
  show G SC r X σ Z0 [] [(0, .ref (r 7)), (1, .int a1)] [] 0
  refine g_aload_n hF d_X2_call_0 rfl 0 rfl ?_
  refine g_callV (As := []) (rest := []) hF (fun l D cy => kt_X2_top a r w l D cy) (Nat.le_of_ble_eq_true rfl) mV_X2_top m_1160 (recv_ob obC_7) rfl rfl (Nat.le_of_ble_eq_true rfl) d_X2_call_1 (qAr (fun u1 hz1 w1 => ?_)) (fun _ _ _ h => h.elim)
  refine g_astore_n hF [(2, .ref (r u1)), (0, .ref (r 7)), (1, .int a1)] d_X2_call_4 rfl hnn (by decide) rfl ?_
  refine g_aload_n hF d_X2_call_5 rfl 0 rfl ?_
  refine g_getN (v := .int (σ u1 12)) hF 12 (obC_op hz1) (by decide) nm_428 (fval_op hz1) d_X2_call_6 ?_
  obtain ⟨J41, h41, w2⟩ := w1
  have b41 : ∀ (s41 : St), J41 s41 → G SC r X s41 Z0 [] [(0, .ref (r 7)), (1, .int a1), (2, .ref (r u1))] [] 41 := by
    intro s41  w41_
    have w41_ := h41 s41  w41_
    refine g_aload_n hF d_X2_call_41 rfl 0 rfl ?_
    refine g_get (v := .ref (r 4)) hF 4 obC_7 (by decide) m_461 rfl d_X2_call_42 ?_
    refine g_bipush hF (v := 32) d_X2_call_45 (by decide) ?_
    refine g_aload_n hF d_X2_call_47 rfl 2 rfl ?_
    refine g_getN (v := .int (s41 u1 4)) hF 4 (obC_op hz1) (by decide) nm_408 (fval_op hz1) d_X2_call_48 ?_
    refine g_aload_n hF d_X2_call_51 rfl 0 rfl ?_
    refine g_iload_n hF d_X2_call_52 rfl 1 rfl ?_
    refine g_callV (As := [.int a1]) (rest := [.int (s41 u1 4), .int 32, .ref (r 4)]) hF (fun l D cy => kt_X2_lineOf a r w41_ l D cy) (Nat.le_of_ble_eq_true rfl) mV_X2_lineOf m_1182 (recv_ob obC_7) rfl rfl (Nat.le_of_ble_eq_true rfl) d_X2_call_53 (qIr (fun v53 w3 => ?_)) (fun _ _ _ h => h.elim)
    refine g_iconst hF (v := 0) d_X2_call_56 (by decide) ?_
    refine g_callVN (As := [.int 32, .int (s41 u1 4), .int v53, .int 0]) (rest := []) hF (fun l D cy => kt_X0_emit a r w3 l D cy) (Nat.le_of_ble_eq_true rfl) mV_X0_emit nm_1071 (recv_ob obC_4) rfl rfl (Nat.le_of_ble_eq_true rfl) d_X2_call_57 (qI (fun v57 s57 w4 => ?_))
    refine g_pop hF d_X2_call_60 rfl ?_
    refine g_aload_n hF d_X2_call_61 rfl 2 rfl ?_
    refine g_aload_n hF d_X2_call_62 rfl 2 rfl ?_
    refine g_getN (v := .int (s57 u1 1)) hF 1 (obC_op hz1) (by decide) nm_402 (fval_op hz1) d_X2_call_63 ?_
    refine g_iconst hF (v := 0) d_X2_call_66 (by decide) ?_
    refine g_callVN (As := [.int (s57 u1 1), .int 0]) (rest := []) hF (fun l D cy => kt_X6_become a r hz1 w4 l D cy) (Nat.le_of_ble_eq_true rfl) mV_X6_become nm_1100 (recv_ob (obC_op hz1)) rfl rfl (Nat.le_of_ble_eq_true rfl) d_X2_call_67 (qV (fun s67 w5 => ?_))
    refine g_aload_n hF d_X2_call_70 rfl 0 rfl ?_
    refine g_aload_n hF d_X2_call_71 rfl 2 rfl ?_
    refine g_aload_n hF d_X2_call_72 rfl 2 rfl ?_
    refine g_getN (v := .int (s67 u1 2)) hF 2 (obC_op hz1) (by decide) nm_404 (fval_op hz1) d_X2_call_73 ?_
    refine g_iconst hF (v := 1) d_X2_call_76 (by decide) ?_
    refine g_iadd hF d_X2_call_77 ?_
    refine g_iload_n hF d_X2_call_78 rfl 1 rfl ?_
    refine g_callV (As := [.ref (r u1), .int ((s67 u1 2) + (1 : Int32)), .int a1]) (rest := []) hF (fun l D cy => kt_X2_raise a r hz1 w5 l D cy) (Nat.le_of_ble_eq_true rfl) mV_X2_raise m_1186 (recv_ob obC_7) rfl rfl (Nat.le_of_ble_eq_true rfl) d_X2_call_79 (qV (fun s79 w6 => ?_)) (fun _ _ _ h => h.elim)
    exact g_vret hF rfl d_X2_call_82 ⟨rfl, rfl, rfl, w6⟩
  obtain ⟨J36, h36, w7⟩ := w2
  have b36 : J36  → G SC r X σ Z0 [] [(0, .ref (r 7)), (1, .int a1), (2, .ref (r u1))] [] 36 := by
    intro   w36_
    have w36_ := h36   w36_
    refine g_aload_n hF d_X2_call_36 rfl 0 rfl ?_
    refine g_iload_n hF d_X2_call_37 rfl 1 rfl ?_
    refine g_callV (As := [.int a1]) (rest := []) hF (fun l D cy => kt_X2_refuse a r w36_ l D cy) (Nat.le_of_ble_eq_true rfl) mV_X2_refuse m_1126 (recv_ob obC_7) rfl rfl (Nat.le_of_ble_eq_true rfl) d_X2_call_38 (qV (fun s38 w8 => ?_)) (fun _ _ _ h => h.elim)
    exact b41 s38 w8
  refine g_if_ne hF 36 d_X2_call_9 (by decide) rfl (fun c => ?_) (fun c => ?_)
  · have w9 := w7.1 c
    exact g_sub (L' := [(0, .ref (r 7)), (1, .int a1), (2, .ref (r u1))]) [1, 2, 0] rfl (b36  w9)
  · have w10 := w7.2 c
    refine g_aload_n hF d_X2_call_12 rfl 0 rfl ?_
    refine g_getN (v := .int (σ u1 11)) hF 11 (obC_op hz1) (by decide) nm_426 (fval_op hz1) d_X2_call_13 ?_
    refine g_aload_n hF d_X2_call_16 rfl 1 rfl ?_
    refine g_get (v := .ref (r 5)) hF 3 obC_7 (by decide) m_459 rfl d_X2_call_17 ?_
    refine g_getN (v := .ref (r 27)) hF 4 obC_5 (by decide) nm_233 rfl d_X2_call_20 ?_
    refine g_aload_n hF d_X2_call_23 rfl 0 rfl ?_
    refine g_getN (v := .int (σ u1 4)) hF 4 (obC_op hz1) (by decide) nm_408 (fval_op hz1) d_X2_call_24 ?_
    refine g_callSN (As := [.ref (r 27), .int (σ u1 4)]) (rest := [.int (σ u1 11)]) hF (c_atv a r σ arC_27 (by decide) (σ u1 4)) (Nat.le_of_ble_eq_true rfl) mS_X12_at nm_1058 rfl rfl (Nat.le_of_ble_eq_true rfl) d_X2_call_27 (kQ ?_)
    refine g_top (v := (atv 10100 (σ 27) (σ u1 4))) rfl ?_
    refine g_callSN (As := [.int (atv 10100 (σ 27) (σ u1 4))]) (rest := [.int (σ u1 11)]) hF (fun l D cy => kt_X8_parameters a r w10 l D cy) (Nat.le_of_ble_eq_true rfl) mS_X8_parameters nm_1172 rfl rfl (Nat.le_of_ble_eq_true rfl) d_X2_call_30 (qIr (fun v30 w11 => ?_))
    refine g_icmp_eq hF 41 d_X2_call_33 (by decide) rfl rfl (fun c => ?_) (fun c => ?_)
    · have w12 := w11.1 c
      exact g_sub (L' := [(0, .ref (r 7)), (1, .int a1), (2, .ref (r u1))]) [1, 2, 0] rfl (b41 σ w12)
    · have w13 := w11.2 c
      exact g_sub (L' := [(0, .ref (r 7)), (1, .int a1), (2, .ref (r u1))]) [1, 2, 0] rfl (b36  w13)
set_option maxHeartbeats 4000000 in
set_option maxRecDepth 100000 in
theorem kt_X2_kindOf (a : Nat → Nat) (r : Nat → Nat) {a1 : Int32} {σ : St} {Q : Int32 → Prop} (w : wk_X2_kindOf a1 σ Q) (l : Launch) (D : va_G) (cy : Nat → ClassId) : Ct l D cy SC r (EC a gC) y_X2_kindOf (Cond.code y_X2_kindOf b_X2_kindOf 2 (some .int)) 1 [.ref (r 7), .int a1] σ Z0 [] (QI (fun x σ9 => σ9 = σ ∧ Q x)) QT0 := by
  unfold wk_X2_kindOf at w
  refine Ct_of (EC_ok a gC) (by decide) (Nat.le_of_ble_eq_true rfl) (by decide) (fun X hnn hF => ?_)
  show G SC r X σ Z0 [] [(0, .ref (r 7)), (1, .int a1)] [] 0
  refine g_aload_n hF d_X2_kindOf_0 rfl 0 rfl ?_
  refine g_get (v := .ref (r 2)) hF 1 obC_7 (by decide) m_457 rfl d_X2_kindOf_1 ?_
  refine g_getN (v := .ref (r 13)) hF 5 obC_2 (by decide) nm_49 rfl d_X2_kindOf_4 ?_
  refine g_iload_n hF d_X2_kindOf_7 rfl 1 rfl ?_
  refine g_callSN (As := [.ref (r 13), .int a1]) (rest := []) hF (c_atv a r σ arC_13 (by decide) a1) (Nat.le_of_ble_eq_true rfl) mS_X12_at nm_1058 rfl rfl (Nat.le_of_ble_eq_true rfl) d_X2_kindOf_8 (kQ ?_)
  refine g_top (v := (atv 16002 (σ 13) a1)) rfl ?_
  exact g_iret hF rfl d_X2_kindOf_11 ⟨rfl, rfl, (atv 16002 (σ 13) a1), rfl, ⟨rfl, w⟩⟩
set_option maxHeartbeats 4000000 in
set_option maxRecDepth 100000 in
theorem kt_X2_fetch (a : Nat → Nat) (r : Nat → Nat) {a1 : Nat} {a2 : Int32} {σ : St} {Q : St → Prop} (ha1 : isOp a1) (w : wk_X2_fetch a1 a2 σ Q) (l : Launch) (D : va_G) (cy : Nat → ClassId) : Ct l D cy SC r (EC a gC) y_X2_fetch (Cond.code y_X2_fetch b_X2_fetch 3 none) 1 [.ref (r 7), .ref (r a1), .int a2] σ Z0 [] (QV Q) QT0 := by
  unfold wk_X2_fetch at w
  refine Ct_of (EC_ok a gC) (by decide) (Nat.le_of_ble_eq_true rfl) (by decide) (fun X hnn hF => ?_)
  show G SC r X σ Z0 [] [(0, .ref (r 7)), (1, .ref (r a1)), (2, .int a2)] [] 0
  refine g_aload_n hF d_X2_fetch_0 rfl 1 rfl ?_
  refine g_getN (v := .int (σ a1 0)) hF 0 (obC_op ha1) (by decide) nm_399 (fval_op ha1) d_X2_fetch_1 ?_
  refine g_iconst hF (v := 3) d_X2_fetch_4 (by decide) ?_
  refine g_icmp_ne (yv := 3) hF 24 d_X2_fetch_5 (by decide) rfl (by decide) (fun c => ?_) (fun c => ?_)
  · have w1 := w.1 c
    refine g_aload_n hF d_X2_fetch_24 rfl 1 rfl ?_
    refine g_callVN (As := []) (rest := []) hF (fun l D cy => kt_X6_isPlace a r ha1 w1 l D cy) (Nat.le_of_ble_eq_true rfl) mV_X6_isPlace nm_1168 (recv_ob (obC_op ha1)) rfl rfl (Nat.le_of_ble_eq_true rfl) d_X2_fetch_25 (qZr (fun v25 hz25 w2 => ?_))
    refine g_if_eq hF 59 d_X2_fetch_28 (by decide) rfl (fun c => ?_) (fun c => ?_)
    · have w3 := w2.1 c
      exact g_vret hF rfl d_X2_fetch_59 ⟨rfl, rfl, rfl, w3⟩
    · have w4 := w2.2 c
      refine g_aload_n hF d_X2_fetch_31 rfl 0 rfl ?_
      refine g_get (v := .ref (r 4)) hF 4 obC_7 (by decide) m_461 rfl d_X2_fetch_32 ?_
      refine g_aload_n hF d_X2_fetch_35 rfl 1 rfl ?_
      refine g_getN (v := .int (σ a1 0)) hF 0 (obC_op ha1) (by decide) nm_399 (fval_op ha1) d_X2_fetch_36 ?_
      refine g_iconst hF (v := 1) d_X2_fetch_39 (by decide) ?_
      obtain ⟨J49, h49, w5⟩ := w4
      have b49 : ∀ (y1_49 : Int32), J49 y1_49 → G SC r X σ Z0 [] [(1, .ref (r a1))] [.int y1_49, .ref (r 4)] 49 := by
        intro y1_49  w49_
        have w49_ := h49 y1_49  w49_
        refine g_aload_n hF d_X2_fetch_49 rfl 0 rfl ?_
        refine g_getN (v := .int (σ a1 4)) hF 4 (obC_op ha1) (by decide) nm_408 (fval_op ha1) d_X2_fetch_50 ?_
        refine g_iconst hF (v := 0) d_X2_fetch_53 (by decide) ?_
        refine g_iconst hF (v := 0) d_X2_fetch_54 (by decide) ?_
        refine g_callVN (As := [.int y1_49, .int (σ a1 4), .int 0, .int 0]) (rest := []) hF (fun l D cy => kt_X0_emit a r w49_ l D cy) (Nat.le_of_ble_eq_true rfl) mV_X0_emit nm_1071 (recv_ob obC_4) rfl rfl (Nat.le_of_ble_eq_true rfl) d_X2_fetch_55 (qI (fun v55 s55 w6 => ?_))
        refine g_pop hF d_X2_fetch_58 rfl ?_
        exact g_vret hF rfl d_X2_fetch_59 ⟨rfl, rfl, rfl, w6⟩
      refine g_icmp_ne (yv := 1) hF 48 d_X2_fetch_40 (by decide) rfl (by decide) (fun c => ?_) (fun c => ?_)
      · have w7 := w5.1 c
        refine g_iconst hF (v := 5) d_X2_fetch_48 (by decide) ?_
        exact g_sub (L' := [(1, .ref (r a1))]) [1] rfl (b49 (5 : Int32) w7)
      · have w8 := w5.2 c
        refine g_bipush hF (v := 8) d_X2_fetch_43 (by decide) ?_
        refine g_goto hF 49 d_X2_fetch_45 (by decide) ?_
        exact g_sub (L' := [(1, .ref (r a1))]) [1] rfl (b49 (8 : Int32) w8)
  · have w9 := w.2 c
    refine g_aload_n hF d_X2_fetch_8 rfl 0 rfl ?_
    refine g_get (v := .ref (r 4)) hF 4 obC_7 (by decide) m_461 rfl d_X2_fetch_9 ?_
    refine g_bipush hF (v := 21) d_X2_fetch_12 (by decide) ?_
    refine g_iload_n hF d_X2_fetch_14 rfl 2 rfl ?_
    refine g_iconst hF (v := 0) d_X2_fetch_15 (by decide) ?_
    refine g_iconst hF (v := 0) d_X2_fetch_16 (by decide) ?_
    refine g_callVN (As := [.int 21, .int a2, .int 0, .int 0]) (rest := []) hF (fun l D cy => kt_X0_emit a r w9 l D cy) (Nat.le_of_ble_eq_true rfl) mV_X0_emit nm_1071 (recv_ob obC_4) rfl rfl (Nat.le_of_ble_eq_true rfl) d_X2_fetch_17 (qI (fun v17 s17 w10 => ?_))
    refine g_pop hF d_X2_fetch_20 rfl ?_
    refine g_goto hF 59 d_X2_fetch_21 (by decide) ?_
    exact g_vret hF rfl d_X2_fetch_59 ⟨rfl, rfl, rfl, w10⟩
set_option maxHeartbeats 4000000 in
set_option maxRecDepth 100000 in
theorem kt_X2_left (a : Nat → Nat) (r : Nat → Nat) {a1 : Int32} {σ : St} {Q : St → Prop} (w : wk_X2_left a1 σ Q) (l : Launch) (D : va_G) (cy : Nat → ClassId) : Ct l D cy SC r (EC a gC) y_X2_left (Cond.code y_X2_left b_X2_left 4 none) 2 [.ref (r 7), .int a1] σ Z0 [] (QV Q) QT0 := by
  unfold wk_X2_left at w
  refine Ct_of (EC_ok a gC) (by decide) (Nat.le_of_ble_eq_true rfl) (by decide) (fun X hnn hF => ?_)
  show G SC r X σ Z0 [] [(0, .ref (r 7)), (1, .int a1)] [] 0
  refine g_aload_n hF d_X2_left_0 rfl 0 rfl ?_
  refine g_iload_n hF d_X2_left_1 rfl 1 rfl ?_
  refine g_callV (As := [.int a1]) (rest := []) hF (fun l D cy => kt_X2_kindOf a r w l D cy) (Nat.le_of_ble_eq_true rfl) mV_X2_kindOf m_1194 (recv_ob obC_7) rfl rfl (Nat.le_of_ble_eq_true rfl) d_X2_left_2 (qIr (fun v2 w1 => ?_)) (fun _ _ _ h => h.elim)
  refine g_istore_n hF [(2, .int v2), (0, .ref (r 7)), (1, .int a1)] d_X2_left_5 rfl hnn (by decide) rfl ?_
  refine g_aload_n hF d_X2_left_6 rfl 1 rfl ?_
  refine g_callV (As := []) (rest := []) hF (fun l D cy => kt_X2_top a r w1 l D cy) (Nat.le_of_ble_eq_true rfl) mV_X2_top m_1160 (recv_ob obC_7) rfl rfl (Nat.le_of_ble_eq_true rfl) d_X2_left_7 (qAr (fun u7 hz7 w2 => ?_)) (fun _ _ _ h => h.elim)
  refine g_astore_n hF [(3, .ref (r u7)), (2, .int v2), (0, .ref (r 7)), (1, .int a1)] d_X2_left_10 rfl hnn (by decide) rfl ?_
  refine g_iload_n hF d_X2_left_11 rfl 1 rfl ?_
  refine g_bipush hF (v := 30) d_X2_left_12 (by decide) ?_
  obtain ⟨J48, h48, w3⟩ := w2
  have b48 : ∀ (s48 : St), J48 s48 → G SC r X s48 Z0 [] [(0, .ref (r 7)), (2, .int v2), (3, .ref (r u7))] [] 48 := by
    intro s48  w48_
    have w48_ := h48 s48  w48_
    refine g_iload_n hF d_X2_left_48 rfl 1 rfl ?_
    refine g_bipush hF (v := 58) d_X2_left_49 (by decide) ?_
    obtain ⟨J60, h60, w4⟩ := w48_
    have b60 : J60  → G SC r X s48 Z0 [] [(0, .ref (r 7)), (2, .int v2), (3, .ref (r u7))] [] 60 := by
      intro   w60_
      have w60_ := h60   w60_
      refine g_aload_n hF d_X2_left_60 rfl 2 rfl ?_
      refine g_aload_n hF d_X2_left_61 rfl 0 rfl ?_
      refine g_get (v := .ref (r 4)) hF 4 obC_7 (by decide) m_461 rfl d_X2_left_62 ?_
      refine g_iload_n hF d_X2_left_65 rfl 1 rfl ?_
      refine g_bipush hF (v := 58) d_X2_left_66 (by decide) ?_
      obtain ⟨J78, h78, w5⟩ := w60_
      have b78 : ∀ (y2_78 : Int32), J78 y2_78 → G SC r X s48 Z0 [] [] [.int y2_78, .ref (r 4), .ref (r u7)] 78 := by
        intro y2_78  w78_
        have w78_ := h78 y2_78  w78_
        refine g_iconst hF (v := (-1)) d_X2_left_78 (by decide) ?_
        refine g_iconst hF (v := 0) d_X2_left_79 (by decide) ?_
        refine g_iconst hF (v := 0) d_X2_left_80 (by decide) ?_
        refine g_callVN (As := [.int y2_78, .int (-1), .int 0, .int 0]) (rest := [.ref (r u7)]) hF (fun l D cy => kt_X0_emit a r w78_ l D cy) (Nat.le_of_ble_eq_true rfl) mV_X0_emit nm_1071 (recv_ob obC_4) rfl rfl (Nat.le_of_ble_eq_true rfl) d_X2_left_81 (qI (fun v81 s81 w6 => ?_))
        refine g_putN (v := v81) hF 10 (obC_op hz7) (by decide) nm_424 rfl rfl (rf_op hz7) d_X2_left_84 ?_
        obtain ⟨s6n, es6n⟩ : ∃ z, z = upC s81 u7 10 v81 := ⟨_, rfl⟩
        rw [← es6n]
        have w8 := w6 s6n es6n
        exact g_vret hF rfl d_X2_left_87 ⟨rfl, rfl, rfl, w8⟩
      refine g_icmp_ne (yv := 58) hF 76 d_X2_left_68 (by decide) rfl (by decide) (fun c => ?_) (fun c => ?_)
      · have w9 := w5.1 c
        refine g_bipush hF (v := 30) d_X2_left_76 (by decide) ?_
        exact g_sub (L' := []) [] rfl (b78 (30 : Int32) w9)
      · have w10 := w5.2 c
        refine g_bipush hF (v := 29) d_X2_left_71 (by decide) ?_
        refine g_goto hF 78 d_X2_left_73 (by decide) ?_
        exact g_sub (L' := []) [] rfl (b78 (29 : Int32) w10)
    refine g_icmp_eq (yv := 58) hF 60 d_X2_left_51 (by decide) rfl (by decide) (fun c => ?_) (fun c => ?_)
    · have w11 := w4.1 c
      exact b60  w11
    · have w12 := w4.2 c
      refine g_iload_n hF d_X2_left_54 rfl 1 rfl ?_
      refine g_bipush hF (v := 57) d_X2_left_55 (by decide) ?_
      refine g_icmp_ne (yv := 57) hF 87 d_X2_left_57 (by decide) rfl (by decide) (fun c => ?_) (fun c => ?_)
      · have w13 := w12.1 c
        exact g_vret hF rfl d_X2_left_87 ⟨rfl, rfl, rfl, w13⟩
      · have w14 := w12.2 c
        exact b60  w14
  obtain ⟨J36, h36, w15⟩ := w3
  have b36 : J36  → G SC r X σ Z0 [] [(0, .ref (r 7)), (2, .int v2), (3, .ref (r u7))] [] 36 := by
    intro   w36_
    have w36_ := h36   w36_
    refine g_iload_n hF d_X2_left_36 rfl 1 rfl ?_
    refine g_bipush hF (v := 30) d_X2_left_37 (by decide) ?_
    refine g_icmp_eq (yv := 30) hF 48 d_X2_left_39 (by decide) rfl (by decide) (fun c => ?_) (fun c => ?_)
    · have w16 := w36_.1 c
      exact b48 σ w16
    · have w17 := w36_.2 c
      refine g_aload_n hF d_X2_left_42 rfl 0 rfl ?_
      refine g_aload_n hF d_X2_left_43 rfl 2 rfl ?_
      refine g_callV (As := [.ref (r u7)]) (rest := []) hF (fun l D cy => kt_X2_loaded a r hz7 w17 l D cy) (Nat.le_of_ble_eq_true rfl) mV_X2_loaded m_1164 (recv_ob obC_7) rfl rfl (Nat.le_of_ble_eq_true rfl) d_X2_left_44 (qA (fun u44 s44 hz44 w18 => ?_)) (fun _ _ _ h => h.elim)
      refine g_pop hF d_X2_left_47 rfl ?_
      exact b48 s44 w18
  refine g_icmp_le (yv := 30) hF 36 d_X2_left_14 (by decide) rfl (by decide) (fun c => ?_) (fun c => ?_)
  · have w19 := w15.1 c
    exact g_sub (L' := [(0, .ref (r 7)), (2, .int v2), (3, .ref (r u7))]) [2, 1, 0] rfl (b36  w19)
  · have w20 := w15.2 c
    refine g_iload_n hF d_X2_left_17 rfl 1 rfl ?_
    refine g_bipush hF (v := 40) d_X2_left_18 (by decide) ?_
    refine g_icmp_gt (yv := 40) hF 36 d_X2_left_20 (by decide) rfl (by decide) (fun c => ?_) (fun c => ?_)
    · have w21 := w20.1 c
      exact g_sub (L' := [(0, .ref (r 7)), (2, .int v2), (3, .ref (r u7))]) [2, 1, 0] rfl (b36  w21)
    · have w22 := w20.2 c
      refine g_aload_n hF d_X2_left_23 rfl 2 rfl ?_
      refine g_aload_n hF d_X2_left_24 rfl 0 rfl ?_
      refine g_aload_n hF d_X2_left_25 rfl 2 rfl ?_
      refine g_iload_n hF d_X2_left_26 rfl 3 rfl ?_
      refine g_callV (As := [.int a1]) (rest := [.ref (r u7), .ref (r 7)]) hF (fun l D cy => kt_X2_lineOf a r w22 l D cy) (Nat.le_of_ble_eq_true rfl) mV_X2_lineOf m_1182 (recv_ob obC_7) rfl rfl (Nat.le_of_ble_eq_true rfl) d_X2_left_27 (qIr (fun v27 w23 => ?_)) (fun _ _ _ h => h.elim)
      refine g_callV (As := [.ref (r u7), .int v27]) (rest := []) hF (fun l D cy => kt_X2_fetch a r hz7 w23 l D cy) (Nat.le_of_ble_eq_true rfl) mV_X2_fetch m_1198 (recv_ob obC_7) rfl rfl (Nat.le_of_ble_eq_true rfl) d_X2_left_30 (qV (fun s30 w24 => ?_)) (fun _ _ _ h => h.elim)
      refine g_goto hF 48 d_X2_left_33 (by decide) ?_
      exact g_sub (L' := [(0, .ref (r 7)), (2, .int v2), (3, .ref (r u7))]) [2, 1, 0] rfl (b48 s30 w24)
set_option maxHeartbeats 4000000 in
set_option maxRecDepth 100000 in
theorem kt_X2_typeOf (a : Nat → Nat) (r : Nat → Nat) {a0 : Int32} {a1 : Nat} {a2 : Nat} {σ : St} {Q : Int32 → Prop} (ha1 : isOp a1) (ha2 : isOp a2) (w : wk_X2_typeOf a0 a1 a2 σ Q) (l : Launch) (D : va_G) (cy : Nat → ClassId) : Ct l D cy SC r (EC a gC) y_X2_typeOf (Cond.code y_X2_typeOf b_X2_typeOf 4 (some .int)) 1 [.int a0, .ref (r a1), .ref (r a2)] σ Z0 [] (QI (fun x σ9 => σ9 = σ ∧ Q x)) QT0 := by
  unfold wk_X2_typeOf at w
  refine Ct_of (EC_ok a gC) (by decide) (Nat.le_of_ble_eq_true rfl) (by decide) (fun X hnn hF => ?_)
  show G SC r X σ Z0 [] [(0, .int a0), (1, .ref (r a1)), (2, .ref (r a2))] [] 0
  refine g_aload_n hF d_X2_typeOf_0 rfl 1 rfl ?_
  refine g_getN (v := .int (σ a1 1)) hF 1 (obC_op ha1) (by decide) nm_402 (fval_op ha1) d_X2_typeOf_1 ?_
  refine g_iconst hF (v := (-1)) d_X2_typeOf_4 (by decide) ?_
  refine g_icmp_eq (yv := -1) hF 16 d_X2_typeOf_5 (by decide) rfl (by decide) (fun c => ?_) (fun c => ?_)
  · have w1 := w.1 c
    refine g_bipush hF (v := (-2)) d_X2_typeOf_16 (by decide) ?_
    exact g_iret hF rfl d_X2_typeOf_18 ⟨rfl, rfl, ((-2) : Int32), rfl, ⟨rfl, w1⟩⟩
  · have w2 := w.2 c
    refine g_aload_n hF d_X2_typeOf_8 rfl 2 rfl ?_
    refine g_getN (v := .int (σ a2 1)) hF 1 (obC_op ha2) (by decide) nm_402 (fval_op ha2) d_X2_typeOf_9 ?_
    refine g_iconst hF (v := (-1)) d_X2_typeOf_12 (by decide) ?_
    refine g_icmp_ne (yv := -1) hF 19 d_X2_typeOf_13 (by decide) rfl (by decide) (fun c => ?_) (fun c => ?_)
    · have w3 := w2.1 c
      refine g_aload_n hF d_X2_typeOf_19 rfl 1 rfl ?_
      refine g_getN (v := .int (σ a1 1)) hF 1 (obC_op ha1) (by decide) nm_402 (fval_op ha1) d_X2_typeOf_20 ?_
      refine g_aload_n hF d_X2_typeOf_23 rfl 2 rfl ?_
      refine g_getN (v := .int (σ a2 1)) hF 1 (obC_op ha2) (by decide) nm_402 (fval_op ha2) d_X2_typeOf_24 ?_
      obtain ⟨J35, h35, w4⟩ := w3
      have b35 : ∀ (y0_35 : Int32), y0_35 = 0 ∨ y0_35 = 1 → J35 y0_35 → G SC r X σ Z0 [] [(0, .int a0), (1, .ref (r a1)), (2, .ref (r a2))] [.int y0_35] 35 := by
        intro y0_35 hy0_35 w35_
        have w35_ := h35 y0_35 hy0_35 w35_
        refine g_istore_n hF [(3, .int y0_35), (0, .int a0), (1, .ref (r a1)), (2, .ref (r a2))] d_X2_typeOf_35 rfl hnn (by decide) rfl ?_
        refine g_iload_n hF d_X2_typeOf_36 rfl 1 rfl ?_
        obtain ⟨J214, h214, w5⟩ := w35_
        have b214 : J214  → G SC r X σ Z0 [] [(1, .ref (r a1)), (3, .int y0_35)] [] 214 := by
          intro   w214_
          have w214_ := h214   w214_
          refine g_iload_n hF d_X2_typeOf_214 rfl 1 rfl ?_
          refine g_if_eq hF 229 d_X2_typeOf_215 (by decide) rfl (fun c => ?_) (fun c => ?_)
          · have w6 := w214_.1 c
            refine g_bipush hF (v := (-2)) d_X2_typeOf_229 (by decide) ?_
            exact g_iret hF rfl d_X2_typeOf_231 ⟨rfl, rfl, ((-2) : Int32), rfl, ⟨rfl, w6⟩⟩
          · have w7 := w214_.2 c
            refine g_aload_n hF d_X2_typeOf_218 rfl 0 rfl ?_
            refine g_getN (v := .int (σ a1 1)) hF 1 (obC_op ha1) (by decide) nm_402 (fval_op ha1) d_X2_typeOf_219 ?_
            refine g_if_ne hF 229 d_X2_typeOf_222 (by decide) rfl (fun c => ?_) (fun c => ?_)
            · have w8 := w7.1 c
              refine g_bipush hF (v := (-2)) d_X2_typeOf_229 (by decide) ?_
              exact g_iret hF rfl d_X2_typeOf_231 ⟨rfl, rfl, ((-2) : Int32), rfl, ⟨rfl, w8⟩⟩
            · have w9 := w7.2 c
              refine g_iconst hF (v := 0) d_X2_typeOf_225 (by decide) ?_
              refine g_goto hF 231 d_X2_typeOf_226 (by decide) ?_
              exact g_iret hF rfl d_X2_typeOf_231 ⟨rfl, rfl, (0 : Int32), rfl, ⟨rfl, w9⟩⟩
        obtain ⟨J147, h147, w10⟩ := w5
        have b147 : J147  → G SC r X σ Z0 [] [(3, .int y0_35)] [] 147 := by
          intro   w147_
          have w147_ := h147   w147_
          refine g_iload_n hF d_X2_typeOf_147 rfl 0 rfl ?_
          refine g_if_eq hF 155 d_X2_typeOf_148 (by decide) rfl (fun c => ?_) (fun c => ?_)
          · have w11 := w147_.1 c
            refine g_bipush hF (v := (-2)) d_X2_typeOf_155 (by decide) ?_
            exact g_iret hF rfl d_X2_typeOf_157 ⟨rfl, rfl, ((-2) : Int32), rfl, ⟨rfl, w11⟩⟩
          · have w12 := w147_.2 c
            refine g_iconst hF (v := 0) d_X2_typeOf_151 (by decide) ?_
            refine g_goto hF 157 d_X2_typeOf_152 (by decide) ?_
            exact g_iret hF rfl d_X2_typeOf_157 ⟨rfl, rfl, (0 : Int32), rfl, ⟨rfl, w12⟩⟩
        obtain ⟨J118, h118, w13⟩ := w10
        have b118 : J118  → G SC r X σ Z0 [] [(1, .ref (r a1)), (2, .ref (r a2))] [] 118 := by
          intro   w118_
          have w118_ := h118   w118_
          refine g_aload_n hF d_X2_typeOf_118 rfl 0 rfl ?_
          refine g_aload_n hF d_X2_typeOf_119 rfl 1 rfl ?_
          refine g_getN (v := .int (σ a2 1)) hF 1 (obC_op ha2) (by decide) nm_402 (fval_op ha2) d_X2_typeOf_120 ?_
          refine g_callVN (As := [.int (σ a2 1)]) (rest := []) hF (fun l D cy => kt_X6_fits a r ha1 w118_ l D cy) (Nat.le_of_ble_eq_true rfl) mV_X6_fits nm_1174 (recv_ob (obC_op ha1)) rfl rfl (Nat.le_of_ble_eq_true rfl) d_X2_typeOf_123 (qZr (fun v123 hz123 w14 => ?_))
          refine g_if_ne hF 140 d_X2_typeOf_126 (by decide) rfl (fun c => ?_) (fun c => ?_)
          · have w15 := w14.1 c
            refine g_iconst hF (v := 0) d_X2_typeOf_140 (by decide) ?_
            refine g_goto hF 146 d_X2_typeOf_141 (by decide) ?_
            exact g_iret hF rfl d_X2_typeOf_146 ⟨rfl, rfl, (0 : Int32), rfl, ⟨rfl, w15⟩⟩
          · have w16 := w14.2 c
            refine g_aload_n hF d_X2_typeOf_129 rfl 1 rfl ?_
            refine g_aload_n hF d_X2_typeOf_130 rfl 0 rfl ?_
            refine g_getN (v := .int (σ a1 1)) hF 1 (obC_op ha1) (by decide) nm_402 (fval_op ha1) d_X2_typeOf_131 ?_
            refine g_callVN (As := [.int (σ a1 1)]) (rest := []) hF (fun l D cy => kt_X6_fits a r ha2 w16 l D cy) (Nat.le_of_ble_eq_true rfl) mV_X6_fits nm_1174 (recv_ob (obC_op ha2)) rfl rfl (Nat.le_of_ble_eq_true rfl) d_X2_typeOf_134 (qZr (fun v134 hz134 w17 => ?_))
            refine g_if_eq hF 144 d_X2_typeOf_137 (by decide) rfl (fun c => ?_) (fun c => ?_)
            · have w18 := w17.1 c
              refine g_bipush hF (v := (-2)) d_X2_typeOf_144 (by decide) ?_
              exact g_iret hF rfl d_X2_typeOf_146 ⟨rfl, rfl, ((-2) : Int32), rfl, ⟨rfl, w18⟩⟩
            · have w19 := w17.2 c
              refine g_iconst hF (v := 0) d_X2_typeOf_140 (by decide) ?_
              refine g_goto hF 146 d_X2_typeOf_141 (by decide) ?_
              exact g_iret hF rfl d_X2_typeOf_146 ⟨rfl, rfl, (0 : Int32), rfl, ⟨rfl, w19⟩⟩
        refine (Decidable.em (a0.toInt = 43)).elim (fun q37_0 => ?_) (fun q37_0 => ?_)
        · have w20 := w13.1 q37_0
          refine g_tableIn (off := 121) hF 158 d_X2_typeOf_37 q37_0 (by decide) (by decide) (by decide +kernel) (by decide) ?_
          refine g_aload_n hF d_X2_typeOf_158 rfl 3 rfl ?_
          refine g_getN (v := .int (σ a2 1)) hF 1 (obC_op ha2) (by decide) nm_402 (fval_op ha2) d_X2_typeOf_159 ?_
          refine g_if_ne hF 172 d_X2_typeOf_162 (by decide) rfl (fun c => ?_) (fun c => ?_)
          · have w21 := w20.1 c
            refine g_aload_n hF d_X2_typeOf_172 rfl 2 rfl ?_
            refine g_getN (v := .int (σ a1 1)) hF 1 (obC_op ha1) (by decide) nm_402 (fval_op ha1) d_X2_typeOf_173 ?_
            refine g_if_ne hF 186 d_X2_typeOf_176 (by decide) rfl (fun c => ?_) (fun c => ?_)
            · have w22 := w21.1 c
              refine g_bipush hF (v := (-2)) d_X2_typeOf_186 (by decide) ?_
              exact g_iret hF rfl d_X2_typeOf_188 ⟨rfl, rfl, ((-2) : Int32), rfl, ⟨rfl, w22⟩⟩
            · have w23 := w21.2 c
              refine g_aload_n hF d_X2_typeOf_179 rfl 3 rfl ?_
              refine g_getN (v := .int (σ a2 1)) hF 1 (obC_op ha2) (by decide) nm_402 (fval_op ha2) d_X2_typeOf_180 ?_
              refine g_goto hF 188 d_X2_typeOf_183 (by decide) ?_
              exact g_iret hF rfl d_X2_typeOf_188 ⟨rfl, rfl, (σ a2 1), rfl, ⟨rfl, w23⟩⟩
          · have w24 := w20.2 c
            refine g_aload_n hF d_X2_typeOf_165 rfl 2 rfl ?_
            refine g_getN (v := .int (σ a1 1)) hF 1 (obC_op ha1) (by decide) nm_402 (fval_op ha1) d_X2_typeOf_166 ?_
            refine g_goto hF 188 d_X2_typeOf_169 (by decide) ?_
            exact g_iret hF rfl d_X2_typeOf_188 ⟨rfl, rfl, (σ a1 1), rfl, ⟨rfl, w24⟩⟩
        have w25 := w13.2 q37_0
        refine (Decidable.em (a0.toInt = 44)).elim (fun q37_1 => ?_) (fun q37_1 => ?_)
        · have w26 := w25.1 q37_1
          refine g_tableIn (off := 152) hF 189 d_X2_typeOf_37 q37_1 (by decide) (by decide) (by decide +kernel) (by decide) ?_
          refine g_aload_n hF d_X2_typeOf_189 rfl 3 rfl ?_
          refine g_getN (v := .int (σ a2 1)) hF 1 (obC_op ha2) (by decide) nm_402 (fval_op ha2) d_X2_typeOf_190 ?_
          refine g_if_ne hF 203 d_X2_typeOf_193 (by decide) rfl (fun c => ?_) (fun c => ?_)
          · have w27 := w26.1 c
            refine g_iload_n hF d_X2_typeOf_203 rfl 0 rfl ?_
            refine g_if_eq hF 211 d_X2_typeOf_204 (by decide) rfl (fun c => ?_) (fun c => ?_)
            · have w28 := w27.1 c
              refine g_bipush hF (v := (-2)) d_X2_typeOf_211 (by decide) ?_
              exact g_iret hF rfl d_X2_typeOf_213 ⟨rfl, rfl, ((-2) : Int32), rfl, ⟨rfl, w28⟩⟩
            · have w29 := w27.2 c
              refine g_iconst hF (v := 0) d_X2_typeOf_207 (by decide) ?_
              refine g_goto hF 213 d_X2_typeOf_208 (by decide) ?_
              exact g_iret hF rfl d_X2_typeOf_213 ⟨rfl, rfl, (0 : Int32), rfl, ⟨rfl, w29⟩⟩
          · have w30 := w26.2 c
            refine g_aload_n hF d_X2_typeOf_196 rfl 2 rfl ?_
            refine g_getN (v := .int (σ a1 1)) hF 1 (obC_op ha1) (by decide) nm_402 (fval_op ha1) d_X2_typeOf_197 ?_
            refine g_goto hF 213 d_X2_typeOf_200 (by decide) ?_
            exact g_iret hF rfl d_X2_typeOf_213 ⟨rfl, rfl, (σ a1 1), rfl, ⟨rfl, w30⟩⟩
        have w31 := w25.2 q37_1
        refine (Decidable.em (a0.toInt = 45)).elim (fun q37_2 => ?_) (fun q37_2 => ?_)
        · have w32 := w31.1 q37_2
          refine g_tableIn (off := 177) hF 214 d_X2_typeOf_37 q37_2 (by decide) (by decide) (by decide +kernel) (by decide) ?_
          exact g_sub (L' := [(1, .ref (r a1)), (3, .int y0_35)]) [2, 0] rfl (b214  w32)
        have w33 := w31.2 q37_2
        refine (Decidable.em (a0.toInt = 46)).elim (fun q37_3 => ?_) (fun q37_3 => ?_)
        · have w34 := w33.1 q37_3
          refine g_tableIn (off := 177) hF 214 d_X2_typeOf_37 q37_3 (by decide) (by decide) (by decide +kernel) (by decide) ?_
          exact g_sub (L' := [(1, .ref (r a1)), (3, .int y0_35)]) [2, 0] rfl (b214  w34)
        have w35 := w33.2 q37_3
        refine (Decidable.em (a0.toInt = 47)).elim (fun q37_4 => ?_) (fun q37_4 => ?_)
        · have w36 := w35.1 q37_4
          refine g_tableIn (off := 177) hF 214 d_X2_typeOf_37 q37_4 (by decide) (by decide) (by decide +kernel) (by decide) ?_
          exact g_sub (L' := [(1, .ref (r a1)), (3, .int y0_35)]) [2, 0] rfl (b214  w36)
        have w37 := w35.2 q37_4
        refine (Decidable.em (a0.toInt = 48)).elim (fun q37_5 => ?_) (fun q37_5 => ?_)
        · have w38 := w37.1 q37_5
          refine g_tableIn (off := 177) hF 214 d_X2_typeOf_37 q37_5 (by decide) (by decide) (by decide +kernel) (by decide) ?_
          exact g_sub (L' := [(1, .ref (r a1)), (3, .int y0_35)]) [2, 0] rfl (b214  w38)
        have w39 := w37.2 q37_5
        refine (Decidable.em (a0.toInt = 49)).elim (fun q37_6 => ?_) (fun q37_6 => ?_)
        · have w40 := w39.1 q37_6
          refine g_tableIn (off := 177) hF 214 d_X2_typeOf_37 q37_6 (by decide) (by decide) (by decide +kernel) (by decide) ?_
          exact g_sub (L' := [(1, .ref (r a1)), (3, .int y0_35)]) [2, 0] rfl (b214  w40)
        have w41 := w39.2 q37_6
        refine (Decidable.em (a0.toInt = 50)).elim (fun q37_7 => ?_) (fun q37_7 => ?_)
        · have w42 := w41.1 q37_7
          refine g_tableIn (off := 177) hF 214 d_X2_typeOf_37 q37_7 (by decide) (by decide) (by decide +kernel) (by decide) ?_
          exact g_sub (L' := [(1, .ref (r a1)), (3, .int y0_35)]) [2, 0] rfl (b214  w42)
        have w43 := w41.2 q37_7
        refine (Decidable.em (a0.toInt = 51)).elim (fun q37_8 => ?_) (fun q37_8 => ?_)
        · have w44 := w43.1 q37_8
          refine g_tableIn (off := 81) hF 118 d_X2_typeOf_37 q37_8 (by decide) (by decide) (by decide +kernel) (by decide) ?_
          exact g_sub (L' := [(1, .ref (r a1)), (2, .ref (r a2))]) [2, 3] rfl (b118  w44)
        have w45 := w43.2 q37_8
        refine (Decidable.em (a0.toInt = 52)).elim (fun q37_9 => ?_) (fun q37_9 => ?_)
        · have w46 := w45.1 q37_9
          refine g_tableIn (off := 81) hF 118 d_X2_typeOf_37 q37_9 (by decide) (by decide) (by decide +kernel) (by decide) ?_
          exact g_sub (L' := [(1, .ref (r a1)), (2, .ref (r a2))]) [2, 3] rfl (b118  w46)
        have w47 := w45.2 q37_9
        refine (Decidable.em (a0.toInt = 53)).elim (fun q37_10 => ?_) (fun q37_10 => ?_)
        · have w48 := w47.1 q37_10
          refine g_tableIn (off := 110) hF 147 d_X2_typeOf_37 q37_10 (by decide) (by decide) (by decide +kernel) (by decide) ?_
          exact g_sub (L' := [(3, .int y0_35)]) [0] rfl (b147  w48)
        have w49 := w47.2 q37_10
        refine (Decidable.em (a0.toInt = 54)).elim (fun q37_11 => ?_) (fun q37_11 => ?_)
        · have w50 := w49.1 q37_11
          refine g_tableIn (off := 110) hF 147 d_X2_typeOf_37 q37_11 (by decide) (by decide) (by decide +kernel) (by decide) ?_
          exact g_sub (L' := [(3, .int y0_35)]) [0] rfl (b147  w50)
        have w51 := w49.2 q37_11
        refine (Decidable.em (a0.toInt = 55)).elim (fun q37_12 => ?_) (fun q37_12 => ?_)
        · have w52 := w51.1 q37_12
          refine g_tableIn (off := 110) hF 147 d_X2_typeOf_37 q37_12 (by decide) (by decide) (by decide +kernel) (by decide) ?_
          exact g_sub (L' := [(3, .int y0_35)]) [0] rfl (b147  w52)
        have w53 := w51.2 q37_12
        refine (Decidable.em (a0.toInt = 56)).elim (fun q37_13 => ?_) (fun q37_13 => ?_)
        · have w54 := w53.1 q37_13
          refine g_tableIn (off := 110) hF 147 d_X2_typeOf_37 q37_13 (by decide) (by decide) (by decide +kernel) (by decide) ?_
          exact g_sub (L' := [(3, .int y0_35)]) [0] rfl (b147  w54)
        have w55 := w53.2 q37_13
        refine (Decidable.em (a0.toInt = 57)).elim (fun q37_14 => ?_) (fun q37_14 => ?_)
        · have w56 := w55.1 q37_14
          refine g_tableIn (off := 79) hF 116 d_X2_typeOf_37 q37_14 (by decide) (by decide) (by decide +kernel) (by decide) ?_
          refine g_iconst hF (v := 0) d_X2_typeOf_116 (by decide) ?_
          exact g_iret hF rfl d_X2_typeOf_117 ⟨rfl, rfl, (0 : Int32), rfl, ⟨rfl, w56⟩⟩
        have w57 := w55.2 q37_14
        refine (Decidable.em (a0.toInt = 58)).elim (fun q37_15 => ?_) (fun q37_15 => ?_)
        · have w58 := w57.1 q37_15
          refine g_tableIn (off := 79) hF 116 d_X2_typeOf_37 q37_15 (by decide) (by decide) (by decide +kernel) (by decide) ?_
          refine g_iconst hF (v := 0) d_X2_typeOf_116 (by decide) ?_
          exact g_iret hF rfl d_X2_typeOf_117 ⟨rfl, rfl, (0 : Int32), rfl, ⟨rfl, w58⟩⟩
        have w59 := w57.2 q37_15
        refine g_tableOut hF 214 d_X2_typeOf_37 rfl (tbo_43_58 q37_0 q37_1 q37_2 q37_3 q37_4 q37_5 q37_6 q37_7 q37_8 q37_9 q37_10 q37_11 q37_12 q37_13 q37_14 q37_15) (by decide) ?_
        exact g_sub (L' := [(1, .ref (r a1)), (3, .int y0_35)]) [2, 0] rfl (b214  w59)
      refine g_icmp_ne hF 34 d_X2_typeOf_27 (by decide) rfl rfl (fun c => ?_) (fun c => ?_)
      · have w60 := w4.1 c
        refine g_iconst hF (v := 0) d_X2_typeOf_34 (by decide) ?_
        exact b35 (0 : Int32) (Or.inl rfl) w60
      · have w61 := w4.2 c
        refine g_iconst hF (v := 1) d_X2_typeOf_30 (by decide) ?_
        refine g_goto hF 35 d_X2_typeOf_31 (by decide) ?_
        exact b35 (1 : Int32) (Or.inr rfl) w61
    · have w62 := w2.2 c
      refine g_bipush hF (v := (-2)) d_X2_typeOf_16 (by decide) ?_
      exact g_iret hF rfl d_X2_typeOf_18 ⟨rfl, rfl, ((-2) : Int32), rfl, ⟨rfl, w62⟩⟩
