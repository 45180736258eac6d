set_option maxHeartbeats 4000000 in
set_option maxRecDepth 100000 in
theorem kt_X11_scopeStart (a : Nat → Nat) (r : Nat → Nat) {σ : St} {Q : Int32 → Prop} (w : wk_X11_scopeStart  σ Q) (l : Launch) (D : va_G) (cy : Nat → ClassId) : Ct l D cy SC r (EC a gC) y_X11_scopeStart (Cond.code y_X11_scopeStart b_X11_scopeStart 1 (some .int)) 1 [.ref (r 6)] σ Z0 [] (QI (fun x σ9 => σ9 = σ ∧ Q x)) QT0 := by
  unfold wk_X11_scopeStart at w
  refine Ct_of (EC_ok a gC) (by decide) (Nat.le_of_ble_eq_true rfl) (by decide) (fun X hnn hF => ?_)
  show G SC r X σ Z0 [] [(0, .ref (r 6))] [] 0
  refine g_aload_n hF d_X11_scopeStart_0 rfl 0 rfl ?_
  refine g_get (v := .ref (r 45)) hF 18 obC_6 (by decide) m_345 rfl d_X11_scopeStart_1 ?_
  refine g_aload_n hF d_X11_scopeStart_4 rfl 0 rfl ?_
  refine g_get (v := .int (σ 6 17)) hF 17 obC_6 (by decide) m_344 rfl d_X11_scopeStart_5 ?_
  refine g_iconst hF (v := 1) d_X11_scopeStart_8 (by decide) ?_
  refine g_isub hF d_X11_scopeStart_9 ?_
  refine g_callSN (As := [.ref (r 45), .int ((σ 6 17) - (1 : Int32))]) (rest := []) hF (c_atv a r σ arC_45 (by decide) ((σ 6 17) - (1 : Int32))) (Nat.le_of_ble_eq_true rfl) mS_X12_at nm_1112 rfl rfl (Nat.le_of_ble_eq_true rfl) d_X11_scopeStart_10 (kQ ?_)
  refine g_top (v := (atv 52 (σ 45) ((σ 6 17) - (1 : Int32)))) rfl ?_
  exact g_iret hF rfl d_X11_scopeStart_13 ⟨rfl, rfl, (atv 52 (σ 45) ((σ 6 17) - (1 : Int32))), rfl, ⟨rfl, w⟩⟩
set_option maxHeartbeats 4000000 in
set_option maxRecDepth 100000 in
theorem kt_X11_declareLocal (a : Nat → Nat) (r : Nat → Nat) {a1 : Int32} {a2 : Int32} {a3 : Int32} {σ : St} {Q : St → Prop} (w : wk_X11_declareLocal a1 a2 a3 σ Q) (l : Launch) (D : va_G) (cy : Nat → ClassId) : Ct l D cy SC r (EC a gC) y_X11_declareLocal (Cond.code y_X11_declareLocal b_X11_declareLocal 5 none) 1 [.ref (r 6), .int a1, .int a2, .int a3] σ Z0 [] (QV Q) QT0 := by
  unfold wk_X11_declareLocal at w
  refine Ct_of (EC_ok a gC) (by decide) (Nat.le_of_ble_eq_true rfl) (by decide) (fun X hnn hF => ?_)
  show G SC r X σ Z0 [] [(0, .ref (r 6)), (1, .int a1), (2, .int a2), (3, .int a3)] [] 0
  refine g_aload_n hF d_X11_declareLocal_0 rfl 0 rfl ?_
  refine g_get (v := .int (σ 6 10)) hF 10 obC_6 (by decide) m_331 rfl d_X11_declareLocal_1 ?_
  refine g_istore hF [(4, .int (σ 6 10)), (0, .ref (r 6)), (1, .int a1), (2, .int a2), (3, .int a3)] d_X11_declareLocal_4 hnn (by decide) rfl ?_
  refine g_aload_n hF d_X11_declareLocal_6 rfl 1 rfl ?_
  refine g_get (v := .ref (r 40)) hF 11 obC_6 (by decide) m_333 rfl d_X11_declareLocal_7 ?_
  refine g_iload hF d_X11_declareLocal_10 0 rfl ?_
  refine g_iload_n hF d_X11_declareLocal_12 rfl 2 rfl ?_
  refine g_callSN (As := [.ref (r 40), .int (σ 6 10), .int a1]) (rest := []) hF (c_setv a r σ arC_40 (by decide) (σ 6 10) a1) (Nat.le_of_ble_eq_true rfl) mS_X12_set nm_1151 rfl rfl (Nat.le_of_ble_eq_true rfl) d_X11_declareLocal_13 (kU ?_)
  refine g_aload_n hF d_X11_declareLocal_16 rfl 1 rfl ?_
  refine g_get (v := .ref (r 41)) hF 12 obC_6 (by decide) m_334 rfl d_X11_declareLocal_17 ?_
  refine g_iload hF d_X11_declareLocal_20 0 rfl ?_
  refine g_iload_n hF d_X11_declareLocal_22 rfl 3 rfl ?_
  refine g_callSN (As := [.ref (r 41), .int (σ 6 10), .int a2]) (rest := []) hF (c_setv a r (upF σ 40 (setv 100 (σ 40) (σ 6 10) a1)) arC_41 (by decide) (σ 6 10) a2) (Nat.le_of_ble_eq_true rfl) mS_X12_set nm_1151 rfl rfl (Nat.le_of_ble_eq_true rfl) d_X11_declareLocal_23 (kU ?_)
  refine g_aload_n hF d_X11_declareLocal_26 rfl 1 rfl ?_
  refine g_get (v := .ref (r 42)) hF 13 obC_6 (by decide) m_336 rfl d_X11_declareLocal_27 ?_
  refine g_iload hF d_X11_declareLocal_30 0 rfl ?_
  refine g_iload_n hF d_X11_declareLocal_32 rfl 4 rfl ?_
  refine g_callSN (As := [.ref (r 42), .int (σ 6 10), .int a3]) (rest := []) hF (c_setv a r (upF (upF σ 40 (setv 100 (σ 40) (σ 6 10) a1)) 41 (setv 100 ((upF σ 40 (setv 100 (σ 40) (σ 6 10) a1)) 41) (σ 6 10) a2)) arC_42 (by decide) (σ 6 10) a3) (Nat.le_of_ble_eq_true rfl) mS_X12_set nm_1151 rfl rfl (Nat.le_of_ble_eq_true rfl) d_X11_declareLocal_33 (kU ?_)
  refine g_aload_n hF d_X11_declareLocal_36 rfl 1 rfl ?_
  refine g_get (v := .ref (r 43)) hF 14 obC_6 (by decide) m_339 rfl d_X11_declareLocal_37 ?_
  refine g_iload hF d_X11_declareLocal_40 0 rfl ?_
  refine g_iload_n hF d_X11_declareLocal_42 rfl 4 rfl ?_
  obtain ⟨J51, h51, w1⟩ := w
  have b51 : ∀ (y2_51 : Int32), y2_51 = 0 ∨ y2_51 = 1 → J51 y2_51 → G SC r X (upF (upF (upF σ 40 (setv 100 (σ 40) (σ 6 10) a1)) 41 (setv 100 ((upF σ 40 (setv 100 (σ 40) (σ 6 10) a1)) 41) (σ 6 10) a2)) 42 (setv 100 ((upF (upF σ 40 (setv 100 (σ 40) (σ 6 10) a1)) 41 (setv 100 ((upF σ 40 (setv 100 (σ 40) (σ 6 10) a1)) 41) (σ 6 10) a2)) 42) (σ 6 10) a3)) Z0 [] [(0, .ref (r 6)), (4, .int (σ 6 10))] [.int y2_51, .int (σ 6 10), .ref (r 43)] 51 := by
    intro y2_51 hy2_51 w51_
    have w51_ := h51 y2_51 hy2_51 w51_
    refine g_callSN (As := [.ref (r 43), .int (σ 6 10), .int y2_51]) (rest := []) hF (c_setv a r (upF (upF (upF σ 40 (setv 100 (σ 40) (σ 6 10) a1)) 41 (setv 100 ((upF σ 40 (setv 100 (σ 40) (σ 6 10) a1)) 41) (σ 6 10) a2)) 42 (setv 100 ((upF (upF σ 40 (setv 100 (σ 40) (σ 6 10) a1)) 41 (setv 100 ((upF σ 40 (setv 100 (σ 40) (σ 6 10) a1)) 41) (σ 6 10) a2)) 42) (σ 6 10) a3)) arC_43 (by decide) (σ 6 10) y2_51) (Nat.le_of_ble_eq_true rfl) mS_X12_set nm_1151 rfl rfl (Nat.le_of_ble_eq_true rfl) d_X11_declareLocal_51 (kU ?_)
    refine g_aload_n hF d_X11_declareLocal_54 rfl 0 rfl ?_
    refine g_get (v := .ref (r 44)) hF 16 obC_6 (by decide) m_343 rfl d_X11_declareLocal_55 ?_
    refine g_aload_n hF d_X11_declareLocal_58 rfl 0 rfl ?_
    refine g_get (v := .int (σ 6 15)) hF 15 obC_6 (by decide) m_342 rfl d_X11_declareLocal_59 ?_
    refine g_iload hF d_X11_declareLocal_62 1 rfl ?_
    refine g_callSN (As := [.ref (r 44), .int (σ 6 15), .int (σ 6 10)]) (rest := []) hF (c_setv a r (upF (upF (upF (upF σ 40 (setv 100 (σ 40) (σ 6 10) a1)) 41 (setv 100 ((upF σ 40 (setv 100 (σ 40) (σ 6 10) a1)) 41) (σ 6 10) a2)) 42 (setv 100 ((upF (upF σ 40 (setv 100 (σ 40) (σ 6 10) a1)) 41 (setv 100 ((upF σ 40 (setv 100 (σ 40) (σ 6 10) a1)) 41) (σ 6 10) a2)) 42) (σ 6 10) a3)) 43 (setv 100 ((upF (upF (upF σ 40 (setv 100 (σ 40) (σ 6 10) a1)) 41 (setv 100 ((upF σ 40 (setv 100 (σ 40) (σ 6 10) a1)) 41) (σ 6 10) a2)) 42 (setv 100 ((upF (upF σ 40 (setv 100 (σ 40) (σ 6 10) a1)) 41 (setv 100 ((upF σ 40 (setv 100 (σ 40) (σ 6 10) a1)) 41) (σ 6 10) a2)) 42) (σ 6 10) a3)) 43) (σ 6 10) y2_51)) arC_44 (by decide) (σ 6 15) (σ 6 10)) (Nat.le_of_ble_eq_true rfl) mS_X12_set nm_1151 rfl rfl (Nat.le_of_ble_eq_true rfl) d_X11_declareLocal_64 (kU ?_)
    refine g_aload_n hF d_X11_declareLocal_67 rfl 0 rfl ?_
    refine g_dup hF d_X11_declareLocal_68 rfl ?_
    refine g_get (v := .int (σ 6 10)) hF 10 obC_6 (by decide) m_331 rfl d_X11_declareLocal_69 ?_
    refine g_iconst hF (v := 1) d_X11_declareLocal_72 (by decide) ?_
    refine g_iadd hF d_X11_declareLocal_73 ?_
    refine g_put (v := ((σ 6 10) + (1 : Int32))) hF 10 obC_6 (by decide) m_331 rfl rfl rfl d_X11_declareLocal_74 ?_
    refine g_aload_n hF d_X11_declareLocal_77 rfl 0 rfl ?_
    refine g_dup hF d_X11_declareLocal_78 rfl ?_
    refine g_get (v := .int (σ 6 15)) hF 15 obC_6 (by decide) m_342 rfl d_X11_declareLocal_79 ?_
    refine g_iconst hF (v := 1) d_X11_declareLocal_82 (by decide) ?_
    refine g_iadd hF d_X11_declareLocal_83 ?_
    refine g_put (v := ((σ 6 15) + (1 : Int32))) hF 15 obC_6 (by decide) m_342 rfl rfl rfl d_X11_declareLocal_84 ?_
    exact g_vret hF rfl d_X11_declareLocal_87 ⟨rfl, rfl, rfl, w51_⟩
  refine g_if_ge hF 50 d_X11_declareLocal_43 (by decide) rfl (fun c => ?_) (fun c => ?_)
  · have w2 := w1.1 c
    refine g_iconst hF (v := 1) d_X11_declareLocal_50 (by decide) ?_
    exact g_sub (L' := [(0, .ref (r 6)), (4, .int (σ 6 10))]) [1, 0] rfl (b51 (1 : Int32) (Or.inr rfl) w2)
  · have w3 := w1.2 c
    refine g_iconst hF (v := 0) d_X11_declareLocal_46 (by decide) ?_
    refine g_goto hF 51 d_X11_declareLocal_47 (by decide) ?_
    exact g_sub (L' := [(0, .ref (r 6)), (4, .int (σ 6 10))]) [1, 0] rfl (b51 (0 : Int32) (Or.inl rfl) w3)
set_option maxHeartbeats 4000000 in
set_option maxRecDepth 100000 in
theorem kt_X1_storeLocal (a : Nat → Nat) (r : Nat → Nat) {σ : St} {Q : St → Prop} (w : wk_X1_storeLocal  σ Q) (l : Launch) (D : va_G) (cy : Nat → ClassId) : Ct l D cy SC r (EC a gC) y_X1_storeLocal (Cond.code y_X1_storeLocal b_X1_storeLocal 1 none) 1 [.ref (r 8)] σ Z0 [] (QV Q) QT0 := by
  unfold wk_X1_storeLocal at w
  refine Ct_of (EC_ok a gC) (by decide) (Nat.le_of_ble_eq_true rfl) (by decide) (fun X hnn hF => ?_)
  show G SC r X σ Z0 [] [(0, .ref (r 8))] [] 0
  refine g_aload_n hF d_X1_storeLocal_0 rfl 0 rfl ?_
  refine g_get (v := .ref (r 4)) hF 4 obC_8 (by decide) m_493 rfl d_X1_storeLocal_1 ?_
  refine g_bipush hF (v := 9) d_X1_storeLocal_4 (by decide) ?_
  refine g_aload_n hF d_X1_storeLocal_6 rfl 0 rfl ?_
  refine g_get (v := .int (σ 8 10)) hF 10 obC_8 (by decide) m_502 rfl d_X1_storeLocal_7 ?_
  refine g_iconst hF (v := 0) d_X1_storeLocal_10 (by decide) ?_
  refine g_iconst hF (v := 0) d_X1_storeLocal_11 (by decide) ?_
  refine g_callVN (As := [.int 9, .int (σ 8 10), .int 0, .int 0]) (rest := []) hF (fun l D cy => kt_X0_emit a r w l D cy) (Nat.le_of_ble_eq_true rfl) mV_X0_emit nm_1379 (recv_ob obC_4) rfl rfl (Nat.le_of_ble_eq_true rfl) d_X1_storeLocal_12 (qI (fun v12 s12 w1 => ?_))
  refine g_pop hF d_X1_storeLocal_15 rfl ?_
  refine g_aload_n hF d_X1_storeLocal_16 rfl 0 rfl ?_
  refine g_get (v := .ref (r 4)) hF 4 obC_8 (by decide) m_493 rfl d_X1_storeLocal_17 ?_
  refine g_iconst hF (v := 2) d_X1_storeLocal_20 (by decide) ?_
  refine g_iconst hF (v := 0) d_X1_storeLocal_21 (by decide) ?_
  refine g_iconst hF (v := 0) d_X1_storeLocal_22 (by decide) ?_
  refine g_iconst hF (v := 0) d_X1_storeLocal_23 (by decide) ?_
  refine g_callVN (As := [.int 2, .int 0, .int 0, .int 0]) (rest := []) hF (fun l D cy => kt_X0_emit a r w1 l D cy) (Nat.le_of_ble_eq_true rfl) mV_X0_emit nm_1379 (recv_ob obC_4) rfl rfl (Nat.le_of_ble_eq_true rfl) d_X1_storeLocal_24 (qI (fun v24 s24 w2 => ?_))
  refine g_pop hF d_X1_storeLocal_27 rfl ?_
  exact g_vret hF rfl d_X1_storeLocal_28 ⟨rfl, rfl, rfl, w2⟩
set_option maxHeartbeats 4000000 in
set_option maxRecDepth 100000 in
theorem kt_X1_local (a : Nat → Nat) (r : Nat → Nat) {a1 : Int32} {a2 : Int32} {σ : St} {Q : St → Prop} (ha2 : a2 = 0 ∨ a2 = 1) (w : wk_X1_local a1 a2 σ Q) (l : Launch) (D : va_G) (cy : Nat → ClassId) : Ct l D cy SC r (EC a gC) y_X1_local (Cond.code y_X1_local b_X1_local 3 none) 3 [.ref (r 8), .int a1, .int a2] σ Z0 [] (QV Q) QT0 := by
  unfold wk_X1_local at w
  refine Ct_of (EC_ok a gC) (by decide) (Nat.le_of_ble_eq_true rfl) (by decide) (fun X hnn hF => ?_)
  show G SC r X σ Z0 [] [(0, .ref (r 8)), (1, .int a1), (2, .int a2)] [] 0
  refine g_aload_n hF d_X1_local_0 rfl 0 rfl ?_
  refine g_get (v := .ref (r 6)) hF 2 obC_8 (by decide) m_491 rfl d_X1_local_1 ?_
  refine g_aload_n hF d_X1_local_4 rfl 0 rfl ?_
  refine g_get (v := .ref (r 6)) hF 2 obC_8 (by decide) m_491 rfl d_X1_local_5 ?_
  refine g_callVN (As := []) (rest := [.ref (r 6)]) hF (fun l D cy => kt_X11_scopeStart a r w l D cy) (Nat.le_of_ble_eq_true rfl) mV_X11_scopeStart nm_1365 (recv_ob obC_6) rfl rfl (Nat.le_of_ble_eq_true rfl) d_X1_local_8 (qIr (fun v8 w1 => ?_))
  refine g_iload_n hF d_X1_local_11 rfl 1 rfl ?_
  refine g_callVN (As := [.int v8, .int a1]) (rest := []) hF (fun l D cy => kt_X11_localFrom a r w1 l D cy) (Nat.le_of_ble_eq_true rfl) mV_X11_localFrom nm_1369 (recv_ob obC_6) rfl rfl (Nat.le_of_ble_eq_true rfl) d_X1_local_12 (qIr (fun v12 w2 => ?_))
  obtain ⟨J27, h27, w3⟩ := w2
  have b27 : ∀ (s27 : St), J27 s27 → G SC r X s27 Z0 [] [(0, .ref (r 8)), (1, .int a1), (2, .int a2)] [] 27 := by
    intro s27  w27_
    have w27_ := h27 s27  w27_
    refine g_aload_n hF d_X1_local_27 rfl 0 rfl ?_
    refine g_get (v := .ref (r 6)) hF 2 obC_8 (by decide) m_491 rfl d_X1_local_28 ?_
    refine g_getN (v := .int (s27 6 10)) hF 10 obC_6 (by decide) nm_332 rfl d_X1_local_31 ?_
    refine g_bipush hF (v := 100) d_X1_local_34 (by decide) ?_
    obtain ⟨J48, h48, w4⟩ := w27_
    have b48 : ∀ (s48 : St), J48 s48 → G SC r X s48 Z0 [] [(0, .ref (r 8)), (1, .int a1), (2, .int a2)] [] 48 := by
      intro s48  w48_
      have w48_ := h48 s48  w48_
      refine g_aload_n hF d_X1_local_48 rfl 0 rfl ?_
      refine g_iload_n hF d_X1_local_49 rfl 2 rfl ?_
      refine g_callV (As := [.int a2]) (rest := []) hF (fun l D cy => kt_X1_checkSquare a r ha2 w48_ l D cy) (Nat.le_of_ble_eq_true rfl) mV_X1_checkSquare m_1371 (recv_ob obC_8) rfl rfl (Nat.le_of_ble_eq_true rfl) d_X1_local_50 (qV (fun s50 w5 => ?_)) (fun _ _ _ h => h.elim)
      refine g_aload_n hF d_X1_local_53 rfl 0 rfl ?_
      refine g_get (v := .ref (r 6)) hF 2 obC_8 (by decide) m_491 rfl d_X1_local_54 ?_
      refine g_getN (v := .int (s50 6 3)) hF 3 obC_6 (by decide) nm_317 rfl d_X1_local_57 ?_
      refine g_if_eq hF 64 d_X1_local_60 (by decide) rfl (fun c => ?_) (fun c => ?_)
      · have w6 := w5.1 c
        refine g_aload_n hF d_X1_local_64 rfl 0 rfl ?_
        refine g_aload_n hF d_X1_local_65 rfl 0 rfl ?_
        refine g_get (v := .ref (r 6)) hF 2 obC_8 (by decide) m_491 rfl d_X1_local_66 ?_
        refine g_getN (v := .int (s50 6 10)) hF 10 obC_6 (by decide) nm_332 rfl d_X1_local_69 ?_
        refine g_put (v := (s50 6 10)) hF 10 obC_8 (by decide) m_502 rfl rfl rfl d_X1_local_72 ?_
        refine g_aload_n hF d_X1_local_75 rfl 0 rfl ?_
        refine g_get (v := .ref (r 6)) hF 2 obC_8 (by decide) m_491 rfl d_X1_local_76 ?_
        refine g_iload_n hF d_X1_local_79 rfl 1 rfl ?_
        refine g_aload_n hF d_X1_local_80 rfl 0 rfl ?_
        refine g_get (v := .int (s50 8 11)) hF 11 obC_8 (by decide) m_503 rfl d_X1_local_81 ?_
        refine g_aload_n hF d_X1_local_84 rfl 0 rfl ?_
        refine g_get (v := .int (s50 8 12)) hF 12 obC_8 (by decide) m_504 rfl d_X1_local_85 ?_
        refine g_callVN (As := [.int a1, .int (s50 8 11), .int (s50 8 12)]) (rest := []) hF (fun l D cy => kt_X11_declareLocal a r w6 l D cy) (Nat.le_of_ble_eq_true rfl) mV_X11_declareLocal nm_1375 (recv_ob obC_6) rfl rfl (Nat.le_of_ble_eq_true rfl) d_X1_local_88 (qV (fun s88 w7 => ?_))
        refine g_aload_n hF d_X1_local_91 rfl 0 rfl ?_
        refine g_get (v := .int (s88 8 12)) hF 12 obC_8 (by decide) m_504 rfl d_X1_local_92 ?_
        refine g_iconst hF (v := (-1)) d_X1_local_95 (by decide) ?_
        refine g_icmp_ne (yv := -1) hF 118 d_X1_local_96 (by decide) rfl (by decide) (fun c => ?_) (fun c => ?_)
        · have w8 := w7.1 c
          refine g_aload_n hF d_X1_local_118 rfl 0 rfl ?_
          refine g_get (v := .ref (r 4)) hF 4 obC_8 (by decide) m_493 rfl d_X1_local_119 ?_
          refine g_bipush hF (v := 15) d_X1_local_122 (by decide) ?_
          refine g_aload_n hF d_X1_local_124 rfl 0 rfl ?_
          refine g_get (v := .int (s88 8 10)) hF 10 obC_8 (by decide) m_502 rfl d_X1_local_125 ?_
          refine g_aload_n hF d_X1_local_128 rfl 0 rfl ?_
          refine g_get (v := .int (s88 8 12)) hF 12 obC_8 (by decide) m_504 rfl d_X1_local_129 ?_
          refine g_iconst hF (v := 0) d_X1_local_132 (by decide) ?_
          refine g_callVN (As := [.int 15, .int (s88 8 10), .int (s88 8 12), .int 0]) (rest := []) hF (fun l D cy => kt_X0_emit a r w8 l D cy) (Nat.le_of_ble_eq_true rfl) mV_X0_emit nm_1379 (recv_ob obC_4) rfl rfl (Nat.le_of_ble_eq_true rfl) d_X1_local_133 (qI (fun v133 s133 w9 => ?_))
          refine g_pop hF d_X1_local_136 rfl ?_
          exact g_vret hF rfl d_X1_local_137 ⟨rfl, rfl, rfl, w9⟩
        · have w10 := w7.2 c
          refine g_aload_n hF d_X1_local_99 rfl 0 rfl ?_
          refine g_get (v := .ref (r 4)) hF 4 obC_8 (by decide) m_493 rfl d_X1_local_100 ?_
          refine g_iconst hF (v := 1) d_X1_local_103 (by decide) ?_
          refine g_iconst hF (v := 0) d_X1_local_104 (by decide) ?_
          refine g_iconst hF (v := 0) d_X1_local_105 (by decide) ?_
          refine g_iconst hF (v := 0) d_X1_local_106 (by decide) ?_
          refine g_callVN (As := [.int 1, .int 0, .int 0, .int 0]) (rest := []) hF (fun l D cy => kt_X0_emit a r w10 l D cy) (Nat.le_of_ble_eq_true rfl) mV_X0_emit nm_1379 (recv_ob obC_4) rfl rfl (Nat.le_of_ble_eq_true rfl) d_X1_local_107 (qI (fun v107 s107 w11 => ?_))
          refine g_pop hF d_X1_local_110 rfl ?_
          refine g_aload_n hF d_X1_local_111 rfl 0 rfl ?_
          refine g_callV (As := []) (rest := []) hF (fun l D cy => kt_X1_storeLocal a r w11 l D cy) (Nat.le_of_ble_eq_true rfl) mV_X1_storeLocal m_1380 (recv_ob obC_8) rfl rfl (Nat.le_of_ble_eq_true rfl) d_X1_local_112 (qV (fun s112 w12 => ?_)) (fun _ _ _ h => h.elim)
          refine g_goto hF 137 d_X1_local_115 (by decide) ?_
          exact g_vret hF rfl d_X1_local_137 ⟨rfl, rfl, rfl, w12⟩
      · have w13 := w5.2 c
        exact g_vret hF rfl d_X1_local_63 ⟨rfl, rfl, rfl, w13⟩
    refine g_icmp_lt (yv := 100) hF 48 d_X1_local_36 (by decide) rfl (by decide) (fun c => ?_) (fun c => ?_)
    · have w14 := w4.1 c
      exact b48 s27 w14
    · have w15 := w4.2 c
      refine g_aload_n hF d_X1_local_39 rfl 0 rfl ?_
      refine g_get (v := .ref (r 6)) hF 2 obC_8 (by decide) m_491 rfl d_X1_local_40 ?_
      refine g_iconst hF (v := 4) d_X1_local_43 (by decide) ?_
      refine g_iload_n hF d_X1_local_44 rfl 1 rfl ?_
      refine g_callVN (As := [.int 4, .int a1]) (rest := []) hF (fun l D cy => kt_X11_fail a r w15 l D cy) (Nat.le_of_ble_eq_true rfl) mV_X11_fail nm_1370 (recv_ob obC_6) rfl rfl (Nat.le_of_ble_eq_true rfl) d_X1_local_45 (qV (fun s45 w16 => ?_))
      exact b48 s45 w16
  refine g_if_lt hF 27 d_X1_local_15 (by decide) rfl (fun c => ?_) (fun c => ?_)
  · have w17 := w3.1 c
    exact b27 σ w17
  · have w18 := w3.2 c
    refine g_aload_n hF d_X1_local_18 rfl 0 rfl ?_
    refine g_get (v := .ref (r 6)) hF 2 obC_8 (by decide) m_491 rfl d_X1_local_19 ?_
    refine g_iconst hF (v := 2) d_X1_local_22 (by decide) ?_
    refine g_iload_n hF d_X1_local_23 rfl 1 rfl ?_
    refine g_callVN (As := [.int 2, .int a1]) (rest := []) hF (fun l D cy => kt_X11_fail a r w18 l D cy) (Nat.le_of_ble_eq_true rfl) mV_X11_fail nm_1370 (recv_ob obC_6) rfl rfl (Nat.le_of_ble_eq_true rfl) d_X1_local_24 (qV (fun s24 w19 => ?_))
    exact b27 s24 w19
set_option maxHeartbeats 4000000 in
set_option maxRecDepth 100000 in
theorem kt_X1_variable (a : Nat → Nat) (r : Nat → Nat) {a1 : Int32} {a2 : Int32} {a3 : Int32} {σ : St} {Q : St → Prop} (w : wk_X1_variable a1 a2 a3 σ Q) (l : Launch) (D : va_G) (cy : Nat → ClassId) : Ct l D cy SC r (EC a gC) y_X1_variable (Cond.code y_X1_variable b_X1_variable 6 none) 4 [.ref (r 8), .int a1, .int a2, .int a3] σ Z0 [] (QV Q) QT0 := by
  unfold wk_X1_variable at w
  refine Ct_of (EC_ok a gC) (by decide) (Nat.le_of_ble_eq_true rfl) (by decide) (fun X hnn hF => ?_)
  show G SC r X σ Z0 [] [(0, .ref (r 8)), (1, .int a1), (2, .int a2), (3, .int a3)] [] 0
  refine g_iload_n hF d_X1_variable_0 rfl 3 rfl ?_
  refine g_iconst hF (v := 3) d_X1_variable_1 (by decide) ?_
  refine g_iand hF d_X1_variable_2 ?_
  refine g_istore hF [(4, .int (a3 &&& (3 : Int32))), (0, .ref (r 8)), (1, .int a1), (2, .int a2), (3, .int a3)] d_X1_variable_3 hnn (by decide) rfl ?_
  refine g_iload_n hF d_X1_variable_5 rfl 4 rfl ?_
  refine g_iconst hF (v := 4) d_X1_variable_6 (by decide) ?_
  refine g_iand hF d_X1_variable_7 ?_
  obtain ⟨J16, h16, w1⟩ := w
  have b16 : ∀ (y0_16 : Int32), y0_16 = 0 ∨ y0_16 = 1 → J16 y0_16 → G SC r X σ Z0 [] [(0, .ref (r 8)), (1, .int a1), (2, .int a2), (4, .int (a3 &&& (3 : Int32)))] [.int y0_16] 16 := by
    intro y0_16 hy0_16 w16_
    have w16_ := h16 y0_16 hy0_16 w16_
    refine g_istore hF [(5, .int y0_16), (0, .ref (r 8)), (1, .int a1), (2, .int a2), (4, .int (a3 &&& (3 : Int32)))] d_X1_variable_16 hnn (by decide) rfl ?_
    refine g_aload_n hF d_X1_variable_18 rfl 1 rfl ?_
    refine g_iload_n hF d_X1_variable_19 rfl 3 rfl ?_
    refine g_put (v := a2) hF 11 obC_8 (by decide) m_503 rfl rfl rfl d_X1_variable_20 ?_
    refine g_aload_n hF d_X1_variable_23 rfl 1 rfl ?_
    refine g_aload_n hF d_X1_variable_24 rfl 1 rfl ?_
    refine g_get (v := .int (σ 8 6)) hF 6 obC_8 (by decide) m_497 rfl d_X1_variable_25 ?_
    obtain ⟨J61, h61, w2⟩ := w16_
    have b61 : ∀ (y1_61 : Int32), J61 y1_61 → G SC r X (upC σ 8 11 a2) Z0 [] [(0, .ref (r 8)), (1, .int a1), (4, .int (a3 &&& (3 : Int32))), (5, .int y0_16)] [.int y1_61, .ref (r 8)] 61 := by
      intro y1_61  w61_
      have w61_ := h61 y1_61  w61_
      refine g_put (v := y1_61) hF 12 obC_8 (by decide) m_504 rfl rfl rfl d_X1_variable_61 ?_
      refine g_aload_n hF d_X1_variable_64 rfl 0 rfl ?_
      refine g_iconst hF (v := 0) d_X1_variable_65 (by decide) ?_
      refine g_put (v := 0) hF 15 obC_8 (by decide) m_507 rfl rfl rfl d_X1_variable_66 ?_
      refine g_aload_n hF d_X1_variable_69 rfl 0 rfl ?_
      refine g_iconst hF (v := 0) d_X1_variable_70 (by decide) ?_
      refine g_putZ (v := 0) hF 16 obC_8 (by decide) m_508 rfl rfl rfl (Or.inl rfl) d_X1_variable_71 ?_
      refine g_aload_n hF d_X1_variable_74 rfl 0 rfl ?_
      refine g_aload_n hF d_X1_variable_75 rfl 0 rfl ?_
      refine g_get (v := .ref (r 6)) hF 2 obC_8 (by decide) m_491 rfl d_X1_variable_76 ?_
      refine g_getN (v := .int (σ 6 6)) hF 6 obC_6 (by decide) nm_325 rfl d_X1_variable_79 ?_
      obtain ⟨J90, h90, w3⟩ := w61_
      have b90 : ∀ (y1_90 : Int32), y1_90 = 0 ∨ y1_90 = 1 → J90 y1_90 → G SC r X (upC (upC (upC (upC σ 8 11 a2) 8 12 y1_61) 8 15 (0 : Int32)) 8 16 (0 : Int32)) Z0 [] [(0, .ref (r 8)), (1, .int a1), (4, .int (a3 &&& (3 : Int32))), (5, .int y0_16)] [.int y1_90, .ref (r 8)] 90 := by
        intro y1_90 hy1_90 w90_
        have w90_ := h90 y1_90 hy1_90 w90_
        refine g_putZ (v := y1_90) hF 9 obC_8 (by decide) m_501 rfl rfl rfl hy1_90 d_X1_variable_90 ?_
        refine g_aload_n hF d_X1_variable_93 rfl 0 rfl ?_
        refine g_iload hF d_X1_variable_94 2 rfl ?_
        refine g_iconst hF (v := 2) d_X1_variable_96 (by decide) ?_
        obtain ⟨J105, h105, w4⟩ := w90_
        have b105 : ∀ (y1_105 : Int32), y1_105 = 0 ∨ y1_105 = 1 → J105 y1_105 → G SC r X (upC (upC (upC (upC (upC σ 8 11 a2) 8 12 y1_61) 8 15 (0 : Int32)) 8 16 (0 : Int32)) 8 9 y1_90) Z0 [] [(0, .ref (r 8)), (1, .int a1), (4, .int (a3 &&& (3 : Int32))), (5, .int y0_16)] [.int y1_105, .ref (r 8)] 105 := by
          intro y1_105 hy1_105 w105_
          have w105_ := h105 y1_105 hy1_105 w105_
          refine g_putZ (v := y1_105) hF 13 obC_8 (by decide) m_505 rfl rfl rfl hy1_105 d_X1_variable_105 ?_
          refine g_aload_n hF d_X1_variable_108 rfl 0 rfl ?_
          refine g_get (v := .int y1_90) hF 9 obC_8 (by decide) m_501 rfl d_X1_variable_109 ?_
          refine g_if_eq hF 125 d_X1_variable_112 (by decide) rfl (fun c => ?_) (fun c => ?_)
          · have w5 := w105_.1 c
            refine g_aload_n hF d_X1_variable_125 rfl 0 rfl ?_
            refine g_iload_n hF d_X1_variable_126 rfl 1 rfl ?_
            refine g_iload hF d_X1_variable_127 2 rfl ?_
            refine g_iload hF d_X1_variable_129 3 rfl ?_
            refine g_callV (As := [.int a1, .int (a3 &&& (3 : Int32)), .int y0_16]) (rest := []) hF (fun l D cy => kt_X1_outer a r hy0_16 w5 l D cy) (Nat.le_of_ble_eq_true rfl) mV_X1_outer m_1384 (recv_ob obC_8) rfl rfl (Nat.le_of_ble_eq_true rfl) d_X1_variable_131 (qV (fun s131 w6 => ?_)) (fun _ _ _ h => h.elim)
            refine g_aload_n hF d_X1_variable_134 rfl 0 rfl ?_
            refine g_iconst hF (v := (-1)) d_X1_variable_135 (by decide) ?_
            refine g_put (v := (-1)) hF 6 obC_8 (by decide) m_497 rfl rfl rfl d_X1_variable_136 ?_
            exact g_vret hF rfl d_X1_variable_139 ⟨rfl, rfl, rfl, w6⟩
          · have w7 := w105_.2 c
            refine g_aload_n hF d_X1_variable_115 rfl 0 rfl ?_
            refine g_iload_n hF d_X1_variable_116 rfl 1 rfl ?_
            refine g_iload hF d_X1_variable_117 3 rfl ?_
            refine g_callV (As := [.int a1, .int y0_16]) (rest := []) hF (fun l D cy => kt_X1_local a r hy0_16 w7 l D cy) (Nat.le_of_ble_eq_true rfl) mV_X1_local m_1361 (recv_ob obC_8) rfl rfl (Nat.le_of_ble_eq_true rfl) d_X1_variable_119 (qV (fun s119 w8 => ?_)) (fun _ _ _ h => h.elim)
            refine g_goto hF 134 d_X1_variable_122 (by decide) ?_
            refine g_aload_n hF d_X1_variable_134 rfl 0 rfl ?_
            refine g_iconst hF (v := (-1)) d_X1_variable_135 (by decide) ?_
            refine g_put (v := (-1)) hF 6 obC_8 (by decide) m_497 rfl rfl rfl d_X1_variable_136 ?_
            exact g_vret hF rfl d_X1_variable_139 ⟨rfl, rfl, rfl, w8⟩
        refine g_icmp_ne (yv := 2) hF 104 d_X1_variable_97 (by decide) rfl (by decide) (fun c => ?_) (fun c => ?_)
        · have w9 := w4.1 c
          refine g_iconst hF (v := 0) d_X1_variable_104 (by decide) ?_
          exact b105 (0 : Int32) (Or.inl rfl) w9
        · have w10 := w4.2 c
          refine g_iconst hF (v := 1) d_X1_variable_100 (by decide) ?_
          refine g_goto hF 105 d_X1_variable_101 (by decide) ?_
          exact b105 (1 : Int32) (Or.inr rfl) w10
      refine g_if_lt hF 89 d_X1_variable_82 (by decide) rfl (fun c => ?_) (fun c => ?_)
      · have w11 := w3.1 c
        refine g_iconst hF (v := 0) d_X1_variable_89 (by decide) ?_
        exact b90 (0 : Int32) (Or.inl rfl) w11
      · have w12 := w3.2 c
        refine g_iconst hF (v := 1) d_X1_variable_85 (by decide) ?_
        refine g_goto hF 90 d_X1_variable_86 (by decide) ?_
        exact b90 (1 : Int32) (Or.inr rfl) w12
    refine g_if_ge hF 35 d_X1_variable_28 (by decide) rfl (fun c => ?_) (fun c => ?_)
    · have w13 := w2.1 c
      refine g_aload_n hF d_X1_variable_35 rfl 1 rfl ?_
      refine g_get (v := .int (σ 8 7)) hF 7 obC_8 (by decide) m_498 rfl d_X1_variable_36 ?_
      refine g_iconst hF (v := 1) d_X1_variable_39 (by decide) ?_
      obtain ⟨J60, h60, w14⟩ := w13
      have b60 : J60  → G SC r X (upC σ 8 11 a2) Z0 [] [(0, .ref (r 8)), (1, .int a1), (4, .int (a3 &&& (3 : Int32))), (5, .int y0_16)] [.ref (r 8)] 60 := by
        intro   w60_
        have w60_ := h60   w60_
        refine g_iconst hF (v := 0) d_X1_variable_60 (by decide) ?_
        exact b61 (0 : Int32) w60_
      refine g_icmp_lt (yv := 1) hF 60 d_X1_variable_40 (by decide) rfl (by decide) (fun c => ?_) (fun c => ?_)
      · have w15 := w14.1 c
        exact g_sub (L' := [(0, .ref (r 8)), (1, .int a1), (4, .int (a3 &&& (3 : Int32))), (5, .int y0_16)]) [1, 2, 4, 0] rfl (b60  w15)
      · have w16 := w14.2 c
        refine g_aload_n hF d_X1_variable_43 rfl 1 rfl ?_
        refine g_get (v := .int (σ 8 7)) hF 7 obC_8 (by decide) m_498 rfl d_X1_variable_44 ?_
        refine g_sipush hF (v := 4000) d_X1_variable_47 (by decide) ?_
        refine g_icmp_gt (yv := 4000) hF 60 d_X1_variable_50 (by decide) rfl (by decide) (fun c => ?_) (fun c => ?_)
        · have w17 := w16.1 c
          exact g_sub (L' := [(0, .ref (r 8)), (1, .int a1), (4, .int (a3 &&& (3 : Int32))), (5, .int y0_16)]) [1, 2, 4, 0] rfl (b60  w17)
        · have w18 := w16.2 c
          refine g_aload_n hF d_X1_variable_53 rfl 1 rfl ?_
          refine g_get (v := .int (σ 8 7)) hF 7 obC_8 (by decide) m_498 rfl d_X1_variable_54 ?_
          refine g_goto hF 61 d_X1_variable_57 (by decide) ?_
          exact g_sub (L' := [(0, .ref (r 8)), (1, .int a1), (4, .int (a3 &&& (3 : Int32))), (5, .int y0_16)]) [1, 2, 4, 0] rfl (b61 (σ 8 7) w18)
    · have w19 := w2.2 c
      refine g_iconst hF (v := (-1)) d_X1_variable_31 (by decide) ?_
      refine g_goto hF 61 d_X1_variable_32 (by decide) ?_
      exact g_sub (L' := [(0, .ref (r 8)), (1, .int a1), (4, .int (a3 &&& (3 : Int32))), (5, .int y0_16)]) [1, 2, 4, 0] rfl (b61 ((-1) : Int32) w19)
  refine g_if_eq hF 15 d_X1_variable_8 (by decide) rfl (fun c => ?_) (fun c => ?_)
  · have w20 := w1.1 c
    refine g_iconst hF (v := 0) d_X1_variable_15 (by decide) ?_
    exact g_sub (L' := [(0, .ref (r 8)), (1, .int a1), (2, .int a2), (4, .int (a3 &&& (3 : Int32)))]) [1, 2, 3, 0] rfl (b16 (0 : Int32) (Or.inl rfl) w20)
  · have w21 := w1.2 c
    refine g_iconst hF (v := 1) d_X1_variable_11 (by decide) ?_
    refine g_goto hF 16 d_X1_variable_12 (by decide) ?_
    exact g_sub (L' := [(0, .ref (r 8)), (1, .int a1), (2, .int a2), (4, .int (a3 &&& (3 : Int32)))]) [1, 2, 3, 0] rfl (b16 (1 : Int32) (Or.inr rfl) w21)
set_option maxHeartbeats 4000000 in
set_option maxRecDepth 100000 in
theorem kt_X6_isInitial (a : Nat → Nat) (r : Nat → Nat) {a0 : Nat} {σ : St} {Q : Int32 → Prop} (ha0 : isOp a0) (w : wk_X6_isInitial a0 σ Q) (l : Launch) (D : va_G) (cy : Nat → ClassId) : Ct l D cy SC r (EC a gC) y_X6_isInitial (Cond.code y_X6_isInitial b_X6_isInitial 1 (some .boolean)) 0 [.ref (r a0)] σ Z0 [] (QI (fun x σ9 => (x = 0 ∨ x = 1) ∧ σ9 = σ ∧ Q x)) QT0 := by
  unfold wk_X6_isInitial at w
  refine Ct_of (EC_ok a gC) (by decide) (Nat.le_of_ble_eq_true rfl) (by decide) (fun X hnn hF => ?_)
  show G SC r X σ Z0 [] [(0, .ref (r a0))] [] 0
  refine g_aload_n hF d_X6_isInitial_0 rfl 0 rfl ?_
  refine g_get (v := .int (σ a0 6)) hF 6 (obC_op ha0) (by decide) m_411 (fval_op ha0) d_X6_isInitial_1 ?_
  refine g_if_eq hF 11 d_X6_isInitial_4 (by decide) rfl (fun c => ?_) (fun c => ?_)
  · have w1 := w.1 c
    refine g_iconst hF (v := 0) d_X6_isInitial_11 (by decide) ?_
    exact g_zret hF rfl (k_nz (Or.inl rfl)) d_X6_isInitial_12 ⟨rfl, rfl, (0 : Int32), rfl, (Or.inl rfl), ⟨rfl, w1⟩⟩
  · have w2 := w.2 c
    refine g_iconst hF (v := 1) d_X6_isInitial_7 (by decide) ?_
    refine g_goto hF 12 d_X6_isInitial_8 (by decide) ?_
    exact g_zret hF rfl (k_nz (Or.inr rfl)) d_X6_isInitial_12 ⟨rfl, rfl, (1 : Int32), rfl, (Or.inr rfl), ⟨rfl, w2⟩⟩
set_option maxHeartbeats 4000000 in
set_option maxRecDepth 100000 in
theorem kt_X1_suits (a : Nat → Nat) (r : Nat → Nat) {a1 : Nat} {σ : St} {Q : Int32 → Prop} (ha1 : isOp a1) (w : wk_X1_suits a1 σ Q) (l : Launch) (D : va_G) (cy : Nat → ClassId) : Ct l D cy SC r (EC a gC) y_X1_suits (Cond.code y_X1_suits b_X1_suits 2 (some .boolean)) 1 [.ref (r 8), .ref (r a1)] σ Z0 [] (QI (fun x σ9 => (x = 0 ∨ x = 1) ∧ σ9 = σ ∧ Q x)) QT0 := by
  unfold wk_X1_suits at w
  refine Ct_of (EC_ok a gC) (by decide) (Nat.le_of_ble_eq_true rfl) (by decide) (fun X hnn hF => ?_)
  show G SC r X σ Z0 [] [(0, .ref (r 8)), (1, .ref (r a1))] [] 0
  refine g_aload_n hF d_X1_suits_0 rfl 1 rfl ?_
  refine g_aload_n hF d_X1_suits_1 rfl 0 rfl ?_
  refine g_get (v := .int (σ 8 11)) hF 11 obC_8 (by decide) m_503 rfl d_X1_suits_2 ?_
  refine g_callVN (As := [.int (σ 8 11)]) (rest := []) hF (fun l D cy => kt_X6_fits a r ha1 w l D cy) (Nat.le_of_ble_eq_true rfl) mV_X6_fits nm_1420 (recv_ob (obC_op ha1)) rfl rfl (Nat.le_of_ble_eq_true rfl) d_X1_suits_5 (qZr (fun v5 hz5 w1 => ?_))
  refine g_if_eq hF 29 d_X1_suits_8 (by decide) rfl (fun c => ?_) (fun c => ?_)
  · have w2 := w1.1 c
    refine g_iconst hF (v := 0) d_X1_suits_29 (by decide) ?_
    exact g_zret hF rfl (k_nz (Or.inl rfl)) d_X1_suits_30 ⟨rfl, rfl, (0 : Int32), rfl, (Or.inl rfl), ⟨rfl, w2⟩⟩
  · have w3 := w1.2 c
    refine g_aload_n hF d_X1_suits_11 rfl 0 rfl ?_
    refine g_get (v := .int (σ 8 9)) hF 9 obC_8 (by decide) m_501 rfl d_X1_suits_12 ?_
    refine g_if_ne hF 25 d_X1_suits_15 (by decide) rfl (fun c => ?_) (fun c => ?_)
    · have w4 := w3.1 c
      refine g_iconst hF (v := 1) d_X1_suits_25 (by decide) ?_
      refine g_goto hF 30 d_X1_suits_26 (by decide) ?_
      exact g_zret hF rfl (k_nz (Or.inr rfl)) d_X1_suits_30 ⟨rfl, rfl, (1 : Int32), rfl, (Or.inr rfl), ⟨rfl, w4⟩⟩
    · have w5 := w3.2 c
      refine g_aload_n hF d_X1_suits_18 rfl 1 rfl ?_
      refine g_callVN (As := []) (rest := []) hF (fun l D cy => kt_X6_isInitial a r ha1 w5 l D cy) (Nat.le_of_ble_eq_true rfl) mV_X6_isInitial nm_1421 (recv_ob (obC_op ha1)) rfl rfl (Nat.le_of_ble_eq_true rfl) d_X1_suits_19 (qZr (fun v19 hz19 w6 => ?_))
      refine g_if_eq hF 29 d_X1_suits_22 (by decide) rfl (fun c => ?_) (fun c => ?_)
      · have w7 := w6.1 c
        refine g_iconst hF (v := 0) d_X1_suits_29 (by decide) ?_
        exact g_zret hF rfl (k_nz (Or.inl rfl)) d_X1_suits_30 ⟨rfl, rfl, (0 : Int32), rfl, (Or.inl rfl), ⟨rfl, w7⟩⟩
      · have w8 := w6.2 c
        refine g_iconst hF (v := 1) d_X1_suits_25 (by decide) ?_
        refine g_goto hF 30 d_X1_suits_26 (by decide) ?_
        exact g_zret hF rfl (k_nz (Or.inr rfl)) d_X1_suits_30 ⟨rfl, rfl, (1 : Int32), rfl, (Or.inr rfl), ⟨rfl, w8⟩⟩
set_option maxHeartbeats 4000000 in
set_option maxRecDepth 100000 in
theorem kt_X1_putInitial (a : Nat → Nat) (r : Nat → Nat) {a1 : Int32} {a2 : Nat} {σ : St} {Q : St → Prop} (ha2 : isOp a2) (w : wk_X1_putInitial a1 a2 σ Q) (l : Launch) (D : va_G) (cy : Nat → ClassId) : Ct l D cy SC r (EC a gC) y_X1_putInitial (Cond.code y_X1_putInitial b_X1_putInitial 3 none) 2 [.ref (r 8), .int a1, .ref (r a2)] σ Z0 [] (QV Q) QT0 := by
  unfold wk_X1_putInitial at w
  refine Ct_of (EC_ok a gC) (by decide) (Nat.le_of_ble_eq_true rfl) (by decide) (fun X hnn hF => ?_)
  show G SC r X σ Z0 [] [(0, .ref (r 8)), (1, .int a1), (2, .ref (r a2))] [] 0
  refine g_aload_n hF d_X1_putInitial_0 rfl 0 rfl ?_
  refine g_get (v := .ref (r 4)) hF 4 obC_8 (by decide) m_493 rfl d_X1_putInitial_1 ?_
  refine g_aload_n hF d_X1_putInitial_4 rfl 2 rfl ?_
  refine g_getN (v := .int (σ a2 9)) hF 9 (obC_op ha2) (by decide) nm_421 (fval_op ha2) d_X1_putInitial_5 ?_
  refine g_callVN (As := [.int (σ a2 9)]) (rest := []) hF (fun l D cy => kt_X0_cut a r w l D cy) (Nat.le_of_ble_eq_true rfl) mV_X0_cut nm_1429 (recv_ob obC_4) rfl rfl (Nat.le_of_ble_eq_true rfl) d_X1_putInitial_8 (qV (fun s8 w1 => ?_))
  refine g_aload_n hF d_X1_putInitial_11 rfl 0 rfl ?_
  refine g_get (v := .ref (r 5)) hF 3 obC_8 (by decide) m_492 rfl d_X1_putInitial_12 ?_
  refine g_aload_n hF d_X1_putInitial_15 rfl 0 rfl ?_
  refine g_get (v := .int (s8 8 14)) hF 14 obC_8 (by decide) m_506 rfl d_X1_putInitial_16 ?_
  refine g_iload_n hF d_X1_putInitial_19 rfl 1 rfl ?_
  refine g_iadd hF d_X1_putInitial_20 ?_
  refine g_aload_n hF d_X1_putInitial_21 rfl 2 rfl ?_
  refine g_callVN (As := []) (rest := [.int ((s8 8 14) + a1), .ref (r 5)]) hF (fun l D cy => kt_X6_isConstant a r ha2 w1 l D cy) (Nat.le_of_ble_eq_true rfl) mV_X6_isConstant nm_1430 (recv_ob (obC_op ha2)) rfl rfl (Nat.le_of_ble_eq_true rfl) d_X1_putInitial_22 (qZr (fun v22 hz22 w2 => ?_))
  obtain ⟨J37, h37, w3⟩ := w2
  have b37 : ∀ (y2_37 : Int32), J37 y2_37 → G SC r X s8 Z0 [] [(2, .ref (r a2))] [.int y2_37, .int ((s8 8 14) + a1), .ref (r 5)] 37 := by
    intro y2_37  w37_
    have w37_ := h37 y2_37  w37_
    refine g_aload_n hF d_X1_putInitial_37 rfl 0 rfl ?_
    refine g_getN (v := .int (s8 a2 8)) hF 8 (obC_op ha2) (by decide) nm_419 (fval_op ha2) d_X1_putInitial_38 ?_
    refine g_callVN (As := [.int ((s8 8 14) + a1), .int y2_37, .int (s8 a2 8)]) (rest := []) hF (fun l D cy => kt_X8_addInitial a r w37_ l D cy) (Nat.le_of_ble_eq_true rfl) mV_X8_addInitial nm_1431 (recv_ob obC_5) rfl rfl (Nat.le_of_ble_eq_true rfl) d_X1_putInitial_41 (qV (fun s41 w4 => ?_))
    exact g_vret hF rfl d_X1_putInitial_44 ⟨rfl, rfl, rfl, w4⟩
  refine g_if_eq hF 33 d_X1_putInitial_25 (by decide) rfl (fun c => ?_) (fun c => ?_)
  · have w5 := w3.1 c
    refine g_aload_n hF d_X1_putInitial_33 rfl 2 rfl ?_
    refine g_getN (v := .int (s8 a2 7)) hF 7 (obC_op ha2) (by decide) nm_415 (fval_op ha2) d_X1_putInitial_34 ?_
    exact g_sub (L' := [(2, .ref (r a2))]) [2] rfl (b37 (s8 a2 7) w5)
  · have w6 := w3.2 c
    refine g_bipush hF (v := (-2)) d_X1_putInitial_28 (by decide) ?_
    refine g_goto hF 37 d_X1_putInitial_30 (by decide) ?_
    exact g_sub (L' := [(2, .ref (r a2))]) [2] rfl (b37 ((-2) : Int32) w6)
set_option maxHeartbeats 4000000 in
set_option maxRecDepth 100000 in
theorem kt_X1_item (a : Nat → Nat) (r : Nat → Nat) {σ : St} {Q : St → Prop} (w : wk_X1_item  σ Q) (l : Launch) (D : va_G) (cy : Nat → ClassId) : Ct l D cy SC r (EC a gC) y_X1_item (Cond.code y_X1_item b_X1_item 2 none) 3 [.ref (r 8)] σ Z0 [] (QV Q) QT0 := by
  unfold wk_X1_item at w
  refine Ct_of (EC_ok a gC) (by decide) (Nat.le_of_ble_eq_true rfl) (by decide) (fun X hnn hF => ?_)
  show G SC r X σ Z0 [] [(0, .ref (r 8))] [] 0
  refine g_aload_n hF d_X1_item_0 rfl 0 rfl ?_
  refine g_get (v := .ref (r 7)) hF 5 obC_8 (by decide) m_495 rfl d_X1_item_1 ?_
  refine g_callVN (As := []) (rest := []) hF (fun l D cy => kt_X2_pop a r w l D cy) (Nat.le_of_ble_eq_true rfl) mV_X2_pop nm_1415 (recv_ob obC_7) rfl rfl (Nat.le_of_ble_eq_true rfl) d_X1_item_4 (qA (fun u4 s4 hz4 w1 => ?_))
  refine g_astore_n hF [(1, .ref (r u4)), (0, .ref (r 8))] d_X1_item_7 rfl hnn (by decide) rfl ?_
  refine g_aload_n hF d_X1_item_8 rfl 1 rfl ?_
  refine g_get (v := .int (s4 8 15)) hF 15 obC_8 (by decide) m_507 rfl d_X1_item_9 ?_
  refine g_aload_n hF d_X1_item_12 rfl 1 rfl ?_
  refine g_get (v := .int (s4 8 12)) hF 12 obC_8 (by decide) m_504 rfl d_X1_item_13 ?_
  obtain ⟨J27, h27, w2⟩ := w1
  have b27 : J27  → G SC r X s4 Z0 [] [(0, .ref (r 8))] [] 27 := by
    intro   w27_
    have w27_ := h27   w27_
    refine g_aload_n hF d_X1_item_27 rfl 0 rfl ?_
    refine g_iconst hF (v := 1) d_X1_item_28 (by decide) ?_
    refine g_putZ (v := 1) hF 16 obC_8 (by decide) m_508 rfl rfl rfl (Or.inr rfl) d_X1_item_29 ?_
    refine g_goto hF 73 d_X1_item_32 (by decide) ?_
    refine g_aload_n hF d_X1_item_73 rfl 0 rfl ?_
    refine g_dup hF d_X1_item_74 rfl ?_
    refine g_get (v := .int (s4 8 15)) hF 15 obC_8 (by decide) m_507 rfl d_X1_item_75 ?_
    refine g_iconst hF (v := 1) d_X1_item_78 (by decide) ?_
    refine g_iadd hF d_X1_item_79 ?_
    refine g_put (v := ((s4 8 15) + (1 : Int32))) hF 15 obC_8 (by decide) m_507 rfl rfl rfl d_X1_item_80 ?_
    exact g_vret hF rfl d_X1_item_83 ⟨rfl, rfl, rfl, w27_⟩
  refine g_icmp_ge hF 27 d_X1_item_16 (by decide) rfl rfl (fun c => ?_) (fun c => ?_)
  · have w3 := w2.1 c
    exact g_sub (L' := [(0, .ref (r 8))]) [1] rfl (b27  w3)
  · have w4 := w2.2 c
    refine g_aload_n hF d_X1_item_19 rfl 1 rfl ?_
    refine g_aload_n hF d_X1_item_20 rfl 0 rfl ?_
    refine g_callV (As := [.ref (r u4)]) (rest := []) hF (fun l D cy => kt_X1_suits a r hz4 w4 l D cy) (Nat.le_of_ble_eq_true rfl) mV_X1_suits m_1416 (recv_ob obC_8) rfl rfl (Nat.le_of_ble_eq_true rfl) d_X1_item_21 (qZr (fun v21 hz21 w5 => ?_)) (fun _ _ _ h => h.elim)
    refine g_if_ne hF 35 d_X1_item_24 (by decide) rfl (fun c => ?_) (fun c => ?_)
    · have w6 := w5.1 c
      refine g_aload_n hF d_X1_item_35 rfl 1 rfl ?_
      refine g_get (v := .int (s4 8 9)) hF 9 obC_8 (by decide) m_501 rfl d_X1_item_36 ?_
      refine g_if_eq hF 64 d_X1_item_39 (by decide) rfl (fun c => ?_) (fun c => ?_)
      · have w7 := w6.1 c
        refine g_aload_n hF d_X1_item_64 rfl 1 rfl ?_
        refine g_aload_n hF d_X1_item_65 rfl 1 rfl ?_
        refine g_get (v := .int (s4 8 15)) hF 15 obC_8 (by decide) m_507 rfl d_X1_item_66 ?_
        refine g_aload_n hF d_X1_item_69 rfl 0 rfl ?_
        refine g_callV (As := [.int (s4 8 15), .ref (r u4)]) (rest := []) hF (fun l D cy => kt_X1_putInitial a r hz4 w7 l D cy) (Nat.le_of_ble_eq_true rfl) mV_X1_putInitial m_1425 (recv_ob obC_8) rfl rfl (Nat.le_of_ble_eq_true rfl) d_X1_item_70 (qV (fun s70 w8 => ?_)) (fun _ _ _ h => h.elim)
        refine g_aload_n hF d_X1_item_73 rfl 1 rfl ?_
        refine g_dup hF d_X1_item_74 rfl ?_
        refine g_get (v := .int (s70 8 15)) hF 15 obC_8 (by decide) m_507 rfl d_X1_item_75 ?_
        refine g_iconst hF (v := 1) d_X1_item_78 (by decide) ?_
        refine g_iadd hF d_X1_item_79 ?_
        refine g_put (v := ((s70 8 15) + (1 : Int32))) hF 15 obC_8 (by decide) m_507 rfl rfl rfl d_X1_item_80 ?_
        exact g_vret hF rfl d_X1_item_83 ⟨rfl, rfl, rfl, w8⟩
      · have w9 := w6.2 c
        refine g_aload_n hF d_X1_item_42 rfl 1 rfl ?_
        refine g_get (v := .ref (r 4)) hF 4 obC_8 (by decide) m_493 rfl d_X1_item_43 ?_
        refine g_bipush hF (v := 16) d_X1_item_46 (by decide) ?_
        refine g_aload_n hF d_X1_item_48 rfl 1 rfl ?_
        refine g_get (v := .int (s4 8 10)) hF 10 obC_8 (by decide) m_502 rfl d_X1_item_49 ?_
        refine g_aload_n hF d_X1_item_52 rfl 1 rfl ?_
        refine g_get (v := .int (s4 8 15)) hF 15 obC_8 (by decide) m_507 rfl d_X1_item_53 ?_
        refine g_iconst hF (v := 0) d_X1_item_56 (by decide) ?_
        refine g_callVN (As := [.int 16, .int (s4 8 10), .int (s4 8 15), .int 0]) (rest := []) hF (fun l D cy => kt_X0_emit a r w9 l D cy) (Nat.le_of_ble_eq_true rfl) mV_X0_emit nm_1379 (recv_ob obC_4) rfl rfl (Nat.le_of_ble_eq_true rfl) d_X1_item_57 (qI (fun v57 s57 w10 => ?_))
        refine g_pop hF d_X1_item_60 rfl ?_
        refine g_goto hF 73 d_X1_item_61 (by decide) ?_
        refine g_aload_n hF d_X1_item_73 rfl 1 rfl ?_
        refine g_dup hF d_X1_item_74 rfl ?_
        refine g_get (v := .int (s57 8 15)) hF 15 obC_8 (by decide) m_507 rfl d_X1_item_75 ?_
        refine g_iconst hF (v := 1) d_X1_item_78 (by decide) ?_
        refine g_iadd hF d_X1_item_79 ?_
        refine g_put (v := ((s57 8 15) + (1 : Int32))) hF 15 obC_8 (by decide) m_507 rfl rfl rfl d_X1_item_80 ?_
        exact g_vret hF rfl d_X1_item_83 ⟨rfl, rfl, rfl, w10⟩
    · have w11 := w5.2 c
      exact g_sub (L' := [(0, .ref (r 8))]) [1] rfl (b27  w11)
set_option maxHeartbeats 4000000 in
set_option maxRecDepth 100000 in
theorem kt_X1_fill (a : Nat → Nat) (r : Nat → Nat) {a1 : Int32} {σ : St} {Q : St → Prop} (w : wk_X1_fill a1 σ Q) (l : Launch) (D : va_G) (cy : Nat → ClassId) : Ct l D cy SC r (EC a gC) y_X1_fill (Cond.code y_X1_fill b_X1_fill 4 none) 3 [.ref (r 8), .int a1] σ Z0 [] (QV Q) QT0 := by
  unfold wk_X1_fill at w
  refine Ct_of (EC_ok a gC) (by decide) (Nat.le_of_ble_eq_true rfl) (by decide) (fun X hnn hF => ?_)
  show G SC r X σ Z0 [] [(0, .ref (r 8)), (1, .int a1)] [] 0
  refine g_aload_n hF d_X1_fill_0 rfl 0 rfl ?_
  refine g_get (v := .ref (r 2)) hF 1 obC_8 (by decide) m_490 rfl d_X1_fill_1 ?_
  refine g_iload_n hF d_X1_fill_4 rfl 1 rfl ?_
  refine g_callVN (As := [.int a1]) (rest := []) hF (fun l D cy => kt_X10_readCodes a r w l D cy) (Nat.le_of_ble_eq_true rfl) mV_X10_readCodes nm_1436 (recv_ob obC_2) rfl rfl (Nat.le_of_ble_eq_true rfl) d_X1_fill_5 (qI (fun v5 s5 w1 => ?_))
  refine g_istore_n hF [(2, .int v5), (0, .ref (r 8)), (1, .int a1)] d_X1_fill_8 rfl hnn (by decide) rfl ?_
  refine g_aload_n hF d_X1_fill_9 rfl 1 rfl ?_
  refine g_iload_n hF d_X1_fill_10 rfl 0 rfl ?_
  refine g_aload_n hF d_X1_fill_11 rfl 1 rfl ?_
  refine g_get (v := .int (s5 8 12)) hF 12 obC_8 (by decide) m_504 rfl d_X1_fill_12 ?_
  obtain ⟨J23, h23, w2⟩ := w1
  have b23 : ∀ (y1_23 : Int32), y1_23 = 0 ∨ y1_23 = 1 → J23 y1_23 → G SC r X s5 Z0 [] [(0, .ref (r 8)), (2, .int v5)] [.int y1_23, .ref (r 8)] 23 := by
    intro y1_23 hy1_23 w23_
    have w23_ := h23 y1_23 hy1_23 w23_
    refine g_putZ (v := y1_23) hF 16 obC_8 (by decide) m_508 rfl rfl rfl hy1_23 d_X1_fill_23 ?_
    refine g_iconst hF (v := 0) d_X1_fill_26 (by decide) ?_
    refine g_istore_n hF [(3, .int 0), (0, .ref (r 8)), (2, .int v5)] d_X1_fill_27 rfl hnn (by decide) rfl ?_
    obtain ⟨L28, ⟨i28, u28⟩, h28⟩ := w23_
    have b28 : ∀ (n28 : Nat) (x3_28 : Int32) (s28 : St), L28 n28 x3_28 s28 → G SC r X s28 Z0 [] [(0, .ref (r 8)), (2, .int v5), (3, .int x3_28)] [] 28 := by
      intro n28
      induction n28 using Nat.strongRecOn with
      | _ n28 ih28 =>
        intro x3_28 s28  w28_
        have w28_ := h28 n28 x3_28 s28  w28_
        refine g_iload_n hF d_X1_fill_28 rfl 2 rfl ?_
        refine g_iload_n hF d_X1_fill_29 rfl 1 rfl ?_
        refine g_icmp_ge hF 108 d_X1_fill_30 (by decide) rfl rfl (fun c => ?_) (fun c => ?_)
        · have w3 := w28_.1 c
          exact g_vret hF rfl d_X1_fill_108 ⟨rfl, rfl, rfl, w3⟩
        · have w4 := w28_.2 c
          refine g_aload_n hF d_X1_fill_33 rfl 0 rfl ?_
          refine g_get (v := .int (s28 8 16)) hF 16 obC_8 (by decide) m_508 rfl d_X1_fill_34 ?_
          refine g_if_ne hF 108 d_X1_fill_37 (by decide) rfl (fun c => ?_) (fun c => ?_)
          · have w5 := w4.1 c
            exact g_vret hF rfl d_X1_fill_108 ⟨rfl, rfl, rfl, w5⟩
          · have w6 := w4.2 c
            refine g_aload_n hF d_X1_fill_40 rfl 0 rfl ?_
            refine g_get (v := .int (s28 8 9)) hF 9 obC_8 (by decide) m_501 rfl d_X1_fill_41 ?_
            obtain ⟨J102, h102, w7⟩ := w6
            have b102 : ∀ (s102 : St), J102 s102 → G SC r X s102 Z0 [] [(0, .ref (r 8)), (2, .int v5), (3, .int x3_28)] [] 102 := by
              intro s102  w102_
              have w102_ := h102 s102  w102_
              refine g_iinc hF (x3_28 + 1) [(3, .int (x3_28 + 1)), (0, .ref (r 8)), (2, .int v5)] d_X1_fill_102 2 rfl rfl hnn (by decide) rfl ?_
              refine g_goto hF 28 d_X1_fill_105 (by decide) ?_
              obtain ⟨m28, hm28, w9⟩ := w102_
              exact g_sub (L' := [(0, .ref (r 8)), (2, .int v5), (3, .int (x3_28 + 1))]) [1, 2, 0] rfl (ih28 m28 hm28 (x3_28 + 1) s102 w9)
            refine g_if_eq hF 76 d_X1_fill_44 (by decide) rfl (fun c => ?_) (fun c => ?_)
            · have w8 := w7.1 c
              refine g_aload_n hF d_X1_fill_76 rfl 0 rfl ?_
              refine g_get (v := .ref (r 5)) hF 3 obC_8 (by decide) m_492 rfl d_X1_fill_77 ?_
              refine g_aload_n hF d_X1_fill_80 rfl 0 rfl ?_
              refine g_get (v := .int (s28 8 14)) hF 14 obC_8 (by decide) m_506 rfl d_X1_fill_81 ?_
              refine g_iload_n hF d_X1_fill_84 rfl 2 rfl ?_
              refine g_iadd hF d_X1_fill_85 ?_
              refine g_bipush hF (v := (-2)) d_X1_fill_86 (by decide) ?_
              refine g_aload_n hF d_X1_fill_88 rfl 0 rfl ?_
              refine g_get (v := .ref (r 2)) hF 1 obC_8 (by decide) m_490 rfl d_X1_fill_89 ?_
              refine g_getN (v := .ref (r 17)) hF 9 obC_2 (by decide) nm_64 rfl d_X1_fill_92 ?_
              refine g_iload_n hF d_X1_fill_95 rfl 2 rfl ?_
              refine g_callSN (As := [.ref (r 17), .int x3_28]) (rest := [.int (-2), .int ((s28 8 14) + x3_28), .ref (r 5)]) hF (c_atv a r s28 arC_17 (by decide) x3_28) (Nat.le_of_ble_eq_true rfl) mS_X12_at nm_1356 rfl rfl (Nat.le_of_ble_eq_true rfl) d_X1_fill_96 (kQ ?_)
              refine g_top (v := (atv 200 (s28 17) x3_28)) rfl ?_
              refine g_callVN (As := [.int ((s28 8 14) + x3_28), .int (-2), .int (atv 200 (s28 17) x3_28)]) (rest := []) hF (fun l D cy => kt_X8_addInitial a r w8 l D cy) (Nat.le_of_ble_eq_true rfl) mV_X8_addInitial nm_1431 (recv_ob obC_5) rfl rfl (Nat.le_of_ble_eq_true rfl) d_X1_fill_99 (qV (fun s99 w9 => ?_))
              exact b102 s99 w9
            · have w10 := w7.2 c
              refine g_aload_n hF d_X1_fill_47 rfl 0 rfl ?_
              refine g_get (v := .ref (r 4)) hF 4 obC_8 (by decide) m_493 rfl d_X1_fill_48 ?_
              refine g_bipush hF (v := 17) d_X1_fill_51 (by decide) ?_
              refine g_aload_n hF d_X1_fill_53 rfl 0 rfl ?_
              refine g_get (v := .int (s28 8 10)) hF 10 obC_8 (by decide) m_502 rfl d_X1_fill_54 ?_
              refine g_iload_n hF d_X1_fill_57 rfl 2 rfl ?_
              refine g_aload_n hF d_X1_fill_58 rfl 0 rfl ?_
              refine g_get (v := .ref (r 2)) hF 1 obC_8 (by decide) m_490 rfl d_X1_fill_59 ?_
              refine g_getN (v := .ref (r 17)) hF 9 obC_2 (by decide) nm_64 rfl d_X1_fill_62 ?_
              refine g_iload_n hF d_X1_fill_65 rfl 2 rfl ?_
              refine g_callSN (As := [.ref (r 17), .int x3_28]) (rest := [.int x3_28, .int (s28 8 10), .int 17, .ref (r 4)]) hF (c_atv a r s28 arC_17 (by decide) x3_28) (Nat.le_of_ble_eq_true rfl) mS_X12_at nm_1356 rfl rfl (Nat.le_of_ble_eq_true rfl) d_X1_fill_66 (kQ ?_)
              refine g_top (v := (atv 200 (s28 17) x3_28)) rfl ?_
              refine g_callVN (As := [.int 17, .int (s28 8 10), .int x3_28, .int (atv 200 (s28 17) x3_28)]) (rest := []) hF (fun l D cy => kt_X0_emit a r w10 l D cy) (Nat.le_of_ble_eq_true rfl) mV_X0_emit nm_1379 (recv_ob obC_4) rfl rfl (Nat.le_of_ble_eq_true rfl) d_X1_fill_69 (qI (fun v69 s69 w11 => ?_))
              refine g_pop hF d_X1_fill_72 rfl ?_
              refine g_goto hF 102 d_X1_fill_73 (by decide) ?_
              exact b102 s69 w11
    exact g_sub (L' := [(0, .ref (r 8)), (2, .int v5), (3, .int 0)]) [1, 2, 0] rfl (b28 i28 (0 : Int32) (upC s5 8 16 y1_23) u28)
  refine g_icmp_le hF 22 d_X1_fill_15 (by decide) rfl rfl (fun c => ?_) (fun c => ?_)
  · have w12 := w2.1 c
    refine g_iconst hF (v := 0) d_X1_fill_22 (by decide) ?_
    exact g_sub (L' := [(0, .ref (r 8)), (2, .int v5)]) [1, 0] rfl (b23 (0 : Int32) (Or.inl rfl) w12)
  · have w13 := w2.2 c
    refine g_iconst hF (v := 1) d_X1_fill_18 (by decide) ?_
    refine g_goto hF 23 d_X1_fill_19 (by decide) ?_
    exact g_sub (L' := [(0, .ref (r 8)), (2, .int v5)]) [1, 0] rfl (b23 (1 : Int32) (Or.inr rfl) w13)
set_option maxHeartbeats 4000000 in
set_option maxRecDepth 100000 in
theorem kt_X1_initial (a : Nat → Nat) (r : Nat → Nat) {a1 : Int32} {a2 : Int32} {σ : St} {Q : St → Prop} (w : wk_X1_initial a1 a2 σ Q) (l : Launch) (D : va_G) (cy : Nat → ClassId) : Ct l D cy SC r (EC a gC) y_X1_initial (Cond.code y_X1_initial b_X1_initial 4 none) 3 [.ref (r 8), .int a1, .int a2] σ Z0 [] (QV Q) QT0 := by
  unfold wk_X1_initial at w
  refine Ct_of (EC_ok a gC) (by decide) (Nat.le_of_ble_eq_true rfl) (by decide) (fun X hnn hF => ?_)
  show G SC r X σ Z0 [] [(0, .ref (r 8)), (1, .int a1), (2, .int a2)] [] 0
  refine g_iload_n hF d_X1_initial_0 rfl 2 rfl ?_
  refine g_iconst hF (v := 1) d_X1_initial_1 (by decide) ?_
  obtain ⟨J89, h89, w1⟩ := w
  have b89 : ∀ (s89 : St), J89 s89 → G SC r X s89 Z0 [] [(0, .ref (r 8)), (1, .int a1)] [] 89 := by
    intro s89  w89_
    have w89_ := h89 s89  w89_
    refine g_aload_n hF d_X1_initial_89 rfl 0 rfl ?_
    refine g_get (v := .int (s89 8 16)) hF 16 obC_8 (by decide) m_508 rfl d_X1_initial_90 ?_
    obtain ⟨J103, h103, w2⟩ := w89_
    have b103 : J103  → G SC r X s89 Z0 [] [(0, .ref (r 8)), (1, .int a1)] [] 103 := by
      intro   w103_
      have w103_ := h103   w103_
      refine g_aload_n hF d_X1_initial_103 rfl 0 rfl ?_
      refine g_get (v := .ref (r 6)) hF 2 obC_8 (by decide) m_491 rfl d_X1_initial_104 ?_
      refine g_iconst hF (v := 2) d_X1_initial_107 (by decide) ?_
      refine g_iload_n hF d_X1_initial_108 rfl 1 rfl ?_
      refine g_callVN (As := [.int 2, .int a1]) (rest := []) hF (fun l D cy => kt_X11_fail a r w103_ l D cy) (Nat.le_of_ble_eq_true rfl) mV_X11_fail nm_1370 (recv_ob obC_6) rfl rfl (Nat.le_of_ble_eq_true rfl) d_X1_initial_109 (qV (fun s109 w3 => ?_))
      exact g_vret hF rfl d_X1_initial_112 ⟨rfl, rfl, rfl, w3⟩
    refine g_if_ne hF 103 d_X1_initial_93 (by decide) rfl (fun c => ?_) (fun c => ?_)
    · have w4 := w2.1 c
      exact b103  w4
    · have w5 := w2.2 c
      refine g_aload_n hF d_X1_initial_96 rfl 0 rfl ?_
      refine g_get (v := .int (s89 8 13)) hF 13 obC_8 (by decide) m_505 rfl d_X1_initial_97 ?_
      refine g_if_eq hF 112 d_X1_initial_100 (by decide) rfl (fun c => ?_) (fun c => ?_)
      · have w6 := w5.1 c
        exact g_vret hF rfl d_X1_initial_112 ⟨rfl, rfl, rfl, w6⟩
      · have w7 := w5.2 c
        exact b103  w7
  refine g_icmp_ne (yv := 1) hF 32 d_X1_initial_2 (by decide) rfl (by decide) (fun c => ?_) (fun c => ?_)
  · have w8 := w1.1 c
    refine g_iload_n hF d_X1_initial_32 rfl 2 rfl ?_
    refine g_if_ne hF 89 d_X1_initial_33 (by decide) rfl (fun c => ?_) (fun c => ?_)
    · have w9 := w8.1 c
      exact g_sub (L' := [(0, .ref (r 8)), (1, .int a1)]) [0, 1] rfl (b89 σ w9)
    · have w10 := w8.2 c
      refine g_aload_n hF d_X1_initial_36 rfl 0 rfl ?_
      refine g_get (v := .ref (r 7)) hF 5 obC_8 (by decide) m_495 rfl d_X1_initial_37 ?_
      refine g_callVN (As := []) (rest := []) hF (fun l D cy => kt_X2_pop a r w10 l D cy) (Nat.le_of_ble_eq_true rfl) mV_X2_pop nm_1415 (recv_ob obC_7) rfl rfl (Nat.le_of_ble_eq_true rfl) d_X1_initial_40 (qA (fun u40 s40 hz40 w11 => ?_))
      refine g_astore_n hF [(3, .ref (r u40)), (0, .ref (r 8)), (1, .int a1), (2, .int a2)] d_X1_initial_43 rfl hnn (by decide) rfl ?_
      refine g_aload_n hF d_X1_initial_44 rfl 1 rfl ?_
      refine g_aload_n hF d_X1_initial_45 rfl 1 rfl ?_
      refine g_get (v := .int (s40 8 12)) hF 12 obC_8 (by decide) m_504 rfl d_X1_initial_46 ?_
      refine g_iconst hF (v := (-1)) d_X1_initial_49 (by decide) ?_
      obtain ⟨J66, h66, w12⟩ := w11
      have b66 : ∀ (y1_66 : Int32), y1_66 = 0 ∨ y1_66 = 1 → J66 y1_66 → G SC r X s40 Z0 [] [(0, .ref (r 8)), (1, .int a1), (3, .ref (r u40))] [.int y1_66, .ref (r 8)] 66 := by
        intro y1_66 hy1_66 w66_
        have w66_ := h66 y1_66 hy1_66 w66_
        refine g_putZ (v := y1_66) hF 16 obC_8 (by decide) m_508 rfl rfl rfl hy1_66 d_X1_initial_66 ?_
        refine g_aload_n hF d_X1_initial_69 rfl 0 rfl ?_
        refine g_get (v := .int (s40 8 9)) hF 9 obC_8 (by decide) m_501 rfl d_X1_initial_70 ?_
        refine g_if_eq hF 83 d_X1_initial_73 (by decide) rfl (fun c => ?_) (fun c => ?_)
        · have w13 := w66_.1 c
          refine g_aload_n hF d_X1_initial_83 rfl 0 rfl ?_
          refine g_iconst hF (v := 0) d_X1_initial_84 (by decide) ?_
          refine g_aload_n hF d_X1_initial_85 rfl 2 rfl ?_
          refine g_callV (As := [.int 0, .ref (r u40)]) (rest := []) hF (fun l D cy => kt_X1_putInitial a r hz40 w13 l D cy) (Nat.le_of_ble_eq_true rfl) mV_X1_putInitial m_1425 (recv_ob obC_8) rfl rfl (Nat.le_of_ble_eq_true rfl) d_X1_initial_86 (qV (fun s86 w14 => ?_)) (fun _ _ _ h => h.elim)
          exact g_sub (L' := [(0, .ref (r 8)), (1, .int a1)]) [0, 1] rfl (b89 s86 w14)
        · have w15 := w66_.2 c
          refine g_aload_n hF d_X1_initial_76 rfl 0 rfl ?_
          refine g_callV (As := []) (rest := []) hF (fun l D cy => kt_X1_storeLocal a r w15 l D cy) (Nat.le_of_ble_eq_true rfl) mV_X1_storeLocal m_1380 (recv_ob obC_8) rfl rfl (Nat.le_of_ble_eq_true rfl) d_X1_initial_77 (qV (fun s77 w16 => ?_)) (fun _ _ _ h => h.elim)
          refine g_goto hF 89 d_X1_initial_80 (by decide) ?_
          exact g_sub (L' := [(0, .ref (r 8)), (1, .int a1)]) [0, 1] rfl (b89 s77 w16)
      obtain ⟨J61, h61, w17⟩ := w12
      have b61 : J61  → G SC r X s40 Z0 [] [(0, .ref (r 8)), (1, .int a1), (3, .ref (r u40))] [.ref (r 8)] 61 := by
        intro   w61_
        have w61_ := h61   w61_
        refine g_iconst hF (v := 1) d_X1_initial_61 (by decide) ?_
        refine g_goto hF 66 d_X1_initial_62 (by decide) ?_
        exact b66 (1 : Int32) (Or.inr rfl) w61_
      refine g_icmp_ne (yv := -1) hF 61 d_X1_initial_50 (by decide) rfl (by decide) (fun c => ?_) (fun c => ?_)
      · have w18 := w17.1 c
        exact g_sub (L' := [(0, .ref (r 8)), (1, .int a1), (3, .ref (r u40))]) [1, 2, 0] rfl (b61  w18)
      · have w19 := w17.2 c
        refine g_aload_n hF d_X1_initial_53 rfl 1 rfl ?_
        refine g_aload_n hF d_X1_initial_54 rfl 0 rfl ?_
        refine g_callV (As := [.ref (r u40)]) (rest := [.ref (r 8)]) hF (fun l D cy => kt_X1_suits a r hz40 w19 l D cy) (Nat.le_of_ble_eq_true rfl) mV_X1_suits m_1416 (recv_ob obC_8) rfl rfl (Nat.le_of_ble_eq_true rfl) d_X1_initial_55 (qZr (fun v55 hz55 w20 => ?_)) (fun _ _ _ h => h.elim)
        refine g_if_ne hF 65 d_X1_initial_58 (by decide) rfl (fun c => ?_) (fun c => ?_)
        · have w21 := w20.1 c
          refine g_iconst hF (v := 0) d_X1_initial_65 (by decide) ?_
          exact g_sub (L' := [(0, .ref (r 8)), (1, .int a1), (3, .ref (r u40))]) [1, 2, 0] rfl (b66 (0 : Int32) (Or.inl rfl) w21)
        · have w22 := w20.2 c
          exact g_sub (L' := [(0, .ref (r 8)), (1, .int a1), (3, .ref (r u40))]) [1, 2, 0] rfl (b61  w22)
  · have w23 := w1.2 c
    refine g_aload_n hF d_X1_initial_5 rfl 0 rfl ?_
    refine g_aload_n hF d_X1_initial_6 rfl 0 rfl ?_
    refine g_get (v := .int (σ 8 16)) hF 16 obC_8 (by decide) m_508 rfl d_X1_initial_7 ?_
    obtain ⟨J26, h26, w24⟩ := w23
    have b26 : ∀ (y1_26 : Int32), y1_26 = 0 ∨ y1_26 = 1 → J26 y1_26 → G SC r X σ Z0 [] [(0, .ref (r 8)), (1, .int a1)] [.int y1_26, .ref (r 8)] 26 := by
      intro y1_26 hy1_26 w26_
      have w26_ := h26 y1_26 hy1_26 w26_
      refine g_putZ (v := y1_26) hF 16 obC_8 (by decide) m_508 rfl rfl rfl hy1_26 d_X1_initial_26 ?_
      refine g_goto hF 89 d_X1_initial_29 (by decide) ?_
      exact b89 (upC σ 8 16 y1_26) w26_
    obtain ⟨J21, h21, w25⟩ := w24
    have b21 : J21  → G SC r X σ Z0 [] [(0, .ref (r 8)), (1, .int a1)] [.ref (r 8)] 21 := by
      intro   w21_
      have w21_ := h21   w21_
      refine g_iconst hF (v := 1) d_X1_initial_21 (by decide) ?_
      refine g_goto hF 26 d_X1_initial_22 (by decide) ?_
      exact b26 (1 : Int32) (Or.inr rfl) w21_
    refine g_if_ne hF 21 d_X1_initial_10 (by decide) rfl (fun c => ?_) (fun c => ?_)
    · have w26 := w25.1 c
      exact g_sub (L' := [(0, .ref (r 8)), (1, .int a1)]) [0, 1] rfl (b21  w26)
    · have w27 := w25.2 c
      refine g_aload_n hF d_X1_initial_13 rfl 0 rfl ?_
      refine g_get (v := .int (σ 8 12)) hF 12 obC_8 (by decide) m_504 rfl d_X1_initial_14 ?_
      refine g_iconst hF (v := (-1)) d_X1_initial_17 (by decide) ?_
      refine g_icmp_ne (yv := -1) hF 25 d_X1_initial_18 (by decide) rfl (by decide) (fun c => ?_) (fun c => ?_)
      · have w28 := w27.1 c
        refine g_iconst hF (v := 0) d_X1_initial_25 (by decide) ?_
        exact g_sub (L' := [(0, .ref (r 8)), (1, .int a1)]) [0, 1] rfl (b26 (0 : Int32) (Or.inl rfl) w28)
      · have w29 := w27.2 c
        exact g_sub (L' := [(0, .ref (r 8)), (1, .int a1)]) [0, 1] rfl (b21  w29)
set_option maxHeartbeats 4000000 in
set_option maxRecDepth 100000 in
theorem kt_X0_header (a : Nat → Nat) (r : Nat → Nat) {σ : St} {Q : Int32 → St → Prop} (w : wk_X0_header  σ Q) (l : Launch) (D : va_G) (cy : Nat → ClassId) : Ct l D cy SC r (EC a gC) y_X0_header (Cond.code y_X0_header b_X0_header 2 (some .int)) 0 [.ref (r 4)] σ Z0 [] (QI Q) QT0 := by
  unfold wk_X0_header at w
  refine Ct_of (EC_ok a gC) (by decide) (Nat.le_of_ble_eq_true rfl) (by decide) (fun X hnn hF => ?_)
  show G SC r X σ Z0 [] [(0, .ref (r 4))] [] 0
  refine g_aload_n hF d_X0_header_0 rfl 0 rfl ?_
  refine g_get (v := .int (σ 4 1)) hF 1 obC_4 (by decide) m_152 rfl d_X0_header_1 ?_
  refine g_istore_n hF [(1, .int (σ 4 1)), (0, .ref (r 4))] d_X0_header_4 rfl hnn (by decide) rfl ?_
  refine g_aload_n hF d_X0_header_5 rfl 1 rfl ?_
  refine g_dup hF d_X0_header_6 rfl ?_
  refine g_get (v := .int (σ 4 1)) hF 1 obC_4 (by decide) m_152 rfl d_X0_header_7 ?_
  refine g_iload_n hF d_X0_header_10 rfl 0 rfl ?_
  refine g_aload_n hF d_X0_header_11 rfl 1 rfl ?_
  refine g_get (v := .ref (r 24)) hF 0 obC_4 (by decide) m_149 rfl d_X0_header_12 ?_
  refine g_alen hF arC_24 (fun _ => ⟨1, _, rfl⟩) (v := 262208) (by decide) d_X0_header_15 ?_
  refine g_iconst hF (v := 4) d_X0_header_16 (by decide) ?_
  refine g_isub hF d_X0_header_17 ?_
  refine g_top (v := 262204) (by decide) ?_
  refine g_icmp_ge (yv := 262204) hF 25 d_X0_header_18 (by decide) rfl (by decide) (fun c => ?_) (fun c => ?_)
  · have w1 := w.1 c
    refine g_iconst hF (v := 0) d_X0_header_25 (by decide) ?_
    refine g_iadd hF d_X0_header_26 ?_
    refine g_put (v := ((σ 4 1) + (0 : Int32))) hF 1 obC_4 (by decide) m_152 rfl rfl rfl d_X0_header_27 ?_
    refine g_iload_n hF d_X0_header_30 rfl 0 rfl ?_
    exact g_iret hF rfl d_X0_header_31 ⟨rfl, rfl, (σ 4 1), rfl, w1⟩
  · have w2 := w.2 c
    refine g_iconst hF (v := 4) d_X0_header_21 (by decide) ?_
    refine g_goto hF 26 d_X0_header_22 (by decide) ?_
    refine g_iadd hF d_X0_header_26 ?_
    refine g_put (v := ((σ 4 1) + (4 : Int32))) hF 1 obC_4 (by decide) m_152 rfl rfl rfl d_X0_header_27 ?_
    refine g_iload_n hF d_X0_header_30 rfl 0 rfl ?_
    exact g_iret hF rfl d_X0_header_31 ⟨rfl, rfl, (σ 4 1), rfl, w2⟩
set_option maxHeartbeats 4000000 in
set_option maxRecDepth 100000 in
theorem kt_X11_open (a : Nat → Nat) (r : Nat → Nat) {σ : St} {Q : St → Prop} (w : wk_X11_open  σ Q) (l : Launch) (D : va_G) (cy : Nat → ClassId) : Ct l D cy SC r (EC a gC) y_X11_open (Cond.code y_X11_open b_X11_open 1 none) 1 [.ref (r 6)] σ Z0 [] (QV Q) QT0 := by
  unfold wk_X11_open at w
  refine Ct_of (EC_ok a gC) (by decide) (Nat.le_of_ble_eq_true rfl) (by decide) (fun X hnn hF => ?_)
  show G SC r X σ Z0 [] [(0, .ref (r 6))] [] 0
  refine g_aload_n hF d_X11_open_0 rfl 0 rfl ?_
  refine g_get (v := .ref (r 45)) hF 18 obC_6 (by decide) m_345 rfl d_X11_open_1 ?_
  refine g_aload_n hF d_X11_open_4 rfl 0 rfl ?_
  refine g_get (v := .int (σ 6 17)) hF 17 obC_6 (by decide) m_344 rfl d_X11_open_5 ?_
  refine g_aload_n hF d_X11_open_8 rfl 0 rfl ?_
  refine g_get (v := .int (σ 6 15)) hF 15 obC_6 (by decide) m_342 rfl d_X11_open_9 ?_
  refine g_callSN (As := [.ref (r 45), .int (σ 6 17), .int (σ 6 15)]) (rest := []) hF (c_setv a r σ arC_45 (by decide) (σ 6 17) (σ 6 15)) (Nat.le_of_ble_eq_true rfl) mS_X12_set nm_1151 rfl rfl (Nat.le_of_ble_eq_true rfl) d_X11_open_12 (kU ?_)
  refine g_aload_n hF d_X11_open_15 rfl 0 rfl ?_
  refine g_dup hF d_X11_open_16 rfl ?_
  refine g_get (v := .int (σ 6 17)) hF 17 obC_6 (by decide) m_344 rfl d_X11_open_17 ?_
  refine g_iconst hF (v := 1) d_X11_open_20 (by decide) ?_
  refine g_iadd hF d_X11_open_21 ?_
  refine g_put (v := ((σ 6 17) + (1 : Int32))) hF 17 obC_6 (by decide) m_344 rfl rfl rfl d_X11_open_22 ?_
  exact g_vret hF rfl d_X11_open_25 ⟨rfl, rfl, rfl, w⟩
