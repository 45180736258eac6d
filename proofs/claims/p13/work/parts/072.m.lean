set_option maxHeartbeats 4000000 in
set_option maxRecDepth 100000 in
theorem kt_X1_take (a : Nat → Nat) (r : Nat → Nat) {a1 : Int32} {a2 : Int32} {σ : St} {Q : St → Prop} (w : wk_X1_take a1 a2 σ Q) (l : Launch) (D : va_G) (cy : Nat → ClassId) : Ct l D cy SC r (EC a gC) y_X1_take (Cond.code y_X1_take b_X1_take 6 none) 5 [.ref (r 8), .int a1, .int a2] σ Z0 [] (QV Q) QT0 := by
  unfold wk_X1_take at w
  refine Ct_of (EC_ok a gC) (by decide) (Nat.le_of_ble_eq_true rfl) (by decide) (fun X hnn hF => ?_)
  show G SC r X σ Z0 [] [(0, .ref (r 8)), (1, .int a1), (2, .int a2)] [] 0
  refine g_aload_n hF d_X1_take_0 rfl 0 rfl ?_
  refine g_get (v := .ref (r 3)) hF 0 obC_8 (by decide) m_489 rfl d_X1_take_1 ?_
  refine g_getN (v := .ref (r 19)) hF 6 obC_3 (by decide) nm_106 rfl d_X1_take_4 ?_
  refine g_iload_n hF d_X1_take_7 rfl 2 rfl ?_
  refine g_callSN (As := [.ref (r 19), .int a2]) (rest := []) hF (c_atv a r σ arC_19 (by decide) a2) (Nat.le_of_ble_eq_true rfl) mS_X12_at nm_1356 rfl rfl (Nat.le_of_ble_eq_true rfl) d_X1_take_8 (kQ ?_)
  refine g_top (v := (atv 32100 (σ 19) a2)) rfl ?_
  refine g_istore_n hF [(3, .int (atv 32100 (σ 19) a2)), (0, .ref (r 8)), (1, .int a1), (2, .int a2)] d_X1_take_11 rfl hnn (by decide) rfl ?_
  refine g_aload_n hF d_X1_take_12 rfl 1 rfl ?_
  refine g_get (v := .ref (r 3)) hF 0 obC_8 (by decide) m_489 rfl d_X1_take_13 ?_
  refine g_getN (v := .ref (r 20)) hF 7 obC_3 (by decide) nm_111 rfl d_X1_take_16 ?_
  refine g_iload_n hF d_X1_take_19 rfl 3 rfl ?_
  refine g_callSN (As := [.ref (r 20), .int a2]) (rest := []) hF (c_atv a r σ arC_20 (by decide) a2) (Nat.le_of_ble_eq_true rfl) mS_X12_at nm_1356 rfl rfl (Nat.le_of_ble_eq_true rfl) d_X1_take_20 (kQ ?_)
  refine g_top (v := (atv 32100 (σ 20) a2)) rfl ?_
  refine g_istore hF [(4, .int (atv 32100 (σ 20) a2)), (3, .int (atv 32100 (σ 19) a2)), (0, .ref (r 8)), (1, .int a1), (2, .int a2)] d_X1_take_23 hnn (by decide) rfl ?_
  refine g_aload_n hF d_X1_take_25 rfl 2 rfl ?_
  refine g_get (v := .ref (r 3)) hF 0 obC_8 (by decide) m_489 rfl d_X1_take_26 ?_
  refine g_getN (v := .ref (r 21)) hF 8 obC_3 (by decide) nm_113 rfl d_X1_take_29 ?_
  refine g_iload_n hF d_X1_take_32 rfl 4 rfl ?_
  refine g_callSN (As := [.ref (r 21), .int a2]) (rest := []) hF (c_atv a r σ arC_21 (by decide) a2) (Nat.le_of_ble_eq_true rfl) mS_X12_at nm_1356 rfl rfl (Nat.le_of_ble_eq_true rfl) d_X1_take_33 (kQ ?_)
  refine g_top (v := (atv 32100 (σ 21) a2)) rfl ?_
  refine g_istore hF [(5, .int (atv 32100 (σ 21) a2)), (4, .int (atv 32100 (σ 20) a2)), (3, .int (atv 32100 (σ 19) a2)), (0, .ref (r 8)), (1, .int a1), (2, .int a2)] d_X1_take_36 hnn (by decide) rfl ?_
  refine g_iload_n hF d_X1_take_38 rfl 4 rfl ?_
  refine (Decidable.em (a1.toInt = 42)).elim (fun q39_0 => ?_) (fun q39_0 => ?_)
  · have w1 := w.1 q39_0
    refine g_tableIn (off := 41) hF 80 d_X1_take_39 q39_0 (by decide) (by decide) (by decide +kernel) (by decide) ?_
    refine g_aload_n hF d_X1_take_80 rfl 3 rfl ?_
    refine g_iload_n hF d_X1_take_81 rfl 2 rfl ?_
    refine g_put (v := (atv 32100 (σ 19) a2)) hF 6 obC_8 (by decide) m_497 rfl rfl rfl d_X1_take_82 ?_
    refine g_aload_n hF d_X1_take_85 rfl 3 rfl ?_
    refine g_iload hF d_X1_take_86 1 rfl ?_
    refine g_if_eq hF 98 d_X1_take_88 (by decide) rfl (fun c => ?_) (fun c => ?_)
    · have w2 := w1.1 c
      refine g_iload hF d_X1_take_98 0 rfl ?_
      refine g_if_le hF 108 d_X1_take_100 (by decide) rfl (fun c => ?_) (fun c => ?_)
      · have w3 := w2.1 c
        refine g_iconst hF (v := (-1)) d_X1_take_108 (by decide) ?_
        refine g_put (v := (-1)) hF 7 obC_8 (by decide) m_498 rfl rfl rfl d_X1_take_109 ?_
        refine g_goto hF 178 d_X1_take_112 (by decide) ?_
        exact g_vret hF rfl d_X1_take_178 ⟨rfl, rfl, rfl, w3⟩
      · have w4 := w2.2 c
        refine g_iload hF d_X1_take_103 0 rfl ?_
        refine g_goto hF 109 d_X1_take_105 (by decide) ?_
        refine g_put (v := (atv 32100 (σ 21) a2)) hF 7 obC_8 (by decide) m_498 rfl rfl rfl d_X1_take_109 ?_
        refine g_goto hF 178 d_X1_take_112 (by decide) ?_
        exact g_vret hF rfl d_X1_take_178 ⟨rfl, rfl, rfl, w4⟩
    · have w5 := w1.2 c
      refine g_aload_n hF d_X1_take_91 rfl 3 rfl ?_
      refine g_get (v := .int (σ 8 8)) hF 8 obC_8 (by decide) m_499 rfl d_X1_take_92 ?_
      refine g_goto hF 109 d_X1_take_95 (by decide) ?_
      refine g_put (v := (σ 8 8)) hF 7 obC_8 (by decide) m_498 rfl rfl rfl d_X1_take_109 ?_
      refine g_goto hF 178 d_X1_take_112 (by decide) ?_
      exact g_vret hF rfl d_X1_take_178 ⟨rfl, rfl, rfl, w5⟩
  have w6 := w.2 q39_0
  refine (Decidable.em (a1.toInt = 43)).elim (fun q39_1 => ?_) (fun q39_1 => ?_)
  · have w7 := w6.1 q39_1
    refine g_tableIn (off := 76) hF 115 d_X1_take_39 q39_1 (by decide) (by decide) (by decide +kernel) (by decide) ?_
    refine g_aload_n hF d_X1_take_115 rfl 3 rfl ?_
    refine g_iload_n hF d_X1_take_116 rfl 2 rfl ?_
    refine g_iload hF d_X1_take_117 1 rfl ?_
    refine g_iload hF d_X1_take_119 0 rfl ?_
    refine g_callV (As := [.int (atv 32100 (σ 19) a2), .int (atv 32100 (σ 20) a2), .int (atv 32100 (σ 21) a2)]) (rest := []) hF (fun l D cy => kt_X1_variable a r w7 l D cy) (Nat.le_of_ble_eq_true rfl) mV_X1_variable m_1357 (recv_ob obC_8) rfl rfl (Nat.le_of_ble_eq_true rfl) d_X1_take_121 (qV (fun s121 w8 => ?_)) (fun _ _ _ h => h.elim)
    refine g_goto hF 178 d_X1_take_124 (by decide) ?_
    exact g_vret hF rfl d_X1_take_178 ⟨rfl, rfl, rfl, w8⟩
  have w9 := w6.2 q39_1
  refine (Decidable.em (a1.toInt = 44)).elim (fun q39_2 => ?_) (fun q39_2 => ?_)
  · have w10 := w9.1 q39_2
    refine g_tableIn (off := 88) hF 127 d_X1_take_39 q39_2 (by decide) (by decide) (by decide +kernel) (by decide) ?_
    refine g_aload_n hF d_X1_take_127 rfl 3 rfl ?_
    refine g_callV (As := []) (rest := []) hF (fun l D cy => kt_X1_item a r w10 l D cy) (Nat.le_of_ble_eq_true rfl) mV_X1_item m_1411 (recv_ob obC_8) rfl rfl (Nat.le_of_ble_eq_true rfl) d_X1_take_128 (qV (fun s128 w11 => ?_)) (fun _ _ _ h => h.elim)
    refine g_goto hF 178 d_X1_take_131 (by decide) ?_
    exact g_vret hF rfl d_X1_take_178 ⟨rfl, rfl, rfl, w11⟩
  have w12 := w9.2 q39_2
  refine (Decidable.em (a1.toInt = 45)).elim (fun q39_3 => ?_) (fun q39_3 => ?_)
  · have w13 := w12.1 q39_3
    refine g_tableIn (off := 95) hF 134 d_X1_take_39 q39_3 (by decide) (by decide) (by decide +kernel) (by decide) ?_
    refine g_aload_n hF d_X1_take_134 rfl 3 rfl ?_
    refine g_iload_n hF d_X1_take_135 rfl 2 rfl ?_
    refine g_callV (As := [.int (atv 32100 (σ 19) a2)]) (rest := []) hF (fun l D cy => kt_X1_fill a r w13 l D cy) (Nat.le_of_ble_eq_true rfl) mV_X1_fill m_1432 (recv_ob obC_8) rfl rfl (Nat.le_of_ble_eq_true rfl) d_X1_take_136 (qV (fun s136 w14 => ?_)) (fun _ _ _ h => h.elim)
    refine g_goto hF 178 d_X1_take_139 (by decide) ?_
    exact g_vret hF rfl d_X1_take_178 ⟨rfl, rfl, rfl, w14⟩
  have w15 := w12.2 q39_3
  refine (Decidable.em (a1.toInt = 46)).elim (fun q39_4 => ?_) (fun q39_4 => ?_)
  · have w16 := w15.1 q39_4
    refine g_tableIn (off := 103) hF 142 d_X1_take_39 q39_4 (by decide) (by decide) (by decide +kernel) (by decide) ?_
    refine g_aload_n hF d_X1_take_142 rfl 3 rfl ?_
    refine g_iload_n hF d_X1_take_143 rfl 2 rfl ?_
    refine g_iload hF d_X1_take_144 1 rfl ?_
    refine g_callV (As := [.int (atv 32100 (σ 19) a2), .int (atv 32100 (σ 20) a2)]) (rest := []) hF (fun l D cy => kt_X1_initial a r w16 l D cy) (Nat.le_of_ble_eq_true rfl) mV_X1_initial m_1437 (recv_ob obC_8) rfl rfl (Nat.le_of_ble_eq_true rfl) d_X1_take_146 (qV (fun s146 w17 => ?_)) (fun _ _ _ h => h.elim)
    refine g_goto hF 178 d_X1_take_149 (by decide) ?_
    exact g_vret hF rfl d_X1_take_178 ⟨rfl, rfl, rfl, w17⟩
  have w18 := w15.2 q39_4
  refine (Decidable.em (a1.toInt = 47)).elim (fun q39_5 => ?_) (fun q39_5 => ?_)
  · have w19 := w18.1 q39_5
    refine g_tableIn (off := 113) hF 152 d_X1_take_39 q39_5 (by decide) (by decide) (by decide +kernel) (by decide) ?_
    refine g_aload_n hF d_X1_take_152 rfl 3 rfl ?_
    refine g_iload_n hF d_X1_take_153 rfl 2 rfl ?_
    refine g_iload hF d_X1_take_154 1 rfl ?_
    refine g_iload hF d_X1_take_156 0 rfl ?_
    refine g_callV (As := [.int (atv 32100 (σ 19) a2), .int (atv 32100 (σ 20) a2), .int (atv 32100 (σ 21) a2)]) (rest := []) hF (fun l D cy => kt_X1_function a r w19 l D cy) (Nat.le_of_ble_eq_true rfl) mV_X1_function m_1441 (recv_ob obC_8) rfl rfl (Nat.le_of_ble_eq_true rfl) d_X1_take_158 (qV (fun s158 w20 => ?_)) (fun _ _ _ h => h.elim)
    refine g_goto hF 178 d_X1_take_161 (by decide) ?_
    exact g_vret hF rfl d_X1_take_178 ⟨rfl, rfl, rfl, w20⟩
  have w21 := w18.2 q39_5
  refine (Decidable.em (a1.toInt = 48)).elim (fun q39_6 => ?_) (fun q39_6 => ?_)
  · have w22 := w21.1 q39_6
    refine g_tableIn (off := 125) hF 164 d_X1_take_39 q39_6 (by decide) (by decide) (by decide +kernel) (by decide) ?_
    refine g_aload_n hF d_X1_take_164 rfl 3 rfl ?_
    refine g_iload_n hF d_X1_take_165 rfl 2 rfl ?_
    refine g_iload hF d_X1_take_166 1 rfl ?_
    refine g_callV (As := [.int (atv 32100 (σ 19) a2), .int (atv 32100 (σ 20) a2)]) (rest := []) hF (fun l D cy => kt_X1_parameter a r w22 l D cy) (Nat.le_of_ble_eq_true rfl) mV_X1_parameter m_1454 (recv_ob obC_8) rfl rfl (Nat.le_of_ble_eq_true rfl) d_X1_take_168 (qV (fun s168 w23 => ?_)) (fun _ _ _ h => h.elim)
    refine g_goto hF 178 d_X1_take_171 (by decide) ?_
    exact g_vret hF rfl d_X1_take_178 ⟨rfl, rfl, rfl, w23⟩
  have w24 := w21.2 q39_6
  refine g_tableOut hF 174 d_X1_take_39 rfl (tbo_42_48 q39_0 q39_1 q39_2 q39_3 q39_4 q39_5 q39_6) (by decide) ?_
  refine g_aload_n hF d_X1_take_174 rfl 3 rfl ?_
  refine g_callV (As := []) (rest := []) hF (fun l D cy => kt_X1_functionEnd a r w24 l D cy) (Nat.le_of_ble_eq_true rfl) mV_X1_functionEnd m_1458 (recv_ob obC_8) rfl rfl (Nat.le_of_ble_eq_true rfl) d_X1_take_175 (qV (fun s175 w25 => ?_)) (fun _ _ _ h => h.elim)
  exact g_vret hF rfl d_X1_take_178 ⟨rfl, rfl, rfl, w25⟩
set_option maxHeartbeats 4000000 in
set_option maxRecDepth 100000 in
theorem kt_X7_jumpBack (a : Nat → Nat) (r : Nat → Nat) {a1 : Int32} {σ : St} {Q : St → Prop} (w : wk_X7_jumpBack a1 σ Q) (l : Launch) (D : va_G) (cy : Nat → ClassId) : Ct l D cy SC r (EC a gC) y_X7_jumpBack (Cond.code y_X7_jumpBack b_X7_jumpBack 2 none) 1 [.ref (r 9), .int a1] σ Z0 [] (QV Q) QT0 := by
  unfold wk_X7_jumpBack at w
  refine Ct_of (EC_ok a gC) (by decide) (Nat.le_of_ble_eq_true rfl) (by decide) (fun X hnn hF => ?_)
  show G SC r X σ Z0 [] [(0, .ref (r 9)), (1, .int a1)] [] 0
  refine g_aload_n hF d_X7_jumpBack_0 rfl 0 rfl ?_
  refine g_get (v := .ref (r 4)) hF 2 obC_9 (by decide) m_555 rfl d_X7_jumpBack_1 ?_
  refine g_bipush hF (v := 26) d_X7_jumpBack_4 (by decide) ?_
  refine g_iload_n hF d_X7_jumpBack_6 rfl 1 rfl ?_
  refine g_iconst hF (v := 0) d_X7_jumpBack_7 (by decide) ?_
  refine g_iconst hF (v := 0) d_X7_jumpBack_8 (by decide) ?_
  refine g_callVN (As := [.int 26, .int a1, .int 0, .int 0]) (rest := []) hF (fun l D cy => kt_X0_emit a r w l D cy) (Nat.le_of_ble_eq_true rfl) mV_X0_emit nm_1298 (recv_ob obC_4) rfl rfl (Nat.le_of_ble_eq_true rfl) d_X7_jumpBack_9 (qI (fun v9 s9 w1 => ?_))
  refine g_pop hF d_X7_jumpBack_12 rfl ?_
  exact g_vret hF rfl d_X7_jumpBack_13 ⟨rfl, rfl, rfl, w1⟩
set_option maxHeartbeats 4000000 in
set_option maxRecDepth 100000 in
theorem kt_X7_finish (a : Nat → Nat) (r : Nat → Nat) {σ : St} {Q : St → Prop} (w : wk_X7_finish  σ Q) (l : Launch) (D : va_G) (cy : Nat → ClassId) : Ct l D cy SC r (EC a gC) y_X7_finish (Cond.code y_X7_finish b_X7_finish 1 none) 2 [.ref (r 9)] σ Z0 [] (QV Q) QT0 := by
  unfold wk_X7_finish at w
  refine Ct_of (EC_ok a gC) (by decide) (Nat.le_of_ble_eq_true rfl) (by decide) (fun X hnn hF => ?_)
  show G SC r X σ Z0 [] [(0, .ref (r 9))] [] 0
  refine g_aload_n hF d_X7_finish_0 rfl 0 rfl ?_
  refine g_dup hF d_X7_finish_1 rfl ?_
  refine g_get (v := .int (σ 9 5)) hF 5 obC_9 (by decide) m_558 rfl d_X7_finish_2 ?_
  refine g_iconst hF (v := 1) d_X7_finish_5 (by decide) ?_
  refine g_isub hF d_X7_finish_6 ?_
  refine g_put (v := ((σ 9 5) - (1 : Int32))) hF 5 obC_9 (by decide) m_558 rfl rfl rfl d_X7_finish_7 ?_
  refine g_aload_n hF d_X7_finish_10 rfl 0 rfl ?_
  refine g_get (v := .ref (r 4)) hF 2 obC_9 (by decide) m_555 rfl d_X7_finish_11 ?_
  refine g_aload_n hF d_X7_finish_14 rfl 0 rfl ?_
  refine g_get (v := .ref (r 51)) hF 8 obC_9 (by decide) m_561 rfl d_X7_finish_15 ?_
  refine g_aload_n hF d_X7_finish_18 rfl 0 rfl ?_
  refine g_get (v := .int ((σ 9 5) - (1 : Int32))) hF 5 obC_9 (by decide) m_558 rfl d_X7_finish_19 ?_
  refine g_callSN (As := [.ref (r 51), .int ((σ 9 5) - (1 : Int32))]) (rest := [.ref (r 4)]) hF (c_atv a r (upC σ 9 5 ((σ 9 5) - (1 : Int32))) arC_51 (by decide) ((σ 9 5) - (1 : Int32))) (Nat.le_of_ble_eq_true rfl) mS_X12_at nm_1053 rfl rfl (Nat.le_of_ble_eq_true rfl) d_X7_finish_22 (kQ ?_)
  refine g_top (v := (atv 26 (σ 51) ((σ 9 5) - (1 : Int32)))) rfl ?_
  refine g_aload_n hF d_X7_finish_25 rfl 0 rfl ?_
  refine g_get (v := .ref (r 4)) hF 2 obC_9 (by decide) m_555 rfl d_X7_finish_26 ?_
  refine g_getN (v := .int (σ 4 1)) hF 1 obC_4 (by decide) nm_154 rfl d_X7_finish_29 ?_
  refine g_callVN (As := [.int (atv 26 (σ 51) ((σ 9 5) - (1 : Int32))), .int (σ 4 1)]) (rest := []) hF (fun l D cy => kt_X0_aim a r w l D cy) (Nat.le_of_ble_eq_true rfl) mV_X0_aim nm_1318 (recv_ob obC_4) rfl rfl (Nat.le_of_ble_eq_true rfl) d_X7_finish_32 (qV (fun s32 w1 => ?_))
  exact g_vret hF rfl d_X7_finish_35 ⟨rfl, rfl, rfl, w1⟩
set_option maxHeartbeats 4000000 in
set_option maxRecDepth 100000 in
theorem kt_X7_turn (a : Nat → Nat) (r : Nat → Nat) {a1 : Int32} {σ : St} {Q : St → Prop} (w : wk_X7_turn a1 σ Q) (l : Launch) (D : va_G) (cy : Nat → ClassId) : Ct l D cy SC r (EC a gC) y_X7_turn (Cond.code y_X7_turn b_X7_turn 2 none) 1 [.ref (r 9), .int a1] σ Z0 [] (QV Q) QT0 := by
  unfold wk_X7_turn at w
  refine Ct_of (EC_ok a gC) (by decide) (Nat.le_of_ble_eq_true rfl) (by decide) (fun X hnn hF => ?_)
  show G SC r X σ Z0 [] [(0, .ref (r 9)), (1, .int a1)] [] 0
  refine g_aload_n hF d_X7_turn_0 rfl 0 rfl ?_
  refine g_get (v := .ref (r 4)) hF 2 obC_9 (by decide) m_555 rfl d_X7_turn_1 ?_
  refine g_bipush hF (v := 31) d_X7_turn_4 (by decide) ?_
  refine g_aload_n hF d_X7_turn_6 rfl 0 rfl ?_
  refine g_get (v := .ref (r 6)) hF 1 obC_9 (by decide) m_554 rfl d_X7_turn_7 ?_
  refine g_getN (v := .ref (r 2)) hF 0 obC_6 (by decide) nm_306 rfl d_X7_turn_10 ?_
  refine g_getN (v := .ref (r 16)) hF 8 obC_2 (by decide) nm_61 rfl d_X7_turn_13 ?_
  refine g_iload_n hF d_X7_turn_16 rfl 1 rfl ?_
  refine g_callSN (As := [.ref (r 16), .int a1]) (rest := [.int 31, .ref (r 4)]) hF (c_atv a r σ arC_16 (by decide) a1) (Nat.le_of_ble_eq_true rfl) mS_X12_at nm_1053 rfl rfl (Nat.le_of_ble_eq_true rfl) d_X7_turn_17 (kQ ?_)
  refine g_top (v := (atv 16002 (σ 16) a1)) rfl ?_
  refine g_iconst hF (v := 0) d_X7_turn_20 (by decide) ?_
  refine g_iconst hF (v := 0) d_X7_turn_21 (by decide) ?_
  refine g_callVN (As := [.int 31, .int (atv 16002 (σ 16) a1), .int 0, .int 0]) (rest := []) hF (fun l D cy => kt_X0_emit a r w l D cy) (Nat.le_of_ble_eq_true rfl) mV_X0_emit nm_1298 (recv_ob obC_4) rfl rfl (Nat.le_of_ble_eq_true rfl) d_X7_turn_22 (qI (fun v22 s22 w1 => ?_))
  refine g_pop hF d_X7_turn_25 rfl ?_
  exact g_vret hF rfl d_X7_turn_26 ⟨rfl, rfl, rfl, w1⟩
set_option maxHeartbeats 4000000 in
set_option maxRecDepth 100000 in
theorem kt_X7_condition (a : Nat → Nat) (r : Nat → Nat) {a1 : Int32} {σ : St} {Q : Nat → St → Prop} (w : wk_X7_condition a1 σ Q) (l : Launch) (D : va_G) (cy : Nat → ClassId) : Ct l D cy SC r (EC a gC) y_X7_condition (Cond.code y_X7_condition b_X7_condition 3 (some (.object "LinkedUnits$Operand"))) 3 [.ref (r 9), .int a1] σ Z0 [] (QA r (fun q σ9 => isOp q ∧ Q q σ9)) QT0 := by
  unfold wk_X7_condition at w
  refine Ct_of (EC_ok a gC) (by decide) (Nat.le_of_ble_eq_true rfl) (by decide) (fun X hnn hF => ?_)
  show G SC r X σ Z0 [] [(0, .ref (r 9)), (1, .int a1)] [] 0
  refine g_aload_n hF d_X7_condition_0 rfl 0 rfl ?_
  refine g_get (v := .ref (r 7)) hF 3 obC_9 (by decide) m_556 rfl d_X7_condition_1 ?_
  refine g_callVN (As := []) (rest := []) hF (fun l D cy => kt_X2_pop a r w l D cy) (Nat.le_of_ble_eq_true rfl) mV_X2_pop nm_1297 (recv_ob obC_7) rfl rfl (Nat.le_of_ble_eq_true rfl) d_X7_condition_4 (qA (fun u4 s4 hz4 w1 => ?_))
  refine g_astore_n hF [(2, .ref (r u4)), (0, .ref (r 9)), (1, .int a1)] d_X7_condition_7 rfl hnn (by decide) rfl ?_
  refine g_aload_n hF d_X7_condition_8 rfl 0 rfl ?_
  refine g_getN (v := .int (s4 u4 1)) hF 1 (obC_op hz4) (by decide) nm_401 (fval_op hz4) d_X7_condition_9 ?_
  refine g_iconst hF (v := (-1)) d_X7_condition_12 (by decide) ?_
  refine g_icmp_ne (yv := -1) hF 25 d_X7_condition_13 (by decide) rfl (by decide) (fun c => ?_) (fun c => ?_)
  · have w2 := w1.1 c
    refine g_aload_n hF d_X7_condition_25 rfl 0 rfl ?_
    exact g_aret hF rfl d_X7_condition_26 ⟨rfl, rfl, u4, rfl, hz4, w2⟩
  · have w3 := w1.2 c
    refine g_aload_n hF d_X7_condition_16 rfl 1 rfl ?_
    refine g_get (v := .ref (r 6)) hF 1 obC_9 (by decide) m_554 rfl d_X7_condition_17 ?_
    refine g_iconst hF (v := 2) d_X7_condition_20 (by decide) ?_
    refine g_iload_n hF d_X7_condition_21 rfl 2 rfl ?_
    refine g_callVN (As := [.int 2, .int a1]) (rest := []) hF (fun l D cy => kt_X11_fail a r w3 l D cy) (Nat.le_of_ble_eq_true rfl) mV_X11_fail nm_1307 (recv_ob obC_6) rfl rfl (Nat.le_of_ble_eq_true rfl) d_X7_condition_22 (qV (fun s22 w4 => ?_))
    refine g_aload_n hF d_X7_condition_25 rfl 0 rfl ?_
    exact g_aret hF rfl d_X7_condition_26 ⟨rfl, rfl, u4, rfl, hz4, w4⟩
set_option maxHeartbeats 4000000 in
set_option maxRecDepth 100000 in
theorem kt_X7_exitUnless (a : Nat → Nat) (r : Nat → Nat) {a1 : Nat} {σ : St} {Q : St → Prop} (ha1 : isOp a1) (w : wk_X7_exitUnless a1 σ Q) (l : Launch) (D : va_G) (cy : Nat → ClassId) : Ct l D cy SC r (EC a gC) y_X7_exitUnless (Cond.code y_X7_exitUnless b_X7_exitUnless 2 none) 3 [.ref (r 9), .ref (r a1)] σ Z0 [] (QV Q) QT0 := by
  unfold wk_X7_exitUnless at w
  refine Ct_of (EC_ok a gC) (by decide) (Nat.le_of_ble_eq_true rfl) (by decide) (fun X hnn hF => ?_)
  show G SC r X σ Z0 [] [(0, .ref (r 9)), (1, .ref (r a1))] [] 0
  refine g_aload_n hF d_X7_exitUnless_0 rfl 0 rfl ?_
  refine g_get (v := .ref (r 51)) hF 8 obC_9 (by decide) m_561 rfl d_X7_exitUnless_1 ?_
  refine g_aload_n hF d_X7_exitUnless_4 rfl 0 rfl ?_
  refine g_get (v := .int (σ 9 5)) hF 5 obC_9 (by decide) m_558 rfl d_X7_exitUnless_5 ?_
  refine g_iconst hF (v := 1) d_X7_exitUnless_8 (by decide) ?_
  refine g_isub hF d_X7_exitUnless_9 ?_
  refine g_aload_n hF d_X7_exitUnless_10 rfl 0 rfl ?_
  refine g_get (v := .ref (r 7)) hF 3 obC_9 (by decide) m_556 rfl d_X7_exitUnless_11 ?_
  refine g_aload_n hF d_X7_exitUnless_14 rfl 1 rfl ?_
  refine g_aload_n hF d_X7_exitUnless_15 rfl 0 rfl ?_
  refine g_get (v := .ref (r 51)) hF 8 obC_9 (by decide) m_561 rfl d_X7_exitUnless_16 ?_
  refine g_aload_n hF d_X7_exitUnless_19 rfl 0 rfl ?_
  refine g_get (v := .int (σ 9 5)) hF 5 obC_9 (by decide) m_558 rfl d_X7_exitUnless_20 ?_
  refine g_iconst hF (v := 1) d_X7_exitUnless_23 (by decide) ?_
  refine g_isub hF d_X7_exitUnless_24 ?_
  refine g_callSN (As := [.ref (r 51), .int ((σ 9 5) - (1 : Int32))]) (rest := [.ref (r a1), .ref (r 7), .int ((σ 9 5) - (1 : Int32)), .ref (r 51)]) hF (c_atv a r σ arC_51 (by decide) ((σ 9 5) - (1 : Int32))) (Nat.le_of_ble_eq_true rfl) mS_X12_at nm_1053 rfl rfl (Nat.le_of_ble_eq_true rfl) d_X7_exitUnless_25 (kQ ?_)
  refine g_top (v := (atv 26 (σ 51) ((σ 9 5) - (1 : Int32)))) rfl ?_
  refine g_callVN (As := [.ref (r a1), .int (atv 26 (σ 51) ((σ 9 5) - (1 : Int32)))]) (rest := [.int ((σ 9 5) - (1 : Int32)), .ref (r 51)]) hF (fun l D cy => kt_X2_unless a r ha1 w l D cy) (Nat.le_of_ble_eq_true rfl) mV_X2_unless nm_1317 (recv_ob obC_7) rfl rfl (Nat.le_of_ble_eq_true rfl) d_X7_exitUnless_28 (qI (fun v28 s28 w1 => ?_))
  refine g_callSN (As := [.ref (r 51), .int ((σ 9 5) - (1 : Int32)), .int v28]) (rest := []) hF (c_setv a r s28 arC_51 (by decide) ((σ 9 5) - (1 : Int32)) v28) (Nat.le_of_ble_eq_true rfl) mS_X12_set nm_1312 rfl rfl (Nat.le_of_ble_eq_true rfl) d_X7_exitUnless_31 (kU ?_)
  exact g_vret hF rfl d_X7_exitUnless_34 ⟨rfl, rfl, rfl, w1⟩
set_option maxHeartbeats 4000000 in
set_option maxRecDepth 100000 in
theorem kt_X7_begin (a : Nat → Nat) (r : Nat → Nat) {a1 : Int32} {σ : St} {Q : St → Prop} (ha1 : a1 = 0 ∨ a1 = 1) (w : wk_X7_begin a1 σ Q) (l : Launch) (D : va_G) (cy : Nat → ClassId) : Ct l D cy SC r (EC a gC) y_X7_begin (Cond.code y_X7_begin b_X7_begin 2 none) 1 [.ref (r 9), .int a1] σ Z0 [] (QV Q) QT0 := by
  unfold wk_X7_begin at w
  refine Ct_of (EC_ok a gC) (by decide) (Nat.le_of_ble_eq_true rfl) (by decide) (fun X hnn hF => ?_)
  show G SC r X σ Z0 [] [(0, .ref (r 9)), (1, .int a1)] [] 0
  refine g_aload_n hF d_X7_begin_0 rfl 0 rfl ?_
  refine g_get (v := .ref (r 49)) hF 6 obC_9 (by decide) m_559 rfl d_X7_begin_1 ?_
  refine g_aload_n hF d_X7_begin_4 rfl 0 rfl ?_
  refine g_get (v := .int (σ 9 5)) hF 5 obC_9 (by decide) m_558 rfl d_X7_begin_5 ?_
  refine g_iload_n hF d_X7_begin_8 rfl 1 rfl ?_
  obtain ⟨J17, h17, w1⟩ := w
  have b17 : ∀ (y2_17 : Int32), y2_17 = 0 ∨ y2_17 = 1 → J17 y2_17 → G SC r X σ Z0 [] [(0, .ref (r 9))] [.int y2_17, .int (σ 9 5), .ref (r 49)] 17 := by
    intro y2_17 hy2_17 w17_
    have w17_ := h17 y2_17 hy2_17 w17_
    refine g_callSN (As := [.ref (r 49), .int (σ 9 5), .int y2_17]) (rest := []) hF (c_setv a r σ arC_49 (by decide) (σ 9 5) y2_17) (Nat.le_of_ble_eq_true rfl) mS_X12_set nm_1312 rfl rfl (Nat.le_of_ble_eq_true rfl) d_X7_begin_17 (kU ?_)
    refine g_aload_n hF d_X7_begin_20 rfl 0 rfl ?_
    refine g_get (v := .ref (r 50)) hF 7 obC_9 (by decide) m_560 rfl d_X7_begin_21 ?_
    refine g_aload_n hF d_X7_begin_24 rfl 0 rfl ?_
    refine g_get (v := .int (σ 9 5)) hF 5 obC_9 (by decide) m_558 rfl d_X7_begin_25 ?_
    refine g_aload_n hF d_X7_begin_28 rfl 0 rfl ?_
    refine g_get (v := .ref (r 4)) hF 2 obC_9 (by decide) m_555 rfl d_X7_begin_29 ?_
    refine g_getN (v := .int (σ 4 1)) hF 1 obC_4 (by decide) nm_154 rfl d_X7_begin_32 ?_
    refine g_callSN (As := [.ref (r 50), .int (σ 9 5), .int (σ 4 1)]) (rest := []) hF (c_setv a r (upF σ 49 (setv 26 (σ 49) (σ 9 5) y2_17)) arC_50 (by decide) (σ 9 5) (σ 4 1)) (Nat.le_of_ble_eq_true rfl) mS_X12_set nm_1312 rfl rfl (Nat.le_of_ble_eq_true rfl) d_X7_begin_35 (kU ?_)
    refine g_aload_n hF d_X7_begin_38 rfl 0 rfl ?_
    refine g_get (v := .ref (r 51)) hF 8 obC_9 (by decide) m_561 rfl d_X7_begin_39 ?_
    refine g_aload_n hF d_X7_begin_42 rfl 0 rfl ?_
    refine g_get (v := .int (σ 9 5)) hF 5 obC_9 (by decide) m_558 rfl d_X7_begin_43 ?_
    refine g_iconst hF (v := (-1)) d_X7_begin_46 (by decide) ?_
    refine g_callSN (As := [.ref (r 51), .int (σ 9 5), .int (-1)]) (rest := []) hF (c_setv a r (upF (upF σ 49 (setv 26 (σ 49) (σ 9 5) y2_17)) 50 (setv 26 ((upF σ 49 (setv 26 (σ 49) (σ 9 5) y2_17)) 50) (σ 9 5) (σ 4 1))) arC_51 (by decide) (σ 9 5) ((-1) : Int32)) (Nat.le_of_ble_eq_true rfl) mS_X12_set nm_1312 rfl rfl (Nat.le_of_ble_eq_true rfl) d_X7_begin_47 (kU ?_)
    refine g_aload_n hF d_X7_begin_50 rfl 0 rfl ?_
    refine g_get (v := .ref (r 52)) hF 9 obC_9 (by decide) m_562 rfl d_X7_begin_51 ?_
    refine g_aload_n hF d_X7_begin_54 rfl 0 rfl ?_
    refine g_get (v := .int (σ 9 5)) hF 5 obC_9 (by decide) m_558 rfl d_X7_begin_55 ?_
    refine g_iconst hF (v := (-1)) d_X7_begin_58 (by decide) ?_
    refine g_callSN (As := [.ref (r 52), .int (σ 9 5), .int (-1)]) (rest := []) hF (c_setv a r (upF (upF (upF σ 49 (setv 26 (σ 49) (σ 9 5) y2_17)) 50 (setv 26 ((upF σ 49 (setv 26 (σ 49) (σ 9 5) y2_17)) 50) (σ 9 5) (σ 4 1))) 51 (setv 26 ((upF (upF σ 49 (setv 26 (σ 49) (σ 9 5) y2_17)) 50 (setv 26 ((upF σ 49 (setv 26 (σ 49) (σ 9 5) y2_17)) 50) (σ 9 5) (σ 4 1))) 51) (σ 9 5) ((-1) : Int32))) arC_52 (by decide) (σ 9 5) ((-1) : Int32)) (Nat.le_of_ble_eq_true rfl) mS_X12_set nm_1312 rfl rfl (Nat.le_of_ble_eq_true rfl) d_X7_begin_59 (kU ?_)
    refine g_aload_n hF d_X7_begin_62 rfl 0 rfl ?_
    refine g_dup hF d_X7_begin_63 rfl ?_
    refine g_get (v := .int (σ 9 5)) hF 5 obC_9 (by decide) m_558 rfl d_X7_begin_64 ?_
    refine g_iconst hF (v := 1) d_X7_begin_67 (by decide) ?_
    refine g_iadd hF d_X7_begin_68 ?_
    refine g_put (v := ((σ 9 5) + (1 : Int32))) hF 5 obC_9 (by decide) m_558 rfl rfl rfl d_X7_begin_69 ?_
    exact g_vret hF rfl d_X7_begin_72 ⟨rfl, rfl, rfl, w17_⟩
  refine g_if_eq hF 16 d_X7_begin_9 (by decide) rfl (fun c => ?_) (fun c => ?_)
  · have w2 := w1.1 c
    refine g_iconst hF (v := 0) d_X7_begin_16 (by decide) ?_
    exact g_sub (L' := [(0, .ref (r 9))]) [0] rfl (b17 (0 : Int32) (Or.inl rfl) w2)
  · have w3 := w1.2 c
    refine g_iconst hF (v := 1) d_X7_begin_12 (by decide) ?_
    refine g_goto hF 17 d_X7_begin_13 (by decide) ?_
    exact g_sub (L' := [(0, .ref (r 9))]) [0] rfl (b17 (1 : Int32) (Or.inr rfl) w3)
set_option maxHeartbeats 4000000 in
set_option maxRecDepth 100000 in
theorem kt_X7_forLoop (a : Nat → Nat) (r : Nat → Nat) {a1 : Int32} {a2 : Int32} {a3 : Int32} {σ : St} {Q : St → Prop} (ha3 : a3 = 0 ∨ a3 = 1) (w : wk_X7_forLoop a1 a2 a3 σ Q) (l : Launch) (D : va_G) (cy : Nat → ClassId) : Ct l D cy SC r (EC a gC) y_X7_forLoop (Cond.code y_X7_forLoop b_X7_forLoop 4 none) 4 [.ref (r 9), .int a1, .int a2, .int a3] σ Z0 [] (QV Q) QT0 := by
  unfold wk_X7_forLoop at w
  refine Ct_of (EC_ok a gC) (by decide) (Nat.le_of_ble_eq_true rfl) (by decide) (fun X hnn hF => ?_)
  show G SC r X σ Z0 [] [(0, .ref (r 9)), (1, .int a1), (2, .int a2), (3, .int a3)] [] 0
  refine g_iload_n hF d_X7_forLoop_0 rfl 1 rfl ?_
  refine g_bipush hF (v := 32) d_X7_forLoop_1 (by decide) ?_
  refine g_icmp_ne (yv := 32) hF 14 d_X7_forLoop_3 (by decide) rfl (by decide) (fun c => ?_) (fun c => ?_)
  · have w1 := w.1 c
    refine g_iload_n hF d_X7_forLoop_14 rfl 1 rfl ?_
    refine g_bipush hF (v := 33) d_X7_forLoop_15 (by decide) ?_
    refine g_icmp_ne (yv := 33) hF 81 d_X7_forLoop_17 (by decide) rfl (by decide) (fun c => ?_) (fun c => ?_)
    · have w2 := w1.1 c
      refine g_iload_n hF d_X7_forLoop_81 rfl 1 rfl ?_
      refine g_bipush hF (v := 34) d_X7_forLoop_82 (by decide) ?_
      refine g_icmp_ne (yv := 34) hF 139 d_X7_forLoop_84 (by decide) rfl (by decide) (fun c => ?_) (fun c => ?_)
      · have w3 := w2.1 c
        refine g_aload_n hF d_X7_forLoop_139 rfl 0 rfl ?_
        refine g_get (v := .ref (r 4)) hF 2 obC_9 (by decide) m_555 rfl d_X7_forLoop_140 ?_
        refine g_aload_n hF d_X7_forLoop_143 rfl 0 rfl ?_
        refine g_get (v := .ref (r 52)) hF 9 obC_9 (by decide) m_562 rfl d_X7_forLoop_144 ?_
        refine g_aload_n hF d_X7_forLoop_147 rfl 0 rfl ?_
        refine g_get (v := .int (σ 9 5)) hF 5 obC_9 (by decide) m_558 rfl d_X7_forLoop_148 ?_
        refine g_iconst hF (v := 1) d_X7_forLoop_151 (by decide) ?_
        refine g_isub hF d_X7_forLoop_152 ?_
        refine g_callSN (As := [.ref (r 52), .int ((σ 9 5) - (1 : Int32))]) (rest := [.ref (r 4)]) hF (c_atv a r σ arC_52 (by decide) ((σ 9 5) - (1 : Int32))) (Nat.le_of_ble_eq_true rfl) mS_X12_at nm_1053 rfl rfl (Nat.le_of_ble_eq_true rfl) d_X7_forLoop_153 (kQ ?_)
        refine g_top (v := (atv 26 (σ 52) ((σ 9 5) - (1 : Int32)))) rfl ?_
        refine g_aload_n hF d_X7_forLoop_156 rfl 0 rfl ?_
        refine g_get (v := .ref (r 54)) hF 11 obC_9 (by decide) m_564 rfl d_X7_forLoop_157 ?_
        refine g_aload_n hF d_X7_forLoop_160 rfl 0 rfl ?_
        refine g_get (v := .int (σ 9 5)) hF 5 obC_9 (by decide) m_558 rfl d_X7_forLoop_161 ?_
        refine g_iconst hF (v := 1) d_X7_forLoop_164 (by decide) ?_
        refine g_isub hF d_X7_forLoop_165 ?_
        refine g_callSN (As := [.ref (r 54), .int ((σ 9 5) - (1 : Int32))]) (rest := [.int (atv 26 (σ 52) ((σ 9 5) - (1 : Int32))), .ref (r 4)]) hF (c_atv a r σ arC_54 (by decide) ((σ 9 5) - (1 : Int32))) (Nat.le_of_ble_eq_true rfl) mS_X12_at nm_1053 rfl rfl (Nat.le_of_ble_eq_true rfl) d_X7_forLoop_166 (kQ ?_)
        refine g_top (v := (atv 26 (σ 54) ((σ 9 5) - (1 : Int32)))) rfl ?_
        refine g_callVN (As := [.int (atv 26 (σ 52) ((σ 9 5) - (1 : Int32))), .int (atv 26 (σ 54) ((σ 9 5) - (1 : Int32)))]) (rest := []) hF (fun l D cy => kt_X0_aim a r w3 l D cy) (Nat.le_of_ble_eq_true rfl) mV_X0_aim nm_1318 (recv_ob obC_4) rfl rfl (Nat.le_of_ble_eq_true rfl) d_X7_forLoop_169 (qV (fun s169 w4 => ?_))
        refine g_aload_n hF d_X7_forLoop_172 rfl 0 rfl ?_
        refine g_aload_n hF d_X7_forLoop_173 rfl 0 rfl ?_
        refine g_get (v := .ref (r 54)) hF 11 obC_9 (by decide) m_564 rfl d_X7_forLoop_174 ?_
        refine g_aload_n hF d_X7_forLoop_177 rfl 0 rfl ?_
        refine g_get (v := .int (s169 9 5)) hF 5 obC_9 (by decide) m_558 rfl d_X7_forLoop_178 ?_
        refine g_iconst hF (v := 1) d_X7_forLoop_181 (by decide) ?_
        refine g_isub hF d_X7_forLoop_182 ?_
        refine g_callSN (As := [.ref (r 54), .int ((s169 9 5) - (1 : Int32))]) (rest := [.ref (r 9)]) hF (c_atv a r s169 arC_54 (by decide) ((s169 9 5) - (1 : Int32))) (Nat.le_of_ble_eq_true rfl) mS_X12_at nm_1053 rfl rfl (Nat.le_of_ble_eq_true rfl) d_X7_forLoop_183 (kQ ?_)
        refine g_top (v := (atv 26 (s169 54) ((s169 9 5) - (1 : Int32)))) rfl ?_
        refine g_callV (As := [.int (atv 26 (s169 54) ((s169 9 5) - (1 : Int32)))]) (rest := []) hF (fun l D cy => kt_X7_jumpBack a r w4 l D cy) (Nat.le_of_ble_eq_true rfl) mV_X7_jumpBack m_1340 (recv_ob obC_9) rfl rfl (Nat.le_of_ble_eq_true rfl) d_X7_forLoop_186 (qV (fun s186 w5 => ?_)) (fun _ _ _ h => h.elim)
        refine g_aload_n hF d_X7_forLoop_189 rfl 0 rfl ?_
        refine g_callV (As := []) (rest := []) hF (fun l D cy => kt_X7_finish a r w5 l D cy) (Nat.le_of_ble_eq_true rfl) mV_X7_finish m_1319 (recv_ob obC_9) rfl rfl (Nat.le_of_ble_eq_true rfl) d_X7_forLoop_190 (qV (fun s190 w6 => ?_)) (fun _ _ _ h => h.elim)
        exact g_vret hF rfl d_X7_forLoop_193 ⟨rfl, rfl, rfl, w6⟩
      · have w7 := w2.2 c
        refine g_aload_n hF d_X7_forLoop_87 rfl 0 rfl ?_
        refine g_aload_n hF d_X7_forLoop_88 rfl 0 rfl ?_
        refine g_get (v := .ref (r 50)) hF 7 obC_9 (by decide) m_560 rfl d_X7_forLoop_89 ?_
        refine g_aload_n hF d_X7_forLoop_92 rfl 0 rfl ?_
        refine g_get (v := .int (σ 9 5)) hF 5 obC_9 (by decide) m_558 rfl d_X7_forLoop_93 ?_
        refine g_iconst hF (v := 1) d_X7_forLoop_96 (by decide) ?_
        refine g_isub hF d_X7_forLoop_97 ?_
        refine g_callSN (As := [.ref (r 50), .int ((σ 9 5) - (1 : Int32))]) (rest := [.ref (r 9)]) hF (c_atv a r σ arC_50 (by decide) ((σ 9 5) - (1 : Int32))) (Nat.le_of_ble_eq_true rfl) mS_X12_at nm_1053 rfl rfl (Nat.le_of_ble_eq_true rfl) d_X7_forLoop_98 (kQ ?_)
        refine g_top (v := (atv 26 (σ 50) ((σ 9 5) - (1 : Int32)))) rfl ?_
        refine g_callV (As := [.int (atv 26 (σ 50) ((σ 9 5) - (1 : Int32)))]) (rest := []) hF (fun l D cy => kt_X7_jumpBack a r w7 l D cy) (Nat.le_of_ble_eq_true rfl) mV_X7_jumpBack m_1340 (recv_ob obC_9) rfl rfl (Nat.le_of_ble_eq_true rfl) d_X7_forLoop_101 (qV (fun s101 w8 => ?_)) (fun _ _ _ h => h.elim)
        refine g_aload_n hF d_X7_forLoop_104 rfl 0 rfl ?_
        refine g_get (v := .ref (r 4)) hF 2 obC_9 (by decide) m_555 rfl d_X7_forLoop_105 ?_
        refine g_aload_n hF d_X7_forLoop_108 rfl 0 rfl ?_
        refine g_get (v := .ref (r 53)) hF 10 obC_9 (by decide) m_563 rfl d_X7_forLoop_109 ?_
        refine g_aload_n hF d_X7_forLoop_112 rfl 0 rfl ?_
        refine g_get (v := .int (s101 9 5)) hF 5 obC_9 (by decide) m_558 rfl d_X7_forLoop_113 ?_
        refine g_iconst hF (v := 1) d_X7_forLoop_116 (by decide) ?_
        refine g_isub hF d_X7_forLoop_117 ?_
        refine g_callSN (As := [.ref (r 53), .int ((s101 9 5) - (1 : Int32))]) (rest := [.ref (r 4)]) hF (c_atv a r s101 arC_53 (by decide) ((s101 9 5) - (1 : Int32))) (Nat.le_of_ble_eq_true rfl) mS_X12_at nm_1053 rfl rfl (Nat.le_of_ble_eq_true rfl) d_X7_forLoop_118 (kQ ?_)
        refine g_top (v := (atv 26 (s101 53) ((s101 9 5) - (1 : Int32)))) rfl ?_
        refine g_aload_n hF d_X7_forLoop_121 rfl 0 rfl ?_
        refine g_get (v := .ref (r 4)) hF 2 obC_9 (by decide) m_555 rfl d_X7_forLoop_122 ?_
        refine g_getN (v := .int (s101 4 1)) hF 1 obC_4 (by decide) nm_154 rfl d_X7_forLoop_125 ?_
        refine g_callVN (As := [.int (atv 26 (s101 53) ((s101 9 5) - (1 : Int32))), .int (s101 4 1)]) (rest := []) hF (fun l D cy => kt_X0_aim a r w8 l D cy) (Nat.le_of_ble_eq_true rfl) mV_X0_aim nm_1318 (recv_ob obC_4) rfl rfl (Nat.le_of_ble_eq_true rfl) d_X7_forLoop_128 (qV (fun s128 w9 => ?_))
        refine g_aload_n hF d_X7_forLoop_131 rfl 0 rfl ?_
        refine g_iload_n hF d_X7_forLoop_132 rfl 2 rfl ?_
        refine g_callV (As := [.int a2]) (rest := []) hF (fun l D cy => kt_X7_turn a r w9 l D cy) (Nat.le_of_ble_eq_true rfl) mV_X7_turn m_1336 (recv_ob obC_9) rfl rfl (Nat.le_of_ble_eq_true rfl) d_X7_forLoop_133 (qV (fun s133 w10 => ?_)) (fun _ _ _ h => h.elim)
        refine g_goto hF 193 d_X7_forLoop_136 (by decide) ?_
        exact g_vret hF rfl d_X7_forLoop_193 ⟨rfl, rfl, rfl, w10⟩
    · have w11 := w1.2 c
      refine g_iload_n hF d_X7_forLoop_20 rfl 3 rfl ?_
      obtain ⟨J33, h33, w12⟩ := w11
      have b33 : ∀ (s33 : St), J33 s33 → G SC r X s33 Z0 [] [(0, .ref (r 9))] [] 33 := by
        intro s33  w33_
        have w33_ := h33 s33  w33_
        refine g_aload_n hF d_X7_forLoop_33 rfl 0 rfl ?_
        refine g_get (v := .ref (r 53)) hF 10 obC_9 (by decide) m_563 rfl d_X7_forLoop_34 ?_
        refine g_aload_n hF d_X7_forLoop_37 rfl 0 rfl ?_
        refine g_get (v := .int (s33 9 5)) hF 5 obC_9 (by decide) m_558 rfl d_X7_forLoop_38 ?_
        refine g_iconst hF (v := 1) d_X7_forLoop_41 (by decide) ?_
        refine g_isub hF d_X7_forLoop_42 ?_
        refine g_aload_n hF d_X7_forLoop_43 rfl 0 rfl ?_
        refine g_get (v := .ref (r 4)) hF 2 obC_9 (by decide) m_555 rfl d_X7_forLoop_44 ?_
        refine g_bipush hF (v := 26) d_X7_forLoop_47 (by decide) ?_
        refine g_iconst hF (v := (-1)) d_X7_forLoop_49 (by decide) ?_
        refine g_iconst hF (v := 0) d_X7_forLoop_50 (by decide) ?_
        refine g_iconst hF (v := 0) d_X7_forLoop_51 (by decide) ?_
        refine g_callVN (As := [.int 26, .int (-1), .int 0, .int 0]) (rest := [.int ((s33 9 5) - (1 : Int32)), .ref (r 53)]) hF (fun l D cy => kt_X0_emit a r w33_ l D cy) (Nat.le_of_ble_eq_true rfl) mV_X0_emit nm_1298 (recv_ob obC_4) rfl rfl (Nat.le_of_ble_eq_true rfl) d_X7_forLoop_52 (qI (fun v52 s52 w13 => ?_))
        refine g_callSN (As := [.ref (r 53), .int ((s33 9 5) - (1 : Int32)), .int v52]) (rest := []) hF (c_setv a r s52 arC_53 (by decide) ((s33 9 5) - (1 : Int32)) v52) (Nat.le_of_ble_eq_true rfl) mS_X12_set nm_1312 rfl rfl (Nat.le_of_ble_eq_true rfl) d_X7_forLoop_55 (kU ?_)
        refine g_aload_n hF d_X7_forLoop_58 rfl 0 rfl ?_
        refine g_get (v := .ref (r 54)) hF 11 obC_9 (by decide) m_564 rfl d_X7_forLoop_59 ?_
        refine g_aload_n hF d_X7_forLoop_62 rfl 0 rfl ?_
        refine g_get (v := .int (s52 9 5)) hF 5 obC_9 (by decide) m_558 rfl d_X7_forLoop_63 ?_
        refine g_iconst hF (v := 1) d_X7_forLoop_66 (by decide) ?_
        refine g_isub hF d_X7_forLoop_67 ?_
        refine g_aload_n hF d_X7_forLoop_68 rfl 0 rfl ?_
        refine g_get (v := .ref (r 4)) hF 2 obC_9 (by decide) m_555 rfl d_X7_forLoop_69 ?_
        refine g_getN (v := .int (s52 4 1)) hF 1 obC_4 (by decide) nm_154 rfl d_X7_forLoop_72 ?_
        refine g_callSN (As := [.ref (r 54), .int ((s52 9 5) - (1 : Int32)), .int (s52 4 1)]) (rest := []) hF (c_setv a r (upF s52 53 (setv 26 (s52 53) ((s33 9 5) - (1 : Int32)) v52)) arC_54 (by decide) ((s52 9 5) - (1 : Int32)) (s52 4 1)) (Nat.le_of_ble_eq_true rfl) mS_X12_set nm_1312 rfl rfl (Nat.le_of_ble_eq_true rfl) d_X7_forLoop_75 (kU ?_)
        refine g_goto hF 193 d_X7_forLoop_78 (by decide) ?_
        exact g_vret hF rfl d_X7_forLoop_193 ⟨rfl, rfl, rfl, w13⟩
      refine g_if_eq hF 33 d_X7_forLoop_21 (by decide) rfl (fun c => ?_) (fun c => ?_)
      · have w14 := w12.1 c
        exact g_sub (L' := [(0, .ref (r 9))]) [0] rfl (b33 σ w14)
      · have w15 := w12.2 c
        refine g_aload_n hF d_X7_forLoop_24 rfl 0 rfl ?_
        refine g_aload_n hF d_X7_forLoop_25 rfl 0 rfl ?_
        refine g_iload_n hF d_X7_forLoop_26 rfl 2 rfl ?_
        refine g_callV (As := [.int a2]) (rest := [.ref (r 9)]) hF (fun l D cy => kt_X7_condition a r w15 l D cy) (Nat.le_of_ble_eq_true rfl) mV_X7_condition m_1303 (recv_ob obC_9) rfl rfl (Nat.le_of_ble_eq_true rfl) d_X7_forLoop_27 (qA (fun u27 s27 hz27 w16 => ?_)) (fun _ _ _ h => h.elim)
        refine g_callV (As := [.ref (r u27)]) (rest := []) hF (fun l D cy => kt_X7_exitUnless a r hz27 w16 l D cy) (Nat.le_of_ble_eq_true rfl) mV_X7_exitUnless m_1313 (recv_ob obC_9) rfl rfl (Nat.le_of_ble_eq_true rfl) d_X7_forLoop_30 (qV (fun s30 w17 => ?_)) (fun _ _ _ h => h.elim)
        exact g_sub (L' := [(0, .ref (r 9))]) [0] rfl (b33 s30 w17)
  · have w18 := w.2 c
    refine g_aload_n hF d_X7_forLoop_6 rfl 0 rfl ?_
    refine g_iconst hF (v := 1) d_X7_forLoop_7 (by decide) ?_
    refine g_callV (As := [.int 1]) (rest := []) hF (fun l D cy => kt_X7_begin a r (Or.inr rfl) w18 l D cy) (Nat.le_of_ble_eq_true rfl) mV_X7_begin m_1308 (recv_ob obC_9) rfl rfl (Nat.le_of_ble_eq_true rfl) d_X7_forLoop_8 (qV (fun s8 w19 => ?_)) (fun _ _ _ h => h.elim)
    refine g_goto hF 193 d_X7_forLoop_11 (by decide) ?_
    exact g_vret hF rfl d_X7_forLoop_193 ⟨rfl, rfl, rfl, w19⟩
set_option maxHeartbeats 4000000 in
set_option maxRecDepth 100000 in
theorem kt_X7_doLoop (a : Nat → Nat) (r : Nat → Nat) {a1 : Int32} {a2 : Int32} {σ : St} {Q : St → Prop} (w : wk_X7_doLoop a1 a2 σ Q) (l : Launch) (D : va_G) (cy : Nat → ClassId) : Ct l D cy SC r (EC a gC) y_X7_doLoop (Cond.code y_X7_doLoop b_X7_doLoop 3 none) 4 [.ref (r 9), .int a1, .int a2] σ Z0 [] (QV Q) QT0 := by
  unfold wk_X7_doLoop at w
  refine Ct_of (EC_ok a gC) (by decide) (Nat.le_of_ble_eq_true rfl) (by decide) (fun X hnn hF => ?_)
  show G SC r X σ Z0 [] [(0, .ref (r 9)), (1, .int a1), (2, .int a2)] [] 0
  refine g_iload_n hF d_X7_doLoop_0 rfl 1 rfl ?_
  refine g_bipush hF (v := 29) d_X7_doLoop_1 (by decide) ?_
  refine g_icmp_ne (yv := 29) hF 19 d_X7_doLoop_3 (by decide) rfl (by decide) (fun c => ?_) (fun c => ?_)
  · have w1 := w.1 c
    refine g_iload_n hF d_X7_doLoop_19 rfl 1 rfl ?_
    refine g_bipush hF (v := 30) d_X7_doLoop_20 (by decide) ?_
    refine g_icmp_ne (yv := 30) hF 55 d_X7_doLoop_22 (by decide) rfl (by decide) (fun c => ?_) (fun c => ?_)
    · have w2 := w1.1 c
      refine g_aload_n hF d_X7_doLoop_55 rfl 0 rfl ?_
      refine g_iload_n hF d_X7_doLoop_56 rfl 2 rfl ?_
      refine g_callV (As := [.int a2]) (rest := []) hF (fun l D cy => kt_X7_condition a r w2 l D cy) (Nat.le_of_ble_eq_true rfl) mV_X7_condition m_1303 (recv_ob obC_9) rfl rfl (Nat.le_of_ble_eq_true rfl) d_X7_doLoop_57 (qA (fun u57 s57 hz57 w3 => ?_)) (fun _ _ _ h => h.elim)
      refine g_pop hF d_X7_doLoop_60 rfl ?_
      refine g_aload_n hF d_X7_doLoop_61 rfl 0 rfl ?_
      refine g_get (v := .ref (r 4)) hF 2 obC_9 (by decide) m_555 rfl d_X7_doLoop_62 ?_
      refine g_bipush hF (v := 28) d_X7_doLoop_65 (by decide) ?_
      refine g_aload_n hF d_X7_doLoop_67 rfl 0 rfl ?_
      refine g_get (v := .ref (r 50)) hF 7 obC_9 (by decide) m_560 rfl d_X7_doLoop_68 ?_
      refine g_aload_n hF d_X7_doLoop_71 rfl 0 rfl ?_
      refine g_get (v := .int (s57 9 5)) hF 5 obC_9 (by decide) m_558 rfl d_X7_doLoop_72 ?_
      refine g_iconst hF (v := 1) d_X7_doLoop_75 (by decide) ?_
      refine g_isub hF d_X7_doLoop_76 ?_
      refine g_callSN (As := [.ref (r 50), .int ((s57 9 5) - (1 : Int32))]) (rest := [.int 28, .ref (r 4)]) hF (c_atv a r s57 arC_50 (by decide) ((s57 9 5) - (1 : Int32))) (Nat.le_of_ble_eq_true rfl) mS_X12_at nm_1053 rfl rfl (Nat.le_of_ble_eq_true rfl) d_X7_doLoop_77 (kQ ?_)
      refine g_top (v := (atv 26 (s57 50) ((s57 9 5) - (1 : Int32)))) rfl ?_
      refine g_iconst hF (v := 0) d_X7_doLoop_80 (by decide) ?_
      refine g_iconst hF (v := 0) d_X7_doLoop_81 (by decide) ?_
      refine g_callVN (As := [.int 28, .int (atv 26 (s57 50) ((s57 9 5) - (1 : Int32))), .int 0, .int 0]) (rest := []) hF (fun l D cy => kt_X0_emit a r w3 l D cy) (Nat.le_of_ble_eq_true rfl) mV_X0_emit nm_1298 (recv_ob obC_4) rfl rfl (Nat.le_of_ble_eq_true rfl) d_X7_doLoop_82 (qI (fun v82 s82 w4 => ?_))
      refine g_pop hF d_X7_doLoop_85 rfl ?_
      refine g_aload_n hF d_X7_doLoop_86 rfl 0 rfl ?_
      refine g_callV (As := []) (rest := []) hF (fun l D cy => kt_X7_finish a r w4 l D cy) (Nat.le_of_ble_eq_true rfl) mV_X7_finish m_1319 (recv_ob obC_9) rfl rfl (Nat.le_of_ble_eq_true rfl) d_X7_doLoop_87 (qV (fun s87 w5 => ?_)) (fun _ _ _ h => h.elim)
      exact g_vret hF rfl d_X7_doLoop_90 ⟨rfl, rfl, rfl, w5⟩
    · have w6 := w1.2 c
      refine g_aload_n hF d_X7_doLoop_25 rfl 0 rfl ?_
      refine g_get (v := .ref (r 4)) hF 2 obC_9 (by decide) m_555 rfl d_X7_doLoop_26 ?_
      refine g_aload_n hF d_X7_doLoop_29 rfl 0 rfl ?_
      refine g_get (v := .ref (r 52)) hF 9 obC_9 (by decide) m_562 rfl d_X7_doLoop_30 ?_
      refine g_aload_n hF d_X7_doLoop_33 rfl 0 rfl ?_
      refine g_get (v := .int (σ 9 5)) hF 5 obC_9 (by decide) m_558 rfl d_X7_doLoop_34 ?_
      refine g_iconst hF (v := 1) d_X7_doLoop_37 (by decide) ?_
      refine g_isub hF d_X7_doLoop_38 ?_
      refine g_callSN (As := [.ref (r 52), .int ((σ 9 5) - (1 : Int32))]) (rest := [.ref (r 4)]) hF (c_atv a r σ arC_52 (by decide) ((σ 9 5) - (1 : Int32))) (Nat.le_of_ble_eq_true rfl) mS_X12_at nm_1053 rfl rfl (Nat.le_of_ble_eq_true rfl) d_X7_doLoop_39 (kQ ?_)
      refine g_top (v := (atv 26 (σ 52) ((σ 9 5) - (1 : Int32)))) rfl ?_
      refine g_aload_n hF d_X7_doLoop_42 rfl 0 rfl ?_
      refine g_get (v := .ref (r 4)) hF 2 obC_9 (by decide) m_555 rfl d_X7_doLoop_43 ?_
      refine g_getN (v := .int (σ 4 1)) hF 1 obC_4 (by decide) nm_154 rfl d_X7_doLoop_46 ?_
      refine g_callVN (As := [.int (atv 26 (σ 52) ((σ 9 5) - (1 : Int32))), .int (σ 4 1)]) (rest := []) hF (fun l D cy => kt_X0_aim a r w6 l D cy) (Nat.le_of_ble_eq_true rfl) mV_X0_aim nm_1318 (recv_ob obC_4) rfl rfl (Nat.le_of_ble_eq_true rfl) d_X7_doLoop_49 (qV (fun s49 w7 => ?_))
      refine g_goto hF 90 d_X7_doLoop_52 (by decide) ?_
      exact g_vret hF rfl d_X7_doLoop_90 ⟨rfl, rfl, rfl, w7⟩
  · have w8 := w.2 c
    refine g_aload_n hF d_X7_doLoop_6 rfl 0 rfl ?_
    refine g_iconst hF (v := 1) d_X7_doLoop_7 (by decide) ?_
    refine g_callV (As := [.int 1]) (rest := []) hF (fun l D cy => kt_X7_begin a r (Or.inr rfl) w8 l D cy) (Nat.le_of_ble_eq_true rfl) mV_X7_begin m_1308 (recv_ob obC_9) rfl rfl (Nat.le_of_ble_eq_true rfl) d_X7_doLoop_8 (qV (fun s8 w9 => ?_)) (fun _ _ _ h => h.elim)
    refine g_aload_n hF d_X7_doLoop_11 rfl 0 rfl ?_
    refine g_iload_n hF d_X7_doLoop_12 rfl 2 rfl ?_
    refine g_callV (As := [.int a2]) (rest := []) hF (fun l D cy => kt_X7_turn a r w9 l D cy) (Nat.le_of_ble_eq_true rfl) mV_X7_turn m_1336 (recv_ob obC_9) rfl rfl (Nat.le_of_ble_eq_true rfl) d_X7_doLoop_13 (qV (fun s13 w10 => ?_)) (fun _ _ _ h => h.elim)
    refine g_goto hF 90 d_X7_doLoop_16 (by decide) ?_
    exact g_vret hF rfl d_X7_doLoop_90 ⟨rfl, rfl, rfl, w10⟩
set_option maxHeartbeats 4000000 in
set_option maxRecDepth 100000 in
theorem kt_X7_whileLoop (a : Nat → Nat) (r : Nat → Nat) {a1 : Int32} {a2 : Int32} {σ : St} {Q : St → Prop} (w : wk_X7_whileLoop a1 a2 σ Q) (l : Launch) (D : va_G) (cy : Nat → ClassId) : Ct l D cy SC r (EC a gC) y_X7_whileLoop (Cond.code y_X7_whileLoop b_X7_whileLoop 3 none) 4 [.ref (r 9), .int a1, .int a2] σ Z0 [] (QV Q) QT0 := by
  unfold wk_X7_whileLoop at w
  refine Ct_of (EC_ok a gC) (by decide) (Nat.le_of_ble_eq_true rfl) (by decide) (fun X hnn hF => ?_)
  show G SC r X σ Z0 [] [(0, .ref (r 9)), (1, .int a1), (2, .int a2)] [] 0
  refine g_iload_n hF d_X7_whileLoop_0 rfl 1 rfl ?_
  refine g_bipush hF (v := 26) d_X7_whileLoop_1 (by decide) ?_
  refine g_icmp_ne (yv := 26) hF 14 d_X7_whileLoop_3 (by decide) rfl (by decide) (fun c => ?_) (fun c => ?_)
  · have w1 := w.1 c
    refine g_iload_n hF d_X7_whileLoop_14 rfl 1 rfl ?_
    refine g_bipush hF (v := 27) d_X7_whileLoop_15 (by decide) ?_
    refine g_icmp_ne (yv := 27) hF 37 d_X7_whileLoop_17 (by decide) rfl (by decide) (fun c => ?_) (fun c => ?_)
    · have w2 := w1.1 c
      refine g_aload_n hF d_X7_whileLoop_37 rfl 0 rfl ?_
      refine g_get (v := .ref (r 4)) hF 2 obC_9 (by decide) m_555 rfl d_X7_whileLoop_38 ?_
      refine g_aload_n hF d_X7_whileLoop_41 rfl 0 rfl ?_
      refine g_get (v := .ref (r 52)) hF 9 obC_9 (by decide) m_562 rfl d_X7_whileLoop_42 ?_
      refine g_aload_n hF d_X7_whileLoop_45 rfl 0 rfl ?_
      refine g_get (v := .int (σ 9 5)) hF 5 obC_9 (by decide) m_558 rfl d_X7_whileLoop_46 ?_
      refine g_iconst hF (v := 1) d_X7_whileLoop_49 (by decide) ?_
      refine g_isub hF d_X7_whileLoop_50 ?_
      refine g_callSN (As := [.ref (r 52), .int ((σ 9 5) - (1 : Int32))]) (rest := [.ref (r 4)]) hF (c_atv a r σ arC_52 (by decide) ((σ 9 5) - (1 : Int32))) (Nat.le_of_ble_eq_true rfl) mS_X12_at nm_1053 rfl rfl (Nat.le_of_ble_eq_true rfl) d_X7_whileLoop_51 (kQ ?_)
      refine g_top (v := (atv 26 (σ 52) ((σ 9 5) - (1 : Int32)))) rfl ?_
      refine g_aload_n hF d_X7_whileLoop_54 rfl 0 rfl ?_
      refine g_get (v := .ref (r 50)) hF 7 obC_9 (by decide) m_560 rfl d_X7_whileLoop_55 ?_
      refine g_aload_n hF d_X7_whileLoop_58 rfl 0 rfl ?_
      refine g_get (v := .int (σ 9 5)) hF 5 obC_9 (by decide) m_558 rfl d_X7_whileLoop_59 ?_
      refine g_iconst hF (v := 1) d_X7_whileLoop_62 (by decide) ?_
      refine g_isub hF d_X7_whileLoop_63 ?_
      refine g_callSN (As := [.ref (r 50), .int ((σ 9 5) - (1 : Int32))]) (rest := [.int (atv 26 (σ 52) ((σ 9 5) - (1 : Int32))), .ref (r 4)]) hF (c_atv a r σ arC_50 (by decide) ((σ 9 5) - (1 : Int32))) (Nat.le_of_ble_eq_true rfl) mS_X12_at nm_1053 rfl rfl (Nat.le_of_ble_eq_true rfl) d_X7_whileLoop_64 (kQ ?_)
      refine g_top (v := (atv 26 (σ 50) ((σ 9 5) - (1 : Int32)))) rfl ?_
      refine g_callVN (As := [.int (atv 26 (σ 52) ((σ 9 5) - (1 : Int32))), .int (atv 26 (σ 50) ((σ 9 5) - (1 : Int32)))]) (rest := []) hF (fun l D cy => kt_X0_aim a r w2 l D cy) (Nat.le_of_ble_eq_true rfl) mV_X0_aim nm_1318 (recv_ob obC_4) rfl rfl (Nat.le_of_ble_eq_true rfl) d_X7_whileLoop_67 (qV (fun s67 w3 => ?_))
      refine g_aload_n hF d_X7_whileLoop_70 rfl 0 rfl ?_
      refine g_aload_n hF d_X7_whileLoop_71 rfl 0 rfl ?_
      refine g_get (v := .ref (r 50)) hF 7 obC_9 (by decide) m_560 rfl d_X7_whileLoop_72 ?_
      refine g_aload_n hF d_X7_whileLoop_75 rfl 0 rfl ?_
      refine g_get (v := .int (s67 9 5)) hF 5 obC_9 (by decide) m_558 rfl d_X7_whileLoop_76 ?_
      refine g_iconst hF (v := 1) d_X7_whileLoop_79 (by decide) ?_
      refine g_isub hF d_X7_whileLoop_80 ?_
      refine g_callSN (As := [.ref (r 50), .int ((s67 9 5) - (1 : Int32))]) (rest := [.ref (r 9)]) hF (c_atv a r s67 arC_50 (by decide) ((s67 9 5) - (1 : Int32))) (Nat.le_of_ble_eq_true rfl) mS_X12_at nm_1053 rfl rfl (Nat.le_of_ble_eq_true rfl) d_X7_whileLoop_81 (kQ ?_)
      refine g_top (v := (atv 26 (s67 50) ((s67 9 5) - (1 : Int32)))) rfl ?_
      refine g_callV (As := [.int (atv 26 (s67 50) ((s67 9 5) - (1 : Int32)))]) (rest := []) hF (fun l D cy => kt_X7_jumpBack a r w3 l D cy) (Nat.le_of_ble_eq_true rfl) mV_X7_jumpBack m_1340 (recv_ob obC_9) rfl rfl (Nat.le_of_ble_eq_true rfl) d_X7_whileLoop_84 (qV (fun s84 w4 => ?_)) (fun _ _ _ h => h.elim)
      refine g_aload_n hF d_X7_whileLoop_87 rfl 0 rfl ?_
      refine g_callV (As := []) (rest := []) hF (fun l D cy => kt_X7_finish a r w4 l D cy) (Nat.le_of_ble_eq_true rfl) mV_X7_finish m_1319 (recv_ob obC_9) rfl rfl (Nat.le_of_ble_eq_true rfl) d_X7_whileLoop_88 (qV (fun s88 w5 => ?_)) (fun _ _ _ h => h.elim)
      exact g_vret hF rfl d_X7_whileLoop_91 ⟨rfl, rfl, rfl, w5⟩
    · have w6 := w1.2 c
      refine g_aload_n hF d_X7_whileLoop_20 rfl 0 rfl ?_
      refine g_aload_n hF d_X7_whileLoop_21 rfl 0 rfl ?_
      refine g_iload_n hF d_X7_whileLoop_22 rfl 2 rfl ?_
      refine g_callV (As := [.int a2]) (rest := [.ref (r 9)]) hF (fun l D cy => kt_X7_condition a r w6 l D cy) (Nat.le_of_ble_eq_true rfl) mV_X7_condition m_1303 (recv_ob obC_9) rfl rfl (Nat.le_of_ble_eq_true rfl) d_X7_whileLoop_23 (qA (fun u23 s23 hz23 w7 => ?_)) (fun _ _ _ h => h.elim)
      refine g_callV (As := [.ref (r u23)]) (rest := []) hF (fun l D cy => kt_X7_exitUnless a r hz23 w7 l D cy) (Nat.le_of_ble_eq_true rfl) mV_X7_exitUnless m_1313 (recv_ob obC_9) rfl rfl (Nat.le_of_ble_eq_true rfl) d_X7_whileLoop_26 (qV (fun s26 w8 => ?_)) (fun _ _ _ h => h.elim)
      refine g_aload_n hF d_X7_whileLoop_29 rfl 0 rfl ?_
      refine g_iload_n hF d_X7_whileLoop_30 rfl 2 rfl ?_
      refine g_callV (As := [.int a2]) (rest := []) hF (fun l D cy => kt_X7_turn a r w8 l D cy) (Nat.le_of_ble_eq_true rfl) mV_X7_turn m_1336 (recv_ob obC_9) rfl rfl (Nat.le_of_ble_eq_true rfl) d_X7_whileLoop_31 (qV (fun s31 w9 => ?_)) (fun _ _ _ h => h.elim)
      refine g_goto hF 91 d_X7_whileLoop_34 (by decide) ?_
      exact g_vret hF rfl d_X7_whileLoop_91 ⟨rfl, rfl, rfl, w9⟩
  · have w10 := w.2 c
    refine g_aload_n hF d_X7_whileLoop_6 rfl 0 rfl ?_
    refine g_iconst hF (v := 1) d_X7_whileLoop_7 (by decide) ?_
    refine g_callV (As := [.int 1]) (rest := []) hF (fun l D cy => kt_X7_begin a r (Or.inr rfl) w10 l D cy) (Nat.le_of_ble_eq_true rfl) mV_X7_begin m_1308 (recv_ob obC_9) rfl rfl (Nat.le_of_ble_eq_true rfl) d_X7_whileLoop_8 (qV (fun s8 w11 => ?_)) (fun _ _ _ h => h.elim)
    refine g_goto hF 91 d_X7_whileLoop_11 (by decide) ?_
    exact g_vret hF rfl d_X7_whileLoop_91 ⟨rfl, rfl, rfl, w11⟩
set_option maxHeartbeats 4000000 in
set_option maxRecDepth 100000 in
theorem kt_X7_leave_r52 (a : Nat → Nat) (r : Nat → Nat) {a1 : Int32} {σ : St} {Q : St → Prop} (w : wk_X7_leave_r52 a1 σ Q) (l : Launch) (D : va_G) (cy : Nat → ClassId) : Ct l D cy SC r (EC a gC) y_X7_leave (Cond.code y_X7_leave b_X7_leave 4 none) 1 [.ref (r 9), .int a1, .ref (r 52)] σ Z0 [] (QV Q) QT0 := by
  unfold wk_X7_leave_r52 at w
  refine Ct_of (EC_ok a gC) (by decide) (Nat.le_of_ble_eq_true rfl) (by decide) (fun X hnn hF => ?_)
  show G SC r X σ Z0 [] [(0, .ref (r 9)), (1, .int a1), (2, .ref (r 52))] [] 0
  refine g_aload_n hF d_X7_leave_0 rfl 0 rfl ?_
  refine g_get (v := .int (σ 9 5)) hF 5 obC_9 (by decide) m_558 rfl d_X7_leave_1 ?_
  refine g_iconst hF (v := 1) d_X7_leave_4 (by decide) ?_
  refine g_isub hF d_X7_leave_5 ?_
  refine g_istore_n hF [(3, .int ((σ 9 5) - (1 : Int32))), (0, .ref (r 9)), (1, .int a1), (2, .ref (r 52))] d_X7_leave_6 rfl hnn (by decide) rfl ?_
  obtain ⟨L7, ⟨i7, u7⟩, h7⟩ := w
  have b7 : ∀ (n7 : Nat) (x3_7 : Int32), L7 n7 x3_7 → G SC r X σ Z0 [] [(0, .ref (r 9)), (1, .int a1), (2, .ref (r 52)), (3, .int x3_7)] [] 7 := by
    intro n7
    induction n7 using Nat.strongRecOn with
    | _ n7 ih7 =>
      intro x3_7  w7_
      have w7_ := h7 n7 x3_7  w7_
      refine g_iload_n hF d_X7_leave_7 rfl 3 rfl ?_
      obtain ⟨J28, h28, w1⟩ := w7_
      have b28 : J28  → G SC r X σ Z0 [] [(0, .ref (r 9)), (1, .int a1), (2, .ref (r 52)), (3, .int x3_7)] [] 28 := by
        intro   w28_
        have w28_ := h28   w28_
        refine g_iload_n hF d_X7_leave_28 rfl 3 rfl ?_
        refine g_if_ge hF 44 d_X7_leave_29 (by decide) rfl (fun c => ?_) (fun c => ?_)
        · have w2 := w28_.1 c
          refine g_aload_n hF d_X7_leave_44 rfl 2 rfl ?_
          refine g_iload_n hF d_X7_leave_45 rfl 3 rfl ?_
          refine g_aload_n hF d_X7_leave_46 rfl 0 rfl ?_
          refine g_get (v := .ref (r 4)) hF 2 obC_9 (by decide) m_555 rfl d_X7_leave_47 ?_
          refine g_bipush hF (v := 26) d_X7_leave_50 (by decide) ?_
          refine g_aload_n hF d_X7_leave_52 rfl 2 rfl ?_
          refine g_iload_n hF d_X7_leave_53 rfl 3 rfl ?_
          refine g_callSN (As := [.ref (r 52), .int x3_7]) (rest := [.int 26, .ref (r 4), .int x3_7, .ref (r 52)]) hF (c_atv a r σ arC_52 (by decide) x3_7) (Nat.le_of_ble_eq_true rfl) mS_X12_at nm_1053 rfl rfl (Nat.le_of_ble_eq_true rfl) d_X7_leave_54 (kQ ?_)
          refine g_top (v := (atv 26 (σ 52) x3_7)) rfl ?_
          refine g_iconst hF (v := 0) d_X7_leave_57 (by decide) ?_
          refine g_iconst hF (v := 0) d_X7_leave_58 (by decide) ?_
          refine g_callVN (As := [.int 26, .int (atv 26 (σ 52) x3_7), .int 0, .int 0]) (rest := [.int x3_7, .ref (r 52)]) hF (fun l D cy => kt_X0_emit a r w2 l D cy) (Nat.le_of_ble_eq_true rfl) mV_X0_emit nm_1298 (recv_ob obC_4) rfl rfl (Nat.le_of_ble_eq_true rfl) d_X7_leave_59 (qI (fun v59 s59 w3 => ?_))
          refine g_callSN (As := [.ref (r 52), .int x3_7, .int v59]) (rest := []) hF (c_setv a r s59 arC_52 (by decide) x3_7 v59) (Nat.le_of_ble_eq_true rfl) mS_X12_set nm_1312 rfl rfl (Nat.le_of_ble_eq_true rfl) d_X7_leave_62 (kU ?_)
          exact g_vret hF rfl d_X7_leave_65 ⟨rfl, rfl, rfl, w3⟩
        · have w4 := w28_.2 c
          refine g_aload_n hF d_X7_leave_32 rfl 0 rfl ?_
          refine g_get (v := .ref (r 6)) hF 1 obC_9 (by decide) m_554 rfl d_X7_leave_33 ?_
          refine g_iconst hF (v := 2) d_X7_leave_36 (by decide) ?_
          refine g_iload_n hF d_X7_leave_37 rfl 1 rfl ?_
          refine g_callVN (As := [.int 2, .int a1]) (rest := []) hF (fun l D cy => kt_X11_fail a r w4 l D cy) (Nat.le_of_ble_eq_true rfl) mV_X11_fail nm_1307 (recv_ob obC_6) rfl rfl (Nat.le_of_ble_eq_true rfl) d_X7_leave_38 (qV (fun s38 w5 => ?_))
          refine g_goto hF 65 d_X7_leave_41 (by decide) ?_
          exact g_vret hF rfl d_X7_leave_65 ⟨rfl, rfl, rfl, w5⟩
      refine g_if_lt hF 28 d_X7_leave_8 (by decide) rfl (fun c => ?_) (fun c => ?_)
      · have w6 := w1.1 c
        exact b28  w6
      · have w7 := w1.2 c
        refine g_aload_n hF d_X7_leave_11 rfl 0 rfl ?_
        refine g_get (v := .ref (r 49)) hF 6 obC_9 (by decide) m_559 rfl d_X7_leave_12 ?_
        refine g_iload_n hF d_X7_leave_15 rfl 3 rfl ?_
        refine g_callSN (As := [.ref (r 49), .int x3_7]) (rest := []) hF (c_atv a r σ arC_49 (by decide) x3_7) (Nat.le_of_ble_eq_true rfl) mS_X12_at nm_1053 rfl rfl (Nat.le_of_ble_eq_true rfl) d_X7_leave_16 (kQ ?_)
        refine g_top (v := (atv 26 (σ 49) x3_7)) rfl ?_
        refine g_if_ne hF 28 d_X7_leave_19 (by decide) rfl (fun c => ?_) (fun c => ?_)
        · have w8 := w7.1 c
          exact b28  w8
        · have w9 := w7.2 c
          refine g_iinc hF (x3_7 + (-1)) [(3, .int (x3_7 + (-1))), (0, .ref (r 9)), (1, .int a1), (2, .ref (r 52))] d_X7_leave_22 3 rfl rfl hnn (by decide) rfl ?_
          refine g_goto hF 7 d_X7_leave_25 (by decide) ?_
          obtain ⟨m7, hm7, w9⟩ := w9
          exact g_sub (L' := [(0, .ref (r 9)), (1, .int a1), (2, .ref (r 52)), (3, .int (x3_7 + (-1)))]) [1, 2, 3, 0] rfl (ih7 m7 hm7 (x3_7 + (-1)) w9)
  exact g_sub (L' := [(0, .ref (r 9)), (1, .int a1), (2, .ref (r 52)), (3, .int ((σ 9 5) - (1 : Int32)))]) [1, 2, 3, 0] rfl (b7 i7 ((σ 9 5) - (1 : Int32)) u7)
set_option maxHeartbeats 4000000 in
set_option maxRecDepth 100000 in
theorem kt_X7_leave_r51 (a : Nat → Nat) (r : Nat → Nat) {a1 : Int32} {σ : St} {Q : St → Prop} (w : wk_X7_leave_r51 a1 σ Q) (l : Launch) (D : va_G) (cy : Nat → ClassId) : Ct l D cy SC r (EC a gC) y_X7_leave (Cond.code y_X7_leave b_X7_leave 4 none) 1 [.ref (r 9), .int a1, .ref (r 51)] σ Z0 [] (QV Q) QT0 := by
  unfold wk_X7_leave_r51 at w
  refine Ct_of (EC_ok a gC) (by decide) (Nat.le_of_ble_eq_true rfl) (by decide) (fun X hnn hF => ?_)
  show G SC r X σ Z0 [] [(0, .ref (r 9)), (1, .int a1), (2, .ref (r 51))] [] 0
  refine g_aload_n hF d_X7_leave_0 rfl 0 rfl ?_
  refine g_get (v := .int (σ 9 5)) hF 5 obC_9 (by decide) m_558 rfl d_X7_leave_1 ?_
  refine g_iconst hF (v := 1) d_X7_leave_4 (by decide) ?_
  refine g_isub hF d_X7_leave_5 ?_
  refine g_istore_n hF [(3, .int ((σ 9 5) - (1 : Int32))), (0, .ref (r 9)), (1, .int a1), (2, .ref (r 51))] d_X7_leave_6 rfl hnn (by decide) rfl ?_
  obtain ⟨L7, ⟨i7, u7⟩, h7⟩ := w
  have b7 : ∀ (n7 : Nat) (x3_7 : Int32), L7 n7 x3_7 → G SC r X σ Z0 [] [(0, .ref (r 9)), (1, .int a1), (2, .ref (r 51)), (3, .int x3_7)] [] 7 := by
    intro n7
    induction n7 using Nat.strongRecOn with
    | _ n7 ih7 =>
      intro x3_7  w7_
      have w7_ := h7 n7 x3_7  w7_
      refine g_iload_n hF d_X7_leave_7 rfl 3 rfl ?_
      obtain ⟨J28, h28, w1⟩ := w7_
      have b28 : J28  → G SC r X σ Z0 [] [(0, .ref (r 9)), (1, .int a1), (2, .ref (r 51)), (3, .int x3_7)] [] 28 := by
        intro   w28_
        have w28_ := h28   w28_
        refine g_iload_n hF d_X7_leave_28 rfl 3 rfl ?_
        refine g_if_ge hF 44 d_X7_leave_29 (by decide) rfl (fun c => ?_) (fun c => ?_)
        · have w2 := w28_.1 c
          refine g_aload_n hF d_X7_leave_44 rfl 2 rfl ?_
          refine g_iload_n hF d_X7_leave_45 rfl 3 rfl ?_
          refine g_aload_n hF d_X7_leave_46 rfl 0 rfl ?_
          refine g_get (v := .ref (r 4)) hF 2 obC_9 (by decide) m_555 rfl d_X7_leave_47 ?_
          refine g_bipush hF (v := 26) d_X7_leave_50 (by decide) ?_
          refine g_aload_n hF d_X7_leave_52 rfl 2 rfl ?_
          refine g_iload_n hF d_X7_leave_53 rfl 3 rfl ?_
          refine g_callSN (As := [.ref (r 51), .int x3_7]) (rest := [.int 26, .ref (r 4), .int x3_7, .ref (r 51)]) hF (c_atv a r σ arC_51 (by decide) x3_7) (Nat.le_of_ble_eq_true rfl) mS_X12_at nm_1053 rfl rfl (Nat.le_of_ble_eq_true rfl) d_X7_leave_54 (kQ ?_)
          refine g_top (v := (atv 26 (σ 51) x3_7)) rfl ?_
          refine g_iconst hF (v := 0) d_X7_leave_57 (by decide) ?_
          refine g_iconst hF (v := 0) d_X7_leave_58 (by decide) ?_
          refine g_callVN (As := [.int 26, .int (atv 26 (σ 51) x3_7), .int 0, .int 0]) (rest := [.int x3_7, .ref (r 51)]) hF (fun l D cy => kt_X0_emit a r w2 l D cy) (Nat.le_of_ble_eq_true rfl) mV_X0_emit nm_1298 (recv_ob obC_4) rfl rfl (Nat.le_of_ble_eq_true rfl) d_X7_leave_59 (qI (fun v59 s59 w3 => ?_))
          refine g_callSN (As := [.ref (r 51), .int x3_7, .int v59]) (rest := []) hF (c_setv a r s59 arC_51 (by decide) x3_7 v59) (Nat.le_of_ble_eq_true rfl) mS_X12_set nm_1312 rfl rfl (Nat.le_of_ble_eq_true rfl) d_X7_leave_62 (kU ?_)
          exact g_vret hF rfl d_X7_leave_65 ⟨rfl, rfl, rfl, w3⟩
        · have w4 := w28_.2 c
          refine g_aload_n hF d_X7_leave_32 rfl 0 rfl ?_
          refine g_get (v := .ref (r 6)) hF 1 obC_9 (by decide) m_554 rfl d_X7_leave_33 ?_
          refine g_iconst hF (v := 2) d_X7_leave_36 (by decide) ?_
          refine g_iload_n hF d_X7_leave_37 rfl 1 rfl ?_
          refine g_callVN (As := [.int 2, .int a1]) (rest := []) hF (fun l D cy => kt_X11_fail a r w4 l D cy) (Nat.le_of_ble_eq_true rfl) mV_X11_fail nm_1307 (recv_ob obC_6) rfl rfl (Nat.le_of_ble_eq_true rfl) d_X7_leave_38 (qV (fun s38 w5 => ?_))
          refine g_goto hF 65 d_X7_leave_41 (by decide) ?_
          exact g_vret hF rfl d_X7_leave_65 ⟨rfl, rfl, rfl, w5⟩
      refine g_if_lt hF 28 d_X7_leave_8 (by decide) rfl (fun c => ?_) (fun c => ?_)
      · have w6 := w1.1 c
        exact b28  w6
      · have w7 := w1.2 c
        refine g_aload_n hF d_X7_leave_11 rfl 0 rfl ?_
        refine g_get (v := .ref (r 49)) hF 6 obC_9 (by decide) m_559 rfl d_X7_leave_12 ?_
        refine g_iload_n hF d_X7_leave_15 rfl 3 rfl ?_
        refine g_callSN (As := [.ref (r 49), .int x3_7]) (rest := []) hF (c_atv a r σ arC_49 (by decide) x3_7) (Nat.le_of_ble_eq_true rfl) mS_X12_at nm_1053 rfl rfl (Nat.le_of_ble_eq_true rfl) d_X7_leave_16 (kQ ?_)
        refine g_top (v := (atv 26 (σ 49) x3_7)) rfl ?_
        refine g_if_ne hF 28 d_X7_leave_19 (by decide) rfl (fun c => ?_) (fun c => ?_)
        · have w8 := w7.1 c
          exact b28  w8
        · have w9 := w7.2 c
          refine g_iinc hF (x3_7 + (-1)) [(3, .int (x3_7 + (-1))), (0, .ref (r 9)), (1, .int a1), (2, .ref (r 51))] d_X7_leave_22 3 rfl rfl hnn (by decide) rfl ?_
          refine g_goto hF 7 d_X7_leave_25 (by decide) ?_
          obtain ⟨m7, hm7, w9⟩ := w9
          exact g_sub (L' := [(0, .ref (r 9)), (1, .int a1), (2, .ref (r 51)), (3, .int (x3_7 + (-1)))]) [1, 2, 3, 0] rfl (ih7 m7 hm7 (x3_7 + (-1)) w9)
  exact g_sub (L' := [(0, .ref (r 9)), (1, .int a1), (2, .ref (r 51)), (3, .int ((σ 9 5) - (1 : Int32)))]) [1, 2, 3, 0] rfl (b7 i7 ((σ 9 5) - (1 : Int32)) u7)
set_option maxHeartbeats 4000000 in
set_option maxRecDepth 100000 in
theorem kt_X7_conditional (a : Nat → Nat) (r : Nat → Nat) {a1 : Int32} {a2 : Int32} {σ : St} {Q : St → Prop} (w : wk_X7_conditional a1 a2 σ Q) (l : Launch) (D : va_G) (cy : Nat → ClassId) : Ct l D cy SC r (EC a gC) y_X7_conditional (Cond.code y_X7_conditional b_X7_conditional 4 none) 4 [.ref (r 9), .int a1, .int a2] σ Z0 [] (QV Q) QT0 := by
  unfold wk_X7_conditional at w
  refine Ct_of (EC_ok a gC) (by decide) (Nat.le_of_ble_eq_true rfl) (by decide) (fun X hnn hF => ?_)
  show G SC r X σ Z0 [] [(0, .ref (r 9)), (1, .int a1), (2, .int a2)] [] 0
  refine g_iload_n hF d_X7_conditional_0 rfl 1 rfl ?_
  refine g_bipush hF (v := 23) d_X7_conditional_1 (by decide) ?_
  refine g_icmp_ne (yv := 23) hF 25 d_X7_conditional_3 (by decide) rfl (by decide) (fun c => ?_) (fun c => ?_)
  · have w1 := w.1 c
    refine g_iload_n hF d_X7_conditional_25 rfl 1 rfl ?_
    refine g_bipush hF (v := 24) d_X7_conditional_26 (by decide) ?_
    refine g_icmp_ne (yv := 24) hF 88 d_X7_conditional_28 (by decide) rfl (by decide) (fun c => ?_) (fun c => ?_)
    · have w2 := w1.1 c
      refine g_aload_n hF d_X7_conditional_88 rfl 0 rfl ?_
      refine g_callV (As := []) (rest := []) hF (fun l D cy => kt_X7_finish a r w2 l D cy) (Nat.le_of_ble_eq_true rfl) mV_X7_finish m_1319 (recv_ob obC_9) rfl rfl (Nat.le_of_ble_eq_true rfl) d_X7_conditional_89 (qV (fun s89 w3 => ?_)) (fun _ _ _ h => h.elim)
      exact g_vret hF rfl d_X7_conditional_92 ⟨rfl, rfl, rfl, w3⟩
    · have w4 := w1.2 c
      refine g_aload_n hF d_X7_conditional_31 rfl 0 rfl ?_
      refine g_get (v := .ref (r 4)) hF 2 obC_9 (by decide) m_555 rfl d_X7_conditional_32 ?_
      refine g_bipush hF (v := 26) d_X7_conditional_35 (by decide) ?_
      refine g_iconst hF (v := (-1)) d_X7_conditional_37 (by decide) ?_
      refine g_iconst hF (v := 0) d_X7_conditional_38 (by decide) ?_
      refine g_iconst hF (v := 0) d_X7_conditional_39 (by decide) ?_
      refine g_callVN (As := [.int 26, .int (-1), .int 0, .int 0]) (rest := []) hF (fun l D cy => kt_X0_emit a r w4 l D cy) (Nat.le_of_ble_eq_true rfl) mV_X0_emit nm_1298 (recv_ob obC_4) rfl rfl (Nat.le_of_ble_eq_true rfl) d_X7_conditional_40 (qI (fun v40 s40 w5 => ?_))
      refine g_istore_n hF [(3, .int v40), (0, .ref (r 9)), (1, .int a1), (2, .int a2)] d_X7_conditional_43 rfl hnn (by decide) rfl ?_
      refine g_aload_n hF d_X7_conditional_44 rfl 1 rfl ?_
      refine g_get (v := .ref (r 4)) hF 2 obC_9 (by decide) m_555 rfl d_X7_conditional_45 ?_
      refine g_aload_n hF d_X7_conditional_48 rfl 1 rfl ?_
      refine g_get (v := .ref (r 51)) hF 8 obC_9 (by decide) m_561 rfl d_X7_conditional_49 ?_
      refine g_aload_n hF d_X7_conditional_52 rfl 1 rfl ?_
      refine g_get (v := .int (s40 9 5)) hF 5 obC_9 (by decide) m_558 rfl d_X7_conditional_53 ?_
      refine g_iconst hF (v := 1) d_X7_conditional_56 (by decide) ?_
      refine g_isub hF d_X7_conditional_57 ?_
      refine g_callSN (As := [.ref (r 51), .int ((s40 9 5) - (1 : Int32))]) (rest := [.ref (r 4)]) hF (c_atv a r s40 arC_51 (by decide) ((s40 9 5) - (1 : Int32))) (Nat.le_of_ble_eq_true rfl) mS_X12_at nm_1053 rfl rfl (Nat.le_of_ble_eq_true rfl) d_X7_conditional_58 (kQ ?_)
      refine g_top (v := (atv 26 (s40 51) ((s40 9 5) - (1 : Int32)))) rfl ?_
      refine g_aload_n hF d_X7_conditional_61 rfl 1 rfl ?_
      refine g_get (v := .ref (r 4)) hF 2 obC_9 (by decide) m_555 rfl d_X7_conditional_62 ?_
      refine g_getN (v := .int (s40 4 1)) hF 1 obC_4 (by decide) nm_154 rfl d_X7_conditional_65 ?_
      refine g_callVN (As := [.int (atv 26 (s40 51) ((s40 9 5) - (1 : Int32))), .int (s40 4 1)]) (rest := []) hF (fun l D cy => kt_X0_aim a r w5 l D cy) (Nat.le_of_ble_eq_true rfl) mV_X0_aim nm_1318 (recv_ob obC_4) rfl rfl (Nat.le_of_ble_eq_true rfl) d_X7_conditional_68 (qV (fun s68 w6 => ?_))
      refine g_aload_n hF d_X7_conditional_71 rfl 1 rfl ?_
      refine g_get (v := .ref (r 51)) hF 8 obC_9 (by decide) m_561 rfl d_X7_conditional_72 ?_
      refine g_aload_n hF d_X7_conditional_75 rfl 1 rfl ?_
      refine g_get (v := .int (s68 9 5)) hF 5 obC_9 (by decide) m_558 rfl d_X7_conditional_76 ?_
      refine g_iconst hF (v := 1) d_X7_conditional_79 (by decide) ?_
      refine g_isub hF d_X7_conditional_80 ?_
      refine g_iload_n hF d_X7_conditional_81 rfl 0 rfl ?_
      refine g_callSN (As := [.ref (r 51), .int ((s68 9 5) - (1 : Int32)), .int v40]) (rest := []) hF (c_setv a r s68 arC_51 (by decide) ((s68 9 5) - (1 : Int32)) v40) (Nat.le_of_ble_eq_true rfl) mS_X12_set nm_1312 rfl rfl (Nat.le_of_ble_eq_true rfl) d_X7_conditional_82 (kU ?_)
      refine g_goto hF 92 d_X7_conditional_85 (by decide) ?_
      exact g_vret hF rfl d_X7_conditional_92 ⟨rfl, rfl, rfl, w6⟩
  · have w7 := w.2 c
    refine g_aload_n hF d_X7_conditional_6 rfl 0 rfl ?_
    refine g_iload_n hF d_X7_conditional_7 rfl 2 rfl ?_
    refine g_callV (As := [.int a2]) (rest := []) hF (fun l D cy => kt_X7_condition a r w7 l D cy) (Nat.le_of_ble_eq_true rfl) mV_X7_condition m_1303 (recv_ob obC_9) rfl rfl (Nat.le_of_ble_eq_true rfl) d_X7_conditional_8 (qA (fun u8 s8 hz8 w8 => ?_)) (fun _ _ _ h => h.elim)
    refine g_astore_n hF [(3, .ref (r u8)), (0, .ref (r 9)), (1, .int a1), (2, .int a2)] d_X7_conditional_11 rfl hnn (by decide) rfl ?_
    refine g_aload_n hF d_X7_conditional_12 rfl 1 rfl ?_
    refine g_iconst hF (v := 0) d_X7_conditional_13 (by decide) ?_
    refine g_callV (As := [.int 0]) (rest := []) hF (fun l D cy => kt_X7_begin a r (Or.inl rfl) w8 l D cy) (Nat.le_of_ble_eq_true rfl) mV_X7_begin m_1308 (recv_ob obC_9) rfl rfl (Nat.le_of_ble_eq_true rfl) d_X7_conditional_14 (qV (fun s14 w9 => ?_)) (fun _ _ _ h => h.elim)
    refine g_aload_n hF d_X7_conditional_17 rfl 1 rfl ?_
    refine g_aload_n hF d_X7_conditional_18 rfl 0 rfl ?_
    refine g_callV (As := [.ref (r u8)]) (rest := []) hF (fun l D cy => kt_X7_exitUnless a r hz8 w9 l D cy) (Nat.le_of_ble_eq_true rfl) mV_X7_exitUnless m_1313 (recv_ob obC_9) rfl rfl (Nat.le_of_ble_eq_true rfl) d_X7_conditional_19 (qV (fun s19 w10 => ?_)) (fun _ _ _ h => h.elim)
    refine g_goto hF 92 d_X7_conditional_22 (by decide) ?_
    exact g_vret hF rfl d_X7_conditional_92 ⟨rfl, rfl, rfl, w10⟩
