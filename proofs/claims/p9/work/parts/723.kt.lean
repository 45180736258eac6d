set_option maxHeartbeats 4000000 in
set_option maxRecDepth 100000 in
theorem kt_X12_run (a : Nat → Nat) (r : Nat → Nat) {a1 : Int32} {σ : St} {Q : Int32 → St → Prop} (w : wk_X12_run a1 σ Q) (l : Launch) (D : va_G) (cy : Nat → ClassId) : Ct l D cy SC r (EC a gC) y_X12_run (Cond.code y_X12_run b_X12_run 2 (some .int)) 7 [.ref (r 0), .int a1] σ Z0 [] (QI Q) QT0 := by
  unfold wk_X12_run at w
  refine Ct_of (EC_ok a gC) (by decide) (Nat.le_of_ble_eq_true rfl) (by decide) (fun X hnn hF => ?_)
  show G SC r X σ Z0 [] [(0, .ref (r 0)), (1, .int a1)] [] 0
  refine g_aload_n hF d_X12_run_0 rfl 0 rfl ?_
  refine g_get (v := .ref (r 10)) hF 12 obC_0 (by decide) m_747 rfl d_X12_run_1 ?_
  refine g_getN (v := .int (σ 10 2)) hF 2 obC_10 (by decide) nm_600 rfl d_X12_run_4 ?_
  refine g_if_ne hF 12 d_X12_run_7 (by decide) rfl (fun c => ?_) (fun c => ?_)
  · have w1 := w.1 c
    refine g_iload_n hF d_X12_run_12 rfl 1 rfl ?_
    refine g_if_lt hF 23 d_X12_run_13 (by decide) rfl (fun c => ?_) (fun c => ?_)
    · have w2 := w1.1 c
      refine g_bipush hF (v := (-2)) d_X12_run_23 (by decide) ?_
      refine g_goto hF 36 d_X12_run_25 (by decide) ?_
      exact g_iret hF rfl d_X12_run_36 ⟨rfl, rfl, ((-2) : Int32), rfl, w2⟩
    · have w3 := w1.2 c
      refine g_iload_n hF d_X12_run_16 rfl 1 rfl ?_
      refine g_sipush hF (v := 20000) d_X12_run_17 (by decide) ?_
      refine g_icmp_le (yv := 20000) hF 28 d_X12_run_20 (by decide) rfl (by decide) (fun c => ?_) (fun c => ?_)
      · have w4 := w3.1 c
        refine g_aload_n hF d_X12_run_28 rfl 0 rfl ?_
        refine g_get (v := .ref (r 12)) hF 14 obC_0 (by decide) m_749 rfl d_X12_run_29 ?_
        refine g_iload_n hF d_X12_run_32 rfl 1 rfl ?_
        refine g_callVN (As := [.int a1]) (rest := []) hF (fun l D cy => kt_X5_execute a r w4 l D cy) (Nat.le_of_ble_eq_true rfl) mV_X5_execute nm_1629 (recv_ob obC_12) rfl rfl (Nat.le_of_ble_eq_true rfl) d_X12_run_33 (qI (fun v33 s33 w5 => ?_))
        exact g_iret hF rfl d_X12_run_36 ⟨rfl, rfl, v33, rfl, w5⟩
      · have w6 := w3.2 c
        refine g_bipush hF (v := (-2)) d_X12_run_23 (by decide) ?_
        refine g_goto hF 36 d_X12_run_25 (by decide) ?_
        exact g_iret hF rfl d_X12_run_36 ⟨rfl, rfl, ((-2) : Int32), rfl, w6⟩
  · have w7 := w.2 c
    refine g_iconst hF (v := (-1)) d_X12_run_10 (by decide) ?_
    exact g_iret hF rfl d_X12_run_11 ⟨rfl, rfl, ((-1) : Int32), rfl, w7⟩
set_option maxHeartbeats 4000000 in
set_option maxRecDepth 100000 in
theorem kt_X12_result (a : Nat → Nat) (r : Nat → Nat) {σ : St} {Q : Int32 → Prop} (w : wk_X12_result  σ Q) (l : Launch) (D : va_G) (cy : Nat → ClassId) : Ct l D cy SC r (EC a gC) y_X12_result (Cond.code y_X12_result b_X12_result 1 (some .int)) 0 [.ref (r 0)] σ Z0 [] (QI (fun x σ9 => σ9 = σ ∧ Q x)) QT0 := by
  unfold wk_X12_result at w
  refine Ct_of (EC_ok a gC) (by decide) (Nat.le_of_ble_eq_true rfl) (by decide) (fun X hnn hF => ?_)
  show G SC r X σ Z0 [] [(0, .ref (r 0))] [] 0
  refine g_aload_n hF d_X12_result_0 rfl 0 rfl ?_
  refine g_get (v := .ref (r 12)) hF 14 obC_0 (by decide) m_749 rfl d_X12_result_1 ?_
  refine g_getN (v := .int (σ 12 15)) hF 15 obC_12 (by decide) nm_689 rfl d_X12_result_4 ?_
  exact g_iret hF rfl d_X12_result_7 ⟨rfl, rfl, (σ 12 15), rfl, ⟨rfl, w⟩⟩
set_option maxHeartbeats 4000000 in
set_option maxRecDepth 100000 in
theorem kt_X12_turns (a : Nat → Nat) (r : Nat → Nat) {σ : St} {Q : Int32 → Prop} (w : wk_X12_turns  σ Q) (l : Launch) (D : va_G) (cy : Nat → ClassId) : Ct l D cy SC r (EC a gC) y_X12_turns (Cond.code y_X12_turns b_X12_turns 1 (some .int)) 0 [.ref (r 0)] σ Z0 [] (QI (fun x σ9 => σ9 = σ ∧ Q x)) QT0 := by
  unfold wk_X12_turns at w
  refine Ct_of (EC_ok a gC) (by decide) (Nat.le_of_ble_eq_true rfl) (by decide) (fun X hnn hF => ?_)
  show G SC r X σ Z0 [] [(0, .ref (r 0))] [] 0
  refine g_aload_n hF d_X12_turns_0 rfl 0 rfl ?_
  refine g_get (v := .ref (r 12)) hF 14 obC_0 (by decide) m_749 rfl d_X12_turns_1 ?_
  refine g_getN (v := .int (σ 12 14)) hF 14 obC_12 (by decide) nm_687 rfl d_X12_turns_4 ?_
  exact g_iret hF rfl d_X12_turns_7 ⟨rfl, rfl, (σ 12 14), rfl, ⟨rfl, w⟩⟩
set_option maxHeartbeats 4000000 in
set_option maxRecDepth 100000 in
theorem kt_X8_objectAt (a : Nat → Nat) (r : Nat → Nat) {a1 : Int32} {σ : St} {Q : Int32 → Prop} (w : wk_X8_objectAt a1 σ Q) (l : Launch) (D : va_G) (cy : Nat → ClassId) : Ct l D cy SC r (EC a gC) y_X8_objectAt (Cond.code y_X8_objectAt b_X8_objectAt 3 (some .int)) 1 [.ref (r 5), .int a1] σ Z0 [] (QI (fun x σ9 => σ9 = σ ∧ Q x)) QT0 := by
  unfold wk_X8_objectAt at w
  refine Ct_of (EC_ok a gC) (by decide) (Nat.le_of_ble_eq_true rfl) (by decide) (fun X hnn hF => ?_)
  show G SC r X σ Z0 [] [(0, .ref (r 5)), (1, .int a1)] [] 0
  refine g_iconst hF (v := 1) d_X8_objectAt_0 (by decide) ?_
  refine g_istore_n hF [(2, .int 1), (0, .ref (r 5)), (1, .int a1)] d_X8_objectAt_1 rfl hnn (by decide) rfl ?_
  obtain ⟨L2, ⟨i2, u2⟩, h2⟩ := w
  have b2 : ∀ (n2 : Nat) (x2_2 : Int32), L2 n2 x2_2 → G SC r X σ Z0 [] [(0, .ref (r 5)), (1, .int a1), (2, .int x2_2)] [] 2 := by
    intro n2
    induction n2 using Nat.strongRecOn with
    | _ n2 ih2 =>
      intro x2_2  w2_
      have w2_ := h2 n2 x2_2  w2_
      refine g_iload_n hF d_X8_objectAt_2 rfl 2 rfl ?_
      refine g_aload_n hF d_X8_objectAt_3 rfl 0 rfl ?_
      refine g_get (v := .int (σ 5 13)) hF 13 obC_5 (by decide) m_249 rfl d_X8_objectAt_4 ?_
      refine g_icmp_gt hF 34 d_X8_objectAt_7 (by decide) rfl rfl (fun c => ?_) (fun c => ?_)
      · have w1 := w2_.1 c
        refine g_iconst hF (v := 0) d_X8_objectAt_34 (by decide) ?_
        exact g_iret hF rfl d_X8_objectAt_35 ⟨rfl, rfl, (0 : Int32), rfl, ⟨rfl, w1⟩⟩
      · have w2 := w2_.2 c
        refine g_iload_n hF d_X8_objectAt_10 rfl 1 rfl ?_
        refine g_if_lt hF 34 d_X8_objectAt_11 (by decide) rfl (fun c => ?_) (fun c => ?_)
        · have w3 := w2.1 c
          refine g_iconst hF (v := 0) d_X8_objectAt_34 (by decide) ?_
          exact g_iret hF rfl d_X8_objectAt_35 ⟨rfl, rfl, (0 : Int32), rfl, ⟨rfl, w3⟩⟩
        · have w4 := w2.2 c
          refine g_iload_n hF d_X8_objectAt_14 rfl 1 rfl ?_
          refine g_aload_n hF d_X8_objectAt_15 rfl 0 rfl ?_
          refine g_get (v := .ref (r 36)) hF 16 obC_5 (by decide) m_256 rfl d_X8_objectAt_16 ?_
          refine g_iload_n hF d_X8_objectAt_19 rfl 2 rfl ?_
          refine g_callSN (As := [.ref (r 36), .int x2_2]) (rest := [.int a1]) hF (c_atv a r σ arC_36 (by decide) x2_2) (Nat.le_of_ble_eq_true rfl) mS_X12_at nm_1125 rfl rfl (Nat.le_of_ble_eq_true rfl) d_X8_objectAt_20 (kQ ?_)
          refine g_top (v := (atv 101 (σ 36) x2_2)) rfl ?_
          refine g_icmp_ge hF 28 d_X8_objectAt_23 (by decide) rfl rfl (fun c => ?_) (fun c => ?_)
          · have w5 := w4.1 c
            refine g_iinc hF (x2_2 + 1) [(2, .int (x2_2 + 1)), (0, .ref (r 5)), (1, .int a1)] d_X8_objectAt_28 2 rfl rfl hnn (by decide) rfl ?_
            refine g_goto hF 2 d_X8_objectAt_31 (by decide) ?_
            obtain ⟨m2, hm2, w9⟩ := w5
            exact g_sub (L' := [(0, .ref (r 5)), (1, .int a1), (2, .int (x2_2 + 1))]) [1, 2, 0] rfl (ih2 m2 hm2 (x2_2 + 1) w9)
          · have w6 := w4.2 c
            refine g_iload_n hF d_X8_objectAt_26 rfl 2 rfl ?_
            exact g_iret hF rfl d_X8_objectAt_27 ⟨rfl, rfl, x2_2, rfl, ⟨rfl, w6⟩⟩
  exact g_sub (L' := [(0, .ref (r 5)), (1, .int a1), (2, .int 1)]) [1, 2, 0] rfl (b2 i2 (1 : Int32) u2)
set_option maxHeartbeats 4000000 in
set_option maxRecDepth 100000 in
theorem kt_X12_trap (a : Nat → Nat) (r : Nat → Nat) {a1 : Int32} {σ : St} {Q : Int32 → Prop} (w : wk_X12_trap a1 σ Q) (l : Launch) (D : va_G) (cy : Nat → ClassId) : Ct l D cy SC r (EC a gC) y_X12_trap (Cond.code y_X12_trap b_X12_trap 2 (some .int)) 2 [.ref (r 0), .int a1] σ Z0 [] (QI (fun x σ9 => σ9 = σ ∧ Q x)) QT0 := by
  unfold wk_X12_trap at w
  refine Ct_of (EC_ok a gC) (by decide) (Nat.le_of_ble_eq_true rfl) (by decide) (fun X hnn hF => ?_)
  show G SC r X σ Z0 [] [(0, .ref (r 0)), (1, .int a1)] [] 0
  refine g_iload_n hF d_X12_trap_0 rfl 1 rfl ?_
  refine g_if_ne hF 21 d_X12_trap_1 (by decide) rfl (fun c => ?_) (fun c => ?_)
  · have w1 := w.1 c
    refine g_iload_n hF d_X12_trap_21 rfl 1 rfl ?_
    refine g_iconst hF (v := 1) d_X12_trap_22 (by decide) ?_
    refine g_icmp_ne (yv := 1) hF 36 d_X12_trap_23 (by decide) rfl (by decide) (fun c => ?_) (fun c => ?_)
    · have w2 := w1.1 c
      refine g_iconst hF (v := 0) d_X12_trap_36 (by decide) ?_
      exact g_iret hF rfl d_X12_trap_37 ⟨rfl, rfl, (0 : Int32), rfl, ⟨rfl, w2⟩⟩
    · have w3 := w1.2 c
      refine g_aload_n hF d_X12_trap_26 rfl 0 rfl ?_
      refine g_get (v := .ref (r 12)) hF 14 obC_0 (by decide) m_749 rfl d_X12_trap_27 ?_
      refine g_getN (v := .int (σ 12 17)) hF 17 obC_12 (by decide) nm_693 rfl d_X12_trap_30 ?_
      refine g_goto hF 37 d_X12_trap_33 (by decide) ?_
      exact g_iret hF rfl d_X12_trap_37 ⟨rfl, rfl, (σ 12 17), rfl, ⟨rfl, w3⟩⟩
  · have w4 := w.2 c
    refine g_aload_n hF d_X12_trap_4 rfl 0 rfl ?_
    refine g_get (v := .ref (r 5)) hF 7 obC_0 (by decide) m_742 rfl d_X12_trap_5 ?_
    refine g_aload_n hF d_X12_trap_8 rfl 0 rfl ?_
    refine g_get (v := .ref (r 12)) hF 14 obC_0 (by decide) m_749 rfl d_X12_trap_9 ?_
    refine g_getN (v := .int (σ 12 16)) hF 16 obC_12 (by decide) nm_691 rfl d_X12_trap_12 ?_
    refine g_callVN (As := [.int (σ 12 16)]) (rest := []) hF (fun l D cy => kt_X8_objectAt a r w4 l D cy) (Nat.le_of_ble_eq_true rfl) mV_X8_objectAt nm_1768 (recv_ob obC_5) rfl rfl (Nat.le_of_ble_eq_true rfl) d_X12_trap_15 (qIr (fun v15 w5 => ?_))
    refine g_goto hF 37 d_X12_trap_18 (by decide) ?_
    exact g_iret hF rfl d_X12_trap_37 ⟨rfl, rfl, v15, rfl, ⟨rfl, w5⟩⟩
set_option maxHeartbeats 4000000 in
set_option maxRecDepth 100000 in
theorem kt_X12_written (a : Nat → Nat) (r : Nat → Nat) {σ : St} {Q : Int32 → Prop} (w : wk_X12_written  σ Q) (l : Launch) (D : va_G) (cy : Nat → ClassId) : Ct l D cy SC r (EC a gC) y_X12_written (Cond.code y_X12_written b_X12_written 1 (some .int)) 0 [.ref (r 0)] σ Z0 [] (QI (fun x σ9 => σ9 = σ ∧ Q x)) QT0 := by
  unfold wk_X12_written at w
  refine Ct_of (EC_ok a gC) (by decide) (Nat.le_of_ble_eq_true rfl) (by decide) (fun X hnn hF => ?_)
  show G SC r X σ Z0 [] [(0, .ref (r 0))] [] 0
  refine g_aload_n hF d_X12_written_0 rfl 0 rfl ?_
  refine g_get (v := .ref (r 11)) hF 13 obC_0 (by decide) m_748 rfl d_X12_written_1 ?_
  refine g_getN (v := .int (σ 11 2)) hF 2 obC_11 (by decide) nm_649 rfl d_X12_written_4 ?_
  exact g_iret hF rfl d_X12_written_7 ⟨rfl, rfl, (σ 11 2), rfl, ⟨rfl, w⟩⟩
set_option maxHeartbeats 4000000 in
set_option maxRecDepth 100000 in
theorem kt_X9_byteAt (a : Nat → Nat) (r : Nat → Nat) {a1 : Int32} {σ : St} {Q : Int32 → Prop} (w : wk_X9_byteAt a1 σ Q) (l : Launch) (D : va_G) (cy : Nat → ClassId) : Ct l D cy SC r (EC a gC) y_X9_byteAt (Cond.code y_X9_byteAt b_X9_byteAt 2 (some .int)) 0 [.ref (r 11), .int a1] σ Z0 [] (QI (fun x σ9 => σ9 = σ ∧ Q x)) QT0 := by
  unfold wk_X9_byteAt at w
  refine Ct_of (EC_ok a gC) (by decide) (Nat.le_of_ble_eq_true rfl) (by decide) (fun X hnn hF => ?_)
  show G SC r X σ Z0 [] [(0, .ref (r 11)), (1, .int a1)] [] 0
  refine g_iload_n hF d_X9_byteAt_0 rfl 1 rfl ?_
  refine g_if_lt hF 34 d_X9_byteAt_1 (by decide) rfl (fun c => ?_) (fun c => ?_)
  · have w1 := w.1 c
    refine g_iconst hF (v := (-1)) d_X9_byteAt_34 (by decide) ?_
    exact g_iret hF rfl d_X9_byteAt_35 ⟨rfl, rfl, ((-1) : Int32), rfl, ⟨rfl, w1⟩⟩
  · have w2 := w.2 c
    refine g_iload_n hF d_X9_byteAt_4 rfl 1 rfl ?_
    refine g_aload_n hF d_X9_byteAt_5 rfl 0 rfl ?_
    refine g_get (v := .int (σ 11 2)) hF 2 obC_11 (by decide) m_648 rfl d_X9_byteAt_6 ?_
    refine g_icmp_ge hF 34 d_X9_byteAt_9 (by decide) rfl rfl (fun c => ?_) (fun c => ?_)
    · have w3 := w2.1 c
      refine g_iconst hF (v := (-1)) d_X9_byteAt_34 (by decide) ?_
      exact g_iret hF rfl d_X9_byteAt_35 ⟨rfl, rfl, ((-1) : Int32), rfl, ⟨rfl, w3⟩⟩
    · have w4 := w2.2 c
      refine g_iload_n hF d_X9_byteAt_12 rfl 1 rfl ?_
      refine g_aload_n hF d_X9_byteAt_13 rfl 0 rfl ?_
      refine g_get (v := .ref (r 61)) hF 4 obC_11 (by decide) m_651 rfl d_X9_byteAt_14 ?_
      refine g_alen hF arC_61 (fun _ => ⟨0, _, rfl⟩) (v := 4096) (by decide) d_X9_byteAt_17 ?_
      refine g_icmp_ge (yv := 4096) hF 34 d_X9_byteAt_18 (by decide) rfl (by decide) (fun c => ?_) (fun c => ?_)
      · have w5 := w4.1 c
        refine g_iconst hF (v := (-1)) d_X9_byteAt_34 (by decide) ?_
        exact g_iret hF rfl d_X9_byteAt_35 ⟨rfl, rfl, ((-1) : Int32), rfl, ⟨rfl, w5⟩⟩
      · have w6 := w4.2 c
        refine g_aload_n hF d_X9_byteAt_21 rfl 0 rfl ?_
        refine g_get (v := .ref (r 61)) hF 4 obC_11 (by decide) m_651 rfl d_X9_byteAt_22 ?_
        refine g_iload_n hF d_X9_byteAt_25 rfl 1 rfl ?_
        have w7 := w6.2
        refine g_bald hF arC_61 (s_in (Nat.le_of_ble_eq_true rfl) w6.1.1 w6.1.2) d_X9_byteAt_26 ?_
        refine g_top (v := (σ 61 a1.toNatClampNeg)) rfl ?_
        refine g_sipush hF (v := 255) d_X9_byteAt_27 (by decide) ?_
        refine g_iand hF d_X9_byteAt_30 ?_
        refine g_goto hF 35 d_X9_byteAt_31 (by decide) ?_
        exact g_iret hF rfl d_X9_byteAt_35 ⟨rfl, rfl, ((σ 61 a1.toNatClampNeg) &&& (255 : Int32)), rfl, ⟨rfl, w7⟩⟩
set_option maxHeartbeats 4000000 in
set_option maxRecDepth 100000 in
theorem kt_X12_out (a : Nat → Nat) (r : Nat → Nat) {a1 : Int32} {σ : St} {Q : Int32 → Prop} (w : wk_X12_out a1 σ Q) (l : Launch) (D : va_G) (cy : Nat → ClassId) : Ct l D cy SC r (EC a gC) y_X12_out (Cond.code y_X12_out b_X12_out 2 (some .int)) 1 [.ref (r 0), .int a1] σ Z0 [] (QI (fun x σ9 => σ9 = σ ∧ Q x)) QT0 := by
  unfold wk_X12_out at w
  refine Ct_of (EC_ok a gC) (by decide) (Nat.le_of_ble_eq_true rfl) (by decide) (fun X hnn hF => ?_)
  show G SC r X σ Z0 [] [(0, .ref (r 0)), (1, .int a1)] [] 0
  refine g_aload_n hF d_X12_out_0 rfl 0 rfl ?_
  refine g_get (v := .ref (r 11)) hF 13 obC_0 (by decide) m_748 rfl d_X12_out_1 ?_
  refine g_iload_n hF d_X12_out_4 rfl 1 rfl ?_
  refine g_callVN (As := [.int a1]) (rest := []) hF (fun l D cy => kt_X9_byteAt a r w l D cy) (Nat.le_of_ble_eq_true rfl) mV_X9_byteAt nm_1780 (recv_ob obC_11) rfl rfl (Nat.le_of_ble_eq_true rfl) d_X12_out_5 (qIr (fun v5 w1 => ?_))
  exact g_iret hF rfl d_X12_out_8 ⟨rfl, rfl, v5, rfl, ⟨rfl, w1⟩⟩
set_option maxHeartbeats 4000000 in
set_option maxRecDepth 100000 in
theorem kt_X12_peek (a : Nat → Nat) (r : Nat → Nat) {a1 : Int32} {σ : St} {Q : Int32 → Prop} (w : wk_X12_peek a1 σ Q) (l : Launch) (D : va_G) (cy : Nat → ClassId) : Ct l D cy SC r (EC a gC) y_X12_peek (Cond.code y_X12_peek b_X12_peek 2 (some .int)) 1 [.ref (r 0), .int a1] σ Z0 [] (QI (fun x σ9 => σ9 = σ ∧ Q x)) QT0 := by
  unfold wk_X12_peek at w
  refine Ct_of (EC_ok a gC) (by decide) (Nat.le_of_ble_eq_true rfl) (by decide) (fun X hnn hF => ?_)
  show G SC r X σ Z0 [] [(0, .ref (r 0)), (1, .int a1)] [] 0
  refine g_aload_n hF d_X12_peek_0 rfl 0 rfl ?_
  refine g_get (v := .ref (r 12)) hF 14 obC_0 (by decide) m_749 rfl d_X12_peek_1 ?_
  refine g_getN (v := .ref (r 62)) hF 4 obC_12 (by decide) nm_676 rfl d_X12_peek_4 ?_
  refine g_iload_n hF d_X12_peek_7 rfl 1 rfl ?_
  refine g_callS (As := [.ref (r 62), .int a1]) (rest := []) hF (c_atv a r σ arC_62 (by decide) a1) (Nat.le_of_ble_eq_true rfl) mS_X12_at m_1036 rfl rfl (Nat.le_of_ble_eq_true rfl) d_X12_peek_8 (kQ ?_) (fun _ _ _ h => h.elim)
  refine g_top (v := (atv 32768 (σ 62) a1)) rfl ?_
  exact g_iret hF rfl d_X12_peek_11 ⟨rfl, rfl, (atv 32768 (σ 62) a1), rfl, ⟨rfl, w⟩⟩
set_option maxHeartbeats 4000000 in
set_option maxRecDepth 100000 in
theorem kt_X12_strays (a : Nat → Nat) (r : Nat → Nat) {σ : St} {Q : Int32 → Prop} (w : wk_X12_strays  σ Q) (l : Launch) (D : va_G) (cy : Nat → ClassId) : Ct l D cy SC r (EC a gC) y_X12_strays (Cond.code y_X12_strays b_X12_strays 1 (some .int)) 0 [.ref (r 0)] σ Z0 [] (QI (fun x σ9 => σ9 = σ ∧ Q x)) QT0 := by
  unfold wk_X12_strays at w
  refine Ct_of (EC_ok a gC) (by decide) (Nat.le_of_ble_eq_true rfl) (by decide) (fun X hnn hF => ?_)
  show G SC r X σ Z0 [] [(0, .ref (r 0))] [] 0
  refine g_aload_n hF d_X12_strays_0 rfl 0 rfl ?_
  refine g_get (v := .ref (r 12)) hF 14 obC_0 (by decide) m_749 rfl d_X12_strays_1 ?_
  refine g_getN (v := .int (σ 12 18)) hF 18 obC_12 (by decide) nm_695 rfl d_X12_strays_4 ?_
  exact g_iret hF rfl d_X12_strays_7 ⟨rfl, rfl, (σ 12 18), rfl, ⟨rfl, w⟩⟩
