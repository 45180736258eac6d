section
set_option maxHeartbeats 4000000 in
set_option maxRecDepth 100000 in
theorem kt_X12_run (a : Nat → Nat) (r : Nat → Nat) {a1 : Int32} {σ : St} {Q : Int32 → St → Prop} (w : wk_X12_run a1 σ Q) (l : Launch) (D : va_G) (cy : Nat → ClassId) : Ct l D cy SC r (EC a gC) y_X12_run (Cond.code y_X12_run b_X12_run 2 (some .int)) 7 [.ref (r 0), .int a1] σ Z0 [] (QI Q) QT0 := by
  unfold wk_X12_run at w
  refine Ct_of (EC_ok a gC) (by decide) (Nat.le_of_ble_eq_true rfl) (by decide) (fun X hnn hF => ?_)
  show G SC r X σ Z0 [] [(0, .ref (r 0)), (1, .int a1)] [] 0
  refine g_aload_n hF d_X12_run_0 rfl 0 rfl ?_
  refine g_get (v := .ref (r 10)) hF 12 obC_0 (by decide) m_747 rfl d_X12_run_1 ?_
  refine g_getN (v := .int (σ 10 2)) hF 2 obC_10 (by decide) nm_600 rfl d_X12_run_4 ?_
  refine g_if_ne hF 12 d_X12_run_7 (by decide) rfl (fun c => ?_) (fun c => ?_)
  · have w1 := w.1 c
    refine g_iload_n hF d_X12_run_12 rfl 1 rfl ?_
    refine g_if_lt hF 23 d_X12_run_13 (by decide) rfl (fun c => ?_) (fun c => ?_)
    · have w2 := w1.1 c
      refine g_bipush hF (v := (-2)) d_X12_run_23 (by decide) ?_
      refine g_goto hF 36 d_X12_run_25 (by decide) ?_
      exact g_iret hF rfl d_X12_run_36 ⟨rfl, rfl, ((-2) : Int32), rfl, w2⟩
    · have w3 := w1.2 c
      refine g_iload_n hF d_X12_run_16 rfl 1 rfl ?_
      refine g_sipush hF (v := 20000) d_X12_run_17 (by decide) ?_
      refine g_icmp_le (yv := 20000) hF 28 d_X12_run_20 (by decide) rfl (by decide) (fun c => ?_) (fun c => ?_)
      · have w4 := w3.1 c
        refine g_aload_n hF d_X12_run_28 rfl 0 rfl ?_
        refine g_get (v := .ref (r 12)) hF 14 obC_0 (by decide) m_749 rfl d_X12_run_29 ?_
        refine g_iload_n hF d_X12_run_32 rfl 1 rfl ?_
        refine g_callVN (As := [.int a1]) (rest := []) hF (fun l D cy => kt_X5_execute a r w4 l D cy) (Nat.le_of_ble_eq_true rfl) mV_X5_execute nm_1629 (recv_ob obC_12) rfl rfl (Nat.le_of_ble_eq_true rfl) d_X12_run_33 (qI (fun v33 s33 w5 => ?_))
        exact g_iret hF rfl d_X12_run_36 ⟨rfl, rfl, v33, rfl, w5⟩
      · have w6 := w3.2 c
        refine g_bipush hF (v := (-2)) d_X12_run_23 (by decide) ?_
        refine g_goto hF 36 d_X12_run_25 (by decide) ?_
        exact g_iret hF rfl d_X12_run_36 ⟨rfl, rfl, ((-2) : Int32), rfl, w6⟩
  · have w7 := w.2 c
    refine g_iconst hF (v := (-1)) d_X12_run_10 (by decide) ?_
    exact g_iret hF rfl d_X12_run_11 ⟨rfl, rfl, ((-1) : Int32), rfl, w7⟩
set_option maxHeartbeats 4000000 in
set_option maxRecDepth 100000 in
theorem kt_X12_result (a : Nat → Nat) (r : Nat → Nat) {σ : St} {Q : Int32 → Prop} (w : wk_X12_result  σ Q) (l : Launch) (D : va_G) (cy : Nat → ClassId) : Ct l D cy SC r (EC a gC) y_X12_result (Cond.code y_X12_result b_X12_result 1 (some .int)) 0 [.ref (r 0)] σ Z0 [] (QI (fun x σ9 => σ9 = σ ∧ Q x)) QT0 := by
  unfold wk_X12_result at w
  refine Ct_of (EC_ok a gC) (by decide) (Nat.le_of_ble_eq_true rfl) (by decide) (fun X hnn hF => ?_)
  show G SC r X σ Z0 [] [(0, .ref (r 0))] [] 0
  refine g_aload_n hF d_X12_result_0 rfl 0 rfl ?_
  refine g_get (v := .ref (r 12)) hF 14 obC_0 (by decide) m_749 rfl d_X12_result_1 ?_
  refine g_getN (v := .int (σ 12 15)) hF 15 obC_12 (by decide) nm_689 rfl d_X12_result_4 ?_
  exact g_iret hF rfl d_X12_result_7 ⟨rfl, rfl, (σ 12 15), rfl, ⟨rfl, w⟩⟩
set_option maxHeartbeats 4000000 in
set_option maxRecDepth 100000 in
theorem kt_X12_turns (a : Nat → Nat) (r : Nat → Nat) {σ : St} {Q : Int32 → Prop} (w : wk_X12_turns  σ Q) (l : Launch) (D : va_G) (cy : Nat → ClassId) : Ct l D cy SC r (EC a gC) y_X12_turns (Cond.code y_X12_turns b_X12_turns 1 (some .int)) 0 [.ref (r 0)] σ Z0 [] (QI (fun x σ9 => σ9 = σ ∧ Q x)) QT0 := by
  unfold wk_X12_turns at w
  refine Ct_of (EC_ok a gC) (by decide) (Nat.le_of_ble_eq_true rfl) (by decide) (fun X hnn hF => ?_)
  show G SC r X σ Z0 [] [(0, .ref (r 0))] [] 0
  refine g_aload_n hF d_X12_turns_0 rfl 0 rfl ?_
  refine g_get (v := .ref (r 12)) hF 14 obC_0 (by decide) m_749 rfl d_X12_turns_1 ?_
  refine g_getN (v := .int (σ 12 14)) hF 14 obC_12 (by decide) nm_687 rfl d_X12_turns_4 ?_
  exact g_iret hF rfl d_X12_turns_7 ⟨rfl, rfl, (σ 12 14), rfl, ⟨rfl, w⟩⟩
set_option maxHeartbeats 4000000 in
set_option maxRecDepth 100000 in
theorem kt_X8_objectAt (a : Nat → Nat) (r : Nat → Nat) {a1 : Int32} {σ : St} {Q : Int32 → Prop} (w : wk_X8_objectAt a1 σ Q) (l : Launch) (D : va_G) (cy : Nat → ClassId) : Ct l D cy SC r (EC a gC) y_X8_objectAt (Cond.code y_X8_objectAt b_X8_objectAt 3 (some .int)) 1 [.ref (r 5), .int a1] σ Z0 [] (QI (fun x σ9 => σ9 = σ ∧ Q x)) QT0 := by
  unfold wk_X8_objectAt at w
  refine Ct_of (EC_ok a gC) (by decide) (Nat.le_of_ble_eq_true rfl) (by decide) (fun X hnn hF => ?_)
  show G SC r X σ Z0 [] [(0, .ref (r 5)), (1, .int a1)] [] 0
  refine g_iconst hF (v := 1) d_X8_objectAt_0 (by decide) ?_
  refine g_istore_n hF [(2, .int 1), (0, .ref (r 5)), (1, .int a1)] d_X8_objectAt_1 rfl hnn (by decide) rfl ?_
  obtain ⟨L2, ⟨i2, u2⟩, h2⟩ := w
  have b2 : ∀ (n2 : Nat) (x2_2 : Int32), L2 n2 x2_2 → G SC r X σ Z0 [] [(0, .ref (r 5)), (1, .int a1), (2, .int x2_2)] [] 2 := by
    intro n2
    induction n2 using Nat.strongRecOn with
    | _ n2 ih2 =>
      intro x2_2  w2_
      have w2_ := h2 n2 x2_2  w2_
      refine g_iload_n hF d_X8_objectAt_2 rfl 2 rfl ?_
      refine g_aload_n hF d_X8_objectAt_3 rfl 0 rfl ?_
      refine g_get (v := .int (σ 5 13)) hF 13 obC_5 (by decide) m_249 rfl d_X8_objectAt_4 ?_
      refine g_icmp_gt hF 34 d_X8_objectAt_7 (by decide) rfl rfl (fun c => ?_) (fun c => ?_)
      · have w1 := w2_.1 c
        refine g_iconst hF (v := 0) d_X8_objectAt_34 (by decide) ?_
        exact g_iret hF rfl d_X8_objectAt_35 ⟨rfl, rfl, (0 : Int32), rfl, ⟨rfl, w1⟩⟩
      · have w2 := w2_.2 c
        refine g_iload_n hF d_X8_objectAt_10 rfl 1 rfl ?_
        refine g_if_lt hF 34 d_X8_objectAt_11 (by decide) rfl (fun c => ?_) (fun c => ?_)
        · have w3 := w2.1 c
          refine g_iconst hF (v := 0) d_X8_objectAt_34 (by decide) ?_
          exact g_iret hF rfl d_X8_objectAt_35 ⟨rfl, rfl, (0 : Int32), rfl, ⟨rfl, w3⟩⟩
        · have w4 := w2.2 c
          refine g_iload_n hF d_X8_objectAt_14 rfl 1 rfl ?_
          refine g_aload_n hF d_X8_objectAt_15 rfl 0 rfl ?_
          refine g_get (v := .ref (r 36)) hF 16 obC_5 (by decide) m_256 rfl d_X8_objectAt_16 ?_
          refine g_iload_n hF d_X8_objectAt_19 rfl 2 rfl ?_
          refine g_callSN (As := [.ref (r 36), .int x2_2]) (rest := [.int a1]) hF (c_atv a r σ arC_36 (by decide) x2_2) (Nat.le_of_ble_eq_true rfl) mS_X12_at nm_1125 rfl rfl (Nat.le_of_ble_eq_true rfl) d_X8_objectAt_20 (kQ ?_)
          refine g_top (v := (atv 101 (σ 36) x2_2)) rfl ?_
          refine g_icmp_ge hF 28 d_X8_objectAt_23 (by decide) rfl rfl (fun c => ?_) (fun c => ?_)
          · have w5 := w4.1 c
            refine g_iinc hF (x2_2 + 1) [(2, .int (x2_2 + 1)), (0, .ref (r 5)), (1, .int a1)] d_X8_objectAt_28 2 rfl rfl hnn (by decide) rfl ?_
            refine g_goto hF 2 d_X8_objectAt_31 (by decide) ?_
            obtain ⟨m2, hm2, w9⟩ := w5
            exact g_sub (L' := [(0, .ref (r 5)), (1, .int a1), (2, .int (x2_2 + 1))]) [1, 2, 0] rfl (ih2 m2 hm2 (x2_2 + 1) w9)
          · have w6 := w4.2 c
            refine g_iload_n hF d_X8_objectAt_26 rfl 2 rfl ?_
            exact g_iret hF rfl d_X8_objectAt_27 ⟨rfl, rfl, x2_2, rfl, ⟨rfl, w6⟩⟩
  exact g_sub (L' := [(0, .ref (r 5)), (1, .int a1), (2, .int 1)]) [1, 2, 0] rfl (b2 i2 (1 : Int32) u2)
set_option maxHeartbeats 4000000 in
set_option maxRecDepth 100000 in
theorem kt_X12_trap (a : Nat → Nat) (r : Nat → Nat) {a1 : Int32} {σ : St} {Q : Int32 → Prop} (w : wk_X12_trap a1 σ Q) (l : Launch) (D : va_G) (cy : Nat → ClassId) : Ct l D cy SC r (EC a gC) y_X12_trap (Cond.code y_X12_trap b_X12_trap 2 (some .int)) 2 [.ref (r 0), .int a1] σ Z0 [] (QI (fun x σ9 => σ9 = σ ∧ Q x)) QT0 := by
  unfold wk_X12_trap at w
  refine Ct_of (EC_ok a gC) (by decide) (Nat.le_of_ble_eq_true rfl) (by decide) (fun X hnn hF => ?_)
  show G SC r X σ Z0 [] [(0, .ref (r 0)), (1, .int a1)] [] 0
  refine g_iload_n hF d_X12_trap_0 rfl 1 rfl ?_
  refine g_if_ne hF 21 d_X12_trap_1 (by decide) rfl (fun c => ?_) (fun c => ?_)
  · have w1 := w.1 c
    refine g_iload_n hF d_X12_trap_21 rfl 1 rfl ?_
    refine g_iconst hF (v := 1) d_X12_trap_22 (by decide) ?_
    refine g_icmp_ne (yv := 1) hF 36 d_X12_trap_23 (by decide) rfl (by decide) (fun c => ?_) (fun c => ?_)
    · have w2 := w1.1 c
      refine g_iconst hF (v := 0) d_X12_trap_36 (by decide) ?_
      exact g_iret hF rfl d_X12_trap_37 ⟨rfl, rfl, (0 : Int32), rfl, ⟨rfl, w2⟩⟩
    · have w3 := w1.2 c
      refine g_aload_n hF d_X12_trap_26 rfl 0 rfl ?_
      refine g_get (v := .ref (r 12)) hF 14 obC_0 (by decide) m_749 rfl d_X12_trap_27 ?_
      refine g_getN (v := .int (σ 12 17)) hF 17 obC_12 (by decide) nm_693 rfl d_X12_trap_30 ?_
      refine g_goto hF 37 d_X12_trap_33 (by decide) ?_
      exact g_iret hF rfl d_X12_trap_37 ⟨rfl, rfl, (σ 12 17), rfl, ⟨rfl, w3⟩⟩
  · have w4 := w.2 c
    refine g_aload_n hF d_X12_trap_4 rfl 0 rfl ?_
    refine g_get (v := .ref (r 5)) hF 7 obC_0 (by decide) m_742 rfl d_X12_trap_5 ?_
    refine g_aload_n hF d_X12_trap_8 rfl 0 rfl ?_
    refine g_get (v := .ref (r 12)) hF 14 obC_0 (by decide) m_749 rfl d_X12_trap_9 ?_
    refine g_getN (v := .int (σ 12 16)) hF 16 obC_12 (by decide) nm_691 rfl d_X12_trap_12 ?_
    refine g_callVN (As := [.int (σ 12 16)]) (rest := []) hF (fun l D cy => kt_X8_objectAt a r w4 l D cy) (Nat.le_of_ble_eq_true rfl) mV_X8_objectAt nm_1768 (recv_ob obC_5) rfl rfl (Nat.le_of_ble_eq_true rfl) d_X12_trap_15 (qIr (fun v15 w5 => ?_))
    refine g_goto hF 37 d_X12_trap_18 (by decide) ?_
    exact g_iret hF rfl d_X12_trap_37 ⟨rfl, rfl, v15, rfl, ⟨rfl, w5⟩⟩
set_option maxHeartbeats 4000000 in
set_option maxRecDepth 100000 in
theorem kt_X12_written (a : Nat → Nat) (r : Nat → Nat) {σ : St} {Q : Int32 → Prop} (w : wk_X12_written  σ Q) (l : Launch) (D : va_G) (cy : Nat → ClassId) : Ct l D cy SC r (EC a gC) y_X12_written (Cond.code y_X12_written b_X12_written 1 (some .int)) 0 [.ref (r 0)] σ Z0 [] (QI (fun x σ9 => σ9 = σ ∧ Q x)) QT0 := by
  unfold wk_X12_written at w
  refine Ct_of (EC_ok a gC) (by decide) (Nat.le_of_ble_eq_true rfl) (by decide) (fun X hnn hF => ?_)
  show G SC r X σ Z0 [] [(0, .ref (r 0))] [] 0
  refine g_aload_n hF d_X12_written_0 rfl 0 rfl ?_
  refine g_get (v := .ref (r 11)) hF 13 obC_0 (by decide) m_748 rfl d_X12_written_1 ?_
  refine g_getN (v := .int (σ 11 2)) hF 2 obC_11 (by decide) nm_649 rfl d_X12_written_4 ?_
  exact g_iret hF rfl d_X12_written_7 ⟨rfl, rfl, (σ 11 2), rfl, ⟨rfl, w⟩⟩
set_option maxHeartbeats 4000000 in
set_option maxRecDepth 100000 in
theorem kt_X9_byteAt (a : Nat → Nat) (r : Nat → Nat) {a1 : Int32} {σ : St} {Q : Int32 → Prop} (w : wk_X9_byteAt a1 σ Q) (l : Launch) (D : va_G) (cy : Nat → ClassId) : Ct l D cy SC r (EC a gC) y_X9_byteAt (Cond.code y_X9_byteAt b_X9_byteAt 2 (some .int)) 0 [.ref (r 11), .int a1] σ Z0 [] (QI (fun x σ9 => σ9 = σ ∧ Q x)) QT0 := by
  unfold wk_X9_byteAt at w
  refine Ct_of (EC_ok a gC) (by decide) (Nat.le_of_ble_eq_true rfl) (by decide) (fun X hnn hF => ?_)
  show G SC r X σ Z0 [] [(0, .ref (r 11)), (1, .int a1)] [] 0
  refine g_iload_n hF d_X9_byteAt_0 rfl 1 rfl ?_
  refine g_if_lt hF 34 d_X9_byteAt_1 (by decide) rfl (fun c => ?_) (fun c => ?_)
  · have w1 := w.1 c
    refine g_iconst hF (v := (-1)) d_X9_byteAt_34 (by decide) ?_
    exact g_iret hF rfl d_X9_byteAt_35 ⟨rfl, rfl, ((-1) : Int32), rfl, ⟨rfl, w1⟩⟩
  · have w2 := w.2 c
    refine g_iload_n hF d_X9_byteAt_4 rfl 1 rfl ?_
    refine g_aload_n hF d_X9_byteAt_5 rfl 0 rfl ?_
    refine g_get (v := .int (σ 11 2)) hF 2 obC_11 (by decide) m_648 rfl d_X9_byteAt_6 ?_
    refine g_icmp_ge hF 34 d_X9_byteAt_9 (by decide) rfl rfl (fun c => ?_) (fun c => ?_)
    · have w3 := w2.1 c
      refine g_iconst hF (v := (-1)) d_X9_byteAt_34 (by decide) ?_
      exact g_iret hF rfl d_X9_byteAt_35 ⟨rfl, rfl, ((-1) : Int32), rfl, ⟨rfl, w3⟩⟩
    · have w4 := w2.2 c
      refine g_iload_n hF d_X9_byteAt_12 rfl 1 rfl ?_
      refine g_aload_n hF d_X9_byteAt_13 rfl 0 rfl ?_
      refine g_get (v := .ref (r 61)) hF 4 obC_11 (by decide) m_651 rfl d_X9_byteAt_14 ?_
      refine g_alen hF arC_61 (fun _ => ⟨0, _, rfl⟩) (v := 4096) (by decide) d_X9_byteAt_17 ?_
      refine g_icmp_ge (yv := 4096) hF 34 d_X9_byteAt_18 (by decide) rfl (by decide) (fun c => ?_) (fun c => ?_)
      · have w5 := w4.1 c
        refine g_iconst hF (v := (-1)) d_X9_byteAt_34 (by decide) ?_
        exact g_iret hF rfl d_X9_byteAt_35 ⟨rfl, rfl, ((-1) : Int32), rfl, ⟨rfl, w5⟩⟩
      · have w6 := w4.2 c
        refine g_aload_n hF d_X9_byteAt_21 rfl 0 rfl ?_
        refine g_get (v := .ref (r 61)) hF 4 obC_11 (by decide) m_651 rfl d_X9_byteAt_22 ?_
        refine g_iload_n hF d_X9_byteAt_25 rfl 1 rfl ?_
        have w7 := w6.2
        refine g_bald hF arC_61 (s_in (Nat.le_of_ble_eq_true rfl) w6.1.1 w6.1.2) d_X9_byteAt_26 ?_
        refine g_top (v := (σ 61 a1.toNatClampNeg)) rfl ?_
        refine g_sipush hF (v := 255) d_X9_byteAt_27 (by decide) ?_
        refine g_iand hF d_X9_byteAt_30 ?_
        refine g_goto hF 35 d_X9_byteAt_31 (by decide) ?_
        exact g_iret hF rfl d_X9_byteAt_35 ⟨rfl, rfl, ((σ 61 a1.toNatClampNeg) &&& (255 : Int32)), rfl, ⟨rfl, w7⟩⟩
set_option maxHeartbeats 4000000 in
set_option maxRecDepth 100000 in
theorem kt_X12_out (a : Nat → Nat) (r : Nat → Nat) {a1 : Int32} {σ : St} {Q : Int32 → Prop} (w : wk_X12_out a1 σ Q) (l : Launch) (D : va_G) (cy : Nat → ClassId) : Ct l D cy SC r (EC a gC) y_X12_out (Cond.code y_X12_out b_X12_out 2 (some .int)) 1 [.ref (r 0), .int a1] σ Z0 [] (QI (fun x σ9 => σ9 = σ ∧ Q x)) QT0 := by
  unfold wk_X12_out at w
  refine Ct_of (EC_ok a gC) (by decide) (Nat.le_of_ble_eq_true rfl) (by decide) (fun X hnn hF => ?_)
  show G SC r X σ Z0 [] [(0, .ref (r 0)), (1, .int a1)] [] 0
  refine g_aload_n hF d_X12_out_0 rfl 0 rfl ?_
  refine g_get (v := .ref (r 11)) hF 13 obC_0 (by decide) m_748 rfl d_X12_out_1 ?_
  refine g_iload_n hF d_X12_out_4 rfl 1 rfl ?_
  refine g_callVN (As := [.int a1]) (rest := []) hF (fun l D cy => kt_X9_byteAt a r w l D cy) (Nat.le_of_ble_eq_true rfl) mV_X9_byteAt nm_1780 (recv_ob obC_11) rfl rfl (Nat.le_of_ble_eq_true rfl) d_X12_out_5 (qIr (fun v5 w1 => ?_))
  exact g_iret hF rfl d_X12_out_8 ⟨rfl, rfl, v5, rfl, ⟨rfl, w1⟩⟩
set_option maxHeartbeats 4000000 in
set_option maxRecDepth 100000 in
theorem kt_X12_peek (a : Nat → Nat) (r : Nat → Nat) {a1 : Int32} {σ : St} {Q : Int32 → Prop} (w : wk_X12_peek a1 σ Q) (l : Launch) (D : va_G) (cy : Nat → ClassId) : Ct l D cy SC r (EC a gC) y_X12_peek (Cond.code y_X12_peek b_X12_peek 2 (some .int)) 1 [.ref (r 0), .int a1] σ Z0 [] (QI (fun x σ9 => σ9 = σ ∧ Q x)) QT0 := by
  unfold wk_X12_peek at w
  refine Ct_of (EC_ok a gC) (by decide) (Nat.le_of_ble_eq_true rfl) (by decide) (fun X hnn hF => ?_)
  show G SC r X σ Z0 [] [(0, .ref (r 0)), (1, .int a1)] [] 0
  refine g_aload_n hF d_X12_peek_0 rfl 0 rfl ?_
  refine g_get (v := .ref (r 12)) hF 14 obC_0 (by decide) m_749 rfl d_X12_peek_1 ?_
  refine g_getN (v := .ref (r 62)) hF 4 obC_12 (by decide) nm_676 rfl d_X12_peek_4 ?_
  refine g_iload_n hF d_X12_peek_7 rfl 1 rfl ?_
  refine g_callS (As := [.ref (r 62), .int a1]) (rest := []) hF (c_atv a r σ arC_62 (by decide) a1) (Nat.le_of_ble_eq_true rfl) mS_X12_at m_1036 rfl rfl (Nat.le_of_ble_eq_true rfl) d_X12_peek_8 (kQ ?_) (fun _ _ _ h => h.elim)
  refine g_top (v := (atv 32768 (σ 62) a1)) rfl ?_
  exact g_iret hF rfl d_X12_peek_11 ⟨rfl, rfl, (atv 32768 (σ 62) a1), rfl, ⟨rfl, w⟩⟩
set_option maxHeartbeats 4000000 in
set_option maxRecDepth 100000 in
theorem kt_X12_strays (a : Nat → Nat) (r : Nat → Nat) {σ : St} {Q : Int32 → Prop} (w : wk_X12_strays  σ Q) (l : Launch) (D : va_G) (cy : Nat → ClassId) : Ct l D cy SC r (EC a gC) y_X12_strays (Cond.code y_X12_strays b_X12_strays 1 (some .int)) 0 [.ref (r 0)] σ Z0 [] (QI (fun x σ9 => σ9 = σ ∧ Q x)) QT0 := by
  unfold wk_X12_strays at w
  refine Ct_of (EC_ok a gC) (by decide) (Nat.le_of_ble_eq_true rfl) (by decide) (fun X hnn hF => ?_)
  show G SC r X σ Z0 [] [(0, .ref (r 0))] [] 0
  refine g_aload_n hF d_X12_strays_0 rfl 0 rfl ?_
  refine g_get (v := .ref (r 12)) hF 14 obC_0 (by decide) m_749 rfl d_X12_strays_1 ?_
  refine g_getN (v := .int (σ 12 18)) hF 18 obC_12 (by decide) nm_695 rfl d_X12_strays_4 ?_
  exact g_iret hF rfl d_X12_strays_7 ⟨rfl, rfl, (σ 12 18), rfl, ⟨rfl, w⟩⟩
end

section
/-! the class: stores, rows -/
theorem kp_F {fs : List (Nat × Nat)} {cs : List Nat} {a b : St} {p : Nat} {f : Nat → Int32} (h : Kp fs cs a b) (hm : cs.contains p = true) : Kp fs cs a (upF b p f) := fun c j h1 h2 => by
  unfold upF
  by_cases e1 : c = p
  · subst e1; rw [hm] at h2; cases h2
  · rw [if_neg e1]; exact h c j h1 h2
theorem rdF (σ : St) (p q : Nat) (f : Nat → Int32) : upF σ p f q = if q = p then f else σ q := rfl
theorem rdF_eq {σ : St} {p : Nat} {f : Nat → Int32} : upF σ p f p = f := if_pos rfl
theorem rdF_ne {σ : St} {p q : Nat} {f : Nat → Int32} (h : q ≠ p) : upF σ p f q = σ q := if_neg h
theorem rdC_ne {σ : St} {p k q : Nat} {v : Int32} (h : q ≠ p) : upC σ p k v q = σ q := if_neg h
theorem rdC_eq {σ : St} {p k : Nat} {v : Int32} : upC σ p k v p = fun j => if j = k then v else σ p j := if_pos rfl
theorem atv_at {n : Nat} {f : Nat → Int32} {i : Int32} {j : Nat} (h : i.toInt = j) (hn : j < n) : atv n f i = f j := by
  have e : i.toNatClampNeg = j := by rw [nt', h]; rfl
  unfold atv
  rw [if_pos ⟨by omega, by omega⟩, e]
theorem setv_at {n : Nat} {f : Nat → Int32} {i v : Int32} {j : Nat} (h : i.toInt = j) (hn : j < n) : setv n f i v = fun k => if k = j then v else f k := by
  have e : i.toNatClampNeg = j := by rw [nt', h]; rfl
  unfold setv
  rw [if_pos ⟨by omega, by omega⟩, e]
theorem setv_cases (n : Nat) (f : Nat → Int32) (i v : Int32) : (setv n f i v = f ∧ (i.toInt < 0 ∨ (n : Int) ≤ i.toInt)) ∨ ∃ j : Nat, i.toInt = j ∧ j < n ∧ setv n f i v = fun k => if k = j then v else f k := by
  by_cases h : 0 ≤ i.toInt ∧ i.toInt < n
  · have e := nt h.1
    exact Or.inr ⟨i.toNatClampNeg, e.symm, by omega, setv_at e.symm (by omega)⟩
  · exact Or.inl ⟨setv_out (by omega), by omega⟩
theorem atv_cases (n : Nat) (f : Nat → Int32) (i : Int32) : (atv n f i = 0 ∧ (i.toInt < 0 ∨ (n : Int) ≤ i.toInt)) ∨ ∃ j : Nat, i.toInt = j ∧ j < n ∧ atv n f i = f j := by
  by_cases h : 0 ≤ i.toInt ∧ i.toInt < n
  · have e := nt h.1
    exact Or.inr ⟨i.toNatClampNeg, e.symm, by omega, atv_at e.symm (by omega)⟩
  · exact Or.inl ⟨atv_out (by omega), by omega⟩
theorem i0 : (0 : Int32).toInt = 0 := by decide
theorem i1 : (1 : Int32).toInt = 1 := by decide
theorem i2 : (2 : Int32).toInt = 2 := by decide
theorem i3 : (3 : Int32).toInt = 3 := by decide
theorem i4 : (4 : Int32).toInt = 4 := by decide
theorem im1 : ((-1) : Int32).toInt = -1 := by decide
theorem ad0 {x : Int32} {c : Int32} {n : Int} (hc : c.toInt = n) (h0 : 0 ≤ x.toInt + n) (h1 : x.toInt + n ≤ 2000000000) : (x + c).toInt = x.toInt + n := adc hc (by omega) (by omega)
theorem sbc {x y : Int32} {n : Int} (hy : y.toInt = n) (h0 : -2147483648 ≤ x.toInt - n) (h1 : x.toInt - n < 2147483648) : (x - y).toInt = x.toInt - n := by
  rw [sb (by omega) (by omega), hy]
/-! how many words an instruction has, what it takes and gives -/
def ln (n : Nat) : Nat := ([0, 2, 1, 3, 2, 2, 2, 4, 2, 2, 4, 2, 2, 4, 2, 3, 3, 4, 2, 2, 4, 2, 1, 1, 1, 1, 2, 2, 2, 2, 2, 2, 3, 1, 0, 0, 0, 0, 0, 0, 0, 1, 1, 1, 1, 1, 2, 2, 1, 1, 1, 1, 1, 1, 1, 1, 1, 1, 1, 1, 1] : List Nat).getD n 0
def po (n : Nat) : Nat := if 41 ≤ n then 2 else ([0, 0, 1, 0, 0, 0, 1, 0, 0, 1, 0, 0, 1, 0, 0, 0, 1, 0, 1, 2, 1, 1, 1, 1, 1, 1] : List Nat).getD n 0
def de (n : Nat) : Int := if 41 ≤ n then -1 else ([0, 1, -1, 1, 1, 1, 0, 1, 1, 0, 1, 1, 0, 1, 1, 0, -1, 0, 0, -1, 0, 1, 0, 0, 0, 0] : List Int).getD n 0
theorem gc1 : ∀ n, n < 61 → (gC 1 n).toInt = (ln n : Nat) := by decide
theorem ln_pos : ∀ n, n < 61 → 1 ≤ n → (n ≤ 33 ∨ 41 ≤ n) → 1 ≤ ln n ∧ ln n ≤ 4 := by decide
theorem ln_at {x : Int32} {n : Nat} (h : x.toInt = n) (hn : n < 61) : (atv 61 (gC 1) x).toInt = (ln n : Nat) := by
  rw [atv_at h hn]
  exact gc1 n hn
theorem de_po : ∀ n, n < 61 → -(po n : Int) ≤ de n ∧ de n ≤ 1 ∧ po n ≤ 2 ∧ -1 ≤ de n := by decide
theorem dn_lt {y : Int32} {n : Nat} (hn : n = y.toInt.toNat) (h : 0 < y.toInt) : (y + (-1 : Int32)).toInt.toNat < n := by
  rw [dc1 (by omega)]
  omega
end

section
/-! code, with the height of the stack and a level at each instruction -/
def Jn (g : Gh) (k pc t h : Nat) : Prop := ∃ k', g t = some (h, k') ∧ (k' < k ∨ (k' = k ∧ pc < t))
def PLn (n : Nat) : Prop := n ≤ 25 ∨ 41 ≤ n
/-- an instruction; pd: its aim is still open -/
def OPk (n : Nat) (a : Int) (g : Gh) (CP : Int → Nat → Prop) (pd : Prop) (pc h k : Nat) : Prop :=
  (1 ≤ n ∧ n ≤ 60 ∧ (n ≤ 33 ∨ 41 ≤ n)) ∧
  (PLn n → po n ≤ h ∧ ∃ h' : Nat, (h' : Int) = h + de n ∧ Jn g k pc (pc + ln n) h') ∧
  (n = 26 → pd ∨ (0 ≤ a ∧ Jn g k pc a.toNat h)) ∧
  (n = 27 ∨ n = 28 → 1 ≤ h ∧ Jn g k pc (pc + 2) (h - 1) ∧ (pd ∨ (0 ≤ a ∧ Jn g k pc a.toNat (h - 1)))) ∧
  (n = 29 ∨ n = 30 → 1 ≤ h ∧ Jn g k pc (pc + 2) (h - 1) ∧ (pd ∨ (0 ≤ a ∧ Jn g k pc a.toNat h))) ∧
  (n = 31 → ∃ k', g (pc + 2) = some (h, k')) ∧
  (n = 32 → ∃ m, CP a m ∧ m ≤ h ∧ Jn g k pc (pc + 3) (h - m + 1)) ∧
  (n = 33 → 1 ≤ h)
def OPy (w : Nat → Int32) (g : Gh) (CP : Int → Nat → Prop) (pd : Prop) (pc h k : Nat) : Prop := ∃ n : Nat, (w pc).toInt = n ∧ OPk n (w (pc + 1)).toInt g CP pd pc h k
/-- where it ends, the next begins; nothing begins within -/
def BDw (w : Nat → Int32) (g : Gh) (e pc : Nat) : Prop := ∃ n : Nat, (w pc).toInt = n ∧ pc + ln n ≤ e ∧ g (pc + ln n) ≠ none ∧ ∀ j, pc < j → j < pc + ln n → g j = none
section OPS
variable {w w' : Nat → Int32} {g g' : Gh} {CP CP' : Int → Nat → Prop} {pd pd' : Prop} {n pc h k : Nat} {a : Int}
theorem jn_mono {t h' : Nat} (hg : ∀ q v, g q = some v → g' q = some v) (H : Jn g k pc t h') : Jn g' k pc t h' := by
  obtain ⟨k', h2, h3⟩ := H
  exact ⟨k', hg _ _ h2, h3⟩
theorem opk_mono (hg : ∀ q v, g q = some v → g' q = some v) (hC : ∀ a m, CP a m → CP' a m) (hp : pd → pd') (H : OPk n a g CP pd pc h k) : OPk n a g' CP' pd' pc h k := by
  obtain ⟨h1, h2, h3, h4, h5, h6, h7, h8⟩ := H
  refine ⟨h1, fun c => ?_, fun c => ?_, fun c => ?_, fun c => ?_, fun c => ?_, fun c => ?_, h8⟩
  · obtain ⟨a1, h', a2, a3⟩ := h2 c
    exact ⟨a1, h', a2, jn_mono hg a3⟩
  · exact (h3 c).imp hp (fun q => ⟨q.1, jn_mono hg q.2⟩)
  · obtain ⟨a1, a2, a3⟩ := h4 c
    exact ⟨a1, jn_mono hg a2, a3.imp hp (fun q => ⟨q.1, jn_mono hg q.2⟩)⟩
  · obtain ⟨a1, a2, a3⟩ := h5 c
    exact ⟨a1, jn_mono hg a2, a3.imp hp (fun q => ⟨q.1, jn_mono hg q.2⟩)⟩
  · obtain ⟨k', a1⟩ := h6 c
    exact ⟨k', hg _ _ a1⟩
  · obtain ⟨m, a1, a2, a3⟩ := h7 c
    exact ⟨m, hC _ _ a1, a2, jn_mono hg a3⟩
theorem opw_mono (hw : w' pc = w pc) (hw1 : w' (pc + 1) = w (pc + 1)) (hg : ∀ q v, g q = some v → g' q = some v) (hC : ∀ a m, CP a m → CP' a m) (hp : pd → pd') (H : OPy w g CP pd pc h k) : OPy w' g' CP' pd' pc h k := by
  obtain ⟨n, h1, h2⟩ := H
  exact ⟨n, by rw [hw]; exact h1, by rw [hw1]; exact opk_mono hg hC hp h2⟩
theorem opk_pl (h0 : 1 ≤ n) (h1 : n ≤ 60) (hp : n ≤ 25 ∨ 41 ≤ n) (h2 : po n ≤ h) {h' : Nat} (h3 : (h' : Int) = h + de n) (h4 : Jn g k pc (pc + ln n) h') : OPk n a g CP pd pc h k :=
  ⟨⟨h0, h1, by omega⟩, fun _ => ⟨h2, h', h3, h4⟩, fun c => by omega, fun c => by omega, fun c => by omega, fun c => by omega, fun c => by omega, fun c => by omega⟩
end OPS
/-- a function's code, whole: header, its words up to the last return -/
def FUNc (w : Nat → Int32) (CP : Int → Nat → Prop) (N hd n L : Nat) (g : Gh) : Prop :=
  hd + 4 < N ∧ (0 ≤ (w hd).toInt ∧ (w hd).toInt ≤ 1000000) ∧ (w (hd + 1)).toInt = L ∧ L ≤ 100 ∧ (w (hd + 2)).toInt = n ∧ n ≤ 8 ∧ (∃ k, g (hd + 4) = some (0, k)) ∧ ∀ q h k, g q = some (h, k) → q < N ∧ h ≤ 420 ∧ OPy w g CP False q h k
/-! a rank among the instructions -/
def lwr (g : Gh) (k pc q : Nat) : Bool := match g q with
  | some (_, k') => decide (k' < k ∨ (k' = k ∧ pc < q))
  | none => false
def cnt (p : Nat → Bool) : Nat → Nat
  | 0 => 0
  | n + 1 => cnt p n + (if p n then 1 else 0)
theorem cnt_le (p : Nat → Bool) : ∀ n, cnt p n ≤ n := fun n => by
  induction n with
  | zero => exact Nat.le_refl _
  | succ n ih =>
    show cnt p n + _ ≤ _
    by_cases c : p n
    · rw [if_pos c]; omega
    · rw [if_neg c]; omega
theorem cnt_mono {p p' : Nat → Bool} (h : ∀ q, p q = true → p' q = true) : ∀ n, cnt p n ≤ cnt p' n := fun n => by
  induction n with
  | zero => exact Nat.le_refl _
  | succ n ih =>
    show cnt p n + _ ≤ cnt p' n + _
    by_cases c : p n
    · rw [if_pos c, if_pos (h _ c)]; omega
    · rw [if_neg c]; omega
theorem cnt_lt {p p' : Nat → Bool} (h : ∀ q, p q = true → p' q = true) {r : Nat} (h1 : p' r = true) (h2 : p r = false) : ∀ n, r < n → cnt p n < cnt p' n := fun n => by
  induction n with
  | zero => exact fun c => absurd c (Nat.not_lt_zero _)
  | succ n ih =>
    intro c
    show cnt p n + _ < cnt p' n + _
    by_cases e : r = n
    · subst e
      have := cnt_mono h r
      rw [if_pos h1, h2, if_neg (by decide)]
      omega
    · have := ih (by omega)
      by_cases c2 : p n
      · rw [if_pos c2, if_pos (h _ c2)]; omega
      · rw [if_neg c2]; omega
def rk (g : Gh) (N k pc : Nat) : Nat := cnt (lwr g k pc) N
theorem rk_jn {g : Gh} {N k pc t h : Nat} {k' : Nat} (e : g t = some (h, k')) (hl : k' < k ∨ (k' = k ∧ pc < t)) (ht : t < N) : rk g N k' t < rk g N k pc := by
  refine cnt_lt (r := t) (fun q hq => ?_) ?_ ?_ N ht
  · unfold lwr at hq ⊢
    cases e2 : g q with
    | none => rw [e2] at hq; cases hq
    | some v =>
      obtain ⟨a, b⟩ := v
      rw [e2] at hq
      have h1 := of_decide_eq_true hq
      exact decide_eq_true (by omega)
  · unfold lwr
    rw [e]
    exact decide_eq_true hl
  · unfold lwr
    rw [e]
    exact decide_eq_false (by omega)
end

section
/-! the machine: what an operation does to the top of the stack -/
abbrev KPE (a b : St) : Prop := Kp [(12, 9), (11, 1), (11, 2)] [60, 61, 62, 63] a b
def PE (σ s : St) (d : Int) : Prop := KPE σ s ∧ (s 12 9).toInt = (σ 12 9).toInt + d
abbrev KFE (a b : St) : Prop := Kp [(12, 9), (12, 13), (12, 16), (12, 17), (12, 15), (11, 1), (11, 2)] [60, 61, 62, 63] a b
/-- it ended -/
def FE (σ s : St) : Prop := KFE σ s ∧ (s 12 13).toInt ≠ -1
def TB (σ : St) : Prop := 0 ≤ (σ 12 9).toInt ∧ (σ 12 9).toInt ≤ 200000
section MOP
variable {σ s t : St} {a b : Int32}
theorem pe_tr {d d' : Int} (h : PE σ s d) (g : PE s t d') : PE σ t (d + d') := ⟨kp_tr h.1 g.1, by rw [g.2, h.2]; omega⟩
theorem fe_pe {d : Int} (h : PE σ s d) (g : FE s t) : FE σ t := ⟨kp_tr (kp_sub h.1 rfl rfl) g.1, g.2⟩
theorem sk_push {Q : St → Prop} (h : TB σ) (k : ∀ s, PE σ s 1 → Q s) : wk_X5_push a σ Q :=
  k _ ⟨kp_f (kp_F kp_rf rfl) rfl, by rw [rdA_eq rfl]; have := h.2; exact ad1 (by omega)⟩
theorem sk_pop {Q : Int32 → St → Prop} (h : TB σ) (k : ∀ v s, PE σ s (-1) → Q v s) : wk_X5_pop σ Q :=
  k _ _ ⟨kp_f kp_rf rfl, by rw [rdA_eq rfl, sb1 (by have := h.1; omega)]; omega⟩
theorem sp_peeked {Q : Int32 → Prop} (k : ∀ v, Q v) : wk_X5_peeked σ Q := k _
theorem sp_mfail {Q : St → Prop} (ha : a.toInt ≠ -1) (k : ∀ s, FE σ s → Q s) : wk_X5_fail a b σ Q :=
  k _ ⟨kp_f (kp_f (kp_f kp_rf rfl) rfl) rfl, ha⟩
theorem tb_F {p : Nat} {f : Nat → Int32} (hp : p ≠ 12) (h : TB σ) : TB (upF σ p f) := by
  unfold TB
  rw [rdF_ne (Ne.symm hp)]
  exact h
theorem pe_F {p : Nat} {f : Nat → Int32} {d : Int} (hp : [60, 61, 62, 63].contains p = true) (h : PE (upF σ p f) s d) : PE σ s d := by
  have h12 : (12 : Nat) ≠ p := fun e => by
    subst e
    exact absurd hp (by decide)
  refine ⟨kp_tr (kp_F kp_rf hp) h.1, ?_⟩
  rw [h.2, rdF_ne h12]
theorem pe_0 {p : Nat} {f : Nat → Int32} {d : Int} (hp : [60, 61, 62, 63].contains p = true) (h : PE σ s d) : PE σ (upF s p f) d := by
  have h12 : (12 : Nat) ≠ p := fun e => by
    subst e
    exact absurd hp (by decide)
  refine ⟨kp_F h.1 hp, ?_⟩
  rw [rdF_ne h12]
  exact h.2
theorem pe_rf : PE σ σ 0 := ⟨kp_rf, by omega⟩
theorem sp_step62 {Q : St → Prop} (h : TB σ) (k : ∀ s, PE σ s 1 → Q s) : wk_X5_stepped_r62 a b σ Q := by
  unfold wk_X5_stepped_r62
  exact sk_push (tb_F (by decide) h) (fun s hs => k s (pe_F rfl hs))
theorem sp_step63 {Q : St → Prop} (h : TB σ) (k : ∀ s, PE σ s 1 → Q s) : wk_X5_stepped_r63 a b σ Q := by
  unfold wk_X5_stepped_r63
  exact sk_push (tb_F (by decide) h) (fun s hs => k s (pe_F rfl hs))
theorem sp_inverted {Q : Int32 → Prop} (k : ∀ v, Q v) : wk_X5_inverted a b σ Q :=
  ⟨fun _ => k _, fun _ => ⟨fun _ => k _, fun _ => ⟨fun _ => ⟨fun _ => k _, fun _ => k _⟩, fun _ => ⟨fun _ => k _, fun _ => k _⟩⟩⟩⟩
theorem sk_compared {c : Int32} {Q : Int32 → Prop} (k : ∀ v, Q v) : wk_X5_compared c a b σ Q := by
  unfold wk_X5_compared
  repeat' (first | exact k _ | apply And.intro | intro _)
theorem int_nz {x : Int32} (h : x.toInt ≠ 0) : ¬ x = 0 := fun e => h (by rw [e]; decide)
theorem sk_worked {c : Int32} {Q : Int32 → Prop} (k : ∀ v, Q v) : wk_X5_worked c a b σ Q := by
  unfold wk_X5_worked
  repeat' (first | exact k _ | exact int_nz (by assumption) | exact sk_compared (fun v => ⟨fun _ => k _, fun _ => k _⟩) | apply And.intro | intro _)
theorem sk_isCell {Q : Int32 → Prop} (k : ∀ v, Q v) : wk_X5_isCell a σ Q :=
  ⟨fun _ => k _, fun _ => ⟨fun _ => k _, fun _ => k _⟩⟩
theorem tb_pe {d : Int} (h : PE σ s d) (h0 : 0 ≤ (σ 12 9).toInt + d) (h1 : (σ 12 9).toInt + d ≤ 200000) : TB s := ⟨by rw [h.2]; exact h0, by rw [h.2]; exact h1⟩
theorem sp_calculate {Q : St → Prop} (h : 2 ≤ (σ 12 9).toInt ∧ (σ 12 9).toInt ≤ 150000) (k : ∀ s, PE σ s (-1) ∨ FE σ s → Q s) : wk_X5_calculate a b σ Q := by
  unfold wk_X5_calculate
  refine sk_pop ⟨by omega, by omega⟩ (fun v s hs => sk_pop (tb_pe hs (by omega) (by omega)) (fun v2 s2 hs2 => ?_))
  have h2 := pe_tr hs hs2
  have fl : wk_X5_fail (1 : Int32) (atv 262208 (s2 24) (b + (1 : Int32))) s2 (fun s39 => Q s39) := sp_mfail (by decide) (fun s3 hs3 => k s3 (Or.inr (fe_pe h2 hs3)))
  have go : wk_X5_worked a v2 v s2 (fun v50 => wk_X5_push v50 s2 (fun s53 => Q s53)) := sk_worked (fun v3 => sk_push (tb_pe h2 (by omega) (by omega)) (fun s3 hs3 => k s3 (Or.inl (pe_tr h2 hs3))))
  exact ⟨True, fun _ => go, True, fun _ => ⟨fun _ => trivial, fun _ => fl⟩, fun _ => trivial, fun _ => ⟨fun _ => trivial, fun _ => trivial⟩⟩
theorem sk_plain {n : Nat} {Q : St → Prop} (h : 1 ≤ (σ 12 9).toInt ∧ (σ 12 9).toInt ≤ 150000) (hn : a.toInt = n) (h1 : 1 ≤ n) (h2 : n ≤ 10) (k : ∀ s, PE σ s (de n) → Q s) : wk_X5_plain a b σ Q := by
  have hT : TB σ := ⟨by omega, by omega⟩
  have g : ∀ m : Nat, a.toInt = (m : Int) → n = m := fun m e => by omega
  unfold wk_X5_plain
  refine ⟨fun c => ?_, fun c1 => ⟨fun c => ?_, fun c2 => ⟨fun c => ?_, fun c3 => ⟨fun c => ?_, fun c4 => ⟨fun c => ?_, fun c5 => ⟨fun c => ?_, fun c6 => ⟨fun c => ?_, fun c7 => ⟨fun c => ?_, fun c8 => ⟨fun c => ?_, fun c9 => ?_⟩⟩⟩⟩⟩⟩⟩⟩⟩
  · cases g 1 c; exact sk_push hT (fun s hs => k s hs)
  · cases g 2 c; exact sk_pop hT (fun v s hs => k s hs)
  · cases g 3 c; exact sk_push hT (fun s hs => k s hs)
  · cases g 4 c; exact sk_push hT (fun s hs => k s hs)
  · cases g 5 c; exact sk_push hT (fun s hs => k s hs)
  · cases g 6 c; exact k _ (pe_0 rfl pe_rf)
  · cases g 7 c; exact sp_step62 hT (fun s hs => k s hs)
  · cases g 8 c; exact sk_push hT (fun s hs => k s hs)
  · cases g 9 c; exact k _ (pe_0 rfl pe_rf)
  · cases g 10 (by omega); exact sp_step63 hT (fun s hs => k s hs)
theorem sp_inFrame {n : Nat} {Q : St → Prop} (h : 1 ≤ (σ 12 9).toInt ∧ (σ 12 9).toInt ≤ 150000) (hn : a.toInt = n) (h1 : 11 ≤ n) (h2 : n ≤ 17) (k : ∀ s, PE σ s (de n) → Q s) : wk_X5_inFrame a b σ Q := by
  have hT : TB σ := ⟨by omega, by omega⟩
  have g : ∀ m : Nat, a.toInt = (m : Int) → n = m := fun m e => by omega
  unfold wk_X5_inFrame
  refine ⟨fun c => ?_, fun c1 => ⟨fun c => ?_, fun c2 => ⟨fun c => ?_, fun c3 => ⟨fun c => ?_, fun c4 => ⟨fun c => ?_, fun c5 => ⟨fun c => ?_, fun c6 => ?_⟩⟩⟩⟩⟩⟩
  · cases g 11 c; exact sk_push hT (fun s hs => k s hs)
  · cases g 12 c; exact k _ (pe_0 rfl pe_rf)
  · cases g 13 c; exact sp_step62 hT (fun s hs => k s hs)
  · cases g 14 c; exact sk_push hT (fun s hs => k s hs)
  · cases g 15 c
    refine ⟨fun n x s => (x.toInt = 32768 - (n : Int) ∧ 0 ≤ x.toInt) ∧ PE σ s 0, ⟨32768, by decide, pe_rf⟩, ?_⟩
    rintro m x s ⟨⟨q1, q2⟩, hs⟩
    refine ⟨fun _ => k s hs, fun _ => ⟨fun _ => k s hs, fun c => ⟨m - 1, by omega, ?_, pe_0 rfl hs⟩⟩⟩
    have e := ad1 (x := x) (by omega)
    exact ⟨by rw [e]; omega, by omega⟩
  · cases g 16 c; exact sk_pop hT (fun v s hs => k _ (pe_0 rfl hs))
  · cases g 17 (by omega); exact k _ (pe_0 rfl pe_rf)
theorem sp_reach {n : Nat} {Q : St → Prop} (h : 2 ≤ (σ 12 9).toInt ∧ (σ 12 9).toInt ≤ 150000) (hn : a.toInt = n) (h1 : 18 ≤ n) (h2 : n ≤ 21) (k : ∀ s, PE σ s (de n) ∨ FE σ s → Q s) : wk_X5_reach a b σ Q := by
  have hT : TB σ := ⟨by omega, by omega⟩
  have g : ∀ m : Nat, a.toInt = (m : Int) → n = m := fun m e => by omega
  unfold wk_X5_reach
  refine ⟨fun _ s => PE σ s (if n = 19 then -1 else 0), ?_, fun c => by rw [if_neg (by omega)]; exact pe_rf, fun c => sk_pop hT (fun v s hs => by rw [if_pos (by omega)]; exact hs)⟩
  intro y s hs
  have hs2 := hs.2
  have hT2 : TB s := ⟨by rw [hs2]; split <;> omega, by rw [hs2]; split <;> omega⟩
  refine sk_pop hT2 (fun v s3 hs3 => sk_isCell (fun v2 => ⟨fun _ => ⟨fun c1 => ⟨fun c2 => ⟨fun c3 => ?_, fun c => ?_⟩, fun c => ?_⟩, fun c => ?_⟩, fun _ => ?_⟩))
  all_goals have h3 := pe_tr hs hs3
  · cases g 21 (by omega)
    rw [if_neg (by decide)] at h3
    have h3' := h3.2
    refine sk_push (tb_pe h3 (by omega) (by omega)) (fun s4 hs4 => ?_)
    have h4 := pe_tr h3 hs4
    exact sk_push (tb_pe h4 (by omega) (by omega)) (fun s5 hs5 => k s5 (Or.inl (pe_tr h4 hs5)))
  · cases g 20 c
    rw [if_neg (by decide)] at h3
    exact sp_step62 (tb_pe h3 (by omega) (by omega)) (fun s4 hs4 => k s4 (Or.inl (pe_tr h3 hs4)))
  · cases g 19 c
    rw [if_pos rfl] at h3
    exact sk_push (tb_F (by decide) (tb_pe h3 (by omega) (by omega))) (fun s4 hs4 => k s4 (Or.inl (pe_tr h3 (pe_F rfl hs4))))
  · cases g 18 c
    rw [if_neg (by decide)] at h3
    exact sk_push (tb_pe h3 (by omega) (by omega)) (fun s4 hs4 => k s4 (Or.inl (pe_tr h3 hs4)))
  · exact sp_mfail (by decide) (fun s4 hs4 => k s4 (Or.inr (fe_pe h3 hs4)))
theorem pe_A {p : Nat} {v : Int32} {d : Int} (hp : p = 1 ∨ p = 2) (h : PE σ s d) : PE σ (upC s 11 p v) d := by
  refine ⟨?_, h.2⟩
  rcases hp with e | e <;> subst e <;> exact kp_f h.1 rfl
theorem sp_next {Q : Int32 → St → Prop} (k : ∀ v s, PE σ s 0 → Q v s) : wk_X9_next σ Q := by
  unfold wk_X9_next
  refine ⟨fun _ => k _ _ pe_rf, fun c => ⟨fun _ => k _ _ pe_rf, fun c2 => ⟨fun c3 => ⟨?_, k _ _ (pe_A (Or.inl rfl) pe_rf)⟩, fun _ => k _ _ pe_rf⟩⟩⟩
  have e := ad1 (x := (σ 11 1)) (by omega)
  have e2 := sb1 (x := (σ 11 1) + (1 : Int32)) (by omega)
  exact ⟨by omega, by omega⟩
theorem sp_tput {Q : Int32 → St → Prop} (k : ∀ v s, PE σ s 0 → (v = 0 ∨ v = 1) → Q v s) : wk_X9_put a σ Q := by
  unfold wk_X9_put
  refine ⟨fun _ => k _ _ pe_rf (Or.inl rfl), fun c => ⟨fun c2 => ⟨⟨c, c2⟩, k _ _ (pe_A (Or.inr rfl) ⟨kp_a kp_rf rfl, ?_⟩) (Or.inr rfl)⟩, fun _ => k _ _ pe_rf (Or.inl rfl)⟩⟩
  rw [rdC_ne (by decide)]
  omega
theorem sp_tprint {Q : Int32 → St → Prop} (k : ∀ v s, PE σ s 0 → (v = 0 ∨ v = 1) → Q v s) : wk_X9_print a σ Q := by
  unfold wk_X9_print
  refine ⟨fun n _ x => x.toInt = 10 - (n : Int) ∧ 0 ≤ x.toInt, ⟨10, by decide⟩, ?_⟩
  rintro n12 x4 x6 ⟨q1, q2⟩
  refine ⟨True, fun _ => ?_, fun _ => trivial, fun c => ⟨fun _ => trivial, fun _ => ⟨n12 - 1, by omega, ?_⟩⟩⟩
  · refine ⟨fun _ s => PE σ s 0, ?_, fun s => PE σ s 0, fun s hs => hs, fun _ => pe_rf, fun _ => sp_tput (fun v s hs _ => ⟨fun _ => hs, fun _ => hs⟩)⟩
    intro y s hz hs
    refine ⟨fun n x _ s => n = ldn x ∧ PE σ s 0, ⟨_, rfl, hs⟩, ?_⟩
    rintro n x y2 s2 hz2 ⟨r1, hs2⟩
    refine ⟨fun _ => k _ s2 hs2 hz2, fun c => ⟨fun _ => k _ s2 hs2 hz2, fun _ => ⟨lne_of c, sp_tput (fun v s3 hs3 _ => ⟨ldn (x / 10), by rw [r1]; exact ldn_lt c, rfl, pe_tr hs2 hs3⟩)⟩⟩⟩
  · have e := ad1 (x := x6) (by omega)
    exact ⟨by rw [e]; omega, by omega⟩
theorem sp_useLibrary {Q : St → Prop} (h : 1 ≤ (σ 12 9).toInt ∧ (σ 12 9).toInt ≤ 150000) (k : ∀ s, PE σ s (if a.toInt = 0 then 1 else 0) ∨ FE σ s → Q s) : wk_X5_useLibrary a b σ Q := by
  have hT : TB σ := ⟨by omega, by omega⟩
  unfold wk_X5_useLibrary
  refine ⟨fun _ s => PE σ s (if a.toInt = 0 then 0 else -1), ?_, fun c => sk_pop hT (fun v s hs => by rw [if_neg c]; exact hs), fun c => by rw [if_pos c]; exact pe_rf⟩
  intro y s hs
  refine ⟨fun _ s => PE σ s (if a.toInt = 0 then 0 else -1), ?_, fun _ => hs, fun _ => sp_next (fun v s2 hs2 => by have := pe_tr hs hs2; rw [Int.add_zero] at this; exact this)⟩
  intro y1 s2 hs2
  refine sk_push (by have e := hs2.2; exact ⟨by rw [e]; split <;> omega, by rw [e]; split <;> omega⟩) (fun s3 hs3 => ?_)
  have h3 : PE σ s3 (if a.toInt = 0 then 1 else 0) := by
    have := pe_tr hs2 hs3
    by_cases c : a.toInt = 0
    · rw [if_pos c] at this ⊢; exact this
    · rw [if_neg c] at this ⊢; exact this
  refine ⟨fun s => PE σ s (if a.toInt = 0 then 1 else 0), fun s4 hs4 => sp_mfail (by decide) (fun s5 hs5 => k s5 (Or.inr (fe_pe hs4 hs5))), fun s => PE σ s (if a.toInt = 0 then 1 else 0), ?_, fun _ => h3, fun _ => sp_tput (fun v s4 hs4 _ => ?_)⟩
  · intro s4 hs4
    refine ⟨fun s => PE σ s (if a.toInt = 0 then 1 else 0), fun s5 hs5 => ⟨fun _ => k s5 (Or.inl hs5), fun _ => k _ (Or.inr ⟨kp_f (kp_f (kp_sub hs5.1 rfl rfl) rfl) rfl, by show (5 : Int32).toInt ≠ -1; decide⟩)⟩, fun _ => hs4, fun _ => sp_tprint (fun v s5 hs5 _ => ?_)⟩
    have := pe_tr hs4 hs5
    rw [Int.add_zero] at this
    exact ⟨fun _ => this, fun _ => this⟩
  · have := pe_tr h3 hs4
    rw [Int.add_zero] at this
    exact ⟨fun _ => this, fun _ => this⟩
theorem sp_mturn {Q : Int32 → St → Prop} (k1 : (σ 12 14).toInt < (σ 12 12).toInt → Q 1 (upC σ 12 14 ((σ 12 14) + (1 : Int32)))) (k0 : ∀ s, FE σ s → Q 0 s) : wk_X5_turn a σ Q :=
  ⟨k1, fun _ => sp_mfail (by decide) (fun s hs => k0 s hs)⟩
theorem sp_copyParameters {Q : St → Prop} (hb : a.toInt ≤ 8) (k : ∀ s, PE σ s 0 → Q s) : wk_X5_copyParameters a b σ Q := by
  unfold wk_X5_copyParameters
  refine ⟨fun n _ x s => (x.toInt = 8 - (n : Int) ∧ 0 ≤ x.toInt) ∧ PE σ s 0, ⟨8, by decide, pe_rf⟩, ?_⟩
  rintro n x3 x4 s ⟨⟨q1, q2⟩, hs⟩
  refine ⟨fun _ => k s hs, fun c => ?_⟩
  have e := ad1 (x := x4) (by omega)
  refine ⟨fun _ s => PE σ s 0, fun y s2 hs2 => ⟨n - 1, by omega, ⟨by rw [e]; omega, by omega⟩, hs2⟩, fun _ => hs, fun _ => pe_0 rfl hs⟩
end MOP
end

section
/-! the machine: frames, and where it stands -/
abbrev KMm (a b : St) : Prop := Kp [(12, 7), (12, 8), (12, 9), (12, 10), (12, 11), (12, 13), (12, 14), (12, 15), (12, 16), (12, 17), (11, 1), (11, 2)] [60, 61, 62, 63, 64] a b
/-- what a call may be aimed at -/
def CPI (κ : St) (Fs : Nat → Nat → Prop) (a : Int) (m : Nat) : Prop := (0 ≤ a ∧ a < 10100) ∧ ((((κ 59) a.toNat).toInt = -1 ∧ m = 0) ∨ (((κ 59) a.toNat).toInt < -1 ∧ -4 ≤ ((κ 59) a.toNat).toInt ∧ m = 1) ∨ ∃ hd : Nat, ((κ 59) a.toNat).toInt = hd ∧ Fs hd m)
def LKf (κ : St) (Fs : Nat → Nat → Prop) (N : Nat) : Prop := N ≤ 262150 ∧ ∀ hd n, Fs hd n → ∃ L g, FUNc (κ 24) (CPI κ Fs) N hd n L g
def FRM (κ σ : St) (Fs : Nat → Nat → Prop) (N : Nat) : Nat → Int → Int → Prop
  | 0, _, _ => False
  | 1, loc, fr => loc = 8 ∧ fr ≤ 32736
  | c + 2, loc, fr => ∃ (hd n L : Nat) (g : Gh) (pc h k : Nat) (l0 f0 : Int), FUNc (κ 24) (CPI κ Fs) N hd n L g ∧ ((σ 64) (3 * (c + 1))).toInt = pc ∧ ((σ 64) (3 * (c + 1) + 1)).toInt = l0 ∧ ((σ 64) (3 * (c + 1) + 2)).toInt = f0 ∧ g pc = some (h, k) ∧ 1 ≤ h ∧ loc = l0 + L + h - 1 ∧ fr ≤ f0 - 32 ∧ FRM κ σ Fs N (c + 1) l0 f0
/-- it stands before an instruction of a function -/
def CTx (κ σ : St) (Fs : Nat → Nat → Prop) (N c hd n L : Nat) (g : Gh) (pc h k : Nat) : Prop :=
  KMm κ σ ∧ (σ 12 13) = -1 ∧ (σ 12 7).toInt = c ∧ 1 ≤ c ∧ FRM κ σ Fs N c (σ 12 10).toInt (σ 12 11).toInt ∧ (24576 ≤ (σ 12 11).toInt) ∧ FUNc (κ 24) (CPI κ Fs) N hd n L g ∧ (σ 12 8).toInt = pc ∧ g pc = some (h, k) ∧ (σ 12 9).toInt = (σ 12 10).toInt + L + h ∧ (0 ≤ (σ 12 14).toInt ∧ (σ 12 14).toInt ≤ (σ 12 12).toInt ∧ (σ 12 12).toInt ≤ 20000)
def PHI (σ : St) (N c : Nat) (g : Gh) (pc k : Nat) : Int := (2 * ((σ 12 12).toInt - (σ 12 14).toInt) + c) * ((N : Int) + 1) + rk g N k pc
/-- going on, with less left than X, or ended -/
def GOx (κ s : St) (Fs : Nat → Nat → Prop) (N : Nat) (X : Int) : Prop := (KMm κ s ∧ (s 12 13).toInt ≠ -1) ∨ ∃ c hd n L g pc h k, CTx κ s Fs N c hd n L g pc h k ∧ PHI s N c g pc k < X
section FRS
variable {κ σ s t : St} {Fs : Nat → Nat → Prop} {N : Nat}
theorem frm_bnd : ∀ c (loc fr : Int), FRM κ σ Fs N c loc fr → 1 ≤ c ∧ 8 ≤ loc ∧ loc ≤ 8 + 520 * ((c : Int) - 1) ∧ fr ≤ 32768 - 32 * (c : Int)
  | 0, _, _ => fun h => h.elim
  | 1, loc, fr => fun h => by
    obtain ⟨h1, h2⟩ := h
    omega
  | c + 2, loc, fr => fun h => by
    obtain ⟨hd, n, L, g, pc, hh, k, l0, f0, h1, h2, h3, h4, h5, h6, h7, h8, h9⟩ := h
    have ih := frm_bnd (c + 1) l0 f0 h9
    have b := h1.2.2.2.2.2.2.2 pc hh k h5
    have b2 := h1.2.2.2.1
    omega
theorem frm_k : ∀ c (loc fr : Int), (∀ j, j < 3 * c → (s 64) j = (σ 64) j) → FRM κ σ Fs N c loc fr → FRM κ s Fs N c loc fr
  | 0, _, _ => fun _ h => h
  | 1, loc, fr => fun _ h => h
  | c + 2, loc, fr => fun e h => by
    obtain ⟨hd, n, L, g, pc, hh, k, l0, f0, h1, h2, h3, h4, h5, h6, h7, h8, h9⟩ := h
    exact ⟨hd, n, L, g, pc, hh, k, l0, f0, h1, by rw [e _ (by omega)]; exact h2, by rw [e _ (by omega)]; exact h3, by rw [e _ (by omega)]; exact h4, h5, h6, h7, h8, frm_k (c + 1) l0 f0 (fun j hj => e j (by omega)) h9⟩
theorem jn_lt {w : Nat → Int32} {CP : Int → Nat → Prop} {hd n L : Nat} {g : Gh} {pc t h k : Nat} (F : FUNc w CP N hd n L g) (j : Jn g k pc t h) : ∃ k', g t = some (h, k') ∧ rk g N k' t < rk g N k pc ∧ t < N := by
  obtain ⟨k', e, hl⟩ := j
  have ht := (F.2.2.2.2.2.2.2 t h k' e).1
  exact ⟨k', e, rk_jn e hl ht, ht⟩
/-- within a function -/
theorem ct_go {c hd n L : Nat} {g : Gh} {pc h k t h' : Nat} {d : Int} {v : Int32} (C : CTx κ σ Fs N c hd n L g pc h k) (hp : PE (upC σ 12 8 v) s d) (j : Jn g k pc t h') (hd1 : (h' : Int) = h + d) (ht : v.toInt = t) : GOx κ s Fs N (PHI σ N c g pc k) := by
  obtain ⟨c1, c2, c3, c4, c5, c6, c7, c8, c9, d1, d2⟩ := C
  obtain ⟨k', e, hr, -⟩ := jn_lt c7 j
  obtain ⟨p1, p2⟩ := hp
  have q : ∀ j, j ≠ 9 → s 12 j = upC σ 12 8 v 12 j := fun j hj => p1 12 j (by
    simp only [List.contains_cons, List.contains_nil, Bool.or_false, Bool.or_eq_false_iff]
    refine ⟨?_, ?_, ?_⟩ <;> simp [hj]) rfl
  have q8 : (s 12 8) = v := (q 8 (by decide)).trans (rdA_eq rfl)
  have q7 : (s 12 7) = (σ 12 7) := q 7 (by decide)
  have q10 : (s 12 10) = (σ 12 10) := q 10 (by decide)
  have q11 : (s 12 11) = (σ 12 11) := q 11 (by decide)
  have q12 : (s 12 12) = (σ 12 12) := q 12 (by decide)
  have q13 : (s 12 13) = (σ 12 13) := q 13 (by decide)
  have q14 : (s 12 14) = (σ 12 14) := q 14 (by decide)
  have qk : (s 64) = (σ 64) := funext (fun j => p1 64 j rfl rfl)
  have p3 : (s 12 9).toInt = (σ 12 9).toInt + d := p2
  refine Or.inr ⟨c, hd, n, L, g, t, h', k', ⟨kp_tr (kp_tr c1 (kp_f kp_rf rfl)) (kp_sub p1 rfl rfl), by rw [q13]; exact c2, by rw [q7]; exact c3, c4, by rw [q10, q11]; exact frm_k c _ _ (fun j _ => by rw [qk]) c5, by rw [q11]; exact c6, c7, by rw [q8]; exact ht, e, by rw [p3, q10]; omega, by rw [q12, q14]; exact d2⟩, ?_⟩
  unfold PHI
  rw [q12, q14]
  omega
theorem cx_end {v : Int32} {X : Int} (C : KMm κ σ) (h : FE (upC σ 12 8 v) s) : GOx κ s Fs N X := Or.inl ⟨kp_tr (kp_tr C (kp_f kp_rf rfl)) (kp_sub h.1 rfl rfl), h.2⟩
end FRS
end

section
/-! the machine: into a function, and out of it -/
def enS (s : St) (a : Int32) : St := upC (upC (upC (upC (upC (upF (upF (upF s 64 (setv 771 (s 64) ((3 : Int32) * (s 12 7)) (s 12 8))) 64 (setv 771 ((upF s 64 (setv 771 (s 64) ((3 : Int32) * (s 12 7)) (s 12 8))) 64) (((3 : Int32) * (s 12 7)) + (1 : Int32)) (s 12 10))) 64 (setv 771 ((upF (upF s 64 (setv 771 (s 64) ((3 : Int32) * (s 12 7)) (s 12 8))) 64 (setv 771 ((upF s 64 (setv 771 (s 64) ((3 : Int32) * (s 12 7)) (s 12 8))) 64) (((3 : Int32) * (s 12 7)) + (1 : Int32)) (s 12 10))) 64) (((3 : Int32) * (s 12 7)) + (2 : Int32)) (s 12 11))) 12 7 ((s 12 7) + (1 : Int32))) 12 10 ((s 12 9) - (atv 262208 (s 24) (a + (2 : Int32))))) 12 9 (((s 12 9) - (atv 262208 (s 24) (a + (2 : Int32)))) + (atv 262208 (s 24) (a + (1 : Int32))))) 12 11 (((s 12 11) - (32 : Int32)) - (atv 262208 (s 24) a))) 12 8 (a + (4 : Int32))
theorem mul3 {x : Int32} (h0 : 0 ≤ x.toInt) (h1 : x.toInt ≤ 1000) : ((3 : Int32) * x).toInt = 3 * x.toInt := by
  have h := Int32.toInt_mul (3 : Int32) x
  rw [i3] at h
  rw [h, Int.bmod_eq_of_le] <;> omega
def ENm (σ s : St) (c hd n L : Nat) : Prop := KMm σ s ∧ (s 12 7).toInt = c + 1 ∧ (s 12 10).toInt = (σ 12 9).toInt - n ∧ (s 12 9).toInt = (σ 12 9).toInt - n + L ∧ (24576 ≤ (s 12 11).toInt ∧ (s 12 11).toInt ≤ (σ 12 11).toInt - 32) ∧ (s 12 8).toInt = hd + 4 ∧ (s 12 13) = (σ 12 13) ∧ (s 12 14).toInt = (σ 12 14).toInt + 1 ∧ (σ 12 14).toInt < (σ 12 12).toInt ∧ (∀ j, j < 3 * c → (s 64) j = (σ 64) j) ∧ (s 64) (3 * c) = (σ 12 8) ∧ (s 64) (3 * c + 1) = (σ 12 10) ∧ (s 64) (3 * c + 2) = (σ 12 11)
theorem enS_7 (s : St) (a : Int32) : enS s a 12 7 = s 12 7 + 1 := by
  unfold enS
  simp only [rdC, rdF, Nat.reduceEqDiff, if_true, if_false]
theorem enS_8 (s : St) (a : Int32) : enS s a 12 8 = a + 4 := by
  unfold enS
  simp only [rdC, rdF, Nat.reduceEqDiff, if_true, if_false]
theorem enS_9 (s : St) (a : Int32) : enS s a 12 9 = (s 12 9 - atv 262208 (s 24) (a + 2)) + atv 262208 (s 24) (a + 1) := by
  unfold enS
  simp only [rdC, rdF, Nat.reduceEqDiff, if_true, if_false]
theorem enS_10 (s : St) (a : Int32) : enS s a 12 10 = s 12 9 - atv 262208 (s 24) (a + 2) := by
  unfold enS
  simp only [rdC, rdF, Nat.reduceEqDiff, if_true, if_false]
theorem enS_11 (s : St) (a : Int32) : enS s a 12 11 = (s 12 11 - 32) - atv 262208 (s 24) a := by
  unfold enS
  simp only [rdC, rdF, Nat.reduceEqDiff, if_true, if_false]
theorem enS_j (s : St) (a : Int32) (j : Nat) (h : j = 13 ∨ j = 14 ∨ j = 12) : enS s a 12 j = s 12 j := by
  unfold enS
  rcases h with e | e | e <;> subst e <;> simp only [rdC, rdF, Nat.reduceEqDiff, if_true, if_false]
theorem enS_64 (s : St) (a : Int32) : enS s a 64 = setv 771 (setv 771 (setv 771 (s 64) ((3 : Int32) * (s 12 7)) (s 12 8)) (((3 : Int32) * (s 12 7)) + (1 : Int32)) (s 12 10)) (((3 : Int32) * (s 12 7)) + (2 : Int32)) (s 12 11) := by
  unfold enS
  rw [rdC_ne (by decide), rdC_ne (by decide), rdC_ne (by decide), rdC_ne (by decide), rdC_ne (by decide), rdF_eq, rdF_eq, rdF_eq]
section ENT
variable {κ σ s t : St} {Fs : Nat → Nat → Prop} {N : Nat} {a b : Int32}
theorem kept3 {f : Nat → Int32} {x v0 v1 v2 : Int32} {c : Nat} (hx : x.toInt = c) (hc : c ≤ 255) :
    setv 771 (setv 771 (setv 771 f ((3 : Int32) * x) v0) (((3 : Int32) * x) + (1 : Int32)) v1) (((3 : Int32) * x) + (2 : Int32)) v2 = fun j => if j = 3 * c + 2 then v2 else if j = 3 * c + 1 then v1 else if j = 3 * c then v0 else f j := by
  have m := mul3 (x := x) (by omega) (by omega)
  have e0 : ((3 : Int32) * x).toInt = (3 * c : Nat) := by omega
  have e1 : (((3 : Int32) * x) + (1 : Int32)).toInt = (3 * c + 1 : Nat) := by rw [ad0 i1 (by omega) (by omega)]; omega
  have e2 : (((3 : Int32) * x) + (2 : Int32)).toInt = (3 * c + 2 : Nat) := by rw [ad0 i2 (by omega) (by omega)]; omega
  rw [setv_at e0 (by omega), setv_at e1 (by omega), setv_at e2 (by omega)]
theorem sk_enter {CP : Int → Nat → Prop} {c hd n L : Nat} {g : Gh} {Q : St → Prop} (hc : (σ 12 7).toInt = c) (hfr : (σ 12 11).toInt ≤ 32768 - 32 * (c : Int) ∧ 0 ≤ (σ 12 11).toInt) (ha : a.toInt = hd) (F : FUNc (κ 24) CP N hd n L g) (hw : (σ 24) = (κ 24)) (hN : N ≤ 262150) (hT : (n : Int) ≤ (σ 12 9).toInt ∧ (σ 12 9).toInt ≤ 150000) (ht : 0 ≤ (σ 12 14).toInt ∧ (σ 12 14).toInt ≤ 20000)
    (k0 : ∀ s, KMm σ s → (s 12 13).toInt ≠ -1 → Q s) (k1 : ∀ s, ENm σ s c hd n L → Q s) : wk_X5_enter a b σ Q := by
  obtain ⟨f1, f2, f3, f4, f5, f6, f7, f8⟩ := F
  unfold wk_X5_enter
  refine sp_mturn (fun ltu => ⟨fun _ => ?_, fun e => absurd e (by decide)⟩) (fun s hs => ⟨fun e => absurd rfl e, fun _ => k0 s (kp_sub hs.1 rfl rfl) hs.2⟩)
  have e0 : atv 262208 (σ 24) a = κ 24 hd := by rw [hw]; exact atv_at ha (by omega)
  have e1 : atv 262208 (σ 24) (a + (1 : Int32)) = κ 24 (hd + 1) := by rw [hw]; exact atv_at (by rw [ad0 i1 (by omega) (by omega)]; omega) (by omega)
  have e2 : atv 262208 (σ 24) (a + (2 : Int32)) = κ 24 (hd + 2) := by rw [hw]; exact atv_at (by rw [ad0 i2 (by omega) (by omega)]; omega) (by omega)
  have e4 : (a + (4 : Int32)).toInt = hd + 4 := by rw [ad0 i4 (by omega) (by omega)]; omega
  have t1 : ((σ 12 14) + (1 : Int32)).toInt = (σ 12 14).toInt + 1 := ad1 (by omega)
  have x1 : ((σ 12 11) - (32 : Int32)).toInt = (σ 12 11).toInt - 32 := sbc (by decide) (by omega) (by omega)
  have x2 : (((σ 12 11) - (32 : Int32)) - atv 262208 (σ 24) a).toInt = (σ 12 11).toInt - 32 - (κ 24 hd).toInt := by rw [e0, sb (by omega) (by omega), x1]
  refine ⟨fun c1 => ?_, fun c1 => sp_mfail (by decide) (fun s hs => k0 s (kp_tr (kp_f kp_rf rfl) (kp_sub hs.1 rfl rfl)) hs.2)⟩
  have c2 : 24576 ≤ (((σ 12 11) - (32 : Int32)) - atv 262208 (σ 24) a).toInt := c1
  refine sp_copyParameters (by show (atv 262208 (σ 24) (a + (2 : Int32))).toInt ≤ 8; rw [e2, f5]; omega) (fun s hs => k1 s ?_)
  have hs' : PE (enS (upC σ 12 14 ((σ 12 14) + (1 : Int32))) a) s 0 := hs
  obtain ⟨p1, p2⟩ := hs'
  have q : ∀ j, j ≠ 9 → s 12 j = enS (upC σ 12 14 ((σ 12 14) + (1 : Int32))) a 12 j := fun j hj => p1 12 j (by
    simp only [List.contains_cons, List.contains_nil, Bool.or_false, Bool.or_eq_false_iff]
    refine ⟨?_, ?_, ?_⟩ <;> simp [hj]) rfl
  have u0 : ∀ j, j ≠ 14 → (upC σ 12 14 ((σ 12 14) + (1 : Int32))) 12 j = σ 12 j := fun j hj => rdA_ne hj
  have u24 : (upC σ 12 14 ((σ 12 14) + (1 : Int32))) 24 = σ 24 := rdC_ne (by decide)
  have u64 : (upC σ 12 14 ((σ 12 14) + (1 : Int32))) 64 = σ 64 := rdC_ne (by decide)
  have q7 : (s 12 7) = (σ 12 7) + 1 := by rw [q 7 (by decide), enS_7, u0 7 (by decide)]
  have q8 : (s 12 8) = a + (4 : Int32) := by rw [q 8 (by decide), enS_8]
  have q10 : (s 12 10) = (σ 12 9) - atv 262208 (σ 24) (a + (2 : Int32)) := by rw [q 10 (by decide), enS_10, u0 9 (by decide), u24]
  have q11 : (s 12 11) = ((σ 12 11) - (32 : Int32)) - atv 262208 (σ 24) a := by rw [q 11 (by decide), enS_11, u0 11 (by decide), u24]
  have q13 : (s 12 13) = (σ 12 13) := by rw [q 13 (by decide), enS_j _ _ 13 (Or.inl rfl), u0 13 (by decide)]
  have q14 : (s 12 14) = (σ 12 14) + 1 := by rw [q 14 (by decide), enS_j _ _ 14 (Or.inr (Or.inl rfl)), rdA_eq rfl]
  have p3 : (s 12 9).toInt = (((σ 12 9) - atv 262208 (σ 24) (a + (2 : Int32))) + atv 262208 (σ 24) (a + (1 : Int32))).toInt + 0 := by rw [p2, enS_9, u0 9 (by decide), u24]
  have qk : (s 64) = fun j => if j = 3 * c + 2 then (σ 12 11) else if j = 3 * c + 1 then (σ 12 10) else if j = 3 * c then (σ 12 8) else (σ 64) j := by
    refine (funext (fun j => p1 64 j rfl rfl)).trans ?_
    rw [enS_64, u0 7 (by decide), u0 8 (by decide), u0 10 (by decide), u0 11 (by decide), u64]
    exact kept3 hc (by omega)
  have y1 : ((σ 12 9) - atv 262208 (σ 24) (a + (2 : Int32))).toInt = (σ 12 9).toInt - n := by rw [e2, sbc f5 (by omega) (by omega)]
  refine ⟨kp_tr (b := enS (upC σ 12 14 ((σ 12 14) + (1 : Int32))) a) ?_ (kp_sub p1 rfl rfl), by rw [q7, ad1 (by omega)]; omega, by rw [q10, y1], by rw [p3, e1, adc f3 (by omega) (by omega), y1]; omega, ⟨by rw [q11]; exact c2, by rw [q11, x2]; omega⟩, by rw [q8]; exact e4, q13, by rw [q14]; exact t1, ltu, fun j hj => ?_, ?_, ?_, ?_⟩
  · unfold enS
    exact kp_f (kp_f (kp_f (kp_f (kp_f (kp_F (kp_F (kp_F (kp_f kp_rf rfl) rfl) rfl) rfl) rfl) rfl) rfl) rfl) rfl
  · rw [qk]
    show (if _ then _ else _) = _
    rw [if_neg (by omega), if_neg (by omega), if_neg (by omega)]
  · rw [qk]
    show (if _ then _ else _) = _
    rw [if_neg (by omega), if_neg (by omega), if_pos rfl]
  · rw [qk]
    show (if _ then _ else _) = _
    rw [if_neg (by omega), if_pos rfl]
  · rw [qk]
    show (if _ then _ else _) = _
    rw [if_pos rfl]
/-- a function is entered out of another -/
theorem cx_enter {c hd n L m : Nat} {g : Gh} {pc h k ah aL : Nat} {ag : Gh} {Q : St → Prop} {v : Int32} (hL : LKf κ Fs N) (C : CTx κ σ Fs N c hd n L g pc h k) (ha : a.toInt = ah) (F : FUNc (κ 24) (CPI κ Fs) N ah m aL ag) (hm : m ≤ h) (j : Jn g k pc (pc + 3) (h - m + 1)) (hv : v.toInt = pc + 3)
    (kk : ∀ s, GOx κ s Fs N (PHI σ N c g pc k) → Q s) : wk_X5_enter a b (upC σ 12 8 v) Q := by
  obtain ⟨c1, c2, c3, c4, c5, c6, c7, c8, c9, d1, d2⟩ := C
  have bn := frm_bnd _ _ _ c5
  have bh := (c7.2.2.2.2.2.2.2 pc h k c9).2.1
  have bL := c7.2.2.2.1
  obtain ⟨k', e, hr, ht⟩ := jn_lt c7 j
  have kv : KMm σ (upC σ 12 8 v) := kp_f kp_rf rfl
  have hw : ((upC σ 12 8 v) 24) = (κ 24) := funext (fun i => (c1 24 i rfl rfl))
  refine sk_enter (κ := κ) (c := c) (n := m) (L := aL) (hd := ah) c3 ⟨bn.2.2.2, by show 0 ≤ (σ 12 11).toInt; omega⟩ ha F hw hL.1 ⟨by show (m : Int) ≤ (σ 12 9).toInt; omega, by show (σ 12 9).toInt ≤ 150000; omega⟩ ⟨d2.1, by show (σ 12 14).toInt ≤ 20000; omega⟩ (fun s hs ho => kk s (Or.inl ⟨kp_tr c1 (kp_tr kv hs), ho⟩)) (fun s hs => kk s (Or.inr ?_))
  obtain ⟨e1, e2, e3, e4, e5, e6, e7, e8, e9, x1, x2, x3, x4⟩ := hs
  have o3 : ((upC σ 12 8 v) 12 9).toInt = (σ 12 9).toInt := rfl
  have o4 : ((upC σ 12 8 v) 12 11).toInt = (σ 12 11).toInt := rfl
  have o5 : ((upC σ 12 8 v) 12 13) = (σ 12 13) := rfl
  have o6 : ((upC σ 12 8 v) 12 14).toInt = (σ 12 14).toInt := rfl
  have o7 : ((upC σ 12 8 v) 12 12).toInt = (σ 12 12).toInt := rfl
  have o8 : ((upC σ 12 8 v) 12 8) = v := rfl
  have o9 : ((upC σ 12 8 v) 12 10) = (σ 12 10) := rfl
  have o10 : ((upC σ 12 8 v) 12 11) = (σ 12 11) := rfl
  have o11 : ((upC σ 12 8 v) 64) = (σ 64) := rfl
  rw [o3] at e3 e4
  rw [o4] at e5
  rw [o5] at e7
  rw [o6] at e8
  rw [o6, o7] at e9
  rw [o11] at x1
  rw [o8] at x2
  rw [o9] at x3
  rw [o10] at x4
  have q12 : (s 12 12) = (σ 12 12) := e1 12 12 rfl rfl
  obtain ⟨f1, f2, f3, f4, f5, f6, ⟨k2, f7⟩, f8⟩ := F
  have hrk := cnt_le (lwr ag k2 (ah + 4)) N
  refine ⟨c + 1, ah, m, aL, ag, ah + 4, 0, k2, ⟨kp_tr c1 (kp_tr kv e1), by rw [e7]; exact c2, by omega, by omega, ?_, e5.1, ⟨f1, f2, f3, f4, f5, f6, ⟨k2, f7⟩, f8⟩, by omega, f7, by omega, by rw [q12]; omega⟩, ?_⟩
  · obtain ⟨c', rfl⟩ : ∃ c', c = c' + 1 := ⟨c - 1, by omega⟩
    have hx2 : ((s 64) (3 * (c' + 1))).toInt = (pc + 3 : Nat) := by rw [x2, hv]; rfl
    refine ⟨hd, n, L, g, pc + 3, h - m + 1, k', (σ 12 10).toInt, (σ 12 11).toInt, c7, hx2, by rw [x3], by rw [x4], e, by omega, by omega, e5.2, frm_k _ _ _ x1 c5⟩
  · have hrk' : rk ag N k2 (ah + 4) ≤ N := hrk
    unfold PHI
    rw [q12, e8]
    have hN := hL.1
    have z : (2 * ((σ 12 12).toInt - ((σ 12 14).toInt + 1)) + ((c + 1 : Nat) : Int)) * ((N : Int) + 1) = (2 * ((σ 12 12).toInt - (σ 12 14).toInt) + (c : Int)) * ((N : Int) + 1) - ((N : Int) + 1) := by
      have : (2 * ((σ 12 12).toInt - ((σ 12 14).toInt + 1)) + ((c + 1 : Nat) : Int)) = (2 * ((σ 12 12).toInt - (σ 12 14).toInt) + (c : Int)) - 1 := by omega
      rw [this, Int.sub_mul, Int.one_mul]
    rw [z]
    omega
theorem sp_giveBack {c hd n L : Nat} {g : Gh} {pc h k : Nat} {Q : St → Prop} {v : Int32} (C : CTx κ σ Fs N c hd n L g pc h k) (hh : 1 ≤ h)
    (kk : ∀ s, GOx κ s Fs N (PHI σ N c g pc k) → Q s) : wk_X5_giveBack (upC σ 12 8 v) Q := by
  obtain ⟨c1, c2, c3, c4, c5, c6, c7, c8, c9, d1, d2⟩ := C
  have bn := frm_bnd _ _ _ c5
  have bh := (c7.2.2.2.2.2.2.2 pc h k c9).2.1
  have bL := c7.2.2.2.1
  have kv : KMm σ (upC σ 12 8 v) := kp_f kp_rf rfl
  unfold wk_X5_giveBack
  refine sk_pop ⟨by show 0 ≤ (σ 12 9).toInt; omega, by show (σ 12 9).toInt ≤ 200000; omega⟩ (fun x s1 hs1 => ?_)
  obtain ⟨p1, p2⟩ := hs1
  have q : ∀ j, j ≠ 9 → s1 12 j = upC σ 12 8 v 12 j := fun j hj => p1 12 j (by
    simp only [List.contains_cons, List.contains_nil, Bool.or_false, Bool.or_eq_false_iff]
    refine ⟨?_, ?_, ?_⟩ <;> simp [hj]) rfl
  have q7 : (s1 12 7) = (σ 12 7) := q 7 (by decide)
  have q10 : (s1 12 10) = (σ 12 10) := q 10 (by decide)
  have q12 : (s1 12 12) = (σ 12 12) := q 12 (by decide)
  have q13 : (s1 12 13) = (σ 12 13) := q 13 (by decide)
  have q14 : (s1 12 14) = (σ 12 14) := q 14 (by decide)
  have qk : (s1 64) = (σ 64) := funext (fun j => p1 64 j rfl rfl)
  have km1 : KMm κ s1 := kp_tr c1 (kp_tr kv (kp_sub p1 rfl rfl))
  have ec : ((s1 12 7) - (1 : Int32)).toInt = (c : Int) - 1 := by rw [q7, sb1 (by omega)]; omega
  refine ⟨fun pos => ?_, fun neg => ?_⟩
  · obtain ⟨c', rfl⟩ : ∃ c', c = c' + 2 := ⟨c - 2, by omega⟩
    obtain ⟨hd2, n2, L2, g2, pc2, h2, k2, l0, f0, r1, r2, r3, r4, r5, r6, r7, r8, r9⟩ := c5
    have m := mul3 (x := (s1 12 7) - (1 : Int32)) (by omega) (by omega)
    have a0 : atv 771 ((s1 64)) ((3 : Int32) * ((s1 12 7) - (1 : Int32))) = (σ 64) (3 * (c' + 1)) := by
      rw [qk]
      exact atv_at (by omega) (by omega)
    have a1 : atv 771 ((s1 64)) (((3 : Int32) * ((s1 12 7) - (1 : Int32))) + (1 : Int32)) = (σ 64) (3 * (c' + 1) + 1) := by
      rw [qk]
      exact atv_at (by rw [ad0 i1 (by omega) (by omega)]; omega) (by omega)
    have a2 : atv 771 ((s1 64)) (((3 : Int32) * ((s1 12 7) - (1 : Int32))) + (2 : Int32)) = (σ 64) (3 * (c' + 1) + 2) := by
      rw [qk]
      exact atv_at (by rw [ad0 i2 (by omega) (by omega)]; omega) (by omega)
    rw [a0, a1, a2]
    have bn2 := frm_bnd _ _ _ r9
    have bh2 := (r1.2.2.2.2.2.2.2 pc2 h2 k2 r5)
    have bL2 := r1.2.2.2.1
    refine sk_push ⟨by show 0 ≤ (s1 12 10).toInt; rw [q10]; omega, by show (s1 12 10).toInt ≤ 200000; rw [q10]; omega⟩ (fun s hs => kk s (Or.inr ?_))
    obtain ⟨w1, w2⟩ := hs
    have w : ∀ j, j ≠ 9 → s 12 j = _ := fun j hj => w1 12 j (by
      simp only [List.contains_cons, List.contains_nil, Bool.or_false, Bool.or_eq_false_iff]
      refine ⟨?_, ?_, ?_⟩ <;> simp [hj]) rfl
    have w7 : (s 12 7) = (s1 12 7) - (1 : Int32) := w 7 (by decide)
    have w8 : (s 12 8) = (σ 64) (3 * (c' + 1)) := w 8 (by decide)
    have w10 : (s 12 10) = (σ 64) (3 * (c' + 1) + 1) := w 10 (by decide)
    have w11 : (s 12 11) = (σ 64) (3 * (c' + 1) + 2) := w 11 (by decide)
    have w12 : (s 12 12) = (s1 12 12) := w 12 (by decide)
    have w13 : (s 12 13) = (s1 12 13) := w 13 (by decide)
    have w14 : (s 12 14) = (s1 12 14) := w 14 (by decide)
    have w9 : (s 12 9).toInt = (s1 12 10).toInt + 1 := w2
    have wk : (s 64) = (σ 64) := (funext (fun j => w1 64 j rfl rfl)).trans qk
    refine ⟨c' + 1, hd2, n2, L2, g2, pc2, h2, k2, ⟨kp_tr km1 (kp_tr (kp_f (kp_f (kp_f (kp_f (kp_f kp_rf rfl) rfl) rfl) rfl) rfl) (kp_sub w1 rfl rfl)), by rw [w13, q13]; exact c2, by rw [w7, ec]; omega, by omega, ?_, by rw [w11]; omega, r1, by rw [w8]; exact r2, r5, by rw [w9, w10, q10]; omega, by rw [w12, w14, q12, q14]; exact d2⟩, ?_⟩
    · rw [w10, w11, r3, r4]
      exact frm_k _ _ _ (fun j _ => by rw [wk]) r9
    · have hrk : rk g2 N k2 pc2 ≤ N := cnt_le _ _
      unfold PHI
      rw [w12, w14, q12, q14]
      have z : (2 * ((σ 12 12).toInt - (σ 12 14).toInt) + ((c' + 1 : Nat) : Int)) * ((N : Int) + 1) = (2 * ((σ 12 12).toInt - (σ 12 14).toInt) + ((c' + 2 : Nat) : Int)) * ((N : Int) + 1) - ((N : Int) + 1) := by
        have : (2 * ((σ 12 12).toInt - (σ 12 14).toInt) + ((c' + 1 : Nat) : Int)) = (2 * ((σ 12 12).toInt - (σ 12 14).toInt) + ((c' + 2 : Nat) : Int)) - 1 := by omega
        rw [this, Int.sub_mul, Int.one_mul]
      rw [z]
      omega
  · exact kk _ (Or.inl ⟨kp_tr km1 (kp_f (kp_f (kp_f (kp_f (kp_f (kp_f (kp_f kp_rf rfl) rfl) rfl) rfl) rfl) rfl) rfl), by show (0 : Int32).toInt ≠ -1; decide⟩)
end ENT
end

section
/-! the machine: a step, and a run -/
section STP
variable {κ σ s t : St} {Fs : Nat → Nat → Prop} {N : Nat} {a b : Int32}
theorem sp_decide {Q : St → Prop} (h : 1 ≤ (σ 12 9).toInt ∧ (σ 12 9).toInt ≤ 150000) (k0 : ∀ s, PE σ s (-1) → Q s) (k1 : ∀ s, PE (upC σ 12 8 b) s 0 → Q s) : wk_X5_decide a b σ Q := by
  unfold wk_X5_decide
  refine sk_pop ⟨by omega, by omega⟩ (fun v s hs => ?_)
  refine ⟨fun _ => True, fun y _ _ => ⟨fun _ => k0 s hs, fun _ => ⟨fun _ => True, fun y1 _ _ => ?_, fun _ => trivial, fun _ => trivial⟩⟩, fun _ => trivial, fun _ => trivial⟩
  refine sk_push (tb_pe hs (by omega) (by omega)) (fun s2 hs2 => k1 _ ?_)
  obtain ⟨p1, p2⟩ := pe_tr hs hs2
  refine ⟨fun c j h1 h2 => ?_, ?_⟩
  · by_cases e : c = 12 ∧ j = 8
    · obtain ⟨rfl, rfl⟩ := e
      rw [rdA_eq rfl, rdA_eq rfl]
    · rw [rdC, rdC]
      by_cases e1 : c = 12
      · subst e1
        rw [if_pos rfl, if_pos rfl, if_neg (fun e2 => e ⟨rfl, e2⟩), if_neg (fun e2 => e ⟨rfl, e2⟩)]
        exact p1 12 j h1 h2
      · rw [if_neg e1, if_neg e1]
        exact p1 c j h1 h2
  · show (s2 12 9).toInt = (σ 12 9).toInt + 0
    rw [p2]
    omega
theorem sk_mcall {c hd n L : Nat} {g : Gh} {pc h k m : Nat} {Q : St → Prop} {v : Int32} (hL : LKf κ Fs N) (C : CTx κ σ Fs N c hd n L g pc h k) {x : Int} (hC : CPI κ Fs x m) (ha : a.toInt = ((κ 59) x.toNat).toInt) (hm : m ≤ h) (j : Jn g k pc (pc + 3) (h - m + 1)) (hv : v.toInt = pc + 3)
    (kk : ∀ s, GOx κ s Fs N (PHI σ N c g pc k) → Q s) : wk_X5_call a b (upC σ 12 8 v) Q := by
  have C' := C
  obtain ⟨c1, c2, c3, c4, c5, c6, c7, c8, c9, d1, d2⟩ := C'
  have bn := frm_bnd _ _ _ c5
  have bh := (c7.2.2.2.2.2.2.2 pc h k c9).2.1
  have bL := c7.2.2.2.1
  have e1 : ((-1 : Int32)).toInt = -1 := by decide
  unfold wk_X5_call
  refine ⟨fun neg => ?_, fun pos => ?_⟩
  · have lib : ∀ y : Int32, y.toInt = -1 - a.toInt → (y.toInt = 0 ∧ m = 0) ∨ (y.toInt ≠ 0 ∧ m = 1) := fun y hy => by
      rcases hC.2 with q | q | ⟨hd2, q, -⟩
      · left; omega
      · right; omega
      · omega
    have hy : (((-1) : Int32) - a).toInt = -1 - a.toInt := by
      have := s_rng a
      rw [sb (by rw [e1]; omega) (by rw [e1]; omega), e1]
    refine sp_useLibrary ⟨by show 1 ≤ (σ 12 9).toInt; omega, by show (σ 12 9).toInt ≤ 150000; omega⟩ (fun s hs => kk s ?_)
    rcases hs with hs | hs
    · rcases lib _ hy with ⟨q1, q2⟩ | ⟨q1, q2⟩
      · rw [if_pos q1] at hs
        exact ct_go C hs j (by omega) (by rw [hv]; rfl)
      · rw [if_neg q1] at hs
        exact ct_go C hs j (by omega) (by rw [hv]; rfl)
    · exact cx_end c1 hs
  · rcases hC.2 with q | q | ⟨hd2, q, q2⟩
    · omega
    · omega
    · obtain ⟨aL, ag, F⟩ := hL.2 _ _ q2
      exact cx_enter hL C (by rw [ha]; exact q) F hm j hv kk
theorem sp_lead {c hd n L nn : Nat} {g : Gh} {pc h k : Nat} {Q : St → Prop} {v : Int32} (hL : LKf κ Fs N) (C : CTx κ σ Fs N c hd n L g pc h k) (hn : a.toInt = nn) (hb : b.toInt = pc) (O : OPk nn ((κ 24) (pc + 1)).toInt g (CPI κ Fs) False pc h k) (h1 : 26 ≤ nn) (h2 : nn ≤ 33) (hv : v.toInt = ((pc + ln nn : Nat) : Int))
    (kk : ∀ s, GOx κ s Fs N (PHI σ N c g pc k) → Q s) : wk_X5_lead a b (upC σ 12 8 v) Q := by
  have C' := C
  obtain ⟨c1, c2, c3, c4, c5, c6, c7, c8, c9, d1, d2⟩ := C'
  have bn := frm_bnd _ _ _ c5
  have bh := (c7.2.2.2.2.2.2.2 pc h k c9)
  have bL := c7.2.2.2.1
  have e1 : ((κ 24) = (σ 24)) := funext (fun i => (c1 24 i rfl rfl).symm)
  have e2 : ((κ 59) = (σ 59)) := funext (fun i => (c1 59 i rfl rfl).symm)
  have hN := hL.1
  have fst : atv 262208 ((upC σ 12 8 v) 24) (b + (1 : Int32)) = (κ 24) (pc + 1) := by
    rw [e1]
    exact atv_at (f := σ 24) (by rw [ad0 i1 (by omega) (by omega)]; omega) (by omega)
  have km : KMm κ (upC σ 12 8 v) := kp_tr c1 (kp_f kp_rf rfl)
  have upp : ∀ u : Int32, upC (upC σ 12 8 v) 12 8 u = upC σ 12 8 u := fun u => by
    unfold upC upF
    funext q
    by_cases e : q = 12
    · subst e
      simp only [if_true]
      funext j
      by_cases e3 : j = 8
      · rw [if_pos e3, if_pos e3]
      · rw [if_neg e3, if_neg e3, if_neg e3]
    · simp only [if_neg e]
  obtain ⟨o1, o2, o3, o4, o5, o6, o7, o8⟩ := O
  have gm : ∀ m : Nat, a.toInt = (m : Int) → nn = m := fun m e => by omega
  have tT : 1 ≤ ((upC σ 12 8 v) 12 9).toInt → ((upC σ 12 8 v) 12 9).toInt ≤ 200000 := fun _ => by show (σ 12 9).toInt ≤ 200000; omega
  have eT : ((upC σ 12 8 v) 12 9).toInt = (σ 12 9).toInt := rfl
  have go0 : ∀ (t : Nat) (u : Int32) s d h', PE (upC σ 12 8 u) s d → Jn g k pc t h' → (h' : Int) = h + d → u.toInt = t → Q s := fun t u s d h' p j e e3 => kk s (ct_go C p j e e3)
  have dec : nn = 29 ∨ nn = 30 → ∀ y, wk_X5_decide y (atv 262208 ((upC σ 12 8 v) 24) (b + (1 : Int32))) (upC σ 12 8 v) (fun s121 => Q s121) := fun c0 y => by
    obtain ⟨a1, a2, a3⟩ := o5 c0
    rcases a3 with a3 | ⟨a3, a4⟩
    · exact a3.elim
    · rw [fst]
      have l2 : ln nn = 2 := by rcases c0 with e | e <;> subst e <;> rfl
      refine sp_decide ⟨by rw [eT]; omega, by rw [eT]; omega⟩ (fun s hs => go0 _ v s _ _ hs a2 (by omega) (by rw [hv, l2])) (fun s hs => ?_)
      rw [upp] at hs
      exact go0 _ _ s _ _ hs a4 (by omega) (by omega)
  unfold wk_X5_lead
  refine ⟨nn = 29 ∨ nn = 30, fun c0 => ⟨fun _ => True, fun y _ _ => dec c0 y, fun _ => trivial, fun _ => trivial⟩, fun c0 => ?_, fun n26 => ⟨fun c0 => ?_, fun n27 => ⟨fun c0 => ?_, fun n28 => ⟨fun c0 => Or.inl (gm 29 c0), fun n29 => ⟨fun c0 => Or.inr (gm 30 c0), fun n30 => ⟨fun c0 => ?_, fun n31 => ⟨fun c0 => ?_, fun n32 => ?_⟩⟩⟩⟩⟩⟩⟩
  · rw [fst, upp]
    rcases o3 (gm 26 c0) with a3 | ⟨a3, a4⟩
    · exact a3.elim
    · exact go0 _ _ _ _ _ pe_rf a4 (by omega) (by omega)
  · obtain ⟨a1, a2, a3⟩ := o4 (Or.inl (gm 27 c0))
    rcases a3 with a3 | ⟨a3, a4⟩
    · exact a3.elim
    · refine sk_pop ⟨by rw [eT]; omega, by rw [eT]; omega⟩ (fun x s hs => ⟨fun _ => ?_, fun _ => ?_⟩)
      · have e8 : (s 12 8) = v := (hs.1 12 8 rfl rfl).trans (rdA_eq rfl)
        have e9 : upC s 12 8 (s 12 8) = s := by
          funext q j
          rw [rdC]
          by_cases z : q = 12
          · subst z
            rw [if_pos rfl]
            by_cases z2 : j = 8
            · subst z2; rw [if_pos rfl]
            · rw [if_neg z2]
          · rw [if_neg z]
        rw [e9]
        have l2 : ln nn = 2 := by rw [gm 27 c0]; rfl
        exact go0 _ v s _ _ hs a2 (by omega) (by rw [hv, l2])
      · rw [fst]
        have hs2 : PE (upC σ 12 8 ((κ 24) (pc + 1))) (upC s 12 8 ((κ 24) (pc + 1))) (-1) := by
          obtain ⟨p1, p2⟩ := hs
          refine ⟨fun q j h1 h2 => ?_, ?_⟩
          · have z := p1 q j h1 h2
            rw [rdC] at z
            rw [rdC, rdC]
            by_cases z1 : q = 12
            · subst z1
              rw [if_pos rfl] at z
              rw [if_pos rfl, if_pos rfl]
              by_cases z2 : j = 8
              · rw [if_pos z2, if_pos z2]
              · rw [if_neg z2] at z
                rw [if_neg z2, if_neg z2]
                exact z
            · rw [if_neg z1] at z
              rw [if_neg z1, if_neg z1]
              exact z
          · exact p2
        exact go0 _ _ _ _ _ hs2 a4 (by omega) (by omega)
  · obtain ⟨a1, a2, a3⟩ := o4 (Or.inr (gm 28 c0))
    rcases a3 with a3 | ⟨a3, a4⟩
    · exact a3.elim
    · refine sk_pop ⟨by rw [eT]; omega, by rw [eT]; omega⟩ (fun x s hs => ⟨fun _ => ?_, fun _ => ?_⟩)
      · have e9 : upC s 12 8 (s 12 8) = s := by
          funext q j
          rw [rdC]
          by_cases z : q = 12
          · subst z
            rw [if_pos rfl]
            by_cases z2 : j = 8
            · subst z2; rw [if_pos rfl]
            · rw [if_neg z2]
          · rw [if_neg z]
        rw [e9]
        have l2 : ln nn = 2 := by rw [gm 28 c0]; rfl
        exact go0 _ v s _ _ hs a2 (by omega) (by rw [hv, l2])
      · rw [fst]
        have hs2 : PE (upC σ 12 8 ((κ 24) (pc + 1))) (upC s 12 8 ((κ 24) (pc + 1))) (-1) := by
          obtain ⟨p1, p2⟩ := hs
          refine ⟨fun q j h1 h2 => ?_, ?_⟩
          · have z := p1 q j h1 h2
            rw [rdC] at z
            rw [rdC, rdC]
            by_cases z1 : q = 12
            · subst z1
              rw [if_pos rfl] at z
              rw [if_pos rfl, if_pos rfl]
              by_cases z2 : j = 8
              · rw [if_pos z2, if_pos z2]
              · rw [if_neg z2] at z
                rw [if_neg z2, if_neg z2]
                exact z
            · rw [if_neg z1] at z
              rw [if_neg z1, if_neg z1]
              exact z
          · exact p2
        exact go0 _ _ _ _ _ hs2 a4 (by omega) (by omega)
  · obtain ⟨k', a1⟩ := o6 (gm 31 c0)
    have l2 : ln nn = 2 := by rw [gm 31 c0]; rfl
    refine sp_mturn (fun lt => kk _ (Or.inr ?_)) (fun s hs => kk s (cx_end c1 hs))
    have lt' : (σ 12 14).toInt < (σ 12 12).toInt := lt
    have e14 : ((σ 12 14) + (1 : Int32)).toInt = (σ 12 14).toInt + 1 := ad1 (by omega)
    refine ⟨c, hd, n, L, g, pc + 2, h, k', ⟨kp_tr km (kp_f kp_rf rfl), c2, c3, c4, by show FRM κ _ Fs N c (σ 12 10).toInt (σ 12 11).toInt; exact frm_k (σ := σ) c _ _ (fun j _ => rfl) c5, c6, c7, by show v.toInt = _; rw [hv, l2], a1, d1, ?_⟩, ?_⟩
    · show 0 ≤ ((σ 12 14) + (1 : Int32)).toInt ∧ ((σ 12 14) + (1 : Int32)).toInt ≤ (σ 12 12).toInt ∧ (σ 12 12).toInt ≤ 20000
      rw [e14]
      omega
    · have hrk : rk g N k' (pc + 2) ≤ N := cnt_le _ _
      show (2 * ((σ 12 12).toInt - ((σ 12 14) + (1 : Int32)).toInt) + c) * ((N : Int) + 1) + rk g N k' (pc + 2) < (2 * ((σ 12 12).toInt - (σ 12 14).toInt) + c) * ((N : Int) + 1) + rk g N k pc
      rw [e14]
      have z : (2 * ((σ 12 12).toInt - ((σ 12 14).toInt + 1)) + (c : Int)) * ((N : Int) + 1) = (2 * ((σ 12 12).toInt - (σ 12 14).toInt) + (c : Int)) * ((N : Int) + 1) - 2 * ((N : Int) + 1) := by
        have : (2 * ((σ 12 12).toInt - ((σ 12 14).toInt + 1)) + (c : Int)) = (2 * ((σ 12 12).toInt - (σ 12 14).toInt) + (c : Int)) - 2 := by omega
        rw [this, Int.sub_mul]
      rw [z]
      omega
  · obtain ⟨m, a1, a2, a3⟩ := o7 (gm 32 c0)
    have l3 : ln nn = 3 := by rw [gm 32 c0]; rfl
    refine sk_mcall (x := ((κ 24) (pc + 1)).toInt) hL C a1 ?_ a2 a3 (by rw [hv, l3]; rfl) (fun s hs => kk s hs)
    rw [fst]
    have := a1.1
    have en := nt (x := (κ 24) (pc + 1)) this.1
    rw [e2]
    exact congrArg Int32.toInt (atv_at (f := σ 59) (by omega) (by omega))
  · exact sp_giveBack C (o8 (by omega)) (fun s hs => kk s hs)
theorem sk_step {c hd n L : Nat} {g : Gh} {pc h k : Nat} {Q : St → Prop} (hL : LKf κ Fs N) (C : CTx κ σ Fs N c hd n L g pc h k)
    (kk : ∀ s, GOx κ s Fs N (PHI σ N c g pc k) → Q s) : wk_X5_step σ Q := by
  have C' := C
  obtain ⟨c1, c2, c3, c4, c5, c6, c7, c8, c9, d1, d2⟩ := C'
  have bn := frm_bnd _ _ _ c5
  obtain ⟨b1, b2, nn, e0, O⟩ := c7.2.2.2.2.2.2.2 pc h k c9
  have bL := c7.2.2.2.1
  have hN := hL.1
  have e1 : ((κ 24) = (σ 24)) := funext (fun i => (c1 24 i rfl rfl).symm)
  have ew : atv 262208 (σ 24) (σ 12 8) = (κ 24) pc := by
    rw [e1]
    exact atv_at c8 (by omega)
  obtain ⟨⟨n1, n2, n3⟩, O2⟩ := O
  have hl : (atv 61 (gC 1) ((κ 24) pc)).toInt = (ln nn : Nat) := ln_at e0 (by omega)
  have lp := ln_pos nn (by omega) n1 n3
  have hv : ((σ 12 8) + atv 61 (gC 1) ((κ 24) pc)).toInt = ((pc + ln nn : Nat) : Int) := by
    rw [ad (by omega) (by omega), hl]
    omega
  have O : OPk nn ((κ 24) (pc + 1)).toInt g (CPI κ Fs) False pc h k := ⟨⟨n1, n2, n3⟩, O2⟩
  have pl : PLn nn → ∀ s, PE (upC σ 12 8 ((σ 12 8) + atv 61 (gC 1) ((κ 24) pc))) s (de nn) ∨ FE (upC σ 12 8 ((σ 12 8) + atv 61 (gC 1) ((κ 24) pc))) s → Q s := fun p s hs => by
    obtain ⟨q1, h', q2, q3⟩ := O.2.1 p
    rcases hs with hs | hs
    · exact kk s (ct_go C hs q3 q2 hv)
    · exact kk s (cx_end c1 hs)
  have po2 : po nn ≤ 2 := (de_po nn (by omega)).2.2.1
  unfold wk_X5_step
  rw [ew]
  refine ⟨False, fun f => f.elim, fun q => by omega, fun _ => ⟨fun q => by omega, fun _ => ⟨fun _ => ⟨fun l41 => ⟨fun l26 => ⟨fun l22 => ⟨fun l18 => ⟨fun l11 => ?_, fun g11 => ?_⟩, fun g18 => ?_⟩, fun g22 => ?_⟩, fun g26 => ?_⟩, fun g41 => ?_⟩, fun q => by omega⟩⟩⟩
  · exact sk_plain ⟨by show 1 ≤ (σ 12 9).toInt; omega, by show (σ 12 9).toInt ≤ 150000; omega⟩ e0 n1 (by omega) (fun s hs => pl (Or.inl (by omega)) s (Or.inl hs))
  · exact sp_inFrame ⟨by show 1 ≤ (σ 12 9).toInt; omega, by show (σ 12 9).toInt ≤ 150000; omega⟩ e0 (by omega) (by omega) (fun s hs => pl (Or.inl (by omega)) s (Or.inl hs))
  · exact sp_reach ⟨by show 2 ≤ (σ 12 9).toInt; omega, by show (σ 12 9).toInt ≤ 150000; omega⟩ e0 (by omega) (by omega) (fun s hs => pl (Or.inl (by omega)) s hs)
  · refine sk_pop ⟨by show 0 ≤ (σ 12 9).toInt; omega, by show (σ 12 9).toInt ≤ 200000; omega⟩ (fun v s hs => sp_inverted (fun v2 => sk_push (tb_pe hs (by show 0 ≤ (σ 12 9).toInt + -1; omega) (by show (σ 12 9).toInt + -1 ≤ 200000; omega)) (fun s2 hs2 => pl (Or.inl (by omega)) s2 (Or.inl ?_))))
    have d0 : ∀ m, m < 26 → 22 ≤ m → de m = 0 := by decide
    have := pe_tr hs hs2
    rw [d0 nn (by omega) (by omega)]
    exact this
  · exact sp_lead hL C e0 c8 O (by omega) (by omega) hv (fun s hs => kk s hs)
  · have dm : de nn = -1 := by unfold de; rw [if_pos (by omega)]
    exact sp_calculate ⟨by show 2 ≤ (σ 12 9).toInt; omega, by show (σ 12 9).toInt ≤ 150000; omega⟩ (fun s hs => pl (Or.inr (by omega)) s (by rw [dm]; exact hs))
end STP
end

section
/-! the machine: a run -/
section RUN
variable {κ σ s t : St} {Fs : Nat → Nat → Prop} {N : Nat} {a b : Int32}
theorem up_lt {x y : Int32} (h : x.toInt < y.toInt) : (x + 1).toInt = x.toInt + 1 := by
  have := s_rng y
  exact ad1 (by omega)
theorem sp_fill62 {Q : St → Prop} (k : ∀ s, Kp [] [62] σ s → Q s) : wk_X4_fill_r62 σ Q := by
  unfold wk_X4_fill_r62
  refine ⟨fun n x s => n = ((σ 10 7).toInt - x.toInt).toNat ∧ Kp [] [62] σ s, ⟨_, rfl, kp_rf⟩, ?_⟩
  rintro n x s ⟨hn, hs⟩
  have e7 : (s 10 7) = (σ 10 7) := hs 10 7 rfl rfl
  refine ⟨fun _ => k s hs, fun c => ?_⟩
  rw [e7] at c
  refine ⟨fun m y s2 => m = ((atv 101 ((σ 35)) (atv 101 ((s 57)) x)).toInt - y.toInt).toNat ∧ Kp [] [62] σ s2, ⟨_, rfl, hs⟩, ?_⟩
  rintro m y s2 ⟨hm, hs2⟩
  have e35 : (s2 35) = (σ 35) := funext (fun j => hs2 35 j rfl rfl)
  refine ⟨fun _ => ⟨((σ 10 7).toInt - (x + 1).toInt).toNat, by rw [up_lt c]; omega, rfl, hs2⟩, fun c2 => ?_⟩
  rw [e35] at c2
  refine ⟨fun _ => True, fun y0 _ => ⟨((atv 101 ((σ 35)) (atv 101 ((s 57)) x)).toInt - (y + 1).toInt).toNat, by rw [up_lt c2]; omega, rfl, kp_F hs2 rfl⟩, fun _ => ⟨fun _ => trivial, fun _ => trivial⟩, fun _ => trivial⟩
def bgS (s : St) (a1 : Int32) : St := upC (upC (upC (upC (upC (upC (upC (upC (upC (upC (upC s 12 12 a1) 12 13 ((-1) : Int32)) 12 14 (0 : Int32)) 12 15 (0 : Int32)) 12 16 ((-1) : Int32)) 12 17 (0 : Int32)) 12 7 (0 : Int32)) 12 8 (0 : Int32)) 12 9 (8 : Int32)) 12 10 (8 : Int32)) 12 11 (32768 : Int32)
abbrev KRm (a b : St) : Prop := Kp [(12, 7), (12, 8), (12, 9), (12, 10), (12, 11), (12, 12), (12, 13), (12, 14), (12, 15), (12, 16), (12, 17), (11, 0), (11, 1), (11, 2)] [60, 61, 62, 63, 64] a b
theorem sp_mbegin {Q : St → Prop} (k : ∀ s, Kp [(11, 1), (11, 2)] [62] σ s → Q (bgS s a)) : wk_X5_begin a σ Q := by
  unfold wk_X5_begin
  refine sp_fill62 (fun s hs => k _ (kp_f (kp_f (kp_tr (kp_F kp_rf rfl) (kp_sub hs rfl rfl)) rfl) rfl))
theorem lg_lt {x y : Int64} (h : (lg_cmp x y).toInt < 0) : x.toInt < y.toInt := lc_lt h
theorem most_eq {f l : Int32} (hf : 0 ≤ f.toInt ∧ f.toInt ≤ 20000) (hl : 0 ≤ l.toInt ∧ l.toInt ≤ 300000) : ((((4 : Int64) * f.toInt64) + (8 : Int64)) * (l.toInt64 + (1 : Int64))).toInt = (4 * f.toInt + 8) * (l.toInt + 1) := by
  have ef : f.toInt64.toInt = f.toInt := Int32.toInt_toInt64 f
  have el : l.toInt64.toInt = l.toInt := Int32.toInt_toInt64 l
  have e4 : (4 : Int64).toInt = 4 := by decide
  have e8 : (8 : Int64).toInt = 8 := by decide
  have e1 : (1 : Int64).toInt = 1 := by decide
  have m1 : ((4 : Int64) * f.toInt64).toInt = 4 * f.toInt := by
    rw [Int64.toInt_mul, e4, ef, Int.bmod_eq_of_le] <;> omega
  have m2 : (((4 : Int64) * f.toInt64) + (8 : Int64)).toInt = 4 * f.toInt + 8 := by
    rw [Int64.toInt_add, m1, e8, Int.bmod_eq_of_le] <;> omega
  have m3 : (l.toInt64 + (1 : Int64)).toInt = l.toInt + 1 := by
    rw [Int64.toInt_add, el, e1, Int.bmod_eq_of_le] <;> omega
  have h1 : 0 ≤ (4 * f.toInt + 8) * (l.toInt + 1) := Int.mul_nonneg (by omega) (by omega)
  have h2 : (4 * f.toInt + 8) * (l.toInt + 1) ≤ 100000 * 400000 := Int.mul_le_mul (by omega) (by omega) (by omega) (by omega)
  rw [Int64.toInt_mul, m2, m3, Int.bmod_eq_of_le] <;> omega
theorem sp_execute {n : Nat} {Q : Int32 → St → Prop} (hL : LKf σ Fs N) (hN : (N : Int) = (σ 4 1).toInt) (ha : 0 ≤ a.toInt ∧ a.toInt ≤ 20000) {hd : Nat} (hm : (σ 10 11).toInt = hd) (hF : Fs hd n) (n0 : n = 0)
    (k : ∀ r s, KRm σ s → (s 11 0).toInt = 0 → Q r s) : wk_X5_execute a σ Q := by
  unfold wk_X5_execute
  refine sp_mbegin (fun s0 hs0 => ?_)
  have kb : KRm σ (bgS s0 a) := kp_f (kp_f (kp_f (kp_f (kp_f (kp_f (kp_f (kp_f (kp_f (kp_f (kp_f (kp_sub hs0 rfl rfl) rfl) rfl) rfl) rfl) rfl) rfl) rfl) rfl) rfl) rfl) rfl
  have ew : ((bgS s0 a) 24) = (σ 24) := funext (fun j => kb 24 j rfl rfl)
  have ea : ((bgS s0 a) 59) = (σ 59) := funext (fun j => kb 59 j rfl rfl)
  have em : ((bgS s0 a) 10 11) = (σ 10 11) := kb 10 11 rfl rfl
  have el : ((bgS s0 a) 4 1) = (σ 4 1) := kb 4 1 rfl rfl
  have ei : ∀ x m, CPI (bgS s0 a) Fs x m = CPI σ Fs x m := fun x m => by unfold CPI; rw [ea]
  have hL' : LKf (bgS s0 a) Fs N := ⟨hL.1, fun h m q => by
    obtain ⟨L, g, F⟩ := hL.2 h m q
    have e2 : CPI (bgS s0 a) Fs = CPI σ Fs := funext (fun x => funext (fun m => ei x m))
    exact ⟨L, g, by rw [ew, e2]; exact F⟩⟩
  obtain ⟨L, g, F⟩ := hL'.2 hd n hF
  have F' := F
  obtain ⟨f1, f2, f3, f4, f5, f6, ⟨k2, f7⟩, f8⟩ := F'
  have b7 : ((bgS s0 a) 12 7).toInt = 0 := rfl
  have b9 : ((bgS s0 a) 12 9).toInt = 8 := rfl
  have b10 : ((bgS s0 a) 12 10).toInt = 8 := rfl
  have b11 : ((bgS s0 a) 12 11).toInt = 32768 := rfl
  have b12 : ((bgS s0 a) 12 12) = a := rfl
  have b13 : ((bgS s0 a) 12 13) = -1 := rfl
  have b14 : ((bgS s0 a) 12 14).toInt = 0 := rfl
  generalize hB : bgS s0 a = B at *
  have fin : ∀ s, KMm B s → wk_X9_useUp s (fun s92 => Q (s92 12 13) s92) := fun s hs => k _ _ (kp_tr kb (kp_f (kp_sub hs rfl rfl) rfl)) rfl
  have hmost := most_eq (f := a) (l := (σ 4 1)) ha (by have := hL.1; omega)
  refine sk_enter (κ := B) (c := 0) (n := n) (L := L) (hd := hd) b7 ⟨by omega, by omega⟩ (by rw [em]; exact hm) F rfl hL.1 ⟨by omega, by omega⟩ ⟨by omega, by omega⟩ (fun s hs ho => ?_) (fun s hs => ?_)
  · refine ⟨fun m x s2 => s2 = s, ⟨0, rfl⟩, ?_⟩
    rintro m x s2 rfl
    refine ⟨True, fun _ => ⟨fun s3 => s3 = s2, fun s3 e => by subst e; exact fin _ hs, fun _ => rfl, fun c => absurd c ho⟩, fun _ => trivial, fun _ => ⟨fun _ => trivial, fun c => absurd c ho⟩⟩
  · obtain ⟨e1, e2, e3, e4, e5, e6, e7, e8, e9, x1, x2, x3, x4⟩ := hs
    have q12 : (s 12 12) = (B 12 12) := e1 12 12 rfl rfl
    have q4 : (s 4 1) = (B 4 1) := e1 4 1 rfl rfl
    have hfu : (s 12 12) = a := q12.trans b12
    have hC : CTx B s Fs N 1 hd n L g (hd + 4) 0 k2 := ⟨e1, e7.trans b13, by omega, by omega, ⟨by omega, by omega⟩, e5.1, F, by omega, f7, by omega, by rw [hfu]; rw [b12] at e9; omega⟩
    have hP : PHI s N 1 g (hd + 4) k2 < (4 * a.toInt + 8) * ((σ 4 1).toInt + 1) := by
      have hrk : rk g N k2 (hd + 4) ≤ N := cnt_le _ _
      have et : (s 12 14).toInt = 1 := by omega
      unfold PHI
      rw [hfu, et, ← hN]
      have h1 : (2 * (a.toInt - 1) + ((1 : Nat) : Int)) * ((N : Int) + 1) ≤ (4 * a.toInt + 6) * ((N : Int) + 1) := Int.mul_le_mul_of_nonneg_right (by omega) (by omega)
      have h2 : (4 * a.toInt + 8) * ((N : Int) + 1) = (4 * a.toInt + 6) * ((N : Int) + 1) + 2 * ((N : Int) + 1) := by rw [← Int.add_mul]; congr 1; omega
      rw [h2]
      omega
    rw [hfu, q4, el]
    generalize hMX : (((4 : Int64) * a.toInt64) + (8 : Int64)) * (((σ 4 1)).toInt64 + (1 : Int64)) = MX at *
    have hMX2 : MX.toInt = (4 * a.toInt + 8) * ((σ 4 1).toInt + 1) := hmost
    refine ⟨fun m x s2 => m = (MX.toInt - x.toInt).toNat ∧ 0 ≤ x.toInt ∧ ((KMm B s2 ∧ (s2 12 13).toInt ≠ -1) ∨ ∃ c hd n L g pc h k, CTx B s2 Fs N c hd n L g pc h k ∧ PHI s2 N c g pc k + x.toInt < MX.toInt), ⟨_, rfl, by decide, Or.inr ⟨1, hd, n, L, g, hd + 4, 0, k2, hC, ?_⟩⟩, ?_⟩
    · have : (0 : Int64).toInt = 0 := by decide
      rw [this]
      omega
    · rintro m x s2 ⟨hm2, hx, hs2⟩
      refine ⟨(s2 12 13).toInt ≠ -1, fun o => ⟨fun s3 => s3 = s2, fun s3 e => ?_, fun _ => rfl, fun c => absurd c o⟩, fun c => ?_, fun c => ⟨fun o => o, fun o => ?_⟩⟩
      · subst e
        rcases hs2 with ⟨q, -⟩ | ⟨c, hd, n, L, g, pc, h, k, C, -⟩
        · exact fin _ q
        · exact fin _ C.1
      · have c2 := lc_ge c
        rcases hs2 with ⟨-, q⟩ | ⟨c, hd, n, L, g, pc, h, k, C, q⟩
        · exact q
        · exfalso
          have hrk : 0 ≤ (2 * ((s2 12 12).toInt - (s2 12 14).toInt) + (c : Int)) * ((N : Int) + 1) := Int.mul_nonneg (by have := C.2.2.2.2.2.2.2.2.2.2; omega) (by omega)
          unfold PHI at q
          omega
      · have c2 := lc_lt c
        rcases hs2 with ⟨-, q⟩ | ⟨c, hd, n, L, g, pc, h, k, C, q⟩
        · exact absurd o q
        · refine sk_step hL' C (fun s3 hs3 => ?_)
          have ex : (x + (1 : Int64)).toInt = x.toInt + 1 := by
            have e1 : (1 : Int64).toInt = 1 := by decide
            have r : MX.toInt ≤ 100000 * 400000 := by
              rw [hMX2]
              exact Int.mul_le_mul (by omega) (by have := hL.1; omega) (by have := hL.1; omega) (by omega)
            rw [Int64.toInt_add, e1, Int.bmod_eq_of_le] <;> omega
          refine ⟨(MX.toInt - (x + (1 : Int64)).toInt).toNat, by rw [ex]; omega, rfl, by rw [ex]; omega, ?_⟩
          rcases hs3 with q2 | ⟨c', hd', n', L', g', pc', h', k', C', q2⟩
          · exact Or.inl q2
          · exact Or.inr ⟨c', hd', n', L', g', pc', h', k', C', by rw [ex]; omega⟩
end RUN
end

section
/-! the steps of a unit: what each does to the operands that wait -/
abbrev It : Type := Nat × Nat
def iV : It := (0, 0)
def iL (s : Int) : It := (1, s.toNat)
def iQ : It := (2, 0)
def iC : It := (3, 0)
def iM : It := (4, 0)
def iF : It := (5, 0)
def lvl (s : Int) : Int := if 41 ≤ s ∧ s ≤ 58 then (gC 0 (s - 41).toNat).toInt else 0
def dx (act tk : Int) (A B : List It) : Prop :=
  ((act = 1 ∨ act = 2 ∨ act = 3) ∧ A.length < 500 ∧ B = iV :: A) ∨
  (act = 4 ∧ A.length < 500 ∧ tk = 2 ∧ B = iF :: A) ∨
  (act = 5 ∧ ∃ S, A = iV :: iF :: S ∧ B = iF :: S) ∨
  (act = 6 ∧ ∃ S, A = iF :: S ∧ B = iV :: S) ∨
  (act = 7 ∧ (tk = 24 ∨ (30 ≤ tk ∧ tk ≤ 40) ∨ (41 ≤ tk ∧ tk ≤ 58)) ∧ ∃ S, A = iV :: S ∧ B = iL tk :: S) ∨
  (act = 8 ∧ (41 ≤ tk ∧ tk ≤ 58) ∧ ∃ S, A = iV :: iL tk :: S ∧ B = iV :: S) ∨
  (act = 9 ∧ (30 ≤ tk ∧ tk ≤ 40) ∧ ∃ S, A = iV :: iL tk :: S ∧ B = iV :: S) ∨
  (act = 10 ∧ ∃ S, A = iV :: iL 24 :: S ∧ B = iV :: S) ∨
  ((act = 11 ∨ act = 12 ∨ act = 13) ∧ ∃ S, A = iV :: S ∧ B = A) ∨
  (act = 14 ∧ ∃ S, A = iV :: S ∧ B = iQ :: S) ∨
  (act = 15 ∧ ∃ S, A = iV :: iQ :: S ∧ B = iM :: iC :: S) ∨
  (act = 16 ∧ ∃ S, A = iV :: iM :: iC :: S ∧ B = iV :: S)
def act (σ : St) (i : Nat) : Int := ((σ 18) i).toInt
def tkx (σ : St) (t : Int32) : Int := (atv 16002 (σ 13) t).toInt
def vlx (σ : St) (t : Int32) : Int := (atv 16002 (σ 14) t).toInt
def XR (σ : St) : Nat → Nat → List It → List It → Prop
  | 0, _, A, B => A = B
  | n + 1, i, A, B => ∃ A1, dx (act σ i) (tkx σ ((σ 19) i)) A A1 ∧ XR σ n (i + 1) A1 B
/-- the words that a step may make -/
def cst (σ : St) (i : Nat) : Nat := ([0, 2, 3, 2, 0, 0, 3, 2, 2, 2, 3, 2, 0, 2, 2, 2, 0, 0, 0, 0, 0, 0, 1, 2, 2, 0, 0, 4, 2, 2, 0, 2, 0, 4, 4, 2, 2, 2, 3, 0, 0, 0, 0, 5, 3, 0, 3, 4, 0, 3] : List Nat).getD (act σ i).toNat 0 + (if act σ i = 45 then 4 * (vlx σ ((σ 19) i)).toNat else 0)
def csum (σ : St) : Nat → Nat → Nat
  | 0, _ => 0
  | n + 1, i => cst σ i + csum σ n (i + 1)
section XRS
variable {σ s : St}
theorem xr_app : ∀ (n i m : Nat) (A B D : List It), XR σ n i A B → XR σ m (i + n) B D → XR σ (n + m) i A D
  | 0, i, m, A, B, D => fun h g => by
    cases h
    rw [Nat.zero_add]
    exact g
  | n + 1, i, m, A, B, D => fun h g => by
    obtain ⟨A1, h1, h2⟩ := h
    rw [Nat.add_right_comm]
    exact ⟨A1, h1, xr_app n (i + 1) m A1 B D h2 (by rw [Nat.add_right_comm, Nat.add_assoc]; exact g)⟩
theorem csum_app : ∀ (n i m : Nat), csum σ (n + m) i = csum σ n i + csum σ m (i + n)
  | 0, i, m => by
    rw [Nat.zero_add]
    show _ = 0 + csum σ m i
    omega
  | n + 1, i, m => by
    rw [Nat.add_right_comm]
    show cst σ i + csum σ (n + m) (i + 1) = cst σ i + csum σ n (i + 1) + csum σ m (i + (n + 1))
    rw [csum_app n (i + 1) m]
    have : i + 1 + n = i + (n + 1) := by omega
    rw [this]
    omega
/-- what a step is made of stays -/
def SameAt (σ s : St) (i : Nat) : Prop := (s 18) i = (σ 18) i ∧ (s 19) i = (σ 19) i
theorem act_same {i : Nat} (h : SameAt σ s i) : act s i = act σ i := by unfold act; rw [h.1]
theorem xr_same (hk : (s 13) = (σ 13)) : ∀ (n i : Nat) (A B : List It), (∀ j, i ≤ j → j < i + n → SameAt σ s j) → XR σ n i A B → XR s n i A B
  | 0, i, A, B => fun _ h => h
  | n + 1, i, A, B => fun e h => by
    obtain ⟨A1, h1, h2⟩ := h
    have e0 := e i (by omega) (by omega)
    refine ⟨A1, ?_, xr_same hk n (i + 1) A1 B (fun j h1 h2 => e j (by omega) (by omega)) h2⟩
    unfold tkx at h1 ⊢
    rw [act_same e0, e0.2, hk]
    exact h1
theorem cst_same {i : Nat} (hv : (s 14) = (σ 14)) (h : SameAt σ s i) : cst s i = cst σ i := by
  unfold cst vlx
  rw [act_same h, h.2, hv]
theorem csum_same (hv : (s 14) = (σ 14)) : ∀ (n i : Nat), (∀ j, i ≤ j → j < i + n → SameAt σ s j) → csum s n i = csum σ n i
  | 0, i => fun _ => rfl
  | n + 1, i => fun e => by
    show cst s i + csum s n (i + 1) = cst σ i + csum σ n (i + 1)
    rw [cst_same hv (e i (by omega) (by omega)), csum_same hv n (i + 1) (fun j h1 h2 => e j (by omega) (by omega))]
end XRS
end

