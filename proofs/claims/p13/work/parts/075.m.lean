set_option maxHeartbeats 4000000 in
set_option maxRecDepth 100000 in
theorem kt_X4_definition (a : Nat → Nat) (r : Nat → Nat) {a1 : Int32} {a2 : Int32} {σ : St} {Q : Int32 → Prop} (w : wk_X4_definition a1 a2 σ Q) (l : Launch) (D : va_G) (cy : Nat → ClassId) : Ct l D cy SC r (EC a gC) y_X4_definition (Cond.code y_X4_definition b_X4_definition 4 (some .int)) 3 [.ref (r 10), .int a1, .int a2] σ Z0 [] (QI (fun x σ9 => σ9 = σ ∧ Q x)) QT0 := by
  unfold wk_X4_definition at w
  refine Ct_of (EC_ok a gC) (by decide) (Nat.le_of_ble_eq_true rfl) (by decide) (fun X hnn hF => ?_)
  show G SC r X σ Z0 [] [(0, .ref (r 10)), (1, .int a1), (2, .int a2)] [] 0
  refine g_aload_n hF d_X4_definition_0 rfl 0 rfl ?_
  refine g_get (v := .ref (r 5)) hF 0 obC_10 (by decide) m_597 rfl d_X4_definition_1 ?_
  refine g_iload_n hF d_X4_definition_4 rfl 2 rfl ?_
  refine g_callVN (As := [.int a2]) (rest := []) hF (fun l D cy => kt_X8_nameStart a r w l D cy) (Nat.le_of_ble_eq_true rfl) mV_X8_nameStart nm_1584 (recv_ob obC_5) rfl rfl (Nat.le_of_ble_eq_true rfl) d_X4_definition_5 (qIr (fun v5 w1 => ?_))
  refine g_istore_n hF [(3, .int v5), (0, .ref (r 10)), (1, .int a1), (2, .int a2)] d_X4_definition_8 rfl hnn (by decide) rfl ?_
  refine g_aload_n hF d_X4_definition_9 rfl 1 rfl ?_
  refine g_aload_n hF d_X4_definition_10 rfl 1 rfl ?_
  refine g_get (v := .ref (r 56)) hF 6 obC_10 (by decide) m_606 rfl d_X4_definition_11 ?_
  refine g_iload_n hF d_X4_definition_14 rfl 2 rfl ?_
  refine g_aload_n hF d_X4_definition_15 rfl 1 rfl ?_
  refine g_get (v := .ref (r 5)) hF 0 obC_10 (by decide) m_597 rfl d_X4_definition_16 ?_
  refine g_getN (v := .ref (r 30)) hF 8 obC_5 (by decide) nm_241 rfl d_X4_definition_19 ?_
  refine g_iload_n hF d_X4_definition_22 rfl 0 rfl ?_
  refine g_aload_n hF d_X4_definition_23 rfl 1 rfl ?_
  refine g_get (v := .ref (r 5)) hF 0 obC_10 (by decide) m_597 rfl d_X4_definition_24 ?_
  refine g_getN (v := .ref (r 29)) hF 6 obC_5 (by decide) nm_238 rfl d_X4_definition_27 ?_
  refine g_iload_n hF d_X4_definition_30 rfl 3 rfl ?_
  refine g_callSN (As := [.ref (r 29), .int a2]) (rest := [.int v5, .ref (r 30), .int a1, .ref (r 56), .ref (r 10)]) hF (c_atv a r σ arC_29 (by decide) a2) (Nat.le_of_ble_eq_true rfl) mS_X12_at nm_1552 rfl rfl (Nat.le_of_ble_eq_true rfl) d_X4_definition_31 (kQ ?_)
  refine g_top (v := (atv 10100 (σ 29) a2)) rfl ?_
  refine g_iload_n hF d_X4_definition_34 rfl 0 rfl ?_
  refine g_isub hF d_X4_definition_35 ?_
  refine g_callV (As := [.ref (r 56), .int a1, .ref (r 30), .int v5, .int ((atv 10100 (σ 29) a2) - v5)]) (rest := []) hF (fun l D cy => kt_X4_find_r56_r30 a r w1 l D cy) (Nat.le_of_ble_eq_true rfl) mV_X4_find m_1562 (recv_ob obC_10) rfl rfl (Nat.le_of_ble_eq_true rfl) d_X4_definition_36 (qIr (fun v36 w2 => ?_)) (fun _ _ _ h => h.elim)
  exact g_iret hF rfl d_X4_definition_39 ⟨rfl, rfl, v36, rfl, ⟨rfl, w2⟩⟩
set_option maxHeartbeats 4000000 in
set_option maxRecDepth 100000 in
theorem kt_X4_refer (a : Nat → Nat) (r : Nat → Nat) {a1 : Int32} {σ : St} {Q : St → Prop} (w : wk_X4_refer a1 σ Q) (l : Launch) (D : va_G) (cy : Nat → ClassId) : Ct l D cy SC r (EC a gC) y_X4_refer (Cond.code y_X4_refer b_X4_refer 3 none) 4 [.ref (r 10), .int a1] σ Z0 [] (QV Q) QT0 := by
  unfold wk_X4_refer at w
  refine Ct_of (EC_ok a gC) (by decide) (Nat.le_of_ble_eq_true rfl) (by decide) (fun X hnn hF => ?_)
  show G SC r X σ Z0 [] [(0, .ref (r 10)), (1, .int a1)] [] 0
  refine g_aload_n hF d_X4_refer_0 rfl 0 rfl ?_
  refine g_get (v := .ref (r 5)) hF 0 obC_10 (by decide) m_597 rfl d_X4_refer_1 ?_
  refine g_iload_n hF d_X4_refer_4 rfl 1 rfl ?_
  refine g_callVN (As := [.int a1]) (rest := []) hF (fun l D cy => kt_X8_firstOf a r w l D cy) (Nat.le_of_ble_eq_true rfl) mV_X8_firstOf nm_1566 (recv_ob obC_5) rfl rfl (Nat.le_of_ble_eq_true rfl) d_X4_refer_5 (qIr (fun v5 w1 => ?_))
  refine g_istore_n hF [(2, .int v5), (0, .ref (r 10)), (1, .int a1)] d_X4_refer_8 rfl hnn (by decide) rfl ?_
  obtain ⟨L9, ⟨i9, u9⟩, h9⟩ := w1
  have b9 : ∀ (n9 : Nat) (x2_9 : Int32) (s9 : St), L9 n9 x2_9 s9 → G SC r X s9 Z0 [] [(0, .ref (r 10)), (1, .int a1), (2, .int x2_9)] [] 9 := by
    intro n9
    induction n9 using Nat.strongRecOn with
    | _ n9 ih9 =>
      intro x2_9 s9  w9_
      have w9_ := h9 n9 x2_9 s9  w9_
      refine g_iload_n hF d_X4_refer_9 rfl 2 rfl ?_
      refine g_aload_n hF d_X4_refer_10 rfl 0 rfl ?_
      refine g_get (v := .ref (r 5)) hF 0 obC_10 (by decide) m_597 rfl d_X4_refer_11 ?_
      refine g_getN (v := .ref (r 34)) hF 14 obC_5 (by decide) nm_253 rfl d_X4_refer_14 ?_
      refine g_iload_n hF d_X4_refer_17 rfl 1 rfl ?_
      refine g_callSN (As := [.ref (r 34), .int a1]) (rest := [.int x2_9]) hF (c_atv a r s9 arC_34 (by decide) a1) (Nat.le_of_ble_eq_true rfl) mS_X12_at nm_1552 rfl rfl (Nat.le_of_ble_eq_true rfl) d_X4_refer_18 (kQ ?_)
      refine g_top (v := (atv 101 (s9 34) a1)) rfl ?_
      refine g_icmp_ge hF 66 d_X4_refer_21 (by decide) rfl rfl (fun c => ?_) (fun c => ?_)
      · have w2 := w9_.1 c
        exact g_vret hF rfl d_X4_refer_66 ⟨rfl, rfl, rfl, w2⟩
      · have w3 := w9_.2 c
        refine g_aload_n hF d_X4_refer_24 rfl 0 rfl ?_
        refine g_get (v := .ref (r 5)) hF 0 obC_10 (by decide) m_597 rfl d_X4_refer_25 ?_
        refine g_iload_n hF d_X4_refer_28 rfl 2 rfl ?_
        refine g_iconst hF (v := 4) d_X4_refer_29 (by decide) ?_
        refine g_callVN (As := [.int x2_9, .int 4]) (rest := []) hF (fun l D cy => kt_X8_is a r w3 l D cy) (Nat.le_of_ble_eq_true rfl) mV_X8_is nm_1567 (recv_ob obC_5) rfl rfl (Nat.le_of_ble_eq_true rfl) d_X4_refer_30 (qZr (fun v30 hz30 w4 => ?_))
        obtain ⟨J60, h60, w5⟩ := w4
        have b60 : ∀ (s60 : St), J60 s60 → G SC r X s60 Z0 [] [(0, .ref (r 10)), (1, .int a1), (2, .int x2_9)] [] 60 := by
          intro s60  w60_
          have w60_ := h60 s60  w60_
          refine g_iinc hF (x2_9 + 1) [(2, .int (x2_9 + 1)), (0, .ref (r 10)), (1, .int a1)] d_X4_refer_60 2 rfl rfl hnn (by decide) rfl ?_
          refine g_goto hF 9 d_X4_refer_63 (by decide) ?_
          obtain ⟨m9, hm9, w9⟩ := w60_
          exact g_sub (L' := [(0, .ref (r 10)), (1, .int a1), (2, .int (x2_9 + 1))]) [1, 2, 0] rfl (ih9 m9 hm9 (x2_9 + 1) s60 w9)
        refine g_if_ne hF 60 d_X4_refer_33 (by decide) rfl (fun c => ?_) (fun c => ?_)
        · have w6 := w5.1 c
          exact b60 s9 w6
        · have w7 := w5.2 c
          refine g_aload_n hF d_X4_refer_36 rfl 0 rfl ?_
          refine g_get (v := .ref (r 59)) hF 10 obC_10 (by decide) m_611 rfl d_X4_refer_37 ?_
          refine g_iload_n hF d_X4_refer_40 rfl 2 rfl ?_
          refine g_aload_n hF d_X4_refer_41 rfl 0 rfl ?_
          refine g_get (v := .ref (r 59)) hF 10 obC_10 (by decide) m_611 rfl d_X4_refer_42 ?_
          refine g_aload_n hF d_X4_refer_45 rfl 0 rfl ?_
          refine g_aload_n hF d_X4_refer_46 rfl 0 rfl ?_
          refine g_get (v := .int (s9 10 7)) hF 7 obC_10 (by decide) m_607 rfl d_X4_refer_47 ?_
          refine g_iload_n hF d_X4_refer_50 rfl 2 rfl ?_
          refine g_callV (As := [.int (s9 10 7), .int x2_9]) (rest := [.ref (r 59), .int x2_9, .ref (r 59)]) hF (fun l D cy => kt_X4_definition a r w7 l D cy) (Nat.le_of_ble_eq_true rfl) mV_X4_definition m_1580 (recv_ob obC_10) rfl rfl (Nat.le_of_ble_eq_true rfl) d_X4_refer_51 (qIr (fun v51 w8 => ?_)) (fun _ _ _ h => h.elim)
          refine g_callSN (As := [.ref (r 59), .int v51]) (rest := [.int x2_9, .ref (r 59)]) hF (c_atv a r s9 arC_59 (by decide) v51) (Nat.le_of_ble_eq_true rfl) mS_X12_at nm_1552 rfl rfl (Nat.le_of_ble_eq_true rfl) d_X4_refer_54 (kQ ?_)
          refine g_top (v := (atv 10100 (s9 59) v51)) rfl ?_
          refine g_callSN (As := [.ref (r 59), .int x2_9, .int (atv 10100 (s9 59) v51)]) (rest := []) hF (c_setv a r s9 arC_59 (by decide) x2_9 (atv 10100 (s9 59) v51)) (Nat.le_of_ble_eq_true rfl) mS_X12_set nm_1553 rfl rfl (Nat.le_of_ble_eq_true rfl) d_X4_refer_57 (kU ?_)
          exact b60 (upF s9 59 (setv 10100 (s9 59) x2_9 (atv 10100 (s9 59) v51))) w8
  exact g_sub (L' := [(0, .ref (r 10)), (1, .int a1), (2, .int v5)]) [1, 2, 0] rfl (b9 i9 v5 σ u9)
set_option maxHeartbeats 4000000 in
set_option maxRecDepth 100000 in
theorem kt_X4_settle (a : Nat → Nat) (r : Nat → Nat) {σ : St} {Q : St → Prop} (w : wk_X4_settle  σ Q) (l : Launch) (D : va_G) (cy : Nat → ClassId) : Ct l D cy SC r (EC a gC) y_X4_settle (Cond.code y_X4_settle b_X4_settle 6 none) 5 [.ref (r 10)] σ Z0 [] (QV Q) QT0 := by
  unfold wk_X4_settle at w
  refine Ct_of (EC_ok a gC) (by decide) (Nat.le_of_ble_eq_true rfl) (by decide) (fun X hnn hF => ?_)
  show G SC r X σ Z0 [] [(0, .ref (r 10))] [] 0
  refine g_aload_n hF d_X4_settle_0 rfl 0 rfl ?_
  refine g_aload_n hF d_X4_settle_1 rfl 0 rfl ?_
  refine g_get (v := .int (σ 10 5)) hF 5 obC_10 (by decide) m_605 rfl d_X4_settle_2 ?_
  refine g_put (v := (σ 10 5)) hF 7 obC_10 (by decide) m_607 rfl rfl rfl d_X4_settle_5 ?_
  refine g_bipush hF (v := 16) d_X4_settle_8 (by decide) ?_
  refine g_istore_n hF [(1, .int 16), (0, .ref (r 10))] d_X4_settle_10 rfl hnn (by decide) rfl ?_
  refine g_iconst hF (v := 0) d_X4_settle_11 (by decide) ?_
  refine g_istore_n hF [(2, .int 0), (1, .int 16), (0, .ref (r 10))] d_X4_settle_12 rfl hnn (by decide) rfl ?_
  obtain ⟨L13, ⟨i13, u13⟩, h13⟩ := w
  have b13 : ∀ (n13 : Nat) (x1_13 : Int32) (x2_13 : Int32) (s13 : St), L13 n13 x1_13 x2_13 s13 → G SC r X s13 Z0 [] [(0, .ref (r 10)), (1, .int x1_13), (2, .int x2_13)] [] 13 := by
    intro n13
    induction n13 using Nat.strongRecOn with
    | _ n13 ih13 =>
      intro x1_13 x2_13 s13  w13_
      have w13_ := h13 n13 x1_13 x2_13 s13  w13_
      refine g_iload_n hF d_X4_settle_13 rfl 2 rfl ?_
      refine g_aload_n hF d_X4_settle_14 rfl 0 rfl ?_
      refine g_get (v := .int (s13 10 7)) hF 7 obC_10 (by decide) m_607 rfl d_X4_settle_15 ?_
      refine g_icmp_ge hF 151 d_X4_settle_18 (by decide) rfl rfl (fun c => ?_) (fun c => ?_)
      · have w1 := w13_.1 c
        refine g_iconst hF (v := 1) d_X4_settle_151 (by decide) ?_
        refine g_istore_n hF [(2, .int 1), (0, .ref (r 10)), (1, .int x1_13)] d_X4_settle_152 rfl hnn (by decide) rfl ?_
        obtain ⟨L153, ⟨i153, u153⟩, h153⟩ := w1
        have b153 : ∀ (n153 : Nat) (x2_153 : Int32) (s153 : St), L153 n153 x2_153 s153 → G SC r X s153 Z0 [] [(0, .ref (r 10)), (2, .int x2_153)] [] 153 := by
          intro n153
          induction n153 using Nat.strongRecOn with
          | _ n153 ih153 =>
            intro x2_153 s153  w153_
            have w153_ := h153 n153 x2_153 s153  w153_
            refine g_iload_n hF d_X4_settle_153 rfl 1 rfl ?_
            refine g_aload_n hF d_X4_settle_154 rfl 0 rfl ?_
            refine g_get (v := .int (s153 10 7)) hF 7 obC_10 (by decide) m_607 rfl d_X4_settle_155 ?_
            refine g_icmp_ge hF 179 d_X4_settle_158 (by decide) rfl rfl (fun c => ?_) (fun c => ?_)
            · have w2 := w153_.1 c
              exact g_vret hF rfl d_X4_settle_179 ⟨rfl, rfl, rfl, w2⟩
            · have w3 := w153_.2 c
              refine g_aload_n hF d_X4_settle_161 rfl 0 rfl ?_
              refine g_aload_n hF d_X4_settle_162 rfl 0 rfl ?_
              refine g_get (v := .ref (r 57)) hF 8 obC_10 (by decide) m_608 rfl d_X4_settle_163 ?_
              refine g_iload_n hF d_X4_settle_166 rfl 1 rfl ?_
              refine g_callSN (As := [.ref (r 57), .int x2_153]) (rest := [.ref (r 10)]) hF (c_atv a r s153 arC_57 (by decide) x2_153) (Nat.le_of_ble_eq_true rfl) mS_X12_at nm_1552 rfl rfl (Nat.le_of_ble_eq_true rfl) d_X4_settle_167 (kQ ?_)
              refine g_top (v := (atv 101 (s153 57) x2_153)) rfl ?_
              refine g_callV (As := [.int (atv 101 (s153 57) x2_153)]) (rest := []) hF (fun l D cy => kt_X4_refer a r w3 l D cy) (Nat.le_of_ble_eq_true rfl) mV_X4_refer m_1601 (recv_ob obC_10) rfl rfl (Nat.le_of_ble_eq_true rfl) d_X4_settle_170 (qV (fun s170 w4 => ?_)) (fun _ _ _ h => h.elim)
              refine g_iinc hF (x2_153 + 1) [(2, .int (x2_153 + 1)), (0, .ref (r 10))] d_X4_settle_173 1 rfl rfl hnn (by decide) rfl ?_
              refine g_goto hF 153 d_X4_settle_176 (by decide) ?_
              obtain ⟨m153, hm153, w9⟩ := w4
              exact g_sub (L' := [(0, .ref (r 10)), (2, .int (x2_153 + 1))]) [1, 0] rfl (ih153 m153 hm153 (x2_153 + 1) s170 w9)
        exact g_sub (L' := [(0, .ref (r 10)), (2, .int 1)]) [1, 0] rfl (b153 i153 (1 : Int32) s13 u153)
      · have w5 := w13_.2 c
        refine g_aload_n hF d_X4_settle_21 rfl 0 rfl ?_
        refine g_get (v := .ref (r 56)) hF 6 obC_10 (by decide) m_606 rfl d_X4_settle_22 ?_
        refine g_iload_n hF d_X4_settle_25 rfl 2 rfl ?_
        refine g_callSN (As := [.ref (r 56), .int x2_13]) (rest := []) hF (c_atv a r s13 arC_56 (by decide) x2_13) (Nat.le_of_ble_eq_true rfl) mS_X12_at nm_1552 rfl rfl (Nat.le_of_ble_eq_true rfl) d_X4_settle_26 (kQ ?_)
        refine g_top (v := (atv 101 (s13 56) x2_13)) rfl ?_
        refine g_istore_n hF [(3, .int (atv 101 (s13 56) x2_13)), (0, .ref (r 10)), (1, .int x1_13), (2, .int x2_13)] d_X4_settle_29 rfl hnn (by decide) rfl ?_
        refine g_aload_n hF d_X4_settle_30 rfl 1 rfl ?_
        refine g_get (v := .ref (r 57)) hF 8 obC_10 (by decide) m_608 rfl d_X4_settle_31 ?_
        refine g_iload_n hF d_X4_settle_34 rfl 3 rfl ?_
        refine g_iload_n hF d_X4_settle_35 rfl 0 rfl ?_
        refine g_callSN (As := [.ref (r 57), .int x2_13, .int (atv 101 (s13 56) x2_13)]) (rest := []) hF (c_setv a r s13 arC_57 (by decide) x2_13 (atv 101 (s13 56) x2_13)) (Nat.le_of_ble_eq_true rfl) mS_X12_set nm_1553 rfl rfl (Nat.le_of_ble_eq_true rfl) d_X4_settle_36 (kU ?_)
        refine g_aload_n hF d_X4_settle_39 rfl 1 rfl ?_
        refine g_get (v := .ref (r 58)) hF 9 obC_10 (by decide) m_609 rfl d_X4_settle_40 ?_
        refine g_iload_n hF d_X4_settle_43 rfl 0 rfl ?_
        refine g_iload_n hF d_X4_settle_44 rfl 2 rfl ?_
        refine g_callSN (As := [.ref (r 58), .int (atv 101 (s13 56) x2_13), .int x1_13]) (rest := []) hF (c_setv a r (upF s13 57 (setv 101 (s13 57) x2_13 (atv 101 (s13 56) x2_13))) arC_58 (by decide) (atv 101 (s13 56) x2_13) x1_13) (Nat.le_of_ble_eq_true rfl) mS_X12_set nm_1553 rfl rfl (Nat.le_of_ble_eq_true rfl) d_X4_settle_45 (kU ?_)
        refine g_iload_n hF d_X4_settle_48 rfl 2 rfl ?_
        refine g_aload_n hF d_X4_settle_49 rfl 1 rfl ?_
        refine g_get (v := .ref (r 5)) hF 0 obC_10 (by decide) m_597 rfl d_X4_settle_50 ?_
        refine g_getN (v := .ref (r 37)) hF 17 obC_5 (by decide) nm_258 rfl d_X4_settle_53 ?_
        refine g_iload_n hF d_X4_settle_56 rfl 0 rfl ?_
        refine g_callSN (As := [.ref (r 37), .int (atv 101 (s13 56) x2_13)]) (rest := [.int x1_13]) hF (c_atv a r (upF (upF s13 57 (setv 101 (s13 57) x2_13 (atv 101 (s13 56) x2_13))) 58 (setv 101 ((upF s13 57 (setv 101 (s13 57) x2_13 (atv 101 (s13 56) x2_13))) 58) (atv 101 (s13 56) x2_13) x1_13)) arC_37 (by decide) (atv 101 (s13 56) x2_13)) (Nat.le_of_ble_eq_true rfl) mS_X12_at nm_1552 rfl rfl (Nat.le_of_ble_eq_true rfl) d_X4_settle_57 (kQ ?_)
        refine g_top (v := (atv 101 (s13 37) (atv 101 (s13 56) x2_13))) rfl ?_
        refine g_iadd hF d_X4_settle_60 ?_
        refine g_istore_n hF [(1, .int (x1_13 + (atv 101 (s13 37) (atv 101 (s13 56) x2_13)))), (3, .int (atv 101 (s13 56) x2_13)), (0, .ref (r 10)), (2, .int x2_13)] d_X4_settle_61 rfl hnn (by decide) rfl ?_
        refine g_aload_n hF d_X4_settle_62 rfl 2 rfl ?_
        refine g_get (v := .ref (r 5)) hF 0 obC_10 (by decide) m_597 rfl d_X4_settle_63 ?_
        refine g_iload_n hF d_X4_settle_66 rfl 1 rfl ?_
        refine g_callVN (As := [.int (atv 101 (s13 56) x2_13)]) (rest := []) hF (fun l D cy => kt_X8_firstOf a r w5 l D cy) (Nat.le_of_ble_eq_true rfl) mV_X8_firstOf nm_1566 (recv_ob obC_5) rfl rfl (Nat.le_of_ble_eq_true rfl) d_X4_settle_67 (qIr (fun v67 w6 => ?_))
        refine g_istore hF [(4, .int v67), (1, .int (x1_13 + (atv 101 (s13 37) (atv 101 (s13 56) x2_13)))), (3, .int (atv 101 (s13 56) x2_13)), (0, .ref (r 10)), (2, .int x2_13)] d_X4_settle_70 hnn (by decide) rfl ?_
        obtain ⟨L72, ⟨i72, u72⟩, h72⟩ := w6
        have b72 : ∀ (n72 : Nat) (x4_72 : Int32) (s72 : St), L72 n72 x4_72 s72 → G SC r X s72 Z0 [] [(0, .ref (r 10)), (1, .int (x1_13 + (atv 101 (s13 37) (atv 101 (s13 56) x2_13)))), (2, .int x2_13), (3, .int (atv 101 (s13 56) x2_13)), (4, .int x4_72)] [] 72 := by
          intro n72
          induction n72 using Nat.strongRecOn with
          | _ n72 ih72 =>
            intro x4_72 s72  w72_
            have w72_ := h72 n72 x4_72 s72  w72_
            refine g_iload hF d_X4_settle_72 4 rfl ?_
            refine g_aload_n hF d_X4_settle_74 rfl 0 rfl ?_
            refine g_get (v := .ref (r 5)) hF 0 obC_10 (by decide) m_597 rfl d_X4_settle_75 ?_
            refine g_getN (v := .ref (r 34)) hF 14 obC_5 (by decide) nm_253 rfl d_X4_settle_78 ?_
            refine g_iload_n hF d_X4_settle_81 rfl 3 rfl ?_
            refine g_callSN (As := [.ref (r 34), .int (atv 101 (s13 56) x2_13)]) (rest := [.int x4_72]) hF (c_atv a r s72 arC_34 (by decide) (atv 101 (s13 56) x2_13)) (Nat.le_of_ble_eq_true rfl) mS_X12_at nm_1552 rfl rfl (Nat.le_of_ble_eq_true rfl) d_X4_settle_82 (kQ ?_)
            refine g_top (v := (atv 101 (s72 34) (atv 101 (s13 56) x2_13))) rfl ?_
            refine g_icmp_ge hF 145 d_X4_settle_85 (by decide) rfl rfl (fun c => ?_) (fun c => ?_)
            · have w7 := w72_.1 c
              refine g_iinc hF (x2_13 + 1) [(2, .int (x2_13 + 1)), (0, .ref (r 10)), (1, .int (x1_13 + (atv 101 (s13 37) (atv 101 (s13 56) x2_13)))), (3, .int (atv 101 (s13 56) x2_13)), (4, .int x4_72)] d_X4_settle_145 2 rfl rfl hnn (by decide) rfl ?_
              refine g_goto hF 13 d_X4_settle_148 (by decide) ?_
              obtain ⟨m13, hm13, w9⟩ := w7
              exact g_sub (L' := [(0, .ref (r 10)), (1, .int (x1_13 + (atv 101 (s13 37) (atv 101 (s13 56) x2_13)))), (2, .int (x2_13 + 1))]) [1, 2, 0] rfl (ih13 m13 hm13 (x1_13 + (atv 101 (s13 37) (atv 101 (s13 56) x2_13))) (x2_13 + 1) s72 w9)
            · have w8 := w72_.2 c
              refine g_aload_n hF d_X4_settle_88 rfl 0 rfl ?_
              refine g_get (v := .ref (r 5)) hF 0 obC_10 (by decide) m_597 rfl d_X4_settle_89 ?_
              refine g_iload hF d_X4_settle_92 4 rfl ?_
              refine g_iconst hF (v := 1) d_X4_settle_94 (by decide) ?_
              refine g_callVN (As := [.int x4_72, .int 1]) (rest := []) hF (fun l D cy => kt_X8_is a r w8 l D cy) (Nat.le_of_ble_eq_true rfl) mV_X8_is nm_1567 (recv_ob obC_5) rfl rfl (Nat.le_of_ble_eq_true rfl) d_X4_settle_95 (qZr (fun v95 hz95 w9 => ?_))
              obtain ⟨J113, h113, w10⟩ := w9
              have b113 : ∀ (y0_113 : Int32), J113 y0_113 → G SC r X s72 Z0 [] [(0, .ref (r 10)), (1, .int (x1_13 + (atv 101 (s13 37) (atv 101 (s13 56) x2_13)))), (2, .int x2_13), (3, .int (atv 101 (s13 56) x2_13)), (4, .int x4_72)] [.int y0_113] 113 := by
                intro y0_113  w113_
                have w113_ := h113 y0_113  w113_
                refine g_istore hF [(5, .int y0_113), (0, .ref (r 10)), (1, .int (x1_13 + (atv 101 (s13 37) (atv 101 (s13 56) x2_13)))), (2, .int x2_13), (3, .int (atv 101 (s13 56) x2_13)), (4, .int x4_72)] d_X4_settle_113 hnn (by decide) rfl ?_
                refine g_aload_n hF d_X4_settle_115 rfl 1 rfl ?_
                refine g_get (v := .ref (r 59)) hF 10 obC_10 (by decide) m_611 rfl d_X4_settle_116 ?_
                refine g_iload hF d_X4_settle_119 5 rfl ?_
                refine g_iload hF d_X4_settle_121 0 rfl ?_
                refine g_aload_n hF d_X4_settle_123 rfl 1 rfl ?_
                refine g_get (v := .ref (r 5)) hF 0 obC_10 (by decide) m_597 rfl d_X4_settle_124 ?_
                refine g_getN (v := .ref (r 28)) hF 5 obC_5 (by decide) nm_236 rfl d_X4_settle_127 ?_
                refine g_iload hF d_X4_settle_130 5 rfl ?_
                refine g_callSN (As := [.ref (r 28), .int x4_72]) (rest := [.int y0_113, .int x4_72, .ref (r 59)]) hF (c_atv a r s72 arC_28 (by decide) x4_72) (Nat.le_of_ble_eq_true rfl) mS_X12_at nm_1552 rfl rfl (Nat.le_of_ble_eq_true rfl) d_X4_settle_132 (kQ ?_)
                refine g_top (v := (atv 10100 (s72 28) x4_72)) rfl ?_
                refine g_iadd hF d_X4_settle_135 ?_
                refine g_callSN (As := [.ref (r 59), .int x4_72, .int (y0_113 + (atv 10100 (s72 28) x4_72))]) (rest := []) hF (c_setv a r s72 arC_59 (by decide) x4_72 (y0_113 + (atv 10100 (s72 28) x4_72))) (Nat.le_of_ble_eq_true rfl) mS_X12_set nm_1553 rfl rfl (Nat.le_of_ble_eq_true rfl) d_X4_settle_136 (kU ?_)
                refine g_iinc hF (x4_72 + 1) [(4, .int (x4_72 + 1)), (5, .int y0_113), (0, .ref (r 10)), (1, .int (x1_13 + (atv 101 (s13 37) (atv 101 (s13 56) x2_13)))), (2, .int x2_13), (3, .int (atv 101 (s13 56) x2_13))] d_X4_settle_139 5 rfl rfl hnn (by decide) rfl ?_
                refine g_goto hF 72 d_X4_settle_142 (by decide) ?_
                obtain ⟨m72, hm72, w9⟩ := w113_
                exact g_sub (L' := [(0, .ref (r 10)), (1, .int (x1_13 + (atv 101 (s13 37) (atv 101 (s13 56) x2_13)))), (2, .int x2_13), (3, .int (atv 101 (s13 56) x2_13)), (4, .int (x4_72 + 1))]) [2, 3, 4, 5, 0] rfl (ih72 m72 hm72 (x4_72 + 1) (upF s72 59 (setv 10100 (s72 59) x4_72 (y0_113 + (atv 10100 (s72 28) x4_72)))) w9)
              refine g_if_eq hF 105 d_X4_settle_98 (by decide) rfl (fun c => ?_) (fun c => ?_)
              · have w11 := w10.1 c
                refine g_aload_n hF d_X4_settle_105 rfl 0 rfl ?_
                refine g_get (v := .ref (r 58)) hF 9 obC_10 (by decide) m_609 rfl d_X4_settle_106 ?_
                refine g_iload_n hF d_X4_settle_109 rfl 3 rfl ?_
                refine g_callSN (As := [.ref (r 58), .int (atv 101 (s13 56) x2_13)]) (rest := []) hF (c_atv a r s72 arC_58 (by decide) (atv 101 (s13 56) x2_13)) (Nat.le_of_ble_eq_true rfl) mS_X12_at nm_1552 rfl rfl (Nat.le_of_ble_eq_true rfl) d_X4_settle_110 (kQ ?_)
                refine g_top (v := (atv 101 (s72 58) (atv 101 (s13 56) x2_13))) rfl ?_
                exact b113 (atv 101 (s72 58) (atv 101 (s13 56) x2_13)) w11
              · have w12 := w10.2 c
                refine g_iconst hF (v := 0) d_X4_settle_101 (by decide) ?_
                refine g_goto hF 113 d_X4_settle_102 (by decide) ?_
                exact b113 (0 : Int32) w12
        exact g_sub (L' := [(0, .ref (r 10)), (1, .int (x1_13 + (atv 101 (s13 37) (atv 101 (s13 56) x2_13)))), (2, .int x2_13), (3, .int (atv 101 (s13 56) x2_13)), (4, .int v67)]) [3, 1, 4, 2, 0] rfl (b72 i72 v67 (upF (upF s13 57 (setv 101 (s13 57) x2_13 (atv 101 (s13 56) x2_13))) 58 (setv 101 ((upF s13 57 (setv 101 (s13 57) x2_13 (atv 101 (s13 56) x2_13))) 58) (atv 101 (s13 56) x2_13) x1_13)) u72)
  exact g_sub (L' := [(0, .ref (r 10)), (1, .int 16), (2, .int 0)]) [2, 1, 0] rfl (b13 i13 (16 : Int32) (0 : Int32) (upC σ 10 7 (σ 10 5)) u13)
set_option maxHeartbeats 4000000 in
set_option maxRecDepth 100000 in
theorem kt_X4_dataCells (a : Nat → Nat) (r : Nat → Nat) {σ : St} {Q : Int32 → Prop} (w : wk_X4_dataCells  σ Q) (l : Launch) (D : va_G) (cy : Nat → ClassId) : Ct l D cy SC r (EC a gC) y_X4_dataCells (Cond.code y_X4_dataCells b_X4_dataCells 3 (some .int)) 1 [.ref (r 10)] σ Z0 [] (QI (fun x σ9 => σ9 = σ ∧ Q x)) QT0 := by
  unfold wk_X4_dataCells at w
  refine Ct_of (EC_ok a gC) (by decide) (Nat.le_of_ble_eq_true rfl) (by decide) (fun X hnn hF => ?_)
  show G SC r X σ Z0 [] [(0, .ref (r 10))] [] 0
  refine g_iconst hF (v := 0) d_X4_dataCells_0 (by decide) ?_
  refine g_istore_n hF [(1, .int 0), (0, .ref (r 10))] d_X4_dataCells_1 rfl hnn (by decide) rfl ?_
  refine g_iconst hF (v := 1) d_X4_dataCells_2 (by decide) ?_
  refine g_istore_n hF [(2, .int 1), (1, .int 0), (0, .ref (r 10))] d_X4_dataCells_3 rfl hnn (by decide) rfl ?_
  obtain ⟨L4, ⟨i4, u4⟩, h4⟩ := w
  have b4 : ∀ (n4 : Nat) (x1_4 : Int32) (x2_4 : Int32), L4 n4 x1_4 x2_4 → G SC r X σ Z0 [] [(0, .ref (r 10)), (1, .int x1_4), (2, .int x2_4)] [] 4 := by
    intro n4
    induction n4 using Nat.strongRecOn with
    | _ n4 ih4 =>
      intro x1_4 x2_4  w4_
      have w4_ := h4 n4 x1_4 x2_4  w4_
      refine g_iload_n hF d_X4_dataCells_4 rfl 2 rfl ?_
      refine g_aload_n hF d_X4_dataCells_5 rfl 0 rfl ?_
      refine g_get (v := .int (σ 10 5)) hF 5 obC_10 (by decide) m_605 rfl d_X4_dataCells_6 ?_
      refine g_icmp_ge hF 39 d_X4_dataCells_9 (by decide) rfl rfl (fun c => ?_) (fun c => ?_)
      · have w1 := w4_.1 c
        refine g_iload_n hF d_X4_dataCells_39 rfl 1 rfl ?_
        exact g_iret hF rfl d_X4_dataCells_40 ⟨rfl, rfl, x1_4, rfl, ⟨rfl, w1⟩⟩
      · have w2 := w4_.2 c
        refine g_iload_n hF d_X4_dataCells_12 rfl 1 rfl ?_
        refine g_aload_n hF d_X4_dataCells_13 rfl 0 rfl ?_
        refine g_get (v := .ref (r 5)) hF 0 obC_10 (by decide) m_597 rfl d_X4_dataCells_14 ?_
        refine g_getN (v := .ref (r 37)) hF 17 obC_5 (by decide) nm_258 rfl d_X4_dataCells_17 ?_
        refine g_aload_n hF d_X4_dataCells_20 rfl 0 rfl ?_
        refine g_get (v := .ref (r 56)) hF 6 obC_10 (by decide) m_606 rfl d_X4_dataCells_21 ?_
        refine g_iload_n hF d_X4_dataCells_24 rfl 2 rfl ?_
        refine g_callSN (As := [.ref (r 56), .int x2_4]) (rest := [.ref (r 37), .int x1_4]) hF (c_atv a r σ arC_56 (by decide) x2_4) (Nat.le_of_ble_eq_true rfl) mS_X12_at nm_1552 rfl rfl (Nat.le_of_ble_eq_true rfl) d_X4_dataCells_25 (kQ ?_)
        refine g_top (v := (atv 101 (σ 56) x2_4)) rfl ?_
        refine g_callSN (As := [.ref (r 37), .int (atv 101 (σ 56) x2_4)]) (rest := [.int x1_4]) hF (c_atv a r σ arC_37 (by decide) (atv 101 (σ 56) x2_4)) (Nat.le_of_ble_eq_true rfl) mS_X12_at nm_1552 rfl rfl (Nat.le_of_ble_eq_true rfl) d_X4_dataCells_28 (kQ ?_)
        refine g_top (v := (atv 101 (σ 37) (atv 101 (σ 56) x2_4))) rfl ?_
        refine g_iadd hF d_X4_dataCells_31 ?_
        refine g_istore_n hF [(1, .int (x1_4 + (atv 101 (σ 37) (atv 101 (σ 56) x2_4)))), (0, .ref (r 10)), (2, .int x2_4)] d_X4_dataCells_32 rfl hnn (by decide) rfl ?_
        refine g_iinc hF (x2_4 + 1) [(2, .int (x2_4 + 1)), (1, .int (x1_4 + (atv 101 (σ 37) (atv 101 (σ 56) x2_4)))), (0, .ref (r 10))] d_X4_dataCells_33 2 rfl rfl hnn (by decide) rfl ?_
        refine g_goto hF 4 d_X4_dataCells_36 (by decide) ?_
        obtain ⟨m4, hm4, w9⟩ := w2
        exact g_sub (L' := [(0, .ref (r 10)), (1, .int (x1_4 + (atv 101 (σ 37) (atv 101 (σ 56) x2_4)))), (2, .int (x2_4 + 1))]) [2, 1, 0] rfl (ih4 m4 hm4 (x1_4 + (atv 101 (σ 37) (atv 101 (σ 56) x2_4))) (x2_4 + 1) w9)
  exact g_sub (L' := [(0, .ref (r 10)), (1, .int 0), (2, .int 1)]) [2, 1, 0] rfl (b4 i4 (0 : Int32) (1 : Int32) u4)
set_option maxHeartbeats 4000000 in
set_option maxRecDepth 100000 in
theorem kt_X4_isMain (a : Nat → Nat) (r : Nat → Nat) {a1 : Int32} {σ : St} {Q : Int32 → Prop} (w : wk_X4_isMain a1 σ Q) (l : Launch) (D : va_G) (cy : Nat → ClassId) : Ct l D cy SC r (EC a gC) y_X4_isMain (Cond.code y_X4_isMain b_X4_isMain 2 (some .boolean)) 2 [.ref (r 10), .int a1] σ Z0 [] (QI (fun x σ9 => (x = 0 ∨ x = 1) ∧ σ9 = σ ∧ Q x)) QT0 := by
  unfold wk_X4_isMain at w
  refine Ct_of (EC_ok a gC) (by decide) (Nat.le_of_ble_eq_true rfl) (by decide) (fun X hnn hF => ?_)
  show G SC r X σ Z0 [] [(0, .ref (r 10)), (1, .int a1)] [] 0
  refine g_iload_n hF d_X4_isMain_0 rfl 1 rfl ?_
  refine g_if_lt hF 48 d_X4_isMain_1 (by decide) rfl (fun c => ?_) (fun c => ?_)
  · have w1 := w.1 c
    refine g_iconst hF (v := 0) d_X4_isMain_48 (by decide) ?_
    exact g_zret hF rfl (k_nz (Or.inl rfl)) d_X4_isMain_49 ⟨rfl, rfl, (0 : Int32), rfl, (Or.inl rfl), ⟨rfl, w1⟩⟩
  · have w2 := w.2 c
    refine g_aload_n hF d_X4_isMain_4 rfl 0 rfl ?_
    refine g_get (v := .ref (r 5)) hF 0 obC_10 (by decide) m_597 rfl d_X4_isMain_5 ?_
    refine g_iload_n hF d_X4_isMain_8 rfl 1 rfl ?_
    refine g_iconst hF (v := 1) d_X4_isMain_9 (by decide) ?_
    refine g_callVN (As := [.int a1, .int 1]) (rest := []) hF (fun l D cy => kt_X8_is a r w2 l D cy) (Nat.le_of_ble_eq_true rfl) mV_X8_is nm_1567 (recv_ob obC_5) rfl rfl (Nat.le_of_ble_eq_true rfl) d_X4_isMain_10 (qZr (fun v10 hz10 w3 => ?_))
    refine g_if_eq hF 48 d_X4_isMain_13 (by decide) rfl (fun c => ?_) (fun c => ?_)
    · have w4 := w3.1 c
      refine g_iconst hF (v := 0) d_X4_isMain_48 (by decide) ?_
      exact g_zret hF rfl (k_nz (Or.inl rfl)) d_X4_isMain_49 ⟨rfl, rfl, (0 : Int32), rfl, (Or.inl rfl), ⟨rfl, w4⟩⟩
    · have w5 := w3.2 c
      refine g_aload_n hF d_X4_isMain_16 rfl 0 rfl ?_
      refine g_get (v := .ref (r 5)) hF 0 obC_10 (by decide) m_597 rfl d_X4_isMain_17 ?_
      refine g_getN (v := .ref (r 26)) hF 3 obC_5 (by decide) nm_226 rfl d_X4_isMain_20 ?_
      refine g_iload_n hF d_X4_isMain_23 rfl 1 rfl ?_
      refine g_callSN (As := [.ref (r 26), .int a1]) (rest := []) hF (c_atv a r σ arC_26 (by decide) a1) (Nat.le_of_ble_eq_true rfl) mS_X12_at nm_1552 rfl rfl (Nat.le_of_ble_eq_true rfl) d_X4_isMain_24 (kQ ?_)
      refine g_top (v := (atv 10100 (σ 26) a1)) rfl ?_
      refine g_if_ne hF 48 d_X4_isMain_27 (by decide) rfl (fun c => ?_) (fun c => ?_)
      · have w6 := w5.1 c
        refine g_iconst hF (v := 0) d_X4_isMain_48 (by decide) ?_
        exact g_zret hF rfl (k_nz (Or.inl rfl)) d_X4_isMain_49 ⟨rfl, rfl, (0 : Int32), rfl, (Or.inl rfl), ⟨rfl, w6⟩⟩
      · have w7 := w5.2 c
        refine g_aload_n hF d_X4_isMain_30 rfl 0 rfl ?_
        refine g_get (v := .ref (r 5)) hF 0 obC_10 (by decide) m_597 rfl d_X4_isMain_31 ?_
        refine g_getN (v := .ref (r 27)) hF 4 obC_5 (by decide) nm_231 rfl d_X4_isMain_34 ?_
        refine g_iload_n hF d_X4_isMain_37 rfl 1 rfl ?_
        refine g_callSN (As := [.ref (r 27), .int a1]) (rest := []) hF (c_atv a r σ arC_27 (by decide) a1) (Nat.le_of_ble_eq_true rfl) mS_X12_at nm_1552 rfl rfl (Nat.le_of_ble_eq_true rfl) d_X4_isMain_38 (kQ ?_)
        refine g_top (v := (atv 10100 (σ 27) a1)) rfl ?_
        refine g_if_ne hF 48 d_X4_isMain_41 (by decide) rfl (fun c => ?_) (fun c => ?_)
        · have w8 := w7.1 c
          refine g_iconst hF (v := 0) d_X4_isMain_48 (by decide) ?_
          exact g_zret hF rfl (k_nz (Or.inl rfl)) d_X4_isMain_49 ⟨rfl, rfl, (0 : Int32), rfl, (Or.inl rfl), ⟨rfl, w8⟩⟩
        · have w9 := w7.2 c
          refine g_iconst hF (v := 1) d_X4_isMain_44 (by decide) ?_
          refine g_goto hF 49 d_X4_isMain_45 (by decide) ?_
          exact g_zret hF rfl (k_nz (Or.inr rfl)) d_X4_isMain_49 ⟨rfl, rfl, (1 : Int32), rfl, (Or.inr rfl), ⟨rfl, w9⟩⟩
set_option maxHeartbeats 4000000 in
set_option maxRecDepth 100000 in
theorem kt_X4_agrees (a : Nat → Nat) (r : Nat → Nat) {a1 : Int32} {a2 : Int32} {σ : St} {Q : Int32 → Prop} (w : wk_X4_agrees a1 a2 σ Q) (l : Launch) (D : va_G) (cy : Nat → ClassId) : Ct l D cy SC r (EC a gC) y_X4_agrees (Cond.code y_X4_agrees b_X4_agrees 7 (some .boolean)) 2 [.ref (r 10), .int a1, .int a2] σ Z0 [] (QI (fun x σ9 => (x = 0 ∨ x = 1) ∧ σ9 = σ ∧ Q x)) QT0 := by
  unfold wk_X4_agrees at w
  refine Ct_of (EC_ok a gC) (by decide) (Nat.le_of_ble_eq_true rfl) (by decide) (fun X hnn hF => ?_)
  show G SC r X σ Z0 [] [(0, .ref (r 10)), (1, .int a1), (2, .int a2)] [] 0
  refine g_aload_n hF d_X4_agrees_0 rfl 0 rfl ?_
  refine g_get (v := .ref (r 5)) hF 0 obC_10 (by decide) m_597 rfl d_X4_agrees_1 ?_
  refine g_getN (v := .ref (r 27)) hF 4 obC_5 (by decide) nm_231 rfl d_X4_agrees_4 ?_
  refine g_iload_n hF d_X4_agrees_7 rfl 1 rfl ?_
  refine g_callSN (As := [.ref (r 27), .int a1]) (rest := []) hF (c_atv a r σ arC_27 (by decide) a1) (Nat.le_of_ble_eq_true rfl) mS_X12_at nm_1552 rfl rfl (Nat.le_of_ble_eq_true rfl) d_X4_agrees_8 (kQ ?_)
  refine g_top (v := (atv 10100 (σ 27) a1)) rfl ?_
  refine g_istore_n hF [(3, .int (atv 10100 (σ 27) a1)), (0, .ref (r 10)), (1, .int a1), (2, .int a2)] d_X4_agrees_11 rfl hnn (by decide) rfl ?_
  refine g_aload_n hF d_X4_agrees_12 rfl 1 rfl ?_
  refine g_get (v := .ref (r 5)) hF 0 obC_10 (by decide) m_597 rfl d_X4_agrees_13 ?_
  refine g_getN (v := .ref (r 27)) hF 4 obC_5 (by decide) nm_231 rfl d_X4_agrees_16 ?_
  refine g_iload_n hF d_X4_agrees_19 rfl 3 rfl ?_
  refine g_callSN (As := [.ref (r 27), .int a2]) (rest := []) hF (c_atv a r σ arC_27 (by decide) a2) (Nat.le_of_ble_eq_true rfl) mS_X12_at nm_1552 rfl rfl (Nat.le_of_ble_eq_true rfl) d_X4_agrees_20 (kQ ?_)
  refine g_top (v := (atv 10100 (σ 27) a2)) rfl ?_
  refine g_istore hF [(4, .int (atv 10100 (σ 27) a2)), (3, .int (atv 10100 (σ 27) a1)), (0, .ref (r 10)), (1, .int a1), (2, .int a2)] d_X4_agrees_23 hnn (by decide) rfl ?_
  refine g_aload_n hF d_X4_agrees_25 rfl 2 rfl ?_
  refine g_get (v := .ref (r 5)) hF 0 obC_10 (by decide) m_597 rfl d_X4_agrees_26 ?_
  refine g_iload_n hF d_X4_agrees_29 rfl 3 rfl ?_
  refine g_iconst hF (v := 1) d_X4_agrees_30 (by decide) ?_
  refine g_callVN (As := [.int a1, .int 1]) (rest := []) hF (fun l D cy => kt_X8_is a r w l D cy) (Nat.le_of_ble_eq_true rfl) mV_X8_is nm_1567 (recv_ob obC_5) rfl rfl (Nat.le_of_ble_eq_true rfl) d_X4_agrees_31 (qZr (fun v31 hz31 w1 => ?_))
  refine g_istore hF [(5, .int v31), (4, .int (atv 10100 (σ 27) a2)), (3, .int (atv 10100 (σ 27) a1)), (0, .ref (r 10)), (1, .int a1), (2, .int a2)] d_X4_agrees_34 hnn (by decide) rfl ?_
  refine g_iload hF d_X4_agrees_36 0 rfl ?_
  obtain ⟨J55, h55, w2⟩ := w1
  have b55 : ∀ (y0_55 : Int32), y0_55 = 0 ∨ y0_55 = 1 → J55 y0_55 → G SC r X σ Z0 [] [(0, .ref (r 10)), (1, .int a1), (2, .int a2), (3, .int (atv 10100 (σ 27) a1)), (4, .int (atv 10100 (σ 27) a2)), (5, .int v31)] [.int y0_55] 55 := by
    intro y0_55 hy0_55 w55_
    have w55_ := h55 y0_55 hy0_55 w55_
    refine g_istore hF [(6, .int y0_55), (0, .ref (r 10)), (1, .int a1), (2, .int a2), (3, .int (atv 10100 (σ 27) a1)), (4, .int (atv 10100 (σ 27) a2)), (5, .int v31)] d_X4_agrees_55 hnn (by decide) rfl ?_
    refine g_iload_n hF d_X4_agrees_57 rfl 3 rfl ?_
    refine g_if_lt hF 111 d_X4_agrees_58 (by decide) rfl (fun c => ?_) (fun c => ?_)
    · have w3 := w55_.1 c
      refine g_iconst hF (v := 1) d_X4_agrees_111 (by decide) ?_
      refine g_goto hF 116 d_X4_agrees_112 (by decide) ?_
      exact g_zret hF rfl (k_nz (Or.inr rfl)) d_X4_agrees_116 ⟨rfl, rfl, (1 : Int32), rfl, (Or.inr rfl), ⟨rfl, w3⟩⟩
    · have w4 := w55_.2 c
      refine g_iload hF d_X4_agrees_61 6 rfl ?_
      refine g_aload_n hF d_X4_agrees_63 rfl 1 rfl ?_
      refine g_get (v := .ref (r 5)) hF 0 obC_10 (by decide) m_597 rfl d_X4_agrees_64 ?_
      refine g_iload_n hF d_X4_agrees_67 rfl 3 rfl ?_
      refine g_iconst hF (v := 1) d_X4_agrees_68 (by decide) ?_
      refine g_callVN (As := [.int a2, .int 1]) (rest := [.int v31]) hF (fun l D cy => kt_X8_is a r w4 l D cy) (Nat.le_of_ble_eq_true rfl) mV_X8_is nm_1567 (recv_ob obC_5) rfl rfl (Nat.le_of_ble_eq_true rfl) d_X4_agrees_69 (qZr (fun v69 hz69 w5 => ?_))
      refine g_icmp_ne hF 115 d_X4_agrees_72 (by decide) rfl rfl (fun c => ?_) (fun c => ?_)
      · have w6 := w5.1 c
        refine g_iconst hF (v := 0) d_X4_agrees_115 (by decide) ?_
        exact g_zret hF rfl (k_nz (Or.inl rfl)) d_X4_agrees_116 ⟨rfl, rfl, (0 : Int32), rfl, (Or.inl rfl), ⟨rfl, w6⟩⟩
      · have w7 := w5.2 c
        refine g_aload_n hF d_X4_agrees_75 rfl 1 rfl ?_
        refine g_get (v := .ref (r 5)) hF 0 obC_10 (by decide) m_597 rfl d_X4_agrees_76 ?_
        refine g_getN (v := .ref (r 26)) hF 3 obC_5 (by decide) nm_226 rfl d_X4_agrees_79 ?_
        refine g_iload_n hF d_X4_agrees_82 rfl 2 rfl ?_
        refine g_callSN (As := [.ref (r 26), .int a1]) (rest := []) hF (c_atv a r σ arC_26 (by decide) a1) (Nat.le_of_ble_eq_true rfl) mS_X12_at nm_1552 rfl rfl (Nat.le_of_ble_eq_true rfl) d_X4_agrees_83 (kQ ?_)
        refine g_top (v := (atv 10100 (σ 26) a1)) rfl ?_
        refine g_aload_n hF d_X4_agrees_86 rfl 1 rfl ?_
        refine g_get (v := .ref (r 5)) hF 0 obC_10 (by decide) m_597 rfl d_X4_agrees_87 ?_
        refine g_getN (v := .ref (r 26)) hF 3 obC_5 (by decide) nm_226 rfl d_X4_agrees_90 ?_
        refine g_iload_n hF d_X4_agrees_93 rfl 3 rfl ?_
        refine g_callSN (As := [.ref (r 26), .int a2]) (rest := [.int (atv 10100 (σ 26) a1)]) hF (c_atv a r σ arC_26 (by decide) a2) (Nat.le_of_ble_eq_true rfl) mS_X12_at nm_1552 rfl rfl (Nat.le_of_ble_eq_true rfl) d_X4_agrees_94 (kQ ?_)
        refine g_top (v := (atv 10100 (σ 26) a2)) rfl ?_
        refine g_icmp_ne hF 115 d_X4_agrees_97 (by decide) rfl rfl (fun c => ?_) (fun c => ?_)
        · have w8 := w7.1 c
          refine g_iconst hF (v := 0) d_X4_agrees_115 (by decide) ?_
          exact g_zret hF rfl (k_nz (Or.inl rfl)) d_X4_agrees_116 ⟨rfl, rfl, (0 : Int32), rfl, (Or.inl rfl), ⟨rfl, w8⟩⟩
        · have w9 := w7.2 c
          refine g_iload_n hF d_X4_agrees_100 rfl 4 rfl ?_
          refine g_iload hF d_X4_agrees_101 5 rfl ?_
          refine g_icmp_eq hF 111 d_X4_agrees_103 (by decide) rfl rfl (fun c => ?_) (fun c => ?_)
          · have w10 := w9.1 c
            refine g_iconst hF (v := 1) d_X4_agrees_111 (by decide) ?_
            refine g_goto hF 116 d_X4_agrees_112 (by decide) ?_
            exact g_zret hF rfl (k_nz (Or.inr rfl)) d_X4_agrees_116 ⟨rfl, rfl, (1 : Int32), rfl, (Or.inr rfl), ⟨rfl, w10⟩⟩
          · have w11 := w9.2 c
            refine g_iload hF d_X4_agrees_106 0 rfl ?_
            refine g_if_eq hF 115 d_X4_agrees_108 (by decide) rfl (fun c => ?_) (fun c => ?_)
            · have w12 := w11.1 c
              refine g_iconst hF (v := 0) d_X4_agrees_115 (by decide) ?_
              exact g_zret hF rfl (k_nz (Or.inl rfl)) d_X4_agrees_116 ⟨rfl, rfl, (0 : Int32), rfl, (Or.inl rfl), ⟨rfl, w12⟩⟩
            · have w13 := w11.2 c
              refine g_iconst hF (v := 1) d_X4_agrees_111 (by decide) ?_
              refine g_goto hF 116 d_X4_agrees_112 (by decide) ?_
              exact g_zret hF rfl (k_nz (Or.inr rfl)) d_X4_agrees_116 ⟨rfl, rfl, (1 : Int32), rfl, (Or.inr rfl), ⟨rfl, w13⟩⟩
  obtain ⟨J54, h54, w14⟩ := w2
  have b54 : J54  → G SC r X σ Z0 [] [(0, .ref (r 10)), (1, .int a1), (2, .int a2), (3, .int (atv 10100 (σ 27) a1)), (4, .int (atv 10100 (σ 27) a2)), (5, .int v31)] [] 54 := by
    intro   w54_
    have w54_ := h54   w54_
    refine g_iconst hF (v := 0) d_X4_agrees_54 (by decide) ?_
    exact b55 (0 : Int32) (Or.inl rfl) w54_
  refine g_if_ne hF 54 d_X4_agrees_38 (by decide) rfl (fun c => ?_) (fun c => ?_)
  · have w15 := w14.1 c
    exact g_sub (L' := [(0, .ref (r 10)), (1, .int a1), (2, .int a2), (3, .int (atv 10100 (σ 27) a1)), (4, .int (atv 10100 (σ 27) a2)), (5, .int v31)]) [3, 4, 5, 2, 1, 0] rfl (b54  w15)
  · have w16 := w14.2 c
    refine g_iload_n hF d_X4_agrees_41 rfl 2 rfl ?_
    refine g_if_ne hF 54 d_X4_agrees_42 (by decide) rfl (fun c => ?_) (fun c => ?_)
    · have w17 := w16.1 c
      exact g_sub (L' := [(0, .ref (r 10)), (1, .int a1), (2, .int a2), (3, .int (atv 10100 (σ 27) a1)), (4, .int (atv 10100 (σ 27) a2)), (5, .int v31)]) [3, 4, 5, 2, 1, 0] rfl (b54  w17)
    · have w18 := w16.2 c
      refine g_iload hF d_X4_agrees_45 1 rfl ?_
      refine g_if_le hF 54 d_X4_agrees_47 (by decide) rfl (fun c => ?_) (fun c => ?_)
      · have w19 := w18.1 c
        exact g_sub (L' := [(0, .ref (r 10)), (1, .int a1), (2, .int a2), (3, .int (atv 10100 (σ 27) a1)), (4, .int (atv 10100 (σ 27) a2)), (5, .int v31)]) [3, 4, 5, 2, 1, 0] rfl (b54  w19)
      · have w20 := w18.2 c
        refine g_iconst hF (v := 1) d_X4_agrees_50 (by decide) ?_
        refine g_goto hF 55 d_X4_agrees_51 (by decide) ?_
        exact g_sub (L' := [(0, .ref (r 10)), (1, .int a1), (2, .int a2), (3, .int (atv 10100 (σ 27) a1)), (4, .int (atv 10100 (σ 27) a2)), (5, .int v31)]) [3, 4, 5, 2, 1, 0] rfl (b55 (1 : Int32) (Or.inr rfl) w20)
set_option maxHeartbeats 4000000 in
set_option maxRecDepth 100000 in
theorem kt_X4_isWrong (a : Nat → Nat) (r : Nat → Nat) {a1 : Int32} {a2 : Int32} {a3 : Int32} {σ : St} {Q : Int32 → Prop} (w : wk_X4_isWrong a1 a2 a3 σ Q) (l : Launch) (D : va_G) (cy : Nat → ClassId) : Ct l D cy SC r (EC a gC) y_X4_isWrong (Cond.code y_X4_isWrong b_X4_isWrong 4 (some .boolean)) 4 [.ref (r 10), .int a1, .int a2, .int a3] σ Z0 [] (QI (fun x σ9 => (x = 0 ∨ x = 1) ∧ σ9 = σ ∧ Q x)) QT0 := by
  unfold wk_X4_isWrong at w
  refine Ct_of (EC_ok a gC) (by decide) (Nat.le_of_ble_eq_true rfl) (by decide) (fun X hnn hF => ?_)
  show G SC r X σ Z0 [] [(0, .ref (r 10)), (1, .int a1), (2, .int a2), (3, .int a3)] [] 0
  refine g_aload_n hF d_X4_isWrong_0 rfl 0 rfl ?_
  refine g_get (v := .ref (r 5)) hF 0 obC_10 (by decide) m_597 rfl d_X4_isWrong_1 ?_
  refine g_iload_n hF d_X4_isWrong_4 rfl 3 rfl ?_
  refine g_iconst hF (v := 4) d_X4_isWrong_5 (by decide) ?_
  refine g_callVN (As := [.int a3, .int 4]) (rest := []) hF (fun l D cy => kt_X8_is a r w l D cy) (Nat.le_of_ble_eq_true rfl) mV_X8_is nm_1567 (recv_ob obC_5) rfl rfl (Nat.le_of_ble_eq_true rfl) d_X4_isWrong_6 (qZr (fun v6 hz6 w1 => ?_))
  refine g_if_eq hF 33 d_X4_isWrong_9 (by decide) rfl (fun c => ?_) (fun c => ?_)
  · have w2 := w1.1 c
    refine g_iload_n hF d_X4_isWrong_33 rfl 1 rfl ?_
    refine g_bipush hF (v := 32) d_X4_isWrong_34 (by decide) ?_
    refine g_icmp_ne (yv := 32) hF 70 d_X4_isWrong_36 (by decide) rfl (by decide) (fun c => ?_) (fun c => ?_)
    · have w3 := w2.1 c
      refine g_iload_n hF d_X4_isWrong_70 rfl 1 rfl ?_
      refine g_bipush hF (v := 33) d_X4_isWrong_71 (by decide) ?_
      refine g_icmp_ne (yv := 33) hF 97 d_X4_isWrong_73 (by decide) rfl (by decide) (fun c => ?_) (fun c => ?_)
      · have w4 := w3.1 c
        refine g_iconst hF (v := 0) d_X4_isWrong_97 (by decide) ?_
        exact g_zret hF rfl (k_nz (Or.inl rfl)) d_X4_isWrong_98 ⟨rfl, rfl, (0 : Int32), rfl, (Or.inl rfl), ⟨rfl, w4⟩⟩
      · have w5 := w3.2 c
        refine g_aload_n hF d_X4_isWrong_76 rfl 0 rfl ?_
        refine g_iload_n hF d_X4_isWrong_77 rfl 3 rfl ?_
        refine g_aload_n hF d_X4_isWrong_78 rfl 0 rfl ?_
        refine g_aload_n hF d_X4_isWrong_79 rfl 0 rfl ?_
        refine g_get (v := .int (σ 10 5)) hF 5 obC_10 (by decide) m_605 rfl d_X4_isWrong_80 ?_
        refine g_iload_n hF d_X4_isWrong_83 rfl 3 rfl ?_
        refine g_callV (As := [.int (σ 10 5), .int a3]) (rest := [.int a3, .ref (r 10)]) hF (fun l D cy => kt_X4_definition a r w5 l D cy) (Nat.le_of_ble_eq_true rfl) mV_X4_definition m_1580 (recv_ob obC_10) rfl rfl (Nat.le_of_ble_eq_true rfl) d_X4_isWrong_84 (qIr (fun v84 w6 => ?_)) (fun _ _ _ h => h.elim)
        refine g_callV (As := [.int a3, .int v84]) (rest := []) hF (fun l D cy => kt_X4_agrees a r w6 l D cy) (Nat.le_of_ble_eq_true rfl) mV_X4_agrees m_1585 (recv_ob obC_10) rfl rfl (Nat.le_of_ble_eq_true rfl) d_X4_isWrong_87 (qZr (fun v87 hz87 w7 => ?_)) (fun _ _ _ h => h.elim)
        refine g_if_ne hF 97 d_X4_isWrong_90 (by decide) rfl (fun c => ?_) (fun c => ?_)
        · have w8 := w7.1 c
          refine g_iconst hF (v := 0) d_X4_isWrong_97 (by decide) ?_
          exact g_zret hF rfl (k_nz (Or.inl rfl)) d_X4_isWrong_98 ⟨rfl, rfl, (0 : Int32), rfl, (Or.inl rfl), ⟨rfl, w8⟩⟩
        · have w9 := w7.2 c
          refine g_iconst hF (v := 1) d_X4_isWrong_93 (by decide) ?_
          refine g_goto hF 98 d_X4_isWrong_94 (by decide) ?_
          exact g_zret hF rfl (k_nz (Or.inr rfl)) d_X4_isWrong_98 ⟨rfl, rfl, (1 : Int32), rfl, (Or.inr rfl), ⟨rfl, w9⟩⟩
    · have w10 := w2.2 c
      refine g_aload_n hF d_X4_isWrong_39 rfl 0 rfl ?_
      refine g_get (v := .ref (r 5)) hF 0 obC_10 (by decide) m_597 rfl d_X4_isWrong_40 ?_
      refine g_iload_n hF d_X4_isWrong_43 rfl 3 rfl ?_
      refine g_bipush hF (v := 8) d_X4_isWrong_44 (by decide) ?_
      refine g_callVN (As := [.int a3, .int 8]) (rest := []) hF (fun l D cy => kt_X8_is a r w10 l D cy) (Nat.le_of_ble_eq_true rfl) mV_X8_is nm_1567 (recv_ob obC_5) rfl rfl (Nat.le_of_ble_eq_true rfl) d_X4_isWrong_46 (qZr (fun v46 hz46 w11 => ?_))
      refine g_if_eq hF 68 d_X4_isWrong_49 (by decide) rfl (fun c => ?_) (fun c => ?_)
      · have w12 := w11.1 c
        refine g_iconst hF (v := 0) d_X4_isWrong_68 (by decide) ?_
        exact g_zret hF rfl (k_nz (Or.inl rfl)) d_X4_isWrong_69 ⟨rfl, rfl, (0 : Int32), rfl, (Or.inl rfl), ⟨rfl, w12⟩⟩
      · have w13 := w11.2 c
        refine g_aload_n hF d_X4_isWrong_52 rfl 0 rfl ?_
        refine g_aload_n hF d_X4_isWrong_53 rfl 0 rfl ?_
        refine g_get (v := .int (σ 10 5)) hF 5 obC_10 (by decide) m_605 rfl d_X4_isWrong_54 ?_
        refine g_iload_n hF d_X4_isWrong_57 rfl 3 rfl ?_
        refine g_callV (As := [.int (σ 10 5), .int a3]) (rest := []) hF (fun l D cy => kt_X4_definition a r w13 l D cy) (Nat.le_of_ble_eq_true rfl) mV_X4_definition m_1580 (recv_ob obC_10) rfl rfl (Nat.le_of_ble_eq_true rfl) d_X4_isWrong_58 (qIr (fun v58 w14 => ?_)) (fun _ _ _ h => h.elim)
        refine g_if_ge hF 68 d_X4_isWrong_61 (by decide) rfl (fun c => ?_) (fun c => ?_)
        · have w15 := w14.1 c
          refine g_iconst hF (v := 0) d_X4_isWrong_68 (by decide) ?_
          exact g_zret hF rfl (k_nz (Or.inl rfl)) d_X4_isWrong_69 ⟨rfl, rfl, (0 : Int32), rfl, (Or.inl rfl), ⟨rfl, w15⟩⟩
        · have w16 := w14.2 c
          refine g_iconst hF (v := 1) d_X4_isWrong_64 (by decide) ?_
          refine g_goto hF 69 d_X4_isWrong_65 (by decide) ?_
          exact g_zret hF rfl (k_nz (Or.inr rfl)) d_X4_isWrong_69 ⟨rfl, rfl, (1 : Int32), rfl, (Or.inr rfl), ⟨rfl, w16⟩⟩
  · have w17 := w1.2 c
    refine g_iload_n hF d_X4_isWrong_12 rfl 1 rfl ?_
    refine g_bipush hF (v := 31) d_X4_isWrong_13 (by decide) ?_
    refine g_icmp_ne (yv := 31) hF 31 d_X4_isWrong_15 (by decide) rfl (by decide) (fun c => ?_) (fun c => ?_)
    · have w18 := w17.1 c
      refine g_iconst hF (v := 0) d_X4_isWrong_31 (by decide) ?_
      exact g_zret hF rfl (k_nz (Or.inl rfl)) d_X4_isWrong_32 ⟨rfl, rfl, (0 : Int32), rfl, (Or.inl rfl), ⟨rfl, w18⟩⟩
    · have w19 := w17.2 c
      refine g_aload_n hF d_X4_isWrong_18 rfl 0 rfl ?_
      refine g_iload_n hF d_X4_isWrong_19 rfl 2 rfl ?_
      refine g_iload_n hF d_X4_isWrong_20 rfl 3 rfl ?_
      refine g_callV (As := [.int a2, .int a3]) (rest := []) hF (fun l D cy => kt_X4_definition a r w19 l D cy) (Nat.le_of_ble_eq_true rfl) mV_X4_definition m_1580 (recv_ob obC_10) rfl rfl (Nat.le_of_ble_eq_true rfl) d_X4_isWrong_21 (qIr (fun v21 w20 => ?_)) (fun _ _ _ h => h.elim)
      refine g_if_lt hF 31 d_X4_isWrong_24 (by decide) rfl (fun c => ?_) (fun c => ?_)
      · have w21 := w20.1 c
        refine g_iconst hF (v := 0) d_X4_isWrong_31 (by decide) ?_
        exact g_zret hF rfl (k_nz (Or.inl rfl)) d_X4_isWrong_32 ⟨rfl, rfl, (0 : Int32), rfl, (Or.inl rfl), ⟨rfl, w21⟩⟩
      · have w22 := w20.2 c
        refine g_iconst hF (v := 1) d_X4_isWrong_27 (by decide) ?_
        refine g_goto hF 32 d_X4_isWrong_28 (by decide) ?_
        exact g_zret hF rfl (k_nz (Or.inr rfl)) d_X4_isWrong_32 ⟨rfl, rfl, (1 : Int32), rfl, (Or.inr rfl), ⟨rfl, w22⟩⟩
set_option maxHeartbeats 4000000 in
set_option maxRecDepth 100000 in
theorem kt_X4_look (a : Nat → Nat) (r : Nat → Nat) {a1 : Int32} {σ : St} {Q : Int32 → St → Prop} (w : wk_X4_look a1 σ Q) (l : Launch) (D : va_G) (cy : Nat → ClassId) : Ct l D cy SC r (EC a gC) y_X4_look (Cond.code y_X4_look b_X4_look 7 (some .int)) 5 [.ref (r 10), .int a1] σ Z0 [] (QI Q) QT0 := by
  unfold wk_X4_look at w
  refine Ct_of (EC_ok a gC) (by decide) (Nat.le_of_ble_eq_true rfl) (by decide) (fun X hnn hF => ?_)
  show G SC r X σ Z0 [] [(0, .ref (r 10)), (1, .int a1)] [] 0
  refine g_iconst hF (v := 1) d_X4_look_0 (by decide) ?_
  refine g_istore_n hF [(2, .int 1), (0, .ref (r 10)), (1, .int a1)] d_X4_look_1 rfl hnn (by decide) rfl ?_
  obtain ⟨L2, ⟨i2, u2⟩, h2⟩ := w
  have b2 : ∀ (n2 : Nat) (x2_2 : Int32), L2 n2 x2_2 → G SC r X σ Z0 [] [(0, .ref (r 10)), (1, .int a1), (2, .int x2_2)] [] 2 := by
    intro n2
    induction n2 using Nat.strongRecOn with
    | _ n2 ih2 =>
      intro x2_2  w2_
      have w2_ := h2 n2 x2_2  w2_
      refine g_iload_n hF d_X4_look_2 rfl 2 rfl ?_
      refine g_aload_n hF d_X4_look_3 rfl 0 rfl ?_
      refine g_get (v := .int (σ 10 5)) hF 5 obC_10 (by decide) m_605 rfl d_X4_look_4 ?_
      refine g_icmp_ge hF 126 d_X4_look_7 (by decide) rfl rfl (fun c => ?_) (fun c => ?_)
      · have w1 := w2_.1 c
        refine g_iconst hF (v := 0) d_X4_look_126 (by decide) ?_
        exact g_iret hF rfl d_X4_look_127 ⟨rfl, rfl, (0 : Int32), rfl, w1⟩
      · have w2 := w2_.2 c
        refine g_aload_n hF d_X4_look_10 rfl 0 rfl ?_
        refine g_get (v := .ref (r 56)) hF 6 obC_10 (by decide) m_606 rfl d_X4_look_11 ?_
        refine g_iload_n hF d_X4_look_14 rfl 2 rfl ?_
        refine g_callSN (As := [.ref (r 56), .int x2_2]) (rest := []) hF (c_atv a r σ arC_56 (by decide) x2_2) (Nat.le_of_ble_eq_true rfl) mS_X12_at nm_1552 rfl rfl (Nat.le_of_ble_eq_true rfl) d_X4_look_15 (kQ ?_)
        refine g_top (v := (atv 101 (σ 56) x2_2)) rfl ?_
        refine g_istore_n hF [(3, .int (atv 101 (σ 56) x2_2)), (0, .ref (r 10)), (1, .int a1), (2, .int x2_2)] d_X4_look_18 rfl hnn (by decide) rfl ?_
        refine g_iconst hF (v := 0) d_X4_look_19 (by decide) ?_
        refine g_istore hF [(4, .int 0), (3, .int (atv 101 (σ 56) x2_2)), (0, .ref (r 10)), (1, .int a1), (2, .int x2_2)] d_X4_look_20 hnn (by decide) rfl ?_
        refine g_aload_n hF d_X4_look_22 rfl 2 rfl ?_
        refine g_get (v := .ref (r 5)) hF 0 obC_10 (by decide) m_597 rfl d_X4_look_23 ?_
        refine g_iload_n hF d_X4_look_26 rfl 1 rfl ?_
        refine g_callVN (As := [.int (atv 101 (σ 56) x2_2)]) (rest := []) hF (fun l D cy => kt_X8_firstOf a r w2 l D cy) (Nat.le_of_ble_eq_true rfl) mV_X8_firstOf nm_1566 (recv_ob obC_5) rfl rfl (Nat.le_of_ble_eq_true rfl) d_X4_look_27 (qIr (fun v27 w3 => ?_))
        refine g_istore hF [(5, .int v27), (4, .int 0), (3, .int (atv 101 (σ 56) x2_2)), (0, .ref (r 10)), (1, .int a1), (2, .int x2_2)] d_X4_look_30 hnn (by decide) rfl ?_
        obtain ⟨L32, ⟨i32, u32⟩, h32⟩ := w3
        have b32 : ∀ (n32 : Nat) (x4_32 : Int32) (x5_32 : Int32), L32 n32 x4_32 x5_32 → G SC r X σ Z0 [] [(0, .ref (r 10)), (1, .int a1), (2, .int x2_2), (3, .int (atv 101 (σ 56) x2_2)), (4, .int x4_32), (5, .int x5_32)] [] 32 := by
          intro n32
          induction n32 using Nat.strongRecOn with
          | _ n32 ih32 =>
            intro x4_32 x5_32  w32_
            have w32_ := h32 n32 x4_32 x5_32  w32_
            refine g_iload hF d_X4_look_32 5 rfl ?_
            refine g_aload_n hF d_X4_look_34 rfl 0 rfl ?_
            refine g_get (v := .ref (r 5)) hF 0 obC_10 (by decide) m_597 rfl d_X4_look_35 ?_
            refine g_getN (v := .ref (r 34)) hF 14 obC_5 (by decide) nm_253 rfl d_X4_look_38 ?_
            refine g_iload_n hF d_X4_look_41 rfl 3 rfl ?_
            refine g_callSN (As := [.ref (r 34), .int (atv 101 (σ 56) x2_2)]) (rest := [.int x5_32]) hF (c_atv a r σ arC_34 (by decide) (atv 101 (σ 56) x2_2)) (Nat.le_of_ble_eq_true rfl) mS_X12_at nm_1552 rfl rfl (Nat.le_of_ble_eq_true rfl) d_X4_look_42 (kQ ?_)
            refine g_top (v := (atv 101 (σ 34) (atv 101 (σ 56) x2_2))) rfl ?_
            refine g_icmp_ge hF 120 d_X4_look_45 (by decide) rfl rfl (fun c => ?_) (fun c => ?_)
            · have w4 := w32_.1 c
              refine g_iinc hF (x2_2 + 1) [(2, .int (x2_2 + 1)), (0, .ref (r 10)), (1, .int a1), (3, .int (atv 101 (σ 56) x2_2)), (4, .int x4_32), (5, .int x5_32)] d_X4_look_120 2 rfl rfl hnn (by decide) rfl ?_
              refine g_goto hF 2 d_X4_look_123 (by decide) ?_
              obtain ⟨m2, hm2, w9⟩ := w4
              exact g_sub (L' := [(0, .ref (r 10)), (1, .int a1), (2, .int (x2_2 + 1))]) [1, 2, 0] rfl (ih2 m2 hm2 (x2_2 + 1) w9)
            · have w5 := w32_.2 c
              refine g_aload_n hF d_X4_look_48 rfl 0 rfl ?_
              refine g_get (v := .ref (r 5)) hF 0 obC_10 (by decide) m_597 rfl d_X4_look_49 ?_
              refine g_iload hF d_X4_look_52 5 rfl ?_
              refine g_iconst hF (v := 2) d_X4_look_54 (by decide) ?_
              refine g_callVN (As := [.int x5_32, .int 2]) (rest := []) hF (fun l D cy => kt_X8_is a r w5 l D cy) (Nat.le_of_ble_eq_true rfl) mV_X8_is nm_1567 (recv_ob obC_5) rfl rfl (Nat.le_of_ble_eq_true rfl) d_X4_look_55 (qZr (fun v55 hz55 w6 => ?_))
              obtain ⟨J66, h66, w7⟩ := w6
              have b66 : ∀ (y0_66 : Int32), y0_66 = 0 ∨ y0_66 = 1 → J66 y0_66 → G SC r X σ Z0 [] [(0, .ref (r 10)), (1, .int a1), (2, .int x2_2), (3, .int (atv 101 (σ 56) x2_2)), (4, .int x4_32), (5, .int x5_32)] [.int y0_66] 66 := by
                intro y0_66 hy0_66 w66_
                have w66_ := h66 y0_66 hy0_66 w66_
                refine g_istore hF [(6, .int y0_66), (0, .ref (r 10)), (1, .int a1), (2, .int x2_2), (3, .int (atv 101 (σ 56) x2_2)), (4, .int x4_32), (5, .int x5_32)] d_X4_look_66 hnn (by decide) rfl ?_
                refine g_iload hF d_X4_look_68 0 rfl ?_
                obtain ⟨J99, h99, w8⟩ := w66_
                have b99 : J99  → G SC r X σ Z0 [] [(0, .ref (r 10)), (1, .int a1), (2, .int x2_2), (3, .int (atv 101 (σ 56) x2_2)), (4, .int x4_32), (5, .int x5_32), (6, .int y0_66)] [] 99 := by
                  intro   w99_
                  have w99_ := h99   w99_
                  refine g_iload hF d_X4_look_99 4 rfl ?_
                  refine g_iload hF d_X4_look_101 6 rfl ?_
                  obtain ⟨J111, h111, w9⟩ := w99_
                  have b111 : ∀ (y1_111 : Int32), y1_111 = 0 ∨ y1_111 = 1 → J111 y1_111 → G SC r X σ Z0 [] [(0, .ref (r 10)), (1, .int a1), (2, .int x2_2), (3, .int (atv 101 (σ 56) x2_2)), (5, .int x5_32)] [.int y1_111, .int x4_32] 111 := by
                    intro y1_111 hy1_111 w111_
                    have w111_ := h111 y1_111 hy1_111 w111_
                    refine g_iadd hF d_X4_look_111 ?_
                    refine g_istore hF [(4, .int (x4_32 + y1_111)), (0, .ref (r 10)), (1, .int a1), (2, .int x2_2), (3, .int (atv 101 (σ 56) x2_2)), (5, .int x5_32)] d_X4_look_112 hnn (by decide) rfl ?_
                    refine g_iinc hF (x5_32 + 1) [(5, .int (x5_32 + 1)), (4, .int (x4_32 + y1_111)), (0, .ref (r 10)), (1, .int a1), (2, .int x2_2), (3, .int (atv 101 (σ 56) x2_2))] d_X4_look_114 5 rfl rfl hnn (by decide) rfl ?_
                    refine g_goto hF 32 d_X4_look_117 (by decide) ?_
                    obtain ⟨m32, hm32, w9⟩ := w111_
                    exact g_sub (L' := [(0, .ref (r 10)), (1, .int a1), (2, .int x2_2), (3, .int (atv 101 (σ 56) x2_2)), (4, .int (x4_32 + y1_111)), (5, .int (x5_32 + 1))]) [2, 3, 4, 5, 1, 0] rfl (ih32 m32 hm32 (x4_32 + y1_111) (x5_32 + 1) w9)
                  refine g_if_eq hF 110 d_X4_look_103 (by decide) rfl (fun c => ?_) (fun c => ?_)
                  · have w10 := w9.1 c
                    refine g_iconst hF (v := 0) d_X4_look_110 (by decide) ?_
                    exact g_sub (L' := [(0, .ref (r 10)), (1, .int a1), (2, .int x2_2), (3, .int (atv 101 (σ 56) x2_2)), (5, .int x5_32)]) [0, 1, 2, 3, 5] rfl (b111 (0 : Int32) (Or.inl rfl) w10)
                  · have w11 := w9.2 c
                    refine g_iconst hF (v := 1) d_X4_look_106 (by decide) ?_
                    refine g_goto hF 111 d_X4_look_107 (by decide) ?_
                    exact g_sub (L' := [(0, .ref (r 10)), (1, .int a1), (2, .int x2_2), (3, .int (atv 101 (σ 56) x2_2)), (5, .int x5_32)]) [0, 1, 2, 3, 5] rfl (b111 (1 : Int32) (Or.inr rfl) w11)
                refine g_if_eq hF 99 d_X4_look_70 (by decide) rfl (fun c => ?_) (fun c => ?_)
                · have w12 := w8.1 c
                  exact g_sub (L' := [(0, .ref (r 10)), (1, .int a1), (2, .int x2_2), (3, .int (atv 101 (σ 56) x2_2)), (4, .int x4_32), (5, .int x5_32), (6, .int y0_66)]) [1, 2, 3, 4, 5, 6, 0] rfl (b99  w12)
                · have w13 := w8.2 c
                  refine g_aload_n hF d_X4_look_73 rfl 1 rfl ?_
                  refine g_iload_n hF d_X4_look_74 rfl 2 rfl ?_
                  refine g_iload_n hF d_X4_look_75 rfl 3 rfl ?_
                  refine g_iload hF d_X4_look_76 6 rfl ?_
                  refine g_callV (As := [.int a1, .int x2_2, .int x5_32]) (rest := []) hF (fun l D cy => kt_X4_isWrong a r w13 l D cy) (Nat.le_of_ble_eq_true rfl) mV_X4_isWrong m_1576 (recv_ob obC_10) rfl rfl (Nat.le_of_ble_eq_true rfl) d_X4_look_78 (qZr (fun v78 hz78 w14 => ?_)) (fun _ _ _ h => h.elim)
                  refine g_if_eq hF 99 d_X4_look_81 (by decide) rfl (fun c => ?_) (fun c => ?_)
                  · have w15 := w14.1 c
                    exact g_sub (L' := [(0, .ref (r 10)), (1, .int a1), (2, .int x2_2), (3, .int (atv 101 (σ 56) x2_2)), (4, .int x4_32), (5, .int x5_32), (6, .int y0_66)]) [1, 2, 3, 4, 5, 6, 0] rfl (b99  w15)
                  · have w16 := w14.2 c
                    refine g_aload_n hF d_X4_look_84 rfl 1 rfl ?_
                    refine g_iload_n hF d_X4_look_85 rfl 3 rfl ?_
                    refine g_iconst hF (v := 1) d_X4_look_86 (by decide) ?_
                    refine g_isub hF d_X4_look_87 ?_
                    refine g_put (v := (x2_2 - (1 : Int32))) hF 3 obC_10 (by decide) m_601 rfl rfl rfl d_X4_look_88 ?_
                    refine g_aload_n hF d_X4_look_91 rfl 1 rfl ?_
                    refine g_iload hF d_X4_look_92 5 rfl ?_
                    refine g_put (v := x4_32) hF 4 obC_10 (by decide) m_603 rfl rfl rfl d_X4_look_94 ?_
                    refine g_iload_n hF d_X4_look_97 rfl 2 rfl ?_
                    exact g_iret hF rfl d_X4_look_98 ⟨rfl, rfl, a1, rfl, w16⟩
              refine g_if_ne hF 65 d_X4_look_58 (by decide) rfl (fun c => ?_) (fun c => ?_)
              · have w17 := w7.1 c
                refine g_iconst hF (v := 0) d_X4_look_65 (by decide) ?_
                exact b66 (0 : Int32) (Or.inl rfl) w17
              · have w18 := w7.2 c
                refine g_iconst hF (v := 1) d_X4_look_61 (by decide) ?_
                refine g_goto hF 66 d_X4_look_62 (by decide) ?_
                exact b66 (1 : Int32) (Or.inr rfl) w18
        exact g_sub (L' := [(0, .ref (r 10)), (1, .int a1), (2, .int x2_2), (3, .int (atv 101 (σ 56) x2_2)), (4, .int 0), (5, .int v27)]) [3, 4, 5, 2, 1, 0] rfl (b32 i32 (0 : Int32) v27 u32)
  exact g_sub (L' := [(0, .ref (r 10)), (1, .int a1), (2, .int 1)]) [1, 2, 0] rfl (b2 i2 (1 : Int32) u2)
set_option maxHeartbeats 4000000 in
set_option maxRecDepth 100000 in
theorem kt_X4_join (a : Nat → Nat) (r : Nat → Nat) {σ : St} {Q : Int32 → St → Prop} (w : wk_X4_join  σ Q) (l : Launch) (D : va_G) (cy : Nat → ClassId) : Ct l D cy SC r (EC a gC) y_X4_join (Cond.code y_X4_join b_X4_join 4 (some .int)) 6 [.ref (r 10)] σ Z0 [] (QI Q) QT0 := by
  unfold wk_X4_join at w
  refine Ct_of (EC_ok a gC) (by decide) (Nat.le_of_ble_eq_true rfl) (by decide) (fun X hnn hF => ?_)
  show G SC r X σ Z0 [] [(0, .ref (r 10))] [] 0
  refine g_aload_n hF d_X4_join_0 rfl 0 rfl ?_
  refine g_iconst hF (v := (-1)) d_X4_join_1 (by decide) ?_
  refine g_put (v := (-1)) hF 3 obC_10 (by decide) m_601 rfl rfl rfl d_X4_join_2 ?_
  refine g_aload_n hF d_X4_join_5 rfl 0 rfl ?_
  refine g_iconst hF (v := (-1)) d_X4_join_6 (by decide) ?_
  refine g_put (v := (-1)) hF 4 obC_10 (by decide) m_603 rfl rfl rfl d_X4_join_7 ?_
  refine g_aload_n hF d_X4_join_10 rfl 0 rfl ?_
  refine g_aload_n hF d_X4_join_11 rfl 0 rfl ?_
  refine g_get (v := .ref (r 56)) hF 6 obC_10 (by decide) m_606 rfl d_X4_join_12 ?_
  refine g_aload_n hF d_X4_join_15 rfl 0 rfl ?_
  refine g_get (v := .int (σ 10 5)) hF 5 obC_10 (by decide) m_605 rfl d_X4_join_16 ?_
  refine g_aload_n hF d_X4_join_19 rfl 0 rfl ?_
  refine g_get (v := .ref (r 55)) hF 1 obC_10 (by decide) m_598 rfl d_X4_join_20 ?_
  refine g_iconst hF (v := 0) d_X4_join_23 (by decide) ?_
  refine g_iconst hF (v := 4) d_X4_join_24 (by decide) ?_
  refine g_callV (As := [.ref (r 56), .int (σ 10 5), .ref (r 55), .int 0, .int 4]) (rest := []) hF (fun l D cy => kt_X4_find_r56_r55 a r w l D cy) (Nat.le_of_ble_eq_true rfl) mV_X4_find m_1562 (recv_ob obC_10) rfl rfl (Nat.le_of_ble_eq_true rfl) d_X4_join_25 (qIr (fun v25 w1 => ?_)) (fun _ _ _ h => h.elim)
  refine g_istore_n hF [(1, .int v25), (0, .ref (r 10))] d_X4_join_28 rfl hnn (by decide) rfl ?_
  refine g_iconst hF (v := 0) d_X4_join_29 (by decide) ?_
  refine g_istore_n hF [(2, .int 0), (1, .int v25), (0, .ref (r 10))] d_X4_join_30 rfl hnn (by decide) rfl ?_
  refine g_bipush hF (v := 31) d_X4_join_31 (by decide) ?_
  refine g_istore_n hF [(3, .int 31), (2, .int 0), (1, .int v25), (0, .ref (r 10))] d_X4_join_33 rfl hnn (by decide) rfl ?_
  obtain ⟨L34, ⟨i34, u34⟩, h34⟩ := w1
  have b34 : ∀ (n34 : Nat) (x2_34 : Int32) (x3_34 : Int32) (s34 : St), L34 n34 x2_34 x3_34 s34 → G SC r X s34 Z0 [] [(0, .ref (r 10)), (1, .int v25), (2, .int x2_34), (3, .int x3_34)] [] 34 := by
    intro n34
    induction n34 using Nat.strongRecOn with
    | _ n34 ih34 =>
      intro x2_34 x3_34 s34  w34_
      have w34_ := h34 n34 x2_34 x3_34 s34  w34_
      refine g_iload_n hF d_X4_join_34 rfl 3 rfl ?_
      refine g_bipush hF (v := 33) d_X4_join_35 (by decide) ?_
      obtain ⟨J56, h56, w2⟩ := w34_
      have b56 : J56  → G SC r X s34 Z0 [] [(0, .ref (r 10)), (1, .int v25), (2, .int x2_34)] [] 56 := by
        intro   w56_
        have w56_ := h56   w56_
        refine g_iload_n hF d_X4_join_56 rfl 2 rfl ?_
        obtain ⟨J71, h71, w3⟩ := w56_
        have b71 : ∀ (x2_71 : Int32), J71 x2_71 → G SC r X s34 Z0 [] [(0, .ref (r 10)), (1, .int v25), (2, .int x2_71)] [] 71 := by
          intro x2_71  w71_
          have w71_ := h71 x2_71  w71_
          refine g_iload_n hF d_X4_join_71 rfl 2 rfl ?_
          obtain ⟨J88, h88, w4⟩ := w71_
          have b88 : ∀ (x2_88 : Int32), J88 x2_88 → G SC r X s34 Z0 [] [(0, .ref (r 10)), (1, .int v25), (2, .int x2_88)] [] 88 := by
            intro x2_88  w88_
            have w88_ := h88 x2_88  w88_
            refine g_iload_n hF d_X4_join_88 rfl 2 rfl ?_
            refine g_if_ne hF 113 d_X4_join_89 (by decide) rfl (fun c => ?_) (fun c => ?_)
            · have w5 := w88_.1 c
              refine g_aload_n hF d_X4_join_113 rfl 0 rfl ?_
              refine g_iconst hF (v := 1) d_X4_join_114 (by decide) ?_
              refine g_put (v := 1) hF 5 obC_10 (by decide) m_605 rfl rfl rfl d_X4_join_115 ?_
              refine g_iload_n hF d_X4_join_118 rfl 2 rfl ?_
              refine g_ineg hF d_X4_join_119 ?_
              exact g_iret hF rfl d_X4_join_120 ⟨rfl, rfl, (-x2_88), rfl, w5⟩
            · have w6 := w88_.2 c
              refine g_aload_n hF d_X4_join_92 rfl 0 rfl ?_
              refine g_callV (As := []) (rest := []) hF (fun l D cy => kt_X4_settle a r w6 l D cy) (Nat.le_of_ble_eq_true rfl) mV_X4_settle m_1597 (recv_ob obC_10) rfl rfl (Nat.le_of_ble_eq_true rfl) d_X4_join_93 (qV (fun s93 w7 => ?_)) (fun _ _ _ h => h.elim)
              refine g_aload_n hF d_X4_join_96 rfl 0 rfl ?_
              refine g_aload_n hF d_X4_join_97 rfl 0 rfl ?_
              refine g_get (v := .ref (r 59)) hF 10 obC_10 (by decide) m_611 rfl d_X4_join_98 ?_
              refine g_iload_n hF d_X4_join_101 rfl 1 rfl ?_
              refine g_callSN (As := [.ref (r 59), .int v25]) (rest := [.ref (r 10)]) hF (c_atv a r s93 arC_59 (by decide) v25) (Nat.le_of_ble_eq_true rfl) mS_X12_at nm_1552 rfl rfl (Nat.le_of_ble_eq_true rfl) d_X4_join_102 (kQ ?_)
              refine g_top (v := (atv 10100 (s93 59) v25)) rfl ?_
              refine g_put (v := (atv 10100 (s93 59) v25)) hF 11 obC_10 (by decide) m_613 rfl rfl rfl d_X4_join_105 ?_
              refine g_aload_n hF d_X4_join_108 rfl 0 rfl ?_
              refine g_iconst hF (v := 1) d_X4_join_109 (by decide) ?_
              refine g_putZ (v := 1) hF 2 obC_10 (by decide) m_599 rfl rfl rfl (Or.inr rfl) d_X4_join_110 ?_
              refine g_aload_n hF d_X4_join_113 rfl 0 rfl ?_
              refine g_iconst hF (v := 1) d_X4_join_114 (by decide) ?_
              refine g_put (v := 1) hF 5 obC_10 (by decide) m_605 rfl rfl rfl d_X4_join_115 ?_
              refine g_iload_n hF d_X4_join_118 rfl 2 rfl ?_
              refine g_ineg hF d_X4_join_119 ?_
              exact g_iret hF rfl d_X4_join_120 ⟨rfl, rfl, (-x2_88), rfl, w7⟩
          refine g_if_ne hF 88 d_X4_join_72 (by decide) rfl (fun c => ?_) (fun c => ?_)
          · have w8 := w4.1 c
            exact b88 x2_71 w8
          · have w9 := w4.2 c
            refine g_aload_n hF d_X4_join_75 rfl 0 rfl ?_
            refine g_callV (As := []) (rest := []) hF (fun l D cy => kt_X4_dataCells a r w9 l D cy) (Nat.le_of_ble_eq_true rfl) mV_X4_dataCells m_1593 (recv_ob obC_10) rfl rfl (Nat.le_of_ble_eq_true rfl) d_X4_join_76 (qIr (fun v76 w10 => ?_)) (fun _ _ _ h => h.elim)
            refine g_sipush hF (v := 16000) d_X4_join_79 (by decide) ?_
            refine g_icmp_le (yv := 16000) hF 88 d_X4_join_82 (by decide) rfl (by decide) (fun c => ?_) (fun c => ?_)
            · have w11 := w10.1 c
              exact b88 x2_71 w11
            · have w12 := w10.2 c
              refine g_bipush hF (v := 35) d_X4_join_85 (by decide) ?_
              refine g_istore_n hF [(2, .int 35), (0, .ref (r 10)), (1, .int v25)] d_X4_join_87 rfl hnn (by decide) rfl ?_
              exact g_sub (L' := [(0, .ref (r 10)), (1, .int v25), (2, .int 35)]) [1, 2, 0] rfl (b88 (35 : Int32) w12)
        refine g_if_ne hF 71 d_X4_join_57 (by decide) rfl (fun c => ?_) (fun c => ?_)
        · have w13 := w3.1 c
          exact b71 x2_34 w13
        · have w14 := w3.2 c
          refine g_aload_n hF d_X4_join_60 rfl 0 rfl ?_
          refine g_iload_n hF d_X4_join_61 rfl 1 rfl ?_
          refine g_callV (As := [.int v25]) (rest := []) hF (fun l D cy => kt_X4_isMain a r w14 l D cy) (Nat.le_of_ble_eq_true rfl) mV_X4_isMain m_1589 (recv_ob obC_10) rfl rfl (Nat.le_of_ble_eq_true rfl) d_X4_join_62 (qZr (fun v62 hz62 w15 => ?_)) (fun _ _ _ h => h.elim)
          refine g_if_ne hF 71 d_X4_join_65 (by decide) rfl (fun c => ?_) (fun c => ?_)
          · have w16 := w15.1 c
            exact b71 x2_34 w16
          · have w17 := w15.2 c
            refine g_bipush hF (v := 34) d_X4_join_68 (by decide) ?_
            refine g_istore_n hF [(2, .int 34), (0, .ref (r 10)), (1, .int v25)] d_X4_join_70 rfl hnn (by decide) rfl ?_
            exact g_sub (L' := [(0, .ref (r 10)), (1, .int v25), (2, .int 34)]) [1, 2, 0] rfl (b71 (34 : Int32) w17)
      refine g_icmp_gt (yv := 33) hF 56 d_X4_join_37 (by decide) rfl (by decide) (fun c => ?_) (fun c => ?_)
      · have w18 := w2.1 c
        exact g_sub (L' := [(0, .ref (r 10)), (1, .int v25), (2, .int x2_34)]) [0, 1, 2] rfl (b56  w18)
      · have w19 := w2.2 c
        refine g_iload_n hF d_X4_join_40 rfl 2 rfl ?_
        refine g_if_ne hF 56 d_X4_join_41 (by decide) rfl (fun c => ?_) (fun c => ?_)
        · have w20 := w19.1 c
          exact g_sub (L' := [(0, .ref (r 10)), (1, .int v25), (2, .int x2_34)]) [0, 1, 2] rfl (b56  w20)
        · have w21 := w19.2 c
          refine g_aload_n hF d_X4_join_44 rfl 0 rfl ?_
          refine g_iload_n hF d_X4_join_45 rfl 3 rfl ?_
          refine g_callV (As := [.int x3_34]) (rest := []) hF (fun l D cy => kt_X4_look a r w21 l D cy) (Nat.le_of_ble_eq_true rfl) mV_X4_look m_1572 (recv_ob obC_10) rfl rfl (Nat.le_of_ble_eq_true rfl) d_X4_join_46 (qI (fun v46 s46 w22 => ?_)) (fun _ _ _ h => h.elim)
          refine g_istore_n hF [(2, .int v46), (0, .ref (r 10)), (1, .int v25), (3, .int x3_34)] d_X4_join_49 rfl hnn (by decide) rfl ?_
          refine g_iinc hF (x3_34 + 1) [(3, .int (x3_34 + 1)), (2, .int v46), (0, .ref (r 10)), (1, .int v25)] d_X4_join_50 3 rfl rfl hnn (by decide) rfl ?_
          refine g_goto hF 34 d_X4_join_53 (by decide) ?_
          obtain ⟨m34, hm34, w9⟩ := w22
          exact g_sub (L' := [(0, .ref (r 10)), (1, .int v25), (2, .int v46), (3, .int (x3_34 + 1))]) [2, 3, 1, 0] rfl (ih34 m34 hm34 v46 (x3_34 + 1) s46 w9)
  exact g_sub (L' := [(0, .ref (r 10)), (1, .int v25), (2, .int 0), (3, .int 31)]) [3, 2, 1, 0] rfl (b34 i34 (0 : Int32) (31 : Int32) (upC (upC σ 10 3 ((-1) : Int32)) 10 4 ((-1) : Int32)) u34)
