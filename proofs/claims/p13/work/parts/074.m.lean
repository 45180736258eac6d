set_option maxHeartbeats 4000000 in
set_option maxRecDepth 100000 in
theorem kt_X8_symbolsOf (a : Nat → Nat) (r : Nat → Nat) {a1 : Int32} {σ : St} {Q : Int32 → Prop} (w : wk_X8_symbolsOf a1 σ Q) (l : Launch) (D : va_G) (cy : Nat → ClassId) : Ct l D cy SC r (EC a gC) y_X8_symbolsOf (Cond.code y_X8_symbolsOf b_X8_symbolsOf 4 (some .int)) 2 [.ref (r 5), .int a1] σ Z0 [] (QI (fun x σ9 => σ9 = σ ∧ Q x)) QT0 := by
  unfold wk_X8_symbolsOf at w
  refine Ct_of (EC_ok a gC) (by decide) (Nat.le_of_ble_eq_true rfl) (by decide) (fun X hnn hF => ?_)
  show G SC r X σ Z0 [] [(0, .ref (r 5)), (1, .int a1)] [] 0
  refine g_iconst hF (v := 0) d_X8_symbolsOf_0 (by decide) ?_
  refine g_istore_n hF [(2, .int 0), (0, .ref (r 5)), (1, .int a1)] d_X8_symbolsOf_1 rfl hnn (by decide) rfl ?_
  refine g_aload_n hF d_X8_symbolsOf_2 rfl 1 rfl ?_
  refine g_iload_n hF d_X8_symbolsOf_3 rfl 2 rfl ?_
  refine g_callV (As := [.int a1]) (rest := []) hF (fun l D cy => kt_X8_firstOf a r w l D cy) (Nat.le_of_ble_eq_true rfl) mV_X8_firstOf m_1521 (recv_ob obC_5) rfl rfl (Nat.le_of_ble_eq_true rfl) d_X8_symbolsOf_4 (qIr (fun v4 w1 => ?_)) (fun _ _ _ h => h.elim)
  refine g_istore_n hF [(3, .int v4), (2, .int 0), (0, .ref (r 5)), (1, .int a1)] d_X8_symbolsOf_7 rfl hnn (by decide) rfl ?_
  obtain ⟨L8, ⟨i8, u8⟩, h8⟩ := w1
  have b8 : ∀ (n8 : Nat) (x2_8 : Int32) (x3_8 : Int32), L8 n8 x2_8 x3_8 → G SC r X σ Z0 [] [(0, .ref (r 5)), (1, .int a1), (2, .int x2_8), (3, .int x3_8)] [] 8 := by
    intro n8
    induction n8 using Nat.strongRecOn with
    | _ n8 ih8 =>
      intro x2_8 x3_8  w8_
      have w8_ := h8 n8 x2_8 x3_8  w8_
      refine g_iload_n hF d_X8_symbolsOf_8 rfl 3 rfl ?_
      refine g_aload_n hF d_X8_symbolsOf_9 rfl 0 rfl ?_
      refine g_get (v := .ref (r 34)) hF 14 obC_5 (by decide) m_252 rfl d_X8_symbolsOf_10 ?_
      refine g_iload_n hF d_X8_symbolsOf_13 rfl 1 rfl ?_
      refine g_callSN (As := [.ref (r 34), .int a1]) (rest := [.int x3_8]) hF (c_atv a r σ arC_34 (by decide) a1) (Nat.le_of_ble_eq_true rfl) mS_X12_at nm_1125 rfl rfl (Nat.le_of_ble_eq_true rfl) d_X8_symbolsOf_14 (kQ ?_)
      refine g_top (v := (atv 101 (σ 34) a1)) rfl ?_
      refine g_icmp_ge hF 43 d_X8_symbolsOf_17 (by decide) rfl rfl (fun c => ?_) (fun c => ?_)
      · have w2 := w8_.1 c
        refine g_iload_n hF d_X8_symbolsOf_43 rfl 2 rfl ?_
        exact g_iret hF rfl d_X8_symbolsOf_44 ⟨rfl, rfl, x2_8, rfl, ⟨rfl, w2⟩⟩
      · have w3 := w8_.2 c
        refine g_iload_n hF d_X8_symbolsOf_20 rfl 2 rfl ?_
        refine g_aload_n hF d_X8_symbolsOf_21 rfl 0 rfl ?_
        refine g_iload_n hF d_X8_symbolsOf_22 rfl 3 rfl ?_
        refine g_iconst hF (v := 2) d_X8_symbolsOf_23 (by decide) ?_
        refine g_callV (As := [.int x3_8, .int 2]) (rest := [.int x2_8]) hF (fun l D cy => kt_X8_is a r w3 l D cy) (Nat.le_of_ble_eq_true rfl) mV_X8_is m_1525 (recv_ob obC_5) rfl rfl (Nat.le_of_ble_eq_true rfl) d_X8_symbolsOf_24 (qZr (fun v24 hz24 w4 => ?_)) (fun _ _ _ h => h.elim)
        obtain ⟨J35, h35, w5⟩ := w4
        have b35 : ∀ (y1_35 : Int32), y1_35 = 0 ∨ y1_35 = 1 → J35 y1_35 → G SC r X σ Z0 [] [(0, .ref (r 5)), (1, .int a1), (3, .int x3_8)] [.int y1_35, .int x2_8] 35 := by
          intro y1_35 hy1_35 w35_
          have w35_ := h35 y1_35 hy1_35 w35_
          refine g_iadd hF d_X8_symbolsOf_35 ?_
          refine g_istore_n hF [(2, .int (x2_8 + y1_35)), (0, .ref (r 5)), (1, .int a1), (3, .int x3_8)] d_X8_symbolsOf_36 rfl hnn (by decide) rfl ?_
          refine g_iinc hF (x3_8 + 1) [(3, .int (x3_8 + 1)), (2, .int (x2_8 + y1_35)), (0, .ref (r 5)), (1, .int a1)] d_X8_symbolsOf_37 3 rfl rfl hnn (by decide) rfl ?_
          refine g_goto hF 8 d_X8_symbolsOf_40 (by decide) ?_
          obtain ⟨m8, hm8, w9⟩ := w35_
          exact g_sub (L' := [(0, .ref (r 5)), (1, .int a1), (2, .int (x2_8 + y1_35)), (3, .int (x3_8 + 1))]) [2, 3, 1, 0] rfl (ih8 m8 hm8 (x2_8 + y1_35) (x3_8 + 1) w9)
        refine g_if_eq hF 34 d_X8_symbolsOf_27 (by decide) rfl (fun c => ?_) (fun c => ?_)
        · have w6 := w5.1 c
          refine g_iconst hF (v := 1) d_X8_symbolsOf_34 (by decide) ?_
          exact g_sub (L' := [(0, .ref (r 5)), (1, .int a1), (3, .int x3_8)]) [0, 1, 3] rfl (b35 (1 : Int32) (Or.inr rfl) w6)
        · have w7 := w5.2 c
          refine g_iconst hF (v := 0) d_X8_symbolsOf_30 (by decide) ?_
          refine g_goto hF 35 d_X8_symbolsOf_31 (by decide) ?_
          exact g_sub (L' := [(0, .ref (r 5)), (1, .int a1), (3, .int x3_8)]) [0, 1, 3] rfl (b35 (0 : Int32) (Or.inl rfl) w7)
  exact g_sub (L' := [(0, .ref (r 5)), (1, .int a1), (2, .int 0), (3, .int v4)]) [2, 3, 1, 0] rfl (b8 i8 (0 : Int32) v4 u8)
set_option maxHeartbeats 4000000 in
set_option maxRecDepth 100000 in
theorem kt_X12_count (a : Nat → Nat) (r : Nat → Nat) {a1 : Int32} {a2 : Int32} {σ : St} {Q : Int32 → Prop} (w : wk_X12_count a1 a2 σ Q) (l : Launch) (D : va_G) (cy : Nat → ClassId) : Ct l D cy SC r (EC a gC) y_X12_count (Cond.code y_X12_count b_X12_count 3 (some .int)) 3 [.ref (r 0), .int a1, .int a2] σ Z0 [] (QI (fun x σ9 => σ9 = σ ∧ Q x)) QT0 := by
  unfold wk_X12_count at w
  refine Ct_of (EC_ok a gC) (by decide) (Nat.le_of_ble_eq_true rfl) (by decide) (fun X hnn hF => ?_)
  show G SC r X σ Z0 [] [(0, .ref (r 0)), (1, .int a1), (2, .int a2)] [] 0
  refine g_aload_n hF d_X12_count_0 rfl 0 rfl ?_
  refine g_get (v := .ref (r 5)) hF 7 obC_0 (by decide) m_742 rfl d_X12_count_1 ?_
  refine g_iload_n hF d_X12_count_4 rfl 1 rfl ?_
  refine g_callVN (As := [.int a1]) (rest := []) hF (fun l D cy => kt_X8_has a r w l D cy) (Nat.le_of_ble_eq_true rfl) mV_X8_has nm_1513 (recv_ob obC_5) rfl rfl (Nat.le_of_ble_eq_true rfl) d_X12_count_5 (qZr (fun v5 hz5 w1 => ?_))
  refine g_if_eq hF 20 d_X12_count_8 (by decide) rfl (fun c => ?_) (fun c => ?_)
  · have w2 := w1.1 c
    refine g_iconst hF (v := (-1)) d_X12_count_20 (by decide) ?_
    exact g_iret hF rfl d_X12_count_21 ⟨rfl, rfl, ((-1) : Int32), rfl, ⟨rfl, w2⟩⟩
  · have w3 := w1.2 c
    refine g_iload_n hF d_X12_count_11 rfl 2 rfl ?_
    refine g_if_lt hF 20 d_X12_count_12 (by decide) rfl (fun c => ?_) (fun c => ?_)
    · have w4 := w3.1 c
      refine g_iconst hF (v := (-1)) d_X12_count_20 (by decide) ?_
      exact g_iret hF rfl d_X12_count_21 ⟨rfl, rfl, ((-1) : Int32), rfl, ⟨rfl, w4⟩⟩
    · have w5 := w3.2 c
      refine g_iload_n hF d_X12_count_15 rfl 2 rfl ?_
      refine g_iconst hF (v := 1) d_X12_count_16 (by decide) ?_
      refine g_icmp_le (yv := 1) hF 22 d_X12_count_17 (by decide) rfl (by decide) (fun c => ?_) (fun c => ?_)
      · have w6 := w5.1 c
        refine g_iload_n hF d_X12_count_22 rfl 2 rfl ?_
        refine g_if_ne hF 37 d_X12_count_23 (by decide) rfl (fun c => ?_) (fun c => ?_)
        · have w7 := w6.1 c
          refine g_aload_n hF d_X12_count_37 rfl 0 rfl ?_
          refine g_get (v := .ref (r 5)) hF 7 obC_0 (by decide) m_742 rfl d_X12_count_38 ?_
          refine g_getN (v := .ref (r 37)) hF 17 obC_5 (by decide) nm_259 rfl d_X12_count_41 ?_
          refine g_iload_n hF d_X12_count_44 rfl 1 rfl ?_
          refine g_callS (As := [.ref (r 37), .int a1]) (rest := []) hF (c_atv a r σ arC_37 (by decide) a1) (Nat.le_of_ble_eq_true rfl) mS_X12_at m_1036 rfl rfl (Nat.le_of_ble_eq_true rfl) d_X12_count_45 (kQ ?_) (fun _ _ _ h => h.elim)
          refine g_top (v := (atv 101 (σ 37) a1)) rfl ?_
          exact g_iret hF rfl d_X12_count_48 ⟨rfl, rfl, (atv 101 (σ 37) a1), rfl, ⟨rfl, w7⟩⟩
        · have w8 := w6.2 c
          refine g_aload_n hF d_X12_count_26 rfl 0 rfl ?_
          refine g_get (v := .ref (r 5)) hF 7 obC_0 (by decide) m_742 rfl d_X12_count_27 ?_
          refine g_iload_n hF d_X12_count_30 rfl 1 rfl ?_
          refine g_callVN (As := [.int a1]) (rest := []) hF (fun l D cy => kt_X8_symbolsOf a r w8 l D cy) (Nat.le_of_ble_eq_true rfl) mV_X8_symbolsOf nm_1517 (recv_ob obC_5) rfl rfl (Nat.le_of_ble_eq_true rfl) d_X12_count_31 (qIr (fun v31 w9 => ?_))
          refine g_goto hF 48 d_X12_count_34 (by decide) ?_
          exact g_iret hF rfl d_X12_count_48 ⟨rfl, rfl, v31, rfl, ⟨rfl, w9⟩⟩
      · have w10 := w5.2 c
        refine g_iconst hF (v := (-1)) d_X12_count_20 (by decide) ?_
        exact g_iret hF rfl d_X12_count_21 ⟨rfl, rfl, ((-1) : Int32), rfl, ⟨rfl, w10⟩⟩
set_option maxHeartbeats 4000000 in
set_option maxRecDepth 100000 in
theorem kt_X8_symbolAt (a : Nat → Nat) (r : Nat → Nat) {a1 : Int32} {a2 : Int32} {σ : St} {Q : Int32 → Prop} (w : wk_X8_symbolAt a1 a2 σ Q) (l : Launch) (D : va_G) (cy : Nat → ClassId) : Ct l D cy SC r (EC a gC) y_X8_symbolAt (Cond.code y_X8_symbolAt b_X8_symbolAt 5 (some .int)) 2 [.ref (r 5), .int a1, .int a2] σ Z0 [] (QI (fun x σ9 => σ9 = σ ∧ Q x)) QT0 := by
  unfold wk_X8_symbolAt at w
  refine Ct_of (EC_ok a gC) (by decide) (Nat.le_of_ble_eq_true rfl) (by decide) (fun X hnn hF => ?_)
  show G SC r X σ Z0 [] [(0, .ref (r 5)), (1, .int a1), (2, .int a2)] [] 0
  refine g_aload_n hF d_X8_symbolAt_0 rfl 0 rfl ?_
  refine g_iload_n hF d_X8_symbolAt_1 rfl 1 rfl ?_
  refine g_callV (As := [.int a1]) (rest := []) hF (fun l D cy => kt_X8_has a r w l D cy) (Nat.le_of_ble_eq_true rfl) mV_X8_has m_1534 (recv_ob obC_5) rfl rfl (Nat.le_of_ble_eq_true rfl) d_X8_symbolAt_2 (qZr (fun v2 hz2 w1 => ?_)) (fun _ _ _ h => h.elim)
  obtain ⟨J17, h17, w2⟩ := w1
  have b17 : ∀ (y0_17 : Int32), J17 y0_17 → G SC r X σ Z0 [] [(0, .ref (r 5)), (1, .int a1)] [.int y0_17] 17 := by
    intro y0_17  w17_
    have w17_ := h17 y0_17  w17_
    refine g_istore_n hF [(3, .int y0_17), (0, .ref (r 5)), (1, .int a1)] d_X8_symbolAt_17 rfl hnn (by decide) rfl ?_
    refine g_aload_n hF d_X8_symbolAt_18 rfl 1 rfl ?_
    refine g_iload_n hF d_X8_symbolAt_19 rfl 2 rfl ?_
    refine g_callV (As := [.int a1]) (rest := []) hF (fun l D cy => kt_X8_firstOf a r w17_ l D cy) (Nat.le_of_ble_eq_true rfl) mV_X8_firstOf m_1521 (recv_ob obC_5) rfl rfl (Nat.le_of_ble_eq_true rfl) d_X8_symbolAt_20 (qIr (fun v20 w3 => ?_)) (fun _ _ _ h => h.elim)
    refine g_istore hF [(4, .int v20), (3, .int y0_17), (0, .ref (r 5)), (1, .int a1)] d_X8_symbolAt_23 hnn (by decide) rfl ?_
    obtain ⟨L25, ⟨i25, u25⟩, h25⟩ := w3
    have b25 : ∀ (n25 : Nat) (x3_25 : Int32) (x4_25 : Int32), L25 n25 x3_25 x4_25 → G SC r X σ Z0 [] [(0, .ref (r 5)), (1, .int a1), (3, .int x3_25), (4, .int x4_25)] [] 25 := by
      intro n25
      induction n25 using Nat.strongRecOn with
      | _ n25 ih25 =>
        intro x3_25 x4_25  w25_
        have w25_ := h25 n25 x3_25 x4_25  w25_
        refine g_iload_n hF d_X8_symbolAt_25 rfl 2 rfl ?_
        refine g_if_lt hF 68 d_X8_symbolAt_26 (by decide) rfl (fun c => ?_) (fun c => ?_)
        · have w4 := w25_.1 c
          refine g_iconst hF (v := (-1)) d_X8_symbolAt_68 (by decide) ?_
          exact g_iret hF rfl d_X8_symbolAt_69 ⟨rfl, rfl, ((-1) : Int32), rfl, ⟨rfl, w4⟩⟩
        · have w5 := w25_.2 c
          refine g_iload hF d_X8_symbolAt_29 3 rfl ?_
          refine g_aload_n hF d_X8_symbolAt_31 rfl 0 rfl ?_
          refine g_get (v := .ref (r 34)) hF 14 obC_5 (by decide) m_252 rfl d_X8_symbolAt_32 ?_
          refine g_iload_n hF d_X8_symbolAt_35 rfl 1 rfl ?_
          refine g_callSN (As := [.ref (r 34), .int a1]) (rest := [.int x4_25]) hF (c_atv a r σ arC_34 (by decide) a1) (Nat.le_of_ble_eq_true rfl) mS_X12_at nm_1125 rfl rfl (Nat.le_of_ble_eq_true rfl) d_X8_symbolAt_36 (kQ ?_)
          refine g_top (v := (atv 101 (σ 34) a1)) rfl ?_
          refine g_icmp_ge hF 68 d_X8_symbolAt_39 (by decide) rfl rfl (fun c => ?_) (fun c => ?_)
          · have w6 := w5.1 c
            refine g_iconst hF (v := (-1)) d_X8_symbolAt_68 (by decide) ?_
            exact g_iret hF rfl d_X8_symbolAt_69 ⟨rfl, rfl, ((-1) : Int32), rfl, ⟨rfl, w6⟩⟩
          · have w7 := w5.2 c
            refine g_aload_n hF d_X8_symbolAt_42 rfl 0 rfl ?_
            refine g_iload hF d_X8_symbolAt_43 3 rfl ?_
            refine g_iconst hF (v := 2) d_X8_symbolAt_45 (by decide) ?_
            refine g_callV (As := [.int x4_25, .int 2]) (rest := []) hF (fun l D cy => kt_X8_is a r w7 l D cy) (Nat.le_of_ble_eq_true rfl) mV_X8_is m_1525 (recv_ob obC_5) rfl rfl (Nat.le_of_ble_eq_true rfl) d_X8_symbolAt_46 (qZr (fun v46 hz46 w8 => ?_)) (fun _ _ _ h => h.elim)
            obtain ⟨J62, h62, w9⟩ := w8
            have b62 : ∀ (x3_62 : Int32), J62 x3_62 → G SC r X σ Z0 [] [(0, .ref (r 5)), (1, .int a1), (3, .int x3_62), (4, .int x4_25)] [] 62 := by
              intro x3_62  w62_
              have w62_ := h62 x3_62  w62_
              refine g_iinc hF (x4_25 + 1) [(4, .int (x4_25 + 1)), (0, .ref (r 5)), (1, .int a1), (3, .int x3_62)] d_X8_symbolAt_62 3 rfl rfl hnn (by decide) rfl ?_
              refine g_goto hF 25 d_X8_symbolAt_65 (by decide) ?_
              obtain ⟨m25, hm25, w9⟩ := w62_
              exact g_sub (L' := [(0, .ref (r 5)), (1, .int a1), (3, .int x3_62), (4, .int (x4_25 + 1))]) [1, 2, 3, 0] rfl (ih25 m25 hm25 x3_62 (x4_25 + 1) w9)
            refine g_if_ne hF 62 d_X8_symbolAt_49 (by decide) rfl (fun c => ?_) (fun c => ?_)
            · have w10 := w9.1 c
              exact b62 x3_25 w10
            · have w11 := w9.2 c
              refine g_iload_n hF d_X8_symbolAt_52 rfl 2 rfl ?_
              refine g_if_ne hF 59 d_X8_symbolAt_53 (by decide) rfl (fun c => ?_) (fun c => ?_)
              · have w12 := w11.1 c
                refine g_iinc hF (x3_25 + (-1)) [(3, .int (x3_25 + (-1))), (0, .ref (r 5)), (1, .int a1), (4, .int x4_25)] d_X8_symbolAt_59 2 rfl rfl hnn (by decide) rfl ?_
                exact g_sub (L' := [(0, .ref (r 5)), (1, .int a1), (3, .int (x3_25 + (-1))), (4, .int x4_25)]) [1, 2, 0, 3] rfl (b62 (x3_25 + (-1)) w12)
              · have w13 := w11.2 c
                refine g_iload hF d_X8_symbolAt_56 3 rfl ?_
                exact g_iret hF rfl d_X8_symbolAt_58 ⟨rfl, rfl, x4_25, rfl, ⟨rfl, w13⟩⟩
    exact g_sub (L' := [(0, .ref (r 5)), (1, .int a1), (3, .int y0_17), (4, .int v20)]) [2, 3, 1, 0] rfl (b25 i25 y0_17 v20 u25)
  obtain ⟨J16, h16, w14⟩ := w2
  have b16 : J16  → G SC r X σ Z0 [] [(0, .ref (r 5)), (1, .int a1)] [] 16 := by
    intro   w16_
    have w16_ := h16   w16_
    refine g_iconst hF (v := (-1)) d_X8_symbolAt_16 (by decide) ?_
    exact b17 ((-1) : Int32) w16_
  refine g_if_eq hF 16 d_X8_symbolAt_5 (by decide) rfl (fun c => ?_) (fun c => ?_)
  · have w15 := w14.1 c
    exact g_sub (L' := [(0, .ref (r 5)), (1, .int a1)]) [0, 1] rfl (b16  w15)
  · have w16 := w14.2 c
    refine g_iload_n hF d_X8_symbolAt_8 rfl 2 rfl ?_
    refine g_if_lt hF 16 d_X8_symbolAt_9 (by decide) rfl (fun c => ?_) (fun c => ?_)
    · have w17 := w16.1 c
      exact g_sub (L' := [(0, .ref (r 5)), (1, .int a1)]) [0, 1] rfl (b16  w17)
    · have w18 := w16.2 c
      refine g_iload_n hF d_X8_symbolAt_12 rfl 2 rfl ?_
      refine g_goto hF 17 d_X8_symbolAt_13 (by decide) ?_
      exact g_sub (L' := [(0, .ref (r 5)), (1, .int a1)]) [0, 1] rfl (b17 a2 w18)
set_option maxHeartbeats 4000000 in
set_option maxRecDepth 100000 in
theorem kt_X8_nameByte (a : Nat → Nat) (r : Nat → Nat) {a1 : Int32} {a2 : Int32} {σ : St} {Q : Int32 → Prop} (w : wk_X8_nameByte a1 a2 σ Q) (l : Launch) (D : va_G) (cy : Nat → ClassId) : Ct l D cy SC r (EC a gC) y_X8_nameByte (Cond.code y_X8_nameByte b_X8_nameByte 5 (some .int)) 2 [.ref (r 5), .int a1, .int a2] σ Z0 [] (QI (fun x σ9 => σ9 = σ ∧ Q x)) QT0 := by
  unfold wk_X8_nameByte at w
  refine Ct_of (EC_ok a gC) (by decide) (Nat.le_of_ble_eq_true rfl) (by decide) (fun X hnn hF => ?_)
  show G SC r X σ Z0 [] [(0, .ref (r 5)), (1, .int a1), (2, .int a2)] [] 0
  refine g_iload_n hF d_X8_nameByte_0 rfl 1 rfl ?_
  obtain ⟨J22, h22, w1⟩ := w
  have b22 : ∀ (y0_22 : Int32), J22 y0_22 → G SC r X σ Z0 [] [(0, .ref (r 5)), (1, .int a1), (2, .int a2)] [.int y0_22] 22 := by
    intro y0_22  w22_
    have w22_ := h22 y0_22  w22_
    refine g_istore_n hF [(3, .int y0_22), (0, .ref (r 5)), (1, .int a1), (2, .int a2)] d_X8_nameByte_22 rfl hnn (by decide) rfl ?_
    refine g_aload_n hF d_X8_nameByte_23 rfl 1 rfl ?_
    refine g_iload_n hF d_X8_nameByte_24 rfl 2 rfl ?_
    refine g_callV (As := [.int a1]) (rest := []) hF (fun l D cy => kt_X8_nameStart a r w22_ l D cy) (Nat.le_of_ble_eq_true rfl) mV_X8_nameStart m_1492 (recv_ob obC_5) rfl rfl (Nat.le_of_ble_eq_true rfl) d_X8_nameByte_25 (qIr (fun v25 w2 => ?_)) (fun _ _ _ h => h.elim)
    refine g_iload_n hF d_X8_nameByte_28 rfl 3 rfl ?_
    refine g_iadd hF d_X8_nameByte_29 ?_
    refine g_istore hF [(4, .int (v25 + a2)), (3, .int y0_22), (0, .ref (r 5)), (1, .int a1), (2, .int a2)] d_X8_nameByte_30 hnn (by decide) rfl ?_
    refine g_iload_n hF d_X8_nameByte_32 rfl 4 rfl ?_
    refine g_if_lt hF 65 d_X8_nameByte_33 (by decide) rfl (fun c => ?_) (fun c => ?_)
    · have w3 := w2.1 c
      refine g_iconst hF (v := (-1)) d_X8_nameByte_65 (by decide) ?_
      exact g_iret hF rfl d_X8_nameByte_66 ⟨rfl, rfl, ((-1) : Int32), rfl, ⟨rfl, w3⟩⟩
    · have w4 := w2.2 c
      refine g_iload_n hF d_X8_nameByte_36 rfl 4 rfl ?_
      refine g_iload_n hF d_X8_nameByte_37 rfl 1 rfl ?_
      refine g_icmp_ge hF 65 d_X8_nameByte_38 (by decide) rfl rfl (fun c => ?_) (fun c => ?_)
      · have w5 := w4.1 c
        refine g_iconst hF (v := (-1)) d_X8_nameByte_65 (by decide) ?_
        exact g_iret hF rfl d_X8_nameByte_66 ⟨rfl, rfl, ((-1) : Int32), rfl, ⟨rfl, w5⟩⟩
      · have w6 := w4.2 c
        refine g_iload hF d_X8_nameByte_41 0 rfl ?_
        refine g_aload_n hF d_X8_nameByte_43 rfl 2 rfl ?_
        refine g_get (v := .ref (r 30)) hF 8 obC_5 (by decide) m_240 rfl d_X8_nameByte_44 ?_
        refine g_alen hF arC_30 (fun _ => ⟨0, _, rfl⟩) (v := 65600) (by decide) d_X8_nameByte_47 ?_
        refine g_icmp_ge (yv := 65600) hF 65 d_X8_nameByte_48 (by decide) rfl (by decide) (fun c => ?_) (fun c => ?_)
        · have w7 := w6.1 c
          refine g_iconst hF (v := (-1)) d_X8_nameByte_65 (by decide) ?_
          exact g_iret hF rfl d_X8_nameByte_66 ⟨rfl, rfl, ((-1) : Int32), rfl, ⟨rfl, w7⟩⟩
        · have w8 := w6.2 c
          refine g_aload_n hF d_X8_nameByte_51 rfl 2 rfl ?_
          refine g_get (v := .ref (r 30)) hF 8 obC_5 (by decide) m_240 rfl d_X8_nameByte_52 ?_
          refine g_iload hF d_X8_nameByte_55 0 rfl ?_
          have w9 := w8.2
          refine g_bald hF arC_30 (s_in (Nat.le_of_ble_eq_true rfl) w8.1.1 w8.1.2) d_X8_nameByte_57 ?_
          refine g_top (v := (σ 30 (v25 + a2).toNatClampNeg)) rfl ?_
          refine g_sipush hF (v := 255) d_X8_nameByte_58 (by decide) ?_
          refine g_iand hF d_X8_nameByte_61 ?_
          refine g_goto hF 66 d_X8_nameByte_62 (by decide) ?_
          exact g_iret hF rfl d_X8_nameByte_66 ⟨rfl, rfl, ((σ 30 (v25 + a2).toNatClampNeg) &&& (255 : Int32)), rfl, ⟨rfl, w9⟩⟩
  refine g_if_ge hF 8 d_X8_nameByte_1 (by decide) rfl (fun c => ?_) (fun c => ?_)
  · have w10 := w1.1 c
    refine g_aload_n hF d_X8_nameByte_8 rfl 0 rfl ?_
    refine g_get (v := .ref (r 29)) hF 6 obC_5 (by decide) m_237 rfl d_X8_nameByte_9 ?_
    refine g_iload_n hF d_X8_nameByte_12 rfl 1 rfl ?_
    refine g_callSN (As := [.ref (r 29), .int a1]) (rest := []) hF (c_atv a r σ arC_29 (by decide) a1) (Nat.le_of_ble_eq_true rfl) mS_X12_at nm_1125 rfl rfl (Nat.le_of_ble_eq_true rfl) d_X8_nameByte_13 (kQ ?_)
    refine g_top (v := (atv 10100 (σ 29) a1)) rfl ?_
    refine g_aload_n hF d_X8_nameByte_16 rfl 0 rfl ?_
    refine g_iload_n hF d_X8_nameByte_17 rfl 1 rfl ?_
    refine g_callV (As := [.int a1]) (rest := [.int (atv 10100 (σ 29) a1)]) hF (fun l D cy => kt_X8_nameStart a r w10 l D cy) (Nat.le_of_ble_eq_true rfl) mV_X8_nameStart m_1492 (recv_ob obC_5) rfl rfl (Nat.le_of_ble_eq_true rfl) d_X8_nameByte_18 (qIr (fun v18 w11 => ?_)) (fun _ _ _ h => h.elim)
    refine g_isub hF d_X8_nameByte_21 ?_
    exact b22 ((atv 10100 (σ 29) a1) - v18) w11
  · have w12 := w1.2 c
    refine g_iconst hF (v := 0) d_X8_nameByte_4 (by decide) ?_
    refine g_goto hF 22 d_X8_nameByte_5 (by decide) ?_
    exact b22 (0 : Int32) w12
set_option maxHeartbeats 4000000 in
set_option maxRecDepth 100000 in
theorem kt_X12_name (a : Nat → Nat) (r : Nat → Nat) {a1 : Int32} {a2 : Int32} {a3 : Int32} {σ : St} {Q : Int32 → Prop} (w : wk_X12_name a1 a2 a3 σ Q) (l : Launch) (D : va_G) (cy : Nat → ClassId) : Ct l D cy SC r (EC a gC) y_X12_name (Cond.code y_X12_name b_X12_name 4 (some .int)) 3 [.ref (r 0), .int a1, .int a2, .int a3] σ Z0 [] (QI (fun x σ9 => σ9 = σ ∧ Q x)) QT0 := by
  unfold wk_X12_name at w
  refine Ct_of (EC_ok a gC) (by decide) (Nat.le_of_ble_eq_true rfl) (by decide) (fun X hnn hF => ?_)
  show G SC r X σ Z0 [] [(0, .ref (r 0)), (1, .int a1), (2, .int a2), (3, .int a3)] [] 0
  refine g_aload_n hF d_X12_name_0 rfl 0 rfl ?_
  refine g_get (v := .ref (r 5)) hF 7 obC_0 (by decide) m_742 rfl d_X12_name_1 ?_
  refine g_aload_n hF d_X12_name_4 rfl 0 rfl ?_
  refine g_get (v := .ref (r 5)) hF 7 obC_0 (by decide) m_742 rfl d_X12_name_5 ?_
  refine g_iload_n hF d_X12_name_8 rfl 1 rfl ?_
  refine g_iload_n hF d_X12_name_9 rfl 2 rfl ?_
  refine g_callVN (As := [.int a1, .int a2]) (rest := [.ref (r 5)]) hF (fun l D cy => kt_X8_symbolAt a r w l D cy) (Nat.le_of_ble_eq_true rfl) mV_X8_symbolAt nm_1530 (recv_ob obC_5) rfl rfl (Nat.le_of_ble_eq_true rfl) d_X12_name_10 (qIr (fun v10 w1 => ?_))
  refine g_iload_n hF d_X12_name_13 rfl 3 rfl ?_
  refine g_callVN (As := [.int v10, .int a3]) (rest := []) hF (fun l D cy => kt_X8_nameByte a r w1 l D cy) (Nat.le_of_ble_eq_true rfl) mV_X8_nameByte nm_1535 (recv_ob obC_5) rfl rfl (Nat.le_of_ble_eq_true rfl) d_X12_name_14 (qIr (fun v14 w2 => ?_))
  exact g_iret hF rfl d_X12_name_17 ⟨rfl, rfl, v14, rfl, ⟨rfl, w2⟩⟩
set_option maxHeartbeats 4000000 in
set_option maxRecDepth 100000 in
theorem kt_X12_symbol (a : Nat → Nat) (r : Nat → Nat) {a1 : Int32} {a2 : Int32} {σ : St} {Q : Int32 → Prop} (w : wk_X12_symbol a1 a2 σ Q) (l : Launch) (D : va_G) (cy : Nat → ClassId) : Ct l D cy SC r (EC a gC) y_X12_symbol (Cond.code y_X12_symbol b_X12_symbol 5 (some .int)) 3 [.ref (r 0), .int a1, .int a2] σ Z0 [] (QI (fun x σ9 => σ9 = σ ∧ Q x)) QT0 := by
  unfold wk_X12_symbol at w
  refine Ct_of (EC_ok a gC) (by decide) (Nat.le_of_ble_eq_true rfl) (by decide) (fun X hnn hF => ?_)
  show G SC r X σ Z0 [] [(0, .ref (r 0)), (1, .int a1), (2, .int a2)] [] 0
  refine g_aload_n hF d_X12_symbol_0 rfl 0 rfl ?_
  refine g_get (v := .ref (r 5)) hF 7 obC_0 (by decide) m_742 rfl d_X12_symbol_1 ?_
  refine g_iload_n hF d_X12_symbol_4 rfl 1 rfl ?_
  refine g_iload_n hF d_X12_symbol_5 rfl 2 rfl ?_
  refine g_callVN (As := [.int a1, .int a2]) (rest := []) hF (fun l D cy => kt_X8_symbolAt a r w l D cy) (Nat.le_of_ble_eq_true rfl) mV_X8_symbolAt nm_1530 (recv_ob obC_5) rfl rfl (Nat.le_of_ble_eq_true rfl) d_X12_symbol_6 (qIr (fun v6 w1 => ?_))
  refine g_istore_n hF [(3, .int v6), (0, .ref (r 0)), (1, .int a1), (2, .int a2)] d_X12_symbol_9 rfl hnn (by decide) rfl ?_
  refine g_iload_n hF d_X12_symbol_10 rfl 0 rfl ?_
  refine g_if_ge hF 16 d_X12_symbol_11 (by decide) rfl (fun c => ?_) (fun c => ?_)
  · have w2 := w1.1 c
    refine g_aload_n hF d_X12_symbol_16 rfl 1 rfl ?_
    refine g_get (v := .ref (r 5)) hF 7 obC_0 (by decide) m_742 rfl d_X12_symbol_17 ?_
    refine g_iload_n hF d_X12_symbol_20 rfl 0 rfl ?_
    refine g_iconst hF (v := 1) d_X12_symbol_21 (by decide) ?_
    refine g_callVN (As := [.int v6, .int 1]) (rest := []) hF (fun l D cy => kt_X8_is a r w2 l D cy) (Nat.le_of_ble_eq_true rfl) mV_X8_is nm_1543 (recv_ob obC_5) rfl rfl (Nat.le_of_ble_eq_true rfl) d_X12_symbol_22 (qZr (fun v22 hz22 w3 => ?_))
    obtain ⟨J33, h33, w4⟩ := w3
    have b33 : ∀ (y0_33 : Int32), J33 y0_33 → G SC r X σ Z0 [] [(0, .ref (r 0)), (3, .int v6)] [.int y0_33] 33 := by
      intro y0_33  w33_
      have w33_ := h33 y0_33  w33_
      refine g_istore hF [(4, .int y0_33), (0, .ref (r 0)), (3, .int v6)] d_X12_symbol_33 hnn (by decide) rfl ?_
      refine g_aload_n hF d_X12_symbol_35 rfl 1 rfl ?_
      refine g_get (v := .ref (r 5)) hF 7 obC_0 (by decide) m_742 rfl d_X12_symbol_36 ?_
      refine g_iload_n hF d_X12_symbol_39 rfl 2 rfl ?_
      refine g_iconst hF (v := 4) d_X12_symbol_40 (by decide) ?_
      refine g_callVN (As := [.int v6, .int 4]) (rest := []) hF (fun l D cy => kt_X8_is a r w33_ l D cy) (Nat.le_of_ble_eq_true rfl) mV_X8_is nm_1543 (recv_ob obC_5) rfl rfl (Nat.le_of_ble_eq_true rfl) d_X12_symbol_41 (qZr (fun v41 hz41 w5 => ?_))
      refine g_if_eq hF 52 d_X12_symbol_44 (by decide) rfl (fun c => ?_) (fun c => ?_)
      · have w6 := w5.1 c
        refine g_aload_n hF d_X12_symbol_52 rfl 1 rfl ?_
        refine g_get (v := .ref (r 5)) hF 7 obC_0 (by decide) m_742 rfl d_X12_symbol_53 ?_
        refine g_iload_n hF d_X12_symbol_56 rfl 2 rfl ?_
        refine g_bipush hF (v := 8) d_X12_symbol_57 (by decide) ?_
        refine g_callVN (As := [.int v6, .int 8]) (rest := []) hF (fun l D cy => kt_X8_is a r w6 l D cy) (Nat.le_of_ble_eq_true rfl) mV_X8_is nm_1543 (recv_ob obC_5) rfl rfl (Nat.le_of_ble_eq_true rfl) d_X12_symbol_59 (qZr (fun v59 hz59 w7 => ?_))
        refine g_if_eq hF 73 d_X12_symbol_62 (by decide) rfl (fun c => ?_) (fun c => ?_)
        · have w8 := w7.1 c
          refine g_iload hF d_X12_symbol_73 0 rfl ?_
          exact g_iret hF rfl d_X12_symbol_75 ⟨rfl, rfl, y0_33, rfl, ⟨rfl, w8⟩⟩
        · have w9 := w7.2 c
          refine g_iload hF d_X12_symbol_65 0 rfl ?_
          refine g_bipush hF (v := 8) d_X12_symbol_67 (by decide) ?_
          refine g_iadd hF d_X12_symbol_69 ?_
          refine g_goto hF 75 d_X12_symbol_70 (by decide) ?_
          exact g_iret hF rfl d_X12_symbol_75 ⟨rfl, rfl, (y0_33 + (8 : Int32)), rfl, ⟨rfl, w9⟩⟩
      · have w10 := w5.2 c
        refine g_iload hF d_X12_symbol_47 0 rfl ?_
        refine g_iconst hF (v := 4) d_X12_symbol_49 (by decide) ?_
        refine g_iadd hF d_X12_symbol_50 ?_
        exact g_iret hF rfl d_X12_symbol_51 ⟨rfl, rfl, (y0_33 + (4 : Int32)), rfl, ⟨rfl, w10⟩⟩
    refine g_if_eq hF 32 d_X12_symbol_25 (by decide) rfl (fun c => ?_) (fun c => ?_)
    · have w11 := w4.1 c
      refine g_iconst hF (v := 1) d_X12_symbol_32 (by decide) ?_
      exact g_sub (L' := [(0, .ref (r 0)), (3, .int v6)]) [1, 0] rfl (b33 (1 : Int32) w11)
    · have w12 := w4.2 c
      refine g_iconst hF (v := 2) d_X12_symbol_28 (by decide) ?_
      refine g_goto hF 33 d_X12_symbol_29 (by decide) ?_
      exact g_sub (L' := [(0, .ref (r 0)), (3, .int v6)]) [1, 0] rfl (b33 (2 : Int32) w12)
  · have w13 := w1.2 c
    refine g_iconst hF (v := (-1)) d_X12_symbol_14 (by decide) ?_
    exact g_iret hF rfl d_X12_symbol_15 ⟨rfl, rfl, ((-1) : Int32), rfl, ⟨rfl, w13⟩⟩
set_option maxHeartbeats 4000000 in
set_option maxRecDepth 100000 in
theorem kt_X4_choose (a : Nat → Nat) (r : Nat → Nat) {a1 : Int32} {σ : St} {Q : Int32 → St → Prop} (w : wk_X4_choose a1 σ Q) (l : Launch) (D : va_G) (cy : Nat → ClassId) : Ct l D cy SC r (EC a gC) y_X4_choose (Cond.code y_X4_choose b_X4_choose 3 (some .int)) 1 [.ref (r 10), .int a1] σ Z0 [] (QI Q) QT0 := by
  unfold wk_X4_choose at w
  refine Ct_of (EC_ok a gC) (by decide) (Nat.le_of_ble_eq_true rfl) (by decide) (fun X hnn hF => ?_)
  show G SC r X σ Z0 [] [(0, .ref (r 10)), (1, .int a1)] [] 0
  refine g_iconst hF (v := 1) d_X4_choose_0 (by decide) ?_
  refine g_istore_n hF [(2, .int 1), (0, .ref (r 10)), (1, .int a1)] d_X4_choose_1 rfl hnn (by decide) rfl ?_
  obtain ⟨L2, ⟨i2, u2⟩, h2⟩ := w
  have b2 : ∀ (n2 : Nat) (x2_2 : Int32), L2 n2 x2_2 → G SC r X σ Z0 [] [(0, .ref (r 10)), (1, .int a1), (2, .int x2_2)] [] 2 := by
    intro n2
    induction n2 using Nat.strongRecOn with
    | _ n2 ih2 =>
      intro x2_2  w2_
      have w2_ := h2 n2 x2_2  w2_
      refine g_iload_n hF d_X4_choose_2 rfl 2 rfl ?_
      refine g_aload_n hF d_X4_choose_3 rfl 0 rfl ?_
      refine g_get (v := .int (σ 10 5)) hF 5 obC_10 (by decide) m_605 rfl d_X4_choose_4 ?_
      refine g_icmp_ge hF 30 d_X4_choose_7 (by decide) rfl rfl (fun c => ?_) (fun c => ?_)
      · have w1 := w2_.1 c
        refine g_aload_n hF d_X4_choose_30 rfl 0 rfl ?_
        refine g_get (v := .ref (r 56)) hF 6 obC_10 (by decide) m_606 rfl d_X4_choose_31 ?_
        refine g_aload_n hF d_X4_choose_34 rfl 0 rfl ?_
        refine g_get (v := .int (σ 10 5)) hF 5 obC_10 (by decide) m_605 rfl d_X4_choose_35 ?_
        refine g_iload_n hF d_X4_choose_38 rfl 1 rfl ?_
        refine g_callSN (As := [.ref (r 56), .int (σ 10 5), .int a1]) (rest := []) hF (c_setv a r σ arC_56 (by decide) (σ 10 5) a1) (Nat.le_of_ble_eq_true rfl) mS_X12_set nm_1553 rfl rfl (Nat.le_of_ble_eq_true rfl) d_X4_choose_39 (kU ?_)
        refine g_aload_n hF d_X4_choose_42 rfl 0 rfl ?_
        refine g_dup hF d_X4_choose_43 rfl ?_
        refine g_get (v := .int (σ 10 5)) hF 5 obC_10 (by decide) m_605 rfl d_X4_choose_44 ?_
        refine g_iconst hF (v := 1) d_X4_choose_47 (by decide) ?_
        refine g_iadd hF d_X4_choose_48 ?_
        refine g_put (v := ((σ 10 5) + (1 : Int32))) hF 5 obC_10 (by decide) m_605 rfl rfl rfl d_X4_choose_49 ?_
        refine g_aload_n hF d_X4_choose_52 rfl 0 rfl ?_
        refine g_get (v := .int ((σ 10 5) + (1 : Int32))) hF 5 obC_10 (by decide) m_605 rfl d_X4_choose_53 ?_
        refine g_iconst hF (v := 1) d_X4_choose_56 (by decide) ?_
        refine g_isub hF d_X4_choose_57 ?_
        exact g_iret hF rfl d_X4_choose_58 ⟨rfl, rfl, (((σ 10 5) + (1 : Int32)) - (1 : Int32)), rfl, w1⟩
      · have w2 := w2_.2 c
        refine g_aload_n hF d_X4_choose_10 rfl 0 rfl ?_
        refine g_get (v := .ref (r 56)) hF 6 obC_10 (by decide) m_606 rfl d_X4_choose_11 ?_
        refine g_iload_n hF d_X4_choose_14 rfl 2 rfl ?_
        refine g_callSN (As := [.ref (r 56), .int x2_2]) (rest := []) hF (c_atv a r σ arC_56 (by decide) x2_2) (Nat.le_of_ble_eq_true rfl) mS_X12_at nm_1552 rfl rfl (Nat.le_of_ble_eq_true rfl) d_X4_choose_15 (kQ ?_)
        refine g_top (v := (atv 101 (σ 56) x2_2)) rfl ?_
        refine g_iload_n hF d_X4_choose_18 rfl 1 rfl ?_
        refine g_icmp_ne hF 24 d_X4_choose_19 (by decide) rfl rfl (fun c => ?_) (fun c => ?_)
        · have w3 := w2.1 c
          refine g_iinc hF (x2_2 + 1) [(2, .int (x2_2 + 1)), (0, .ref (r 10)), (1, .int a1)] d_X4_choose_24 2 rfl rfl hnn (by decide) rfl ?_
          refine g_goto hF 2 d_X4_choose_27 (by decide) ?_
          obtain ⟨m2, hm2, w9⟩ := w3
          exact g_sub (L' := [(0, .ref (r 10)), (1, .int a1), (2, .int (x2_2 + 1))]) [1, 2, 0] rfl (ih2 m2 hm2 (x2_2 + 1) w9)
        · have w4 := w2.2 c
          refine g_iconst hF (v := (-1)) d_X4_choose_22 (by decide) ?_
          exact g_iret hF rfl d_X4_choose_23 ⟨rfl, rfl, ((-1) : Int32), rfl, w4⟩
  exact g_sub (L' := [(0, .ref (r 10)), (1, .int a1), (2, .int 1)]) [1, 2, 0] rfl (b2 i2 (1 : Int32) u2)
set_option maxHeartbeats 4000000 in
set_option maxRecDepth 100000 in
theorem kt_X12_pick (a : Nat → Nat) (r : Nat → Nat) {a1 : Int32} {σ : St} {Q : Int32 → St → Prop} (w : wk_X12_pick a1 σ Q) (l : Launch) (D : va_G) (cy : Nat → ClassId) : Ct l D cy SC r (EC a gC) y_X12_pick (Cond.code y_X12_pick b_X12_pick 2 (some .int)) 2 [.ref (r 0), .int a1] σ Z0 [] (QI Q) QT0 := by
  unfold wk_X12_pick at w
  refine Ct_of (EC_ok a gC) (by decide) (Nat.le_of_ble_eq_true rfl) (by decide) (fun X hnn hF => ?_)
  show G SC r X σ Z0 [] [(0, .ref (r 0)), (1, .int a1)] [] 0
  refine g_aload_n hF d_X12_pick_0 rfl 0 rfl ?_
  refine g_get (v := .ref (r 5)) hF 7 obC_0 (by decide) m_742 rfl d_X12_pick_1 ?_
  refine g_iload_n hF d_X12_pick_4 rfl 1 rfl ?_
  refine g_callVN (As := [.int a1]) (rest := []) hF (fun l D cy => kt_X8_has a r w l D cy) (Nat.le_of_ble_eq_true rfl) mV_X8_has nm_1513 (recv_ob obC_5) rfl rfl (Nat.le_of_ble_eq_true rfl) d_X12_pick_5 (qZr (fun v5 hz5 w1 => ?_))
  refine g_if_eq hF 22 d_X12_pick_8 (by decide) rfl (fun c => ?_) (fun c => ?_)
  · have w2 := w1.1 c
    refine g_iconst hF (v := (-1)) d_X12_pick_22 (by decide) ?_
    exact g_iret hF rfl d_X12_pick_23 ⟨rfl, rfl, ((-1) : Int32), rfl, w2⟩
  · have w3 := w1.2 c
    refine g_aload_n hF d_X12_pick_11 rfl 0 rfl ?_
    refine g_get (v := .ref (r 10)) hF 12 obC_0 (by decide) m_747 rfl d_X12_pick_12 ?_
    refine g_iload_n hF d_X12_pick_15 rfl 1 rfl ?_
    refine g_callVN (As := [.int a1]) (rest := []) hF (fun l D cy => kt_X4_choose a r w3 l D cy) (Nat.le_of_ble_eq_true rfl) mV_X4_choose nm_1548 (recv_ob obC_10) rfl rfl (Nat.le_of_ble_eq_true rfl) d_X12_pick_16 (qI (fun v16 s16 w4 => ?_))
    refine g_goto hF 23 d_X12_pick_19 (by decide) ?_
    exact g_iret hF rfl d_X12_pick_23 ⟨rfl, rfl, v16, rfl, w4⟩
set_option maxHeartbeats 4000000 in
set_option maxRecDepth 100000 in
theorem kt_X8_isNamed_r55 (a : Nat → Nat) (r : Nat → Nat) {a1 : Int32} {a3 : Int32} {a4 : Int32} {σ : St} {Q : Int32 → Prop} (w : wk_X8_isNamed_r55 a1 a3 a4 σ Q) (l : Launch) (D : va_G) (cy : Nat → ClassId) : Ct l D cy SC r (EC a gC) y_X8_isNamed (Cond.code y_X8_isNamed b_X8_isNamed 7 (some .boolean)) 1 [.ref (r 5), .int a1, .ref (r 55), .int a3, .int a4] σ Z0 [] (QI (fun x σ9 => (x = 0 ∨ x = 1) ∧ σ9 = σ ∧ Q x)) QT0 := by
  unfold wk_X8_isNamed_r55 at w
  refine Ct_of (EC_ok a gC) (by decide) (Nat.le_of_ble_eq_true rfl) (by decide) (fun X hnn hF => ?_)
  show G SC r X σ Z0 [] [(0, .ref (r 5)), (1, .int a1), (2, .ref (r 55)), (3, .int a3), (4, .int a4)] [] 0
  refine g_aload_n hF d_X8_isNamed_0 rfl 0 rfl ?_
  refine g_get (v := .ref (r 29)) hF 6 obC_5 (by decide) m_237 rfl d_X8_isNamed_1 ?_
  refine g_iload_n hF d_X8_isNamed_4 rfl 1 rfl ?_
  refine g_iconst hF (v := 1) d_X8_isNamed_5 (by decide) ?_
  refine g_isub hF d_X8_isNamed_6 ?_
  refine g_callSN (As := [.ref (r 29), .int (a1 - (1 : Int32))]) (rest := []) hF (c_atv a r σ arC_29 (by decide) (a1 - (1 : Int32))) (Nat.le_of_ble_eq_true rfl) mS_X12_at nm_1125 rfl rfl (Nat.le_of_ble_eq_true rfl) d_X8_isNamed_7 (kQ ?_)
  refine g_top (v := (atv 10100 (σ 29) (a1 - (1 : Int32)))) rfl ?_
  refine g_istore hF [(5, .int (atv 10100 (σ 29) (a1 - (1 : Int32)))), (0, .ref (r 5)), (1, .int a1), (2, .ref (r 55)), (3, .int a3), (4, .int a4)] d_X8_isNamed_10 hnn (by decide) rfl ?_
  refine g_aload_n hF d_X8_isNamed_12 rfl 1 rfl ?_
  refine g_get (v := .ref (r 29)) hF 6 obC_5 (by decide) m_237 rfl d_X8_isNamed_13 ?_
  refine g_iload_n hF d_X8_isNamed_16 rfl 2 rfl ?_
  refine g_callSN (As := [.ref (r 29), .int a1]) (rest := []) hF (c_atv a r σ arC_29 (by decide) a1) (Nat.le_of_ble_eq_true rfl) mS_X12_at nm_1125 rfl rfl (Nat.le_of_ble_eq_true rfl) d_X8_isNamed_17 (kQ ?_)
  refine g_top (v := (atv 10100 (σ 29) a1)) rfl ?_
  refine g_iload hF d_X8_isNamed_20 0 rfl ?_
  refine g_isub hF d_X8_isNamed_22 ?_
  refine g_iload hF d_X8_isNamed_23 5 rfl ?_
  refine g_icmp_eq hF 30 d_X8_isNamed_25 (by decide) rfl rfl (fun c => ?_) (fun c => ?_)
  · have w1 := w.1 c
    refine g_iconst hF (v := 0) d_X8_isNamed_30 (by decide) ?_
    refine g_istore hF [(6, .int 0), (5, .int (atv 10100 (σ 29) (a1 - (1 : Int32)))), (0, .ref (r 5)), (1, .int a1), (2, .ref (r 55)), (3, .int a3), (4, .int a4)] d_X8_isNamed_31 hnn (by decide) rfl ?_
    obtain ⟨L33, ⟨i33, u33⟩, h33⟩ := w1
    have b33 : ∀ (n33 : Nat) (x6_33 : Int32), L33 n33 x6_33 → G SC r X σ Z0 [] [(0, .ref (r 5)), (2, .ref (r 55)), (3, .int a3), (4, .int a4), (5, .int (atv 10100 (σ 29) (a1 - (1 : Int32)))), (6, .int x6_33)] [] 33 := by
      intro n33
      induction n33 using Nat.strongRecOn with
      | _ n33 ih33 =>
        intro x6_33  w33_
        have w33_ := h33 n33 x6_33  w33_
        refine g_iload hF d_X8_isNamed_33 5 rfl ?_
        refine g_iload hF d_X8_isNamed_35 3 rfl ?_
        refine g_icmp_ge hF 93 d_X8_isNamed_37 (by decide) rfl rfl (fun c => ?_) (fun c => ?_)
        · have w2 := w33_.1 c
          refine g_iconst hF (v := 1) d_X8_isNamed_93 (by decide) ?_
          exact g_zret hF rfl (k_nz (Or.inr rfl)) d_X8_isNamed_94 ⟨rfl, rfl, (1 : Int32), rfl, (Or.inr rfl), ⟨rfl, w2⟩⟩
        · have w3 := w33_.2 c
          refine g_iload hF d_X8_isNamed_40 4 rfl ?_
          refine g_iload hF d_X8_isNamed_42 5 rfl ?_
          refine g_iadd hF d_X8_isNamed_44 ?_
          refine g_aload_n hF d_X8_isNamed_45 rfl 0 rfl ?_
          refine g_get (v := .ref (r 30)) hF 8 obC_5 (by decide) m_240 rfl d_X8_isNamed_46 ?_
          refine g_alen hF arC_30 (fun _ => ⟨0, _, rfl⟩) (v := 65600) (by decide) d_X8_isNamed_49 ?_
          refine g_icmp_ge (yv := 65600) hF 85 d_X8_isNamed_50 (by decide) rfl (by decide) (fun c => ?_) (fun c => ?_)
          · have w4 := w3.1 c
            refine g_iconst hF (v := 0) d_X8_isNamed_85 (by decide) ?_
            exact g_zret hF rfl (k_nz (Or.inl rfl)) d_X8_isNamed_86 ⟨rfl, rfl, (0 : Int32), rfl, (Or.inl rfl), ⟨rfl, w4⟩⟩
          · have w5 := w3.2 c
            refine g_iload_n hF d_X8_isNamed_53 rfl 2 rfl ?_
            refine g_if_lt hF 85 d_X8_isNamed_54 (by decide) rfl (fun c => ?_) (fun c => ?_)
            · have w6 := w5.1 c
              refine g_iconst hF (v := 0) d_X8_isNamed_85 (by decide) ?_
              exact g_zret hF rfl (k_nz (Or.inl rfl)) d_X8_isNamed_86 ⟨rfl, rfl, (0 : Int32), rfl, (Or.inl rfl), ⟨rfl, w6⟩⟩
            · have w7 := w5.2 c
              refine g_iload_n hF d_X8_isNamed_57 rfl 2 rfl ?_
              refine g_iload hF d_X8_isNamed_58 5 rfl ?_
              refine g_iadd hF d_X8_isNamed_60 ?_
              refine g_aload_n hF d_X8_isNamed_61 rfl 1 rfl ?_
              refine g_alen hF arC_55 (fun _ => ⟨0, _, rfl⟩) (v := 4) (by decide) d_X8_isNamed_62 ?_
              refine g_icmp_ge (yv := 4) hF 85 d_X8_isNamed_63 (by decide) rfl (by decide) (fun c => ?_) (fun c => ?_)
              · have w8 := w7.1 c
                refine g_iconst hF (v := 0) d_X8_isNamed_85 (by decide) ?_
                exact g_zret hF rfl (k_nz (Or.inl rfl)) d_X8_isNamed_86 ⟨rfl, rfl, (0 : Int32), rfl, (Or.inl rfl), ⟨rfl, w8⟩⟩
              · have w9 := w7.2 c
                refine g_aload_n hF d_X8_isNamed_66 rfl 0 rfl ?_
                refine g_get (v := .ref (r 30)) hF 8 obC_5 (by decide) m_240 rfl d_X8_isNamed_67 ?_
                refine g_iload hF d_X8_isNamed_70 4 rfl ?_
                refine g_iload hF d_X8_isNamed_72 5 rfl ?_
                refine g_iadd hF d_X8_isNamed_74 ?_
                have w10 := w9.2
                refine g_bald hF arC_30 (s_in (Nat.le_of_ble_eq_true rfl) w9.1.1 w9.1.2) d_X8_isNamed_75 ?_
                refine g_top (v := (σ 30 ((atv 10100 (σ 29) (a1 - (1 : Int32))) + x6_33).toNatClampNeg)) rfl ?_
                refine g_aload_n hF d_X8_isNamed_76 rfl 1 rfl ?_
                refine g_iload_n hF d_X8_isNamed_77 rfl 2 rfl ?_
                refine g_iload hF d_X8_isNamed_78 5 rfl ?_
                refine g_iadd hF d_X8_isNamed_80 ?_
                have w11 := w10.2
                refine g_bald hF arC_55 (s_in (Nat.le_of_ble_eq_true rfl) w10.1.1 w10.1.2) d_X8_isNamed_81 ?_
                refine g_top (v := (σ 55 (a3 + x6_33).toNatClampNeg)) rfl ?_
                refine g_icmp_eq hF 87 d_X8_isNamed_82 (by decide) rfl rfl (fun c => ?_) (fun c => ?_)
                · have w12 := w11.1 c
                  refine g_iinc hF (x6_33 + 1) [(6, .int (x6_33 + 1)), (0, .ref (r 5)), (2, .ref (r 55)), (3, .int a3), (4, .int a4), (5, .int (atv 10100 (σ 29) (a1 - (1 : Int32))))] d_X8_isNamed_87 5 rfl rfl hnn (by decide) rfl ?_
                  refine g_goto hF 33 d_X8_isNamed_90 (by decide) ?_
                  obtain ⟨m33, hm33, w9⟩ := w12
                  exact g_sub (L' := [(0, .ref (r 5)), (2, .ref (r 55)), (3, .int a3), (4, .int a4), (5, .int (atv 10100 (σ 29) (a1 - (1 : Int32)))), (6, .int (x6_33 + 1))]) [1, 2, 3, 4, 5, 0] rfl (ih33 m33 hm33 (x6_33 + 1) w9)
                · have w13 := w11.2 c
                  refine g_iconst hF (v := 0) d_X8_isNamed_85 (by decide) ?_
                  exact g_zret hF rfl (k_nz (Or.inl rfl)) d_X8_isNamed_86 ⟨rfl, rfl, (0 : Int32), rfl, (Or.inl rfl), ⟨rfl, w13⟩⟩
    exact g_sub (L' := [(0, .ref (r 5)), (2, .ref (r 55)), (3, .int a3), (4, .int a4), (5, .int (atv 10100 (σ 29) (a1 - (1 : Int32)))), (6, .int 0)]) [2, 4, 5, 6, 1, 0] rfl (b33 i33 (0 : Int32) u33)
  · have w14 := w.2 c
    refine g_iconst hF (v := 0) d_X8_isNamed_28 (by decide) ?_
    exact g_zret hF rfl (k_nz (Or.inl rfl)) d_X8_isNamed_29 ⟨rfl, rfl, (0 : Int32), rfl, (Or.inl rfl), ⟨rfl, w14⟩⟩
set_option maxHeartbeats 4000000 in
set_option maxRecDepth 100000 in
theorem kt_X4_find_r56_r55 (a : Nat → Nat) (r : Nat → Nat) {a2 : Int32} {a4 : Int32} {a5 : Int32} {σ : St} {Q : Int32 → Prop} (w : wk_X4_find_r56_r55 a2 a4 a5 σ Q) (l : Launch) (D : va_G) (cy : Nat → ClassId) : Ct l D cy SC r (EC a gC) y_X4_find (Cond.code y_X4_find b_X4_find 9 (some .int)) 2 [.ref (r 10), .ref (r 56), .int a2, .ref (r 55), .int a4, .int a5] σ Z0 [] (QI (fun x σ9 => σ9 = σ ∧ Q x)) QT0 := by
  unfold wk_X4_find_r56_r55 at w
  refine Ct_of (EC_ok a gC) (by decide) (Nat.le_of_ble_eq_true rfl) (by decide) (fun X hnn hF => ?_)
  show G SC r X σ Z0 [] [(0, .ref (r 10)), (1, .ref (r 56)), (2, .int a2), (3, .ref (r 55)), (4, .int a4), (5, .int a5)] [] 0
  refine g_iconst hF (v := 0) d_X4_find_0 (by decide) ?_
  refine g_istore hF [(6, .int 0), (0, .ref (r 10)), (1, .ref (r 56)), (2, .int a2), (3, .ref (r 55)), (4, .int a4), (5, .int a5)] d_X4_find_1 hnn (by decide) rfl ?_
  obtain ⟨L3, ⟨i3, u3⟩, h3⟩ := w
  have b3 : ∀ (n3 : Nat) (x6_3 : Int32), L3 n3 x6_3 → G SC r X σ Z0 [] [(0, .ref (r 10)), (1, .ref (r 56)), (2, .int a2), (3, .ref (r 55)), (4, .int a4), (5, .int a5), (6, .int x6_3)] [] 3 := by
    intro n3
    induction n3 using Nat.strongRecOn with
    | _ n3 ih3 =>
      intro x6_3  w3_
      have w3_ := h3 n3 x6_3  w3_
      refine g_iload hF d_X4_find_3 6 rfl ?_
      refine g_iload_n hF d_X4_find_5 rfl 2 rfl ?_
      refine g_icmp_ge hF 103 d_X4_find_6 (by decide) rfl rfl (fun c => ?_) (fun c => ?_)
      · have w1 := w3_.1 c
        refine g_iconst hF (v := (-1)) d_X4_find_103 (by decide) ?_
        exact g_iret hF rfl d_X4_find_104 ⟨rfl, rfl, ((-1) : Int32), rfl, ⟨rfl, w1⟩⟩
      · have w2 := w3_.2 c
        refine g_aload_n hF d_X4_find_9 rfl 1 rfl ?_
        refine g_iload hF d_X4_find_10 6 rfl ?_
        refine g_callSN (As := [.ref (r 56), .int x6_3]) (rest := []) hF (c_atv a r σ arC_56 (by decide) x6_3) (Nat.le_of_ble_eq_true rfl) mS_X12_at nm_1552 rfl rfl (Nat.le_of_ble_eq_true rfl) d_X4_find_12 (kQ ?_)
        refine g_top (v := (atv 101 (σ 56) x6_3)) rfl ?_
        refine g_istore hF [(7, .int (atv 101 (σ 56) x6_3)), (0, .ref (r 10)), (1, .ref (r 56)), (2, .int a2), (3, .ref (r 55)), (4, .int a4), (5, .int a5), (6, .int x6_3)] d_X4_find_15 hnn (by decide) rfl ?_
        refine g_aload_n hF d_X4_find_17 rfl 1 rfl ?_
        refine g_get (v := .ref (r 5)) hF 0 obC_10 (by decide) m_597 rfl d_X4_find_18 ?_
        refine g_iload hF d_X4_find_21 0 rfl ?_
        refine g_callVN (As := [.int (atv 101 (σ 56) x6_3)]) (rest := []) hF (fun l D cy => kt_X8_firstOf a r w2 l D cy) (Nat.le_of_ble_eq_true rfl) mV_X8_firstOf nm_1566 (recv_ob obC_5) rfl rfl (Nat.le_of_ble_eq_true rfl) d_X4_find_23 (qIr (fun v23 w3 => ?_))
        refine g_istore hF [(8, .int v23), (7, .int (atv 101 (σ 56) x6_3)), (0, .ref (r 10)), (1, .ref (r 56)), (2, .int a2), (3, .ref (r 55)), (4, .int a4), (5, .int a5), (6, .int x6_3)] d_X4_find_26 hnn (by decide) rfl ?_
        obtain ⟨L28, ⟨i28, u28⟩, h28⟩ := w3
        have b28 : ∀ (n28 : Nat) (x8_28 : Int32), L28 n28 x8_28 → G SC r X σ Z0 [] [(0, .ref (r 10)), (1, .ref (r 56)), (2, .int a2), (3, .ref (r 55)), (4, .int a4), (5, .int a5), (6, .int x6_3), (7, .int (atv 101 (σ 56) x6_3)), (8, .int x8_28)] [] 28 := by
          intro n28
          induction n28 using Nat.strongRecOn with
          | _ n28 ih28 =>
            intro x8_28  w28_
            have w28_ := h28 n28 x8_28  w28_
            refine g_iload hF d_X4_find_28 8 rfl ?_
            refine g_aload_n hF d_X4_find_30 rfl 0 rfl ?_
            refine g_get (v := .ref (r 5)) hF 0 obC_10 (by decide) m_597 rfl d_X4_find_31 ?_
            refine g_getN (v := .ref (r 34)) hF 14 obC_5 (by decide) nm_253 rfl d_X4_find_34 ?_
            refine g_iload hF d_X4_find_37 7 rfl ?_
            refine g_callSN (As := [.ref (r 34), .int (atv 101 (σ 56) x6_3)]) (rest := [.int x8_28]) hF (c_atv a r σ arC_34 (by decide) (atv 101 (σ 56) x6_3)) (Nat.le_of_ble_eq_true rfl) mS_X12_at nm_1552 rfl rfl (Nat.le_of_ble_eq_true rfl) d_X4_find_39 (kQ ?_)
            refine g_top (v := (atv 101 (σ 34) (atv 101 (σ 56) x6_3))) rfl ?_
            refine g_icmp_ge hF 97 d_X4_find_42 (by decide) rfl rfl (fun c => ?_) (fun c => ?_)
            · have w4 := w28_.1 c
              refine g_iinc hF (x6_3 + 1) [(6, .int (x6_3 + 1)), (0, .ref (r 10)), (1, .ref (r 56)), (2, .int a2), (3, .ref (r 55)), (4, .int a4), (5, .int a5), (7, .int (atv 101 (σ 56) x6_3)), (8, .int x8_28)] d_X4_find_97 6 rfl rfl hnn (by decide) rfl ?_
              refine g_goto hF 3 d_X4_find_100 (by decide) ?_
              obtain ⟨m3, hm3, w9⟩ := w4
              exact g_sub (L' := [(0, .ref (r 10)), (1, .ref (r 56)), (2, .int a2), (3, .ref (r 55)), (4, .int a4), (5, .int a5), (6, .int (x6_3 + 1))]) [1, 2, 3, 4, 5, 6, 0] rfl (ih3 m3 hm3 (x6_3 + 1) w9)
            · have w5 := w28_.2 c
              refine g_aload_n hF d_X4_find_45 rfl 0 rfl ?_
              refine g_get (v := .ref (r 5)) hF 0 obC_10 (by decide) m_597 rfl d_X4_find_46 ?_
              refine g_iload hF d_X4_find_49 8 rfl ?_
              refine g_iconst hF (v := 4) d_X4_find_51 (by decide) ?_
              refine g_callVN (As := [.int x8_28, .int 4]) (rest := []) hF (fun l D cy => kt_X8_is a r w5 l D cy) (Nat.le_of_ble_eq_true rfl) mV_X8_is nm_1567 (recv_ob obC_5) rfl rfl (Nat.le_of_ble_eq_true rfl) d_X4_find_52 (qZr (fun v52 hz52 w6 => ?_))
              obtain ⟨J91, h91, w7⟩ := w6
              have b91 : J91  → G SC r X σ Z0 [] [(0, .ref (r 10)), (1, .ref (r 56)), (2, .int a2), (3, .ref (r 55)), (4, .int a4), (5, .int a5), (6, .int x6_3), (7, .int (atv 101 (σ 56) x6_3)), (8, .int x8_28)] [] 91 := by
                intro   w91_
                have w91_ := h91   w91_
                refine g_iinc hF (x8_28 + 1) [(8, .int (x8_28 + 1)), (0, .ref (r 10)), (1, .ref (r 56)), (2, .int a2), (3, .ref (r 55)), (4, .int a4), (5, .int a5), (6, .int x6_3), (7, .int (atv 101 (σ 56) x6_3))] d_X4_find_91 8 rfl rfl hnn (by decide) rfl ?_
                refine g_goto hF 28 d_X4_find_94 (by decide) ?_
                obtain ⟨m28, hm28, w9⟩ := w91_
                exact g_sub (L' := [(0, .ref (r 10)), (1, .ref (r 56)), (2, .int a2), (3, .ref (r 55)), (4, .int a4), (5, .int a5), (6, .int x6_3), (7, .int (atv 101 (σ 56) x6_3)), (8, .int (x8_28 + 1))]) [1, 2, 3, 4, 5, 6, 7, 8, 0] rfl (ih28 m28 hm28 (x8_28 + 1) w9)
              refine g_if_eq hF 91 d_X4_find_55 (by decide) rfl (fun c => ?_) (fun c => ?_)
              · have w8 := w7.1 c
                exact b91  w8
              · have w9 := w7.2 c
                refine g_aload_n hF d_X4_find_58 rfl 0 rfl ?_
                refine g_get (v := .ref (r 5)) hF 0 obC_10 (by decide) m_597 rfl d_X4_find_59 ?_
                refine g_iload hF d_X4_find_62 8 rfl ?_
                refine g_iconst hF (v := 2) d_X4_find_64 (by decide) ?_
                refine g_callVN (As := [.int x8_28, .int 2]) (rest := []) hF (fun l D cy => kt_X8_is a r w9 l D cy) (Nat.le_of_ble_eq_true rfl) mV_X8_is nm_1567 (recv_ob obC_5) rfl rfl (Nat.le_of_ble_eq_true rfl) d_X4_find_65 (qZr (fun v65 hz65 w10 => ?_))
                refine g_if_ne hF 91 d_X4_find_68 (by decide) rfl (fun c => ?_) (fun c => ?_)
                · have w11 := w10.1 c
                  exact b91  w11
                · have w12 := w10.2 c
                  refine g_aload_n hF d_X4_find_71 rfl 0 rfl ?_
                  refine g_get (v := .ref (r 5)) hF 0 obC_10 (by decide) m_597 rfl d_X4_find_72 ?_
                  refine g_iload hF d_X4_find_75 8 rfl ?_
                  refine g_aload_n hF d_X4_find_77 rfl 3 rfl ?_
                  refine g_iload hF d_X4_find_78 4 rfl ?_
                  refine g_iload hF d_X4_find_80 5 rfl ?_
                  refine g_callVN (As := [.int x8_28, .ref (r 55), .int a4, .int a5]) (rest := []) hF (fun l D cy => kt_X8_isNamed_r55 a r w12 l D cy) (Nat.le_of_ble_eq_true rfl) mV_X8_isNamed nm_1568 (recv_ob obC_5) rfl rfl (Nat.le_of_ble_eq_true rfl) d_X4_find_82 (qZr (fun v82 hz82 w13 => ?_))
                  refine g_if_eq hF 91 d_X4_find_85 (by decide) rfl (fun c => ?_) (fun c => ?_)
                  · have w14 := w13.1 c
                    exact b91  w14
                  · have w15 := w13.2 c
                    refine g_iload hF d_X4_find_88 8 rfl ?_
                    exact g_iret hF rfl d_X4_find_90 ⟨rfl, rfl, x8_28, rfl, ⟨rfl, w15⟩⟩
        exact g_sub (L' := [(0, .ref (r 10)), (1, .ref (r 56)), (2, .int a2), (3, .ref (r 55)), (4, .int a4), (5, .int a5), (6, .int x6_3), (7, .int (atv 101 (σ 56) x6_3)), (8, .int v23)]) [2, 3, 4, 5, 6, 7, 8, 1, 0] rfl (b28 i28 v23 u28)
  exact g_sub (L' := [(0, .ref (r 10)), (1, .ref (r 56)), (2, .int a2), (3, .ref (r 55)), (4, .int a4), (5, .int a5), (6, .int 0)]) [1, 2, 3, 4, 5, 6, 0] rfl (b3 i3 (0 : Int32) u3)
set_option maxHeartbeats 4000000 in
set_option maxRecDepth 100000 in
theorem kt_X8_isNamed_r30 (a : Nat → Nat) (r : Nat → Nat) {a1 : Int32} {a3 : Int32} {a4 : Int32} {σ : St} {Q : Int32 → Prop} (w : wk_X8_isNamed_r30 a1 a3 a4 σ Q) (l : Launch) (D : va_G) (cy : Nat → ClassId) : Ct l D cy SC r (EC a gC) y_X8_isNamed (Cond.code y_X8_isNamed b_X8_isNamed 7 (some .boolean)) 1 [.ref (r 5), .int a1, .ref (r 30), .int a3, .int a4] σ Z0 [] (QI (fun x σ9 => (x = 0 ∨ x = 1) ∧ σ9 = σ ∧ Q x)) QT0 := by
  unfold wk_X8_isNamed_r30 at w
  refine Ct_of (EC_ok a gC) (by decide) (Nat.le_of_ble_eq_true rfl) (by decide) (fun X hnn hF => ?_)
  show G SC r X σ Z0 [] [(0, .ref (r 5)), (1, .int a1), (2, .ref (r 30)), (3, .int a3), (4, .int a4)] [] 0
  refine g_aload_n hF d_X8_isNamed_0 rfl 0 rfl ?_
  refine g_get (v := .ref (r 29)) hF 6 obC_5 (by decide) m_237 rfl d_X8_isNamed_1 ?_
  refine g_iload_n hF d_X8_isNamed_4 rfl 1 rfl ?_
  refine g_iconst hF (v := 1) d_X8_isNamed_5 (by decide) ?_
  refine g_isub hF d_X8_isNamed_6 ?_
  refine g_callSN (As := [.ref (r 29), .int (a1 - (1 : Int32))]) (rest := []) hF (c_atv a r σ arC_29 (by decide) (a1 - (1 : Int32))) (Nat.le_of_ble_eq_true rfl) mS_X12_at nm_1125 rfl rfl (Nat.le_of_ble_eq_true rfl) d_X8_isNamed_7 (kQ ?_)
  refine g_top (v := (atv 10100 (σ 29) (a1 - (1 : Int32)))) rfl ?_
  refine g_istore hF [(5, .int (atv 10100 (σ 29) (a1 - (1 : Int32)))), (0, .ref (r 5)), (1, .int a1), (2, .ref (r 30)), (3, .int a3), (4, .int a4)] d_X8_isNamed_10 hnn (by decide) rfl ?_
  refine g_aload_n hF d_X8_isNamed_12 rfl 1 rfl ?_
  refine g_get (v := .ref (r 29)) hF 6 obC_5 (by decide) m_237 rfl d_X8_isNamed_13 ?_
  refine g_iload_n hF d_X8_isNamed_16 rfl 2 rfl ?_
  refine g_callSN (As := [.ref (r 29), .int a1]) (rest := []) hF (c_atv a r σ arC_29 (by decide) a1) (Nat.le_of_ble_eq_true rfl) mS_X12_at nm_1125 rfl rfl (Nat.le_of_ble_eq_true rfl) d_X8_isNamed_17 (kQ ?_)
  refine g_top (v := (atv 10100 (σ 29) a1)) rfl ?_
  refine g_iload hF d_X8_isNamed_20 0 rfl ?_
  refine g_isub hF d_X8_isNamed_22 ?_
  refine g_iload hF d_X8_isNamed_23 5 rfl ?_
  refine g_icmp_eq hF 30 d_X8_isNamed_25 (by decide) rfl rfl (fun c => ?_) (fun c => ?_)
  · have w1 := w.1 c
    refine g_iconst hF (v := 0) d_X8_isNamed_30 (by decide) ?_
    refine g_istore hF [(6, .int 0), (5, .int (atv 10100 (σ 29) (a1 - (1 : Int32)))), (0, .ref (r 5)), (1, .int a1), (2, .ref (r 30)), (3, .int a3), (4, .int a4)] d_X8_isNamed_31 hnn (by decide) rfl ?_
    obtain ⟨L33, ⟨i33, u33⟩, h33⟩ := w1
    have b33 : ∀ (n33 : Nat) (x6_33 : Int32), L33 n33 x6_33 → G SC r X σ Z0 [] [(0, .ref (r 5)), (2, .ref (r 30)), (3, .int a3), (4, .int a4), (5, .int (atv 10100 (σ 29) (a1 - (1 : Int32)))), (6, .int x6_33)] [] 33 := by
      intro n33
      induction n33 using Nat.strongRecOn with
      | _ n33 ih33 =>
        intro x6_33  w33_
        have w33_ := h33 n33 x6_33  w33_
        refine g_iload hF d_X8_isNamed_33 5 rfl ?_
        refine g_iload hF d_X8_isNamed_35 3 rfl ?_
        refine g_icmp_ge hF 93 d_X8_isNamed_37 (by decide) rfl rfl (fun c => ?_) (fun c => ?_)
        · have w2 := w33_.1 c
          refine g_iconst hF (v := 1) d_X8_isNamed_93 (by decide) ?_
          exact g_zret hF rfl (k_nz (Or.inr rfl)) d_X8_isNamed_94 ⟨rfl, rfl, (1 : Int32), rfl, (Or.inr rfl), ⟨rfl, w2⟩⟩
        · have w3 := w33_.2 c
          refine g_iload hF d_X8_isNamed_40 4 rfl ?_
          refine g_iload hF d_X8_isNamed_42 5 rfl ?_
          refine g_iadd hF d_X8_isNamed_44 ?_
          refine g_aload_n hF d_X8_isNamed_45 rfl 0 rfl ?_
          refine g_get (v := .ref (r 30)) hF 8 obC_5 (by decide) m_240 rfl d_X8_isNamed_46 ?_
          refine g_alen hF arC_30 (fun _ => ⟨0, _, rfl⟩) (v := 65600) (by decide) d_X8_isNamed_49 ?_
          refine g_icmp_ge (yv := 65600) hF 85 d_X8_isNamed_50 (by decide) rfl (by decide) (fun c => ?_) (fun c => ?_)
          · have w4 := w3.1 c
            refine g_iconst hF (v := 0) d_X8_isNamed_85 (by decide) ?_
            exact g_zret hF rfl (k_nz (Or.inl rfl)) d_X8_isNamed_86 ⟨rfl, rfl, (0 : Int32), rfl, (Or.inl rfl), ⟨rfl, w4⟩⟩
          · have w5 := w3.2 c
            refine g_iload_n hF d_X8_isNamed_53 rfl 2 rfl ?_
            refine g_if_lt hF 85 d_X8_isNamed_54 (by decide) rfl (fun c => ?_) (fun c => ?_)
            · have w6 := w5.1 c
              refine g_iconst hF (v := 0) d_X8_isNamed_85 (by decide) ?_
              exact g_zret hF rfl (k_nz (Or.inl rfl)) d_X8_isNamed_86 ⟨rfl, rfl, (0 : Int32), rfl, (Or.inl rfl), ⟨rfl, w6⟩⟩
            · have w7 := w5.2 c
              refine g_iload_n hF d_X8_isNamed_57 rfl 2 rfl ?_
              refine g_iload hF d_X8_isNamed_58 5 rfl ?_
              refine g_iadd hF d_X8_isNamed_60 ?_
              refine g_aload_n hF d_X8_isNamed_61 rfl 1 rfl ?_
              refine g_alen hF arC_30 (fun _ => ⟨0, _, rfl⟩) (v := 65600) (by decide) d_X8_isNamed_62 ?_
              refine g_icmp_ge (yv := 65600) hF 85 d_X8_isNamed_63 (by decide) rfl (by decide) (fun c => ?_) (fun c => ?_)
              · have w8 := w7.1 c
                refine g_iconst hF (v := 0) d_X8_isNamed_85 (by decide) ?_
                exact g_zret hF rfl (k_nz (Or.inl rfl)) d_X8_isNamed_86 ⟨rfl, rfl, (0 : Int32), rfl, (Or.inl rfl), ⟨rfl, w8⟩⟩
              · have w9 := w7.2 c
                refine g_aload_n hF d_X8_isNamed_66 rfl 0 rfl ?_
                refine g_get (v := .ref (r 30)) hF 8 obC_5 (by decide) m_240 rfl d_X8_isNamed_67 ?_
                refine g_iload hF d_X8_isNamed_70 4 rfl ?_
                refine g_iload hF d_X8_isNamed_72 5 rfl ?_
                refine g_iadd hF d_X8_isNamed_74 ?_
                have w10 := w9.2
                refine g_bald hF arC_30 (s_in (Nat.le_of_ble_eq_true rfl) w9.1.1 w9.1.2) d_X8_isNamed_75 ?_
                refine g_top (v := (σ 30 ((atv 10100 (σ 29) (a1 - (1 : Int32))) + x6_33).toNatClampNeg)) rfl ?_
                refine g_aload_n hF d_X8_isNamed_76 rfl 1 rfl ?_
                refine g_iload_n hF d_X8_isNamed_77 rfl 2 rfl ?_
                refine g_iload hF d_X8_isNamed_78 5 rfl ?_
                refine g_iadd hF d_X8_isNamed_80 ?_
                have w11 := w10.2
                refine g_bald hF arC_30 (s_in (Nat.le_of_ble_eq_true rfl) w10.1.1 w10.1.2) d_X8_isNamed_81 ?_
                refine g_top (v := (σ 30 (a3 + x6_33).toNatClampNeg)) rfl ?_
                refine g_icmp_eq hF 87 d_X8_isNamed_82 (by decide) rfl rfl (fun c => ?_) (fun c => ?_)
                · have w12 := w11.1 c
                  refine g_iinc hF (x6_33 + 1) [(6, .int (x6_33 + 1)), (0, .ref (r 5)), (2, .ref (r 30)), (3, .int a3), (4, .int a4), (5, .int (atv 10100 (σ 29) (a1 - (1 : Int32))))] d_X8_isNamed_87 5 rfl rfl hnn (by decide) rfl ?_
                  refine g_goto hF 33 d_X8_isNamed_90 (by decide) ?_
                  obtain ⟨m33, hm33, w9⟩ := w12
                  exact g_sub (L' := [(0, .ref (r 5)), (2, .ref (r 30)), (3, .int a3), (4, .int a4), (5, .int (atv 10100 (σ 29) (a1 - (1 : Int32)))), (6, .int (x6_33 + 1))]) [1, 2, 3, 4, 5, 0] rfl (ih33 m33 hm33 (x6_33 + 1) w9)
                · have w13 := w11.2 c
                  refine g_iconst hF (v := 0) d_X8_isNamed_85 (by decide) ?_
                  exact g_zret hF rfl (k_nz (Or.inl rfl)) d_X8_isNamed_86 ⟨rfl, rfl, (0 : Int32), rfl, (Or.inl rfl), ⟨rfl, w13⟩⟩
    exact g_sub (L' := [(0, .ref (r 5)), (2, .ref (r 30)), (3, .int a3), (4, .int a4), (5, .int (atv 10100 (σ 29) (a1 - (1 : Int32)))), (6, .int 0)]) [2, 4, 5, 6, 1, 0] rfl (b33 i33 (0 : Int32) u33)
  · have w14 := w.2 c
    refine g_iconst hF (v := 0) d_X8_isNamed_28 (by decide) ?_
    exact g_zret hF rfl (k_nz (Or.inl rfl)) d_X8_isNamed_29 ⟨rfl, rfl, (0 : Int32), rfl, (Or.inl rfl), ⟨rfl, w14⟩⟩
set_option maxHeartbeats 4000000 in
set_option maxRecDepth 100000 in
theorem kt_X4_find_r56_r30 (a : Nat → Nat) (r : Nat → Nat) {a2 : Int32} {a4 : Int32} {a5 : Int32} {σ : St} {Q : Int32 → Prop} (w : wk_X4_find_r56_r30 a2 a4 a5 σ Q) (l : Launch) (D : va_G) (cy : Nat → ClassId) : Ct l D cy SC r (EC a gC) y_X4_find (Cond.code y_X4_find b_X4_find 9 (some .int)) 2 [.ref (r 10), .ref (r 56), .int a2, .ref (r 30), .int a4, .int a5] σ Z0 [] (QI (fun x σ9 => σ9 = σ ∧ Q x)) QT0 := by
  unfold wk_X4_find_r56_r30 at w
  refine Ct_of (EC_ok a gC) (by decide) (Nat.le_of_ble_eq_true rfl) (by decide) (fun X hnn hF => ?_)
  show G SC r X σ Z0 [] [(0, .ref (r 10)), (1, .ref (r 56)), (2, .int a2), (3, .ref (r 30)), (4, .int a4), (5, .int a5)] [] 0
  refine g_iconst hF (v := 0) d_X4_find_0 (by decide) ?_
  refine g_istore hF [(6, .int 0), (0, .ref (r 10)), (1, .ref (r 56)), (2, .int a2), (3, .ref (r 30)), (4, .int a4), (5, .int a5)] d_X4_find_1 hnn (by decide) rfl ?_
  obtain ⟨L3, ⟨i3, u3⟩, h3⟩ := w
  have b3 : ∀ (n3 : Nat) (x6_3 : Int32), L3 n3 x6_3 → G SC r X σ Z0 [] [(0, .ref (r 10)), (1, .ref (r 56)), (2, .int a2), (3, .ref (r 30)), (4, .int a4), (5, .int a5), (6, .int x6_3)] [] 3 := by
    intro n3
    induction n3 using Nat.strongRecOn with
    | _ n3 ih3 =>
      intro x6_3  w3_
      have w3_ := h3 n3 x6_3  w3_
      refine g_iload hF d_X4_find_3 6 rfl ?_
      refine g_iload_n hF d_X4_find_5 rfl 2 rfl ?_
      refine g_icmp_ge hF 103 d_X4_find_6 (by decide) rfl rfl (fun c => ?_) (fun c => ?_)
      · have w1 := w3_.1 c
        refine g_iconst hF (v := (-1)) d_X4_find_103 (by decide) ?_
        exact g_iret hF rfl d_X4_find_104 ⟨rfl, rfl, ((-1) : Int32), rfl, ⟨rfl, w1⟩⟩
      · have w2 := w3_.2 c
        refine g_aload_n hF d_X4_find_9 rfl 1 rfl ?_
        refine g_iload hF d_X4_find_10 6 rfl ?_
        refine g_callSN (As := [.ref (r 56), .int x6_3]) (rest := []) hF (c_atv a r σ arC_56 (by decide) x6_3) (Nat.le_of_ble_eq_true rfl) mS_X12_at nm_1552 rfl rfl (Nat.le_of_ble_eq_true rfl) d_X4_find_12 (kQ ?_)
        refine g_top (v := (atv 101 (σ 56) x6_3)) rfl ?_
        refine g_istore hF [(7, .int (atv 101 (σ 56) x6_3)), (0, .ref (r 10)), (1, .ref (r 56)), (2, .int a2), (3, .ref (r 30)), (4, .int a4), (5, .int a5), (6, .int x6_3)] d_X4_find_15 hnn (by decide) rfl ?_
        refine g_aload_n hF d_X4_find_17 rfl 1 rfl ?_
        refine g_get (v := .ref (r 5)) hF 0 obC_10 (by decide) m_597 rfl d_X4_find_18 ?_
        refine g_iload hF d_X4_find_21 0 rfl ?_
        refine g_callVN (As := [.int (atv 101 (σ 56) x6_3)]) (rest := []) hF (fun l D cy => kt_X8_firstOf a r w2 l D cy) (Nat.le_of_ble_eq_true rfl) mV_X8_firstOf nm_1566 (recv_ob obC_5) rfl rfl (Nat.le_of_ble_eq_true rfl) d_X4_find_23 (qIr (fun v23 w3 => ?_))
        refine g_istore hF [(8, .int v23), (7, .int (atv 101 (σ 56) x6_3)), (0, .ref (r 10)), (1, .ref (r 56)), (2, .int a2), (3, .ref (r 30)), (4, .int a4), (5, .int a5), (6, .int x6_3)] d_X4_find_26 hnn (by decide) rfl ?_
        obtain ⟨L28, ⟨i28, u28⟩, h28⟩ := w3
        have b28 : ∀ (n28 : Nat) (x8_28 : Int32), L28 n28 x8_28 → G SC r X σ Z0 [] [(0, .ref (r 10)), (1, .ref (r 56)), (2, .int a2), (3, .ref (r 30)), (4, .int a4), (5, .int a5), (6, .int x6_3), (7, .int (atv 101 (σ 56) x6_3)), (8, .int x8_28)] [] 28 := by
          intro n28
          induction n28 using Nat.strongRecOn with
          | _ n28 ih28 =>
            intro x8_28  w28_
            have w28_ := h28 n28 x8_28  w28_
            refine g_iload hF d_X4_find_28 8 rfl ?_
            refine g_aload_n hF d_X4_find_30 rfl 0 rfl ?_
            refine g_get (v := .ref (r 5)) hF 0 obC_10 (by decide) m_597 rfl d_X4_find_31 ?_
            refine g_getN (v := .ref (r 34)) hF 14 obC_5 (by decide) nm_253 rfl d_X4_find_34 ?_
            refine g_iload hF d_X4_find_37 7 rfl ?_
            refine g_callSN (As := [.ref (r 34), .int (atv 101 (σ 56) x6_3)]) (rest := [.int x8_28]) hF (c_atv a r σ arC_34 (by decide) (atv 101 (σ 56) x6_3)) (Nat.le_of_ble_eq_true rfl) mS_X12_at nm_1552 rfl rfl (Nat.le_of_ble_eq_true rfl) d_X4_find_39 (kQ ?_)
            refine g_top (v := (atv 101 (σ 34) (atv 101 (σ 56) x6_3))) rfl ?_
            refine g_icmp_ge hF 97 d_X4_find_42 (by decide) rfl rfl (fun c => ?_) (fun c => ?_)
            · have w4 := w28_.1 c
              refine g_iinc hF (x6_3 + 1) [(6, .int (x6_3 + 1)), (0, .ref (r 10)), (1, .ref (r 56)), (2, .int a2), (3, .ref (r 30)), (4, .int a4), (5, .int a5), (7, .int (atv 101 (σ 56) x6_3)), (8, .int x8_28)] d_X4_find_97 6 rfl rfl hnn (by decide) rfl ?_
              refine g_goto hF 3 d_X4_find_100 (by decide) ?_
              obtain ⟨m3, hm3, w9⟩ := w4
              exact g_sub (L' := [(0, .ref (r 10)), (1, .ref (r 56)), (2, .int a2), (3, .ref (r 30)), (4, .int a4), (5, .int a5), (6, .int (x6_3 + 1))]) [1, 2, 3, 4, 5, 6, 0] rfl (ih3 m3 hm3 (x6_3 + 1) w9)
            · have w5 := w28_.2 c
              refine g_aload_n hF d_X4_find_45 rfl 0 rfl ?_
              refine g_get (v := .ref (r 5)) hF 0 obC_10 (by decide) m_597 rfl d_X4_find_46 ?_
              refine g_iload hF d_X4_find_49 8 rfl ?_
              refine g_iconst hF (v := 4) d_X4_find_51 (by decide) ?_
              refine g_callVN (As := [.int x8_28, .int 4]) (rest := []) hF (fun l D cy => kt_X8_is a r w5 l D cy) (Nat.le_of_ble_eq_true rfl) mV_X8_is nm_1567 (recv_ob obC_5) rfl rfl (Nat.le_of_ble_eq_true rfl) d_X4_find_52 (qZr (fun v52 hz52 w6 => ?_))
              obtain ⟨J91, h91, w7⟩ := w6
              have b91 : J91  → G SC r X σ Z0 [] [(0, .ref (r 10)), (1, .ref (r 56)), (2, .int a2), (3, .ref (r 30)), (4, .int a4), (5, .int a5), (6, .int x6_3), (7, .int (atv 101 (σ 56) x6_3)), (8, .int x8_28)] [] 91 := by
                intro   w91_
                have w91_ := h91   w91_
                refine g_iinc hF (x8_28 + 1) [(8, .int (x8_28 + 1)), (0, .ref (r 10)), (1, .ref (r 56)), (2, .int a2), (3, .ref (r 30)), (4, .int a4), (5, .int a5), (6, .int x6_3), (7, .int (atv 101 (σ 56) x6_3))] d_X4_find_91 8 rfl rfl hnn (by decide) rfl ?_
                refine g_goto hF 28 d_X4_find_94 (by decide) ?_
                obtain ⟨m28, hm28, w9⟩ := w91_
                exact g_sub (L' := [(0, .ref (r 10)), (1, .ref (r 56)), (2, .int a2), (3, .ref (r 30)), (4, .int a4), (5, .int a5), (6, .int x6_3), (7, .int (atv 101 (σ 56) x6_3)), (8, .int (x8_28 + 1))]) [1, 2, 3, 4, 5, 6, 7, 8, 0] rfl (ih28 m28 hm28 (x8_28 + 1) w9)
              refine g_if_eq hF 91 d_X4_find_55 (by decide) rfl (fun c => ?_) (fun c => ?_)
              · have w8 := w7.1 c
                exact b91  w8
              · have w9 := w7.2 c
                refine g_aload_n hF d_X4_find_58 rfl 0 rfl ?_
                refine g_get (v := .ref (r 5)) hF 0 obC_10 (by decide) m_597 rfl d_X4_find_59 ?_
                refine g_iload hF d_X4_find_62 8 rfl ?_
                refine g_iconst hF (v := 2) d_X4_find_64 (by decide) ?_
                refine g_callVN (As := [.int x8_28, .int 2]) (rest := []) hF (fun l D cy => kt_X8_is a r w9 l D cy) (Nat.le_of_ble_eq_true rfl) mV_X8_is nm_1567 (recv_ob obC_5) rfl rfl (Nat.le_of_ble_eq_true rfl) d_X4_find_65 (qZr (fun v65 hz65 w10 => ?_))
                refine g_if_ne hF 91 d_X4_find_68 (by decide) rfl (fun c => ?_) (fun c => ?_)
                · have w11 := w10.1 c
                  exact b91  w11
                · have w12 := w10.2 c
                  refine g_aload_n hF d_X4_find_71 rfl 0 rfl ?_
                  refine g_get (v := .ref (r 5)) hF 0 obC_10 (by decide) m_597 rfl d_X4_find_72 ?_
                  refine g_iload hF d_X4_find_75 8 rfl ?_
                  refine g_aload_n hF d_X4_find_77 rfl 3 rfl ?_
                  refine g_iload hF d_X4_find_78 4 rfl ?_
                  refine g_iload hF d_X4_find_80 5 rfl ?_
                  refine g_callVN (As := [.int x8_28, .ref (r 30), .int a4, .int a5]) (rest := []) hF (fun l D cy => kt_X8_isNamed_r30 a r w12 l D cy) (Nat.le_of_ble_eq_true rfl) mV_X8_isNamed nm_1568 (recv_ob obC_5) rfl rfl (Nat.le_of_ble_eq_true rfl) d_X4_find_82 (qZr (fun v82 hz82 w13 => ?_))
                  refine g_if_eq hF 91 d_X4_find_85 (by decide) rfl (fun c => ?_) (fun c => ?_)
                  · have w14 := w13.1 c
                    exact b91  w14
                  · have w15 := w13.2 c
                    refine g_iload hF d_X4_find_88 8 rfl ?_
                    exact g_iret hF rfl d_X4_find_90 ⟨rfl, rfl, x8_28, rfl, ⟨rfl, w15⟩⟩
        exact g_sub (L' := [(0, .ref (r 10)), (1, .ref (r 56)), (2, .int a2), (3, .ref (r 30)), (4, .int a4), (5, .int a5), (6, .int x6_3), (7, .int (atv 101 (σ 56) x6_3)), (8, .int v23)]) [2, 3, 4, 5, 6, 7, 8, 1, 0] rfl (b28 i28 v23 u28)
  exact g_sub (L' := [(0, .ref (r 10)), (1, .ref (r 56)), (2, .int a2), (3, .ref (r 30)), (4, .int a4), (5, .int a5), (6, .int 0)]) [1, 2, 3, 4, 5, 6, 0] rfl (b3 i3 (0 : Int32) u3)
