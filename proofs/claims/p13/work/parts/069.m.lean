set_option maxHeartbeats 4000000 in
set_option maxRecDepth 100000 in
theorem kt_X7_constant (a : Nat → Nat) (r : Nat → Nat) {a1 : Int32} {a2 : Int32} {σ : St} {Q : Int32 → St → Prop} (w : wk_X7_constant a1 a2 σ Q) (l : Launch) (D : va_G) (cy : Nat → ClassId) : Ct l D cy SC r (EC a gC) y_X7_constant (Cond.code y_X7_constant b_X7_constant 6 (some .int)) 6 [.ref (r 9), .int a1, .int a2] σ Z0 [] (QI Q) QT0 := by
  unfold wk_X7_constant at w
  refine Ct_of (EC_ok a gC) (by decide) (Nat.le_of_ble_eq_true rfl) (by decide) (fun X hnn hF => ?_)
  show G SC r X σ Z0 [] [(0, .ref (r 9)), (1, .int a1), (2, .int a2)] [] 0
  refine g_aload_n hF d_X7_constant_0 rfl 0 rfl ?_
  refine g_get (v := .ref (r 4)) hF 2 obC_9 (by decide) m_555 rfl d_X7_constant_1 ?_
  refine g_getN (v := .int (σ 4 1)) hF 1 obC_4 (by decide) nm_154 rfl d_X7_constant_4 ?_
  refine g_istore_n hF [(3, .int (σ 4 1)), (0, .ref (r 9)), (1, .int a1), (2, .int a2)] d_X7_constant_7 rfl hnn (by decide) rfl ?_
  refine g_iload_n hF d_X7_constant_8 rfl 2 rfl ?_
  refine g_istore hF [(4, .int a1), (3, .int (σ 4 1)), (0, .ref (r 9)), (1, .int a1), (2, .int a2)] d_X7_constant_9 hnn (by decide) rfl ?_
  obtain ⟨L11, ⟨i11, u11⟩, h11⟩ := w
  have b11 : ∀ (n11 : Nat) (x4_11 : Int32) (s11 : St), L11 n11 x4_11 s11 → G SC r X s11 Z0 [] [(0, .ref (r 9)), (2, .int a2), (3, .int (σ 4 1)), (4, .int x4_11)] [] 11 := by
    intro n11
    induction n11 using Nat.strongRecOn with
    | _ n11 ih11 =>
      intro x4_11 s11  w11_
      have w11_ := h11 n11 x4_11 s11  w11_
      refine g_iload hF d_X7_constant_11 3 rfl ?_
      refine g_iload_n hF d_X7_constant_13 rfl 1 rfl ?_
      obtain ⟨J42, h42, w1⟩ := w11_
      have b42 : J42  → G SC r X s11 Z0 [] [(0, .ref (r 9)), (3, .int (σ 4 1))] [] 42 := by
        intro   w42_
        have w42_ := h42   w42_
        refine g_aload_n hF d_X7_constant_42 rfl 0 rfl ?_
        refine g_get (v := .ref (r 6)) hF 1 obC_9 (by decide) m_554 rfl d_X7_constant_43 ?_
        refine g_getN (v := .int (s11 6 3)) hF 3 obC_6 (by decide) nm_315 rfl d_X7_constant_46 ?_
        obtain ⟨J57, h57, w2⟩ := w42_
        have b57 : ∀ (y0_57 : Int32), y0_57 = 0 ∨ y0_57 = 1 → J57 y0_57 → G SC r X s11 Z0 [] [(0, .ref (r 9)), (3, .int (σ 4 1))] [.int y0_57] 57 := by
          intro y0_57 hy0_57 w57_
          have w57_ := h57 y0_57 hy0_57 w57_
          refine g_istore hF [(4, .int y0_57), (0, .ref (r 9)), (3, .int (σ 4 1))] d_X7_constant_57 hnn (by decide) rfl ?_
          refine g_aload_n hF d_X7_constant_59 rfl 1 rfl ?_
          refine g_get (v := .ref (r 6)) hF 1 obC_9 (by decide) m_554 rfl d_X7_constant_60 ?_
          refine g_iconst hF (v := 0) d_X7_constant_63 (by decide) ?_
          refine g_putN (v := 0) hF 3 obC_6 (by decide) nm_315 rfl rfl rfl d_X7_constant_64 ?_
          refine g_aload_n hF d_X7_constant_67 rfl 1 rfl ?_
          refine g_get (v := .ref (r 4)) hF 2 obC_9 (by decide) m_555 rfl d_X7_constant_68 ?_
          refine g_iload_n hF d_X7_constant_71 rfl 2 rfl ?_
          refine g_callVN (As := [.int (σ 4 1)]) (rest := []) hF (fun l D cy => kt_X0_cut a r w57_ l D cy) (Nat.le_of_ble_eq_true rfl) mV_X0_cut nm_1478 (recv_ob obC_4) rfl rfl (Nat.le_of_ble_eq_true rfl) d_X7_constant_72 (qV (fun s72 w3 => ?_))
          refine g_aload_n hF d_X7_constant_75 rfl 1 rfl ?_
          refine g_get (v := .ref (r 7)) hF 3 obC_9 (by decide) m_556 rfl d_X7_constant_76 ?_
          refine g_callVN (As := []) (rest := []) hF (fun l D cy => kt_X2_top a r w3 l D cy) (Nat.le_of_ble_eq_true rfl) mV_X2_top nm_1479 (recv_ob obC_7) rfl rfl (Nat.le_of_ble_eq_true rfl) d_X7_constant_79 (qAr (fun u79 hz79 w4 => ?_))
          refine g_astore hF [(5, .ref (r u79)), (4, .int y0_57), (0, .ref (r 9)), (3, .int (σ 4 1))] d_X7_constant_82 hnn (by decide) rfl ?_
          refine g_aload_n hF d_X7_constant_84 rfl 2 rfl ?_
          refine g_get (v := .ref (r 7)) hF 3 obC_9 (by decide) m_556 rfl d_X7_constant_85 ?_
          refine g_iconst hF (v := 0) d_X7_constant_88 (by decide) ?_
          refine g_putN (v := 0) hF 7 obC_7 (by decide) nm_465 rfl rfl rfl d_X7_constant_89 ?_
          refine g_iload hF d_X7_constant_92 1 rfl ?_
          refine g_if_eq hF 117 d_X7_constant_94 (by decide) rfl (fun c => ?_) (fun c => ?_)
          · have w5 := w4.1 c
            refine g_iconst hF (v := 0) d_X7_constant_117 (by decide) ?_
            exact g_iret hF rfl d_X7_constant_118 ⟨rfl, rfl, (0 : Int32), rfl, w5⟩
          · have w6 := w4.2 c
            refine g_aload hF d_X7_constant_97 0 rfl ?_
            refine g_callVN (As := []) (rest := []) hF (fun l D cy => kt_X6_isConstant a r hz79 w6 l D cy) (Nat.le_of_ble_eq_true rfl) mV_X6_isConstant nm_1480 (recv_ob (obC_op hz79)) rfl rfl (Nat.le_of_ble_eq_true rfl) d_X7_constant_99 (qZr (fun v99 hz99 w7 => ?_))
            refine g_if_eq hF 117 d_X7_constant_102 (by decide) rfl (fun c => ?_) (fun c => ?_)
            · have w8 := w7.1 c
              refine g_iconst hF (v := 0) d_X7_constant_117 (by decide) ?_
              exact g_iret hF rfl d_X7_constant_118 ⟨rfl, rfl, (0 : Int32), rfl, w8⟩
            · have w9 := w7.2 c
              refine g_aload hF d_X7_constant_105 0 rfl ?_
              refine g_getN (v := .int ((upC s72 7 7 (0 : Int32)) u79 8)) hF 8 (obC_op hz79) (by decide) nm_417 (fval_op hz79) d_X7_constant_107 ?_
              refine g_iconst hF (v := 0) d_X7_constant_110 (by decide) ?_
              refine g_mmax hF (Nat.le_of_ble_eq_true rfl) m_1481 m_1131 m_23 m_1132 (Nat.le_of_ble_eq_true rfl) d_X7_constant_111 ?_
              refine g_goto hF 118 d_X7_constant_114 (by decide) ?_
              exact g_iret hF rfl d_X7_constant_118 ⟨rfl, rfl, (if ((upC s72 7 7 (0 : Int32)) u79 8) < (0 : Int32) then (0 : Int32) else ((upC s72 7 7 (0 : Int32)) u79 8)), rfl, w9⟩
        refine g_if_ne hF 56 d_X7_constant_49 (by decide) rfl (fun c => ?_) (fun c => ?_)
        · have w10 := w2.1 c
          refine g_iconst hF (v := 0) d_X7_constant_56 (by decide) ?_
          exact b57 (0 : Int32) (Or.inl rfl) w10
        · have w11 := w2.2 c
          refine g_iconst hF (v := 1) d_X7_constant_52 (by decide) ?_
          refine g_goto hF 57 d_X7_constant_53 (by decide) ?_
          exact b57 (1 : Int32) (Or.inr rfl) w11
      refine g_icmp_ge hF 42 d_X7_constant_14 (by decide) rfl rfl (fun c => ?_) (fun c => ?_)
      · have w12 := w1.1 c
        exact g_sub (L' := [(0, .ref (r 9)), (3, .int (σ 4 1))]) [0, 2] rfl (b42  w12)
      · have w13 := w1.2 c
        refine g_aload_n hF d_X7_constant_17 rfl 0 rfl ?_
        refine g_get (v := .ref (r 6)) hF 1 obC_9 (by decide) m_554 rfl d_X7_constant_18 ?_
        refine g_getN (v := .int (s11 6 3)) hF 3 obC_6 (by decide) nm_315 rfl d_X7_constant_21 ?_
        refine g_if_ne hF 42 d_X7_constant_24 (by decide) rfl (fun c => ?_) (fun c => ?_)
        · have w14 := w13.1 c
          exact g_sub (L' := [(0, .ref (r 9)), (3, .int (σ 4 1))]) [0, 2] rfl (b42  w14)
        · have w15 := w13.2 c
          refine g_aload_n hF d_X7_constant_27 rfl 0 rfl ?_
          refine g_get (v := .ref (r 7)) hF 3 obC_9 (by decide) m_556 rfl d_X7_constant_28 ?_
          refine g_iload hF d_X7_constant_31 3 rfl ?_
          refine g_callVN (As := [.int x4_11]) (rest := []) hF (fun l D cy => kt_X2_take a r w15 l D cy) (Nat.le_of_ble_eq_true rfl) mV_X2_take nm_1054 (recv_ob obC_7) rfl rfl (Nat.le_of_ble_eq_true rfl) d_X7_constant_33 (qV (fun s33 w16 => ?_))
          refine g_iinc hF (x4_11 + 1) [(4, .int (x4_11 + 1)), (0, .ref (r 9)), (2, .int a2), (3, .int (σ 4 1))] d_X7_constant_36 3 rfl rfl hnn (by decide) rfl ?_
          refine g_goto hF 11 d_X7_constant_39 (by decide) ?_
          obtain ⟨m11, hm11, w9⟩ := w16
          exact g_sub (L' := [(0, .ref (r 9)), (2, .int a2), (3, .int (σ 4 1)), (4, .int (x4_11 + 1))]) [1, 2, 3, 0] rfl (ih11 m11 hm11 (x4_11 + 1) s33 w9)
  exact g_sub (L' := [(0, .ref (r 9)), (2, .int a2), (3, .int (σ 4 1)), (4, .int a1)]) [2, 4, 1, 0] rfl (b11 i11 a1 σ u11)
set_option maxHeartbeats 4000000 in
set_option maxRecDepth 100000 in
theorem kt_X1_checkOuter (a : Nat → Nat) (r : Nat → Nat) {a1 : Int32} {a2 : Int32} {a3 : Int32} {σ : St} {Q : St → Prop} (ha3 : a3 = 0 ∨ a3 = 1) (w : wk_X1_checkOuter a1 a2 a3 σ Q) (l : Launch) (D : va_G) (cy : Nat → ClassId) : Ct l D cy SC r (EC a gC) y_X1_checkOuter (Cond.code y_X1_checkOuter b_X1_checkOuter 4 none) 1 [.ref (r 8), .int a1, .int a2, .int a3] σ Z0 [] (QV Q) QT0 := by
  unfold wk_X1_checkOuter at w
  refine Ct_of (EC_ok a gC) (by decide) (Nat.le_of_ble_eq_true rfl) (by decide) (fun X hnn hF => ?_)
  show G SC r X σ Z0 [] [(0, .ref (r 8)), (1, .int a1), (2, .int a2), (3, .int a3)] [] 0
  refine g_iload_n hF d_X1_checkOuter_0 rfl 3 rfl ?_
  obtain ⟨J13, h13, w1⟩ := w
  have b13 : ∀ (s13 : St), J13 s13 → G SC r X s13 Z0 [] [(0, .ref (r 8)), (1, .int a1), (2, .int a2)] [] 13 := by
    intro s13  w13_
    have w13_ := h13 s13  w13_
    refine g_iload_n hF d_X1_checkOuter_13 rfl 2 rfl ?_
    refine g_if_ge hF 38 d_X1_checkOuter_14 (by decide) rfl (fun c => ?_) (fun c => ?_)
    · have w2 := w13_.1 c
      exact g_vret hF rfl d_X1_checkOuter_38 ⟨rfl, rfl, rfl, w2⟩
    · have w3 := w13_.2 c
      refine g_aload_n hF d_X1_checkOuter_17 rfl 0 rfl ?_
      refine g_get (v := .ref (r 6)) hF 2 obC_8 (by decide) m_491 rfl d_X1_checkOuter_18 ?_
      refine g_getN (v := .int (s13 6 7)) hF 7 obC_6 (by decide) nm_328 rfl d_X1_checkOuter_21 ?_
      refine g_bipush hF (v := 100) d_X1_checkOuter_24 (by decide) ?_
      refine g_icmp_lt (yv := 100) hF 38 d_X1_checkOuter_26 (by decide) rfl (by decide) (fun c => ?_) (fun c => ?_)
      · have w4 := w3.1 c
        exact g_vret hF rfl d_X1_checkOuter_38 ⟨rfl, rfl, rfl, w4⟩
      · have w5 := w3.2 c
        refine g_aload_n hF d_X1_checkOuter_29 rfl 0 rfl ?_
        refine g_get (v := .ref (r 6)) hF 2 obC_8 (by decide) m_491 rfl d_X1_checkOuter_30 ?_
        refine g_iconst hF (v := 4) d_X1_checkOuter_33 (by decide) ?_
        refine g_iload_n hF d_X1_checkOuter_34 rfl 1 rfl ?_
        refine g_callVN (As := [.int 4, .int a1]) (rest := []) hF (fun l D cy => kt_X11_fail a r w5 l D cy) (Nat.le_of_ble_eq_true rfl) mV_X11_fail nm_1370 (recv_ob obC_6) rfl rfl (Nat.le_of_ble_eq_true rfl) d_X1_checkOuter_35 (qV (fun s35 w6 => ?_))
        exact g_vret hF rfl d_X1_checkOuter_38 ⟨rfl, rfl, rfl, w6⟩
  refine g_if_ne hF 13 d_X1_checkOuter_1 (by decide) rfl (fun c => ?_) (fun c => ?_)
  · have w7 := w1.1 c
    exact g_sub (L' := [(0, .ref (r 8)), (1, .int a1), (2, .int a2)]) [0, 1, 2] rfl (b13 σ w7)
  · have w8 := w1.2 c
    refine g_aload_n hF d_X1_checkOuter_4 rfl 0 rfl ?_
    refine g_get (v := .ref (r 6)) hF 2 obC_8 (by decide) m_491 rfl d_X1_checkOuter_5 ?_
    refine g_iconst hF (v := 2) d_X1_checkOuter_8 (by decide) ?_
    refine g_iload_n hF d_X1_checkOuter_9 rfl 1 rfl ?_
    refine g_callVN (As := [.int 2, .int a1]) (rest := []) hF (fun l D cy => kt_X11_fail a r w8 l D cy) (Nat.le_of_ble_eq_true rfl) mV_X11_fail nm_1370 (recv_ob obC_6) rfl rfl (Nat.le_of_ble_eq_true rfl) d_X1_checkOuter_10 (qV (fun s10 w9 => ?_))
    exact g_sub (L' := [(0, .ref (r 8)), (1, .int a1), (2, .int a2)]) [0, 1, 2] rfl (b13 s10 w9)
set_option maxHeartbeats 4000000 in
set_option maxRecDepth 100000 in
theorem kt_X1_checkSquare (a : Nat → Nat) (r : Nat → Nat) {a1 : Int32} {σ : St} {Q : St → Prop} (ha1 : a1 = 0 ∨ a1 = 1) (w : wk_X1_checkSquare a1 σ Q) (l : Launch) (D : va_G) (cy : Nat → ClassId) : Ct l D cy SC r (EC a gC) y_X1_checkSquare (Cond.code y_X1_checkSquare b_X1_checkSquare 2 none) 1 [.ref (r 8), .int a1] σ Z0 [] (QV Q) QT0 := by
  unfold wk_X1_checkSquare at w
  refine Ct_of (EC_ok a gC) (by decide) (Nat.le_of_ble_eq_true rfl) (by decide) (fun X hnn hF => ?_)
  show G SC r X σ Z0 [] [(0, .ref (r 8)), (1, .int a1)] [] 0
  refine g_aload_n hF d_X1_checkSquare_0 rfl 0 rfl ?_
  refine g_get (v := .int (σ 8 6)) hF 6 obC_8 (by decide) m_497 rfl d_X1_checkSquare_1 ?_
  obtain ⟨J42, h42, w1⟩ := w
  have b42 : ∀ (s42 : St), J42 s42 → G SC r X s42 Z0 [] [(0, .ref (r 8))] [] 42 := by
    intro s42  w42_
    have w42_ := h42 s42  w42_
    refine g_aload_n hF d_X1_checkSquare_42 rfl 0 rfl ?_
    refine g_get (v := .int (s42 8 6)) hF 6 obC_8 (by decide) m_497 rfl d_X1_checkSquare_43 ?_
    refine g_if_lt hF 71 d_X1_checkSquare_46 (by decide) rfl (fun c => ?_) (fun c => ?_)
    · have w2 := w42_.1 c
      exact g_vret hF rfl d_X1_checkSquare_71 ⟨rfl, rfl, rfl, w2⟩
    · have w3 := w42_.2 c
      refine g_aload_n hF d_X1_checkSquare_49 rfl 0 rfl ?_
      refine g_get (v := .int (s42 8 7)) hF 7 obC_8 (by decide) m_498 rfl d_X1_checkSquare_50 ?_
      refine g_sipush hF (v := 4000) d_X1_checkSquare_53 (by decide) ?_
      refine g_icmp_le (yv := 4000) hF 71 d_X1_checkSquare_56 (by decide) rfl (by decide) (fun c => ?_) (fun c => ?_)
      · have w4 := w3.1 c
        exact g_vret hF rfl d_X1_checkSquare_71 ⟨rfl, rfl, rfl, w4⟩
      · have w5 := w3.2 c
        refine g_aload_n hF d_X1_checkSquare_59 rfl 0 rfl ?_
        refine g_get (v := .ref (r 6)) hF 2 obC_8 (by decide) m_491 rfl d_X1_checkSquare_60 ?_
        refine g_iconst hF (v := 4) d_X1_checkSquare_63 (by decide) ?_
        refine g_aload_n hF d_X1_checkSquare_64 rfl 0 rfl ?_
        refine g_get (v := .int (s42 8 6)) hF 6 obC_8 (by decide) m_497 rfl d_X1_checkSquare_65 ?_
        refine g_callVN (As := [.int 4, .int (s42 8 6)]) (rest := []) hF (fun l D cy => kt_X11_fail a r w5 l D cy) (Nat.le_of_ble_eq_true rfl) mV_X11_fail nm_1370 (recv_ob obC_6) rfl rfl (Nat.le_of_ble_eq_true rfl) d_X1_checkSquare_68 (qV (fun s68 w6 => ?_))
        exact g_vret hF rfl d_X1_checkSquare_71 ⟨rfl, rfl, rfl, w6⟩
  refine g_if_lt hF 42 d_X1_checkSquare_4 (by decide) rfl (fun c => ?_) (fun c => ?_)
  · have w7 := w1.1 c
    exact g_sub (L' := [(0, .ref (r 8))]) [0] rfl (b42 σ w7)
  · have w8 := w1.2 c
    refine g_aload_n hF d_X1_checkSquare_7 rfl 0 rfl ?_
    refine g_get (v := .int (σ 8 7)) hF 7 obC_8 (by decide) m_498 rfl d_X1_checkSquare_8 ?_
    refine g_iconst hF (v := (-1)) d_X1_checkSquare_11 (by decide) ?_
    obtain ⟨J30, h30, w9⟩ := w8
    have b30 : J30  → G SC r X σ Z0 [] [(0, .ref (r 8))] [] 30 := by
      intro   w30_
      have w30_ := h30   w30_
      refine g_aload_n hF d_X1_checkSquare_30 rfl 0 rfl ?_
      refine g_get (v := .ref (r 6)) hF 2 obC_8 (by decide) m_491 rfl d_X1_checkSquare_31 ?_
      refine g_iconst hF (v := 2) d_X1_checkSquare_34 (by decide) ?_
      refine g_aload_n hF d_X1_checkSquare_35 rfl 0 rfl ?_
      refine g_get (v := .int (σ 8 6)) hF 6 obC_8 (by decide) m_497 rfl d_X1_checkSquare_36 ?_
      refine g_callVN (As := [.int 2, .int (σ 8 6)]) (rest := []) hF (fun l D cy => kt_X11_fail a r w30_ l D cy) (Nat.le_of_ble_eq_true rfl) mV_X11_fail nm_1370 (recv_ob obC_6) rfl rfl (Nat.le_of_ble_eq_true rfl) d_X1_checkSquare_39 (qV (fun s39 w10 => ?_))
      exact b42 s39 w10
    refine g_icmp_ne (yv := -1) hF 22 d_X1_checkSquare_12 (by decide) rfl (by decide) (fun c => ?_) (fun c => ?_)
    · have w11 := w9.1 c
      refine g_aload_n hF d_X1_checkSquare_22 rfl 0 rfl ?_
      refine g_get (v := .int (σ 8 7)) hF 7 obC_8 (by decide) m_498 rfl d_X1_checkSquare_23 ?_
      refine g_iconst hF (v := 1) d_X1_checkSquare_26 (by decide) ?_
      refine g_icmp_ge (yv := 1) hF 42 d_X1_checkSquare_27 (by decide) rfl (by decide) (fun c => ?_) (fun c => ?_)
      · have w12 := w11.1 c
        exact g_sub (L' := [(0, .ref (r 8))]) [0] rfl (b42 σ w12)
      · have w13 := w11.2 c
        exact g_sub (L' := [(0, .ref (r 8))]) [0] rfl (b30  w13)
    · have w14 := w9.2 c
      refine g_iload_n hF d_X1_checkSquare_15 rfl 1 rfl ?_
      refine g_if_ne hF 42 d_X1_checkSquare_16 (by decide) rfl (fun c => ?_) (fun c => ?_)
      · have w15 := w14.1 c
        exact g_sub (L' := [(0, .ref (r 8))]) [0] rfl (b42 σ w15)
      · have w16 := w14.2 c
        refine g_goto hF 30 d_X1_checkSquare_19 (by decide) ?_
        exact g_sub (L' := [(0, .ref (r 8))]) [0] rfl (b30  w16)
set_option maxHeartbeats 4000000 in
set_option maxRecDepth 100000 in
theorem kt_X8_declare_r1 (a : Nat → Nat) (r : Nat → Nat) {a2 : Int32} {a3 : Int32} {σ : St} {Q : Int32 → St → Prop} (w : wk_X8_declare_r1 a2 a3 σ Q) (l : Launch) (D : va_G) (cy : Nat → ClassId) : Ct l D cy SC r (EC a gC) y_X8_declare (Cond.code y_X8_declare b_X8_declare 5 (some .int)) 1 [.ref (r 5), .ref (r 1), .int a2, .int a3] σ Z0 [] (QI Q) QT0 := by
  unfold wk_X8_declare_r1 at w
  refine Ct_of (EC_ok a gC) (by decide) (Nat.le_of_ble_eq_true rfl) (by decide) (fun X hnn hF => ?_)
  show G SC r X σ Z0 [] [(0, .ref (r 5)), (1, .ref (r 1)), (2, .int a2), (3, .int a3)] [] 0
  refine g_aload_n hF d_X8_declare_0 rfl 0 rfl ?_
  refine g_get (v := .int (σ 5 1)) hF 1 obC_5 (by decide) m_222 rfl d_X8_declare_1 ?_
  refine g_istore hF [(4, .int (σ 5 1)), (0, .ref (r 5)), (1, .ref (r 1)), (2, .int a2), (3, .int a3)] d_X8_declare_4 hnn (by decide) rfl ?_
  refine g_iload hF d_X8_declare_6 0 rfl ?_
  refine g_aload_n hF d_X8_declare_8 rfl 1 rfl ?_
  refine g_get (v := .ref (r 29)) hF 6 obC_5 (by decide) m_237 rfl d_X8_declare_9 ?_
  refine g_alen hF arC_29 (fun _ => ⟨1, _, rfl⟩) (v := 10100) (by decide) d_X8_declare_12 ?_
  refine g_icmp_ge (yv := 10100) hF 46 d_X8_declare_13 (by decide) rfl (by decide) (fun c => ?_) (fun c => ?_)
  · have w1 := w.1 c
    refine g_iconst hF (v := (-1)) d_X8_declare_46 (by decide) ?_
    exact g_iret hF rfl d_X8_declare_47 ⟨rfl, rfl, ((-1) : Int32), rfl, w1⟩
  · have w2 := w.2 c
    refine g_iload_n hF d_X8_declare_16 rfl 3 rfl ?_
    refine g_if_lt hF 46 d_X8_declare_17 (by decide) rfl (fun c => ?_) (fun c => ?_)
    · have w3 := w2.1 c
      refine g_iconst hF (v := (-1)) d_X8_declare_46 (by decide) ?_
      exact g_iret hF rfl d_X8_declare_47 ⟨rfl, rfl, ((-1) : Int32), rfl, w3⟩
    · have w4 := w2.2 c
      refine g_iload_n hF d_X8_declare_20 rfl 4 rfl ?_
      refine g_if_lt hF 46 d_X8_declare_21 (by decide) rfl (fun c => ?_) (fun c => ?_)
      · have w5 := w4.1 c
        refine g_iconst hF (v := (-1)) d_X8_declare_46 (by decide) ?_
        exact g_iret hF rfl d_X8_declare_47 ⟨rfl, rfl, ((-1) : Int32), rfl, w5⟩
      · have w6 := w4.2 c
        refine g_iload_n hF d_X8_declare_24 rfl 3 rfl ?_
        refine g_iload_n hF d_X8_declare_25 rfl 4 rfl ?_
        refine g_iadd hF d_X8_declare_26 ?_
        refine g_aload_n hF d_X8_declare_27 rfl 2 rfl ?_
        refine g_alen hF arC_1 (fun _ => ⟨0, _, rfl⟩) (v := 16000) (by decide) d_X8_declare_28 ?_
        refine g_icmp_gt (yv := 16000) hF 46 d_X8_declare_29 (by decide) rfl (by decide) (fun c => ?_) (fun c => ?_)
        · have w7 := w6.1 c
          refine g_iconst hF (v := (-1)) d_X8_declare_46 (by decide) ?_
          exact g_iret hF rfl d_X8_declare_47 ⟨rfl, rfl, ((-1) : Int32), rfl, w7⟩
        · have w8 := w6.2 c
          refine g_aload_n hF d_X8_declare_32 rfl 1 rfl ?_
          refine g_get (v := .int (σ 5 7)) hF 7 obC_5 (by decide) m_239 rfl d_X8_declare_33 ?_
          refine g_iload_n hF d_X8_declare_36 rfl 4 rfl ?_
          refine g_iadd hF d_X8_declare_37 ?_
          refine g_aload_n hF d_X8_declare_38 rfl 1 rfl ?_
          refine g_get (v := .ref (r 30)) hF 8 obC_5 (by decide) m_240 rfl d_X8_declare_39 ?_
          refine g_alen hF arC_30 (fun _ => ⟨0, _, rfl⟩) (v := 65600) (by decide) d_X8_declare_42 ?_
          refine g_icmp_le (yv := 65600) hF 48 d_X8_declare_43 (by decide) rfl (by decide) (fun c => ?_) (fun c => ?_)
          · have w9 := w8.1 c
            refine g_aload_n hF d_X8_declare_48 rfl 2 rfl ?_
            refine g_iload_n hF d_X8_declare_49 rfl 3 rfl ?_
            refine g_aload_n hF d_X8_declare_50 rfl 1 rfl ?_
            refine g_get (v := .ref (r 30)) hF 8 obC_5 (by decide) m_240 rfl d_X8_declare_51 ?_
            refine g_aload_n hF d_X8_declare_54 rfl 1 rfl ?_
            refine g_get (v := .int (σ 5 7)) hF 7 obC_5 (by decide) m_239 rfl d_X8_declare_55 ?_
            refine g_iload_n hF d_X8_declare_58 rfl 4 rfl ?_
            obtain ⟨⟨hq101, hq102, hq103, hq104, hq105, hq106⟩, w10⟩ := w9
            refine g_copybx hF (Nat.le_of_ble_eq_true rfl) m_1406 m_1407 m_1408 m_24 arC_1 arC_30 hq101 hq102 hq103 (copy_le hq101 hq103 hq104) (copy_le hq102 hq103 hq105) (fun i _ => hq106 _) (by decide) d_X8_declare_59 ?_
            refine g_aload_n hF d_X8_declare_62 rfl 1 rfl ?_
            refine g_dup hF d_X8_declare_63 rfl ?_
            refine g_get (v := .int (σ 5 7)) hF 7 obC_5 (by decide) m_239 rfl d_X8_declare_64 ?_
            refine g_iload_n hF d_X8_declare_67 rfl 4 rfl ?_
            refine g_iadd hF d_X8_declare_68 ?_
            refine g_put (v := ((σ 5 7) + a3)) hF 7 obC_5 (by decide) m_239 rfl rfl rfl d_X8_declare_69 ?_
            refine g_aload_n hF d_X8_declare_72 rfl 1 rfl ?_
            refine g_get (v := .ref (r 29)) hF 6 obC_5 (by decide) m_237 rfl d_X8_declare_73 ?_
            refine g_iload hF d_X8_declare_76 0 rfl ?_
            refine g_aload_n hF d_X8_declare_78 rfl 1 rfl ?_
            refine g_get (v := .int ((σ 5 7) + a3)) hF 7 obC_5 (by decide) m_239 rfl d_X8_declare_79 ?_
            have w12 := w10.2
            refine g_iast hF arC_29 (s_in (Nat.le_of_ble_eq_true rfl) w10.1.1 w10.1.2) d_X8_declare_82 ?_
            refine g_aload_n hF d_X8_declare_83 rfl 1 rfl ?_
            refine g_dup hF d_X8_declare_84 rfl ?_
            refine g_get (v := .int (σ 5 1)) hF 1 obC_5 (by decide) m_222 rfl d_X8_declare_85 ?_
            refine g_iconst hF (v := 1) d_X8_declare_88 (by decide) ?_
            refine g_iadd hF d_X8_declare_89 ?_
            refine g_put (v := ((σ 5 1) + (1 : Int32))) hF 1 obC_5 (by decide) m_222 rfl rfl rfl d_X8_declare_90 ?_
            refine g_aload_n hF d_X8_declare_93 rfl 1 rfl ?_
            refine g_get (v := .ref (r 25)) hF 2 obC_5 (by decide) m_224 rfl d_X8_declare_94 ?_
            refine g_iload hF d_X8_declare_97 0 rfl ?_
            refine g_iconst hF (v := 0) d_X8_declare_99 (by decide) ?_
            refine g_callSN (As := [.ref (r 25), .int (σ 5 1), .int 0]) (rest := []) hF (c_setv a r (upC (upC (upC (upF σ 30 (va_cpy (σ 1) (σ 30) a2.toNatClampNeg (σ 5 7).toNatClampNeg a3.toNatClampNeg)) 5 7 ((σ 5 7) + a3)) 29 (σ 5 1).toNatClampNeg ((σ 5 7) + a3)) 5 1 ((σ 5 1) + (1 : Int32))) arC_25 (by decide) (σ 5 1) (0 : Int32)) (Nat.le_of_ble_eq_true rfl) mS_X12_set nm_1098 rfl rfl (Nat.le_of_ble_eq_true rfl) d_X8_declare_100 (kU ?_)
            refine g_aload_n hF d_X8_declare_103 rfl 1 rfl ?_
            refine g_get (v := .ref (r 28)) hF 5 obC_5 (by decide) m_234 rfl d_X8_declare_104 ?_
            refine g_iload hF d_X8_declare_107 0 rfl ?_
            refine g_iconst hF (v := 0) d_X8_declare_109 (by decide) ?_
            refine g_callSN (As := [.ref (r 28), .int (σ 5 1), .int 0]) (rest := []) hF (c_setv a r (upF (upC (upC (upC (upF σ 30 (va_cpy (σ 1) (σ 30) a2.toNatClampNeg (σ 5 7).toNatClampNeg a3.toNatClampNeg)) 5 7 ((σ 5 7) + a3)) 29 (σ 5 1).toNatClampNeg ((σ 5 7) + a3)) 5 1 ((σ 5 1) + (1 : Int32))) 25 (setv 10100 ((upC (upC (upC (upF σ 30 (va_cpy (σ 1) (σ 30) a2.toNatClampNeg (σ 5 7).toNatClampNeg a3.toNatClampNeg)) 5 7 ((σ 5 7) + a3)) 29 (σ 5 1).toNatClampNeg ((σ 5 7) + a3)) 5 1 ((σ 5 1) + (1 : Int32))) 25) (σ 5 1) (0 : Int32))) arC_28 (by decide) (σ 5 1) (0 : Int32)) (Nat.le_of_ble_eq_true rfl) mS_X12_set nm_1098 rfl rfl (Nat.le_of_ble_eq_true rfl) d_X8_declare_110 (kU ?_)
            refine g_iload hF d_X8_declare_113 0 rfl ?_
            exact g_iret hF rfl d_X8_declare_115 ⟨rfl, rfl, (σ 5 1), rfl, w12⟩
          · have w13 := w8.2 c
            refine g_iconst hF (v := (-1)) d_X8_declare_46 (by decide) ?_
            exact g_iret hF rfl d_X8_declare_47 ⟨rfl, rfl, ((-1) : Int32), rfl, w13⟩
set_option maxHeartbeats 4000000 in
set_option maxRecDepth 100000 in
theorem kt_X11_declareOuter (a : Nat → Nat) (r : Nat → Nat) {a1 : Int32} {σ : St} {Q : Int32 → St → Prop} (w : wk_X11_declareOuter a1 σ Q) (l : Launch) (D : va_G) (cy : Nat → ClassId) : Ct l D cy SC r (EC a gC) y_X11_declareOuter (Cond.code y_X11_declareOuter b_X11_declareOuter 2 (some .int)) 2 [.ref (r 6), .int a1] σ Z0 [] (QI Q) QT0 := by
  unfold wk_X11_declareOuter at w
  refine Ct_of (EC_ok a gC) (by decide) (Nat.le_of_ble_eq_true rfl) (by decide) (fun X hnn hF => ?_)
  show G SC r X σ Z0 [] [(0, .ref (r 6)), (1, .int a1)] [] 0
  refine g_aload_n hF d_X11_declareOuter_0 rfl 0 rfl ?_
  refine g_get (v := .ref (r 38)) hF 8 obC_6 (by decide) m_329 rfl d_X11_declareOuter_1 ?_
  refine g_aload_n hF d_X11_declareOuter_4 rfl 0 rfl ?_
  refine g_get (v := .int (σ 6 7)) hF 7 obC_6 (by decide) m_327 rfl d_X11_declareOuter_5 ?_
  refine g_iload_n hF d_X11_declareOuter_8 rfl 1 rfl ?_
  refine g_callSN (As := [.ref (r 38), .int (σ 6 7), .int a1]) (rest := []) hF (c_setv a r σ arC_38 (by decide) (σ 6 7) a1) (Nat.le_of_ble_eq_true rfl) mS_X12_set nm_1151 rfl rfl (Nat.le_of_ble_eq_true rfl) d_X11_declareOuter_9 (kU ?_)
  refine g_aload_n hF d_X11_declareOuter_12 rfl 0 rfl ?_
  refine g_get (v := .ref (r 39)) hF 9 obC_6 (by decide) m_330 rfl d_X11_declareOuter_13 ?_
  refine g_aload_n hF d_X11_declareOuter_16 rfl 0 rfl ?_
  refine g_get (v := .int (σ 6 7)) hF 7 obC_6 (by decide) m_327 rfl d_X11_declareOuter_17 ?_
  refine g_iconst hF (v := (-1)) d_X11_declareOuter_20 (by decide) ?_
  refine g_callSN (As := [.ref (r 39), .int (σ 6 7), .int (-1)]) (rest := []) hF (c_setv a r (upF σ 38 (setv 100 (σ 38) (σ 6 7) a1)) arC_39 (by decide) (σ 6 7) ((-1) : Int32)) (Nat.le_of_ble_eq_true rfl) mS_X12_set nm_1151 rfl rfl (Nat.le_of_ble_eq_true rfl) d_X11_declareOuter_21 (kU ?_)
  refine g_aload_n hF d_X11_declareOuter_24 rfl 0 rfl ?_
  refine g_dup hF d_X11_declareOuter_25 rfl ?_
  refine g_get (v := .int (σ 6 7)) hF 7 obC_6 (by decide) m_327 rfl d_X11_declareOuter_26 ?_
  refine g_iconst hF (v := 1) d_X11_declareOuter_29 (by decide) ?_
  refine g_iadd hF d_X11_declareOuter_30 ?_
  refine g_put (v := ((σ 6 7) + (1 : Int32))) hF 7 obC_6 (by decide) m_327 rfl rfl rfl d_X11_declareOuter_31 ?_
  refine g_aload_n hF d_X11_declareOuter_34 rfl 0 rfl ?_
  refine g_get (v := .ref (r 5)) hF 1 obC_6 (by decide) m_309 rfl d_X11_declareOuter_35 ?_
  refine g_aload_n hF d_X11_declareOuter_38 rfl 0 rfl ?_
  refine g_get (v := .ref (r 2)) hF 0 obC_6 (by decide) m_305 rfl d_X11_declareOuter_39 ?_
  refine g_getN (v := .ref (r 1)) hF 0 obC_2 (by decide) nm_42 rfl d_X11_declareOuter_42 ?_
  refine g_aload_n hF d_X11_declareOuter_45 rfl 0 rfl ?_
  refine g_get (v := .ref (r 2)) hF 0 obC_6 (by decide) m_305 rfl d_X11_declareOuter_46 ?_
  refine g_getN (v := .ref (r 15)) hF 7 obC_2 (by decide) nm_58 rfl d_X11_declareOuter_49 ?_
  refine g_iload_n hF d_X11_declareOuter_52 rfl 1 rfl ?_
  refine g_callSN (As := [.ref (r 15), .int a1]) (rest := [.ref (r 1), .ref (r 5)]) hF (c_atv a r (upC (upF (upF σ 38 (setv 100 (σ 38) (σ 6 7) a1)) 39 (setv 100 ((upF σ 38 (setv 100 (σ 38) (σ 6 7) a1)) 39) (σ 6 7) ((-1) : Int32))) 6 7 ((σ 6 7) + (1 : Int32))) arC_15 (by decide) a1) (Nat.le_of_ble_eq_true rfl) mS_X12_at nm_1112 rfl rfl (Nat.le_of_ble_eq_true rfl) d_X11_declareOuter_53 (kQ ?_)
  refine g_top (v := (atv 16002 (σ 15) a1)) rfl ?_
  refine g_aload_n hF d_X11_declareOuter_56 rfl 0 rfl ?_
  refine g_get (v := .ref (r 2)) hF 0 obC_6 (by decide) m_305 rfl d_X11_declareOuter_57 ?_
  refine g_getN (v := .ref (r 14)) hF 6 obC_2 (by decide) nm_54 rfl d_X11_declareOuter_60 ?_
  refine g_iload_n hF d_X11_declareOuter_63 rfl 1 rfl ?_
  refine g_callSN (As := [.ref (r 14), .int a1]) (rest := [.int (atv 16002 (σ 15) a1), .ref (r 1), .ref (r 5)]) hF (c_atv a r (upC (upF (upF σ 38 (setv 100 (σ 38) (σ 6 7) a1)) 39 (setv 100 ((upF σ 38 (setv 100 (σ 38) (σ 6 7) a1)) 39) (σ 6 7) ((-1) : Int32))) 6 7 ((σ 6 7) + (1 : Int32))) arC_14 (by decide) a1) (Nat.le_of_ble_eq_true rfl) mS_X12_at nm_1112 rfl rfl (Nat.le_of_ble_eq_true rfl) d_X11_declareOuter_64 (kQ ?_)
  refine g_top (v := (atv 16002 (σ 14) a1)) rfl ?_
  refine g_callVN (As := [.ref (r 1), .int (atv 16002 (σ 15) a1), .int (atv 16002 (σ 14) a1)]) (rest := []) hF (fun l D cy => kt_X8_declare_r1 a r w l D cy) (Nat.le_of_ble_eq_true rfl) mV_X8_declare nm_1402 (recv_ob obC_5) rfl rfl (Nat.le_of_ble_eq_true rfl) d_X11_declareOuter_67 (qI (fun v67 s67 w1 => ?_))
  exact g_iret hF rfl d_X11_declareOuter_70 ⟨rfl, rfl, v67, rfl, w1⟩
set_option maxHeartbeats 4000000 in
set_option maxRecDepth 100000 in
theorem kt_X1_joins (a : Nat → Nat) (r : Nat → Nat) {a1 : Int32} {a2 : Int32} {σ : St} {Q : Int32 → Prop} (w : wk_X1_joins a1 a2 σ Q) (l : Launch) (D : va_G) (cy : Nat → ClassId) : Ct l D cy SC r (EC a gC) y_X1_joins (Cond.code y_X1_joins b_X1_joins 7 (some .boolean)) 2 [.ref (r 8), .int a1, .int a2] σ Z0 [] (QI (fun x σ9 => (x = 0 ∨ x = 1) ∧ σ9 = σ ∧ Q x)) QT0 := by
  unfold wk_X1_joins at w
  refine Ct_of (EC_ok a gC) (by decide) (Nat.le_of_ble_eq_true rfl) (by decide) (fun X hnn hF => ?_)
  show G SC r X σ Z0 [] [(0, .ref (r 8)), (1, .int a1), (2, .int a2)] [] 0
  refine g_aload_n hF d_X1_joins_0 rfl 0 rfl ?_
  refine g_get (v := .ref (r 5)) hF 3 obC_8 (by decide) m_492 rfl d_X1_joins_1 ?_
  refine g_getN (v := .ref (r 27)) hF 4 obC_5 (by decide) nm_232 rfl d_X1_joins_4 ?_
  refine g_iload_n hF d_X1_joins_7 rfl 1 rfl ?_
  refine g_callSN (As := [.ref (r 27), .int a1]) (rest := []) hF (c_atv a r σ arC_27 (by decide) a1) (Nat.le_of_ble_eq_true rfl) mS_X12_at nm_1356 rfl rfl (Nat.le_of_ble_eq_true rfl) d_X1_joins_8 (kQ ?_)
  refine g_top (v := (atv 10100 (σ 27) a1)) rfl ?_
  refine g_istore_n hF [(3, .int (atv 10100 (σ 27) a1)), (0, .ref (r 8)), (1, .int a1), (2, .int a2)] d_X1_joins_11 rfl hnn (by decide) rfl ?_
  refine g_aload_n hF d_X1_joins_12 rfl 1 rfl ?_
  refine g_get (v := .ref (r 5)) hF 3 obC_8 (by decide) m_492 rfl d_X1_joins_13 ?_
  refine g_iload_n hF d_X1_joins_16 rfl 2 rfl ?_
  refine g_iconst hF (v := 1) d_X1_joins_17 (by decide) ?_
  refine g_callVN (As := [.int a1, .int 1]) (rest := []) hF (fun l D cy => kt_X8_is a r w l D cy) (Nat.le_of_ble_eq_true rfl) mV_X8_is nm_1393 (recv_ob obC_5) rfl rfl (Nat.le_of_ble_eq_true rfl) d_X1_joins_18 (qZr (fun v18 hz18 w1 => ?_))
  obtain ⟨J73, h73, w2⟩ := w1
  have b73 : ∀ (y0_73 : Int32), y0_73 = 0 ∨ y0_73 = 1 → J73 y0_73 → G SC r X σ Z0 [] [(0, .ref (r 8)), (1, .int a1), (2, .int a2), (3, .int (atv 10100 (σ 27) a1))] [.int y0_73] 73 := by
    intro y0_73 hy0_73 w73_
    have w73_ := h73 y0_73 hy0_73 w73_
    refine g_istore hF [(4, .int y0_73), (0, .ref (r 8)), (1, .int a1), (2, .int a2), (3, .int (atv 10100 (σ 27) a1))] d_X1_joins_73 hnn (by decide) rfl ?_
    refine g_iload_n hF d_X1_joins_75 rfl 4 rfl ?_
    obtain ⟨J99, h99, w3⟩ := w73_
    have b99 : ∀ (y0_99 : Int32), y0_99 = 0 ∨ y0_99 = 1 → J99 y0_99 → G SC r X σ Z0 [] [(0, .ref (r 8)), (1, .int a1), (2, .int a2), (4, .int y0_73)] [.int y0_99] 99 := by
      intro y0_99 hy0_99 w99_
      have w99_ := h99 y0_99 hy0_99 w99_
      refine g_istore hF [(5, .int y0_99), (0, .ref (r 8)), (1, .int a1), (2, .int a2), (4, .int y0_73)] d_X1_joins_99 hnn (by decide) rfl ?_
      refine g_iload_n hF d_X1_joins_101 rfl 3 rfl ?_
      refine g_iconst hF (v := 1) d_X1_joins_102 (by decide) ?_
      obtain ⟨J123, h123, w4⟩ := w99_
      have b123 : ∀ (y0_123 : Int32), y0_123 = 0 ∨ y0_123 = 1 → J123 y0_123 → G SC r X σ Z0 [] [(0, .ref (r 8)), (1, .int a1), (4, .int y0_73), (5, .int y0_99)] [.int y0_123] 123 := by
        intro y0_123 hy0_123 w123_
        have w123_ := h123 y0_123 hy0_123 w123_
        refine g_istore hF [(6, .int y0_123), (0, .ref (r 8)), (1, .int a1), (4, .int y0_73), (5, .int y0_99)] d_X1_joins_123 hnn (by decide) rfl ?_
        refine g_iload hF d_X1_joins_125 3 rfl ?_
        refine g_if_eq hF 163 d_X1_joins_127 (by decide) rfl (fun c => ?_) (fun c => ?_)
        · have w5 := w123_.1 c
          refine g_iconst hF (v := 0) d_X1_joins_163 (by decide) ?_
          exact g_zret hF rfl (k_nz (Or.inl rfl)) d_X1_joins_164 ⟨rfl, rfl, (0 : Int32), rfl, (Or.inl rfl), ⟨rfl, w5⟩⟩
        · have w6 := w123_.2 c
          refine g_iload hF d_X1_joins_130 4 rfl ?_
          refine g_if_eq hF 163 d_X1_joins_132 (by decide) rfl (fun c => ?_) (fun c => ?_)
          · have w7 := w6.1 c
            refine g_iconst hF (v := 0) d_X1_joins_163 (by decide) ?_
            exact g_zret hF rfl (k_nz (Or.inl rfl)) d_X1_joins_164 ⟨rfl, rfl, (0 : Int32), rfl, (Or.inl rfl), ⟨rfl, w7⟩⟩
          · have w8 := w6.2 c
            refine g_iload hF d_X1_joins_135 0 rfl ?_
            refine g_if_eq hF 163 d_X1_joins_137 (by decide) rfl (fun c => ?_) (fun c => ?_)
            · have w9 := w8.1 c
              refine g_iconst hF (v := 0) d_X1_joins_163 (by decide) ?_
              exact g_zret hF rfl (k_nz (Or.inl rfl)) d_X1_joins_164 ⟨rfl, rfl, (0 : Int32), rfl, (Or.inl rfl), ⟨rfl, w9⟩⟩
            · have w10 := w8.2 c
              refine g_aload_n hF d_X1_joins_140 rfl 1 rfl ?_
              refine g_get (v := .int (σ 8 13)) hF 13 obC_8 (by decide) m_505 rfl d_X1_joins_141 ?_
              refine g_if_ne hF 159 d_X1_joins_144 (by decide) rfl (fun c => ?_) (fun c => ?_)
              · have w11 := w10.1 c
                refine g_iconst hF (v := 1) d_X1_joins_159 (by decide) ?_
                refine g_goto hF 164 d_X1_joins_160 (by decide) ?_
                exact g_zret hF rfl (k_nz (Or.inr rfl)) d_X1_joins_164 ⟨rfl, rfl, (1 : Int32), rfl, (Or.inr rfl), ⟨rfl, w11⟩⟩
              · have w12 := w10.2 c
                refine g_aload_n hF d_X1_joins_147 rfl 1 rfl ?_
                refine g_get (v := .ref (r 5)) hF 3 obC_8 (by decide) m_492 rfl d_X1_joins_148 ?_
                refine g_iload_n hF d_X1_joins_151 rfl 2 rfl ?_
                refine g_iconst hF (v := 4) d_X1_joins_152 (by decide) ?_
                refine g_callVN (As := [.int a1, .int 4]) (rest := []) hF (fun l D cy => kt_X8_is a r w12 l D cy) (Nat.le_of_ble_eq_true rfl) mV_X8_is nm_1393 (recv_ob obC_5) rfl rfl (Nat.le_of_ble_eq_true rfl) d_X1_joins_153 (qZr (fun v153 hz153 w13 => ?_))
                refine g_if_ne hF 163 d_X1_joins_156 (by decide) rfl (fun c => ?_) (fun c => ?_)
                · have w14 := w13.1 c
                  refine g_iconst hF (v := 0) d_X1_joins_163 (by decide) ?_
                  exact g_zret hF rfl (k_nz (Or.inl rfl)) d_X1_joins_164 ⟨rfl, rfl, (0 : Int32), rfl, (Or.inl rfl), ⟨rfl, w14⟩⟩
                · have w15 := w13.2 c
                  refine g_iconst hF (v := 1) d_X1_joins_159 (by decide) ?_
                  refine g_goto hF 164 d_X1_joins_160 (by decide) ?_
                  exact g_zret hF rfl (k_nz (Or.inr rfl)) d_X1_joins_164 ⟨rfl, rfl, (1 : Int32), rfl, (Or.inr rfl), ⟨rfl, w15⟩⟩
      obtain ⟨J122, h122, w16⟩ := w4
      have b122 : J122  → G SC r X σ Z0 [] [(0, .ref (r 8)), (1, .int a1), (4, .int y0_73), (5, .int y0_99)] [] 122 := by
        intro   w122_
        have w122_ := h122   w122_
        refine g_iconst hF (v := 0) d_X1_joins_122 (by decide) ?_
        exact b123 (0 : Int32) (Or.inl rfl) w122_
      refine g_icmp_eq (yv := 1) hF 122 d_X1_joins_103 (by decide) rfl (by decide) (fun c => ?_) (fun c => ?_)
      · have w17 := w16.1 c
        exact g_sub (L' := [(0, .ref (r 8)), (1, .int a1), (4, .int y0_73), (5, .int y0_99)]) [1, 2, 4, 0] rfl (b122  w17)
      · have w18 := w16.2 c
        refine g_aload_n hF d_X1_joins_106 rfl 1 rfl ?_
        refine g_get (v := .ref (r 5)) hF 3 obC_8 (by decide) m_492 rfl d_X1_joins_107 ?_
        refine g_iload_n hF d_X1_joins_110 rfl 2 rfl ?_
        refine g_iconst hF (v := 2) d_X1_joins_111 (by decide) ?_
        refine g_callVN (As := [.int a1, .int 2]) (rest := []) hF (fun l D cy => kt_X8_is a r w18 l D cy) (Nat.le_of_ble_eq_true rfl) mV_X8_is nm_1393 (recv_ob obC_5) rfl rfl (Nat.le_of_ble_eq_true rfl) d_X1_joins_112 (qZr (fun v112 hz112 w19 => ?_))
        refine g_if_ne hF 122 d_X1_joins_115 (by decide) rfl (fun c => ?_) (fun c => ?_)
        · have w20 := w19.1 c
          exact g_sub (L' := [(0, .ref (r 8)), (1, .int a1), (4, .int y0_73), (5, .int y0_99)]) [1, 2, 4, 0] rfl (b122  w20)
        · have w21 := w19.2 c
          refine g_iconst hF (v := 1) d_X1_joins_118 (by decide) ?_
          refine g_goto hF 123 d_X1_joins_119 (by decide) ?_
          exact g_sub (L' := [(0, .ref (r 8)), (1, .int a1), (4, .int y0_73), (5, .int y0_99)]) [1, 2, 4, 0] rfl (b123 (1 : Int32) (Or.inr rfl) w21)
    obtain ⟨J94, h94, w22⟩ := w3
    have b94 : J94  → G SC r X σ Z0 [] [(0, .ref (r 8)), (1, .int a1), (2, .int a2), (4, .int y0_73)] [] 94 := by
      intro   w94_
      have w94_ := h94   w94_
      refine g_iconst hF (v := 1) d_X1_joins_94 (by decide) ?_
      refine g_goto hF 99 d_X1_joins_95 (by decide) ?_
      exact b99 (1 : Int32) (Or.inr rfl) w94_
    refine g_if_le hF 94 d_X1_joins_76 (by decide) rfl (fun c => ?_) (fun c => ?_)
    · have w23 := w22.1 c
      exact g_sub (L' := [(0, .ref (r 8)), (1, .int a1), (2, .int a2), (4, .int y0_73)]) [1, 2, 3, 0] rfl (b94  w23)
    · have w24 := w22.2 c
      refine g_aload_n hF d_X1_joins_79 rfl 1 rfl ?_
      refine g_get (v := .int (σ 8 12)) hF 12 obC_8 (by decide) m_504 rfl d_X1_joins_80 ?_
      refine g_if_le hF 94 d_X1_joins_83 (by decide) rfl (fun c => ?_) (fun c => ?_)
      · have w25 := w24.1 c
        exact g_sub (L' := [(0, .ref (r 8)), (1, .int a1), (2, .int a2), (4, .int y0_73)]) [1, 2, 3, 0] rfl (b94  w25)
      · have w26 := w24.2 c
        refine g_iload_n hF d_X1_joins_86 rfl 4 rfl ?_
        refine g_aload_n hF d_X1_joins_87 rfl 1 rfl ?_
        refine g_get (v := .int (σ 8 12)) hF 12 obC_8 (by decide) m_504 rfl d_X1_joins_88 ?_
        refine g_icmp_ne hF 98 d_X1_joins_91 (by decide) rfl rfl (fun c => ?_) (fun c => ?_)
        · have w27 := w26.1 c
          refine g_iconst hF (v := 0) d_X1_joins_98 (by decide) ?_
          exact g_sub (L' := [(0, .ref (r 8)), (1, .int a1), (2, .int a2), (4, .int y0_73)]) [1, 2, 3, 0] rfl (b99 (0 : Int32) (Or.inl rfl) w27)
        · have w28 := w26.2 c
          exact g_sub (L' := [(0, .ref (r 8)), (1, .int a1), (2, .int a2), (4, .int y0_73)]) [1, 2, 3, 0] rfl (b94  w28)
  obtain ⟨J72, h72, w29⟩ := w2
  have b72 : J72  → G SC r X σ Z0 [] [(0, .ref (r 8)), (1, .int a1), (2, .int a2), (3, .int (atv 10100 (σ 27) a1))] [] 72 := by
    intro   w72_
    have w72_ := h72   w72_
    refine g_iconst hF (v := 0) d_X1_joins_72 (by decide) ?_
    exact b73 (0 : Int32) (Or.inl rfl) w72_
  refine g_if_ne hF 72 d_X1_joins_21 (by decide) rfl (fun c => ?_) (fun c => ?_)
  · have w30 := w29.1 c
    exact g_sub (L' := [(0, .ref (r 8)), (1, .int a1), (2, .int a2), (3, .int (atv 10100 (σ 27) a1))]) [1, 2, 3, 0] rfl (b72  w30)
  · have w31 := w29.2 c
    refine g_aload_n hF d_X1_joins_24 rfl 1 rfl ?_
    refine g_get (v := .ref (r 5)) hF 3 obC_8 (by decide) m_492 rfl d_X1_joins_25 ?_
    refine g_getN (v := .ref (r 26)) hF 3 obC_5 (by decide) nm_227 rfl d_X1_joins_28 ?_
    refine g_iload_n hF d_X1_joins_31 rfl 2 rfl ?_
    refine g_callSN (As := [.ref (r 26), .int a1]) (rest := []) hF (c_atv a r σ arC_26 (by decide) a1) (Nat.le_of_ble_eq_true rfl) mS_X12_at nm_1356 rfl rfl (Nat.le_of_ble_eq_true rfl) d_X1_joins_32 (kQ ?_)
    refine g_top (v := (atv 10100 (σ 26) a1)) rfl ?_
    refine g_aload_n hF d_X1_joins_35 rfl 1 rfl ?_
    refine g_get (v := .int (σ 8 11)) hF 11 obC_8 (by decide) m_503 rfl d_X1_joins_36 ?_
    refine g_icmp_ne hF 72 d_X1_joins_39 (by decide) rfl rfl (fun c => ?_) (fun c => ?_)
    · have w32 := w31.1 c
      exact g_sub (L' := [(0, .ref (r 8)), (1, .int a1), (2, .int a2), (3, .int (atv 10100 (σ 27) a1))]) [1, 2, 3, 0] rfl (b72  w32)
    · have w33 := w31.2 c
      refine g_iload_n hF d_X1_joins_42 rfl 0 rfl ?_
      refine g_iconst hF (v := (-1)) d_X1_joins_43 (by decide) ?_
      obtain ⟨J52, h52, w34⟩ := w33
      have b52 : ∀ (y0_52 : Int32), y0_52 = 0 ∨ y0_52 = 1 → J52 y0_52 → G SC r X σ Z0 [] [(0, .ref (r 8)), (1, .int a1), (2, .int a2), (3, .int (atv 10100 (σ 27) a1))] [.int y0_52] 52 := by
        intro y0_52 hy0_52 w52_
        have w52_ := h52 y0_52 hy0_52 w52_
        refine g_aload_n hF d_X1_joins_52 rfl 0 rfl ?_
        refine g_get (v := .int (σ 8 12)) hF 12 obC_8 (by decide) m_504 rfl d_X1_joins_53 ?_
        refine g_iconst hF (v := (-1)) d_X1_joins_56 (by decide) ?_
        obtain ⟨J65, h65, w35⟩ := w52_
        have b65 : ∀ (y1_65 : Int32), y1_65 = 0 ∨ y1_65 = 1 → J65 y1_65 → G SC r X σ Z0 [] [(0, .ref (r 8)), (1, .int a1), (2, .int a2), (3, .int (atv 10100 (σ 27) a1))] [.int y1_65, .int y0_52] 65 := by
          intro y1_65 hy1_65 w65_
          have w65_ := h65 y1_65 hy1_65 w65_
          refine g_icmp_ne hF 72 d_X1_joins_65 (by decide) rfl rfl (fun c => ?_) (fun c => ?_)
          · have w36 := w65_.1 c
            exact b72  w36
          · have w37 := w65_.2 c
            refine g_iconst hF (v := 1) d_X1_joins_68 (by decide) ?_
            refine g_goto hF 73 d_X1_joins_69 (by decide) ?_
            exact b73 (1 : Int32) (Or.inr rfl) w37
        refine g_icmp_ne (yv := -1) hF 64 d_X1_joins_57 (by decide) rfl (by decide) (fun c => ?_) (fun c => ?_)
        · have w38 := w35.1 c
          refine g_iconst hF (v := 0) d_X1_joins_64 (by decide) ?_
          exact b65 (0 : Int32) (Or.inl rfl) w38
        · have w39 := w35.2 c
          refine g_iconst hF (v := 1) d_X1_joins_60 (by decide) ?_
          refine g_goto hF 65 d_X1_joins_61 (by decide) ?_
          exact b65 (1 : Int32) (Or.inr rfl) w39
      refine g_icmp_ne (yv := -1) hF 51 d_X1_joins_44 (by decide) rfl (by decide) (fun c => ?_) (fun c => ?_)
      · have w40 := w34.1 c
        refine g_iconst hF (v := 0) d_X1_joins_51 (by decide) ?_
        exact g_sub (L' := [(0, .ref (r 8)), (1, .int a1), (2, .int a2), (3, .int (atv 10100 (σ 27) a1))]) [1, 2, 3, 0] rfl (b52 (0 : Int32) (Or.inl rfl) w40)
      · have w41 := w34.2 c
        refine g_iconst hF (v := 1) d_X1_joins_47 (by decide) ?_
        refine g_goto hF 52 d_X1_joins_48 (by decide) ?_
        exact g_sub (L' := [(0, .ref (r 8)), (1, .int a1), (2, .int a2), (3, .int (atv 10100 (σ 27) a1))]) [1, 2, 3, 0] rfl (b52 (1 : Int32) (Or.inr rfl) w41)
set_option maxHeartbeats 4000000 in
set_option maxRecDepth 100000 in
theorem kt_X1_outer (a : Nat → Nat) (r : Nat → Nat) {a1 : Int32} {a2 : Int32} {a3 : Int32} {σ : St} {Q : St → Prop} (ha3 : a3 = 0 ∨ a3 = 1) (w : wk_X1_outer a1 a2 a3 σ Q) (l : Launch) (D : va_G) (cy : Nat → ClassId) : Ct l D cy SC r (EC a gC) y_X1_outer (Cond.code y_X1_outer b_X1_outer 6 none) 3 [.ref (r 8), .int a1, .int a2, .int a3] σ Z0 [] (QV Q) QT0 := by
  unfold wk_X1_outer at w
  refine Ct_of (EC_ok a gC) (by decide) (Nat.le_of_ble_eq_true rfl) (by decide) (fun X hnn hF => ?_)
  show G SC r X σ Z0 [] [(0, .ref (r 8)), (1, .int a1), (2, .int a2), (3, .int a3)] [] 0
  refine g_aload_n hF d_X1_outer_0 rfl 0 rfl ?_
  refine g_get (v := .ref (r 6)) hF 2 obC_8 (by decide) m_491 rfl d_X1_outer_1 ?_
  refine g_iload_n hF d_X1_outer_4 rfl 1 rfl ?_
  refine g_callVN (As := [.int a1]) (rest := []) hF (fun l D cy => kt_X11_outerOf a r w l D cy) (Nat.le_of_ble_eq_true rfl) mV_X11_outerOf nm_1388 (recv_ob obC_6) rfl rfl (Nat.le_of_ble_eq_true rfl) d_X1_outer_5 (qIr (fun v5 w1 => ?_))
  refine g_istore hF [(4, .int v5), (0, .ref (r 8)), (1, .int a1), (2, .int a2), (3, .int a3)] d_X1_outer_8 hnn (by decide) rfl ?_
  refine g_aload_n hF d_X1_outer_10 rfl 1 rfl ?_
  refine g_iload_n hF d_X1_outer_11 rfl 2 rfl ?_
  refine g_iload hF d_X1_outer_12 0 rfl ?_
  refine g_iload hF d_X1_outer_14 0 rfl ?_
  obtain ⟨J34, h34, w2⟩ := w1
  have b34 : ∀ (y3_34 : Int32), y3_34 = 0 ∨ y3_34 = 1 → J34 y3_34 → G SC r X σ Z0 [] [(0, .ref (r 8)), (1, .int a1), (2, .int a2), (3, .int a3), (4, .int v5)] [.int y3_34, .int v5, .int a1, .ref (r 8)] 34 := by
    intro y3_34 hy3_34 w34_
    have w34_ := h34 y3_34 hy3_34 w34_
    refine g_callV (As := [.int a1, .int v5, .int y3_34]) (rest := []) hF (fun l D cy => kt_X1_checkOuter a r hy3_34 w34_ l D cy) (Nat.le_of_ble_eq_true rfl) mV_X1_checkOuter m_1394 (recv_ob obC_8) rfl rfl (Nat.le_of_ble_eq_true rfl) d_X1_outer_34 (qV (fun s34 w3 => ?_)) (fun _ _ _ h => h.elim)
    refine g_aload_n hF d_X1_outer_37 rfl 0 rfl ?_
    refine g_iload_n hF d_X1_outer_38 rfl 3 rfl ?_
    obtain ⟨J54, h54, w4⟩ := w3
    have b54 : ∀ (y1_54 : Int32), y1_54 = 0 ∨ y1_54 = 1 → J54 y1_54 → G SC r X s34 Z0 [] [(0, .ref (r 8)), (1, .int a1), (2, .int a2), (4, .int v5)] [.int y1_54, .ref (r 8)] 54 := by
      intro y1_54 hy1_54 w54_
      have w54_ := h54 y1_54 hy1_54 w54_
      refine g_callV (As := [.int y1_54]) (rest := []) hF (fun l D cy => kt_X1_checkSquare a r hy1_54 w54_ l D cy) (Nat.le_of_ble_eq_true rfl) mV_X1_checkSquare m_1371 (recv_ob obC_8) rfl rfl (Nat.le_of_ble_eq_true rfl) d_X1_outer_54 (qV (fun s54 w5 => ?_)) (fun _ _ _ h => h.elim)
      refine g_aload_n hF d_X1_outer_57 rfl 0 rfl ?_
      refine g_get (v := .int (s54 8 13)) hF 13 obC_8 (by decide) m_505 rfl d_X1_outer_58 ?_
      obtain ⟨J84, h84, w6⟩ := w5
      have b84 : ∀ (y0_84 : Int32), J84 y0_84 → G SC r X s54 Z0 [] [(0, .ref (r 8)), (1, .int a1), (2, .int a2), (4, .int v5)] [.int y0_84] 84 := by
        intro y0_84  w84_
        have w84_ := h84 y0_84  w84_
        refine g_istore hF [(5, .int y0_84), (0, .ref (r 8)), (1, .int a1), (2, .int a2), (4, .int v5)] d_X1_outer_84 hnn (by decide) rfl ?_
        refine g_aload_n hF d_X1_outer_86 rfl 1 rfl ?_
        refine g_get (v := .ref (r 6)) hF 2 obC_8 (by decide) m_491 rfl d_X1_outer_87 ?_
        refine g_getN (v := .int (s54 6 5)) hF 5 obC_6 (by decide) nm_322 rfl d_X1_outer_90 ?_
        refine g_iload hF d_X1_outer_93 0 rfl ?_
        refine g_iadd hF d_X1_outer_95 ?_
        refine g_sipush hF (v := 16000) d_X1_outer_96 (by decide) ?_
        obtain ⟨J111, h111, w7⟩ := w84_
        have b111 : ∀ (s111 : St), J111 s111 → G SC r X s111 Z0 [] [(0, .ref (r 8)), (1, .int a1), (2, .int a2), (4, .int v5), (5, .int y0_84)] [] 111 := by
          intro s111  w111_
          have w111_ := h111 s111  w111_
          refine g_aload_n hF d_X1_outer_111 rfl 0 rfl ?_
          refine g_get (v := .ref (r 6)) hF 2 obC_8 (by decide) m_491 rfl d_X1_outer_112 ?_
          refine g_getN (v := .int (s111 6 3)) hF 3 obC_6 (by decide) nm_317 rfl d_X1_outer_115 ?_
          refine g_if_eq hF 122 d_X1_outer_118 (by decide) rfl (fun c => ?_) (fun c => ?_)
          · have w8 := w111_.1 c
            refine g_aload_n hF d_X1_outer_122 rfl 0 rfl ?_
            refine g_iload hF d_X1_outer_123 3 rfl ?_
            obtain ⟨J141, h141, w9⟩ := w8
            have b141 : ∀ (y1_141 : Int32) (s141 : St), J141 y1_141 s141 → G SC r X s141 Z0 [] [(0, .ref (r 8)), (2, .int a2), (4, .int v5), (5, .int y0_84)] [.int y1_141, .ref (r 8)] 141 := by
              intro y1_141 s141  w141_
              have w141_ := h141 y1_141 s141  w141_
              refine g_put (v := y1_141) hF 10 obC_8 (by decide) m_502 rfl rfl rfl d_X1_outer_141 ?_
              refine g_aload_n hF d_X1_outer_144 rfl 0 rfl ?_
              refine g_get (v := .ref (r 5)) hF 3 obC_8 (by decide) m_492 rfl d_X1_outer_145 ?_
              refine g_getN (v := .ref (r 26)) hF 3 obC_5 (by decide) nm_227 rfl d_X1_outer_148 ?_
              refine g_aload_n hF d_X1_outer_151 rfl 0 rfl ?_
              refine g_get (v := .int y1_141) hF 10 obC_8 (by decide) m_502 rfl d_X1_outer_152 ?_
              refine g_aload_n hF d_X1_outer_155 rfl 0 rfl ?_
              refine g_get (v := .int (s141 8 11)) hF 11 obC_8 (by decide) m_503 rfl d_X1_outer_156 ?_
              refine g_callSN (As := [.ref (r 26), .int y1_141, .int (s141 8 11)]) (rest := []) hF (c_setv a r (upC s141 8 10 y1_141) arC_26 (by decide) y1_141 (s141 8 11)) (Nat.le_of_ble_eq_true rfl) mS_X12_set nm_1409 rfl rfl (Nat.le_of_ble_eq_true rfl) d_X1_outer_159 (kU ?_)
              refine g_iload hF d_X1_outer_162 2 rfl ?_
              obtain ⟨J192, h192, w10⟩ := w141_
              have b192 : ∀ (s192 : St), J192 s192 → G SC r X s192 Z0 [] [(0, .ref (r 8)), (2, .int a2), (5, .int y0_84)] [] 192 := by
                intro s192  w192_
                have w192_ := h192 s192  w192_
                refine g_iload_n hF d_X1_outer_192 rfl 1 rfl ?_
                refine g_iconst hF (v := 1) d_X1_outer_193 (by decide) ?_
                obtain ⟨J209, h209, w11⟩ := w192_
                have b209 : ∀ (s209 : St), J209 s209 → G SC r X s209 Z0 [] [(0, .ref (r 8)), (5, .int y0_84)] [] 209 := by
                  intro s209  w209_
                  have w209_ := h209 s209  w209_
                  refine g_aload_n hF d_X1_outer_209 rfl 0 rfl ?_
                  refine g_get (v := .int (s209 8 13)) hF 13 obC_8 (by decide) m_505 rfl d_X1_outer_210 ?_
                  obtain ⟨J249, h249, w12⟩ := w209_
                  have b249 : ∀ (s249 : St), J249 s249 → G SC r X s249 Z0 [] [(0, .ref (r 8)), (5, .int y0_84)] [] 249 := by
                    intro s249  w249_
                    have w249_ := h249 s249  w249_
                    refine g_aload_n hF d_X1_outer_249 rfl 0 rfl ?_
                    refine g_aload_n hF d_X1_outer_250 rfl 0 rfl ?_
                    refine g_get (v := .ref (r 6)) hF 2 obC_8 (by decide) m_491 rfl d_X1_outer_251 ?_
                    refine g_getN (v := .int (s249 6 5)) hF 5 obC_6 (by decide) nm_322 rfl d_X1_outer_254 ?_
                    refine g_put (v := (s249 6 5)) hF 14 obC_8 (by decide) m_506 rfl rfl rfl d_X1_outer_257 ?_
                    refine g_aload_n hF d_X1_outer_260 rfl 0 rfl ?_
                    refine g_get (v := .ref (r 6)) hF 2 obC_8 (by decide) m_491 rfl d_X1_outer_261 ?_
                    refine g_dup hF d_X1_outer_264 rfl ?_
                    refine g_getN (v := .int (s249 6 5)) hF 5 obC_6 (by decide) nm_322 rfl d_X1_outer_265 ?_
                    refine g_iload hF d_X1_outer_268 1 rfl ?_
                    refine g_iadd hF d_X1_outer_270 ?_
                    refine g_putN (v := ((s249 6 5) + y0_84)) hF 5 obC_6 (by decide) nm_322 rfl rfl rfl d_X1_outer_271 ?_
                    exact g_vret hF rfl d_X1_outer_274 ⟨rfl, rfl, rfl, w249_⟩
                  refine g_if_ne hF 249 d_X1_outer_213 (by decide) rfl (fun c => ?_) (fun c => ?_)
                  · have w13 := w12.1 c
                    exact b249 s209 w13
                  · have w14 := w12.2 c
                    refine g_aload_n hF d_X1_outer_216 rfl 0 rfl ?_
                    refine g_get (v := .ref (r 5)) hF 3 obC_8 (by decide) m_492 rfl d_X1_outer_217 ?_
                    refine g_aload_n hF d_X1_outer_220 rfl 0 rfl ?_
                    refine g_get (v := .int (s209 8 10)) hF 10 obC_8 (by decide) m_502 rfl d_X1_outer_221 ?_
                    refine g_iconst hF (v := 4) d_X1_outer_224 (by decide) ?_
                    refine g_callVN (As := [.int (s209 8 10), .int 4]) (rest := []) hF (fun l D cy => kt_X8_mark a r w14 l D cy) (Nat.le_of_ble_eq_true rfl) mV_X8_mark nm_1410 (recv_ob obC_5) rfl rfl (Nat.le_of_ble_eq_true rfl) d_X1_outer_225 (qV (fun s225 w15 => ?_))
                    refine g_aload_n hF d_X1_outer_228 rfl 0 rfl ?_
                    refine g_get (v := .ref (r 5)) hF 3 obC_8 (by decide) m_492 rfl d_X1_outer_229 ?_
                    refine g_getN (v := .ref (r 28)) hF 5 obC_5 (by decide) nm_235 rfl d_X1_outer_232 ?_
                    refine g_aload_n hF d_X1_outer_235 rfl 0 rfl ?_
                    refine g_get (v := .int (s225 8 10)) hF 10 obC_8 (by decide) m_502 rfl d_X1_outer_236 ?_
                    refine g_aload_n hF d_X1_outer_239 rfl 0 rfl ?_
                    refine g_get (v := .ref (r 6)) hF 2 obC_8 (by decide) m_491 rfl d_X1_outer_240 ?_
                    refine g_getN (v := .int (s225 6 5)) hF 5 obC_6 (by decide) nm_322 rfl d_X1_outer_243 ?_
                    refine g_callSN (As := [.ref (r 28), .int (s225 8 10), .int (s225 6 5)]) (rest := []) hF (c_setv a r s225 arC_28 (by decide) (s225 8 10) (s225 6 5)) (Nat.le_of_ble_eq_true rfl) mS_X12_set nm_1409 rfl rfl (Nat.le_of_ble_eq_true rfl) d_X1_outer_246 (kU ?_)
                    exact b249 (upF s225 28 (setv 10100 (s225 28) (s225 8 10) (s225 6 5))) w15
                refine g_icmp_ne (yv := 1) hF 209 d_X1_outer_194 (by decide) rfl (by decide) (fun c => ?_) (fun c => ?_)
                · have w16 := w11.1 c
                  exact g_sub (L' := [(0, .ref (r 8)), (5, .int y0_84)]) [0, 2] rfl (b209 s192 w16)
                · have w17 := w11.2 c
                  refine g_aload_n hF d_X1_outer_197 rfl 0 rfl ?_
                  refine g_get (v := .ref (r 5)) hF 3 obC_8 (by decide) m_492 rfl d_X1_outer_198 ?_
                  refine g_aload_n hF d_X1_outer_201 rfl 0 rfl ?_
                  refine g_get (v := .int (s192 8 10)) hF 10 obC_8 (by decide) m_502 rfl d_X1_outer_202 ?_
                  refine g_iconst hF (v := 2) d_X1_outer_205 (by decide) ?_
                  refine g_callVN (As := [.int (s192 8 10), .int 2]) (rest := []) hF (fun l D cy => kt_X8_mark a r w17 l D cy) (Nat.le_of_ble_eq_true rfl) mV_X8_mark nm_1410 (recv_ob obC_5) rfl rfl (Nat.le_of_ble_eq_true rfl) d_X1_outer_206 (qV (fun s206 w18 => ?_))
                  exact g_sub (L' := [(0, .ref (r 8)), (5, .int y0_84)]) [0, 2] rfl (b209 s206 w18)
              obtain ⟨J174, h174, w19⟩ := w10
              have b174 : J174  → G SC r X (upF (upC s141 8 10 y1_141) 26 (setv 10100 ((upC s141 8 10 y1_141) 26) y1_141 (s141 8 11))) Z0 [] [(0, .ref (r 8)), (2, .int a2), (5, .int y0_84)] [] 174 := by
                intro   w174_
                have w174_ := h174   w174_
                refine g_aload_n hF d_X1_outer_174 rfl 0 rfl ?_
                refine g_get (v := .ref (r 5)) hF 3 obC_8 (by decide) m_492 rfl d_X1_outer_175 ?_
                refine g_getN (v := .ref (r 27)) hF 4 obC_5 (by decide) nm_232 rfl d_X1_outer_178 ?_
                refine g_aload_n hF d_X1_outer_181 rfl 0 rfl ?_
                refine g_get (v := .int y1_141) hF 10 obC_8 (by decide) m_502 rfl d_X1_outer_182 ?_
                refine g_aload_n hF d_X1_outer_185 rfl 0 rfl ?_
                refine g_get (v := .int (s141 8 12)) hF 12 obC_8 (by decide) m_504 rfl d_X1_outer_186 ?_
                refine g_callSN (As := [.ref (r 27), .int y1_141, .int (s141 8 12)]) (rest := []) hF (c_setv a r (upF (upC s141 8 10 y1_141) 26 (setv 10100 ((upC s141 8 10 y1_141) 26) y1_141 (s141 8 11))) arC_27 (by decide) y1_141 (s141 8 12)) (Nat.le_of_ble_eq_true rfl) mS_X12_set nm_1409 rfl rfl (Nat.le_of_ble_eq_true rfl) d_X1_outer_189 (kU ?_)
                exact b192 (upF (upF (upC s141 8 10 y1_141) 26 (setv 10100 ((upC s141 8 10 y1_141) 26) y1_141 (s141 8 11))) 27 (setv 10100 ((upF (upC s141 8 10 y1_141) 26 (setv 10100 ((upC s141 8 10 y1_141) 26) y1_141 (s141 8 11))) 27) y1_141 (s141 8 12))) w174_
              refine g_if_lt hF 174 d_X1_outer_164 (by decide) rfl (fun c => ?_) (fun c => ?_)
              · have w20 := w19.1 c
                exact g_sub (L' := [(0, .ref (r 8)), (2, .int a2), (5, .int y0_84)]) [0, 1, 3] rfl (b174  w20)
              · have w21 := w19.2 c
                refine g_aload_n hF d_X1_outer_167 rfl 0 rfl ?_
                refine g_get (v := .int (s141 8 12)) hF 12 obC_8 (by decide) m_504 rfl d_X1_outer_168 ?_
                refine g_if_le hF 192 d_X1_outer_171 (by decide) rfl (fun c => ?_) (fun c => ?_)
                · have w22 := w21.1 c
                  exact g_sub (L' := [(0, .ref (r 8)), (2, .int a2), (5, .int y0_84)]) [0, 1, 3] rfl (b192 (upF (upC s141 8 10 y1_141) 26 (setv 10100 ((upC s141 8 10 y1_141) 26) y1_141 (s141 8 11))) w22)
                · have w23 := w21.2 c
                  exact g_sub (L' := [(0, .ref (r 8)), (2, .int a2), (5, .int y0_84)]) [0, 1, 3] rfl (b174  w23)
            refine g_if_ge hF 139 d_X1_outer_125 (by decide) rfl (fun c => ?_) (fun c => ?_)
            · have w24 := w9.1 c
              refine g_iload hF d_X1_outer_139 3 rfl ?_
              exact g_sub (L' := [(0, .ref (r 8)), (2, .int a2), (4, .int v5), (5, .int y0_84)]) [0, 2, 3, 4] rfl (b141 v5 s111 w24)
            · have w25 := w9.2 c
              refine g_aload_n hF d_X1_outer_128 rfl 0 rfl ?_
              refine g_get (v := .ref (r 6)) hF 2 obC_8 (by decide) m_491 rfl d_X1_outer_129 ?_
              refine g_iload_n hF d_X1_outer_132 rfl 1 rfl ?_
              refine g_callVN (As := [.int a1]) (rest := [.ref (r 8)]) hF (fun l D cy => kt_X11_declareOuter a r w25 l D cy) (Nat.le_of_ble_eq_true rfl) mV_X11_declareOuter nm_1398 (recv_ob obC_6) rfl rfl (Nat.le_of_ble_eq_true rfl) d_X1_outer_133 (qI (fun v133 s133 w26 => ?_))
              refine g_goto hF 141 d_X1_outer_136 (by decide) ?_
              exact g_sub (L' := [(0, .ref (r 8)), (2, .int a2), (4, .int v5), (5, .int y0_84)]) [0, 2, 3, 4] rfl (b141 v133 s133 w26)
          · have w27 := w111_.2 c
            exact g_vret hF rfl d_X1_outer_121 ⟨rfl, rfl, rfl, w27⟩
        refine g_icmp_le (yv := 16000) hF 111 d_X1_outer_99 (by decide) rfl (by decide) (fun c => ?_) (fun c => ?_)
        · have w28 := w7.1 c
          exact g_sub (L' := [(0, .ref (r 8)), (1, .int a1), (2, .int a2), (4, .int v5), (5, .int y0_84)]) [1, 2, 3, 4, 0] rfl (b111 s54 w28)
        · have w29 := w7.2 c
          refine g_aload_n hF d_X1_outer_102 rfl 1 rfl ?_
          refine g_get (v := .ref (r 6)) hF 2 obC_8 (by decide) m_491 rfl d_X1_outer_103 ?_
          refine g_iconst hF (v := 4) d_X1_outer_106 (by decide) ?_
          refine g_iload_n hF d_X1_outer_107 rfl 2 rfl ?_
          refine g_callVN (As := [.int 4, .int a1]) (rest := []) hF (fun l D cy => kt_X11_fail a r w29 l D cy) (Nat.le_of_ble_eq_true rfl) mV_X11_fail nm_1370 (recv_ob obC_6) rfl rfl (Nat.le_of_ble_eq_true rfl) d_X1_outer_108 (qV (fun s108 w30 => ?_))
          exact g_sub (L' := [(0, .ref (r 8)), (1, .int a1), (2, .int a2), (4, .int v5), (5, .int y0_84)]) [1, 2, 3, 4, 0] rfl (b111 s108 w30)
      refine g_if_eq hF 68 d_X1_outer_61 (by decide) rfl (fun c => ?_) (fun c => ?_)
      · have w31 := w6.1 c
        refine g_aload_n hF d_X1_outer_68 rfl 0 rfl ?_
        refine g_get (v := .int (s54 8 12)) hF 12 obC_8 (by decide) m_504 rfl d_X1_outer_69 ?_
        refine g_iconst hF (v := (-1)) d_X1_outer_72 (by decide) ?_
        refine g_icmp_ne (yv := -1) hF 80 d_X1_outer_73 (by decide) rfl (by decide) (fun c => ?_) (fun c => ?_)
        · have w32 := w31.1 c
          refine g_aload_n hF d_X1_outer_80 rfl 0 rfl ?_
          refine g_get (v := .int (s54 8 12)) hF 12 obC_8 (by decide) m_504 rfl d_X1_outer_81 ?_
          exact b84 (s54 8 12) w32
        · have w33 := w31.2 c
          refine g_iconst hF (v := 1) d_X1_outer_76 (by decide) ?_
          refine g_goto hF 84 d_X1_outer_77 (by decide) ?_
          exact b84 (1 : Int32) w33
      · have w34 := w6.2 c
        refine g_iconst hF (v := 0) d_X1_outer_64 (by decide) ?_
        refine g_goto hF 84 d_X1_outer_65 (by decide) ?_
        exact b84 (0 : Int32) w34
    obtain ⟨J49, h49, w35⟩ := w4
    have b49 : J49  → G SC r X s34 Z0 [] [(0, .ref (r 8)), (1, .int a1), (2, .int a2), (4, .int v5)] [.ref (r 8)] 49 := by
      intro   w49_
      have w49_ := h49   w49_
      refine g_iconst hF (v := 1) d_X1_outer_49 (by decide) ?_
      refine g_goto hF 54 d_X1_outer_50 (by decide) ?_
      exact b54 (1 : Int32) (Or.inr rfl) w49_
    refine g_if_ne hF 49 d_X1_outer_39 (by decide) rfl (fun c => ?_) (fun c => ?_)
    · have w36 := w35.1 c
      exact g_sub (L' := [(0, .ref (r 8)), (1, .int a1), (2, .int a2), (4, .int v5)]) [0, 1, 2, 4] rfl (b49  w36)
    · have w37 := w35.2 c
      refine g_aload_n hF d_X1_outer_42 rfl 0 rfl ?_
      refine g_get (v := .int (s34 8 13)) hF 13 obC_8 (by decide) m_505 rfl d_X1_outer_43 ?_
      refine g_if_eq hF 53 d_X1_outer_46 (by decide) rfl (fun c => ?_) (fun c => ?_)
      · have w38 := w37.1 c
        refine g_iconst hF (v := 0) d_X1_outer_53 (by decide) ?_
        exact g_sub (L' := [(0, .ref (r 8)), (1, .int a1), (2, .int a2), (4, .int v5)]) [0, 1, 2, 4] rfl (b54 (0 : Int32) (Or.inl rfl) w38)
      · have w39 := w37.2 c
        exact g_sub (L' := [(0, .ref (r 8)), (1, .int a1), (2, .int a2), (4, .int v5)]) [0, 1, 2, 4] rfl (b49  w39)
  obtain ⟨J29, h29, w40⟩ := w2
  have b29 : J29  → G SC r X σ Z0 [] [(0, .ref (r 8)), (1, .int a1), (2, .int a2), (3, .int a3), (4, .int v5)] [.int v5, .int a1, .ref (r 8)] 29 := by
    intro   w29_
    have w29_ := h29   w29_
    refine g_iconst hF (v := 1) d_X1_outer_29 (by decide) ?_
    refine g_goto hF 34 d_X1_outer_30 (by decide) ?_
    exact b34 (1 : Int32) (Or.inr rfl) w29_
  refine g_if_lt hF 29 d_X1_outer_16 (by decide) rfl (fun c => ?_) (fun c => ?_)
  · have w41 := w40.1 c
    exact g_sub (L' := [(0, .ref (r 8)), (1, .int a1), (2, .int a2), (3, .int a3), (4, .int v5)]) [1, 2, 3, 4, 0] rfl (b29  w41)
  · have w42 := w40.2 c
    refine g_aload_n hF d_X1_outer_19 rfl 1 rfl ?_
    refine g_iload hF d_X1_outer_20 0 rfl ?_
    refine g_iload_n hF d_X1_outer_22 rfl 3 rfl ?_
    refine g_callV (As := [.int v5, .int a2]) (rest := [.int v5, .int a1, .ref (r 8)]) hF (fun l D cy => kt_X1_joins a r w42 l D cy) (Nat.le_of_ble_eq_true rfl) mV_X1_joins m_1389 (recv_ob obC_8) rfl rfl (Nat.le_of_ble_eq_true rfl) d_X1_outer_23 (qZr (fun v23 hz23 w43 => ?_)) (fun _ _ _ h => h.elim)
    refine g_if_eq hF 33 d_X1_outer_26 (by decide) rfl (fun c => ?_) (fun c => ?_)
    · have w44 := w43.1 c
      refine g_iconst hF (v := 0) d_X1_outer_33 (by decide) ?_
      exact g_sub (L' := [(0, .ref (r 8)), (1, .int a1), (2, .int a2), (3, .int a3), (4, .int v5)]) [1, 2, 3, 4, 0] rfl (b34 (0 : Int32) (Or.inl rfl) w44)
    · have w45 := w43.2 c
      exact g_sub (L' := [(0, .ref (r 8)), (1, .int a1), (2, .int a2), (3, .int a3), (4, .int v5)]) [1, 2, 3, 4, 0] rfl (b29  w45)
