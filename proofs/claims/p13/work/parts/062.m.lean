set_option maxHeartbeats 4000000 in
set_option maxRecDepth 100000 in
theorem kt_X3_binary (a : Nat → Nat) (r : Nat → Nat) (dK : Nat) (hdK : 2 ≤ dK) (Kcall : Int32 → Int32 → St → (St → Prop) → Prop) (Kprimary : Int32 → St → (St → Prop) → Prop) (Kbehind : Int32 → St → (St → Prop) → Prop) (Kcast : Int32 → St → (St → Prop) → Prop) (Kunary : Int32 → St → (St → Prop) → Prop) (Kbinary : Int32 → St → (St → Prop) → Prop) (Kchoice : Int32 → St → (St → Prop) → Prop) (Kexpression : Int32 → St → (St → Prop) → Prop) (hKunary : ∀ {a1 : Int32} {σ : St} {Q : St → Prop}, Kunary a1 σ Q → ∀ (l : Launch) (D : va_G) (cy : Nat → ClassId), Ct l D cy SC r (EC a gC) y_X3_unary (Cond.code y_X3_unary b_X3_unary 3 none) dK [.ref (r 3), .int a1] σ Z0 [] (QV Q) QT0) {a1 : Int32} {σ : St} {Q : St → Prop} (w : wk_X3_binary Kcall Kprimary Kbehind Kcast Kunary Kbinary Kchoice Kexpression a1 σ Q) (l : Launch) (D : va_G) (cy : Nat → ClassId) : Ct l D cy SC r (EC a gC) y_X3_binary (Cond.code y_X3_binary b_X3_binary 4 none) (dK + 1) [.ref (r 3), .int a1] σ Z0 [] (QV Q) QT0 := by
  unfold wk_X3_binary at w
  refine Ct_of (EC_ok a gC) (by decide) (Nat.le_of_ble_eq_true rfl) (by decide) (fun X hnn hF => ?_)
  show G SC r X σ Z0 [] [(0, .ref (r 3)), (1, .int a1)] [] 0
  refine g_aload_n hF d_X3_binary_0 rfl 0 rfl ?_
  refine g_get (v := .int (σ 3 9)) hF 9 obC_3 (by decide) m_114 rfl d_X3_binary_1 ?_
  refine g_istore_n hF [(2, .int (σ 3 9)), (0, .ref (r 3)), (1, .int a1)] d_X3_binary_4 rfl hnn (by decide) rfl ?_
  refine g_aload_n hF d_X3_binary_5 rfl 1 rfl ?_
  refine g_iload_n hF d_X3_binary_6 rfl 2 rfl ?_
  refine g_callV (As := [.int a1]) (rest := []) hF (fun l D cy => hKunary w l D cy) (Nat.le_refl _) mV_X3_unary m_939 (recv_ob obC_3) rfl rfl (Nat.le_of_ble_eq_true rfl) d_X3_binary_7 (qV (fun s7 w1 => ?_)) (fun _ _ _ h => h.elim)
  refine g_aload_n hF d_X3_binary_10 rfl 1 rfl ?_
  refine g_get (v := .ref (r 2)) hF 0 obC_3 (by decide) m_94 rfl d_X3_binary_11 ?_
  refine g_getN (v := .int (s7 2 4)) hF 4 obC_2 (by decide) nm_47 rfl d_X3_binary_14 ?_
  refine g_istore_n hF [(3, .int (s7 2 4)), (2, .int (σ 3 9)), (0, .ref (r 3)), (1, .int a1)] d_X3_binary_17 rfl hnn (by decide) rfl ?_
  obtain ⟨L18, ⟨i18, u18⟩, h18⟩ := w1
  have b18 : ∀ (n18 : Nat) (x3_18 : Int32) (s18 : St), L18 n18 x3_18 s18 → G SC r X s18 Z0 [] [(0, .ref (r 3)), (1, .int a1), (2, .int (σ 3 9)), (3, .int x3_18)] [] 18 := by
    intro n18
    induction n18 using Nat.strongRecOn with
    | _ n18 ih18 =>
      intro x3_18 s18  w18_
      have w18_ := h18 n18 x3_18 s18  w18_
      refine g_iload_n hF d_X3_binary_18 rfl 3 rfl ?_
      obtain ⟨J97, h97, w2⟩ := w18_
      have b97 : J97  → G SC r X s18 Z0 [] [(0, .ref (r 3)), (2, .int (σ 3 9))] [] 97 := by
        intro   w97_
        have w97_ := h97   w97_
        refine g_aload_n hF d_X3_binary_97 rfl 0 rfl ?_
        refine g_iload_n hF d_X3_binary_98 rfl 1 rfl ?_
        refine g_iconst hF (v := 0) d_X3_binary_99 (by decide) ?_
        refine g_callV (As := [.int (σ 3 9), .int 0]) (rest := []) hF (fun l D cy => kt_X3_settle a r w97_ l D cy) (Nat.add_le_add_right (Nat.le_trans (Nat.le_of_ble_eq_true rfl) hdK) 1) mV_X3_settle m_975 (recv_ob obC_3) rfl rfl (Nat.le_of_ble_eq_true rfl) d_X3_binary_100 (qV (fun s100 w3 => ?_)) (fun _ _ _ h => h.elim)
        exact g_vret hF rfl d_X3_binary_103 ⟨rfl, rfl, rfl, w3⟩
      refine g_if_le hF 97 d_X3_binary_19 (by decide) rfl (fun c => ?_) (fun c => ?_)
      · have w4 := w2.1 c
        exact g_sub (L' := [(0, .ref (r 3)), (2, .int (σ 3 9))]) [0, 2] rfl (b97  w4)
      · have w5 := w2.2 c
        refine g_aload_n hF d_X3_binary_22 rfl 0 rfl ?_
        refine g_get (v := .int (s18 3 2)) hF 2 obC_3 (by decide) m_96 rfl d_X3_binary_23 ?_
        refine g_callS (As := [.int (s18 3 2)]) (rest := []) hF (fun l D cy => kt_X3_levelOf a r w5 l D cy) (Nat.add_le_add_right (Nat.le_trans (Nat.le_of_ble_eq_true rfl) hdK) 1) mS_X3_levelOf m_970 rfl rfl (Nat.le_of_ble_eq_true rfl) d_X3_binary_26 (qIr (fun v26 w6 => ?_)) (fun _ _ _ h => h.elim)
        refine g_if_le hF 97 d_X3_binary_29 (by decide) rfl (fun c => ?_) (fun c => ?_)
        · have w7 := w6.1 c
          exact g_sub (L' := [(0, .ref (r 3)), (2, .int (σ 3 9))]) [0, 2] rfl (b97  w7)
        · have w8 := w6.2 c
          refine g_aload_n hF d_X3_binary_32 rfl 0 rfl ?_
          refine g_iload_n hF d_X3_binary_33 rfl 2 rfl ?_
          refine g_aload_n hF d_X3_binary_34 rfl 0 rfl ?_
          refine g_get (v := .int (s18 3 2)) hF 2 obC_3 (by decide) m_96 rfl d_X3_binary_35 ?_
          refine g_callS (As := [.int (s18 3 2)]) (rest := [.int (σ 3 9), .ref (r 3)]) hF (fun l D cy => kt_X3_levelOf a r w8 l D cy) (Nat.add_le_add_right (Nat.le_trans (Nat.le_of_ble_eq_true rfl) hdK) 1) mS_X3_levelOf m_970 rfl rfl (Nat.le_of_ble_eq_true rfl) d_X3_binary_38 (qIr (fun v38 w9 => ?_)) (fun _ _ _ h => h.elim)
          refine g_callV (As := [.int (σ 3 9), .int v38]) (rest := []) hF (fun l D cy => kt_X3_settle a r w9 l D cy) (Nat.add_le_add_right (Nat.le_trans (Nat.le_of_ble_eq_true rfl) hdK) 1) mV_X3_settle m_975 (recv_ob obC_3) rfl rfl (Nat.le_of_ble_eq_true rfl) d_X3_binary_41 (qV (fun s41 w10 => ?_)) (fun _ _ _ h => h.elim)
          refine g_aload_n hF d_X3_binary_44 rfl 0 rfl ?_
          refine g_get (v := .ref (r 22)) hF 10 obC_3 (by decide) m_115 rfl d_X3_binary_45 ?_
          refine g_aload_n hF d_X3_binary_48 rfl 0 rfl ?_
          refine g_get (v := .int (s41 3 9)) hF 9 obC_3 (by decide) m_114 rfl d_X3_binary_49 ?_
          refine g_aload_n hF d_X3_binary_52 rfl 0 rfl ?_
          refine g_get (v := .int (s41 3 1)) hF 1 obC_3 (by decide) m_95 rfl d_X3_binary_53 ?_
          refine g_callSN (As := [.ref (r 22), .int (s41 3 9), .int (s41 3 1)]) (rest := []) hF (c_setv a r s41 arC_22 (by decide) (s41 3 9) (s41 3 1)) (Nat.add_le_add_right (Nat.le_trans (Nat.le_of_ble_eq_true rfl) hdK) 1) mS_X12_set nm_979 rfl rfl (Nat.le_of_ble_eq_true rfl) d_X3_binary_56 (kU ?_)
          refine g_aload_n hF d_X3_binary_59 rfl 0 rfl ?_
          refine g_dup hF d_X3_binary_60 rfl ?_
          refine g_get (v := .int (s41 3 9)) hF 9 obC_3 (by decide) m_114 rfl d_X3_binary_61 ?_
          refine g_iconst hF (v := 1) d_X3_binary_64 (by decide) ?_
          refine g_iadd hF d_X3_binary_65 ?_
          refine g_put (v := ((s41 3 9) + (1 : Int32))) hF 9 obC_3 (by decide) m_114 rfl rfl rfl d_X3_binary_66 ?_
          refine g_aload_n hF d_X3_binary_69 rfl 0 rfl ?_
          refine g_bipush hF (v := 7) d_X3_binary_70 (by decide) ?_
          refine g_aload_n hF d_X3_binary_72 rfl 0 rfl ?_
          refine g_get (v := .int (s41 3 1)) hF 1 obC_3 (by decide) m_95 rfl d_X3_binary_73 ?_
          refine g_iconst hF (v := 0) d_X3_binary_76 (by decide) ?_
          refine g_iconst hF (v := 0) d_X3_binary_77 (by decide) ?_
          refine g_callV (As := [.int 7, .int (s41 3 1), .int 0, .int 0]) (rest := []) hF (fun l D cy => kt_X3_add a r w10 l D cy) (Nat.add_le_add_right (Nat.le_trans (Nat.le_of_ble_eq_true rfl) hdK) 1) mV_X3_add m_923 (recv_ob obC_3) rfl rfl (Nat.le_of_ble_eq_true rfl) d_X3_binary_78 (qI (fun v78 s78 w11 => ?_)) (fun _ _ _ h => h.elim)
          refine g_pop hF d_X3_binary_81 rfl ?_
          refine g_aload_n hF d_X3_binary_82 rfl 0 rfl ?_
          refine g_callV (As := []) (rest := []) hF (fun l D cy => kt_X3_advance a r w11 l D cy) (Nat.add_le_add_right (Nat.le_trans (Nat.le_of_ble_eq_true rfl) hdK) 1) mV_X3_advance m_899 (recv_ob obC_3) rfl rfl (Nat.le_of_ble_eq_true rfl) d_X3_binary_83 (qV (fun s83 w12 => ?_)) (fun _ _ _ h => h.elim)
          refine g_aload_n hF d_X3_binary_86 rfl 0 rfl ?_
          refine g_iload_n hF d_X3_binary_87 rfl 1 rfl ?_
          refine g_callV (As := [.int a1]) (rest := []) hF (fun l D cy => hKunary w12 l D cy) (Nat.le_refl _) mV_X3_unary m_939 (recv_ob obC_3) rfl rfl (Nat.le_of_ble_eq_true rfl) d_X3_binary_88 (qV (fun s88 w13 => ?_)) (fun _ _ _ h => h.elim)
          refine g_iinc hF (x3_18 + (-1)) [(3, .int (x3_18 + (-1))), (0, .ref (r 3)), (1, .int a1), (2, .int (σ 3 9))] d_X3_binary_91 3 rfl rfl hnn (by decide) rfl ?_
          refine g_goto hF 18 d_X3_binary_94 (by decide) ?_
          obtain ⟨m18, hm18, w9⟩ := w13
          exact g_sub (L' := [(0, .ref (r 3)), (1, .int a1), (2, .int (σ 3 9)), (3, .int (x3_18 + (-1)))]) [1, 2, 3, 0] rfl (ih18 m18 hm18 (x3_18 + (-1)) s88 w9)
  exact g_sub (L' := [(0, .ref (r 3)), (1, .int a1), (2, .int (σ 3 9)), (3, .int (s7 2 4))]) [2, 3, 1, 0] rfl (b18 i18 (s7 2 4) s7 u18)
set_option maxHeartbeats 4000000 in
set_option maxRecDepth 100000 in
theorem kt_X3_choice (a : Nat → Nat) (r : Nat → Nat) (dK : Nat) (hdK : 2 ≤ dK) (Kcall : Int32 → Int32 → St → (St → Prop) → Prop) (Kprimary : Int32 → St → (St → Prop) → Prop) (Kbehind : Int32 → St → (St → Prop) → Prop) (Kcast : Int32 → St → (St → Prop) → Prop) (Kunary : Int32 → St → (St → Prop) → Prop) (Kbinary : Int32 → St → (St → Prop) → Prop) (Kchoice : Int32 → St → (St → Prop) → Prop) (Kexpression : Int32 → St → (St → Prop) → Prop) (hKbinary : ∀ {a1 : Int32} {σ : St} {Q : St → Prop}, Kbinary a1 σ Q → ∀ (l : Launch) (D : va_G) (cy : Nat → ClassId), Ct l D cy SC r (EC a gC) y_X3_binary (Cond.code y_X3_binary b_X3_binary 4 none) dK [.ref (r 3), .int a1] σ Z0 [] (QV Q) QT0) (hKchoice : ∀ {a1 : Int32} {σ : St} {Q : St → Prop}, Kchoice a1 σ Q → ∀ (l : Launch) (D : va_G) (cy : Nat → ClassId), Ct l D cy SC r (EC a gC) y_X3_choice (Cond.code y_X3_choice b_X3_choice 3 none) dK [.ref (r 3), .int a1] σ Z0 [] (QV Q) QT0) (hKexpression : ∀ {a1 : Int32} {σ : St} {Q : St → Prop}, Kexpression a1 σ Q → ∀ (l : Launch) (D : va_G) (cy : Nat → ClassId), Ct l D cy SC r (EC a gC) y_X3_expression (Cond.code y_X3_expression b_X3_expression 3 none) dK [.ref (r 3), .int a1] σ Z0 [] (QV Q) QT0) {a1 : Int32} {σ : St} {Q : St → Prop} (w : wk_X3_choice Kcall Kprimary Kbehind Kcast Kunary Kbinary Kchoice Kexpression a1 σ Q) (l : Launch) (D : va_G) (cy : Nat → ClassId) : Ct l D cy SC r (EC a gC) y_X3_choice (Cond.code y_X3_choice b_X3_choice 3 none) (dK + 1) [.ref (r 3), .int a1] σ Z0 [] (QV Q) QT0 := by
  unfold wk_X3_choice at w
  refine Ct_of (EC_ok a gC) (by decide) (Nat.le_of_ble_eq_true rfl) (by decide) (fun X hnn hF => ?_)
  show G SC r X σ Z0 [] [(0, .ref (r 3)), (1, .int a1)] [] 0
  refine g_aload_n hF d_X3_choice_0 rfl 0 rfl ?_
  refine g_iload_n hF d_X3_choice_1 rfl 1 rfl ?_
  refine g_callV (As := [.int a1]) (rest := []) hF (fun l D cy => hKbinary w l D cy) (Nat.le_refl _) mV_X3_binary m_935 (recv_ob obC_3) rfl rfl (Nat.le_of_ble_eq_true rfl) d_X3_choice_2 (qV (fun s2 w1 => ?_)) (fun _ _ _ h => h.elim)
  refine g_aload_n hF d_X3_choice_5 rfl 0 rfl ?_
  refine g_get (v := .int (s2 3 1)) hF 1 obC_3 (by decide) m_95 rfl d_X3_choice_6 ?_
  refine g_istore_n hF [(2, .int (s2 3 1)), (0, .ref (r 3)), (1, .int a1)] d_X3_choice_9 rfl hnn (by decide) rfl ?_
  refine g_aload_n hF d_X3_choice_10 rfl 1 rfl ?_
  refine g_get (v := .int (s2 3 2)) hF 2 obC_3 (by decide) m_96 rfl d_X3_choice_11 ?_
  refine g_bipush hF (v := 28) d_X3_choice_14 (by decide) ?_
  refine g_icmp_ne (yv := 28) hF 77 d_X3_choice_16 (by decide) rfl (by decide) (fun c => ?_) (fun c => ?_)
  · have w2 := w1.1 c
    exact g_vret hF rfl d_X3_choice_77 ⟨rfl, rfl, rfl, w2⟩
  · have w3 := w1.2 c
    refine g_aload_n hF d_X3_choice_19 rfl 1 rfl ?_
    refine g_iload_n hF d_X3_choice_20 rfl 2 rfl ?_
    refine g_callV (As := [.int a1]) (rest := []) hF (fun l D cy => kt_X3_deeper a r w3 l D cy) (Nat.add_le_add_right (Nat.le_trans (Nat.le_of_ble_eq_true rfl) hdK) 1) mV_X3_deeper m_943 (recv_ob obC_3) rfl rfl (Nat.le_of_ble_eq_true rfl) d_X3_choice_21 (qZ (fun v21 s21 hz21 w4 => ?_)) (fun _ _ _ h => h.elim)
    refine g_if_eq hF 77 d_X3_choice_24 (by decide) rfl (fun c => ?_) (fun c => ?_)
    · have w5 := w4.1 c
      exact g_vret hF rfl d_X3_choice_77 ⟨rfl, rfl, rfl, w5⟩
    · have w6 := w4.2 c
      refine g_aload_n hF d_X3_choice_27 rfl 1 rfl ?_
      refine g_bipush hF (v := 14) d_X3_choice_28 (by decide) ?_
      refine g_iload_n hF d_X3_choice_30 rfl 0 rfl ?_
      refine g_iconst hF (v := 0) d_X3_choice_31 (by decide) ?_
      refine g_iconst hF (v := 0) d_X3_choice_32 (by decide) ?_
      refine g_callV (As := [.int 14, .int (s2 3 1), .int 0, .int 0]) (rest := []) hF (fun l D cy => kt_X3_add a r w6 l D cy) (Nat.add_le_add_right (Nat.le_trans (Nat.le_of_ble_eq_true rfl) hdK) 1) mV_X3_add m_923 (recv_ob obC_3) rfl rfl (Nat.le_of_ble_eq_true rfl) d_X3_choice_33 (qI (fun v33 s33 w7 => ?_)) (fun _ _ _ h => h.elim)
      refine g_pop hF d_X3_choice_36 rfl ?_
      refine g_aload_n hF d_X3_choice_37 rfl 1 rfl ?_
      refine g_iload_n hF d_X3_choice_38 rfl 2 rfl ?_
      refine g_iconst hF (v := 1) d_X3_choice_39 (by decide) ?_
      refine g_iadd hF d_X3_choice_40 ?_
      refine g_callV (As := [.int (a1 + (1 : Int32))]) (rest := []) hF (fun l D cy => hKexpression w7 l D cy) (Nat.le_refl _) mV_X3_expression m_927 (recv_ob obC_3) rfl rfl (Nat.le_of_ble_eq_true rfl) d_X3_choice_41 (qV (fun s41 w8 => ?_)) (fun _ _ _ h => h.elim)
      refine g_aload_n hF d_X3_choice_44 rfl 1 rfl ?_
      refine g_bipush hF (v := 29) d_X3_choice_45 (by decide) ?_
      refine g_callV (As := [.int 29]) (rest := []) hF (fun l D cy => kt_X3_expect a r w8 l D cy) (Nat.add_le_add_right (Nat.le_trans (Nat.le_of_ble_eq_true rfl) hdK) 1) mV_X3_expect m_903 (recv_ob obC_3) rfl rfl (Nat.le_of_ble_eq_true rfl) d_X3_choice_47 (qV (fun s47 w9 => ?_)) (fun _ _ _ h => h.elim)
      refine g_aload_n hF d_X3_choice_50 rfl 1 rfl ?_
      refine g_bipush hF (v := 15) d_X3_choice_51 (by decide) ?_
      refine g_iload_n hF d_X3_choice_53 rfl 0 rfl ?_
      refine g_iconst hF (v := 0) d_X3_choice_54 (by decide) ?_
      refine g_iconst hF (v := 0) d_X3_choice_55 (by decide) ?_
      refine g_callV (As := [.int 15, .int (s2 3 1), .int 0, .int 0]) (rest := []) hF (fun l D cy => kt_X3_add a r w9 l D cy) (Nat.add_le_add_right (Nat.le_trans (Nat.le_of_ble_eq_true rfl) hdK) 1) mV_X3_add m_923 (recv_ob obC_3) rfl rfl (Nat.le_of_ble_eq_true rfl) d_X3_choice_56 (qI (fun v56 s56 w10 => ?_)) (fun _ _ _ h => h.elim)
      refine g_pop hF d_X3_choice_59 rfl ?_
      refine g_aload_n hF d_X3_choice_60 rfl 1 rfl ?_
      refine g_iload_n hF d_X3_choice_61 rfl 2 rfl ?_
      refine g_iconst hF (v := 1) d_X3_choice_62 (by decide) ?_
      refine g_iadd hF d_X3_choice_63 ?_
      refine g_callV (As := [.int (a1 + (1 : Int32))]) (rest := []) hF (fun l D cy => hKchoice w10 l D cy) (Nat.le_refl _) mV_X3_choice m_931 (recv_ob obC_3) rfl rfl (Nat.le_of_ble_eq_true rfl) d_X3_choice_64 (qV (fun s64 w11 => ?_)) (fun _ _ _ h => h.elim)
      refine g_aload_n hF d_X3_choice_67 rfl 1 rfl ?_
      refine g_bipush hF (v := 16) d_X3_choice_68 (by decide) ?_
      refine g_iload_n hF d_X3_choice_70 rfl 0 rfl ?_
      refine g_iconst hF (v := 0) d_X3_choice_71 (by decide) ?_
      refine g_iconst hF (v := 0) d_X3_choice_72 (by decide) ?_
      refine g_callV (As := [.int 16, .int (s2 3 1), .int 0, .int 0]) (rest := []) hF (fun l D cy => kt_X3_add a r w11 l D cy) (Nat.add_le_add_right (Nat.le_trans (Nat.le_of_ble_eq_true rfl) hdK) 1) mV_X3_add m_923 (recv_ob obC_3) rfl rfl (Nat.le_of_ble_eq_true rfl) d_X3_choice_73 (qI (fun v73 s73 w12 => ?_)) (fun _ _ _ h => h.elim)
      refine g_pop hF d_X3_choice_76 rfl ?_
      exact g_vret hF rfl d_X3_choice_77 ⟨rfl, rfl, rfl, w12⟩
set_option maxHeartbeats 4000000 in
set_option maxRecDepth 100000 in
theorem kt_X3_expression (a : Nat → Nat) (r : Nat → Nat) (dK : Nat) (hdK : 2 ≤ dK) (Kcall : Int32 → Int32 → St → (St → Prop) → Prop) (Kprimary : Int32 → St → (St → Prop) → Prop) (Kbehind : Int32 → St → (St → Prop) → Prop) (Kcast : Int32 → St → (St → Prop) → Prop) (Kunary : Int32 → St → (St → Prop) → Prop) (Kbinary : Int32 → St → (St → Prop) → Prop) (Kchoice : Int32 → St → (St → Prop) → Prop) (Kexpression : Int32 → St → (St → Prop) → Prop) (hKchoice : ∀ {a1 : Int32} {σ : St} {Q : St → Prop}, Kchoice a1 σ Q → ∀ (l : Launch) (D : va_G) (cy : Nat → ClassId), Ct l D cy SC r (EC a gC) y_X3_choice (Cond.code y_X3_choice b_X3_choice 3 none) dK [.ref (r 3), .int a1] σ Z0 [] (QV Q) QT0) (hKexpression : ∀ {a1 : Int32} {σ : St} {Q : St → Prop}, Kexpression a1 σ Q → ∀ (l : Launch) (D : va_G) (cy : Nat → ClassId), Ct l D cy SC r (EC a gC) y_X3_expression (Cond.code y_X3_expression b_X3_expression 3 none) dK [.ref (r 3), .int a1] σ Z0 [] (QV Q) QT0) {a1 : Int32} {σ : St} {Q : St → Prop} (w : wk_X3_expression Kcall Kprimary Kbehind Kcast Kunary Kbinary Kchoice Kexpression a1 σ Q) (l : Launch) (D : va_G) (cy : Nat → ClassId) : Ct l D cy SC r (EC a gC) y_X3_expression (Cond.code y_X3_expression b_X3_expression 3 none) (dK + 1) [.ref (r 3), .int a1] σ Z0 [] (QV Q) QT0 := by
  unfold wk_X3_expression at w
  refine Ct_of (EC_ok a gC) (by decide) (Nat.le_of_ble_eq_true rfl) (by decide) (fun X hnn hF => ?_)
  show G SC r X σ Z0 [] [(0, .ref (r 3)), (1, .int a1)] [] 0
  refine g_aload_n hF d_X3_expression_0 rfl 0 rfl ?_
  refine g_iload_n hF d_X3_expression_1 rfl 1 rfl ?_
  refine g_callV (As := [.int a1]) (rest := []) hF (fun l D cy => hKchoice w l D cy) (Nat.le_refl _) mV_X3_choice m_931 (recv_ob obC_3) rfl rfl (Nat.le_of_ble_eq_true rfl) d_X3_expression_2 (qV (fun s2 w1 => ?_)) (fun _ _ _ h => h.elim)
  refine g_aload_n hF d_X3_expression_5 rfl 0 rfl ?_
  refine g_get (v := .int (s2 3 1)) hF 1 obC_3 (by decide) m_95 rfl d_X3_expression_6 ?_
  refine g_istore_n hF [(2, .int (s2 3 1)), (0, .ref (r 3)), (1, .int a1)] d_X3_expression_9 rfl hnn (by decide) rfl ?_
  refine g_aload_n hF d_X3_expression_10 rfl 1 rfl ?_
  refine g_get (v := .int (s2 3 2)) hF 2 obC_3 (by decide) m_96 rfl d_X3_expression_11 ?_
  refine g_bipush hF (v := 30) d_X3_expression_14 (by decide) ?_
  refine g_icmp_lt (yv := 30) hF 63 d_X3_expression_16 (by decide) rfl (by decide) (fun c => ?_) (fun c => ?_)
  · have w2 := w1.1 c
    exact g_vret hF rfl d_X3_expression_63 ⟨rfl, rfl, rfl, w2⟩
  · have w3 := w1.2 c
    refine g_aload_n hF d_X3_expression_19 rfl 1 rfl ?_
    refine g_get (v := .int (s2 3 2)) hF 2 obC_3 (by decide) m_96 rfl d_X3_expression_20 ?_
    refine g_bipush hF (v := 40) d_X3_expression_23 (by decide) ?_
    refine g_icmp_gt (yv := 40) hF 63 d_X3_expression_25 (by decide) rfl (by decide) (fun c => ?_) (fun c => ?_)
    · have w4 := w3.1 c
      exact g_vret hF rfl d_X3_expression_63 ⟨rfl, rfl, rfl, w4⟩
    · have w5 := w3.2 c
      refine g_aload_n hF d_X3_expression_28 rfl 1 rfl ?_
      refine g_iload_n hF d_X3_expression_29 rfl 2 rfl ?_
      refine g_callV (As := [.int a1]) (rest := []) hF (fun l D cy => kt_X3_deeper a r w5 l D cy) (Nat.add_le_add_right (Nat.le_trans (Nat.le_of_ble_eq_true rfl) hdK) 1) mV_X3_deeper m_943 (recv_ob obC_3) rfl rfl (Nat.le_of_ble_eq_true rfl) d_X3_expression_30 (qZ (fun v30 s30 hz30 w6 => ?_)) (fun _ _ _ h => h.elim)
      refine g_if_eq hF 63 d_X3_expression_33 (by decide) rfl (fun c => ?_) (fun c => ?_)
      · have w7 := w6.1 c
        exact g_vret hF rfl d_X3_expression_63 ⟨rfl, rfl, rfl, w7⟩
      · have w8 := w6.2 c
        refine g_aload_n hF d_X3_expression_36 rfl 1 rfl ?_
        refine g_bipush hF (v := 7) d_X3_expression_37 (by decide) ?_
        refine g_iload_n hF d_X3_expression_39 rfl 0 rfl ?_
        refine g_iconst hF (v := 0) d_X3_expression_40 (by decide) ?_
        refine g_iconst hF (v := 0) d_X3_expression_41 (by decide) ?_
        refine g_callV (As := [.int 7, .int (s2 3 1), .int 0, .int 0]) (rest := []) hF (fun l D cy => kt_X3_add a r w8 l D cy) (Nat.add_le_add_right (Nat.le_trans (Nat.le_of_ble_eq_true rfl) hdK) 1) mV_X3_add m_923 (recv_ob obC_3) rfl rfl (Nat.le_of_ble_eq_true rfl) d_X3_expression_42 (qI (fun v42 s42 w9 => ?_)) (fun _ _ _ h => h.elim)
        refine g_pop hF d_X3_expression_45 rfl ?_
        refine g_aload_n hF d_X3_expression_46 rfl 1 rfl ?_
        refine g_iload_n hF d_X3_expression_47 rfl 2 rfl ?_
        refine g_iconst hF (v := 1) d_X3_expression_48 (by decide) ?_
        refine g_iadd hF d_X3_expression_49 ?_
        refine g_callV (As := [.int (a1 + (1 : Int32))]) (rest := []) hF (fun l D cy => hKexpression w9 l D cy) (Nat.le_refl _) mV_X3_expression m_927 (recv_ob obC_3) rfl rfl (Nat.le_of_ble_eq_true rfl) d_X3_expression_50 (qV (fun s50 w10 => ?_)) (fun _ _ _ h => h.elim)
        refine g_aload_n hF d_X3_expression_53 rfl 1 rfl ?_
        refine g_bipush hF (v := 9) d_X3_expression_54 (by decide) ?_
        refine g_iload_n hF d_X3_expression_56 rfl 0 rfl ?_
        refine g_iconst hF (v := 0) d_X3_expression_57 (by decide) ?_
        refine g_iconst hF (v := 0) d_X3_expression_58 (by decide) ?_
        refine g_callV (As := [.int 9, .int (s2 3 1), .int 0, .int 0]) (rest := []) hF (fun l D cy => kt_X3_add a r w10 l D cy) (Nat.add_le_add_right (Nat.le_trans (Nat.le_of_ble_eq_true rfl) hdK) 1) mV_X3_add m_923 (recv_ob obC_3) rfl rfl (Nat.le_of_ble_eq_true rfl) d_X3_expression_59 (qI (fun v59 s59 w11 => ?_)) (fun _ _ _ h => h.elim)
        refine g_pop hF d_X3_expression_62 rfl ?_
        exact g_vret hF rfl d_X3_expression_63 ⟨rfl, rfl, rfl, w11⟩
set_option maxHeartbeats 4000000 in
theorem ckvA (a : Nat → Nat) (r : Nat → Nat) (n : Nat) : (∀ {a1 : Int32} {a2 : Int32} {σ : St} {Q : St → Prop}, (KVA n).1 a1 a2 σ Q → ∀ (l : Launch) (D : va_G) (cy : Nat → ClassId), Ct l D cy SC r (EC a gC) y_X3_call (Cond.code y_X3_call b_X3_call 5 none) (2 + n) [.ref (r 3), .int a1, .int a2] σ Z0 [] (QV Q) QT0) ∧ (∀ {a1 : Int32} {σ : St} {Q : St → Prop}, (KVA n).2.1 a1 σ Q → ∀ (l : Launch) (D : va_G) (cy : Nat → ClassId), Ct l D cy SC r (EC a gC) y_X3_primary (Cond.code y_X3_primary b_X3_primary 3 none) (2 + n) [.ref (r 3), .int a1] σ Z0 [] (QV Q) QT0) ∧ (∀ {a1 : Int32} {σ : St} {Q : St → Prop}, (KVA n).2.2.1 a1 σ Q → ∀ (l : Launch) (D : va_G) (cy : Nat → ClassId), Ct l D cy SC r (EC a gC) y_X3_behind (Cond.code y_X3_behind b_X3_behind 5 none) (2 + n) [.ref (r 3), .int a1] σ Z0 [] (QV Q) QT0) ∧ (∀ {a1 : Int32} {σ : St} {Q : St → Prop}, (KVA n).2.2.2.1 a1 σ Q → ∀ (l : Launch) (D : va_G) (cy : Nat → ClassId), Ct l D cy SC r (EC a gC) y_X3_cast (Cond.code y_X3_cast b_X3_cast 4 none) (2 + n) [.ref (r 3), .int a1] σ Z0 [] (QV Q) QT0) ∧ (∀ {a1 : Int32} {σ : St} {Q : St → Prop}, (KVA n).2.2.2.2.1 a1 σ Q → ∀ (l : Launch) (D : va_G) (cy : Nat → ClassId), Ct l D cy SC r (EC a gC) y_X3_unary (Cond.code y_X3_unary b_X3_unary 3 none) (2 + n) [.ref (r 3), .int a1] σ Z0 [] (QV Q) QT0) ∧ (∀ {a1 : Int32} {σ : St} {Q : St → Prop}, (KVA n).2.2.2.2.2.1 a1 σ Q → ∀ (l : Launch) (D : va_G) (cy : Nat → ClassId), Ct l D cy SC r (EC a gC) y_X3_binary (Cond.code y_X3_binary b_X3_binary 4 none) (2 + n) [.ref (r 3), .int a1] σ Z0 [] (QV Q) QT0) ∧ (∀ {a1 : Int32} {σ : St} {Q : St → Prop}, (KVA n).2.2.2.2.2.2.1 a1 σ Q → ∀ (l : Launch) (D : va_G) (cy : Nat → ClassId), Ct l D cy SC r (EC a gC) y_X3_choice (Cond.code y_X3_choice b_X3_choice 3 none) (2 + n) [.ref (r 3), .int a1] σ Z0 [] (QV Q) QT0) ∧ (∀ {a1 : Int32} {σ : St} {Q : St → Prop}, (KVA n).2.2.2.2.2.2.2 a1 σ Q → ∀ (l : Launch) (D : va_G) (cy : Nat → ClassId), Ct l D cy SC r (EC a gC) y_X3_expression (Cond.code y_X3_expression b_X3_expression 3 none) (2 + n) [.ref (r 3), .int a1] σ Z0 [] (QV Q) QT0) := by
  induction n with
  | zero => exact ⟨fun h => h.elim, fun h => h.elim, fun h => h.elim, fun h => h.elim, fun h => h.elim, fun h => h.elim, fun h => h.elim, fun h => h.elim⟩
  | succ n ih =>
    obtain ⟨hcall, hprimary, hbehind, hcast, hunary, hbinary, hchoice, hexpression⟩ := ih
    exact ⟨fun w => kt_X3_call a r (2 + n) (Nat.le_trans (Nat.le_of_ble_eq_true rfl) (Nat.le_add_right _ n)) ((KVA n).1) ((KVA n).2.1) ((KVA n).2.2.1) ((KVA n).2.2.2.1) ((KVA n).2.2.2.2.1) ((KVA n).2.2.2.2.2.1) ((KVA n).2.2.2.2.2.2.1) ((KVA n).2.2.2.2.2.2.2) hexpression w, fun w => kt_X3_primary a r (2 + n) (Nat.le_trans (Nat.le_of_ble_eq_true rfl) (Nat.le_add_right _ n)) ((KVA n).1) ((KVA n).2.1) ((KVA n).2.2.1) ((KVA n).2.2.2.1) ((KVA n).2.2.2.2.1) ((KVA n).2.2.2.2.2.1) ((KVA n).2.2.2.2.2.2.1) ((KVA n).2.2.2.2.2.2.2) hcall hexpression w, fun w => kt_X3_behind a r (2 + n) (Nat.le_trans (Nat.le_of_ble_eq_true rfl) (Nat.le_add_right _ n)) ((KVA n).1) ((KVA n).2.1) ((KVA n).2.2.1) ((KVA n).2.2.2.1) ((KVA n).2.2.2.2.1) ((KVA n).2.2.2.2.2.1) ((KVA n).2.2.2.2.2.2.1) ((KVA n).2.2.2.2.2.2.2) hprimary hexpression w, fun w => kt_X3_cast a r (2 + n) (Nat.le_trans (Nat.le_of_ble_eq_true rfl) (Nat.le_add_right _ n)) ((KVA n).1) ((KVA n).2.1) ((KVA n).2.2.1) ((KVA n).2.2.2.1) ((KVA n).2.2.2.2.1) ((KVA n).2.2.2.2.2.1) ((KVA n).2.2.2.2.2.2.1) ((KVA n).2.2.2.2.2.2.2) hunary w, fun w => kt_X3_unary a r (2 + n) (Nat.le_trans (Nat.le_of_ble_eq_true rfl) (Nat.le_add_right _ n)) ((KVA n).1) ((KVA n).2.1) ((KVA n).2.2.1) ((KVA n).2.2.2.1) ((KVA n).2.2.2.2.1) ((KVA n).2.2.2.2.2.1) ((KVA n).2.2.2.2.2.2.1) ((KVA n).2.2.2.2.2.2.2) hbehind hcast hunary w, fun w => kt_X3_binary a r (2 + n) (Nat.le_trans (Nat.le_of_ble_eq_true rfl) (Nat.le_add_right _ n)) ((KVA n).1) ((KVA n).2.1) ((KVA n).2.2.1) ((KVA n).2.2.2.1) ((KVA n).2.2.2.2.1) ((KVA n).2.2.2.2.2.1) ((KVA n).2.2.2.2.2.2.1) ((KVA n).2.2.2.2.2.2.2) hunary w, fun w => kt_X3_choice a r (2 + n) (Nat.le_trans (Nat.le_of_ble_eq_true rfl) (Nat.le_add_right _ n)) ((KVA n).1) ((KVA n).2.1) ((KVA n).2.2.1) ((KVA n).2.2.2.1) ((KVA n).2.2.2.2.1) ((KVA n).2.2.2.2.2.1) ((KVA n).2.2.2.2.2.2.1) ((KVA n).2.2.2.2.2.2.2) hbinary hchoice hexpression w, fun w => kt_X3_expression a r (2 + n) (Nat.le_trans (Nat.le_of_ble_eq_true rfl) (Nat.le_add_right _ n)) ((KVA n).1) ((KVA n).2.1) ((KVA n).2.2.1) ((KVA n).2.2.2.1) ((KVA n).2.2.2.2.1) ((KVA n).2.2.2.2.2.1) ((KVA n).2.2.2.2.2.2.1) ((KVA n).2.2.2.2.2.2.2) hchoice hexpression w⟩
theorem ktG_call (a : Nat → Nat) (r : Nat → Nat) {a1 : Int32} {a2 : Int32} {σ : St} {Q : St → Prop} (w : wkG_call a1 a2 σ Q) (l : Launch) (D : va_G) (cy : Nat → ClassId) : Ct l D cy SC r (EC a gC) y_X3_call (Cond.code y_X3_call b_X3_call 5 none) 242 [.ref (r 3), .int a1, .int a2] σ Z0 [] (QV Q) QT0 := (ckvA a r 240).1 w l D cy
theorem ktG_primary (a : Nat → Nat) (r : Nat → Nat) {a1 : Int32} {σ : St} {Q : St → Prop} (w : wkG_primary a1 σ Q) (l : Launch) (D : va_G) (cy : Nat → ClassId) : Ct l D cy SC r (EC a gC) y_X3_primary (Cond.code y_X3_primary b_X3_primary 3 none) 242 [.ref (r 3), .int a1] σ Z0 [] (QV Q) QT0 := (ckvA a r 240).2.1 w l D cy
theorem ktG_behind (a : Nat → Nat) (r : Nat → Nat) {a1 : Int32} {σ : St} {Q : St → Prop} (w : wkG_behind a1 σ Q) (l : Launch) (D : va_G) (cy : Nat → ClassId) : Ct l D cy SC r (EC a gC) y_X3_behind (Cond.code y_X3_behind b_X3_behind 5 none) 242 [.ref (r 3), .int a1] σ Z0 [] (QV Q) QT0 := (ckvA a r 240).2.2.1 w l D cy
theorem ktG_cast (a : Nat → Nat) (r : Nat → Nat) {a1 : Int32} {σ : St} {Q : St → Prop} (w : wkG_cast a1 σ Q) (l : Launch) (D : va_G) (cy : Nat → ClassId) : Ct l D cy SC r (EC a gC) y_X3_cast (Cond.code y_X3_cast b_X3_cast 4 none) 242 [.ref (r 3), .int a1] σ Z0 [] (QV Q) QT0 := (ckvA a r 240).2.2.2.1 w l D cy
theorem ktG_unary (a : Nat → Nat) (r : Nat → Nat) {a1 : Int32} {σ : St} {Q : St → Prop} (w : wkG_unary a1 σ Q) (l : Launch) (D : va_G) (cy : Nat → ClassId) : Ct l D cy SC r (EC a gC) y_X3_unary (Cond.code y_X3_unary b_X3_unary 3 none) 242 [.ref (r 3), .int a1] σ Z0 [] (QV Q) QT0 := (ckvA a r 240).2.2.2.2.1 w l D cy
theorem ktG_binary (a : Nat → Nat) (r : Nat → Nat) {a1 : Int32} {σ : St} {Q : St → Prop} (w : wkG_binary a1 σ Q) (l : Launch) (D : va_G) (cy : Nat → ClassId) : Ct l D cy SC r (EC a gC) y_X3_binary (Cond.code y_X3_binary b_X3_binary 4 none) 242 [.ref (r 3), .int a1] σ Z0 [] (QV Q) QT0 := (ckvA a r 240).2.2.2.2.2.1 w l D cy
theorem ktG_choice (a : Nat → Nat) (r : Nat → Nat) {a1 : Int32} {σ : St} {Q : St → Prop} (w : wkG_choice a1 σ Q) (l : Launch) (D : va_G) (cy : Nat → ClassId) : Ct l D cy SC r (EC a gC) y_X3_choice (Cond.code y_X3_choice b_X3_choice 3 none) 242 [.ref (r 3), .int a1] σ Z0 [] (QV Q) QT0 := (ckvA a r 240).2.2.2.2.2.2.1 w l D cy
theorem ktG_expression (a : Nat → Nat) (r : Nat → Nat) {a1 : Int32} {σ : St} {Q : St → Prop} (w : wkG_expression a1 σ Q) (l : Launch) (D : va_G) (cy : Nat → ClassId) : Ct l D cy SC r (EC a gC) y_X3_expression (Cond.code y_X3_expression b_X3_expression 3 none) 242 [.ref (r 3), .int a1] σ Z0 [] (QV Q) QT0 := (ckvA a r 240).2.2.2.2.2.2.2 w l D cy
set_option maxHeartbeats 4000000 in
set_option maxRecDepth 100000 in
theorem kt_X3_condition (a : Nat → Nat) (r : Nat → Nat) {a1 : Int32} {a2 : Int32} {σ : St} {Q : St → Prop} (w : wk_X3_condition a1 a2 σ Q) (l : Launch) (D : va_G) (cy : Nat → ClassId) : Ct l D cy SC r (EC a gC) y_X3_condition (Cond.code y_X3_condition b_X3_condition 3 none) 243 [.ref (r 3), .int a1, .int a2] σ Z0 [] (QV Q) QT0 := by
  unfold wk_X3_condition at w
  refine Ct_of (EC_ok a gC) (by decide) (Nat.le_of_ble_eq_true rfl) (by decide) (fun X hnn hF => ?_)
  show G SC r X σ Z0 [] [(0, .ref (r 3)), (1, .int a1), (2, .int a2)] [] 0
  refine g_aload_n hF d_X3_condition_0 rfl 0 rfl ?_
  refine g_bipush hF (v := 20) d_X3_condition_1 (by decide) ?_
  refine g_callV (As := [.int 20]) (rest := []) hF (fun l D cy => kt_X3_expect a r w l D cy) (Nat.le_of_ble_eq_true rfl) mV_X3_expect m_903 (recv_ob obC_3) rfl rfl (Nat.le_of_ble_eq_true rfl) d_X3_condition_3 (qV (fun s3 w1 => ?_)) (fun _ _ _ h => h.elim)
  refine g_aload_n hF d_X3_condition_6 rfl 0 rfl ?_
  refine g_iconst hF (v := 1) d_X3_condition_7 (by decide) ?_
  refine g_callV (As := [.int 1]) (rest := []) hF (fun l D cy => ktG_expression a r w1 l D cy) (Nat.le_of_ble_eq_true rfl) mV_X3_expression m_927 (recv_ob obC_3) rfl rfl (Nat.le_of_ble_eq_true rfl) d_X3_condition_8 (qV (fun s8 w2 => ?_)) (fun _ _ _ h => h.elim)
  refine g_aload_n hF d_X3_condition_11 rfl 0 rfl ?_
  refine g_bipush hF (v := 21) d_X3_condition_12 (by decide) ?_
  refine g_callV (As := [.int 21]) (rest := []) hF (fun l D cy => kt_X3_expect a r w2 l D cy) (Nat.le_of_ble_eq_true rfl) mV_X3_expect m_903 (recv_ob obC_3) rfl rfl (Nat.le_of_ble_eq_true rfl) d_X3_condition_14 (qV (fun s14 w3 => ?_)) (fun _ _ _ h => h.elim)
  refine g_aload_n hF d_X3_condition_17 rfl 0 rfl ?_
  refine g_iload_n hF d_X3_condition_18 rfl 1 rfl ?_
  refine g_iload_n hF d_X3_condition_19 rfl 2 rfl ?_
  refine g_iconst hF (v := 0) d_X3_condition_20 (by decide) ?_
  refine g_iconst hF (v := 0) d_X3_condition_21 (by decide) ?_
  refine g_callV (As := [.int a1, .int a2, .int 0, .int 0]) (rest := []) hF (fun l D cy => kt_X3_add a r w3 l D cy) (Nat.le_of_ble_eq_true rfl) mV_X3_add m_923 (recv_ob obC_3) rfl rfl (Nat.le_of_ble_eq_true rfl) d_X3_condition_22 (qI (fun v22 s22 w4 => ?_)) (fun _ _ _ h => h.elim)
  refine g_pop hF d_X3_condition_25 rfl ?_
  exact g_vret hF rfl d_X3_condition_26 ⟨rfl, rfl, rfl, w4⟩
set_option maxHeartbeats 4000000 in
set_option maxRecDepth 100000 in
theorem kt_X3_conditional (a : Nat → Nat) (r : Nat → Nat) (dK : Nat) (hdK : 244 ≤ dK) (Kbody : Int32 → St → (St → Prop) → Prop) (Kconditional : Int32 → St → (St → Prop) → Prop) (Kloop : Int32 → St → (St → Prop) → Prop) (Kstatement : Int32 → St → (St → Prop) → Prop) (Kstatements : Int32 → St → (St → Prop) → Prop) (hKbody : ∀ {a1 : Int32} {σ : St} {Q : St → Prop}, Kbody a1 σ Q → ∀ (l : Launch) (D : va_G) (cy : Nat → ClassId), Ct l D cy SC r (EC a gC) y_X3_body (Cond.code y_X3_body b_X3_body 2 none) dK [.ref (r 3), .int a1] σ Z0 [] (QV Q) QT0) {a1 : Int32} {σ : St} {Q : St → Prop} (w : wk_X3_conditional Kbody Kconditional Kloop Kstatement Kstatements a1 σ Q) (l : Launch) (D : va_G) (cy : Nat → ClassId) : Ct l D cy SC r (EC a gC) y_X3_conditional (Cond.code y_X3_conditional b_X3_conditional 3 none) (dK + 1) [.ref (r 3), .int a1] σ Z0 [] (QV Q) QT0 := by
  unfold wk_X3_conditional at w
  refine Ct_of (EC_ok a gC) (by decide) (Nat.le_of_ble_eq_true rfl) (by decide) (fun X hnn hF => ?_)
  show G SC r X σ Z0 [] [(0, .ref (r 3)), (1, .int a1)] [] 0
  refine g_aload_n hF d_X3_conditional_0 rfl 0 rfl ?_
  refine g_get (v := .int (σ 3 1)) hF 1 obC_3 (by decide) m_95 rfl d_X3_conditional_1 ?_
  refine g_istore_n hF [(2, .int (σ 3 1)), (0, .ref (r 3)), (1, .int a1)] d_X3_conditional_4 rfl hnn (by decide) rfl ?_
  refine g_aload_n hF d_X3_conditional_5 rfl 1 rfl ?_
  refine g_callV (As := []) (rest := []) hF (fun l D cy => kt_X3_advance a r w l D cy) (Nat.add_le_add_right (Nat.le_trans (Nat.le_of_ble_eq_true rfl) hdK) 1) mV_X3_advance m_899 (recv_ob obC_3) rfl rfl (Nat.le_of_ble_eq_true rfl) d_X3_conditional_6 (qV (fun s6 w1 => ?_)) (fun _ _ _ h => h.elim)
  refine g_aload_n hF d_X3_conditional_9 rfl 1 rfl ?_
  refine g_bipush hF (v := 23) d_X3_conditional_10 (by decide) ?_
  refine g_iload_n hF d_X3_conditional_12 rfl 0 rfl ?_
  refine g_callV (As := [.int 23, .int (σ 3 1)]) (rest := []) hF (fun l D cy => kt_X3_condition a r w1 l D cy) (Nat.add_le_add_right (Nat.le_trans (Nat.le_of_ble_eq_true rfl) hdK) 1) mV_X3_condition m_1016 (recv_ob obC_3) rfl rfl (Nat.le_of_ble_eq_true rfl) d_X3_conditional_13 (qV (fun s13 w2 => ?_)) (fun _ _ _ h => h.elim)
  refine g_aload_n hF d_X3_conditional_16 rfl 1 rfl ?_
  refine g_iload_n hF d_X3_conditional_17 rfl 2 rfl ?_
  refine g_callV (As := [.int a1]) (rest := []) hF (fun l D cy => hKbody w2 l D cy) (Nat.le_refl _) mV_X3_body m_1020 (recv_ob obC_3) rfl rfl (Nat.le_of_ble_eq_true rfl) d_X3_conditional_18 (qV (fun s18 w3 => ?_)) (fun _ _ _ h => h.elim)
  refine g_aload_n hF d_X3_conditional_21 rfl 1 rfl ?_
  refine g_get (v := .int (s18 3 2)) hF 2 obC_3 (by decide) m_96 rfl d_X3_conditional_22 ?_
  refine g_bipush hF (v := 10) d_X3_conditional_25 (by decide) ?_
  obtain ⟨J49, h49, w4⟩ := w3
  have b49 : ∀ (s49 : St), J49 s49 → G SC r X s49 Z0 [] [(0, .ref (r 3)), (2, .int (σ 3 1))] [] 49 := by
    intro s49  w49_
    have w49_ := h49 s49  w49_
    refine g_aload_n hF d_X3_conditional_49 rfl 0 rfl ?_
    refine g_bipush hF (v := 25) d_X3_conditional_50 (by decide) ?_
    refine g_iload_n hF d_X3_conditional_52 rfl 1 rfl ?_
    refine g_iconst hF (v := 0) d_X3_conditional_53 (by decide) ?_
    refine g_iconst hF (v := 0) d_X3_conditional_54 (by decide) ?_
    refine g_callV (As := [.int 25, .int (σ 3 1), .int 0, .int 0]) (rest := []) hF (fun l D cy => kt_X3_add a r w49_ l D cy) (Nat.add_le_add_right (Nat.le_trans (Nat.le_of_ble_eq_true rfl) hdK) 1) mV_X3_add m_923 (recv_ob obC_3) rfl rfl (Nat.le_of_ble_eq_true rfl) d_X3_conditional_55 (qI (fun v55 s55 w5 => ?_)) (fun _ _ _ h => h.elim)
    refine g_pop hF d_X3_conditional_58 rfl ?_
    exact g_vret hF rfl d_X3_conditional_59 ⟨rfl, rfl, rfl, w5⟩
  refine g_icmp_ne (yv := 10) hF 49 d_X3_conditional_27 (by decide) rfl (by decide) (fun c => ?_) (fun c => ?_)
  · have w6 := w4.1 c
    exact g_sub (L' := [(0, .ref (r 3)), (2, .int (σ 3 1))]) [1, 0] rfl (b49 s18 w6)
  · have w7 := w4.2 c
    refine g_aload_n hF d_X3_conditional_30 rfl 1 rfl ?_
    refine g_bipush hF (v := 24) d_X3_conditional_31 (by decide) ?_
    refine g_iload_n hF d_X3_conditional_33 rfl 0 rfl ?_
    refine g_iconst hF (v := 0) d_X3_conditional_34 (by decide) ?_
    refine g_iconst hF (v := 0) d_X3_conditional_35 (by decide) ?_
    refine g_callV (As := [.int 24, .int (σ 3 1), .int 0, .int 0]) (rest := []) hF (fun l D cy => kt_X3_add a r w7 l D cy) (Nat.add_le_add_right (Nat.le_trans (Nat.le_of_ble_eq_true rfl) hdK) 1) mV_X3_add m_923 (recv_ob obC_3) rfl rfl (Nat.le_of_ble_eq_true rfl) d_X3_conditional_36 (qI (fun v36 s36 w8 => ?_)) (fun _ _ _ h => h.elim)
    refine g_pop hF d_X3_conditional_39 rfl ?_
    refine g_aload_n hF d_X3_conditional_40 rfl 1 rfl ?_
    refine g_callV (As := []) (rest := []) hF (fun l D cy => kt_X3_advance a r w8 l D cy) (Nat.add_le_add_right (Nat.le_trans (Nat.le_of_ble_eq_true rfl) hdK) 1) mV_X3_advance m_899 (recv_ob obC_3) rfl rfl (Nat.le_of_ble_eq_true rfl) d_X3_conditional_41 (qV (fun s41 w9 => ?_)) (fun _ _ _ h => h.elim)
    refine g_aload_n hF d_X3_conditional_44 rfl 1 rfl ?_
    refine g_iload_n hF d_X3_conditional_45 rfl 2 rfl ?_
    refine g_callV (As := [.int a1]) (rest := []) hF (fun l D cy => hKbody w9 l D cy) (Nat.le_refl _) mV_X3_body m_1020 (recv_ob obC_3) rfl rfl (Nat.le_of_ble_eq_true rfl) d_X3_conditional_46 (qV (fun s46 w10 => ?_)) (fun _ _ _ h => h.elim)
    exact g_sub (L' := [(0, .ref (r 3)), (2, .int (σ 3 1))]) [1, 0] rfl (b49 s46 w10)
set_option maxHeartbeats 4000000 in
set_option maxRecDepth 100000 in
theorem kt_X3_counted (a : Nat → Nat) (r : Nat → Nat) {a1 : Int32} {σ : St} {Q : St → Prop} (w : wk_X3_counted a1 σ Q) (l : Launch) (D : va_G) (cy : Nat → ClassId) : Ct l D cy SC r (EC a gC) y_X3_counted (Cond.code y_X3_counted b_X3_counted 3 none) 243 [.ref (r 3), .int a1] σ Z0 [] (QV Q) QT0 := by
  unfold wk_X3_counted at w
  refine Ct_of (EC_ok a gC) (by decide) (Nat.le_of_ble_eq_true rfl) (by decide) (fun X hnn hF => ?_)
  show G SC r X σ Z0 [] [(0, .ref (r 3)), (1, .int a1)] [] 0
  refine g_aload_n hF d_X3_counted_0 rfl 0 rfl ?_
  refine g_bipush hF (v := 20) d_X3_counted_1 (by decide) ?_
  refine g_callV (As := [.int 20]) (rest := []) hF (fun l D cy => kt_X3_expect a r w l D cy) (Nat.le_of_ble_eq_true rfl) mV_X3_expect m_903 (recv_ob obC_3) rfl rfl (Nat.le_of_ble_eq_true rfl) d_X3_counted_3 (qV (fun s3 w1 => ?_)) (fun _ _ _ h => h.elim)
  refine g_aload_n hF d_X3_counted_6 rfl 0 rfl ?_
  refine g_get (v := .int (s3 3 2)) hF 2 obC_3 (by decide) m_96 rfl d_X3_counted_7 ?_
  refine g_bipush hF (v := 27) d_X3_counted_10 (by decide) ?_
  obtain ⟨J30, h30, w2⟩ := w1
  have b30 : ∀ (s30 : St), J30 s30 → G SC r X s30 Z0 [] [(0, .ref (r 3)), (1, .int a1)] [] 30 := by
    intro s30  w30_
    have w30_ := h30 s30  w30_
    refine g_aload_n hF d_X3_counted_30 rfl 0 rfl ?_
    refine g_bipush hF (v := 27) d_X3_counted_31 (by decide) ?_
    refine g_callV (As := [.int 27]) (rest := []) hF (fun l D cy => kt_X3_expect a r w30_ l D cy) (Nat.le_of_ble_eq_true rfl) mV_X3_expect m_903 (recv_ob obC_3) rfl rfl (Nat.le_of_ble_eq_true rfl) d_X3_counted_33 (qV (fun s33 w3 => ?_)) (fun _ _ _ h => h.elim)
    refine g_aload_n hF d_X3_counted_36 rfl 0 rfl ?_
    refine g_bipush hF (v := 32) d_X3_counted_37 (by decide) ?_
    refine g_iload_n hF d_X3_counted_39 rfl 1 rfl ?_
    refine g_iconst hF (v := 0) d_X3_counted_40 (by decide) ?_
    refine g_iconst hF (v := 0) d_X3_counted_41 (by decide) ?_
    refine g_callV (As := [.int 32, .int a1, .int 0, .int 0]) (rest := []) hF (fun l D cy => kt_X3_add a r w3 l D cy) (Nat.le_of_ble_eq_true rfl) mV_X3_add m_923 (recv_ob obC_3) rfl rfl (Nat.le_of_ble_eq_true rfl) d_X3_counted_42 (qI (fun v42 s42 w4 => ?_)) (fun _ _ _ h => h.elim)
    refine g_pop hF d_X3_counted_45 rfl ?_
    refine g_aload_n hF d_X3_counted_46 rfl 0 rfl ?_
    refine g_get (v := .int (s42 3 2)) hF 2 obC_3 (by decide) m_96 rfl d_X3_counted_47 ?_
    refine g_bipush hF (v := 27) d_X3_counted_50 (by decide) ?_
    obtain ⟨J60, h60, w5⟩ := w4
    have b60 : ∀ (y0_60 : Int32), y0_60 = 0 ∨ y0_60 = 1 → J60 y0_60 → G SC r X s42 Z0 [] [(0, .ref (r 3)), (1, .int a1)] [.int y0_60] 60 := by
      intro y0_60 hy0_60 w60_
      have w60_ := h60 y0_60 hy0_60 w60_
      refine g_istore_n hF [(2, .int y0_60), (0, .ref (r 3)), (1, .int a1)] d_X3_counted_60 rfl hnn (by decide) rfl ?_
      refine g_iload_n hF d_X3_counted_61 rfl 0 rfl ?_
      obtain ⟨J70, h70, w6⟩ := w60_
      have b70 : ∀ (s70 : St), J70 s70 → G SC r X s70 Z0 [] [(0, .ref (r 3)), (1, .int a1), (2, .int y0_60)] [] 70 := by
        intro s70  w70_
        have w70_ := h70 s70  w70_
        refine g_aload_n hF d_X3_counted_70 rfl 0 rfl ?_
        refine g_bipush hF (v := 33) d_X3_counted_71 (by decide) ?_
        refine g_iload_n hF d_X3_counted_73 rfl 1 rfl ?_
        refine g_iload_n hF d_X3_counted_74 rfl 2 rfl ?_
        obtain ⟨J83, h83, w7⟩ := w70_
        have b83 : ∀ (y3_83 : Int32), y3_83 = 0 ∨ y3_83 = 1 → J83 y3_83 → G SC r X s70 Z0 [] [(0, .ref (r 3)), (1, .int a1)] [.int y3_83, .int a1, .int 33, .ref (r 3)] 83 := by
          intro y3_83 hy3_83 w83_
          have w83_ := h83 y3_83 hy3_83 w83_
          refine g_iconst hF (v := 0) d_X3_counted_83 (by decide) ?_
          refine g_callV (As := [.int 33, .int a1, .int y3_83, .int 0]) (rest := []) hF (fun l D cy => kt_X3_add a r w83_ l D cy) (Nat.le_of_ble_eq_true rfl) mV_X3_add m_923 (recv_ob obC_3) rfl rfl (Nat.le_of_ble_eq_true rfl) d_X3_counted_84 (qI (fun v84 s84 w8 => ?_)) (fun _ _ _ h => h.elim)
          refine g_pop hF d_X3_counted_87 rfl ?_
          refine g_aload_n hF d_X3_counted_88 rfl 0 rfl ?_
          refine g_bipush hF (v := 27) d_X3_counted_89 (by decide) ?_
          refine g_callV (As := [.int 27]) (rest := []) hF (fun l D cy => kt_X3_expect a r w8 l D cy) (Nat.le_of_ble_eq_true rfl) mV_X3_expect m_903 (recv_ob obC_3) rfl rfl (Nat.le_of_ble_eq_true rfl) d_X3_counted_91 (qV (fun s91 w9 => ?_)) (fun _ _ _ h => h.elim)
          refine g_aload_n hF d_X3_counted_94 rfl 0 rfl ?_
          refine g_get (v := .int (s91 3 2)) hF 2 obC_3 (by decide) m_96 rfl d_X3_counted_95 ?_
          refine g_bipush hF (v := 21) d_X3_counted_98 (by decide) ?_
          obtain ⟨J118, h118, w10⟩ := w9
          have b118 : ∀ (s118 : St), J118 s118 → G SC r X s118 Z0 [] [(0, .ref (r 3)), (1, .int a1)] [] 118 := by
            intro s118  w118_
            have w118_ := h118 s118  w118_
            refine g_aload_n hF d_X3_counted_118 rfl 0 rfl ?_
            refine g_bipush hF (v := 21) d_X3_counted_119 (by decide) ?_
            refine g_callV (As := [.int 21]) (rest := []) hF (fun l D cy => kt_X3_expect a r w118_ l D cy) (Nat.le_of_ble_eq_true rfl) mV_X3_expect m_903 (recv_ob obC_3) rfl rfl (Nat.le_of_ble_eq_true rfl) d_X3_counted_121 (qV (fun s121 w11 => ?_)) (fun _ _ _ h => h.elim)
            refine g_aload_n hF d_X3_counted_124 rfl 0 rfl ?_
            refine g_bipush hF (v := 34) d_X3_counted_125 (by decide) ?_
            refine g_iload_n hF d_X3_counted_127 rfl 1 rfl ?_
            refine g_iconst hF (v := 0) d_X3_counted_128 (by decide) ?_
            refine g_iconst hF (v := 0) d_X3_counted_129 (by decide) ?_
            refine g_callV (As := [.int 34, .int a1, .int 0, .int 0]) (rest := []) hF (fun l D cy => kt_X3_add a r w11 l D cy) (Nat.le_of_ble_eq_true rfl) mV_X3_add m_923 (recv_ob obC_3) rfl rfl (Nat.le_of_ble_eq_true rfl) d_X3_counted_130 (qI (fun v130 s130 w12 => ?_)) (fun _ _ _ h => h.elim)
            refine g_pop hF d_X3_counted_133 rfl ?_
            exact g_vret hF rfl d_X3_counted_134 ⟨rfl, rfl, rfl, w12⟩
          refine g_icmp_eq (yv := 21) hF 118 d_X3_counted_100 (by decide) rfl (by decide) (fun c => ?_) (fun c => ?_)
          · have w13 := w10.1 c
            exact b118 s91 w13
          · have w14 := w10.2 c
            refine g_aload_n hF d_X3_counted_103 rfl 0 rfl ?_
            refine g_iconst hF (v := 1) d_X3_counted_104 (by decide) ?_
            refine g_callV (As := [.int 1]) (rest := []) hF (fun l D cy => ktG_expression a r w14 l D cy) (Nat.le_of_ble_eq_true rfl) mV_X3_expression m_927 (recv_ob obC_3) rfl rfl (Nat.le_of_ble_eq_true rfl) d_X3_counted_105 (qV (fun s105 w15 => ?_)) (fun _ _ _ h => h.elim)
            refine g_aload_n hF d_X3_counted_108 rfl 0 rfl ?_
            refine g_bipush hF (v := 22) d_X3_counted_109 (by decide) ?_
            refine g_iload_n hF d_X3_counted_111 rfl 1 rfl ?_
            refine g_iconst hF (v := 0) d_X3_counted_112 (by decide) ?_
            refine g_iconst hF (v := 0) d_X3_counted_113 (by decide) ?_
            refine g_callV (As := [.int 22, .int a1, .int 0, .int 0]) (rest := []) hF (fun l D cy => kt_X3_add a r w15 l D cy) (Nat.le_of_ble_eq_true rfl) mV_X3_add m_923 (recv_ob obC_3) rfl rfl (Nat.le_of_ble_eq_true rfl) d_X3_counted_114 (qI (fun v114 s114 w16 => ?_)) (fun _ _ _ h => h.elim)
            refine g_pop hF d_X3_counted_117 rfl ?_
            exact b118 s114 w16
        refine g_if_eq hF 82 d_X3_counted_75 (by decide) rfl (fun c => ?_) (fun c => ?_)
        · have w17 := w7.1 c
          refine g_iconst hF (v := 0) d_X3_counted_82 (by decide) ?_
          exact g_sub (L' := [(0, .ref (r 3)), (1, .int a1)]) [0, 1] rfl (b83 (0 : Int32) (Or.inl rfl) w17)
        · have w18 := w7.2 c
          refine g_iconst hF (v := 1) d_X3_counted_78 (by decide) ?_
          refine g_goto hF 83 d_X3_counted_79 (by decide) ?_
          exact g_sub (L' := [(0, .ref (r 3)), (1, .int a1)]) [0, 1] rfl (b83 (1 : Int32) (Or.inr rfl) w18)
      refine g_if_eq hF 70 d_X3_counted_62 (by decide) rfl (fun c => ?_) (fun c => ?_)
      · have w19 := w6.1 c
        exact g_sub (L' := [(0, .ref (r 3)), (1, .int a1), (2, .int y0_60)]) [1, 2, 0] rfl (b70 s42 w19)
      · have w20 := w6.2 c
        refine g_aload_n hF d_X3_counted_65 rfl 1 rfl ?_
        refine g_iconst hF (v := 1) d_X3_counted_66 (by decide) ?_
        refine g_callV (As := [.int 1]) (rest := []) hF (fun l D cy => ktG_expression a r w20 l D cy) (Nat.le_of_ble_eq_true rfl) mV_X3_expression m_927 (recv_ob obC_3) rfl rfl (Nat.le_of_ble_eq_true rfl) d_X3_counted_67 (qV (fun s67 w21 => ?_)) (fun _ _ _ h => h.elim)
        exact g_sub (L' := [(0, .ref (r 3)), (1, .int a1), (2, .int y0_60)]) [1, 2, 0] rfl (b70 s67 w21)
    refine g_icmp_eq (yv := 27) hF 59 d_X3_counted_52 (by decide) rfl (by decide) (fun c => ?_) (fun c => ?_)
    · have w22 := w5.1 c
      refine g_iconst hF (v := 0) d_X3_counted_59 (by decide) ?_
      exact b60 (0 : Int32) (Or.inl rfl) w22
    · have w23 := w5.2 c
      refine g_iconst hF (v := 1) d_X3_counted_55 (by decide) ?_
      refine g_goto hF 60 d_X3_counted_56 (by decide) ?_
      exact b60 (1 : Int32) (Or.inr rfl) w23
  refine g_icmp_eq (yv := 27) hF 30 d_X3_counted_12 (by decide) rfl (by decide) (fun c => ?_) (fun c => ?_)
  · have w24 := w2.1 c
    exact b30 s3 w24
  · have w25 := w2.2 c
    refine g_aload_n hF d_X3_counted_15 rfl 0 rfl ?_
    refine g_iconst hF (v := 1) d_X3_counted_16 (by decide) ?_
    refine g_callV (As := [.int 1]) (rest := []) hF (fun l D cy => ktG_expression a r w25 l D cy) (Nat.le_of_ble_eq_true rfl) mV_X3_expression m_927 (recv_ob obC_3) rfl rfl (Nat.le_of_ble_eq_true rfl) d_X3_counted_17 (qV (fun s17 w26 => ?_)) (fun _ _ _ h => h.elim)
    refine g_aload_n hF d_X3_counted_20 rfl 0 rfl ?_
    refine g_bipush hF (v := 22) d_X3_counted_21 (by decide) ?_
    refine g_iload_n hF d_X3_counted_23 rfl 1 rfl ?_
    refine g_iconst hF (v := 0) d_X3_counted_24 (by decide) ?_
    refine g_iconst hF (v := 0) d_X3_counted_25 (by decide) ?_
    refine g_callV (As := [.int 22, .int a1, .int 0, .int 0]) (rest := []) hF (fun l D cy => kt_X3_add a r w26 l D cy) (Nat.le_of_ble_eq_true rfl) mV_X3_add m_923 (recv_ob obC_3) rfl rfl (Nat.le_of_ble_eq_true rfl) d_X3_counted_26 (qI (fun v26 s26 w27 => ?_)) (fun _ _ _ h => h.elim)
    refine g_pop hF d_X3_counted_29 rfl ?_
    exact b30 s26 w27
set_option maxHeartbeats 4000000 in
set_option maxRecDepth 100000 in
theorem kt_X3_loop (a : Nat → Nat) (r : Nat → Nat) (dK : Nat) (hdK : 244 ≤ dK) (Kbody : Int32 → St → (St → Prop) → Prop) (Kconditional : Int32 → St → (St → Prop) → Prop) (Kloop : Int32 → St → (St → Prop) → Prop) (Kstatement : Int32 → St → (St → Prop) → Prop) (Kstatements : Int32 → St → (St → Prop) → Prop) (hKbody : ∀ {a1 : Int32} {σ : St} {Q : St → Prop}, Kbody a1 σ Q → ∀ (l : Launch) (D : va_G) (cy : Nat → ClassId), Ct l D cy SC r (EC a gC) y_X3_body (Cond.code y_X3_body b_X3_body 2 none) dK [.ref (r 3), .int a1] σ Z0 [] (QV Q) QT0) {a1 : Int32} {σ : St} {Q : St → Prop} (w : wk_X3_loop Kbody Kconditional Kloop Kstatement Kstatements a1 σ Q) (l : Launch) (D : va_G) (cy : Nat → ClassId) : Ct l D cy SC r (EC a gC) y_X3_loop (Cond.code y_X3_loop b_X3_loop 5 none) (dK + 1) [.ref (r 3), .int a1] σ Z0 [] (QV Q) QT0 := by
  unfold wk_X3_loop at w
  refine Ct_of (EC_ok a gC) (by decide) (Nat.le_of_ble_eq_true rfl) (by decide) (fun X hnn hF => ?_)
  show G SC r X σ Z0 [] [(0, .ref (r 3)), (1, .int a1)] [] 0
  refine g_aload_n hF d_X3_loop_0 rfl 0 rfl ?_
  refine g_get (v := .int (σ 3 1)) hF 1 obC_3 (by decide) m_95 rfl d_X3_loop_1 ?_
  refine g_istore_n hF [(2, .int (σ 3 1)), (0, .ref (r 3)), (1, .int a1)] d_X3_loop_4 rfl hnn (by decide) rfl ?_
  refine g_aload_n hF d_X3_loop_5 rfl 1 rfl ?_
  refine g_get (v := .int (σ 3 2)) hF 2 obC_3 (by decide) m_96 rfl d_X3_loop_6 ?_
  refine g_istore_n hF [(3, .int (σ 3 2)), (2, .int (σ 3 1)), (0, .ref (r 3)), (1, .int a1)] d_X3_loop_9 rfl hnn (by decide) rfl ?_
  refine g_aload_n hF d_X3_loop_10 rfl 2 rfl ?_
  refine g_callV (As := []) (rest := []) hF (fun l D cy => kt_X3_advance a r w l D cy) (Nat.add_le_add_right (Nat.le_trans (Nat.le_of_ble_eq_true rfl) hdK) 1) mV_X3_advance m_899 (recv_ob obC_3) rfl rfl (Nat.le_of_ble_eq_true rfl) d_X3_loop_11 (qV (fun s11 w1 => ?_)) (fun _ _ _ h => h.elim)
  refine g_iload_n hF d_X3_loop_14 rfl 0 rfl ?_
  refine g_bipush hF (v := 11) d_X3_loop_15 (by decide) ?_
  refine g_icmp_ne (yv := 11) hF 55 d_X3_loop_17 (by decide) rfl (by decide) (fun c => ?_) (fun c => ?_)
  · have w2 := w1.1 c
    refine g_iload_n hF d_X3_loop_55 rfl 0 rfl ?_
    refine g_bipush hF (v := 12) d_X3_loop_56 (by decide) ?_
    refine g_icmp_ne (yv := 12) hF 116 d_X3_loop_58 (by decide) rfl (by decide) (fun c => ?_) (fun c => ?_)
    · have w3 := w2.1 c
      refine g_aload_n hF d_X3_loop_116 rfl 2 rfl ?_
      refine g_iload_n hF d_X3_loop_117 rfl 1 rfl ?_
      refine g_callV (As := [.int (σ 3 1)]) (rest := []) hF (fun l D cy => kt_X3_counted a r w3 l D cy) (Nat.add_le_add_right (Nat.le_trans (Nat.le_of_ble_eq_true rfl) hdK) 1) mV_X3_counted m_1028 (recv_ob obC_3) rfl rfl (Nat.le_of_ble_eq_true rfl) d_X3_loop_118 (qV (fun s118 w4 => ?_)) (fun _ _ _ h => h.elim)
      refine g_aload_n hF d_X3_loop_121 rfl 2 rfl ?_
      refine g_iload_n hF d_X3_loop_122 rfl 3 rfl ?_
      refine g_callV (As := [.int a1]) (rest := []) hF (fun l D cy => hKbody w4 l D cy) (Nat.le_refl _) mV_X3_body m_1020 (recv_ob obC_3) rfl rfl (Nat.le_of_ble_eq_true rfl) d_X3_loop_123 (qV (fun s123 w5 => ?_)) (fun _ _ _ h => h.elim)
      refine g_aload_n hF d_X3_loop_126 rfl 2 rfl ?_
      refine g_bipush hF (v := 35) d_X3_loop_127 (by decide) ?_
      refine g_iload_n hF d_X3_loop_129 rfl 1 rfl ?_
      refine g_iconst hF (v := 0) d_X3_loop_130 (by decide) ?_
      refine g_iconst hF (v := 0) d_X3_loop_131 (by decide) ?_
      refine g_callV (As := [.int 35, .int (σ 3 1), .int 0, .int 0]) (rest := []) hF (fun l D cy => kt_X3_add a r w5 l D cy) (Nat.add_le_add_right (Nat.le_trans (Nat.le_of_ble_eq_true rfl) hdK) 1) mV_X3_add m_923 (recv_ob obC_3) rfl rfl (Nat.le_of_ble_eq_true rfl) d_X3_loop_132 (qI (fun v132 s132 w6 => ?_)) (fun _ _ _ h => h.elim)
      refine g_pop hF d_X3_loop_135 rfl ?_
      exact g_vret hF rfl d_X3_loop_136 ⟨rfl, rfl, rfl, w6⟩
    · have w7 := w2.2 c
      refine g_aload_n hF d_X3_loop_61 rfl 2 rfl ?_
      refine g_bipush hF (v := 29) d_X3_loop_62 (by decide) ?_
      refine g_iload_n hF d_X3_loop_64 rfl 1 rfl ?_
      refine g_iconst hF (v := 0) d_X3_loop_65 (by decide) ?_
      refine g_iconst hF (v := 0) d_X3_loop_66 (by decide) ?_
      refine g_callV (As := [.int 29, .int (σ 3 1), .int 0, .int 0]) (rest := []) hF (fun l D cy => kt_X3_add a r w7 l D cy) (Nat.add_le_add_right (Nat.le_trans (Nat.le_of_ble_eq_true rfl) hdK) 1) mV_X3_add m_923 (recv_ob obC_3) rfl rfl (Nat.le_of_ble_eq_true rfl) d_X3_loop_67 (qI (fun v67 s67 w8 => ?_)) (fun _ _ _ h => h.elim)
      refine g_pop hF d_X3_loop_70 rfl ?_
      refine g_aload_n hF d_X3_loop_71 rfl 2 rfl ?_
      refine g_iload_n hF d_X3_loop_72 rfl 3 rfl ?_
      refine g_callV (As := [.int a1]) (rest := []) hF (fun l D cy => hKbody w8 l D cy) (Nat.le_refl _) mV_X3_body m_1020 (recv_ob obC_3) rfl rfl (Nat.le_of_ble_eq_true rfl) d_X3_loop_73 (qV (fun s73 w9 => ?_)) (fun _ _ _ h => h.elim)
      refine g_aload_n hF d_X3_loop_76 rfl 2 rfl ?_
      refine g_get (v := .int (s73 3 1)) hF 1 obC_3 (by decide) m_95 rfl d_X3_loop_77 ?_
      refine g_istore hF [(4, .int (s73 3 1)), (3, .int (σ 3 2)), (2, .int (σ 3 1)), (0, .ref (r 3)), (1, .int a1)] d_X3_loop_80 hnn (by decide) rfl ?_
      refine g_aload_n hF d_X3_loop_82 rfl 3 rfl ?_
      refine g_bipush hF (v := 11) d_X3_loop_83 (by decide) ?_
      refine g_callV (As := [.int 11]) (rest := []) hF (fun l D cy => kt_X3_expect a r w9 l D cy) (Nat.add_le_add_right (Nat.le_trans (Nat.le_of_ble_eq_true rfl) hdK) 1) mV_X3_expect m_903 (recv_ob obC_3) rfl rfl (Nat.le_of_ble_eq_true rfl) d_X3_loop_85 (qV (fun s85 w10 => ?_)) (fun _ _ _ h => h.elim)
      refine g_aload_n hF d_X3_loop_88 rfl 3 rfl ?_
      refine g_bipush hF (v := 30) d_X3_loop_89 (by decide) ?_
      refine g_iload hF d_X3_loop_91 0 rfl ?_
      refine g_iconst hF (v := 0) d_X3_loop_93 (by decide) ?_
      refine g_iconst hF (v := 0) d_X3_loop_94 (by decide) ?_
      refine g_callV (As := [.int 30, .int (s73 3 1), .int 0, .int 0]) (rest := []) hF (fun l D cy => kt_X3_add a r w10 l D cy) (Nat.add_le_add_right (Nat.le_trans (Nat.le_of_ble_eq_true rfl) hdK) 1) mV_X3_add m_923 (recv_ob obC_3) rfl rfl (Nat.le_of_ble_eq_true rfl) d_X3_loop_95 (qI (fun v95 s95 w11 => ?_)) (fun _ _ _ h => h.elim)
      refine g_pop hF d_X3_loop_98 rfl ?_
      refine g_aload_n hF d_X3_loop_99 rfl 3 rfl ?_
      refine g_bipush hF (v := 31) d_X3_loop_100 (by decide) ?_
      refine g_iload hF d_X3_loop_102 0 rfl ?_
      refine g_callV (As := [.int 31, .int (s73 3 1)]) (rest := []) hF (fun l D cy => kt_X3_condition a r w11 l D cy) (Nat.add_le_add_right (Nat.le_trans (Nat.le_of_ble_eq_true rfl) hdK) 1) mV_X3_condition m_1016 (recv_ob obC_3) rfl rfl (Nat.le_of_ble_eq_true rfl) d_X3_loop_104 (qV (fun s104 w12 => ?_)) (fun _ _ _ h => h.elim)
      refine g_aload_n hF d_X3_loop_107 rfl 3 rfl ?_
      refine g_bipush hF (v := 27) d_X3_loop_108 (by decide) ?_
      refine g_callV (As := [.int 27]) (rest := []) hF (fun l D cy => kt_X3_expect a r w12 l D cy) (Nat.add_le_add_right (Nat.le_trans (Nat.le_of_ble_eq_true rfl) hdK) 1) mV_X3_expect m_903 (recv_ob obC_3) rfl rfl (Nat.le_of_ble_eq_true rfl) d_X3_loop_110 (qV (fun s110 w13 => ?_)) (fun _ _ _ h => h.elim)
      refine g_goto hF 136 d_X3_loop_113 (by decide) ?_
      exact g_vret hF rfl d_X3_loop_136 ⟨rfl, rfl, rfl, w13⟩
  · have w14 := w1.2 c
    refine g_aload_n hF d_X3_loop_20 rfl 2 rfl ?_
    refine g_bipush hF (v := 26) d_X3_loop_21 (by decide) ?_
    refine g_iload_n hF d_X3_loop_23 rfl 1 rfl ?_
    refine g_iconst hF (v := 0) d_X3_loop_24 (by decide) ?_
    refine g_iconst hF (v := 0) d_X3_loop_25 (by decide) ?_
    refine g_callV (As := [.int 26, .int (σ 3 1), .int 0, .int 0]) (rest := []) hF (fun l D cy => kt_X3_add a r w14 l D cy) (Nat.add_le_add_right (Nat.le_trans (Nat.le_of_ble_eq_true rfl) hdK) 1) mV_X3_add m_923 (recv_ob obC_3) rfl rfl (Nat.le_of_ble_eq_true rfl) d_X3_loop_26 (qI (fun v26 s26 w15 => ?_)) (fun _ _ _ h => h.elim)
    refine g_pop hF d_X3_loop_29 rfl ?_
    refine g_aload_n hF d_X3_loop_30 rfl 2 rfl ?_
    refine g_bipush hF (v := 27) d_X3_loop_31 (by decide) ?_
    refine g_iload_n hF d_X3_loop_33 rfl 1 rfl ?_
    refine g_callV (As := [.int 27, .int (σ 3 1)]) (rest := []) hF (fun l D cy => kt_X3_condition a r w15 l D cy) (Nat.add_le_add_right (Nat.le_trans (Nat.le_of_ble_eq_true rfl) hdK) 1) mV_X3_condition m_1016 (recv_ob obC_3) rfl rfl (Nat.le_of_ble_eq_true rfl) d_X3_loop_34 (qV (fun s34 w16 => ?_)) (fun _ _ _ h => h.elim)
    refine g_aload_n hF d_X3_loop_37 rfl 2 rfl ?_
    refine g_iload_n hF d_X3_loop_38 rfl 3 rfl ?_
    refine g_callV (As := [.int a1]) (rest := []) hF (fun l D cy => hKbody w16 l D cy) (Nat.le_refl _) mV_X3_body m_1020 (recv_ob obC_3) rfl rfl (Nat.le_of_ble_eq_true rfl) d_X3_loop_39 (qV (fun s39 w17 => ?_)) (fun _ _ _ h => h.elim)
    refine g_aload_n hF d_X3_loop_42 rfl 2 rfl ?_
    refine g_bipush hF (v := 28) d_X3_loop_43 (by decide) ?_
    refine g_iload_n hF d_X3_loop_45 rfl 1 rfl ?_
    refine g_iconst hF (v := 0) d_X3_loop_46 (by decide) ?_
    refine g_iconst hF (v := 0) d_X3_loop_47 (by decide) ?_
    refine g_callV (As := [.int 28, .int (σ 3 1), .int 0, .int 0]) (rest := []) hF (fun l D cy => kt_X3_add a r w17 l D cy) (Nat.add_le_add_right (Nat.le_trans (Nat.le_of_ble_eq_true rfl) hdK) 1) mV_X3_add m_923 (recv_ob obC_3) rfl rfl (Nat.le_of_ble_eq_true rfl) d_X3_loop_48 (qI (fun v48 s48 w18 => ?_)) (fun _ _ _ h => h.elim)
    refine g_pop hF d_X3_loop_51 rfl ?_
    refine g_goto hF 136 d_X3_loop_52 (by decide) ?_
    exact g_vret hF rfl d_X3_loop_136 ⟨rfl, rfl, rfl, w18⟩
set_option maxHeartbeats 4000000 in
set_option maxRecDepth 100000 in
theorem kt_X3_simple (a : Nat → Nat) (r : Nat → Nat) {σ : St} {Q : St → Prop} (w : wk_X3_simple  σ Q) (l : Launch) (D : va_G) (cy : Nat → ClassId) : Ct l D cy SC r (EC a gC) y_X3_simple (Cond.code y_X3_simple b_X3_simple 3 none) 243 [.ref (r 3)] σ Z0 [] (QV Q) QT0 := by
  unfold wk_X3_simple at w
  refine Ct_of (EC_ok a gC) (by decide) (Nat.le_of_ble_eq_true rfl) (by decide) (fun X hnn hF => ?_)
  show G SC r X σ Z0 [] [(0, .ref (r 3))] [] 0
  refine g_aload_n hF d_X3_simple_0 rfl 0 rfl ?_
  refine g_get (v := .int (σ 3 1)) hF 1 obC_3 (by decide) m_95 rfl d_X3_simple_1 ?_
  refine g_istore_n hF [(1, .int (σ 3 1)), (0, .ref (r 3))] d_X3_simple_4 rfl hnn (by decide) rfl ?_
  refine g_aload_n hF d_X3_simple_5 rfl 1 rfl ?_
  refine g_get (v := .int (σ 3 2)) hF 2 obC_3 (by decide) m_96 rfl d_X3_simple_6 ?_
  refine g_bipush hF (v := 14) d_X3_simple_9 (by decide) ?_
  obtain ⟨J127, h127, w1⟩ := w
  have b127 : ∀ (s127 : St), J127 s127 → G SC r X s127 Z0 [] [(0, .ref (r 3))] [] 127 := by
    intro s127  w127_
    have w127_ := h127 s127  w127_
    refine g_aload_n hF d_X3_simple_127 rfl 0 rfl ?_
    refine g_bipush hF (v := 27) d_X3_simple_128 (by decide) ?_
    refine g_callV (As := [.int 27]) (rest := []) hF (fun l D cy => kt_X3_expect a r w127_ l D cy) (Nat.le_of_ble_eq_true rfl) mV_X3_expect m_903 (recv_ob obC_3) rfl rfl (Nat.le_of_ble_eq_true rfl) d_X3_simple_130 (qV (fun s130 w2 => ?_)) (fun _ _ _ h => h.elim)
    exact g_vret hF rfl d_X3_simple_133 ⟨rfl, rfl, rfl, w2⟩
  obtain ⟨J23, h23, w3⟩ := w1
  have b23 : J23  → G SC r X σ Z0 [] [(0, .ref (r 3)), (1, .int (σ 3 1))] [] 23 := by
    intro   w23_
    have w23_ := h23   w23_
    refine g_aload_n hF d_X3_simple_23 rfl 0 rfl ?_
    refine g_aload_n hF d_X3_simple_24 rfl 0 rfl ?_
    refine g_get (v := .int (σ 3 2)) hF 2 obC_3 (by decide) m_96 rfl d_X3_simple_25 ?_
    refine g_bipush hF (v := 14) d_X3_simple_28 (by decide) ?_
    obtain ⟨J40, h40, w4⟩ := w23_
    have b40 : ∀ (y1_40 : Int32), J40 y1_40 → G SC r X σ Z0 [] [(0, .ref (r 3)), (1, .int (σ 3 1))] [.int y1_40, .ref (r 3)] 40 := by
      intro y1_40  w40_
      have w40_ := h40 y1_40  w40_
      refine g_iload_n hF d_X3_simple_40 rfl 1 rfl ?_
      refine g_iconst hF (v := 0) d_X3_simple_41 (by decide) ?_
      refine g_iconst hF (v := 0) d_X3_simple_42 (by decide) ?_
      refine g_callV (As := [.int y1_40, .int (σ 3 1), .int 0, .int 0]) (rest := []) hF (fun l D cy => kt_X3_add a r w40_ l D cy) (Nat.le_of_ble_eq_true rfl) mV_X3_add m_923 (recv_ob obC_3) rfl rfl (Nat.le_of_ble_eq_true rfl) d_X3_simple_43 (qI (fun v43 s43 w5 => ?_)) (fun _ _ _ h => h.elim)
      refine g_pop hF d_X3_simple_46 rfl ?_
      refine g_aload_n hF d_X3_simple_47 rfl 0 rfl ?_
      refine g_callV (As := []) (rest := []) hF (fun l D cy => kt_X3_advance a r w5 l D cy) (Nat.le_of_ble_eq_true rfl) mV_X3_advance m_899 (recv_ob obC_3) rfl rfl (Nat.le_of_ble_eq_true rfl) d_X3_simple_48 (qV (fun s48 w6 => ?_)) (fun _ _ _ h => h.elim)
      refine g_goto hF 127 d_X3_simple_51 (by decide) ?_
      exact g_sub (L' := [(0, .ref (r 3))]) [0] rfl (b127 s48 w6)
    refine g_icmp_ne (yv := 14) hF 38 d_X3_simple_30 (by decide) rfl (by decide) (fun c => ?_) (fun c => ?_)
    · have w7 := w4.1 c
      refine g_bipush hF (v := 37) d_X3_simple_38 (by decide) ?_
      exact b40 (37 : Int32) w7
    · have w8 := w4.2 c
      refine g_bipush hF (v := 36) d_X3_simple_33 (by decide) ?_
      refine g_goto hF 40 d_X3_simple_35 (by decide) ?_
      exact b40 (36 : Int32) w8
  refine g_icmp_eq (yv := 14) hF 23 d_X3_simple_11 (by decide) rfl (by decide) (fun c => ?_) (fun c => ?_)
  · have w9 := w3.1 c
    exact g_sub (L' := [(0, .ref (r 3)), (1, .int (σ 3 1))]) [1, 0] rfl (b23  w9)
  · have w10 := w3.2 c
    refine g_aload_n hF d_X3_simple_14 rfl 1 rfl ?_
    refine g_get (v := .int (σ 3 2)) hF 2 obC_3 (by decide) m_96 rfl d_X3_simple_15 ?_
    refine g_bipush hF (v := 15) d_X3_simple_18 (by decide) ?_
    refine g_icmp_ne (yv := 15) hF 54 d_X3_simple_20 (by decide) rfl (by decide) (fun c => ?_) (fun c => ?_)
    · have w11 := w10.1 c
      refine g_aload_n hF d_X3_simple_54 rfl 1 rfl ?_
      refine g_get (v := .int (σ 3 2)) hF 2 obC_3 (by decide) m_96 rfl d_X3_simple_55 ?_
      refine g_bipush hF (v := 16) d_X3_simple_58 (by decide) ?_
      refine g_icmp_ne (yv := 16) hF 112 d_X3_simple_60 (by decide) rfl (by decide) (fun c => ?_) (fun c => ?_)
      · have w12 := w11.1 c
        refine g_aload_n hF d_X3_simple_112 rfl 1 rfl ?_
        refine g_iconst hF (v := 1) d_X3_simple_113 (by decide) ?_
        refine g_callV (As := [.int 1]) (rest := []) hF (fun l D cy => ktG_expression a r w12 l D cy) (Nat.le_of_ble_eq_true rfl) mV_X3_expression m_927 (recv_ob obC_3) rfl rfl (Nat.le_of_ble_eq_true rfl) d_X3_simple_114 (qV (fun s114 w13 => ?_)) (fun _ _ _ h => h.elim)
        refine g_aload_n hF d_X3_simple_117 rfl 1 rfl ?_
        refine g_bipush hF (v := 22) d_X3_simple_118 (by decide) ?_
        refine g_iload_n hF d_X3_simple_120 rfl 0 rfl ?_
        refine g_iconst hF (v := 0) d_X3_simple_121 (by decide) ?_
        refine g_iconst hF (v := 0) d_X3_simple_122 (by decide) ?_
        refine g_callV (As := [.int 22, .int (σ 3 1), .int 0, .int 0]) (rest := []) hF (fun l D cy => kt_X3_add a r w13 l D cy) (Nat.le_of_ble_eq_true rfl) mV_X3_add m_923 (recv_ob obC_3) rfl rfl (Nat.le_of_ble_eq_true rfl) d_X3_simple_123 (qI (fun v123 s123 w14 => ?_)) (fun _ _ _ h => h.elim)
        refine g_pop hF d_X3_simple_126 rfl ?_
        exact g_sub (L' := [(0, .ref (r 3))]) [1] rfl (b127 s123 w14)
      · have w15 := w11.2 c
        refine g_aload_n hF d_X3_simple_63 rfl 1 rfl ?_
        refine g_callV (As := []) (rest := []) hF (fun l D cy => kt_X3_advance a r w15 l D cy) (Nat.le_of_ble_eq_true rfl) mV_X3_advance m_899 (recv_ob obC_3) rfl rfl (Nat.le_of_ble_eq_true rfl) d_X3_simple_64 (qV (fun s64 w16 => ?_)) (fun _ _ _ h => h.elim)
        refine g_aload_n hF d_X3_simple_67 rfl 1 rfl ?_
        refine g_get (v := .int (s64 3 2)) hF 2 obC_3 (by decide) m_96 rfl d_X3_simple_68 ?_
        refine g_bipush hF (v := 27) d_X3_simple_71 (by decide) ?_
        obtain ⟨J81, h81, w17⟩ := w16
        have b81 : ∀ (y0_81 : Int32), y0_81 = 0 ∨ y0_81 = 1 → J81 y0_81 → G SC r X s64 Z0 [] [(0, .ref (r 3)), (1, .int (σ 3 1))] [.int y0_81] 81 := by
          intro y0_81 hy0_81 w81_
          have w81_ := h81 y0_81 hy0_81 w81_
          refine g_istore_n hF [(2, .int y0_81), (0, .ref (r 3)), (1, .int (σ 3 1))] d_X3_simple_81 rfl hnn (by decide) rfl ?_
          refine g_iload_n hF d_X3_simple_82 rfl 0 rfl ?_
          obtain ⟨J91, h91, w18⟩ := w81_
          have b91 : ∀ (s91 : St), J91 s91 → G SC r X s91 Z0 [] [(0, .ref (r 3)), (1, .int (σ 3 1)), (2, .int y0_81)] [] 91 := by
            intro s91  w91_
            have w91_ := h91 s91  w91_
            refine g_aload_n hF d_X3_simple_91 rfl 0 rfl ?_
            refine g_bipush hF (v := 38) d_X3_simple_92 (by decide) ?_
            refine g_iload_n hF d_X3_simple_94 rfl 1 rfl ?_
            refine g_iload_n hF d_X3_simple_95 rfl 2 rfl ?_
            obtain ⟨J104, h104, w19⟩ := w91_
            have b104 : ∀ (y3_104 : Int32), y3_104 = 0 ∨ y3_104 = 1 → J104 y3_104 → G SC r X s91 Z0 [] [(0, .ref (r 3))] [.int y3_104, .int (σ 3 1), .int 38, .ref (r 3)] 104 := by
              intro y3_104 hy3_104 w104_
              have w104_ := h104 y3_104 hy3_104 w104_
              refine g_iconst hF (v := 0) d_X3_simple_104 (by decide) ?_
              refine g_callV (As := [.int 38, .int (σ 3 1), .int y3_104, .int 0]) (rest := []) hF (fun l D cy => kt_X3_add a r w104_ l D cy) (Nat.le_of_ble_eq_true rfl) mV_X3_add m_923 (recv_ob obC_3) rfl rfl (Nat.le_of_ble_eq_true rfl) d_X3_simple_105 (qI (fun v105 s105 w20 => ?_)) (fun _ _ _ h => h.elim)
              refine g_pop hF d_X3_simple_108 rfl ?_
              refine g_goto hF 127 d_X3_simple_109 (by decide) ?_
              exact b127 s105 w20
            refine g_if_eq hF 103 d_X3_simple_96 (by decide) rfl (fun c => ?_) (fun c => ?_)
            · have w21 := w19.1 c
              refine g_iconst hF (v := 0) d_X3_simple_103 (by decide) ?_
              exact g_sub (L' := [(0, .ref (r 3))]) [0] rfl (b104 (0 : Int32) (Or.inl rfl) w21)
            · have w22 := w19.2 c
              refine g_iconst hF (v := 1) d_X3_simple_99 (by decide) ?_
              refine g_goto hF 104 d_X3_simple_100 (by decide) ?_
              exact g_sub (L' := [(0, .ref (r 3))]) [0] rfl (b104 (1 : Int32) (Or.inr rfl) w22)
          refine g_if_eq hF 91 d_X3_simple_83 (by decide) rfl (fun c => ?_) (fun c => ?_)
          · have w23 := w18.1 c
            exact g_sub (L' := [(0, .ref (r 3)), (1, .int (σ 3 1)), (2, .int y0_81)]) [1, 2, 0] rfl (b91 s64 w23)
          · have w24 := w18.2 c
            refine g_aload_n hF d_X3_simple_86 rfl 1 rfl ?_
            refine g_iconst hF (v := 1) d_X3_simple_87 (by decide) ?_
            refine g_callV (As := [.int 1]) (rest := []) hF (fun l D cy => ktG_expression a r w24 l D cy) (Nat.le_of_ble_eq_true rfl) mV_X3_expression m_927 (recv_ob obC_3) rfl rfl (Nat.le_of_ble_eq_true rfl) d_X3_simple_88 (qV (fun s88 w25 => ?_)) (fun _ _ _ h => h.elim)
            exact g_sub (L' := [(0, .ref (r 3)), (1, .int (σ 3 1)), (2, .int y0_81)]) [1, 2, 0] rfl (b91 s88 w25)
        refine g_icmp_eq (yv := 27) hF 80 d_X3_simple_73 (by decide) rfl (by decide) (fun c => ?_) (fun c => ?_)
        · have w26 := w17.1 c
          refine g_iconst hF (v := 0) d_X3_simple_80 (by decide) ?_
          exact g_sub (L' := [(0, .ref (r 3)), (1, .int (σ 3 1))]) [1, 0] rfl (b81 (0 : Int32) (Or.inl rfl) w26)
        · have w27 := w17.2 c
          refine g_iconst hF (v := 1) d_X3_simple_76 (by decide) ?_
          refine g_goto hF 81 d_X3_simple_77 (by decide) ?_
          exact g_sub (L' := [(0, .ref (r 3)), (1, .int (σ 3 1))]) [1, 0] rfl (b81 (1 : Int32) (Or.inr rfl) w27)
    · have w28 := w10.2 c
      exact g_sub (L' := [(0, .ref (r 3)), (1, .int (σ 3 1))]) [1, 0] rfl (b23  w28)
