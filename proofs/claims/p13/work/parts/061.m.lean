set_option maxHeartbeats 4000000 in
set_option maxRecDepth 100000 in
theorem kt_X3_body (a : Nat → Nat) (r : Nat → Nat) (dK : Nat) (hdK : 1 ≤ dK) (Kbody : Int32 → St → (St → Prop) → Prop) (Kconditional : Int32 → St → (St → Prop) → Prop) (Kloop : Int32 → St → (St → Prop) → Prop) (Kstatement : Int32 → St → (St → Prop) → Prop) (Kstatements : Int32 → St → (St → Prop) → Prop) (hKstatement : ∀ {a1 : Int32} {σ : St} {Q : St → Prop}, Kstatement a1 σ Q → ∀ (l : Launch) (D : va_G) (cy : Nat → ClassId), Ct l D cy SC r (EC a gC) y_X3_statement (Cond.code y_X3_statement b_X3_statement 5 none) dK [.ref (r 3), .int a1] σ Z0 [] (QV Q) QT0) {a1 : Int32} {σ : St} {Q : St → Prop} (w : wk_X3_body Kbody Kconditional Kloop Kstatement Kstatements a1 σ Q) (l : Launch) (D : va_G) (cy : Nat → ClassId) : Ct l D cy SC r (EC a gC) y_X3_body (Cond.code y_X3_body b_X3_body 2 none) (dK + 1) [.ref (r 3), .int a1] σ Z0 [] (QV Q) QT0 := by
  unfold wk_X3_body at w
  refine Ct_of (EC_ok a gC) (by decide) (Nat.le_of_ble_eq_true rfl) (by decide) (fun X hnn hF => ?_)
  show G SC r X σ Z0 [] [(0, .ref (r 3)), (1, .int a1)] [] 0
  refine g_aload_n hF d_X3_body_0 rfl 0 rfl ?_
  refine g_bipush hF (v := 20) d_X3_body_1 (by decide) ?_
  refine g_aload_n hF d_X3_body_3 rfl 0 rfl ?_
  refine g_get (v := .int (σ 3 1)) hF 1 obC_3 (by decide) m_95 rfl d_X3_body_4 ?_
  refine g_iconst hF (v := 0) d_X3_body_7 (by decide) ?_
  refine g_iconst hF (v := 0) d_X3_body_8 (by decide) ?_
  refine g_callV (As := [.int 20, .int (σ 3 1), .int 0, .int 0]) (rest := []) hF (fun l D cy => kt_X3_add a r w l D cy) (Nat.add_le_add_right (Nat.le_trans (Nat.le_of_ble_eq_true rfl) hdK) 1) mV_X3_add m_923 (recv_ob obC_3) rfl rfl (Nat.le_of_ble_eq_true rfl) d_X3_body_9 (qI (fun v9 s9 w1 => ?_)) (fun _ _ _ h => h.elim)
  refine g_pop hF d_X3_body_12 rfl ?_
  refine g_aload_n hF d_X3_body_13 rfl 0 rfl ?_
  refine g_iload_n hF d_X3_body_14 rfl 1 rfl ?_
  refine g_iconst hF (v := 1) d_X3_body_15 (by decide) ?_
  refine g_iadd hF d_X3_body_16 ?_
  refine g_callV (As := [.int (a1 + (1 : Int32))]) (rest := []) hF (fun l D cy => hKstatement w1 l D cy) (Nat.le_refl _) mV_X3_statement m_1008 (recv_ob obC_3) rfl rfl (Nat.le_of_ble_eq_true rfl) d_X3_body_17 (qV (fun s17 w2 => ?_)) (fun _ _ _ h => h.elim)
  refine g_aload_n hF d_X3_body_20 rfl 0 rfl ?_
  refine g_bipush hF (v := 21) d_X3_body_21 (by decide) ?_
  refine g_aload_n hF d_X3_body_23 rfl 0 rfl ?_
  refine g_get (v := .int (s17 3 1)) hF 1 obC_3 (by decide) m_95 rfl d_X3_body_24 ?_
  refine g_iconst hF (v := 0) d_X3_body_27 (by decide) ?_
  refine g_iconst hF (v := 0) d_X3_body_28 (by decide) ?_
  refine g_callV (As := [.int 21, .int (s17 3 1), .int 0, .int 0]) (rest := []) hF (fun l D cy => kt_X3_add a r w2 l D cy) (Nat.add_le_add_right (Nat.le_trans (Nat.le_of_ble_eq_true rfl) hdK) 1) mV_X3_add m_923 (recv_ob obC_3) rfl rfl (Nat.le_of_ble_eq_true rfl) d_X3_body_29 (qI (fun v29 s29 w3 => ?_)) (fun _ _ _ h => h.elim)
  refine g_pop hF d_X3_body_32 rfl ?_
  exact g_vret hF rfl d_X3_body_33 ⟨rfl, rfl, rfl, w3⟩
set_option maxHeartbeats 4000000 in
set_option maxRecDepth 100000 in
theorem kt_X3_deeper (a : Nat → Nat) (r : Nat → Nat) {a1 : Int32} {σ : St} {Q : Int32 → St → Prop} (w : wk_X3_deeper a1 σ Q) (l : Launch) (D : va_G) (cy : Nat → ClassId) : Ct l D cy SC r (EC a gC) y_X3_deeper (Cond.code y_X3_deeper b_X3_deeper 3 (some .boolean)) 1 [.ref (r 3), .int a1] σ Z0 [] (QI (fun x σ9 => (x = 0 ∨ x = 1) ∧ Q x σ9)) QT0 := by
  unfold wk_X3_deeper at w
  refine Ct_of (EC_ok a gC) (by decide) (Nat.le_of_ble_eq_true rfl) (by decide) (fun X hnn hF => ?_)
  show G SC r X σ Z0 [] [(0, .ref (r 3)), (1, .int a1)] [] 0
  refine g_iload_n hF d_X3_deeper_0 rfl 1 rfl ?_
  refine g_bipush hF (v := 25) d_X3_deeper_1 (by decide) ?_
  obtain ⟨J11, h11, w1⟩ := w
  have b11 : ∀ (y0_11 : Int32), y0_11 = 0 ∨ y0_11 = 1 → J11 y0_11 → G SC r X σ Z0 [] [(0, .ref (r 3))] [.int y0_11] 11 := by
    intro y0_11 hy0_11 w11_
    have w11_ := h11 y0_11 hy0_11 w11_
    refine g_istore_n hF [(2, .int y0_11), (0, .ref (r 3))] d_X3_deeper_11 rfl hnn (by decide) rfl ?_
    refine g_iload_n hF d_X3_deeper_12 rfl 0 rfl ?_
    refine g_if_eq hF 23 d_X3_deeper_13 (by decide) rfl (fun c => ?_) (fun c => ?_)
    · have w2 := w11_.1 c
      refine g_aload_n hF d_X3_deeper_23 rfl 1 rfl ?_
      refine g_callV (As := []) (rest := []) hF (fun l D cy => kt_X3_fail a r w2 l D cy) (Nat.le_of_ble_eq_true rfl) mV_X3_fail m_907 (recv_ob obC_3) rfl rfl (Nat.le_of_ble_eq_true rfl) d_X3_deeper_24 (qV (fun s24 w3 => ?_)) (fun _ _ _ h => h.elim)
      refine g_iload_n hF d_X3_deeper_27 rfl 0 rfl ?_
      exact g_zret hF rfl (k_nz hy0_11) d_X3_deeper_28 ⟨rfl, rfl, y0_11, rfl, hy0_11, w3⟩
    · have w4 := w11_.2 c
      refine g_aload_n hF d_X3_deeper_16 rfl 1 rfl ?_
      refine g_callV (As := []) (rest := []) hF (fun l D cy => kt_X3_advance a r w4 l D cy) (Nat.le_of_ble_eq_true rfl) mV_X3_advance m_899 (recv_ob obC_3) rfl rfl (Nat.le_of_ble_eq_true rfl) d_X3_deeper_17 (qV (fun s17 w5 => ?_)) (fun _ _ _ h => h.elim)
      refine g_goto hF 27 d_X3_deeper_20 (by decide) ?_
      refine g_iload_n hF d_X3_deeper_27 rfl 0 rfl ?_
      exact g_zret hF rfl (k_nz hy0_11) d_X3_deeper_28 ⟨rfl, rfl, y0_11, rfl, hy0_11, w5⟩
  refine g_icmp_ge (yv := 25) hF 10 d_X3_deeper_3 (by decide) rfl (by decide) (fun c => ?_) (fun c => ?_)
  · have w6 := w1.1 c
    refine g_iconst hF (v := 0) d_X3_deeper_10 (by decide) ?_
    exact g_sub (L' := [(0, .ref (r 3))]) [0] rfl (b11 (0 : Int32) (Or.inl rfl) w6)
  · have w7 := w1.2 c
    refine g_iconst hF (v := 1) d_X3_deeper_6 (by decide) ?_
    refine g_goto hF 11 d_X3_deeper_7 (by decide) ?_
    exact g_sub (L' := [(0, .ref (r 3))]) [0] rfl (b11 (1 : Int32) (Or.inr rfl) w7)
set_option maxHeartbeats 4000000 in
set_option maxRecDepth 100000 in
theorem kt_X3_call (a : Nat → Nat) (r : Nat → Nat) (dK : Nat) (hdK : 2 ≤ dK) (Kcall : Int32 → Int32 → St → (St → Prop) → Prop) (Kprimary : Int32 → St → (St → Prop) → Prop) (Kbehind : Int32 → St → (St → Prop) → Prop) (Kcast : Int32 → St → (St → Prop) → Prop) (Kunary : Int32 → St → (St → Prop) → Prop) (Kbinary : Int32 → St → (St → Prop) → Prop) (Kchoice : Int32 → St → (St → Prop) → Prop) (Kexpression : Int32 → St → (St → Prop) → Prop) (hKexpression : ∀ {a1 : Int32} {σ : St} {Q : St → Prop}, Kexpression a1 σ Q → ∀ (l : Launch) (D : va_G) (cy : Nat → ClassId), Ct l D cy SC r (EC a gC) y_X3_expression (Cond.code y_X3_expression b_X3_expression 3 none) dK [.ref (r 3), .int a1] σ Z0 [] (QV Q) QT0) {a1 : Int32} {a2 : Int32} {σ : St} {Q : St → Prop} (w : wk_X3_call Kcall Kprimary Kbehind Kcast Kunary Kbinary Kchoice Kexpression a1 a2 σ Q) (l : Launch) (D : va_G) (cy : Nat → ClassId) : Ct l D cy SC r (EC a gC) y_X3_call (Cond.code y_X3_call b_X3_call 5 none) (dK + 1) [.ref (r 3), .int a1, .int a2] σ Z0 [] (QV Q) QT0 := by
  unfold wk_X3_call at w
  refine Ct_of (EC_ok a gC) (by decide) (Nat.le_of_ble_eq_true rfl) (by decide) (fun X hnn hF => ?_)
  show G SC r X σ Z0 [] [(0, .ref (r 3)), (1, .int a1), (2, .int a2)] [] 0
  refine g_aload_n hF d_X3_call_0 rfl 0 rfl ?_
  refine g_iload_n hF d_X3_call_1 rfl 2 rfl ?_
  refine g_callV (As := [.int a2]) (rest := []) hF (fun l D cy => kt_X3_deeper a r w l D cy) (Nat.add_le_add_right (Nat.le_trans (Nat.le_of_ble_eq_true rfl) hdK) 1) mV_X3_deeper m_943 (recv_ob obC_3) rfl rfl (Nat.le_of_ble_eq_true rfl) d_X3_call_2 (qZ (fun v2 s2 hz2 w1 => ?_)) (fun _ _ _ h => h.elim)
  refine g_if_ne hF 9 d_X3_call_5 (by decide) rfl (fun c => ?_) (fun c => ?_)
  · have w2 := w1.1 c
    refine g_aload_n hF d_X3_call_9 rfl 0 rfl ?_
    refine g_iconst hF (v := 4) d_X3_call_10 (by decide) ?_
    refine g_iload_n hF d_X3_call_11 rfl 1 rfl ?_
    refine g_iconst hF (v := 0) d_X3_call_12 (by decide) ?_
    refine g_iconst hF (v := 0) d_X3_call_13 (by decide) ?_
    refine g_callV (As := [.int 4, .int a1, .int 0, .int 0]) (rest := []) hF (fun l D cy => kt_X3_add a r w2 l D cy) (Nat.add_le_add_right (Nat.le_trans (Nat.le_of_ble_eq_true rfl) hdK) 1) mV_X3_add m_923 (recv_ob obC_3) rfl rfl (Nat.le_of_ble_eq_true rfl) d_X3_call_14 (qI (fun v14 s14 w3 => ?_)) (fun _ _ _ h => h.elim)
    refine g_pop hF d_X3_call_17 rfl ?_
    refine g_aload_n hF d_X3_call_18 rfl 0 rfl ?_
    refine g_get (v := .int (s14 3 2)) hF 2 obC_3 (by decide) m_96 rfl d_X3_call_19 ?_
    refine g_bipush hF (v := 21) d_X3_call_22 (by decide) ?_
    obtain ⟨J32, h32, w4⟩ := w3
    have b32 : ∀ (y0_32 : Int32), y0_32 = 0 ∨ y0_32 = 1 → J32 y0_32 → G SC r X s14 Z0 [] [(0, .ref (r 3)), (1, .int a1), (2, .int a2)] [.int y0_32] 32 := by
      intro y0_32 hy0_32 w32_
      have w32_ := h32 y0_32 hy0_32 w32_
      refine g_istore_n hF [(3, .int y0_32), (0, .ref (r 3)), (1, .int a1), (2, .int a2)] d_X3_call_32 rfl hnn (by decide) rfl ?_
      refine g_aload_n hF d_X3_call_33 rfl 1 rfl ?_
      refine g_get (v := .ref (r 2)) hF 0 obC_3 (by decide) m_94 rfl d_X3_call_34 ?_
      refine g_getN (v := .int (s14 2 4)) hF 4 obC_2 (by decide) nm_47 rfl d_X3_call_37 ?_
      refine g_istore hF [(4, .int (s14 2 4)), (3, .int y0_32), (0, .ref (r 3)), (1, .int a1), (2, .int a2)] d_X3_call_40 hnn (by decide) rfl ?_
      obtain ⟨L42, ⟨i42, u42⟩, h42⟩ := w32_
      have b42 : ∀ (n42 : Nat) (x3_42 : Int32) (x4_42 : Int32) (s42 : St), x3_42 = 0 ∨ x3_42 = 1 → L42 n42 x3_42 x4_42 s42 → G SC r X s42 Z0 [] [(0, .ref (r 3)), (1, .int a1), (2, .int a2), (3, .int x3_42), (4, .int x4_42)] [] 42 := by
        intro n42
        induction n42 using Nat.strongRecOn with
        | _ n42 ih42 =>
          intro x3_42 x4_42 s42 hx3_42 w42_
          have w42_ := h42 n42 x3_42 x4_42 s42 hx3_42 w42_
          refine g_iload hF d_X3_call_42 4 rfl ?_
          obtain ⟨J80, h80, w5⟩ := w42_
          have b80 : J80  → G SC r X s42 Z0 [] [(0, .ref (r 3)), (1, .int a1)] [] 80 := by
            intro   w80_
            have w80_ := h80   w80_
            refine g_aload_n hF d_X3_call_80 rfl 0 rfl ?_
            refine g_bipush hF (v := 21) d_X3_call_81 (by decide) ?_
            refine g_callV (As := [.int 21]) (rest := []) hF (fun l D cy => kt_X3_expect a r w80_ l D cy) (Nat.add_le_add_right (Nat.le_trans (Nat.le_of_ble_eq_true rfl) hdK) 1) mV_X3_expect m_903 (recv_ob obC_3) rfl rfl (Nat.le_of_ble_eq_true rfl) d_X3_call_83 (qV (fun s83 w6 => ?_)) (fun _ _ _ h => h.elim)
            refine g_aload_n hF d_X3_call_86 rfl 0 rfl ?_
            refine g_bipush hF (v := 6) d_X3_call_87 (by decide) ?_
            refine g_iload_n hF d_X3_call_89 rfl 1 rfl ?_
            refine g_iconst hF (v := 0) d_X3_call_90 (by decide) ?_
            refine g_iconst hF (v := 0) d_X3_call_91 (by decide) ?_
            refine g_callV (As := [.int 6, .int a1, .int 0, .int 0]) (rest := []) hF (fun l D cy => kt_X3_add a r w6 l D cy) (Nat.add_le_add_right (Nat.le_trans (Nat.le_of_ble_eq_true rfl) hdK) 1) mV_X3_add m_923 (recv_ob obC_3) rfl rfl (Nat.le_of_ble_eq_true rfl) d_X3_call_92 (qI (fun v92 s92 w7 => ?_)) (fun _ _ _ h => h.elim)
            refine g_pop hF d_X3_call_95 rfl ?_
            exact g_vret hF rfl d_X3_call_96 ⟨rfl, rfl, rfl, w7⟩
          refine g_if_le hF 80 d_X3_call_44 (by decide) rfl (fun c => ?_) (fun c => ?_)
          · have w8 := w5.1 c
            exact g_sub (L' := [(0, .ref (r 3)), (1, .int a1)]) [0, 1] rfl (b80  w8)
          · have w9 := w5.2 c
            refine g_iload_n hF d_X3_call_47 rfl 3 rfl ?_
            refine g_if_eq hF 80 d_X3_call_48 (by decide) rfl (fun c => ?_) (fun c => ?_)
            · have w10 := w9.1 c
              exact g_sub (L' := [(0, .ref (r 3)), (1, .int a1)]) [0, 1] rfl (b80  w10)
            · have w11 := w9.2 c
              refine g_aload_n hF d_X3_call_51 rfl 0 rfl ?_
              refine g_iload_n hF d_X3_call_52 rfl 2 rfl ?_
              refine g_iconst hF (v := 1) d_X3_call_53 (by decide) ?_
              refine g_iadd hF d_X3_call_54 ?_
              refine g_callV (As := [.int (a2 + (1 : Int32))]) (rest := []) hF (fun l D cy => hKexpression w11 l D cy) (Nat.le_refl _) mV_X3_expression m_927 (recv_ob obC_3) rfl rfl (Nat.le_of_ble_eq_true rfl) d_X3_call_55 (qV (fun s55 w12 => ?_)) (fun _ _ _ h => h.elim)
              refine g_aload_n hF d_X3_call_58 rfl 0 rfl ?_
              refine g_iconst hF (v := 5) d_X3_call_59 (by decide) ?_
              refine g_iload_n hF d_X3_call_60 rfl 1 rfl ?_
              refine g_iconst hF (v := 0) d_X3_call_61 (by decide) ?_
              refine g_iconst hF (v := 0) d_X3_call_62 (by decide) ?_
              refine g_callV (As := [.int 5, .int a1, .int 0, .int 0]) (rest := []) hF (fun l D cy => kt_X3_add a r w12 l D cy) (Nat.add_le_add_right (Nat.le_trans (Nat.le_of_ble_eq_true rfl) hdK) 1) mV_X3_add m_923 (recv_ob obC_3) rfl rfl (Nat.le_of_ble_eq_true rfl) d_X3_call_63 (qI (fun v63 s63 w13 => ?_)) (fun _ _ _ h => h.elim)
              refine g_pop hF d_X3_call_66 rfl ?_
              refine g_aload_n hF d_X3_call_67 rfl 0 rfl ?_
              refine g_bipush hF (v := 26) d_X3_call_68 (by decide) ?_
              refine g_callV (As := [.int 26]) (rest := []) hF (fun l D cy => kt_X3_accept a r w13 l D cy) (Nat.add_le_add_right (Nat.le_trans (Nat.le_of_ble_eq_true rfl) hdK) 1) mV_X3_accept m_966 (recv_ob obC_3) rfl rfl (Nat.le_of_ble_eq_true rfl) d_X3_call_70 (qZ (fun v70 s70 hz70 w14 => ?_)) (fun _ _ _ h => h.elim)
              refine g_istore_n hF [(3, .int v70), (0, .ref (r 3)), (1, .int a1), (2, .int a2), (4, .int x4_42)] d_X3_call_73 rfl hnn (by decide) rfl ?_
              refine g_iinc hF (x4_42 + (-1)) [(4, .int (x4_42 + (-1))), (3, .int v70), (0, .ref (r 3)), (1, .int a1), (2, .int a2)] d_X3_call_74 4 rfl rfl hnn (by decide) rfl ?_
              refine g_goto hF 42 d_X3_call_77 (by decide) ?_
              obtain ⟨m42, hm42, w9⟩ := w14
              exact g_sub (L' := [(0, .ref (r 3)), (1, .int a1), (2, .int a2), (3, .int v70), (4, .int (x4_42 + (-1)))]) [2, 3, 4, 1, 0] rfl (ih42 m42 hm42 v70 (x4_42 + (-1)) s70 hz70 w9)
      exact g_sub (L' := [(0, .ref (r 3)), (1, .int a1), (2, .int a2), (3, .int y0_32), (4, .int (s14 2 4))]) [2, 3, 4, 1, 0] rfl (b42 i42 y0_32 (s14 2 4) s14 hy0_32 u42)
    refine g_icmp_eq (yv := 21) hF 31 d_X3_call_24 (by decide) rfl (by decide) (fun c => ?_) (fun c => ?_)
    · have w15 := w4.1 c
      refine g_iconst hF (v := 0) d_X3_call_31 (by decide) ?_
      exact b32 (0 : Int32) (Or.inl rfl) w15
    · have w16 := w4.2 c
      refine g_iconst hF (v := 1) d_X3_call_27 (by decide) ?_
      refine g_goto hF 32 d_X3_call_28 (by decide) ?_
      exact b32 (1 : Int32) (Or.inr rfl) w16
  · have w17 := w1.2 c
    exact g_vret hF rfl d_X3_call_8 ⟨rfl, rfl, rfl, w17⟩
set_option maxHeartbeats 4000000 in
set_option maxRecDepth 100000 in
theorem kt_X3_primary (a : Nat → Nat) (r : Nat → Nat) (dK : Nat) (hdK : 2 ≤ dK) (Kcall : Int32 → Int32 → St → (St → Prop) → Prop) (Kprimary : Int32 → St → (St → Prop) → Prop) (Kbehind : Int32 → St → (St → Prop) → Prop) (Kcast : Int32 → St → (St → Prop) → Prop) (Kunary : Int32 → St → (St → Prop) → Prop) (Kbinary : Int32 → St → (St → Prop) → Prop) (Kchoice : Int32 → St → (St → Prop) → Prop) (Kexpression : Int32 → St → (St → Prop) → Prop) (hKcall : ∀ {a1 : Int32} {a2 : Int32} {σ : St} {Q : St → Prop}, Kcall a1 a2 σ Q → ∀ (l : Launch) (D : va_G) (cy : Nat → ClassId), Ct l D cy SC r (EC a gC) y_X3_call (Cond.code y_X3_call b_X3_call 5 none) dK [.ref (r 3), .int a1, .int a2] σ Z0 [] (QV Q) QT0) (hKexpression : ∀ {a1 : Int32} {σ : St} {Q : St → Prop}, Kexpression a1 σ Q → ∀ (l : Launch) (D : va_G) (cy : Nat → ClassId), Ct l D cy SC r (EC a gC) y_X3_expression (Cond.code y_X3_expression b_X3_expression 3 none) dK [.ref (r 3), .int a1] σ Z0 [] (QV Q) QT0) {a1 : Int32} {σ : St} {Q : St → Prop} (w : wk_X3_primary Kcall Kprimary Kbehind Kcast Kunary Kbinary Kchoice Kexpression a1 σ Q) (l : Launch) (D : va_G) (cy : Nat → ClassId) : Ct l D cy SC r (EC a gC) y_X3_primary (Cond.code y_X3_primary b_X3_primary 3 none) (dK + 1) [.ref (r 3), .int a1] σ Z0 [] (QV Q) QT0 := by
  unfold wk_X3_primary at w
  refine Ct_of (EC_ok a gC) (by decide) (Nat.le_of_ble_eq_true rfl) (by decide) (fun X hnn hF => ?_)
  show G SC r X σ Z0 [] [(0, .ref (r 3)), (1, .int a1)] [] 0
  refine g_aload_n hF d_X3_primary_0 rfl 0 rfl ?_
  refine g_get (v := .int (σ 3 1)) hF 1 obC_3 (by decide) m_95 rfl d_X3_primary_1 ?_
  refine g_istore_n hF [(2, .int (σ 3 1)), (0, .ref (r 3)), (1, .int a1)] d_X3_primary_4 rfl hnn (by decide) rfl ?_
  refine g_aload_n hF d_X3_primary_5 rfl 1 rfl ?_
  refine g_get (v := .int (σ 3 2)) hF 2 obC_3 (by decide) m_96 rfl d_X3_primary_6 ?_
  obtain ⟨J52, h52, w1⟩ := w
  have b52 : J52  → G SC r X σ Z0 [] [(0, .ref (r 3)), (2, .int (σ 3 1))] [] 52 := by
    intro   w52_
    have w52_ := h52   w52_
    refine g_aload_n hF d_X3_primary_52 rfl 0 rfl ?_
    refine g_aload_n hF d_X3_primary_53 rfl 0 rfl ?_
    refine g_get (v := .int (σ 3 2)) hF 2 obC_3 (by decide) m_96 rfl d_X3_primary_54 ?_
    refine g_iconst hF (v := 3) d_X3_primary_57 (by decide) ?_
    obtain ⟨J66, h66, w2⟩ := w52_
    have b66 : ∀ (y1_66 : Int32), J66 y1_66 → G SC r X σ Z0 [] [(0, .ref (r 3)), (2, .int (σ 3 1))] [.int y1_66, .ref (r 3)] 66 := by
      intro y1_66  w66_
      have w66_ := h66 y1_66  w66_
      refine g_iload_n hF d_X3_primary_66 rfl 1 rfl ?_
      refine g_iconst hF (v := 0) d_X3_primary_67 (by decide) ?_
      refine g_iconst hF (v := 0) d_X3_primary_68 (by decide) ?_
      refine g_callV (As := [.int y1_66, .int (σ 3 1), .int 0, .int 0]) (rest := []) hF (fun l D cy => kt_X3_add a r w66_ l D cy) (Nat.add_le_add_right (Nat.le_trans (Nat.le_of_ble_eq_true rfl) hdK) 1) mV_X3_add m_923 (recv_ob obC_3) rfl rfl (Nat.le_of_ble_eq_true rfl) d_X3_primary_69 (qI (fun v69 s69 w3 => ?_)) (fun _ _ _ h => h.elim)
      refine g_pop hF d_X3_primary_72 rfl ?_
      refine g_aload_n hF d_X3_primary_73 rfl 0 rfl ?_
      refine g_callV (As := []) (rest := []) hF (fun l D cy => kt_X3_advance a r w3 l D cy) (Nat.add_le_add_right (Nat.le_trans (Nat.le_of_ble_eq_true rfl) hdK) 1) mV_X3_advance m_899 (recv_ob obC_3) rfl rfl (Nat.le_of_ble_eq_true rfl) d_X3_primary_74 (qV (fun s74 w4 => ?_)) (fun _ _ _ h => h.elim)
      refine g_goto hF 142 d_X3_primary_77 (by decide) ?_
      exact g_vret hF rfl d_X3_primary_142 ⟨rfl, rfl, rfl, w4⟩
    refine g_icmp_ne (yv := 3) hF 65 d_X3_primary_58 (by decide) rfl (by decide) (fun c => ?_) (fun c => ?_)
    · have w5 := w2.1 c
      refine g_iconst hF (v := 2) d_X3_primary_65 (by decide) ?_
      exact b66 (2 : Int32) w5
    · have w6 := w2.2 c
      refine g_iconst hF (v := 1) d_X3_primary_61 (by decide) ?_
      refine g_goto hF 66 d_X3_primary_62 (by decide) ?_
      exact b66 (1 : Int32) w6
  refine (Decidable.em ((σ 3 2).toInt = 2)).elim (fun q9_0 => ?_) (fun q9_0 => ?_)
  · have w7 := w1.1 q9_0
    refine g_lookup (off := 71) hF 80 d_X3_primary_9 (by decide +kernel) (by rw [q9_0]; decide +kernel) (by decide) ?_
    refine g_aload_n hF d_X3_primary_80 rfl 1 rfl ?_
    refine g_callV (As := []) (rest := []) hF (fun l D cy => kt_X3_advance a r w7 l D cy) (Nat.add_le_add_right (Nat.le_trans (Nat.le_of_ble_eq_true rfl) hdK) 1) mV_X3_advance m_899 (recv_ob obC_3) rfl rfl (Nat.le_of_ble_eq_true rfl) d_X3_primary_81 (qV (fun s81 w8 => ?_)) (fun _ _ _ h => h.elim)
    refine g_aload_n hF d_X3_primary_84 rfl 1 rfl ?_
    refine g_get (v := .int (s81 3 2)) hF 2 obC_3 (by decide) m_96 rfl d_X3_primary_85 ?_
    refine g_bipush hF (v := 20) d_X3_primary_88 (by decide) ?_
    refine g_icmp_ne (yv := 20) hF 102 d_X3_primary_90 (by decide) rfl (by decide) (fun c => ?_) (fun c => ?_)
    · have w9 := w8.1 c
      refine g_aload_n hF d_X3_primary_102 rfl 1 rfl ?_
      refine g_iconst hF (v := 3) d_X3_primary_103 (by decide) ?_
      refine g_iload_n hF d_X3_primary_104 rfl 0 rfl ?_
      refine g_iconst hF (v := 0) d_X3_primary_105 (by decide) ?_
      refine g_iconst hF (v := 0) d_X3_primary_106 (by decide) ?_
      refine g_callV (As := [.int 3, .int (σ 3 1), .int 0, .int 0]) (rest := []) hF (fun l D cy => kt_X3_add a r w9 l D cy) (Nat.add_le_add_right (Nat.le_trans (Nat.le_of_ble_eq_true rfl) hdK) 1) mV_X3_add m_923 (recv_ob obC_3) rfl rfl (Nat.le_of_ble_eq_true rfl) d_X3_primary_107 (qI (fun v107 s107 w10 => ?_)) (fun _ _ _ h => h.elim)
      refine g_pop hF d_X3_primary_110 rfl ?_
      refine g_goto hF 142 d_X3_primary_111 (by decide) ?_
      exact g_vret hF rfl d_X3_primary_142 ⟨rfl, rfl, rfl, w10⟩
    · have w11 := w8.2 c
      refine g_aload_n hF d_X3_primary_93 rfl 1 rfl ?_
      refine g_iload_n hF d_X3_primary_94 rfl 0 rfl ?_
      refine g_iload_n hF d_X3_primary_95 rfl 2 rfl ?_
      refine g_callV (As := [.int (σ 3 1), .int a1]) (rest := []) hF (fun l D cy => hKcall w11 l D cy) (Nat.le_refl _) mV_X3_call m_962 (recv_ob obC_3) rfl rfl (Nat.le_of_ble_eq_true rfl) d_X3_primary_96 (qV (fun s96 w12 => ?_)) (fun _ _ _ h => h.elim)
      refine g_goto hF 142 d_X3_primary_99 (by decide) ?_
      exact g_vret hF rfl d_X3_primary_142 ⟨rfl, rfl, rfl, w12⟩
  have w13 := w1.2 q9_0
  refine (Decidable.em ((σ 3 2).toInt = 3)).elim (fun q9_1 => ?_) (fun q9_1 => ?_)
  · have w14 := w13.1 q9_1
    refine g_lookup (off := 43) hF 52 d_X3_primary_9 (by decide +kernel) (by rw [q9_1]; decide +kernel) (by decide) ?_
    exact g_sub (L' := [(0, .ref (r 3)), (2, .int (σ 3 1))]) [1, 0] rfl (b52  w14)
  have w15 := w13.2 q9_1
  refine (Decidable.em ((σ 3 2).toInt = 4)).elim (fun q9_2 => ?_) (fun q9_2 => ?_)
  · have w16 := w15.1 q9_2
    refine g_lookup (off := 43) hF 52 d_X3_primary_9 (by decide +kernel) (by rw [q9_2]; decide +kernel) (by decide) ?_
    exact g_sub (L' := [(0, .ref (r 3)), (2, .int (σ 3 1))]) [1, 0] rfl (b52  w16)
  have w17 := w15.2 q9_2
  refine (Decidable.em ((σ 3 2).toInt = 20)).elim (fun q9_3 => ?_) (fun q9_3 => ?_)
  · have w18 := w17.1 q9_3
    refine g_lookup (off := 105) hF 114 d_X3_primary_9 (by decide +kernel) (by rw [q9_3]; decide +kernel) (by decide) ?_
    refine g_aload_n hF d_X3_primary_114 rfl 1 rfl ?_
    refine g_iload_n hF d_X3_primary_115 rfl 2 rfl ?_
    refine g_callV (As := [.int a1]) (rest := []) hF (fun l D cy => kt_X3_deeper a r w18 l D cy) (Nat.add_le_add_right (Nat.le_trans (Nat.le_of_ble_eq_true rfl) hdK) 1) mV_X3_deeper m_943 (recv_ob obC_3) rfl rfl (Nat.le_of_ble_eq_true rfl) d_X3_primary_116 (qZ (fun v116 s116 hz116 w19 => ?_)) (fun _ _ _ h => h.elim)
    refine g_if_eq hF 142 d_X3_primary_119 (by decide) rfl (fun c => ?_) (fun c => ?_)
    · have w20 := w19.1 c
      exact g_vret hF rfl d_X3_primary_142 ⟨rfl, rfl, rfl, w20⟩
    · have w21 := w19.2 c
      refine g_aload_n hF d_X3_primary_122 rfl 1 rfl ?_
      refine g_iload_n hF d_X3_primary_123 rfl 2 rfl ?_
      refine g_iconst hF (v := 1) d_X3_primary_124 (by decide) ?_
      refine g_iadd hF d_X3_primary_125 ?_
      refine g_callV (As := [.int (a1 + (1 : Int32))]) (rest := []) hF (fun l D cy => hKexpression w21 l D cy) (Nat.le_refl _) mV_X3_expression m_927 (recv_ob obC_3) rfl rfl (Nat.le_of_ble_eq_true rfl) d_X3_primary_126 (qV (fun s126 w22 => ?_)) (fun _ _ _ h => h.elim)
      refine g_aload_n hF d_X3_primary_129 rfl 1 rfl ?_
      refine g_bipush hF (v := 21) d_X3_primary_130 (by decide) ?_
      refine g_callV (As := [.int 21]) (rest := []) hF (fun l D cy => kt_X3_expect a r w22 l D cy) (Nat.add_le_add_right (Nat.le_trans (Nat.le_of_ble_eq_true rfl) hdK) 1) mV_X3_expect m_903 (recv_ob obC_3) rfl rfl (Nat.le_of_ble_eq_true rfl) d_X3_primary_132 (qV (fun s132 w23 => ?_)) (fun _ _ _ h => h.elim)
      refine g_goto hF 142 d_X3_primary_135 (by decide) ?_
      exact g_vret hF rfl d_X3_primary_142 ⟨rfl, rfl, rfl, w23⟩
  have w24 := w17.2 q9_3
  refine g_lookup (off := 129) hF 138 d_X3_primary_9 (by decide +kernel) ((g_osw (2) (by decide) q9_0).trans ((g_osw (3) (by decide) q9_1).trans ((g_osw (4) (by decide) q9_2).trans ((g_osw (20) (by decide) q9_3).trans rfl)))) (by decide) ?_
  refine g_aload_n hF d_X3_primary_138 rfl 1 rfl ?_
  refine g_callV (As := []) (rest := []) hF (fun l D cy => kt_X3_fail a r w24 l D cy) (Nat.add_le_add_right (Nat.le_trans (Nat.le_of_ble_eq_true rfl) hdK) 1) mV_X3_fail m_907 (recv_ob obC_3) rfl rfl (Nat.le_of_ble_eq_true rfl) d_X3_primary_139 (qV (fun s139 w25 => ?_)) (fun _ _ _ h => h.elim)
  exact g_vret hF rfl d_X3_primary_142 ⟨rfl, rfl, rfl, w25⟩
set_option maxHeartbeats 4000000 in
set_option maxRecDepth 100000 in
theorem kt_X3_behind (a : Nat → Nat) (r : Nat → Nat) (dK : Nat) (hdK : 2 ≤ dK) (Kcall : Int32 → Int32 → St → (St → Prop) → Prop) (Kprimary : Int32 → St → (St → Prop) → Prop) (Kbehind : Int32 → St → (St → Prop) → Prop) (Kcast : Int32 → St → (St → Prop) → Prop) (Kunary : Int32 → St → (St → Prop) → Prop) (Kbinary : Int32 → St → (St → Prop) → Prop) (Kchoice : Int32 → St → (St → Prop) → Prop) (Kexpression : Int32 → St → (St → Prop) → Prop) (hKprimary : ∀ {a1 : Int32} {σ : St} {Q : St → Prop}, Kprimary a1 σ Q → ∀ (l : Launch) (D : va_G) (cy : Nat → ClassId), Ct l D cy SC r (EC a gC) y_X3_primary (Cond.code y_X3_primary b_X3_primary 3 none) dK [.ref (r 3), .int a1] σ Z0 [] (QV Q) QT0) (hKexpression : ∀ {a1 : Int32} {σ : St} {Q : St → Prop}, Kexpression a1 σ Q → ∀ (l : Launch) (D : va_G) (cy : Nat → ClassId), Ct l D cy SC r (EC a gC) y_X3_expression (Cond.code y_X3_expression b_X3_expression 3 none) dK [.ref (r 3), .int a1] σ Z0 [] (QV Q) QT0) {a1 : Int32} {σ : St} {Q : St → Prop} (w : wk_X3_behind Kcall Kprimary Kbehind Kcast Kunary Kbinary Kchoice Kexpression a1 σ Q) (l : Launch) (D : va_G) (cy : Nat → ClassId) : Ct l D cy SC r (EC a gC) y_X3_behind (Cond.code y_X3_behind b_X3_behind 5 none) (dK + 1) [.ref (r 3), .int a1] σ Z0 [] (QV Q) QT0 := by
  unfold wk_X3_behind at w
  refine Ct_of (EC_ok a gC) (by decide) (Nat.le_of_ble_eq_true rfl) (by decide) (fun X hnn hF => ?_)
  show G SC r X σ Z0 [] [(0, .ref (r 3)), (1, .int a1)] [] 0
  refine g_aload_n hF d_X3_behind_0 rfl 0 rfl ?_
  refine g_iload_n hF d_X3_behind_1 rfl 1 rfl ?_
  refine g_callV (As := [.int a1]) (rest := []) hF (fun l D cy => hKprimary w l D cy) (Nat.le_refl _) mV_X3_primary m_958 (recv_ob obC_3) rfl rfl (Nat.le_of_ble_eq_true rfl) d_X3_behind_2 (qV (fun s2 w1 => ?_)) (fun _ _ _ h => h.elim)
  refine g_iconst hF (v := 1) d_X3_behind_5 (by decide) ?_
  refine g_istore_n hF [(2, .int 1), (0, .ref (r 3)), (1, .int a1)] d_X3_behind_6 rfl hnn (by decide) rfl ?_
  refine g_aload_n hF d_X3_behind_7 rfl 1 rfl ?_
  refine g_get (v := .ref (r 2)) hF 0 obC_3 (by decide) m_94 rfl d_X3_behind_8 ?_
  refine g_getN (v := .int (s2 2 4)) hF 4 obC_2 (by decide) nm_47 rfl d_X3_behind_11 ?_
  refine g_istore_n hF [(3, .int (s2 2 4)), (2, .int 1), (0, .ref (r 3)), (1, .int a1)] d_X3_behind_14 rfl hnn (by decide) rfl ?_
  obtain ⟨L15, ⟨i15, u15⟩, h15⟩ := w1
  have b15 : ∀ (n15 : Nat) (x2_15 : Int32) (x3_15 : Int32) (s15 : St), x2_15 = 0 ∨ x2_15 = 1 → L15 n15 x2_15 x3_15 s15 → G SC r X s15 Z0 [] [(0, .ref (r 3)), (1, .int a1), (2, .int x2_15), (3, .int x3_15)] [] 15 := by
    intro n15
    induction n15 using Nat.strongRecOn with
    | _ n15 ih15 =>
      intro x2_15 x3_15 s15 hx2_15 w15_
      have w15_ := h15 n15 x2_15 x3_15 s15 hx2_15 w15_
      refine g_iload_n hF d_X3_behind_15 rfl 3 rfl ?_
      refine g_if_le hF 142 d_X3_behind_16 (by decide) rfl (fun c => ?_) (fun c => ?_)
      · have w2 := w15_.1 c
        exact g_vret hF rfl d_X3_behind_142 ⟨rfl, rfl, rfl, w2⟩
      · have w3 := w15_.2 c
        refine g_iload_n hF d_X3_behind_19 rfl 2 rfl ?_
        refine g_if_eq hF 142 d_X3_behind_20 (by decide) rfl (fun c => ?_) (fun c => ?_)
        · have w4 := w3.1 c
          exact g_vret hF rfl d_X3_behind_142 ⟨rfl, rfl, rfl, w4⟩
        · have w5 := w3.2 c
          refine g_aload_n hF d_X3_behind_23 rfl 0 rfl ?_
          refine g_get (v := .int (s15 3 1)) hF 1 obC_3 (by decide) m_95 rfl d_X3_behind_24 ?_
          refine g_istore hF [(4, .int (s15 3 1)), (0, .ref (r 3)), (1, .int a1), (2, .int x2_15), (3, .int x3_15)] d_X3_behind_27 hnn (by decide) rfl ?_
          refine g_aload_n hF d_X3_behind_29 rfl 1 rfl ?_
          refine g_get (v := .int (s15 3 2)) hF 2 obC_3 (by decide) m_96 rfl d_X3_behind_30 ?_
          refine g_bipush hF (v := 24) d_X3_behind_33 (by decide) ?_
          obtain ⟨J61, h61, w6⟩ := w5
          have b61 : ∀ (y0_61 : Int32), y0_61 = 0 ∨ y0_61 = 1 → J61 y0_61 → G SC r X s15 Z0 [] [(0, .ref (r 3)), (1, .int a1), (3, .int x3_15), (4, .int (s15 3 1))] [.int y0_61] 61 := by
            intro y0_61 hy0_61 w61_
            have w61_ := h61 y0_61 hy0_61 w61_
            refine g_istore_n hF [(2, .int y0_61), (0, .ref (r 3)), (1, .int a1), (3, .int x3_15), (4, .int (s15 3 1))] d_X3_behind_61 rfl hnn (by decide) rfl ?_
            refine g_aload_n hF d_X3_behind_62 rfl 1 rfl ?_
            refine g_get (v := .int (s15 3 2)) hF 2 obC_3 (by decide) m_96 rfl d_X3_behind_63 ?_
            refine g_bipush hF (v := 24) d_X3_behind_66 (by decide) ?_
            obtain ⟨J136, h136, w7⟩ := w61_
            have b136 : ∀ (s136 : St), J136 s136 → G SC r X s136 Z0 [] [(0, .ref (r 3)), (1, .int a1), (2, .int y0_61), (3, .int x3_15)] [] 136 := by
              intro s136  w136_
              have w136_ := h136 s136  w136_
              refine g_iinc hF (x3_15 + (-1)) [(3, .int (x3_15 + (-1))), (0, .ref (r 3)), (1, .int a1), (2, .int y0_61)] d_X3_behind_136 3 rfl rfl hnn (by decide) rfl ?_
              refine g_goto hF 15 d_X3_behind_139 (by decide) ?_
              obtain ⟨m15, hm15, w9⟩ := w136_
              exact g_sub (L' := [(0, .ref (r 3)), (1, .int a1), (2, .int y0_61), (3, .int (x3_15 + (-1)))]) [1, 2, 3, 0] rfl (ih15 m15 hm15 y0_61 (x3_15 + (-1)) s136 hy0_61 w9)
            refine g_icmp_ne (yv := 24) hF 117 d_X3_behind_68 (by decide) rfl (by decide) (fun c => ?_) (fun c => ?_)
            · have w8 := w7.1 c
              refine g_iload_n hF d_X3_behind_117 rfl 0 rfl ?_
              refine g_if_eq hF 136 d_X3_behind_118 (by decide) rfl (fun c => ?_) (fun c => ?_)
              · have w9 := w8.1 c
                exact g_sub (L' := [(0, .ref (r 3)), (1, .int a1), (2, .int y0_61), (3, .int x3_15)]) [1, 2, 0, 3] rfl (b136 s15 w9)
              · have w10 := w8.2 c
                refine g_aload_n hF d_X3_behind_121 rfl 1 rfl ?_
                refine g_callV (As := []) (rest := []) hF (fun l D cy => kt_X3_advance a r w10 l D cy) (Nat.add_le_add_right (Nat.le_trans (Nat.le_of_ble_eq_true rfl) hdK) 1) mV_X3_advance m_899 (recv_ob obC_3) rfl rfl (Nat.le_of_ble_eq_true rfl) d_X3_behind_122 (qV (fun s122 w11 => ?_)) (fun _ _ _ h => h.elim)
                refine g_aload_n hF d_X3_behind_125 rfl 1 rfl ?_
                refine g_bipush hF (v := 13) d_X3_behind_126 (by decide) ?_
                refine g_iload hF d_X3_behind_128 4 rfl ?_
                refine g_iconst hF (v := 0) d_X3_behind_130 (by decide) ?_
                refine g_iconst hF (v := 0) d_X3_behind_131 (by decide) ?_
                refine g_callV (As := [.int 13, .int (s15 3 1), .int 0, .int 0]) (rest := []) hF (fun l D cy => kt_X3_add a r w11 l D cy) (Nat.add_le_add_right (Nat.le_trans (Nat.le_of_ble_eq_true rfl) hdK) 1) mV_X3_add m_923 (recv_ob obC_3) rfl rfl (Nat.le_of_ble_eq_true rfl) d_X3_behind_132 (qI (fun v132 s132 w12 => ?_)) (fun _ _ _ h => h.elim)
                refine g_pop hF d_X3_behind_135 rfl ?_
                exact g_sub (L' := [(0, .ref (r 3)), (1, .int a1), (2, .int y0_61), (3, .int x3_15)]) [1, 2, 0, 3] rfl (b136 s132 w12)
            · have w13 := w7.2 c
              refine g_aload_n hF d_X3_behind_71 rfl 1 rfl ?_
              refine g_iload_n hF d_X3_behind_72 rfl 2 rfl ?_
              refine g_callV (As := [.int a1]) (rest := []) hF (fun l D cy => kt_X3_deeper a r w13 l D cy) (Nat.add_le_add_right (Nat.le_trans (Nat.le_of_ble_eq_true rfl) hdK) 1) mV_X3_deeper m_943 (recv_ob obC_3) rfl rfl (Nat.le_of_ble_eq_true rfl) d_X3_behind_73 (qZ (fun v73 s73 hz73 w14 => ?_)) (fun _ _ _ h => h.elim)
              refine g_if_eq hF 136 d_X3_behind_76 (by decide) rfl (fun c => ?_) (fun c => ?_)
              · have w15 := w14.1 c
                exact g_sub (L' := [(0, .ref (r 3)), (1, .int a1), (2, .int y0_61), (3, .int x3_15)]) [1, 2, 0, 3] rfl (b136 s73 w15)
              · have w16 := w14.2 c
                refine g_aload_n hF d_X3_behind_79 rfl 1 rfl ?_
                refine g_bipush hF (v := 7) d_X3_behind_80 (by decide) ?_
                refine g_iload hF d_X3_behind_82 4 rfl ?_
                refine g_iconst hF (v := 0) d_X3_behind_84 (by decide) ?_
                refine g_iconst hF (v := 0) d_X3_behind_85 (by decide) ?_
                refine g_callV (As := [.int 7, .int (s15 3 1), .int 0, .int 0]) (rest := []) hF (fun l D cy => kt_X3_add a r w16 l D cy) (Nat.add_le_add_right (Nat.le_trans (Nat.le_of_ble_eq_true rfl) hdK) 1) mV_X3_add m_923 (recv_ob obC_3) rfl rfl (Nat.le_of_ble_eq_true rfl) d_X3_behind_86 (qI (fun v86 s86 w17 => ?_)) (fun _ _ _ h => h.elim)
                refine g_pop hF d_X3_behind_89 rfl ?_
                refine g_aload_n hF d_X3_behind_90 rfl 1 rfl ?_
                refine g_iload_n hF d_X3_behind_91 rfl 2 rfl ?_
                refine g_iconst hF (v := 1) d_X3_behind_92 (by decide) ?_
                refine g_iadd hF d_X3_behind_93 ?_
                refine g_callV (As := [.int (a1 + (1 : Int32))]) (rest := []) hF (fun l D cy => hKexpression w17 l D cy) (Nat.le_refl _) mV_X3_expression m_927 (recv_ob obC_3) rfl rfl (Nat.le_of_ble_eq_true rfl) d_X3_behind_94 (qV (fun s94 w18 => ?_)) (fun _ _ _ h => h.elim)
                refine g_aload_n hF d_X3_behind_97 rfl 1 rfl ?_
                refine g_bipush hF (v := 25) d_X3_behind_98 (by decide) ?_
                refine g_callV (As := [.int 25]) (rest := []) hF (fun l D cy => kt_X3_expect a r w18 l D cy) (Nat.add_le_add_right (Nat.le_trans (Nat.le_of_ble_eq_true rfl) hdK) 1) mV_X3_expect m_903 (recv_ob obC_3) rfl rfl (Nat.le_of_ble_eq_true rfl) d_X3_behind_100 (qV (fun s100 w19 => ?_)) (fun _ _ _ h => h.elim)
                refine g_aload_n hF d_X3_behind_103 rfl 1 rfl ?_
                refine g_bipush hF (v := 10) d_X3_behind_104 (by decide) ?_
                refine g_iload hF d_X3_behind_106 4 rfl ?_
                refine g_iconst hF (v := 0) d_X3_behind_108 (by decide) ?_
                refine g_iconst hF (v := 0) d_X3_behind_109 (by decide) ?_
                refine g_callV (As := [.int 10, .int (s15 3 1), .int 0, .int 0]) (rest := []) hF (fun l D cy => kt_X3_add a r w19 l D cy) (Nat.add_le_add_right (Nat.le_trans (Nat.le_of_ble_eq_true rfl) hdK) 1) mV_X3_add m_923 (recv_ob obC_3) rfl rfl (Nat.le_of_ble_eq_true rfl) d_X3_behind_110 (qI (fun v110 s110 w20 => ?_)) (fun _ _ _ h => h.elim)
                refine g_pop hF d_X3_behind_113 rfl ?_
                refine g_goto hF 136 d_X3_behind_114 (by decide) ?_
                exact g_sub (L' := [(0, .ref (r 3)), (1, .int a1), (2, .int y0_61), (3, .int x3_15)]) [1, 2, 0, 3] rfl (b136 s110 w20)
          obtain ⟨J56, h56, w21⟩ := w6
          have b56 : J56  → G SC r X s15 Z0 [] [(0, .ref (r 3)), (1, .int a1), (3, .int x3_15), (4, .int (s15 3 1))] [] 56 := by
            intro   w56_
            have w56_ := h56   w56_
            refine g_iconst hF (v := 1) d_X3_behind_56 (by decide) ?_
            refine g_goto hF 61 d_X3_behind_57 (by decide) ?_
            exact b61 (1 : Int32) (Or.inr rfl) w56_
          refine g_icmp_eq (yv := 24) hF 56 d_X3_behind_35 (by decide) rfl (by decide) (fun c => ?_) (fun c => ?_)
          · have w22 := w21.1 c
            exact g_sub (L' := [(0, .ref (r 3)), (1, .int a1), (3, .int x3_15), (4, .int (s15 3 1))]) [1, 2, 4, 0] rfl (b56  w22)
          · have w23 := w21.2 c
            refine g_aload_n hF d_X3_behind_38 rfl 1 rfl ?_
            refine g_get (v := .int (s15 3 2)) hF 2 obC_3 (by decide) m_96 rfl d_X3_behind_39 ?_
            refine g_bipush hF (v := 61) d_X3_behind_42 (by decide) ?_
            refine g_icmp_eq (yv := 61) hF 56 d_X3_behind_44 (by decide) rfl (by decide) (fun c => ?_) (fun c => ?_)
            · have w24 := w23.1 c
              exact g_sub (L' := [(0, .ref (r 3)), (1, .int a1), (3, .int x3_15), (4, .int (s15 3 1))]) [1, 2, 4, 0] rfl (b56  w24)
            · have w25 := w23.2 c
              refine g_aload_n hF d_X3_behind_47 rfl 1 rfl ?_
              refine g_get (v := .int (s15 3 2)) hF 2 obC_3 (by decide) m_96 rfl d_X3_behind_48 ?_
              refine g_bipush hF (v := 62) d_X3_behind_51 (by decide) ?_
              refine g_icmp_ne (yv := 62) hF 60 d_X3_behind_53 (by decide) rfl (by decide) (fun c => ?_) (fun c => ?_)
              · have w26 := w25.1 c
                refine g_iconst hF (v := 0) d_X3_behind_60 (by decide) ?_
                exact g_sub (L' := [(0, .ref (r 3)), (1, .int a1), (3, .int x3_15), (4, .int (s15 3 1))]) [1, 2, 4, 0] rfl (b61 (0 : Int32) (Or.inl rfl) w26)
              · have w27 := w25.2 c
                exact g_sub (L' := [(0, .ref (r 3)), (1, .int a1), (3, .int x3_15), (4, .int (s15 3 1))]) [1, 2, 4, 0] rfl (b56  w27)
  exact g_sub (L' := [(0, .ref (r 3)), (1, .int a1), (2, .int 1), (3, .int (s2 2 4))]) [2, 3, 1, 0] rfl (b15 i15 (1 : Int32) (s2 2 4) s2 (Or.inr rfl) u15)
set_option maxHeartbeats 4000000 in
set_option maxRecDepth 100000 in
theorem kt_X3_cast (a : Nat → Nat) (r : Nat → Nat) (dK : Nat) (hdK : 2 ≤ dK) (Kcall : Int32 → Int32 → St → (St → Prop) → Prop) (Kprimary : Int32 → St → (St → Prop) → Prop) (Kbehind : Int32 → St → (St → Prop) → Prop) (Kcast : Int32 → St → (St → Prop) → Prop) (Kunary : Int32 → St → (St → Prop) → Prop) (Kbinary : Int32 → St → (St → Prop) → Prop) (Kchoice : Int32 → St → (St → Prop) → Prop) (Kexpression : Int32 → St → (St → Prop) → Prop) (hKunary : ∀ {a1 : Int32} {σ : St} {Q : St → Prop}, Kunary a1 σ Q → ∀ (l : Launch) (D : va_G) (cy : Nat → ClassId), Ct l D cy SC r (EC a gC) y_X3_unary (Cond.code y_X3_unary b_X3_unary 3 none) dK [.ref (r 3), .int a1] σ Z0 [] (QV Q) QT0) {a1 : Int32} {σ : St} {Q : St → Prop} (w : wk_X3_cast Kcall Kprimary Kbehind Kcast Kunary Kbinary Kchoice Kexpression a1 σ Q) (l : Launch) (D : va_G) (cy : Nat → ClassId) : Ct l D cy SC r (EC a gC) y_X3_cast (Cond.code y_X3_cast b_X3_cast 4 none) (dK + 1) [.ref (r 3), .int a1] σ Z0 [] (QV Q) QT0 := by
  unfold wk_X3_cast at w
  refine Ct_of (EC_ok a gC) (by decide) (Nat.le_of_ble_eq_true rfl) (by decide) (fun X hnn hF => ?_)
  show G SC r X σ Z0 [] [(0, .ref (r 3)), (1, .int a1)] [] 0
  refine g_aload_n hF d_X3_cast_0 rfl 0 rfl ?_
  refine g_get (v := .int (σ 3 1)) hF 1 obC_3 (by decide) m_95 rfl d_X3_cast_1 ?_
  refine g_istore_n hF [(2, .int (σ 3 1)), (0, .ref (r 3)), (1, .int a1)] d_X3_cast_4 rfl hnn (by decide) rfl ?_
  refine g_aload_n hF d_X3_cast_5 rfl 1 rfl ?_
  refine g_iload_n hF d_X3_cast_6 rfl 2 rfl ?_
  refine g_callV (As := [.int a1]) (rest := []) hF (fun l D cy => kt_X3_deeper a r w l D cy) (Nat.add_le_add_right (Nat.le_trans (Nat.le_of_ble_eq_true rfl) hdK) 1) mV_X3_deeper m_943 (recv_ob obC_3) rfl rfl (Nat.le_of_ble_eq_true rfl) d_X3_cast_7 (qZ (fun v7 s7 hz7 w1 => ?_)) (fun _ _ _ h => h.elim)
  refine g_if_eq hF 46 d_X3_cast_10 (by decide) rfl (fun c => ?_) (fun c => ?_)
  · have w2 := w1.1 c
    exact g_vret hF rfl d_X3_cast_46 ⟨rfl, rfl, rfl, w2⟩
  · have w3 := w1.2 c
    refine g_aload_n hF d_X3_cast_13 rfl 1 rfl ?_
    refine g_iconst hF (v := 5) d_X3_cast_14 (by decide) ?_
    refine g_callV (As := [.int 5]) (rest := []) hF (fun l D cy => kt_X3_expect a r w3 l D cy) (Nat.add_le_add_right (Nat.le_trans (Nat.le_of_ble_eq_true rfl) hdK) 1) mV_X3_expect m_903 (recv_ob obC_3) rfl rfl (Nat.le_of_ble_eq_true rfl) d_X3_cast_15 (qV (fun s15 w4 => ?_)) (fun _ _ _ h => h.elim)
    refine g_aload_n hF d_X3_cast_18 rfl 1 rfl ?_
    refine g_callV (As := []) (rest := []) hF (fun l D cy => kt_X3_stars a r w4 l D cy) (Nat.add_le_add_right (Nat.le_trans (Nat.le_of_ble_eq_true rfl) hdK) 1) mV_X3_stars m_911 (recv_ob obC_3) rfl rfl (Nat.le_of_ble_eq_true rfl) d_X3_cast_19 (qI (fun v19 s19 w5 => ?_)) (fun _ _ _ h => h.elim)
    refine g_istore_n hF [(3, .int v19), (2, .int (σ 3 1)), (0, .ref (r 3)), (1, .int a1)] d_X3_cast_22 rfl hnn (by decide) rfl ?_
    refine g_aload_n hF d_X3_cast_23 rfl 2 rfl ?_
    refine g_bipush hF (v := 21) d_X3_cast_24 (by decide) ?_
    refine g_callV (As := [.int 21]) (rest := []) hF (fun l D cy => kt_X3_expect a r w5 l D cy) (Nat.add_le_add_right (Nat.le_trans (Nat.le_of_ble_eq_true rfl) hdK) 1) mV_X3_expect m_903 (recv_ob obC_3) rfl rfl (Nat.le_of_ble_eq_true rfl) d_X3_cast_26 (qV (fun s26 w6 => ?_)) (fun _ _ _ h => h.elim)
    refine g_aload_n hF d_X3_cast_29 rfl 2 rfl ?_
    refine g_iload_n hF d_X3_cast_30 rfl 3 rfl ?_
    refine g_iconst hF (v := 1) d_X3_cast_31 (by decide) ?_
    refine g_iadd hF d_X3_cast_32 ?_
    refine g_callV (As := [.int (a1 + (1 : Int32))]) (rest := []) hF (fun l D cy => hKunary w6 l D cy) (Nat.le_refl _) mV_X3_unary m_939 (recv_ob obC_3) rfl rfl (Nat.le_of_ble_eq_true rfl) d_X3_cast_33 (qV (fun s33 w7 => ?_)) (fun _ _ _ h => h.elim)
    refine g_aload_n hF d_X3_cast_36 rfl 2 rfl ?_
    refine g_bipush hF (v := 12) d_X3_cast_37 (by decide) ?_
    refine g_iload_n hF d_X3_cast_39 rfl 1 rfl ?_
    refine g_iload_n hF d_X3_cast_40 rfl 0 rfl ?_
    refine g_iconst hF (v := 0) d_X3_cast_41 (by decide) ?_
    refine g_callV (As := [.int 12, .int (σ 3 1), .int v19, .int 0]) (rest := []) hF (fun l D cy => kt_X3_add a r w7 l D cy) (Nat.add_le_add_right (Nat.le_trans (Nat.le_of_ble_eq_true rfl) hdK) 1) mV_X3_add m_923 (recv_ob obC_3) rfl rfl (Nat.le_of_ble_eq_true rfl) d_X3_cast_42 (qI (fun v42 s42 w8 => ?_)) (fun _ _ _ h => h.elim)
    refine g_pop hF d_X3_cast_45 rfl ?_
    exact g_vret hF rfl d_X3_cast_46 ⟨rfl, rfl, rfl, w8⟩
set_option maxHeartbeats 4000000 in
set_option maxRecDepth 100000 in
theorem kt_X3_unary (a : Nat → Nat) (r : Nat → Nat) (dK : Nat) (hdK : 2 ≤ dK) (Kcall : Int32 → Int32 → St → (St → Prop) → Prop) (Kprimary : Int32 → St → (St → Prop) → Prop) (Kbehind : Int32 → St → (St → Prop) → Prop) (Kcast : Int32 → St → (St → Prop) → Prop) (Kunary : Int32 → St → (St → Prop) → Prop) (Kbinary : Int32 → St → (St → Prop) → Prop) (Kchoice : Int32 → St → (St → Prop) → Prop) (Kexpression : Int32 → St → (St → Prop) → Prop) (hKbehind : ∀ {a1 : Int32} {σ : St} {Q : St → Prop}, Kbehind a1 σ Q → ∀ (l : Launch) (D : va_G) (cy : Nat → ClassId), Ct l D cy SC r (EC a gC) y_X3_behind (Cond.code y_X3_behind b_X3_behind 5 none) dK [.ref (r 3), .int a1] σ Z0 [] (QV Q) QT0) (hKcast : ∀ {a1 : Int32} {σ : St} {Q : St → Prop}, Kcast a1 σ Q → ∀ (l : Launch) (D : va_G) (cy : Nat → ClassId), Ct l D cy SC r (EC a gC) y_X3_cast (Cond.code y_X3_cast b_X3_cast 4 none) dK [.ref (r 3), .int a1] σ Z0 [] (QV Q) QT0) (hKunary : ∀ {a1 : Int32} {σ : St} {Q : St → Prop}, Kunary a1 σ Q → ∀ (l : Launch) (D : va_G) (cy : Nat → ClassId), Ct l D cy SC r (EC a gC) y_X3_unary (Cond.code y_X3_unary b_X3_unary 3 none) dK [.ref (r 3), .int a1] σ Z0 [] (QV Q) QT0) {a1 : Int32} {σ : St} {Q : St → Prop} (w : wk_X3_unary Kcall Kprimary Kbehind Kcast Kunary Kbinary Kchoice Kexpression a1 σ Q) (l : Launch) (D : va_G) (cy : Nat → ClassId) : Ct l D cy SC r (EC a gC) y_X3_unary (Cond.code y_X3_unary b_X3_unary 3 none) (dK + 1) [.ref (r 3), .int a1] σ Z0 [] (QV Q) QT0 := by
  unfold wk_X3_unary at w
  refine Ct_of (EC_ok a gC) (by decide) (Nat.le_of_ble_eq_true rfl) (by decide) (fun X hnn hF => ?_)
  show G SC r X σ Z0 [] [(0, .ref (r 3)), (1, .int a1)] [] 0
  refine g_aload_n hF d_X3_unary_0 rfl 0 rfl ?_
  refine g_get (v := .int (σ 3 1)) hF 1 obC_3 (by decide) m_95 rfl d_X3_unary_1 ?_
  refine g_istore_n hF [(2, .int (σ 3 1)), (0, .ref (r 3)), (1, .int a1)] d_X3_unary_4 rfl hnn (by decide) rfl ?_
  refine g_aload_n hF d_X3_unary_5 rfl 1 rfl ?_
  refine g_get (v := .int (σ 3 2)) hF 2 obC_3 (by decide) m_96 rfl d_X3_unary_6 ?_
  obtain ⟨J128, h128, w1⟩ := w
  have b128 : J128  → G SC r X σ Z0 [] [(0, .ref (r 3)), (1, .int a1), (2, .int (σ 3 1))] [] 128 := by
    intro   w128_
    have w128_ := h128   w128_
    refine g_aload_n hF d_X3_unary_128 rfl 0 rfl ?_
    refine g_get (v := .int (σ 3 2)) hF 2 obC_3 (by decide) m_96 rfl d_X3_unary_129 ?_
    refine g_bipush hF (v := 20) d_X3_unary_132 (by decide) ?_
    obtain ⟨J162, h162, w2⟩ := w128_
    have b162 : J162  → G SC r X σ Z0 [] [(0, .ref (r 3)), (1, .int a1)] [] 162 := by
      intro   w162_
      have w162_ := h162   w162_
      refine g_aload_n hF d_X3_unary_162 rfl 0 rfl ?_
      refine g_iload_n hF d_X3_unary_163 rfl 1 rfl ?_
      refine g_callV (As := [.int a1]) (rest := []) hF (fun l D cy => hKbehind w162_ l D cy) (Nat.le_refl _) mV_X3_behind m_954 (recv_ob obC_3) rfl rfl (Nat.le_of_ble_eq_true rfl) d_X3_unary_164 (qV (fun s164 w3 => ?_)) (fun _ _ _ h => h.elim)
      exact g_vret hF rfl d_X3_unary_167 ⟨rfl, rfl, rfl, w3⟩
    refine g_icmp_ne (yv := 20) hF 162 d_X3_unary_134 (by decide) rfl (by decide) (fun c => ?_) (fun c => ?_)
    · have w4 := w2.1 c
      exact g_sub (L' := [(0, .ref (r 3)), (1, .int a1)]) [0, 1] rfl (b162  w4)
    · have w5 := w2.2 c
      refine g_aload_n hF d_X3_unary_137 rfl 0 rfl ?_
      refine g_get (v := .ref (r 2)) hF 0 obC_3 (by decide) m_94 rfl d_X3_unary_138 ?_
      refine g_getN (v := .ref (r 13)) hF 5 obC_2 (by decide) nm_50 rfl d_X3_unary_141 ?_
      refine g_iload_n hF d_X3_unary_144 rfl 2 rfl ?_
      refine g_iconst hF (v := 1) d_X3_unary_145 (by decide) ?_
      refine g_iadd hF d_X3_unary_146 ?_
      refine g_callSN (As := [.ref (r 13), .int ((σ 3 1) + (1 : Int32))]) (rest := []) hF (c_atv a r σ arC_13 (by decide) ((σ 3 1) + (1 : Int32))) (Nat.add_le_add_right (Nat.le_trans (Nat.le_of_ble_eq_true rfl) hdK) 1) mS_X12_at nm_947 rfl rfl (Nat.le_of_ble_eq_true rfl) d_X3_unary_147 (kQ ?_)
      refine g_top (v := (atv 16002 (σ 13) ((σ 3 1) + (1 : Int32)))) rfl ?_
      refine g_iconst hF (v := 5) d_X3_unary_150 (by decide) ?_
      refine g_icmp_ne (yv := 5) hF 162 d_X3_unary_151 (by decide) rfl (by decide) (fun c => ?_) (fun c => ?_)
      · have w6 := w5.1 c
        exact g_sub (L' := [(0, .ref (r 3)), (1, .int a1)]) [0, 1] rfl (b162  w6)
      · have w7 := w5.2 c
        refine g_aload_n hF d_X3_unary_154 rfl 0 rfl ?_
        refine g_iload_n hF d_X3_unary_155 rfl 1 rfl ?_
        refine g_callV (As := [.int a1]) (rest := []) hF (fun l D cy => hKcast w7 l D cy) (Nat.le_refl _) mV_X3_cast m_950 (recv_ob obC_3) rfl rfl (Nat.le_of_ble_eq_true rfl) d_X3_unary_156 (qV (fun s156 w8 => ?_)) (fun _ _ _ h => h.elim)
        refine g_goto hF 167 d_X3_unary_159 (by decide) ?_
        exact g_vret hF rfl d_X3_unary_167 ⟨rfl, rfl, rfl, w8⟩
  obtain ⟨J100, h100, w9⟩ := w1
  have b100 : J100  → G SC r X σ Z0 [] [(0, .ref (r 3)), (1, .int a1), (2, .int (σ 3 1))] [] 100 := by
    intro   w100_
    have w100_ := h100   w100_
    refine g_aload_n hF d_X3_unary_100 rfl 0 rfl ?_
    refine g_iload_n hF d_X3_unary_101 rfl 1 rfl ?_
    refine g_callV (As := [.int a1]) (rest := []) hF (fun l D cy => kt_X3_deeper a r w100_ l D cy) (Nat.add_le_add_right (Nat.le_trans (Nat.le_of_ble_eq_true rfl) hdK) 1) mV_X3_deeper m_943 (recv_ob obC_3) rfl rfl (Nat.le_of_ble_eq_true rfl) d_X3_unary_102 (qZ (fun v102 s102 hz102 w10 => ?_)) (fun _ _ _ h => h.elim)
    refine g_if_eq hF 167 d_X3_unary_105 (by decide) rfl (fun c => ?_) (fun c => ?_)
    · have w11 := w10.1 c
      exact g_vret hF rfl d_X3_unary_167 ⟨rfl, rfl, rfl, w11⟩
    · have w12 := w10.2 c
      refine g_aload_n hF d_X3_unary_108 rfl 0 rfl ?_
      refine g_iload_n hF d_X3_unary_109 rfl 1 rfl ?_
      refine g_iconst hF (v := 1) d_X3_unary_110 (by decide) ?_
      refine g_iadd hF d_X3_unary_111 ?_
      refine g_callV (As := [.int (a1 + (1 : Int32))]) (rest := []) hF (fun l D cy => hKunary w12 l D cy) (Nat.le_refl _) mV_X3_unary m_939 (recv_ob obC_3) rfl rfl (Nat.le_of_ble_eq_true rfl) d_X3_unary_112 (qV (fun s112 w13 => ?_)) (fun _ _ _ h => h.elim)
      refine g_aload_n hF d_X3_unary_115 rfl 0 rfl ?_
      refine g_bipush hF (v := 11) d_X3_unary_116 (by decide) ?_
      refine g_iload_n hF d_X3_unary_118 rfl 2 rfl ?_
      refine g_iconst hF (v := 0) d_X3_unary_119 (by decide) ?_
      refine g_iconst hF (v := 0) d_X3_unary_120 (by decide) ?_
      refine g_callV (As := [.int 11, .int (σ 3 1), .int 0, .int 0]) (rest := []) hF (fun l D cy => kt_X3_add a r w13 l D cy) (Nat.add_le_add_right (Nat.le_trans (Nat.le_of_ble_eq_true rfl) hdK) 1) mV_X3_add m_923 (recv_ob obC_3) rfl rfl (Nat.le_of_ble_eq_true rfl) d_X3_unary_121 (qI (fun v121 s121 w14 => ?_)) (fun _ _ _ h => h.elim)
      refine g_pop hF d_X3_unary_124 rfl ?_
      refine g_goto hF 167 d_X3_unary_125 (by decide) ?_
      exact g_vret hF rfl d_X3_unary_167 ⟨rfl, rfl, rfl, w14⟩
  refine (Decidable.em ((σ 3 2).toInt = 44)).elim (fun q9_0 => ?_) (fun q9_0 => ?_)
  · have w15 := w9.1 q9_0
    refine g_tableIn (off := 91) hF 100 d_X3_unary_9 q9_0 (by decide) (by decide) (by decide +kernel) (by decide) ?_
    exact g_sub (L' := [(0, .ref (r 3)), (1, .int a1), (2, .int (σ 3 1))]) [1, 2, 0] rfl (b100  w15)
  have w16 := w9.2 q9_0
  refine (Decidable.em ((σ 3 2).toInt = 45)).elim (fun q9_1 => ?_) (fun q9_1 => ?_)
  · have w17 := w16.1 q9_1
    refine g_tableIn (off := 91) hF 100 d_X3_unary_9 q9_1 (by decide) (by decide) (by decide +kernel) (by decide) ?_
    exact g_sub (L' := [(0, .ref (r 3)), (1, .int a1), (2, .int (σ 3 1))]) [1, 2, 0] rfl (b100  w17)
  have w18 := w16.2 q9_1
  refine (Decidable.em ((σ 3 2).toInt = 46)).elim (fun q9_2 => ?_) (fun q9_2 => ?_)
  · have w19 := w18.1 q9_2
    refine g_tableIn (off := 119) hF 128 d_X3_unary_9 q9_2 (by decide) (by decide) (by decide +kernel) (by decide) ?_
    exact g_sub (L' := [(0, .ref (r 3)), (1, .int a1), (2, .int (σ 3 1))]) [1, 2, 0] rfl (b128  w19)
  have w20 := w18.2 q9_2
  refine (Decidable.em ((σ 3 2).toInt = 47)).elim (fun q9_3 => ?_) (fun q9_3 => ?_)
  · have w21 := w20.1 q9_3
    refine g_tableIn (off := 119) hF 128 d_X3_unary_9 q9_3 (by decide) (by decide) (by decide +kernel) (by decide) ?_
    exact g_sub (L' := [(0, .ref (r 3)), (1, .int a1), (2, .int (σ 3 1))]) [1, 2, 0] rfl (b128  w21)
  have w22 := w20.2 q9_3
  refine (Decidable.em ((σ 3 2).toInt = 48)).elim (fun q9_4 => ?_) (fun q9_4 => ?_)
  · have w23 := w22.1 q9_4
    refine g_tableIn (off := 91) hF 100 d_X3_unary_9 q9_4 (by decide) (by decide) (by decide +kernel) (by decide) ?_
    exact g_sub (L' := [(0, .ref (r 3)), (1, .int a1), (2, .int (σ 3 1))]) [1, 2, 0] rfl (b100  w23)
  have w24 := w22.2 q9_4
  refine (Decidable.em ((σ 3 2).toInt = 49)).elim (fun q9_5 => ?_) (fun q9_5 => ?_)
  · have w25 := w24.1 q9_5
    refine g_tableIn (off := 119) hF 128 d_X3_unary_9 q9_5 (by decide) (by decide) (by decide +kernel) (by decide) ?_
    exact g_sub (L' := [(0, .ref (r 3)), (1, .int a1), (2, .int (σ 3 1))]) [1, 2, 0] rfl (b128  w25)
  have w26 := w24.2 q9_5
  refine (Decidable.em ((σ 3 2).toInt = 50)).elim (fun q9_6 => ?_) (fun q9_6 => ?_)
  · have w27 := w26.1 q9_6
    refine g_tableIn (off := 119) hF 128 d_X3_unary_9 q9_6 (by decide) (by decide) (by decide +kernel) (by decide) ?_
    exact g_sub (L' := [(0, .ref (r 3)), (1, .int a1), (2, .int (σ 3 1))]) [1, 2, 0] rfl (b128  w27)
  have w28 := w26.2 q9_6
  refine (Decidable.em ((σ 3 2).toInt = 51)).elim (fun q9_7 => ?_) (fun q9_7 => ?_)
  · have w29 := w28.1 q9_7
    refine g_tableIn (off := 119) hF 128 d_X3_unary_9 q9_7 (by decide) (by decide) (by decide +kernel) (by decide) ?_
    exact g_sub (L' := [(0, .ref (r 3)), (1, .int a1), (2, .int (σ 3 1))]) [1, 2, 0] rfl (b128  w29)
  have w30 := w28.2 q9_7
  refine (Decidable.em ((σ 3 2).toInt = 52)).elim (fun q9_8 => ?_) (fun q9_8 => ?_)
  · have w31 := w30.1 q9_8
    refine g_tableIn (off := 119) hF 128 d_X3_unary_9 q9_8 (by decide) (by decide) (by decide +kernel) (by decide) ?_
    exact g_sub (L' := [(0, .ref (r 3)), (1, .int a1), (2, .int (σ 3 1))]) [1, 2, 0] rfl (b128  w31)
  have w32 := w30.2 q9_8
  refine (Decidable.em ((σ 3 2).toInt = 53)).elim (fun q9_9 => ?_) (fun q9_9 => ?_)
  · have w33 := w32.1 q9_9
    refine g_tableIn (off := 119) hF 128 d_X3_unary_9 q9_9 (by decide) (by decide) (by decide +kernel) (by decide) ?_
    exact g_sub (L' := [(0, .ref (r 3)), (1, .int a1), (2, .int (σ 3 1))]) [1, 2, 0] rfl (b128  w33)
  have w34 := w32.2 q9_9
  refine (Decidable.em ((σ 3 2).toInt = 54)).elim (fun q9_10 => ?_) (fun q9_10 => ?_)
  · have w35 := w34.1 q9_10
    refine g_tableIn (off := 119) hF 128 d_X3_unary_9 q9_10 (by decide) (by decide) (by decide +kernel) (by decide) ?_
    exact g_sub (L' := [(0, .ref (r 3)), (1, .int a1), (2, .int (σ 3 1))]) [1, 2, 0] rfl (b128  w35)
  have w36 := w34.2 q9_10
  refine (Decidable.em ((σ 3 2).toInt = 55)).elim (fun q9_11 => ?_) (fun q9_11 => ?_)
  · have w37 := w36.1 q9_11
    refine g_tableIn (off := 119) hF 128 d_X3_unary_9 q9_11 (by decide) (by decide) (by decide +kernel) (by decide) ?_
    exact g_sub (L' := [(0, .ref (r 3)), (1, .int a1), (2, .int (σ 3 1))]) [1, 2, 0] rfl (b128  w37)
  have w38 := w36.2 q9_11
  refine (Decidable.em ((σ 3 2).toInt = 56)).elim (fun q9_12 => ?_) (fun q9_12 => ?_)
  · have w39 := w38.1 q9_12
    refine g_tableIn (off := 119) hF 128 d_X3_unary_9 q9_12 (by decide) (by decide) (by decide +kernel) (by decide) ?_
    exact g_sub (L' := [(0, .ref (r 3)), (1, .int a1), (2, .int (σ 3 1))]) [1, 2, 0] rfl (b128  w39)
  have w40 := w38.2 q9_12
  refine (Decidable.em ((σ 3 2).toInt = 57)).elim (fun q9_13 => ?_) (fun q9_13 => ?_)
  · have w41 := w40.1 q9_13
    refine g_tableIn (off := 119) hF 128 d_X3_unary_9 q9_13 (by decide) (by decide) (by decide +kernel) (by decide) ?_
    exact g_sub (L' := [(0, .ref (r 3)), (1, .int a1), (2, .int (σ 3 1))]) [1, 2, 0] rfl (b128  w41)
  have w42 := w40.2 q9_13
  refine (Decidable.em ((σ 3 2).toInt = 58)).elim (fun q9_14 => ?_) (fun q9_14 => ?_)
  · have w43 := w42.1 q9_14
    refine g_tableIn (off := 119) hF 128 d_X3_unary_9 q9_14 (by decide) (by decide) (by decide +kernel) (by decide) ?_
    exact g_sub (L' := [(0, .ref (r 3)), (1, .int a1), (2, .int (σ 3 1))]) [1, 2, 0] rfl (b128  w43)
  have w44 := w42.2 q9_14
  refine (Decidable.em ((σ 3 2).toInt = 59)).elim (fun q9_15 => ?_) (fun q9_15 => ?_)
  · have w45 := w44.1 q9_15
    refine g_tableIn (off := 91) hF 100 d_X3_unary_9 q9_15 (by decide) (by decide) (by decide +kernel) (by decide) ?_
    exact g_sub (L' := [(0, .ref (r 3)), (1, .int a1), (2, .int (σ 3 1))]) [1, 2, 0] rfl (b100  w45)
  have w46 := w44.2 q9_15
  refine (Decidable.em ((σ 3 2).toInt = 60)).elim (fun q9_16 => ?_) (fun q9_16 => ?_)
  · have w47 := w46.1 q9_16
    refine g_tableIn (off := 91) hF 100 d_X3_unary_9 q9_16 (by decide) (by decide) (by decide +kernel) (by decide) ?_
    exact g_sub (L' := [(0, .ref (r 3)), (1, .int a1), (2, .int (σ 3 1))]) [1, 2, 0] rfl (b100  w47)
  have w48 := w46.2 q9_16
  refine (Decidable.em ((σ 3 2).toInt = 61)).elim (fun q9_17 => ?_) (fun q9_17 => ?_)
  · have w49 := w48.1 q9_17
    refine g_tableIn (off := 91) hF 100 d_X3_unary_9 q9_17 (by decide) (by decide) (by decide +kernel) (by decide) ?_
    exact g_sub (L' := [(0, .ref (r 3)), (1, .int a1), (2, .int (σ 3 1))]) [1, 2, 0] rfl (b100  w49)
  have w50 := w48.2 q9_17
  refine (Decidable.em ((σ 3 2).toInt = 62)).elim (fun q9_18 => ?_) (fun q9_18 => ?_)
  · have w51 := w50.1 q9_18
    refine g_tableIn (off := 91) hF 100 d_X3_unary_9 q9_18 (by decide) (by decide) (by decide +kernel) (by decide) ?_
    exact g_sub (L' := [(0, .ref (r 3)), (1, .int a1), (2, .int (σ 3 1))]) [1, 2, 0] rfl (b100  w51)
  have w52 := w50.2 q9_18
  refine g_tableOut hF 128 d_X3_unary_9 rfl (tbo_44_62 q9_0 q9_1 q9_2 q9_3 q9_4 q9_5 q9_6 q9_7 q9_8 q9_9 q9_10 q9_11 q9_12 q9_13 q9_14 q9_15 q9_16 q9_17 q9_18) (by decide) ?_
  exact g_sub (L' := [(0, .ref (r 3)), (1, .int a1), (2, .int (σ 3 1))]) [1, 2, 0] rfl (b128  w52)
set_option maxHeartbeats 4000000 in
set_option maxRecDepth 100000 in
theorem kt_X3_levelOf (a : Nat → Nat) (r : Nat → Nat) {a0 : Int32} {σ : St} {Q : Int32 → Prop} (w : wk_X3_levelOf a0 σ Q) (l : Launch) (D : va_G) (cy : Nat → ClassId) : Ct l D cy SC r (EC a gC) y_X3_levelOf (Cond.code y_X3_levelOf b_X3_levelOf 2 (some .int)) 0 [.int a0] σ Z0 [] (QI (fun x σ9 => σ9 = σ ∧ Q x)) QT0 := by
  unfold wk_X3_levelOf at w
  refine Ct_of (EC_ok a gC) (by decide) (Nat.le_of_ble_eq_true rfl) (by decide) (fun X hnn hF => ?_)
  show G SC r X σ Z0 [] [(0, .int a0)] [] 0
  refine g_iload_n hF d_X3_levelOf_0 rfl 0 rfl ?_
  refine g_bipush hF (v := 41) d_X3_levelOf_1 (by decide) ?_
  refine g_isub hF d_X3_levelOf_3 ?_
  refine g_istore_n hF [(1, .int (a0 - (41 : Int32))), (0, .int a0)] d_X3_levelOf_4 rfl hnn (by decide) rfl ?_
  refine g_iload_n hF d_X3_levelOf_5 rfl 0 rfl ?_
  refine g_if_lt hF 25 d_X3_levelOf_6 (by decide) rfl (fun c => ?_) (fun c => ?_)
  · have w1 := w.1 c
    refine g_iconst hF (v := 0) d_X3_levelOf_25 (by decide) ?_
    exact g_iret hF rfl d_X3_levelOf_26 ⟨rfl, rfl, (0 : Int32), rfl, ⟨rfl, w1⟩⟩
  · have w2 := w.2 c
    refine g_iload_n hF d_X3_levelOf_9 rfl 0 rfl ?_
    refine g_gets hF (fun A s h => EC_z0 h) m_973 d_X3_levelOf_10 ?_
    refine g_tlen hF (fun A s h => EC_t0 h) (v := 18) (by decide) d_X3_levelOf_13 ?_
    refine g_icmp_ge (yv := 18) hF 25 d_X3_levelOf_14 (by decide) rfl (by decide) (fun c => ?_) (fun c => ?_)
    · have w3 := w2.1 c
      refine g_iconst hF (v := 0) d_X3_levelOf_25 (by decide) ?_
      exact g_iret hF rfl d_X3_levelOf_26 ⟨rfl, rfl, (0 : Int32), rfl, ⟨rfl, w3⟩⟩
    · have w4 := w2.2 c
      refine g_gets hF (fun A s h => EC_z0 h) m_973 d_X3_levelOf_17 ?_
      refine g_iload_n hF d_X3_levelOf_20 rfl 0 rfl ?_
      have w5 := w4.2
      refine g_ti hF (fun A s h => EC_t0 h) (s_in (Nat.le_of_ble_eq_true rfl) w4.1.1 w4.1.2) d_X3_levelOf_21 ?_
      refine g_top (v := (gC 0 (a0 - (41 : Int32)).toNatClampNeg)) rfl ?_
      refine g_goto hF 26 d_X3_levelOf_22 (by decide) ?_
      exact g_iret hF rfl d_X3_levelOf_26 ⟨rfl, rfl, (gC 0 (a0 - (41 : Int32)).toNatClampNeg), rfl, ⟨rfl, w5⟩⟩
set_option maxHeartbeats 4000000 in
set_option maxRecDepth 100000 in
theorem kt_X3_settle (a : Nat → Nat) (r : Nat → Nat) {a1 : Int32} {a2 : Int32} {σ : St} {Q : St → Prop} (w : wk_X3_settle a1 a2 σ Q) (l : Launch) (D : va_G) (cy : Nat → ClassId) : Ct l D cy SC r (EC a gC) y_X3_settle (Cond.code y_X3_settle b_X3_settle 4 none) 1 [.ref (r 3), .int a1, .int a2] σ Z0 [] (QV Q) QT0 := by
  unfold wk_X3_settle at w
  refine Ct_of (EC_ok a gC) (by decide) (Nat.le_of_ble_eq_true rfl) (by decide) (fun X hnn hF => ?_)
  show G SC r X σ Z0 [] [(0, .ref (r 3)), (1, .int a1), (2, .int a2)] [] 0
  obtain ⟨L0, ⟨i0, u0⟩, h0⟩ := w
  have b0 : ∀ (n0 : Nat) (s0 : St), L0 n0 s0 → G SC r X s0 Z0 [] [(0, .ref (r 3)), (1, .int a1), (2, .int a2)] [] 0 := by
    intro n0
    induction n0 using Nat.strongRecOn with
    | _ n0 ih0 =>
      intro s0  w0_
      have w0_ := h0 n0 s0  w0_
      refine g_aload_n hF d_X3_settle_0 rfl 0 rfl ?_
      refine g_get (v := .int (s0 3 9)) hF 9 obC_3 (by decide) m_114 rfl d_X3_settle_1 ?_
      refine g_iload_n hF d_X3_settle_4 rfl 1 rfl ?_
      refine g_icmp_le hF 64 d_X3_settle_5 (by decide) rfl rfl (fun c => ?_) (fun c => ?_)
      · have w1 := w0_.1 c
        exact g_vret hF rfl d_X3_settle_64 ⟨rfl, rfl, rfl, w1⟩
      · have w2 := w0_.2 c
        refine g_aload_n hF d_X3_settle_8 rfl 0 rfl ?_
        refine g_get (v := .ref (r 22)) hF 10 obC_3 (by decide) m_115 rfl d_X3_settle_9 ?_
        refine g_aload_n hF d_X3_settle_12 rfl 0 rfl ?_
        refine g_get (v := .int (s0 3 9)) hF 9 obC_3 (by decide) m_114 rfl d_X3_settle_13 ?_
        refine g_iconst hF (v := 1) d_X3_settle_16 (by decide) ?_
        refine g_isub hF d_X3_settle_17 ?_
        refine g_callSN (As := [.ref (r 22), .int ((s0 3 9) - (1 : Int32))]) (rest := []) hF (c_atv a r s0 arC_22 (by decide) ((s0 3 9) - (1 : Int32))) (Nat.le_of_ble_eq_true rfl) mS_X12_at nm_947 rfl rfl (Nat.le_of_ble_eq_true rfl) d_X3_settle_18 (kQ ?_)
        refine g_top (v := (atv 400 (s0 22) ((s0 3 9) - (1 : Int32)))) rfl ?_
        refine g_istore_n hF [(3, .int (atv 400 (s0 22) ((s0 3 9) - (1 : Int32)))), (0, .ref (r 3)), (1, .int a1), (2, .int a2)] d_X3_settle_21 rfl hnn (by decide) rfl ?_
        refine g_aload_n hF d_X3_settle_22 rfl 1 rfl ?_
        refine g_get (v := .ref (r 2)) hF 0 obC_3 (by decide) m_94 rfl d_X3_settle_23 ?_
        refine g_getN (v := .ref (r 13)) hF 5 obC_2 (by decide) nm_50 rfl d_X3_settle_26 ?_
        refine g_iload_n hF d_X3_settle_29 rfl 0 rfl ?_
        refine g_callSN (As := [.ref (r 13), .int (atv 400 (s0 22) ((s0 3 9) - (1 : Int32)))]) (rest := []) hF (c_atv a r s0 arC_13 (by decide) (atv 400 (s0 22) ((s0 3 9) - (1 : Int32)))) (Nat.le_of_ble_eq_true rfl) mS_X12_at nm_947 rfl rfl (Nat.le_of_ble_eq_true rfl) d_X3_settle_30 (kQ ?_)
        refine g_top (v := (atv 16002 (s0 13) (atv 400 (s0 22) ((s0 3 9) - (1 : Int32))))) rfl ?_
        refine g_callS (As := [.int (atv 16002 (s0 13) (atv 400 (s0 22) ((s0 3 9) - (1 : Int32))))]) (rest := []) hF (fun l D cy => kt_X3_levelOf a r w2 l D cy) (Nat.le_of_ble_eq_true rfl) mS_X3_levelOf m_970 rfl rfl (Nat.le_of_ble_eq_true rfl) d_X3_settle_33 (qIr (fun v33 w3 => ?_)) (fun _ _ _ h => h.elim)
        refine g_iload_n hF d_X3_settle_36 rfl 3 rfl ?_
        refine g_icmp_ge hF 41 d_X3_settle_37 (by decide) rfl rfl (fun c => ?_) (fun c => ?_)
        · have w4 := w3.1 c
          refine g_aload_n hF d_X3_settle_41 rfl 1 rfl ?_
          refine g_bipush hF (v := 8) d_X3_settle_42 (by decide) ?_
          refine g_iload_n hF d_X3_settle_44 rfl 0 rfl ?_
          refine g_iconst hF (v := 0) d_X3_settle_45 (by decide) ?_
          refine g_iconst hF (v := 0) d_X3_settle_46 (by decide) ?_
          refine g_callV (As := [.int 8, .int (atv 400 (s0 22) ((s0 3 9) - (1 : Int32))), .int 0, .int 0]) (rest := []) hF (fun l D cy => kt_X3_add a r w4 l D cy) (Nat.le_of_ble_eq_true rfl) mV_X3_add m_923 (recv_ob obC_3) rfl rfl (Nat.le_of_ble_eq_true rfl) d_X3_settle_47 (qI (fun v47 s47 w5 => ?_)) (fun _ _ _ h => h.elim)
          refine g_pop hF d_X3_settle_50 rfl ?_
          refine g_aload_n hF d_X3_settle_51 rfl 1 rfl ?_
          refine g_dup hF d_X3_settle_52 rfl ?_
          refine g_get (v := .int (s47 3 9)) hF 9 obC_3 (by decide) m_114 rfl d_X3_settle_53 ?_
          refine g_iconst hF (v := 1) d_X3_settle_56 (by decide) ?_
          refine g_isub hF d_X3_settle_57 ?_
          refine g_put (v := ((s47 3 9) - (1 : Int32))) hF 9 obC_3 (by decide) m_114 rfl rfl rfl d_X3_settle_58 ?_
          refine g_goto hF 0 d_X3_settle_61 (by decide) ?_
          obtain ⟨m0, hm0, w9⟩ := w5
          exact g_sub (L' := [(0, .ref (r 3)), (1, .int a1), (2, .int a2)]) [1, 2, 3] rfl (ih0 m0 hm0 (upC s47 3 9 ((s47 3 9) - (1 : Int32))) w9)
        · have w6 := w3.2 c
          exact g_vret hF rfl d_X3_settle_40 ⟨rfl, rfl, rfl, w6⟩
  exact b0 i0 σ u0
