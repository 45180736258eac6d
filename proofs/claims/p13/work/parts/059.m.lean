set_option maxHeartbeats 4000000 in
set_option maxRecDepth 100000 in
theorem kt_X10_isNext_s1 (a : Nat → Nat) (r : Nat → Nat) {a2 : Int32} {a3 : Int32} {σ : St} {Q : Int32 → Prop} (w : wk_X10_isNext_s1 a2 a3 σ Q) (l : Launch) (D : va_G) (cy : Nat → ClassId) : Ct l D cy SC r (EC a gC) y_X10_isNext (Cond.code y_X10_isNext b_X10_isNext 5 (some .boolean)) 4 [.ref (r 2), .ref (a 4), .int a2, .int a3] σ Z0 [] (QI (fun x σ9 => (x = 0 ∨ x = 1) ∧ σ9 = σ ∧ Q x)) QT0 := by
  unfold wk_X10_isNext_s1 at w
  refine Ct_of (EC_ok a gC) (by decide) (Nat.le_of_ble_eq_true rfl) (by decide) (fun X hnn hF => ?_)
  show G SC r X σ Z0 [] [(0, .ref (r 2)), (1, .ref (a 4)), (2, .int a2), (3, .int a3)] [] 0
  refine g_iconst hF (v := 0) d_X10_isNext_0 (by decide) ?_
  refine g_istore hF [(4, .int 0), (0, .ref (r 2)), (1, .ref (a 4)), (2, .int a2), (3, .int a3)] d_X10_isNext_1 hnn (by decide) rfl ?_
  obtain ⟨L3, ⟨i3, u3⟩, h3⟩ := w
  have b3 : ∀ (n3 : Nat) (x4_3 : Int32), L3 n3 x4_3 → G SC r X σ Z0 [] [(0, .ref (r 2)), (1, .ref (a 4)), (2, .int a2), (3, .int a3), (4, .int x4_3)] [] 3 := by
    intro n3
    induction n3 using Nat.strongRecOn with
    | _ n3 ih3 =>
      intro x4_3  w3_
      have w3_ := h3 n3 x4_3  w3_
      refine g_iload hF d_X10_isNext_3 4 rfl ?_
      refine g_iload_n hF d_X10_isNext_5 rfl 3 rfl ?_
      refine g_icmp_ge hF 50 d_X10_isNext_6 (by decide) rfl rfl (fun c => ?_) (fun c => ?_)
      · have w1 := w3_.1 c
        refine g_iconst hF (v := 1) d_X10_isNext_50 (by decide) ?_
        exact g_zret hF rfl (k_nz (Or.inr rfl)) d_X10_isNext_51 ⟨rfl, rfl, (1 : Int32), rfl, (Or.inr rfl), ⟨rfl, w1⟩⟩
      · have w2 := w3_.2 c
        refine g_iload_n hF d_X10_isNext_9 rfl 2 rfl ?_
        refine g_iload hF d_X10_isNext_10 4 rfl ?_
        refine g_iadd hF d_X10_isNext_12 ?_
        refine g_aload_n hF d_X10_isNext_13 rfl 1 rfl ?_
        refine g_callV (As := []) (rest := [.int (a2 + x4_3)]) hF (t_len (EC_ok a gC) (fun A s h => EC_s1 h) (by decide)) (Nat.le_of_ble_eq_true rfl) mV_String_length m_848 (recv_str (fun A s h => EC_s1 h)) rfl rfl (Nat.le_of_ble_eq_true rfl) d_X10_isNext_14 (k_sv ?_) (fun _ _ _ h => h.elim)
        refine g_icmp_ge hF 42 d_X10_isNext_17 (by decide) rfl rfl (fun c => ?_) (fun c => ?_)
        · have w3 := w2.1 c
          refine g_iconst hF (v := 0) d_X10_isNext_42 (by decide) ?_
          exact g_zret hF rfl (k_nz (Or.inl rfl)) d_X10_isNext_43 ⟨rfl, rfl, (0 : Int32), rfl, (Or.inl rfl), ⟨rfl, w3⟩⟩
        · have w4 := w2.2 c
          refine g_aload_n hF d_X10_isNext_20 rfl 1 rfl ?_
          refine g_iload_n hF d_X10_isNext_21 rfl 2 rfl ?_
          refine g_iload hF d_X10_isNext_22 4 rfl ?_
          refine g_iadd hF d_X10_isNext_24 ?_
          have w5 := w4.2
          refine g_callV (As := [.int (a2 + x4_3)]) (rest := []) hF (t_ch2 (EC_ok a gC) (fun A s h => EC_s1 h) (by decide) (by decide) (a2 + x4_3) w4.1.1 w4.1.2) (Nat.le_of_ble_eq_true rfl) mV_String_charAt m_849 (recv_str (fun A s h => EC_s1 h)) rfl rfl (Nat.le_of_ble_eq_true rfl) d_X10_isNext_25 (k_sv ?_) (fun _ _ _ h => h.elim)
          refine g_aload_n hF d_X10_isNext_28 rfl 0 rfl ?_
          refine g_aload_n hF d_X10_isNext_29 rfl 0 rfl ?_
          refine g_get (v := .int (σ 2 2)) hF 2 obC_2 (by decide) m_44 rfl d_X10_isNext_30 ?_
          refine g_iload hF d_X10_isNext_33 4 rfl ?_
          refine g_iadd hF d_X10_isNext_35 ?_
          refine g_callV (As := [.int ((σ 2 2) + x4_3)]) (rest := [.int (chI (gC 3 (a2 + x4_3).toNatClampNeg))]) hF (fun l D cy => kt_X10_byteAt a r w5 l D cy) (Nat.le_of_ble_eq_true rfl) mV_X10_byteAt m_806 (recv_ob obC_2) rfl rfl (Nat.le_of_ble_eq_true rfl) d_X10_isNext_36 (qIr (fun v36 w6 => ?_)) (fun _ _ _ h => h.elim)
          refine g_icmp_eq hF 44 d_X10_isNext_39 (by decide) rfl rfl (fun c => ?_) (fun c => ?_)
          · have w7 := w6.1 c
            refine g_iinc hF (x4_3 + 1) [(4, .int (x4_3 + 1)), (0, .ref (r 2)), (1, .ref (a 4)), (2, .int a2), (3, .int a3)] d_X10_isNext_44 4 rfl rfl hnn (by decide) rfl ?_
            refine g_goto hF 3 d_X10_isNext_47 (by decide) ?_
            obtain ⟨m3, hm3, w9⟩ := w7
            exact g_sub (L' := [(0, .ref (r 2)), (1, .ref (a 4)), (2, .int a2), (3, .int a3), (4, .int (x4_3 + 1))]) [1, 2, 3, 4, 0] rfl (ih3 m3 hm3 (x4_3 + 1) w9)
          · have w8 := w6.2 c
            refine g_iconst hF (v := 0) d_X10_isNext_42 (by decide) ?_
            exact g_zret hF rfl (k_nz (Or.inl rfl)) d_X10_isNext_43 ⟨rfl, rfl, (0 : Int32), rfl, (Or.inl rfl), ⟨rfl, w8⟩⟩
  exact g_sub (L' := [(0, .ref (r 2)), (1, .ref (a 4)), (2, .int a2), (3, .int a3), (4, .int 0)]) [1, 2, 3, 4, 0] rfl (b3 i3 (0 : Int32) u3)
set_option maxHeartbeats 4000000 in
set_option maxRecDepth 100000 in
theorem kt_X10_listed_s1 (a : Nat → Nat) (r : Nat → Nat) {a2 : Int32} {σ : St} {Q : Int32 → Prop} (w : wk_X10_listed_s1 a2 σ Q) (l : Launch) (D : va_G) (cy : Nat → ClassId) : Ct l D cy SC r (EC a gC) y_X10_listed (Cond.code y_X10_listed b_X10_listed 6 (some .int)) 5 [.ref (r 2), .ref (a 4), .int a2] σ Z0 [] (QI (fun x σ9 => σ9 = σ ∧ Q x)) QT0 := by
  unfold wk_X10_listed_s1 at w
  refine Ct_of (EC_ok a gC) (by decide) (Nat.le_of_ble_eq_true rfl) (by decide) (fun X hnn hF => ?_)
  show G SC r X σ Z0 [] [(0, .ref (r 2)), (1, .ref (a 4)), (2, .int a2)] [] 0
  refine g_iconst hF (v := 0) d_X10_listed_0 (by decide) ?_
  refine g_istore_n hF [(3, .int 0), (0, .ref (r 2)), (1, .ref (a 4)), (2, .int a2)] d_X10_listed_1 rfl hnn (by decide) rfl ?_
  refine g_iconst hF (v := 0) d_X10_listed_2 (by decide) ?_
  refine g_istore hF [(4, .int 0), (3, .int 0), (0, .ref (r 2)), (1, .ref (a 4)), (2, .int a2)] d_X10_listed_3 hnn (by decide) rfl ?_
  refine g_iconst hF (v := 0) d_X10_listed_5 (by decide) ?_
  refine g_istore hF [(5, .int 0), (4, .int 0), (3, .int 0), (0, .ref (r 2)), (1, .ref (a 4)), (2, .int a2)] d_X10_listed_6 hnn (by decide) rfl ?_
  obtain ⟨L8, ⟨i8, u8⟩, h8⟩ := w
  have b8 : ∀ (n8 : Nat) (x3_8 : Int32) (x4_8 : Int32) (x5_8 : Int32), L8 n8 x3_8 x4_8 x5_8 → G SC r X σ Z0 [] [(0, .ref (r 2)), (1, .ref (a 4)), (2, .int a2), (3, .int x3_8), (4, .int x4_8), (5, .int x5_8)] [] 8 := by
    intro n8
    induction n8 using Nat.strongRecOn with
    | _ n8 ih8 =>
      intro x3_8 x4_8 x5_8  w8_
      have w8_ := h8 n8 x3_8 x4_8 x5_8  w8_
      refine g_iload hF d_X10_listed_8 5 rfl ?_
      refine g_aload_n hF d_X10_listed_10 rfl 1 rfl ?_
      refine g_callV (As := []) (rest := [.int x5_8]) hF (t_len (EC_ok a gC) (fun A s h => EC_s1 h) (by decide)) (Nat.le_of_ble_eq_true rfl) mV_String_length m_848 (recv_str (fun A s h => EC_s1 h)) rfl rfl (Nat.le_of_ble_eq_true rfl) d_X10_listed_11 (k_sv ?_) (fun _ _ _ h => h.elim)
      refine g_icmp_ge hF 65 d_X10_listed_14 (by decide) rfl rfl (fun c => ?_) (fun c => ?_)
      · have w1 := w8_.1 c
        refine g_iconst hF (v := (-1)) d_X10_listed_65 (by decide) ?_
        exact g_iret hF rfl d_X10_listed_66 ⟨rfl, rfl, ((-1) : Int32), rfl, ⟨rfl, w1⟩⟩
      · have w2 := w8_.2 c
        refine g_aload_n hF d_X10_listed_17 rfl 1 rfl ?_
        refine g_iload hF d_X10_listed_18 5 rfl ?_
        have w3 := w2.2
        refine g_callV (As := [.int x5_8]) (rest := []) hF (t_ch2 (EC_ok a gC) (fun A s h => EC_s1 h) (by decide) (by decide) x5_8 w2.1.1 w2.1.2) (Nat.le_of_ble_eq_true rfl) mV_String_charAt m_849 (recv_str (fun A s h => EC_s1 h)) rfl rfl (Nat.le_of_ble_eq_true rfl) d_X10_listed_20 (k_sv ?_) (fun _ _ _ h => h.elim)
        refine g_bipush hF (v := 32) d_X10_listed_23 (by decide) ?_
        obtain ⟨J59, h59, w4⟩ := w3
        have b59 : ∀ (x3_59 : Int32) (x4_59 : Int32), J59 x3_59 x4_59 → G SC r X σ Z0 [] [(0, .ref (r 2)), (1, .ref (a 4)), (2, .int a2), (3, .int x3_59), (4, .int x4_59), (5, .int x5_8)] [] 59 := by
          intro x3_59 x4_59  w59_
          have w59_ := h59 x3_59 x4_59  w59_
          refine g_iinc hF (x5_8 + 1) [(5, .int (x5_8 + 1)), (0, .ref (r 2)), (1, .ref (a 4)), (2, .int a2), (3, .int x3_59), (4, .int x4_59)] d_X10_listed_59 5 rfl rfl hnn (by decide) rfl ?_
          refine g_goto hF 8 d_X10_listed_62 (by decide) ?_
          obtain ⟨m8, hm8, w9⟩ := w59_
          exact g_sub (L' := [(0, .ref (r 2)), (1, .ref (a 4)), (2, .int a2), (3, .int x3_59), (4, .int x4_59), (5, .int (x5_8 + 1))]) [1, 2, 3, 4, 5, 0] rfl (ih8 m8 hm8 x3_59 x4_59 (x5_8 + 1) w9)
        refine g_icmp_ne (yv := 32) hF 59 d_X10_listed_25 (by decide) rfl (by decide) (fun c => ?_) (fun c => ?_)
        · have w5 := w4.1 c
          exact b59 x3_8 x4_8 w5
        · have w6 := w4.2 c
          refine g_iload hF d_X10_listed_28 5 rfl ?_
          refine g_iload hF d_X10_listed_30 4 rfl ?_
          refine g_isub hF d_X10_listed_32 ?_
          refine g_iload_n hF d_X10_listed_33 rfl 2 rfl ?_
          obtain ⟨J50, h50, w7⟩ := w6
          have b50 : J50  → G SC r X σ Z0 [] [(0, .ref (r 2)), (1, .ref (a 4)), (2, .int a2), (3, .int x3_8), (5, .int x5_8)] [] 50 := by
            intro   w50_
            have w50_ := h50   w50_
            refine g_iload hF d_X10_listed_50 4 rfl ?_
            refine g_iconst hF (v := 1) d_X10_listed_52 (by decide) ?_
            refine g_iadd hF d_X10_listed_53 ?_
            refine g_istore hF [(4, .int (x5_8 + (1 : Int32))), (0, .ref (r 2)), (1, .ref (a 4)), (2, .int a2), (3, .int x3_8), (5, .int x5_8)] d_X10_listed_54 hnn (by decide) rfl ?_
            refine g_iinc hF (x3_8 + 1) [(3, .int (x3_8 + 1)), (4, .int (x5_8 + (1 : Int32))), (0, .ref (r 2)), (1, .ref (a 4)), (2, .int a2), (5, .int x5_8)] d_X10_listed_56 4 rfl rfl hnn (by decide) rfl ?_
            exact g_sub (L' := [(0, .ref (r 2)), (1, .ref (a 4)), (2, .int a2), (3, .int (x3_8 + 1)), (4, .int (x5_8 + (1 : Int32))), (5, .int x5_8)]) [2, 3, 4, 0, 1, 5] rfl (b59 (x3_8 + 1) (x5_8 + (1 : Int32)) w50_)
          refine g_icmp_ne hF 50 d_X10_listed_34 (by decide) rfl rfl (fun c => ?_) (fun c => ?_)
          · have w8 := w7.1 c
            exact g_sub (L' := [(0, .ref (r 2)), (1, .ref (a 4)), (2, .int a2), (3, .int x3_8), (5, .int x5_8)]) [0, 1, 2, 3, 5] rfl (b50  w8)
          · have w9 := w7.2 c
            refine g_aload_n hF d_X10_listed_37 rfl 0 rfl ?_
            refine g_aload_n hF d_X10_listed_38 rfl 1 rfl ?_
            refine g_iload hF d_X10_listed_39 4 rfl ?_
            refine g_iload_n hF d_X10_listed_41 rfl 2 rfl ?_
            refine g_callV (As := [.ref (a 4), .int x4_8, .int a2]) (rest := []) hF (fun l D cy => kt_X10_isNext_s1 a r w9 l D cy) (Nat.le_of_ble_eq_true rfl) mV_X10_isNext m_850 (recv_ob obC_2) rfl rfl (Nat.le_of_ble_eq_true rfl) d_X10_listed_42 (qZr (fun v42 hz42 w10 => ?_)) (fun _ _ _ h => h.elim)
            refine g_if_eq hF 50 d_X10_listed_45 (by decide) rfl (fun c => ?_) (fun c => ?_)
            · have w11 := w10.1 c
              exact g_sub (L' := [(0, .ref (r 2)), (1, .ref (a 4)), (2, .int a2), (3, .int x3_8), (5, .int x5_8)]) [0, 1, 2, 3, 5] rfl (b50  w11)
            · have w12 := w10.2 c
              refine g_iload_n hF d_X10_listed_48 rfl 3 rfl ?_
              exact g_iret hF rfl d_X10_listed_49 ⟨rfl, rfl, x3_8, rfl, ⟨rfl, w12⟩⟩
  exact g_sub (L' := [(0, .ref (r 2)), (1, .ref (a 4)), (2, .int a2), (3, .int 0), (4, .int 0), (5, .int 0)]) [3, 4, 5, 2, 1, 0] rfl (b8 i8 (0 : Int32) (0 : Int32) (0 : Int32) u8)
set_option maxHeartbeats 4000000 in
set_option maxRecDepth 100000 in
theorem kt_X10_sign (a : Nat → Nat) (r : Nat → Nat) {σ : St} {Q : Int32 → St → Prop} (w : wk_X10_sign  σ Q) (l : Launch) (D : va_G) (cy : Nat → ClassId) : Ct l D cy SC r (EC a gC) y_X10_sign (Cond.code y_X10_sign b_X10_sign 4 (some .boolean)) 6 [.ref (r 2)] σ Z0 [] (QI (fun x σ9 => (x = 0 ∨ x = 1) ∧ Q x σ9)) QT0 := by
  unfold wk_X10_sign at w
  refine Ct_of (EC_ok a gC) (by decide) (Nat.le_of_ble_eq_true rfl) (by decide) (fun X hnn hF => ?_)
  show G SC r X σ Z0 [] [(0, .ref (r 2))] [] 0
  refine g_aload_n hF d_X10_sign_0 rfl 0 rfl ?_
  refine g_aload_n hF d_X10_sign_1 rfl 0 rfl ?_
  refine g_get (v := .int (σ 2 2)) hF 2 obC_2 (by decide) m_44 rfl d_X10_sign_2 ?_
  refine g_iconst hF (v := 1) d_X10_sign_5 (by decide) ?_
  refine g_iadd hF d_X10_sign_6 ?_
  refine g_callV (As := [.int ((σ 2 2) + (1 : Int32))]) (rest := []) hF (fun l D cy => kt_X10_byteAt a r w l D cy) (Nat.le_of_ble_eq_true rfl) mV_X10_byteAt m_806 (recv_ob obC_2) rfl rfl (Nat.le_of_ble_eq_true rfl) d_X10_sign_7 (qIr (fun v7 w1 => ?_)) (fun _ _ _ h => h.elim)
  refine g_callS (As := [.int v7]) (rest := []) hF (fun l D cy => kt_X10_mayGoOn a r w1 l D cy) (Nat.le_of_ble_eq_true rfl) mS_X10_mayGoOn m_891 rfl rfl (Nat.le_of_ble_eq_true rfl) d_X10_sign_10 (qZr (fun v10 hz10 w2 => ?_)) (fun _ _ _ h => h.elim)
  obtain ⟨J21, h21, w3⟩ := w2
  have b21 : ∀ (y0_21 : Int32), J21 y0_21 → G SC r X σ Z0 [] [(0, .ref (r 2))] [.int y0_21] 21 := by
    intro y0_21  w21_
    have w21_ := h21 y0_21  w21_
    refine g_istore_n hF [(1, .int y0_21), (0, .ref (r 2))] d_X10_sign_21 rfl hnn (by decide) rfl ?_
    refine g_iload_n hF d_X10_sign_22 rfl 0 rfl ?_
    refine g_istore_n hF [(2, .int y0_21), (1, .int y0_21), (0, .ref (r 2))] d_X10_sign_23 rfl hnn (by decide) rfl ?_
    obtain ⟨L24, ⟨i24, u24⟩, h24⟩ := w21_
    have b24 : ∀ (n24 : Nat) (x2_24 : Int32), L24 n24 x2_24 → G SC r X σ Z0 [] [(0, .ref (r 2)), (2, .int x2_24)] [] 24 := by
      intro n24
      induction n24 using Nat.strongRecOn with
      | _ n24 ih24 =>
        intro x2_24  w24_
        have w24_ := h24 n24 x2_24  w24_
        refine g_iload_n hF d_X10_sign_24 rfl 1 rfl ?_
        refine g_if_le hF 57 d_X10_sign_25 (by decide) rfl (fun c => ?_) (fun c => ?_)
        · have w4 := w24_.1 c
          refine g_aload_n hF d_X10_sign_57 rfl 0 rfl ?_
          refine g_aload_n hF d_X10_sign_58 rfl 0 rfl ?_
          refine g_get (v := .int (σ 2 2)) hF 2 obC_2 (by decide) m_44 rfl d_X10_sign_59 ?_
          refine g_callV (As := [.int (σ 2 2)]) (rest := []) hF (fun l D cy => kt_X10_bad a r w4 l D cy) (Nat.le_of_ble_eq_true rfl) mV_X10_bad m_817 (recv_ob obC_2) rfl rfl (Nat.le_of_ble_eq_true rfl) d_X10_sign_62 (qZ (fun v62 s62 hz62 w5 => ?_)) (fun _ _ _ h => h.elim)
          exact g_zret hF rfl (k_nz hz62) d_X10_sign_65 ⟨rfl, rfl, v62, rfl, hz62, w5⟩
        · have w6 := w24_.2 c
          refine g_aload_n hF d_X10_sign_28 rfl 0 rfl ?_
          refine g_ldcS hF (fun A s h => (EC_s1 h).1) d_X10_sign_29 ?_
          refine g_iload_n hF d_X10_sign_31 rfl 1 rfl ?_
          refine g_callV (As := [.ref (a 4), .int x2_24]) (rest := []) hF (fun l D cy => kt_X10_listed_s1 a r w6 l D cy) (Nat.le_of_ble_eq_true rfl) mV_X10_listed m_844 (recv_ob obC_2) rfl rfl (Nat.le_of_ble_eq_true rfl) d_X10_sign_32 (qIr (fun v32 w7 => ?_)) (fun _ _ _ h => h.elim)
          refine g_istore_n hF [(3, .int v32), (0, .ref (r 2)), (2, .int x2_24)] d_X10_sign_35 rfl hnn (by decide) rfl ?_
          refine g_iload_n hF d_X10_sign_36 rfl 0 rfl ?_
          refine g_if_lt hF 51 d_X10_sign_37 (by decide) rfl (fun c => ?_) (fun c => ?_)
          · have w8 := w7.1 c
            refine g_iinc hF (x2_24 + (-1)) [(2, .int (x2_24 + (-1))), (3, .int v32), (0, .ref (r 2))] d_X10_sign_51 2 rfl rfl hnn (by decide) rfl ?_
            refine g_goto hF 24 d_X10_sign_54 (by decide) ?_
            obtain ⟨m24, hm24, w9⟩ := w8
            exact g_sub (L' := [(0, .ref (r 2)), (2, .int (x2_24 + (-1)))]) [2, 0] rfl (ih24 m24 hm24 (x2_24 + (-1)) w9)
          · have w9 := w7.2 c
            refine g_aload_n hF d_X10_sign_40 rfl 1 rfl ?_
            refine g_bipush hF (v := 20) d_X10_sign_41 (by decide) ?_
            refine g_iload_n hF d_X10_sign_43 rfl 0 rfl ?_
            refine g_iadd hF d_X10_sign_44 ?_
            refine g_iconst hF (v := 0) d_X10_sign_45 (by decide) ?_
            refine g_iload_n hF d_X10_sign_46 rfl 2 rfl ?_
            refine g_callV (As := [.int ((20 : Int32) + v32), .int 0, .int x2_24]) (rest := []) hF (fun l D cy => kt_X10_add a r w9 l D cy) (Nat.le_of_ble_eq_true rfl) mV_X10_add m_821 (recv_ob obC_2) rfl rfl (Nat.le_of_ble_eq_true rfl) d_X10_sign_47 (qZ (fun v47 s47 hz47 w10 => ?_)) (fun _ _ _ h => h.elim)
            exact g_zret hF rfl (k_nz hz47) d_X10_sign_50 ⟨rfl, rfl, v47, rfl, hz47, w10⟩
    exact g_sub (L' := [(0, .ref (r 2)), (2, .int y0_21)]) [2, 0] rfl (b24 i24 y0_21 u24)
  refine g_if_eq hF 20 d_X10_sign_13 (by decide) rfl (fun c => ?_) (fun c => ?_)
  · have w11 := w3.1 c
    refine g_iconst hF (v := 1) d_X10_sign_20 (by decide) ?_
    exact b21 (1 : Int32) w11
  · have w12 := w3.2 c
    refine g_iconst hF (v := 3) d_X10_sign_16 (by decide) ?_
    refine g_goto hF 21 d_X10_sign_17 (by decide) ?_
    exact b21 (3 : Int32) w12
set_option maxHeartbeats 4000000 in
set_option maxRecDepth 100000 in
theorem kt_X10_codeAt (a : Nat → Nat) (r : Nat → Nat) {a1 : Int32} {a2 : Int32} {σ : St} {Q : Int32 → Prop} (w : wk_X10_codeAt a1 a2 σ Q) (l : Launch) (D : va_G) (cy : Nat → ClassId) : Ct l D cy SC r (EC a gC) y_X10_codeAt (Cond.code y_X10_codeAt b_X10_codeAt 5 (some .int)) 1 [.ref (r 2), .int a1, .int a2] σ Z0 [] (QI (fun x σ9 => σ9 = σ ∧ Q x)) QT0 := by
  unfold wk_X10_codeAt at w
  refine Ct_of (EC_ok a gC) (by decide) (Nat.le_of_ble_eq_true rfl) (by decide) (fun X hnn hF => ?_)
  show G SC r X σ Z0 [] [(0, .ref (r 2)), (1, .int a1), (2, .int a2)] [] 0
  refine g_aload_n hF d_X10_codeAt_0 rfl 0 rfl ?_
  refine g_iload_n hF d_X10_codeAt_1 rfl 1 rfl ?_
  refine g_callV (As := [.int a1]) (rest := []) hF (fun l D cy => kt_X10_byteAt a r w l D cy) (Nat.le_of_ble_eq_true rfl) mV_X10_byteAt m_806 (recv_ob obC_2) rfl rfl (Nat.le_of_ble_eq_true rfl) d_X10_codeAt_2 (qIr (fun v2 w1 => ?_)) (fun _ _ _ h => h.elim)
  refine g_istore_n hF [(3, .int v2), (0, .ref (r 2)), (1, .int a1), (2, .int a2)] d_X10_codeAt_5 rfl hnn (by decide) rfl ?_
  refine g_iload_n hF d_X10_codeAt_6 rfl 0 rfl ?_
  refine g_bipush hF (v := 92) d_X10_codeAt_7 (by decide) ?_
  refine g_icmp_eq (yv := 92) hF 35 d_X10_codeAt_9 (by decide) rfl (by decide) (fun c => ?_) (fun c => ?_)
  · have w2 := w1.1 c
    refine g_aload_n hF d_X10_codeAt_35 rfl 1 rfl ?_
    refine g_iload_n hF d_X10_codeAt_36 rfl 2 rfl ?_
    refine g_iconst hF (v := 1) d_X10_codeAt_37 (by decide) ?_
    refine g_iadd hF d_X10_codeAt_38 ?_
    refine g_callV (As := [.int (a1 + (1 : Int32))]) (rest := []) hF (fun l D cy => kt_X10_byteAt a r w2 l D cy) (Nat.le_of_ble_eq_true rfl) mV_X10_byteAt m_806 (recv_ob obC_2) rfl rfl (Nat.le_of_ble_eq_true rfl) d_X10_codeAt_39 (qIr (fun v39 w3 => ?_)) (fun _ _ _ h => h.elim)
    refine g_istore hF [(4, .int v39), (3, .int v2), (0, .ref (r 2)), (1, .int a1), (2, .int a2)] d_X10_codeAt_42 hnn (by decide) rfl ?_
    refine g_iload hF d_X10_codeAt_44 0 rfl ?_
    refine (Decidable.em (v39.toInt = 34)).elim (fun q46_0 => ?_) (fun q46_0 => ?_)
    · have w4 := w3.1 q46_0
      refine g_lookup (off := 55) hF 101 d_X10_codeAt_46 (by decide +kernel) (by rw [q46_0]; decide +kernel) (by decide) ?_
      refine g_iload hF d_X10_codeAt_101 0 rfl ?_
      exact g_iret hF rfl d_X10_codeAt_103 ⟨rfl, rfl, v39, rfl, ⟨rfl, w4⟩⟩
    have w5 := w3.2 q46_0
    refine (Decidable.em (v39.toInt = 39)).elim (fun q46_1 => ?_) (fun q46_1 => ?_)
    · have w6 := w5.1 q46_1
      refine g_lookup (off := 55) hF 101 d_X10_codeAt_46 (by decide +kernel) (by rw [q46_1]; decide +kernel) (by decide) ?_
      refine g_iload hF d_X10_codeAt_101 0 rfl ?_
      exact g_iret hF rfl d_X10_codeAt_103 ⟨rfl, rfl, v39, rfl, ⟨rfl, w6⟩⟩
    have w7 := w5.2 q46_1
    refine (Decidable.em (v39.toInt = 48)).elim (fun q46_2 => ?_) (fun q46_2 => ?_)
    · have w8 := w7.1 q46_2
      refine g_lookup (off := 53) hF 99 d_X10_codeAt_46 (by decide +kernel) (by rw [q46_2]; decide +kernel) (by decide) ?_
      refine g_iconst hF (v := 0) d_X10_codeAt_99 (by decide) ?_
      exact g_iret hF rfl d_X10_codeAt_100 ⟨rfl, rfl, (0 : Int32), rfl, ⟨rfl, w8⟩⟩
    have w9 := w7.2 q46_2
    refine (Decidable.em (v39.toInt = 92)).elim (fun q46_3 => ?_) (fun q46_3 => ?_)
    · have w10 := w9.1 q46_3
      refine g_lookup (off := 55) hF 101 d_X10_codeAt_46 (by decide +kernel) (by rw [q46_3]; decide +kernel) (by decide) ?_
      refine g_iload hF d_X10_codeAt_101 0 rfl ?_
      exact g_iret hF rfl d_X10_codeAt_103 ⟨rfl, rfl, v39, rfl, ⟨rfl, w10⟩⟩
    have w11 := w9.2 q46_3
    refine (Decidable.em (v39.toInt = 110)).elim (fun q46_4 => ?_) (fun q46_4 => ?_)
    · have w12 := w11.1 q46_4
      refine g_lookup (off := 50) hF 96 d_X10_codeAt_46 (by decide +kernel) (by rw [q46_4]; decide +kernel) (by decide) ?_
      refine g_bipush hF (v := 10) d_X10_codeAt_96 (by decide) ?_
      exact g_iret hF rfl d_X10_codeAt_98 ⟨rfl, rfl, (10 : Int32), rfl, ⟨rfl, w12⟩⟩
    have w13 := w11.2 q46_4
    refine g_lookup (off := 58) hF 104 d_X10_codeAt_46 (by decide +kernel) ((g_osw (34) (by decide) q46_0).trans ((g_osw (39) (by decide) q46_1).trans ((g_osw (48) (by decide) q46_2).trans ((g_osw (92) (by decide) q46_3).trans ((g_osw (110) (by decide) q46_4).trans rfl))))) (by decide) ?_
    refine g_iconst hF (v := (-1)) d_X10_codeAt_104 (by decide) ?_
    exact g_iret hF rfl d_X10_codeAt_105 ⟨rfl, rfl, ((-1) : Int32), rfl, ⟨rfl, w13⟩⟩
  · have w14 := w1.2 c
    refine g_iload_n hF d_X10_codeAt_12 rfl 0 rfl ?_
    refine g_bipush hF (v := 32) d_X10_codeAt_13 (by decide) ?_
    refine g_icmp_lt (yv := 32) hF 29 d_X10_codeAt_15 (by decide) rfl (by decide) (fun c => ?_) (fun c => ?_)
    · have w15 := w14.1 c
      refine g_iconst hF (v := (-1)) d_X10_codeAt_29 (by decide) ?_
      refine g_goto hF 34 d_X10_codeAt_30 (by decide) ?_
      exact g_iret hF rfl d_X10_codeAt_34 ⟨rfl, rfl, ((-1) : Int32), rfl, ⟨rfl, w15⟩⟩
    · have w16 := w14.2 c
      refine g_iload_n hF d_X10_codeAt_18 rfl 0 rfl ?_
      refine g_bipush hF (v := 126) d_X10_codeAt_19 (by decide) ?_
      refine g_icmp_gt (yv := 126) hF 29 d_X10_codeAt_21 (by decide) rfl (by decide) (fun c => ?_) (fun c => ?_)
      · have w17 := w16.1 c
        refine g_iconst hF (v := (-1)) d_X10_codeAt_29 (by decide) ?_
        refine g_goto hF 34 d_X10_codeAt_30 (by decide) ?_
        exact g_iret hF rfl d_X10_codeAt_34 ⟨rfl, rfl, ((-1) : Int32), rfl, ⟨rfl, w17⟩⟩
      · have w18 := w16.2 c
        refine g_iload_n hF d_X10_codeAt_24 rfl 0 rfl ?_
        refine g_iload_n hF d_X10_codeAt_25 rfl 3 rfl ?_
        refine g_icmp_ne hF 33 d_X10_codeAt_26 (by decide) rfl rfl (fun c => ?_) (fun c => ?_)
        · have w19 := w18.1 c
          refine g_iload_n hF d_X10_codeAt_33 rfl 0 rfl ?_
          exact g_iret hF rfl d_X10_codeAt_34 ⟨rfl, rfl, v2, rfl, ⟨rfl, w19⟩⟩
        · have w20 := w18.2 c
          refine g_iconst hF (v := (-1)) d_X10_codeAt_29 (by decide) ?_
          refine g_goto hF 34 d_X10_codeAt_30 (by decide) ?_
          exact g_iret hF rfl d_X10_codeAt_34 ⟨rfl, rfl, ((-1) : Int32), rfl, ⟨rfl, w20⟩⟩
set_option maxHeartbeats 4000000 in
set_option maxRecDepth 100000 in
theorem kt_X10_widthAt (a : Nat → Nat) (r : Nat → Nat) {a1 : Int32} {σ : St} {Q : Int32 → Prop} (w : wk_X10_widthAt a1 σ Q) (l : Launch) (D : va_G) (cy : Nat → ClassId) : Ct l D cy SC r (EC a gC) y_X10_widthAt (Cond.code y_X10_widthAt b_X10_widthAt 2 (some .int)) 1 [.ref (r 2), .int a1] σ Z0 [] (QI (fun x σ9 => σ9 = σ ∧ Q x)) QT0 := by
  unfold wk_X10_widthAt at w
  refine Ct_of (EC_ok a gC) (by decide) (Nat.le_of_ble_eq_true rfl) (by decide) (fun X hnn hF => ?_)
  show G SC r X σ Z0 [] [(0, .ref (r 2)), (1, .int a1)] [] 0
  refine g_aload_n hF d_X10_widthAt_0 rfl 0 rfl ?_
  refine g_iload_n hF d_X10_widthAt_1 rfl 1 rfl ?_
  refine g_callV (As := [.int a1]) (rest := []) hF (fun l D cy => kt_X10_byteAt a r w l D cy) (Nat.le_of_ble_eq_true rfl) mV_X10_byteAt m_806 (recv_ob obC_2) rfl rfl (Nat.le_of_ble_eq_true rfl) d_X10_widthAt_2 (qIr (fun v2 w1 => ?_)) (fun _ _ _ h => h.elim)
  refine g_bipush hF (v := 92) d_X10_widthAt_5 (by decide) ?_
  refine g_icmp_ne (yv := 92) hF 14 d_X10_widthAt_7 (by decide) rfl (by decide) (fun c => ?_) (fun c => ?_)
  · have w2 := w1.1 c
    refine g_iconst hF (v := 1) d_X10_widthAt_14 (by decide) ?_
    exact g_iret hF rfl d_X10_widthAt_15 ⟨rfl, rfl, (1 : Int32), rfl, ⟨rfl, w2⟩⟩
  · have w3 := w1.2 c
    refine g_iconst hF (v := 2) d_X10_widthAt_10 (by decide) ?_
    refine g_goto hF 15 d_X10_widthAt_11 (by decide) ?_
    exact g_iret hF rfl d_X10_widthAt_15 ⟨rfl, rfl, (2 : Int32), rfl, ⟨rfl, w3⟩⟩
set_option maxHeartbeats 4000000 in
set_option maxRecDepth 100000 in
theorem kt_X10_string (a : Nat → Nat) (r : Nat → Nat) {σ : St} {Q : Int32 → St → Prop} (w : wk_X10_string  σ Q) (l : Launch) (D : va_G) (cy : Nat → ClassId) : Ct l D cy SC r (EC a gC) y_X10_string (Cond.code y_X10_string b_X10_string 3 (some .boolean)) 2 [.ref (r 2)] σ Z0 [] (QI (fun x σ9 => (x = 0 ∨ x = 1) ∧ Q x σ9)) QT0 := by
  unfold wk_X10_string at w
  refine Ct_of (EC_ok a gC) (by decide) (Nat.le_of_ble_eq_true rfl) (by decide) (fun X hnn hF => ?_)
  show G SC r X σ Z0 [] [(0, .ref (r 2))] [] 0
  refine g_iconst hF (v := 1) d_X10_string_0 (by decide) ?_
  refine g_istore_n hF [(1, .int 1), (0, .ref (r 2))] d_X10_string_1 rfl hnn (by decide) rfl ?_
  refine g_iconst hF (v := 0) d_X10_string_2 (by decide) ?_
  refine g_istore_n hF [(2, .int 0), (1, .int 1), (0, .ref (r 2))] d_X10_string_3 rfl hnn (by decide) rfl ?_
  obtain ⟨L4, ⟨i4, u4⟩, h4⟩ := w
  have b4 : ∀ (n4 : Nat) (x1_4 : Int32) (x2_4 : Int32), L4 n4 x1_4 x2_4 → G SC r X σ Z0 [] [(0, .ref (r 2)), (1, .int x1_4), (2, .int x2_4)] [] 4 := by
    intro n4
    induction n4 using Nat.strongRecOn with
    | _ n4 ih4 =>
      intro x1_4 x2_4  w4_
      have w4_ := h4 n4 x1_4 x2_4  w4_
      refine g_iload_n hF d_X10_string_4 rfl 2 rfl ?_
      refine g_sipush hF (v := 200) d_X10_string_5 (by decide) ?_
      obtain ⟨J69, h69, w1⟩ := w4_
      have b69 : J69  → G SC r X σ Z0 [] [(0, .ref (r 2)), (1, .int x1_4), (2, .int x2_4)] [] 69 := by
        intro   w69_
        have w69_ := h69   w69_
        refine g_iload_n hF d_X10_string_69 rfl 2 rfl ?_
        refine g_sipush hF (v := 200) d_X10_string_70 (by decide) ?_
        refine g_icmp_le (yv := 200) hF 87 d_X10_string_73 (by decide) rfl (by decide) (fun c => ?_) (fun c => ?_)
        · have w2 := w69_.1 c
          refine g_aload_n hF d_X10_string_87 rfl 0 rfl ?_
          refine g_iconst hF (v := 4) d_X10_string_88 (by decide) ?_
          refine g_iload_n hF d_X10_string_89 rfl 2 rfl ?_
          refine g_iload_n hF d_X10_string_90 rfl 1 rfl ?_
          refine g_iconst hF (v := 1) d_X10_string_91 (by decide) ?_
          refine g_iadd hF d_X10_string_92 ?_
          refine g_callV (As := [.int 4, .int x2_4, .int (x1_4 + (1 : Int32))]) (rest := []) hF (fun l D cy => kt_X10_add a r w2 l D cy) (Nat.le_of_ble_eq_true rfl) mV_X10_add m_821 (recv_ob obC_2) rfl rfl (Nat.le_of_ble_eq_true rfl) d_X10_string_93 (qZ (fun v93 s93 hz93 w3 => ?_)) (fun _ _ _ h => h.elim)
          exact g_zret hF rfl (k_nz hz93) d_X10_string_96 ⟨rfl, rfl, v93, rfl, hz93, w3⟩
        · have w4 := w69_.2 c
          refine g_aload_n hF d_X10_string_76 rfl 0 rfl ?_
          refine g_aload_n hF d_X10_string_77 rfl 0 rfl ?_
          refine g_get (v := .int (σ 2 2)) hF 2 obC_2 (by decide) m_44 rfl d_X10_string_78 ?_
          refine g_callV (As := [.int (σ 2 2)]) (rest := []) hF (fun l D cy => kt_X10_bad a r w4 l D cy) (Nat.le_of_ble_eq_true rfl) mV_X10_bad m_817 (recv_ob obC_2) rfl rfl (Nat.le_of_ble_eq_true rfl) d_X10_string_81 (qZ (fun v81 s81 hz81 w5 => ?_)) (fun _ _ _ h => h.elim)
          refine g_goto hF 96 d_X10_string_84 (by decide) ?_
          exact g_zret hF rfl (k_nz hz81) d_X10_string_96 ⟨rfl, rfl, v81, rfl, hz81, w5⟩
      refine g_icmp_gt (yv := 200) hF 69 d_X10_string_8 (by decide) rfl (by decide) (fun c => ?_) (fun c => ?_)
      · have w6 := w1.1 c
        exact b69  w6
      · have w7 := w1.2 c
        refine g_aload_n hF d_X10_string_11 rfl 0 rfl ?_
        refine g_aload_n hF d_X10_string_12 rfl 0 rfl ?_
        refine g_get (v := .int (σ 2 2)) hF 2 obC_2 (by decide) m_44 rfl d_X10_string_13 ?_
        refine g_iload_n hF d_X10_string_16 rfl 1 rfl ?_
        refine g_iadd hF d_X10_string_17 ?_
        refine g_callV (As := [.int ((σ 2 2) + x1_4)]) (rest := []) hF (fun l D cy => kt_X10_byteAt a r w7 l D cy) (Nat.le_of_ble_eq_true rfl) mV_X10_byteAt m_806 (recv_ob obC_2) rfl rfl (Nat.le_of_ble_eq_true rfl) d_X10_string_18 (qIr (fun v18 w8 => ?_)) (fun _ _ _ h => h.elim)
        refine g_bipush hF (v := 34) d_X10_string_21 (by decide) ?_
        refine g_icmp_eq (yv := 34) hF 69 d_X10_string_23 (by decide) rfl (by decide) (fun c => ?_) (fun c => ?_)
        · have w9 := w8.1 c
          exact b69  w9
        · have w10 := w8.2 c
          refine g_aload_n hF d_X10_string_26 rfl 0 rfl ?_
          refine g_aload_n hF d_X10_string_27 rfl 0 rfl ?_
          refine g_get (v := .int (σ 2 2)) hF 2 obC_2 (by decide) m_44 rfl d_X10_string_28 ?_
          refine g_iload_n hF d_X10_string_31 rfl 1 rfl ?_
          refine g_iadd hF d_X10_string_32 ?_
          refine g_bipush hF (v := 34) d_X10_string_33 (by decide) ?_
          refine g_callV (As := [.int ((σ 2 2) + x1_4), .int 34]) (rest := []) hF (fun l D cy => kt_X10_codeAt a r w10 l D cy) (Nat.le_of_ble_eq_true rfl) mV_X10_codeAt m_875 (recv_ob obC_2) rfl rfl (Nat.le_of_ble_eq_true rfl) d_X10_string_35 (qIr (fun v35 w11 => ?_)) (fun _ _ _ h => h.elim)
          refine g_if_ge hF 50 d_X10_string_38 (by decide) rfl (fun c => ?_) (fun c => ?_)
          · have w12 := w11.1 c
            refine g_iload_n hF d_X10_string_50 rfl 1 rfl ?_
            refine g_aload_n hF d_X10_string_51 rfl 0 rfl ?_
            refine g_aload_n hF d_X10_string_52 rfl 0 rfl ?_
            refine g_get (v := .int (σ 2 2)) hF 2 obC_2 (by decide) m_44 rfl d_X10_string_53 ?_
            refine g_iload_n hF d_X10_string_56 rfl 1 rfl ?_
            refine g_iadd hF d_X10_string_57 ?_
            refine g_callV (As := [.int ((σ 2 2) + x1_4)]) (rest := [.int x1_4]) hF (fun l D cy => kt_X10_widthAt a r w12 l D cy) (Nat.le_of_ble_eq_true rfl) mV_X10_widthAt m_879 (recv_ob obC_2) rfl rfl (Nat.le_of_ble_eq_true rfl) d_X10_string_58 (qIr (fun v58 w13 => ?_)) (fun _ _ _ h => h.elim)
            refine g_iadd hF d_X10_string_61 ?_
            refine g_istore_n hF [(1, .int (x1_4 + v58)), (0, .ref (r 2)), (2, .int x2_4)] d_X10_string_62 rfl hnn (by decide) rfl ?_
            refine g_iinc hF (x2_4 + 1) [(2, .int (x2_4 + 1)), (1, .int (x1_4 + v58)), (0, .ref (r 2))] d_X10_string_63 2 rfl rfl hnn (by decide) rfl ?_
            refine g_goto hF 4 d_X10_string_66 (by decide) ?_
            obtain ⟨m4, hm4, w9⟩ := w13
            exact g_sub (L' := [(0, .ref (r 2)), (1, .int (x1_4 + v58)), (2, .int (x2_4 + 1))]) [2, 1, 0] rfl (ih4 m4 hm4 (x1_4 + v58) (x2_4 + 1) w9)
          · have w14 := w11.2 c
            refine g_aload_n hF d_X10_string_41 rfl 0 rfl ?_
            refine g_aload_n hF d_X10_string_42 rfl 0 rfl ?_
            refine g_get (v := .int (σ 2 2)) hF 2 obC_2 (by decide) m_44 rfl d_X10_string_43 ?_
            refine g_callV (As := [.int (σ 2 2)]) (rest := []) hF (fun l D cy => kt_X10_bad a r w14 l D cy) (Nat.le_of_ble_eq_true rfl) mV_X10_bad m_817 (recv_ob obC_2) rfl rfl (Nat.le_of_ble_eq_true rfl) d_X10_string_46 (qZ (fun v46 s46 hz46 w15 => ?_)) (fun _ _ _ h => h.elim)
            exact g_zret hF rfl (k_nz hz46) d_X10_string_49 ⟨rfl, rfl, v46, rfl, hz46, w15⟩
  exact g_sub (L' := [(0, .ref (r 2)), (1, .int 1), (2, .int 0)]) [2, 1, 0] rfl (b4 i4 (1 : Int32) (0 : Int32) u4)
set_option maxHeartbeats 4000000 in
set_option maxRecDepth 100000 in
theorem kt_X10_character (a : Nat → Nat) (r : Nat → Nat) {σ : St} {Q : Int32 → St → Prop} (w : wk_X10_character  σ Q) (l : Launch) (D : va_G) (cy : Nat → ClassId) : Ct l D cy SC r (EC a gC) y_X10_character (Cond.code y_X10_character b_X10_character 3 (some .boolean)) 2 [.ref (r 2)] σ Z0 [] (QI (fun x σ9 => (x = 0 ∨ x = 1) ∧ Q x σ9)) QT0 := by
  unfold wk_X10_character at w
  refine Ct_of (EC_ok a gC) (by decide) (Nat.le_of_ble_eq_true rfl) (by decide) (fun X hnn hF => ?_)
  show G SC r X σ Z0 [] [(0, .ref (r 2))] [] 0
  refine g_aload_n hF d_X10_character_0 rfl 0 rfl ?_
  refine g_aload_n hF d_X10_character_1 rfl 0 rfl ?_
  refine g_get (v := .int (σ 2 2)) hF 2 obC_2 (by decide) m_44 rfl d_X10_character_2 ?_
  refine g_iconst hF (v := 1) d_X10_character_5 (by decide) ?_
  refine g_iadd hF d_X10_character_6 ?_
  refine g_bipush hF (v := 39) d_X10_character_7 (by decide) ?_
  refine g_callV (As := [.int ((σ 2 2) + (1 : Int32)), .int 39]) (rest := []) hF (fun l D cy => kt_X10_codeAt a r w l D cy) (Nat.le_of_ble_eq_true rfl) mV_X10_codeAt m_875 (recv_ob obC_2) rfl rfl (Nat.le_of_ble_eq_true rfl) d_X10_character_9 (qIr (fun v9 w1 => ?_)) (fun _ _ _ h => h.elim)
  refine g_istore_n hF [(1, .int v9), (0, .ref (r 2))] d_X10_character_12 rfl hnn (by decide) rfl ?_
  refine g_iconst hF (v := 1) d_X10_character_13 (by decide) ?_
  refine g_aload_n hF d_X10_character_14 rfl 1 rfl ?_
  refine g_aload_n hF d_X10_character_15 rfl 1 rfl ?_
  refine g_get (v := .int (σ 2 2)) hF 2 obC_2 (by decide) m_44 rfl d_X10_character_16 ?_
  refine g_iconst hF (v := 1) d_X10_character_19 (by decide) ?_
  refine g_iadd hF d_X10_character_20 ?_
  refine g_callV (As := [.int ((σ 2 2) + (1 : Int32))]) (rest := [.int 1]) hF (fun l D cy => kt_X10_widthAt a r w1 l D cy) (Nat.le_of_ble_eq_true rfl) mV_X10_widthAt m_879 (recv_ob obC_2) rfl rfl (Nat.le_of_ble_eq_true rfl) d_X10_character_21 (qIr (fun v21 w2 => ?_)) (fun _ _ _ h => h.elim)
  refine g_iadd hF d_X10_character_24 ?_
  refine g_istore_n hF [(2, .int ((1 : Int32) + v21)), (1, .int v9), (0, .ref (r 2))] d_X10_character_25 rfl hnn (by decide) rfl ?_
  refine g_iload_n hF d_X10_character_26 rfl 1 rfl ?_
  obtain ⟨J45, h45, w3⟩ := w2
  have b45 : J45  → G SC r X σ Z0 [] [(0, .ref (r 2))] [] 45 := by
    intro   w45_
    have w45_ := h45   w45_
    refine g_aload_n hF d_X10_character_45 rfl 0 rfl ?_
    refine g_aload_n hF d_X10_character_46 rfl 0 rfl ?_
    refine g_get (v := .int (σ 2 2)) hF 2 obC_2 (by decide) m_44 rfl d_X10_character_47 ?_
    refine g_callV (As := [.int (σ 2 2)]) (rest := []) hF (fun l D cy => kt_X10_bad a r w45_ l D cy) (Nat.le_of_ble_eq_true rfl) mV_X10_bad m_817 (recv_ob obC_2) rfl rfl (Nat.le_of_ble_eq_true rfl) d_X10_character_50 (qZ (fun v50 s50 hz50 w4 => ?_)) (fun _ _ _ h => h.elim)
    refine g_goto hF 65 d_X10_character_53 (by decide) ?_
    exact g_zret hF rfl (k_nz hz50) d_X10_character_65 ⟨rfl, rfl, v50, rfl, hz50, w4⟩
  refine g_if_lt hF 45 d_X10_character_27 (by decide) rfl (fun c => ?_) (fun c => ?_)
  · have w5 := w3.1 c
    exact g_sub (L' := [(0, .ref (r 2))]) [2] rfl (b45  w5)
  · have w6 := w3.2 c
    refine g_aload_n hF d_X10_character_30 rfl 2 rfl ?_
    refine g_aload_n hF d_X10_character_31 rfl 2 rfl ?_
    refine g_get (v := .int (σ 2 2)) hF 2 obC_2 (by decide) m_44 rfl d_X10_character_32 ?_
    refine g_iload_n hF d_X10_character_35 rfl 0 rfl ?_
    refine g_iadd hF d_X10_character_36 ?_
    refine g_callV (As := [.int ((σ 2 2) + ((1 : Int32) + v21))]) (rest := []) hF (fun l D cy => kt_X10_byteAt a r w6 l D cy) (Nat.le_of_ble_eq_true rfl) mV_X10_byteAt m_806 (recv_ob obC_2) rfl rfl (Nat.le_of_ble_eq_true rfl) d_X10_character_37 (qIr (fun v37 w7 => ?_)) (fun _ _ _ h => h.elim)
    refine g_bipush hF (v := 39) d_X10_character_40 (by decide) ?_
    refine g_icmp_eq (yv := 39) hF 56 d_X10_character_42 (by decide) rfl (by decide) (fun c => ?_) (fun c => ?_)
    · have w8 := w7.1 c
      refine g_aload_n hF d_X10_character_56 rfl 2 rfl ?_
      refine g_iconst hF (v := 3) d_X10_character_57 (by decide) ?_
      refine g_iload_n hF d_X10_character_58 rfl 1 rfl ?_
      refine g_iload_n hF d_X10_character_59 rfl 0 rfl ?_
      refine g_iconst hF (v := 1) d_X10_character_60 (by decide) ?_
      refine g_iadd hF d_X10_character_61 ?_
      refine g_callV (As := [.int 3, .int v9, .int (((1 : Int32) + v21) + (1 : Int32))]) (rest := []) hF (fun l D cy => kt_X10_add a r w8 l D cy) (Nat.le_of_ble_eq_true rfl) mV_X10_add m_821 (recv_ob obC_2) rfl rfl (Nat.le_of_ble_eq_true rfl) d_X10_character_62 (qZ (fun v62 s62 hz62 w9 => ?_)) (fun _ _ _ h => h.elim)
      exact g_zret hF rfl (k_nz hz62) d_X10_character_65 ⟨rfl, rfl, v62, rfl, hz62, w9⟩
    · have w10 := w7.2 c
      exact g_sub (L' := [(0, .ref (r 2))]) [2] rfl (b45  w10)
set_option maxHeartbeats 4000000 in
set_option maxRecDepth 100000 in
theorem kt_X10_digits (a : Nat → Nat) (r : Nat → Nat) {σ : St} {Q : Int32 → St → Prop} (w : wk_X10_digits  σ Q) (l : Launch) (D : va_G) (cy : Nat → ClassId) : Ct l D cy SC r (EC a gC) y_X10_digits (Cond.code y_X10_digits b_X10_digits 5 (some .boolean)) 2 [.ref (r 2)] σ Z0 [] (QI (fun x σ9 => (x = 0 ∨ x = 1) ∧ Q x σ9)) QT0 := by
  unfold wk_X10_digits at w
  refine Ct_of (EC_ok a gC) (by decide) (Nat.le_of_ble_eq_true rfl) (by decide) (fun X hnn hF => ?_)
  show G SC r X σ Z0 [] [(0, .ref (r 2))] [] 0
  refine g_lconst hF (v := 0) d_X10_digits_0 (by decide) ?_
  refine g_lstore_n hF [(1, .long 0), (0, .ref (r 2))] d_X10_digits_1 rfl hnn (by decide) rfl ?_
  refine g_iconst hF (v := 0) d_X10_digits_2 (by decide) ?_
  refine g_istore_n hF [(3, .int 0), (1, .long 0), (0, .ref (r 2))] d_X10_digits_3 rfl hnn (by decide) rfl ?_
  refine g_aload_n hF d_X10_digits_4 rfl 2 rfl ?_
  refine g_aload_n hF d_X10_digits_5 rfl 2 rfl ?_
  refine g_get (v := .int (σ 2 2)) hF 2 obC_2 (by decide) m_44 rfl d_X10_digits_6 ?_
  refine g_callV (As := [.int (σ 2 2)]) (rest := []) hF (fun l D cy => kt_X10_byteAt a r w l D cy) (Nat.le_of_ble_eq_true rfl) mV_X10_byteAt m_806 (recv_ob obC_2) rfl rfl (Nat.le_of_ble_eq_true rfl) d_X10_digits_9 (qIr (fun v9 w1 => ?_)) (fun _ _ _ h => h.elim)
  refine g_istore hF [(4, .int v9), (3, .int 0), (1, .long 0), (0, .ref (r 2))] d_X10_digits_12 hnn (by decide) rfl ?_
  obtain ⟨L14, ⟨i14, u14⟩, h14⟩ := w1
  have b14 : ∀ (n14 : Nat) (x1_14 : Int64) (x3_14 : Int32) (x4_14 : Int32), L14 n14 x1_14 x3_14 x4_14 → G SC r X σ Z0 [] [(0, .ref (r 2)), (1, .long x1_14), (3, .int x3_14), (4, .int x4_14)] [] 14 := by
    intro n14
    induction n14 using Nat.strongRecOn with
    | _ n14 ih14 =>
      intro x1_14 x3_14 x4_14  w14_
      have w14_ := h14 n14 x1_14 x3_14 x4_14  w14_
      refine g_iload_n hF d_X10_digits_14 rfl 2 rfl ?_
      refine g_aload_n hF d_X10_digits_15 rfl 0 rfl ?_
      refine g_get (v := .int (σ 2 1)) hF 1 obC_2 (by decide) m_43 rfl d_X10_digits_16 ?_
      obtain ⟨J69, h69, w2⟩ := w14_
      have b69 : J69  → G SC r X σ Z0 [] [(0, .ref (r 2)), (1, .long x1_14), (3, .int x3_14)] [] 69 := by
        intro   w69_
        have w69_ := h69   w69_
        refine g_lload_n hF d_X10_digits_69 rfl 1 rfl ?_
        refine g_ldc2 hF (v := 2147483647) m_870 d_X10_digits_70 ?_
        refine g_lcmp hF d_X10_digits_73 ?_
        refine g_if_le hF 88 d_X10_digits_74 (by decide) rfl (fun c => ?_) (fun c => ?_)
        · have w3 := w69_.1 c
          refine g_aload_n hF d_X10_digits_88 rfl 0 rfl ?_
          refine g_iconst hF (v := 3) d_X10_digits_89 (by decide) ?_
          refine g_lload_n hF d_X10_digits_90 rfl 1 rfl ?_
          refine g_l2i hF d_X10_digits_91 ?_
          refine g_iload_n hF d_X10_digits_92 rfl 2 rfl ?_
          refine g_callV (As := [.int 3, .int x1_14.toInt32, .int x3_14]) (rest := []) hF (fun l D cy => kt_X10_add a r w3 l D cy) (Nat.le_of_ble_eq_true rfl) mV_X10_add m_821 (recv_ob obC_2) rfl rfl (Nat.le_of_ble_eq_true rfl) d_X10_digits_93 (qZ (fun v93 s93 hz93 w4 => ?_)) (fun _ _ _ h => h.elim)
          exact g_zret hF rfl (k_nz hz93) d_X10_digits_96 ⟨rfl, rfl, v93, rfl, hz93, w4⟩
        · have w5 := w69_.2 c
          refine g_aload_n hF d_X10_digits_77 rfl 0 rfl ?_
          refine g_aload_n hF d_X10_digits_78 rfl 0 rfl ?_
          refine g_get (v := .int (σ 2 2)) hF 2 obC_2 (by decide) m_44 rfl d_X10_digits_79 ?_
          refine g_callV (As := [.int (σ 2 2)]) (rest := []) hF (fun l D cy => kt_X10_bad a r w5 l D cy) (Nat.le_of_ble_eq_true rfl) mV_X10_bad m_817 (recv_ob obC_2) rfl rfl (Nat.le_of_ble_eq_true rfl) d_X10_digits_82 (qZ (fun v82 s82 hz82 w6 => ?_)) (fun _ _ _ h => h.elim)
          refine g_goto hF 96 d_X10_digits_85 (by decide) ?_
          exact g_zret hF rfl (k_nz hz82) d_X10_digits_96 ⟨rfl, rfl, v82, rfl, hz82, w6⟩
      refine g_icmp_gt hF 69 d_X10_digits_19 (by decide) rfl rfl (fun c => ?_) (fun c => ?_)
      · have w7 := w2.1 c
        exact g_sub (L' := [(0, .ref (r 2)), (1, .long x1_14), (3, .int x3_14)]) [0, 1, 2] rfl (b69  w7)
      · have w8 := w2.2 c
        refine g_iload hF d_X10_digits_22 3 rfl ?_
        refine g_callS (As := [.int x4_14]) (rest := []) hF (fun l D cy => kt_X10_isDigit a r w8 l D cy) (Nat.le_of_ble_eq_true rfl) mS_X10_isDigit m_840 rfl rfl (Nat.le_of_ble_eq_true rfl) d_X10_digits_24 (qZr (fun v24 hz24 w9 => ?_)) (fun _ _ _ h => h.elim)
        refine g_if_eq hF 69 d_X10_digits_27 (by decide) rfl (fun c => ?_) (fun c => ?_)
        · have w10 := w9.1 c
          exact g_sub (L' := [(0, .ref (r 2)), (1, .long x1_14), (3, .int x3_14)]) [0, 1, 2] rfl (b69  w10)
        · have w11 := w9.2 c
          refine g_lload_n hF d_X10_digits_30 rfl 1 rfl ?_
          refine g_ldc2 hF (v := 10) m_865 d_X10_digits_31 ?_
          refine g_lmul hF d_X10_digits_34 ?_
          refine g_iload hF d_X10_digits_35 3 rfl ?_
          refine g_bipush hF (v := 48) d_X10_digits_37 (by decide) ?_
          refine g_isub hF d_X10_digits_39 ?_
          refine g_i2l hF d_X10_digits_40 ?_
          refine g_ladd hF d_X10_digits_41 ?_
          refine g_ldc2 hF (v := 4294967296) m_866 d_X10_digits_42 ?_
          refine g_mmin_long hF (Nat.le_of_ble_eq_true rfl) m_867 m_868 m_23 m_869 (Nat.le_of_ble_eq_true rfl) d_X10_digits_45 ?_
          refine g_lstore_n hF [(1, .long (if (4294967296 : Int64) < ((x1_14 * (10 : Int64)) + (x4_14 - (48 : Int32)).toInt64) then (4294967296 : Int64) else ((x1_14 * (10 : Int64)) + (x4_14 - (48 : Int32)).toInt64))), (0, .ref (r 2)), (3, .int x3_14), (4, .int x4_14)] d_X10_digits_48 rfl hnn (by decide) rfl ?_
          refine g_aload_n hF d_X10_digits_49 rfl 1 rfl ?_
          refine g_aload_n hF d_X10_digits_50 rfl 1 rfl ?_
          refine g_get (v := .int (σ 2 2)) hF 2 obC_2 (by decide) m_44 rfl d_X10_digits_51 ?_
          refine g_iload_n hF d_X10_digits_54 rfl 2 rfl ?_
          refine g_iadd hF d_X10_digits_55 ?_
          refine g_iconst hF (v := 1) d_X10_digits_56 (by decide) ?_
          refine g_iadd hF d_X10_digits_57 ?_
          refine g_callV (As := [.int (((σ 2 2) + x3_14) + (1 : Int32))]) (rest := []) hF (fun l D cy => kt_X10_byteAt a r w11 l D cy) (Nat.le_of_ble_eq_true rfl) mV_X10_byteAt m_806 (recv_ob obC_2) rfl rfl (Nat.le_of_ble_eq_true rfl) d_X10_digits_58 (qIr (fun v58 w12 => ?_)) (fun _ _ _ h => h.elim)
          refine g_istore hF [(4, .int v58), (1, .long (if (4294967296 : Int64) < ((x1_14 * (10 : Int64)) + (x4_14 - (48 : Int32)).toInt64) then (4294967296 : Int64) else ((x1_14 * (10 : Int64)) + (x4_14 - (48 : Int32)).toInt64))), (0, .ref (r 2)), (3, .int x3_14)] d_X10_digits_61 hnn (by decide) rfl ?_
          refine g_iinc hF (x3_14 + 1) [(3, .int (x3_14 + 1)), (4, .int v58), (1, .long (if (4294967296 : Int64) < ((x1_14 * (10 : Int64)) + (x4_14 - (48 : Int32)).toInt64) then (4294967296 : Int64) else ((x1_14 * (10 : Int64)) + (x4_14 - (48 : Int32)).toInt64))), (0, .ref (r 2))] d_X10_digits_63 3 rfl rfl hnn (by decide) rfl ?_
          refine g_goto hF 14 d_X10_digits_66 (by decide) ?_
          obtain ⟨m14, hm14, w9⟩ := w12
          exact g_sub (L' := [(0, .ref (r 2)), (1, .long (if (4294967296 : Int64) < ((x1_14 * (10 : Int64)) + (x4_14 - (48 : Int32)).toInt64) then (4294967296 : Int64) else ((x1_14 * (10 : Int64)) + (x4_14 - (48 : Int32)).toInt64))), (3, .int (x3_14 + 1)), (4, .int v58)]) [3, 2, 0, 1] rfl (ih14 m14 hm14 (if (4294967296 : Int64) < ((x1_14 * (10 : Int64)) + (x4_14 - (48 : Int32)).toInt64) then (4294967296 : Int64) else ((x1_14 * (10 : Int64)) + (x4_14 - (48 : Int32)).toInt64)) (x3_14 + 1) v58 w9)
  exact g_sub (L' := [(0, .ref (r 2)), (1, .long 0), (3, .int 0), (4, .int v9)]) [3, 2, 1, 0] rfl (b14 i14 (0 : Int64) (0 : Int32) v9 u14)
set_option maxHeartbeats 4000000 in
set_option maxRecDepth 100000 in
theorem kt_X10_sixteenth (a : Nat → Nat) (r : Nat → Nat) {a0 : Int32} {σ : St} {Q : Int32 → Prop} (w : wk_X10_sixteenth a0 σ Q) (l : Launch) (D : va_G) (cy : Nat → ClassId) : Ct l D cy SC r (EC a gC) y_X10_sixteenth (Cond.code y_X10_sixteenth b_X10_sixteenth 1 (some .int)) 1 [.int a0] σ Z0 [] (QI (fun x σ9 => σ9 = σ ∧ Q x)) QT0 := by
  unfold wk_X10_sixteenth at w
  refine Ct_of (EC_ok a gC) (by decide) (Nat.le_of_ble_eq_true rfl) (by decide) (fun X hnn hF => ?_)
  show G SC r X σ Z0 [] [(0, .int a0)] [] 0
  refine g_iload_n hF d_X10_sixteenth_0 rfl 0 rfl ?_
  refine g_callS (As := [.int a0]) (rest := []) hF (fun l D cy => kt_X10_isDigit a r w l D cy) (Nat.le_of_ble_eq_true rfl) mS_X10_isDigit m_840 rfl rfl (Nat.le_of_ble_eq_true rfl) d_X10_sixteenth_1 (qZr (fun v1 hz1 w1 => ?_)) (fun _ _ _ h => h.elim)
  refine g_if_eq hF 12 d_X10_sixteenth_4 (by decide) rfl (fun c => ?_) (fun c => ?_)
  · have w2 := w1.1 c
    refine g_iload_n hF d_X10_sixteenth_12 rfl 0 rfl ?_
    refine g_bipush hF (v := 97) d_X10_sixteenth_13 (by decide) ?_
    obtain ⟨J32, h32, w3⟩ := w2
    have b32 : J32  → G SC r X σ Z0 [] [(0, .int a0)] [] 32 := by
      intro   w32_
      have w32_ := h32   w32_
      refine g_iload_n hF d_X10_sixteenth_32 rfl 0 rfl ?_
      refine g_bipush hF (v := 65) d_X10_sixteenth_33 (by decide) ?_
      refine g_icmp_lt (yv := 65) hF 54 d_X10_sixteenth_35 (by decide) rfl (by decide) (fun c => ?_) (fun c => ?_)
      · have w4 := w32_.1 c
        refine g_iconst hF (v := (-1)) d_X10_sixteenth_54 (by decide) ?_
        exact g_iret hF rfl d_X10_sixteenth_55 ⟨rfl, rfl, ((-1) : Int32), rfl, ⟨rfl, w4⟩⟩
      · have w5 := w32_.2 c
        refine g_iload_n hF d_X10_sixteenth_38 rfl 0 rfl ?_
        refine g_bipush hF (v := 70) d_X10_sixteenth_39 (by decide) ?_
        refine g_icmp_gt (yv := 70) hF 54 d_X10_sixteenth_41 (by decide) rfl (by decide) (fun c => ?_) (fun c => ?_)
        · have w6 := w5.1 c
          refine g_iconst hF (v := (-1)) d_X10_sixteenth_54 (by decide) ?_
          exact g_iret hF rfl d_X10_sixteenth_55 ⟨rfl, rfl, ((-1) : Int32), rfl, ⟨rfl, w6⟩⟩
        · have w7 := w5.2 c
          refine g_iload_n hF d_X10_sixteenth_44 rfl 0 rfl ?_
          refine g_bipush hF (v := 65) d_X10_sixteenth_45 (by decide) ?_
          refine g_isub hF d_X10_sixteenth_47 ?_
          refine g_bipush hF (v := 10) d_X10_sixteenth_48 (by decide) ?_
          refine g_iadd hF d_X10_sixteenth_50 ?_
          refine g_goto hF 55 d_X10_sixteenth_51 (by decide) ?_
          exact g_iret hF rfl d_X10_sixteenth_55 ⟨rfl, rfl, ((a0 - (65 : Int32)) + (10 : Int32)), rfl, ⟨rfl, w7⟩⟩
    refine g_icmp_lt (yv := 97) hF 32 d_X10_sixteenth_15 (by decide) rfl (by decide) (fun c => ?_) (fun c => ?_)
    · have w8 := w3.1 c
      exact b32  w8
    · have w9 := w3.2 c
      refine g_iload_n hF d_X10_sixteenth_18 rfl 0 rfl ?_
      refine g_bipush hF (v := 102) d_X10_sixteenth_19 (by decide) ?_
      refine g_icmp_gt (yv := 102) hF 32 d_X10_sixteenth_21 (by decide) rfl (by decide) (fun c => ?_) (fun c => ?_)
      · have w10 := w9.1 c
        exact b32  w10
      · have w11 := w9.2 c
        refine g_iload_n hF d_X10_sixteenth_24 rfl 0 rfl ?_
        refine g_bipush hF (v := 97) d_X10_sixteenth_25 (by decide) ?_
        refine g_isub hF d_X10_sixteenth_27 ?_
        refine g_bipush hF (v := 10) d_X10_sixteenth_28 (by decide) ?_
        refine g_iadd hF d_X10_sixteenth_30 ?_
        exact g_iret hF rfl d_X10_sixteenth_31 ⟨rfl, rfl, ((a0 - (97 : Int32)) + (10 : Int32)), rfl, ⟨rfl, w11⟩⟩
  · have w12 := w1.2 c
    refine g_iload_n hF d_X10_sixteenth_7 rfl 0 rfl ?_
    refine g_bipush hF (v := 48) d_X10_sixteenth_8 (by decide) ?_
    refine g_isub hF d_X10_sixteenth_10 ?_
    exact g_iret hF rfl d_X10_sixteenth_11 ⟨rfl, rfl, (a0 - (48 : Int32)), rfl, ⟨rfl, w12⟩⟩
set_option maxHeartbeats 4000000 in
set_option maxRecDepth 100000 in
theorem kt_X10_sixteens (a : Nat → Nat) (r : Nat → Nat) {σ : St} {Q : Int32 → St → Prop} (w : wk_X10_sixteens  σ Q) (l : Launch) (D : va_G) (cy : Nat → ClassId) : Ct l D cy SC r (EC a gC) y_X10_sixteens (Cond.code y_X10_sixteens b_X10_sixteens 4 (some .boolean)) 2 [.ref (r 2)] σ Z0 [] (QI (fun x σ9 => (x = 0 ∨ x = 1) ∧ Q x σ9)) QT0 := by
  unfold wk_X10_sixteens at w
  refine Ct_of (EC_ok a gC) (by decide) (Nat.le_of_ble_eq_true rfl) (by decide) (fun X hnn hF => ?_)
  show G SC r X σ Z0 [] [(0, .ref (r 2))] [] 0
  refine g_iconst hF (v := 0) d_X10_sixteens_0 (by decide) ?_
  refine g_istore_n hF [(1, .int 0), (0, .ref (r 2))] d_X10_sixteens_1 rfl hnn (by decide) rfl ?_
  refine g_iconst hF (v := 2) d_X10_sixteens_2 (by decide) ?_
  refine g_istore_n hF [(2, .int 2), (1, .int 0), (0, .ref (r 2))] d_X10_sixteens_3 rfl hnn (by decide) rfl ?_
  refine g_aload_n hF d_X10_sixteens_4 rfl 2 rfl ?_
  refine g_aload_n hF d_X10_sixteens_5 rfl 2 rfl ?_
  refine g_get (v := .int (σ 2 2)) hF 2 obC_2 (by decide) m_44 rfl d_X10_sixteens_6 ?_
  refine g_iconst hF (v := 2) d_X10_sixteens_9 (by decide) ?_
  refine g_iadd hF d_X10_sixteens_10 ?_
  refine g_callV (As := [.int ((σ 2 2) + (2 : Int32))]) (rest := []) hF (fun l D cy => kt_X10_byteAt a r w l D cy) (Nat.le_of_ble_eq_true rfl) mV_X10_byteAt m_806 (recv_ob obC_2) rfl rfl (Nat.le_of_ble_eq_true rfl) d_X10_sixteens_11 (qIr (fun v11 w1 => ?_)) (fun _ _ _ h => h.elim)
  refine g_callS (As := [.int v11]) (rest := []) hF (fun l D cy => kt_X10_sixteenth a r w1 l D cy) (Nat.le_of_ble_eq_true rfl) mS_X10_sixteenth m_854 rfl rfl (Nat.le_of_ble_eq_true rfl) d_X10_sixteens_14 (qIr (fun v14 w2 => ?_)) (fun _ _ _ h => h.elim)
  refine g_istore_n hF [(3, .int v14), (2, .int 2), (1, .int 0), (0, .ref (r 2))] d_X10_sixteens_17 rfl hnn (by decide) rfl ?_
  obtain ⟨L18, ⟨i18, u18⟩, h18⟩ := w2
  have b18 : ∀ (n18 : Nat) (x1_18 : Int32) (x2_18 : Int32) (x3_18 : Int32), L18 n18 x1_18 x2_18 x3_18 → G SC r X σ Z0 [] [(0, .ref (r 2)), (1, .int x1_18), (2, .int x2_18), (3, .int x3_18)] [] 18 := by
    intro n18
    induction n18 using Nat.strongRecOn with
    | _ n18 ih18 =>
      intro x1_18 x2_18 x3_18  w18_
      have w18_ := h18 n18 x1_18 x2_18 x3_18  w18_
      refine g_iload_n hF d_X10_sixteens_18 rfl 2 rfl ?_
      refine g_aload_n hF d_X10_sixteens_19 rfl 0 rfl ?_
      refine g_get (v := .int (σ 2 1)) hF 1 obC_2 (by decide) m_43 rfl d_X10_sixteens_20 ?_
      obtain ⟨J59, h59, w3⟩ := w18_
      have b59 : J59  → G SC r X σ Z0 [] [(0, .ref (r 2)), (1, .int x1_18), (2, .int x2_18)] [] 59 := by
        intro   w59_
        have w59_ := h59   w59_
        refine g_iload_n hF d_X10_sixteens_59 rfl 2 rfl ?_
        refine g_bipush hF (v := 10) d_X10_sixteens_60 (by decide) ?_
        refine g_icmp_le (yv := 10) hF 76 d_X10_sixteens_62 (by decide) rfl (by decide) (fun c => ?_) (fun c => ?_)
        · have w4 := w59_.1 c
          refine g_aload_n hF d_X10_sixteens_76 rfl 0 rfl ?_
          refine g_iconst hF (v := 3) d_X10_sixteens_77 (by decide) ?_
          refine g_iload_n hF d_X10_sixteens_78 rfl 1 rfl ?_
          refine g_iload_n hF d_X10_sixteens_79 rfl 2 rfl ?_
          refine g_callV (As := [.int 3, .int x1_18, .int x2_18]) (rest := []) hF (fun l D cy => kt_X10_add a r w4 l D cy) (Nat.le_of_ble_eq_true rfl) mV_X10_add m_821 (recv_ob obC_2) rfl rfl (Nat.le_of_ble_eq_true rfl) d_X10_sixteens_80 (qZ (fun v80 s80 hz80 w5 => ?_)) (fun _ _ _ h => h.elim)
          exact g_zret hF rfl (k_nz hz80) d_X10_sixteens_83 ⟨rfl, rfl, v80, rfl, hz80, w5⟩
        · have w6 := w59_.2 c
          refine g_aload_n hF d_X10_sixteens_65 rfl 0 rfl ?_
          refine g_aload_n hF d_X10_sixteens_66 rfl 0 rfl ?_
          refine g_get (v := .int (σ 2 2)) hF 2 obC_2 (by decide) m_44 rfl d_X10_sixteens_67 ?_
          refine g_callV (As := [.int (σ 2 2)]) (rest := []) hF (fun l D cy => kt_X10_bad a r w6 l D cy) (Nat.le_of_ble_eq_true rfl) mV_X10_bad m_817 (recv_ob obC_2) rfl rfl (Nat.le_of_ble_eq_true rfl) d_X10_sixteens_70 (qZ (fun v70 s70 hz70 w7 => ?_)) (fun _ _ _ h => h.elim)
          refine g_goto hF 83 d_X10_sixteens_73 (by decide) ?_
          exact g_zret hF rfl (k_nz hz70) d_X10_sixteens_83 ⟨rfl, rfl, v70, rfl, hz70, w7⟩
      refine g_icmp_gt hF 59 d_X10_sixteens_23 (by decide) rfl rfl (fun c => ?_) (fun c => ?_)
      · have w8 := w3.1 c
        exact g_sub (L' := [(0, .ref (r 2)), (1, .int x1_18), (2, .int x2_18)]) [0, 1, 2] rfl (b59  w8)
      · have w9 := w3.2 c
        refine g_iload_n hF d_X10_sixteens_26 rfl 3 rfl ?_
        refine g_if_lt hF 59 d_X10_sixteens_27 (by decide) rfl (fun c => ?_) (fun c => ?_)
        · have w10 := w9.1 c
          exact g_sub (L' := [(0, .ref (r 2)), (1, .int x1_18), (2, .int x2_18)]) [0, 1, 2] rfl (b59  w10)
        · have w11 := w9.2 c
          refine g_iload_n hF d_X10_sixteens_30 rfl 1 rfl ?_
          refine g_bipush hF (v := 16) d_X10_sixteens_31 (by decide) ?_
          refine g_imul hF d_X10_sixteens_33 ?_
          refine g_iload_n hF d_X10_sixteens_34 rfl 3 rfl ?_
          refine g_iadd hF d_X10_sixteens_35 ?_
          refine g_istore_n hF [(1, .int ((x1_18 * (16 : Int32)) + x3_18)), (0, .ref (r 2)), (2, .int x2_18), (3, .int x3_18)] d_X10_sixteens_36 rfl hnn (by decide) rfl ?_
          refine g_aload_n hF d_X10_sixteens_37 rfl 1 rfl ?_
          refine g_aload_n hF d_X10_sixteens_38 rfl 1 rfl ?_
          refine g_get (v := .int (σ 2 2)) hF 2 obC_2 (by decide) m_44 rfl d_X10_sixteens_39 ?_
          refine g_iload_n hF d_X10_sixteens_42 rfl 2 rfl ?_
          refine g_iadd hF d_X10_sixteens_43 ?_
          refine g_iconst hF (v := 1) d_X10_sixteens_44 (by decide) ?_
          refine g_iadd hF d_X10_sixteens_45 ?_
          refine g_callV (As := [.int (((σ 2 2) + x2_18) + (1 : Int32))]) (rest := []) hF (fun l D cy => kt_X10_byteAt a r w11 l D cy) (Nat.le_of_ble_eq_true rfl) mV_X10_byteAt m_806 (recv_ob obC_2) rfl rfl (Nat.le_of_ble_eq_true rfl) d_X10_sixteens_46 (qIr (fun v46 w12 => ?_)) (fun _ _ _ h => h.elim)
          refine g_callS (As := [.int v46]) (rest := []) hF (fun l D cy => kt_X10_sixteenth a r w12 l D cy) (Nat.le_of_ble_eq_true rfl) mS_X10_sixteenth m_854 rfl rfl (Nat.le_of_ble_eq_true rfl) d_X10_sixteens_49 (qIr (fun v49 w13 => ?_)) (fun _ _ _ h => h.elim)
          refine g_istore_n hF [(3, .int v49), (1, .int ((x1_18 * (16 : Int32)) + x3_18)), (0, .ref (r 2)), (2, .int x2_18)] d_X10_sixteens_52 rfl hnn (by decide) rfl ?_
          refine g_iinc hF (x2_18 + 1) [(2, .int (x2_18 + 1)), (3, .int v49), (1, .int ((x1_18 * (16 : Int32)) + x3_18)), (0, .ref (r 2))] d_X10_sixteens_53 3 rfl rfl hnn (by decide) rfl ?_
          refine g_goto hF 18 d_X10_sixteens_56 (by decide) ?_
          obtain ⟨m18, hm18, w9⟩ := w13
          exact g_sub (L' := [(0, .ref (r 2)), (1, .int ((x1_18 * (16 : Int32)) + x3_18)), (2, .int (x2_18 + 1)), (3, .int v49)]) [3, 2, 0, 1] rfl (ih18 m18 hm18 ((x1_18 * (16 : Int32)) + x3_18) (x2_18 + 1) v49 w9)
  exact g_sub (L' := [(0, .ref (r 2)), (1, .int 0), (2, .int 2), (3, .int v14)]) [3, 2, 1, 0] rfl (b18 i18 (0 : Int32) (2 : Int32) v14 u18)
set_option maxHeartbeats 4000000 in
set_option maxRecDepth 100000 in
theorem kt_X10_isNext_s0 (a : Nat → Nat) (r : Nat → Nat) {a2 : Int32} {a3 : Int32} {σ : St} {Q : Int32 → Prop} (w : wk_X10_isNext_s0 a2 a3 σ Q) (l : Launch) (D : va_G) (cy : Nat → ClassId) : Ct l D cy SC r (EC a gC) y_X10_isNext (Cond.code y_X10_isNext b_X10_isNext 5 (some .boolean)) 4 [.ref (r 2), .ref (a 2), .int a2, .int a3] σ Z0 [] (QI (fun x σ9 => (x = 0 ∨ x = 1) ∧ σ9 = σ ∧ Q x)) QT0 := by
  unfold wk_X10_isNext_s0 at w
  refine Ct_of (EC_ok a gC) (by decide) (Nat.le_of_ble_eq_true rfl) (by decide) (fun X hnn hF => ?_)
  show G SC r X σ Z0 [] [(0, .ref (r 2)), (1, .ref (a 2)), (2, .int a2), (3, .int a3)] [] 0
  refine g_iconst hF (v := 0) d_X10_isNext_0 (by decide) ?_
  refine g_istore hF [(4, .int 0), (0, .ref (r 2)), (1, .ref (a 2)), (2, .int a2), (3, .int a3)] d_X10_isNext_1 hnn (by decide) rfl ?_
  obtain ⟨L3, ⟨i3, u3⟩, h3⟩ := w
  have b3 : ∀ (n3 : Nat) (x4_3 : Int32), L3 n3 x4_3 → G SC r X σ Z0 [] [(0, .ref (r 2)), (1, .ref (a 2)), (2, .int a2), (3, .int a3), (4, .int x4_3)] [] 3 := by
    intro n3
    induction n3 using Nat.strongRecOn with
    | _ n3 ih3 =>
      intro x4_3  w3_
      have w3_ := h3 n3 x4_3  w3_
      refine g_iload hF d_X10_isNext_3 4 rfl ?_
      refine g_iload_n hF d_X10_isNext_5 rfl 3 rfl ?_
      refine g_icmp_ge hF 50 d_X10_isNext_6 (by decide) rfl rfl (fun c => ?_) (fun c => ?_)
      · have w1 := w3_.1 c
        refine g_iconst hF (v := 1) d_X10_isNext_50 (by decide) ?_
        exact g_zret hF rfl (k_nz (Or.inr rfl)) d_X10_isNext_51 ⟨rfl, rfl, (1 : Int32), rfl, (Or.inr rfl), ⟨rfl, w1⟩⟩
      · have w2 := w3_.2 c
        refine g_iload_n hF d_X10_isNext_9 rfl 2 rfl ?_
        refine g_iload hF d_X10_isNext_10 4 rfl ?_
        refine g_iadd hF d_X10_isNext_12 ?_
        refine g_aload_n hF d_X10_isNext_13 rfl 1 rfl ?_
        refine g_callV (As := []) (rest := [.int (a2 + x4_3)]) hF (t_len (EC_ok a gC) (fun A s h => EC_s0 h) (by decide)) (Nat.le_of_ble_eq_true rfl) mV_String_length m_848 (recv_str (fun A s h => EC_s0 h)) rfl rfl (Nat.le_of_ble_eq_true rfl) d_X10_isNext_14 (k_sv ?_) (fun _ _ _ h => h.elim)
        refine g_icmp_ge hF 42 d_X10_isNext_17 (by decide) rfl rfl (fun c => ?_) (fun c => ?_)
        · have w3 := w2.1 c
          refine g_iconst hF (v := 0) d_X10_isNext_42 (by decide) ?_
          exact g_zret hF rfl (k_nz (Or.inl rfl)) d_X10_isNext_43 ⟨rfl, rfl, (0 : Int32), rfl, (Or.inl rfl), ⟨rfl, w3⟩⟩
        · have w4 := w2.2 c
          refine g_aload_n hF d_X10_isNext_20 rfl 1 rfl ?_
          refine g_iload_n hF d_X10_isNext_21 rfl 2 rfl ?_
          refine g_iload hF d_X10_isNext_22 4 rfl ?_
          refine g_iadd hF d_X10_isNext_24 ?_
          have w5 := w4.2
          refine g_callV (As := [.int (a2 + x4_3)]) (rest := []) hF (t_ch2 (EC_ok a gC) (fun A s h => EC_s0 h) (by decide) (by decide) (a2 + x4_3) w4.1.1 w4.1.2) (Nat.le_of_ble_eq_true rfl) mV_String_charAt m_849 (recv_str (fun A s h => EC_s0 h)) rfl rfl (Nat.le_of_ble_eq_true rfl) d_X10_isNext_25 (k_sv ?_) (fun _ _ _ h => h.elim)
          refine g_aload_n hF d_X10_isNext_28 rfl 0 rfl ?_
          refine g_aload_n hF d_X10_isNext_29 rfl 0 rfl ?_
          refine g_get (v := .int (σ 2 2)) hF 2 obC_2 (by decide) m_44 rfl d_X10_isNext_30 ?_
          refine g_iload hF d_X10_isNext_33 4 rfl ?_
          refine g_iadd hF d_X10_isNext_35 ?_
          refine g_callV (As := [.int ((σ 2 2) + x4_3)]) (rest := [.int (chI (gC 2 (a2 + x4_3).toNatClampNeg))]) hF (fun l D cy => kt_X10_byteAt a r w5 l D cy) (Nat.le_of_ble_eq_true rfl) mV_X10_byteAt m_806 (recv_ob obC_2) rfl rfl (Nat.le_of_ble_eq_true rfl) d_X10_isNext_36 (qIr (fun v36 w6 => ?_)) (fun _ _ _ h => h.elim)
          refine g_icmp_eq hF 44 d_X10_isNext_39 (by decide) rfl rfl (fun c => ?_) (fun c => ?_)
          · have w7 := w6.1 c
            refine g_iinc hF (x4_3 + 1) [(4, .int (x4_3 + 1)), (0, .ref (r 2)), (1, .ref (a 2)), (2, .int a2), (3, .int a3)] d_X10_isNext_44 4 rfl rfl hnn (by decide) rfl ?_
            refine g_goto hF 3 d_X10_isNext_47 (by decide) ?_
            obtain ⟨m3, hm3, w9⟩ := w7
            exact g_sub (L' := [(0, .ref (r 2)), (1, .ref (a 2)), (2, .int a2), (3, .int a3), (4, .int (x4_3 + 1))]) [1, 2, 3, 4, 0] rfl (ih3 m3 hm3 (x4_3 + 1) w9)
          · have w8 := w6.2 c
            refine g_iconst hF (v := 0) d_X10_isNext_42 (by decide) ?_
            exact g_zret hF rfl (k_nz (Or.inl rfl)) d_X10_isNext_43 ⟨rfl, rfl, (0 : Int32), rfl, (Or.inl rfl), ⟨rfl, w8⟩⟩
  exact g_sub (L' := [(0, .ref (r 2)), (1, .ref (a 2)), (2, .int a2), (3, .int a3), (4, .int 0)]) [1, 2, 3, 4, 0] rfl (b3 i3 (0 : Int32) u3)
set_option maxHeartbeats 4000000 in
set_option maxRecDepth 100000 in
theorem kt_X10_listed_s0 (a : Nat → Nat) (r : Nat → Nat) {a2 : Int32} {σ : St} {Q : Int32 → Prop} (w : wk_X10_listed_s0 a2 σ Q) (l : Launch) (D : va_G) (cy : Nat → ClassId) : Ct l D cy SC r (EC a gC) y_X10_listed (Cond.code y_X10_listed b_X10_listed 6 (some .int)) 5 [.ref (r 2), .ref (a 2), .int a2] σ Z0 [] (QI (fun x σ9 => σ9 = σ ∧ Q x)) QT0 := by
  unfold wk_X10_listed_s0 at w
  refine Ct_of (EC_ok a gC) (by decide) (Nat.le_of_ble_eq_true rfl) (by decide) (fun X hnn hF => ?_)
  show G SC r X σ Z0 [] [(0, .ref (r 2)), (1, .ref (a 2)), (2, .int a2)] [] 0
  refine g_iconst hF (v := 0) d_X10_listed_0 (by decide) ?_
  refine g_istore_n hF [(3, .int 0), (0, .ref (r 2)), (1, .ref (a 2)), (2, .int a2)] d_X10_listed_1 rfl hnn (by decide) rfl ?_
  refine g_iconst hF (v := 0) d_X10_listed_2 (by decide) ?_
  refine g_istore hF [(4, .int 0), (3, .int 0), (0, .ref (r 2)), (1, .ref (a 2)), (2, .int a2)] d_X10_listed_3 hnn (by decide) rfl ?_
  refine g_iconst hF (v := 0) d_X10_listed_5 (by decide) ?_
  refine g_istore hF [(5, .int 0), (4, .int 0), (3, .int 0), (0, .ref (r 2)), (1, .ref (a 2)), (2, .int a2)] d_X10_listed_6 hnn (by decide) rfl ?_
  obtain ⟨L8, ⟨i8, u8⟩, h8⟩ := w
  have b8 : ∀ (n8 : Nat) (x3_8 : Int32) (x4_8 : Int32) (x5_8 : Int32), L8 n8 x3_8 x4_8 x5_8 → G SC r X σ Z0 [] [(0, .ref (r 2)), (1, .ref (a 2)), (2, .int a2), (3, .int x3_8), (4, .int x4_8), (5, .int x5_8)] [] 8 := by
    intro n8
    induction n8 using Nat.strongRecOn with
    | _ n8 ih8 =>
      intro x3_8 x4_8 x5_8  w8_
      have w8_ := h8 n8 x3_8 x4_8 x5_8  w8_
      refine g_iload hF d_X10_listed_8 5 rfl ?_
      refine g_aload_n hF d_X10_listed_10 rfl 1 rfl ?_
      refine g_callV (As := []) (rest := [.int x5_8]) hF (t_len (EC_ok a gC) (fun A s h => EC_s0 h) (by decide)) (Nat.le_of_ble_eq_true rfl) mV_String_length m_848 (recv_str (fun A s h => EC_s0 h)) rfl rfl (Nat.le_of_ble_eq_true rfl) d_X10_listed_11 (k_sv ?_) (fun _ _ _ h => h.elim)
      refine g_icmp_ge hF 65 d_X10_listed_14 (by decide) rfl rfl (fun c => ?_) (fun c => ?_)
      · have w1 := w8_.1 c
        refine g_iconst hF (v := (-1)) d_X10_listed_65 (by decide) ?_
        exact g_iret hF rfl d_X10_listed_66 ⟨rfl, rfl, ((-1) : Int32), rfl, ⟨rfl, w1⟩⟩
      · have w2 := w8_.2 c
        refine g_aload_n hF d_X10_listed_17 rfl 1 rfl ?_
        refine g_iload hF d_X10_listed_18 5 rfl ?_
        have w3 := w2.2
        refine g_callV (As := [.int x5_8]) (rest := []) hF (t_ch2 (EC_ok a gC) (fun A s h => EC_s0 h) (by decide) (by decide) x5_8 w2.1.1 w2.1.2) (Nat.le_of_ble_eq_true rfl) mV_String_charAt m_849 (recv_str (fun A s h => EC_s0 h)) rfl rfl (Nat.le_of_ble_eq_true rfl) d_X10_listed_20 (k_sv ?_) (fun _ _ _ h => h.elim)
        refine g_bipush hF (v := 32) d_X10_listed_23 (by decide) ?_
        obtain ⟨J59, h59, w4⟩ := w3
        have b59 : ∀ (x3_59 : Int32) (x4_59 : Int32), J59 x3_59 x4_59 → G SC r X σ Z0 [] [(0, .ref (r 2)), (1, .ref (a 2)), (2, .int a2), (3, .int x3_59), (4, .int x4_59), (5, .int x5_8)] [] 59 := by
          intro x3_59 x4_59  w59_
          have w59_ := h59 x3_59 x4_59  w59_
          refine g_iinc hF (x5_8 + 1) [(5, .int (x5_8 + 1)), (0, .ref (r 2)), (1, .ref (a 2)), (2, .int a2), (3, .int x3_59), (4, .int x4_59)] d_X10_listed_59 5 rfl rfl hnn (by decide) rfl ?_
          refine g_goto hF 8 d_X10_listed_62 (by decide) ?_
          obtain ⟨m8, hm8, w9⟩ := w59_
          exact g_sub (L' := [(0, .ref (r 2)), (1, .ref (a 2)), (2, .int a2), (3, .int x3_59), (4, .int x4_59), (5, .int (x5_8 + 1))]) [1, 2, 3, 4, 5, 0] rfl (ih8 m8 hm8 x3_59 x4_59 (x5_8 + 1) w9)
        refine g_icmp_ne (yv := 32) hF 59 d_X10_listed_25 (by decide) rfl (by decide) (fun c => ?_) (fun c => ?_)
        · have w5 := w4.1 c
          exact b59 x3_8 x4_8 w5
        · have w6 := w4.2 c
          refine g_iload hF d_X10_listed_28 5 rfl ?_
          refine g_iload hF d_X10_listed_30 4 rfl ?_
          refine g_isub hF d_X10_listed_32 ?_
          refine g_iload_n hF d_X10_listed_33 rfl 2 rfl ?_
          obtain ⟨J50, h50, w7⟩ := w6
          have b50 : J50  → G SC r X σ Z0 [] [(0, .ref (r 2)), (1, .ref (a 2)), (2, .int a2), (3, .int x3_8), (5, .int x5_8)] [] 50 := by
            intro   w50_
            have w50_ := h50   w50_
            refine g_iload hF d_X10_listed_50 4 rfl ?_
            refine g_iconst hF (v := 1) d_X10_listed_52 (by decide) ?_
            refine g_iadd hF d_X10_listed_53 ?_
            refine g_istore hF [(4, .int (x5_8 + (1 : Int32))), (0, .ref (r 2)), (1, .ref (a 2)), (2, .int a2), (3, .int x3_8), (5, .int x5_8)] d_X10_listed_54 hnn (by decide) rfl ?_
            refine g_iinc hF (x3_8 + 1) [(3, .int (x3_8 + 1)), (4, .int (x5_8 + (1 : Int32))), (0, .ref (r 2)), (1, .ref (a 2)), (2, .int a2), (5, .int x5_8)] d_X10_listed_56 4 rfl rfl hnn (by decide) rfl ?_
            exact g_sub (L' := [(0, .ref (r 2)), (1, .ref (a 2)), (2, .int a2), (3, .int (x3_8 + 1)), (4, .int (x5_8 + (1 : Int32))), (5, .int x5_8)]) [2, 3, 4, 0, 1, 5] rfl (b59 (x3_8 + 1) (x5_8 + (1 : Int32)) w50_)
          refine g_icmp_ne hF 50 d_X10_listed_34 (by decide) rfl rfl (fun c => ?_) (fun c => ?_)
          · have w8 := w7.1 c
            exact g_sub (L' := [(0, .ref (r 2)), (1, .ref (a 2)), (2, .int a2), (3, .int x3_8), (5, .int x5_8)]) [0, 1, 2, 3, 5] rfl (b50  w8)
          · have w9 := w7.2 c
            refine g_aload_n hF d_X10_listed_37 rfl 0 rfl ?_
            refine g_aload_n hF d_X10_listed_38 rfl 1 rfl ?_
            refine g_iload hF d_X10_listed_39 4 rfl ?_
            refine g_iload_n hF d_X10_listed_41 rfl 2 rfl ?_
            refine g_callV (As := [.ref (a 2), .int x4_8, .int a2]) (rest := []) hF (fun l D cy => kt_X10_isNext_s0 a r w9 l D cy) (Nat.le_of_ble_eq_true rfl) mV_X10_isNext m_850 (recv_ob obC_2) rfl rfl (Nat.le_of_ble_eq_true rfl) d_X10_listed_42 (qZr (fun v42 hz42 w10 => ?_)) (fun _ _ _ h => h.elim)
            refine g_if_eq hF 50 d_X10_listed_45 (by decide) rfl (fun c => ?_) (fun c => ?_)
            · have w11 := w10.1 c
              exact g_sub (L' := [(0, .ref (r 2)), (1, .ref (a 2)), (2, .int a2), (3, .int x3_8), (5, .int x5_8)]) [0, 1, 2, 3, 5] rfl (b50  w11)
            · have w12 := w10.2 c
              refine g_iload_n hF d_X10_listed_48 rfl 3 rfl ?_
              exact g_iret hF rfl d_X10_listed_49 ⟨rfl, rfl, x3_8, rfl, ⟨rfl, w12⟩⟩
  exact g_sub (L' := [(0, .ref (r 2)), (1, .ref (a 2)), (2, .int a2), (3, .int 0), (4, .int 0), (5, .int 0)]) [3, 4, 5, 2, 1, 0] rfl (b8 i8 (0 : Int32) (0 : Int32) (0 : Int32) u8)
