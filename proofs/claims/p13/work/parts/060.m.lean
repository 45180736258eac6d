set_option maxHeartbeats 4000000 in
set_option maxRecDepth 100000 in
theorem kt_X10_word (a : Nat → Nat) (r : Nat → Nat) {σ : St} {Q : Int32 → St → Prop} (w : wk_X10_word  σ Q) (l : Launch) (D : va_G) (cy : Nat → ClassId) : Ct l D cy SC r (EC a gC) y_X10_word (Cond.code y_X10_word b_X10_word 3 (some .boolean)) 6 [.ref (r 2)] σ Z0 [] (QI (fun x σ9 => (x = 0 ∨ x = 1) ∧ Q x σ9)) QT0 := by
  unfold wk_X10_word at w
  refine Ct_of (EC_ok a gC) (by decide) (Nat.le_of_ble_eq_true rfl) (by decide) (fun X hnn hF => ?_)
  show G SC r X σ Z0 [] [(0, .ref (r 2))] [] 0
  refine g_iconst hF (v := 1) d_X10_word_0 (by decide) ?_
  refine g_istore_n hF [(1, .int 1), (0, .ref (r 2))] d_X10_word_1 rfl hnn (by decide) rfl ?_
  refine g_aload_n hF d_X10_word_2 rfl 1 rfl ?_
  refine g_aload_n hF d_X10_word_3 rfl 1 rfl ?_
  refine g_get (v := .int (σ 2 2)) hF 2 obC_2 (by decide) m_44 rfl d_X10_word_4 ?_
  refine g_iconst hF (v := 1) d_X10_word_7 (by decide) ?_
  refine g_iadd hF d_X10_word_8 ?_
  refine g_callV (As := [.int ((σ 2 2) + (1 : Int32))]) (rest := []) hF (fun l D cy => kt_X10_byteAt a r w l D cy) (Nat.le_of_ble_eq_true rfl) mV_X10_byteAt m_806 (recv_ob obC_2) rfl rfl (Nat.le_of_ble_eq_true rfl) d_X10_word_9 (qIr (fun v9 w1 => ?_)) (fun _ _ _ h => h.elim)
  refine g_istore_n hF [(2, .int v9), (1, .int 1), (0, .ref (r 2))] d_X10_word_12 rfl hnn (by decide) rfl ?_
  obtain ⟨L13, ⟨i13, u13⟩, h13⟩ := w1
  have b13 : ∀ (n13 : Nat) (x1_13 : Int32) (x2_13 : Int32), L13 n13 x1_13 x2_13 → G SC r X σ Z0 [] [(0, .ref (r 2)), (1, .int x1_13), (2, .int x2_13)] [] 13 := by
    intro n13
    induction n13 using Nat.strongRecOn with
    | _ n13 ih13 =>
      intro x1_13 x2_13  w13_
      have w13_ := h13 n13 x1_13 x2_13  w13_
      refine g_iload_n hF d_X10_word_13 rfl 1 rfl ?_
      refine g_aload_n hF d_X10_word_14 rfl 0 rfl ?_
      refine g_get (v := .int (σ 2 1)) hF 1 obC_2 (by decide) m_43 rfl d_X10_word_15 ?_
      obtain ⟨J54, h54, w2⟩ := w13_
      have b54 : J54  → G SC r X σ Z0 [] [(0, .ref (r 2)), (1, .int x1_13)] [] 54 := by
        intro   w54_
        have w54_ := h54   w54_
        refine g_iload_n hF d_X10_word_54 rfl 1 rfl ?_
        refine g_bipush hF (v := 24) d_X10_word_55 (by decide) ?_
        refine g_icmp_le (yv := 24) hF 69 d_X10_word_57 (by decide) rfl (by decide) (fun c => ?_) (fun c => ?_)
        · have w3 := w54_.1 c
          refine g_aload_n hF d_X10_word_69 rfl 0 rfl ?_
          refine g_ldcS hF (fun A s h => (EC_s0 h).1) d_X10_word_70 ?_
          refine g_iload_n hF d_X10_word_72 rfl 1 rfl ?_
          refine g_callV (As := [.ref (a 2), .int x1_13]) (rest := []) hF (fun l D cy => kt_X10_listed_s0 a r w3 l D cy) (Nat.le_of_ble_eq_true rfl) mV_X10_listed m_844 (recv_ob obC_2) rfl rfl (Nat.le_of_ble_eq_true rfl) d_X10_word_73 (qIr (fun v73 w4 => ?_)) (fun _ _ _ h => h.elim)
          refine g_istore_n hF [(2, .int v73), (0, .ref (r 2)), (1, .int x1_13)] d_X10_word_76 rfl hnn (by decide) rfl ?_
          refine g_aload_n hF d_X10_word_77 rfl 1 rfl ?_
          refine g_iload_n hF d_X10_word_78 rfl 0 rfl ?_
          obtain ⟨J89, h89, w5⟩ := w4
          have b89 : ∀ (y1_89 : Int32), J89 y1_89 → G SC r X σ Z0 [] [(1, .int x1_13)] [.int y1_89, .ref (r 2)] 89 := by
            intro y1_89  w89_
            have w89_ := h89 y1_89  w89_
            refine g_iload_n hF d_X10_word_89 rfl 0 rfl ?_
            refine g_iload_n hF d_X10_word_90 rfl 0 rfl ?_
            refine g_callV (As := [.int y1_89, .int x1_13, .int x1_13]) (rest := []) hF (fun l D cy => kt_X10_add a r w89_ l D cy) (Nat.le_of_ble_eq_true rfl) mV_X10_add m_821 (recv_ob obC_2) rfl rfl (Nat.le_of_ble_eq_true rfl) d_X10_word_91 (qZ (fun v91 s91 hz91 w6 => ?_)) (fun _ _ _ h => h.elim)
            exact g_zret hF rfl (k_nz hz91) d_X10_word_94 ⟨rfl, rfl, v91, rfl, hz91, w6⟩
          refine g_if_ge hF 86 d_X10_word_79 (by decide) rfl (fun c => ?_) (fun c => ?_)
          · have w7 := w5.1 c
            refine g_iconst hF (v := 5) d_X10_word_86 (by decide) ?_
            refine g_iload_n hF d_X10_word_87 rfl 0 rfl ?_
            refine g_iadd hF d_X10_word_88 ?_
            exact g_sub (L' := [(1, .int x1_13)]) [2] rfl (b89 ((5 : Int32) + v73) w7)
          · have w8 := w5.2 c
            refine g_iconst hF (v := 2) d_X10_word_82 (by decide) ?_
            refine g_goto hF 89 d_X10_word_83 (by decide) ?_
            exact g_sub (L' := [(1, .int x1_13)]) [2] rfl (b89 (2 : Int32) w8)
        · have w9 := w54_.2 c
          refine g_aload_n hF d_X10_word_60 rfl 0 rfl ?_
          refine g_aload_n hF d_X10_word_61 rfl 0 rfl ?_
          refine g_get (v := .int (σ 2 2)) hF 2 obC_2 (by decide) m_44 rfl d_X10_word_62 ?_
          refine g_callV (As := [.int (σ 2 2)]) (rest := []) hF (fun l D cy => kt_X10_bad a r w9 l D cy) (Nat.le_of_ble_eq_true rfl) mV_X10_bad m_817 (recv_ob obC_2) rfl rfl (Nat.le_of_ble_eq_true rfl) d_X10_word_65 (qZ (fun v65 s65 hz65 w10 => ?_)) (fun _ _ _ h => h.elim)
          exact g_zret hF rfl (k_nz hz65) d_X10_word_68 ⟨rfl, rfl, v65, rfl, hz65, w10⟩
      refine g_icmp_gt hF 54 d_X10_word_18 (by decide) rfl rfl (fun c => ?_) (fun c => ?_)
      · have w11 := w2.1 c
        exact g_sub (L' := [(0, .ref (r 2)), (1, .int x1_13)]) [0, 1] rfl (b54  w11)
      · have w12 := w2.2 c
        refine g_iload_n hF d_X10_word_21 rfl 2 rfl ?_
        refine g_callS (As := [.int x2_13]) (rest := []) hF (fun l D cy => kt_X10_isLetter a r w12 l D cy) (Nat.le_of_ble_eq_true rfl) mS_X10_isLetter m_833 rfl rfl (Nat.le_of_ble_eq_true rfl) d_X10_word_22 (qZr (fun v22 hz22 w13 => ?_)) (fun _ _ _ h => h.elim)
        obtain ⟨J35, h35, w14⟩ := w13
        have b35 : J35  → G SC r X σ Z0 [] [(0, .ref (r 2)), (1, .int x1_13)] [] 35 := by
          intro   w35_
          have w35_ := h35   w35_
          refine g_aload_n hF d_X10_word_35 rfl 0 rfl ?_
          refine g_aload_n hF d_X10_word_36 rfl 0 rfl ?_
          refine g_get (v := .int (σ 2 2)) hF 2 obC_2 (by decide) m_44 rfl d_X10_word_37 ?_
          refine g_iload_n hF d_X10_word_40 rfl 1 rfl ?_
          refine g_iadd hF d_X10_word_41 ?_
          refine g_iconst hF (v := 1) d_X10_word_42 (by decide) ?_
          refine g_iadd hF d_X10_word_43 ?_
          refine g_callV (As := [.int (((σ 2 2) + x1_13) + (1 : Int32))]) (rest := []) hF (fun l D cy => kt_X10_byteAt a r w35_ l D cy) (Nat.le_of_ble_eq_true rfl) mV_X10_byteAt m_806 (recv_ob obC_2) rfl rfl (Nat.le_of_ble_eq_true rfl) d_X10_word_44 (qIr (fun v44 w15 => ?_)) (fun _ _ _ h => h.elim)
          refine g_istore_n hF [(2, .int v44), (0, .ref (r 2)), (1, .int x1_13)] d_X10_word_47 rfl hnn (by decide) rfl ?_
          refine g_iinc hF (x1_13 + 1) [(1, .int (x1_13 + 1)), (2, .int v44), (0, .ref (r 2))] d_X10_word_48 2 rfl rfl hnn (by decide) rfl ?_
          refine g_goto hF 13 d_X10_word_51 (by decide) ?_
          obtain ⟨m13, hm13, w9⟩ := w15
          exact g_sub (L' := [(0, .ref (r 2)), (1, .int (x1_13 + 1)), (2, .int v44)]) [2, 0, 1] rfl (ih13 m13 hm13 (x1_13 + 1) v44 w9)
        refine g_if_ne hF 35 d_X10_word_25 (by decide) rfl (fun c => ?_) (fun c => ?_)
        · have w16 := w14.1 c
          exact g_sub (L' := [(0, .ref (r 2)), (1, .int x1_13)]) [0, 1] rfl (b35  w16)
        · have w17 := w14.2 c
          refine g_iload_n hF d_X10_word_28 rfl 2 rfl ?_
          refine g_callS (As := [.int x2_13]) (rest := []) hF (fun l D cy => kt_X10_isDigit a r w17 l D cy) (Nat.le_of_ble_eq_true rfl) mS_X10_isDigit m_840 rfl rfl (Nat.le_of_ble_eq_true rfl) d_X10_word_29 (qZr (fun v29 hz29 w18 => ?_)) (fun _ _ _ h => h.elim)
          refine g_if_eq hF 54 d_X10_word_32 (by decide) rfl (fun c => ?_) (fun c => ?_)
          · have w19 := w18.1 c
            exact g_sub (L' := [(0, .ref (r 2)), (1, .int x1_13)]) [0, 1] rfl (b54  w19)
          · have w20 := w18.2 c
            exact g_sub (L' := [(0, .ref (r 2)), (1, .int x1_13)]) [0, 1] rfl (b35  w20)
  exact g_sub (L' := [(0, .ref (r 2)), (1, .int 1), (2, .int v9)]) [2, 1, 0] rfl (b13 i13 (1 : Int32) v9 u13)
set_option maxHeartbeats 4000000 in
set_option maxRecDepth 100000 in
theorem kt_X10_token (a : Nat → Nat) (r : Nat → Nat) {σ : St} {Q : Int32 → St → Prop} (w : wk_X10_token  σ Q) (l : Launch) (D : va_G) (cy : Nat → ClassId) : Ct l D cy SC r (EC a gC) y_X10_token (Cond.code y_X10_token b_X10_token 2 (some .boolean)) 7 [.ref (r 2)] σ Z0 [] (QI (fun x σ9 => (x = 0 ∨ x = 1) ∧ Q x σ9)) QT0 := by
  unfold wk_X10_token at w
  refine Ct_of (EC_ok a gC) (by decide) (Nat.le_of_ble_eq_true rfl) (by decide) (fun X hnn hF => ?_)
  show G SC r X σ Z0 [] [(0, .ref (r 2))] [] 0
  refine g_aload_n hF d_X10_token_0 rfl 0 rfl ?_
  refine g_aload_n hF d_X10_token_1 rfl 0 rfl ?_
  refine g_get (v := .int (σ 2 2)) hF 2 obC_2 (by decide) m_44 rfl d_X10_token_2 ?_
  refine g_callV (As := [.int (σ 2 2)]) (rest := []) hF (fun l D cy => kt_X10_byteAt a r w l D cy) (Nat.le_of_ble_eq_true rfl) mV_X10_byteAt m_806 (recv_ob obC_2) rfl rfl (Nat.le_of_ble_eq_true rfl) d_X10_token_5 (qIr (fun v5 w1 => ?_)) (fun _ _ _ h => h.elim)
  refine g_istore_n hF [(1, .int v5), (0, .ref (r 2))] d_X10_token_8 rfl hnn (by decide) rfl ?_
  refine g_iload_n hF d_X10_token_9 rfl 0 rfl ?_
  refine g_if_ge hF 23 d_X10_token_10 (by decide) rfl (fun c => ?_) (fun c => ?_)
  · have w2 := w1.1 c
    refine g_iload_n hF d_X10_token_23 rfl 0 rfl ?_
    refine g_callS (As := [.int v5]) (rest := []) hF (fun l D cy => kt_X10_isLetter a r w2 l D cy) (Nat.le_of_ble_eq_true rfl) mS_X10_isLetter m_833 rfl rfl (Nat.le_of_ble_eq_true rfl) d_X10_token_24 (qZr (fun v24 hz24 w3 => ?_)) (fun _ _ _ h => h.elim)
    refine g_if_eq hF 35 d_X10_token_27 (by decide) rfl (fun c => ?_) (fun c => ?_)
    · have w4 := w3.1 c
      refine g_iload_n hF d_X10_token_35 rfl 0 rfl ?_
      refine g_callS (As := [.int v5]) (rest := []) hF (fun l D cy => kt_X10_isDigit a r w4 l D cy) (Nat.le_of_ble_eq_true rfl) mS_X10_isDigit m_840 rfl rfl (Nat.le_of_ble_eq_true rfl) d_X10_token_36 (qZr (fun v36 hz36 w5 => ?_)) (fun _ _ _ h => h.elim)
      refine g_if_eq hF 91 d_X10_token_39 (by decide) rfl (fun c => ?_) (fun c => ?_)
      · have w6 := w5.1 c
        refine g_iload_n hF d_X10_token_91 rfl 0 rfl ?_
        refine g_bipush hF (v := 39) d_X10_token_92 (by decide) ?_
        refine g_icmp_ne (yv := 39) hF 102 d_X10_token_94 (by decide) rfl (by decide) (fun c => ?_) (fun c => ?_)
        · have w7 := w6.1 c
          refine g_iload_n hF d_X10_token_102 rfl 0 rfl ?_
          refine g_bipush hF (v := 34) d_X10_token_103 (by decide) ?_
          refine g_icmp_ne (yv := 34) hF 115 d_X10_token_105 (by decide) rfl (by decide) (fun c => ?_) (fun c => ?_)
          · have w8 := w7.1 c
            refine g_aload_n hF d_X10_token_115 rfl 1 rfl ?_
            refine g_callV (As := []) (rest := []) hF (fun l D cy => kt_X10_sign a r w8 l D cy) (Nat.le_of_ble_eq_true rfl) mV_X10_sign m_887 (recv_ob obC_2) rfl rfl (Nat.le_of_ble_eq_true rfl) d_X10_token_116 (qZ (fun v116 s116 hz116 w9 => ?_)) (fun _ _ _ h => h.elim)
            exact g_zret hF rfl (k_nz hz116) d_X10_token_119 ⟨rfl, rfl, v116, rfl, hz116, w9⟩
          · have w10 := w7.2 c
            refine g_aload_n hF d_X10_token_108 rfl 1 rfl ?_
            refine g_callV (As := []) (rest := []) hF (fun l D cy => kt_X10_string a r w10 l D cy) (Nat.le_of_ble_eq_true rfl) mV_X10_string m_883 (recv_ob obC_2) rfl rfl (Nat.le_of_ble_eq_true rfl) d_X10_token_109 (qZ (fun v109 s109 hz109 w11 => ?_)) (fun _ _ _ h => h.elim)
            refine g_goto hF 119 d_X10_token_112 (by decide) ?_
            exact g_zret hF rfl (k_nz hz109) d_X10_token_119 ⟨rfl, rfl, v109, rfl, hz109, w11⟩
        · have w12 := w6.2 c
          refine g_aload_n hF d_X10_token_97 rfl 1 rfl ?_
          refine g_callV (As := []) (rest := []) hF (fun l D cy => kt_X10_character a r w12 l D cy) (Nat.le_of_ble_eq_true rfl) mV_X10_character m_871 (recv_ob obC_2) rfl rfl (Nat.le_of_ble_eq_true rfl) d_X10_token_98 (qZ (fun v98 s98 hz98 w13 => ?_)) (fun _ _ _ h => h.elim)
          exact g_zret hF rfl (k_nz hz98) d_X10_token_101 ⟨rfl, rfl, v98, rfl, hz98, w13⟩
      · have w14 := w5.2 c
        refine g_iload_n hF d_X10_token_42 rfl 0 rfl ?_
        refine g_bipush hF (v := 48) d_X10_token_43 (by decide) ?_
        obtain ⟨J86, h86, w15⟩ := w14
        have b86 : J86  → G SC r X σ Z0 [] [(0, .ref (r 2))] [] 86 := by
          intro   w86_
          have w86_ := h86   w86_
          refine g_aload_n hF d_X10_token_86 rfl 0 rfl ?_
          refine g_callV (As := []) (rest := []) hF (fun l D cy => kt_X10_digits a r w86_ l D cy) (Nat.le_of_ble_eq_true rfl) mV_X10_digits m_861 (recv_ob obC_2) rfl rfl (Nat.le_of_ble_eq_true rfl) d_X10_token_87 (qZ (fun v87 s87 hz87 w16 => ?_)) (fun _ _ _ h => h.elim)
          exact g_zret hF rfl (k_nz hz87) d_X10_token_90 ⟨rfl, rfl, v87, rfl, hz87, w16⟩
        refine g_icmp_ne (yv := 48) hF 86 d_X10_token_45 (by decide) rfl (by decide) (fun c => ?_) (fun c => ?_)
        · have w17 := w15.1 c
          exact g_sub (L' := [(0, .ref (r 2))]) [1] rfl (b86  w17)
        · have w18 := w15.2 c
          refine g_aload_n hF d_X10_token_48 rfl 1 rfl ?_
          refine g_aload_n hF d_X10_token_49 rfl 1 rfl ?_
          refine g_get (v := .int (σ 2 2)) hF 2 obC_2 (by decide) m_44 rfl d_X10_token_50 ?_
          refine g_iconst hF (v := 1) d_X10_token_53 (by decide) ?_
          refine g_iadd hF d_X10_token_54 ?_
          refine g_callV (As := [.int ((σ 2 2) + (1 : Int32))]) (rest := []) hF (fun l D cy => kt_X10_byteAt a r w18 l D cy) (Nat.le_of_ble_eq_true rfl) mV_X10_byteAt m_806 (recv_ob obC_2) rfl rfl (Nat.le_of_ble_eq_true rfl) d_X10_token_55 (qIr (fun v55 w19 => ?_)) (fun _ _ _ h => h.elim)
          refine g_bipush hF (v := 120) d_X10_token_58 (by decide) ?_
          refine g_icmp_ne (yv := 120) hF 86 d_X10_token_60 (by decide) rfl (by decide) (fun c => ?_) (fun c => ?_)
          · have w20 := w19.1 c
            exact g_sub (L' := [(0, .ref (r 2))]) [1] rfl (b86  w20)
          · have w21 := w19.2 c
            refine g_aload_n hF d_X10_token_63 rfl 1 rfl ?_
            refine g_aload_n hF d_X10_token_64 rfl 1 rfl ?_
            refine g_get (v := .int (σ 2 2)) hF 2 obC_2 (by decide) m_44 rfl d_X10_token_65 ?_
            refine g_iconst hF (v := 2) d_X10_token_68 (by decide) ?_
            refine g_iadd hF d_X10_token_69 ?_
            refine g_callV (As := [.int ((σ 2 2) + (2 : Int32))]) (rest := []) hF (fun l D cy => kt_X10_byteAt a r w21 l D cy) (Nat.le_of_ble_eq_true rfl) mV_X10_byteAt m_806 (recv_ob obC_2) rfl rfl (Nat.le_of_ble_eq_true rfl) d_X10_token_70 (qIr (fun v70 w22 => ?_)) (fun _ _ _ h => h.elim)
            refine g_callS (As := [.int v70]) (rest := []) hF (fun l D cy => kt_X10_sixteenth a r w22 l D cy) (Nat.le_of_ble_eq_true rfl) mS_X10_sixteenth m_854 rfl rfl (Nat.le_of_ble_eq_true rfl) d_X10_token_73 (qIr (fun v73 w23 => ?_)) (fun _ _ _ h => h.elim)
            refine g_if_lt hF 86 d_X10_token_76 (by decide) rfl (fun c => ?_) (fun c => ?_)
            · have w24 := w23.1 c
              exact g_sub (L' := [(0, .ref (r 2))]) [1] rfl (b86  w24)
            · have w25 := w23.2 c
              refine g_aload_n hF d_X10_token_79 rfl 1 rfl ?_
              refine g_callV (As := []) (rest := []) hF (fun l D cy => kt_X10_sixteens a r w25 l D cy) (Nat.le_of_ble_eq_true rfl) mV_X10_sixteens m_857 (recv_ob obC_2) rfl rfl (Nat.le_of_ble_eq_true rfl) d_X10_token_80 (qZ (fun v80 s80 hz80 w26 => ?_)) (fun _ _ _ h => h.elim)
              refine g_goto hF 90 d_X10_token_83 (by decide) ?_
              exact g_zret hF rfl (k_nz hz80) d_X10_token_90 ⟨rfl, rfl, v80, rfl, hz80, w26⟩
    · have w27 := w3.2 c
      refine g_aload_n hF d_X10_token_30 rfl 1 rfl ?_
      refine g_callV (As := []) (rest := []) hF (fun l D cy => kt_X10_word a r w27 l D cy) (Nat.le_of_ble_eq_true rfl) mV_X10_word m_836 (recv_ob obC_2) rfl rfl (Nat.le_of_ble_eq_true rfl) d_X10_token_31 (qZ (fun v31 s31 hz31 w28 => ?_)) (fun _ _ _ h => h.elim)
      exact g_zret hF rfl (k_nz hz31) d_X10_token_34 ⟨rfl, rfl, v31, rfl, hz31, w28⟩
  · have w29 := w1.2 c
    refine g_aload_n hF d_X10_token_13 rfl 1 rfl ?_
    refine g_iconst hF (v := 0) d_X10_token_14 (by decide) ?_
    refine g_iconst hF (v := 0) d_X10_token_15 (by decide) ?_
    refine g_iconst hF (v := 0) d_X10_token_16 (by decide) ?_
    refine g_callV (As := [.int 0, .int 0, .int 0]) (rest := []) hF (fun l D cy => kt_X10_add a r w29 l D cy) (Nat.le_of_ble_eq_true rfl) mV_X10_add m_821 (recv_ob obC_2) rfl rfl (Nat.le_of_ble_eq_true rfl) d_X10_token_17 (qZ (fun v17 s17 hz17 w30 => ?_)) (fun _ _ _ h => h.elim)
    refine g_pop hF d_X10_token_20 rfl ?_
    refine g_iconst hF (v := 0) d_X10_token_21 (by decide) ?_
    exact g_zret hF rfl (k_nz (Or.inl rfl)) d_X10_token_22 ⟨rfl, rfl, (0 : Int32), rfl, (Or.inl rfl), w30⟩
set_option maxHeartbeats 4000000 in
set_option maxRecDepth 100000 in
theorem kt_X10_scan (a : Nat → Nat) (r : Nat → Nat) {a1 : Int32} {σ : St} {Q : St → Prop} (w : wk_X10_scan a1 σ Q) (l : Launch) (D : va_G) (cy : Nat → ClassId) : Ct l D cy SC r (EC a gC) y_X10_scan (Cond.code y_X10_scan b_X10_scan 4 none) 8 [.ref (r 2), .int a1] σ Z0 [] (QV Q) QT0 := by
  unfold wk_X10_scan at w
  refine Ct_of (EC_ok a gC) (by decide) (Nat.le_of_ble_eq_true rfl) (by decide) (fun X hnn hF => ?_)
  show G SC r X σ Z0 [] [(0, .ref (r 2)), (1, .int a1)] [] 0
  refine g_aload_n hF d_X10_scan_0 rfl 0 rfl ?_
  refine g_iload_n hF d_X10_scan_1 rfl 1 rfl ?_
  refine g_put (v := a1) hF 1 obC_2 (by decide) m_43 rfl rfl rfl d_X10_scan_2 ?_
  refine g_aload_n hF d_X10_scan_5 rfl 0 rfl ?_
  refine g_iconst hF (v := 0) d_X10_scan_6 (by decide) ?_
  refine g_put (v := 0) hF 2 obC_2 (by decide) m_44 rfl rfl rfl d_X10_scan_7 ?_
  refine g_aload_n hF d_X10_scan_10 rfl 0 rfl ?_
  refine g_iconst hF (v := 1) d_X10_scan_11 (by decide) ?_
  refine g_put (v := 1) hF 3 obC_2 (by decide) m_45 rfl rfl rfl d_X10_scan_12 ?_
  refine g_aload_n hF d_X10_scan_15 rfl 0 rfl ?_
  refine g_iconst hF (v := 0) d_X10_scan_16 (by decide) ?_
  refine g_put (v := 0) hF 4 obC_2 (by decide) m_46 rfl rfl rfl d_X10_scan_17 ?_
  refine g_iconst hF (v := 1) d_X10_scan_20 (by decide) ?_
  refine g_istore_n hF [(2, .int 1), (0, .ref (r 2)), (1, .int a1)] d_X10_scan_21 rfl hnn (by decide) rfl ?_
  refine g_iconst hF (v := 0) d_X10_scan_22 (by decide) ?_
  refine g_istore_n hF [(3, .int 0), (2, .int 1), (0, .ref (r 2)), (1, .int a1)] d_X10_scan_23 rfl hnn (by decide) rfl ?_
  obtain ⟨L24, ⟨i24, u24⟩, h24⟩ := w
  have b24 : ∀ (n24 : Nat) (x2_24 : Int32) (x3_24 : Int32) (s24 : St), x2_24 = 0 ∨ x2_24 = 1 → L24 n24 x2_24 x3_24 s24 → G SC r X s24 Z0 [] [(0, .ref (r 2)), (2, .int x2_24), (3, .int x3_24)] [] 24 := by
    intro n24
    induction n24 using Nat.strongRecOn with
    | _ n24 ih24 =>
      intro x2_24 x3_24 s24 hx2_24 w24_
      have w24_ := h24 n24 x2_24 x3_24 s24 hx2_24 w24_
      refine g_iload_n hF d_X10_scan_24 rfl 2 rfl ?_
      refine g_aload_n hF d_X10_scan_25 rfl 0 rfl ?_
      refine g_get (v := .int (s24 2 1)) hF 1 obC_2 (by decide) m_43 rfl d_X10_scan_26 ?_
      refine g_icmp_gt hF 62 d_X10_scan_29 (by decide) rfl rfl (fun c => ?_) (fun c => ?_)
      · have w1 := w24_.1 c
        exact g_vret hF rfl d_X10_scan_62 ⟨rfl, rfl, rfl, w1⟩
      · have w2 := w24_.2 c
        refine g_iload_n hF d_X10_scan_32 rfl 1 rfl ?_
        refine g_if_eq hF 62 d_X10_scan_33 (by decide) rfl (fun c => ?_) (fun c => ?_)
        · have w3 := w2.1 c
          exact g_vret hF rfl d_X10_scan_62 ⟨rfl, rfl, rfl, w3⟩
        · have w4 := w2.2 c
          refine g_aload_n hF d_X10_scan_36 rfl 0 rfl ?_
          refine g_callV (As := []) (rest := []) hF (fun l D cy => kt_X10_skipBlanks a r w4 l D cy) (Nat.le_of_ble_eq_true rfl) mV_X10_skipBlanks m_802 (recv_ob obC_2) rfl rfl (Nat.le_of_ble_eq_true rfl) d_X10_scan_37 (qZ (fun v37 s37 hz37 w5 => ?_)) (fun _ _ _ h => h.elim)
          obtain ⟨J55, h55, w6⟩ := w5
          have b55 : ∀ (y0_55 : Int32) (s55 : St), y0_55 = 0 ∨ y0_55 = 1 → J55 y0_55 s55 → G SC r X s55 Z0 [] [(0, .ref (r 2)), (3, .int x3_24)] [.int y0_55] 55 := by
            intro y0_55 s55 hy0_55 w55_
            have w55_ := h55 y0_55 s55 hy0_55 w55_
            refine g_istore_n hF [(2, .int y0_55), (0, .ref (r 2)), (3, .int x3_24)] d_X10_scan_55 rfl hnn (by decide) rfl ?_
            refine g_iinc hF (x3_24 + 1) [(3, .int (x3_24 + 1)), (2, .int y0_55), (0, .ref (r 2))] d_X10_scan_56 2 rfl rfl hnn (by decide) rfl ?_
            refine g_goto hF 24 d_X10_scan_59 (by decide) ?_
            obtain ⟨m24, hm24, w9⟩ := w55_
            exact g_sub (L' := [(0, .ref (r 2)), (2, .int y0_55), (3, .int (x3_24 + 1))]) [2, 1, 0] rfl (ih24 m24 hm24 y0_55 (x3_24 + 1) s55 hy0_55 w9)
          obtain ⟨J54, h54, w7⟩ := w6
          have b54 : ∀ (s54 : St), J54 s54 → G SC r X s54 Z0 [] [(0, .ref (r 2)), (3, .int x3_24)] [] 54 := by
            intro s54  w54_
            have w54_ := h54 s54  w54_
            refine g_iconst hF (v := 0) d_X10_scan_54 (by decide) ?_
            exact b55 (0 : Int32) s54 (Or.inl rfl) w54_
          refine g_if_eq hF 54 d_X10_scan_40 (by decide) rfl (fun c => ?_) (fun c => ?_)
          · have w8 := w7.1 c
            exact g_sub (L' := [(0, .ref (r 2)), (3, .int x3_24)]) [0, 2] rfl (b54 s37 w8)
          · have w9 := w7.2 c
            refine g_aload_n hF d_X10_scan_43 rfl 0 rfl ?_
            refine g_callV (As := []) (rest := []) hF (fun l D cy => kt_X10_token a r w9 l D cy) (Nat.le_of_ble_eq_true rfl) mV_X10_token m_829 (recv_ob obC_2) rfl rfl (Nat.le_of_ble_eq_true rfl) d_X10_scan_44 (qZ (fun v44 s44 hz44 w10 => ?_)) (fun _ _ _ h => h.elim)
            refine g_if_eq hF 54 d_X10_scan_47 (by decide) rfl (fun c => ?_) (fun c => ?_)
            · have w11 := w10.1 c
              exact g_sub (L' := [(0, .ref (r 2)), (3, .int x3_24)]) [0, 2] rfl (b54 s44 w11)
            · have w12 := w10.2 c
              refine g_iconst hF (v := 1) d_X10_scan_50 (by decide) ?_
              refine g_goto hF 55 d_X10_scan_51 (by decide) ?_
              exact g_sub (L' := [(0, .ref (r 2)), (3, .int x3_24)]) [0, 2] rfl (b55 (1 : Int32) s44 (Or.inr rfl) w12)
  exact g_sub (L' := [(0, .ref (r 2)), (2, .int 1), (3, .int 0)]) [2, 1, 0] rfl (b24 i24 (1 : Int32) (0 : Int32) (upC (upC (upC (upC σ 2 1 a1) 2 2 (0 : Int32)) 2 3 (1 : Int32)) 2 4 (0 : Int32)) (Or.inr rfl) u24)
set_option maxHeartbeats 4000000 in
set_option maxRecDepth 100000 in
theorem kt_X3_advance (a : Nat → Nat) (r : Nat → Nat) {σ : St} {Q : St → Prop} (w : wk_X3_advance  σ Q) (l : Launch) (D : va_G) (cy : Nat → ClassId) : Ct l D cy SC r (EC a gC) y_X3_advance (Cond.code y_X3_advance b_X3_advance 2 none) 0 [.ref (r 3)] σ Z0 [] (QV Q) QT0 := by
  unfold wk_X3_advance at w
  refine Ct_of (EC_ok a gC) (by decide) (Nat.le_of_ble_eq_true rfl) (by decide) (fun X hnn hF => ?_)
  show G SC r X σ Z0 [] [(0, .ref (r 3))] [] 0
  refine g_aload_n hF d_X3_advance_0 rfl 0 rfl ?_
  refine g_dup hF d_X3_advance_1 rfl ?_
  refine g_get (v := .int (σ 3 1)) hF 1 obC_3 (by decide) m_95 rfl d_X3_advance_2 ?_
  refine g_iconst hF (v := 1) d_X3_advance_5 (by decide) ?_
  refine g_iadd hF d_X3_advance_6 ?_
  refine g_put (v := ((σ 3 1) + (1 : Int32))) hF 1 obC_3 (by decide) m_95 rfl rfl rfl d_X3_advance_7 ?_
  refine g_aload_n hF d_X3_advance_10 rfl 0 rfl ?_
  refine g_get (v := .int ((σ 3 1) + (1 : Int32))) hF 1 obC_3 (by decide) m_95 rfl d_X3_advance_11 ?_
  obtain ⟨J51, h51, w1⟩ := w
  have b51 : ∀ (y0_51 : Int32), y0_51 = 0 ∨ y0_51 = 1 → J51 y0_51 → G SC r X (upC σ 3 1 ((σ 3 1) + (1 : Int32))) Z0 [] [(0, .ref (r 3))] [.int y0_51] 51 := by
    intro y0_51 hy0_51 w51_
    have w51_ := h51 y0_51 hy0_51 w51_
    refine g_istore_n hF [(1, .int y0_51), (0, .ref (r 3))] d_X3_advance_51 rfl hnn (by decide) rfl ?_
    refine g_aload_n hF d_X3_advance_52 rfl 1 rfl ?_
    refine g_iload_n hF d_X3_advance_53 rfl 0 rfl ?_
    refine g_if_eq hF 72 d_X3_advance_54 (by decide) rfl (fun c => ?_) (fun c => ?_)
    · have w2 := w51_.1 c
      refine g_iconst hF (v := 0) d_X3_advance_72 (by decide) ?_
      refine g_put (v := 0) hF 2 obC_3 (by decide) m_96 rfl rfl rfl d_X3_advance_73 ?_
      exact g_vret hF rfl d_X3_advance_76 ⟨rfl, rfl, rfl, w2⟩
    · have w3 := w51_.2 c
      refine g_aload_n hF d_X3_advance_57 rfl 1 rfl ?_
      refine g_get (v := .ref (r 2)) hF 0 obC_3 (by decide) m_94 rfl d_X3_advance_58 ?_
      refine g_getN (v := .ref (r 13)) hF 5 obC_2 (by decide) nm_50 rfl d_X3_advance_61 ?_
      refine g_aload_n hF d_X3_advance_64 rfl 1 rfl ?_
      refine g_get (v := .int ((σ 3 1) + (1 : Int32))) hF 1 obC_3 (by decide) m_95 rfl d_X3_advance_65 ?_
      have w4 := w3.2
      refine g_iald hF arC_13 (s_in (Nat.le_of_ble_eq_true rfl) w3.1.1 w3.1.2) d_X3_advance_68 ?_
      refine g_top (v := (σ 13 ((σ 3 1) + (1 : Int32)).toNatClampNeg)) rfl ?_
      refine g_goto hF 73 d_X3_advance_69 (by decide) ?_
      refine g_put (v := (σ 13 ((σ 3 1) + (1 : Int32)).toNatClampNeg)) hF 2 obC_3 (by decide) m_96 rfl rfl rfl d_X3_advance_73 ?_
      exact g_vret hF rfl d_X3_advance_76 ⟨rfl, rfl, rfl, w4⟩
  obtain ⟨J50, h50, w5⟩ := w1
  have b50 : J50  → G SC r X (upC σ 3 1 ((σ 3 1) + (1 : Int32))) Z0 [] [(0, .ref (r 3))] [] 50 := by
    intro   w50_
    have w50_ := h50   w50_
    refine g_iconst hF (v := 0) d_X3_advance_50 (by decide) ?_
    exact b51 (0 : Int32) (Or.inl rfl) w50_
  refine g_if_lt hF 50 d_X3_advance_14 (by decide) rfl (fun c => ?_) (fun c => ?_)
  · have w6 := w5.1 c
    exact b50  w6
  · have w7 := w5.2 c
    refine g_aload_n hF d_X3_advance_17 rfl 0 rfl ?_
    refine g_get (v := .int ((σ 3 1) + (1 : Int32))) hF 1 obC_3 (by decide) m_95 rfl d_X3_advance_18 ?_
    refine g_aload_n hF d_X3_advance_21 rfl 0 rfl ?_
    refine g_get (v := .ref (r 2)) hF 0 obC_3 (by decide) m_94 rfl d_X3_advance_22 ?_
    refine g_getN (v := .int (σ 2 4)) hF 4 obC_2 (by decide) nm_47 rfl d_X3_advance_25 ?_
    refine g_icmp_ge hF 50 d_X3_advance_28 (by decide) rfl rfl (fun c => ?_) (fun c => ?_)
    · have w8 := w7.1 c
      exact b50  w8
    · have w9 := w7.2 c
      refine g_aload_n hF d_X3_advance_31 rfl 0 rfl ?_
      refine g_get (v := .int ((σ 3 1) + (1 : Int32))) hF 1 obC_3 (by decide) m_95 rfl d_X3_advance_32 ?_
      refine g_aload_n hF d_X3_advance_35 rfl 0 rfl ?_
      refine g_get (v := .ref (r 2)) hF 0 obC_3 (by decide) m_94 rfl d_X3_advance_36 ?_
      refine g_getN (v := .ref (r 13)) hF 5 obC_2 (by decide) nm_50 rfl d_X3_advance_39 ?_
      refine g_alen hF arC_13 (fun _ => ⟨1, _, rfl⟩) (v := 16002) (by decide) d_X3_advance_42 ?_
      refine g_icmp_ge (yv := 16002) hF 50 d_X3_advance_43 (by decide) rfl (by decide) (fun c => ?_) (fun c => ?_)
      · have w10 := w9.1 c
        exact b50  w10
      · have w11 := w9.2 c
        refine g_iconst hF (v := 1) d_X3_advance_46 (by decide) ?_
        refine g_goto hF 51 d_X3_advance_47 (by decide) ?_
        exact b51 (1 : Int32) (Or.inr rfl) w11
set_option maxHeartbeats 4000000 in
set_option maxRecDepth 100000 in
theorem kt_X3_fail (a : Nat → Nat) (r : Nat → Nat) {σ : St} {Q : St → Prop} (w : wk_X3_fail  σ Q) (l : Launch) (D : va_G) (cy : Nat → ClassId) : Ct l D cy SC r (EC a gC) y_X3_fail (Cond.code y_X3_fail b_X3_fail 1 none) 0 [.ref (r 3)] σ Z0 [] (QV Q) QT0 := by
  unfold wk_X3_fail at w
  refine Ct_of (EC_ok a gC) (by decide) (Nat.le_of_ble_eq_true rfl) (by decide) (fun X hnn hF => ?_)
  show G SC r X σ Z0 [] [(0, .ref (r 3))] [] 0
  refine g_aload_n hF d_X3_fail_0 rfl 0 rfl ?_
  refine g_get (v := .int (σ 3 3)) hF 3 obC_3 (by decide) m_97 rfl d_X3_fail_1 ?_
  refine g_if_ge hF 15 d_X3_fail_4 (by decide) rfl (fun c => ?_) (fun c => ?_)
  · have w1 := w.1 c
    refine g_aload_n hF d_X3_fail_15 rfl 0 rfl ?_
    refine g_iconst hF (v := (-1)) d_X3_fail_16 (by decide) ?_
    refine g_put (v := (-1)) hF 2 obC_3 (by decide) m_96 rfl rfl rfl d_X3_fail_17 ?_
    exact g_vret hF rfl d_X3_fail_20 ⟨rfl, rfl, rfl, w1⟩
  · have w2 := w.2 c
    refine g_aload_n hF d_X3_fail_7 rfl 0 rfl ?_
    refine g_aload_n hF d_X3_fail_8 rfl 0 rfl ?_
    refine g_get (v := .int (σ 3 1)) hF 1 obC_3 (by decide) m_95 rfl d_X3_fail_9 ?_
    refine g_put (v := (σ 3 1)) hF 3 obC_3 (by decide) m_97 rfl rfl rfl d_X3_fail_12 ?_
    refine g_aload_n hF d_X3_fail_15 rfl 0 rfl ?_
    refine g_iconst hF (v := (-1)) d_X3_fail_16 (by decide) ?_
    refine g_put (v := (-1)) hF 2 obC_3 (by decide) m_96 rfl rfl rfl d_X3_fail_17 ?_
    exact g_vret hF rfl d_X3_fail_20 ⟨rfl, rfl, rfl, w2⟩
set_option maxHeartbeats 4000000 in
set_option maxRecDepth 100000 in
theorem kt_X3_expect (a : Nat → Nat) (r : Nat → Nat) {a1 : Int32} {σ : St} {Q : St → Prop} (w : wk_X3_expect a1 σ Q) (l : Launch) (D : va_G) (cy : Nat → ClassId) : Ct l D cy SC r (EC a gC) y_X3_expect (Cond.code y_X3_expect b_X3_expect 2 none) 1 [.ref (r 3), .int a1] σ Z0 [] (QV Q) QT0 := by
  unfold wk_X3_expect at w
  refine Ct_of (EC_ok a gC) (by decide) (Nat.le_of_ble_eq_true rfl) (by decide) (fun X hnn hF => ?_)
  show G SC r X σ Z0 [] [(0, .ref (r 3)), (1, .int a1)] [] 0
  refine g_aload_n hF d_X3_expect_0 rfl 0 rfl ?_
  refine g_get (v := .int (σ 3 2)) hF 2 obC_3 (by decide) m_96 rfl d_X3_expect_1 ?_
  refine g_iload_n hF d_X3_expect_4 rfl 1 rfl ?_
  refine g_icmp_ne hF 15 d_X3_expect_5 (by decide) rfl rfl (fun c => ?_) (fun c => ?_)
  · have w1 := w.1 c
    refine g_aload_n hF d_X3_expect_15 rfl 0 rfl ?_
    refine g_callV (As := []) (rest := []) hF (fun l D cy => kt_X3_fail a r w1 l D cy) (Nat.le_of_ble_eq_true rfl) mV_X3_fail m_907 (recv_ob obC_3) rfl rfl (Nat.le_of_ble_eq_true rfl) d_X3_expect_16 (qV (fun s16 w2 => ?_)) (fun _ _ _ h => h.elim)
    exact g_vret hF rfl d_X3_expect_19 ⟨rfl, rfl, rfl, w2⟩
  · have w3 := w.2 c
    refine g_aload_n hF d_X3_expect_8 rfl 0 rfl ?_
    refine g_callV (As := []) (rest := []) hF (fun l D cy => kt_X3_advance a r w3 l D cy) (Nat.le_of_ble_eq_true rfl) mV_X3_advance m_899 (recv_ob obC_3) rfl rfl (Nat.le_of_ble_eq_true rfl) d_X3_expect_9 (qV (fun s9 w4 => ?_)) (fun _ _ _ h => h.elim)
    refine g_goto hF 19 d_X3_expect_12 (by decide) ?_
    exact g_vret hF rfl d_X3_expect_19 ⟨rfl, rfl, rfl, w4⟩
set_option maxHeartbeats 4000000 in
set_option maxRecDepth 100000 in
theorem kt_X3_add (a : Nat → Nat) (r : Nat → Nat) {a1 : Int32} {a2 : Int32} {a3 : Int32} {a4 : Int32} {σ : St} {Q : Int32 → St → Prop} (w : wk_X3_add a1 a2 a3 a4 σ Q) (l : Launch) (D : va_G) (cy : Nat → ClassId) : Ct l D cy SC r (EC a gC) y_X3_add (Cond.code y_X3_add b_X3_add 6 (some .int)) 0 [.ref (r 3), .int a1, .int a2, .int a3, .int a4] σ Z0 [] (QI Q) QT0 := by
  unfold wk_X3_add at w
  refine Ct_of (EC_ok a gC) (by decide) (Nat.le_of_ble_eq_true rfl) (by decide) (fun X hnn hF => ?_)
  show G SC r X σ Z0 [] [(0, .ref (r 3)), (1, .int a1), (2, .int a2), (3, .int a3), (4, .int a4)] [] 0
  refine g_aload_n hF d_X3_add_0 rfl 0 rfl ?_
  refine g_get (v := .int (σ 3 4)) hF 4 obC_3 (by decide) m_99 rfl d_X3_add_1 ?_
  refine g_istore hF [(5, .int (σ 3 4)), (0, .ref (r 3)), (1, .int a1), (2, .int a2), (3, .int a3), (4, .int a4)] d_X3_add_4 hnn (by decide) rfl ?_
  refine g_iload hF d_X3_add_6 0 rfl ?_
  refine g_if_lt hF 94 d_X3_add_8 (by decide) rfl (fun c => ?_) (fun c => ?_)
  · have w1 := w.1 c
    refine g_iload hF d_X3_add_94 0 rfl ?_
    exact g_iret hF rfl d_X3_add_96 ⟨rfl, rfl, (σ 3 4), rfl, w1⟩
  · have w2 := w.2 c
    refine g_iload hF d_X3_add_11 0 rfl ?_
    refine g_aload_n hF d_X3_add_13 rfl 1 rfl ?_
    refine g_get (v := .ref (r 18)) hF 5 obC_3 (by decide) m_101 rfl d_X3_add_14 ?_
    refine g_alen hF arC_18 (fun _ => ⟨1, _, rfl⟩) (v := 32100) (by decide) d_X3_add_17 ?_
    refine g_icmp_ge (yv := 32100) hF 94 d_X3_add_18 (by decide) rfl (by decide) (fun c => ?_) (fun c => ?_)
    · have w3 := w2.1 c
      refine g_iload hF d_X3_add_94 0 rfl ?_
      exact g_iret hF rfl d_X3_add_96 ⟨rfl, rfl, (σ 3 4), rfl, w3⟩
    · have w4 := w2.2 c
      refine g_iload hF d_X3_add_21 0 rfl ?_
      refine g_aload_n hF d_X3_add_23 rfl 1 rfl ?_
      refine g_get (v := .ref (r 19)) hF 6 obC_3 (by decide) m_104 rfl d_X3_add_24 ?_
      refine g_alen hF arC_19 (fun _ => ⟨1, _, rfl⟩) (v := 32100) (by decide) d_X3_add_27 ?_
      refine g_icmp_ge (yv := 32100) hF 94 d_X3_add_28 (by decide) rfl (by decide) (fun c => ?_) (fun c => ?_)
      · have w5 := w4.1 c
        refine g_iload hF d_X3_add_94 0 rfl ?_
        exact g_iret hF rfl d_X3_add_96 ⟨rfl, rfl, (σ 3 4), rfl, w5⟩
      · have w6 := w4.2 c
        refine g_iload hF d_X3_add_31 0 rfl ?_
        refine g_aload_n hF d_X3_add_33 rfl 1 rfl ?_
        refine g_get (v := .ref (r 20)) hF 7 obC_3 (by decide) m_108 rfl d_X3_add_34 ?_
        refine g_alen hF arC_20 (fun _ => ⟨1, _, rfl⟩) (v := 32100) (by decide) d_X3_add_37 ?_
        refine g_icmp_ge (yv := 32100) hF 94 d_X3_add_38 (by decide) rfl (by decide) (fun c => ?_) (fun c => ?_)
        · have w7 := w6.1 c
          refine g_iload hF d_X3_add_94 0 rfl ?_
          exact g_iret hF rfl d_X3_add_96 ⟨rfl, rfl, (σ 3 4), rfl, w7⟩
        · have w8 := w6.2 c
          refine g_iload hF d_X3_add_41 0 rfl ?_
          refine g_aload_n hF d_X3_add_43 rfl 1 rfl ?_
          refine g_get (v := .ref (r 21)) hF 8 obC_3 (by decide) m_112 rfl d_X3_add_44 ?_
          refine g_alen hF arC_21 (fun _ => ⟨1, _, rfl⟩) (v := 32100) (by decide) d_X3_add_47 ?_
          refine g_icmp_ge (yv := 32100) hF 94 d_X3_add_48 (by decide) rfl (by decide) (fun c => ?_) (fun c => ?_)
          · have w9 := w8.1 c
            refine g_iload hF d_X3_add_94 0 rfl ?_
            exact g_iret hF rfl d_X3_add_96 ⟨rfl, rfl, (σ 3 4), rfl, w9⟩
          · have w10 := w8.2 c
            refine g_aload_n hF d_X3_add_51 rfl 1 rfl ?_
            refine g_get (v := .ref (r 18)) hF 5 obC_3 (by decide) m_101 rfl d_X3_add_52 ?_
            refine g_iload hF d_X3_add_55 0 rfl ?_
            refine g_iload_n hF d_X3_add_57 rfl 2 rfl ?_
            have w11 := w10.2
            refine g_iast hF arC_18 (s_in (Nat.le_of_ble_eq_true rfl) w10.1.1 w10.1.2) d_X3_add_58 ?_
            refine g_aload_n hF d_X3_add_59 rfl 1 rfl ?_
            refine g_get (v := .ref (r 19)) hF 6 obC_3 (by decide) m_104 rfl d_X3_add_60 ?_
            refine g_iload hF d_X3_add_63 0 rfl ?_
            refine g_iload_n hF d_X3_add_65 rfl 3 rfl ?_
            have w12 := w11.2
            refine g_iast hF arC_19 (s_in (Nat.le_of_ble_eq_true rfl) w11.1.1 w11.1.2) d_X3_add_66 ?_
            refine g_aload_n hF d_X3_add_67 rfl 1 rfl ?_
            refine g_get (v := .ref (r 20)) hF 7 obC_3 (by decide) m_108 rfl d_X3_add_68 ?_
            refine g_iload hF d_X3_add_71 0 rfl ?_
            refine g_iload_n hF d_X3_add_73 rfl 4 rfl ?_
            have w13 := w12.2
            refine g_iast hF arC_20 (s_in (Nat.le_of_ble_eq_true rfl) w12.1.1 w12.1.2) d_X3_add_74 ?_
            refine g_aload_n hF d_X3_add_75 rfl 1 rfl ?_
            refine g_get (v := .ref (r 21)) hF 8 obC_3 (by decide) m_112 rfl d_X3_add_76 ?_
            refine g_iload hF d_X3_add_79 0 rfl ?_
            refine g_iload hF d_X3_add_81 5 rfl ?_
            have w14 := w13.2
            refine g_iast hF arC_21 (s_in (Nat.le_of_ble_eq_true rfl) w13.1.1 w13.1.2) d_X3_add_83 ?_
            refine g_aload_n hF d_X3_add_84 rfl 1 rfl ?_
            refine g_dup hF d_X3_add_85 rfl ?_
            refine g_get (v := .int (σ 3 4)) hF 4 obC_3 (by decide) m_99 rfl d_X3_add_86 ?_
            refine g_iconst hF (v := 1) d_X3_add_89 (by decide) ?_
            refine g_iadd hF d_X3_add_90 ?_
            refine g_put (v := ((σ 3 4) + (1 : Int32))) hF 4 obC_3 (by decide) m_99 rfl rfl rfl d_X3_add_91 ?_
            refine g_iload hF d_X3_add_94 0 rfl ?_
            exact g_iret hF rfl d_X3_add_96 ⟨rfl, rfl, (σ 3 4), rfl, w14⟩
set_option maxHeartbeats 4000000 in
set_option maxRecDepth 100000 in
theorem kt_X8_parameters (a : Nat → Nat) (r : Nat → Nat) {a0 : Int32} {σ : St} {Q : Int32 → Prop} (w : wk_X8_parameters a0 σ Q) (l : Launch) (D : va_G) (cy : Nat → ClassId) : Ct l D cy SC r (EC a gC) y_X8_parameters (Cond.code y_X8_parameters b_X8_parameters 1 (some .int)) 0 [.int a0] σ Z0 [] (QI (fun x σ9 => σ9 = σ ∧ Q x)) QT0 := by
  unfold wk_X8_parameters at w
  refine Ct_of (EC_ok a gC) (by decide) (Nat.le_of_ble_eq_true rfl) (by decide) (fun X hnn hF => ?_)
  show G SC r X σ Z0 [] [(0, .int a0)] [] 0
  refine g_iload_n hF d_X8_parameters_0 rfl 0 rfl ?_
  refine g_bipush hF (v := 24) d_X8_parameters_1 (by decide) ?_
  refine g_iushr hF d_X8_parameters_3 ?_
  refine g_top (v := (ushr a0 (24 : Int32))) rfl ?_
  exact g_iret hF rfl d_X8_parameters_4 ⟨rfl, rfl, (ushr a0 (24 : Int32)), rfl, ⟨rfl, w⟩⟩
set_option maxHeartbeats 4000000 in
set_option maxRecDepth 100000 in
theorem kt_X8_parameter (a : Nat → Nat) (r : Nat → Nat) {a0 : Int32} {a1 : Int32} {σ : St} {Q : Int32 → Prop} (w : wk_X8_parameter a0 a1 σ Q) (l : Launch) (D : va_G) (cy : Nat → ClassId) : Ct l D cy SC r (EC a gC) y_X8_parameter (Cond.code y_X8_parameter b_X8_parameter 2 (some .int)) 0 [.int a0, .int a1] σ Z0 [] (QI (fun x σ9 => σ9 = σ ∧ Q x)) QT0 := by
  unfold wk_X8_parameter at w
  refine Ct_of (EC_ok a gC) (by decide) (Nat.le_of_ble_eq_true rfl) (by decide) (fun X hnn hF => ?_)
  show G SC r X σ Z0 [] [(0, .int a0), (1, .int a1)] [] 0
  refine g_iload_n hF d_X8_parameter_0 rfl 0 rfl ?_
  refine g_iconst hF (v := 3) d_X8_parameter_1 (by decide) ?_
  refine g_iload_n hF d_X8_parameter_2 rfl 1 rfl ?_
  refine g_imul hF d_X8_parameter_3 ?_
  refine g_iushr hF d_X8_parameter_4 ?_
  refine g_top (v := (ushr a0 ((3 : Int32) * a1))) rfl ?_
  refine g_bipush hF (v := 7) d_X8_parameter_5 (by decide) ?_
  refine g_iand hF d_X8_parameter_7 ?_
  exact g_iret hF rfl d_X8_parameter_8 ⟨rfl, rfl, ((ushr a0 ((3 : Int32) * a1)) &&& (7 : Int32)), rfl, ⟨rfl, w⟩⟩
set_option maxHeartbeats 4000000 in
set_option maxRecDepth 100000 in
theorem kt_X3_stars (a : Nat → Nat) (r : Nat → Nat) {σ : St} {Q : Int32 → St → Prop} (w : wk_X3_stars  σ Q) (l : Launch) (D : va_G) (cy : Nat → ClassId) : Ct l D cy SC r (EC a gC) y_X3_stars (Cond.code y_X3_stars b_X3_stars 2 (some .int)) 1 [.ref (r 3)] σ Z0 [] (QI Q) QT0 := by
  unfold wk_X3_stars at w
  refine Ct_of (EC_ok a gC) (by decide) (Nat.le_of_ble_eq_true rfl) (by decide) (fun X hnn hF => ?_)
  show G SC r X σ Z0 [] [(0, .ref (r 3))] [] 0
  refine g_iconst hF (v := 0) d_X3_stars_0 (by decide) ?_
  refine g_istore_n hF [(1, .int 0), (0, .ref (r 3))] d_X3_stars_1 rfl hnn (by decide) rfl ?_
  obtain ⟨L2, ⟨i2, u2⟩, h2⟩ := w
  have b2 : ∀ (n2 : Nat) (x1_2 : Int32) (s2 : St), L2 n2 x1_2 s2 → G SC r X s2 Z0 [] [(0, .ref (r 3)), (1, .int x1_2)] [] 2 := by
    intro n2
    induction n2 using Nat.strongRecOn with
    | _ n2 ih2 =>
      intro x1_2 s2  w2_
      have w2_ := h2 n2 x1_2 s2  w2_
      refine g_iload_n hF d_X3_stars_2 rfl 1 rfl ?_
      refine g_iconst hF (v := 5) d_X3_stars_3 (by decide) ?_
      obtain ⟨J26, h26, w1⟩ := w2_
      have b26 : J26  → G SC r X s2 Z0 [] [(0, .ref (r 3)), (1, .int x1_2)] [] 26 := by
        intro   w26_
        have w26_ := h26   w26_
        refine g_aload_n hF d_X3_stars_26 rfl 0 rfl ?_
        refine g_get (v := .int (s2 3 2)) hF 2 obC_3 (by decide) m_96 rfl d_X3_stars_27 ?_
        refine g_bipush hF (v := 45) d_X3_stars_30 (by decide) ?_
        refine g_icmp_ne (yv := 45) hF 39 d_X3_stars_32 (by decide) rfl (by decide) (fun c => ?_) (fun c => ?_)
        · have w2 := w26_.1 c
          refine g_iload_n hF d_X3_stars_39 rfl 1 rfl ?_
          exact g_iret hF rfl d_X3_stars_40 ⟨rfl, rfl, x1_2, rfl, w2⟩
        · have w3 := w26_.2 c
          refine g_aload_n hF d_X3_stars_35 rfl 0 rfl ?_
          refine g_callV (As := []) (rest := []) hF (fun l D cy => kt_X3_fail a r w3 l D cy) (Nat.le_of_ble_eq_true rfl) mV_X3_fail m_907 (recv_ob obC_3) rfl rfl (Nat.le_of_ble_eq_true rfl) d_X3_stars_36 (qV (fun s36 w4 => ?_)) (fun _ _ _ h => h.elim)
          refine g_iload_n hF d_X3_stars_39 rfl 1 rfl ?_
          exact g_iret hF rfl d_X3_stars_40 ⟨rfl, rfl, x1_2, rfl, w4⟩
      refine g_icmp_ge (yv := 5) hF 26 d_X3_stars_4 (by decide) rfl (by decide) (fun c => ?_) (fun c => ?_)
      · have w5 := w1.1 c
        exact b26  w5
      · have w6 := w1.2 c
        refine g_aload_n hF d_X3_stars_7 rfl 0 rfl ?_
        refine g_get (v := .int (s2 3 2)) hF 2 obC_3 (by decide) m_96 rfl d_X3_stars_8 ?_
        refine g_bipush hF (v := 45) d_X3_stars_11 (by decide) ?_
        refine g_icmp_ne (yv := 45) hF 26 d_X3_stars_13 (by decide) rfl (by decide) (fun c => ?_) (fun c => ?_)
        · have w7 := w6.1 c
          exact b26  w7
        · have w8 := w6.2 c
          refine g_aload_n hF d_X3_stars_16 rfl 0 rfl ?_
          refine g_callV (As := []) (rest := []) hF (fun l D cy => kt_X3_advance a r w8 l D cy) (Nat.le_of_ble_eq_true rfl) mV_X3_advance m_899 (recv_ob obC_3) rfl rfl (Nat.le_of_ble_eq_true rfl) d_X3_stars_17 (qV (fun s17 w9 => ?_)) (fun _ _ _ h => h.elim)
          refine g_iinc hF (x1_2 + 1) [(1, .int (x1_2 + 1)), (0, .ref (r 3))] d_X3_stars_20 1 rfl rfl hnn (by decide) rfl ?_
          refine g_goto hF 2 d_X3_stars_23 (by decide) ?_
          obtain ⟨m2, hm2, w9⟩ := w9
          exact g_sub (L' := [(0, .ref (r 3)), (1, .int (x1_2 + 1))]) [1, 0] rfl (ih2 m2 hm2 (x1_2 + 1) s17 w9)
  exact g_sub (L' := [(0, .ref (r 3)), (1, .int 0)]) [1, 0] rfl (b2 i2 (0 : Int32) σ u2)
set_option maxHeartbeats 4000000 in
set_option maxRecDepth 100000 in
theorem kt_X3_accept (a : Nat → Nat) (r : Nat → Nat) {a1 : Int32} {σ : St} {Q : Int32 → St → Prop} (w : wk_X3_accept a1 σ Q) (l : Launch) (D : va_G) (cy : Nat → ClassId) : Ct l D cy SC r (EC a gC) y_X3_accept (Cond.code y_X3_accept b_X3_accept 3 (some .boolean)) 1 [.ref (r 3), .int a1] σ Z0 [] (QI (fun x σ9 => (x = 0 ∨ x = 1) ∧ Q x σ9)) QT0 := by
  unfold wk_X3_accept at w
  refine Ct_of (EC_ok a gC) (by decide) (Nat.le_of_ble_eq_true rfl) (by decide) (fun X hnn hF => ?_)
  show G SC r X σ Z0 [] [(0, .ref (r 3)), (1, .int a1)] [] 0
  refine g_aload_n hF d_X3_accept_0 rfl 0 rfl ?_
  refine g_get (v := .int (σ 3 2)) hF 2 obC_3 (by decide) m_96 rfl d_X3_accept_1 ?_
  refine g_iload_n hF d_X3_accept_4 rfl 1 rfl ?_
  obtain ⟨J13, h13, w1⟩ := w
  have b13 : ∀ (y0_13 : Int32), y0_13 = 0 ∨ y0_13 = 1 → J13 y0_13 → G SC r X σ Z0 [] [(0, .ref (r 3))] [.int y0_13] 13 := by
    intro y0_13 hy0_13 w13_
    have w13_ := h13 y0_13 hy0_13 w13_
    refine g_istore_n hF [(2, .int y0_13), (0, .ref (r 3))] d_X3_accept_13 rfl hnn (by decide) rfl ?_
    refine g_iload_n hF d_X3_accept_14 rfl 0 rfl ?_
    refine g_if_eq hF 22 d_X3_accept_15 (by decide) rfl (fun c => ?_) (fun c => ?_)
    · have w2 := w13_.1 c
      refine g_iload_n hF d_X3_accept_22 rfl 0 rfl ?_
      exact g_zret hF rfl (k_nz hy0_13) d_X3_accept_23 ⟨rfl, rfl, y0_13, rfl, hy0_13, w2⟩
    · have w3 := w13_.2 c
      refine g_aload_n hF d_X3_accept_18 rfl 1 rfl ?_
      refine g_callV (As := []) (rest := []) hF (fun l D cy => kt_X3_advance a r w3 l D cy) (Nat.le_of_ble_eq_true rfl) mV_X3_advance m_899 (recv_ob obC_3) rfl rfl (Nat.le_of_ble_eq_true rfl) d_X3_accept_19 (qV (fun s19 w4 => ?_)) (fun _ _ _ h => h.elim)
      refine g_iload_n hF d_X3_accept_22 rfl 0 rfl ?_
      exact g_zret hF rfl (k_nz hy0_13) d_X3_accept_23 ⟨rfl, rfl, y0_13, rfl, hy0_13, w4⟩
  refine g_icmp_ne hF 12 d_X3_accept_5 (by decide) rfl rfl (fun c => ?_) (fun c => ?_)
  · have w5 := w1.1 c
    refine g_iconst hF (v := 0) d_X3_accept_12 (by decide) ?_
    exact g_sub (L' := [(0, .ref (r 3))]) [0] rfl (b13 (0 : Int32) (Or.inl rfl) w5)
  · have w6 := w1.2 c
    refine g_iconst hF (v := 1) d_X3_accept_8 (by decide) ?_
    refine g_goto hF 13 d_X3_accept_9 (by decide) ?_
    exact g_sub (L' := [(0, .ref (r 3))]) [0] rfl (b13 (1 : Int32) (Or.inr rfl) w6)
set_option maxHeartbeats 4000000 in
set_option maxRecDepth 100000 in
theorem kt_X8_withParameter (a : Nat → Nat) (r : Nat → Nat) {a0 : Int32} {a1 : Int32} {σ : St} {Q : Int32 → Prop} (w : wk_X8_withParameter a0 a1 σ Q) (l : Launch) (D : va_G) (cy : Nat → ClassId) : Ct l D cy SC r (EC a gC) y_X8_withParameter (Cond.code y_X8_withParameter b_X8_withParameter 2 (some .int)) 1 [.int a0, .int a1] σ Z0 [] (QI (fun x σ9 => σ9 = σ ∧ Q x)) QT0 := by
  unfold wk_X8_withParameter at w
  refine Ct_of (EC_ok a gC) (by decide) (Nat.le_of_ble_eq_true rfl) (by decide) (fun X hnn hF => ?_)
  show G SC r X σ Z0 [] [(0, .int a0), (1, .int a1)] [] 0
  refine g_iload_n hF d_X8_withParameter_0 rfl 0 rfl ?_
  refine g_ldc (v := 16777216) hF m_219 d_X8_withParameter_1 ?_
  refine g_iadd hF d_X8_withParameter_3 ?_
  refine g_iload_n hF d_X8_withParameter_4 rfl 1 rfl ?_
  refine g_iconst hF (v := 3) d_X8_withParameter_5 (by decide) ?_
  refine g_iload_n hF d_X8_withParameter_6 rfl 0 rfl ?_
  refine g_callS (As := [.int a0]) (rest := [.int 3, .int a1, .int (a0 + (16777216 : Int32))]) hF (fun l D cy => kt_X8_parameters a r w l D cy) (Nat.le_of_ble_eq_true rfl) mS_X8_parameters m_997 rfl rfl (Nat.le_of_ble_eq_true rfl) d_X8_withParameter_7 (qIr (fun v7 w1 => ?_)) (fun _ _ _ h => h.elim)
  refine g_imul hF d_X8_withParameter_10 ?_
  refine g_ishl hF d_X8_withParameter_11 ?_
  refine g_ior hF d_X8_withParameter_12 ?_
  exact g_iret hF rfl d_X8_withParameter_13 ⟨rfl, rfl, ((a0 + (16777216 : Int32)) ||| (a1 <<< (((3 : Int32) * v7) &&& 31))), rfl, ⟨rfl, w1⟩⟩
set_option maxHeartbeats 4000000 in
set_option maxRecDepth 100000 in
theorem kt_X3_parameters (a : Nat → Nat) (r : Nat → Nat) {σ : St} {Q : Int32 → St → Prop} (w : wk_X3_parameters  σ Q) (l : Launch) (D : va_G) (cy : Nat → ClassId) : Ct l D cy SC r (EC a gC) y_X3_parameters (Cond.code y_X3_parameters b_X3_parameters 7 (some .int)) 2 [.ref (r 3)] σ Z0 [] (QI Q) QT0 := by
  unfold wk_X3_parameters at w
  refine Ct_of (EC_ok a gC) (by decide) (Nat.le_of_ble_eq_true rfl) (by decide) (fun X hnn hF => ?_)
  show G SC r X σ Z0 [] [(0, .ref (r 3))] [] 0
  refine g_iconst hF (v := 0) d_X3_parameters_0 (by decide) ?_
  refine g_istore_n hF [(1, .int 0), (0, .ref (r 3))] d_X3_parameters_1 rfl hnn (by decide) rfl ?_
  refine g_iconst hF (v := 0) d_X3_parameters_2 (by decide) ?_
  refine g_istore_n hF [(2, .int 0), (1, .int 0), (0, .ref (r 3))] d_X3_parameters_3 rfl hnn (by decide) rfl ?_
  refine g_iconst hF (v := 1) d_X3_parameters_4 (by decide) ?_
  refine g_istore_n hF [(3, .int 1), (2, .int 0), (1, .int 0), (0, .ref (r 3))] d_X3_parameters_5 rfl hnn (by decide) rfl ?_
  obtain ⟨L6, ⟨i6, u6⟩, h6⟩ := w
  have b6 : ∀ (n6 : Nat) (x1_6 : Int32) (x2_6 : Int32) (x3_6 : Int32) (s6 : St), x3_6 = 0 ∨ x3_6 = 1 → L6 n6 x1_6 x2_6 x3_6 s6 → G SC r X s6 Z0 [] [(0, .ref (r 3)), (1, .int x1_6), (2, .int x2_6), (3, .int x3_6)] [] 6 := by
    intro n6
    induction n6 using Nat.strongRecOn with
    | _ n6 ih6 =>
      intro x1_6 x2_6 x3_6 s6 hx3_6 w6_
      have w6_ := h6 n6 x1_6 x2_6 x3_6 s6 hx3_6 w6_
      refine g_iload_n hF d_X3_parameters_6 rfl 2 rfl ?_
      refine g_bipush hF (v := 8) d_X3_parameters_7 (by decide) ?_
      obtain ⟨J100, h100, w1⟩ := w6_
      have b100 : J100  → G SC r X s6 Z0 [] [(0, .ref (r 3)), (1, .int x1_6), (3, .int x3_6)] [] 100 := by
        intro   w100_
        have w100_ := h100   w100_
        refine g_iload_n hF d_X3_parameters_100 rfl 2 rfl ?_
        refine g_if_eq hF 108 d_X3_parameters_101 (by decide) rfl (fun c => ?_) (fun c => ?_)
        · have w2 := w100_.1 c
          refine g_iload_n hF d_X3_parameters_108 rfl 1 rfl ?_
          exact g_iret hF rfl d_X3_parameters_109 ⟨rfl, rfl, x1_6, rfl, w2⟩
        · have w3 := w100_.2 c
          refine g_aload_n hF d_X3_parameters_104 rfl 0 rfl ?_
          refine g_callV (As := []) (rest := []) hF (fun l D cy => kt_X3_fail a r w3 l D cy) (Nat.le_of_ble_eq_true rfl) mV_X3_fail m_907 (recv_ob obC_3) rfl rfl (Nat.le_of_ble_eq_true rfl) d_X3_parameters_105 (qV (fun s105 w4 => ?_)) (fun _ _ _ h => h.elim)
          refine g_iload_n hF d_X3_parameters_108 rfl 1 rfl ?_
          exact g_iret hF rfl d_X3_parameters_109 ⟨rfl, rfl, x1_6, rfl, w4⟩
      refine g_icmp_ge (yv := 8) hF 100 d_X3_parameters_9 (by decide) rfl (by decide) (fun c => ?_) (fun c => ?_)
      · have w5 := w1.1 c
        exact g_sub (L' := [(0, .ref (r 3)), (1, .int x1_6), (3, .int x3_6)]) [0, 1, 3] rfl (b100  w5)
      · have w6 := w1.2 c
        refine g_iload_n hF d_X3_parameters_12 rfl 3 rfl ?_
        refine g_if_eq hF 100 d_X3_parameters_13 (by decide) rfl (fun c => ?_) (fun c => ?_)
        · have w7 := w6.1 c
          exact g_sub (L' := [(0, .ref (r 3)), (1, .int x1_6), (3, .int x3_6)]) [0, 1, 3] rfl (b100  w7)
        · have w8 := w6.2 c
          refine g_aload_n hF d_X3_parameters_16 rfl 0 rfl ?_
          refine g_iconst hF (v := 5) d_X3_parameters_17 (by decide) ?_
          refine g_callV (As := [.int 5]) (rest := []) hF (fun l D cy => kt_X3_expect a r w8 l D cy) (Nat.le_of_ble_eq_true rfl) mV_X3_expect m_903 (recv_ob obC_3) rfl rfl (Nat.le_of_ble_eq_true rfl) d_X3_parameters_18 (qV (fun s18 w9 => ?_)) (fun _ _ _ h => h.elim)
          refine g_aload_n hF d_X3_parameters_21 rfl 0 rfl ?_
          refine g_callV (As := []) (rest := []) hF (fun l D cy => kt_X3_stars a r w9 l D cy) (Nat.le_of_ble_eq_true rfl) mV_X3_stars m_911 (recv_ob obC_3) rfl rfl (Nat.le_of_ble_eq_true rfl) d_X3_parameters_22 (qI (fun v22 s22 w10 => ?_)) (fun _ _ _ h => h.elim)
          refine g_istore hF [(4, .int v22), (0, .ref (r 3)), (1, .int x1_6), (2, .int x2_6), (3, .int x3_6)] d_X3_parameters_25 hnn (by decide) rfl ?_
          refine g_aload_n hF d_X3_parameters_27 rfl 1 rfl ?_
          refine g_get (v := .int (s22 3 1)) hF 1 obC_3 (by decide) m_95 rfl d_X3_parameters_28 ?_
          refine g_istore hF [(5, .int (s22 3 1)), (4, .int v22), (0, .ref (r 3)), (1, .int x1_6), (2, .int x2_6), (3, .int x3_6)] d_X3_parameters_31 hnn (by decide) rfl ?_
          refine g_aload_n hF d_X3_parameters_33 rfl 2 rfl ?_
          refine g_iconst hF (v := 2) d_X3_parameters_34 (by decide) ?_
          refine g_callV (As := [.int 2]) (rest := []) hF (fun l D cy => kt_X3_accept a r w10 l D cy) (Nat.le_of_ble_eq_true rfl) mV_X3_accept m_966 (recv_ob obC_3) rfl rfl (Nat.le_of_ble_eq_true rfl) d_X3_parameters_35 (qZ (fun v35 s35 hz35 w11 => ?_)) (fun _ _ _ h => h.elim)
          refine g_istore hF [(6, .int v35), (5, .int (s22 3 1)), (4, .int v22), (0, .ref (r 3)), (1, .int x1_6), (2, .int x2_6), (3, .int x3_6)] d_X3_parameters_38 hnn (by decide) rfl ?_
          refine g_aload_n hF d_X3_parameters_40 rfl 3 rfl ?_
          refine g_bipush hF (v := 24) d_X3_parameters_41 (by decide) ?_
          refine g_callV (As := [.int 24]) (rest := []) hF (fun l D cy => kt_X3_accept a r w11 l D cy) (Nat.le_of_ble_eq_true rfl) mV_X3_accept m_966 (recv_ob obC_3) rfl rfl (Nat.le_of_ble_eq_true rfl) d_X3_parameters_43 (qZ (fun v43 s43 hz43 w12 => ?_)) (fun _ _ _ h => h.elim)
          obtain ⟨J58, h58, w13⟩ := w12
          have b58 : ∀ (x4_58 : Int32) (s58 : St), J58 x4_58 s58 → G SC r X s58 Z0 [] [(0, .ref (r 3)), (1, .int x1_6), (2, .int x2_6), (4, .int x4_58), (5, .int (s22 3 1)), (6, .int v35)] [] 58 := by
            intro x4_58 s58  w58_
            have w58_ := h58 x4_58 s58  w58_
            refine g_aload_n hF d_X3_parameters_58 rfl 0 rfl ?_
            refine g_get (v := .ref (r 23)) hF 11 obC_3 (by decide) m_116 rfl d_X3_parameters_59 ?_
            refine g_iload_n hF d_X3_parameters_62 rfl 2 rfl ?_
            refine g_iload hF d_X3_parameters_63 5 rfl ?_
            obtain ⟨J77, h77, w14⟩ := w58_
            have b77 : ∀ (y2_77 : Int32), J77 y2_77 → G SC r X s58 Z0 [] [(0, .ref (r 3)), (1, .int x1_6), (2, .int x2_6), (4, .int x4_58)] [.int y2_77, .int x2_6, .ref (r 23)] 77 := by
              intro y2_77  w77_
              have w77_ := h77 y2_77  w77_
              refine g_callSN (As := [.ref (r 23), .int x2_6, .int y2_77]) (rest := []) hF (c_setv a r s58 arC_23 (by decide) x2_6 y2_77) (Nat.le_of_ble_eq_true rfl) mS_X12_set nm_979 rfl rfl (Nat.le_of_ble_eq_true rfl) d_X3_parameters_77 (kU ?_)
              refine g_iload_n hF d_X3_parameters_80 rfl 1 rfl ?_
              refine g_iload hF d_X3_parameters_81 3 rfl ?_
              refine g_callSN (As := [.int x1_6, .int x4_58]) (rest := []) hF (fun l D cy => kt_X8_withParameter a r w77_ l D cy) (Nat.le_of_ble_eq_true rfl) mS_X8_withParameter nm_994 rfl rfl (Nat.le_of_ble_eq_true rfl) d_X3_parameters_83 (qIr (fun v83 w15 => ?_))
              refine g_istore_n hF [(1, .int v83), (0, .ref (r 3)), (2, .int x2_6), (4, .int x4_58)] d_X3_parameters_86 rfl hnn (by decide) rfl ?_
              refine g_aload_n hF d_X3_parameters_87 rfl 1 rfl ?_
              refine g_bipush hF (v := 26) d_X3_parameters_88 (by decide) ?_
              refine g_callV (As := [.int 26]) (rest := []) hF (fun l D cy => kt_X3_accept a r w15 l D cy) (Nat.le_of_ble_eq_true rfl) mV_X3_accept m_966 (recv_ob obC_3) rfl rfl (Nat.le_of_ble_eq_true rfl) d_X3_parameters_90 (qZ (fun v90 s90 hz90 w16 => ?_)) (fun _ _ _ h => h.elim)
              refine g_istore_n hF [(3, .int v90), (1, .int v83), (0, .ref (r 3)), (2, .int x2_6), (4, .int x4_58)] d_X3_parameters_93 rfl hnn (by decide) rfl ?_
              refine g_iinc hF (x2_6 + 1) [(2, .int (x2_6 + 1)), (3, .int v90), (1, .int v83), (0, .ref (r 3)), (4, .int x4_58)] d_X3_parameters_94 3 rfl rfl hnn (by decide) rfl ?_
              refine g_goto hF 6 d_X3_parameters_97 (by decide) ?_
              obtain ⟨m6, hm6, w9⟩ := w16
              exact g_sub (L' := [(0, .ref (r 3)), (1, .int v83), (2, .int (x2_6 + 1)), (3, .int v90)]) [3, 2, 0, 1] rfl (ih6 m6 hm6 v83 (x2_6 + 1) v90 s90 hz90 w9)
            refine g_if_eq hF 73 d_X3_parameters_65 (by decide) rfl (fun c => ?_) (fun c => ?_)
            · have w17 := w14.1 c
              refine g_aload_n hF d_X3_parameters_73 rfl 0 rfl ?_
              refine g_get (v := .int (s58 3 1)) hF 1 obC_3 (by decide) m_95 rfl d_X3_parameters_74 ?_
              exact g_sub (L' := [(0, .ref (r 3)), (1, .int x1_6), (2, .int x2_6), (4, .int x4_58)]) [0, 1, 2, 3] rfl (b77 (s58 3 1) w17)
            · have w18 := w14.2 c
              refine g_iload hF d_X3_parameters_68 4 rfl ?_
              refine g_goto hF 77 d_X3_parameters_70 (by decide) ?_
              exact g_sub (L' := [(0, .ref (r 3)), (1, .int x1_6), (2, .int x2_6), (4, .int x4_58)]) [0, 1, 2, 3] rfl (b77 (s22 3 1) w18)
          refine g_if_eq hF 58 d_X3_parameters_46 (by decide) rfl (fun c => ?_) (fun c => ?_)
          · have w19 := w13.1 c
            exact g_sub (L' := [(0, .ref (r 3)), (1, .int x1_6), (2, .int x2_6), (4, .int v22), (5, .int (s22 3 1)), (6, .int v35)]) [3, 4, 5, 2, 1, 0] rfl (b58 v22 s43 w19)
          · have w20 := w13.2 c
            refine g_aload_n hF d_X3_parameters_49 rfl 3 rfl ?_
            refine g_bipush hF (v := 25) d_X3_parameters_50 (by decide) ?_
            refine g_callV (As := [.int 25]) (rest := []) hF (fun l D cy => kt_X3_expect a r w20 l D cy) (Nat.le_of_ble_eq_true rfl) mV_X3_expect m_903 (recv_ob obC_3) rfl rfl (Nat.le_of_ble_eq_true rfl) d_X3_parameters_52 (qV (fun s52 w21 => ?_)) (fun _ _ _ h => h.elim)
            refine g_iinc hF (v22 + 1) [(4, .int (v22 + 1)), (6, .int v35), (5, .int (s22 3 1)), (0, .ref (r 3)), (1, .int x1_6), (2, .int x2_6), (3, .int x3_6)] d_X3_parameters_55 2 rfl rfl hnn (by decide) rfl ?_
            exact g_sub (L' := [(0, .ref (r 3)), (1, .int x1_6), (2, .int x2_6), (4, .int (v22 + 1)), (5, .int (s22 3 1)), (6, .int v35)]) [3, 4, 5, 0, 2, 1] rfl (b58 (v22 + 1) s52 w21)
  exact g_sub (L' := [(0, .ref (r 3)), (1, .int 0), (2, .int 0), (3, .int 1)]) [3, 2, 1, 0] rfl (b6 i6 (0 : Int32) (0 : Int32) (1 : Int32) σ (Or.inr rfl) u6)
set_option maxHeartbeats 4000000 in
set_option maxRecDepth 100000 in
theorem kt_X3_head (a : Nat → Nat) (r : Nat → Nat) {a1 : Int32} {a2 : Int32} {a3 : Int32} {σ : St} {Q : Int32 → St → Prop} (w : wk_X3_head a1 a2 a3 σ Q) (l : Launch) (D : va_G) (cy : Nat → ClassId) : Ct l D cy SC r (EC a gC) y_X3_head (Cond.code y_X3_head b_X3_head 7 (some .boolean)) 3 [.ref (r 3), .int a1, .int a2, .int a3] σ Z0 [] (QI (fun x σ9 => (x = 0 ∨ x = 1) ∧ Q x σ9)) QT0 := by
  unfold wk_X3_head at w
  refine Ct_of (EC_ok a gC) (by decide) (Nat.le_of_ble_eq_true rfl) (by decide) (fun X hnn hF => ?_)
  show G SC r X σ Z0 [] [(0, .ref (r 3)), (1, .int a1), (2, .int a2), (3, .int a3)] [] 0
  refine g_aload_n hF d_X3_head_0 rfl 0 rfl ?_
  refine g_bipush hF (v := 20) d_X3_head_1 (by decide) ?_
  refine g_callV (As := [.int 20]) (rest := []) hF (fun l D cy => kt_X3_expect a r w l D cy) (Nat.le_of_ble_eq_true rfl) mV_X3_expect m_903 (recv_ob obC_3) rfl rfl (Nat.le_of_ble_eq_true rfl) d_X3_head_3 (qV (fun s3 w1 => ?_)) (fun _ _ _ h => h.elim)
  refine g_iconst hF (v := 0) d_X3_head_6 (by decide) ?_
  refine g_istore hF [(4, .int 0), (0, .ref (r 3)), (1, .int a1), (2, .int a2), (3, .int a3)] d_X3_head_7 hnn (by decide) rfl ?_
  refine g_aload_n hF d_X3_head_9 rfl 1 rfl ?_
  refine g_get (v := .int (s3 3 2)) hF 2 obC_3 (by decide) m_96 rfl d_X3_head_10 ?_
  refine g_bipush hF (v := 6) d_X3_head_13 (by decide) ?_
  obtain ⟨J40, h40, w2⟩ := w1
  have b40 : ∀ (x4_40 : Int32) (s40 : St), J40 x4_40 s40 → G SC r X s40 Z0 [] [(0, .ref (r 3)), (1, .int a1), (2, .int a2), (3, .int a3), (4, .int x4_40)] [] 40 := by
    intro x4_40 s40  w40_
    have w40_ := h40 x4_40 s40  w40_
    refine g_aload_n hF d_X3_head_40 rfl 0 rfl ?_
    refine g_bipush hF (v := 21) d_X3_head_41 (by decide) ?_
    refine g_callV (As := [.int 21]) (rest := []) hF (fun l D cy => kt_X3_expect a r w40_ l D cy) (Nat.le_of_ble_eq_true rfl) mV_X3_expect m_903 (recv_ob obC_3) rfl rfl (Nat.le_of_ble_eq_true rfl) d_X3_head_43 (qV (fun s43 w3 => ?_)) (fun _ _ _ h => h.elim)
    refine g_aload_n hF d_X3_head_46 rfl 0 rfl ?_
    refine g_get (v := .int (s43 3 2)) hF 2 obC_3 (by decide) m_96 rfl d_X3_head_47 ?_
    refine g_bipush hF (v := 22) d_X3_head_50 (by decide) ?_
    obtain ⟨J60, h60, w4⟩ := w3
    have b60 : ∀ (y0_60 : Int32), y0_60 = 0 ∨ y0_60 = 1 → J60 y0_60 → G SC r X s43 Z0 [] [(0, .ref (r 3)), (1, .int a1), (2, .int a2), (3, .int a3), (4, .int x4_40)] [.int y0_60] 60 := by
      intro y0_60 hy0_60 w60_
      have w60_ := h60 y0_60 hy0_60 w60_
      refine g_istore hF [(5, .int y0_60), (0, .ref (r 3)), (1, .int a1), (2, .int a2), (3, .int a3), (4, .int x4_40)] d_X3_head_60 hnn (by decide) rfl ?_
      refine g_aload_n hF d_X3_head_62 rfl 1 rfl ?_
      refine g_bipush hF (v := 47) d_X3_head_63 (by decide) ?_
      refine g_iload_n hF d_X3_head_65 rfl 2 rfl ?_
      refine g_iload hF d_X3_head_66 5 rfl ?_
      refine g_iload_n hF d_X3_head_68 rfl 3 rfl ?_
      refine g_iconst hF (v := 1) d_X3_head_69 (by decide) ?_
      refine g_iadd hF d_X3_head_70 ?_
      refine g_bipush hF (v := 8) d_X3_head_71 (by decide) ?_
      refine g_imul hF d_X3_head_73 ?_
      refine g_iload_n hF d_X3_head_74 rfl 4 rfl ?_
      refine g_iadd hF d_X3_head_75 ?_
      refine g_iload hF d_X3_head_76 0 rfl ?_
      obtain ⟨J86, h86, w5⟩ := w60_
      have b86 : ∀ (y5_86 : Int32), J86 y5_86 → G SC r X s43 Z0 [] [(0, .ref (r 3)), (4, .int x4_40), (5, .int y0_60)] [.int y5_86, .int (((a2 + (1 : Int32)) * (8 : Int32)) + a3), .int x4_40, .int a1, .int 47, .ref (r 3)] 86 := by
        intro y5_86  w86_
        have w86_ := h86 y5_86  w86_
        refine g_iadd hF d_X3_head_86 ?_
        refine g_callV (As := [.int 47, .int a1, .int x4_40, .int ((((a2 + (1 : Int32)) * (8 : Int32)) + a3) + y5_86)]) (rest := []) hF (fun l D cy => kt_X3_add a r w86_ l D cy) (Nat.le_of_ble_eq_true rfl) mV_X3_add m_923 (recv_ob obC_3) rfl rfl (Nat.le_of_ble_eq_true rfl) d_X3_head_87 (qI (fun v87 s87 w6 => ?_)) (fun _ _ _ h => h.elim)
        refine g_pop hF d_X3_head_90 rfl ?_
        refine g_iload hF d_X3_head_91 2 rfl ?_
        obtain ⟨J102, h102, w7⟩ := w6
        have b102 : ∀ (s102 : St), J102 s102 → G SC r X s102 Z0 [] [(0, .ref (r 3)), (4, .int x4_40), (5, .int y0_60)] [] 102 := by
          intro s102  w102_
          have w102_ := h102 s102  w102_
          refine g_iconst hF (v := 0) d_X3_head_102 (by decide) ?_
          refine g_istore hF [(6, .int 0), (0, .ref (r 3)), (4, .int x4_40), (5, .int y0_60)] d_X3_head_103 hnn (by decide) rfl ?_
          obtain ⟨L105, ⟨i105, u105⟩, h105⟩ := w102_
          have b105 : ∀ (n105 : Nat) (x6_105 : Int32) (s105 : St), L105 n105 x6_105 s105 → G SC r X s105 Z0 [] [(0, .ref (r 3)), (4, .int x4_40), (5, .int y0_60), (6, .int x6_105)] [] 105 := by
            intro n105
            induction n105 using Nat.strongRecOn with
            | _ n105 ih105 =>
              intro x6_105 s105  w105_
              have w105_ := h105 n105 x6_105 s105  w105_
              refine g_iload hF d_X3_head_105 3 rfl ?_
              refine g_iload hF d_X3_head_107 1 rfl ?_
              refine g_callSN (As := [.int x4_40]) (rest := [.int x6_105]) hF (fun l D cy => kt_X8_parameters a r w105_ l D cy) (Nat.le_of_ble_eq_true rfl) mS_X8_parameters nm_1000 rfl rfl (Nat.le_of_ble_eq_true rfl) d_X3_head_109 (qIr (fun v109 w8 => ?_))
              refine g_icmp_ge hF 150 d_X3_head_112 (by decide) rfl rfl (fun c => ?_) (fun c => ?_)
              · have w9 := w8.1 c
                refine g_iload hF d_X3_head_150 2 rfl ?_
                exact g_zret hF rfl (k_nz hy0_60) d_X3_head_152 ⟨rfl, rfl, y0_60, rfl, hy0_60, w9⟩
              · have w10 := w8.2 c
                refine g_iload hF d_X3_head_115 2 rfl ?_
                refine g_if_eq hF 150 d_X3_head_117 (by decide) rfl (fun c => ?_) (fun c => ?_)
                · have w11 := w10.1 c
                  refine g_iload hF d_X3_head_150 2 rfl ?_
                  exact g_zret hF rfl (k_nz hy0_60) d_X3_head_152 ⟨rfl, rfl, y0_60, rfl, hy0_60, w11⟩
                · have w12 := w10.2 c
                  refine g_aload_n hF d_X3_head_120 rfl 0 rfl ?_
                  refine g_bipush hF (v := 48) d_X3_head_121 (by decide) ?_
                  refine g_aload_n hF d_X3_head_123 rfl 0 rfl ?_
                  refine g_get (v := .ref (r 23)) hF 11 obC_3 (by decide) m_116 rfl d_X3_head_124 ?_
                  refine g_iload hF d_X3_head_127 3 rfl ?_
                  refine g_callSN (As := [.ref (r 23), .int x6_105]) (rest := [.int 48, .ref (r 3)]) hF (c_atv a r s105 arC_23 (by decide) x6_105) (Nat.le_of_ble_eq_true rfl) mS_X12_at nm_947 rfl rfl (Nat.le_of_ble_eq_true rfl) d_X3_head_129 (kQ ?_)
                  refine g_top (v := (atv 8 (s105 23) x6_105)) rfl ?_
                  refine g_iload hF d_X3_head_132 1 rfl ?_
                  refine g_iload hF d_X3_head_134 3 rfl ?_
                  refine g_callSN (As := [.int x4_40, .int x6_105]) (rest := [.int (atv 8 (s105 23) x6_105), .int 48, .ref (r 3)]) hF (fun l D cy => kt_X8_parameter a r w12 l D cy) (Nat.le_of_ble_eq_true rfl) mS_X8_parameter nm_1001 rfl rfl (Nat.le_of_ble_eq_true rfl) d_X3_head_136 (qIr (fun v136 w13 => ?_))
                  refine g_iconst hF (v := 0) d_X3_head_139 (by decide) ?_
                  refine g_callV (As := [.int 48, .int (atv 8 (s105 23) x6_105), .int v136, .int 0]) (rest := []) hF (fun l D cy => kt_X3_add a r w13 l D cy) (Nat.le_of_ble_eq_true rfl) mV_X3_add m_923 (recv_ob obC_3) rfl rfl (Nat.le_of_ble_eq_true rfl) d_X3_head_140 (qI (fun v140 s140 w14 => ?_)) (fun _ _ _ h => h.elim)
                  refine g_pop hF d_X3_head_143 rfl ?_
                  refine g_iinc hF (x6_105 + 1) [(6, .int (x6_105 + 1)), (0, .ref (r 3)), (4, .int x4_40), (5, .int y0_60)] d_X3_head_144 3 rfl rfl hnn (by decide) rfl ?_
                  refine g_goto hF 105 d_X3_head_147 (by decide) ?_
                  obtain ⟨m105, hm105, w9⟩ := w14
                  exact g_sub (L' := [(0, .ref (r 3)), (4, .int x4_40), (5, .int y0_60), (6, .int (x6_105 + 1))]) [1, 2, 3, 0] rfl (ih105 m105 hm105 (x6_105 + 1) s140 w9)
          exact g_sub (L' := [(0, .ref (r 3)), (4, .int x4_40), (5, .int y0_60), (6, .int 0)]) [1, 2, 3, 0] rfl (b105 i105 (0 : Int32) s102 u105)
        refine g_if_ne hF 102 d_X3_head_93 (by decide) rfl (fun c => ?_) (fun c => ?_)
        · have w15 := w7.1 c
          exact b102 s87 w15
        · have w16 := w7.2 c
          refine g_aload_n hF d_X3_head_96 rfl 0 rfl ?_
          refine g_bipush hF (v := 27) d_X3_head_97 (by decide) ?_
          refine g_callV (As := [.int 27]) (rest := []) hF (fun l D cy => kt_X3_expect a r w16 l D cy) (Nat.le_of_ble_eq_true rfl) mV_X3_expect m_903 (recv_ob obC_3) rfl rfl (Nat.le_of_ble_eq_true rfl) d_X3_head_99 (qV (fun s99 w17 => ?_)) (fun _ _ _ h => h.elim)
          exact b102 s99 w17
      refine g_if_eq hF 85 d_X3_head_78 (by decide) rfl (fun c => ?_) (fun c => ?_)
      · have w18 := w5.1 c
        refine g_iconst hF (v := 0) d_X3_head_85 (by decide) ?_
        exact g_sub (L' := [(0, .ref (r 3)), (4, .int x4_40), (5, .int y0_60)]) [1, 5, 0] rfl (b86 (0 : Int32) w18)
      · have w19 := w5.2 c
        refine g_iconst hF (v := 4) d_X3_head_81 (by decide) ?_
        refine g_goto hF 86 d_X3_head_82 (by decide) ?_
        exact g_sub (L' := [(0, .ref (r 3)), (4, .int x4_40), (5, .int y0_60)]) [1, 5, 0] rfl (b86 (4 : Int32) w19)
    refine g_icmp_ne (yv := 22) hF 59 d_X3_head_52 (by decide) rfl (by decide) (fun c => ?_) (fun c => ?_)
    · have w20 := w4.1 c
      refine g_iconst hF (v := 0) d_X3_head_59 (by decide) ?_
      exact b60 (0 : Int32) (Or.inl rfl) w20
    · have w21 := w4.2 c
      refine g_iconst hF (v := 1) d_X3_head_55 (by decide) ?_
      refine g_goto hF 60 d_X3_head_56 (by decide) ?_
      exact b60 (1 : Int32) (Or.inr rfl) w21
  refine g_icmp_ne (yv := 6) hF 25 d_X3_head_15 (by decide) rfl (by decide) (fun c => ?_) (fun c => ?_)
  · have w22 := w2.1 c
    refine g_aload_n hF d_X3_head_25 rfl 1 rfl ?_
    refine g_get (v := .int (s3 3 2)) hF 2 obC_3 (by decide) m_96 rfl d_X3_head_26 ?_
    refine g_bipush hF (v := 21) d_X3_head_29 (by decide) ?_
    refine g_icmp_eq (yv := 21) hF 40 d_X3_head_31 (by decide) rfl (by decide) (fun c => ?_) (fun c => ?_)
    · have w23 := w22.1 c
      exact g_sub (L' := [(0, .ref (r 3)), (1, .int a1), (2, .int a2), (3, .int a3), (4, .int 0)]) [1, 2, 3, 4, 0] rfl (b40 (0 : Int32) s3 w23)
    · have w24 := w22.2 c
      refine g_aload_n hF d_X3_head_34 rfl 1 rfl ?_
      refine g_callV (As := []) (rest := []) hF (fun l D cy => kt_X3_parameters a r w24 l D cy) (Nat.le_of_ble_eq_true rfl) mV_X3_parameters m_990 (recv_ob obC_3) rfl rfl (Nat.le_of_ble_eq_true rfl) d_X3_head_35 (qI (fun v35 s35 w25 => ?_)) (fun _ _ _ h => h.elim)
      refine g_istore hF [(4, .int v35), (0, .ref (r 3)), (1, .int a1), (2, .int a2), (3, .int a3)] d_X3_head_38 hnn (by decide) rfl ?_
      exact g_sub (L' := [(0, .ref (r 3)), (1, .int a1), (2, .int a2), (3, .int a3), (4, .int v35)]) [1, 2, 3, 4, 0] rfl (b40 v35 s35 w25)
  · have w26 := w2.2 c
    refine g_aload_n hF d_X3_head_18 rfl 1 rfl ?_
    refine g_callV (As := []) (rest := []) hF (fun l D cy => kt_X3_advance a r w26 l D cy) (Nat.le_of_ble_eq_true rfl) mV_X3_advance m_899 (recv_ob obC_3) rfl rfl (Nat.le_of_ble_eq_true rfl) d_X3_head_19 (qV (fun s19 w27 => ?_)) (fun _ _ _ h => h.elim)
    refine g_goto hF 40 d_X3_head_22 (by decide) ?_
    exact g_sub (L' := [(0, .ref (r 3)), (1, .int a1), (2, .int a2), (3, .int a3), (4, .int 0)]) [1, 2, 3, 4, 0] rfl (b40 (0 : Int32) s19 w27)
