set_option maxHeartbeats 4000000 in
set_option maxRecDepth 100000 in
theorem kt_X9_print (a : Nat → Nat) (r : Nat → Nat) {a1 : Int32} {σ : St} {Q : Int32 → St → Prop} (w : wk_X9_print a1 σ Q) (l : Launch) (D : va_G) (cy : Nat → ClassId) : Ct l D cy SC r (EC a gC) y_X9_print (Cond.code y_X9_print b_X9_print 7 (some .boolean)) 1 [.ref (r 11), .int a1] σ Z0 [] (QI (fun x σ9 => (x = 0 ∨ x = 1) ∧ Q x σ9)) QT0 := by
  unfold wk_X9_print at w
  refine Ct_of (EC_ok a gC) (by decide) (Nat.le_of_ble_eq_true rfl) (by decide) (fun X hnn hF => ?_)
  show G SC r X σ Z0 [] [(0, .ref (r 11)), (1, .int a1)] [] 0
  refine g_iload_n hF d_X9_print_0 rfl 1 rfl ?_
  refine g_i2l hF d_X9_print_1 ?_
  refine g_mabs_long hF (Nat.le_of_ble_eq_true rfl) m_1718 m_1719 m_23 m_1720 (Nat.le_of_ble_eq_true rfl) d_X9_print_2 ?_
  refine g_lstore_n hF [(2, .long (if 0 < a1.toInt64 then a1.toInt64 else -a1.toInt64)), (0, .ref (r 11)), (1, .int a1)] d_X9_print_5 rfl hnn (by decide) rfl ?_
  refine g_lconst hF (v := 1) d_X9_print_6 (by decide) ?_
  refine g_lstore hF [(4, .long 1), (2, .long (if 0 < a1.toInt64 then a1.toInt64 else -a1.toInt64)), (0, .ref (r 11)), (1, .int a1)] d_X9_print_7 hnn (by decide) rfl ?_
  refine g_iconst hF (v := 0) d_X9_print_9 (by decide) ?_
  refine g_istore hF [(6, .int 0), (4, .long 1), (2, .long (if 0 < a1.toInt64 then a1.toInt64 else -a1.toInt64)), (0, .ref (r 11)), (1, .int a1)] d_X9_print_10 hnn (by decide) rfl ?_
  obtain ⟨L12, ⟨i12, u12⟩, h12⟩ := w
  have b12 : ∀ (n12 : Nat) (x4_12 : Int64) (x6_12 : Int32), L12 n12 x4_12 x6_12 → G SC r X σ Z0 [] [(0, .ref (r 11)), (1, .int a1), (2, .long (if 0 < a1.toInt64 then a1.toInt64 else -a1.toInt64)), (4, .long x4_12), (6, .int x6_12)] [] 12 := by
    intro n12
    induction n12 using Nat.strongRecOn with
    | _ n12 ih12 =>
      intro x4_12 x6_12  w12_
      have w12_ := h12 n12 x4_12 x6_12  w12_
      refine g_iload hF d_X9_print_12 4 rfl ?_
      refine g_bipush hF (v := 10) d_X9_print_14 (by decide) ?_
      obtain ⟨J44, h44, w1⟩ := w12_
      have b44 : J44  → G SC r X σ Z0 [] [(0, .ref (r 11)), (1, .int a1), (2, .long (if 0 < a1.toInt64 then a1.toInt64 else -a1.toInt64)), (4, .long x4_12)] [] 44 := by
        intro   w44_
        have w44_ := h44   w44_
        refine g_iload_n hF d_X9_print_44 rfl 1 rfl ?_
        obtain ⟨J62, h62, w2⟩ := w44_
        have b62 : ∀ (y0_62 : Int32) (s62 : St), y0_62 = 0 ∨ y0_62 = 1 → J62 y0_62 s62 → G SC r X s62 Z0 [] [(0, .ref (r 11)), (2, .long (if 0 < a1.toInt64 then a1.toInt64 else -a1.toInt64)), (4, .long x4_12)] [.int y0_62] 62 := by
          intro y0_62 s62 hy0_62 w62_
          have w62_ := h62 y0_62 s62 hy0_62 w62_
          refine g_istore hF [(6, .int y0_62), (0, .ref (r 11)), (2, .long (if 0 < a1.toInt64 then a1.toInt64 else -a1.toInt64)), (4, .long x4_12)] d_X9_print_62 hnn (by decide) rfl ?_
          obtain ⟨L64, ⟨i64, u64⟩, h64⟩ := w62_
          have b64 : ∀ (n64 : Nat) (x4_64 : Int64) (x6_64 : Int32) (s64 : St), x6_64 = 0 ∨ x6_64 = 1 → L64 n64 x4_64 x6_64 s64 → G SC r X s64 Z0 [] [(0, .ref (r 11)), (2, .long (if 0 < a1.toInt64 then a1.toInt64 else -a1.toInt64)), (4, .long x4_64), (6, .int x6_64)] [] 64 := by
            intro n64
            induction n64 using Nat.strongRecOn with
            | _ n64 ih64 =>
              intro x4_64 x6_64 s64 hx6_64 w64_
              have w64_ := h64 n64 x4_64 x6_64 s64 hx6_64 w64_
              refine g_lload hF d_X9_print_64 2 rfl ?_
              refine g_lconst hF (v := 0) d_X9_print_66 (by decide) ?_
              refine g_lcmp hF d_X9_print_67 ?_
              refine g_if_le hF 106 d_X9_print_68 (by decide) rfl (fun c => ?_) (fun c => ?_)
              · have w3 := w64_.1 c
                refine g_iload hF d_X9_print_106 3 rfl ?_
                exact g_zret hF rfl (k_nz hx6_64) d_X9_print_108 ⟨rfl, rfl, x6_64, rfl, hx6_64, w3⟩
              · have w4 := w64_.2 c
                refine g_iload hF d_X9_print_71 3 rfl ?_
                refine g_if_eq hF 106 d_X9_print_73 (by decide) rfl (fun c => ?_) (fun c => ?_)
                · have w5 := w4.1 c
                  refine g_iload hF d_X9_print_106 3 rfl ?_
                  exact g_zret hF rfl (k_nz hx6_64) d_X9_print_108 ⟨rfl, rfl, x6_64, rfl, hx6_64, w5⟩
                · have w6 := w4.2 c
                  refine g_aload_n hF d_X9_print_76 rfl 0 rfl ?_
                  refine g_ldc2 hF (v := 48) m_1723 d_X9_print_77 ?_
                  refine g_lload_n hF d_X9_print_80 rfl 1 rfl ?_
                  refine g_lload hF d_X9_print_81 2 rfl ?_
                  have w7 := w6.2
                  refine g_ldiv hF d_X9_print_83 w6.1 ?_
                  refine g_ldc2 hF (v := 10) m_1721 d_X9_print_84 ?_
                  refine g_lrem hF d_X9_print_87 (by decide) ?_
                  refine g_ladd hF d_X9_print_88 ?_
                  refine g_l2i hF d_X9_print_89 ?_
                  refine g_callV (As := [.int ((48 : Int64) + (((if 0 < a1.toInt64 then a1.toInt64 else -a1.toInt64) / x4_64) - ((if 0 < a1.toInt64 then a1.toInt64 else -a1.toInt64) / x4_64) / (10 : Int64) * (10 : Int64))).toInt32]) (rest := []) hF (fun l D cy => kt_X9_put a r w7 l D cy) (Nat.le_of_ble_eq_true rfl) mV_X9_put m_1722 (recv_ob obC_11) rfl rfl (Nat.le_of_ble_eq_true rfl) d_X9_print_90 (qZ (fun v90 s90 hz90 w8 => ?_)) (fun _ _ _ h => h.elim)
                  refine g_istore hF [(6, .int v90), (0, .ref (r 11)), (2, .long (if 0 < a1.toInt64 then a1.toInt64 else -a1.toInt64)), (4, .long x4_64)] d_X9_print_93 hnn (by decide) rfl ?_
                  refine g_lload hF d_X9_print_95 3 rfl ?_
                  refine g_ldc2 hF (v := 10) m_1721 d_X9_print_97 ?_
                  refine g_ldiv hF d_X9_print_100 (by decide) ?_
                  refine g_lstore hF [(4, .long (x4_64 / (10 : Int64))), (6, .int v90), (0, .ref (r 11)), (2, .long (if 0 < a1.toInt64 then a1.toInt64 else -a1.toInt64))] d_X9_print_101 hnn (by decide) rfl ?_
                  refine g_goto hF 64 d_X9_print_103 (by decide) ?_
                  obtain ⟨m64, hm64, w9⟩ := w8
                  exact g_sub (L' := [(0, .ref (r 11)), (2, .long (if 0 < a1.toInt64 then a1.toInt64 else -a1.toInt64)), (4, .long (x4_64 / (10 : Int64))), (6, .int v90)]) [2, 3, 0, 1] rfl (ih64 m64 hm64 (x4_64 / (10 : Int64)) v90 s90 hz90 w9)
          exact g_sub (L' := [(0, .ref (r 11)), (2, .long (if 0 < a1.toInt64 then a1.toInt64 else -a1.toInt64)), (4, .long x4_12), (6, .int y0_62)]) [1, 2, 3, 0] rfl (b64 i64 x4_12 y0_62 s62 hy0_62 u64)
        obtain ⟨J57, h57, w9⟩ := w2
        have b57 : ∀ (s57 : St), J57 s57 → G SC r X s57 Z0 [] [(0, .ref (r 11)), (2, .long (if 0 < a1.toInt64 then a1.toInt64 else -a1.toInt64)), (4, .long x4_12)] [] 57 := by
          intro s57  w57_
          have w57_ := h57 s57  w57_
          refine g_iconst hF (v := 1) d_X9_print_57 (by decide) ?_
          refine g_goto hF 62 d_X9_print_58 (by decide) ?_
          exact b62 (1 : Int32) s57 (Or.inr rfl) w57_
        refine g_if_ge hF 57 d_X9_print_45 (by decide) rfl (fun c => ?_) (fun c => ?_)
        · have w10 := w9.1 c
          exact g_sub (L' := [(0, .ref (r 11)), (2, .long (if 0 < a1.toInt64 then a1.toInt64 else -a1.toInt64)), (4, .long x4_12)]) [0, 2, 3] rfl (b57 σ w10)
        · have w11 := w9.2 c
          refine g_aload_n hF d_X9_print_48 rfl 0 rfl ?_
          refine g_bipush hF (v := 45) d_X9_print_49 (by decide) ?_
          refine g_callV (As := [.int 45]) (rest := []) hF (fun l D cy => kt_X9_put a r w11 l D cy) (Nat.le_of_ble_eq_true rfl) mV_X9_put m_1722 (recv_ob obC_11) rfl rfl (Nat.le_of_ble_eq_true rfl) d_X9_print_51 (qZ (fun v51 s51 hz51 w12 => ?_)) (fun _ _ _ h => h.elim)
          refine g_if_eq hF 61 d_X9_print_54 (by decide) rfl (fun c => ?_) (fun c => ?_)
          · have w13 := w12.1 c
            refine g_iconst hF (v := 0) d_X9_print_61 (by decide) ?_
            exact g_sub (L' := [(0, .ref (r 11)), (2, .long (if 0 < a1.toInt64 then a1.toInt64 else -a1.toInt64)), (4, .long x4_12)]) [0, 2, 3] rfl (b62 (0 : Int32) s51 (Or.inl rfl) w13)
          · have w14 := w12.2 c
            exact g_sub (L' := [(0, .ref (r 11)), (2, .long (if 0 < a1.toInt64 then a1.toInt64 else -a1.toInt64)), (4, .long x4_12)]) [0, 2, 3] rfl (b57 s51 w14)
      refine g_icmp_ge (yv := 10) hF 44 d_X9_print_16 (by decide) rfl (by decide) (fun c => ?_) (fun c => ?_)
      · have w15 := w1.1 c
        exact g_sub (L' := [(0, .ref (r 11)), (1, .int a1), (2, .long (if 0 < a1.toInt64 then a1.toInt64 else -a1.toInt64)), (4, .long x4_12)]) [0, 1, 2, 3] rfl (b44  w15)
      · have w16 := w1.2 c
        refine g_lload hF d_X9_print_19 3 rfl ?_
        refine g_ldc2 hF (v := 10) m_1721 d_X9_print_21 ?_
        refine g_lmul hF d_X9_print_24 ?_
        refine g_lload_n hF d_X9_print_25 rfl 2 rfl ?_
        refine g_lcmp hF d_X9_print_26 ?_
        refine g_if_gt hF 44 d_X9_print_27 (by decide) rfl (fun c => ?_) (fun c => ?_)
        · have w17 := w16.1 c
          exact g_sub (L' := [(0, .ref (r 11)), (1, .int a1), (2, .long (if 0 < a1.toInt64 then a1.toInt64 else -a1.toInt64)), (4, .long x4_12)]) [0, 1, 2, 3] rfl (b44  w17)
        · have w18 := w16.2 c
          refine g_lload hF d_X9_print_30 3 rfl ?_
          refine g_ldc2 hF (v := 10) m_1721 d_X9_print_32 ?_
          refine g_lmul hF d_X9_print_35 ?_
          refine g_lstore hF [(4, .long (x4_12 * (10 : Int64))), (0, .ref (r 11)), (1, .int a1), (2, .long (if 0 < a1.toInt64 then a1.toInt64 else -a1.toInt64)), (6, .int x6_12)] d_X9_print_36 hnn (by decide) rfl ?_
          refine g_iinc hF (x6_12 + 1) [(6, .int (x6_12 + 1)), (4, .long (x4_12 * (10 : Int64))), (0, .ref (r 11)), (1, .int a1), (2, .long (if 0 < a1.toInt64 then a1.toInt64 else -a1.toInt64))] d_X9_print_38 4 rfl rfl hnn (by decide) rfl ?_
          refine g_goto hF 12 d_X9_print_41 (by decide) ?_
          obtain ⟨m12, hm12, w9⟩ := w18
          exact g_sub (L' := [(0, .ref (r 11)), (1, .int a1), (2, .long (if 0 < a1.toInt64 then a1.toInt64 else -a1.toInt64)), (4, .long (x4_12 * (10 : Int64))), (6, .int (x6_12 + 1))]) [2, 3, 4, 1, 0] rfl (ih12 m12 hm12 (x4_12 * (10 : Int64)) (x6_12 + 1) w9)
  exact g_sub (L' := [(0, .ref (r 11)), (1, .int a1), (2, .long (if 0 < a1.toInt64 then a1.toInt64 else -a1.toInt64)), (4, .long 1), (6, .int 0)]) [3, 4, 2, 1, 0] rfl (b12 i12 (1 : Int64) (0 : Int32) u12)
set_option maxHeartbeats 4000000 in
set_option maxRecDepth 100000 in
theorem kt_X9_next (a : Nat → Nat) (r : Nat → Nat) {σ : St} {Q : Int32 → St → Prop} (w : wk_X9_next  σ Q) (l : Launch) (D : va_G) (cy : Nat → ClassId) : Ct l D cy SC r (EC a gC) y_X9_next (Cond.code y_X9_next b_X9_next 1 (some .int)) 0 [.ref (r 11)] σ Z0 [] (QI Q) QT0 := by
  unfold wk_X9_next at w
  refine Ct_of (EC_ok a gC) (by decide) (Nat.le_of_ble_eq_true rfl) (by decide) (fun X hnn hF => ?_)
  show G SC r X σ Z0 [] [(0, .ref (r 11))] [] 0
  refine g_aload_n hF d_X9_next_0 rfl 0 rfl ?_
  refine g_get (v := .int (σ 11 1)) hF 1 obC_11 (by decide) m_647 rfl d_X9_next_1 ?_
  refine g_if_lt hF 30 d_X9_next_4 (by decide) rfl (fun c => ?_) (fun c => ?_)
  · have w1 := w.1 c
    refine g_iconst hF (v := (-1)) d_X9_next_30 (by decide) ?_
    exact g_iret hF rfl d_X9_next_31 ⟨rfl, rfl, ((-1) : Int32), rfl, w1⟩
  · have w2 := w.2 c
    refine g_aload_n hF d_X9_next_7 rfl 0 rfl ?_
    refine g_get (v := .int (σ 11 1)) hF 1 obC_11 (by decide) m_647 rfl d_X9_next_8 ?_
    refine g_aload_n hF d_X9_next_11 rfl 0 rfl ?_
    refine g_get (v := .int (σ 11 0)) hF 0 obC_11 (by decide) m_646 rfl d_X9_next_12 ?_
    refine g_icmp_ge hF 30 d_X9_next_15 (by decide) rfl rfl (fun c => ?_) (fun c => ?_)
    · have w3 := w2.1 c
      refine g_iconst hF (v := (-1)) d_X9_next_30 (by decide) ?_
      exact g_iret hF rfl d_X9_next_31 ⟨rfl, rfl, ((-1) : Int32), rfl, w3⟩
    · have w4 := w2.2 c
      refine g_aload_n hF d_X9_next_18 rfl 0 rfl ?_
      refine g_get (v := .int (σ 11 1)) hF 1 obC_11 (by decide) m_647 rfl d_X9_next_19 ?_
      refine g_aload_n hF d_X9_next_22 rfl 0 rfl ?_
      refine g_get (v := .ref (r 60)) hF 3 obC_11 (by decide) m_650 rfl d_X9_next_23 ?_
      refine g_alen hF arC_60 (fun _ => ⟨0, _, rfl⟩) (v := 4096) (by decide) d_X9_next_26 ?_
      refine g_icmp_lt (yv := 4096) hF 32 d_X9_next_27 (by decide) rfl (by decide) (fun c => ?_) (fun c => ?_)
      · have w5 := w4.1 c
        refine g_aload_n hF d_X9_next_32 rfl 0 rfl ?_
        refine g_dup hF d_X9_next_33 rfl ?_
        refine g_get (v := .int (σ 11 1)) hF 1 obC_11 (by decide) m_647 rfl d_X9_next_34 ?_
        refine g_iconst hF (v := 1) d_X9_next_37 (by decide) ?_
        refine g_iadd hF d_X9_next_38 ?_
        refine g_put (v := ((σ 11 1) + (1 : Int32))) hF 1 obC_11 (by decide) m_647 rfl rfl rfl d_X9_next_39 ?_
        refine g_aload_n hF d_X9_next_42 rfl 0 rfl ?_
        refine g_get (v := .ref (r 60)) hF 3 obC_11 (by decide) m_650 rfl d_X9_next_43 ?_
        refine g_aload_n hF d_X9_next_46 rfl 0 rfl ?_
        refine g_get (v := .int ((σ 11 1) + (1 : Int32))) hF 1 obC_11 (by decide) m_647 rfl d_X9_next_47 ?_
        refine g_iconst hF (v := 1) d_X9_next_50 (by decide) ?_
        refine g_isub hF d_X9_next_51 ?_
        have w6 := w5.2
        refine g_bald hF arC_60 (s_in (Nat.le_of_ble_eq_true rfl) w5.1.1 w5.1.2) d_X9_next_52 ?_
        refine g_top (v := (σ 60 (((σ 11 1) + (1 : Int32)) - (1 : Int32)).toNatClampNeg)) rfl ?_
        refine g_sipush hF (v := 255) d_X9_next_53 (by decide) ?_
        refine g_iand hF d_X9_next_56 ?_
        exact g_iret hF rfl d_X9_next_57 ⟨rfl, rfl, ((σ 60 (((σ 11 1) + (1 : Int32)) - (1 : Int32)).toNatClampNeg) &&& (255 : Int32)), rfl, w6⟩
      · have w7 := w4.2 c
        refine g_iconst hF (v := (-1)) d_X9_next_30 (by decide) ?_
        exact g_iret hF rfl d_X9_next_31 ⟨rfl, rfl, ((-1) : Int32), rfl, w7⟩
set_option maxHeartbeats 4000000 in
set_option maxRecDepth 100000 in
theorem kt_X5_useLibrary (a : Nat → Nat) (r : Nat → Nat) {a1 : Int32} {a2 : Int32} {σ : St} {Q : St → Prop} (w : wk_X5_useLibrary a1 a2 σ Q) (l : Launch) (D : va_G) (cy : Nat → ClassId) : Ct l D cy SC r (EC a gC) y_X5_useLibrary (Cond.code y_X5_useLibrary b_X5_useLibrary 4 none) 2 [.ref (r 12), .int a1, .int a2] σ Z0 [] (QV Q) QT0 := by
  unfold wk_X5_useLibrary at w
  refine Ct_of (EC_ok a gC) (by decide) (Nat.le_of_ble_eq_true rfl) (by decide) (fun X hnn hF => ?_)
  show G SC r X σ Z0 [] [(0, .ref (r 12)), (1, .int a1), (2, .int a2)] [] 0
  refine g_iload_n hF d_X5_useLibrary_0 rfl 1 rfl ?_
  obtain ⟨J12, h12, w1⟩ := w
  have b12 : ∀ (y0_12 : Int32) (s12 : St), J12 y0_12 s12 → G SC r X s12 Z0 [] [(0, .ref (r 12)), (1, .int a1), (2, .int a2)] [.int y0_12] 12 := by
    intro y0_12 s12  w12_
    have w12_ := h12 y0_12 s12  w12_
    refine g_istore_n hF [(3, .int y0_12), (0, .ref (r 12)), (1, .int a1), (2, .int a2)] d_X5_useLibrary_12 rfl hnn (by decide) rfl ?_
    refine g_aload_n hF d_X5_useLibrary_13 rfl 1 rfl ?_
    refine g_iload_n hF d_X5_useLibrary_14 rfl 2 rfl ?_
    obtain ⟨J29, h29, w2⟩ := w12_
    have b29 : ∀ (y1_29 : Int32) (s29 : St), J29 y1_29 s29 → G SC r X s29 Z0 [] [(0, .ref (r 12)), (1, .int a1), (2, .int a2), (3, .int y0_12)] [.int y1_29, .ref (r 12)] 29 := by
      intro y1_29 s29  w29_
      have w29_ := h29 y1_29 s29  w29_
      refine g_callV (As := [.int y1_29]) (rest := []) hF (fun l D cy => kt_X5_push a r w29_ l D cy) (Nat.le_of_ble_eq_true rfl) mV_X5_push m_1686 (recv_ob obC_12) rfl rfl (Nat.le_of_ble_eq_true rfl) d_X5_useLibrary_29 (qV (fun s29 w3 => ?_)) (fun _ _ _ h => h.elim)
      refine g_iload_n hF d_X5_useLibrary_32 rfl 1 rfl ?_
      refine g_iconst hF (v := 1) d_X5_useLibrary_33 (by decide) ?_
      obtain ⟨J64, h64, w4⟩ := w3
      have b64 : ∀ (s64 : St), J64 s64 → G SC r X s64 Z0 [] [(0, .ref (r 12)), (2, .int a2)] [] 64 := by
        intro s64  w64_
        have w64_ := h64 s64  w64_
        refine g_aload_n hF d_X5_useLibrary_64 rfl 0 rfl ?_
        refine g_bipush hF (v := 6) d_X5_useLibrary_65 (by decide) ?_
        refine g_iload_n hF d_X5_useLibrary_67 rfl 1 rfl ?_
        refine g_callV (As := [.int 6, .int a2]) (rest := []) hF (fun l D cy => kt_X5_fail a r w64_ l D cy) (Nat.le_of_ble_eq_true rfl) mV_X5_fail m_1656 (recv_ob obC_12) rfl rfl (Nat.le_of_ble_eq_true rfl) d_X5_useLibrary_68 (qV (fun s68 w5 => ?_)) (fun _ _ _ h => h.elim)
        refine g_goto hF 89 d_X5_useLibrary_71 (by decide) ?_
        exact g_vret hF rfl d_X5_useLibrary_89 ⟨rfl, rfl, rfl, w5⟩
      obtain ⟨J48, h48, w6⟩ := w4
      have b48 : ∀ (s48 : St), J48 s48 → G SC r X s48 Z0 [] [(0, .ref (r 12)), (1, .int a1), (2, .int a2), (3, .int y0_12)] [] 48 := by
        intro s48  w48_
        have w48_ := h48 s48  w48_
        refine g_iload_n hF d_X5_useLibrary_48 rfl 1 rfl ?_
        refine g_iconst hF (v := 2) d_X5_useLibrary_49 (by decide) ?_
        obtain ⟨J74, h74, w7⟩ := w48_
        have b74 : ∀ (s74 : St), J74 s74 → G SC r X s74 Z0 [] [(0, .ref (r 12)), (1, .int a1), (3, .int y0_12)] [] 74 := by
          intro s74  w74_
          have w74_ := h74 s74  w74_
          refine g_iload_n hF d_X5_useLibrary_74 rfl 1 rfl ?_
          refine g_iconst hF (v := 3) d_X5_useLibrary_75 (by decide) ?_
          refine g_icmp_ne (yv := 3) hF 89 d_X5_useLibrary_76 (by decide) rfl (by decide) (fun c => ?_) (fun c => ?_)
          · have w8 := w74_.1 c
            exact g_vret hF rfl d_X5_useLibrary_89 ⟨rfl, rfl, rfl, w8⟩
          · have w9 := w74_.2 c
            refine g_aload_n hF d_X5_useLibrary_79 rfl 0 rfl ?_
            refine g_iload_n hF d_X5_useLibrary_80 rfl 2 rfl ?_
            refine g_put (v := y0_12) hF 15 obC_12 (by decide) m_688 rfl rfl rfl d_X5_useLibrary_81 ?_
            refine g_aload_n hF d_X5_useLibrary_84 rfl 0 rfl ?_
            refine g_iconst hF (v := 5) d_X5_useLibrary_85 (by decide) ?_
            refine g_put (v := 5) hF 13 obC_12 (by decide) m_685 rfl rfl rfl d_X5_useLibrary_86 ?_
            exact g_vret hF rfl d_X5_useLibrary_89 ⟨rfl, rfl, rfl, w9⟩
        refine g_icmp_ne (yv := 2) hF 74 d_X5_useLibrary_50 (by decide) rfl (by decide) (fun c => ?_) (fun c => ?_)
        · have w10 := w7.1 c
          exact g_sub (L' := [(0, .ref (r 12)), (1, .int a1), (3, .int y0_12)]) [0, 1, 3] rfl (b74 s48 w10)
        · have w11 := w7.2 c
          refine g_aload_n hF d_X5_useLibrary_53 rfl 0 rfl ?_
          refine g_get (v := .ref (r 11)) hF 2 obC_12 (by decide) m_673 rfl d_X5_useLibrary_54 ?_
          refine g_iload_n hF d_X5_useLibrary_57 rfl 3 rfl ?_
          refine g_callVN (As := [.int y0_12]) (rest := []) hF (fun l D cy => kt_X9_print a r w11 l D cy) (Nat.le_of_ble_eq_true rfl) mV_X9_print nm_1714 (recv_ob obC_11) rfl rfl (Nat.le_of_ble_eq_true rfl) d_X5_useLibrary_58 (qZ (fun v58 s58 hz58 w12 => ?_))
          refine g_if_ne hF 74 d_X5_useLibrary_61 (by decide) rfl (fun c => ?_) (fun c => ?_)
          · have w13 := w12.1 c
            exact g_sub (L' := [(0, .ref (r 12)), (1, .int a1), (3, .int y0_12)]) [0, 1, 3] rfl (b74 s58 w13)
          · have w14 := w12.2 c
            exact g_sub (L' := [(0, .ref (r 12)), (2, .int a2)]) [0, 2] rfl (b64 s58 w14)
      refine g_icmp_ne (yv := 1) hF 48 d_X5_useLibrary_34 (by decide) rfl (by decide) (fun c => ?_) (fun c => ?_)
      · have w15 := w6.1 c
        exact b48 s29 w15
      · have w16 := w6.2 c
        refine g_aload_n hF d_X5_useLibrary_37 rfl 0 rfl ?_
        refine g_get (v := .ref (r 11)) hF 2 obC_12 (by decide) m_673 rfl d_X5_useLibrary_38 ?_
        refine g_iload_n hF d_X5_useLibrary_41 rfl 3 rfl ?_
        refine g_callVN (As := [.int y0_12]) (rest := []) hF (fun l D cy => kt_X9_put a r w16 l D cy) (Nat.le_of_ble_eq_true rfl) mV_X9_put nm_1710 (recv_ob obC_11) rfl rfl (Nat.le_of_ble_eq_true rfl) d_X5_useLibrary_42 (qZ (fun v42 s42 hz42 w17 => ?_))
        refine g_if_eq hF 64 d_X5_useLibrary_45 (by decide) rfl (fun c => ?_) (fun c => ?_)
        · have w18 := w17.1 c
          exact g_sub (L' := [(0, .ref (r 12)), (2, .int a2)]) [0, 2] rfl (b64 s42 w18)
        · have w19 := w17.2 c
          exact b48 s42 w19
    refine g_if_ne hF 28 d_X5_useLibrary_15 (by decide) rfl (fun c => ?_) (fun c => ?_)
    · have w20 := w2.1 c
      refine g_iconst hF (v := 0) d_X5_useLibrary_28 (by decide) ?_
      exact g_sub (L' := [(0, .ref (r 12)), (1, .int a1), (2, .int a2), (3, .int y0_12)]) [1, 2, 3, 0] rfl (b29 (0 : Int32) s12 w20)
    · have w21 := w2.2 c
      refine g_aload_n hF d_X5_useLibrary_18 rfl 1 rfl ?_
      refine g_get (v := .ref (r 11)) hF 2 obC_12 (by decide) m_673 rfl d_X5_useLibrary_19 ?_
      refine g_callVN (As := []) (rest := [.ref (r 12)]) hF (fun l D cy => kt_X9_next a r w21 l D cy) (Nat.le_of_ble_eq_true rfl) mV_X9_next nm_1706 (recv_ob obC_11) rfl rfl (Nat.le_of_ble_eq_true rfl) d_X5_useLibrary_22 (qI (fun v22 s22 w22 => ?_))
      refine g_goto hF 29 d_X5_useLibrary_25 (by decide) ?_
      exact g_sub (L' := [(0, .ref (r 12)), (1, .int a1), (2, .int a2), (3, .int y0_12)]) [1, 2, 3, 0] rfl (b29 v22 s22 w22)
  refine g_if_ne hF 8 d_X5_useLibrary_1 (by decide) rfl (fun c => ?_) (fun c => ?_)
  · have w23 := w1.1 c
    refine g_aload_n hF d_X5_useLibrary_8 rfl 0 rfl ?_
    refine g_callV (As := []) (rest := []) hF (fun l D cy => kt_X5_pop a r w23 l D cy) (Nat.le_of_ble_eq_true rfl) mV_X5_pop m_1681 (recv_ob obC_12) rfl rfl (Nat.le_of_ble_eq_true rfl) d_X5_useLibrary_9 (qI (fun v9 s9 w24 => ?_)) (fun _ _ _ h => h.elim)
    exact b12 v9 s9 w24
  · have w25 := w1.2 c
    refine g_iconst hF (v := 0) d_X5_useLibrary_4 (by decide) ?_
    refine g_goto hF 12 d_X5_useLibrary_5 (by decide) ?_
    exact b12 (0 : Int32) σ w25
set_option maxHeartbeats 4000000 in
set_option maxRecDepth 100000 in
theorem kt_X5_call (a : Nat → Nat) (r : Nat → Nat) {a1 : Int32} {a2 : Int32} {σ : St} {Q : St → Prop} (w : wk_X5_call a1 a2 σ Q) (l : Launch) (D : va_G) (cy : Nat → ClassId) : Ct l D cy SC r (EC a gC) y_X5_call (Cond.code y_X5_call b_X5_call 3 none) 3 [.ref (r 12), .int a1, .int a2] σ Z0 [] (QV Q) QT0 := by
  unfold wk_X5_call at w
  refine Ct_of (EC_ok a gC) (by decide) (Nat.le_of_ble_eq_true rfl) (by decide) (fun X hnn hF => ?_)
  show G SC r X σ Z0 [] [(0, .ref (r 12)), (1, .int a1), (2, .int a2)] [] 0
  refine g_iload_n hF d_X5_call_0 rfl 1 rfl ?_
  refine g_if_lt hF 13 d_X5_call_1 (by decide) rfl (fun c => ?_) (fun c => ?_)
  · have w1 := w.1 c
    refine g_aload_n hF d_X5_call_13 rfl 0 rfl ?_
    refine g_iconst hF (v := (-1)) d_X5_call_14 (by decide) ?_
    refine g_iload_n hF d_X5_call_15 rfl 1 rfl ?_
    refine g_isub hF d_X5_call_16 ?_
    refine g_iload_n hF d_X5_call_17 rfl 2 rfl ?_
    refine g_callV (As := [.int (((-1) : Int32) - a1), .int a2]) (rest := []) hF (fun l D cy => kt_X5_useLibrary a r w1 l D cy) (Nat.le_of_ble_eq_true rfl) mV_X5_useLibrary m_1702 (recv_ob obC_12) rfl rfl (Nat.le_of_ble_eq_true rfl) d_X5_call_18 (qV (fun s18 w2 => ?_)) (fun _ _ _ h => h.elim)
    exact g_vret hF rfl d_X5_call_21 ⟨rfl, rfl, rfl, w2⟩
  · have w3 := w.2 c
    refine g_aload_n hF d_X5_call_4 rfl 0 rfl ?_
    refine g_iload_n hF d_X5_call_5 rfl 1 rfl ?_
    refine g_iload_n hF d_X5_call_6 rfl 2 rfl ?_
    refine g_callV (As := [.int a1, .int a2]) (rest := []) hF (fun l D cy => kt_X5_enter a r w3 l D cy) (Nat.le_of_ble_eq_true rfl) mV_X5_enter m_1648 (recv_ob obC_12) rfl rfl (Nat.le_of_ble_eq_true rfl) d_X5_call_7 (qV (fun s7 w4 => ?_)) (fun _ _ _ h => h.elim)
    refine g_goto hF 21 d_X5_call_10 (by decide) ?_
    exact g_vret hF rfl d_X5_call_21 ⟨rfl, rfl, rfl, w4⟩
set_option maxHeartbeats 4000000 in
set_option maxRecDepth 100000 in
theorem kt_X5_giveBack (a : Nat → Nat) (r : Nat → Nat) {σ : St} {Q : St → Prop} (w : wk_X5_giveBack  σ Q) (l : Launch) (D : va_G) (cy : Nat → ClassId) : Ct l D cy SC r (EC a gC) y_X5_giveBack (Cond.code y_X5_giveBack b_X5_giveBack 2 none) 2 [.ref (r 12)] σ Z0 [] (QV Q) QT0 := by
  unfold wk_X5_giveBack at w
  refine Ct_of (EC_ok a gC) (by decide) (Nat.le_of_ble_eq_true rfl) (by decide) (fun X hnn hF => ?_)
  show G SC r X σ Z0 [] [(0, .ref (r 12))] [] 0
  refine g_aload_n hF d_X5_giveBack_0 rfl 0 rfl ?_
  refine g_callV (As := []) (rest := []) hF (fun l D cy => kt_X5_pop a r w l D cy) (Nat.le_of_ble_eq_true rfl) mV_X5_pop m_1681 (recv_ob obC_12) rfl rfl (Nat.le_of_ble_eq_true rfl) d_X5_giveBack_1 (qI (fun v1 s1 w1 => ?_)) (fun _ _ _ h => h.elim)
  refine g_istore_n hF [(1, .int v1), (0, .ref (r 12))] d_X5_giveBack_4 rfl hnn (by decide) rfl ?_
  refine g_aload_n hF d_X5_giveBack_5 rfl 1 rfl ?_
  refine g_dup hF d_X5_giveBack_6 rfl ?_
  refine g_get (v := .int (s1 12 7)) hF 7 obC_12 (by decide) m_679 rfl d_X5_giveBack_7 ?_
  refine g_iconst hF (v := 1) d_X5_giveBack_10 (by decide) ?_
  refine g_isub hF d_X5_giveBack_11 ?_
  refine g_put (v := ((s1 12 7) - (1 : Int32))) hF 7 obC_12 (by decide) m_679 rfl rfl rfl d_X5_giveBack_12 ?_
  refine g_aload_n hF d_X5_giveBack_15 rfl 1 rfl ?_
  refine g_aload_n hF d_X5_giveBack_16 rfl 1 rfl ?_
  refine g_get (v := .int (s1 12 10)) hF 10 obC_12 (by decide) m_682 rfl d_X5_giveBack_17 ?_
  refine g_put (v := (s1 12 10)) hF 9 obC_12 (by decide) m_681 rfl rfl rfl d_X5_giveBack_20 ?_
  refine g_aload_n hF d_X5_giveBack_23 rfl 1 rfl ?_
  refine g_aload_n hF d_X5_giveBack_24 rfl 1 rfl ?_
  refine g_get (v := .ref (r 64)) hF 6 obC_12 (by decide) m_678 rfl d_X5_giveBack_25 ?_
  refine g_iconst hF (v := 3) d_X5_giveBack_28 (by decide) ?_
  refine g_aload_n hF d_X5_giveBack_29 rfl 1 rfl ?_
  refine g_get (v := .int ((s1 12 7) - (1 : Int32))) hF 7 obC_12 (by decide) m_679 rfl d_X5_giveBack_30 ?_
  refine g_imul hF d_X5_giveBack_33 ?_
  refine g_callSN (As := [.ref (r 64), .int ((3 : Int32) * ((s1 12 7) - (1 : Int32)))]) (rest := [.ref (r 12)]) hF (c_atv a r (upC (upC s1 12 7 ((s1 12 7) - (1 : Int32))) 12 9 (s1 12 10)) arC_64 (by decide) ((3 : Int32) * ((s1 12 7) - (1 : Int32)))) (Nat.le_of_ble_eq_true rfl) mS_X12_at nm_1660 rfl rfl (Nat.le_of_ble_eq_true rfl) d_X5_giveBack_34 (kQ ?_)
  refine g_top (v := (atv 771 (s1 64) ((3 : Int32) * ((s1 12 7) - (1 : Int32))))) rfl ?_
  refine g_put (v := (atv 771 (s1 64) ((3 : Int32) * ((s1 12 7) - (1 : Int32))))) hF 8 obC_12 (by decide) m_680 rfl rfl rfl d_X5_giveBack_37 ?_
  refine g_aload_n hF d_X5_giveBack_40 rfl 1 rfl ?_
  refine g_aload_n hF d_X5_giveBack_41 rfl 1 rfl ?_
  refine g_get (v := .ref (r 64)) hF 6 obC_12 (by decide) m_678 rfl d_X5_giveBack_42 ?_
  refine g_iconst hF (v := 3) d_X5_giveBack_45 (by decide) ?_
  refine g_aload_n hF d_X5_giveBack_46 rfl 1 rfl ?_
  refine g_get (v := .int ((s1 12 7) - (1 : Int32))) hF 7 obC_12 (by decide) m_679 rfl d_X5_giveBack_47 ?_
  refine g_imul hF d_X5_giveBack_50 ?_
  refine g_iconst hF (v := 1) d_X5_giveBack_51 (by decide) ?_
  refine g_iadd hF d_X5_giveBack_52 ?_
  refine g_callSN (As := [.ref (r 64), .int (((3 : Int32) * ((s1 12 7) - (1 : Int32))) + (1 : Int32))]) (rest := [.ref (r 12)]) hF (c_atv a r (upC (upC (upC s1 12 7 ((s1 12 7) - (1 : Int32))) 12 9 (s1 12 10)) 12 8 (atv 771 (s1 64) ((3 : Int32) * ((s1 12 7) - (1 : Int32))))) arC_64 (by decide) (((3 : Int32) * ((s1 12 7) - (1 : Int32))) + (1 : Int32))) (Nat.le_of_ble_eq_true rfl) mS_X12_at nm_1660 rfl rfl (Nat.le_of_ble_eq_true rfl) d_X5_giveBack_53 (kQ ?_)
  refine g_top (v := (atv 771 (s1 64) (((3 : Int32) * ((s1 12 7) - (1 : Int32))) + (1 : Int32)))) rfl ?_
  refine g_put (v := (atv 771 (s1 64) (((3 : Int32) * ((s1 12 7) - (1 : Int32))) + (1 : Int32)))) hF 10 obC_12 (by decide) m_682 rfl rfl rfl d_X5_giveBack_56 ?_
  refine g_aload_n hF d_X5_giveBack_59 rfl 1 rfl ?_
  refine g_aload_n hF d_X5_giveBack_60 rfl 1 rfl ?_
  refine g_get (v := .ref (r 64)) hF 6 obC_12 (by decide) m_678 rfl d_X5_giveBack_61 ?_
  refine g_iconst hF (v := 3) d_X5_giveBack_64 (by decide) ?_
  refine g_aload_n hF d_X5_giveBack_65 rfl 1 rfl ?_
  refine g_get (v := .int ((s1 12 7) - (1 : Int32))) hF 7 obC_12 (by decide) m_679 rfl d_X5_giveBack_66 ?_
  refine g_imul hF d_X5_giveBack_69 ?_
  refine g_iconst hF (v := 2) d_X5_giveBack_70 (by decide) ?_
  refine g_iadd hF d_X5_giveBack_71 ?_
  refine g_callSN (As := [.ref (r 64), .int (((3 : Int32) * ((s1 12 7) - (1 : Int32))) + (2 : Int32))]) (rest := [.ref (r 12)]) hF (c_atv a r (upC (upC (upC (upC s1 12 7 ((s1 12 7) - (1 : Int32))) 12 9 (s1 12 10)) 12 8 (atv 771 (s1 64) ((3 : Int32) * ((s1 12 7) - (1 : Int32))))) 12 10 (atv 771 (s1 64) (((3 : Int32) * ((s1 12 7) - (1 : Int32))) + (1 : Int32)))) arC_64 (by decide) (((3 : Int32) * ((s1 12 7) - (1 : Int32))) + (2 : Int32))) (Nat.le_of_ble_eq_true rfl) mS_X12_at nm_1660 rfl rfl (Nat.le_of_ble_eq_true rfl) d_X5_giveBack_72 (kQ ?_)
  refine g_top (v := (atv 771 (s1 64) (((3 : Int32) * ((s1 12 7) - (1 : Int32))) + (2 : Int32)))) rfl ?_
  refine g_put (v := (atv 771 (s1 64) (((3 : Int32) * ((s1 12 7) - (1 : Int32))) + (2 : Int32)))) hF 11 obC_12 (by decide) m_683 rfl rfl rfl d_X5_giveBack_75 ?_
  refine g_aload_n hF d_X5_giveBack_78 rfl 1 rfl ?_
  refine g_get (v := .int ((s1 12 7) - (1 : Int32))) hF 7 obC_12 (by decide) m_679 rfl d_X5_giveBack_79 ?_
  refine g_if_gt hF 98 d_X5_giveBack_82 (by decide) rfl (fun c => ?_) (fun c => ?_)
  · have w2 := w1.1 c
    refine g_aload_n hF d_X5_giveBack_98 rfl 1 rfl ?_
    refine g_iload_n hF d_X5_giveBack_99 rfl 0 rfl ?_
    refine g_callV (As := [.int v1]) (rest := []) hF (fun l D cy => kt_X5_push a r w2 l D cy) (Nat.le_of_ble_eq_true rfl) mV_X5_push m_1686 (recv_ob obC_12) rfl rfl (Nat.le_of_ble_eq_true rfl) d_X5_giveBack_100 (qV (fun s100 w3 => ?_)) (fun _ _ _ h => h.elim)
    exact g_vret hF rfl d_X5_giveBack_103 ⟨rfl, rfl, rfl, w3⟩
  · have w4 := w1.2 c
    refine g_aload_n hF d_X5_giveBack_85 rfl 1 rfl ?_
    refine g_iload_n hF d_X5_giveBack_86 rfl 0 rfl ?_
    refine g_put (v := v1) hF 15 obC_12 (by decide) m_688 rfl rfl rfl d_X5_giveBack_87 ?_
    refine g_aload_n hF d_X5_giveBack_90 rfl 1 rfl ?_
    refine g_iconst hF (v := 0) d_X5_giveBack_91 (by decide) ?_
    refine g_put (v := 0) hF 13 obC_12 (by decide) m_685 rfl rfl rfl d_X5_giveBack_92 ?_
    refine g_goto hF 103 d_X5_giveBack_95 (by decide) ?_
    exact g_vret hF rfl d_X5_giveBack_103 ⟨rfl, rfl, rfl, w4⟩
set_option maxHeartbeats 4000000 in
set_option maxRecDepth 100000 in
theorem kt_X5_lead (a : Nat → Nat) (r : Nat → Nat) {a1 : Int32} {a2 : Int32} {σ : St} {Q : St → Prop} (w : wk_X5_lead a1 a2 σ Q) (l : Launch) (D : va_G) (cy : Nat → ClassId) : Ct l D cy SC r (EC a gC) y_X5_lead (Cond.code y_X5_lead b_X5_lead 4 none) 4 [.ref (r 12), .int a1, .int a2] σ Z0 [] (QV Q) QT0 := by
  unfold wk_X5_lead at w
  refine Ct_of (EC_ok a gC) (by decide) (Nat.le_of_ble_eq_true rfl) (by decide) (fun X hnn hF => ?_)
  show G SC r X σ Z0 [] [(0, .ref (r 12)), (1, .int a1), (2, .int a2)] [] 0
  refine g_aload_n hF d_X5_lead_0 rfl 0 rfl ?_
  refine g_get (v := .ref (r 24)) hF 3 obC_12 (by decide) m_674 rfl d_X5_lead_1 ?_
  refine g_iload_n hF d_X5_lead_4 rfl 2 rfl ?_
  refine g_iconst hF (v := 1) d_X5_lead_5 (by decide) ?_
  refine g_iadd hF d_X5_lead_6 ?_
  refine g_callSN (As := [.ref (r 24), .int (a2 + (1 : Int32))]) (rest := []) hF (c_atv a r σ arC_24 (by decide) (a2 + (1 : Int32))) (Nat.le_of_ble_eq_true rfl) mS_X12_at nm_1660 rfl rfl (Nat.le_of_ble_eq_true rfl) d_X5_lead_7 (kQ ?_)
  refine g_top (v := (atv 262208 (σ 24) (a2 + (1 : Int32)))) rfl ?_
  refine g_istore_n hF [(3, .int (atv 262208 (σ 24) (a2 + (1 : Int32)))), (0, .ref (r 12)), (1, .int a1), (2, .int a2)] d_X5_lead_10 rfl hnn (by decide) rfl ?_
  refine g_iload_n hF d_X5_lead_11 rfl 2 rfl ?_
  obtain ⟨J108, h108, w1⟩ := w
  have b108 : J108  → G SC r X σ Z0 [] [(0, .ref (r 12)), (1, .int a1), (3, .int (atv 262208 (σ 24) (a2 + (1 : Int32))))] [] 108 := by
    intro   w108_
    have w108_ := h108   w108_
    refine g_aload_n hF d_X5_lead_108 rfl 0 rfl ?_
    refine g_iload_n hF d_X5_lead_109 rfl 1 rfl ?_
    refine g_bipush hF (v := 30) d_X5_lead_110 (by decide) ?_
    obtain ⟨J120, h120, w2⟩ := w108_
    have b120 : ∀ (y1_120 : Int32), y1_120 = 0 ∨ y1_120 = 1 → J120 y1_120 → G SC r X σ Z0 [] [(3, .int (atv 262208 (σ 24) (a2 + (1 : Int32))))] [.int y1_120, .ref (r 12)] 120 := by
      intro y1_120 hy1_120 w120_
      have w120_ := h120 y1_120 hy1_120 w120_
      refine g_iload_n hF d_X5_lead_120 rfl 0 rfl ?_
      refine g_callV (As := [.int y1_120, .int (atv 262208 (σ 24) (a2 + (1 : Int32)))]) (rest := []) hF (fun l D cy => kt_X5_decide a r hy1_120 w120_ l D cy) (Nat.le_of_ble_eq_true rfl) mV_X5_decide m_1694 (recv_ob obC_12) rfl rfl (Nat.le_of_ble_eq_true rfl) d_X5_lead_121 (qV (fun s121 w3 => ?_)) (fun _ _ _ h => h.elim)
      refine g_goto hF 168 d_X5_lead_124 (by decide) ?_
      exact g_vret hF rfl d_X5_lead_168 ⟨rfl, rfl, rfl, w3⟩
    refine g_icmp_ne (yv := 30) hF 119 d_X5_lead_112 (by decide) rfl (by decide) (fun c => ?_) (fun c => ?_)
    · have w4 := w2.1 c
      refine g_iconst hF (v := 0) d_X5_lead_119 (by decide) ?_
      exact g_sub (L' := [(3, .int (atv 262208 (σ 24) (a2 + (1 : Int32))))]) [2] rfl (b120 (0 : Int32) (Or.inl rfl) w4)
    · have w5 := w2.2 c
      refine g_iconst hF (v := 1) d_X5_lead_115 (by decide) ?_
      refine g_goto hF 120 d_X5_lead_116 (by decide) ?_
      exact g_sub (L' := [(3, .int (atv 262208 (σ 24) (a2 + (1 : Int32))))]) [2] rfl (b120 (1 : Int32) (Or.inr rfl) w5)
  refine (Decidable.em (a1.toInt = 26)).elim (fun q12_0 => ?_) (fun q12_0 => ?_)
  · have w6 := w1.1 q12_0
    refine g_tableIn (off := 44) hF 56 d_X5_lead_12 q12_0 (by decide) (by decide) (by decide +kernel) (by decide) ?_
    refine g_aload_n hF d_X5_lead_56 rfl 1 rfl ?_
    refine g_iload_n hF d_X5_lead_57 rfl 0 rfl ?_
    refine g_put (v := (atv 262208 (σ 24) (a2 + (1 : Int32)))) hF 8 obC_12 (by decide) m_680 rfl rfl rfl d_X5_lead_58 ?_
    refine g_goto hF 168 d_X5_lead_61 (by decide) ?_
    exact g_vret hF rfl d_X5_lead_168 ⟨rfl, rfl, rfl, w6⟩
  have w7 := w1.2 q12_0
  refine (Decidable.em (a1.toInt = 27)).elim (fun q12_1 => ?_) (fun q12_1 => ?_)
  · have w8 := w7.1 q12_1
    refine g_tableIn (off := 52) hF 64 d_X5_lead_12 q12_1 (by decide) (by decide) (by decide +kernel) (by decide) ?_
    refine g_aload_n hF d_X5_lead_64 rfl 1 rfl ?_
    refine g_aload_n hF d_X5_lead_65 rfl 1 rfl ?_
    refine g_callV (As := []) (rest := [.ref (r 12)]) hF (fun l D cy => kt_X5_pop a r w8 l D cy) (Nat.le_of_ble_eq_true rfl) mV_X5_pop m_1681 (recv_ob obC_12) rfl rfl (Nat.le_of_ble_eq_true rfl) d_X5_lead_66 (qI (fun v66 s66 w9 => ?_)) (fun _ _ _ h => h.elim)
    refine g_if_ne hF 76 d_X5_lead_69 (by decide) rfl (fun c => ?_) (fun c => ?_)
    · have w10 := w9.1 c
      refine g_aload_n hF d_X5_lead_76 rfl 1 rfl ?_
      refine g_get (v := .int (s66 12 8)) hF 8 obC_12 (by decide) m_680 rfl d_X5_lead_77 ?_
      refine g_put (v := (s66 12 8)) hF 8 obC_12 (by decide) m_680 rfl rfl rfl d_X5_lead_80 ?_
      refine g_goto hF 168 d_X5_lead_83 (by decide) ?_
      exact g_vret hF rfl d_X5_lead_168 ⟨rfl, rfl, rfl, w10⟩
    · have w11 := w9.2 c
      refine g_iload_n hF d_X5_lead_72 rfl 0 rfl ?_
      refine g_goto hF 80 d_X5_lead_73 (by decide) ?_
      refine g_put (v := (atv 262208 (σ 24) (a2 + (1 : Int32)))) hF 8 obC_12 (by decide) m_680 rfl rfl rfl d_X5_lead_80 ?_
      refine g_goto hF 168 d_X5_lead_83 (by decide) ?_
      exact g_vret hF rfl d_X5_lead_168 ⟨rfl, rfl, rfl, w11⟩
  have w12 := w7.2 q12_1
  refine (Decidable.em (a1.toInt = 28)).elim (fun q12_2 => ?_) (fun q12_2 => ?_)
  · have w13 := w12.1 q12_2
    refine g_tableIn (off := 74) hF 86 d_X5_lead_12 q12_2 (by decide) (by decide) (by decide +kernel) (by decide) ?_
    refine g_aload_n hF d_X5_lead_86 rfl 1 rfl ?_
    refine g_aload_n hF d_X5_lead_87 rfl 1 rfl ?_
    refine g_callV (As := []) (rest := [.ref (r 12)]) hF (fun l D cy => kt_X5_pop a r w13 l D cy) (Nat.le_of_ble_eq_true rfl) mV_X5_pop m_1681 (recv_ob obC_12) rfl rfl (Nat.le_of_ble_eq_true rfl) d_X5_lead_88 (qI (fun v88 s88 w14 => ?_)) (fun _ _ _ h => h.elim)
    refine g_if_eq hF 98 d_X5_lead_91 (by decide) rfl (fun c => ?_) (fun c => ?_)
    · have w15 := w14.1 c
      refine g_aload_n hF d_X5_lead_98 rfl 1 rfl ?_
      refine g_get (v := .int (s88 12 8)) hF 8 obC_12 (by decide) m_680 rfl d_X5_lead_99 ?_
      refine g_put (v := (s88 12 8)) hF 8 obC_12 (by decide) m_680 rfl rfl rfl d_X5_lead_102 ?_
      refine g_goto hF 168 d_X5_lead_105 (by decide) ?_
      exact g_vret hF rfl d_X5_lead_168 ⟨rfl, rfl, rfl, w15⟩
    · have w16 := w14.2 c
      refine g_iload_n hF d_X5_lead_94 rfl 0 rfl ?_
      refine g_goto hF 102 d_X5_lead_95 (by decide) ?_
      refine g_put (v := (atv 262208 (σ 24) (a2 + (1 : Int32)))) hF 8 obC_12 (by decide) m_680 rfl rfl rfl d_X5_lead_102 ?_
      refine g_goto hF 168 d_X5_lead_105 (by decide) ?_
      exact g_vret hF rfl d_X5_lead_168 ⟨rfl, rfl, rfl, w16⟩
  have w17 := w12.2 q12_2
  refine (Decidable.em (a1.toInt = 29)).elim (fun q12_3 => ?_) (fun q12_3 => ?_)
  · have w18 := w17.1 q12_3
    refine g_tableIn (off := 96) hF 108 d_X5_lead_12 q12_3 (by decide) (by decide) (by decide +kernel) (by decide) ?_
    exact g_sub (L' := [(0, .ref (r 12)), (1, .int a1), (3, .int (atv 262208 (σ 24) (a2 + (1 : Int32))))]) [1, 2, 0] rfl (b108  w18)
  have w19 := w17.2 q12_3
  refine (Decidable.em (a1.toInt = 30)).elim (fun q12_4 => ?_) (fun q12_4 => ?_)
  · have w20 := w19.1 q12_4
    refine g_tableIn (off := 96) hF 108 d_X5_lead_12 q12_4 (by decide) (by decide) (by decide +kernel) (by decide) ?_
    exact g_sub (L' := [(0, .ref (r 12)), (1, .int a1), (3, .int (atv 262208 (σ 24) (a2 + (1 : Int32))))]) [1, 2, 0] rfl (b108  w20)
  have w21 := w19.2 q12_4
  refine (Decidable.em (a1.toInt = 31)).elim (fun q12_5 => ?_) (fun q12_5 => ?_)
  · have w22 := w21.1 q12_5
    refine g_tableIn (off := 115) hF 127 d_X5_lead_12 q12_5 (by decide) (by decide) (by decide +kernel) (by decide) ?_
    refine g_aload_n hF d_X5_lead_127 rfl 1 rfl ?_
    refine g_iload_n hF d_X5_lead_128 rfl 0 rfl ?_
    refine g_callV (As := [.int (atv 262208 (σ 24) (a2 + (1 : Int32)))]) (rest := []) hF (fun l D cy => kt_X5_turn a r w22 l D cy) (Nat.le_of_ble_eq_true rfl) mV_X5_turn m_1652 (recv_ob obC_12) rfl rfl (Nat.le_of_ble_eq_true rfl) d_X5_lead_129 (qZ (fun v129 s129 hz129 w23 => ?_)) (fun _ _ _ h => h.elim)
    refine g_pop hF d_X5_lead_132 rfl ?_
    refine g_goto hF 168 d_X5_lead_133 (by decide) ?_
    exact g_vret hF rfl d_X5_lead_168 ⟨rfl, rfl, rfl, w23⟩
  have w24 := w21.2 q12_5
  refine (Decidable.em (a1.toInt = 32)).elim (fun q12_6 => ?_) (fun q12_6 => ?_)
  · have w25 := w24.1 q12_6
    refine g_tableIn (off := 124) hF 136 d_X5_lead_12 q12_6 (by decide) (by decide) (by decide +kernel) (by decide) ?_
    refine g_aload_n hF d_X5_lead_136 rfl 1 rfl ?_
    refine g_aload_n hF d_X5_lead_137 rfl 1 rfl ?_
    refine g_get (v := .ref (r 10)) hF 1 obC_12 (by decide) m_672 rfl d_X5_lead_138 ?_
    refine g_getN (v := .ref (r 59)) hF 10 obC_10 (by decide) nm_612 rfl d_X5_lead_141 ?_
    refine g_iload_n hF d_X5_lead_144 rfl 0 rfl ?_
    refine g_callSN (As := [.ref (r 59), .int (atv 262208 (σ 24) (a2 + (1 : Int32)))]) (rest := [.ref (r 12)]) hF (c_atv a r σ arC_59 (by decide) (atv 262208 (σ 24) (a2 + (1 : Int32)))) (Nat.le_of_ble_eq_true rfl) mS_X12_at nm_1660 rfl rfl (Nat.le_of_ble_eq_true rfl) d_X5_lead_145 (kQ ?_)
    refine g_top (v := (atv 10100 (σ 59) (atv 262208 (σ 24) (a2 + (1 : Int32))))) rfl ?_
    refine g_aload_n hF d_X5_lead_148 rfl 1 rfl ?_
    refine g_get (v := .ref (r 24)) hF 3 obC_12 (by decide) m_674 rfl d_X5_lead_149 ?_
    refine g_iload_n hF d_X5_lead_152 rfl 3 rfl ?_
    refine g_iconst hF (v := 2) d_X5_lead_153 (by decide) ?_
    refine g_iadd hF d_X5_lead_154 ?_
    refine g_callSN (As := [.ref (r 24), .int (a2 + (2 : Int32))]) (rest := [.int (atv 10100 (σ 59) (atv 262208 (σ 24) (a2 + (1 : Int32)))), .ref (r 12)]) hF (c_atv a r σ arC_24 (by decide) (a2 + (2 : Int32))) (Nat.le_of_ble_eq_true rfl) mS_X12_at nm_1660 rfl rfl (Nat.le_of_ble_eq_true rfl) d_X5_lead_155 (kQ ?_)
    refine g_top (v := (atv 262208 (σ 24) (a2 + (2 : Int32)))) rfl ?_
    refine g_callV (As := [.int (atv 10100 (σ 59) (atv 262208 (σ 24) (a2 + (1 : Int32)))), .int (atv 262208 (σ 24) (a2 + (2 : Int32)))]) (rest := []) hF (fun l D cy => kt_X5_call a r w25 l D cy) (Nat.le_of_ble_eq_true rfl) mV_X5_call m_1698 (recv_ob obC_12) rfl rfl (Nat.le_of_ble_eq_true rfl) d_X5_lead_158 (qV (fun s158 w26 => ?_)) (fun _ _ _ h => h.elim)
    refine g_goto hF 168 d_X5_lead_161 (by decide) ?_
    exact g_vret hF rfl d_X5_lead_168 ⟨rfl, rfl, rfl, w26⟩
  have w27 := w24.2 q12_6
  refine g_tableOut hF 164 d_X5_lead_12 rfl (tbo_26_32 q12_0 q12_1 q12_2 q12_3 q12_4 q12_5 q12_6) (by decide) ?_
  refine g_aload_n hF d_X5_lead_164 rfl 1 rfl ?_
  refine g_callV (As := []) (rest := []) hF (fun l D cy => kt_X5_giveBack a r w27 l D cy) (Nat.le_of_ble_eq_true rfl) mV_X5_giveBack m_1724 (recv_ob obC_12) rfl rfl (Nat.le_of_ble_eq_true rfl) d_X5_lead_165 (qV (fun s165 w28 => ?_)) (fun _ _ _ h => h.elim)
  exact g_vret hF rfl d_X5_lead_168 ⟨rfl, rfl, rfl, w28⟩
set_option maxHeartbeats 4000000 in
set_option maxRecDepth 100000 in
theorem kt_X5_calculate (a : Nat → Nat) (r : Nat → Nat) {a1 : Int32} {a2 : Int32} {σ : St} {Q : St → Prop} (w : wk_X5_calculate a1 a2 σ Q) (l : Launch) (D : va_G) (cy : Nat → ClassId) : Ct l D cy SC r (EC a gC) y_X5_calculate (Cond.code y_X5_calculate b_X5_calculate 5 none) 2 [.ref (r 12), .int a1, .int a2] σ Z0 [] (QV Q) QT0 := by
  unfold wk_X5_calculate at w
  refine Ct_of (EC_ok a gC) (by decide) (Nat.le_of_ble_eq_true rfl) (by decide) (fun X hnn hF => ?_)
  show G SC r X σ Z0 [] [(0, .ref (r 12)), (1, .int a1), (2, .int a2)] [] 0
  refine g_aload_n hF d_X5_calculate_0 rfl 0 rfl ?_
  refine g_callV (As := []) (rest := []) hF (fun l D cy => kt_X5_pop a r w l D cy) (Nat.le_of_ble_eq_true rfl) mV_X5_pop m_1681 (recv_ob obC_12) rfl rfl (Nat.le_of_ble_eq_true rfl) d_X5_calculate_1 (qI (fun v1 s1 w1 => ?_)) (fun _ _ _ h => h.elim)
  refine g_istore_n hF [(3, .int v1), (0, .ref (r 12)), (1, .int a1), (2, .int a2)] d_X5_calculate_4 rfl hnn (by decide) rfl ?_
  refine g_aload_n hF d_X5_calculate_5 rfl 1 rfl ?_
  refine g_callV (As := []) (rest := []) hF (fun l D cy => kt_X5_pop a r w1 l D cy) (Nat.le_of_ble_eq_true rfl) mV_X5_pop m_1681 (recv_ob obC_12) rfl rfl (Nat.le_of_ble_eq_true rfl) d_X5_calculate_6 (qI (fun v6 s6 w2 => ?_)) (fun _ _ _ h => h.elim)
  refine g_istore hF [(4, .int v6), (3, .int v1), (0, .ref (r 12)), (1, .int a1), (2, .int a2)] d_X5_calculate_9 hnn (by decide) rfl ?_
  refine g_iload_n hF d_X5_calculate_11 rfl 3 rfl ?_
  refine g_bipush hF (v := 46) d_X5_calculate_12 (by decide) ?_
  obtain ⟨J45, h45, w3⟩ := w2
  have b45 : J45  → G SC r X s6 Z0 [] [(0, .ref (r 12)), (1, .int a1), (3, .int v1), (4, .int v6)] [] 45 := by
    intro   w45_
    have w45_ := h45   w45_
    refine g_aload_n hF d_X5_calculate_45 rfl 0 rfl ?_
    refine g_iload_n hF d_X5_calculate_46 rfl 1 rfl ?_
    refine g_iload hF d_X5_calculate_47 3 rfl ?_
    refine g_iload_n hF d_X5_calculate_49 rfl 2 rfl ?_
    refine g_callS (As := [.int a1, .int v6, .int v1]) (rest := [.ref (r 12)]) hF (fun l D cy => kt_X5_worked a r w45_ l D cy) (Nat.le_of_ble_eq_true rfl) mS_X5_worked m_1685 rfl rfl (Nat.le_of_ble_eq_true rfl) d_X5_calculate_50 (qIr (fun v50 w4 => ?_)) (fun _ _ _ h => h.elim)
    refine g_callV (As := [.int v50]) (rest := []) hF (fun l D cy => kt_X5_push a r w4 l D cy) (Nat.le_of_ble_eq_true rfl) mV_X5_push m_1686 (recv_ob obC_12) rfl rfl (Nat.le_of_ble_eq_true rfl) d_X5_calculate_53 (qV (fun s53 w5 => ?_)) (fun _ _ _ h => h.elim)
    exact g_vret hF rfl d_X5_calculate_56 ⟨rfl, rfl, rfl, w5⟩
  obtain ⟨J23, h23, w6⟩ := w3
  have b23 : J23  → G SC r X s6 Z0 [] [(0, .ref (r 12)), (1, .int a1), (2, .int a2), (3, .int v1), (4, .int v6)] [] 23 := by
    intro   w23_
    have w23_ := h23   w23_
    refine g_iload_n hF d_X5_calculate_23 rfl 3 rfl ?_
    refine g_if_ne hF 45 d_X5_calculate_24 (by decide) rfl (fun c => ?_) (fun c => ?_)
    · have w7 := w23_.1 c
      exact g_sub (L' := [(0, .ref (r 12)), (1, .int a1), (3, .int v1), (4, .int v6)]) [0, 1, 3, 4] rfl (b45  w7)
    · have w8 := w23_.2 c
      refine g_aload_n hF d_X5_calculate_27 rfl 0 rfl ?_
      refine g_iconst hF (v := 1) d_X5_calculate_28 (by decide) ?_
      refine g_aload_n hF d_X5_calculate_29 rfl 0 rfl ?_
      refine g_get (v := .ref (r 24)) hF 3 obC_12 (by decide) m_674 rfl d_X5_calculate_30 ?_
      refine g_iload_n hF d_X5_calculate_33 rfl 2 rfl ?_
      refine g_iconst hF (v := 1) d_X5_calculate_34 (by decide) ?_
      refine g_iadd hF d_X5_calculate_35 ?_
      refine g_callSN (As := [.ref (r 24), .int (a2 + (1 : Int32))]) (rest := [.int 1, .ref (r 12)]) hF (c_atv a r s6 arC_24 (by decide) (a2 + (1 : Int32))) (Nat.le_of_ble_eq_true rfl) mS_X12_at nm_1660 rfl rfl (Nat.le_of_ble_eq_true rfl) d_X5_calculate_36 (kQ ?_)
      refine g_top (v := (atv 262208 (s6 24) (a2 + (1 : Int32)))) rfl ?_
      refine g_callV (As := [.int 1, .int (atv 262208 (s6 24) (a2 + (1 : Int32)))]) (rest := []) hF (fun l D cy => kt_X5_fail a r w8 l D cy) (Nat.le_of_ble_eq_true rfl) mV_X5_fail m_1656 (recv_ob obC_12) rfl rfl (Nat.le_of_ble_eq_true rfl) d_X5_calculate_39 (qV (fun s39 w9 => ?_)) (fun _ _ _ h => h.elim)
      refine g_goto hF 56 d_X5_calculate_42 (by decide) ?_
      exact g_vret hF rfl d_X5_calculate_56 ⟨rfl, rfl, rfl, w9⟩
  refine g_icmp_eq (yv := 46) hF 23 d_X5_calculate_14 (by decide) rfl (by decide) (fun c => ?_) (fun c => ?_)
  · have w10 := w6.1 c
    exact g_sub (L' := [(0, .ref (r 12)), (1, .int a1), (2, .int a2), (3, .int v1), (4, .int v6)]) [2, 3, 4, 1, 0] rfl (b23  w10)
  · have w11 := w6.2 c
    refine g_iload_n hF d_X5_calculate_17 rfl 3 rfl ?_
    refine g_bipush hF (v := 47) d_X5_calculate_18 (by decide) ?_
    refine g_icmp_ne (yv := 47) hF 45 d_X5_calculate_20 (by decide) rfl (by decide) (fun c => ?_) (fun c => ?_)
    · have w12 := w11.1 c
      exact g_sub (L' := [(0, .ref (r 12)), (1, .int a1), (3, .int v1), (4, .int v6)]) [2, 3, 1, 0] rfl (b45  w12)
    · have w13 := w11.2 c
      exact g_sub (L' := [(0, .ref (r 12)), (1, .int a1), (2, .int a2), (3, .int v1), (4, .int v6)]) [2, 3, 4, 1, 0] rfl (b23  w13)
set_option maxHeartbeats 4000000 in
set_option maxRecDepth 100000 in
theorem kt_X5_step (a : Nat → Nat) (r : Nat → Nat) {σ : St} {Q : St → Prop} (w : wk_X5_step  σ Q) (l : Launch) (D : va_G) (cy : Nat → ClassId) : Ct l D cy SC r (EC a gC) y_X5_step (Cond.code y_X5_step b_X5_step 4 none) 5 [.ref (r 12)] σ Z0 [] (QV Q) QT0 := by
  unfold wk_X5_step at w
  refine Ct_of (EC_ok a gC) (by decide) (Nat.le_of_ble_eq_true rfl) (by decide) (fun X hnn hF => ?_)
  show G SC r X σ Z0 [] [(0, .ref (r 12))] [] 0
  refine g_aload_n hF d_X5_step_0 rfl 0 rfl ?_
  refine g_get (v := .int (σ 12 8)) hF 8 obC_12 (by decide) m_680 rfl d_X5_step_1 ?_
  refine g_istore_n hF [(1, .int (σ 12 8)), (0, .ref (r 12))] d_X5_step_4 rfl hnn (by decide) rfl ?_
  refine g_aload_n hF d_X5_step_5 rfl 1 rfl ?_
  refine g_get (v := .ref (r 24)) hF 3 obC_12 (by decide) m_674 rfl d_X5_step_6 ?_
  refine g_iload_n hF d_X5_step_9 rfl 0 rfl ?_
  refine g_callSN (As := [.ref (r 24), .int (σ 12 8)]) (rest := []) hF (c_atv a r σ arC_24 (by decide) (σ 12 8)) (Nat.le_of_ble_eq_true rfl) mS_X12_at nm_1660 rfl rfl (Nat.le_of_ble_eq_true rfl) d_X5_step_10 (kQ ?_)
  refine g_top (v := (atv 262208 (σ 24) (σ 12 8))) rfl ?_
  refine g_istore_n hF [(2, .int (atv 262208 (σ 24) (σ 12 8))), (1, .int (σ 12 8)), (0, .ref (r 12))] d_X5_step_13 rfl hnn (by decide) rfl ?_
  refine g_getsN hF (fun A s h => EC_z1 h) nm_1672 d_X5_step_14 ?_
  refine g_iload_n hF d_X5_step_17 rfl 0 rfl ?_
  refine g_callSN (As := [.ref (a 1), .int (atv 262208 (σ 24) (σ 12 8))]) (rest := []) hF (c_atT1 a r σ (atv 262208 (σ 24) (σ 12 8))) (Nat.le_of_ble_eq_true rfl) mS_X12_at nm_1660 rfl rfl (Nat.le_of_ble_eq_true rfl) d_X5_step_18 (kQ ?_)
  refine g_istore_n hF [(3, .int (atv 61 (gC 1) (atv 262208 (σ 24) (σ 12 8)))), (2, .int (atv 262208 (σ 24) (σ 12 8))), (1, .int (σ 12 8)), (0, .ref (r 12))] d_X5_step_21 rfl hnn (by decide) rfl ?_
  refine g_iload_n hF d_X5_step_22 rfl 0 rfl ?_
  obtain ⟨J50, h50, w1⟩ := w
  have b50 : J50  → G SC r X σ Z0 [] [(0, .ref (r 12))] [] 50 := by
    intro   w50_
    have w50_ := h50   w50_
    refine g_aload_n hF d_X5_step_50 rfl 0 rfl ?_
    refine g_callV (As := []) (rest := []) hF (fun l D cy => kt_X5_stray a r w50_ l D cy) (Nat.le_of_ble_eq_true rfl) mV_X5_stray m_1673 (recv_ob obC_12) rfl rfl (Nat.le_of_ble_eq_true rfl) d_X5_step_51 (qV (fun s51 w2 => ?_)) (fun _ _ _ h => h.elim)
    exact g_vret hF rfl d_X5_step_54 ⟨rfl, rfl, rfl, w2⟩
  refine g_if_eq hF 50 d_X5_step_23 (by decide) rfl (fun c => ?_) (fun c => ?_)
  · have w3 := w1.1 c
    exact g_sub (L' := [(0, .ref (r 12))]) [3] rfl (b50  w3)
  · have w4 := w1.2 c
    refine g_aload_n hF d_X5_step_26 rfl 3 rfl ?_
    refine g_get (v := .int (σ 12 9)) hF 9 obC_12 (by decide) m_681 rfl d_X5_step_27 ?_
    refine g_bipush hF (v := 8) d_X5_step_30 (by decide) ?_
    refine g_icmp_lt (yv := 8) hF 50 d_X5_step_32 (by decide) rfl (by decide) (fun c => ?_) (fun c => ?_)
    · have w5 := w4.1 c
      exact g_sub (L' := [(0, .ref (r 12))]) [3] rfl (b50  w5)
    · have w6 := w4.2 c
      refine g_aload_n hF d_X5_step_35 rfl 3 rfl ?_
      refine g_get (v := .int (σ 12 9)) hF 9 obC_12 (by decide) m_681 rfl d_X5_step_36 ?_
      refine g_aload_n hF d_X5_step_39 rfl 3 rfl ?_
      refine g_get (v := .ref (r 63)) hF 5 obC_12 (by decide) m_677 rfl d_X5_step_40 ?_
      refine g_alen hF arC_63 (fun _ => ⟨1, _, rfl⟩) (v := 148496) (by decide) d_X5_step_43 ?_
      refine g_bipush hF (v := 8) d_X5_step_44 (by decide) ?_
      refine g_isub hF d_X5_step_46 ?_
      refine g_top (v := 148488) (by decide) ?_
      refine g_icmp_lt (yv := 148488) hF 55 d_X5_step_47 (by decide) rfl (by decide) (fun c => ?_) (fun c => ?_)
      · have w7 := w6.1 c
        refine g_aload_n hF d_X5_step_55 rfl 3 rfl ?_
        refine g_iload_n hF d_X5_step_56 rfl 2 rfl ?_
        refine g_iload_n hF d_X5_step_57 rfl 0 rfl ?_
        refine g_iadd hF d_X5_step_58 ?_
        refine g_put (v := ((σ 12 8) + (atv 61 (gC 1) (atv 262208 (σ 24) (σ 12 8))))) hF 8 obC_12 (by decide) m_680 rfl rfl rfl d_X5_step_59 ?_
        refine g_iload_n hF d_X5_step_62 rfl 1 rfl ?_
        refine g_bipush hF (v := 41) d_X5_step_63 (by decide) ?_
        refine g_icmp_lt (yv := 41) hF 77 d_X5_step_65 (by decide) rfl (by decide) (fun c => ?_) (fun c => ?_)
        · have w8 := w7.1 c
          refine g_iload_n hF d_X5_step_77 rfl 1 rfl ?_
          refine g_bipush hF (v := 26) d_X5_step_78 (by decide) ?_
          refine g_icmp_lt (yv := 26) hF 92 d_X5_step_80 (by decide) rfl (by decide) (fun c => ?_) (fun c => ?_)
          · have w9 := w8.1 c
            refine g_iload_n hF d_X5_step_92 rfl 1 rfl ?_
            refine g_bipush hF (v := 22) d_X5_step_93 (by decide) ?_
            refine g_icmp_lt (yv := 22) hF 113 d_X5_step_95 (by decide) rfl (by decide) (fun c => ?_) (fun c => ?_)
            · have w10 := w9.1 c
              refine g_iload_n hF d_X5_step_113 rfl 1 rfl ?_
              refine g_bipush hF (v := 18) d_X5_step_114 (by decide) ?_
              refine g_icmp_lt (yv := 18) hF 128 d_X5_step_116 (by decide) rfl (by decide) (fun c => ?_) (fun c => ?_)
              · have w11 := w10.1 c
                refine g_iload_n hF d_X5_step_128 rfl 1 rfl ?_
                refine g_bipush hF (v := 11) d_X5_step_129 (by decide) ?_
                refine g_icmp_lt (yv := 11) hF 143 d_X5_step_131 (by decide) rfl (by decide) (fun c => ?_) (fun c => ?_)
                · have w12 := w11.1 c
                  refine g_aload_n hF d_X5_step_143 rfl 3 rfl ?_
                  refine g_iload_n hF d_X5_step_144 rfl 1 rfl ?_
                  refine g_iload_n hF d_X5_step_145 rfl 2 rfl ?_
                  refine g_callV (As := [.int (atv 262208 (σ 24) (σ 12 8)), .int (σ 12 8)]) (rest := []) hF (fun l D cy => kt_X5_plain a r w12 l D cy) (Nat.le_of_ble_eq_true rfl) mV_X5_plain m_1748 (recv_ob obC_12) rfl rfl (Nat.le_of_ble_eq_true rfl) d_X5_step_146 (qV (fun s146 w13 => ?_)) (fun _ _ _ h => h.elim)
                  exact g_vret hF rfl d_X5_step_149 ⟨rfl, rfl, rfl, w13⟩
                · have w14 := w11.2 c
                  refine g_aload_n hF d_X5_step_134 rfl 3 rfl ?_
                  refine g_iload_n hF d_X5_step_135 rfl 1 rfl ?_
                  refine g_iload_n hF d_X5_step_136 rfl 2 rfl ?_
                  refine g_callV (As := [.int (atv 262208 (σ 24) (σ 12 8)), .int (σ 12 8)]) (rest := []) hF (fun l D cy => kt_X5_inFrame a r w14 l D cy) (Nat.le_of_ble_eq_true rfl) mV_X5_inFrame m_1740 (recv_ob obC_12) rfl rfl (Nat.le_of_ble_eq_true rfl) d_X5_step_137 (qV (fun s137 w15 => ?_)) (fun _ _ _ h => h.elim)
                  refine g_goto hF 149 d_X5_step_140 (by decide) ?_
                  exact g_vret hF rfl d_X5_step_149 ⟨rfl, rfl, rfl, w15⟩
              · have w16 := w10.2 c
                refine g_aload_n hF d_X5_step_119 rfl 3 rfl ?_
                refine g_iload_n hF d_X5_step_120 rfl 1 rfl ?_
                refine g_iload_n hF d_X5_step_121 rfl 2 rfl ?_
                refine g_callV (As := [.int (atv 262208 (σ 24) (σ 12 8)), .int (σ 12 8)]) (rest := []) hF (fun l D cy => kt_X5_reach a r w16 l D cy) (Nat.le_of_ble_eq_true rfl) mV_X5_reach m_1729 (recv_ob obC_12) rfl rfl (Nat.le_of_ble_eq_true rfl) d_X5_step_122 (qV (fun s122 w17 => ?_)) (fun _ _ _ h => h.elim)
                refine g_goto hF 149 d_X5_step_125 (by decide) ?_
                exact g_vret hF rfl d_X5_step_149 ⟨rfl, rfl, rfl, w17⟩
            · have w18 := w9.2 c
              refine g_aload_n hF d_X5_step_98 rfl 3 rfl ?_
              refine g_iload_n hF d_X5_step_99 rfl 1 rfl ?_
              refine g_aload_n hF d_X5_step_100 rfl 3 rfl ?_
              refine g_callV (As := []) (rest := [.int (atv 262208 (σ 24) (σ 12 8)), .ref (r 12)]) hF (fun l D cy => kt_X5_pop a r w18 l D cy) (Nat.le_of_ble_eq_true rfl) mV_X5_pop m_1681 (recv_ob obC_12) rfl rfl (Nat.le_of_ble_eq_true rfl) d_X5_step_101 (qI (fun v101 s101 w19 => ?_)) (fun _ _ _ h => h.elim)
              refine g_callS (As := [.int (atv 262208 (σ 24) (σ 12 8)), .int v101]) (rest := [.ref (r 12)]) hF (fun l D cy => kt_X5_inverted a r w19 l D cy) (Nat.le_of_ble_eq_true rfl) mS_X5_inverted m_1728 rfl rfl (Nat.le_of_ble_eq_true rfl) d_X5_step_104 (qIr (fun v104 w20 => ?_)) (fun _ _ _ h => h.elim)
              refine g_callV (As := [.int v104]) (rest := []) hF (fun l D cy => kt_X5_push a r w20 l D cy) (Nat.le_of_ble_eq_true rfl) mV_X5_push m_1686 (recv_ob obC_12) rfl rfl (Nat.le_of_ble_eq_true rfl) d_X5_step_107 (qV (fun s107 w21 => ?_)) (fun _ _ _ h => h.elim)
              refine g_goto hF 149 d_X5_step_110 (by decide) ?_
              exact g_vret hF rfl d_X5_step_149 ⟨rfl, rfl, rfl, w21⟩
          · have w22 := w8.2 c
            refine g_aload_n hF d_X5_step_83 rfl 3 rfl ?_
            refine g_iload_n hF d_X5_step_84 rfl 1 rfl ?_
            refine g_iload_n hF d_X5_step_85 rfl 2 rfl ?_
            refine g_callV (As := [.int (atv 262208 (σ 24) (σ 12 8)), .int (σ 12 8)]) (rest := []) hF (fun l D cy => kt_X5_lead a r w22 l D cy) (Nat.le_of_ble_eq_true rfl) mV_X5_lead m_1690 (recv_ob obC_12) rfl rfl (Nat.le_of_ble_eq_true rfl) d_X5_step_86 (qV (fun s86 w23 => ?_)) (fun _ _ _ h => h.elim)
            refine g_goto hF 149 d_X5_step_89 (by decide) ?_
            exact g_vret hF rfl d_X5_step_149 ⟨rfl, rfl, rfl, w23⟩
        · have w24 := w7.2 c
          refine g_aload_n hF d_X5_step_68 rfl 3 rfl ?_
          refine g_iload_n hF d_X5_step_69 rfl 1 rfl ?_
          refine g_iload_n hF d_X5_step_70 rfl 2 rfl ?_
          refine g_callV (As := [.int (atv 262208 (σ 24) (σ 12 8)), .int (σ 12 8)]) (rest := []) hF (fun l D cy => kt_X5_calculate a r w24 l D cy) (Nat.le_of_ble_eq_true rfl) mV_X5_calculate m_1677 (recv_ob obC_12) rfl rfl (Nat.le_of_ble_eq_true rfl) d_X5_step_71 (qV (fun s71 w25 => ?_)) (fun _ _ _ h => h.elim)
          refine g_goto hF 149 d_X5_step_74 (by decide) ?_
          exact g_vret hF rfl d_X5_step_149 ⟨rfl, rfl, rfl, w25⟩
      · have w26 := w6.2 c
        exact g_sub (L' := [(0, .ref (r 12))]) [3] rfl (b50  w26)
set_option maxHeartbeats 4000000 in
set_option maxRecDepth 100000 in
theorem kt_X5_execute (a : Nat → Nat) (r : Nat → Nat) {a1 : Int32} {σ : St} {Q : Int32 → St → Prop} (w : wk_X5_execute a1 σ Q) (l : Launch) (D : va_G) (cy : Nat → ClassId) : Ct l D cy SC r (EC a gC) y_X5_execute (Cond.code y_X5_execute b_X5_execute 6 (some .int)) 6 [.ref (r 12), .int a1] σ Z0 [] (QI Q) QT0 := by
  unfold wk_X5_execute at w
  refine Ct_of (EC_ok a gC) (by decide) (Nat.le_of_ble_eq_true rfl) (by decide) (fun X hnn hF => ?_)
  show G SC r X σ Z0 [] [(0, .ref (r 12)), (1, .int a1)] [] 0
  refine g_aload_n hF d_X5_execute_0 rfl 0 rfl ?_
  refine g_iload_n hF d_X5_execute_1 rfl 1 rfl ?_
  refine g_callV (As := [.int a1]) (rest := []) hF (fun l D cy => kt_X5_begin a r w l D cy) (Nat.le_of_ble_eq_true rfl) mV_X5_begin m_1633 (recv_ob obC_12) rfl rfl (Nat.le_of_ble_eq_true rfl) d_X5_execute_2 (qV (fun s2 w1 => ?_)) (fun _ _ _ h => h.elim)
  refine g_aload_n hF d_X5_execute_5 rfl 0 rfl ?_
  refine g_aload_n hF d_X5_execute_6 rfl 0 rfl ?_
  refine g_get (v := .ref (r 10)) hF 1 obC_12 (by decide) m_672 rfl d_X5_execute_7 ?_
  refine g_getN (v := .int (s2 10 11)) hF 11 obC_10 (by decide) nm_614 rfl d_X5_execute_10 ?_
  refine g_iconst hF (v := 0) d_X5_execute_13 (by decide) ?_
  refine g_callV (As := [.int (s2 10 11), .int 0]) (rest := []) hF (fun l D cy => kt_X5_enter a r w1 l D cy) (Nat.le_of_ble_eq_true rfl) mV_X5_enter m_1648 (recv_ob obC_12) rfl rfl (Nat.le_of_ble_eq_true rfl) d_X5_execute_14 (qV (fun s14 w2 => ?_)) (fun _ _ _ h => h.elim)
  refine g_ldc2 hF (v := 4) m_1666 d_X5_execute_17 ?_
  refine g_aload_n hF d_X5_execute_20 rfl 0 rfl ?_
  refine g_get (v := .int (s14 12 12)) hF 12 obC_12 (by decide) m_684 rfl d_X5_execute_21 ?_
  refine g_i2l hF d_X5_execute_24 ?_
  refine g_lmul hF d_X5_execute_25 ?_
  refine g_ldc2 hF (v := 8) m_1667 d_X5_execute_26 ?_
  refine g_ladd hF d_X5_execute_29 ?_
  refine g_aload_n hF d_X5_execute_30 rfl 0 rfl ?_
  refine g_get (v := .ref (r 5)) hF 0 obC_12 (by decide) m_671 rfl d_X5_execute_31 ?_
  refine g_getN (v := .ref (r 4)) hF 0 obC_5 (by decide) nm_220 rfl d_X5_execute_34 ?_
  refine g_getN (v := .int (s14 4 1)) hF 1 obC_4 (by decide) nm_153 rfl d_X5_execute_37 ?_
  refine g_i2l hF d_X5_execute_40 ?_
  refine g_lconst hF (v := 1) d_X5_execute_41 (by decide) ?_
  refine g_ladd hF d_X5_execute_42 ?_
  refine g_lmul hF d_X5_execute_43 ?_
  refine g_lstore_n hF [(2, .long ((((4 : Int64) * (s14 12 12).toInt64) + (8 : Int64)) * ((s14 4 1).toInt64 + (1 : Int64)))), (0, .ref (r 12)), (1, .int a1)] d_X5_execute_44 rfl hnn (by decide) rfl ?_
  refine g_lconst hF (v := 0) d_X5_execute_45 (by decide) ?_
  refine g_lstore hF [(4, .long 0), (2, .long ((((4 : Int64) * (s14 12 12).toInt64) + (8 : Int64)) * ((s14 4 1).toInt64 + (1 : Int64)))), (0, .ref (r 12)), (1, .int a1)] d_X5_execute_46 hnn (by decide) rfl ?_
  obtain ⟨L48, ⟨i48, u48⟩, h48⟩ := w2
  have b48 : ∀ (n48 : Nat) (x4_48 : Int64) (s48 : St), L48 n48 x4_48 s48 → G SC r X s48 Z0 [] [(0, .ref (r 12)), (2, .long ((((4 : Int64) * (s14 12 12).toInt64) + (8 : Int64)) * ((s14 4 1).toInt64 + (1 : Int64)))), (4, .long x4_48)] [] 48 := by
    intro n48
    induction n48 using Nat.strongRecOn with
    | _ n48 ih48 =>
      intro x4_48 s48  w48_
      have w48_ := h48 n48 x4_48 s48  w48_
      refine g_lload hF d_X5_execute_48 2 rfl ?_
      refine g_lload_n hF d_X5_execute_50 rfl 1 rfl ?_
      refine g_lcmp hF d_X5_execute_51 ?_
      obtain ⟨J76, h76, w3⟩ := w48_
      have b76 : J76  → G SC r X s48 Z0 [] [(0, .ref (r 12))] [] 76 := by
        intro   w76_
        have w76_ := h76   w76_
        refine g_aload_n hF d_X5_execute_76 rfl 0 rfl ?_
        refine g_get (v := .int (s48 12 13)) hF 13 obC_12 (by decide) m_685 rfl d_X5_execute_77 ?_
        refine g_iconst hF (v := (-1)) d_X5_execute_80 (by decide) ?_
        obtain ⟨J88, h88, w4⟩ := w76_
        have b88 : ∀ (s88 : St), J88 s88 → G SC r X s88 Z0 [] [(0, .ref (r 12))] [] 88 := by
          intro s88  w88_
          have w88_ := h88 s88  w88_
          refine g_aload_n hF d_X5_execute_88 rfl 0 rfl ?_
          refine g_get (v := .ref (r 11)) hF 2 obC_12 (by decide) m_673 rfl d_X5_execute_89 ?_
          refine g_callVN (As := []) (rest := []) hF (fun l D cy => kt_X9_useUp a r w88_ l D cy) (Nat.le_of_ble_eq_true rfl) mV_X9_useUp nm_1752 (recv_ob obC_11) rfl rfl (Nat.le_of_ble_eq_true rfl) d_X5_execute_92 (qV (fun s92 w5 => ?_))
          refine g_aload_n hF d_X5_execute_95 rfl 0 rfl ?_
          refine g_get (v := .int (s92 12 13)) hF 13 obC_12 (by decide) m_685 rfl d_X5_execute_96 ?_
          exact g_iret hF rfl d_X5_execute_99 ⟨rfl, rfl, (s92 12 13), rfl, w5⟩
        refine g_icmp_ne (yv := -1) hF 88 d_X5_execute_81 (by decide) rfl (by decide) (fun c => ?_) (fun c => ?_)
        · have w6 := w4.1 c
          exact b88 s48 w6
        · have w7 := w4.2 c
          refine g_aload_n hF d_X5_execute_84 rfl 0 rfl ?_
          refine g_callV (As := []) (rest := []) hF (fun l D cy => kt_X5_stray a r w7 l D cy) (Nat.le_of_ble_eq_true rfl) mV_X5_stray m_1673 (recv_ob obC_12) rfl rfl (Nat.le_of_ble_eq_true rfl) d_X5_execute_85 (qV (fun s85 w8 => ?_)) (fun _ _ _ h => h.elim)
          exact b88 s85 w8
      refine g_if_ge hF 76 d_X5_execute_52 (by decide) rfl (fun c => ?_) (fun c => ?_)
      · have w9 := w3.1 c
        exact g_sub (L' := [(0, .ref (r 12))]) [0] rfl (b76  w9)
      · have w10 := w3.2 c
        refine g_aload_n hF d_X5_execute_55 rfl 0 rfl ?_
        refine g_get (v := .int (s48 12 13)) hF 13 obC_12 (by decide) m_685 rfl d_X5_execute_56 ?_
        refine g_iconst hF (v := (-1)) d_X5_execute_59 (by decide) ?_
        refine g_icmp_ne (yv := -1) hF 76 d_X5_execute_60 (by decide) rfl (by decide) (fun c => ?_) (fun c => ?_)
        · have w11 := w10.1 c
          exact g_sub (L' := [(0, .ref (r 12))]) [0] rfl (b76  w11)
        · have w12 := w10.2 c
          refine g_aload_n hF d_X5_execute_63 rfl 0 rfl ?_
          refine g_callV (As := []) (rest := []) hF (fun l D cy => kt_X5_step a r w12 l D cy) (Nat.le_of_ble_eq_true rfl) mV_X5_step m_1668 (recv_ob obC_12) rfl rfl (Nat.le_of_ble_eq_true rfl) d_X5_execute_64 (qV (fun s64 w13 => ?_)) (fun _ _ _ h => h.elim)
          refine g_lload hF d_X5_execute_67 2 rfl ?_
          refine g_lconst hF (v := 1) d_X5_execute_69 (by decide) ?_
          refine g_ladd hF d_X5_execute_70 ?_
          refine g_lstore hF [(4, .long (x4_48 + (1 : Int64))), (0, .ref (r 12)), (2, .long ((((4 : Int64) * (s14 12 12).toInt64) + (8 : Int64)) * ((s14 4 1).toInt64 + (1 : Int64))))] d_X5_execute_71 hnn (by decide) rfl ?_
          refine g_goto hF 48 d_X5_execute_73 (by decide) ?_
          obtain ⟨m48, hm48, w9⟩ := w13
          exact g_sub (L' := [(0, .ref (r 12)), (2, .long ((((4 : Int64) * (s14 12 12).toInt64) + (8 : Int64)) * ((s14 4 1).toInt64 + (1 : Int64)))), (4, .long (x4_48 + (1 : Int64)))]) [1, 2, 0] rfl (ih48 m48 hm48 (x4_48 + (1 : Int64)) s64 w9)
  exact g_sub (L' := [(0, .ref (r 12)), (2, .long ((((4 : Int64) * (s14 12 12).toInt64) + (8 : Int64)) * ((s14 4 1).toInt64 + (1 : Int64)))), (4, .long 0)]) [2, 1, 0] rfl (b48 i48 (0 : Int64) s14 u48)
