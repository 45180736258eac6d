set_option maxHeartbeats 4000000 in
set_option maxRecDepth 100000 in
theorem kt_X12_link (a : Nat → Nat) (r : Nat → Nat) {σ : St} {Q : Int32 → St → Prop} (w : wk_X12_link  σ Q) (l : Launch) (D : va_G) (cy : Nat → ClassId) : Ct l D cy SC r (EC a gC) y_X12_link (Cond.code y_X12_link b_X12_link 1 (some .int)) 7 [.ref (r 0)] σ Z0 [] (QI Q) QT0 := by
  unfold wk_X12_link at w
  refine Ct_of (EC_ok a gC) (by decide) (Nat.le_of_ble_eq_true rfl) (by decide) (fun X hnn hF => ?_)
  show G SC r X σ Z0 [] [(0, .ref (r 0))] [] 0
  refine g_aload_n hF d_X12_link_0 rfl 0 rfl ?_
  refine g_get (v := .ref (r 10)) hF 12 obC_0 (by decide) m_747 rfl d_X12_link_1 ?_
  refine g_callVN (As := []) (rest := []) hF (fun l D cy => kt_X4_join a r w l D cy) (Nat.le_of_ble_eq_true rfl) mV_X4_join nm_1558 (recv_ob obC_10) rfl rfl (Nat.le_of_ble_eq_true rfl) d_X12_link_4 (qI (fun v4 s4 w1 => ?_))
  exact g_iret hF rfl d_X12_link_7 ⟨rfl, rfl, v4, rfl, w1⟩
set_option maxHeartbeats 4000000 in
set_option maxRecDepth 100000 in
theorem kt_X12_fault (a : Nat → Nat) (r : Nat → Nat) {a1 : Int32} {σ : St} {Q : Int32 → Prop} (w : wk_X12_fault a1 σ Q) (l : Launch) (D : va_G) (cy : Nat → ClassId) : Ct l D cy SC r (EC a gC) y_X12_fault (Cond.code y_X12_fault b_X12_fault 2 (some .int)) 0 [.ref (r 0), .int a1] σ Z0 [] (QI (fun x σ9 => σ9 = σ ∧ Q x)) QT0 := by
  unfold wk_X12_fault at w
  refine Ct_of (EC_ok a gC) (by decide) (Nat.le_of_ble_eq_true rfl) (by decide) (fun X hnn hF => ?_)
  show G SC r X σ Z0 [] [(0, .ref (r 0)), (1, .int a1)] [] 0
  refine g_iload_n hF d_X12_fault_0 rfl 1 rfl ?_
  refine g_if_ne hF 14 d_X12_fault_1 (by decide) rfl (fun c => ?_) (fun c => ?_)
  · have w1 := w.1 c
    refine g_iload_n hF d_X12_fault_14 rfl 1 rfl ?_
    refine g_iconst hF (v := 1) d_X12_fault_15 (by decide) ?_
    refine g_icmp_ne (yv := 1) hF 29 d_X12_fault_16 (by decide) rfl (by decide) (fun c => ?_) (fun c => ?_)
    · have w2 := w1.1 c
      refine g_iconst hF (v := (-1)) d_X12_fault_29 (by decide) ?_
      exact g_iret hF rfl d_X12_fault_30 ⟨rfl, rfl, ((-1) : Int32), rfl, ⟨rfl, w2⟩⟩
    · have w3 := w1.2 c
      refine g_aload_n hF d_X12_fault_19 rfl 0 rfl ?_
      refine g_get (v := .ref (r 10)) hF 12 obC_0 (by decide) m_747 rfl d_X12_fault_20 ?_
      refine g_getN (v := .int (σ 10 4)) hF 4 obC_10 (by decide) nm_604 rfl d_X12_fault_23 ?_
      refine g_goto hF 30 d_X12_fault_26 (by decide) ?_
      exact g_iret hF rfl d_X12_fault_30 ⟨rfl, rfl, (σ 10 4), rfl, ⟨rfl, w3⟩⟩
  · have w4 := w.2 c
    refine g_aload_n hF d_X12_fault_4 rfl 0 rfl ?_
    refine g_get (v := .ref (r 10)) hF 12 obC_0 (by decide) m_747 rfl d_X12_fault_5 ?_
    refine g_getN (v := .int (σ 10 3)) hF 3 obC_10 (by decide) nm_602 rfl d_X12_fault_8 ?_
    refine g_goto hF 30 d_X12_fault_11 (by decide) ?_
    exact g_iret hF rfl d_X12_fault_30 ⟨rfl, rfl, (σ 10 3), rfl, ⟨rfl, w4⟩⟩
set_option maxHeartbeats 4000000 in
set_option maxRecDepth 100000 in
theorem kt_X8_isNamed_r1 (a : Nat → Nat) (r : Nat → Nat) {a1 : Int32} {a3 : Int32} {a4 : Int32} {σ : St} {Q : Int32 → Prop} (w : wk_X8_isNamed_r1 a1 a3 a4 σ Q) (l : Launch) (D : va_G) (cy : Nat → ClassId) : Ct l D cy SC r (EC a gC) y_X8_isNamed (Cond.code y_X8_isNamed b_X8_isNamed 7 (some .boolean)) 1 [.ref (r 5), .int a1, .ref (r 1), .int a3, .int a4] σ Z0 [] (QI (fun x σ9 => (x = 0 ∨ x = 1) ∧ σ9 = σ ∧ Q x)) QT0 := by
  unfold wk_X8_isNamed_r1 at w
  refine Ct_of (EC_ok a gC) (by decide) (Nat.le_of_ble_eq_true rfl) (by decide) (fun X hnn hF => ?_)
  show G SC r X σ Z0 [] [(0, .ref (r 5)), (1, .int a1), (2, .ref (r 1)), (3, .int a3), (4, .int a4)] [] 0
  refine g_aload_n hF d_X8_isNamed_0 rfl 0 rfl ?_
  refine g_get (v := .ref (r 29)) hF 6 obC_5 (by decide) m_237 rfl d_X8_isNamed_1 ?_
  refine g_iload_n hF d_X8_isNamed_4 rfl 1 rfl ?_
  refine g_iconst hF (v := 1) d_X8_isNamed_5 (by decide) ?_
  refine g_isub hF d_X8_isNamed_6 ?_
  refine g_callSN (As := [.ref (r 29), .int (a1 - (1 : Int32))]) (rest := []) hF (c_atv a r σ arC_29 (by decide) (a1 - (1 : Int32))) (Nat.le_of_ble_eq_true rfl) mS_X12_at nm_1125 rfl rfl (Nat.le_of_ble_eq_true rfl) d_X8_isNamed_7 (kQ ?_)
  refine g_top (v := (atv 10100 (σ 29) (a1 - (1 : Int32)))) rfl ?_
  refine g_istore hF [(5, .int (atv 10100 (σ 29) (a1 - (1 : Int32)))), (0, .ref (r 5)), (1, .int a1), (2, .ref (r 1)), (3, .int a3), (4, .int a4)] d_X8_isNamed_10 hnn (by decide) rfl ?_
  refine g_aload_n hF d_X8_isNamed_12 rfl 1 rfl ?_
  refine g_get (v := .ref (r 29)) hF 6 obC_5 (by decide) m_237 rfl d_X8_isNamed_13 ?_
  refine g_iload_n hF d_X8_isNamed_16 rfl 2 rfl ?_
  refine g_callSN (As := [.ref (r 29), .int a1]) (rest := []) hF (c_atv a r σ arC_29 (by decide) a1) (Nat.le_of_ble_eq_true rfl) mS_X12_at nm_1125 rfl rfl (Nat.le_of_ble_eq_true rfl) d_X8_isNamed_17 (kQ ?_)
  refine g_top (v := (atv 10100 (σ 29) a1)) rfl ?_
  refine g_iload hF d_X8_isNamed_20 0 rfl ?_
  refine g_isub hF d_X8_isNamed_22 ?_
  refine g_iload hF d_X8_isNamed_23 5 rfl ?_
  refine g_icmp_eq hF 30 d_X8_isNamed_25 (by decide) rfl rfl (fun c => ?_) (fun c => ?_)
  · have w1 := w.1 c
    refine g_iconst hF (v := 0) d_X8_isNamed_30 (by decide) ?_
    refine g_istore hF [(6, .int 0), (5, .int (atv 10100 (σ 29) (a1 - (1 : Int32)))), (0, .ref (r 5)), (1, .int a1), (2, .ref (r 1)), (3, .int a3), (4, .int a4)] d_X8_isNamed_31 hnn (by decide) rfl ?_
    obtain ⟨L33, ⟨i33, u33⟩, h33⟩ := w1
    have b33 : ∀ (n33 : Nat) (x6_33 : Int32), L33 n33 x6_33 → G SC r X σ Z0 [] [(0, .ref (r 5)), (2, .ref (r 1)), (3, .int a3), (4, .int a4), (5, .int (atv 10100 (σ 29) (a1 - (1 : Int32)))), (6, .int x6_33)] [] 33 := by
      intro n33
      induction n33 using Nat.strongRecOn with
      | _ n33 ih33 =>
        intro x6_33  w33_
        have w33_ := h33 n33 x6_33  w33_
        refine g_iload hF d_X8_isNamed_33 5 rfl ?_
        refine g_iload hF d_X8_isNamed_35 3 rfl ?_
        refine g_icmp_ge hF 93 d_X8_isNamed_37 (by decide) rfl rfl (fun c => ?_) (fun c => ?_)
        · have w2 := w33_.1 c
          refine g_iconst hF (v := 1) d_X8_isNamed_93 (by decide) ?_
          exact g_zret hF rfl (k_nz (Or.inr rfl)) d_X8_isNamed_94 ⟨rfl, rfl, (1 : Int32), rfl, (Or.inr rfl), ⟨rfl, w2⟩⟩
        · have w3 := w33_.2 c
          refine g_iload hF d_X8_isNamed_40 4 rfl ?_
          refine g_iload hF d_X8_isNamed_42 5 rfl ?_
          refine g_iadd hF d_X8_isNamed_44 ?_
          refine g_aload_n hF d_X8_isNamed_45 rfl 0 rfl ?_
          refine g_get (v := .ref (r 30)) hF 8 obC_5 (by decide) m_240 rfl d_X8_isNamed_46 ?_
          refine g_alen hF arC_30 (fun _ => ⟨0, _, rfl⟩) (v := 65600) (by decide) d_X8_isNamed_49 ?_
          refine g_icmp_ge (yv := 65600) hF 85 d_X8_isNamed_50 (by decide) rfl (by decide) (fun c => ?_) (fun c => ?_)
          · have w4 := w3.1 c
            refine g_iconst hF (v := 0) d_X8_isNamed_85 (by decide) ?_
            exact g_zret hF rfl (k_nz (Or.inl rfl)) d_X8_isNamed_86 ⟨rfl, rfl, (0 : Int32), rfl, (Or.inl rfl), ⟨rfl, w4⟩⟩
          · have w5 := w3.2 c
            refine g_iload_n hF d_X8_isNamed_53 rfl 2 rfl ?_
            refine g_if_lt hF 85 d_X8_isNamed_54 (by decide) rfl (fun c => ?_) (fun c => ?_)
            · have w6 := w5.1 c
              refine g_iconst hF (v := 0) d_X8_isNamed_85 (by decide) ?_
              exact g_zret hF rfl (k_nz (Or.inl rfl)) d_X8_isNamed_86 ⟨rfl, rfl, (0 : Int32), rfl, (Or.inl rfl), ⟨rfl, w6⟩⟩
            · have w7 := w5.2 c
              refine g_iload_n hF d_X8_isNamed_57 rfl 2 rfl ?_
              refine g_iload hF d_X8_isNamed_58 5 rfl ?_
              refine g_iadd hF d_X8_isNamed_60 ?_
              refine g_aload_n hF d_X8_isNamed_61 rfl 1 rfl ?_
              refine g_alen hF arC_1 (fun _ => ⟨0, _, rfl⟩) (v := 16000) (by decide) d_X8_isNamed_62 ?_
              refine g_icmp_ge (yv := 16000) hF 85 d_X8_isNamed_63 (by decide) rfl (by decide) (fun c => ?_) (fun c => ?_)
              · have w8 := w7.1 c
                refine g_iconst hF (v := 0) d_X8_isNamed_85 (by decide) ?_
                exact g_zret hF rfl (k_nz (Or.inl rfl)) d_X8_isNamed_86 ⟨rfl, rfl, (0 : Int32), rfl, (Or.inl rfl), ⟨rfl, w8⟩⟩
              · have w9 := w7.2 c
                refine g_aload_n hF d_X8_isNamed_66 rfl 0 rfl ?_
                refine g_get (v := .ref (r 30)) hF 8 obC_5 (by decide) m_240 rfl d_X8_isNamed_67 ?_
                refine g_iload hF d_X8_isNamed_70 4 rfl ?_
                refine g_iload hF d_X8_isNamed_72 5 rfl ?_
                refine g_iadd hF d_X8_isNamed_74 ?_
                have w10 := w9.2
                refine g_bald hF arC_30 (s_in (Nat.le_of_ble_eq_true rfl) w9.1.1 w9.1.2) d_X8_isNamed_75 ?_
                refine g_top (v := (σ 30 ((atv 10100 (σ 29) (a1 - (1 : Int32))) + x6_33).toNatClampNeg)) rfl ?_
                refine g_aload_n hF d_X8_isNamed_76 rfl 1 rfl ?_
                refine g_iload_n hF d_X8_isNamed_77 rfl 2 rfl ?_
                refine g_iload hF d_X8_isNamed_78 5 rfl ?_
                refine g_iadd hF d_X8_isNamed_80 ?_
                have w11 := w10.2
                refine g_bald hF arC_1 (s_in (Nat.le_of_ble_eq_true rfl) w10.1.1 w10.1.2) d_X8_isNamed_81 ?_
                refine g_top (v := (σ 1 (a3 + x6_33).toNatClampNeg)) rfl ?_
                refine g_icmp_eq hF 87 d_X8_isNamed_82 (by decide) rfl rfl (fun c => ?_) (fun c => ?_)
                · have w12 := w11.1 c
                  refine g_iinc hF (x6_33 + 1) [(6, .int (x6_33 + 1)), (0, .ref (r 5)), (2, .ref (r 1)), (3, .int a3), (4, .int a4), (5, .int (atv 10100 (σ 29) (a1 - (1 : Int32))))] d_X8_isNamed_87 5 rfl rfl hnn (by decide) rfl ?_
                  refine g_goto hF 33 d_X8_isNamed_90 (by decide) ?_
                  obtain ⟨m33, hm33, w9⟩ := w12
                  exact g_sub (L' := [(0, .ref (r 5)), (2, .ref (r 1)), (3, .int a3), (4, .int a4), (5, .int (atv 10100 (σ 29) (a1 - (1 : Int32)))), (6, .int (x6_33 + 1))]) [1, 2, 3, 4, 5, 0] rfl (ih33 m33 hm33 (x6_33 + 1) w9)
                · have w13 := w11.2 c
                  refine g_iconst hF (v := 0) d_X8_isNamed_85 (by decide) ?_
                  exact g_zret hF rfl (k_nz (Or.inl rfl)) d_X8_isNamed_86 ⟨rfl, rfl, (0 : Int32), rfl, (Or.inl rfl), ⟨rfl, w13⟩⟩
    exact g_sub (L' := [(0, .ref (r 5)), (2, .ref (r 1)), (3, .int a3), (4, .int a4), (5, .int (atv 10100 (σ 29) (a1 - (1 : Int32)))), (6, .int 0)]) [2, 4, 5, 6, 1, 0] rfl (b33 i33 (0 : Int32) u33)
  · have w14 := w.2 c
    refine g_iconst hF (v := 0) d_X8_isNamed_28 (by decide) ?_
    exact g_zret hF rfl (k_nz (Or.inl rfl)) d_X8_isNamed_29 ⟨rfl, rfl, (0 : Int32), rfl, (Or.inl rfl), ⟨rfl, w14⟩⟩
set_option maxHeartbeats 4000000 in
set_option maxRecDepth 100000 in
theorem kt_X4_find_r57_r1 (a : Nat → Nat) (r : Nat → Nat) {a2 : Int32} {a4 : Int32} {a5 : Int32} {σ : St} {Q : Int32 → Prop} (w : wk_X4_find_r57_r1 a2 a4 a5 σ Q) (l : Launch) (D : va_G) (cy : Nat → ClassId) : Ct l D cy SC r (EC a gC) y_X4_find (Cond.code y_X4_find b_X4_find 9 (some .int)) 2 [.ref (r 10), .ref (r 57), .int a2, .ref (r 1), .int a4, .int a5] σ Z0 [] (QI (fun x σ9 => σ9 = σ ∧ Q x)) QT0 := by
  unfold wk_X4_find_r57_r1 at w
  refine Ct_of (EC_ok a gC) (by decide) (Nat.le_of_ble_eq_true rfl) (by decide) (fun X hnn hF => ?_)
  show G SC r X σ Z0 [] [(0, .ref (r 10)), (1, .ref (r 57)), (2, .int a2), (3, .ref (r 1)), (4, .int a4), (5, .int a5)] [] 0
  refine g_iconst hF (v := 0) d_X4_find_0 (by decide) ?_
  refine g_istore hF [(6, .int 0), (0, .ref (r 10)), (1, .ref (r 57)), (2, .int a2), (3, .ref (r 1)), (4, .int a4), (5, .int a5)] d_X4_find_1 hnn (by decide) rfl ?_
  obtain ⟨L3, ⟨i3, u3⟩, h3⟩ := w
  have b3 : ∀ (n3 : Nat) (x6_3 : Int32), L3 n3 x6_3 → G SC r X σ Z0 [] [(0, .ref (r 10)), (1, .ref (r 57)), (2, .int a2), (3, .ref (r 1)), (4, .int a4), (5, .int a5), (6, .int x6_3)] [] 3 := by
    intro n3
    induction n3 using Nat.strongRecOn with
    | _ n3 ih3 =>
      intro x6_3  w3_
      have w3_ := h3 n3 x6_3  w3_
      refine g_iload hF d_X4_find_3 6 rfl ?_
      refine g_iload_n hF d_X4_find_5 rfl 2 rfl ?_
      refine g_icmp_ge hF 103 d_X4_find_6 (by decide) rfl rfl (fun c => ?_) (fun c => ?_)
      · have w1 := w3_.1 c
        refine g_iconst hF (v := (-1)) d_X4_find_103 (by decide) ?_
        exact g_iret hF rfl d_X4_find_104 ⟨rfl, rfl, ((-1) : Int32), rfl, ⟨rfl, w1⟩⟩
      · have w2 := w3_.2 c
        refine g_aload_n hF d_X4_find_9 rfl 1 rfl ?_
        refine g_iload hF d_X4_find_10 6 rfl ?_
        refine g_callSN (As := [.ref (r 57), .int x6_3]) (rest := []) hF (c_atv a r σ arC_57 (by decide) x6_3) (Nat.le_of_ble_eq_true rfl) mS_X12_at nm_1552 rfl rfl (Nat.le_of_ble_eq_true rfl) d_X4_find_12 (kQ ?_)
        refine g_top (v := (atv 101 (σ 57) x6_3)) rfl ?_
        refine g_istore hF [(7, .int (atv 101 (σ 57) x6_3)), (0, .ref (r 10)), (1, .ref (r 57)), (2, .int a2), (3, .ref (r 1)), (4, .int a4), (5, .int a5), (6, .int x6_3)] d_X4_find_15 hnn (by decide) rfl ?_
        refine g_aload_n hF d_X4_find_17 rfl 1 rfl ?_
        refine g_get (v := .ref (r 5)) hF 0 obC_10 (by decide) m_597 rfl d_X4_find_18 ?_
        refine g_iload hF d_X4_find_21 0 rfl ?_
        refine g_callVN (As := [.int (atv 101 (σ 57) x6_3)]) (rest := []) hF (fun l D cy => kt_X8_firstOf a r w2 l D cy) (Nat.le_of_ble_eq_true rfl) mV_X8_firstOf nm_1566 (recv_ob obC_5) rfl rfl (Nat.le_of_ble_eq_true rfl) d_X4_find_23 (qIr (fun v23 w3 => ?_))
        refine g_istore hF [(8, .int v23), (7, .int (atv 101 (σ 57) x6_3)), (0, .ref (r 10)), (1, .ref (r 57)), (2, .int a2), (3, .ref (r 1)), (4, .int a4), (5, .int a5), (6, .int x6_3)] d_X4_find_26 hnn (by decide) rfl ?_
        obtain ⟨L28, ⟨i28, u28⟩, h28⟩ := w3
        have b28 : ∀ (n28 : Nat) (x8_28 : Int32), L28 n28 x8_28 → G SC r X σ Z0 [] [(0, .ref (r 10)), (1, .ref (r 57)), (2, .int a2), (3, .ref (r 1)), (4, .int a4), (5, .int a5), (6, .int x6_3), (7, .int (atv 101 (σ 57) x6_3)), (8, .int x8_28)] [] 28 := by
          intro n28
          induction n28 using Nat.strongRecOn with
          | _ n28 ih28 =>
            intro x8_28  w28_
            have w28_ := h28 n28 x8_28  w28_
            refine g_iload hF d_X4_find_28 8 rfl ?_
            refine g_aload_n hF d_X4_find_30 rfl 0 rfl ?_
            refine g_get (v := .ref (r 5)) hF 0 obC_10 (by decide) m_597 rfl d_X4_find_31 ?_
            refine g_getN (v := .ref (r 34)) hF 14 obC_5 (by decide) nm_253 rfl d_X4_find_34 ?_
            refine g_iload hF d_X4_find_37 7 rfl ?_
            refine g_callSN (As := [.ref (r 34), .int (atv 101 (σ 57) x6_3)]) (rest := [.int x8_28]) hF (c_atv a r σ arC_34 (by decide) (atv 101 (σ 57) x6_3)) (Nat.le_of_ble_eq_true rfl) mS_X12_at nm_1552 rfl rfl (Nat.le_of_ble_eq_true rfl) d_X4_find_39 (kQ ?_)
            refine g_top (v := (atv 101 (σ 34) (atv 101 (σ 57) x6_3))) rfl ?_
            refine g_icmp_ge hF 97 d_X4_find_42 (by decide) rfl rfl (fun c => ?_) (fun c => ?_)
            · have w4 := w28_.1 c
              refine g_iinc hF (x6_3 + 1) [(6, .int (x6_3 + 1)), (0, .ref (r 10)), (1, .ref (r 57)), (2, .int a2), (3, .ref (r 1)), (4, .int a4), (5, .int a5), (7, .int (atv 101 (σ 57) x6_3)), (8, .int x8_28)] d_X4_find_97 6 rfl rfl hnn (by decide) rfl ?_
              refine g_goto hF 3 d_X4_find_100 (by decide) ?_
              obtain ⟨m3, hm3, w9⟩ := w4
              exact g_sub (L' := [(0, .ref (r 10)), (1, .ref (r 57)), (2, .int a2), (3, .ref (r 1)), (4, .int a4), (5, .int a5), (6, .int (x6_3 + 1))]) [1, 2, 3, 4, 5, 6, 0] rfl (ih3 m3 hm3 (x6_3 + 1) w9)
            · have w5 := w28_.2 c
              refine g_aload_n hF d_X4_find_45 rfl 0 rfl ?_
              refine g_get (v := .ref (r 5)) hF 0 obC_10 (by decide) m_597 rfl d_X4_find_46 ?_
              refine g_iload hF d_X4_find_49 8 rfl ?_
              refine g_iconst hF (v := 4) d_X4_find_51 (by decide) ?_
              refine g_callVN (As := [.int x8_28, .int 4]) (rest := []) hF (fun l D cy => kt_X8_is a r w5 l D cy) (Nat.le_of_ble_eq_true rfl) mV_X8_is nm_1567 (recv_ob obC_5) rfl rfl (Nat.le_of_ble_eq_true rfl) d_X4_find_52 (qZr (fun v52 hz52 w6 => ?_))
              obtain ⟨J91, h91, w7⟩ := w6
              have b91 : J91  → G SC r X σ Z0 [] [(0, .ref (r 10)), (1, .ref (r 57)), (2, .int a2), (3, .ref (r 1)), (4, .int a4), (5, .int a5), (6, .int x6_3), (7, .int (atv 101 (σ 57) x6_3)), (8, .int x8_28)] [] 91 := by
                intro   w91_
                have w91_ := h91   w91_
                refine g_iinc hF (x8_28 + 1) [(8, .int (x8_28 + 1)), (0, .ref (r 10)), (1, .ref (r 57)), (2, .int a2), (3, .ref (r 1)), (4, .int a4), (5, .int a5), (6, .int x6_3), (7, .int (atv 101 (σ 57) x6_3))] d_X4_find_91 8 rfl rfl hnn (by decide) rfl ?_
                refine g_goto hF 28 d_X4_find_94 (by decide) ?_
                obtain ⟨m28, hm28, w9⟩ := w91_
                exact g_sub (L' := [(0, .ref (r 10)), (1, .ref (r 57)), (2, .int a2), (3, .ref (r 1)), (4, .int a4), (5, .int a5), (6, .int x6_3), (7, .int (atv 101 (σ 57) x6_3)), (8, .int (x8_28 + 1))]) [1, 2, 3, 4, 5, 6, 7, 8, 0] rfl (ih28 m28 hm28 (x8_28 + 1) w9)
              refine g_if_eq hF 91 d_X4_find_55 (by decide) rfl (fun c => ?_) (fun c => ?_)
              · have w8 := w7.1 c
                exact b91  w8
              · have w9 := w7.2 c
                refine g_aload_n hF d_X4_find_58 rfl 0 rfl ?_
                refine g_get (v := .ref (r 5)) hF 0 obC_10 (by decide) m_597 rfl d_X4_find_59 ?_
                refine g_iload hF d_X4_find_62 8 rfl ?_
                refine g_iconst hF (v := 2) d_X4_find_64 (by decide) ?_
                refine g_callVN (As := [.int x8_28, .int 2]) (rest := []) hF (fun l D cy => kt_X8_is a r w9 l D cy) (Nat.le_of_ble_eq_true rfl) mV_X8_is nm_1567 (recv_ob obC_5) rfl rfl (Nat.le_of_ble_eq_true rfl) d_X4_find_65 (qZr (fun v65 hz65 w10 => ?_))
                refine g_if_ne hF 91 d_X4_find_68 (by decide) rfl (fun c => ?_) (fun c => ?_)
                · have w11 := w10.1 c
                  exact b91  w11
                · have w12 := w10.2 c
                  refine g_aload_n hF d_X4_find_71 rfl 0 rfl ?_
                  refine g_get (v := .ref (r 5)) hF 0 obC_10 (by decide) m_597 rfl d_X4_find_72 ?_
                  refine g_iload hF d_X4_find_75 8 rfl ?_
                  refine g_aload_n hF d_X4_find_77 rfl 3 rfl ?_
                  refine g_iload hF d_X4_find_78 4 rfl ?_
                  refine g_iload hF d_X4_find_80 5 rfl ?_
                  refine g_callVN (As := [.int x8_28, .ref (r 1), .int a4, .int a5]) (rest := []) hF (fun l D cy => kt_X8_isNamed_r1 a r w12 l D cy) (Nat.le_of_ble_eq_true rfl) mV_X8_isNamed nm_1568 (recv_ob obC_5) rfl rfl (Nat.le_of_ble_eq_true rfl) d_X4_find_82 (qZr (fun v82 hz82 w13 => ?_))
                  refine g_if_eq hF 91 d_X4_find_85 (by decide) rfl (fun c => ?_) (fun c => ?_)
                  · have w14 := w13.1 c
                    exact b91  w14
                  · have w15 := w13.2 c
                    refine g_iload hF d_X4_find_88 8 rfl ?_
                    exact g_iret hF rfl d_X4_find_90 ⟨rfl, rfl, x8_28, rfl, ⟨rfl, w15⟩⟩
        exact g_sub (L' := [(0, .ref (r 10)), (1, .ref (r 57)), (2, .int a2), (3, .ref (r 1)), (4, .int a4), (5, .int a5), (6, .int x6_3), (7, .int (atv 101 (σ 57) x6_3)), (8, .int v23)]) [2, 3, 4, 5, 6, 7, 8, 1, 0] rfl (b28 i28 v23 u28)
  exact g_sub (L' := [(0, .ref (r 10)), (1, .ref (r 57)), (2, .int a2), (3, .ref (r 1)), (4, .int a4), (5, .int a5), (6, .int 0)]) [1, 2, 3, 4, 5, 6, 0] rfl (b3 i3 (0 : Int32) u3)
set_option maxHeartbeats 4000000 in
set_option maxRecDepth 100000 in
theorem kt_X4_cellOf_r1 (a : Nat → Nat) (r : Nat → Nat) {a2 : Int32} {σ : St} {Q : Int32 → Prop} (w : wk_X4_cellOf_r1 a2 σ Q) (l : Launch) (D : va_G) (cy : Nat → ClassId) : Ct l D cy SC r (EC a gC) y_X4_cellOf (Cond.code y_X4_cellOf b_X4_cellOf 4 (some .int)) 3 [.ref (r 10), .ref (r 1), .int a2] σ Z0 [] (QI (fun x σ9 => σ9 = σ ∧ Q x)) QT0 := by
  unfold wk_X4_cellOf_r1 at w
  refine Ct_of (EC_ok a gC) (by decide) (Nat.le_of_ble_eq_true rfl) (by decide) (fun X hnn hF => ?_)
  show G SC r X σ Z0 [] [(0, .ref (r 10)), (1, .ref (r 1)), (2, .int a2)] [] 0
  refine g_aload_n hF d_X4_cellOf_0 rfl 0 rfl ?_
  refine g_get (v := .int (σ 10 2)) hF 2 obC_10 (by decide) m_599 rfl d_X4_cellOf_1 ?_
  obtain ⟨J26, h26, w1⟩ := w
  have b26 : ∀ (y0_26 : Int32), J26 y0_26 → G SC r X σ Z0 [] [(0, .ref (r 10))] [.int y0_26] 26 := by
    intro y0_26  w26_
    have w26_ := h26 y0_26  w26_
    refine g_istore_n hF [(3, .int y0_26), (0, .ref (r 10))] d_X4_cellOf_26 rfl hnn (by decide) rfl ?_
    refine g_iload_n hF d_X4_cellOf_27 rfl 0 rfl ?_
    refine g_if_ge hF 33 d_X4_cellOf_28 (by decide) rfl (fun c => ?_) (fun c => ?_)
    · have w2 := w26_.1 c
      refine g_aload_n hF d_X4_cellOf_33 rfl 1 rfl ?_
      refine g_get (v := .ref (r 5)) hF 0 obC_10 (by decide) m_597 rfl d_X4_cellOf_34 ?_
      refine g_iload_n hF d_X4_cellOf_37 rfl 0 rfl ?_
      refine g_iconst hF (v := 1) d_X4_cellOf_38 (by decide) ?_
      refine g_callVN (As := [.int y0_26, .int 1]) (rest := []) hF (fun l D cy => kt_X8_is a r w2 l D cy) (Nat.le_of_ble_eq_true rfl) mV_X8_is nm_1567 (recv_ob obC_5) rfl rfl (Nat.le_of_ble_eq_true rfl) d_X4_cellOf_39 (qZr (fun v39 hz39 w3 => ?_))
      refine g_if_eq hF 49 d_X4_cellOf_42 (by decide) rfl (fun c => ?_) (fun c => ?_)
      · have w4 := w3.1 c
        refine g_aload_n hF d_X4_cellOf_49 rfl 1 rfl ?_
        refine g_get (v := .ref (r 59)) hF 10 obC_10 (by decide) m_611 rfl d_X4_cellOf_50 ?_
        refine g_iload_n hF d_X4_cellOf_53 rfl 0 rfl ?_
        refine g_callSN (As := [.ref (r 59), .int y0_26]) (rest := []) hF (c_atv a r σ arC_59 (by decide) y0_26) (Nat.le_of_ble_eq_true rfl) mS_X12_at nm_1552 rfl rfl (Nat.le_of_ble_eq_true rfl) d_X4_cellOf_54 (kQ ?_)
        refine g_top (v := (atv 10100 (σ 59) y0_26)) rfl ?_
        exact g_iret hF rfl d_X4_cellOf_57 ⟨rfl, rfl, (atv 10100 (σ 59) y0_26), rfl, ⟨rfl, w4⟩⟩
      · have w5 := w3.2 c
        refine g_iconst hF (v := 0) d_X4_cellOf_45 (by decide) ?_
        refine g_goto hF 57 d_X4_cellOf_46 (by decide) ?_
        exact g_iret hF rfl d_X4_cellOf_57 ⟨rfl, rfl, (0 : Int32), rfl, ⟨rfl, w5⟩⟩
    · have w6 := w26_.2 c
      refine g_iconst hF (v := (-1)) d_X4_cellOf_31 (by decide) ?_
      exact g_iret hF rfl d_X4_cellOf_32 ⟨rfl, rfl, ((-1) : Int32), rfl, ⟨rfl, w6⟩⟩
  refine g_if_eq hF 25 d_X4_cellOf_4 (by decide) rfl (fun c => ?_) (fun c => ?_)
  · have w7 := w1.1 c
    refine g_iconst hF (v := (-1)) d_X4_cellOf_25 (by decide) ?_
    exact g_sub (L' := [(0, .ref (r 10))]) [0] rfl (b26 ((-1) : Int32) w7)
  · have w8 := w1.2 c
    refine g_aload_n hF d_X4_cellOf_7 rfl 0 rfl ?_
    refine g_aload_n hF d_X4_cellOf_8 rfl 0 rfl ?_
    refine g_get (v := .ref (r 57)) hF 8 obC_10 (by decide) m_608 rfl d_X4_cellOf_9 ?_
    refine g_aload_n hF d_X4_cellOf_12 rfl 0 rfl ?_
    refine g_get (v := .int (σ 10 7)) hF 7 obC_10 (by decide) m_607 rfl d_X4_cellOf_13 ?_
    refine g_aload_n hF d_X4_cellOf_16 rfl 1 rfl ?_
    refine g_iconst hF (v := 0) d_X4_cellOf_17 (by decide) ?_
    refine g_iload_n hF d_X4_cellOf_18 rfl 2 rfl ?_
    refine g_callV (As := [.ref (r 57), .int (σ 10 7), .ref (r 1), .int 0, .int a2]) (rest := []) hF (fun l D cy => kt_X4_find_r57_r1 a r w8 l D cy) (Nat.le_of_ble_eq_true rfl) mV_X4_find m_1562 (recv_ob obC_10) rfl rfl (Nat.le_of_ble_eq_true rfl) d_X4_cellOf_19 (qIr (fun v19 w9 => ?_)) (fun _ _ _ h => h.elim)
    refine g_goto hF 26 d_X4_cellOf_22 (by decide) ?_
    exact g_sub (L' := [(0, .ref (r 10))]) [0] rfl (b26 v19 w9)
set_option maxHeartbeats 4000000 in
set_option maxRecDepth 100000 in
theorem kt_X12_cell (a : Nat → Nat) (r : Nat → Nat) {σ : St} {Q : Int32 → St → Prop} (w : wk_X12_cell  σ Q) (l : Launch) (D : va_G) (cy : Nat → ClassId) : Ct l D cy SC r (EC a gC) y_X12_cell (Cond.code y_X12_cell b_X12_cell 2 (some .int)) 4 [.ref (r 0)] σ Z0 [] (QI Q) QT0 := by
  unfold wk_X12_cell at w
  refine Ct_of (EC_ok a gC) (by decide) (Nat.le_of_ble_eq_true rfl) (by decide) (fun X hnn hF => ?_)
  show G SC r X σ Z0 [] [(0, .ref (r 0))] [] 0
  refine g_aload_n hF d_X12_cell_0 rfl 0 rfl ?_
  refine g_get (v := .int (σ 0 1)) hF 1 obC_0 (by decide) m_736 rfl d_X12_cell_1 ?_
  refine g_istore_n hF [(1, .int (σ 0 1)), (0, .ref (r 0))] d_X12_cell_4 rfl hnn (by decide) rfl ?_
  refine g_aload_n hF d_X12_cell_5 rfl 1 rfl ?_
  refine g_iconst hF (v := 0) d_X12_cell_6 (by decide) ?_
  refine g_put (v := 0) hF 1 obC_0 (by decide) m_736 rfl rfl rfl d_X12_cell_7 ?_
  refine g_aload_n hF d_X12_cell_10 rfl 1 rfl ?_
  refine g_get (v := .ref (r 10)) hF 12 obC_0 (by decide) m_747 rfl d_X12_cell_11 ?_
  refine g_aload_n hF d_X12_cell_14 rfl 1 rfl ?_
  refine g_get (v := .ref (r 1)) hF 0 obC_0 (by decide) m_735 rfl d_X12_cell_15 ?_
  refine g_iload_n hF d_X12_cell_18 rfl 0 rfl ?_
  refine g_callVN (As := [.ref (r 1), .int (σ 0 1)]) (rest := []) hF (fun l D cy => kt_X4_cellOf_r1 a r w l D cy) (Nat.le_of_ble_eq_true rfl) mV_X4_cellOf nm_1613 (recv_ob obC_10) rfl rfl (Nat.le_of_ble_eq_true rfl) d_X12_cell_19 (qIr (fun v19 w1 => ?_))
  exact g_iret hF rfl d_X12_cell_22 ⟨rfl, rfl, v19, rfl, w1⟩
set_option maxHeartbeats 4000000 in
set_option maxRecDepth 100000 in
theorem kt_X9_give (a : Nat → Nat) (r : Nat → Nat) {a1 : Int32} {σ : St} {Q : Int32 → St → Prop} (w : wk_X9_give a1 σ Q) (l : Launch) (D : va_G) (cy : Nat → ClassId) : Ct l D cy SC r (EC a gC) y_X9_give (Cond.code y_X9_give b_X9_give 2 (some .int)) 0 [.ref (r 11), .int a1] σ Z0 [] (QI Q) QT0 := by
  unfold wk_X9_give at w
  refine Ct_of (EC_ok a gC) (by decide) (Nat.le_of_ble_eq_true rfl) (by decide) (fun X hnn hF => ?_)
  show G SC r X σ Z0 [] [(0, .ref (r 11)), (1, .int a1)] [] 0
  refine g_aload_n hF d_X9_give_0 rfl 0 rfl ?_
  refine g_get (v := .int (σ 11 0)) hF 0 obC_11 (by decide) m_646 rfl d_X9_give_1 ?_
  refine g_sipush hF (v := 4096) d_X9_give_4 (by decide) ?_
  refine g_icmp_ge (yv := 4096) hF 22 d_X9_give_7 (by decide) rfl (by decide) (fun c => ?_) (fun c => ?_)
  · have w1 := w.1 c
    refine g_iconst hF (v := (-1)) d_X9_give_22 (by decide) ?_
    exact g_iret hF rfl d_X9_give_23 ⟨rfl, rfl, ((-1) : Int32), rfl, w1⟩
  · have w2 := w.2 c
    refine g_aload_n hF d_X9_give_10 rfl 0 rfl ?_
    refine g_get (v := .int (σ 11 0)) hF 0 obC_11 (by decide) m_646 rfl d_X9_give_11 ?_
    refine g_aload_n hF d_X9_give_14 rfl 0 rfl ?_
    refine g_get (v := .ref (r 60)) hF 3 obC_11 (by decide) m_650 rfl d_X9_give_15 ?_
    refine g_alen hF arC_60 (fun _ => ⟨0, _, rfl⟩) (v := 4096) (by decide) d_X9_give_18 ?_
    refine g_icmp_lt (yv := 4096) hF 24 d_X9_give_19 (by decide) rfl (by decide) (fun c => ?_) (fun c => ?_)
    · have w3 := w2.1 c
      refine g_aload_n hF d_X9_give_24 rfl 0 rfl ?_
      refine g_get (v := .ref (r 60)) hF 3 obC_11 (by decide) m_650 rfl d_X9_give_25 ?_
      refine g_aload_n hF d_X9_give_28 rfl 0 rfl ?_
      refine g_get (v := .int (σ 11 0)) hF 0 obC_11 (by decide) m_646 rfl d_X9_give_29 ?_
      refine g_iload_n hF d_X9_give_32 rfl 1 rfl ?_
      refine g_i2b hF d_X9_give_33 ?_
      have w4 := w3.2
      refine g_bast hF arC_60 (s_in (Nat.le_of_ble_eq_true rfl) w3.1.1 w3.1.2) d_X9_give_34 ?_
      refine g_aload_n hF d_X9_give_35 rfl 0 rfl ?_
      refine g_dup hF d_X9_give_36 rfl ?_
      refine g_get (v := .int (σ 11 0)) hF 0 obC_11 (by decide) m_646 rfl d_X9_give_37 ?_
      refine g_iconst hF (v := 1) d_X9_give_40 (by decide) ?_
      refine g_iadd hF d_X9_give_41 ?_
      refine g_put (v := ((σ 11 0) + (1 : Int32))) hF 0 obC_11 (by decide) m_646 rfl rfl rfl d_X9_give_42 ?_
      refine g_aload_n hF d_X9_give_45 rfl 0 rfl ?_
      refine g_get (v := .int ((σ 11 0) + (1 : Int32))) hF 0 obC_11 (by decide) m_646 rfl d_X9_give_46 ?_
      exact g_iret hF rfl d_X9_give_49 ⟨rfl, rfl, ((σ 11 0) + (1 : Int32)), rfl, w4⟩
    · have w5 := w2.2 c
      refine g_iconst hF (v := (-1)) d_X9_give_22 (by decide) ?_
      exact g_iret hF rfl d_X9_give_23 ⟨rfl, rfl, ((-1) : Int32), rfl, w5⟩
set_option maxHeartbeats 4000000 in
set_option maxRecDepth 100000 in
theorem kt_X12_input (a : Nat → Nat) (r : Nat → Nat) {a1 : Int32} {σ : St} {Q : Int32 → St → Prop} (w : wk_X12_input a1 σ Q) (l : Launch) (D : va_G) (cy : Nat → ClassId) : Ct l D cy SC r (EC a gC) y_X12_input (Cond.code y_X12_input b_X12_input 2 (some .int)) 1 [.ref (r 0), .int a1] σ Z0 [] (QI Q) QT0 := by
  unfold wk_X12_input at w
  refine Ct_of (EC_ok a gC) (by decide) (Nat.le_of_ble_eq_true rfl) (by decide) (fun X hnn hF => ?_)
  show G SC r X σ Z0 [] [(0, .ref (r 0)), (1, .int a1)] [] 0
  refine g_aload_n hF d_X12_input_0 rfl 0 rfl ?_
  refine g_get (v := .ref (r 11)) hF 13 obC_0 (by decide) m_748 rfl d_X12_input_1 ?_
  refine g_iload_n hF d_X12_input_4 rfl 1 rfl ?_
  refine g_callVN (As := [.int a1]) (rest := []) hF (fun l D cy => kt_X9_give a r w l D cy) (Nat.le_of_ble_eq_true rfl) mV_X9_give nm_1621 (recv_ob obC_11) rfl rfl (Nat.le_of_ble_eq_true rfl) d_X12_input_5 (qI (fun v5 s5 w1 => ?_))
  exact g_iret hF rfl d_X12_input_8 ⟨rfl, rfl, v5, rfl, w1⟩
set_option maxHeartbeats 4000000 in
set_option maxRecDepth 100000 in
theorem kt_X4_fill_r62 (a : Nat → Nat) (r : Nat → Nat) {σ : St} {Q : St → Prop} (w : wk_X4_fill_r62  σ Q) (l : Launch) (D : va_G) (cy : Nat → ClassId) : Ct l D cy SC r (EC a gC) y_X4_fill (Cond.code y_X4_fill b_X4_fill 8 none) 1 [.ref (r 10), .ref (r 62)] σ Z0 [] (QV Q) QT0 := by
  unfold wk_X4_fill_r62 at w
  refine Ct_of (EC_ok a gC) (by decide) (Nat.le_of_ble_eq_true rfl) (by decide) (fun X hnn hF => ?_)
  show G SC r X σ Z0 [] [(0, .ref (r 10)), (1, .ref (r 62))] [] 0
  refine g_iconst hF (v := 1) d_X4_fill_0 (by decide) ?_
  refine g_istore_n hF [(2, .int 1), (0, .ref (r 10)), (1, .ref (r 62))] d_X4_fill_1 rfl hnn (by decide) rfl ?_
  obtain ⟨L2, ⟨i2, u2⟩, h2⟩ := w
  have b2 : ∀ (n2 : Nat) (x2_2 : Int32) (s2 : St), L2 n2 x2_2 s2 → G SC r X s2 Z0 [] [(0, .ref (r 10)), (1, .ref (r 62)), (2, .int x2_2)] [] 2 := by
    intro n2
    induction n2 using Nat.strongRecOn with
    | _ n2 ih2 =>
      intro x2_2 s2  w2_
      have w2_ := h2 n2 x2_2 s2  w2_
      refine g_iload_n hF d_X4_fill_2 rfl 2 rfl ?_
      refine g_aload_n hF d_X4_fill_3 rfl 0 rfl ?_
      refine g_get (v := .int (s2 10 7)) hF 7 obC_10 (by decide) m_607 rfl d_X4_fill_4 ?_
      refine g_icmp_ge hF 159 d_X4_fill_7 (by decide) rfl rfl (fun c => ?_) (fun c => ?_)
      · have w1 := w2_.1 c
        exact g_vret hF rfl d_X4_fill_159 ⟨rfl, rfl, rfl, w1⟩
      · have w2 := w2_.2 c
        refine g_aload_n hF d_X4_fill_10 rfl 0 rfl ?_
        refine g_get (v := .ref (r 57)) hF 8 obC_10 (by decide) m_608 rfl d_X4_fill_11 ?_
        refine g_iload_n hF d_X4_fill_14 rfl 2 rfl ?_
        refine g_callSN (As := [.ref (r 57), .int x2_2]) (rest := []) hF (c_atv a r s2 arC_57 (by decide) x2_2) (Nat.le_of_ble_eq_true rfl) mS_X12_at nm_1552 rfl rfl (Nat.le_of_ble_eq_true rfl) d_X4_fill_15 (kQ ?_)
        refine g_top (v := (atv 101 (s2 57) x2_2)) rfl ?_
        refine g_istore_n hF [(3, .int (atv 101 (s2 57) x2_2)), (0, .ref (r 10)), (1, .ref (r 62)), (2, .int x2_2)] d_X4_fill_18 rfl hnn (by decide) rfl ?_
        refine g_aload_n hF d_X4_fill_19 rfl 1 rfl ?_
        refine g_get (v := .ref (r 5)) hF 0 obC_10 (by decide) m_597 rfl d_X4_fill_20 ?_
        refine g_getN (v := .ref (r 35)) hF 15 obC_5 (by decide) nm_255 rfl d_X4_fill_23 ?_
        refine g_iload_n hF d_X4_fill_26 rfl 0 rfl ?_
        refine g_iconst hF (v := 1) d_X4_fill_27 (by decide) ?_
        refine g_isub hF d_X4_fill_28 ?_
        refine g_callSN (As := [.ref (r 35), .int ((atv 101 (s2 57) x2_2) - (1 : Int32))]) (rest := []) hF (c_atv a r s2 arC_35 (by decide) ((atv 101 (s2 57) x2_2) - (1 : Int32))) (Nat.le_of_ble_eq_true rfl) mS_X12_at nm_1552 rfl rfl (Nat.le_of_ble_eq_true rfl) d_X4_fill_29 (kQ ?_)
        refine g_top (v := (atv 101 (s2 35) ((atv 101 (s2 57) x2_2) - (1 : Int32)))) rfl ?_
        refine g_istore hF [(4, .int (atv 101 (s2 35) ((atv 101 (s2 57) x2_2) - (1 : Int32)))), (3, .int (atv 101 (s2 57) x2_2)), (0, .ref (r 10)), (1, .ref (r 62)), (2, .int x2_2)] d_X4_fill_32 hnn (by decide) rfl ?_
        obtain ⟨L34, ⟨i34, u34⟩, h34⟩ := w2
        have b34 : ∀ (n34 : Nat) (x4_34 : Int32) (s34 : St), L34 n34 x4_34 s34 → G SC r X s34 Z0 [] [(0, .ref (r 10)), (1, .ref (r 62)), (2, .int x2_2), (3, .int (atv 101 (s2 57) x2_2)), (4, .int x4_34)] [] 34 := by
          intro n34
          induction n34 using Nat.strongRecOn with
          | _ n34 ih34 =>
            intro x4_34 s34  w34_
            have w34_ := h34 n34 x4_34 s34  w34_
            refine g_iload hF d_X4_fill_34 4 rfl ?_
            refine g_aload_n hF d_X4_fill_36 rfl 0 rfl ?_
            refine g_get (v := .ref (r 5)) hF 0 obC_10 (by decide) m_597 rfl d_X4_fill_37 ?_
            refine g_getN (v := .ref (r 35)) hF 15 obC_5 (by decide) nm_255 rfl d_X4_fill_40 ?_
            refine g_iload_n hF d_X4_fill_43 rfl 3 rfl ?_
            refine g_callSN (As := [.ref (r 35), .int (atv 101 (s2 57) x2_2)]) (rest := [.int x4_34]) hF (c_atv a r s34 arC_35 (by decide) (atv 101 (s2 57) x2_2)) (Nat.le_of_ble_eq_true rfl) mS_X12_at nm_1552 rfl rfl (Nat.le_of_ble_eq_true rfl) d_X4_fill_44 (kQ ?_)
            refine g_top (v := (atv 101 (s34 35) (atv 101 (s2 57) x2_2))) rfl ?_
            refine g_icmp_ge hF 153 d_X4_fill_47 (by decide) rfl rfl (fun c => ?_) (fun c => ?_)
            · have w3 := w34_.1 c
              refine g_iinc hF (x2_2 + 1) [(2, .int (x2_2 + 1)), (0, .ref (r 10)), (1, .ref (r 62)), (3, .int (atv 101 (s2 57) x2_2)), (4, .int x4_34)] d_X4_fill_153 2 rfl rfl hnn (by decide) rfl ?_
              refine g_goto hF 2 d_X4_fill_156 (by decide) ?_
              obtain ⟨m2, hm2, w9⟩ := w3
              exact g_sub (L' := [(0, .ref (r 10)), (1, .ref (r 62)), (2, .int (x2_2 + 1))]) [1, 2, 0] rfl (ih2 m2 hm2 (x2_2 + 1) s34 w9)
            · have w4 := w34_.2 c
              refine g_aload_n hF d_X4_fill_50 rfl 0 rfl ?_
              refine g_get (v := .ref (r 5)) hF 0 obC_10 (by decide) m_597 rfl d_X4_fill_51 ?_
              refine g_getN (v := .ref (r 32)) hF 11 obC_5 (by decide) nm_246 rfl d_X4_fill_54 ?_
              refine g_iload hF d_X4_fill_57 4 rfl ?_
              refine g_callSN (As := [.ref (r 32), .int x4_34]) (rest := []) hF (c_atv a r s34 arC_32 (by decide) x4_34) (Nat.le_of_ble_eq_true rfl) mS_X12_at nm_1552 rfl rfl (Nat.le_of_ble_eq_true rfl) d_X4_fill_59 (kQ ?_)
              refine g_top (v := (atv 65536 (s34 32) x4_34)) rfl ?_
              refine g_istore hF [(5, .int (atv 65536 (s34 32) x4_34)), (0, .ref (r 10)), (1, .ref (r 62)), (2, .int x2_2), (3, .int (atv 101 (s2 57) x2_2)), (4, .int x4_34)] d_X4_fill_62 hnn (by decide) rfl ?_
              refine g_iload hF d_X4_fill_64 0 rfl ?_
              refine g_bipush hF (v := (-2)) d_X4_fill_66 (by decide) ?_
              obtain ⟨J101, h101, w5⟩ := w4
              have b101 : ∀ (y0_101 : Int32), J101 y0_101 → G SC r X s34 Z0 [] [(0, .ref (r 10)), (1, .ref (r 62)), (2, .int x2_2), (3, .int (atv 101 (s2 57) x2_2)), (4, .int x4_34)] [.int y0_101] 101 := by
                intro y0_101  w101_
                have w101_ := h101 y0_101  w101_
                refine g_istore hF [(6, .int y0_101), (0, .ref (r 10)), (1, .ref (r 62)), (2, .int x2_2), (3, .int (atv 101 (s2 57) x2_2)), (4, .int x4_34)] d_X4_fill_101 hnn (by decide) rfl ?_
                refine g_aload_n hF d_X4_fill_103 rfl 1 rfl ?_
                refine g_get (v := .ref (r 58)) hF 9 obC_10 (by decide) m_609 rfl d_X4_fill_104 ?_
                refine g_iload_n hF d_X4_fill_107 rfl 4 rfl ?_
                refine g_callSN (As := [.ref (r 58), .int (atv 101 (s2 57) x2_2)]) (rest := []) hF (c_atv a r s34 arC_58 (by decide) (atv 101 (s2 57) x2_2)) (Nat.le_of_ble_eq_true rfl) mS_X12_at nm_1552 rfl rfl (Nat.le_of_ble_eq_true rfl) d_X4_fill_108 (kQ ?_)
                refine g_top (v := (atv 101 (s34 58) (atv 101 (s2 57) x2_2))) rfl ?_
                refine g_aload_n hF d_X4_fill_111 rfl 1 rfl ?_
                refine g_get (v := .ref (r 5)) hF 0 obC_10 (by decide) m_597 rfl d_X4_fill_112 ?_
                refine g_getN (v := .ref (r 31)) hF 10 obC_5 (by decide) nm_244 rfl d_X4_fill_115 ?_
                refine g_iload hF d_X4_fill_118 5 rfl ?_
                refine g_callSN (As := [.ref (r 31), .int x4_34]) (rest := [.int (atv 101 (s34 58) (atv 101 (s2 57) x2_2))]) hF (c_atv a r s34 arC_31 (by decide) x4_34) (Nat.le_of_ble_eq_true rfl) mS_X12_at nm_1552 rfl rfl (Nat.le_of_ble_eq_true rfl) d_X4_fill_120 (kQ ?_)
                refine g_top (v := (atv 65536 (s34 31) x4_34)) rfl ?_
                refine g_iadd hF d_X4_fill_123 ?_
                refine g_istore hF [(7, .int ((atv 101 (s34 58) (atv 101 (s2 57) x2_2)) + (atv 65536 (s34 31) x4_34))), (6, .int y0_101), (0, .ref (r 10)), (1, .ref (r 62)), (2, .int x2_2), (3, .int (atv 101 (s2 57) x2_2)), (4, .int x4_34)] d_X4_fill_124 hnn (by decide) rfl ?_
                refine g_aload_n hF d_X4_fill_126 rfl 3 rfl ?_
                refine g_iload hF d_X4_fill_127 0 rfl ?_
                refine g_iload hF d_X4_fill_129 1 rfl ?_
                refine g_aload_n hF d_X4_fill_131 rfl 2 rfl ?_
                refine g_get (v := .ref (r 5)) hF 0 obC_10 (by decide) m_597 rfl d_X4_fill_132 ?_
                refine g_getN (v := .ref (r 33)) hF 12 obC_5 (by decide) nm_248 rfl d_X4_fill_135 ?_
                refine g_iload hF d_X4_fill_138 6 rfl ?_
                refine g_callSN (As := [.ref (r 33), .int x4_34]) (rest := [.int y0_101, .int ((atv 101 (s34 58) (atv 101 (s2 57) x2_2)) + (atv 65536 (s34 31) x4_34)), .ref (r 62)]) hF (c_atv a r s34 arC_33 (by decide) x4_34) (Nat.le_of_ble_eq_true rfl) mS_X12_at nm_1552 rfl rfl (Nat.le_of_ble_eq_true rfl) d_X4_fill_140 (kQ ?_)
                refine g_top (v := (atv 65536 (s34 33) x4_34)) rfl ?_
                refine g_iadd hF d_X4_fill_143 ?_
                refine g_callSN (As := [.ref (r 62), .int ((atv 101 (s34 58) (atv 101 (s2 57) x2_2)) + (atv 65536 (s34 31) x4_34)), .int (y0_101 + (atv 65536 (s34 33) x4_34))]) (rest := []) hF (c_setv a r s34 arC_62 (by decide) ((atv 101 (s34 58) (atv 101 (s2 57) x2_2)) + (atv 65536 (s34 31) x4_34)) (y0_101 + (atv 65536 (s34 33) x4_34))) (Nat.le_of_ble_eq_true rfl) mS_X12_set nm_1553 rfl rfl (Nat.le_of_ble_eq_true rfl) d_X4_fill_144 (kU ?_)
                refine g_iinc hF (x4_34 + 1) [(4, .int (x4_34 + 1)), (7, .int ((atv 101 (s34 58) (atv 101 (s2 57) x2_2)) + (atv 65536 (s34 31) x4_34))), (6, .int y0_101), (0, .ref (r 10)), (1, .ref (r 62)), (2, .int x2_2), (3, .int (atv 101 (s2 57) x2_2))] d_X4_fill_147 6 rfl rfl hnn (by decide) rfl ?_
                refine g_goto hF 34 d_X4_fill_150 (by decide) ?_
                obtain ⟨m34, hm34, w9⟩ := w101_
                exact g_sub (L' := [(0, .ref (r 10)), (1, .ref (r 62)), (2, .int x2_2), (3, .int (atv 101 (s2 57) x2_2)), (4, .int (x4_34 + 1))]) [3, 4, 5, 6, 0] rfl (ih34 m34 hm34 (x4_34 + 1) (upF s34 62 (setv 32768 (s34 62) ((atv 101 (s34 58) (atv 101 (s2 57) x2_2)) + (atv 65536 (s34 31) x4_34)) (y0_101 + (atv 65536 (s34 33) x4_34)))) w9)
              refine g_icmp_ne (yv := -2) hF 75 d_X4_fill_68 (by decide) rfl (by decide) (fun c => ?_) (fun c => ?_)
              · have w6 := w5.1 c
                refine g_iload hF d_X4_fill_75 0 rfl ?_
                refine g_iconst hF (v := (-1)) d_X4_fill_77 (by decide) ?_
                refine g_icmp_ne (yv := -1) hF 92 d_X4_fill_78 (by decide) rfl (by decide) (fun c => ?_) (fun c => ?_)
                · have w7 := w6.1 c
                  refine g_aload_n hF d_X4_fill_92 rfl 1 rfl ?_
                  refine g_get (v := .ref (r 59)) hF 10 obC_10 (by decide) m_611 rfl d_X4_fill_93 ?_
                  refine g_iload hF d_X4_fill_96 0 rfl ?_
                  refine g_callSN (As := [.ref (r 59), .int (atv 65536 (s34 32) x4_34)]) (rest := []) hF (c_atv a r s34 arC_59 (by decide) (atv 65536 (s34 32) x4_34)) (Nat.le_of_ble_eq_true rfl) mS_X12_at nm_1552 rfl rfl (Nat.le_of_ble_eq_true rfl) d_X4_fill_98 (kQ ?_)
                  refine g_top (v := (atv 10100 (s34 59) (atv 65536 (s34 32) x4_34))) rfl ?_
                  exact g_sub (L' := [(0, .ref (r 10)), (1, .ref (r 62)), (2, .int x2_2), (3, .int (atv 101 (s2 57) x2_2)), (4, .int x4_34)]) [1, 2, 3, 4, 5] rfl (b101 (atv 10100 (s34 59) (atv 65536 (s34 32) x4_34)) w7)
                · have w8 := w6.2 c
                  refine g_aload_n hF d_X4_fill_81 rfl 1 rfl ?_
                  refine g_get (v := .ref (r 58)) hF 9 obC_10 (by decide) m_609 rfl d_X4_fill_82 ?_
                  refine g_iload_n hF d_X4_fill_85 rfl 4 rfl ?_
                  refine g_callSN (As := [.ref (r 58), .int (atv 101 (s2 57) x2_2)]) (rest := []) hF (c_atv a r s34 arC_58 (by decide) (atv 101 (s2 57) x2_2)) (Nat.le_of_ble_eq_true rfl) mS_X12_at nm_1552 rfl rfl (Nat.le_of_ble_eq_true rfl) d_X4_fill_86 (kQ ?_)
                  refine g_top (v := (atv 101 (s34 58) (atv 101 (s2 57) x2_2))) rfl ?_
                  refine g_goto hF 101 d_X4_fill_89 (by decide) ?_
                  exact g_sub (L' := [(0, .ref (r 10)), (1, .ref (r 62)), (2, .int x2_2), (3, .int (atv 101 (s2 57) x2_2)), (4, .int x4_34)]) [1, 2, 3, 4, 5] rfl (b101 (atv 101 (s34 58) (atv 101 (s2 57) x2_2)) w8)
              · have w9 := w5.2 c
                refine g_iconst hF (v := 0) d_X4_fill_71 (by decide) ?_
                refine g_goto hF 101 d_X4_fill_72 (by decide) ?_
                exact g_sub (L' := [(0, .ref (r 10)), (1, .ref (r 62)), (2, .int x2_2), (3, .int (atv 101 (s2 57) x2_2)), (4, .int x4_34)]) [1, 2, 3, 4, 5] rfl (b101 (0 : Int32) w9)
        exact g_sub (L' := [(0, .ref (r 10)), (1, .ref (r 62)), (2, .int x2_2), (3, .int (atv 101 (s2 57) x2_2)), (4, .int (atv 101 (s2 35) ((atv 101 (s2 57) x2_2) - (1 : Int32))))]) [2, 3, 4, 1, 0] rfl (b34 i34 (atv 101 (s2 35) ((atv 101 (s2 57) x2_2) - (1 : Int32))) s2 u34)
  exact g_sub (L' := [(0, .ref (r 10)), (1, .ref (r 62)), (2, .int 1)]) [1, 2, 0] rfl (b2 i2 (1 : Int32) σ u2)
set_option maxHeartbeats 4000000 in
set_option maxRecDepth 100000 in
theorem kt_X9_begin (a : Nat → Nat) (r : Nat → Nat) {σ : St} {Q : St → Prop} (w : wk_X9_begin  σ Q) (l : Launch) (D : va_G) (cy : Nat → ClassId) : Ct l D cy SC r (EC a gC) y_X9_begin (Cond.code y_X9_begin b_X9_begin 1 none) 0 [.ref (r 11)] σ Z0 [] (QV Q) QT0 := by
  unfold wk_X9_begin at w
  refine Ct_of (EC_ok a gC) (by decide) (Nat.le_of_ble_eq_true rfl) (by decide) (fun X hnn hF => ?_)
  show G SC r X σ Z0 [] [(0, .ref (r 11))] [] 0
  refine g_aload_n hF d_X9_begin_0 rfl 0 rfl ?_
  refine g_iconst hF (v := 0) d_X9_begin_1 (by decide) ?_
  refine g_put (v := 0) hF 1 obC_11 (by decide) m_647 rfl rfl rfl d_X9_begin_2 ?_
  refine g_aload_n hF d_X9_begin_5 rfl 0 rfl ?_
  refine g_iconst hF (v := 0) d_X9_begin_6 (by decide) ?_
  refine g_put (v := 0) hF 2 obC_11 (by decide) m_648 rfl rfl rfl d_X9_begin_7 ?_
  exact g_vret hF rfl d_X9_begin_10 ⟨rfl, rfl, rfl, w⟩
set_option maxHeartbeats 4000000 in
set_option maxRecDepth 100000 in
theorem kt_X5_begin (a : Nat → Nat) (r : Nat → Nat) {a1 : Int32} {σ : St} {Q : St → Prop} (w : wk_X5_begin a1 σ Q) (l : Launch) (D : va_G) (cy : Nat → ClassId) : Ct l D cy SC r (EC a gC) y_X5_begin (Cond.code y_X5_begin b_X5_begin 2 none) 2 [.ref (r 12), .int a1] σ Z0 [] (QV Q) QT0 := by
  unfold wk_X5_begin at w
  refine Ct_of (EC_ok a gC) (by decide) (Nat.le_of_ble_eq_true rfl) (by decide) (fun X hnn hF => ?_)
  show G SC r X σ Z0 [] [(0, .ref (r 12)), (1, .int a1)] [] 0
  refine g_aload_n hF d_X5_begin_0 rfl 0 rfl ?_
  refine g_get (v := .ref (r 62)) hF 4 obC_12 (by decide) m_675 rfl d_X5_begin_1 ?_
  refine g_iconst hF (v := 0) d_X5_begin_4 (by decide) ?_
  refine g_callS (As := [.ref (r 62), .int 0]) (rest := []) hF (c_fillx a gC r σ arC_62 (by decide) (0 : Int32)) (Nat.le_of_ble_eq_true rfl) mS_Arrays_fill m_1637 rfl rfl (Nat.le_of_ble_eq_true rfl) d_X5_begin_5 (k_v (fun qf0 ef0 => ?_)) (fun _ _ _ h => h.elim)
  subst ef0
  refine g_aload_n hF d_X5_begin_8 rfl 0 rfl ?_
  refine g_get (v := .ref (r 10)) hF 1 obC_12 (by decide) m_672 rfl d_X5_begin_9 ?_
  refine g_aload_n hF d_X5_begin_12 rfl 0 rfl ?_
  refine g_get (v := .ref (r 62)) hF 4 obC_12 (by decide) m_675 rfl d_X5_begin_13 ?_
  refine g_callVN (As := [.ref (r 62)]) (rest := []) hF (fun l D cy => kt_X4_fill_r62 a r w l D cy) (Nat.le_of_ble_eq_true rfl) mV_X4_fill nm_1640 (recv_ob obC_10) rfl rfl (Nat.le_of_ble_eq_true rfl) d_X5_begin_16 (qV (fun s16 w2 => ?_))
  refine g_aload_n hF d_X5_begin_19 rfl 0 rfl ?_
  refine g_get (v := .ref (r 11)) hF 2 obC_12 (by decide) m_673 rfl d_X5_begin_20 ?_
  refine g_callVN (As := []) (rest := []) hF (fun l D cy => kt_X9_begin a r w2 l D cy) (Nat.le_of_ble_eq_true rfl) mV_X9_begin nm_1644 (recv_ob obC_11) rfl rfl (Nat.le_of_ble_eq_true rfl) d_X5_begin_23 (qV (fun s23 w3 => ?_))
  refine g_aload_n hF d_X5_begin_26 rfl 0 rfl ?_
  refine g_iload_n hF d_X5_begin_27 rfl 1 rfl ?_
  refine g_put (v := a1) hF 12 obC_12 (by decide) m_684 rfl rfl rfl d_X5_begin_28 ?_
  refine g_aload_n hF d_X5_begin_31 rfl 0 rfl ?_
  refine g_iconst hF (v := (-1)) d_X5_begin_32 (by decide) ?_
  refine g_put (v := (-1)) hF 13 obC_12 (by decide) m_685 rfl rfl rfl d_X5_begin_33 ?_
  refine g_aload_n hF d_X5_begin_36 rfl 0 rfl ?_
  refine g_iconst hF (v := 0) d_X5_begin_37 (by decide) ?_
  refine g_put (v := 0) hF 14 obC_12 (by decide) m_686 rfl rfl rfl d_X5_begin_38 ?_
  refine g_aload_n hF d_X5_begin_41 rfl 0 rfl ?_
  refine g_iconst hF (v := 0) d_X5_begin_42 (by decide) ?_
  refine g_put (v := 0) hF 15 obC_12 (by decide) m_688 rfl rfl rfl d_X5_begin_43 ?_
  refine g_aload_n hF d_X5_begin_46 rfl 0 rfl ?_
  refine g_iconst hF (v := (-1)) d_X5_begin_47 (by decide) ?_
  refine g_put (v := (-1)) hF 16 obC_12 (by decide) m_690 rfl rfl rfl d_X5_begin_48 ?_
  refine g_aload_n hF d_X5_begin_51 rfl 0 rfl ?_
  refine g_iconst hF (v := 0) d_X5_begin_52 (by decide) ?_
  refine g_put (v := 0) hF 17 obC_12 (by decide) m_692 rfl rfl rfl d_X5_begin_53 ?_
  refine g_aload_n hF d_X5_begin_56 rfl 0 rfl ?_
  refine g_iconst hF (v := 0) d_X5_begin_57 (by decide) ?_
  refine g_put (v := 0) hF 7 obC_12 (by decide) m_679 rfl rfl rfl d_X5_begin_58 ?_
  refine g_aload_n hF d_X5_begin_61 rfl 0 rfl ?_
  refine g_iconst hF (v := 0) d_X5_begin_62 (by decide) ?_
  refine g_put (v := 0) hF 8 obC_12 (by decide) m_680 rfl rfl rfl d_X5_begin_63 ?_
  refine g_aload_n hF d_X5_begin_66 rfl 0 rfl ?_
  refine g_bipush hF (v := 8) d_X5_begin_67 (by decide) ?_
  refine g_put (v := 8) hF 9 obC_12 (by decide) m_681 rfl rfl rfl d_X5_begin_69 ?_
  refine g_aload_n hF d_X5_begin_72 rfl 0 rfl ?_
  refine g_bipush hF (v := 8) d_X5_begin_73 (by decide) ?_
  refine g_put (v := 8) hF 10 obC_12 (by decide) m_682 rfl rfl rfl d_X5_begin_75 ?_
  refine g_aload_n hF d_X5_begin_78 rfl 0 rfl ?_
  refine g_ldc (v := 32768) hF m_669 d_X5_begin_79 ?_
  refine g_put (v := 32768) hF 11 obC_12 (by decide) m_683 rfl rfl rfl d_X5_begin_81 ?_
  exact g_vret hF rfl d_X5_begin_84 ⟨rfl, rfl, rfl, w3⟩
set_option maxHeartbeats 4000000 in
set_option maxRecDepth 100000 in
theorem kt_X5_fail (a : Nat → Nat) (r : Nat → Nat) {a1 : Int32} {a2 : Int32} {σ : St} {Q : St → Prop} (w : wk_X5_fail a1 a2 σ Q) (l : Launch) (D : va_G) (cy : Nat → ClassId) : Ct l D cy SC r (EC a gC) y_X5_fail (Cond.code y_X5_fail b_X5_fail 3 none) 0 [.ref (r 12), .int a1, .int a2] σ Z0 [] (QV Q) QT0 := by
  unfold wk_X5_fail at w
  refine Ct_of (EC_ok a gC) (by decide) (Nat.le_of_ble_eq_true rfl) (by decide) (fun X hnn hF => ?_)
  show G SC r X σ Z0 [] [(0, .ref (r 12)), (1, .int a1), (2, .int a2)] [] 0
  refine g_aload_n hF d_X5_fail_0 rfl 0 rfl ?_
  refine g_iload_n hF d_X5_fail_1 rfl 1 rfl ?_
  refine g_put (v := a1) hF 13 obC_12 (by decide) m_685 rfl rfl rfl d_X5_fail_2 ?_
  refine g_aload_n hF d_X5_fail_5 rfl 0 rfl ?_
  refine g_aload_n hF d_X5_fail_6 rfl 0 rfl ?_
  refine g_get (v := .int (σ 12 8)) hF 8 obC_12 (by decide) m_680 rfl d_X5_fail_7 ?_
  refine g_iconst hF (v := 1) d_X5_fail_10 (by decide) ?_
  refine g_isub hF d_X5_fail_11 ?_
  refine g_put (v := ((σ 12 8) - (1 : Int32))) hF 16 obC_12 (by decide) m_690 rfl rfl rfl d_X5_fail_12 ?_
  refine g_aload_n hF d_X5_fail_15 rfl 0 rfl ?_
  refine g_iload_n hF d_X5_fail_16 rfl 2 rfl ?_
  refine g_put (v := a2) hF 17 obC_12 (by decide) m_692 rfl rfl rfl d_X5_fail_17 ?_
  exact g_vret hF rfl d_X5_fail_20 ⟨rfl, rfl, rfl, w⟩
set_option maxHeartbeats 4000000 in
set_option maxRecDepth 100000 in
theorem kt_X5_turn (a : Nat → Nat) (r : Nat → Nat) {a1 : Int32} {σ : St} {Q : Int32 → St → Prop} (w : wk_X5_turn a1 σ Q) (l : Launch) (D : va_G) (cy : Nat → ClassId) : Ct l D cy SC r (EC a gC) y_X5_turn (Cond.code y_X5_turn b_X5_turn 2 (some .boolean)) 1 [.ref (r 12), .int a1] σ Z0 [] (QI (fun x σ9 => (x = 0 ∨ x = 1) ∧ Q x σ9)) QT0 := by
  unfold wk_X5_turn at w
  refine Ct_of (EC_ok a gC) (by decide) (Nat.le_of_ble_eq_true rfl) (by decide) (fun X hnn hF => ?_)
  show G SC r X σ Z0 [] [(0, .ref (r 12)), (1, .int a1)] [] 0
  refine g_aload_n hF d_X5_turn_0 rfl 0 rfl ?_
  refine g_get (v := .int (σ 12 14)) hF 14 obC_12 (by decide) m_686 rfl d_X5_turn_1 ?_
  refine g_aload_n hF d_X5_turn_4 rfl 0 rfl ?_
  refine g_get (v := .int (σ 12 12)) hF 12 obC_12 (by decide) m_684 rfl d_X5_turn_5 ?_
  refine g_icmp_lt hF 19 d_X5_turn_8 (by decide) rfl rfl (fun c => ?_) (fun c => ?_)
  · have w1 := w.1 c
    refine g_aload_n hF d_X5_turn_19 rfl 0 rfl ?_
    refine g_dup hF d_X5_turn_20 rfl ?_
    refine g_get (v := .int (σ 12 14)) hF 14 obC_12 (by decide) m_686 rfl d_X5_turn_21 ?_
    refine g_iconst hF (v := 1) d_X5_turn_24 (by decide) ?_
    refine g_iadd hF d_X5_turn_25 ?_
    refine g_put (v := ((σ 12 14) + (1 : Int32))) hF 14 obC_12 (by decide) m_686 rfl rfl rfl d_X5_turn_26 ?_
    refine g_iconst hF (v := 1) d_X5_turn_29 (by decide) ?_
    exact g_zret hF rfl (k_nz (Or.inr rfl)) d_X5_turn_30 ⟨rfl, rfl, (1 : Int32), rfl, (Or.inr rfl), w1⟩
  · have w2 := w.2 c
    refine g_aload_n hF d_X5_turn_11 rfl 0 rfl ?_
    refine g_iconst hF (v := 4) d_X5_turn_12 (by decide) ?_
    refine g_iload_n hF d_X5_turn_13 rfl 1 rfl ?_
    refine g_callV (As := [.int 4, .int a1]) (rest := []) hF (fun l D cy => kt_X5_fail a r w2 l D cy) (Nat.le_of_ble_eq_true rfl) mV_X5_fail m_1656 (recv_ob obC_12) rfl rfl (Nat.le_of_ble_eq_true rfl) d_X5_turn_14 (qV (fun s14 w3 => ?_)) (fun _ _ _ h => h.elim)
    refine g_iconst hF (v := 0) d_X5_turn_17 (by decide) ?_
    exact g_zret hF rfl (k_nz (Or.inl rfl)) d_X5_turn_18 ⟨rfl, rfl, (0 : Int32), rfl, (Or.inl rfl), w3⟩
set_option maxHeartbeats 4000000 in
set_option maxRecDepth 100000 in
theorem kt_X5_copyParameters (a : Nat → Nat) (r : Nat → Nat) {a1 : Int32} {a2 : Int32} {σ : St} {Q : St → Prop} (w : wk_X5_copyParameters a1 a2 σ Q) (l : Launch) (D : va_G) (cy : Nat → ClassId) : Ct l D cy SC r (EC a gC) y_X5_copyParameters (Cond.code y_X5_copyParameters b_X5_copyParameters 5 none) 1 [.ref (r 12), .int a1, .int a2] σ Z0 [] (QV Q) QT0 := by
  unfold wk_X5_copyParameters at w
  refine Ct_of (EC_ok a gC) (by decide) (Nat.le_of_ble_eq_true rfl) (by decide) (fun X hnn hF => ?_)
  show G SC r X σ Z0 [] [(0, .ref (r 12)), (1, .int a1), (2, .int a2)] [] 0
  refine g_aload_n hF d_X5_copyParameters_0 rfl 0 rfl ?_
  refine g_get (v := .int (σ 12 11)) hF 11 obC_12 (by decide) m_683 rfl d_X5_copyParameters_1 ?_
  refine g_istore_n hF [(3, .int (σ 12 11)), (0, .ref (r 12)), (1, .int a1), (2, .int a2)] d_X5_copyParameters_4 rfl hnn (by decide) rfl ?_
  refine g_iconst hF (v := 0) d_X5_copyParameters_5 (by decide) ?_
  refine g_istore hF [(4, .int 0), (3, .int (σ 12 11)), (0, .ref (r 12)), (1, .int a1), (2, .int a2)] d_X5_copyParameters_6 hnn (by decide) rfl ?_
  obtain ⟨L8, ⟨i8, u8⟩, h8⟩ := w
  have b8 : ∀ (n8 : Nat) (x3_8 : Int32) (x4_8 : Int32) (s8 : St), L8 n8 x3_8 x4_8 s8 → G SC r X s8 Z0 [] [(0, .ref (r 12)), (1, .int a1), (2, .int a2), (3, .int x3_8), (4, .int x4_8)] [] 8 := by
    intro n8
    induction n8 using Nat.strongRecOn with
    | _ n8 ih8 =>
      intro x3_8 x4_8 s8  w8_
      have w8_ := h8 n8 x3_8 x4_8 s8  w8_
      refine g_iload hF d_X5_copyParameters_8 4 rfl ?_
      refine g_iload_n hF d_X5_copyParameters_10 rfl 1 rfl ?_
      refine g_icmp_ge hF 54 d_X5_copyParameters_11 (by decide) rfl rfl (fun c => ?_) (fun c => ?_)
      · have w1 := w8_.1 c
        exact g_vret hF rfl d_X5_copyParameters_54 ⟨rfl, rfl, rfl, w1⟩
      · have w2 := w8_.2 c
        refine g_iload_n hF d_X5_copyParameters_14 rfl 2 rfl ?_
        refine g_iload hF d_X5_copyParameters_15 4 rfl ?_
        refine g_ishr hF d_X5_copyParameters_17 ?_
        refine g_iconst hF (v := 1) d_X5_copyParameters_18 (by decide) ?_
        refine g_iand hF d_X5_copyParameters_19 ?_
        obtain ⟨J48, h48, w3⟩ := w2
        have b48 : ∀ (x3_48 : Int32) (s48 : St), J48 x3_48 s48 → G SC r X s48 Z0 [] [(0, .ref (r 12)), (1, .int a1), (2, .int a2), (3, .int x3_48), (4, .int x4_8)] [] 48 := by
          intro x3_48 s48  w48_
          have w48_ := h48 x3_48 s48  w48_
          refine g_iinc hF (x4_8 + 1) [(4, .int (x4_8 + 1)), (0, .ref (r 12)), (1, .int a1), (2, .int a2), (3, .int x3_48)] d_X5_copyParameters_48 4 rfl rfl hnn (by decide) rfl ?_
          refine g_goto hF 8 d_X5_copyParameters_51 (by decide) ?_
          obtain ⟨m8, hm8, w9⟩ := w48_
          exact g_sub (L' := [(0, .ref (r 12)), (1, .int a1), (2, .int a2), (3, .int x3_48), (4, .int (x4_8 + 1))]) [1, 2, 3, 4, 0] rfl (ih8 m8 hm8 x3_48 (x4_8 + 1) s48 w9)
        refine g_if_eq hF 48 d_X5_copyParameters_20 (by decide) rfl (fun c => ?_) (fun c => ?_)
        · have w4 := w3.1 c
          exact b48 x3_8 s8 w4
        · have w5 := w3.2 c
          refine g_aload_n hF d_X5_copyParameters_23 rfl 0 rfl ?_
          refine g_get (v := .ref (r 62)) hF 4 obC_12 (by decide) m_675 rfl d_X5_copyParameters_24 ?_
          refine g_iload_n hF d_X5_copyParameters_27 rfl 3 rfl ?_
          refine g_aload_n hF d_X5_copyParameters_28 rfl 0 rfl ?_
          refine g_get (v := .ref (r 63)) hF 5 obC_12 (by decide) m_677 rfl d_X5_copyParameters_29 ?_
          refine g_aload_n hF d_X5_copyParameters_32 rfl 0 rfl ?_
          refine g_get (v := .int (s8 12 10)) hF 10 obC_12 (by decide) m_682 rfl d_X5_copyParameters_33 ?_
          refine g_iload hF d_X5_copyParameters_36 4 rfl ?_
          refine g_iadd hF d_X5_copyParameters_38 ?_
          refine g_callSN (As := [.ref (r 63), .int ((s8 12 10) + x4_8)]) (rest := [.int x3_8, .ref (r 62)]) hF (c_atv a r s8 arC_63 (by decide) ((s8 12 10) + x4_8)) (Nat.le_of_ble_eq_true rfl) mS_X12_at nm_1660 rfl rfl (Nat.le_of_ble_eq_true rfl) d_X5_copyParameters_39 (kQ ?_)
          refine g_top (v := (atv 148496 (s8 63) ((s8 12 10) + x4_8))) rfl ?_
          refine g_callSN (As := [.ref (r 62), .int x3_8, .int (atv 148496 (s8 63) ((s8 12 10) + x4_8))]) (rest := []) hF (c_setv a r s8 arC_62 (by decide) x3_8 (atv 148496 (s8 63) ((s8 12 10) + x4_8))) (Nat.le_of_ble_eq_true rfl) mS_X12_set nm_1661 rfl rfl (Nat.le_of_ble_eq_true rfl) d_X5_copyParameters_42 (kU ?_)
          refine g_iinc hF (x3_8 + 1) [(3, .int (x3_8 + 1)), (0, .ref (r 12)), (1, .int a1), (2, .int a2), (4, .int x4_8)] d_X5_copyParameters_45 3 rfl rfl hnn (by decide) rfl ?_
          exact g_sub (L' := [(0, .ref (r 12)), (1, .int a1), (2, .int a2), (3, .int (x3_8 + 1)), (4, .int x4_8)]) [1, 2, 3, 0, 4] rfl (b48 (x3_8 + 1) (upF s8 62 (setv 32768 (s8 62) x3_8 (atv 148496 (s8 63) ((s8 12 10) + x4_8)))) w5)
  exact g_sub (L' := [(0, .ref (r 12)), (1, .int a1), (2, .int a2), (3, .int (σ 12 11)), (4, .int 0)]) [2, 3, 4, 1, 0] rfl (b8 i8 (σ 12 11) (0 : Int32) σ u8)
set_option maxHeartbeats 4000000 in
set_option maxRecDepth 100000 in
theorem kt_X5_enter (a : Nat → Nat) (r : Nat → Nat) {a1 : Int32} {a2 : Int32} {σ : St} {Q : St → Prop} (w : wk_X5_enter a1 a2 σ Q) (l : Launch) (D : va_G) (cy : Nat → ClassId) : Ct l D cy SC r (EC a gC) y_X5_enter (Cond.code y_X5_enter b_X5_enter 4 none) 2 [.ref (r 12), .int a1, .int a2] σ Z0 [] (QV Q) QT0 := by
  unfold wk_X5_enter at w
  refine Ct_of (EC_ok a gC) (by decide) (Nat.le_of_ble_eq_true rfl) (by decide) (fun X hnn hF => ?_)
  show G SC r X σ Z0 [] [(0, .ref (r 12)), (1, .int a1), (2, .int a2)] [] 0
  refine g_aload_n hF d_X5_enter_0 rfl 0 rfl ?_
  refine g_iload_n hF d_X5_enter_1 rfl 2 rfl ?_
  refine g_callV (As := [.int a2]) (rest := []) hF (fun l D cy => kt_X5_turn a r w l D cy) (Nat.le_of_ble_eq_true rfl) mV_X5_turn m_1652 (recv_ob obC_12) rfl rfl (Nat.le_of_ble_eq_true rfl) d_X5_enter_2 (qZ (fun v2 s2 hz2 w1 => ?_)) (fun _ _ _ h => h.elim)
  refine g_if_ne hF 9 d_X5_enter_5 (by decide) rfl (fun c => ?_) (fun c => ?_)
  · have w2 := w1.1 c
    refine g_aload_n hF d_X5_enter_9 rfl 0 rfl ?_
    refine g_get (v := .int (s2 12 11)) hF 11 obC_12 (by decide) m_683 rfl d_X5_enter_10 ?_
    refine g_bipush hF (v := 32) d_X5_enter_13 (by decide) ?_
    refine g_isub hF d_X5_enter_15 ?_
    refine g_aload_n hF d_X5_enter_16 rfl 0 rfl ?_
    refine g_get (v := .ref (r 24)) hF 3 obC_12 (by decide) m_674 rfl d_X5_enter_17 ?_
    refine g_iload_n hF d_X5_enter_20 rfl 1 rfl ?_
    refine g_callSN (As := [.ref (r 24), .int a1]) (rest := [.int ((s2 12 11) - (32 : Int32))]) hF (c_atv a r s2 arC_24 (by decide) a1) (Nat.le_of_ble_eq_true rfl) mS_X12_at nm_1660 rfl rfl (Nat.le_of_ble_eq_true rfl) d_X5_enter_21 (kQ ?_)
    refine g_top (v := (atv 262208 (s2 24) a1)) rfl ?_
    refine g_isub hF d_X5_enter_24 ?_
    refine g_istore_n hF [(3, .int (((s2 12 11) - (32 : Int32)) - (atv 262208 (s2 24) a1))), (0, .ref (r 12)), (1, .int a1), (2, .int a2)] d_X5_enter_25 rfl hnn (by decide) rfl ?_
    refine g_iload_n hF d_X5_enter_26 rfl 0 rfl ?_
    refine g_sipush hF (v := 24576) d_X5_enter_27 (by decide) ?_
    refine g_icmp_ge (yv := 24576) hF 40 d_X5_enter_30 (by decide) rfl (by decide) (fun c => ?_) (fun c => ?_)
    · have w3 := w2.1 c
      refine g_aload_n hF d_X5_enter_40 rfl 1 rfl ?_
      refine g_get (v := .ref (r 64)) hF 6 obC_12 (by decide) m_678 rfl d_X5_enter_41 ?_
      refine g_iconst hF (v := 3) d_X5_enter_44 (by decide) ?_
      refine g_aload_n hF d_X5_enter_45 rfl 1 rfl ?_
      refine g_get (v := .int (s2 12 7)) hF 7 obC_12 (by decide) m_679 rfl d_X5_enter_46 ?_
      refine g_imul hF d_X5_enter_49 ?_
      refine g_aload_n hF d_X5_enter_50 rfl 1 rfl ?_
      refine g_get (v := .int (s2 12 8)) hF 8 obC_12 (by decide) m_680 rfl d_X5_enter_51 ?_
      refine g_callSN (As := [.ref (r 64), .int ((3 : Int32) * (s2 12 7)), .int (s2 12 8)]) (rest := []) hF (c_setv a r s2 arC_64 (by decide) ((3 : Int32) * (s2 12 7)) (s2 12 8)) (Nat.le_of_ble_eq_true rfl) mS_X12_set nm_1661 rfl rfl (Nat.le_of_ble_eq_true rfl) d_X5_enter_54 (kU ?_)
      refine g_aload_n hF d_X5_enter_57 rfl 1 rfl ?_
      refine g_get (v := .ref (r 64)) hF 6 obC_12 (by decide) m_678 rfl d_X5_enter_58 ?_
      refine g_iconst hF (v := 3) d_X5_enter_61 (by decide) ?_
      refine g_aload_n hF d_X5_enter_62 rfl 1 rfl ?_
      refine g_get (v := .int (s2 12 7)) hF 7 obC_12 (by decide) m_679 rfl d_X5_enter_63 ?_
      refine g_imul hF d_X5_enter_66 ?_
      refine g_iconst hF (v := 1) d_X5_enter_67 (by decide) ?_
      refine g_iadd hF d_X5_enter_68 ?_
      refine g_aload_n hF d_X5_enter_69 rfl 1 rfl ?_
      refine g_get (v := .int (s2 12 10)) hF 10 obC_12 (by decide) m_682 rfl d_X5_enter_70 ?_
      refine g_callSN (As := [.ref (r 64), .int (((3 : Int32) * (s2 12 7)) + (1 : Int32)), .int (s2 12 10)]) (rest := []) hF (c_setv a r (upF s2 64 (setv 771 (s2 64) ((3 : Int32) * (s2 12 7)) (s2 12 8))) arC_64 (by decide) (((3 : Int32) * (s2 12 7)) + (1 : Int32)) (s2 12 10)) (Nat.le_of_ble_eq_true rfl) mS_X12_set nm_1661 rfl rfl (Nat.le_of_ble_eq_true rfl) d_X5_enter_73 (kU ?_)
      refine g_aload_n hF d_X5_enter_76 rfl 1 rfl ?_
      refine g_get (v := .ref (r 64)) hF 6 obC_12 (by decide) m_678 rfl d_X5_enter_77 ?_
      refine g_iconst hF (v := 3) d_X5_enter_80 (by decide) ?_
      refine g_aload_n hF d_X5_enter_81 rfl 1 rfl ?_
      refine g_get (v := .int (s2 12 7)) hF 7 obC_12 (by decide) m_679 rfl d_X5_enter_82 ?_
      refine g_imul hF d_X5_enter_85 ?_
      refine g_iconst hF (v := 2) d_X5_enter_86 (by decide) ?_
      refine g_iadd hF d_X5_enter_87 ?_
      refine g_aload_n hF d_X5_enter_88 rfl 1 rfl ?_
      refine g_get (v := .int (s2 12 11)) hF 11 obC_12 (by decide) m_683 rfl d_X5_enter_89 ?_
      refine g_callSN (As := [.ref (r 64), .int (((3 : Int32) * (s2 12 7)) + (2 : Int32)), .int (s2 12 11)]) (rest := []) hF (c_setv a r (upF (upF s2 64 (setv 771 (s2 64) ((3 : Int32) * (s2 12 7)) (s2 12 8))) 64 (setv 771 ((upF s2 64 (setv 771 (s2 64) ((3 : Int32) * (s2 12 7)) (s2 12 8))) 64) (((3 : Int32) * (s2 12 7)) + (1 : Int32)) (s2 12 10))) arC_64 (by decide) (((3 : Int32) * (s2 12 7)) + (2 : Int32)) (s2 12 11)) (Nat.le_of_ble_eq_true rfl) mS_X12_set nm_1661 rfl rfl (Nat.le_of_ble_eq_true rfl) d_X5_enter_92 (kU ?_)
      refine g_aload_n hF d_X5_enter_95 rfl 1 rfl ?_
      refine g_dup hF d_X5_enter_96 rfl ?_
      refine g_get (v := .int (s2 12 7)) hF 7 obC_12 (by decide) m_679 rfl d_X5_enter_97 ?_
      refine g_iconst hF (v := 1) d_X5_enter_100 (by decide) ?_
      refine g_iadd hF d_X5_enter_101 ?_
      refine g_put (v := ((s2 12 7) + (1 : Int32))) hF 7 obC_12 (by decide) m_679 rfl rfl rfl d_X5_enter_102 ?_
      refine g_aload_n hF d_X5_enter_105 rfl 1 rfl ?_
      refine g_aload_n hF d_X5_enter_106 rfl 1 rfl ?_
      refine g_get (v := .int (s2 12 9)) hF 9 obC_12 (by decide) m_681 rfl d_X5_enter_107 ?_
      refine g_aload_n hF d_X5_enter_110 rfl 1 rfl ?_
      refine g_get (v := .ref (r 24)) hF 3 obC_12 (by decide) m_674 rfl d_X5_enter_111 ?_
      refine g_iload_n hF d_X5_enter_114 rfl 2 rfl ?_
      refine g_iconst hF (v := 2) d_X5_enter_115 (by decide) ?_
      refine g_iadd hF d_X5_enter_116 ?_
      refine g_callSN (As := [.ref (r 24), .int (a1 + (2 : Int32))]) (rest := [.int (s2 12 9), .ref (r 12)]) hF (c_atv a r (upC (upF (upF (upF s2 64 (setv 771 (s2 64) ((3 : Int32) * (s2 12 7)) (s2 12 8))) 64 (setv 771 ((upF s2 64 (setv 771 (s2 64) ((3 : Int32) * (s2 12 7)) (s2 12 8))) 64) (((3 : Int32) * (s2 12 7)) + (1 : Int32)) (s2 12 10))) 64 (setv 771 ((upF (upF s2 64 (setv 771 (s2 64) ((3 : Int32) * (s2 12 7)) (s2 12 8))) 64 (setv 771 ((upF s2 64 (setv 771 (s2 64) ((3 : Int32) * (s2 12 7)) (s2 12 8))) 64) (((3 : Int32) * (s2 12 7)) + (1 : Int32)) (s2 12 10))) 64) (((3 : Int32) * (s2 12 7)) + (2 : Int32)) (s2 12 11))) 12 7 ((s2 12 7) + (1 : Int32))) arC_24 (by decide) (a1 + (2 : Int32))) (Nat.le_of_ble_eq_true rfl) mS_X12_at nm_1660 rfl rfl (Nat.le_of_ble_eq_true rfl) d_X5_enter_117 (kQ ?_)
      refine g_top (v := (atv 262208 (s2 24) (a1 + (2 : Int32)))) rfl ?_
      refine g_isub hF d_X5_enter_120 ?_
      refine g_put (v := ((s2 12 9) - (atv 262208 (s2 24) (a1 + (2 : Int32))))) hF 10 obC_12 (by decide) m_682 rfl rfl rfl d_X5_enter_121 ?_
      refine g_aload_n hF d_X5_enter_124 rfl 1 rfl ?_
      refine g_aload_n hF d_X5_enter_125 rfl 1 rfl ?_
      refine g_get (v := .int ((s2 12 9) - (atv 262208 (s2 24) (a1 + (2 : Int32))))) hF 10 obC_12 (by decide) m_682 rfl d_X5_enter_126 ?_
      refine g_aload_n hF d_X5_enter_129 rfl 1 rfl ?_
      refine g_get (v := .ref (r 24)) hF 3 obC_12 (by decide) m_674 rfl d_X5_enter_130 ?_
      refine g_iload_n hF d_X5_enter_133 rfl 2 rfl ?_
      refine g_iconst hF (v := 1) d_X5_enter_134 (by decide) ?_
      refine g_iadd hF d_X5_enter_135 ?_
      refine g_callSN (As := [.ref (r 24), .int (a1 + (1 : Int32))]) (rest := [.int ((s2 12 9) - (atv 262208 (s2 24) (a1 + (2 : Int32)))), .ref (r 12)]) hF (c_atv a r (upC (upC (upF (upF (upF s2 64 (setv 771 (s2 64) ((3 : Int32) * (s2 12 7)) (s2 12 8))) 64 (setv 771 ((upF s2 64 (setv 771 (s2 64) ((3 : Int32) * (s2 12 7)) (s2 12 8))) 64) (((3 : Int32) * (s2 12 7)) + (1 : Int32)) (s2 12 10))) 64 (setv 771 ((upF (upF s2 64 (setv 771 (s2 64) ((3 : Int32) * (s2 12 7)) (s2 12 8))) 64 (setv 771 ((upF s2 64 (setv 771 (s2 64) ((3 : Int32) * (s2 12 7)) (s2 12 8))) 64) (((3 : Int32) * (s2 12 7)) + (1 : Int32)) (s2 12 10))) 64) (((3 : Int32) * (s2 12 7)) + (2 : Int32)) (s2 12 11))) 12 7 ((s2 12 7) + (1 : Int32))) 12 10 ((s2 12 9) - (atv 262208 (s2 24) (a1 + (2 : Int32))))) arC_24 (by decide) (a1 + (1 : Int32))) (Nat.le_of_ble_eq_true rfl) mS_X12_at nm_1660 rfl rfl (Nat.le_of_ble_eq_true rfl) d_X5_enter_136 (kQ ?_)
      refine g_top (v := (atv 262208 (s2 24) (a1 + (1 : Int32)))) rfl ?_
      refine g_iadd hF d_X5_enter_139 ?_
      refine g_put (v := (((s2 12 9) - (atv 262208 (s2 24) (a1 + (2 : Int32)))) + (atv 262208 (s2 24) (a1 + (1 : Int32))))) hF 9 obC_12 (by decide) m_681 rfl rfl rfl d_X5_enter_140 ?_
      refine g_aload_n hF d_X5_enter_143 rfl 1 rfl ?_
      refine g_iload_n hF d_X5_enter_144 rfl 0 rfl ?_
      refine g_put (v := (((s2 12 11) - (32 : Int32)) - (atv 262208 (s2 24) a1))) hF 11 obC_12 (by decide) m_683 rfl rfl rfl d_X5_enter_145 ?_
      refine g_aload_n hF d_X5_enter_148 rfl 1 rfl ?_
      refine g_iload_n hF d_X5_enter_149 rfl 2 rfl ?_
      refine g_iconst hF (v := 4) d_X5_enter_150 (by decide) ?_
      refine g_iadd hF d_X5_enter_151 ?_
      refine g_put (v := (a1 + (4 : Int32))) hF 8 obC_12 (by decide) m_680 rfl rfl rfl d_X5_enter_152 ?_
      refine g_aload_n hF d_X5_enter_155 rfl 1 rfl ?_
      refine g_aload_n hF d_X5_enter_156 rfl 1 rfl ?_
      refine g_get (v := .ref (r 24)) hF 3 obC_12 (by decide) m_674 rfl d_X5_enter_157 ?_
      refine g_iload_n hF d_X5_enter_160 rfl 2 rfl ?_
      refine g_iconst hF (v := 2) d_X5_enter_161 (by decide) ?_
      refine g_iadd hF d_X5_enter_162 ?_
      refine g_callSN (As := [.ref (r 24), .int (a1 + (2 : Int32))]) (rest := [.ref (r 12)]) hF (c_atv a r (upC (upC (upC (upC (upC (upF (upF (upF s2 64 (setv 771 (s2 64) ((3 : Int32) * (s2 12 7)) (s2 12 8))) 64 (setv 771 ((upF s2 64 (setv 771 (s2 64) ((3 : Int32) * (s2 12 7)) (s2 12 8))) 64) (((3 : Int32) * (s2 12 7)) + (1 : Int32)) (s2 12 10))) 64 (setv 771 ((upF (upF s2 64 (setv 771 (s2 64) ((3 : Int32) * (s2 12 7)) (s2 12 8))) 64 (setv 771 ((upF s2 64 (setv 771 (s2 64) ((3 : Int32) * (s2 12 7)) (s2 12 8))) 64) (((3 : Int32) * (s2 12 7)) + (1 : Int32)) (s2 12 10))) 64) (((3 : Int32) * (s2 12 7)) + (2 : Int32)) (s2 12 11))) 12 7 ((s2 12 7) + (1 : Int32))) 12 10 ((s2 12 9) - (atv 262208 (s2 24) (a1 + (2 : Int32))))) 12 9 (((s2 12 9) - (atv 262208 (s2 24) (a1 + (2 : Int32)))) + (atv 262208 (s2 24) (a1 + (1 : Int32))))) 12 11 (((s2 12 11) - (32 : Int32)) - (atv 262208 (s2 24) a1))) 12 8 (a1 + (4 : Int32))) arC_24 (by decide) (a1 + (2 : Int32))) (Nat.le_of_ble_eq_true rfl) mS_X12_at nm_1660 rfl rfl (Nat.le_of_ble_eq_true rfl) d_X5_enter_163 (kQ ?_)
      refine g_top (v := (atv 262208 (s2 24) (a1 + (2 : Int32)))) rfl ?_
      refine g_aload_n hF d_X5_enter_166 rfl 1 rfl ?_
      refine g_get (v := .ref (r 24)) hF 3 obC_12 (by decide) m_674 rfl d_X5_enter_167 ?_
      refine g_iload_n hF d_X5_enter_170 rfl 2 rfl ?_
      refine g_iconst hF (v := 3) d_X5_enter_171 (by decide) ?_
      refine g_iadd hF d_X5_enter_172 ?_
      refine g_callSN (As := [.ref (r 24), .int (a1 + (3 : Int32))]) (rest := [.int (atv 262208 (s2 24) (a1 + (2 : Int32))), .ref (r 12)]) hF (c_atv a r (upC (upC (upC (upC (upC (upF (upF (upF s2 64 (setv 771 (s2 64) ((3 : Int32) * (s2 12 7)) (s2 12 8))) 64 (setv 771 ((upF s2 64 (setv 771 (s2 64) ((3 : Int32) * (s2 12 7)) (s2 12 8))) 64) (((3 : Int32) * (s2 12 7)) + (1 : Int32)) (s2 12 10))) 64 (setv 771 ((upF (upF s2 64 (setv 771 (s2 64) ((3 : Int32) * (s2 12 7)) (s2 12 8))) 64 (setv 771 ((upF s2 64 (setv 771 (s2 64) ((3 : Int32) * (s2 12 7)) (s2 12 8))) 64) (((3 : Int32) * (s2 12 7)) + (1 : Int32)) (s2 12 10))) 64) (((3 : Int32) * (s2 12 7)) + (2 : Int32)) (s2 12 11))) 12 7 ((s2 12 7) + (1 : Int32))) 12 10 ((s2 12 9) - (atv 262208 (s2 24) (a1 + (2 : Int32))))) 12 9 (((s2 12 9) - (atv 262208 (s2 24) (a1 + (2 : Int32)))) + (atv 262208 (s2 24) (a1 + (1 : Int32))))) 12 11 (((s2 12 11) - (32 : Int32)) - (atv 262208 (s2 24) a1))) 12 8 (a1 + (4 : Int32))) arC_24 (by decide) (a1 + (3 : Int32))) (Nat.le_of_ble_eq_true rfl) mS_X12_at nm_1660 rfl rfl (Nat.le_of_ble_eq_true rfl) d_X5_enter_173 (kQ ?_)
      refine g_top (v := (atv 262208 (s2 24) (a1 + (3 : Int32)))) rfl ?_
      refine g_callV (As := [.int (atv 262208 (s2 24) (a1 + (2 : Int32))), .int (atv 262208 (s2 24) (a1 + (3 : Int32)))]) (rest := []) hF (fun l D cy => kt_X5_copyParameters a r w3 l D cy) (Nat.le_of_ble_eq_true rfl) mV_X5_copyParameters m_1662 (recv_ob obC_12) rfl rfl (Nat.le_of_ble_eq_true rfl) d_X5_enter_176 (qV (fun s176 w4 => ?_)) (fun _ _ _ h => h.elim)
      exact g_vret hF rfl d_X5_enter_179 ⟨rfl, rfl, rfl, w4⟩
    · have w5 := w2.2 c
      refine g_aload_n hF d_X5_enter_33 rfl 1 rfl ?_
      refine g_iconst hF (v := 3) d_X5_enter_34 (by decide) ?_
      refine g_iload_n hF d_X5_enter_35 rfl 3 rfl ?_
      refine g_callV (As := [.int 3, .int a2]) (rest := []) hF (fun l D cy => kt_X5_fail a r w5 l D cy) (Nat.le_of_ble_eq_true rfl) mV_X5_fail m_1656 (recv_ob obC_12) rfl rfl (Nat.le_of_ble_eq_true rfl) d_X5_enter_36 (qV (fun s36 w6 => ?_)) (fun _ _ _ h => h.elim)
      exact g_vret hF rfl d_X5_enter_39 ⟨rfl, rfl, rfl, w6⟩
  · have w7 := w1.2 c
    exact g_vret hF rfl d_X5_enter_8 ⟨rfl, rfl, rfl, w7⟩
