set_option maxHeartbeats 4000000 in
set_option maxRecDepth 100000 in
theorem c_X4_find_r10_r56_r30 (a : Nat → Nat) (g : Nat → Nat → Int32) (r : Nat → Nat) (σ0 : St) (a2 : Int32) (a4 : Int32) (a5 : Int32) (i0 : Inv σ0) (l : Launch) (D : va_G) (cy : Nat → ClassId) : Ct l D cy SC r (EC a g) y_X4_find (Cond.code y_X4_find b_X4_find 9 (some .int)) 2 [.ref (r 10), .ref (r 56), .int a2, .ref (r 30), .int a4, .int a5] σ0 Z0 [] (QI (fun _ σ9 => σ9 = σ0)) QF := by
  refine Ct_of (EC_ok a g) (by decide) (Nat.le_of_ble_eq_true rfl) (by decide) (fun X hnn hF => ?_)
  show G SC r X σ0 Z0 [] [(0, .ref (r 10)), (1, .ref (r 56)), (2, .int a2), (3, .ref (r 30)), (4, .int a4), (5, .int a5)] [] 0
  have b3 : ∀ (N : Nat) (x2 : Int32) (x4 : Int32) (x5 : Int32) (x6 : Int32) , upm x6 = N → G SC r X σ0 Z0 [] [(0, .ref (r 10)), (1, .ref (r 56)), (2, .int x2), (3, .ref (r 30)), (4, .int x4), (5, .int x5), (6, .int x6)] [] 3 := by
    intro M3
    induction M3 using Nat.strongRecOn with
    | _ M3 ih3 =>
      intro x2 x4 x5 x6 N3
      have b28 : ∀ (N : Nat) (x2 : Int32) (x4 : Int32) (x5 : Int32) (x6 : Int32) (x7 : Int32) (x8 : Int32) , upm x8 = N → upm (x6 + 1) < M3 → G SC r X σ0 Z0 [] [(0, .ref (r 10)), (1, .ref (r 56)), (2, .int x2), (3, .ref (r 30)), (4, .int x4), (5, .int x5), (6, .int x6), (7, .int x7), (8, .int x8)] [] 28 := by
        intro M28
        induction M28 using Nat.strongRecOn with
        | _ M28 ih28 =>
          intro x2 x4 x5 x6 x7 x8 N28 gc3
          refine g_iload hF d_X4_find_28 8 rfl ?_
          refine g_aload_n hF d_X4_find_30 rfl 0 rfl ?_
          refine g_get (v := .ref (r 5)) hF 0 obC_10 (by decide) m_597 rfl d_X4_find_31 ?_
          refine g_getN (v := .ref (r 34)) hF 14 obC_5 (by decide) nm_253 rfl d_X4_find_34 ?_
          refine g_iload hF d_X4_find_37 7 rfl ?_
          refine g_callSN (As := [.ref (r 34), .int x7]) (rest := [.int x8]) hF (c_at a g r σ0 arC_34 (by decide) x7) (Nat.le_of_ble_eq_true rfl) mS_X12_at nm_1552 rfl rfl (Nat.le_of_ble_eq_true rfl) d_X4_find_39 (k_rop (fun r1 hr1 => ?_))
          have hr1 : 0 ≤ r1.toInt ∧ r1.toInt ≤ 10100 := acr_at i0.2.2.2.2.2.2.2.2.2.2.2.2.2.1 (by decide) (by decide) (hr1.imp And.left (fun h => ⟨_, h.2⟩))
          refine g_icmp_ge hF 97 d_X4_find_42 (by decide) rfl rfl (fun c2_42 => ?_) (fun c2_42 => ?_)
          · -- taken at 42
            refine g_iinc hF (x6 + 1) [(6, .int (x6 + 1)), (0, .ref (r 10)), (1, .ref (r 56)), (2, .int x2), (3, .ref (r 30)), (4, .int x4), (5, .int x5), (7, .int x7), (8, .int x8)] d_X4_find_97 6 rfl rfl hnn (by decide) rfl ?_
            refine g_goto hF 3 d_X4_find_100 (by decide) ?_
            exact g_sub (L' := [(0, .ref (r 10)), (1, .ref (r 56)), (2, .int x2), (3, .ref (r 30)), (4, .int x4), (5, .int x5), (6, .int (x6 + 1))]) [1, 2, 3, 4, 5, 6, 0] rfl (ih3 _ gc3 x2 x4 x5 (x6 + 1) rfl)
          · -- not taken at 42
            refine g_aload_n hF d_X4_find_45 rfl 0 rfl ?_
            refine g_get (v := .ref (r 5)) hF 0 obC_10 (by decide) m_597 rfl d_X4_find_46 ?_
            refine g_iload hF d_X4_find_49 8 rfl ?_
            refine g_iconst hF (v := 4) d_X4_find_51 (by decide) ?_
            refine g_callVN (As := [.int x8, .int 4]) (rest := []) hF (c_X8_is a g r σ0 x8 (4 : Int32) i0) (Nat.le_of_ble_eq_true rfl) mV_X8_is nm_1567 (recv_ob obC_5) rfl rfl (Nat.le_of_ble_eq_true rfl) d_X4_find_52 (k_roz (fun r3 hz3 => ?_))
            refine g_if_eq hF 91 d_X4_find_55 (by decide) rfl (fun c4_55 => ?_) (fun c4_55 => ?_)
            · -- taken at 55
              refine g_iinc hF (x8 + 1) [(8, .int (x8 + 1)), (0, .ref (r 10)), (1, .ref (r 56)), (2, .int x2), (3, .ref (r 30)), (4, .int x4), (5, .int x5), (6, .int x6), (7, .int x7)] d_X4_find_91 8 rfl rfl hnn (by decide) rfl ?_
              refine g_goto hF 28 d_X4_find_94 (by decide) ?_
              exact g_sub (L' := [(0, .ref (r 10)), (1, .ref (r 56)), (2, .int x2), (3, .ref (r 30)), (4, .int x4), (5, .int x5), (6, .int x6), (7, .int x7), (8, .int (x8 + 1))]) [1, 2, 3, 4, 5, 6, 7, 8, 0] rfl (ih28 _ (N28 ▸ upm_lt c2_42 (s_rng r1).2) x2 x4 x5 x6 x7 (x8 + 1) rfl gc3)
            · -- not taken at 55
              refine g_aload_n hF d_X4_find_58 rfl 0 rfl ?_
              refine g_get (v := .ref (r 5)) hF 0 obC_10 (by decide) m_597 rfl d_X4_find_59 ?_
              refine g_iload hF d_X4_find_62 8 rfl ?_
              refine g_iconst hF (v := 2) d_X4_find_64 (by decide) ?_
              refine g_callVN (As := [.int x8, .int 2]) (rest := []) hF (c_X8_is a g r σ0 x8 (2 : Int32) i0) (Nat.le_of_ble_eq_true rfl) mV_X8_is nm_1567 (recv_ob obC_5) rfl rfl (Nat.le_of_ble_eq_true rfl) d_X4_find_65 (k_roz (fun r5 hz5 => ?_))
              refine g_if_ne hF 91 d_X4_find_68 (by decide) rfl (fun c6_68 => ?_) (fun c6_68 => ?_)
              · -- taken at 68
                refine g_iinc hF (x8 + 1) [(8, .int (x8 + 1)), (0, .ref (r 10)), (1, .ref (r 56)), (2, .int x2), (3, .ref (r 30)), (4, .int x4), (5, .int x5), (6, .int x6), (7, .int x7)] d_X4_find_91 8 rfl rfl hnn (by decide) rfl ?_
                refine g_goto hF 28 d_X4_find_94 (by decide) ?_
                exact g_sub (L' := [(0, .ref (r 10)), (1, .ref (r 56)), (2, .int x2), (3, .ref (r 30)), (4, .int x4), (5, .int x5), (6, .int x6), (7, .int x7), (8, .int (x8 + 1))]) [1, 2, 3, 4, 5, 6, 7, 8, 0] rfl (ih28 _ (N28 ▸ upm_lt c2_42 (s_rng r1).2) x2 x4 x5 x6 x7 (x8 + 1) rfl gc3)
              · -- not taken at 68
                refine g_aload_n hF d_X4_find_71 rfl 0 rfl ?_
                refine g_get (v := .ref (r 5)) hF 0 obC_10 (by decide) m_597 rfl d_X4_find_72 ?_
                refine g_iload hF d_X4_find_75 8 rfl ?_
                refine g_aload_n hF d_X4_find_77 rfl 3 rfl ?_
                refine g_iload hF d_X4_find_78 4 rfl ?_
                refine g_iload hF d_X4_find_80 5 rfl ?_
                refine g_callVN (As := [.int x8, .ref (r 30), .int x4, .int x5]) (rest := []) hF (c_X8_isNamed_r5_r30 a g r σ0 x8 x4 x5 i0) (Nat.le_of_ble_eq_true rfl) mV_X8_isNamed nm_1568 (recv_ob obC_5) rfl rfl (Nat.le_of_ble_eq_true rfl) d_X4_find_82 (k_roz (fun r7 hz7 => ?_))
                refine g_if_eq hF 91 d_X4_find_85 (by decide) rfl (fun c8_85 => ?_) (fun c8_85 => ?_)
                · -- taken at 85
                  refine g_iinc hF (x8 + 1) [(8, .int (x8 + 1)), (0, .ref (r 10)), (1, .ref (r 56)), (2, .int x2), (3, .ref (r 30)), (4, .int x4), (5, .int x5), (6, .int x6), (7, .int x7)] d_X4_find_91 8 rfl rfl hnn (by decide) rfl ?_
                  refine g_goto hF 28 d_X4_find_94 (by decide) ?_
                  exact g_sub (L' := [(0, .ref (r 10)), (1, .ref (r 56)), (2, .int x2), (3, .ref (r 30)), (4, .int x4), (5, .int x5), (6, .int x6), (7, .int x7), (8, .int (x8 + 1))]) [1, 2, 3, 4, 5, 6, 7, 8, 0] rfl (ih28 _ (N28 ▸ upm_lt c2_42 (s_rng r1).2) x2 x4 x5 x6 x7 (x8 + 1) rfl gc3)
                · -- not taken at 85
                  refine g_iload hF d_X4_find_88 8 rfl ?_
                  exact g_iret hF rfl d_X4_find_90 ⟨rfl, rfl, x8, rfl, rfl⟩
      refine g_iload hF d_X4_find_3 6 rfl ?_
      refine g_iload_n hF d_X4_find_5 rfl 2 rfl ?_
      refine g_icmp_ge hF 103 d_X4_find_6 (by decide) rfl rfl (fun c9_6 => ?_) (fun c9_6 => ?_)
      · -- taken at 6
        refine g_iconst hF (v := (-1)) d_X4_find_103 (by decide) ?_
        exact g_iret hF rfl d_X4_find_104 ⟨rfl, rfl, ((-1) : Int32), rfl, rfl⟩
      · -- not taken at 6
        refine g_aload_n hF d_X4_find_9 rfl 1 rfl ?_
        refine g_iload hF d_X4_find_10 6 rfl ?_
        refine g_callSN (As := [.ref (r 56), .int x6]) (rest := []) hF (c_at a g r σ0 arC_56 (by decide) x6) (Nat.le_of_ble_eq_true rfl) mS_X12_at nm_1552 rfl rfl (Nat.le_of_ble_eq_true rfl) d_X4_find_12 (k_rop (fun r10 hr10 => ?_))
        refine g_istore hF [(7, .int r10), (0, .ref (r 10)), (1, .ref (r 56)), (2, .int x2), (3, .ref (r 30)), (4, .int x4), (5, .int x5), (6, .int x6)] d_X4_find_15 hnn (by decide) rfl ?_
        refine g_aload_n hF d_X4_find_17 rfl 1 rfl ?_
        refine g_get (v := .ref (r 5)) hF 0 obC_10 (by decide) m_597 rfl d_X4_find_18 ?_
        refine g_iload hF d_X4_find_21 0 rfl ?_
        refine g_callVN (As := [.int r10]) (rest := []) hF (c_X8_firstOf a g r σ0 r10 i0) (Nat.le_of_ble_eq_true rfl) mV_X8_firstOf nm_1566 (recv_ob obC_5) rfl rfl (Nat.le_of_ble_eq_true rfl) d_X4_find_23 (k_ro (fun r11 => ?_))
        refine g_istore hF [(8, .int r11), (7, .int r10), (0, .ref (r 10)), (1, .ref (r 56)), (2, .int x2), (3, .ref (r 30)), (4, .int x4), (5, .int x5), (6, .int x6)] d_X4_find_26 hnn (by decide) rfl ?_
        exact g_sub (L' := [(0, .ref (r 10)), (1, .ref (r 56)), (2, .int x2), (3, .ref (r 30)), (4, .int x4), (5, .int x5), (6, .int x6), (7, .int r10), (8, .int r11)]) [2, 3, 4, 5, 6, 7, 8, 1, 0] rfl (b28 _ x2 x4 x5 x6 r10 r11 rfl (N3 ▸ upm_lt c9_6 (s_rng x2).2))
  refine g_iconst hF (v := 0) d_X4_find_0 (by decide) ?_
  refine g_istore hF [(6, .int 0), (0, .ref (r 10)), (1, .ref (r 56)), (2, .int a2), (3, .ref (r 30)), (4, .int a4), (5, .int a5)] d_X4_find_1 hnn (by decide) rfl ?_
  exact g_sub (L' := [(0, .ref (r 10)), (1, .ref (r 56)), (2, .int a2), (3, .ref (r 30)), (4, .int a4), (5, .int a5), (6, .int 0)]) [1, 2, 3, 4, 5, 6, 0] rfl (b3 _ a2 a4 a5 (0 : Int32) rfl)
set_option maxHeartbeats 4000000 in
set_option maxRecDepth 100000 in
theorem c_X8_isNamed_r5_r1 (a : Nat → Nat) (g : Nat → Nat → Int32) (r : Nat → Nat) (σ0 : St) (a1 : Int32) (a3 : Int32) (a4 : Int32) (i0 : Inv σ0) (l : Launch) (D : va_G) (cy : Nat → ClassId) : Ct l D cy SC r (EC a g) y_X8_isNamed (Cond.code y_X8_isNamed b_X8_isNamed 7 (some .boolean)) 1 [.ref (r 5), .int a1, .ref (r 1), .int a3, .int a4] σ0 Z0 [] (QI (fun v9 σ9 => (v9 = 0 ∨ v9 = 1) ∧ σ9 = σ0)) QF := by
  refine Ct_of (EC_ok a g) (by decide) (Nat.le_of_ble_eq_true rfl) (by decide) (fun X hnn hF => ?_)
  show G SC r X σ0 Z0 [] [(0, .ref (r 5)), (1, .int a1), (2, .ref (r 1)), (3, .int a3), (4, .int a4)] [] 0
  have b33 : ∀ (N : Nat) (x1 : Int32) (x3 : Int32) (x4 : Int32) (x5 : Int32) (x6 : Int32) , upm x6 = N → (0 ≤ x5.toInt ∧ 0 ≤ x6.toInt ∧ x5.toInt + x6.toInt ≤ 65600 ∧ (x6.toInt = 0 ∨ (0 ≤ x3.toInt ∧ x3.toInt + x6.toInt ≤ 65600))) → G SC r X σ0 Z0 [] [(0, .ref (r 5)), (1, .int x1), (2, .ref (r 1)), (3, .int x3), (4, .int x4), (5, .int x5), (6, .int x6)] [] 33 := by
    intro M33
    induction M33 using Nat.strongRecOn with
    | _ M33 ih33 =>
      intro x1 x3 x4 x5 x6 N33 hj
      refine g_iload hF d_X8_isNamed_33 6 rfl ?_
      refine g_iload hF d_X8_isNamed_35 4 rfl ?_
      refine g_icmp_ge hF 93 d_X8_isNamed_37 (by decide) rfl rfl (fun c1_37 => ?_) (fun c1_37 => ?_)
      · -- taken at 37
        refine g_iconst hF (v := 1) d_X8_isNamed_93 (by decide) ?_
        exact g_zret hF rfl (k_nz (Or.inr rfl)) d_X8_isNamed_94 ⟨rfl, rfl, (1 : Int32), rfl, (Or.inr rfl), rfl⟩
      · -- not taken at 37
        refine g_iload hF d_X8_isNamed_40 5 rfl ?_
        refine g_iload hF d_X8_isNamed_42 6 rfl ?_
        refine g_iadd hF d_X8_isNamed_44 ?_
        refine g_aload_n hF d_X8_isNamed_45 rfl 0 rfl ?_
        refine g_get (v := .ref (r 30)) hF 8 obC_5 (by decide) m_240 rfl d_X8_isNamed_46 ?_
        refine g_alen hF arC_30 (fun _ => ⟨0, _, rfl⟩) (v := 65600) (by decide) d_X8_isNamed_49 ?_
        refine g_icmp_ge (yv := 65600) hF 85 d_X8_isNamed_50 (by decide) rfl (by decide) (fun c2_50 => ?_) (fun c2_50 => ?_)
        · -- taken at 50
          refine g_iconst hF (v := 0) d_X8_isNamed_85 (by decide) ?_
          exact g_zret hF rfl (k_nz (Or.inl rfl)) d_X8_isNamed_86 ⟨rfl, rfl, (0 : Int32), rfl, (Or.inl rfl), rfl⟩
        · -- not taken at 50
          refine g_iload_n hF d_X8_isNamed_53 rfl 3 rfl ?_
          refine g_if_lt hF 85 d_X8_isNamed_54 (by decide) rfl (fun c3_54 => ?_) (fun c3_54 => ?_)
          · -- taken at 54
            refine g_iconst hF (v := 0) d_X8_isNamed_85 (by decide) ?_
            exact g_zret hF rfl (k_nz (Or.inl rfl)) d_X8_isNamed_86 ⟨rfl, rfl, (0 : Int32), rfl, (Or.inl rfl), rfl⟩
          · -- not taken at 54
            refine g_iload_n hF d_X8_isNamed_57 rfl 3 rfl ?_
            refine g_iload hF d_X8_isNamed_58 6 rfl ?_
            refine g_iadd hF d_X8_isNamed_60 ?_
            refine g_aload_n hF d_X8_isNamed_61 rfl 2 rfl ?_
            refine g_alen hF arC_1 (fun _ => ⟨0, _, rfl⟩) (v := 16000) (by decide) d_X8_isNamed_62 ?_
            refine g_icmp_ge (yv := 16000) hF 85 d_X8_isNamed_63 (by decide) rfl (by decide) (fun c4_63 => ?_) (fun c4_63 => ?_)
            · -- taken at 63
              refine g_iconst hF (v := 0) d_X8_isNamed_85 (by decide) ?_
              exact g_zret hF rfl (k_nz (Or.inl rfl)) d_X8_isNamed_86 ⟨rfl, rfl, (0 : Int32), rfl, (Or.inl rfl), rfl⟩
            · -- not taken at 63
              refine g_aload_n hF d_X8_isNamed_66 rfl 0 rfl ?_
              refine g_get (v := .ref (r 30)) hF 8 obC_5 (by decide) m_240 rfl d_X8_isNamed_67 ?_
              refine g_iload hF d_X8_isNamed_70 5 rfl ?_
              refine g_iload hF d_X8_isNamed_72 6 rfl ?_
              refine g_iadd hF d_X8_isNamed_74 ?_
              refine g_bald hF arC_30 (by refine s_in (by decide) ?_ ?_ <;> (have e0 := s_rng x5; have e1 := s_rng x6; obtain ⟨k2, e2⟩ := s_add x5 x6; have e2a := s_rng (x5 + x6); have e4 := s_rng x4; have e5 : (65600 : Int32).toInt = 65600 := (by decide); have e6 := s_rng x3; obtain ⟨k7, e7⟩ := s_add x3 x6; have e7a := s_rng (x3 + x6); have e9 : (16000 : Int32).toInt = 16000 := (by decide); have e10 : (0 : Int32).toInt = 0 := (by decide); omega)) d_X8_isNamed_75 ?_
              refine g_any (fun v5 => ?_)
              refine g_aload_n hF d_X8_isNamed_76 rfl 2 rfl ?_
              refine g_iload_n hF d_X8_isNamed_77 rfl 3 rfl ?_
              refine g_iload hF d_X8_isNamed_78 6 rfl ?_
              refine g_iadd hF d_X8_isNamed_80 ?_
              refine g_bald hF arC_1 (by refine s_in (by decide) ?_ ?_ <;> (have e0 := s_rng x3; have e1 := s_rng x6; obtain ⟨k2, e2⟩ := s_add x3 x6; have e2a := s_rng (x3 + x6); have e4 := s_rng x4; have e5 := s_rng x5; obtain ⟨k6, e6⟩ := s_add x5 x6; have e6a := s_rng (x5 + x6); have e8 : (65600 : Int32).toInt = 65600 := (by decide); have e9 : (0 : Int32).toInt = 0 := (by decide); have e10 : (16000 : Int32).toInt = 16000 := (by decide); omega)) d_X8_isNamed_81 ?_
              refine g_any (fun v6 => ?_)
              refine g_icmp_eq hF 87 d_X8_isNamed_82 (by decide) rfl rfl (fun c7_82 => ?_) (fun c7_82 => ?_)
              · -- taken at 82
                refine g_iinc hF (x6 + 1) [(6, .int (x6 + 1)), (0, .ref (r 5)), (1, .int x1), (2, .ref (r 1)), (3, .int x3), (4, .int x4), (5, .int x5)] d_X8_isNamed_87 6 rfl rfl hnn (by decide) rfl ?_
                refine g_goto hF 33 d_X8_isNamed_90 (by decide) ?_
                exact g_sub (L' := [(0, .ref (r 5)), (1, .int x1), (2, .ref (r 1)), (3, .int x3), (4, .int x4), (5, .int x5), (6, .int (x6 + 1))]) [1, 2, 3, 4, 5, 6, 0] rfl (ih33 _ (N33 ▸ upm_lt c1_37 (s_rng x4).2) x1 x3 x4 x5 (x6 + 1) rfl (by show 0 ≤ x5.toInt ∧ 0 ≤ (x6 + 1).toInt ∧ x5.toInt + (x6 + 1).toInt ≤ 65600 ∧ ((x6 + 1).toInt = 0 ∨ (0 ≤ x3.toInt ∧ x3.toInt + (x6 + 1).toInt ≤ 65600)); have e0 := s_rng x6; have e1 : (1 : Int32).toInt = 1 := (by decide); obtain ⟨k2, e2⟩ := s_add x6 (1 : Int32); have e2a := s_rng (x6 + 1); have e4 := s_rng x1; have e5 := s_rng x3; have e6 := s_rng x4; have e7 := s_rng x5; obtain ⟨k8, e8⟩ := s_add x5 x6; have e8a := s_rng (x5 + x6); have e10 : (65600 : Int32).toInt = 65600 := (by decide); have e11 : (0 : Int32).toInt = 0 := (by decide); obtain ⟨k12, e12⟩ := s_add x3 x6; have e12a := s_rng (x3 + x6); have e14 : (16000 : Int32).toInt = 16000 := (by decide); omega))
              · -- not taken at 82
                refine g_iconst hF (v := 0) d_X8_isNamed_85 (by decide) ?_
                exact g_zret hF rfl (k_nz (Or.inl rfl)) d_X8_isNamed_86 ⟨rfl, rfl, (0 : Int32), rfl, (Or.inl rfl), rfl⟩
  refine g_aload_n hF d_X8_isNamed_0 rfl 0 rfl ?_
  refine g_get (v := .ref (r 29)) hF 6 obC_5 (by decide) m_237 rfl d_X8_isNamed_1 ?_
  refine g_iload_n hF d_X8_isNamed_4 rfl 1 rfl ?_
  refine g_iconst hF (v := 1) d_X8_isNamed_5 (by decide) ?_
  refine g_isub hF d_X8_isNamed_6 ?_
  refine g_callSN (As := [.ref (r 29), .int (a1 - 1)]) (rest := []) hF (c_at a g r σ0 arC_29 (by decide) (a1 - 1)) (Nat.le_of_ble_eq_true rfl) mS_X12_at nm_1125 rfl rfl (Nat.le_of_ble_eq_true rfl) d_X8_isNamed_7 (k_rop (fun r8 hr8 => ?_))
  have hr8 : 0 ≤ r8.toInt ∧ r8.toInt ≤ 65600 := acr_at i0.2.2.2.2.2.2.2.2.2.2.2.2.2.2.2.1 (by decide) (by decide) (hr8.imp And.left (fun h => ⟨_, h.2⟩))
  refine g_istore hF [(5, .int r8), (0, .ref (r 5)), (1, .int a1), (2, .ref (r 1)), (3, .int a3), (4, .int a4)] d_X8_isNamed_10 hnn (by decide) rfl ?_
  refine g_aload_n hF d_X8_isNamed_12 rfl 1 rfl ?_
  refine g_get (v := .ref (r 29)) hF 6 obC_5 (by decide) m_237 rfl d_X8_isNamed_13 ?_
  refine g_iload_n hF d_X8_isNamed_16 rfl 2 rfl ?_
  refine g_callSN (As := [.ref (r 29), .int a1]) (rest := []) hF (c_at a g r σ0 arC_29 (by decide) a1) (Nat.le_of_ble_eq_true rfl) mS_X12_at nm_1125 rfl rfl (Nat.le_of_ble_eq_true rfl) d_X8_isNamed_17 (k_rop (fun r9 hr9 => ?_))
  have hr9 : 0 ≤ r9.toInt ∧ r9.toInt ≤ 65600 := acr_at i0.2.2.2.2.2.2.2.2.2.2.2.2.2.2.2.1 (by decide) (by decide) (hr9.imp And.left (fun h => ⟨_, h.2⟩))
  refine g_iload hF d_X8_isNamed_20 0 rfl ?_
  refine g_isub hF d_X8_isNamed_22 ?_
  refine g_iload hF d_X8_isNamed_23 5 rfl ?_
  refine g_icmp_eq hF 30 d_X8_isNamed_25 (by decide) rfl rfl (fun c10_25 => ?_) (fun c10_25 => ?_)
  · -- taken at 25
    refine g_iconst hF (v := 0) d_X8_isNamed_30 (by decide) ?_
    refine g_istore hF [(6, .int 0), (5, .int r8), (0, .ref (r 5)), (1, .int a1), (2, .ref (r 1)), (3, .int a3), (4, .int a4)] d_X8_isNamed_31 hnn (by decide) rfl ?_
    exact g_sub (L' := [(0, .ref (r 5)), (1, .int a1), (2, .ref (r 1)), (3, .int a3), (4, .int a4), (5, .int r8), (6, .int 0)]) [2, 3, 4, 5, 6, 1, 0] rfl (b33 _ a1 a3 a4 r8 (0 : Int32) rfl (by show 0 ≤ r8.toInt ∧ 0 ≤ 0 ∧ r8.toInt + 0 ≤ 65600 ∧ (0 = 0 ∨ (0 ≤ a3.toInt ∧ a3.toInt + 0 ≤ 65600)); have e0 : (0 : Int32).toInt = 0 := (by decide); have e1 := s_rng r8; have e2 := s_rng a1; have e3 := s_rng a3; have e4 := s_rng a4; have e5 := s_rng r9; obtain ⟨k6, e6⟩ := s_sub r9 r8; have e6a := s_rng (r9 - r8); omega))
  · -- not taken at 25
    refine g_iconst hF (v := 0) d_X8_isNamed_28 (by decide) ?_
    exact g_zret hF rfl (k_nz (Or.inl rfl)) d_X8_isNamed_29 ⟨rfl, rfl, (0 : Int32), rfl, (Or.inl rfl), rfl⟩
set_option maxHeartbeats 4000000 in
set_option maxRecDepth 100000 in
theorem c_X10_skipBlanks (a : Nat → Nat) (g : Nat → Nat → Int32) (r : Nat → Nat) (σ0 : St) (i0 : Inv σ0) (l : Launch) (D : va_G) (cy : Nat → ClassId) : Ct l D cy SC r (EC a g) y_X10_skipBlanks (Cond.code y_X10_skipBlanks b_X10_skipBlanks 4 (some .boolean)) 3 [.ref (r 2)] σ0 Z0 [] (QI (fun v9 σ9 => (v9 = 0 ∨ v9 = 1) ∧ (Inv σ9 ∧ Keep [(2, 2), (2, 3), (2, 4)] [13, 14, 15, 16] σ0 σ9))) QF := by
  refine Ct_of (EC_ok a g) (by decide) (Nat.le_of_ble_eq_true rfl) (by decide) (fun X hnn hF => ?_)
  show G SC r X σ0 Z0 [] [(0, .ref (r 2))] [] 0
  have b2 : ∀ (N : Nat) (σ : St) (x1 : Int32) , upm x1 = N → Inv σ → Keep [(2, 2), (2, 3), (2, 4)] [13, 14, 15, 16] σ0 σ → G SC r X σ Z0 [] [(0, .ref (r 2)), (1, .int x1)] [] 2 := by
    intro M2
    induction M2 using Nat.strongRecOn with
    | _ M2 ih2 =>
      intro σ x1 N2 inv kp
      refine g_iload_n hF d_X10_skipBlanks_2 rfl 1 rfl ?_
      refine g_aload_n hF d_X10_skipBlanks_3 rfl 0 rfl ?_
      refine g_get (v := .int (σ 2 1)) hF 1 obC_2 (by decide) m_43 rfl d_X10_skipBlanks_4 ?_
      refine g_icmp_gt hF 142 d_X10_skipBlanks_7 (by decide) rfl rfl (fun c1_7 => ?_) (fun c1_7 => ?_)
      · -- taken at 7
        refine g_iconst hF (v := 1) d_X10_skipBlanks_142 (by decide) ?_
        exact g_zret hF rfl (k_nz (Or.inr rfl)) d_X10_skipBlanks_143 ⟨rfl, rfl, (1 : Int32), rfl, (Or.inr rfl), ⟨inv, kp⟩⟩
      · -- not taken at 7
        refine g_aload_n hF d_X10_skipBlanks_10 rfl 0 rfl ?_
        refine g_aload_n hF d_X10_skipBlanks_11 rfl 0 rfl ?_
        refine g_get (v := .int (σ 2 2)) hF 2 obC_2 (by decide) m_44 rfl d_X10_skipBlanks_12 ?_
        refine g_callV (As := [.int (σ 2 2)]) (rest := []) hF (c_X10_byteAt a g r σ (σ 2 2) inv) (Nat.le_of_ble_eq_true rfl) mV_X10_byteAt m_806 (recv_ob obC_2) rfl rfl (Nat.le_of_ble_eq_true rfl) d_X10_skipBlanks_15 (k_rop (fun r2 hp2 => ?_)) (fun _ _ _ h => h.elim)
        have hp2 : 0 ≤ r2.toInt → (0 ≤ (σ 2 2).toInt ∧ (σ 2 2).toInt < 16000) := hp2
        refine g_istore_n hF [(2, .int r2), (0, .ref (r 2)), (1, .int x1)] d_X10_skipBlanks_18 rfl hnn (by decide) rfl ?_
        refine g_iload_n hF d_X10_skipBlanks_19 rfl 0 rfl ?_
        refine g_bipush hF (v := 47) d_X10_skipBlanks_20 (by decide) ?_
        refine g_icmp_ne (yv := 47) hF 38 d_X10_skipBlanks_22 (by decide) rfl (by decide) (fun c3_22 => ?_) (fun c3_22 => ?_)
        · -- taken at 22
          refine g_iconst hF (v := (-1)) d_X10_skipBlanks_38 (by decide) ?_
          refine g_istore_n hF [(3, .int (-1)), (2, .int r2), (0, .ref (r 2)), (1, .int x1)] d_X10_skipBlanks_39 rfl hnn (by decide) rfl ?_
          refine g_iload_n hF d_X10_skipBlanks_40 rfl 0 rfl ?_
          refine g_bipush hF (v := 47) d_X10_skipBlanks_41 (by decide) ?_
          refine g_icmp_eq (xv := -1) (yv := 47) hF 52 d_X10_skipBlanks_43 (by decide) (by decide) (by decide) (fun c_43 => absurd c_43 (by decide)) (fun _ => ?_)
          refine g_iload_n hF d_X10_skipBlanks_46 rfl 0 rfl ?_
          refine g_bipush hF (v := 42) d_X10_skipBlanks_47 (by decide) ?_
          refine g_icmp_ne (xv := -1) (yv := 42) hF 77 d_X10_skipBlanks_49 (by decide) (by decide) (by decide) (fun _ => ?_) (fun c_49 => absurd c_49 (by decide))
          refine g_iload_n hF d_X10_skipBlanks_77 rfl 1 rfl ?_
          refine g_bipush hF (v := 9) d_X10_skipBlanks_78 (by decide) ?_
          refine g_icmp_eq (yv := 9) hF 101 d_X10_skipBlanks_80 (by decide) rfl (by decide) (fun c4_80 => ?_) (fun c4_80 => ?_)
          · -- taken at 80
            refine g_aload_n hF d_X10_skipBlanks_101 rfl 2 rfl ?_
            refine g_dup hF d_X10_skipBlanks_102 rfl ?_
            refine g_get (v := .int (σ 2 3)) hF 3 obC_2 (by decide) m_45 rfl d_X10_skipBlanks_103 ?_
            refine g_iload_n hF d_X10_skipBlanks_106 rfl 1 rfl ?_
            refine g_bipush hF (v := 10) d_X10_skipBlanks_107 (by decide) ?_
            refine g_icmp_ne (yv := 10) hF 116 d_X10_skipBlanks_109 (by decide) rfl (by decide) (fun c5_109 => ?_) (fun c5_109 => ?_)
            · -- taken at 109
              refine g_iconst hF (v := 0) d_X10_skipBlanks_116 (by decide) ?_
              refine g_iadd hF d_X10_skipBlanks_117 ?_
              refine g_put (v := ((σ 2 3) + 0)) hF 3 obC_2 (by decide) m_45 rfl rfl rfl d_X10_skipBlanks_118 ?_
              have kp : Keep [(2, 2), (2, 3), (2, 4)] [13, 14, 15, 16] σ0 (upC σ 2 3 ((σ 2 3) + 0)) := keep_f kp (by decide)
              refine g_aload_n hF d_X10_skipBlanks_121 rfl 2 rfl ?_
              refine g_dup hF d_X10_skipBlanks_122 rfl ?_
              refine g_get (v := .int (σ 2 2)) hF 2 obC_2 (by decide) m_44 rfl d_X10_skipBlanks_123 ?_
              refine g_iconst hF (v := 1) d_X10_skipBlanks_126 (by decide) ?_
              refine g_iadd hF d_X10_skipBlanks_127 ?_
              refine g_put (v := ((σ 2 2) + 1)) hF 2 obC_2 (by decide) m_44 rfl rfl rfl d_X10_skipBlanks_128 ?_
              have kp : Keep [(2, 2), (2, 3), (2, 4)] [13, 14, 15, 16] σ0 (upC (upC σ 2 3 ((σ 2 3) + 0)) 2 2 ((σ 2 2) + 1)) := keep_f kp (by decide)
              have p6 : 0 ≤ ((σ 2 2) + 1).toInt ∧ ((σ 2 2) + 1).toInt ≤ 40000 := (by have e0 := s_rng (σ 2 2); have e1 := inv.2.2.2.2.1; have e2 : (1 : Int32).toInt = 1 := (by decide); obtain ⟨k3, e3⟩ := s_add (σ 2 2) (1 : Int32); have e3a := s_rng ((σ 2 2) + 1); have e5 := s_rng r2; have e6 : (47 : Int32).toInt = 47 := (by decide); have e7 : (9 : Int32).toInt = 9 := (by decide); have e8 : (10 : Int32).toInt = 10 := (by decide); omega)
              refine g_goto hF 136 d_X10_skipBlanks_131 (by decide) ?_
              refine g_iinc hF (x1 + 1) [(1, .int (x1 + 1)), (3, .int (-1)), (2, .int r2), (0, .ref (r 2))] d_X10_skipBlanks_136 3 rfl rfl hnn (by decide) rfl ?_
              refine g_goto hF 2 d_X10_skipBlanks_139 (by decide) ?_
              have j7 : Inv (upC (upC σ 2 3 ((σ 2 3) + 0)) 2 2 ((σ 2 2) + 1)) := ⟨inv.1, inv.2.1, inv.2.2.1, inv.2.2.2.1, p6, inv.2.2.2.2.2.1, inv.2.2.2.2.2.2.1, inv.2.2.2.2.2.2.2.1, inv.2.2.2.2.2.2.2.2.1, inv.2.2.2.2.2.2.2.2.2.1, inv.2.2.2.2.2.2.2.2.2.2.1, inv.2.2.2.2.2.2.2.2.2.2.2.1, inv.2.2.2.2.2.2.2.2.2.2.2.2.1, inv.2.2.2.2.2.2.2.2.2.2.2.2.2.1, inv.2.2.2.2.2.2.2.2.2.2.2.2.2.2.1, inv.2.2.2.2.2.2.2.2.2.2.2.2.2.2.2.1, inv.2.2.2.2.2.2.2.2.2.2.2.2.2.2.2.2.1, inv.2.2.2.2.2.2.2.2.2.2.2.2.2.2.2.2.2.1, inv.2.2.2.2.2.2.2.2.2.2.2.2.2.2.2.2.2.2.1, inv.2.2.2.2.2.2.2.2.2.2.2.2.2.2.2.2.2.2.2⟩
              exact g_sub (L' := [(0, .ref (r 2)), (1, .int (x1 + 1))]) [3, 0] rfl (ih2 _ (by show upm (x1 + 1) < _; have hN := N2; unfold upm at hN ⊢; have e0 := s_rng x1; have e1 : (1 : Int32).toInt = 1 := (by decide); obtain ⟨k2, e2⟩ := s_add x1 (1 : Int32); have e2a := s_rng (x1 + 1); have e4 := s_rng (σ 2 1); have e5 := inv.2.2.2.2.2.2.2.2.1; omega) (upC (upC σ 2 3 ((σ 2 3) + 0)) 2 2 ((σ 2 2) + 1)) (x1 + 1) rfl j7 kp)
            · -- not taken at 109
              refine g_iconst hF (v := 1) d_X10_skipBlanks_112 (by decide) ?_
              refine g_goto hF 117 d_X10_skipBlanks_113 (by decide) ?_
              refine g_iadd hF d_X10_skipBlanks_117 ?_
              refine g_put (v := ((σ 2 3) + 1)) hF 3 obC_2 (by decide) m_45 rfl rfl rfl d_X10_skipBlanks_118 ?_
              have kp : Keep [(2, 2), (2, 3), (2, 4)] [13, 14, 15, 16] σ0 (upC σ 2 3 ((σ 2 3) + 1)) := keep_f kp (by decide)
              refine g_aload_n hF d_X10_skipBlanks_121 rfl 2 rfl ?_
              refine g_dup hF d_X10_skipBlanks_122 rfl ?_
              refine g_get (v := .int (σ 2 2)) hF 2 obC_2 (by decide) m_44 rfl d_X10_skipBlanks_123 ?_
              refine g_iconst hF (v := 1) d_X10_skipBlanks_126 (by decide) ?_
              refine g_iadd hF d_X10_skipBlanks_127 ?_
              refine g_put (v := ((σ 2 2) + 1)) hF 2 obC_2 (by decide) m_44 rfl rfl rfl d_X10_skipBlanks_128 ?_
              have kp : Keep [(2, 2), (2, 3), (2, 4)] [13, 14, 15, 16] σ0 (upC (upC σ 2 3 ((σ 2 3) + 1)) 2 2 ((σ 2 2) + 1)) := keep_f kp (by decide)
              have p8 : 0 ≤ ((σ 2 2) + 1).toInt ∧ ((σ 2 2) + 1).toInt ≤ 40000 := (by have e0 := s_rng (σ 2 2); have e1 := inv.2.2.2.2.1; have e2 : (1 : Int32).toInt = 1 := (by decide); obtain ⟨k3, e3⟩ := s_add (σ 2 2) (1 : Int32); have e3a := s_rng ((σ 2 2) + 1); have e5 := s_rng r2; have e6 : (47 : Int32).toInt = 47 := (by decide); have e7 : (9 : Int32).toInt = 9 := (by decide); have e8 : (10 : Int32).toInt = 10 := (by decide); omega)
              refine g_goto hF 136 d_X10_skipBlanks_131 (by decide) ?_
              refine g_iinc hF (x1 + 1) [(1, .int (x1 + 1)), (3, .int (-1)), (2, .int r2), (0, .ref (r 2))] d_X10_skipBlanks_136 3 rfl rfl hnn (by decide) rfl ?_
              refine g_goto hF 2 d_X10_skipBlanks_139 (by decide) ?_
              have j9 : Inv (upC (upC σ 2 3 ((σ 2 3) + 1)) 2 2 ((σ 2 2) + 1)) := ⟨inv.1, inv.2.1, inv.2.2.1, inv.2.2.2.1, p8, inv.2.2.2.2.2.1, inv.2.2.2.2.2.2.1, inv.2.2.2.2.2.2.2.1, inv.2.2.2.2.2.2.2.2.1, inv.2.2.2.2.2.2.2.2.2.1, inv.2.2.2.2.2.2.2.2.2.2.1, inv.2.2.2.2.2.2.2.2.2.2.2.1, inv.2.2.2.2.2.2.2.2.2.2.2.2.1, inv.2.2.2.2.2.2.2.2.2.2.2.2.2.1, inv.2.2.2.2.2.2.2.2.2.2.2.2.2.2.1, inv.2.2.2.2.2.2.2.2.2.2.2.2.2.2.2.1, inv.2.2.2.2.2.2.2.2.2.2.2.2.2.2.2.2.1, inv.2.2.2.2.2.2.2.2.2.2.2.2.2.2.2.2.2.1, inv.2.2.2.2.2.2.2.2.2.2.2.2.2.2.2.2.2.2.1, inv.2.2.2.2.2.2.2.2.2.2.2.2.2.2.2.2.2.2.2⟩
              exact g_sub (L' := [(0, .ref (r 2)), (1, .int (x1 + 1))]) [3, 0] rfl (ih2 _ (by show upm (x1 + 1) < _; have hN := N2; unfold upm at hN ⊢; have e0 := s_rng x1; have e1 : (1 : Int32).toInt = 1 := (by decide); obtain ⟨k2, e2⟩ := s_add x1 (1 : Int32); have e2a := s_rng (x1 + 1); have e4 := s_rng (σ 2 1); have e5 := inv.2.2.2.2.2.2.2.2.1; omega) (upC (upC σ 2 3 ((σ 2 3) + 1)) 2 2 ((σ 2 2) + 1)) (x1 + 1) rfl j9 kp)
          · -- not taken at 80
            refine g_iload_n hF d_X10_skipBlanks_83 rfl 1 rfl ?_
            refine g_bipush hF (v := 10) d_X10_skipBlanks_84 (by decide) ?_
            refine g_icmp_eq (yv := 10) hF 101 d_X10_skipBlanks_86 (by decide) rfl (by decide) (fun c10_86 => ?_) (fun c10_86 => ?_)
            · -- taken at 86
              refine g_aload_n hF d_X10_skipBlanks_101 rfl 2 rfl ?_
              refine g_dup hF d_X10_skipBlanks_102 rfl ?_
              refine g_get (v := .int (σ 2 3)) hF 3 obC_2 (by decide) m_45 rfl d_X10_skipBlanks_103 ?_
              refine g_iload_n hF d_X10_skipBlanks_106 rfl 1 rfl ?_
              refine g_bipush hF (v := 10) d_X10_skipBlanks_107 (by decide) ?_
              refine g_icmp_ne (yv := 10) hF 116 d_X10_skipBlanks_109 (by decide) rfl (by decide) (fun c11_109 => ?_) (fun c11_109 => ?_)
              · -- taken at 109
                refine g_iconst hF (v := 0) d_X10_skipBlanks_116 (by decide) ?_
                refine g_iadd hF d_X10_skipBlanks_117 ?_
                refine g_put (v := ((σ 2 3) + 0)) hF 3 obC_2 (by decide) m_45 rfl rfl rfl d_X10_skipBlanks_118 ?_
                have kp : Keep [(2, 2), (2, 3), (2, 4)] [13, 14, 15, 16] σ0 (upC σ 2 3 ((σ 2 3) + 0)) := keep_f kp (by decide)
                refine g_aload_n hF d_X10_skipBlanks_121 rfl 2 rfl ?_
                refine g_dup hF d_X10_skipBlanks_122 rfl ?_
                refine g_get (v := .int (σ 2 2)) hF 2 obC_2 (by decide) m_44 rfl d_X10_skipBlanks_123 ?_
                refine g_iconst hF (v := 1) d_X10_skipBlanks_126 (by decide) ?_
                refine g_iadd hF d_X10_skipBlanks_127 ?_
                refine g_put (v := ((σ 2 2) + 1)) hF 2 obC_2 (by decide) m_44 rfl rfl rfl d_X10_skipBlanks_128 ?_
                have kp : Keep [(2, 2), (2, 3), (2, 4)] [13, 14, 15, 16] σ0 (upC (upC σ 2 3 ((σ 2 3) + 0)) 2 2 ((σ 2 2) + 1)) := keep_f kp (by decide)
                have p12 : 0 ≤ ((σ 2 2) + 1).toInt ∧ ((σ 2 2) + 1).toInt ≤ 40000 := (by have e0 := s_rng (σ 2 2); have e1 := inv.2.2.2.2.1; have e2 : (1 : Int32).toInt = 1 := (by decide); obtain ⟨k3, e3⟩ := s_add (σ 2 2) (1 : Int32); have e3a := s_rng ((σ 2 2) + 1); have e5 := s_rng r2; have e6 : (47 : Int32).toInt = 47 := (by decide); have e7 : (9 : Int32).toInt = 9 := (by decide); have e8 : (10 : Int32).toInt = 10 := (by decide); omega)
                refine g_goto hF 136 d_X10_skipBlanks_131 (by decide) ?_
                refine g_iinc hF (x1 + 1) [(1, .int (x1 + 1)), (3, .int (-1)), (2, .int r2), (0, .ref (r 2))] d_X10_skipBlanks_136 3 rfl rfl hnn (by decide) rfl ?_
                refine g_goto hF 2 d_X10_skipBlanks_139 (by decide) ?_
                have j13 : Inv (upC (upC σ 2 3 ((σ 2 3) + 0)) 2 2 ((σ 2 2) + 1)) := ⟨inv.1, inv.2.1, inv.2.2.1, inv.2.2.2.1, p12, inv.2.2.2.2.2.1, inv.2.2.2.2.2.2.1, inv.2.2.2.2.2.2.2.1, inv.2.2.2.2.2.2.2.2.1, inv.2.2.2.2.2.2.2.2.2.1, inv.2.2.2.2.2.2.2.2.2.2.1, inv.2.2.2.2.2.2.2.2.2.2.2.1, inv.2.2.2.2.2.2.2.2.2.2.2.2.1, inv.2.2.2.2.2.2.2.2.2.2.2.2.2.1, inv.2.2.2.2.2.2.2.2.2.2.2.2.2.2.1, inv.2.2.2.2.2.2.2.2.2.2.2.2.2.2.2.1, inv.2.2.2.2.2.2.2.2.2.2.2.2.2.2.2.2.1, inv.2.2.2.2.2.2.2.2.2.2.2.2.2.2.2.2.2.1, inv.2.2.2.2.2.2.2.2.2.2.2.2.2.2.2.2.2.2.1, inv.2.2.2.2.2.2.2.2.2.2.2.2.2.2.2.2.2.2.2⟩
                exact g_sub (L' := [(0, .ref (r 2)), (1, .int (x1 + 1))]) [3, 0] rfl (ih2 _ (by show upm (x1 + 1) < _; have hN := N2; unfold upm at hN ⊢; have e0 := s_rng x1; have e1 : (1 : Int32).toInt = 1 := (by decide); obtain ⟨k2, e2⟩ := s_add x1 (1 : Int32); have e2a := s_rng (x1 + 1); have e4 := s_rng (σ 2 1); have e5 := inv.2.2.2.2.2.2.2.2.1; omega) (upC (upC σ 2 3 ((σ 2 3) + 0)) 2 2 ((σ 2 2) + 1)) (x1 + 1) rfl j13 kp)
              · -- not taken at 109
                refine g_iconst hF (v := 1) d_X10_skipBlanks_112 (by decide) ?_
                refine g_goto hF 117 d_X10_skipBlanks_113 (by decide) ?_
                refine g_iadd hF d_X10_skipBlanks_117 ?_
                refine g_put (v := ((σ 2 3) + 1)) hF 3 obC_2 (by decide) m_45 rfl rfl rfl d_X10_skipBlanks_118 ?_
                have kp : Keep [(2, 2), (2, 3), (2, 4)] [13, 14, 15, 16] σ0 (upC σ 2 3 ((σ 2 3) + 1)) := keep_f kp (by decide)
                refine g_aload_n hF d_X10_skipBlanks_121 rfl 2 rfl ?_
                refine g_dup hF d_X10_skipBlanks_122 rfl ?_
                refine g_get (v := .int (σ 2 2)) hF 2 obC_2 (by decide) m_44 rfl d_X10_skipBlanks_123 ?_
                refine g_iconst hF (v := 1) d_X10_skipBlanks_126 (by decide) ?_
                refine g_iadd hF d_X10_skipBlanks_127 ?_
                refine g_put (v := ((σ 2 2) + 1)) hF 2 obC_2 (by decide) m_44 rfl rfl rfl d_X10_skipBlanks_128 ?_
                have kp : Keep [(2, 2), (2, 3), (2, 4)] [13, 14, 15, 16] σ0 (upC (upC σ 2 3 ((σ 2 3) + 1)) 2 2 ((σ 2 2) + 1)) := keep_f kp (by decide)
                have p14 : 0 ≤ ((σ 2 2) + 1).toInt ∧ ((σ 2 2) + 1).toInt ≤ 40000 := (by have e0 := s_rng (σ 2 2); have e1 := inv.2.2.2.2.1; have e2 : (1 : Int32).toInt = 1 := (by decide); obtain ⟨k3, e3⟩ := s_add (σ 2 2) (1 : Int32); have e3a := s_rng ((σ 2 2) + 1); have e5 := s_rng r2; have e6 : (47 : Int32).toInt = 47 := (by decide); have e7 : (9 : Int32).toInt = 9 := (by decide); have e8 : (10 : Int32).toInt = 10 := (by decide); omega)
                refine g_goto hF 136 d_X10_skipBlanks_131 (by decide) ?_
                refine g_iinc hF (x1 + 1) [(1, .int (x1 + 1)), (3, .int (-1)), (2, .int r2), (0, .ref (r 2))] d_X10_skipBlanks_136 3 rfl rfl hnn (by decide) rfl ?_
                refine g_goto hF 2 d_X10_skipBlanks_139 (by decide) ?_
                have j15 : Inv (upC (upC σ 2 3 ((σ 2 3) + 1)) 2 2 ((σ 2 2) + 1)) := ⟨inv.1, inv.2.1, inv.2.2.1, inv.2.2.2.1, p14, inv.2.2.2.2.2.1, inv.2.2.2.2.2.2.1, inv.2.2.2.2.2.2.2.1, inv.2.2.2.2.2.2.2.2.1, inv.2.2.2.2.2.2.2.2.2.1, inv.2.2.2.2.2.2.2.2.2.2.1, inv.2.2.2.2.2.2.2.2.2.2.2.1, inv.2.2.2.2.2.2.2.2.2.2.2.2.1, inv.2.2.2.2.2.2.2.2.2.2.2.2.2.1, inv.2.2.2.2.2.2.2.2.2.2.2.2.2.2.1, inv.2.2.2.2.2.2.2.2.2.2.2.2.2.2.2.1, inv.2.2.2.2.2.2.2.2.2.2.2.2.2.2.2.2.1, inv.2.2.2.2.2.2.2.2.2.2.2.2.2.2.2.2.2.1, inv.2.2.2.2.2.2.2.2.2.2.2.2.2.2.2.2.2.2.1, inv.2.2.2.2.2.2.2.2.2.2.2.2.2.2.2.2.2.2.2⟩
                exact g_sub (L' := [(0, .ref (r 2)), (1, .int (x1 + 1))]) [3, 0] rfl (ih2 _ (by show upm (x1 + 1) < _; have hN := N2; unfold upm at hN ⊢; have e0 := s_rng x1; have e1 : (1 : Int32).toInt = 1 := (by decide); obtain ⟨k2, e2⟩ := s_add x1 (1 : Int32); have e2a := s_rng (x1 + 1); have e4 := s_rng (σ 2 1); have e5 := inv.2.2.2.2.2.2.2.2.1; omega) (upC (upC σ 2 3 ((σ 2 3) + 1)) 2 2 ((σ 2 2) + 1)) (x1 + 1) rfl j15 kp)
            · -- not taken at 86
              refine g_iload_n hF d_X10_skipBlanks_89 rfl 1 rfl ?_
              refine g_bipush hF (v := 13) d_X10_skipBlanks_90 (by decide) ?_
              refine g_icmp_eq (yv := 13) hF 101 d_X10_skipBlanks_92 (by decide) rfl (by decide) (fun c16_92 => ?_) (fun c16_92 => ?_)
              · -- taken at 92
                refine g_aload_n hF d_X10_skipBlanks_101 rfl 2 rfl ?_
                refine g_dup hF d_X10_skipBlanks_102 rfl ?_
                refine g_get (v := .int (σ 2 3)) hF 3 obC_2 (by decide) m_45 rfl d_X10_skipBlanks_103 ?_
                refine g_iload_n hF d_X10_skipBlanks_106 rfl 1 rfl ?_
                refine g_bipush hF (v := 10) d_X10_skipBlanks_107 (by decide) ?_
                refine g_icmp_ne (yv := 10) hF 116 d_X10_skipBlanks_109 (by decide) rfl (by decide) (fun c17_109 => ?_) (fun c17_109 => ?_)
                · -- taken at 109
                  refine g_iconst hF (v := 0) d_X10_skipBlanks_116 (by decide) ?_
                  refine g_iadd hF d_X10_skipBlanks_117 ?_
                  refine g_put (v := ((σ 2 3) + 0)) hF 3 obC_2 (by decide) m_45 rfl rfl rfl d_X10_skipBlanks_118 ?_
                  have kp : Keep [(2, 2), (2, 3), (2, 4)] [13, 14, 15, 16] σ0 (upC σ 2 3 ((σ 2 3) + 0)) := keep_f kp (by decide)
                  refine g_aload_n hF d_X10_skipBlanks_121 rfl 2 rfl ?_
                  refine g_dup hF d_X10_skipBlanks_122 rfl ?_
                  refine g_get (v := .int (σ 2 2)) hF 2 obC_2 (by decide) m_44 rfl d_X10_skipBlanks_123 ?_
                  refine g_iconst hF (v := 1) d_X10_skipBlanks_126 (by decide) ?_
                  refine g_iadd hF d_X10_skipBlanks_127 ?_
                  refine g_put (v := ((σ 2 2) + 1)) hF 2 obC_2 (by decide) m_44 rfl rfl rfl d_X10_skipBlanks_128 ?_
                  have kp : Keep [(2, 2), (2, 3), (2, 4)] [13, 14, 15, 16] σ0 (upC (upC σ 2 3 ((σ 2 3) + 0)) 2 2 ((σ 2 2) + 1)) := keep_f kp (by decide)
                  have p18 : 0 ≤ ((σ 2 2) + 1).toInt ∧ ((σ 2 2) + 1).toInt ≤ 40000 := (by have e0 := s_rng (σ 2 2); have e1 := inv.2.2.2.2.1; have e2 : (1 : Int32).toInt = 1 := (by decide); obtain ⟨k3, e3⟩ := s_add (σ 2 2) (1 : Int32); have e3a := s_rng ((σ 2 2) + 1); have e5 := s_rng r2; have e6 : (47 : Int32).toInt = 47 := (by decide); have e7 : (9 : Int32).toInt = 9 := (by decide); have e8 : (10 : Int32).toInt = 10 := (by decide); have e9 : (13 : Int32).toInt = 13 := (by decide); omega)
                  refine g_goto hF 136 d_X10_skipBlanks_131 (by decide) ?_
                  refine g_iinc hF (x1 + 1) [(1, .int (x1 + 1)), (3, .int (-1)), (2, .int r2), (0, .ref (r 2))] d_X10_skipBlanks_136 3 rfl rfl hnn (by decide) rfl ?_
                  refine g_goto hF 2 d_X10_skipBlanks_139 (by decide) ?_
                  have j19 : Inv (upC (upC σ 2 3 ((σ 2 3) + 0)) 2 2 ((σ 2 2) + 1)) := ⟨inv.1, inv.2.1, inv.2.2.1, inv.2.2.2.1, p18, inv.2.2.2.2.2.1, inv.2.2.2.2.2.2.1, inv.2.2.2.2.2.2.2.1, inv.2.2.2.2.2.2.2.2.1, inv.2.2.2.2.2.2.2.2.2.1, inv.2.2.2.2.2.2.2.2.2.2.1, inv.2.2.2.2.2.2.2.2.2.2.2.1, inv.2.2.2.2.2.2.2.2.2.2.2.2.1, inv.2.2.2.2.2.2.2.2.2.2.2.2.2.1, inv.2.2.2.2.2.2.2.2.2.2.2.2.2.2.1, inv.2.2.2.2.2.2.2.2.2.2.2.2.2.2.2.1, inv.2.2.2.2.2.2.2.2.2.2.2.2.2.2.2.2.1, inv.2.2.2.2.2.2.2.2.2.2.2.2.2.2.2.2.2.1, inv.2.2.2.2.2.2.2.2.2.2.2.2.2.2.2.2.2.2.1, inv.2.2.2.2.2.2.2.2.2.2.2.2.2.2.2.2.2.2.2⟩
                  exact g_sub (L' := [(0, .ref (r 2)), (1, .int (x1 + 1))]) [3, 0] rfl (ih2 _ (by show upm (x1 + 1) < _; have hN := N2; unfold upm at hN ⊢; have e0 := s_rng x1; have e1 : (1 : Int32).toInt = 1 := (by decide); obtain ⟨k2, e2⟩ := s_add x1 (1 : Int32); have e2a := s_rng (x1 + 1); have e4 := s_rng (σ 2 1); have e5 := inv.2.2.2.2.2.2.2.2.1; omega) (upC (upC σ 2 3 ((σ 2 3) + 0)) 2 2 ((σ 2 2) + 1)) (x1 + 1) rfl j19 kp)
                · -- not taken at 109
                  refine g_iconst hF (v := 1) d_X10_skipBlanks_112 (by decide) ?_
                  refine g_goto hF 117 d_X10_skipBlanks_113 (by decide) ?_
                  refine g_iadd hF d_X10_skipBlanks_117 ?_
                  refine g_put (v := ((σ 2 3) + 1)) hF 3 obC_2 (by decide) m_45 rfl rfl rfl d_X10_skipBlanks_118 ?_
                  have kp : Keep [(2, 2), (2, 3), (2, 4)] [13, 14, 15, 16] σ0 (upC σ 2 3 ((σ 2 3) + 1)) := keep_f kp (by decide)
                  refine g_aload_n hF d_X10_skipBlanks_121 rfl 2 rfl ?_
                  refine g_dup hF d_X10_skipBlanks_122 rfl ?_
                  refine g_get (v := .int (σ 2 2)) hF 2 obC_2 (by decide) m_44 rfl d_X10_skipBlanks_123 ?_
                  refine g_iconst hF (v := 1) d_X10_skipBlanks_126 (by decide) ?_
                  refine g_iadd hF d_X10_skipBlanks_127 ?_
                  refine g_put (v := ((σ 2 2) + 1)) hF 2 obC_2 (by decide) m_44 rfl rfl rfl d_X10_skipBlanks_128 ?_
                  have kp : Keep [(2, 2), (2, 3), (2, 4)] [13, 14, 15, 16] σ0 (upC (upC σ 2 3 ((σ 2 3) + 1)) 2 2 ((σ 2 2) + 1)) := keep_f kp (by decide)
                  have p20 : 0 ≤ ((σ 2 2) + 1).toInt ∧ ((σ 2 2) + 1).toInt ≤ 40000 := (by have e0 := s_rng (σ 2 2); have e1 := inv.2.2.2.2.1; have e2 : (1 : Int32).toInt = 1 := (by decide); obtain ⟨k3, e3⟩ := s_add (σ 2 2) (1 : Int32); have e3a := s_rng ((σ 2 2) + 1); have e5 := s_rng r2; have e6 : (47 : Int32).toInt = 47 := (by decide); have e7 : (9 : Int32).toInt = 9 := (by decide); have e8 : (10 : Int32).toInt = 10 := (by decide); have e9 : (13 : Int32).toInt = 13 := (by decide); omega)
                  refine g_goto hF 136 d_X10_skipBlanks_131 (by decide) ?_
                  refine g_iinc hF (x1 + 1) [(1, .int (x1 + 1)), (3, .int (-1)), (2, .int r2), (0, .ref (r 2))] d_X10_skipBlanks_136 3 rfl rfl hnn (by decide) rfl ?_
                  refine g_goto hF 2 d_X10_skipBlanks_139 (by decide) ?_
                  have j21 : Inv (upC (upC σ 2 3 ((σ 2 3) + 1)) 2 2 ((σ 2 2) + 1)) := ⟨inv.1, inv.2.1, inv.2.2.1, inv.2.2.2.1, p20, inv.2.2.2.2.2.1, inv.2.2.2.2.2.2.1, inv.2.2.2.2.2.2.2.1, inv.2.2.2.2.2.2.2.2.1, inv.2.2.2.2.2.2.2.2.2.1, inv.2.2.2.2.2.2.2.2.2.2.1, inv.2.2.2.2.2.2.2.2.2.2.2.1, inv.2.2.2.2.2.2.2.2.2.2.2.2.1, inv.2.2.2.2.2.2.2.2.2.2.2.2.2.1, inv.2.2.2.2.2.2.2.2.2.2.2.2.2.2.1, inv.2.2.2.2.2.2.2.2.2.2.2.2.2.2.2.1, inv.2.2.2.2.2.2.2.2.2.2.2.2.2.2.2.2.1, inv.2.2.2.2.2.2.2.2.2.2.2.2.2.2.2.2.2.1, inv.2.2.2.2.2.2.2.2.2.2.2.2.2.2.2.2.2.2.1, inv.2.2.2.2.2.2.2.2.2.2.2.2.2.2.2.2.2.2.2⟩
                  exact g_sub (L' := [(0, .ref (r 2)), (1, .int (x1 + 1))]) [3, 0] rfl (ih2 _ (by show upm (x1 + 1) < _; have hN := N2; unfold upm at hN ⊢; have e0 := s_rng x1; have e1 : (1 : Int32).toInt = 1 := (by decide); obtain ⟨k2, e2⟩ := s_add x1 (1 : Int32); have e2a := s_rng (x1 + 1); have e4 := s_rng (σ 2 1); have e5 := inv.2.2.2.2.2.2.2.2.1; omega) (upC (upC σ 2 3 ((σ 2 3) + 1)) 2 2 ((σ 2 2) + 1)) (x1 + 1) rfl j21 kp)
              · -- not taken at 92
                refine g_iload_n hF d_X10_skipBlanks_95 rfl 1 rfl ?_
                refine g_bipush hF (v := 32) d_X10_skipBlanks_96 (by decide) ?_
                refine g_icmp_ne (yv := 32) hF 134 d_X10_skipBlanks_98 (by decide) rfl (by decide) (fun c22_98 => ?_) (fun c22_98 => ?_)
                · -- taken at 98
                  refine g_iconst hF (v := 1) d_X10_skipBlanks_134 (by decide) ?_
                  exact g_zret hF rfl (k_nz (Or.inr rfl)) d_X10_skipBlanks_135 ⟨rfl, rfl, (1 : Int32), rfl, (Or.inr rfl), ⟨inv, kp⟩⟩
                · -- not taken at 98
                  refine g_aload_n hF d_X10_skipBlanks_101 rfl 2 rfl ?_
                  refine g_dup hF d_X10_skipBlanks_102 rfl ?_
                  refine g_get (v := .int (σ 2 3)) hF 3 obC_2 (by decide) m_45 rfl d_X10_skipBlanks_103 ?_
                  refine g_iload_n hF d_X10_skipBlanks_106 rfl 1 rfl ?_
                  refine g_bipush hF (v := 10) d_X10_skipBlanks_107 (by decide) ?_
                  refine g_icmp_ne (yv := 10) hF 116 d_X10_skipBlanks_109 (by decide) rfl (by decide) (fun c23_109 => ?_) (fun c23_109 => ?_)
                  · -- taken at 109
                    refine g_iconst hF (v := 0) d_X10_skipBlanks_116 (by decide) ?_
                    refine g_iadd hF d_X10_skipBlanks_117 ?_
                    refine g_put (v := ((σ 2 3) + 0)) hF 3 obC_2 (by decide) m_45 rfl rfl rfl d_X10_skipBlanks_118 ?_
                    have kp : Keep [(2, 2), (2, 3), (2, 4)] [13, 14, 15, 16] σ0 (upC σ 2 3 ((σ 2 3) + 0)) := keep_f kp (by decide)
                    refine g_aload_n hF d_X10_skipBlanks_121 rfl 2 rfl ?_
                    refine g_dup hF d_X10_skipBlanks_122 rfl ?_
                    refine g_get (v := .int (σ 2 2)) hF 2 obC_2 (by decide) m_44 rfl d_X10_skipBlanks_123 ?_
                    refine g_iconst hF (v := 1) d_X10_skipBlanks_126 (by decide) ?_
                    refine g_iadd hF d_X10_skipBlanks_127 ?_
                    refine g_put (v := ((σ 2 2) + 1)) hF 2 obC_2 (by decide) m_44 rfl rfl rfl d_X10_skipBlanks_128 ?_
                    have kp : Keep [(2, 2), (2, 3), (2, 4)] [13, 14, 15, 16] σ0 (upC (upC σ 2 3 ((σ 2 3) + 0)) 2 2 ((σ 2 2) + 1)) := keep_f kp (by decide)
                    have p24 : 0 ≤ ((σ 2 2) + 1).toInt ∧ ((σ 2 2) + 1).toInt ≤ 40000 := (by have e0 := s_rng (σ 2 2); have e1 := inv.2.2.2.2.1; have e2 : (1 : Int32).toInt = 1 := (by decide); obtain ⟨k3, e3⟩ := s_add (σ 2 2) (1 : Int32); have e3a := s_rng ((σ 2 2) + 1); have e5 := s_rng r2; have e6 : (47 : Int32).toInt = 47 := (by decide); have e7 : (9 : Int32).toInt = 9 := (by decide); have e8 : (10 : Int32).toInt = 10 := (by decide); have e9 : (13 : Int32).toInt = 13 := (by decide); have e10 : (32 : Int32).toInt = 32 := (by decide); omega)
                    refine g_goto hF 136 d_X10_skipBlanks_131 (by decide) ?_
                    refine g_iinc hF (x1 + 1) [(1, .int (x1 + 1)), (3, .int (-1)), (2, .int r2), (0, .ref (r 2))] d_X10_skipBlanks_136 3 rfl rfl hnn (by decide) rfl ?_
                    refine g_goto hF 2 d_X10_skipBlanks_139 (by decide) ?_
                    have j25 : Inv (upC (upC σ 2 3 ((σ 2 3) + 0)) 2 2 ((σ 2 2) + 1)) := ⟨inv.1, inv.2.1, inv.2.2.1, inv.2.2.2.1, p24, inv.2.2.2.2.2.1, inv.2.2.2.2.2.2.1, inv.2.2.2.2.2.2.2.1, inv.2.2.2.2.2.2.2.2.1, inv.2.2.2.2.2.2.2.2.2.1, inv.2.2.2.2.2.2.2.2.2.2.1, inv.2.2.2.2.2.2.2.2.2.2.2.1, inv.2.2.2.2.2.2.2.2.2.2.2.2.1, inv.2.2.2.2.2.2.2.2.2.2.2.2.2.1, inv.2.2.2.2.2.2.2.2.2.2.2.2.2.2.1, inv.2.2.2.2.2.2.2.2.2.2.2.2.2.2.2.1, inv.2.2.2.2.2.2.2.2.2.2.2.2.2.2.2.2.1, inv.2.2.2.2.2.2.2.2.2.2.2.2.2.2.2.2.2.1, inv.2.2.2.2.2.2.2.2.2.2.2.2.2.2.2.2.2.2.1, inv.2.2.2.2.2.2.2.2.2.2.2.2.2.2.2.2.2.2.2⟩
                    exact g_sub (L' := [(0, .ref (r 2)), (1, .int (x1 + 1))]) [3, 0] rfl (ih2 _ (by show upm (x1 + 1) < _; have hN := N2; unfold upm at hN ⊢; have e0 := s_rng x1; have e1 : (1 : Int32).toInt = 1 := (by decide); obtain ⟨k2, e2⟩ := s_add x1 (1 : Int32); have e2a := s_rng (x1 + 1); have e4 := s_rng (σ 2 1); have e5 := inv.2.2.2.2.2.2.2.2.1; omega) (upC (upC σ 2 3 ((σ 2 3) + 0)) 2 2 ((σ 2 2) + 1)) (x1 + 1) rfl j25 kp)
                  · -- not taken at 109
                    refine g_iconst hF (v := 1) d_X10_skipBlanks_112 (by decide) ?_
                    refine g_goto hF 117 d_X10_skipBlanks_113 (by decide) ?_
                    refine g_iadd hF d_X10_skipBlanks_117 ?_
                    refine g_put (v := ((σ 2 3) + 1)) hF 3 obC_2 (by decide) m_45 rfl rfl rfl d_X10_skipBlanks_118 ?_
                    have kp : Keep [(2, 2), (2, 3), (2, 4)] [13, 14, 15, 16] σ0 (upC σ 2 3 ((σ 2 3) + 1)) := keep_f kp (by decide)
                    refine g_aload_n hF d_X10_skipBlanks_121 rfl 2 rfl ?_
                    refine g_dup hF d_X10_skipBlanks_122 rfl ?_
                    refine g_get (v := .int (σ 2 2)) hF 2 obC_2 (by decide) m_44 rfl d_X10_skipBlanks_123 ?_
                    refine g_iconst hF (v := 1) d_X10_skipBlanks_126 (by decide) ?_
                    refine g_iadd hF d_X10_skipBlanks_127 ?_
                    refine g_put (v := ((σ 2 2) + 1)) hF 2 obC_2 (by decide) m_44 rfl rfl rfl d_X10_skipBlanks_128 ?_
                    have kp : Keep [(2, 2), (2, 3), (2, 4)] [13, 14, 15, 16] σ0 (upC (upC σ 2 3 ((σ 2 3) + 1)) 2 2 ((σ 2 2) + 1)) := keep_f kp (by decide)
                    have p26 : 0 ≤ ((σ 2 2) + 1).toInt ∧ ((σ 2 2) + 1).toInt ≤ 40000 := (by have e0 := s_rng (σ 2 2); have e1 := inv.2.2.2.2.1; have e2 : (1 : Int32).toInt = 1 := (by decide); obtain ⟨k3, e3⟩ := s_add (σ 2 2) (1 : Int32); have e3a := s_rng ((σ 2 2) + 1); have e5 := s_rng r2; have e6 : (47 : Int32).toInt = 47 := (by decide); have e7 : (9 : Int32).toInt = 9 := (by decide); have e8 : (10 : Int32).toInt = 10 := (by decide); have e9 : (13 : Int32).toInt = 13 := (by decide); have e10 : (32 : Int32).toInt = 32 := (by decide); omega)
                    refine g_goto hF 136 d_X10_skipBlanks_131 (by decide) ?_
                    refine g_iinc hF (x1 + 1) [(1, .int (x1 + 1)), (3, .int (-1)), (2, .int r2), (0, .ref (r 2))] d_X10_skipBlanks_136 3 rfl rfl hnn (by decide) rfl ?_
                    refine g_goto hF 2 d_X10_skipBlanks_139 (by decide) ?_
                    have j27 : Inv (upC (upC σ 2 3 ((σ 2 3) + 1)) 2 2 ((σ 2 2) + 1)) := ⟨inv.1, inv.2.1, inv.2.2.1, inv.2.2.2.1, p26, inv.2.2.2.2.2.1, inv.2.2.2.2.2.2.1, inv.2.2.2.2.2.2.2.1, inv.2.2.2.2.2.2.2.2.1, inv.2.2.2.2.2.2.2.2.2.1, inv.2.2.2.2.2.2.2.2.2.2.1, inv.2.2.2.2.2.2.2.2.2.2.2.1, inv.2.2.2.2.2.2.2.2.2.2.2.2.1, inv.2.2.2.2.2.2.2.2.2.2.2.2.2.1, inv.2.2.2.2.2.2.2.2.2.2.2.2.2.2.1, inv.2.2.2.2.2.2.2.2.2.2.2.2.2.2.2.1, inv.2.2.2.2.2.2.2.2.2.2.2.2.2.2.2.2.1, inv.2.2.2.2.2.2.2.2.2.2.2.2.2.2.2.2.2.1, inv.2.2.2.2.2.2.2.2.2.2.2.2.2.2.2.2.2.2.1, inv.2.2.2.2.2.2.2.2.2.2.2.2.2.2.2.2.2.2.2⟩
                    exact g_sub (L' := [(0, .ref (r 2)), (1, .int (x1 + 1))]) [3, 0] rfl (ih2 _ (by show upm (x1 + 1) < _; have hN := N2; unfold upm at hN ⊢; have e0 := s_rng x1; have e1 : (1 : Int32).toInt = 1 := (by decide); obtain ⟨k2, e2⟩ := s_add x1 (1 : Int32); have e2a := s_rng (x1 + 1); have e4 := s_rng (σ 2 1); have e5 := inv.2.2.2.2.2.2.2.2.1; omega) (upC (upC σ 2 3 ((σ 2 3) + 1)) 2 2 ((σ 2 2) + 1)) (x1 + 1) rfl j27 kp)
        · -- not taken at 22
          refine g_aload_n hF d_X10_skipBlanks_25 rfl 1 rfl ?_
          refine g_aload_n hF d_X10_skipBlanks_26 rfl 1 rfl ?_
          refine g_get (v := .int (σ 2 2)) hF 2 obC_2 (by decide) m_44 rfl d_X10_skipBlanks_27 ?_
          refine g_iconst hF (v := 1) d_X10_skipBlanks_30 (by decide) ?_
          refine g_iadd hF d_X10_skipBlanks_31 ?_
          refine g_callV (As := [.int ((σ 2 2) + 1)]) (rest := []) hF (c_X10_byteAt a g r σ ((σ 2 2) + 1) inv) (Nat.le_of_ble_eq_true rfl) mV_X10_byteAt m_806 (recv_ob obC_2) rfl rfl (Nat.le_of_ble_eq_true rfl) d_X10_skipBlanks_32 (k_rop (fun r28 hp28 => ?_)) (fun _ _ _ h => h.elim)
          have hp28 : 0 ≤ r28.toInt → (0 ≤ ((σ 2 2) + 1).toInt ∧ ((σ 2 2) + 1).toInt < 16000) := hp28
          refine g_goto hF 39 d_X10_skipBlanks_35 (by decide) ?_
          refine g_istore_n hF [(3, .int r28), (2, .int r2), (0, .ref (r 2)), (1, .int x1)] d_X10_skipBlanks_39 rfl hnn (by decide) rfl ?_
          refine g_iload_n hF d_X10_skipBlanks_40 rfl 0 rfl ?_
          refine g_bipush hF (v := 47) d_X10_skipBlanks_41 (by decide) ?_
          refine g_icmp_eq (yv := 47) hF 52 d_X10_skipBlanks_43 (by decide) rfl (by decide) (fun c29_43 => ?_) (fun c29_43 => ?_)
          · -- taken at 43
            refine g_iload_n hF d_X10_skipBlanks_52 rfl 0 rfl ?_
            refine g_bipush hF (v := 47) d_X10_skipBlanks_53 (by decide) ?_
            refine g_icmp_ne (yv := 47) hF 68 d_X10_skipBlanks_55 (by decide) rfl (by decide) (fun c30_55 => ?_) (fun c30_55 => ?_)
            · -- taken at 55
              refine g_aload_n hF d_X10_skipBlanks_68 rfl 2 rfl ?_
              refine g_callV (As := []) (rest := []) hF (c_X10_skipComment a g r σ inv) (Nat.le_of_ble_eq_true rfl) mV_X10_skipComment m_825 (recv_ob obC_2) rfl rfl (Nat.le_of_ble_eq_true rfl) d_X10_skipBlanks_69 (k_i (fun r31 σ31 ⟨hz31, iσ31, ik31⟩ => ?_)) (fun _ _ _ h => h.elim)
              have kp : Keep [(2, 2), (2, 3), (2, 4)] [13, 14, 15, 16] σ0 σ31 := keep_c kp ik31 (by decide) (by decide)
              refine g_if_ne hF 136 d_X10_skipBlanks_72 (by decide) rfl (fun c32_72 => ?_) (fun c32_72 => ?_)
              · -- taken at 72
                refine g_iinc hF (x1 + 1) [(1, .int (x1 + 1)), (3, .int r28), (2, .int r2), (0, .ref (r 2))] d_X10_skipBlanks_136 3 rfl rfl hnn (by decide) rfl ?_
                refine g_goto hF 2 d_X10_skipBlanks_139 (by decide) ?_
                exact g_sub (L' := [(0, .ref (r 2)), (1, .int (x1 + 1))]) [3, 0] rfl (ih2 _ (by show upm (x1 + 1) < _; have hN := N2; unfold upm at hN ⊢; have e0 := s_rng x1; have e1 : (1 : Int32).toInt = 1 := (by decide); obtain ⟨k2, e2⟩ := s_add x1 (1 : Int32); have e2a := s_rng (x1 + 1); have e4 := s_rng (σ 2 1); have e5 := inv.2.2.2.2.2.2.2.2.1; omega) σ31 (x1 + 1) rfl iσ31 kp)
              · -- not taken at 72
                refine g_iconst hF (v := 0) d_X10_skipBlanks_75 (by decide) ?_
                exact g_zret hF rfl (k_nz (Or.inl rfl)) d_X10_skipBlanks_76 ⟨rfl, rfl, (0 : Int32), rfl, (Or.inl rfl), ⟨iσ31, kp⟩⟩
            · -- not taken at 55
              refine g_aload_n hF d_X10_skipBlanks_58 rfl 2 rfl ?_
              refine g_callV (As := []) (rest := []) hF (c_X10_skipLine a g r σ inv) (Nat.le_of_ble_eq_true rfl) mV_X10_skipLine m_810 (recv_ob obC_2) rfl rfl (Nat.le_of_ble_eq_true rfl) d_X10_skipBlanks_59 (k_i (fun r33 σ33 ⟨hz33, iσ33, ik33⟩ => ?_)) (fun _ _ _ h => h.elim)
              have kp : Keep [(2, 2), (2, 3), (2, 4)] [13, 14, 15, 16] σ0 σ33 := keep_c kp ik33 (by decide) (by decide)
              refine g_if_eq hF 75 d_X10_skipBlanks_62 (by decide) rfl (fun c34_62 => ?_) (fun c34_62 => ?_)
              · -- taken at 62
                refine g_iconst hF (v := 0) d_X10_skipBlanks_75 (by decide) ?_
                exact g_zret hF rfl (k_nz (Or.inl rfl)) d_X10_skipBlanks_76 ⟨rfl, rfl, (0 : Int32), rfl, (Or.inl rfl), ⟨iσ33, kp⟩⟩
              · -- not taken at 62
                refine g_goto hF 136 d_X10_skipBlanks_65 (by decide) ?_
                refine g_iinc hF (x1 + 1) [(1, .int (x1 + 1)), (3, .int r28), (2, .int r2), (0, .ref (r 2))] d_X10_skipBlanks_136 3 rfl rfl hnn (by decide) rfl ?_
                refine g_goto hF 2 d_X10_skipBlanks_139 (by decide) ?_
                exact g_sub (L' := [(0, .ref (r 2)), (1, .int (x1 + 1))]) [3, 0] rfl (ih2 _ (by show upm (x1 + 1) < _; have hN := N2; unfold upm at hN ⊢; have e0 := s_rng x1; have e1 : (1 : Int32).toInt = 1 := (by decide); obtain ⟨k2, e2⟩ := s_add x1 (1 : Int32); have e2a := s_rng (x1 + 1); have e4 := s_rng (σ 2 1); have e5 := inv.2.2.2.2.2.2.2.2.1; omega) σ33 (x1 + 1) rfl iσ33 kp)
          · -- not taken at 43
            refine g_iload_n hF d_X10_skipBlanks_46 rfl 0 rfl ?_
            refine g_bipush hF (v := 42) d_X10_skipBlanks_47 (by decide) ?_
            refine g_icmp_ne (yv := 42) hF 77 d_X10_skipBlanks_49 (by decide) rfl (by decide) (fun c35_49 => ?_) (fun c35_49 => ?_)
            · -- taken at 49
              refine g_iload_n hF d_X10_skipBlanks_77 rfl 1 rfl ?_
              refine g_bipush hF (v := 9) d_X10_skipBlanks_78 (by decide) ?_
              refine g_icmp_eq (yv := 9) hF 101 d_X10_skipBlanks_80 (by decide) rfl (by decide) (fun c36_80 => ?_) (fun c36_80 => ?_)
              · -- taken at 80
                refine g_aload_n hF d_X10_skipBlanks_101 rfl 2 rfl ?_
                refine g_dup hF d_X10_skipBlanks_102 rfl ?_
                refine g_get (v := .int (σ 2 3)) hF 3 obC_2 (by decide) m_45 rfl d_X10_skipBlanks_103 ?_
                refine g_iload_n hF d_X10_skipBlanks_106 rfl 1 rfl ?_
                refine g_bipush hF (v := 10) d_X10_skipBlanks_107 (by decide) ?_
                refine g_icmp_ne (yv := 10) hF 116 d_X10_skipBlanks_109 (by decide) rfl (by decide) (fun c37_109 => ?_) (fun c37_109 => ?_)
                · -- taken at 109
                  refine g_iconst hF (v := 0) d_X10_skipBlanks_116 (by decide) ?_
                  refine g_iadd hF d_X10_skipBlanks_117 ?_
                  refine g_put (v := ((σ 2 3) + 0)) hF 3 obC_2 (by decide) m_45 rfl rfl rfl d_X10_skipBlanks_118 ?_
                  have kp : Keep [(2, 2), (2, 3), (2, 4)] [13, 14, 15, 16] σ0 (upC σ 2 3 ((σ 2 3) + 0)) := keep_f kp (by decide)
                  refine g_aload_n hF d_X10_skipBlanks_121 rfl 2 rfl ?_
                  refine g_dup hF d_X10_skipBlanks_122 rfl ?_
                  refine g_get (v := .int (σ 2 2)) hF 2 obC_2 (by decide) m_44 rfl d_X10_skipBlanks_123 ?_
                  refine g_iconst hF (v := 1) d_X10_skipBlanks_126 (by decide) ?_
                  refine g_iadd hF d_X10_skipBlanks_127 ?_
                  refine g_put (v := ((σ 2 2) + 1)) hF 2 obC_2 (by decide) m_44 rfl rfl rfl d_X10_skipBlanks_128 ?_
                  have kp : Keep [(2, 2), (2, 3), (2, 4)] [13, 14, 15, 16] σ0 (upC (upC σ 2 3 ((σ 2 3) + 0)) 2 2 ((σ 2 2) + 1)) := keep_f kp (by decide)
                  have p38 : 0 ≤ ((σ 2 2) + 1).toInt ∧ ((σ 2 2) + 1).toInt ≤ 40000 := (by have e0 := s_rng (σ 2 2); have e1 := inv.2.2.2.2.1; have e2 : (1 : Int32).toInt = 1 := (by decide); obtain ⟨k3, e3⟩ := s_add (σ 2 2) (1 : Int32); have e3a := s_rng ((σ 2 2) + 1); have e5 := s_rng r2; have e6 : (47 : Int32).toInt = 47 := (by decide); have e7 := s_rng r28; have e8 : (42 : Int32).toInt = 42 := (by decide); have e9 : (9 : Int32).toInt = 9 := (by decide); have e10 : (10 : Int32).toInt = 10 := (by decide); omega)
                  refine g_goto hF 136 d_X10_skipBlanks_131 (by decide) ?_
                  refine g_iinc hF (x1 + 1) [(1, .int (x1 + 1)), (3, .int r28), (2, .int r2), (0, .ref (r 2))] d_X10_skipBlanks_136 3 rfl rfl hnn (by decide) rfl ?_
                  refine g_goto hF 2 d_X10_skipBlanks_139 (by decide) ?_
                  have j39 : Inv (upC (upC σ 2 3 ((σ 2 3) + 0)) 2 2 ((σ 2 2) + 1)) := ⟨inv.1, inv.2.1, inv.2.2.1, inv.2.2.2.1, p38, inv.2.2.2.2.2.1, inv.2.2.2.2.2.2.1, inv.2.2.2.2.2.2.2.1, inv.2.2.2.2.2.2.2.2.1, inv.2.2.2.2.2.2.2.2.2.1, inv.2.2.2.2.2.2.2.2.2.2.1, inv.2.2.2.2.2.2.2.2.2.2.2.1, inv.2.2.2.2.2.2.2.2.2.2.2.2.1, inv.2.2.2.2.2.2.2.2.2.2.2.2.2.1, inv.2.2.2.2.2.2.2.2.2.2.2.2.2.2.1, inv.2.2.2.2.2.2.2.2.2.2.2.2.2.2.2.1, inv.2.2.2.2.2.2.2.2.2.2.2.2.2.2.2.2.1, inv.2.2.2.2.2.2.2.2.2.2.2.2.2.2.2.2.2.1, inv.2.2.2.2.2.2.2.2.2.2.2.2.2.2.2.2.2.2.1, inv.2.2.2.2.2.2.2.2.2.2.2.2.2.2.2.2.2.2.2⟩
                  exact g_sub (L' := [(0, .ref (r 2)), (1, .int (x1 + 1))]) [3, 0] rfl (ih2 _ (by show upm (x1 + 1) < _; have hN := N2; unfold upm at hN ⊢; have e0 := s_rng x1; have e1 : (1 : Int32).toInt = 1 := (by decide); obtain ⟨k2, e2⟩ := s_add x1 (1 : Int32); have e2a := s_rng (x1 + 1); have e4 := s_rng (σ 2 1); have e5 := inv.2.2.2.2.2.2.2.2.1; omega) (upC (upC σ 2 3 ((σ 2 3) + 0)) 2 2 ((σ 2 2) + 1)) (x1 + 1) rfl j39 kp)
                · -- not taken at 109
                  refine g_iconst hF (v := 1) d_X10_skipBlanks_112 (by decide) ?_
                  refine g_goto hF 117 d_X10_skipBlanks_113 (by decide) ?_
                  refine g_iadd hF d_X10_skipBlanks_117 ?_
                  refine g_put (v := ((σ 2 3) + 1)) hF 3 obC_2 (by decide) m_45 rfl rfl rfl d_X10_skipBlanks_118 ?_
                  have kp : Keep [(2, 2), (2, 3), (2, 4)] [13, 14, 15, 16] σ0 (upC σ 2 3 ((σ 2 3) + 1)) := keep_f kp (by decide)
                  refine g_aload_n hF d_X10_skipBlanks_121 rfl 2 rfl ?_
                  refine g_dup hF d_X10_skipBlanks_122 rfl ?_
                  refine g_get (v := .int (σ 2 2)) hF 2 obC_2 (by decide) m_44 rfl d_X10_skipBlanks_123 ?_
                  refine g_iconst hF (v := 1) d_X10_skipBlanks_126 (by decide) ?_
                  refine g_iadd hF d_X10_skipBlanks_127 ?_
                  refine g_put (v := ((σ 2 2) + 1)) hF 2 obC_2 (by decide) m_44 rfl rfl rfl d_X10_skipBlanks_128 ?_
                  have kp : Keep [(2, 2), (2, 3), (2, 4)] [13, 14, 15, 16] σ0 (upC (upC σ 2 3 ((σ 2 3) + 1)) 2 2 ((σ 2 2) + 1)) := keep_f kp (by decide)
                  have p40 : 0 ≤ ((σ 2 2) + 1).toInt ∧ ((σ 2 2) + 1).toInt ≤ 40000 := (by have e0 := s_rng (σ 2 2); have e1 := inv.2.2.2.2.1; have e2 : (1 : Int32).toInt = 1 := (by decide); obtain ⟨k3, e3⟩ := s_add (σ 2 2) (1 : Int32); have e3a := s_rng ((σ 2 2) + 1); have e5 := s_rng r2; have e6 : (47 : Int32).toInt = 47 := (by decide); have e7 := s_rng r28; have e8 : (42 : Int32).toInt = 42 := (by decide); have e9 : (9 : Int32).toInt = 9 := (by decide); have e10 : (10 : Int32).toInt = 10 := (by decide); omega)
                  refine g_goto hF 136 d_X10_skipBlanks_131 (by decide) ?_
                  refine g_iinc hF (x1 + 1) [(1, .int (x1 + 1)), (3, .int r28), (2, .int r2), (0, .ref (r 2))] d_X10_skipBlanks_136 3 rfl rfl hnn (by decide) rfl ?_
                  refine g_goto hF 2 d_X10_skipBlanks_139 (by decide) ?_
                  have j41 : Inv (upC (upC σ 2 3 ((σ 2 3) + 1)) 2 2 ((σ 2 2) + 1)) := ⟨inv.1, inv.2.1, inv.2.2.1, inv.2.2.2.1, p40, inv.2.2.2.2.2.1, inv.2.2.2.2.2.2.1, inv.2.2.2.2.2.2.2.1, inv.2.2.2.2.2.2.2.2.1, inv.2.2.2.2.2.2.2.2.2.1, inv.2.2.2.2.2.2.2.2.2.2.1, inv.2.2.2.2.2.2.2.2.2.2.2.1, inv.2.2.2.2.2.2.2.2.2.2.2.2.1, inv.2.2.2.2.2.2.2.2.2.2.2.2.2.1, inv.2.2.2.2.2.2.2.2.2.2.2.2.2.2.1, inv.2.2.2.2.2.2.2.2.2.2.2.2.2.2.2.1, inv.2.2.2.2.2.2.2.2.2.2.2.2.2.2.2.2.1, inv.2.2.2.2.2.2.2.2.2.2.2.2.2.2.2.2.2.1, inv.2.2.2.2.2.2.2.2.2.2.2.2.2.2.2.2.2.2.1, inv.2.2.2.2.2.2.2.2.2.2.2.2.2.2.2.2.2.2.2⟩
                  exact g_sub (L' := [(0, .ref (r 2)), (1, .int (x1 + 1))]) [3, 0] rfl (ih2 _ (by show upm (x1 + 1) < _; have hN := N2; unfold upm at hN ⊢; have e0 := s_rng x1; have e1 : (1 : Int32).toInt = 1 := (by decide); obtain ⟨k2, e2⟩ := s_add x1 (1 : Int32); have e2a := s_rng (x1 + 1); have e4 := s_rng (σ 2 1); have e5 := inv.2.2.2.2.2.2.2.2.1; omega) (upC (upC σ 2 3 ((σ 2 3) + 1)) 2 2 ((σ 2 2) + 1)) (x1 + 1) rfl j41 kp)
              · -- not taken at 80
                refine g_iload_n hF d_X10_skipBlanks_83 rfl 1 rfl ?_
                refine g_bipush hF (v := 10) d_X10_skipBlanks_84 (by decide) ?_
                refine g_icmp_eq (yv := 10) hF 101 d_X10_skipBlanks_86 (by decide) rfl (by decide) (fun c42_86 => ?_) (fun c42_86 => ?_)
                · -- taken at 86
                  refine g_aload_n hF d_X10_skipBlanks_101 rfl 2 rfl ?_
                  refine g_dup hF d_X10_skipBlanks_102 rfl ?_
                  refine g_get (v := .int (σ 2 3)) hF 3 obC_2 (by decide) m_45 rfl d_X10_skipBlanks_103 ?_
                  refine g_iload_n hF d_X10_skipBlanks_106 rfl 1 rfl ?_
                  refine g_bipush hF (v := 10) d_X10_skipBlanks_107 (by decide) ?_
                  refine g_icmp_ne (yv := 10) hF 116 d_X10_skipBlanks_109 (by decide) rfl (by decide) (fun c43_109 => ?_) (fun c43_109 => ?_)
                  · -- taken at 109
                    refine g_iconst hF (v := 0) d_X10_skipBlanks_116 (by decide) ?_
                    refine g_iadd hF d_X10_skipBlanks_117 ?_
                    refine g_put (v := ((σ 2 3) + 0)) hF 3 obC_2 (by decide) m_45 rfl rfl rfl d_X10_skipBlanks_118 ?_
                    have kp : Keep [(2, 2), (2, 3), (2, 4)] [13, 14, 15, 16] σ0 (upC σ 2 3 ((σ 2 3) + 0)) := keep_f kp (by decide)
                    refine g_aload_n hF d_X10_skipBlanks_121 rfl 2 rfl ?_
                    refine g_dup hF d_X10_skipBlanks_122 rfl ?_
                    refine g_get (v := .int (σ 2 2)) hF 2 obC_2 (by decide) m_44 rfl d_X10_skipBlanks_123 ?_
                    refine g_iconst hF (v := 1) d_X10_skipBlanks_126 (by decide) ?_
                    refine g_iadd hF d_X10_skipBlanks_127 ?_
                    refine g_put (v := ((σ 2 2) + 1)) hF 2 obC_2 (by decide) m_44 rfl rfl rfl d_X10_skipBlanks_128 ?_
                    have kp : Keep [(2, 2), (2, 3), (2, 4)] [13, 14, 15, 16] σ0 (upC (upC σ 2 3 ((σ 2 3) + 0)) 2 2 ((σ 2 2) + 1)) := keep_f kp (by decide)
                    have p44 : 0 ≤ ((σ 2 2) + 1).toInt ∧ ((σ 2 2) + 1).toInt ≤ 40000 := (by have e0 := s_rng (σ 2 2); have e1 := inv.2.2.2.2.1; have e2 : (1 : Int32).toInt = 1 := (by decide); obtain ⟨k3, e3⟩ := s_add (σ 2 2) (1 : Int32); have e3a := s_rng ((σ 2 2) + 1); have e5 := s_rng r2; have e6 : (47 : Int32).toInt = 47 := (by decide); have e7 := s_rng r28; have e8 : (42 : Int32).toInt = 42 := (by decide); have e9 : (9 : Int32).toInt = 9 := (by decide); have e10 : (10 : Int32).toInt = 10 := (by decide); omega)
                    refine g_goto hF 136 d_X10_skipBlanks_131 (by decide) ?_
                    refine g_iinc hF (x1 + 1) [(1, .int (x1 + 1)), (3, .int r28), (2, .int r2), (0, .ref (r 2))] d_X10_skipBlanks_136 3 rfl rfl hnn (by decide) rfl ?_
                    refine g_goto hF 2 d_X10_skipBlanks_139 (by decide) ?_
                    have j45 : Inv (upC (upC σ 2 3 ((σ 2 3) + 0)) 2 2 ((σ 2 2) + 1)) := ⟨inv.1, inv.2.1, inv.2.2.1, inv.2.2.2.1, p44, inv.2.2.2.2.2.1, inv.2.2.2.2.2.2.1, inv.2.2.2.2.2.2.2.1, inv.2.2.2.2.2.2.2.2.1, inv.2.2.2.2.2.2.2.2.2.1, inv.2.2.2.2.2.2.2.2.2.2.1, inv.2.2.2.2.2.2.2.2.2.2.2.1, inv.2.2.2.2.2.2.2.2.2.2.2.2.1, inv.2.2.2.2.2.2.2.2.2.2.2.2.2.1, inv.2.2.2.2.2.2.2.2.2.2.2.2.2.2.1, inv.2.2.2.2.2.2.2.2.2.2.2.2.2.2.2.1, inv.2.2.2.2.2.2.2.2.2.2.2.2.2.2.2.2.1, inv.2.2.2.2.2.2.2.2.2.2.2.2.2.2.2.2.2.1, inv.2.2.2.2.2.2.2.2.2.2.2.2.2.2.2.2.2.2.1, inv.2.2.2.2.2.2.2.2.2.2.2.2.2.2.2.2.2.2.2⟩
                    exact g_sub (L' := [(0, .ref (r 2)), (1, .int (x1 + 1))]) [3, 0] rfl (ih2 _ (by show upm (x1 + 1) < _; have hN := N2; unfold upm at hN ⊢; have e0 := s_rng x1; have e1 : (1 : Int32).toInt = 1 := (by decide); obtain ⟨k2, e2⟩ := s_add x1 (1 : Int32); have e2a := s_rng (x1 + 1); have e4 := s_rng (σ 2 1); have e5 := inv.2.2.2.2.2.2.2.2.1; omega) (upC (upC σ 2 3 ((σ 2 3) + 0)) 2 2 ((σ 2 2) + 1)) (x1 + 1) rfl j45 kp)
                  · -- not taken at 109
                    refine g_iconst hF (v := 1) d_X10_skipBlanks_112 (by decide) ?_
                    refine g_goto hF 117 d_X10_skipBlanks_113 (by decide) ?_
                    refine g_iadd hF d_X10_skipBlanks_117 ?_
                    refine g_put (v := ((σ 2 3) + 1)) hF 3 obC_2 (by decide) m_45 rfl rfl rfl d_X10_skipBlanks_118 ?_
                    have kp : Keep [(2, 2), (2, 3), (2, 4)] [13, 14, 15, 16] σ0 (upC σ 2 3 ((σ 2 3) + 1)) := keep_f kp (by decide)
                    refine g_aload_n hF d_X10_skipBlanks_121 rfl 2 rfl ?_
                    refine g_dup hF d_X10_skipBlanks_122 rfl ?_
                    refine g_get (v := .int (σ 2 2)) hF 2 obC_2 (by decide) m_44 rfl d_X10_skipBlanks_123 ?_
                    refine g_iconst hF (v := 1) d_X10_skipBlanks_126 (by decide) ?_
                    refine g_iadd hF d_X10_skipBlanks_127 ?_
                    refine g_put (v := ((σ 2 2) + 1)) hF 2 obC_2 (by decide) m_44 rfl rfl rfl d_X10_skipBlanks_128 ?_
                    have kp : Keep [(2, 2), (2, 3), (2, 4)] [13, 14, 15, 16] σ0 (upC (upC σ 2 3 ((σ 2 3) + 1)) 2 2 ((σ 2 2) + 1)) := keep_f kp (by decide)
                    have p46 : 0 ≤ ((σ 2 2) + 1).toInt ∧ ((σ 2 2) + 1).toInt ≤ 40000 := (by have e0 := s_rng (σ 2 2); have e1 := inv.2.2.2.2.1; have e2 : (1 : Int32).toInt = 1 := (by decide); obtain ⟨k3, e3⟩ := s_add (σ 2 2) (1 : Int32); have e3a := s_rng ((σ 2 2) + 1); have e5 := s_rng r2; have e6 : (47 : Int32).toInt = 47 := (by decide); have e7 := s_rng r28; have e8 : (42 : Int32).toInt = 42 := (by decide); have e9 : (9 : Int32).toInt = 9 := (by decide); have e10 : (10 : Int32).toInt = 10 := (by decide); omega)
                    refine g_goto hF 136 d_X10_skipBlanks_131 (by decide) ?_
                    refine g_iinc hF (x1 + 1) [(1, .int (x1 + 1)), (3, .int r28), (2, .int r2), (0, .ref (r 2))] d_X10_skipBlanks_136 3 rfl rfl hnn (by decide) rfl ?_
                    refine g_goto hF 2 d_X10_skipBlanks_139 (by decide) ?_
                    have j47 : Inv (upC (upC σ 2 3 ((σ 2 3) + 1)) 2 2 ((σ 2 2) + 1)) := ⟨inv.1, inv.2.1, inv.2.2.1, inv.2.2.2.1, p46, inv.2.2.2.2.2.1, inv.2.2.2.2.2.2.1, inv.2.2.2.2.2.2.2.1, inv.2.2.2.2.2.2.2.2.1, inv.2.2.2.2.2.2.2.2.2.1, inv.2.2.2.2.2.2.2.2.2.2.1, inv.2.2.2.2.2.2.2.2.2.2.2.1, inv.2.2.2.2.2.2.2.2.2.2.2.2.1, inv.2.2.2.2.2.2.2.2.2.2.2.2.2.1, inv.2.2.2.2.2.2.2.2.2.2.2.2.2.2.1, inv.2.2.2.2.2.2.2.2.2.2.2.2.2.2.2.1, inv.2.2.2.2.2.2.2.2.2.2.2.2.2.2.2.2.1, inv.2.2.2.2.2.2.2.2.2.2.2.2.2.2.2.2.2.1, inv.2.2.2.2.2.2.2.2.2.2.2.2.2.2.2.2.2.2.1, inv.2.2.2.2.2.2.2.2.2.2.2.2.2.2.2.2.2.2.2⟩
                    exact g_sub (L' := [(0, .ref (r 2)), (1, .int (x1 + 1))]) [3, 0] rfl (ih2 _ (by show upm (x1 + 1) < _; have hN := N2; unfold upm at hN ⊢; have e0 := s_rng x1; have e1 : (1 : Int32).toInt = 1 := (by decide); obtain ⟨k2, e2⟩ := s_add x1 (1 : Int32); have e2a := s_rng (x1 + 1); have e4 := s_rng (σ 2 1); have e5 := inv.2.2.2.2.2.2.2.2.1; omega) (upC (upC σ 2 3 ((σ 2 3) + 1)) 2 2 ((σ 2 2) + 1)) (x1 + 1) rfl j47 kp)
                · -- not taken at 86
                  refine g_iload_n hF d_X10_skipBlanks_89 rfl 1 rfl ?_
                  refine g_bipush hF (v := 13) d_X10_skipBlanks_90 (by decide) ?_
                  refine g_icmp_eq (yv := 13) hF 101 d_X10_skipBlanks_92 (by decide) rfl (by decide) (fun c48_92 => ?_) (fun c48_92 => ?_)
                  · -- taken at 92
                    refine g_aload_n hF d_X10_skipBlanks_101 rfl 2 rfl ?_
                    refine g_dup hF d_X10_skipBlanks_102 rfl ?_
                    refine g_get (v := .int (σ 2 3)) hF 3 obC_2 (by decide) m_45 rfl d_X10_skipBlanks_103 ?_
                    refine g_iload_n hF d_X10_skipBlanks_106 rfl 1 rfl ?_
                    refine g_bipush hF (v := 10) d_X10_skipBlanks_107 (by decide) ?_
                    refine g_icmp_ne (yv := 10) hF 116 d_X10_skipBlanks_109 (by decide) rfl (by decide) (fun c49_109 => ?_) (fun c49_109 => ?_)
                    · -- taken at 109
                      refine g_iconst hF (v := 0) d_X10_skipBlanks_116 (by decide) ?_
                      refine g_iadd hF d_X10_skipBlanks_117 ?_
                      refine g_put (v := ((σ 2 3) + 0)) hF 3 obC_2 (by decide) m_45 rfl rfl rfl d_X10_skipBlanks_118 ?_
                      have kp : Keep [(2, 2), (2, 3), (2, 4)] [13, 14, 15, 16] σ0 (upC σ 2 3 ((σ 2 3) + 0)) := keep_f kp (by decide)
                      refine g_aload_n hF d_X10_skipBlanks_121 rfl 2 rfl ?_
                      refine g_dup hF d_X10_skipBlanks_122 rfl ?_
                      refine g_get (v := .int (σ 2 2)) hF 2 obC_2 (by decide) m_44 rfl d_X10_skipBlanks_123 ?_
                      refine g_iconst hF (v := 1) d_X10_skipBlanks_126 (by decide) ?_
                      refine g_iadd hF d_X10_skipBlanks_127 ?_
                      refine g_put (v := ((σ 2 2) + 1)) hF 2 obC_2 (by decide) m_44 rfl rfl rfl d_X10_skipBlanks_128 ?_
                      have kp : Keep [(2, 2), (2, 3), (2, 4)] [13, 14, 15, 16] σ0 (upC (upC σ 2 3 ((σ 2 3) + 0)) 2 2 ((σ 2 2) + 1)) := keep_f kp (by decide)
                      have p50 : 0 ≤ ((σ 2 2) + 1).toInt ∧ ((σ 2 2) + 1).toInt ≤ 40000 := (by have e0 := s_rng (σ 2 2); have e1 := inv.2.2.2.2.1; have e2 : (1 : Int32).toInt = 1 := (by decide); obtain ⟨k3, e3⟩ := s_add (σ 2 2) (1 : Int32); have e3a := s_rng ((σ 2 2) + 1); have e5 := s_rng r2; have e6 : (47 : Int32).toInt = 47 := (by decide); have e7 := s_rng r28; have e8 : (42 : Int32).toInt = 42 := (by decide); have e9 : (9 : Int32).toInt = 9 := (by decide); have e10 : (10 : Int32).toInt = 10 := (by decide); have e11 : (13 : Int32).toInt = 13 := (by decide); omega)
                      refine g_goto hF 136 d_X10_skipBlanks_131 (by decide) ?_
                      refine g_iinc hF (x1 + 1) [(1, .int (x1 + 1)), (3, .int r28), (2, .int r2), (0, .ref (r 2))] d_X10_skipBlanks_136 3 rfl rfl hnn (by decide) rfl ?_
                      refine g_goto hF 2 d_X10_skipBlanks_139 (by decide) ?_
                      have j51 : Inv (upC (upC σ 2 3 ((σ 2 3) + 0)) 2 2 ((σ 2 2) + 1)) := ⟨inv.1, inv.2.1, inv.2.2.1, inv.2.2.2.1, p50, inv.2.2.2.2.2.1, inv.2.2.2.2.2.2.1, inv.2.2.2.2.2.2.2.1, inv.2.2.2.2.2.2.2.2.1, inv.2.2.2.2.2.2.2.2.2.1, inv.2.2.2.2.2.2.2.2.2.2.1, inv.2.2.2.2.2.2.2.2.2.2.2.1, inv.2.2.2.2.2.2.2.2.2.2.2.2.1, inv.2.2.2.2.2.2.2.2.2.2.2.2.2.1, inv.2.2.2.2.2.2.2.2.2.2.2.2.2.2.1, inv.2.2.2.2.2.2.2.2.2.2.2.2.2.2.2.1, inv.2.2.2.2.2.2.2.2.2.2.2.2.2.2.2.2.1, inv.2.2.2.2.2.2.2.2.2.2.2.2.2.2.2.2.2.1, inv.2.2.2.2.2.2.2.2.2.2.2.2.2.2.2.2.2.2.1, inv.2.2.2.2.2.2.2.2.2.2.2.2.2.2.2.2.2.2.2⟩
                      exact g_sub (L' := [(0, .ref (r 2)), (1, .int (x1 + 1))]) [3, 0] rfl (ih2 _ (by show upm (x1 + 1) < _; have hN := N2; unfold upm at hN ⊢; have e0 := s_rng x1; have e1 : (1 : Int32).toInt = 1 := (by decide); obtain ⟨k2, e2⟩ := s_add x1 (1 : Int32); have e2a := s_rng (x1 + 1); have e4 := s_rng (σ 2 1); have e5 := inv.2.2.2.2.2.2.2.2.1; omega) (upC (upC σ 2 3 ((σ 2 3) + 0)) 2 2 ((σ 2 2) + 1)) (x1 + 1) rfl j51 kp)
                    · -- not taken at 109
                      refine g_iconst hF (v := 1) d_X10_skipBlanks_112 (by decide) ?_
                      refine g_goto hF 117 d_X10_skipBlanks_113 (by decide) ?_
                      refine g_iadd hF d_X10_skipBlanks_117 ?_
                      refine g_put (v := ((σ 2 3) + 1)) hF 3 obC_2 (by decide) m_45 rfl rfl rfl d_X10_skipBlanks_118 ?_
                      have kp : Keep [(2, 2), (2, 3), (2, 4)] [13, 14, 15, 16] σ0 (upC σ 2 3 ((σ 2 3) + 1)) := keep_f kp (by decide)
                      refine g_aload_n hF d_X10_skipBlanks_121 rfl 2 rfl ?_
                      refine g_dup hF d_X10_skipBlanks_122 rfl ?_
                      refine g_get (v := .int (σ 2 2)) hF 2 obC_2 (by decide) m_44 rfl d_X10_skipBlanks_123 ?_
                      refine g_iconst hF (v := 1) d_X10_skipBlanks_126 (by decide) ?_
                      refine g_iadd hF d_X10_skipBlanks_127 ?_
                      refine g_put (v := ((σ 2 2) + 1)) hF 2 obC_2 (by decide) m_44 rfl rfl rfl d_X10_skipBlanks_128 ?_
                      have kp : Keep [(2, 2), (2, 3), (2, 4)] [13, 14, 15, 16] σ0 (upC (upC σ 2 3 ((σ 2 3) + 1)) 2 2 ((σ 2 2) + 1)) := keep_f kp (by decide)
                      have p52 : 0 ≤ ((σ 2 2) + 1).toInt ∧ ((σ 2 2) + 1).toInt ≤ 40000 := (by have e0 := s_rng (σ 2 2); have e1 := inv.2.2.2.2.1; have e2 : (1 : Int32).toInt = 1 := (by decide); obtain ⟨k3, e3⟩ := s_add (σ 2 2) (1 : Int32); have e3a := s_rng ((σ 2 2) + 1); have e5 := s_rng r2; have e6 : (47 : Int32).toInt = 47 := (by decide); have e7 := s_rng r28; have e8 : (42 : Int32).toInt = 42 := (by decide); have e9 : (9 : Int32).toInt = 9 := (by decide); have e10 : (10 : Int32).toInt = 10 := (by decide); have e11 : (13 : Int32).toInt = 13 := (by decide); omega)
                      refine g_goto hF 136 d_X10_skipBlanks_131 (by decide) ?_
                      refine g_iinc hF (x1 + 1) [(1, .int (x1 + 1)), (3, .int r28), (2, .int r2), (0, .ref (r 2))] d_X10_skipBlanks_136 3 rfl rfl hnn (by decide) rfl ?_
                      refine g_goto hF 2 d_X10_skipBlanks_139 (by decide) ?_
                      have j53 : Inv (upC (upC σ 2 3 ((σ 2 3) + 1)) 2 2 ((σ 2 2) + 1)) := ⟨inv.1, inv.2.1, inv.2.2.1, inv.2.2.2.1, p52, inv.2.2.2.2.2.1, inv.2.2.2.2.2.2.1, inv.2.2.2.2.2.2.2.1, inv.2.2.2.2.2.2.2.2.1, inv.2.2.2.2.2.2.2.2.2.1, inv.2.2.2.2.2.2.2.2.2.2.1, inv.2.2.2.2.2.2.2.2.2.2.2.1, inv.2.2.2.2.2.2.2.2.2.2.2.2.1, inv.2.2.2.2.2.2.2.2.2.2.2.2.2.1, inv.2.2.2.2.2.2.2.2.2.2.2.2.2.2.1, inv.2.2.2.2.2.2.2.2.2.2.2.2.2.2.2.1, inv.2.2.2.2.2.2.2.2.2.2.2.2.2.2.2.2.1, inv.2.2.2.2.2.2.2.2.2.2.2.2.2.2.2.2.2.1, inv.2.2.2.2.2.2.2.2.2.2.2.2.2.2.2.2.2.2.1, inv.2.2.2.2.2.2.2.2.2.2.2.2.2.2.2.2.2.2.2⟩
                      exact g_sub (L' := [(0, .ref (r 2)), (1, .int (x1 + 1))]) [3, 0] rfl (ih2 _ (by show upm (x1 + 1) < _; have hN := N2; unfold upm at hN ⊢; have e0 := s_rng x1; have e1 : (1 : Int32).toInt = 1 := (by decide); obtain ⟨k2, e2⟩ := s_add x1 (1 : Int32); have e2a := s_rng (x1 + 1); have e4 := s_rng (σ 2 1); have e5 := inv.2.2.2.2.2.2.2.2.1; omega) (upC (upC σ 2 3 ((σ 2 3) + 1)) 2 2 ((σ 2 2) + 1)) (x1 + 1) rfl j53 kp)
                  · -- not taken at 92
                    refine g_iload_n hF d_X10_skipBlanks_95 rfl 1 rfl ?_
                    refine g_bipush hF (v := 32) d_X10_skipBlanks_96 (by decide) ?_
                    refine g_icmp_ne (yv := 32) hF 134 d_X10_skipBlanks_98 (by decide) rfl (by decide) (fun c54_98 => ?_) (fun c54_98 => ?_)
                    · -- taken at 98
                      refine g_iconst hF (v := 1) d_X10_skipBlanks_134 (by decide) ?_
                      exact g_zret hF rfl (k_nz (Or.inr rfl)) d_X10_skipBlanks_135 ⟨rfl, rfl, (1 : Int32), rfl, (Or.inr rfl), ⟨inv, kp⟩⟩
                    · -- not taken at 98
                      refine g_aload_n hF d_X10_skipBlanks_101 rfl 2 rfl ?_
                      refine g_dup hF d_X10_skipBlanks_102 rfl ?_
                      refine g_get (v := .int (σ 2 3)) hF 3 obC_2 (by decide) m_45 rfl d_X10_skipBlanks_103 ?_
                      refine g_iload_n hF d_X10_skipBlanks_106 rfl 1 rfl ?_
                      refine g_bipush hF (v := 10) d_X10_skipBlanks_107 (by decide) ?_
                      refine g_icmp_ne (yv := 10) hF 116 d_X10_skipBlanks_109 (by decide) rfl (by decide) (fun c55_109 => ?_) (fun c55_109 => ?_)
                      · -- taken at 109
                        refine g_iconst hF (v := 0) d_X10_skipBlanks_116 (by decide) ?_
                        refine g_iadd hF d_X10_skipBlanks_117 ?_
                        refine g_put (v := ((σ 2 3) + 0)) hF 3 obC_2 (by decide) m_45 rfl rfl rfl d_X10_skipBlanks_118 ?_
                        have kp : Keep [(2, 2), (2, 3), (2, 4)] [13, 14, 15, 16] σ0 (upC σ 2 3 ((σ 2 3) + 0)) := keep_f kp (by decide)
                        refine g_aload_n hF d_X10_skipBlanks_121 rfl 2 rfl ?_
                        refine g_dup hF d_X10_skipBlanks_122 rfl ?_
                        refine g_get (v := .int (σ 2 2)) hF 2 obC_2 (by decide) m_44 rfl d_X10_skipBlanks_123 ?_
                        refine g_iconst hF (v := 1) d_X10_skipBlanks_126 (by decide) ?_
                        refine g_iadd hF d_X10_skipBlanks_127 ?_
                        refine g_put (v := ((σ 2 2) + 1)) hF 2 obC_2 (by decide) m_44 rfl rfl rfl d_X10_skipBlanks_128 ?_
                        have kp : Keep [(2, 2), (2, 3), (2, 4)] [13, 14, 15, 16] σ0 (upC (upC σ 2 3 ((σ 2 3) + 0)) 2 2 ((σ 2 2) + 1)) := keep_f kp (by decide)
                        have p56 : 0 ≤ ((σ 2 2) + 1).toInt ∧ ((σ 2 2) + 1).toInt ≤ 40000 := (by have e0 := s_rng (σ 2 2); have e1 := inv.2.2.2.2.1; have e2 : (1 : Int32).toInt = 1 := (by decide); obtain ⟨k3, e3⟩ := s_add (σ 2 2) (1 : Int32); have e3a := s_rng ((σ 2 2) + 1); have e5 := s_rng r2; have e6 : (47 : Int32).toInt = 47 := (by decide); have e7 := s_rng r28; have e8 : (42 : Int32).toInt = 42 := (by decide); have e9 : (9 : Int32).toInt = 9 := (by decide); have e10 : (10 : Int32).toInt = 10 := (by decide); have e11 : (13 : Int32).toInt = 13 := (by decide); have e12 : (32 : Int32).toInt = 32 := (by decide); omega)
                        refine g_goto hF 136 d_X10_skipBlanks_131 (by decide) ?_
                        refine g_iinc hF (x1 + 1) [(1, .int (x1 + 1)), (3, .int r28), (2, .int r2), (0, .ref (r 2))] d_X10_skipBlanks_136 3 rfl rfl hnn (by decide) rfl ?_
                        refine g_goto hF 2 d_X10_skipBlanks_139 (by decide) ?_
                        have j57 : Inv (upC (upC σ 2 3 ((σ 2 3) + 0)) 2 2 ((σ 2 2) + 1)) := ⟨inv.1, inv.2.1, inv.2.2.1, inv.2.2.2.1, p56, inv.2.2.2.2.2.1, inv.2.2.2.2.2.2.1, inv.2.2.2.2.2.2.2.1, inv.2.2.2.2.2.2.2.2.1, inv.2.2.2.2.2.2.2.2.2.1, inv.2.2.2.2.2.2.2.2.2.2.1, inv.2.2.2.2.2.2.2.2.2.2.2.1, inv.2.2.2.2.2.2.2.2.2.2.2.2.1, inv.2.2.2.2.2.2.2.2.2.2.2.2.2.1, inv.2.2.2.2.2.2.2.2.2.2.2.2.2.2.1, inv.2.2.2.2.2.2.2.2.2.2.2.2.2.2.2.1, inv.2.2.2.2.2.2.2.2.2.2.2.2.2.2.2.2.1, inv.2.2.2.2.2.2.2.2.2.2.2.2.2.2.2.2.2.1, inv.2.2.2.2.2.2.2.2.2.2.2.2.2.2.2.2.2.2.1, inv.2.2.2.2.2.2.2.2.2.2.2.2.2.2.2.2.2.2.2⟩
                        exact g_sub (L' := [(0, .ref (r 2)), (1, .int (x1 + 1))]) [3, 0] rfl (ih2 _ (by show upm (x1 + 1) < _; have hN := N2; unfold upm at hN ⊢; have e0 := s_rng x1; have e1 : (1 : Int32).toInt = 1 := (by decide); obtain ⟨k2, e2⟩ := s_add x1 (1 : Int32); have e2a := s_rng (x1 + 1); have e4 := s_rng (σ 2 1); have e5 := inv.2.2.2.2.2.2.2.2.1; omega) (upC (upC σ 2 3 ((σ 2 3) + 0)) 2 2 ((σ 2 2) + 1)) (x1 + 1) rfl j57 kp)
                      · -- not taken at 109
                        refine g_iconst hF (v := 1) d_X10_skipBlanks_112 (by decide) ?_
                        refine g_goto hF 117 d_X10_skipBlanks_113 (by decide) ?_
                        refine g_iadd hF d_X10_skipBlanks_117 ?_
                        refine g_put (v := ((σ 2 3) + 1)) hF 3 obC_2 (by decide) m_45 rfl rfl rfl d_X10_skipBlanks_118 ?_
                        have kp : Keep [(2, 2), (2, 3), (2, 4)] [13, 14, 15, 16] σ0 (upC σ 2 3 ((σ 2 3) + 1)) := keep_f kp (by decide)
                        refine g_aload_n hF d_X10_skipBlanks_121 rfl 2 rfl ?_
                        refine g_dup hF d_X10_skipBlanks_122 rfl ?_
                        refine g_get (v := .int (σ 2 2)) hF 2 obC_2 (by decide) m_44 rfl d_X10_skipBlanks_123 ?_
                        refine g_iconst hF (v := 1) d_X10_skipBlanks_126 (by decide) ?_
                        refine g_iadd hF d_X10_skipBlanks_127 ?_
                        refine g_put (v := ((σ 2 2) + 1)) hF 2 obC_2 (by decide) m_44 rfl rfl rfl d_X10_skipBlanks_128 ?_
                        have kp : Keep [(2, 2), (2, 3), (2, 4)] [13, 14, 15, 16] σ0 (upC (upC σ 2 3 ((σ 2 3) + 1)) 2 2 ((σ 2 2) + 1)) := keep_f kp (by decide)
                        have p58 : 0 ≤ ((σ 2 2) + 1).toInt ∧ ((σ 2 2) + 1).toInt ≤ 40000 := (by have e0 := s_rng (σ 2 2); have e1 := inv.2.2.2.2.1; have e2 : (1 : Int32).toInt = 1 := (by decide); obtain ⟨k3, e3⟩ := s_add (σ 2 2) (1 : Int32); have e3a := s_rng ((σ 2 2) + 1); have e5 := s_rng r2; have e6 : (47 : Int32).toInt = 47 := (by decide); have e7 := s_rng r28; have e8 : (42 : Int32).toInt = 42 := (by decide); have e9 : (9 : Int32).toInt = 9 := (by decide); have e10 : (10 : Int32).toInt = 10 := (by decide); have e11 : (13 : Int32).toInt = 13 := (by decide); have e12 : (32 : Int32).toInt = 32 := (by decide); omega)
                        refine g_goto hF 136 d_X10_skipBlanks_131 (by decide) ?_
                        refine g_iinc hF (x1 + 1) [(1, .int (x1 + 1)), (3, .int r28), (2, .int r2), (0, .ref (r 2))] d_X10_skipBlanks_136 3 rfl rfl hnn (by decide) rfl ?_
                        refine g_goto hF 2 d_X10_skipBlanks_139 (by decide) ?_
                        have j59 : Inv (upC (upC σ 2 3 ((σ 2 3) + 1)) 2 2 ((σ 2 2) + 1)) := ⟨inv.1, inv.2.1, inv.2.2.1, inv.2.2.2.1, p58, inv.2.2.2.2.2.1, inv.2.2.2.2.2.2.1, inv.2.2.2.2.2.2.2.1, inv.2.2.2.2.2.2.2.2.1, inv.2.2.2.2.2.2.2.2.2.1, inv.2.2.2.2.2.2.2.2.2.2.1, inv.2.2.2.2.2.2.2.2.2.2.2.1, inv.2.2.2.2.2.2.2.2.2.2.2.2.1, inv.2.2.2.2.2.2.2.2.2.2.2.2.2.1, inv.2.2.2.2.2.2.2.2.2.2.2.2.2.2.1, inv.2.2.2.2.2.2.2.2.2.2.2.2.2.2.2.1, inv.2.2.2.2.2.2.2.2.2.2.2.2.2.2.2.2.1, inv.2.2.2.2.2.2.2.2.2.2.2.2.2.2.2.2.2.1, inv.2.2.2.2.2.2.2.2.2.2.2.2.2.2.2.2.2.2.1, inv.2.2.2.2.2.2.2.2.2.2.2.2.2.2.2.2.2.2.2⟩
                        exact g_sub (L' := [(0, .ref (r 2)), (1, .int (x1 + 1))]) [3, 0] rfl (ih2 _ (by show upm (x1 + 1) < _; have hN := N2; unfold upm at hN ⊢; have e0 := s_rng x1; have e1 : (1 : Int32).toInt = 1 := (by decide); obtain ⟨k2, e2⟩ := s_add x1 (1 : Int32); have e2a := s_rng (x1 + 1); have e4 := s_rng (σ 2 1); have e5 := inv.2.2.2.2.2.2.2.2.1; omega) (upC (upC σ 2 3 ((σ 2 3) + 1)) 2 2 ((σ 2 2) + 1)) (x1 + 1) rfl j59 kp)
            · -- not taken at 49
              refine g_iload_n hF d_X10_skipBlanks_52 rfl 0 rfl ?_
              refine g_bipush hF (v := 47) d_X10_skipBlanks_53 (by decide) ?_
              refine g_icmp_ne (yv := 47) hF 68 d_X10_skipBlanks_55 (by decide) rfl (by decide) (fun c60_55 => ?_) (fun c60_55 => ?_)
              · -- taken at 55
                refine g_aload_n hF d_X10_skipBlanks_68 rfl 2 rfl ?_
                refine g_callV (As := []) (rest := []) hF (c_X10_skipComment a g r σ inv) (Nat.le_of_ble_eq_true rfl) mV_X10_skipComment m_825 (recv_ob obC_2) rfl rfl (Nat.le_of_ble_eq_true rfl) d_X10_skipBlanks_69 (k_i (fun r61 σ61 ⟨hz61, iσ61, ik61⟩ => ?_)) (fun _ _ _ h => h.elim)
                have kp : Keep [(2, 2), (2, 3), (2, 4)] [13, 14, 15, 16] σ0 σ61 := keep_c kp ik61 (by decide) (by decide)
                refine g_if_ne hF 136 d_X10_skipBlanks_72 (by decide) rfl (fun c62_72 => ?_) (fun c62_72 => ?_)
                · -- taken at 72
                  refine g_iinc hF (x1 + 1) [(1, .int (x1 + 1)), (3, .int r28), (2, .int r2), (0, .ref (r 2))] d_X10_skipBlanks_136 3 rfl rfl hnn (by decide) rfl ?_
                  refine g_goto hF 2 d_X10_skipBlanks_139 (by decide) ?_
                  exact g_sub (L' := [(0, .ref (r 2)), (1, .int (x1 + 1))]) [3, 0] rfl (ih2 _ (by show upm (x1 + 1) < _; have hN := N2; unfold upm at hN ⊢; have e0 := s_rng x1; have e1 : (1 : Int32).toInt = 1 := (by decide); obtain ⟨k2, e2⟩ := s_add x1 (1 : Int32); have e2a := s_rng (x1 + 1); have e4 := s_rng (σ 2 1); have e5 := inv.2.2.2.2.2.2.2.2.1; omega) σ61 (x1 + 1) rfl iσ61 kp)
                · -- not taken at 72
                  refine g_iconst hF (v := 0) d_X10_skipBlanks_75 (by decide) ?_
                  exact g_zret hF rfl (k_nz (Or.inl rfl)) d_X10_skipBlanks_76 ⟨rfl, rfl, (0 : Int32), rfl, (Or.inl rfl), ⟨iσ61, kp⟩⟩
              · -- not taken at 55
                refine g_aload_n hF d_X10_skipBlanks_58 rfl 2 rfl ?_
                refine g_callV (As := []) (rest := []) hF (c_X10_skipLine a g r σ inv) (Nat.le_of_ble_eq_true rfl) mV_X10_skipLine m_810 (recv_ob obC_2) rfl rfl (Nat.le_of_ble_eq_true rfl) d_X10_skipBlanks_59 (k_i (fun r63 σ63 ⟨hz63, iσ63, ik63⟩ => ?_)) (fun _ _ _ h => h.elim)
                have kp : Keep [(2, 2), (2, 3), (2, 4)] [13, 14, 15, 16] σ0 σ63 := keep_c kp ik63 (by decide) (by decide)
                refine g_if_eq hF 75 d_X10_skipBlanks_62 (by decide) rfl (fun c64_62 => ?_) (fun c64_62 => ?_)
                · -- taken at 62
                  refine g_iconst hF (v := 0) d_X10_skipBlanks_75 (by decide) ?_
                  exact g_zret hF rfl (k_nz (Or.inl rfl)) d_X10_skipBlanks_76 ⟨rfl, rfl, (0 : Int32), rfl, (Or.inl rfl), ⟨iσ63, kp⟩⟩
                · -- not taken at 62
                  refine g_goto hF 136 d_X10_skipBlanks_65 (by decide) ?_
                  refine g_iinc hF (x1 + 1) [(1, .int (x1 + 1)), (3, .int r28), (2, .int r2), (0, .ref (r 2))] d_X10_skipBlanks_136 3 rfl rfl hnn (by decide) rfl ?_
                  refine g_goto hF 2 d_X10_skipBlanks_139 (by decide) ?_
                  exact g_sub (L' := [(0, .ref (r 2)), (1, .int (x1 + 1))]) [3, 0] rfl (ih2 _ (by show upm (x1 + 1) < _; have hN := N2; unfold upm at hN ⊢; have e0 := s_rng x1; have e1 : (1 : Int32).toInt = 1 := (by decide); obtain ⟨k2, e2⟩ := s_add x1 (1 : Int32); have e2a := s_rng (x1 + 1); have e4 := s_rng (σ 2 1); have e5 := inv.2.2.2.2.2.2.2.2.1; omega) σ63 (x1 + 1) rfl iσ63 kp)
  have kp : Keep [(2, 2), (2, 3), (2, 4)] [13, 14, 15, 16] σ0 σ0 := keep_rf
  refine g_iconst hF (v := 0) d_X10_skipBlanks_0 (by decide) ?_
  refine g_istore_n hF [(1, .int 0), (0, .ref (r 2))] d_X10_skipBlanks_1 rfl hnn (by decide) rfl ?_
  exact g_sub (L' := [(0, .ref (r 2)), (1, .int 0)]) [1, 0] rfl (b2 _ σ0 (0 : Int32) rfl i0 kp)
