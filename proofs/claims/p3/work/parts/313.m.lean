set_option maxHeartbeats 4000000 in
set_option maxRecDepth 100000 in
theorem c_X4_fill_r10_r62 (a : Nat → Nat) (g : Nat → Nat → Int32) (r : Nat → Nat) (σ0 : St) (i0 : Inv σ0) (l : Launch) (D : va_G) (cy : Nat → ClassId) : Ct l D cy SC r (EC a g) y_X4_fill (Cond.code y_X4_fill b_X4_fill 8 none) 1 [.ref (r 10), .ref (r 62)] σ0 Z0 [] (QV (fun σ9 => (Inv σ9 ∧ Keep [] [62] σ0 σ9))) QF := by
  refine Ct_of (EC_ok a g) (by decide) (Nat.le_of_ble_eq_true rfl) (by decide) (fun X hnn hF => ?_)
  show G SC r X σ0 Z0 [] [(0, .ref (r 10)), (1, .ref (r 62))] [] 0
  have b2 : ∀ (N : Nat) (σ : St) (x2 : Int32) , upm x2 = N → Inv σ → Keep [] [62] σ0 σ → G SC r X σ Z0 [] [(0, .ref (r 10)), (1, .ref (r 62)), (2, .int x2)] [] 2 := by
    intro M2
    induction M2 using Nat.strongRecOn with
    | _ M2 ih2 =>
      intro σ x2 N2 inv kp
      have b34 : ∀ (N : Nat) (σ : St) (x2 : Int32) (x3 : Int32) (x4 : Int32) , upm x4 = N → Inv σ → Keep [] [62] σ0 σ → upm (x2 + 1) < M2 → G SC r X σ Z0 [] [(0, .ref (r 10)), (1, .ref (r 62)), (2, .int x2), (3, .int x3), (4, .int x4)] [] 34 := by
        intro M34
        induction M34 using Nat.strongRecOn with
        | _ M34 ih34 =>
          intro σ x2 x3 x4 N34 inv kp gc2
          refine g_iload hF d_X4_fill_34 4 rfl ?_
          refine g_aload_n hF d_X4_fill_36 rfl 0 rfl ?_
          refine g_get (v := .ref (r 5)) hF 0 obC_10 (by decide) m_597 rfl d_X4_fill_37 ?_
          refine g_getN (v := .ref (r 35)) hF 15 obC_5 (by decide) nm_255 rfl d_X4_fill_40 ?_
          refine g_iload_n hF d_X4_fill_43 rfl 3 rfl ?_
          refine g_callSN (As := [.ref (r 35), .int x3]) (rest := [.int x4]) hF (c_at a g r σ arC_35 (by decide) x3) (Nat.le_of_ble_eq_true rfl) mS_X12_at nm_1552 rfl rfl (Nat.le_of_ble_eq_true rfl) d_X4_fill_44 (k_rop (fun r1 hr1 => ?_))
          refine g_icmp_ge hF 153 d_X4_fill_47 (by decide) rfl rfl (fun c2_47 => ?_) (fun c2_47 => ?_)
          · -- taken at 47
            refine g_iinc hF (x2 + 1) [(2, .int (x2 + 1)), (0, .ref (r 10)), (1, .ref (r 62)), (3, .int x3), (4, .int x4)] d_X4_fill_153 2 rfl rfl hnn (by decide) rfl ?_
            refine g_goto hF 2 d_X4_fill_156 (by decide) ?_
            exact g_sub (L' := [(0, .ref (r 10)), (1, .ref (r 62)), (2, .int (x2 + 1))]) [1, 2, 0] rfl (ih2 _ gc2 σ (x2 + 1) rfl inv kp)
          · -- not taken at 47
            refine g_aload_n hF d_X4_fill_50 rfl 0 rfl ?_
            refine g_get (v := .ref (r 5)) hF 0 obC_10 (by decide) m_597 rfl d_X4_fill_51 ?_
            refine g_getN (v := .ref (r 32)) hF 11 obC_5 (by decide) nm_246 rfl d_X4_fill_54 ?_
            refine g_iload hF d_X4_fill_57 4 rfl ?_
            refine g_callSN (As := [.ref (r 32), .int x4]) (rest := []) hF (c_at a g r σ arC_32 (by decide) x4) (Nat.le_of_ble_eq_true rfl) mS_X12_at nm_1552 rfl rfl (Nat.le_of_ble_eq_true rfl) d_X4_fill_59 (k_rop (fun r3 hr3 => ?_))
            refine g_istore hF [(5, .int r3), (0, .ref (r 10)), (1, .ref (r 62)), (2, .int x2), (3, .int x3), (4, .int x4)] d_X4_fill_62 hnn (by decide) rfl ?_
            refine g_iload hF d_X4_fill_64 0 rfl ?_
            refine g_bipush hF (v := (-2)) d_X4_fill_66 (by decide) ?_
            refine g_icmp_ne (yv := -2) hF 75 d_X4_fill_68 (by decide) rfl (by decide) (fun c4_68 => ?_) (fun c4_68 => ?_)
            · -- taken at 68
              refine g_iload hF d_X4_fill_75 0 rfl ?_
              refine g_iconst hF (v := (-1)) d_X4_fill_77 (by decide) ?_
              refine g_icmp_ne (yv := -1) hF 92 d_X4_fill_78 (by decide) rfl (by decide) (fun c5_78 => ?_) (fun c5_78 => ?_)
              · -- taken at 78
                refine g_aload_n hF d_X4_fill_92 rfl 1 rfl ?_
                refine g_get (v := .ref (r 59)) hF 10 obC_10 (by decide) m_611 rfl d_X4_fill_93 ?_
                refine g_iload hF d_X4_fill_96 0 rfl ?_
                refine g_callSN (As := [.ref (r 59), .int r3]) (rest := []) hF (c_at a g r σ arC_59 (by decide) r3) (Nat.le_of_ble_eq_true rfl) mS_X12_at nm_1552 rfl rfl (Nat.le_of_ble_eq_true rfl) d_X4_fill_98 (k_rop (fun r6 hr6 => ?_))
                refine g_istore hF [(6, .int r6), (5, .int r3), (0, .ref (r 10)), (1, .ref (r 62)), (2, .int x2), (3, .int x3), (4, .int x4)] d_X4_fill_101 hnn (by decide) rfl ?_
                refine g_aload_n hF d_X4_fill_103 rfl 2 rfl ?_
                refine g_get (v := .ref (r 58)) hF 9 obC_10 (by decide) m_609 rfl d_X4_fill_104 ?_
                refine g_iload_n hF d_X4_fill_107 rfl 5 rfl ?_
                refine g_callSN (As := [.ref (r 58), .int x3]) (rest := []) hF (c_at a g r σ arC_58 (by decide) x3) (Nat.le_of_ble_eq_true rfl) mS_X12_at nm_1552 rfl rfl (Nat.le_of_ble_eq_true rfl) d_X4_fill_108 (k_rop (fun r7 hr7 => ?_))
                refine g_aload_n hF d_X4_fill_111 rfl 2 rfl ?_
                refine g_get (v := .ref (r 5)) hF 0 obC_10 (by decide) m_597 rfl d_X4_fill_112 ?_
                refine g_getN (v := .ref (r 31)) hF 10 obC_5 (by decide) nm_244 rfl d_X4_fill_115 ?_
                refine g_iload hF d_X4_fill_118 6 rfl ?_
                refine g_callSN (As := [.ref (r 31), .int x4]) (rest := [.int r7]) hF (c_at a g r σ arC_31 (by decide) x4) (Nat.le_of_ble_eq_true rfl) mS_X12_at nm_1552 rfl rfl (Nat.le_of_ble_eq_true rfl) d_X4_fill_120 (k_rop (fun r8 hr8 => ?_))
                refine g_iadd hF d_X4_fill_123 ?_
                refine g_istore hF [(7, .int (r7 + r8)), (6, .int r6), (5, .int r3), (0, .ref (r 10)), (1, .ref (r 62)), (2, .int x2), (3, .int x3), (4, .int x4)] d_X4_fill_124 hnn (by decide) rfl ?_
                refine g_aload_n hF d_X4_fill_126 rfl 4 rfl ?_
                refine g_iload hF d_X4_fill_127 0 rfl ?_
                refine g_iload hF d_X4_fill_129 1 rfl ?_
                refine g_aload_n hF d_X4_fill_131 rfl 3 rfl ?_
                refine g_get (v := .ref (r 5)) hF 0 obC_10 (by decide) m_597 rfl d_X4_fill_132 ?_
                refine g_getN (v := .ref (r 33)) hF 12 obC_5 (by decide) nm_248 rfl d_X4_fill_135 ?_
                refine g_iload hF d_X4_fill_138 7 rfl ?_
                refine g_callSN (As := [.ref (r 33), .int x4]) (rest := [.int r6, .int (r7 + r8), .ref (r 62)]) hF (c_at a g r σ arC_33 (by decide) x4) (Nat.le_of_ble_eq_true rfl) mS_X12_at nm_1552 rfl rfl (Nat.le_of_ble_eq_true rfl) d_X4_fill_140 (k_rop (fun r9 hr9 => ?_))
                refine g_iadd hF d_X4_fill_143 ?_
                refine g_callSN (As := [.ref (r 62), .int (r7 + r8), .int (r6 + r9)]) (rest := []) hF (c_set a g r σ arC_62 (by decide) (r7 + r8) (r6 + r9)) (Nat.le_of_ble_eq_true rfl) mS_X12_set nm_1553 rfl rfl (Nat.le_of_ble_eq_true rfl) d_X4_fill_144 (k_v (fun σ10 ⟨g10, eσ10, hg10⟩ => ?_))
                subst eσ10
                have kp : Keep [] [62] σ0 (upF σ 62 g10) := keep_F kp (by decide)
                refine g_iinc hF (x4 + 1) [(4, .int (x4 + 1)), (7, .int (r7 + r8)), (6, .int r6), (5, .int r3), (0, .ref (r 10)), (1, .ref (r 62)), (2, .int x2), (3, .int x3)] d_X4_fill_147 7 rfl rfl hnn (by decide) rfl ?_
                refine g_goto hF 34 d_X4_fill_150 (by decide) ?_
                have j11 : Inv (upF σ 62 g10) := ⟨inv.1, inv.2.1, inv.2.2.1, inv.2.2.2.1, inv.2.2.2.2.1, inv.2.2.2.2.2.1, inv.2.2.2.2.2.2.1, inv.2.2.2.2.2.2.2.1, inv.2.2.2.2.2.2.2.2.1, inv.2.2.2.2.2.2.2.2.2.1, inv.2.2.2.2.2.2.2.2.2.2.1, inv.2.2.2.2.2.2.2.2.2.2.2.1, inv.2.2.2.2.2.2.2.2.2.2.2.2.1, inv.2.2.2.2.2.2.2.2.2.2.2.2.2.1, inv.2.2.2.2.2.2.2.2.2.2.2.2.2.2.1, inv.2.2.2.2.2.2.2.2.2.2.2.2.2.2.2.1, inv.2.2.2.2.2.2.2.2.2.2.2.2.2.2.2.2.1, inv.2.2.2.2.2.2.2.2.2.2.2.2.2.2.2.2.2.1, inv.2.2.2.2.2.2.2.2.2.2.2.2.2.2.2.2.2.2.1, inv.2.2.2.2.2.2.2.2.2.2.2.2.2.2.2.2.2.2.2⟩
                exact g_sub (L' := [(0, .ref (r 10)), (1, .ref (r 62)), (2, .int x2), (3, .int x3), (4, .int (x4 + 1))]) [4, 5, 6, 7, 0] rfl (ih34 _ (N34 ▸ upm_lt c2_47 (s_rng r1).2) (upF σ 62 g10) x2 x3 (x4 + 1) rfl j11 kp gc2)
              · -- not taken at 78
                refine g_aload_n hF d_X4_fill_81 rfl 1 rfl ?_
                refine g_get (v := .ref (r 58)) hF 9 obC_10 (by decide) m_609 rfl d_X4_fill_82 ?_
                refine g_iload_n hF d_X4_fill_85 rfl 4 rfl ?_
                refine g_callSN (As := [.ref (r 58), .int x3]) (rest := []) hF (c_at a g r σ arC_58 (by decide) x3) (Nat.le_of_ble_eq_true rfl) mS_X12_at nm_1552 rfl rfl (Nat.le_of_ble_eq_true rfl) d_X4_fill_86 (k_rop (fun r12 hr12 => ?_))
                refine g_goto hF 101 d_X4_fill_89 (by decide) ?_
                refine g_istore hF [(6, .int r12), (5, .int r3), (0, .ref (r 10)), (1, .ref (r 62)), (2, .int x2), (3, .int x3), (4, .int x4)] d_X4_fill_101 hnn (by decide) rfl ?_
                refine g_aload_n hF d_X4_fill_103 rfl 2 rfl ?_
                refine g_get (v := .ref (r 58)) hF 9 obC_10 (by decide) m_609 rfl d_X4_fill_104 ?_
                refine g_iload_n hF d_X4_fill_107 rfl 5 rfl ?_
                refine g_callSN (As := [.ref (r 58), .int x3]) (rest := []) hF (c_at a g r σ arC_58 (by decide) x3) (Nat.le_of_ble_eq_true rfl) mS_X12_at nm_1552 rfl rfl (Nat.le_of_ble_eq_true rfl) d_X4_fill_108 (k_rop (fun r13 hr13 => ?_))
                refine g_aload_n hF d_X4_fill_111 rfl 2 rfl ?_
                refine g_get (v := .ref (r 5)) hF 0 obC_10 (by decide) m_597 rfl d_X4_fill_112 ?_
                refine g_getN (v := .ref (r 31)) hF 10 obC_5 (by decide) nm_244 rfl d_X4_fill_115 ?_
                refine g_iload hF d_X4_fill_118 6 rfl ?_
                refine g_callSN (As := [.ref (r 31), .int x4]) (rest := [.int r13]) hF (c_at a g r σ arC_31 (by decide) x4) (Nat.le_of_ble_eq_true rfl) mS_X12_at nm_1552 rfl rfl (Nat.le_of_ble_eq_true rfl) d_X4_fill_120 (k_rop (fun r14 hr14 => ?_))
                refine g_iadd hF d_X4_fill_123 ?_
                refine g_istore hF [(7, .int (r13 + r14)), (6, .int r12), (5, .int r3), (0, .ref (r 10)), (1, .ref (r 62)), (2, .int x2), (3, .int x3), (4, .int x4)] d_X4_fill_124 hnn (by decide) rfl ?_
                refine g_aload_n hF d_X4_fill_126 rfl 4 rfl ?_
                refine g_iload hF d_X4_fill_127 0 rfl ?_
                refine g_iload hF d_X4_fill_129 1 rfl ?_
                refine g_aload_n hF d_X4_fill_131 rfl 3 rfl ?_
                refine g_get (v := .ref (r 5)) hF 0 obC_10 (by decide) m_597 rfl d_X4_fill_132 ?_
                refine g_getN (v := .ref (r 33)) hF 12 obC_5 (by decide) nm_248 rfl d_X4_fill_135 ?_
                refine g_iload hF d_X4_fill_138 7 rfl ?_
                refine g_callSN (As := [.ref (r 33), .int x4]) (rest := [.int r12, .int (r13 + r14), .ref (r 62)]) hF (c_at a g r σ arC_33 (by decide) x4) (Nat.le_of_ble_eq_true rfl) mS_X12_at nm_1552 rfl rfl (Nat.le_of_ble_eq_true rfl) d_X4_fill_140 (k_rop (fun r15 hr15 => ?_))
                refine g_iadd hF d_X4_fill_143 ?_
                refine g_callSN (As := [.ref (r 62), .int (r13 + r14), .int (r12 + r15)]) (rest := []) hF (c_set a g r σ arC_62 (by decide) (r13 + r14) (r12 + r15)) (Nat.le_of_ble_eq_true rfl) mS_X12_set nm_1553 rfl rfl (Nat.le_of_ble_eq_true rfl) d_X4_fill_144 (k_v (fun σ16 ⟨g16, eσ16, hg16⟩ => ?_))
                subst eσ16
                have kp : Keep [] [62] σ0 (upF σ 62 g16) := keep_F kp (by decide)
                refine g_iinc hF (x4 + 1) [(4, .int (x4 + 1)), (7, .int (r13 + r14)), (6, .int r12), (5, .int r3), (0, .ref (r 10)), (1, .ref (r 62)), (2, .int x2), (3, .int x3)] d_X4_fill_147 7 rfl rfl hnn (by decide) rfl ?_
                refine g_goto hF 34 d_X4_fill_150 (by decide) ?_
                have j17 : Inv (upF σ 62 g16) := ⟨inv.1, inv.2.1, inv.2.2.1, inv.2.2.2.1, inv.2.2.2.2.1, inv.2.2.2.2.2.1, inv.2.2.2.2.2.2.1, inv.2.2.2.2.2.2.2.1, inv.2.2.2.2.2.2.2.2.1, inv.2.2.2.2.2.2.2.2.2.1, inv.2.2.2.2.2.2.2.2.2.2.1, inv.2.2.2.2.2.2.2.2.2.2.2.1, inv.2.2.2.2.2.2.2.2.2.2.2.2.1, inv.2.2.2.2.2.2.2.2.2.2.2.2.2.1, inv.2.2.2.2.2.2.2.2.2.2.2.2.2.2.1, inv.2.2.2.2.2.2.2.2.2.2.2.2.2.2.2.1, inv.2.2.2.2.2.2.2.2.2.2.2.2.2.2.2.2.1, inv.2.2.2.2.2.2.2.2.2.2.2.2.2.2.2.2.2.1, inv.2.2.2.2.2.2.2.2.2.2.2.2.2.2.2.2.2.2.1, inv.2.2.2.2.2.2.2.2.2.2.2.2.2.2.2.2.2.2.2⟩
                exact g_sub (L' := [(0, .ref (r 10)), (1, .ref (r 62)), (2, .int x2), (3, .int x3), (4, .int (x4 + 1))]) [4, 5, 6, 7, 0] rfl (ih34 _ (N34 ▸ upm_lt c2_47 (s_rng r1).2) (upF σ 62 g16) x2 x3 (x4 + 1) rfl j17 kp gc2)
            · -- not taken at 68
              refine g_iconst hF (v := 0) d_X4_fill_71 (by decide) ?_
              refine g_goto hF 101 d_X4_fill_72 (by decide) ?_
              refine g_istore hF [(6, .int 0), (5, .int r3), (0, .ref (r 10)), (1, .ref (r 62)), (2, .int x2), (3, .int x3), (4, .int x4)] d_X4_fill_101 hnn (by decide) rfl ?_
              refine g_aload_n hF d_X4_fill_103 rfl 2 rfl ?_
              refine g_get (v := .ref (r 58)) hF 9 obC_10 (by decide) m_609 rfl d_X4_fill_104 ?_
              refine g_iload_n hF d_X4_fill_107 rfl 5 rfl ?_
              refine g_callSN (As := [.ref (r 58), .int x3]) (rest := []) hF (c_at a g r σ arC_58 (by decide) x3) (Nat.le_of_ble_eq_true rfl) mS_X12_at nm_1552 rfl rfl (Nat.le_of_ble_eq_true rfl) d_X4_fill_108 (k_rop (fun r18 hr18 => ?_))
              refine g_aload_n hF d_X4_fill_111 rfl 2 rfl ?_
              refine g_get (v := .ref (r 5)) hF 0 obC_10 (by decide) m_597 rfl d_X4_fill_112 ?_
              refine g_getN (v := .ref (r 31)) hF 10 obC_5 (by decide) nm_244 rfl d_X4_fill_115 ?_
              refine g_iload hF d_X4_fill_118 6 rfl ?_
              refine g_callSN (As := [.ref (r 31), .int x4]) (rest := [.int r18]) hF (c_at a g r σ arC_31 (by decide) x4) (Nat.le_of_ble_eq_true rfl) mS_X12_at nm_1552 rfl rfl (Nat.le_of_ble_eq_true rfl) d_X4_fill_120 (k_rop (fun r19 hr19 => ?_))
              refine g_iadd hF d_X4_fill_123 ?_
              refine g_istore hF [(7, .int (r18 + r19)), (6, .int 0), (5, .int r3), (0, .ref (r 10)), (1, .ref (r 62)), (2, .int x2), (3, .int x3), (4, .int x4)] d_X4_fill_124 hnn (by decide) rfl ?_
              refine g_aload_n hF d_X4_fill_126 rfl 4 rfl ?_
              refine g_iload hF d_X4_fill_127 0 rfl ?_
              refine g_iload hF d_X4_fill_129 1 rfl ?_
              refine g_aload_n hF d_X4_fill_131 rfl 3 rfl ?_
              refine g_get (v := .ref (r 5)) hF 0 obC_10 (by decide) m_597 rfl d_X4_fill_132 ?_
              refine g_getN (v := .ref (r 33)) hF 12 obC_5 (by decide) nm_248 rfl d_X4_fill_135 ?_
              refine g_iload hF d_X4_fill_138 7 rfl ?_
              refine g_callSN (As := [.ref (r 33), .int x4]) (rest := [.int 0, .int (r18 + r19), .ref (r 62)]) hF (c_at a g r σ arC_33 (by decide) x4) (Nat.le_of_ble_eq_true rfl) mS_X12_at nm_1552 rfl rfl (Nat.le_of_ble_eq_true rfl) d_X4_fill_140 (k_rop (fun r20 hr20 => ?_))
              refine g_iadd hF d_X4_fill_143 ?_
              refine g_callSN (As := [.ref (r 62), .int (r18 + r19), .int (0 + r20)]) (rest := []) hF (c_set a g r σ arC_62 (by decide) (r18 + r19) (0 + r20)) (Nat.le_of_ble_eq_true rfl) mS_X12_set nm_1553 rfl rfl (Nat.le_of_ble_eq_true rfl) d_X4_fill_144 (k_v (fun σ21 ⟨g21, eσ21, hg21⟩ => ?_))
              subst eσ21
              have kp : Keep [] [62] σ0 (upF σ 62 g21) := keep_F kp (by decide)
              refine g_iinc hF (x4 + 1) [(4, .int (x4 + 1)), (7, .int (r18 + r19)), (6, .int 0), (5, .int r3), (0, .ref (r 10)), (1, .ref (r 62)), (2, .int x2), (3, .int x3)] d_X4_fill_147 7 rfl rfl hnn (by decide) rfl ?_
              refine g_goto hF 34 d_X4_fill_150 (by decide) ?_
              have j22 : Inv (upF σ 62 g21) := ⟨inv.1, inv.2.1, inv.2.2.1, inv.2.2.2.1, inv.2.2.2.2.1, inv.2.2.2.2.2.1, inv.2.2.2.2.2.2.1, inv.2.2.2.2.2.2.2.1, inv.2.2.2.2.2.2.2.2.1, inv.2.2.2.2.2.2.2.2.2.1, inv.2.2.2.2.2.2.2.2.2.2.1, inv.2.2.2.2.2.2.2.2.2.2.2.1, inv.2.2.2.2.2.2.2.2.2.2.2.2.1, inv.2.2.2.2.2.2.2.2.2.2.2.2.2.1, inv.2.2.2.2.2.2.2.2.2.2.2.2.2.2.1, inv.2.2.2.2.2.2.2.2.2.2.2.2.2.2.2.1, inv.2.2.2.2.2.2.2.2.2.2.2.2.2.2.2.2.1, inv.2.2.2.2.2.2.2.2.2.2.2.2.2.2.2.2.2.1, inv.2.2.2.2.2.2.2.2.2.2.2.2.2.2.2.2.2.2.1, inv.2.2.2.2.2.2.2.2.2.2.2.2.2.2.2.2.2.2.2⟩
              exact g_sub (L' := [(0, .ref (r 10)), (1, .ref (r 62)), (2, .int x2), (3, .int x3), (4, .int (x4 + 1))]) [4, 5, 6, 7, 0] rfl (ih34 _ (N34 ▸ upm_lt c2_47 (s_rng r1).2) (upF σ 62 g21) x2 x3 (x4 + 1) rfl j22 kp gc2)
      refine g_iload_n hF d_X4_fill_2 rfl 2 rfl ?_
      refine g_aload_n hF d_X4_fill_3 rfl 0 rfl ?_
      refine g_get (v := .int (σ 10 7)) hF 7 obC_10 (by decide) m_607 rfl d_X4_fill_4 ?_
      refine g_icmp_ge hF 159 d_X4_fill_7 (by decide) rfl rfl (fun c23_7 => ?_) (fun c23_7 => ?_)
      · -- taken at 7
        exact g_vret hF rfl d_X4_fill_159 ⟨rfl, rfl, rfl, ⟨inv, kp⟩⟩
      · -- not taken at 7
        refine g_aload_n hF d_X4_fill_10 rfl 0 rfl ?_
        refine g_get (v := .ref (r 57)) hF 8 obC_10 (by decide) m_608 rfl d_X4_fill_11 ?_
        refine g_iload_n hF d_X4_fill_14 rfl 2 rfl ?_
        refine g_callSN (As := [.ref (r 57), .int x2]) (rest := []) hF (c_at a g r σ arC_57 (by decide) x2) (Nat.le_of_ble_eq_true rfl) mS_X12_at nm_1552 rfl rfl (Nat.le_of_ble_eq_true rfl) d_X4_fill_15 (k_rop (fun r24 hr24 => ?_))
        refine g_istore_n hF [(3, .int r24), (0, .ref (r 10)), (1, .ref (r 62)), (2, .int x2)] d_X4_fill_18 rfl hnn (by decide) rfl ?_
        refine g_aload_n hF d_X4_fill_19 rfl 1 rfl ?_
        refine g_get (v := .ref (r 5)) hF 0 obC_10 (by decide) m_597 rfl d_X4_fill_20 ?_
        refine g_getN (v := .ref (r 35)) hF 15 obC_5 (by decide) nm_255 rfl d_X4_fill_23 ?_
        refine g_iload_n hF d_X4_fill_26 rfl 0 rfl ?_
        refine g_iconst hF (v := 1) d_X4_fill_27 (by decide) ?_
        refine g_isub hF d_X4_fill_28 ?_
        refine g_callSN (As := [.ref (r 35), .int (r24 - 1)]) (rest := []) hF (c_at a g r σ arC_35 (by decide) (r24 - 1)) (Nat.le_of_ble_eq_true rfl) mS_X12_at nm_1552 rfl rfl (Nat.le_of_ble_eq_true rfl) d_X4_fill_29 (k_rop (fun r25 hr25 => ?_))
        refine g_istore hF [(4, .int r25), (3, .int r24), (0, .ref (r 10)), (1, .ref (r 62)), (2, .int x2)] d_X4_fill_32 hnn (by decide) rfl ?_
        exact g_sub (L' := [(0, .ref (r 10)), (1, .ref (r 62)), (2, .int x2), (3, .int r24), (4, .int r25)]) [2, 3, 4, 1, 0] rfl (b34 _ σ x2 r24 r25 rfl inv kp (N2 ▸ upm_lt c23_7 (s_rng (σ 10 7)).2))
  have kp : Keep [] [62] σ0 σ0 := keep_rf
  refine g_iconst hF (v := 1) d_X4_fill_0 (by decide) ?_
  refine g_istore_n hF [(2, .int 1), (0, .ref (r 10)), (1, .ref (r 62))] d_X4_fill_1 rfl hnn (by decide) rfl ?_
  exact g_sub (L' := [(0, .ref (r 10)), (1, .ref (r 62)), (2, .int 1)]) [1, 2, 0] rfl (b2 _ σ0 (1 : Int32) rfl i0 kp)
set_option maxHeartbeats 4000000 in
set_option maxRecDepth 100000 in
theorem c_X10_digits (a : Nat → Nat) (g : Nat → Nat → Int32) (r : Nat → Nat) (σ0 : St) (hpre : (σ0 2 2).toInt < 16000) (i0 : Inv σ0) (l : Launch) (D : va_G) (cy : Nat → ClassId) : Ct l D cy SC r (EC a g) y_X10_digits (Cond.code y_X10_digits b_X10_digits 5 (some .boolean)) 2 [.ref (r 2)] σ0 Z0 [] (QI (fun v9 σ9 => (v9 = 0 ∨ v9 = 1) ∧ (Inv σ9 ∧ Keep [(2, 2), (2, 4)] [13, 14, 15, 16] σ0 σ9))) QF := by
  refine Ct_of (EC_ok a g) (by decide) (Nat.le_of_ble_eq_true rfl) (by decide) (fun X hnn hF => ?_)
  show G SC r X σ0 Z0 [] [(0, .ref (r 2))] [] 0
  have b14 : ∀ (N : Nat) (σ : St) (x1 : Int64) (x3 : Int32) (x4 : Int32) , upm x3 = N → Inv σ → Keep [(2, 2), (2, 4)] [13, 14, 15, 16] σ0 σ → ((σ 2 2).toInt < 16000 ∧ 0 ≤ x3.toInt ∧ x3.toInt ≤ 16001) → G SC r X σ Z0 [] [(0, .ref (r 2)), (1, .long x1), (3, .int x3), (4, .int x4)] [] 14 := by
    intro M14
    induction M14 using Nat.strongRecOn with
    | _ M14 ih14 =>
      intro σ x1 x3 x4 N14 inv kp hj
      refine g_iload_n hF d_X10_digits_14 rfl 2 rfl ?_
      refine g_aload_n hF d_X10_digits_15 rfl 0 rfl ?_
      refine g_get (v := .int (σ 2 1)) hF 1 obC_2 (by decide) m_43 rfl d_X10_digits_16 ?_
      refine g_icmp_gt hF 69 d_X10_digits_19 (by decide) rfl rfl (fun c1_19 => ?_) (fun c1_19 => ?_)
      · -- taken at 19
        refine g_lload_n hF d_X10_digits_69 rfl 1 rfl ?_
        refine g_ldc2 (v := 2147483647) hF m_870 d_X10_digits_70 ?_
        refine g_lcmp hF d_X10_digits_73 ?_
        refine g_any (fun v2 => ?_)
        refine g_if_le hF 88 d_X10_digits_74 (by decide) rfl (fun c3_74 => ?_) (fun c3_74 => ?_)
        · -- taken at 74
          refine g_aload_n hF d_X10_digits_88 rfl 0 rfl ?_
          refine g_iconst hF (v := 3) d_X10_digits_89 (by decide) ?_
          refine g_lload_n hF d_X10_digits_90 rfl 1 rfl ?_
          refine g_l2i hF d_X10_digits_91 ?_
          refine g_any (fun v4 => ?_)
          refine g_iload_n hF d_X10_digits_92 rfl 2 rfl ?_
          refine g_callV (As := [.int 3, .int v4, .int x3]) (rest := []) hF (c_X10_add a g r σ (3 : Int32) v4 x3 (by show 0 ≤ (σ 2 2).toInt + x3.toInt ∧ (σ 2 2).toInt + x3.toInt ≤ 40000 ∧ (3 = 2 → 0 ≤ v4.toInt ∧ v4.toInt ≤ 16001); have e0 : (3 : Int32).toInt = 3 := (by decide); have e1 := s_rng v4; have e2 := s_rng x3; have e3 := s_rng (σ 2 2); have e4 := inv.2.2.2.2.1; have e5 := s_rng (σ0 2 2); have e6 := i0.2.2.2.2.1; have e7 := s_rng (σ 2 1); have e8 := inv.2.2.2.2.2.2.2.2.1; omega) inv) (Nat.le_of_ble_eq_true rfl) mV_X10_add m_821 (recv_ob obC_2) rfl rfl (Nat.le_of_ble_eq_true rfl) d_X10_digits_93 (k_i (fun r5 σ5 ⟨hz5, iσ5, ik5⟩ => ?_)) (fun _ _ _ h => h.elim)
          have kp : Keep [(2, 2), (2, 4)] [13, 14, 15, 16] σ0 σ5 := keep_c kp ik5 (by decide) (by decide)
          exact g_zret hF rfl (k_nz hz5) d_X10_digits_96 ⟨rfl, rfl, r5, rfl, hz5, ⟨iσ5, kp⟩⟩
        · -- not taken at 74
          refine g_aload_n hF d_X10_digits_77 rfl 0 rfl ?_
          refine g_aload_n hF d_X10_digits_78 rfl 0 rfl ?_
          refine g_get (v := .int (σ 2 2)) hF 2 obC_2 (by decide) m_44 rfl d_X10_digits_79 ?_
          refine g_callV (As := [.int (σ 2 2)]) (rest := []) hF (c_X10_bad a g r σ (σ 2 2) (by show 0 ≤ (σ 2 2).toInt ∧ (σ 2 2).toInt ≤ 40000; have e0 := s_rng (σ 2 2); have e1 := inv.2.2.2.2.1; omega) inv) (Nat.le_of_ble_eq_true rfl) mV_X10_bad m_817 (recv_ob obC_2) rfl rfl (Nat.le_of_ble_eq_true rfl) d_X10_digits_82 (k_i (fun r6 σ6 ⟨hz6, iσ6, ik6⟩ => ?_)) (fun _ _ _ h => h.elim)
          have kp : Keep [(2, 2), (2, 4)] [13, 14, 15, 16] σ0 σ6 := keep_c kp ik6 (by decide) (by decide)
          refine g_goto hF 96 d_X10_digits_85 (by decide) ?_
          exact g_zret hF rfl (k_nz hz6) d_X10_digits_96 ⟨rfl, rfl, r6, rfl, hz6, ⟨iσ6, kp⟩⟩
      · -- not taken at 19
        refine g_iload hF d_X10_digits_22 3 rfl ?_
        refine g_callS (As := [.int x4]) (rest := []) hF (c_X10_isDigit a g r σ x4 inv) (Nat.le_of_ble_eq_true rfl) mS_X10_isDigit m_840 rfl rfl (Nat.le_of_ble_eq_true rfl) d_X10_digits_24 (k_roz (fun r7 hz7 => ?_)) (fun _ _ _ h => h.elim)
        refine g_if_eq hF 69 d_X10_digits_27 (by decide) rfl (fun c8_27 => ?_) (fun c8_27 => ?_)
        · -- taken at 27
          refine g_lload_n hF d_X10_digits_69 rfl 1 rfl ?_
          refine g_ldc2 (v := 2147483647) hF m_870 d_X10_digits_70 ?_
          refine g_lcmp hF d_X10_digits_73 ?_
          refine g_any (fun v9 => ?_)
          refine g_if_le hF 88 d_X10_digits_74 (by decide) rfl (fun c10_74 => ?_) (fun c10_74 => ?_)
          · -- taken at 74
            refine g_aload_n hF d_X10_digits_88 rfl 0 rfl ?_
            refine g_iconst hF (v := 3) d_X10_digits_89 (by decide) ?_
            refine g_lload_n hF d_X10_digits_90 rfl 1 rfl ?_
            refine g_l2i hF d_X10_digits_91 ?_
            refine g_any (fun v11 => ?_)
            refine g_iload_n hF d_X10_digits_92 rfl 2 rfl ?_
            refine g_callV (As := [.int 3, .int v11, .int x3]) (rest := []) hF (c_X10_add a g r σ (3 : Int32) v11 x3 (by show 0 ≤ (σ 2 2).toInt + x3.toInt ∧ (σ 2 2).toInt + x3.toInt ≤ 40000 ∧ (3 = 2 → 0 ≤ v11.toInt ∧ v11.toInt ≤ 16001); have e0 : (3 : Int32).toInt = 3 := (by decide); have e1 := s_rng v11; have e2 := s_rng x3; have e3 := s_rng (σ 2 2); have e4 := inv.2.2.2.2.1; have e5 := s_rng (σ0 2 2); have e6 := i0.2.2.2.2.1; have e7 := s_rng (σ 2 1); have e8 := inv.2.2.2.2.2.2.2.2.1; omega) inv) (Nat.le_of_ble_eq_true rfl) mV_X10_add m_821 (recv_ob obC_2) rfl rfl (Nat.le_of_ble_eq_true rfl) d_X10_digits_93 (k_i (fun r12 σ12 ⟨hz12, iσ12, ik12⟩ => ?_)) (fun _ _ _ h => h.elim)
            have kp : Keep [(2, 2), (2, 4)] [13, 14, 15, 16] σ0 σ12 := keep_c kp ik12 (by decide) (by decide)
            exact g_zret hF rfl (k_nz hz12) d_X10_digits_96 ⟨rfl, rfl, r12, rfl, hz12, ⟨iσ12, kp⟩⟩
          · -- not taken at 74
            refine g_aload_n hF d_X10_digits_77 rfl 0 rfl ?_
            refine g_aload_n hF d_X10_digits_78 rfl 0 rfl ?_
            refine g_get (v := .int (σ 2 2)) hF 2 obC_2 (by decide) m_44 rfl d_X10_digits_79 ?_
            refine g_callV (As := [.int (σ 2 2)]) (rest := []) hF (c_X10_bad a g r σ (σ 2 2) (by show 0 ≤ (σ 2 2).toInt ∧ (σ 2 2).toInt ≤ 40000; have e0 := s_rng (σ 2 2); have e1 := inv.2.2.2.2.1; omega) inv) (Nat.le_of_ble_eq_true rfl) mV_X10_bad m_817 (recv_ob obC_2) rfl rfl (Nat.le_of_ble_eq_true rfl) d_X10_digits_82 (k_i (fun r13 σ13 ⟨hz13, iσ13, ik13⟩ => ?_)) (fun _ _ _ h => h.elim)
            have kp : Keep [(2, 2), (2, 4)] [13, 14, 15, 16] σ0 σ13 := keep_c kp ik13 (by decide) (by decide)
            refine g_goto hF 96 d_X10_digits_85 (by decide) ?_
            exact g_zret hF rfl (k_nz hz13) d_X10_digits_96 ⟨rfl, rfl, r13, rfl, hz13, ⟨iσ13, kp⟩⟩
        · -- not taken at 27
          refine g_lload_n hF d_X10_digits_30 rfl 1 rfl ?_
          refine g_ldc2 (v := 10) hF m_865 d_X10_digits_31 ?_
          refine g_lmul hF d_X10_digits_34 ?_
          refine g_anyl (fun w14 => ?_)
          refine g_iload hF d_X10_digits_35 3 rfl ?_
          refine g_bipush hF (v := 48) d_X10_digits_37 (by decide) ?_
          refine g_isub hF d_X10_digits_39 ?_
          refine g_i2l hF d_X10_digits_40 ?_
          refine g_anyl (fun w15 => ?_)
          refine g_ladd hF d_X10_digits_41 ?_
          refine g_anyl (fun w16 => ?_)
          refine g_ldc2 (v := 4294967296) hF m_866 d_X10_digits_42 ?_
          refine g_mmin_long hF (Nat.le_of_ble_eq_true rfl) m_867 m_868 m_23 m_869 (Nat.le_of_ble_eq_true rfl) d_X10_digits_45 ?_
          refine g_anyl (fun w18 => ?_)
          refine g_lstore_n hF [(1, .long w18), (0, .ref (r 2)), (3, .int x3), (4, .int x4)] d_X10_digits_48 rfl hnn (by decide) rfl ?_
          refine g_aload_n hF d_X10_digits_49 rfl 1 rfl ?_
          refine g_aload_n hF d_X10_digits_50 rfl 1 rfl ?_
          refine g_get (v := .int (σ 2 2)) hF 2 obC_2 (by decide) m_44 rfl d_X10_digits_51 ?_
          refine g_iload_n hF d_X10_digits_54 rfl 2 rfl ?_
          refine g_iadd hF d_X10_digits_55 ?_
          refine g_iconst hF (v := 1) d_X10_digits_56 (by decide) ?_
          refine g_iadd hF d_X10_digits_57 ?_
          refine g_callV (As := [.int (((σ 2 2) + x3) + 1)]) (rest := []) hF (c_X10_byteAt a g r σ (((σ 2 2) + x3) + 1) inv) (Nat.le_of_ble_eq_true rfl) mV_X10_byteAt m_806 (recv_ob obC_2) rfl rfl (Nat.le_of_ble_eq_true rfl) d_X10_digits_58 (k_rop (fun r19 hp19 => ?_)) (fun _ _ _ h => h.elim)
          have hp19 : 0 ≤ r19.toInt → (0 ≤ (((σ 2 2) + x3) + 1).toInt ∧ (((σ 2 2) + x3) + 1).toInt < 16000) := hp19
          refine g_istore hF [(4, .int r19), (1, .long w18), (0, .ref (r 2)), (3, .int x3)] d_X10_digits_61 hnn (by decide) rfl ?_
          refine g_iinc hF (x3 + 1) [(3, .int (x3 + 1)), (4, .int r19), (1, .long w18), (0, .ref (r 2))] d_X10_digits_63 3 rfl rfl hnn (by decide) rfl ?_
          refine g_goto hF 14 d_X10_digits_66 (by decide) ?_
          exact g_sub (L' := [(0, .ref (r 2)), (1, .long w18), (3, .int (x3 + 1)), (4, .int r19)]) [3, 2, 0, 1] rfl (ih14 _ (by show upm (x3 + 1) < _; have hN := N14; unfold upm at hN ⊢; have e0 := s_rng x3; have e1 : (1 : Int32).toInt = 1 := (by decide); obtain ⟨k2, e2⟩ := s_add x3 (1 : Int32); have e2a := s_rng (x3 + 1); have e4 := s_rng (σ 2 1); have e5 := inv.2.2.2.2.2.2.2.2.1; have e6 := s_rng r19; have e7 := s_rng (σ 2 2); have e8 := inv.2.2.2.2.1; obtain ⟨k9, e9⟩ := s_add (σ 2 2) x3; have e9a := s_rng ((σ 2 2) + x3); obtain ⟨k11, e11⟩ := s_add ((σ 2 2) + x3) (1 : Int32); have e11a := s_rng (((σ 2 2) + x3) + 1); omega) σ w18 (x3 + 1) r19 rfl inv kp (by show (σ 2 2).toInt < 16000 ∧ 0 ≤ (x3 + 1).toInt ∧ (x3 + 1).toInt ≤ 16001; have e0 := s_rng x3; have e1 : (1 : Int32).toInt = 1 := (by decide); obtain ⟨k2, e2⟩ := s_add x3 (1 : Int32); have e2a := s_rng (x3 + 1); have e4 := s_rng r19; have e5 := s_rng (σ 2 2); have e6 := inv.2.2.2.2.1; have e7 := s_rng (σ0 2 2); have e8 := i0.2.2.2.2.1; have e9 := s_rng (σ 2 1); have e10 := inv.2.2.2.2.2.2.2.2.1; obtain ⟨k11, e11⟩ := s_add (σ 2 2) x3; have e11a := s_rng ((σ 2 2) + x3); obtain ⟨k13, e13⟩ := s_add ((σ 2 2) + x3) (1 : Int32); have e13a := s_rng (((σ 2 2) + x3) + 1); omega))
  have kp : Keep [(2, 2), (2, 4)] [13, 14, 15, 16] σ0 σ0 := keep_rf
  refine g_lconst hF (v := 0) d_X10_digits_0 (by decide) ?_
  refine g_lstore_n hF [(1, .long 0), (0, .ref (r 2))] d_X10_digits_1 rfl hnn (by decide) rfl ?_
  refine g_iconst hF (v := 0) d_X10_digits_2 (by decide) ?_
  refine g_istore_n hF [(3, .int 0), (1, .long 0), (0, .ref (r 2))] d_X10_digits_3 rfl hnn (by decide) rfl ?_
  refine g_aload_n hF d_X10_digits_4 rfl 2 rfl ?_
  refine g_aload_n hF d_X10_digits_5 rfl 2 rfl ?_
  refine g_get (v := .int (σ0 2 2)) hF 2 obC_2 (by decide) m_44 rfl d_X10_digits_6 ?_
  refine g_callV (As := [.int (σ0 2 2)]) (rest := []) hF (c_X10_byteAt a g r σ0 (σ0 2 2) i0) (Nat.le_of_ble_eq_true rfl) mV_X10_byteAt m_806 (recv_ob obC_2) rfl rfl (Nat.le_of_ble_eq_true rfl) d_X10_digits_9 (k_rop (fun r20 hp20 => ?_)) (fun _ _ _ h => h.elim)
  have hp20 : 0 ≤ r20.toInt → (0 ≤ (σ0 2 2).toInt ∧ (σ0 2 2).toInt < 16000) := hp20
  refine g_istore hF [(4, .int r20), (3, .int 0), (1, .long 0), (0, .ref (r 2))] d_X10_digits_12 hnn (by decide) rfl ?_
  exact g_sub (L' := [(0, .ref (r 2)), (1, .long 0), (3, .int 0), (4, .int r20)]) [3, 2, 1, 0] rfl (b14 _ σ0 (0 : Int64) (0 : Int32) r20 rfl i0 kp (by show (σ0 2 2).toInt < 16000 ∧ 0 ≤ 0 ∧ 0 ≤ 16001; have e0 := s_rng r20; have e1 : (0 : Int32).toInt = 0 := (by decide); have e2 := s_rng (σ0 2 2); have e3 := i0.2.2.2.2.1; omega))
set_option maxHeartbeats 4000000 in
set_option maxRecDepth 100000 in
theorem c_X2_string (a : Nat → Nat) (g : Nat → Nat → Int32) (r : Nat → Nat) (σ0 : St) (a1 : Int32) (i0 : Inv σ0) (l : Launch) (D : va_G) (cy : Nat → ClassId) : Ct l D cy SC r (EC a g) y_X2_string (Cond.code y_X2_string b_X2_string 5 none) 3 [.ref (r 7), .int a1] σ0 Z0 [] (QV (fun σ9 => (Inv σ9 ∧ Keep [(4, 1), (5, 9), (6, 3), (6, 4), (6, 5), (7, 7)] [17, 24, 31, 32, 33] σ0 σ9))) QF := by
  refine Ct_of (EC_ok a g) (by decide) (Nat.le_of_ble_eq_true rfl) (by decide) (fun X hnn hF => ?_)
  show G SC r X σ0 Z0 [] [(0, .ref (r 7)), (1, .int a1)] [] 0
  have b55 : ∀ (N : Nat) (σ : St) (x1 : Int32) (x2 : Int32) (x3 : Int32) (x4 : Int32) , upm x4 = N → Inv σ → Keep [(4, 1), (5, 9), (6, 3), (6, 4), (6, 5), (7, 7)] [17, 24, 31, 32, 33] σ0 σ → G SC r X σ Z0 [] [(0, .ref (r 7)), (1, .int x1), (2, .int x2), (3, .int x3), (4, .int x4)] [] 55 := by
    intro M55
    induction M55 using Nat.strongRecOn with
    | _ M55 ih55 =>
      intro σ x1 x2 x3 x4 N55 inv kp
      refine g_iload hF d_X2_string_55 4 rfl ?_
      refine g_iload_n hF d_X2_string_57 rfl 2 rfl ?_
      refine g_icmp_ge hF 92 d_X2_string_58 (by decide) rfl rfl (fun c1_58 => ?_) (fun c1_58 => ?_)
      · -- taken at 58
        refine g_aload_n hF d_X2_string_92 rfl 0 rfl ?_
        refine g_callV (As := []) (rest := []) hF (c_X2_push a g r σ inv) (Nat.le_of_ble_eq_true rfl) mV_X2_push m_1063 (recv_ob obC_7) rfl rfl (Nat.le_of_ble_eq_true rfl) d_X2_string_93 (k_a (fun q2 σ2 ⟨hq2, iσ2, ik2⟩ => ?_)) (fun _ _ _ h => h.elim)
        have kp : Keep [(4, 1), (5, 9), (6, 3), (6, 4), (6, 5), (7, 7)] [17, 24, 31, 32, 33] σ0 σ2 := keep_c kp ik2 (by decide) (by decide)
        refine g_astore hF [(4, .ref (r q2)), (0, .ref (r 7)), (1, .int x1), (2, .int x2), (3, .int x3)] d_X2_string_96 hnn (by decide) rfl ?_
        refine g_aload hF d_X2_string_98 0 rfl ?_
        refine g_iconst hF (v := 1) d_X2_string_100 (by decide) ?_
        refine g_iconst hF (v := 2) d_X2_string_101 (by decide) ?_
        refine g_callVN (As := [.int 1, .int 2]) (rest := []) hF (c_X6_become a g r σ2 (1 : Int32) (2 : Int32) q2 hq2 iσ2) (Nat.le_of_ble_eq_true rfl) mV_X6_become nm_1100 (recv_ob (obC_op hq2)) rfl rfl (Nat.le_of_ble_eq_true rfl) d_X2_string_102 (k_v (fun σ3 ⟨iσ3, ik3⟩ => ?_))
        have kp : Keep [(4, 1), (5, 9), (6, 3), (6, 4), (6, 5), (7, 7)] [17, 24, 31, 32, 33] σ0 σ3 := keep_c kp ik3 (by decide) (by decide)
        refine g_aload hF d_X2_string_105 0 rfl ?_
        refine g_iconst hF (v := (-1)) d_X2_string_107 (by decide) ?_
        refine g_putN hF 7 (obC_op hq2) (by decide) nm_414 rfl rfl (rf_op hq2) d_X2_string_108 ?_
        obtain ⟨σ4, eσ4⟩ : ∃ z, z = upC σ3 q2 7 ((-1) : Int32) := ⟨_, rfl⟩
        rw [← eσ4]
        have ik4 : Keep [] [] σ3 σ4 := by rw [eσ4]; exact keep_op hq2
        have kp : Keep [(4, 1), (5, 9), (6, 3), (6, 4), (6, 5), (7, 7)] [17, 24, 31, 32, 33] σ0 σ4 := keep_c kp ik4 (by decide) (by decide)
        have iσ4 : Inv σ4 := inv_keep ik4 iσ3
        refine g_aload hF d_X2_string_111 0 rfl ?_
        refine g_iload_n hF d_X2_string_113 rfl 4 rfl ?_
        refine g_putN hF 8 (obC_op hq2) (by decide) nm_418 rfl rfl (rf_op hq2) d_X2_string_114 ?_
        obtain ⟨σ5, eσ5⟩ : ∃ z, z = upC σ4 q2 8 x3 := ⟨_, rfl⟩
        rw [← eσ5]
        have ik5 : Keep [] [] σ4 σ5 := by rw [eσ5]; exact keep_op hq2
        have kp : Keep [(4, 1), (5, 9), (6, 3), (6, 4), (6, 5), (7, 7)] [17, 24, 31, 32, 33] σ0 σ5 := keep_c kp ik5 (by decide) (by decide)
        have iσ5 : Inv σ5 := inv_keep ik5 iσ4
        refine g_aload_n hF d_X2_string_117 rfl 1 rfl ?_
        refine g_get (v := .ref (r 4)) hF 4 obC_7 (by decide) m_461 rfl d_X2_string_118 ?_
        refine g_iconst hF (v := 3) d_X2_string_121 (by decide) ?_
        refine g_aload_n hF d_X2_string_122 rfl 1 rfl ?_
        refine g_get (v := .ref (r 5)) hF 3 obC_7 (by decide) m_459 rfl d_X2_string_123 ?_
        refine g_getN (v := .int (σ5 5 13)) hF 13 obC_5 (by decide) nm_251 rfl d_X2_string_126 ?_
        refine g_top (v := (σ 5 13)) ((ik5 5 13 rfl rfl rfl).trans ((ik4 5 13 rfl rfl rfl).trans ((ik3 5 13 rfl rfl rfl).trans (ik2 5 13 rfl rfl rfl)))) ?_
        refine g_iconst hF (v := 1) d_X2_string_129 (by decide) ?_
        refine g_iadd hF d_X2_string_130 ?_
        refine g_iload_n hF d_X2_string_131 rfl 4 rfl ?_
        refine g_iconst hF (v := 0) d_X2_string_132 (by decide) ?_
        refine g_callVN (As := [.int 3, .int ((σ 5 13) + 1), .int x3, .int 0]) (rest := []) hF (c_X0_emit a g r σ5 (3 : Int32) ((σ 5 13) + 1) x3 (0 : Int32) iσ5) (Nat.le_of_ble_eq_true rfl) mV_X0_emit nm_1071 (recv_ob obC_4) rfl rfl (Nat.le_of_ble_eq_true rfl) d_X2_string_133 (k_i (fun r6 σ6 ⟨iσ6, ik6⟩ => ?_))
        have kp : Keep [(4, 1), (5, 9), (6, 3), (6, 4), (6, 5), (7, 7)] [17, 24, 31, 32, 33] σ0 σ6 := keep_c kp ik6 (by decide) (by decide)
        refine g_pop hF d_X2_string_136 rfl ?_
        exact g_vret hF rfl d_X2_string_137 ⟨rfl, rfl, rfl, ⟨iσ6, kp⟩⟩
      · -- not taken at 58
        refine g_aload_n hF d_X2_string_61 rfl 0 rfl ?_
        refine g_get (v := .ref (r 5)) hF 3 obC_7 (by decide) m_459 rfl d_X2_string_62 ?_
        refine g_iload_n hF d_X2_string_65 rfl 3 rfl ?_
        refine g_iload hF d_X2_string_66 4 rfl ?_
        refine g_iadd hF d_X2_string_68 ?_
        refine g_bipush hF (v := (-2)) d_X2_string_69 (by decide) ?_
        refine g_aload_n hF d_X2_string_71 rfl 0 rfl ?_
        refine g_get (v := .ref (r 2)) hF 1 obC_7 (by decide) m_457 rfl d_X2_string_72 ?_
        refine g_getN (v := .ref (r 17)) hF 9 obC_2 (by decide) nm_63 rfl d_X2_string_75 ?_
        refine g_iload hF d_X2_string_78 4 rfl ?_
        refine g_callSN (As := [.ref (r 17), .int x4]) (rest := [.int (-2), .int (x3 + x4), .ref (r 5)]) hF (c_at a g r σ arC_17 (by decide) x4) (Nat.le_of_ble_eq_true rfl) mS_X12_at nm_1058 rfl rfl (Nat.le_of_ble_eq_true rfl) d_X2_string_80 (k_rop (fun r7 hr7 => ?_))
        refine g_callVN (As := [.int (x3 + x4), .int (-2), .int r7]) (rest := []) hF (c_X8_addInitial a g r σ (x3 + x4) ((-2) : Int32) r7 inv) (Nat.le_of_ble_eq_true rfl) mV_X8_addInitial nm_1094 (recv_ob obC_5) rfl rfl (Nat.le_of_ble_eq_true rfl) d_X2_string_83 (k_v (fun σ8 ⟨iσ8, ik8⟩ => ?_))
        have kp : Keep [(4, 1), (5, 9), (6, 3), (6, 4), (6, 5), (7, 7)] [17, 24, 31, 32, 33] σ0 σ8 := keep_c kp ik8 (by decide) (by decide)
        refine g_iinc hF (x4 + 1) [(4, .int (x4 + 1)), (0, .ref (r 7)), (1, .int x1), (2, .int x2), (3, .int x3)] d_X2_string_86 4 rfl rfl hnn (by decide) rfl ?_
        refine g_goto hF 55 d_X2_string_89 (by decide) ?_
        exact g_sub (L' := [(0, .ref (r 7)), (1, .int x1), (2, .int x2), (3, .int x3), (4, .int (x4 + 1))]) [1, 2, 3, 4, 0] rfl (ih55 _ (N55 ▸ upm_lt c1_58 (s_rng x2).2) σ8 x1 x2 x3 (x4 + 1) rfl iσ8 kp)
  have kp : Keep [(4, 1), (5, 9), (6, 3), (6, 4), (6, 5), (7, 7)] [17, 24, 31, 32, 33] σ0 σ0 := keep_rf
  refine g_aload_n hF d_X2_string_0 rfl 0 rfl ?_
  refine g_get (v := .ref (r 2)) hF 1 obC_7 (by decide) m_457 rfl d_X2_string_1 ?_
  refine g_iload_n hF d_X2_string_4 rfl 1 rfl ?_
  refine g_callVN (As := [.int a1]) (rest := []) hF (c_X10_readCodes a g r σ0 a1 i0) (Nat.le_of_ble_eq_true rfl) mV_X10_readCodes nm_1081 (recv_ob obC_2) rfl rfl (Nat.le_of_ble_eq_true rfl) d_X2_string_5 (k_i (fun r9 σ9 ⟨iσ9, ik9⟩ => ?_))
  have kp : Keep [(4, 1), (5, 9), (6, 3), (6, 4), (6, 5), (7, 7)] [17, 24, 31, 32, 33] σ0 σ9 := keep_c kp ik9 (by decide) (by decide)
  refine g_istore_n hF [(2, .int r9), (0, .ref (r 7)), (1, .int a1)] d_X2_string_8 rfl hnn (by decide) rfl ?_
  refine g_aload_n hF d_X2_string_9 rfl 1 rfl ?_
  refine g_get (v := .ref (r 6)) hF 2 obC_7 (by decide) m_458 rfl d_X2_string_10 ?_
  refine g_getN (v := .int (σ9 6 5)) hF 5 obC_6 (by decide) nm_323 rfl d_X2_string_13 ?_
  refine g_top (v := (σ0 6 5)) (ik9 6 5 rfl rfl rfl) ?_
  refine g_istore_n hF [(3, .int (σ0 6 5)), (2, .int r9), (0, .ref (r 7)), (1, .int a1)] d_X2_string_16 rfl hnn (by decide) rfl ?_
  refine g_iload_n hF d_X2_string_17 rfl 0 rfl ?_
  refine g_iload_n hF d_X2_string_18 rfl 1 rfl ?_
  refine g_iadd hF d_X2_string_19 ?_
  refine g_iconst hF (v := 1) d_X2_string_20 (by decide) ?_
  refine g_iadd hF d_X2_string_21 ?_
  refine g_sipush hF (v := 16000) d_X2_string_22 (by decide) ?_
  refine g_icmp_le (yv := 16000) hF 37 d_X2_string_25 (by decide) rfl (by decide) (fun c10_25 => ?_) (fun c10_25 => ?_)
  · -- taken at 25
    refine g_aload_n hF d_X2_string_37 rfl 2 rfl ?_
    refine g_get (v := .ref (r 6)) hF 2 obC_7 (by decide) m_458 rfl d_X2_string_38 ?_
    refine g_dup hF d_X2_string_41 rfl ?_
    refine g_getN (v := .int (σ9 6 5)) hF 5 obC_6 (by decide) nm_323 rfl d_X2_string_42 ?_
    refine g_top (v := (σ0 6 5)) (ik9 6 5 rfl rfl rfl) ?_
    refine g_iload_n hF d_X2_string_45 rfl 1 rfl ?_
    refine g_iconst hF (v := 1) d_X2_string_46 (by decide) ?_
    refine g_iadd hF d_X2_string_47 ?_
    refine g_iadd hF d_X2_string_48 ?_
    refine g_putN (v := ((σ0 6 5) + (r9 + 1))) hF 5 obC_6 (by decide) nm_323 rfl rfl rfl d_X2_string_49 ?_
    have kp : Keep [(4, 1), (5, 9), (6, 3), (6, 4), (6, 5), (7, 7)] [17, 24, 31, 32, 33] σ0 (upC σ9 6 5 ((σ0 6 5) + (r9 + 1))) := keep_f kp (by decide)
    refine g_iconst hF (v := 0) d_X2_string_52 (by decide) ?_
    refine g_istore hF [(4, .int 0), (3, .int (σ0 6 5)), (2, .int r9), (0, .ref (r 7)), (1, .int a1)] d_X2_string_53 hnn (by decide) rfl ?_
    have j11 : Inv (upC σ9 6 5 ((σ0 6 5) + (r9 + 1))) := ⟨iσ9.1, iσ9.2.1, iσ9.2.2.1, iσ9.2.2.2.1, iσ9.2.2.2.2.1, iσ9.2.2.2.2.2.1, iσ9.2.2.2.2.2.2.1, iσ9.2.2.2.2.2.2.2.1, iσ9.2.2.2.2.2.2.2.2.1, iσ9.2.2.2.2.2.2.2.2.2.1, iσ9.2.2.2.2.2.2.2.2.2.2.1, iσ9.2.2.2.2.2.2.2.2.2.2.2.1, iσ9.2.2.2.2.2.2.2.2.2.2.2.2.1, iσ9.2.2.2.2.2.2.2.2.2.2.2.2.2.1, iσ9.2.2.2.2.2.2.2.2.2.2.2.2.2.2.1, iσ9.2.2.2.2.2.2.2.2.2.2.2.2.2.2.2.1, iσ9.2.2.2.2.2.2.2.2.2.2.2.2.2.2.2.2.1, iσ9.2.2.2.2.2.2.2.2.2.2.2.2.2.2.2.2.2.1, iσ9.2.2.2.2.2.2.2.2.2.2.2.2.2.2.2.2.2.2.1, iσ9.2.2.2.2.2.2.2.2.2.2.2.2.2.2.2.2.2.2.2⟩
    exact g_sub (L' := [(0, .ref (r 7)), (1, .int a1), (2, .int r9), (3, .int (σ0 6 5)), (4, .int 0)]) [3, 4, 2, 1, 0] rfl (b55 _ (upC σ9 6 5 ((σ0 6 5) + (r9 + 1))) a1 r9 (σ0 6 5) (0 : Int32) rfl j11 kp)
  · -- not taken at 25
    refine g_aload_n hF d_X2_string_28 rfl 2 rfl ?_
    refine g_get (v := .ref (r 6)) hF 2 obC_7 (by decide) m_458 rfl d_X2_string_29 ?_
    refine g_iconst hF (v := 4) d_X2_string_32 (by decide) ?_
    refine g_iload_n hF d_X2_string_33 rfl 3 rfl ?_
    refine g_callVN (As := [.int 4, .int a1]) (rest := []) hF (c_X11_fail a g r σ9 (4 : Int32) a1 iσ9) (Nat.le_of_ble_eq_true rfl) mV_X11_fail nm_1090 (recv_ob obC_6) rfl rfl (Nat.le_of_ble_eq_true rfl) d_X2_string_34 (k_v (fun σ12 ⟨iσ12, ik12⟩ => ?_))
    have kp : Keep [(4, 1), (5, 9), (6, 3), (6, 4), (6, 5), (7, 7)] [17, 24, 31, 32, 33] σ0 σ12 := keep_c kp ik12 (by decide) (by decide)
    refine g_aload_n hF d_X2_string_37 rfl 2 rfl ?_
    refine g_get (v := .ref (r 6)) hF 2 obC_7 (by decide) m_458 rfl d_X2_string_38 ?_
    refine g_dup hF d_X2_string_41 rfl ?_
    refine g_getN (v := .int (σ12 6 5)) hF 5 obC_6 (by decide) nm_323 rfl d_X2_string_42 ?_
    refine g_top (v := (σ0 6 5)) ((ik12 6 5 rfl rfl rfl).trans (ik9 6 5 rfl rfl rfl)) ?_
    refine g_iload_n hF d_X2_string_45 rfl 1 rfl ?_
    refine g_iconst hF (v := 1) d_X2_string_46 (by decide) ?_
    refine g_iadd hF d_X2_string_47 ?_
    refine g_iadd hF d_X2_string_48 ?_
    refine g_putN (v := ((σ0 6 5) + (r9 + 1))) hF 5 obC_6 (by decide) nm_323 rfl rfl rfl d_X2_string_49 ?_
    have kp : Keep [(4, 1), (5, 9), (6, 3), (6, 4), (6, 5), (7, 7)] [17, 24, 31, 32, 33] σ0 (upC σ12 6 5 ((σ0 6 5) + (r9 + 1))) := keep_f kp (by decide)
    refine g_iconst hF (v := 0) d_X2_string_52 (by decide) ?_
    refine g_istore hF [(4, .int 0), (3, .int (σ0 6 5)), (2, .int r9), (0, .ref (r 7)), (1, .int a1)] d_X2_string_53 hnn (by decide) rfl ?_
    have j13 : Inv (upC σ12 6 5 ((σ0 6 5) + (r9 + 1))) := ⟨iσ12.1, iσ12.2.1, iσ12.2.2.1, iσ12.2.2.2.1, iσ12.2.2.2.2.1, iσ12.2.2.2.2.2.1, iσ12.2.2.2.2.2.2.1, iσ12.2.2.2.2.2.2.2.1, iσ12.2.2.2.2.2.2.2.2.1, iσ12.2.2.2.2.2.2.2.2.2.1, iσ12.2.2.2.2.2.2.2.2.2.2.1, iσ12.2.2.2.2.2.2.2.2.2.2.2.1, iσ12.2.2.2.2.2.2.2.2.2.2.2.2.1, iσ12.2.2.2.2.2.2.2.2.2.2.2.2.2.1, iσ12.2.2.2.2.2.2.2.2.2.2.2.2.2.2.1, iσ12.2.2.2.2.2.2.2.2.2.2.2.2.2.2.2.1, iσ12.2.2.2.2.2.2.2.2.2.2.2.2.2.2.2.2.1, iσ12.2.2.2.2.2.2.2.2.2.2.2.2.2.2.2.2.2.1, iσ12.2.2.2.2.2.2.2.2.2.2.2.2.2.2.2.2.2.2.1, iσ12.2.2.2.2.2.2.2.2.2.2.2.2.2.2.2.2.2.2.2⟩
    exact g_sub (L' := [(0, .ref (r 7)), (1, .int a1), (2, .int r9), (3, .int (σ0 6 5)), (4, .int 0)]) [3, 4, 2, 1, 0] rfl (b55 _ (upC σ12 6 5 ((σ0 6 5) + (r9 + 1))) a1 r9 (σ0 6 5) (0 : Int32) rfl j13 kp)
set_option maxHeartbeats 4000000 in
set_option maxRecDepth 100000 in
theorem c_X5_worked (a : Nat → Nat) (g : Nat → Nat → Int32) (r : Nat → Nat) (σ0 : St) (a0 : Int32) (a1 : Int32) (a2 : Int32) (i0 : Inv σ0) (l : Launch) (D : va_G) (cy : Nat → ClassId) : Ct l D cy SC r (EC a g) y_X5_worked (Cond.code y_X5_worked b_X5_worked 3 (some .int)) 1 [.int a0, .int a1, .int a2] σ0 Z0 [] (QI (fun _ σ9 => σ9 = σ0)) QF := by
  refine Ct_of (EC_ok a g) (by decide) (Nat.le_of_ble_eq_true rfl) (by decide) (fun X hnn hF => ?_)
  show G SC r X σ0 Z0 [] [(0, .int a0), (1, .int a1), (2, .int a2)] [] 0
  refine g_iload_n hF d_X5_worked_0 rfl 0 rfl ?_
  refine (Decidable.em (a0.toInt = 41)).elim (fun q1_1_0 => ?_) (fun q1_1_0 => ?_)
  · refine g_tableIn (off := 55) hF 56 d_X5_worked_1 q1_1_0 (by decide) (by decide) (by decide +kernel) (by decide) ?_
    refine g_iload_n hF d_X5_worked_56 rfl 1 rfl ?_
    refine g_iload_n hF d_X5_worked_57 rfl 2 rfl ?_
    refine g_bipush hF (v := 31) d_X5_worked_58 (by decide) ?_
    refine g_iand hF d_X5_worked_60 ?_
    refine g_any (fun v2 => ?_)
    refine g_ishl hF d_X5_worked_61 ?_
    refine g_any (fun v3 => ?_)
    exact g_iret hF rfl d_X5_worked_62 ⟨rfl, rfl, v3, rfl, rfl⟩
  refine (Decidable.em (a0.toInt = 42)).elim (fun q4_1_1 => ?_) (fun q4_1_1 => ?_)
  · refine g_tableIn (off := 62) hF 63 d_X5_worked_1 q4_1_1 (by decide) (by decide) (by decide +kernel) (by decide) ?_
    refine g_iload_n hF d_X5_worked_63 rfl 1 rfl ?_
    refine g_iload_n hF d_X5_worked_64 rfl 2 rfl ?_
    refine g_bipush hF (v := 31) d_X5_worked_65 (by decide) ?_
    refine g_iand hF d_X5_worked_67 ?_
    refine g_any (fun v5 => ?_)
    refine g_ishr hF d_X5_worked_68 ?_
    refine g_any (fun v6 => ?_)
    exact g_iret hF rfl d_X5_worked_69 ⟨rfl, rfl, v6, rfl, rfl⟩
  refine (Decidable.em (a0.toInt = 43)).elim (fun q7_1_2 => ?_) (fun q7_1_2 => ?_)
  · refine g_tableIn (off := 69) hF 70 d_X5_worked_1 q7_1_2 (by decide) (by decide) (by decide +kernel) (by decide) ?_
    refine g_iload_n hF d_X5_worked_70 rfl 1 rfl ?_
    refine g_iload_n hF d_X5_worked_71 rfl 2 rfl ?_
    refine g_iadd hF d_X5_worked_72 ?_
    exact g_iret hF rfl d_X5_worked_73 ⟨rfl, rfl, (a1 + a2), rfl, rfl⟩
  refine (Decidable.em (a0.toInt = 44)).elim (fun q8_1_3 => ?_) (fun q8_1_3 => ?_)
  · refine g_tableIn (off := 73) hF 74 d_X5_worked_1 q8_1_3 (by decide) (by decide) (by decide +kernel) (by decide) ?_
    refine g_iload_n hF d_X5_worked_74 rfl 1 rfl ?_
    refine g_iload_n hF d_X5_worked_75 rfl 2 rfl ?_
    refine g_isub hF d_X5_worked_76 ?_
    exact g_iret hF rfl d_X5_worked_77 ⟨rfl, rfl, (a1 - a2), rfl, rfl⟩
  refine (Decidable.em (a0.toInt = 45)).elim (fun q9_1_4 => ?_) (fun q9_1_4 => ?_)
  · refine g_tableIn (off := 77) hF 78 d_X5_worked_1 q9_1_4 (by decide) (by decide) (by decide +kernel) (by decide) ?_
    refine g_iload_n hF d_X5_worked_78 rfl 1 rfl ?_
    refine g_iload_n hF d_X5_worked_79 rfl 2 rfl ?_
    refine g_imul hF d_X5_worked_80 ?_
    refine g_any (fun v10 => ?_)
    exact g_iret hF rfl d_X5_worked_81 ⟨rfl, rfl, v10, rfl, rfl⟩
  refine (Decidable.em (a0.toInt = 46)).elim (fun q11_1_5 => ?_) (fun q11_1_5 => ?_)
  · refine g_tableIn (off := 81) hF 82 d_X5_worked_1 q11_1_5 (by decide) (by decide) (by decide +kernel) (by decide) ?_
    refine g_iload_n hF d_X5_worked_82 rfl 2 rfl ?_
    refine g_if_ne hF 90 d_X5_worked_83 (by decide) rfl (fun c12_83 => ?_) (fun c12_83 => ?_)
    · -- taken at 83
      refine g_iload_n hF d_X5_worked_90 rfl 1 rfl ?_
      refine g_iload_n hF d_X5_worked_91 rfl 2 rfl ?_
      refine g_idiv hF d_X5_worked_92 (fun h9 => c12_83 (by rw [h9]; decide)) ?_
      refine g_any (fun v13 => ?_)
      exact g_iret hF rfl d_X5_worked_93 ⟨rfl, rfl, v13, rfl, rfl⟩
    · -- not taken at 83
      refine g_iconst hF (v := 0) d_X5_worked_86 (by decide) ?_
      refine g_goto hF 93 d_X5_worked_87 (by decide) ?_
      exact g_iret hF rfl d_X5_worked_93 ⟨rfl, rfl, (0 : Int32), rfl, rfl⟩
  refine (Decidable.em (a0.toInt = 47)).elim (fun q14_1_6 => ?_) (fun q14_1_6 => ?_)
  · refine g_tableIn (off := 93) hF 94 d_X5_worked_1 q14_1_6 (by decide) (by decide) (by decide +kernel) (by decide) ?_
    refine g_iload_n hF d_X5_worked_94 rfl 2 rfl ?_
    refine g_if_ne hF 102 d_X5_worked_95 (by decide) rfl (fun c15_95 => ?_) (fun c15_95 => ?_)
    · -- taken at 95
      refine g_iload_n hF d_X5_worked_102 rfl 1 rfl ?_
      refine g_iload_n hF d_X5_worked_103 rfl 2 rfl ?_
      refine g_irem hF d_X5_worked_104 (fun h9 => c15_95 (by rw [h9]; decide)) ?_
      refine g_any (fun v16 => ?_)
      exact g_iret hF rfl d_X5_worked_105 ⟨rfl, rfl, v16, rfl, rfl⟩
    · -- not taken at 95
      refine g_iconst hF (v := 0) d_X5_worked_98 (by decide) ?_
      refine g_goto hF 105 d_X5_worked_99 (by decide) ?_
      exact g_iret hF rfl d_X5_worked_105 ⟨rfl, rfl, (0 : Int32), rfl, rfl⟩
  refine (Decidable.em (a0.toInt = 48)).elim (fun q17_1_7 => ?_) (fun q17_1_7 => ?_)
  · refine g_tableIn (off := 105) hF 106 d_X5_worked_1 q17_1_7 (by decide) (by decide) (by decide +kernel) (by decide) ?_
    refine g_iload_n hF d_X5_worked_106 rfl 1 rfl ?_
    refine g_iload_n hF d_X5_worked_107 rfl 2 rfl ?_
    refine g_iand hF d_X5_worked_108 ?_
    refine g_any (fun v18 => ?_)
    exact g_iret hF rfl d_X5_worked_109 ⟨rfl, rfl, v18, rfl, rfl⟩
  refine (Decidable.em (a0.toInt = 49)).elim (fun q19_1_8 => ?_) (fun q19_1_8 => ?_)
  · refine g_tableIn (off := 109) hF 110 d_X5_worked_1 q19_1_8 (by decide) (by decide) (by decide +kernel) (by decide) ?_
    refine g_iload_n hF d_X5_worked_110 rfl 1 rfl ?_
    refine g_iload_n hF d_X5_worked_111 rfl 2 rfl ?_
    refine g_ior hF d_X5_worked_112 ?_
    refine g_any (fun v20 => ?_)
    exact g_iret hF rfl d_X5_worked_113 ⟨rfl, rfl, v20, rfl, rfl⟩
  refine (Decidable.em (a0.toInt = 50)).elim (fun q21_1_9 => ?_) (fun q21_1_9 => ?_)
  · refine g_tableIn (off := 113) hF 114 d_X5_worked_1 q21_1_9 (by decide) (by decide) (by decide +kernel) (by decide) ?_
    refine g_iload_n hF d_X5_worked_114 rfl 1 rfl ?_
    refine g_iload_n hF d_X5_worked_115 rfl 2 rfl ?_
    refine g_ixor hF d_X5_worked_116 ?_
    refine g_any (fun v22 => ?_)
    exact g_iret hF rfl d_X5_worked_117 ⟨rfl, rfl, v22, rfl, rfl⟩
  refine g_tableOut hF 118 d_X5_worked_1 rfl (by omega) (by decide) ?_
  refine g_iload_n hF d_X5_worked_118 rfl 0 rfl ?_
  refine g_iload_n hF d_X5_worked_119 rfl 1 rfl ?_
  refine g_iload_n hF d_X5_worked_120 rfl 2 rfl ?_
  refine g_callS (As := [.int a0, .int a1, .int a2]) (rest := []) hF (c_X5_compared a g r σ0 a0 a1 a2 i0) (Nat.le_of_ble_eq_true rfl) mS_X5_compared m_1229 rfl rfl (Nat.le_of_ble_eq_true rfl) d_X5_worked_121 (k_roz (fun r23 hz23 => ?_)) (fun _ _ _ h => h.elim)
  refine g_if_eq hF 131 d_X5_worked_124 (by decide) rfl (fun c24_124 => ?_) (fun c24_124 => ?_)
  · -- taken at 124
    refine g_iconst hF (v := 0) d_X5_worked_131 (by decide) ?_
    exact g_iret hF rfl d_X5_worked_132 ⟨rfl, rfl, (0 : Int32), rfl, rfl⟩
  · -- not taken at 124
    refine g_iconst hF (v := 1) d_X5_worked_127 (by decide) ?_
    refine g_goto hF 132 d_X5_worked_128 (by decide) ?_
    exact g_iret hF rfl d_X5_worked_132 ⟨rfl, rfl, (1 : Int32), rfl, rfl⟩
set_option maxHeartbeats 4000000 in
set_option maxRecDepth 100000 in
theorem c_X2_fold (a : Nat → Nat) (g : Nat → Nat → Int32) (r : Nat → Nat) (σ0 : St) (qa1 : Nat) (hqa1 : isOp qa1) (i0 : Inv σ0) (l : Launch) (D : va_G) (cy : Nat → ClassId) : Ct l D cy SC r (EC a g) y_X2_fold (Cond.code y_X2_fold b_X2_fold 2 none) 2 [.ref (r 7), .ref (r qa1)] σ0 Z0 [] (QV (fun σ9 => (Inv σ9 ∧ Keep [(4, 1)] [24] σ0 σ9))) QF := by
  refine Ct_of (EC_ok a g) (by decide) (Nat.le_of_ble_eq_true rfl) (by decide) (fun X hnn hF => ?_)
  show G SC r X σ0 Z0 [] [(0, .ref (r 7)), (1, .ref (r qa1))] [] 0
  have kp : Keep [(4, 1)] [24] σ0 σ0 := keep_rf
  refine g_aload_n hF d_X2_fold_0 rfl 0 rfl ?_
  refine g_get (v := .ref (r 6)) hF 2 obC_7 (by decide) m_458 rfl d_X2_fold_1 ?_
  refine g_getN (v := .int (σ0 6 2)) hF 2 obC_6 (by decide) nm_313 rfl d_X2_fold_4 ?_
  refine g_if_le hF 43 d_X2_fold_7 (by decide) rfl (fun c1_7 => ?_) (fun c1_7 => ?_)
  · -- taken at 7
    exact g_vret hF rfl d_X2_fold_43 ⟨rfl, rfl, rfl, ⟨i0, kp⟩⟩
  · -- not taken at 7
    refine g_aload_n hF d_X2_fold_10 rfl 1 rfl ?_
    refine g_callVN (As := []) (rest := []) hF (c_X6_isConstant a g r σ0 qa1 hqa1 i0) (Nat.le_of_ble_eq_true rfl) mV_X6_isConstant nm_1222 (recv_ob (obC_op hqa1)) rfl rfl (Nat.le_of_ble_eq_true rfl) d_X2_fold_11 (k_roz (fun r2 hz2 => ?_))
    refine g_if_eq hF 43 d_X2_fold_14 (by decide) rfl (fun c3_14 => ?_) (fun c3_14 => ?_)
    · -- taken at 14
      exact g_vret hF rfl d_X2_fold_43 ⟨rfl, rfl, rfl, ⟨i0, kp⟩⟩
    · -- not taken at 14
      refine g_aload_n hF d_X2_fold_17 rfl 0 rfl ?_
      refine g_get (v := .ref (r 4)) hF 4 obC_7 (by decide) m_461 rfl d_X2_fold_18 ?_
      refine g_aload_n hF d_X2_fold_21 rfl 1 rfl ?_
      refine g_getN hF 9 (obC_op hqa1) (by decide) nm_422 (fval_op hqa1) d_X2_fold_22 ?_
      refine g_any (fun v4 => ?_)
      refine g_callVN (As := [.int v4]) (rest := []) hF (c_X0_cut a g r σ0 v4 i0) (Nat.le_of_ble_eq_true rfl) mV_X0_cut nm_1237 (recv_ob obC_4) rfl rfl (Nat.le_of_ble_eq_true rfl) d_X2_fold_25 (k_v (fun σ5 ⟨iσ5, ik5⟩ => ?_))
      have kp : Keep [(4, 1)] [24] σ0 σ5 := keep_c kp ik5 (by decide) (by decide)
      refine g_aload_n hF d_X2_fold_28 rfl 0 rfl ?_
      refine g_get (v := .ref (r 4)) hF 4 obC_7 (by decide) m_461 rfl d_X2_fold_29 ?_
      refine g_iconst hF (v := 1) d_X2_fold_32 (by decide) ?_
      refine g_aload_n hF d_X2_fold_33 rfl 1 rfl ?_
      refine g_getN hF 8 (obC_op hqa1) (by decide) nm_418 (fval_op hqa1) d_X2_fold_34 ?_
      refine g_any (fun v6 => ?_)
      refine g_iconst hF (v := 0) d_X2_fold_37 (by decide) ?_
      refine g_iconst hF (v := 0) d_X2_fold_38 (by decide) ?_
      refine g_callVN (As := [.int 1, .int v6, .int 0, .int 0]) (rest := []) hF (c_X0_emit a g r σ5 (1 : Int32) v6 (0 : Int32) (0 : Int32) iσ5) (Nat.le_of_ble_eq_true rfl) mV_X0_emit nm_1071 (recv_ob obC_4) rfl rfl (Nat.le_of_ble_eq_true rfl) d_X2_fold_39 (k_i (fun r7 σ7 ⟨iσ7, ik7⟩ => ?_))
      have kp : Keep [(4, 1)] [24] σ0 σ7 := keep_c kp ik7 (by decide) (by decide)
      refine g_pop hF d_X2_fold_42 rfl ?_
      exact g_vret hF rfl d_X2_fold_43 ⟨rfl, rfl, rfl, ⟨iσ7, kp⟩⟩
