set_option maxHeartbeats 4000000 in
set_option maxRecDepth 100000 in
theorem c_X3_head (a : Nat → Nat) (g : Nat → Nat → Int32) (r : Nat → Nat) (σ0 : St) (a1 : Int32) (a2 : Int32) (a3 : Int32) (hnm : (σ0 3 3).toInt < 0 → NM σ0 a1) (hgp : GPS σ0) (i0 : Inv σ0) (l : Launch) (D : va_G) (cy : Nat → ClassId) : Ct l D cy SC r (EC a g) y_X3_head (Cond.code y_X3_head b_X3_head 7 (some .boolean)) 3 [.ref (r 3), .int a1, .int a2, .int a3] σ0 Z0 [] (QI (fun v9 σ9 => (v9 = 0 ∨ v9 = 1) ∧ ((GPS σ9 ∧ Mo σ9 σ0) ∧ (Inv σ9 ∧ Keep [(3, 1), (3, 2), (3, 3), (3, 4)] [18, 19, 20, 21, 23] σ0 σ9)))) QF := by
  refine Ct_of (EC_ok a g) (by decide) (Nat.le_of_ble_eq_true rfl) (by decide) (fun X hnn hF => ?_)
  show G SC r X σ0 Z0 [] [(0, .ref (r 3)), (1, .int a1), (2, .int a2), (3, .int a3)] [] 0
  have b105 : ∀ (N : Nat) (σ : St) (x1 : Int32) (x2 : Int32) (x3 : Int32) (x4 : Int32) (x5 : Int32) (x6 : Int32) , upm x6 = N → Inv σ → Keep [(3, 1), (3, 2), (3, 3), (3, 4)] [18, 19, 20, 21, 23] σ0 σ → x5 = 0 ∨ x5 = 1 → GPS σ → Mo σ σ0 → G SC r X σ Z0 [] [(0, .ref (r 3)), (1, .int x1), (2, .int x2), (3, .int x3), (4, .int x4), (5, .int x5), (6, .int x6)] [] 105 := by
    intro M105
    induction M105 using Nat.strongRecOn with
    | _ M105 ih105 =>
      intro σ x1 x2 x3 x4 x5 x6 N105 inv kp z_x5 hgp hgm
      refine g_iload hF d_X3_head_105 6 rfl ?_
      refine g_iload hF d_X3_head_107 4 rfl ?_
      refine g_callSN (As := [.int x4]) (rest := [.int x6]) hF (c_X8_parameters a g r σ x4 inv) (Nat.le_of_ble_eq_true rfl) mS_X8_parameters nm_1000 rfl rfl (Nat.le_of_ble_eq_true rfl) d_X3_head_109 (k_ro (fun r1 => ?_))
      refine g_icmp_ge hF 150 d_X3_head_112 (by decide) rfl rfl (fun c2_112 => ?_) (fun c2_112 => ?_)
      · -- taken at 112
        refine g_iload hF d_X3_head_150 5 rfl ?_
        exact g_zret hF rfl (k_nz z_x5) d_X3_head_152 ⟨rfl, rfl, x5, rfl, z_x5, ⟨⟨hgp, (fun h9 => (hgm (mo_e (show σ 3 3 = σ 3 3 from rfl) h9)))⟩, inv, kp⟩⟩
      · -- not taken at 112
        refine g_iload hF d_X3_head_115 5 rfl ?_
        refine g_if_eq hF 150 d_X3_head_117 (by decide) rfl (fun c3_117 => ?_) (fun c3_117 => ?_)
        · -- taken at 117
          refine g_iload hF d_X3_head_150 5 rfl ?_
          exact g_zret hF rfl (k_nz z_x5) d_X3_head_152 ⟨rfl, rfl, x5, rfl, z_x5, ⟨⟨hgp, (fun h9 => (hgm (mo_e (show σ 3 3 = σ 3 3 from rfl) h9)))⟩, inv, kp⟩⟩
        · -- not taken at 117
          refine g_aload_n hF d_X3_head_120 rfl 0 rfl ?_
          refine g_bipush hF (v := 48) d_X3_head_121 (by decide) ?_
          refine g_aload_n hF d_X3_head_123 rfl 0 rfl ?_
          refine g_get (v := .ref (r 23)) hF 11 obC_3 (by decide) m_116 rfl d_X3_head_124 ?_
          refine g_iload hF d_X3_head_127 6 rfl ?_
          refine g_callSN (As := [.ref (r 23), .int x6]) (rest := [.int 48, .ref (r 3)]) hF (c_at a g r σ arC_23 (by decide) x6) (Nat.le_of_ble_eq_true rfl) mS_X12_at nm_947 rfl rfl (Nat.le_of_ble_eq_true rfl) d_X3_head_129 (k_rop (fun r4 hr4 => ?_))
          refine g_iload hF d_X3_head_132 4 rfl ?_
          refine g_iload hF d_X3_head_134 6 rfl ?_
          refine g_callSN (As := [.int x4, .int x6]) (rest := [.int r4, .int 48, .ref (r 3)]) hF (c_X8_parameter a g r σ x4 x6 inv) (Nat.le_of_ble_eq_true rfl) mS_X8_parameter nm_1001 rfl rfl (Nat.le_of_ble_eq_true rfl) d_X3_head_136 (k_ro (fun r5 => ?_))
          refine g_iconst hF (v := 0) d_X3_head_139 (by decide) ?_
          refine g_callV (As := [.int 48, .int r4, .int r5, .int 0]) (rest := []) hF (c_X3_add a g r σ (48 : Int32) r4 r5 (0 : Int32) (fun h9 => absurd h9 (by decide)) hgp inv) (Nat.le_of_ble_eq_true rfl) mV_X3_add m_923 (recv_ob obC_3) rfl rfl (Nat.le_of_ble_eq_true rfl) d_X3_head_140 (k_i (fun r6 σ6 ⟨⟨hgp6, hgm6⟩, iσ6, ik6⟩ => ?_)) (fun _ _ _ h => h.elim)
          have hmo6 : Mo σ6 σ := fun h9 => mo_e (show σ 3 3 = σ 3 3 from rfl) (hgm6 h9)
          have kp : Keep [(3, 1), (3, 2), (3, 3), (3, 4)] [18, 19, 20, 21, 23] σ0 σ6 := keep_c kp ik6 (by decide) (by decide)
          refine g_pop hF d_X3_head_143 rfl ?_
          refine g_iinc hF (x6 + 1) [(6, .int (x6 + 1)), (0, .ref (r 3)), (1, .int x1), (2, .int x2), (3, .int x3), (4, .int x4), (5, .int x5)] d_X3_head_144 6 rfl rfl hnn (by decide) rfl ?_
          refine g_goto hF 105 d_X3_head_147 (by decide) ?_
          exact g_sub (L' := [(0, .ref (r 3)), (1, .int x1), (2, .int x2), (3, .int x3), (4, .int x4), (5, .int x5), (6, .int (x6 + 1))]) [1, 2, 3, 4, 5, 6, 0] rfl (ih105 _ (N105 ▸ upm_lt c2_112 (s_rng r1).2) σ6 x1 x2 x3 x4 x5 (x6 + 1) rfl iσ6 kp z_x5 hgp6 (fun h9 => (hgm (mo_e (show σ6 3 3 = σ 3 3 from (ik6 3 3 rfl rfl rfl)) h9))))
  have kp : Keep [(3, 1), (3, 2), (3, 3), (3, 4)] [18, 19, 20, 21, 23] σ0 σ0 := keep_rf
  refine g_aload_n hF d_X3_head_0 rfl 0 rfl ?_
  refine g_bipush hF (v := 20) d_X3_head_1 (by decide) ?_
  refine g_callV (As := [.int 20]) (rest := []) hF (c_X3_expect a g r σ0 (20 : Int32) hgp (by show ¬ (20 = 0 ∨ 20 = -1); have e0 : (20 : Int32).toInt = 20 := (by decide); omega) i0) (Nat.le_of_ble_eq_true rfl) mV_X3_expect m_903 (recv_ob obC_3) rfl rfl (Nat.le_of_ble_eq_true rfl) d_X3_head_3 (k_v (fun σ7 ⟨⟨hgp7, hgm7⟩, hs7, iσ7, ik7⟩ => ?_)) (fun _ _ _ h => h.elim)
  have hs7 : (σ7 3 3).toInt < 0 → (σ0 3 2).toInt = 20 := hs7
  have hmo7 : Mo σ7 σ0 := fun h9 => mo_e (show σ0 3 3 = σ0 3 3 from rfl) (hgm7 h9)
  have kp : Keep [(3, 1), (3, 2), (3, 3), (3, 4)] [18, 19, 20, 21, 23] σ0 σ7 := keep_c kp ik7 (by decide) (by decide)
  refine g_iconst hF (v := 0) d_X3_head_6 (by decide) ?_
  refine g_istore hF [(4, .int 0), (0, .ref (r 3)), (1, .int a1), (2, .int a2), (3, .int a3)] d_X3_head_7 hnn (by decide) rfl ?_
  refine g_aload_n hF d_X3_head_9 rfl 1 rfl ?_
  refine g_get (v := .int (σ7 3 2)) hF 2 obC_3 (by decide) m_96 rfl d_X3_head_10 ?_
  refine g_bipush hF (v := 6) d_X3_head_13 (by decide) ?_
  refine g_icmp_ne (yv := 6) hF 25 d_X3_head_15 (by decide) rfl (by decide) (fun c8_15 => ?_) (fun c8_15 => ?_)
  · -- taken at 15
    refine g_aload_n hF d_X3_head_25 rfl 1 rfl ?_
    refine g_get (v := .int (σ7 3 2)) hF 2 obC_3 (by decide) m_96 rfl d_X3_head_26 ?_
    refine g_bipush hF (v := 21) d_X3_head_29 (by decide) ?_
    refine g_icmp_eq (yv := 21) hF 40 d_X3_head_31 (by decide) rfl (by decide) (fun c9_31 => ?_) (fun c9_31 => ?_)
    · -- taken at 31
      refine g_aload_n hF d_X3_head_40 rfl 1 rfl ?_
      refine g_bipush hF (v := 21) d_X3_head_41 (by decide) ?_
      refine g_callV (As := [.int 21]) (rest := []) hF (c_X3_expect a g r σ7 (21 : Int32) hgp7 (by show ¬ (21 = 0 ∨ 21 = -1); have e0 : (21 : Int32).toInt = 21 := (by decide); have e1 := s_rng (σ7 3 2); have e2 : (6 : Int32).toInt = 6 := (by decide); omega) iσ7) (Nat.le_of_ble_eq_true rfl) mV_X3_expect m_903 (recv_ob obC_3) rfl rfl (Nat.le_of_ble_eq_true rfl) d_X3_head_43 (k_v (fun σ10 ⟨⟨hgp10, hgm10⟩, hs10, iσ10, ik10⟩ => ?_)) (fun _ _ _ h => h.elim)
      have hs10 : (σ10 3 3).toInt < 0 → (σ7 3 2).toInt = 21 := hs10
      have hmo10 : Mo σ10 σ7 := fun h9 => mo_e (show σ7 3 3 = σ7 3 3 from rfl) (hgm10 h9)
      have kp : Keep [(3, 1), (3, 2), (3, 3), (3, 4)] [18, 19, 20, 21, 23] σ0 σ10 := keep_c kp ik10 (by decide) (by decide)
      refine g_aload_n hF d_X3_head_46 rfl 1 rfl ?_
      refine g_get (v := .int (σ10 3 2)) hF 2 obC_3 (by decide) m_96 rfl d_X3_head_47 ?_
      refine g_bipush hF (v := 22) d_X3_head_50 (by decide) ?_
      refine g_icmp_ne (yv := 22) hF 59 d_X3_head_52 (by decide) rfl (by decide) (fun c11_52 => ?_) (fun c11_52 => ?_)
      · -- taken at 52
        refine g_iconst hF (v := 0) d_X3_head_59 (by decide) ?_
        refine g_istore hF [(5, .int 0), (4, .int 0), (0, .ref (r 3)), (1, .int a1), (2, .int a2), (3, .int a3)] d_X3_head_60 hnn (by decide) rfl ?_
        refine g_aload_n hF d_X3_head_62 rfl 2 rfl ?_
        refine g_bipush hF (v := 47) d_X3_head_63 (by decide) ?_
        refine g_iload_n hF d_X3_head_65 rfl 3 rfl ?_
        refine g_iload hF d_X3_head_66 1 rfl ?_
        refine g_iload_n hF d_X3_head_68 rfl 4 rfl ?_
        refine g_iconst hF (v := 1) d_X3_head_69 (by decide) ?_
        refine g_iadd hF d_X3_head_70 ?_
        refine g_bipush hF (v := 8) d_X3_head_71 (by decide) ?_
        refine g_imul hF d_X3_head_73 ?_
        refine g_any (fun v12 => ?_)
        refine g_iload_n hF d_X3_head_74 rfl 5 rfl ?_
        refine g_iadd hF d_X3_head_75 ?_
        refine g_iload hF d_X3_head_76 0 rfl ?_
        refine g_if_eq (xv := 0) hF 85 d_X3_head_78 (by decide) (by decide) (fun _ => ?_) (fun c_78 => absurd c_78 (by decide))
        refine g_iconst hF (v := 0) d_X3_head_85 (by decide) ?_
        refine g_iadd hF d_X3_head_86 ?_
        refine g_callV (As := [.int 47, .int a1, .int 0, .int ((v12 + a3) + 0)]) (rest := []) hF (c_X3_add a g r σ10 (47 : Int32) a1 (0 : Int32) ((v12 + a3) + 0) (fun _ h9 => (nm_keep (fun z => kp 14 z rfl rfl rfl) (hnm (hmo7 (hmo10 (mo_e (show σ10 3 3 = σ10 3 3 from rfl) h9)))))) hgp10 iσ10) (Nat.le_of_ble_eq_true rfl) mV_X3_add m_923 (recv_ob obC_3) rfl rfl (Nat.le_of_ble_eq_true rfl) d_X3_head_87 (k_i (fun r13 σ13 ⟨⟨hgp13, hgm13⟩, iσ13, ik13⟩ => ?_)) (fun _ _ _ h => h.elim)
        have hmo13 : Mo σ13 σ10 := fun h9 => mo_e (show σ10 3 3 = σ10 3 3 from rfl) (hgm13 h9)
        have kp : Keep [(3, 1), (3, 2), (3, 3), (3, 4)] [18, 19, 20, 21, 23] σ0 σ13 := keep_c kp ik13 (by decide) (by decide)
        refine g_pop hF d_X3_head_90 rfl ?_
        refine g_iload hF d_X3_head_91 0 rfl ?_
        refine g_if_ne (xv := 0) hF 102 d_X3_head_93 (by decide) (by decide) (fun c_93 => absurd c_93 (by decide)) (fun _ => ?_)
        refine g_aload_n hF d_X3_head_96 rfl 2 rfl ?_
        refine g_bipush hF (v := 27) d_X3_head_97 (by decide) ?_
        refine g_callV (As := [.int 27]) (rest := []) hF (c_X3_expect a g r σ13 (27 : Int32) hgp13 (by show ¬ (27 = 0 ∨ 27 = -1); have e0 : (27 : Int32).toInt = 27 := (by decide); omega) iσ13) (Nat.le_of_ble_eq_true rfl) mV_X3_expect m_903 (recv_ob obC_3) rfl rfl (Nat.le_of_ble_eq_true rfl) d_X3_head_99 (k_v (fun σ14 ⟨⟨hgp14, hgm14⟩, hs14, iσ14, ik14⟩ => ?_)) (fun _ _ _ h => h.elim)
        have hs14 : (σ14 3 3).toInt < 0 → (σ10 3 2).toInt = 27 := (by have h9 := hs14; rw [show (σ13 3 2) = (σ10 3 2) from (ik13 3 2 rfl rfl rfl)] at h9; exact h9)
        have hmo14 : Mo σ14 σ10 := fun h9 => mo_e (show σ13 3 3 = σ10 3 3 from (ik13 3 3 rfl rfl rfl)) (hgm14 h9)
        have kp : Keep [(3, 1), (3, 2), (3, 3), (3, 4)] [18, 19, 20, 21, 23] σ0 σ14 := keep_c kp ik14 (by decide) (by decide)
        refine g_iconst hF (v := 0) d_X3_head_102 (by decide) ?_
        refine g_istore hF [(6, .int 0), (5, .int 0), (4, .int 0), (0, .ref (r 3)), (1, .int a1), (2, .int a2), (3, .int a3)] d_X3_head_103 hnn (by decide) rfl ?_
        exact g_sub (L' := [(0, .ref (r 3)), (1, .int a1), (2, .int a2), (3, .int a3), (4, .int 0), (5, .int 0), (6, .int 0)]) [3, 4, 5, 6, 2, 1, 0] rfl (b105 _ σ14 a1 a2 a3 (0 : Int32) (0 : Int32) (0 : Int32) rfl iσ14 kp (Or.inl rfl) hgp14 (fun h9 => (hmo7 (hmo10 (hmo14 (mo_e (show σ14 3 3 = σ14 3 3 from rfl) h9))))))
      · -- not taken at 52
        refine g_iconst hF (v := 1) d_X3_head_55 (by decide) ?_
        refine g_goto hF 60 d_X3_head_56 (by decide) ?_
        refine g_istore hF [(5, .int 1), (4, .int 0), (0, .ref (r 3)), (1, .int a1), (2, .int a2), (3, .int a3)] d_X3_head_60 hnn (by decide) rfl ?_
        refine g_aload_n hF d_X3_head_62 rfl 2 rfl ?_
        refine g_bipush hF (v := 47) d_X3_head_63 (by decide) ?_
        refine g_iload_n hF d_X3_head_65 rfl 3 rfl ?_
        refine g_iload hF d_X3_head_66 1 rfl ?_
        refine g_iload_n hF d_X3_head_68 rfl 4 rfl ?_
        refine g_iconst hF (v := 1) d_X3_head_69 (by decide) ?_
        refine g_iadd hF d_X3_head_70 ?_
        refine g_bipush hF (v := 8) d_X3_head_71 (by decide) ?_
        refine g_imul hF d_X3_head_73 ?_
        refine g_any (fun v15 => ?_)
        refine g_iload_n hF d_X3_head_74 rfl 5 rfl ?_
        refine g_iadd hF d_X3_head_75 ?_
        refine g_iload hF d_X3_head_76 0 rfl ?_
        refine g_if_eq (xv := 1) hF 85 d_X3_head_78 (by decide) (by decide) (fun c_78 => absurd c_78 (by decide)) (fun _ => ?_)
        refine g_iconst hF (v := 4) d_X3_head_81 (by decide) ?_
        refine g_goto hF 86 d_X3_head_82 (by decide) ?_
        refine g_iadd hF d_X3_head_86 ?_
        refine g_callV (As := [.int 47, .int a1, .int 0, .int ((v15 + a3) + 4)]) (rest := []) hF (c_X3_add a g r σ10 (47 : Int32) a1 (0 : Int32) ((v15 + a3) + 4) (fun _ h9 => (nm_keep (fun z => kp 14 z rfl rfl rfl) (hnm (hmo7 (hmo10 (mo_e (show σ10 3 3 = σ10 3 3 from rfl) h9)))))) hgp10 iσ10) (Nat.le_of_ble_eq_true rfl) mV_X3_add m_923 (recv_ob obC_3) rfl rfl (Nat.le_of_ble_eq_true rfl) d_X3_head_87 (k_i (fun r16 σ16 ⟨⟨hgp16, hgm16⟩, iσ16, ik16⟩ => ?_)) (fun _ _ _ h => h.elim)
        have hmo16 : Mo σ16 σ10 := fun h9 => mo_e (show σ10 3 3 = σ10 3 3 from rfl) (hgm16 h9)
        have kp : Keep [(3, 1), (3, 2), (3, 3), (3, 4)] [18, 19, 20, 21, 23] σ0 σ16 := keep_c kp ik16 (by decide) (by decide)
        refine g_pop hF d_X3_head_90 rfl ?_
        refine g_iload hF d_X3_head_91 0 rfl ?_
        refine g_if_ne (xv := 1) hF 102 d_X3_head_93 (by decide) (by decide) (fun _ => ?_) (fun c_93 => absurd c_93 (by decide))
        refine g_iconst hF (v := 0) d_X3_head_102 (by decide) ?_
        refine g_istore hF [(6, .int 0), (5, .int 1), (4, .int 0), (0, .ref (r 3)), (1, .int a1), (2, .int a2), (3, .int a3)] d_X3_head_103 hnn (by decide) rfl ?_
        exact g_sub (L' := [(0, .ref (r 3)), (1, .int a1), (2, .int a2), (3, .int a3), (4, .int 0), (5, .int 1), (6, .int 0)]) [3, 4, 5, 6, 2, 1, 0] rfl (b105 _ σ16 a1 a2 a3 (0 : Int32) (1 : Int32) (0 : Int32) rfl iσ16 kp (Or.inr rfl) hgp16 (fun h9 => (hmo7 (hmo10 (mo_e (show σ16 3 3 = σ10 3 3 from (ik16 3 3 rfl rfl rfl)) h9)))))
    · -- not taken at 31
      refine g_aload_n hF d_X3_head_34 rfl 1 rfl ?_
      refine g_callV (As := []) (rest := []) hF (c_X3_parameters a g r σ7 hgp7 iσ7) (Nat.le_of_ble_eq_true rfl) mV_X3_parameters m_990 (recv_ob obC_3) rfl rfl (Nat.le_of_ble_eq_true rfl) d_X3_head_35 (k_i (fun r17 σ17 ⟨⟨hgp17, hgm17⟩, iσ17, ik17⟩ => ?_)) (fun _ _ _ h => h.elim)
      have hmo17 : Mo σ17 σ7 := fun h9 => mo_e (show σ7 3 3 = σ7 3 3 from rfl) (hgm17 h9)
      have kp : Keep [(3, 1), (3, 2), (3, 3), (3, 4)] [18, 19, 20, 21, 23] σ0 σ17 := keep_c kp ik17 (by decide) (by decide)
      refine g_istore hF [(4, .int r17), (0, .ref (r 3)), (1, .int a1), (2, .int a2), (3, .int a3)] d_X3_head_38 hnn (by decide) rfl ?_
      refine g_aload_n hF d_X3_head_40 rfl 1 rfl ?_
      refine g_bipush hF (v := 21) d_X3_head_41 (by decide) ?_
      refine g_callV (As := [.int 21]) (rest := []) hF (c_X3_expect a g r σ17 (21 : Int32) hgp17 (by show ¬ (21 = 0 ∨ 21 = -1); have e0 : (21 : Int32).toInt = 21 := (by decide); have e1 := s_rng (σ7 3 2); have e2 : (6 : Int32).toInt = 6 := (by decide); omega) iσ17) (Nat.le_of_ble_eq_true rfl) mV_X3_expect m_903 (recv_ob obC_3) rfl rfl (Nat.le_of_ble_eq_true rfl) d_X3_head_43 (k_v (fun σ18 ⟨⟨hgp18, hgm18⟩, hs18, iσ18, ik18⟩ => ?_)) (fun _ _ _ h => h.elim)
      have hs18 : (σ18 3 3).toInt < 0 → (σ17 3 2).toInt = 21 := hs18
      have hmo18 : Mo σ18 σ17 := fun h9 => mo_e (show σ17 3 3 = σ17 3 3 from rfl) (hgm18 h9)
      have kp : Keep [(3, 1), (3, 2), (3, 3), (3, 4)] [18, 19, 20, 21, 23] σ0 σ18 := keep_c kp ik18 (by decide) (by decide)
      refine g_aload_n hF d_X3_head_46 rfl 1 rfl ?_
      refine g_get (v := .int (σ18 3 2)) hF 2 obC_3 (by decide) m_96 rfl d_X3_head_47 ?_
      refine g_bipush hF (v := 22) d_X3_head_50 (by decide) ?_
      refine g_icmp_ne (yv := 22) hF 59 d_X3_head_52 (by decide) rfl (by decide) (fun c19_52 => ?_) (fun c19_52 => ?_)
      · -- taken at 52
        refine g_iconst hF (v := 0) d_X3_head_59 (by decide) ?_
        refine g_istore hF [(5, .int 0), (4, .int r17), (0, .ref (r 3)), (1, .int a1), (2, .int a2), (3, .int a3)] d_X3_head_60 hnn (by decide) rfl ?_
        refine g_aload_n hF d_X3_head_62 rfl 2 rfl ?_
        refine g_bipush hF (v := 47) d_X3_head_63 (by decide) ?_
        refine g_iload_n hF d_X3_head_65 rfl 3 rfl ?_
        refine g_iload hF d_X3_head_66 1 rfl ?_
        refine g_iload_n hF d_X3_head_68 rfl 4 rfl ?_
        refine g_iconst hF (v := 1) d_X3_head_69 (by decide) ?_
        refine g_iadd hF d_X3_head_70 ?_
        refine g_bipush hF (v := 8) d_X3_head_71 (by decide) ?_
        refine g_imul hF d_X3_head_73 ?_
        refine g_any (fun v20 => ?_)
        refine g_iload_n hF d_X3_head_74 rfl 5 rfl ?_
        refine g_iadd hF d_X3_head_75 ?_
        refine g_iload hF d_X3_head_76 0 rfl ?_
        refine g_if_eq (xv := 0) hF 85 d_X3_head_78 (by decide) (by decide) (fun _ => ?_) (fun c_78 => absurd c_78 (by decide))
        refine g_iconst hF (v := 0) d_X3_head_85 (by decide) ?_
        refine g_iadd hF d_X3_head_86 ?_
        refine g_callV (As := [.int 47, .int a1, .int r17, .int ((v20 + a3) + 0)]) (rest := []) hF (c_X3_add a g r σ18 (47 : Int32) a1 r17 ((v20 + a3) + 0) (fun _ h9 => (nm_keep (fun z => kp 14 z rfl rfl rfl) (hnm (hmo7 (hmo17 (hmo18 (mo_e (show σ18 3 3 = σ18 3 3 from rfl) h9))))))) hgp18 iσ18) (Nat.le_of_ble_eq_true rfl) mV_X3_add m_923 (recv_ob obC_3) rfl rfl (Nat.le_of_ble_eq_true rfl) d_X3_head_87 (k_i (fun r21 σ21 ⟨⟨hgp21, hgm21⟩, iσ21, ik21⟩ => ?_)) (fun _ _ _ h => h.elim)
        have hmo21 : Mo σ21 σ18 := fun h9 => mo_e (show σ18 3 3 = σ18 3 3 from rfl) (hgm21 h9)
        have kp : Keep [(3, 1), (3, 2), (3, 3), (3, 4)] [18, 19, 20, 21, 23] σ0 σ21 := keep_c kp ik21 (by decide) (by decide)
        refine g_pop hF d_X3_head_90 rfl ?_
        refine g_iload hF d_X3_head_91 0 rfl ?_
        refine g_if_ne (xv := 0) hF 102 d_X3_head_93 (by decide) (by decide) (fun c_93 => absurd c_93 (by decide)) (fun _ => ?_)
        refine g_aload_n hF d_X3_head_96 rfl 2 rfl ?_
        refine g_bipush hF (v := 27) d_X3_head_97 (by decide) ?_
        refine g_callV (As := [.int 27]) (rest := []) hF (c_X3_expect a g r σ21 (27 : Int32) hgp21 (by show ¬ (27 = 0 ∨ 27 = -1); have e0 : (27 : Int32).toInt = 27 := (by decide); omega) iσ21) (Nat.le_of_ble_eq_true rfl) mV_X3_expect m_903 (recv_ob obC_3) rfl rfl (Nat.le_of_ble_eq_true rfl) d_X3_head_99 (k_v (fun σ22 ⟨⟨hgp22, hgm22⟩, hs22, iσ22, ik22⟩ => ?_)) (fun _ _ _ h => h.elim)
        have hs22 : (σ22 3 3).toInt < 0 → (σ18 3 2).toInt = 27 := (by have h9 := hs22; rw [show (σ21 3 2) = (σ18 3 2) from (ik21 3 2 rfl rfl rfl)] at h9; exact h9)
        have hmo22 : Mo σ22 σ18 := fun h9 => mo_e (show σ21 3 3 = σ18 3 3 from (ik21 3 3 rfl rfl rfl)) (hgm22 h9)
        have kp : Keep [(3, 1), (3, 2), (3, 3), (3, 4)] [18, 19, 20, 21, 23] σ0 σ22 := keep_c kp ik22 (by decide) (by decide)
        refine g_iconst hF (v := 0) d_X3_head_102 (by decide) ?_
        refine g_istore hF [(6, .int 0), (5, .int 0), (4, .int r17), (0, .ref (r 3)), (1, .int a1), (2, .int a2), (3, .int a3)] d_X3_head_103 hnn (by decide) rfl ?_
        exact g_sub (L' := [(0, .ref (r 3)), (1, .int a1), (2, .int a2), (3, .int a3), (4, .int r17), (5, .int 0), (6, .int 0)]) [3, 4, 5, 6, 2, 1, 0] rfl (b105 _ σ22 a1 a2 a3 r17 (0 : Int32) (0 : Int32) rfl iσ22 kp (Or.inl rfl) hgp22 (fun h9 => (hmo7 (hmo17 (hmo18 (hmo22 (mo_e (show σ22 3 3 = σ22 3 3 from rfl) h9)))))))
      · -- not taken at 52
        refine g_iconst hF (v := 1) d_X3_head_55 (by decide) ?_
        refine g_goto hF 60 d_X3_head_56 (by decide) ?_
        refine g_istore hF [(5, .int 1), (4, .int r17), (0, .ref (r 3)), (1, .int a1), (2, .int a2), (3, .int a3)] d_X3_head_60 hnn (by decide) rfl ?_
        refine g_aload_n hF d_X3_head_62 rfl 2 rfl ?_
        refine g_bipush hF (v := 47) d_X3_head_63 (by decide) ?_
        refine g_iload_n hF d_X3_head_65 rfl 3 rfl ?_
        refine g_iload hF d_X3_head_66 1 rfl ?_
        refine g_iload_n hF d_X3_head_68 rfl 4 rfl ?_
        refine g_iconst hF (v := 1) d_X3_head_69 (by decide) ?_
        refine g_iadd hF d_X3_head_70 ?_
        refine g_bipush hF (v := 8) d_X3_head_71 (by decide) ?_
        refine g_imul hF d_X3_head_73 ?_
        refine g_any (fun v23 => ?_)
        refine g_iload_n hF d_X3_head_74 rfl 5 rfl ?_
        refine g_iadd hF d_X3_head_75 ?_
        refine g_iload hF d_X3_head_76 0 rfl ?_
        refine g_if_eq (xv := 1) hF 85 d_X3_head_78 (by decide) (by decide) (fun c_78 => absurd c_78 (by decide)) (fun _ => ?_)
        refine g_iconst hF (v := 4) d_X3_head_81 (by decide) ?_
        refine g_goto hF 86 d_X3_head_82 (by decide) ?_
        refine g_iadd hF d_X3_head_86 ?_
        refine g_callV (As := [.int 47, .int a1, .int r17, .int ((v23 + a3) + 4)]) (rest := []) hF (c_X3_add a g r σ18 (47 : Int32) a1 r17 ((v23 + a3) + 4) (fun _ h9 => (nm_keep (fun z => kp 14 z rfl rfl rfl) (hnm (hmo7 (hmo17 (hmo18 (mo_e (show σ18 3 3 = σ18 3 3 from rfl) h9))))))) hgp18 iσ18) (Nat.le_of_ble_eq_true rfl) mV_X3_add m_923 (recv_ob obC_3) rfl rfl (Nat.le_of_ble_eq_true rfl) d_X3_head_87 (k_i (fun r24 σ24 ⟨⟨hgp24, hgm24⟩, iσ24, ik24⟩ => ?_)) (fun _ _ _ h => h.elim)
        have hmo24 : Mo σ24 σ18 := fun h9 => mo_e (show σ18 3 3 = σ18 3 3 from rfl) (hgm24 h9)
        have kp : Keep [(3, 1), (3, 2), (3, 3), (3, 4)] [18, 19, 20, 21, 23] σ0 σ24 := keep_c kp ik24 (by decide) (by decide)
        refine g_pop hF d_X3_head_90 rfl ?_
        refine g_iload hF d_X3_head_91 0 rfl ?_
        refine g_if_ne (xv := 1) hF 102 d_X3_head_93 (by decide) (by decide) (fun _ => ?_) (fun c_93 => absurd c_93 (by decide))
        refine g_iconst hF (v := 0) d_X3_head_102 (by decide) ?_
        refine g_istore hF [(6, .int 0), (5, .int 1), (4, .int r17), (0, .ref (r 3)), (1, .int a1), (2, .int a2), (3, .int a3)] d_X3_head_103 hnn (by decide) rfl ?_
        exact g_sub (L' := [(0, .ref (r 3)), (1, .int a1), (2, .int a2), (3, .int a3), (4, .int r17), (5, .int 1), (6, .int 0)]) [3, 4, 5, 6, 2, 1, 0] rfl (b105 _ σ24 a1 a2 a3 r17 (1 : Int32) (0 : Int32) rfl iσ24 kp (Or.inr rfl) hgp24 (fun h9 => (hmo7 (hmo17 (hmo18 (mo_e (show σ24 3 3 = σ18 3 3 from (ik24 3 3 rfl rfl rfl)) h9))))))
  · -- not taken at 15
    refine g_aload_n hF d_X3_head_18 rfl 1 rfl ?_
    refine g_callV (As := []) (rest := []) hF (c_X3_advance a g r σ7 hgp7.2.2 (by show -1 ≤ (σ7 3 1).toInt ∧ (σ7 3 1).toInt ≤ 16001; have hki := hgp7.2.1.1; have hgz := hgp7.1; have e0 := s_rng (σ7 3 1); have e1 := s_rng (σ0 3 1); omega) iσ7) (Nat.le_of_ble_eq_true rfl) mV_X3_advance m_899 (recv_ob obC_3) rfl rfl (Nat.le_of_ble_eq_true rfl) d_X3_head_19 (k_v (fun σ25 ⟨⟨hgp25, hgm25⟩, hs25, iσ25, ik25⟩ => ?_)) (fun _ _ _ h => h.elim)
    have hs25 : (σ25 3 1).toInt = (σ7 3 1).toInt + 1 := hs25
    have hmo25 : Mo σ25 σ7 := fun h9 => mo_e (show σ7 3 3 = σ7 3 3 from rfl) (hgm25 h9)
    have kp : Keep [(3, 1), (3, 2), (3, 3), (3, 4)] [18, 19, 20, 21, 23] σ0 σ25 := keep_c kp ik25 (by decide) (by decide)
    refine g_goto hF 40 d_X3_head_22 (by decide) ?_
    refine g_aload_n hF d_X3_head_40 rfl 1 rfl ?_
    refine g_bipush hF (v := 21) d_X3_head_41 (by decide) ?_
    refine g_callV (As := [.int 21]) (rest := []) hF (c_X3_expect a g r σ25 (21 : Int32) hgp25 (by show ¬ (21 = 0 ∨ 21 = -1); have e0 : (21 : Int32).toInt = 21 := (by decide); omega) iσ25) (Nat.le_of_ble_eq_true rfl) mV_X3_expect m_903 (recv_ob obC_3) rfl rfl (Nat.le_of_ble_eq_true rfl) d_X3_head_43 (k_v (fun σ26 ⟨⟨hgp26, hgm26⟩, hs26, iσ26, ik26⟩ => ?_)) (fun _ _ _ h => h.elim)
    have hs26 : (σ26 3 3).toInt < 0 → (σ25 3 2).toInt = 21 := hs26
    have hmo26 : Mo σ26 σ7 := fun h9 => mo_e (show σ25 3 3 = σ7 3 3 from (ik25 3 3 rfl rfl rfl)) (hgm26 h9)
    have kp : Keep [(3, 1), (3, 2), (3, 3), (3, 4)] [18, 19, 20, 21, 23] σ0 σ26 := keep_c kp ik26 (by decide) (by decide)
    refine g_aload_n hF d_X3_head_46 rfl 1 rfl ?_
    refine g_get (v := .int (σ26 3 2)) hF 2 obC_3 (by decide) m_96 rfl d_X3_head_47 ?_
    refine g_bipush hF (v := 22) d_X3_head_50 (by decide) ?_
    refine g_icmp_ne (yv := 22) hF 59 d_X3_head_52 (by decide) rfl (by decide) (fun c27_52 => ?_) (fun c27_52 => ?_)
    · -- taken at 52
      refine g_iconst hF (v := 0) d_X3_head_59 (by decide) ?_
      refine g_istore hF [(5, .int 0), (4, .int 0), (0, .ref (r 3)), (1, .int a1), (2, .int a2), (3, .int a3)] d_X3_head_60 hnn (by decide) rfl ?_
      refine g_aload_n hF d_X3_head_62 rfl 2 rfl ?_
      refine g_bipush hF (v := 47) d_X3_head_63 (by decide) ?_
      refine g_iload_n hF d_X3_head_65 rfl 3 rfl ?_
      refine g_iload hF d_X3_head_66 1 rfl ?_
      refine g_iload_n hF d_X3_head_68 rfl 4 rfl ?_
      refine g_iconst hF (v := 1) d_X3_head_69 (by decide) ?_
      refine g_iadd hF d_X3_head_70 ?_
      refine g_bipush hF (v := 8) d_X3_head_71 (by decide) ?_
      refine g_imul hF d_X3_head_73 ?_
      refine g_any (fun v28 => ?_)
      refine g_iload_n hF d_X3_head_74 rfl 5 rfl ?_
      refine g_iadd hF d_X3_head_75 ?_
      refine g_iload hF d_X3_head_76 0 rfl ?_
      refine g_if_eq (xv := 0) hF 85 d_X3_head_78 (by decide) (by decide) (fun _ => ?_) (fun c_78 => absurd c_78 (by decide))
      refine g_iconst hF (v := 0) d_X3_head_85 (by decide) ?_
      refine g_iadd hF d_X3_head_86 ?_
      refine g_callV (As := [.int 47, .int a1, .int 0, .int ((v28 + a3) + 0)]) (rest := []) hF (c_X3_add a g r σ26 (47 : Int32) a1 (0 : Int32) ((v28 + a3) + 0) (fun _ h9 => (nm_keep (fun z => kp 14 z rfl rfl rfl) (hnm (hmo7 (hmo26 (mo_e (show σ26 3 3 = σ26 3 3 from rfl) h9)))))) hgp26 iσ26) (Nat.le_of_ble_eq_true rfl) mV_X3_add m_923 (recv_ob obC_3) rfl rfl (Nat.le_of_ble_eq_true rfl) d_X3_head_87 (k_i (fun r29 σ29 ⟨⟨hgp29, hgm29⟩, iσ29, ik29⟩ => ?_)) (fun _ _ _ h => h.elim)
      have hmo29 : Mo σ29 σ26 := fun h9 => mo_e (show σ26 3 3 = σ26 3 3 from rfl) (hgm29 h9)
      have kp : Keep [(3, 1), (3, 2), (3, 3), (3, 4)] [18, 19, 20, 21, 23] σ0 σ29 := keep_c kp ik29 (by decide) (by decide)
      refine g_pop hF d_X3_head_90 rfl ?_
      refine g_iload hF d_X3_head_91 0 rfl ?_
      refine g_if_ne (xv := 0) hF 102 d_X3_head_93 (by decide) (by decide) (fun c_93 => absurd c_93 (by decide)) (fun _ => ?_)
      refine g_aload_n hF d_X3_head_96 rfl 2 rfl ?_
      refine g_bipush hF (v := 27) d_X3_head_97 (by decide) ?_
      refine g_callV (As := [.int 27]) (rest := []) hF (c_X3_expect a g r σ29 (27 : Int32) hgp29 (by show ¬ (27 = 0 ∨ 27 = -1); have e0 : (27 : Int32).toInt = 27 := (by decide); omega) iσ29) (Nat.le_of_ble_eq_true rfl) mV_X3_expect m_903 (recv_ob obC_3) rfl rfl (Nat.le_of_ble_eq_true rfl) d_X3_head_99 (k_v (fun σ30 ⟨⟨hgp30, hgm30⟩, hs30, iσ30, ik30⟩ => ?_)) (fun _ _ _ h => h.elim)
      have hs30 : (σ30 3 3).toInt < 0 → (σ26 3 2).toInt = 27 := (by have h9 := hs30; rw [show (σ29 3 2) = (σ26 3 2) from (ik29 3 2 rfl rfl rfl)] at h9; exact h9)
      have hmo30 : Mo σ30 σ26 := fun h9 => mo_e (show σ29 3 3 = σ26 3 3 from (ik29 3 3 rfl rfl rfl)) (hgm30 h9)
      have kp : Keep [(3, 1), (3, 2), (3, 3), (3, 4)] [18, 19, 20, 21, 23] σ0 σ30 := keep_c kp ik30 (by decide) (by decide)
      refine g_iconst hF (v := 0) d_X3_head_102 (by decide) ?_
      refine g_istore hF [(6, .int 0), (5, .int 0), (4, .int 0), (0, .ref (r 3)), (1, .int a1), (2, .int a2), (3, .int a3)] d_X3_head_103 hnn (by decide) rfl ?_
      exact g_sub (L' := [(0, .ref (r 3)), (1, .int a1), (2, .int a2), (3, .int a3), (4, .int 0), (5, .int 0), (6, .int 0)]) [3, 4, 5, 6, 2, 1, 0] rfl (b105 _ σ30 a1 a2 a3 (0 : Int32) (0 : Int32) (0 : Int32) rfl iσ30 kp (Or.inl rfl) hgp30 (fun h9 => (hmo7 (hmo26 (hmo30 (mo_e (show σ30 3 3 = σ30 3 3 from rfl) h9))))))
    · -- not taken at 52
      refine g_iconst hF (v := 1) d_X3_head_55 (by decide) ?_
      refine g_goto hF 60 d_X3_head_56 (by decide) ?_
      refine g_istore hF [(5, .int 1), (4, .int 0), (0, .ref (r 3)), (1, .int a1), (2, .int a2), (3, .int a3)] d_X3_head_60 hnn (by decide) rfl ?_
      refine g_aload_n hF d_X3_head_62 rfl 2 rfl ?_
      refine g_bipush hF (v := 47) d_X3_head_63 (by decide) ?_
      refine g_iload_n hF d_X3_head_65 rfl 3 rfl ?_
      refine g_iload hF d_X3_head_66 1 rfl ?_
      refine g_iload_n hF d_X3_head_68 rfl 4 rfl ?_
      refine g_iconst hF (v := 1) d_X3_head_69 (by decide) ?_
      refine g_iadd hF d_X3_head_70 ?_
      refine g_bipush hF (v := 8) d_X3_head_71 (by decide) ?_
      refine g_imul hF d_X3_head_73 ?_
      refine g_any (fun v31 => ?_)
      refine g_iload_n hF d_X3_head_74 rfl 5 rfl ?_
      refine g_iadd hF d_X3_head_75 ?_
      refine g_iload hF d_X3_head_76 0 rfl ?_
      refine g_if_eq (xv := 1) hF 85 d_X3_head_78 (by decide) (by decide) (fun c_78 => absurd c_78 (by decide)) (fun _ => ?_)
      refine g_iconst hF (v := 4) d_X3_head_81 (by decide) ?_
      refine g_goto hF 86 d_X3_head_82 (by decide) ?_
      refine g_iadd hF d_X3_head_86 ?_
      refine g_callV (As := [.int 47, .int a1, .int 0, .int ((v31 + a3) + 4)]) (rest := []) hF (c_X3_add a g r σ26 (47 : Int32) a1 (0 : Int32) ((v31 + a3) + 4) (fun _ h9 => (nm_keep (fun z => kp 14 z rfl rfl rfl) (hnm (hmo7 (hmo26 (mo_e (show σ26 3 3 = σ26 3 3 from rfl) h9)))))) hgp26 iσ26) (Nat.le_of_ble_eq_true rfl) mV_X3_add m_923 (recv_ob obC_3) rfl rfl (Nat.le_of_ble_eq_true rfl) d_X3_head_87 (k_i (fun r32 σ32 ⟨⟨hgp32, hgm32⟩, iσ32, ik32⟩ => ?_)) (fun _ _ _ h => h.elim)
      have hmo32 : Mo σ32 σ26 := fun h9 => mo_e (show σ26 3 3 = σ26 3 3 from rfl) (hgm32 h9)
      have kp : Keep [(3, 1), (3, 2), (3, 3), (3, 4)] [18, 19, 20, 21, 23] σ0 σ32 := keep_c kp ik32 (by decide) (by decide)
      refine g_pop hF d_X3_head_90 rfl ?_
      refine g_iload hF d_X3_head_91 0 rfl ?_
      refine g_if_ne (xv := 1) hF 102 d_X3_head_93 (by decide) (by decide) (fun _ => ?_) (fun c_93 => absurd c_93 (by decide))
      refine g_iconst hF (v := 0) d_X3_head_102 (by decide) ?_
      refine g_istore hF [(6, .int 0), (5, .int 1), (4, .int 0), (0, .ref (r 3)), (1, .int a1), (2, .int a2), (3, .int a3)] d_X3_head_103 hnn (by decide) rfl ?_
      exact g_sub (L' := [(0, .ref (r 3)), (1, .int a1), (2, .int a2), (3, .int a3), (4, .int 0), (5, .int 1), (6, .int 0)]) [3, 4, 5, 6, 2, 1, 0] rfl (b105 _ σ32 a1 a2 a3 (0 : Int32) (1 : Int32) (0 : Int32) rfl iσ32 kp (Or.inr rfl) hgp32 (fun h9 => (hmo7 (hmo26 (mo_e (show σ32 3 3 = σ26 3 3 from (ik32 3 3 rfl rfl rfl)) h9)))))
set_option maxHeartbeats 4000000 in
set_option maxRecDepth 100000 in
theorem c_X4_definition (a : Nat → Nat) (g : Nat → Nat → Int32) (r : Nat → Nat) (σ0 : St) (a1 : Int32) (a2 : Int32) (i0 : Inv σ0) (l : Launch) (D : va_G) (cy : Nat → ClassId) : Ct l D cy SC r (EC a g) y_X4_definition (Cond.code y_X4_definition b_X4_definition 4 (some .int)) 3 [.ref (r 10), .int a1, .int a2] σ0 Z0 [] (QI (fun _ σ9 => σ9 = σ0)) QF := by
  refine Ct_of (EC_ok a g) (by decide) (Nat.le_of_ble_eq_true rfl) (by decide) (fun X hnn hF => ?_)
  show G SC r X σ0 Z0 [] [(0, .ref (r 10)), (1, .int a1), (2, .int a2)] [] 0
  refine g_aload_n hF d_X4_definition_0 rfl 0 rfl ?_
  refine g_get (v := .ref (r 5)) hF 0 obC_10 (by decide) m_597 rfl d_X4_definition_1 ?_
  refine g_iload_n hF d_X4_definition_4 rfl 2 rfl ?_
  refine g_callVN (As := [.int a2]) (rest := []) hF (c_X8_nameStart a g r σ0 a2 i0) (Nat.le_of_ble_eq_true rfl) mV_X8_nameStart nm_1584 (recv_ob obC_5) rfl rfl (Nat.le_of_ble_eq_true rfl) d_X4_definition_5 (k_rop (fun r1 hp1 => ?_))
  have hp1 : 0 ≤ r1.toInt ∧ r1.toInt ≤ 65600 := hp1
  refine g_istore_n hF [(3, .int r1), (0, .ref (r 10)), (1, .int a1), (2, .int a2)] d_X4_definition_8 rfl hnn (by decide) rfl ?_
  refine g_aload_n hF d_X4_definition_9 rfl 1 rfl ?_
  refine g_aload_n hF d_X4_definition_10 rfl 1 rfl ?_
  refine g_get (v := .ref (r 56)) hF 6 obC_10 (by decide) m_606 rfl d_X4_definition_11 ?_
  refine g_iload_n hF d_X4_definition_14 rfl 2 rfl ?_
  refine g_aload_n hF d_X4_definition_15 rfl 1 rfl ?_
  refine g_get (v := .ref (r 5)) hF 0 obC_10 (by decide) m_597 rfl d_X4_definition_16 ?_
  refine g_getN (v := .ref (r 30)) hF 8 obC_5 (by decide) nm_241 rfl d_X4_definition_19 ?_
  refine g_iload_n hF d_X4_definition_22 rfl 0 rfl ?_
  refine g_aload_n hF d_X4_definition_23 rfl 1 rfl ?_
  refine g_get (v := .ref (r 5)) hF 0 obC_10 (by decide) m_597 rfl d_X4_definition_24 ?_
  refine g_getN (v := .ref (r 29)) hF 6 obC_5 (by decide) nm_238 rfl d_X4_definition_27 ?_
  refine g_iload_n hF d_X4_definition_30 rfl 3 rfl ?_
  refine g_callSN (As := [.ref (r 29), .int a2]) (rest := [.int r1, .ref (r 30), .int a1, .ref (r 56), .ref (r 10)]) hF (c_at a g r σ0 arC_29 (by decide) a2) (Nat.le_of_ble_eq_true rfl) mS_X12_at nm_1552 rfl rfl (Nat.le_of_ble_eq_true rfl) d_X4_definition_31 (k_rop (fun r2 hr2 => ?_))
  have hr2 : 0 ≤ r2.toInt ∧ r2.toInt ≤ 65600 := acr_at i0.2.2.2.2.2.2.2.2.2.2.2.2.2.2.2.1 (by decide) (by decide) (hr2.imp And.left (fun h => ⟨_, h.2⟩))
  refine g_iload_n hF d_X4_definition_34 rfl 0 rfl ?_
  refine g_isub hF d_X4_definition_35 ?_
  refine g_callV (As := [.ref (r 56), .int a1, .ref (r 30), .int r1, .int (r2 - r1)]) (rest := []) hF (c_X4_find_r10_r56_r30 a g r σ0 a1 r1 (r2 - r1) i0) (Nat.le_of_ble_eq_true rfl) mV_X4_find m_1562 (recv_ob obC_10) rfl rfl (Nat.le_of_ble_eq_true rfl) d_X4_definition_36 (k_ro (fun r3 => ?_)) (fun _ _ _ h => h.elim)
  exact g_iret hF rfl d_X4_definition_39 ⟨rfl, rfl, r3, rfl, rfl⟩
set_option maxHeartbeats 4000000 in
set_option maxRecDepth 100000 in
theorem c_X4_refer (a : Nat → Nat) (g : Nat → Nat → Int32) (r : Nat → Nat) (σ0 : St) (a1 : Int32) (i0 : Inv σ0) (l : Launch) (D : va_G) (cy : Nat → ClassId) : Ct l D cy SC r (EC a g) y_X4_refer (Cond.code y_X4_refer b_X4_refer 3 none) 4 [.ref (r 10), .int a1] σ0 Z0 [] (QV (fun σ9 => (Inv σ9 ∧ Keep [] [59] σ0 σ9))) QF := by
  refine Ct_of (EC_ok a g) (by decide) (Nat.le_of_ble_eq_true rfl) (by decide) (fun X hnn hF => ?_)
  show G SC r X σ0 Z0 [] [(0, .ref (r 10)), (1, .int a1)] [] 0
  have b9 : ∀ (N : Nat) (σ : St) (x1 : Int32) (x2 : Int32) , upm x2 = N → Inv σ → Keep [] [59] σ0 σ → G SC r X σ Z0 [] [(0, .ref (r 10)), (1, .int x1), (2, .int x2)] [] 9 := by
    intro M9
    induction M9 using Nat.strongRecOn with
    | _ M9 ih9 =>
      intro σ x1 x2 N9 inv kp
      refine g_iload_n hF d_X4_refer_9 rfl 2 rfl ?_
      refine g_aload_n hF d_X4_refer_10 rfl 0 rfl ?_
      refine g_get (v := .ref (r 5)) hF 0 obC_10 (by decide) m_597 rfl d_X4_refer_11 ?_
      refine g_getN (v := .ref (r 34)) hF 14 obC_5 (by decide) nm_253 rfl d_X4_refer_14 ?_
      refine g_iload_n hF d_X4_refer_17 rfl 1 rfl ?_
      refine g_callSN (As := [.ref (r 34), .int x1]) (rest := [.int x2]) hF (c_at a g r σ arC_34 (by decide) x1) (Nat.le_of_ble_eq_true rfl) mS_X12_at nm_1552 rfl rfl (Nat.le_of_ble_eq_true rfl) d_X4_refer_18 (k_rop (fun r1 hr1 => ?_))
      have hr1 : 0 ≤ r1.toInt ∧ r1.toInt ≤ 10100 := acr_at inv.2.2.2.2.2.2.2.2.2.2.2.2.2.1 (by decide) (by decide) (hr1.imp And.left (fun h => ⟨_, h.2⟩))
      refine g_icmp_ge hF 66 d_X4_refer_21 (by decide) rfl rfl (fun c2_21 => ?_) (fun c2_21 => ?_)
      · -- taken at 21
        exact g_vret hF rfl d_X4_refer_66 ⟨rfl, rfl, rfl, ⟨inv, kp⟩⟩
      · -- not taken at 21
        refine g_aload_n hF d_X4_refer_24 rfl 0 rfl ?_
        refine g_get (v := .ref (r 5)) hF 0 obC_10 (by decide) m_597 rfl d_X4_refer_25 ?_
        refine g_iload_n hF d_X4_refer_28 rfl 2 rfl ?_
        refine g_iconst hF (v := 4) d_X4_refer_29 (by decide) ?_
        refine g_callVN (As := [.int x2, .int 4]) (rest := []) hF (c_X8_is a g r σ x2 (4 : Int32) inv) (Nat.le_of_ble_eq_true rfl) mV_X8_is nm_1567 (recv_ob obC_5) rfl rfl (Nat.le_of_ble_eq_true rfl) d_X4_refer_30 (k_roz (fun r3 hz3 => ?_))
        refine g_if_ne hF 60 d_X4_refer_33 (by decide) rfl (fun c4_33 => ?_) (fun c4_33 => ?_)
        · -- taken at 33
          refine g_iinc hF (x2 + 1) [(2, .int (x2 + 1)), (0, .ref (r 10)), (1, .int x1)] d_X4_refer_60 2 rfl rfl hnn (by decide) rfl ?_
          refine g_goto hF 9 d_X4_refer_63 (by decide) ?_
          exact g_sub (L' := [(0, .ref (r 10)), (1, .int x1), (2, .int (x2 + 1))]) [1, 2, 0] rfl (ih9 _ (N9 ▸ upm_lt c2_21 (s_rng r1).2) σ x1 (x2 + 1) rfl inv kp)
        · -- not taken at 33
          refine g_aload_n hF d_X4_refer_36 rfl 0 rfl ?_
          refine g_get (v := .ref (r 59)) hF 10 obC_10 (by decide) m_611 rfl d_X4_refer_37 ?_
          refine g_iload_n hF d_X4_refer_40 rfl 2 rfl ?_
          refine g_aload_n hF d_X4_refer_41 rfl 0 rfl ?_
          refine g_get (v := .ref (r 59)) hF 10 obC_10 (by decide) m_611 rfl d_X4_refer_42 ?_
          refine g_aload_n hF d_X4_refer_45 rfl 0 rfl ?_
          refine g_aload_n hF d_X4_refer_46 rfl 0 rfl ?_
          refine g_get (v := .int (σ 10 7)) hF 7 obC_10 (by decide) m_607 rfl d_X4_refer_47 ?_
          refine g_iload_n hF d_X4_refer_50 rfl 2 rfl ?_
          refine g_callV (As := [.int (σ 10 7), .int x2]) (rest := [.ref (r 59), .int x2, .ref (r 59)]) hF (c_X4_definition a g r σ (σ 10 7) x2 inv) (Nat.le_of_ble_eq_true rfl) mV_X4_definition m_1580 (recv_ob obC_10) rfl rfl (Nat.le_of_ble_eq_true rfl) d_X4_refer_51 (k_ro (fun r5 => ?_)) (fun _ _ _ h => h.elim)
          refine g_callSN (As := [.ref (r 59), .int r5]) (rest := [.int x2, .ref (r 59)]) hF (c_at a g r σ arC_59 (by decide) r5) (Nat.le_of_ble_eq_true rfl) mS_X12_at nm_1552 rfl rfl (Nat.le_of_ble_eq_true rfl) d_X4_refer_54 (k_rop (fun r6 hr6 => ?_))
          refine g_callSN (As := [.ref (r 59), .int x2, .int r6]) (rest := []) hF (c_set a g r σ arC_59 (by decide) x2 r6) (Nat.le_of_ble_eq_true rfl) mS_X12_set nm_1553 rfl rfl (Nat.le_of_ble_eq_true rfl) d_X4_refer_57 (k_v (fun σ7 ⟨g7, eσ7, hg7⟩ => ?_))
          subst eσ7
          have kp : Keep [] [59] σ0 (upF σ 59 g7) := keep_F kp (by decide)
          refine g_iinc hF (x2 + 1) [(2, .int (x2 + 1)), (0, .ref (r 10)), (1, .int x1)] d_X4_refer_60 2 rfl rfl hnn (by decide) rfl ?_
          refine g_goto hF 9 d_X4_refer_63 (by decide) ?_
          have j8 : Inv (upF σ 59 g7) := ⟨inv.1, inv.2.1, inv.2.2.1, inv.2.2.2.1, inv.2.2.2.2.1, inv.2.2.2.2.2.1, inv.2.2.2.2.2.2.1, inv.2.2.2.2.2.2.2.1, inv.2.2.2.2.2.2.2.2.1, inv.2.2.2.2.2.2.2.2.2.1, inv.2.2.2.2.2.2.2.2.2.2.1, inv.2.2.2.2.2.2.2.2.2.2.2.1, inv.2.2.2.2.2.2.2.2.2.2.2.2.1, inv.2.2.2.2.2.2.2.2.2.2.2.2.2.1, inv.2.2.2.2.2.2.2.2.2.2.2.2.2.2.1, inv.2.2.2.2.2.2.2.2.2.2.2.2.2.2.2.1, inv.2.2.2.2.2.2.2.2.2.2.2.2.2.2.2.2.1, inv.2.2.2.2.2.2.2.2.2.2.2.2.2.2.2.2.2.1, inv.2.2.2.2.2.2.2.2.2.2.2.2.2.2.2.2.2.2.1, inv.2.2.2.2.2.2.2.2.2.2.2.2.2.2.2.2.2.2.2⟩
          exact g_sub (L' := [(0, .ref (r 10)), (1, .int x1), (2, .int (x2 + 1))]) [1, 2, 0] rfl (ih9 _ (N9 ▸ upm_lt c2_21 (s_rng r1).2) (upF σ 59 g7) x1 (x2 + 1) rfl j8 kp)
  have kp : Keep [] [59] σ0 σ0 := keep_rf
  refine g_aload_n hF d_X4_refer_0 rfl 0 rfl ?_
  refine g_get (v := .ref (r 5)) hF 0 obC_10 (by decide) m_597 rfl d_X4_refer_1 ?_
  refine g_iload_n hF d_X4_refer_4 rfl 1 rfl ?_
  refine g_callVN (As := [.int a1]) (rest := []) hF (c_X8_firstOf a g r σ0 a1 i0) (Nat.le_of_ble_eq_true rfl) mV_X8_firstOf nm_1566 (recv_ob obC_5) rfl rfl (Nat.le_of_ble_eq_true rfl) d_X4_refer_5 (k_ro (fun r9 => ?_))
  refine g_istore_n hF [(2, .int r9), (0, .ref (r 10)), (1, .int a1)] d_X4_refer_8 rfl hnn (by decide) rfl ?_
  exact g_sub (L' := [(0, .ref (r 10)), (1, .int a1), (2, .int r9)]) [1, 2, 0] rfl (b9 _ σ0 a1 r9 rfl i0 kp)
set_option maxHeartbeats 4000000 in
set_option maxRecDepth 100000 in
theorem c_X4_find_r10_r57_r1 (a : Nat → Nat) (g : Nat → Nat → Int32) (r : Nat → Nat) (σ0 : St) (a2 : Int32) (a4 : Int32) (a5 : Int32) (i0 : Inv σ0) (l : Launch) (D : va_G) (cy : Nat → ClassId) : Ct l D cy SC r (EC a g) y_X4_find (Cond.code y_X4_find b_X4_find 9 (some .int)) 2 [.ref (r 10), .ref (r 57), .int a2, .ref (r 1), .int a4, .int a5] σ0 Z0 [] (QI (fun _ σ9 => σ9 = σ0)) QF := by
  refine Ct_of (EC_ok a g) (by decide) (Nat.le_of_ble_eq_true rfl) (by decide) (fun X hnn hF => ?_)
  show G SC r X σ0 Z0 [] [(0, .ref (r 10)), (1, .ref (r 57)), (2, .int a2), (3, .ref (r 1)), (4, .int a4), (5, .int a5)] [] 0
  have b3 : ∀ (N : Nat) (x2 : Int32) (x4 : Int32) (x5 : Int32) (x6 : Int32) , upm x6 = N → G SC r X σ0 Z0 [] [(0, .ref (r 10)), (1, .ref (r 57)), (2, .int x2), (3, .ref (r 1)), (4, .int x4), (5, .int x5), (6, .int x6)] [] 3 := by
    intro M3
    induction M3 using Nat.strongRecOn with
    | _ M3 ih3 =>
      intro x2 x4 x5 x6 N3
      have b28 : ∀ (N : Nat) (x2 : Int32) (x4 : Int32) (x5 : Int32) (x6 : Int32) (x7 : Int32) (x8 : Int32) , upm x8 = N → upm (x6 + 1) < M3 → G SC r X σ0 Z0 [] [(0, .ref (r 10)), (1, .ref (r 57)), (2, .int x2), (3, .ref (r 1)), (4, .int x4), (5, .int x5), (6, .int x6), (7, .int x7), (8, .int x8)] [] 28 := by
        intro M28
        induction M28 using Nat.strongRecOn with
        | _ M28 ih28 =>
          intro x2 x4 x5 x6 x7 x8 N28 gc3
          refine g_iload hF d_X4_find_28 8 rfl ?_
          refine g_aload_n hF d_X4_find_30 rfl 0 rfl ?_
          refine g_get (v := .ref (r 5)) hF 0 obC_10 (by decide) m_597 rfl d_X4_find_31 ?_
          refine g_getN (v := .ref (r 34)) hF 14 obC_5 (by decide) nm_253 rfl d_X4_find_34 ?_
          refine g_iload hF d_X4_find_37 7 rfl ?_
          refine g_callSN (As := [.ref (r 34), .int x7]) (rest := [.int x8]) hF (c_at a g r σ0 arC_34 (by decide) x7) (Nat.le_of_ble_eq_true rfl) mS_X12_at nm_1552 rfl rfl (Nat.le_of_ble_eq_true rfl) d_X4_find_39 (k_rop (fun r1 hr1 => ?_))
          have hr1 : 0 ≤ r1.toInt ∧ r1.toInt ≤ 10100 := acr_at i0.2.2.2.2.2.2.2.2.2.2.2.2.2.1 (by decide) (by decide) (hr1.imp And.left (fun h => ⟨_, h.2⟩))
          refine g_icmp_ge hF 97 d_X4_find_42 (by decide) rfl rfl (fun c2_42 => ?_) (fun c2_42 => ?_)
          · -- taken at 42
            refine g_iinc hF (x6 + 1) [(6, .int (x6 + 1)), (0, .ref (r 10)), (1, .ref (r 57)), (2, .int x2), (3, .ref (r 1)), (4, .int x4), (5, .int x5), (7, .int x7), (8, .int x8)] d_X4_find_97 6 rfl rfl hnn (by decide) rfl ?_
            refine g_goto hF 3 d_X4_find_100 (by decide) ?_
            exact g_sub (L' := [(0, .ref (r 10)), (1, .ref (r 57)), (2, .int x2), (3, .ref (r 1)), (4, .int x4), (5, .int x5), (6, .int (x6 + 1))]) [1, 2, 3, 4, 5, 6, 0] rfl (ih3 _ gc3 x2 x4 x5 (x6 + 1) rfl)
          · -- not taken at 42
            refine g_aload_n hF d_X4_find_45 rfl 0 rfl ?_
            refine g_get (v := .ref (r 5)) hF 0 obC_10 (by decide) m_597 rfl d_X4_find_46 ?_
            refine g_iload hF d_X4_find_49 8 rfl ?_
            refine g_iconst hF (v := 4) d_X4_find_51 (by decide) ?_
            refine g_callVN (As := [.int x8, .int 4]) (rest := []) hF (c_X8_is a g r σ0 x8 (4 : Int32) i0) (Nat.le_of_ble_eq_true rfl) mV_X8_is nm_1567 (recv_ob obC_5) rfl rfl (Nat.le_of_ble_eq_true rfl) d_X4_find_52 (k_roz (fun r3 hz3 => ?_))
            refine g_if_eq hF 91 d_X4_find_55 (by decide) rfl (fun c4_55 => ?_) (fun c4_55 => ?_)
            · -- taken at 55
              refine g_iinc hF (x8 + 1) [(8, .int (x8 + 1)), (0, .ref (r 10)), (1, .ref (r 57)), (2, .int x2), (3, .ref (r 1)), (4, .int x4), (5, .int x5), (6, .int x6), (7, .int x7)] d_X4_find_91 8 rfl rfl hnn (by decide) rfl ?_
              refine g_goto hF 28 d_X4_find_94 (by decide) ?_
              exact g_sub (L' := [(0, .ref (r 10)), (1, .ref (r 57)), (2, .int x2), (3, .ref (r 1)), (4, .int x4), (5, .int x5), (6, .int x6), (7, .int x7), (8, .int (x8 + 1))]) [1, 2, 3, 4, 5, 6, 7, 8, 0] rfl (ih28 _ (N28 ▸ upm_lt c2_42 (s_rng r1).2) x2 x4 x5 x6 x7 (x8 + 1) rfl gc3)
            · -- not taken at 55
              refine g_aload_n hF d_X4_find_58 rfl 0 rfl ?_
              refine g_get (v := .ref (r 5)) hF 0 obC_10 (by decide) m_597 rfl d_X4_find_59 ?_
              refine g_iload hF d_X4_find_62 8 rfl ?_
              refine g_iconst hF (v := 2) d_X4_find_64 (by decide) ?_
              refine g_callVN (As := [.int x8, .int 2]) (rest := []) hF (c_X8_is a g r σ0 x8 (2 : Int32) i0) (Nat.le_of_ble_eq_true rfl) mV_X8_is nm_1567 (recv_ob obC_5) rfl rfl (Nat.le_of_ble_eq_true rfl) d_X4_find_65 (k_roz (fun r5 hz5 => ?_))
              refine g_if_ne hF 91 d_X4_find_68 (by decide) rfl (fun c6_68 => ?_) (fun c6_68 => ?_)
              · -- taken at 68
                refine g_iinc hF (x8 + 1) [(8, .int (x8 + 1)), (0, .ref (r 10)), (1, .ref (r 57)), (2, .int x2), (3, .ref (r 1)), (4, .int x4), (5, .int x5), (6, .int x6), (7, .int x7)] d_X4_find_91 8 rfl rfl hnn (by decide) rfl ?_
                refine g_goto hF 28 d_X4_find_94 (by decide) ?_
                exact g_sub (L' := [(0, .ref (r 10)), (1, .ref (r 57)), (2, .int x2), (3, .ref (r 1)), (4, .int x4), (5, .int x5), (6, .int x6), (7, .int x7), (8, .int (x8 + 1))]) [1, 2, 3, 4, 5, 6, 7, 8, 0] rfl (ih28 _ (N28 ▸ upm_lt c2_42 (s_rng r1).2) x2 x4 x5 x6 x7 (x8 + 1) rfl gc3)
              · -- not taken at 68
                refine g_aload_n hF d_X4_find_71 rfl 0 rfl ?_
                refine g_get (v := .ref (r 5)) hF 0 obC_10 (by decide) m_597 rfl d_X4_find_72 ?_
                refine g_iload hF d_X4_find_75 8 rfl ?_
                refine g_aload_n hF d_X4_find_77 rfl 3 rfl ?_
                refine g_iload hF d_X4_find_78 4 rfl ?_
                refine g_iload hF d_X4_find_80 5 rfl ?_
                refine g_callVN (As := [.int x8, .ref (r 1), .int x4, .int x5]) (rest := []) hF (c_X8_isNamed_r5_r1 a g r σ0 x8 x4 x5 i0) (Nat.le_of_ble_eq_true rfl) mV_X8_isNamed nm_1568 (recv_ob obC_5) rfl rfl (Nat.le_of_ble_eq_true rfl) d_X4_find_82 (k_roz (fun r7 hz7 => ?_))
                refine g_if_eq hF 91 d_X4_find_85 (by decide) rfl (fun c8_85 => ?_) (fun c8_85 => ?_)
                · -- taken at 85
                  refine g_iinc hF (x8 + 1) [(8, .int (x8 + 1)), (0, .ref (r 10)), (1, .ref (r 57)), (2, .int x2), (3, .ref (r 1)), (4, .int x4), (5, .int x5), (6, .int x6), (7, .int x7)] d_X4_find_91 8 rfl rfl hnn (by decide) rfl ?_
                  refine g_goto hF 28 d_X4_find_94 (by decide) ?_
                  exact g_sub (L' := [(0, .ref (r 10)), (1, .ref (r 57)), (2, .int x2), (3, .ref (r 1)), (4, .int x4), (5, .int x5), (6, .int x6), (7, .int x7), (8, .int (x8 + 1))]) [1, 2, 3, 4, 5, 6, 7, 8, 0] rfl (ih28 _ (N28 ▸ upm_lt c2_42 (s_rng r1).2) x2 x4 x5 x6 x7 (x8 + 1) rfl gc3)
                · -- not taken at 85
                  refine g_iload hF d_X4_find_88 8 rfl ?_
                  exact g_iret hF rfl d_X4_find_90 ⟨rfl, rfl, x8, rfl, rfl⟩
      refine g_iload hF d_X4_find_3 6 rfl ?_
      refine g_iload_n hF d_X4_find_5 rfl 2 rfl ?_
      refine g_icmp_ge hF 103 d_X4_find_6 (by decide) rfl rfl (fun c9_6 => ?_) (fun c9_6 => ?_)
      · -- taken at 6
        refine g_iconst hF (v := (-1)) d_X4_find_103 (by decide) ?_
        exact g_iret hF rfl d_X4_find_104 ⟨rfl, rfl, ((-1) : Int32), rfl, rfl⟩
      · -- not taken at 6
        refine g_aload_n hF d_X4_find_9 rfl 1 rfl ?_
        refine g_iload hF d_X4_find_10 6 rfl ?_
        refine g_callSN (As := [.ref (r 57), .int x6]) (rest := []) hF (c_at a g r σ0 arC_57 (by decide) x6) (Nat.le_of_ble_eq_true rfl) mS_X12_at nm_1552 rfl rfl (Nat.le_of_ble_eq_true rfl) d_X4_find_12 (k_rop (fun r10 hr10 => ?_))
        refine g_istore hF [(7, .int r10), (0, .ref (r 10)), (1, .ref (r 57)), (2, .int x2), (3, .ref (r 1)), (4, .int x4), (5, .int x5), (6, .int x6)] d_X4_find_15 hnn (by decide) rfl ?_
        refine g_aload_n hF d_X4_find_17 rfl 1 rfl ?_
        refine g_get (v := .ref (r 5)) hF 0 obC_10 (by decide) m_597 rfl d_X4_find_18 ?_
        refine g_iload hF d_X4_find_21 0 rfl ?_
        refine g_callVN (As := [.int r10]) (rest := []) hF (c_X8_firstOf a g r σ0 r10 i0) (Nat.le_of_ble_eq_true rfl) mV_X8_firstOf nm_1566 (recv_ob obC_5) rfl rfl (Nat.le_of_ble_eq_true rfl) d_X4_find_23 (k_ro (fun r11 => ?_))
        refine g_istore hF [(8, .int r11), (7, .int r10), (0, .ref (r 10)), (1, .ref (r 57)), (2, .int x2), (3, .ref (r 1)), (4, .int x4), (5, .int x5), (6, .int x6)] d_X4_find_26 hnn (by decide) rfl ?_
        exact g_sub (L' := [(0, .ref (r 10)), (1, .ref (r 57)), (2, .int x2), (3, .ref (r 1)), (4, .int x4), (5, .int x5), (6, .int x6), (7, .int r10), (8, .int r11)]) [2, 3, 4, 5, 6, 7, 8, 1, 0] rfl (b28 _ x2 x4 x5 x6 r10 r11 rfl (N3 ▸ upm_lt c9_6 (s_rng x2).2))
  refine g_iconst hF (v := 0) d_X4_find_0 (by decide) ?_
  refine g_istore hF [(6, .int 0), (0, .ref (r 10)), (1, .ref (r 57)), (2, .int a2), (3, .ref (r 1)), (4, .int a4), (5, .int a5)] d_X4_find_1 hnn (by decide) rfl ?_
  exact g_sub (L' := [(0, .ref (r 10)), (1, .ref (r 57)), (2, .int a2), (3, .ref (r 1)), (4, .int a4), (5, .int a5), (6, .int 0)]) [1, 2, 3, 4, 5, 6, 0] rfl (b3 _ a2 a4 a5 (0 : Int32) rfl)
set_option maxHeartbeats 4000000 in
set_option maxRecDepth 100000 in
theorem c_X4_isWrong (a : Nat → Nat) (g : Nat → Nat → Int32) (r : Nat → Nat) (σ0 : St) (a1 : Int32) (a2 : Int32) (a3 : Int32) (i0 : Inv σ0) (l : Launch) (D : va_G) (cy : Nat → ClassId) : Ct l D cy SC r (EC a g) y_X4_isWrong (Cond.code y_X4_isWrong b_X4_isWrong 4 (some .boolean)) 4 [.ref (r 10), .int a1, .int a2, .int a3] σ0 Z0 [] (QI (fun v9 σ9 => (v9 = 0 ∨ v9 = 1) ∧ σ9 = σ0)) QF := by
  refine Ct_of (EC_ok a g) (by decide) (Nat.le_of_ble_eq_true rfl) (by decide) (fun X hnn hF => ?_)
  show G SC r X σ0 Z0 [] [(0, .ref (r 10)), (1, .int a1), (2, .int a2), (3, .int a3)] [] 0
  refine g_aload_n hF d_X4_isWrong_0 rfl 0 rfl ?_
  refine g_get (v := .ref (r 5)) hF 0 obC_10 (by decide) m_597 rfl d_X4_isWrong_1 ?_
  refine g_iload_n hF d_X4_isWrong_4 rfl 3 rfl ?_
  refine g_iconst hF (v := 4) d_X4_isWrong_5 (by decide) ?_
  refine g_callVN (As := [.int a3, .int 4]) (rest := []) hF (c_X8_is a g r σ0 a3 (4 : Int32) i0) (Nat.le_of_ble_eq_true rfl) mV_X8_is nm_1567 (recv_ob obC_5) rfl rfl (Nat.le_of_ble_eq_true rfl) d_X4_isWrong_6 (k_roz (fun r1 hz1 => ?_))
  refine g_if_eq hF 33 d_X4_isWrong_9 (by decide) rfl (fun c2_9 => ?_) (fun c2_9 => ?_)
  · -- taken at 9
    refine g_iload_n hF d_X4_isWrong_33 rfl 1 rfl ?_
    refine g_bipush hF (v := 32) d_X4_isWrong_34 (by decide) ?_
    refine g_icmp_ne (yv := 32) hF 70 d_X4_isWrong_36 (by decide) rfl (by decide) (fun c3_36 => ?_) (fun c3_36 => ?_)
    · -- taken at 36
      refine g_iload_n hF d_X4_isWrong_70 rfl 1 rfl ?_
      refine g_bipush hF (v := 33) d_X4_isWrong_71 (by decide) ?_
      refine g_icmp_ne (yv := 33) hF 97 d_X4_isWrong_73 (by decide) rfl (by decide) (fun c4_73 => ?_) (fun c4_73 => ?_)
      · -- taken at 73
        refine g_iconst hF (v := 0) d_X4_isWrong_97 (by decide) ?_
        exact g_zret hF rfl (k_nz (Or.inl rfl)) d_X4_isWrong_98 ⟨rfl, rfl, (0 : Int32), rfl, (Or.inl rfl), rfl⟩
      · -- not taken at 73
        refine g_aload_n hF d_X4_isWrong_76 rfl 0 rfl ?_
        refine g_iload_n hF d_X4_isWrong_77 rfl 3 rfl ?_
        refine g_aload_n hF d_X4_isWrong_78 rfl 0 rfl ?_
        refine g_aload_n hF d_X4_isWrong_79 rfl 0 rfl ?_
        refine g_get (v := .int (σ0 10 5)) hF 5 obC_10 (by decide) m_605 rfl d_X4_isWrong_80 ?_
        refine g_iload_n hF d_X4_isWrong_83 rfl 3 rfl ?_
        refine g_callV (As := [.int (σ0 10 5), .int a3]) (rest := [.int a3, .ref (r 10)]) hF (c_X4_definition a g r σ0 (σ0 10 5) a3 i0) (Nat.le_of_ble_eq_true rfl) mV_X4_definition m_1580 (recv_ob obC_10) rfl rfl (Nat.le_of_ble_eq_true rfl) d_X4_isWrong_84 (k_ro (fun r5 => ?_)) (fun _ _ _ h => h.elim)
        refine g_callV (As := [.int a3, .int r5]) (rest := []) hF (c_X4_agrees a g r σ0 a3 r5 i0) (Nat.le_of_ble_eq_true rfl) mV_X4_agrees m_1585 (recv_ob obC_10) rfl rfl (Nat.le_of_ble_eq_true rfl) d_X4_isWrong_87 (k_roz (fun r6 hz6 => ?_)) (fun _ _ _ h => h.elim)
        refine g_if_ne hF 97 d_X4_isWrong_90 (by decide) rfl (fun c7_90 => ?_) (fun c7_90 => ?_)
        · -- taken at 90
          refine g_iconst hF (v := 0) d_X4_isWrong_97 (by decide) ?_
          exact g_zret hF rfl (k_nz (Or.inl rfl)) d_X4_isWrong_98 ⟨rfl, rfl, (0 : Int32), rfl, (Or.inl rfl), rfl⟩
        · -- not taken at 90
          refine g_iconst hF (v := 1) d_X4_isWrong_93 (by decide) ?_
          refine g_goto hF 98 d_X4_isWrong_94 (by decide) ?_
          exact g_zret hF rfl (k_nz (Or.inr rfl)) d_X4_isWrong_98 ⟨rfl, rfl, (1 : Int32), rfl, (Or.inr rfl), rfl⟩
    · -- not taken at 36
      refine g_aload_n hF d_X4_isWrong_39 rfl 0 rfl ?_
      refine g_get (v := .ref (r 5)) hF 0 obC_10 (by decide) m_597 rfl d_X4_isWrong_40 ?_
      refine g_iload_n hF d_X4_isWrong_43 rfl 3 rfl ?_
      refine g_bipush hF (v := 8) d_X4_isWrong_44 (by decide) ?_
      refine g_callVN (As := [.int a3, .int 8]) (rest := []) hF (c_X8_is a g r σ0 a3 (8 : Int32) i0) (Nat.le_of_ble_eq_true rfl) mV_X8_is nm_1567 (recv_ob obC_5) rfl rfl (Nat.le_of_ble_eq_true rfl) d_X4_isWrong_46 (k_roz (fun r8 hz8 => ?_))
      refine g_if_eq hF 68 d_X4_isWrong_49 (by decide) rfl (fun c9_49 => ?_) (fun c9_49 => ?_)
      · -- taken at 49
        refine g_iconst hF (v := 0) d_X4_isWrong_68 (by decide) ?_
        exact g_zret hF rfl (k_nz (Or.inl rfl)) d_X4_isWrong_69 ⟨rfl, rfl, (0 : Int32), rfl, (Or.inl rfl), rfl⟩
      · -- not taken at 49
        refine g_aload_n hF d_X4_isWrong_52 rfl 0 rfl ?_
        refine g_aload_n hF d_X4_isWrong_53 rfl 0 rfl ?_
        refine g_get (v := .int (σ0 10 5)) hF 5 obC_10 (by decide) m_605 rfl d_X4_isWrong_54 ?_
        refine g_iload_n hF d_X4_isWrong_57 rfl 3 rfl ?_
        refine g_callV (As := [.int (σ0 10 5), .int a3]) (rest := []) hF (c_X4_definition a g r σ0 (σ0 10 5) a3 i0) (Nat.le_of_ble_eq_true rfl) mV_X4_definition m_1580 (recv_ob obC_10) rfl rfl (Nat.le_of_ble_eq_true rfl) d_X4_isWrong_58 (k_ro (fun r10 => ?_)) (fun _ _ _ h => h.elim)
        refine g_if_ge hF 68 d_X4_isWrong_61 (by decide) rfl (fun c11_61 => ?_) (fun c11_61 => ?_)
        · -- taken at 61
          refine g_iconst hF (v := 0) d_X4_isWrong_68 (by decide) ?_
          exact g_zret hF rfl (k_nz (Or.inl rfl)) d_X4_isWrong_69 ⟨rfl, rfl, (0 : Int32), rfl, (Or.inl rfl), rfl⟩
        · -- not taken at 61
          refine g_iconst hF (v := 1) d_X4_isWrong_64 (by decide) ?_
          refine g_goto hF 69 d_X4_isWrong_65 (by decide) ?_
          exact g_zret hF rfl (k_nz (Or.inr rfl)) d_X4_isWrong_69 ⟨rfl, rfl, (1 : Int32), rfl, (Or.inr rfl), rfl⟩
  · -- not taken at 9
    refine g_iload_n hF d_X4_isWrong_12 rfl 1 rfl ?_
    refine g_bipush hF (v := 31) d_X4_isWrong_13 (by decide) ?_
    refine g_icmp_ne (yv := 31) hF 31 d_X4_isWrong_15 (by decide) rfl (by decide) (fun c12_15 => ?_) (fun c12_15 => ?_)
    · -- taken at 15
      refine g_iconst hF (v := 0) d_X4_isWrong_31 (by decide) ?_
      exact g_zret hF rfl (k_nz (Or.inl rfl)) d_X4_isWrong_32 ⟨rfl, rfl, (0 : Int32), rfl, (Or.inl rfl), rfl⟩
    · -- not taken at 15
      refine g_aload_n hF d_X4_isWrong_18 rfl 0 rfl ?_
      refine g_iload_n hF d_X4_isWrong_19 rfl 2 rfl ?_
      refine g_iload_n hF d_X4_isWrong_20 rfl 3 rfl ?_
      refine g_callV (As := [.int a2, .int a3]) (rest := []) hF (c_X4_definition a g r σ0 a2 a3 i0) (Nat.le_of_ble_eq_true rfl) mV_X4_definition m_1580 (recv_ob obC_10) rfl rfl (Nat.le_of_ble_eq_true rfl) d_X4_isWrong_21 (k_ro (fun r13 => ?_)) (fun _ _ _ h => h.elim)
      refine g_if_lt hF 31 d_X4_isWrong_24 (by decide) rfl (fun c14_24 => ?_) (fun c14_24 => ?_)
      · -- taken at 24
        refine g_iconst hF (v := 0) d_X4_isWrong_31 (by decide) ?_
        exact g_zret hF rfl (k_nz (Or.inl rfl)) d_X4_isWrong_32 ⟨rfl, rfl, (0 : Int32), rfl, (Or.inl rfl), rfl⟩
      · -- not taken at 24
        refine g_iconst hF (v := 1) d_X4_isWrong_27 (by decide) ?_
        refine g_goto hF 32 d_X4_isWrong_28 (by decide) ?_
        exact g_zret hF rfl (k_nz (Or.inr rfl)) d_X4_isWrong_32 ⟨rfl, rfl, (1 : Int32), rfl, (Or.inr rfl), rfl⟩
set_option maxHeartbeats 4000000 in
set_option maxRecDepth 100000 in
theorem c_X4_settle (a : Nat → Nat) (g : Nat → Nat → Int32) (r : Nat → Nat) (σ0 : St) (i0 : Inv σ0) (l : Launch) (D : va_G) (cy : Nat → ClassId) : Ct l D cy SC r (EC a g) y_X4_settle (Cond.code y_X4_settle b_X4_settle 6 none) 5 [.ref (r 10)] σ0 Z0 [] (QV (fun σ9 => (Inv σ9 ∧ Keep [(10, 7)] [57, 58, 59] σ0 σ9))) QF := by
  refine Ct_of (EC_ok a g) (by decide) (Nat.le_of_ble_eq_true rfl) (by decide) (fun X hnn hF => ?_)
  show G SC r X σ0 Z0 [] [(0, .ref (r 10))] [] 0
  have b153 : ∀ (N : Nat) (σ : St) (x1 : Int32) (x2 : Int32) , upm x2 = N → Inv σ → Keep [(10, 7)] [57, 58, 59] σ0 σ → G SC r X σ Z0 [] [(0, .ref (r 10)), (1, .int x1), (2, .int x2)] [] 153 := by
    intro M153
    induction M153 using Nat.strongRecOn with
    | _ M153 ih153 =>
      intro σ x1 x2 N153 inv kp
      refine g_iload_n hF d_X4_settle_153 rfl 2 rfl ?_
      refine g_aload_n hF d_X4_settle_154 rfl 0 rfl ?_
      refine g_get (v := .int (σ 10 7)) hF 7 obC_10 (by decide) m_607 rfl d_X4_settle_155 ?_
      refine g_icmp_ge hF 179 d_X4_settle_158 (by decide) rfl rfl (fun c1_158 => ?_) (fun c1_158 => ?_)
      · -- taken at 158
        exact g_vret hF rfl d_X4_settle_179 ⟨rfl, rfl, rfl, ⟨inv, kp⟩⟩
      · -- not taken at 158
        refine g_aload_n hF d_X4_settle_161 rfl 0 rfl ?_
        refine g_aload_n hF d_X4_settle_162 rfl 0 rfl ?_
        refine g_get (v := .ref (r 57)) hF 8 obC_10 (by decide) m_608 rfl d_X4_settle_163 ?_
        refine g_iload_n hF d_X4_settle_166 rfl 2 rfl ?_
        refine g_callSN (As := [.ref (r 57), .int x2]) (rest := [.ref (r 10)]) hF (c_at a g r σ arC_57 (by decide) x2) (Nat.le_of_ble_eq_true rfl) mS_X12_at nm_1552 rfl rfl (Nat.le_of_ble_eq_true rfl) d_X4_settle_167 (k_rop (fun r2 hr2 => ?_))
        refine g_callV (As := [.int r2]) (rest := []) hF (c_X4_refer a g r σ r2 inv) (Nat.le_of_ble_eq_true rfl) mV_X4_refer m_1601 (recv_ob obC_10) rfl rfl (Nat.le_of_ble_eq_true rfl) d_X4_settle_170 (k_v (fun σ3 ⟨iσ3, ik3⟩ => ?_)) (fun _ _ _ h => h.elim)
        have kp : Keep [(10, 7)] [57, 58, 59] σ0 σ3 := keep_c kp ik3 (by decide) (by decide)
        refine g_iinc hF (x2 + 1) [(2, .int (x2 + 1)), (0, .ref (r 10)), (1, .int x1)] d_X4_settle_173 2 rfl rfl hnn (by decide) rfl ?_
        refine g_goto hF 153 d_X4_settle_176 (by decide) ?_
        exact g_sub (L' := [(0, .ref (r 10)), (1, .int x1), (2, .int (x2 + 1))]) [1, 2, 0] rfl (ih153 _ (N153 ▸ upm_lt c1_158 (s_rng (σ 10 7)).2) σ3 x1 (x2 + 1) rfl iσ3 kp)
  have b13 : ∀ (N : Nat) (σ : St) (x1 : Int32) (x2 : Int32) , upm x2 = N → Inv σ → Keep [(10, 7)] [57, 58, 59] σ0 σ → G SC r X σ Z0 [] [(0, .ref (r 10)), (1, .int x1), (2, .int x2)] [] 13 := by
    intro M13
    induction M13 using Nat.strongRecOn with
    | _ M13 ih13 =>
      intro σ x1 x2 N13 inv kp
      have b72 : ∀ (N : Nat) (σ : St) (x1 : Int32) (x2 : Int32) (x3 : Int32) (x4 : Int32) , upm x4 = N → Inv σ → Keep [(10, 7)] [57, 58, 59] σ0 σ → upm (x2 + 1) < M13 → G SC r X σ Z0 [] [(0, .ref (r 10)), (1, .int x1), (2, .int x2), (3, .int x3), (4, .int x4)] [] 72 := by
        intro M72
        induction M72 using Nat.strongRecOn with
        | _ M72 ih72 =>
          intro σ x1 x2 x3 x4 N72 inv kp gc13
          refine g_iload hF d_X4_settle_72 4 rfl ?_
          refine g_aload_n hF d_X4_settle_74 rfl 0 rfl ?_
          refine g_get (v := .ref (r 5)) hF 0 obC_10 (by decide) m_597 rfl d_X4_settle_75 ?_
          refine g_getN (v := .ref (r 34)) hF 14 obC_5 (by decide) nm_253 rfl d_X4_settle_78 ?_
          refine g_iload_n hF d_X4_settle_81 rfl 3 rfl ?_
          refine g_callSN (As := [.ref (r 34), .int x3]) (rest := [.int x4]) hF (c_at a g r σ arC_34 (by decide) x3) (Nat.le_of_ble_eq_true rfl) mS_X12_at nm_1552 rfl rfl (Nat.le_of_ble_eq_true rfl) d_X4_settle_82 (k_rop (fun r4 hr4 => ?_))
          have hr4 : 0 ≤ r4.toInt ∧ r4.toInt ≤ 10100 := acr_at inv.2.2.2.2.2.2.2.2.2.2.2.2.2.1 (by decide) (by decide) (hr4.imp And.left (fun h => ⟨_, h.2⟩))
          refine g_icmp_ge hF 145 d_X4_settle_85 (by decide) rfl rfl (fun c5_85 => ?_) (fun c5_85 => ?_)
          · -- taken at 85
            refine g_iinc hF (x2 + 1) [(2, .int (x2 + 1)), (0, .ref (r 10)), (1, .int x1), (3, .int x3), (4, .int x4)] d_X4_settle_145 2 rfl rfl hnn (by decide) rfl ?_
            refine g_goto hF 13 d_X4_settle_148 (by decide) ?_
            exact g_sub (L' := [(0, .ref (r 10)), (1, .int x1), (2, .int (x2 + 1))]) [1, 2, 0] rfl (ih13 _ gc13 σ x1 (x2 + 1) rfl inv kp)
          · -- not taken at 85
            refine g_aload_n hF d_X4_settle_88 rfl 0 rfl ?_
            refine g_get (v := .ref (r 5)) hF 0 obC_10 (by decide) m_597 rfl d_X4_settle_89 ?_
            refine g_iload hF d_X4_settle_92 4 rfl ?_
            refine g_iconst hF (v := 1) d_X4_settle_94 (by decide) ?_
            refine g_callVN (As := [.int x4, .int 1]) (rest := []) hF (c_X8_is a g r σ x4 (1 : Int32) inv) (Nat.le_of_ble_eq_true rfl) mV_X8_is nm_1567 (recv_ob obC_5) rfl rfl (Nat.le_of_ble_eq_true rfl) d_X4_settle_95 (k_roz (fun r6 hz6 => ?_))
            refine g_if_eq hF 105 d_X4_settle_98 (by decide) rfl (fun c7_98 => ?_) (fun c7_98 => ?_)
            · -- taken at 98
              refine g_aload_n hF d_X4_settle_105 rfl 0 rfl ?_
              refine g_get (v := .ref (r 58)) hF 9 obC_10 (by decide) m_609 rfl d_X4_settle_106 ?_
              refine g_iload_n hF d_X4_settle_109 rfl 3 rfl ?_
              refine g_callSN (As := [.ref (r 58), .int x3]) (rest := []) hF (c_at a g r σ arC_58 (by decide) x3) (Nat.le_of_ble_eq_true rfl) mS_X12_at nm_1552 rfl rfl (Nat.le_of_ble_eq_true rfl) d_X4_settle_110 (k_rop (fun r8 hr8 => ?_))
              refine g_istore hF [(5, .int r8), (0, .ref (r 10)), (1, .int x1), (2, .int x2), (3, .int x3), (4, .int x4)] d_X4_settle_113 hnn (by decide) rfl ?_
              refine g_aload_n hF d_X4_settle_115 rfl 1 rfl ?_
              refine g_get (v := .ref (r 59)) hF 10 obC_10 (by decide) m_611 rfl d_X4_settle_116 ?_
              refine g_iload hF d_X4_settle_119 5 rfl ?_
              refine g_iload hF d_X4_settle_121 0 rfl ?_
              refine g_aload_n hF d_X4_settle_123 rfl 1 rfl ?_
              refine g_get (v := .ref (r 5)) hF 0 obC_10 (by decide) m_597 rfl d_X4_settle_124 ?_
              refine g_getN (v := .ref (r 28)) hF 5 obC_5 (by decide) nm_236 rfl d_X4_settle_127 ?_
              refine g_iload hF d_X4_settle_130 5 rfl ?_
              refine g_callSN (As := [.ref (r 28), .int x4]) (rest := [.int r8, .int x4, .ref (r 59)]) hF (c_at a g r σ arC_28 (by decide) x4) (Nat.le_of_ble_eq_true rfl) mS_X12_at nm_1552 rfl rfl (Nat.le_of_ble_eq_true rfl) d_X4_settle_132 (k_rop (fun r9 hr9 => ?_))
              refine g_iadd hF d_X4_settle_135 ?_
              refine g_callSN (As := [.ref (r 59), .int x4, .int (r8 + r9)]) (rest := []) hF (c_set a g r σ arC_59 (by decide) x4 (r8 + r9)) (Nat.le_of_ble_eq_true rfl) mS_X12_set nm_1553 rfl rfl (Nat.le_of_ble_eq_true rfl) d_X4_settle_136 (k_v (fun σ10 ⟨g10, eσ10, hg10⟩ => ?_))
              subst eσ10
              have kp : Keep [(10, 7)] [57, 58, 59] σ0 (upF σ 59 g10) := keep_F kp (by decide)
              refine g_iinc hF (x4 + 1) [(4, .int (x4 + 1)), (5, .int r8), (0, .ref (r 10)), (1, .int x1), (2, .int x2), (3, .int x3)] d_X4_settle_139 5 rfl rfl hnn (by decide) rfl ?_
              refine g_goto hF 72 d_X4_settle_142 (by decide) ?_
              have j11 : Inv (upF σ 59 g10) := ⟨inv.1, inv.2.1, inv.2.2.1, inv.2.2.2.1, inv.2.2.2.2.1, inv.2.2.2.2.2.1, inv.2.2.2.2.2.2.1, inv.2.2.2.2.2.2.2.1, inv.2.2.2.2.2.2.2.2.1, inv.2.2.2.2.2.2.2.2.2.1, inv.2.2.2.2.2.2.2.2.2.2.1, inv.2.2.2.2.2.2.2.2.2.2.2.1, inv.2.2.2.2.2.2.2.2.2.2.2.2.1, inv.2.2.2.2.2.2.2.2.2.2.2.2.2.1, inv.2.2.2.2.2.2.2.2.2.2.2.2.2.2.1, inv.2.2.2.2.2.2.2.2.2.2.2.2.2.2.2.1, inv.2.2.2.2.2.2.2.2.2.2.2.2.2.2.2.2.1, inv.2.2.2.2.2.2.2.2.2.2.2.2.2.2.2.2.2.1, inv.2.2.2.2.2.2.2.2.2.2.2.2.2.2.2.2.2.2.1, inv.2.2.2.2.2.2.2.2.2.2.2.2.2.2.2.2.2.2.2⟩
              exact g_sub (L' := [(0, .ref (r 10)), (1, .int x1), (2, .int x2), (3, .int x3), (4, .int (x4 + 1))]) [2, 3, 4, 5, 0] rfl (ih72 _ (N72 ▸ upm_lt c5_85 (s_rng r4).2) (upF σ 59 g10) x1 x2 x3 (x4 + 1) rfl j11 kp gc13)
            · -- not taken at 98
              refine g_iconst hF (v := 0) d_X4_settle_101 (by decide) ?_
              refine g_goto hF 113 d_X4_settle_102 (by decide) ?_
              refine g_istore hF [(5, .int 0), (0, .ref (r 10)), (1, .int x1), (2, .int x2), (3, .int x3), (4, .int x4)] d_X4_settle_113 hnn (by decide) rfl ?_
              refine g_aload_n hF d_X4_settle_115 rfl 1 rfl ?_
              refine g_get (v := .ref (r 59)) hF 10 obC_10 (by decide) m_611 rfl d_X4_settle_116 ?_
              refine g_iload hF d_X4_settle_119 5 rfl ?_
              refine g_iload hF d_X4_settle_121 0 rfl ?_
              refine g_aload_n hF d_X4_settle_123 rfl 1 rfl ?_
              refine g_get (v := .ref (r 5)) hF 0 obC_10 (by decide) m_597 rfl d_X4_settle_124 ?_
              refine g_getN (v := .ref (r 28)) hF 5 obC_5 (by decide) nm_236 rfl d_X4_settle_127 ?_
              refine g_iload hF d_X4_settle_130 5 rfl ?_
              refine g_callSN (As := [.ref (r 28), .int x4]) (rest := [.int 0, .int x4, .ref (r 59)]) hF (c_at a g r σ arC_28 (by decide) x4) (Nat.le_of_ble_eq_true rfl) mS_X12_at nm_1552 rfl rfl (Nat.le_of_ble_eq_true rfl) d_X4_settle_132 (k_rop (fun r12 hr12 => ?_))
              refine g_iadd hF d_X4_settle_135 ?_
              refine g_callSN (As := [.ref (r 59), .int x4, .int (0 + r12)]) (rest := []) hF (c_set a g r σ arC_59 (by decide) x4 (0 + r12)) (Nat.le_of_ble_eq_true rfl) mS_X12_set nm_1553 rfl rfl (Nat.le_of_ble_eq_true rfl) d_X4_settle_136 (k_v (fun σ13 ⟨g13, eσ13, hg13⟩ => ?_))
              subst eσ13
              have kp : Keep [(10, 7)] [57, 58, 59] σ0 (upF σ 59 g13) := keep_F kp (by decide)
              refine g_iinc hF (x4 + 1) [(4, .int (x4 + 1)), (5, .int 0), (0, .ref (r 10)), (1, .int x1), (2, .int x2), (3, .int x3)] d_X4_settle_139 5 rfl rfl hnn (by decide) rfl ?_
              refine g_goto hF 72 d_X4_settle_142 (by decide) ?_
              have j14 : Inv (upF σ 59 g13) := ⟨inv.1, inv.2.1, inv.2.2.1, inv.2.2.2.1, inv.2.2.2.2.1, inv.2.2.2.2.2.1, inv.2.2.2.2.2.2.1, inv.2.2.2.2.2.2.2.1, inv.2.2.2.2.2.2.2.2.1, inv.2.2.2.2.2.2.2.2.2.1, inv.2.2.2.2.2.2.2.2.2.2.1, inv.2.2.2.2.2.2.2.2.2.2.2.1, inv.2.2.2.2.2.2.2.2.2.2.2.2.1, inv.2.2.2.2.2.2.2.2.2.2.2.2.2.1, inv.2.2.2.2.2.2.2.2.2.2.2.2.2.2.1, inv.2.2.2.2.2.2.2.2.2.2.2.2.2.2.2.1, inv.2.2.2.2.2.2.2.2.2.2.2.2.2.2.2.2.1, inv.2.2.2.2.2.2.2.2.2.2.2.2.2.2.2.2.2.1, inv.2.2.2.2.2.2.2.2.2.2.2.2.2.2.2.2.2.2.1, inv.2.2.2.2.2.2.2.2.2.2.2.2.2.2.2.2.2.2.2⟩
              exact g_sub (L' := [(0, .ref (r 10)), (1, .int x1), (2, .int x2), (3, .int x3), (4, .int (x4 + 1))]) [2, 3, 4, 5, 0] rfl (ih72 _ (N72 ▸ upm_lt c5_85 (s_rng r4).2) (upF σ 59 g13) x1 x2 x3 (x4 + 1) rfl j14 kp gc13)
      refine g_iload_n hF d_X4_settle_13 rfl 2 rfl ?_
      refine g_aload_n hF d_X4_settle_14 rfl 0 rfl ?_
      refine g_get (v := .int (σ 10 7)) hF 7 obC_10 (by decide) m_607 rfl d_X4_settle_15 ?_
      refine g_icmp_ge hF 151 d_X4_settle_18 (by decide) rfl rfl (fun c15_18 => ?_) (fun c15_18 => ?_)
      · -- taken at 18
        refine g_iconst hF (v := 1) d_X4_settle_151 (by decide) ?_
        refine g_istore_n hF [(2, .int 1), (0, .ref (r 10)), (1, .int x1)] d_X4_settle_152 rfl hnn (by decide) rfl ?_
        exact g_sub (L' := [(0, .ref (r 10)), (1, .int x1), (2, .int 1)]) [1, 2, 0] rfl (b153 _ σ x1 (1 : Int32) rfl inv kp)
      · -- not taken at 18
        refine g_aload_n hF d_X4_settle_21 rfl 0 rfl ?_
        refine g_get (v := .ref (r 56)) hF 6 obC_10 (by decide) m_606 rfl d_X4_settle_22 ?_
        refine g_iload_n hF d_X4_settle_25 rfl 2 rfl ?_
        refine g_callSN (As := [.ref (r 56), .int x2]) (rest := []) hF (c_at a g r σ arC_56 (by decide) x2) (Nat.le_of_ble_eq_true rfl) mS_X12_at nm_1552 rfl rfl (Nat.le_of_ble_eq_true rfl) d_X4_settle_26 (k_rop (fun r16 hr16 => ?_))
        refine g_istore_n hF [(3, .int r16), (0, .ref (r 10)), (1, .int x1), (2, .int x2)] d_X4_settle_29 rfl hnn (by decide) rfl ?_
        refine g_aload_n hF d_X4_settle_30 rfl 1 rfl ?_
        refine g_get (v := .ref (r 57)) hF 8 obC_10 (by decide) m_608 rfl d_X4_settle_31 ?_
        refine g_iload_n hF d_X4_settle_34 rfl 3 rfl ?_
        refine g_iload_n hF d_X4_settle_35 rfl 0 rfl ?_
        refine g_callSN (As := [.ref (r 57), .int x2, .int r16]) (rest := []) hF (c_set a g r σ arC_57 (by decide) x2 r16) (Nat.le_of_ble_eq_true rfl) mS_X12_set nm_1553 rfl rfl (Nat.le_of_ble_eq_true rfl) d_X4_settle_36 (k_v (fun σ17 ⟨g17, eσ17, hg17⟩ => ?_))
        subst eσ17
        have kp : Keep [(10, 7)] [57, 58, 59] σ0 (upF σ 57 g17) := keep_F kp (by decide)
        refine g_aload_n hF d_X4_settle_39 rfl 1 rfl ?_
        refine g_get (v := .ref (r 58)) hF 9 obC_10 (by decide) m_609 rfl d_X4_settle_40 ?_
        refine g_iload_n hF d_X4_settle_43 rfl 0 rfl ?_
        refine g_iload_n hF d_X4_settle_44 rfl 2 rfl ?_
        refine g_callSN (As := [.ref (r 58), .int r16, .int x1]) (rest := []) hF (c_set a g r (upF σ 57 g17) arC_58 (by decide) r16 x1) (Nat.le_of_ble_eq_true rfl) mS_X12_set nm_1553 rfl rfl (Nat.le_of_ble_eq_true rfl) d_X4_settle_45 (k_v (fun σ18 ⟨g18, eσ18, hg18⟩ => ?_))
        subst eσ18
        have kp : Keep [(10, 7)] [57, 58, 59] σ0 (upF (upF σ 57 g17) 58 g18) := keep_F kp (by decide)
        refine g_iload_n hF d_X4_settle_48 rfl 2 rfl ?_
        refine g_aload_n hF d_X4_settle_49 rfl 1 rfl ?_
        refine g_get (v := .ref (r 5)) hF 0 obC_10 (by decide) m_597 rfl d_X4_settle_50 ?_
        refine g_getN (v := .ref (r 37)) hF 17 obC_5 (by decide) nm_258 rfl d_X4_settle_53 ?_
        refine g_iload_n hF d_X4_settle_56 rfl 0 rfl ?_
        refine g_callSN (As := [.ref (r 37), .int r16]) (rest := [.int x1]) hF (c_at a g r (upF (upF σ 57 g17) 58 g18) arC_37 (by decide) r16) (Nat.le_of_ble_eq_true rfl) mS_X12_at nm_1552 rfl rfl (Nat.le_of_ble_eq_true rfl) d_X4_settle_57 (k_rop (fun r19 hr19 => ?_))
        refine g_iadd hF d_X4_settle_60 ?_
        refine g_istore_n hF [(1, .int (x1 + r19)), (3, .int r16), (0, .ref (r 10)), (2, .int x2)] d_X4_settle_61 rfl hnn (by decide) rfl ?_
        refine g_aload_n hF d_X4_settle_62 rfl 2 rfl ?_
        refine g_get (v := .ref (r 5)) hF 0 obC_10 (by decide) m_597 rfl d_X4_settle_63 ?_
        refine g_iload_n hF d_X4_settle_66 rfl 1 rfl ?_
        have j21 : Inv (upF (upF σ 57 g17) 58 g18) := ⟨inv.1, inv.2.1, inv.2.2.1, inv.2.2.2.1, inv.2.2.2.2.1, inv.2.2.2.2.2.1, inv.2.2.2.2.2.2.1, inv.2.2.2.2.2.2.2.1, inv.2.2.2.2.2.2.2.2.1, inv.2.2.2.2.2.2.2.2.2.1, inv.2.2.2.2.2.2.2.2.2.2.1, inv.2.2.2.2.2.2.2.2.2.2.2.1, inv.2.2.2.2.2.2.2.2.2.2.2.2.1, inv.2.2.2.2.2.2.2.2.2.2.2.2.2.1, inv.2.2.2.2.2.2.2.2.2.2.2.2.2.2.1, inv.2.2.2.2.2.2.2.2.2.2.2.2.2.2.2.1, inv.2.2.2.2.2.2.2.2.2.2.2.2.2.2.2.2.1, inv.2.2.2.2.2.2.2.2.2.2.2.2.2.2.2.2.2.1, inv.2.2.2.2.2.2.2.2.2.2.2.2.2.2.2.2.2.2.1, inv.2.2.2.2.2.2.2.2.2.2.2.2.2.2.2.2.2.2.2⟩
        refine g_callVN (As := [.int r16]) (rest := []) hF (c_X8_firstOf a g r (upF (upF σ 57 g17) 58 g18) r16 j21) (Nat.le_of_ble_eq_true rfl) mV_X8_firstOf nm_1566 (recv_ob obC_5) rfl rfl (Nat.le_of_ble_eq_true rfl) d_X4_settle_67 (k_ro (fun r20 => ?_))
        refine g_istore hF [(4, .int r20), (1, .int (x1 + r19)), (3, .int r16), (0, .ref (r 10)), (2, .int x2)] d_X4_settle_70 hnn (by decide) rfl ?_
        exact g_sub (L' := [(0, .ref (r 10)), (1, .int (x1 + r19)), (2, .int x2), (3, .int r16), (4, .int r20)]) [3, 1, 4, 2, 0] rfl (b72 _ (upF (upF σ 57 g17) 58 g18) (x1 + r19) x2 r16 r20 rfl j21 kp (N13 ▸ upm_lt c15_18 (s_rng (σ 10 7)).2))
  have kp : Keep [(10, 7)] [57, 58, 59] σ0 σ0 := keep_rf
  refine g_aload_n hF d_X4_settle_0 rfl 0 rfl ?_
  refine g_aload_n hF d_X4_settle_1 rfl 0 rfl ?_
  refine g_get (v := .int (σ0 10 5)) hF 5 obC_10 (by decide) m_605 rfl d_X4_settle_2 ?_
  refine g_put (v := (σ0 10 5)) hF 7 obC_10 (by decide) m_607 rfl rfl rfl d_X4_settle_5 ?_
  have kp : Keep [(10, 7)] [57, 58, 59] σ0 (upC σ0 10 7 (σ0 10 5)) := keep_f kp (by decide)
  refine g_bipush hF (v := 16) d_X4_settle_8 (by decide) ?_
  refine g_istore_n hF [(1, .int 16), (0, .ref (r 10))] d_X4_settle_10 rfl hnn (by decide) rfl ?_
  refine g_iconst hF (v := 0) d_X4_settle_11 (by decide) ?_
  refine g_istore_n hF [(2, .int 0), (1, .int 16), (0, .ref (r 10))] d_X4_settle_12 rfl hnn (by decide) rfl ?_
  have j22 : Inv (upC σ0 10 7 (σ0 10 5)) := ⟨i0.1, i0.2.1, i0.2.2.1, i0.2.2.2.1, i0.2.2.2.2.1, i0.2.2.2.2.2.1, i0.2.2.2.2.2.2.1, i0.2.2.2.2.2.2.2.1, i0.2.2.2.2.2.2.2.2.1, i0.2.2.2.2.2.2.2.2.2.1, i0.2.2.2.2.2.2.2.2.2.2.1, i0.2.2.2.2.2.2.2.2.2.2.2.1, i0.2.2.2.2.2.2.2.2.2.2.2.2.1, i0.2.2.2.2.2.2.2.2.2.2.2.2.2.1, i0.2.2.2.2.2.2.2.2.2.2.2.2.2.2.1, i0.2.2.2.2.2.2.2.2.2.2.2.2.2.2.2.1, i0.2.2.2.2.2.2.2.2.2.2.2.2.2.2.2.2.1, i0.2.2.2.2.2.2.2.2.2.2.2.2.2.2.2.2.2.1, i0.2.2.2.2.2.2.2.2.2.2.2.2.2.2.2.2.2.2.1, i0.2.2.2.2.2.2.2.2.2.2.2.2.2.2.2.2.2.2.2⟩
  exact g_sub (L' := [(0, .ref (r 10)), (1, .int 16), (2, .int 0)]) [2, 1, 0] rfl (b13 _ (upC σ0 10 7 (σ0 10 5)) (16 : Int32) (0 : Int32) rfl j22 kp)
set_option maxHeartbeats 4000000 in
set_option maxRecDepth 100000 in
theorem c_X4_cellOf_r10_r1 (a : Nat → Nat) (g : Nat → Nat → Int32) (r : Nat → Nat) (σ0 : St) (a2 : Int32) (i0 : Inv σ0) (l : Launch) (D : va_G) (cy : Nat → ClassId) : Ct l D cy SC r (EC a g) y_X4_cellOf (Cond.code y_X4_cellOf b_X4_cellOf 4 (some .int)) 3 [.ref (r 10), .ref (r 1), .int a2] σ0 Z0 [] (QI (fun _ σ9 => σ9 = σ0)) QF := by
  refine Ct_of (EC_ok a g) (by decide) (Nat.le_of_ble_eq_true rfl) (by decide) (fun X hnn hF => ?_)
  show G SC r X σ0 Z0 [] [(0, .ref (r 10)), (1, .ref (r 1)), (2, .int a2)] [] 0
  refine g_aload_n hF d_X4_cellOf_0 rfl 0 rfl ?_
  refine g_get (v := .int (σ0 10 2)) hF 2 obC_10 (by decide) m_599 rfl d_X4_cellOf_1 ?_
  refine g_if_eq hF 25 d_X4_cellOf_4 (by decide) rfl (fun c1_4 => ?_) (fun c1_4 => ?_)
  · -- taken at 4
    refine g_iconst hF (v := (-1)) d_X4_cellOf_25 (by decide) ?_
    refine g_istore_n hF [(3, .int (-1)), (0, .ref (r 10)), (1, .ref (r 1)), (2, .int a2)] d_X4_cellOf_26 rfl hnn (by decide) rfl ?_
    refine g_iload_n hF d_X4_cellOf_27 rfl 0 rfl ?_
    refine g_if_ge (xv := -1) hF 33 d_X4_cellOf_28 (by decide) (by decide) (fun c_28 => absurd c_28 (by decide)) (fun _ => ?_)
    refine g_iconst hF (v := (-1)) d_X4_cellOf_31 (by decide) ?_
    exact g_iret hF rfl d_X4_cellOf_32 ⟨rfl, rfl, ((-1) : Int32), rfl, rfl⟩
  · -- not taken at 4
    refine g_aload_n hF d_X4_cellOf_7 rfl 0 rfl ?_
    refine g_aload_n hF d_X4_cellOf_8 rfl 0 rfl ?_
    refine g_get (v := .ref (r 57)) hF 8 obC_10 (by decide) m_608 rfl d_X4_cellOf_9 ?_
    refine g_aload_n hF d_X4_cellOf_12 rfl 0 rfl ?_
    refine g_get (v := .int (σ0 10 7)) hF 7 obC_10 (by decide) m_607 rfl d_X4_cellOf_13 ?_
    refine g_aload_n hF d_X4_cellOf_16 rfl 1 rfl ?_
    refine g_iconst hF (v := 0) d_X4_cellOf_17 (by decide) ?_
    refine g_iload_n hF d_X4_cellOf_18 rfl 2 rfl ?_
    refine g_callV (As := [.ref (r 57), .int (σ0 10 7), .ref (r 1), .int 0, .int a2]) (rest := []) hF (c_X4_find_r10_r57_r1 a g r σ0 (σ0 10 7) (0 : Int32) a2 i0) (Nat.le_of_ble_eq_true rfl) mV_X4_find m_1562 (recv_ob obC_10) rfl rfl (Nat.le_of_ble_eq_true rfl) d_X4_cellOf_19 (k_ro (fun r2 => ?_)) (fun _ _ _ h => h.elim)
    refine g_goto hF 26 d_X4_cellOf_22 (by decide) ?_
    refine g_istore_n hF [(3, .int r2), (0, .ref (r 10)), (1, .ref (r 1)), (2, .int a2)] d_X4_cellOf_26 rfl hnn (by decide) rfl ?_
    refine g_iload_n hF d_X4_cellOf_27 rfl 0 rfl ?_
    refine g_if_ge hF 33 d_X4_cellOf_28 (by decide) rfl (fun c3_28 => ?_) (fun c3_28 => ?_)
    · -- taken at 28
      refine g_aload_n hF d_X4_cellOf_33 rfl 1 rfl ?_
      refine g_get (v := .ref (r 5)) hF 0 obC_10 (by decide) m_597 rfl d_X4_cellOf_34 ?_
      refine g_iload_n hF d_X4_cellOf_37 rfl 0 rfl ?_
      refine g_iconst hF (v := 1) d_X4_cellOf_38 (by decide) ?_
      refine g_callVN (As := [.int r2, .int 1]) (rest := []) hF (c_X8_is a g r σ0 r2 (1 : Int32) i0) (Nat.le_of_ble_eq_true rfl) mV_X8_is nm_1567 (recv_ob obC_5) rfl rfl (Nat.le_of_ble_eq_true rfl) d_X4_cellOf_39 (k_roz (fun r4 hz4 => ?_))
      refine g_if_eq hF 49 d_X4_cellOf_42 (by decide) rfl (fun c5_42 => ?_) (fun c5_42 => ?_)
      · -- taken at 42
        refine g_aload_n hF d_X4_cellOf_49 rfl 1 rfl ?_
        refine g_get (v := .ref (r 59)) hF 10 obC_10 (by decide) m_611 rfl d_X4_cellOf_50 ?_
        refine g_iload_n hF d_X4_cellOf_53 rfl 0 rfl ?_
        refine g_callSN (As := [.ref (r 59), .int r2]) (rest := []) hF (c_at a g r σ0 arC_59 (by decide) r2) (Nat.le_of_ble_eq_true rfl) mS_X12_at nm_1552 rfl rfl (Nat.le_of_ble_eq_true rfl) d_X4_cellOf_54 (k_rop (fun r6 hr6 => ?_))
        exact g_iret hF rfl d_X4_cellOf_57 ⟨rfl, rfl, r6, rfl, rfl⟩
      · -- not taken at 42
        refine g_iconst hF (v := 0) d_X4_cellOf_45 (by decide) ?_
        refine g_goto hF 57 d_X4_cellOf_46 (by decide) ?_
        exact g_iret hF rfl d_X4_cellOf_57 ⟨rfl, rfl, (0 : Int32), rfl, rfl⟩
    · -- not taken at 28
      refine g_iconst hF (v := (-1)) d_X4_cellOf_31 (by decide) ?_
      exact g_iret hF rfl d_X4_cellOf_32 ⟨rfl, rfl, ((-1) : Int32), rfl, rfl⟩
set_option maxHeartbeats 4000000 in
set_option maxRecDepth 100000 in
theorem c_X4_look (a : Nat → Nat) (g : Nat → Nat → Int32) (r : Nat → Nat) (σ0 : St) (a1 : Int32) (i0 : Inv σ0) (l : Launch) (D : va_G) (cy : Nat → ClassId) : Ct l D cy SC r (EC a g) y_X4_look (Cond.code y_X4_look b_X4_look 7 (some .int)) 5 [.ref (r 10), .int a1] σ0 Z0 [] (QI (fun _ σ9 => (Inv σ9 ∧ Keep [(10, 3), (10, 4)] [] σ0 σ9))) QF := by
  refine Ct_of (EC_ok a g) (by decide) (Nat.le_of_ble_eq_true rfl) (by decide) (fun X hnn hF => ?_)
  show G SC r X σ0 Z0 [] [(0, .ref (r 10)), (1, .int a1)] [] 0
  have b2 : ∀ (N : Nat) (σ : St) (x1 : Int32) (x2 : Int32) , upm x2 = N → Inv σ → Keep [(10, 3), (10, 4)] [] σ0 σ → G SC r X σ Z0 [] [(0, .ref (r 10)), (1, .int x1), (2, .int x2)] [] 2 := by
    intro M2
    induction M2 using Nat.strongRecOn with
    | _ M2 ih2 =>
      intro σ x1 x2 N2 inv kp
      have b32 : ∀ (N : Nat) (σ : St) (x1 : Int32) (x2 : Int32) (x3 : Int32) (x4 : Int32) (x5 : Int32) , upm x5 = N → Inv σ → Keep [(10, 3), (10, 4)] [] σ0 σ → upm (x2 + 1) < M2 → G SC r X σ Z0 [] [(0, .ref (r 10)), (1, .int x1), (2, .int x2), (3, .int x3), (4, .int x4), (5, .int x5)] [] 32 := by
        intro M32
        induction M32 using Nat.strongRecOn with
        | _ M32 ih32 =>
          intro σ x1 x2 x3 x4 x5 N32 inv kp gc2
          refine g_iload hF d_X4_look_32 5 rfl ?_
          refine g_aload_n hF d_X4_look_34 rfl 0 rfl ?_
          refine g_get (v := .ref (r 5)) hF 0 obC_10 (by decide) m_597 rfl d_X4_look_35 ?_
          refine g_getN (v := .ref (r 34)) hF 14 obC_5 (by decide) nm_253 rfl d_X4_look_38 ?_
          refine g_iload_n hF d_X4_look_41 rfl 3 rfl ?_
          refine g_callSN (As := [.ref (r 34), .int x3]) (rest := [.int x5]) hF (c_at a g r σ arC_34 (by decide) x3) (Nat.le_of_ble_eq_true rfl) mS_X12_at nm_1552 rfl rfl (Nat.le_of_ble_eq_true rfl) d_X4_look_42 (k_rop (fun r1 hr1 => ?_))
          have hr1 : 0 ≤ r1.toInt ∧ r1.toInt ≤ 10100 := acr_at inv.2.2.2.2.2.2.2.2.2.2.2.2.2.1 (by decide) (by decide) (hr1.imp And.left (fun h => ⟨_, h.2⟩))
          refine g_icmp_ge hF 120 d_X4_look_45 (by decide) rfl rfl (fun c2_45 => ?_) (fun c2_45 => ?_)
          · -- taken at 45
            refine g_iinc hF (x2 + 1) [(2, .int (x2 + 1)), (0, .ref (r 10)), (1, .int x1), (3, .int x3), (4, .int x4), (5, .int x5)] d_X4_look_120 2 rfl rfl hnn (by decide) rfl ?_
            refine g_goto hF 2 d_X4_look_123 (by decide) ?_
            exact g_sub (L' := [(0, .ref (r 10)), (1, .int x1), (2, .int (x2 + 1))]) [1, 2, 0] rfl (ih2 _ gc2 σ x1 (x2 + 1) rfl inv kp)
          · -- not taken at 45
            refine g_aload_n hF d_X4_look_48 rfl 0 rfl ?_
            refine g_get (v := .ref (r 5)) hF 0 obC_10 (by decide) m_597 rfl d_X4_look_49 ?_
            refine g_iload hF d_X4_look_52 5 rfl ?_
            refine g_iconst hF (v := 2) d_X4_look_54 (by decide) ?_
            refine g_callVN (As := [.int x5, .int 2]) (rest := []) hF (c_X8_is a g r σ x5 (2 : Int32) inv) (Nat.le_of_ble_eq_true rfl) mV_X8_is nm_1567 (recv_ob obC_5) rfl rfl (Nat.le_of_ble_eq_true rfl) d_X4_look_55 (k_roz (fun r3 hz3 => ?_))
            refine g_if_ne hF 65 d_X4_look_58 (by decide) rfl (fun c4_58 => ?_) (fun c4_58 => ?_)
            · -- taken at 58
              refine g_iconst hF (v := 0) d_X4_look_65 (by decide) ?_
              refine g_istore hF [(6, .int 0), (0, .ref (r 10)), (1, .int x1), (2, .int x2), (3, .int x3), (4, .int x4), (5, .int x5)] d_X4_look_66 hnn (by decide) rfl ?_
              refine g_iload hF d_X4_look_68 0 rfl ?_
              refine g_if_eq (xv := 0) hF 99 d_X4_look_70 (by decide) (by decide) (fun _ => ?_) (fun c_70 => absurd c_70 (by decide))
              refine g_iload hF d_X4_look_99 5 rfl ?_
              refine g_iload hF d_X4_look_101 0 rfl ?_
              refine g_if_eq (xv := 0) hF 110 d_X4_look_103 (by decide) (by decide) (fun _ => ?_) (fun c_103 => absurd c_103 (by decide))
              refine g_iconst hF (v := 0) d_X4_look_110 (by decide) ?_
              refine g_iadd hF d_X4_look_111 ?_
              refine g_istore hF [(4, .int (x4 + 0)), (6, .int 0), (0, .ref (r 10)), (1, .int x1), (2, .int x2), (3, .int x3), (5, .int x5)] d_X4_look_112 hnn (by decide) rfl ?_
              refine g_iinc hF (x5 + 1) [(5, .int (x5 + 1)), (4, .int (x4 + 0)), (6, .int 0), (0, .ref (r 10)), (1, .int x1), (2, .int x2), (3, .int x3)] d_X4_look_114 6 rfl rfl hnn (by decide) rfl ?_
              refine g_goto hF 32 d_X4_look_117 (by decide) ?_
              exact g_sub (L' := [(0, .ref (r 10)), (1, .int x1), (2, .int x2), (3, .int x3), (4, .int (x4 + 0)), (5, .int (x5 + 1))]) [3, 4, 5, 6, 1, 0] rfl (ih32 _ (N32 ▸ upm_lt c2_45 (s_rng r1).2) σ x1 x2 x3 (x4 + 0) (x5 + 1) rfl inv kp gc2)
            · -- not taken at 58
              refine g_iconst hF (v := 1) d_X4_look_61 (by decide) ?_
              refine g_goto hF 66 d_X4_look_62 (by decide) ?_
              refine g_istore hF [(6, .int 1), (0, .ref (r 10)), (1, .int x1), (2, .int x2), (3, .int x3), (4, .int x4), (5, .int x5)] d_X4_look_66 hnn (by decide) rfl ?_
              refine g_iload hF d_X4_look_68 0 rfl ?_
              refine g_if_eq (xv := 1) hF 99 d_X4_look_70 (by decide) (by decide) (fun c_70 => absurd c_70 (by decide)) (fun _ => ?_)
              refine g_aload_n hF d_X4_look_73 rfl 1 rfl ?_
              refine g_iload_n hF d_X4_look_74 rfl 2 rfl ?_
              refine g_iload_n hF d_X4_look_75 rfl 3 rfl ?_
              refine g_iload hF d_X4_look_76 6 rfl ?_
              refine g_callV (As := [.int x1, .int x2, .int x5]) (rest := []) hF (c_X4_isWrong a g r σ x1 x2 x5 inv) (Nat.le_of_ble_eq_true rfl) mV_X4_isWrong m_1576 (recv_ob obC_10) rfl rfl (Nat.le_of_ble_eq_true rfl) d_X4_look_78 (k_roz (fun r5 hz5 => ?_)) (fun _ _ _ h => h.elim)
              refine g_if_eq hF 99 d_X4_look_81 (by decide) rfl (fun c6_81 => ?_) (fun c6_81 => ?_)
              · -- taken at 81
                refine g_iload hF d_X4_look_99 5 rfl ?_
                refine g_iload hF d_X4_look_101 0 rfl ?_
                refine g_if_eq (xv := 1) hF 110 d_X4_look_103 (by decide) (by decide) (fun c_103 => absurd c_103 (by decide)) (fun _ => ?_)
                refine g_iconst hF (v := 1) d_X4_look_106 (by decide) ?_
                refine g_goto hF 111 d_X4_look_107 (by decide) ?_
                refine g_iadd hF d_X4_look_111 ?_
                refine g_istore hF [(4, .int (x4 + 1)), (6, .int 1), (0, .ref (r 10)), (1, .int x1), (2, .int x2), (3, .int x3), (5, .int x5)] d_X4_look_112 hnn (by decide) rfl ?_
                refine g_iinc hF (x5 + 1) [(5, .int (x5 + 1)), (4, .int (x4 + 1)), (6, .int 1), (0, .ref (r 10)), (1, .int x1), (2, .int x2), (3, .int x3)] d_X4_look_114 6 rfl rfl hnn (by decide) rfl ?_
                refine g_goto hF 32 d_X4_look_117 (by decide) ?_
                exact g_sub (L' := [(0, .ref (r 10)), (1, .int x1), (2, .int x2), (3, .int x3), (4, .int (x4 + 1)), (5, .int (x5 + 1))]) [3, 4, 5, 6, 1, 0] rfl (ih32 _ (N32 ▸ upm_lt c2_45 (s_rng r1).2) σ x1 x2 x3 (x4 + 1) (x5 + 1) rfl inv kp gc2)
              · -- not taken at 81
                refine g_aload_n hF d_X4_look_84 rfl 1 rfl ?_
                refine g_iload_n hF d_X4_look_85 rfl 3 rfl ?_
                refine g_iconst hF (v := 1) d_X4_look_86 (by decide) ?_
                refine g_isub hF d_X4_look_87 ?_
                refine g_put (v := (x2 - 1)) hF 3 obC_10 (by decide) m_601 rfl rfl rfl d_X4_look_88 ?_
                have kp : Keep [(10, 3), (10, 4)] [] σ0 (upC σ 10 3 (x2 - 1)) := keep_f kp (by decide)
                refine g_aload_n hF d_X4_look_91 rfl 1 rfl ?_
                refine g_iload hF d_X4_look_92 5 rfl ?_
                refine g_put (v := x4) hF 4 obC_10 (by decide) m_603 rfl rfl rfl d_X4_look_94 ?_
                have kp : Keep [(10, 3), (10, 4)] [] σ0 (upC (upC σ 10 3 (x2 - 1)) 10 4 x4) := keep_f kp (by decide)
                refine g_iload_n hF d_X4_look_97 rfl 2 rfl ?_
                have j7 : Inv (upC (upC σ 10 3 (x2 - 1)) 10 4 x4) := ⟨inv.1, inv.2.1, inv.2.2.1, inv.2.2.2.1, inv.2.2.2.2.1, inv.2.2.2.2.2.1, inv.2.2.2.2.2.2.1, inv.2.2.2.2.2.2.2.1, inv.2.2.2.2.2.2.2.2.1, inv.2.2.2.2.2.2.2.2.2.1, inv.2.2.2.2.2.2.2.2.2.2.1, inv.2.2.2.2.2.2.2.2.2.2.2.1, inv.2.2.2.2.2.2.2.2.2.2.2.2.1, inv.2.2.2.2.2.2.2.2.2.2.2.2.2.1, inv.2.2.2.2.2.2.2.2.2.2.2.2.2.2.1, inv.2.2.2.2.2.2.2.2.2.2.2.2.2.2.2.1, inv.2.2.2.2.2.2.2.2.2.2.2.2.2.2.2.2.1, inv.2.2.2.2.2.2.2.2.2.2.2.2.2.2.2.2.2.1, inv.2.2.2.2.2.2.2.2.2.2.2.2.2.2.2.2.2.2.1, inv.2.2.2.2.2.2.2.2.2.2.2.2.2.2.2.2.2.2.2⟩
                exact g_iret hF rfl d_X4_look_98 ⟨rfl, rfl, x1, rfl, ⟨j7, kp⟩⟩
      refine g_iload_n hF d_X4_look_2 rfl 2 rfl ?_
      refine g_aload_n hF d_X4_look_3 rfl 0 rfl ?_
      refine g_get (v := .int (σ 10 5)) hF 5 obC_10 (by decide) m_605 rfl d_X4_look_4 ?_
      refine g_icmp_ge hF 126 d_X4_look_7 (by decide) rfl rfl (fun c8_7 => ?_) (fun c8_7 => ?_)
      · -- taken at 7
        refine g_iconst hF (v := 0) d_X4_look_126 (by decide) ?_
        exact g_iret hF rfl d_X4_look_127 ⟨rfl, rfl, (0 : Int32), rfl, ⟨inv, kp⟩⟩
      · -- not taken at 7
        refine g_aload_n hF d_X4_look_10 rfl 0 rfl ?_
        refine g_get (v := .ref (r 56)) hF 6 obC_10 (by decide) m_606 rfl d_X4_look_11 ?_
        refine g_iload_n hF d_X4_look_14 rfl 2 rfl ?_
        refine g_callSN (As := [.ref (r 56), .int x2]) (rest := []) hF (c_at a g r σ arC_56 (by decide) x2) (Nat.le_of_ble_eq_true rfl) mS_X12_at nm_1552 rfl rfl (Nat.le_of_ble_eq_true rfl) d_X4_look_15 (k_rop (fun r9 hr9 => ?_))
        refine g_istore_n hF [(3, .int r9), (0, .ref (r 10)), (1, .int x1), (2, .int x2)] d_X4_look_18 rfl hnn (by decide) rfl ?_
        refine g_iconst hF (v := 0) d_X4_look_19 (by decide) ?_
        refine g_istore hF [(4, .int 0), (3, .int r9), (0, .ref (r 10)), (1, .int x1), (2, .int x2)] d_X4_look_20 hnn (by decide) rfl ?_
        refine g_aload_n hF d_X4_look_22 rfl 2 rfl ?_
        refine g_get (v := .ref (r 5)) hF 0 obC_10 (by decide) m_597 rfl d_X4_look_23 ?_
        refine g_iload_n hF d_X4_look_26 rfl 1 rfl ?_
        refine g_callVN (As := [.int r9]) (rest := []) hF (c_X8_firstOf a g r σ r9 inv) (Nat.le_of_ble_eq_true rfl) mV_X8_firstOf nm_1566 (recv_ob obC_5) rfl rfl (Nat.le_of_ble_eq_true rfl) d_X4_look_27 (k_ro (fun r10 => ?_))
        refine g_istore hF [(5, .int r10), (4, .int 0), (3, .int r9), (0, .ref (r 10)), (1, .int x1), (2, .int x2)] d_X4_look_30 hnn (by decide) rfl ?_
        exact g_sub (L' := [(0, .ref (r 10)), (1, .int x1), (2, .int x2), (3, .int r9), (4, .int 0), (5, .int r10)]) [3, 4, 5, 2, 1, 0] rfl (b32 _ σ x1 x2 r9 (0 : Int32) r10 rfl inv kp (N2 ▸ upm_lt c8_7 (s_rng (σ 10 5)).2))
  have kp : Keep [(10, 3), (10, 4)] [] σ0 σ0 := keep_rf
  refine g_iconst hF (v := 1) d_X4_look_0 (by decide) ?_
  refine g_istore_n hF [(2, .int 1), (0, .ref (r 10)), (1, .int a1)] d_X4_look_1 rfl hnn (by decide) rfl ?_
  exact g_sub (L' := [(0, .ref (r 10)), (1, .int a1), (2, .int 1)]) [1, 2, 0] rfl (b2 _ σ0 a1 (1 : Int32) rfl i0 kp)
set_option maxHeartbeats 4000000 in
set_option maxRecDepth 100000 in
theorem c_X12_cell (a : Nat → Nat) (g : Nat → Nat → Int32) (r : Nat → Nat) (σ0 : St) (i0 : Inv σ0) (l : Launch) (D : va_G) (cy : Nat → ClassId) : Ct l D cy SC r (EC a g) y_X12_cell (Cond.code y_X12_cell b_X12_cell 2 (some .int)) 4 [.ref (r 0)] σ0 Z0 [] (QI (fun v9 σ9 => (((σ9 0 1).toInt = 0) ∧ Inv σ9 ∧ Keep [(0, 1)] [] σ0 σ9))) QF := by
  refine Ct_of (EC_ok a g) (by decide) (Nat.le_of_ble_eq_true rfl) (by decide) (fun X hnn hF => ?_)
  show G SC r X σ0 Z0 [] [(0, .ref (r 0))] [] 0
  have kp : Keep [(0, 1)] [] σ0 σ0 := keep_rf
  refine g_aload_n hF d_X12_cell_0 rfl 0 rfl ?_
  refine g_get (v := .int (σ0 0 1)) hF 1 obC_0 (by decide) m_736 rfl d_X12_cell_1 ?_
  refine g_istore_n hF [(1, .int (σ0 0 1)), (0, .ref (r 0))] d_X12_cell_4 rfl hnn (by decide) rfl ?_
  refine g_aload_n hF d_X12_cell_5 rfl 1 rfl ?_
  refine g_iconst hF (v := 0) d_X12_cell_6 (by decide) ?_
  refine g_put (v := 0) hF 1 obC_0 (by decide) m_736 rfl rfl rfl d_X12_cell_7 ?_
  have kp : Keep [(0, 1)] [] σ0 (upC σ0 0 1 0) := keep_f kp (by decide)
  have p1 : 0 ≤ (0 : Int32).toInt ∧ (0 : Int32).toInt ≤ 16000 := (by have e0 : (0 : Int32).toInt = 0 := (by decide); omega)
  refine g_aload_n hF d_X12_cell_10 rfl 1 rfl ?_
  refine g_get (v := .ref (r 10)) hF 12 obC_0 (by decide) m_747 rfl d_X12_cell_11 ?_
  refine g_aload_n hF d_X12_cell_14 rfl 1 rfl ?_
  refine g_get (v := .ref (r 1)) hF 0 obC_0 (by decide) m_735 rfl d_X12_cell_15 ?_
  refine g_iload_n hF d_X12_cell_18 rfl 0 rfl ?_
  have j3 : Inv (upC σ0 0 1 0) := ⟨p1, i0.2.1, i0.2.2.1, i0.2.2.2.1, i0.2.2.2.2.1, i0.2.2.2.2.2.1, i0.2.2.2.2.2.2.1, i0.2.2.2.2.2.2.2.1, i0.2.2.2.2.2.2.2.2.1, i0.2.2.2.2.2.2.2.2.2.1, i0.2.2.2.2.2.2.2.2.2.2.1, i0.2.2.2.2.2.2.2.2.2.2.2.1, i0.2.2.2.2.2.2.2.2.2.2.2.2.1, i0.2.2.2.2.2.2.2.2.2.2.2.2.2.1, i0.2.2.2.2.2.2.2.2.2.2.2.2.2.2.1, i0.2.2.2.2.2.2.2.2.2.2.2.2.2.2.2.1, i0.2.2.2.2.2.2.2.2.2.2.2.2.2.2.2.2.1, i0.2.2.2.2.2.2.2.2.2.2.2.2.2.2.2.2.2.1, i0.2.2.2.2.2.2.2.2.2.2.2.2.2.2.2.2.2.2.1, i0.2.2.2.2.2.2.2.2.2.2.2.2.2.2.2.2.2.2.2⟩
  refine g_callVN (As := [.ref (r 1), .int (σ0 0 1)]) (rest := []) hF (c_X4_cellOf_r10_r1 a g r (upC σ0 0 1 0) (σ0 0 1) j3) (Nat.le_of_ble_eq_true rfl) mV_X4_cellOf nm_1613 (recv_ob obC_10) rfl rfl (Nat.le_of_ble_eq_true rfl) d_X12_cell_19 (k_ro (fun r2 => ?_))
  exact g_iret hF rfl d_X12_cell_22 ⟨rfl, rfl, r2, rfl, ⟨(by show 0 = 0; have e0 := s_rng r2; have e1 : (0 : Int32).toInt = 0 := (by decide); have e2 := s_rng (σ0 0 1); have e3 := i0.1; omega), j3, kp⟩⟩
