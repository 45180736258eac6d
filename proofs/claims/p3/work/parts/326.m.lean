set_option maxHeartbeats 4000000 in
set_option maxRecDepth 100000 in
theorem c_X3_counted (a : Nat → Nat) (g : Nat → Nat → Int32) (r : Nat → Nat) (σ0 : St) (a1 : Int32) (hgp : GPS σ0) (i0 : Inv σ0) (l : Launch) (D : va_G) (cy : Nat → ClassId) : Ct l D cy SC r (EC a g) y_X3_counted (Cond.code y_X3_counted b_X3_counted 3 none) 359 [.ref (r 3), .int a1] σ0 Z0 [] (QV (fun σ9 => ((GPS σ9 ∧ Mo σ9 σ0) ∧ (Inv σ9 ∧ Keep [(3, 1), (3, 2), (3, 3), (3, 4), (3, 9)] [18, 19, 20, 21, 22, 23] σ0 σ9)))) QF := by
  refine Ct_of (EC_ok a g) (by decide) (Nat.le_of_ble_eq_true rfl) (by decide) (fun X hnn hF => ?_)
  show G SC r X σ0 Z0 [] [(0, .ref (r 3)), (1, .int a1)] [] 0
  have kp : Keep [(3, 1), (3, 2), (3, 3), (3, 4), (3, 9)] [18, 19, 20, 21, 22, 23] σ0 σ0 := keep_rf
  refine g_aload_n hF d_X3_counted_0 rfl 0 rfl ?_
  refine g_bipush hF (v := 20) d_X3_counted_1 (by decide) ?_
  refine g_callV (As := [.int 20]) (rest := []) hF (c_X3_expect a g r σ0 (20 : Int32) hgp (by show ¬ (20 = 0 ∨ 20 = -1); have e0 : (20 : Int32).toInt = 20 := (by decide); omega) i0) (Nat.le_of_ble_eq_true rfl) mV_X3_expect m_903 (recv_ob obC_3) rfl rfl (Nat.le_of_ble_eq_true rfl) d_X3_counted_3 (k_v (fun σ1 ⟨⟨hgp1, hgm1⟩, hs1, iσ1, ik1⟩ => ?_)) (fun _ _ _ h => h.elim)
  have hs1 : (σ1 3 3).toInt < 0 → (σ0 3 2).toInt = 20 := hs1
  have hmo1 : Mo σ1 σ0 := fun h9 => mo_e (show σ0 3 3 = σ0 3 3 from rfl) (hgm1 h9)
  have kp : Keep [(3, 1), (3, 2), (3, 3), (3, 4), (3, 9)] [18, 19, 20, 21, 22, 23] σ0 σ1 := keep_c kp ik1 (by decide) (by decide)
  refine g_aload_n hF d_X3_counted_6 rfl 0 rfl ?_
  refine g_get (v := .int (σ1 3 2)) hF 2 obC_3 (by decide) m_96 rfl d_X3_counted_7 ?_
  refine g_bipush hF (v := 27) d_X3_counted_10 (by decide) ?_
  refine g_icmp_eq (yv := 27) hF 30 d_X3_counted_12 (by decide) rfl (by decide) (fun c2_12 => ?_) (fun c2_12 => ?_)
  · -- taken at 12
    refine g_aload_n hF d_X3_counted_30 rfl 0 rfl ?_
    refine g_bipush hF (v := 27) d_X3_counted_31 (by decide) ?_
    refine g_callV (As := [.int 27]) (rest := []) hF (c_X3_expect a g r σ1 (27 : Int32) hgp1 (by show ¬ (27 = 0 ∨ 27 = -1); have e0 : (27 : Int32).toInt = 27 := (by decide); have e1 := s_rng (σ1 3 2); omega) iσ1) (Nat.le_of_ble_eq_true rfl) mV_X3_expect m_903 (recv_ob obC_3) rfl rfl (Nat.le_of_ble_eq_true rfl) d_X3_counted_33 (k_v (fun σ3 ⟨⟨hgp3, hgm3⟩, hs3, iσ3, ik3⟩ => ?_)) (fun _ _ _ h => h.elim)
    have hs3 : (σ3 3 3).toInt < 0 → (σ1 3 2).toInt = 27 := hs3
    have hmo3 : Mo σ3 σ1 := fun h9 => mo_e (show σ1 3 3 = σ1 3 3 from rfl) (hgm3 h9)
    have kp : Keep [(3, 1), (3, 2), (3, 3), (3, 4), (3, 9)] [18, 19, 20, 21, 22, 23] σ0 σ3 := keep_c kp ik3 (by decide) (by decide)
    refine g_aload_n hF d_X3_counted_36 rfl 0 rfl ?_
    refine g_bipush hF (v := 32) d_X3_counted_37 (by decide) ?_
    refine g_iload_n hF d_X3_counted_39 rfl 1 rfl ?_
    refine g_iconst hF (v := 0) d_X3_counted_40 (by decide) ?_
    refine g_iconst hF (v := 0) d_X3_counted_41 (by decide) ?_
    refine g_callV (As := [.int 32, .int a1, .int 0, .int 0]) (rest := []) hF (c_X3_add a g r σ3 (32 : Int32) a1 (0 : Int32) (0 : Int32) (fun h9 => absurd h9 (by decide)) hgp3 iσ3) (Nat.le_of_ble_eq_true rfl) mV_X3_add m_923 (recv_ob obC_3) rfl rfl (Nat.le_of_ble_eq_true rfl) d_X3_counted_42 (k_i (fun r4 σ4 ⟨⟨hgp4, hgm4⟩, iσ4, ik4⟩ => ?_)) (fun _ _ _ h => h.elim)
    have hmo4 : Mo σ4 σ3 := fun h9 => mo_e (show σ3 3 3 = σ3 3 3 from rfl) (hgm4 h9)
    have kp : Keep [(3, 1), (3, 2), (3, 3), (3, 4), (3, 9)] [18, 19, 20, 21, 22, 23] σ0 σ4 := keep_c kp ik4 (by decide) (by decide)
    refine g_pop hF d_X3_counted_45 rfl ?_
    refine g_aload_n hF d_X3_counted_46 rfl 0 rfl ?_
    refine g_get (v := .int (σ4 3 2)) hF 2 obC_3 (by decide) m_96 rfl d_X3_counted_47 ?_
    refine g_top (v := (σ3 3 2)) (ik4 3 2 rfl rfl rfl) ?_
    refine g_bipush hF (v := 27) d_X3_counted_50 (by decide) ?_
    refine g_icmp_eq (yv := 27) hF 59 d_X3_counted_52 (by decide) rfl (by decide) (fun c5_52 => ?_) (fun c5_52 => ?_)
    · -- taken at 52
      refine g_iconst hF (v := 0) d_X3_counted_59 (by decide) ?_
      refine g_istore_n hF [(2, .int 0), (0, .ref (r 3)), (1, .int a1)] d_X3_counted_60 rfl hnn (by decide) rfl ?_
      refine g_iload_n hF d_X3_counted_61 rfl 0 rfl ?_
      refine g_if_eq (xv := 0) hF 70 d_X3_counted_62 (by decide) (by decide) (fun _ => ?_) (fun c_62 => absurd c_62 (by decide))
      refine g_aload_n hF d_X3_counted_70 rfl 1 rfl ?_
      refine g_bipush hF (v := 33) d_X3_counted_71 (by decide) ?_
      refine g_iload_n hF d_X3_counted_73 rfl 2 rfl ?_
      refine g_iload_n hF d_X3_counted_74 rfl 0 rfl ?_
      refine g_if_eq (xv := 0) hF 82 d_X3_counted_75 (by decide) (by decide) (fun _ => ?_) (fun c_75 => absurd c_75 (by decide))
      refine g_iconst hF (v := 0) d_X3_counted_82 (by decide) ?_
      refine g_iconst hF (v := 0) d_X3_counted_83 (by decide) ?_
      refine g_callV (As := [.int 33, .int a1, .int 0, .int 0]) (rest := []) hF (c_X3_add a g r σ4 (33 : Int32) a1 (0 : Int32) (0 : Int32) (fun h9 => absurd h9 (by decide)) hgp4 iσ4) (Nat.le_of_ble_eq_true rfl) mV_X3_add m_923 (recv_ob obC_3) rfl rfl (Nat.le_of_ble_eq_true rfl) d_X3_counted_84 (k_i (fun r6 σ6 ⟨⟨hgp6, hgm6⟩, iσ6, ik6⟩ => ?_)) (fun _ _ _ h => h.elim)
      have hmo6 : Mo σ6 σ3 := fun h9 => mo_e (show σ4 3 3 = σ3 3 3 from (ik4 3 3 rfl rfl rfl)) (hgm6 h9)
      have kp : Keep [(3, 1), (3, 2), (3, 3), (3, 4), (3, 9)] [18, 19, 20, 21, 22, 23] σ0 σ6 := keep_c kp ik6 (by decide) (by decide)
      refine g_pop hF d_X3_counted_87 rfl ?_
      refine g_aload_n hF d_X3_counted_88 rfl 1 rfl ?_
      refine g_bipush hF (v := 27) d_X3_counted_89 (by decide) ?_
      refine g_callV (As := [.int 27]) (rest := []) hF (c_X3_expect a g r σ6 (27 : Int32) hgp6 (by show ¬ (27 = 0 ∨ 27 = -1); have e0 : (27 : Int32).toInt = 27 := (by decide); have e1 := s_rng (σ1 3 2); have e2 := s_rng (σ3 3 2); omega) iσ6) (Nat.le_of_ble_eq_true rfl) mV_X3_expect m_903 (recv_ob obC_3) rfl rfl (Nat.le_of_ble_eq_true rfl) d_X3_counted_91 (k_v (fun σ7 ⟨⟨hgp7, hgm7⟩, hs7, iσ7, ik7⟩ => ?_)) (fun _ _ _ h => h.elim)
      have hs7 : (σ7 3 3).toInt < 0 → (σ3 3 2).toInt = 27 := (by have h9 := hs7; rw [show (σ6 3 2) = (σ3 3 2) from ((ik6 3 2 rfl rfl rfl).trans (ik4 3 2 rfl rfl rfl))] at h9; exact h9)
      have hmo7 : Mo σ7 σ3 := fun h9 => mo_e (show σ6 3 3 = σ3 3 3 from ((ik6 3 3 rfl rfl rfl).trans (ik4 3 3 rfl rfl rfl))) (hgm7 h9)
      have kp : Keep [(3, 1), (3, 2), (3, 3), (3, 4), (3, 9)] [18, 19, 20, 21, 22, 23] σ0 σ7 := keep_c kp ik7 (by decide) (by decide)
      refine g_aload_n hF d_X3_counted_94 rfl 1 rfl ?_
      refine g_get (v := .int (σ7 3 2)) hF 2 obC_3 (by decide) m_96 rfl d_X3_counted_95 ?_
      refine g_bipush hF (v := 21) d_X3_counted_98 (by decide) ?_
      refine g_icmp_eq (yv := 21) hF 118 d_X3_counted_100 (by decide) rfl (by decide) (fun c8_100 => ?_) (fun c8_100 => ?_)
      · -- taken at 100
        refine g_aload_n hF d_X3_counted_118 rfl 1 rfl ?_
        refine g_bipush hF (v := 21) d_X3_counted_119 (by decide) ?_
        refine g_callV (As := [.int 21]) (rest := []) hF (c_X3_expect a g r σ7 (21 : Int32) hgp7 (by show ¬ (21 = 0 ∨ 21 = -1); have e0 : (21 : Int32).toInt = 21 := (by decide); have e1 := s_rng (σ7 3 2); omega) iσ7) (Nat.le_of_ble_eq_true rfl) mV_X3_expect m_903 (recv_ob obC_3) rfl rfl (Nat.le_of_ble_eq_true rfl) d_X3_counted_121 (k_v (fun σ9 ⟨⟨hgp9, hgm9⟩, hs9, iσ9, ik9⟩ => ?_)) (fun _ _ _ h => h.elim)
        have hs9 : (σ9 3 3).toInt < 0 → (σ7 3 2).toInt = 21 := hs9
        have hmo9 : Mo σ9 σ7 := fun h9 => mo_e (show σ7 3 3 = σ7 3 3 from rfl) (hgm9 h9)
        have kp : Keep [(3, 1), (3, 2), (3, 3), (3, 4), (3, 9)] [18, 19, 20, 21, 22, 23] σ0 σ9 := keep_c kp ik9 (by decide) (by decide)
        refine g_aload_n hF d_X3_counted_124 rfl 1 rfl ?_
        refine g_bipush hF (v := 34) d_X3_counted_125 (by decide) ?_
        refine g_iload_n hF d_X3_counted_127 rfl 2 rfl ?_
        refine g_iconst hF (v := 0) d_X3_counted_128 (by decide) ?_
        refine g_iconst hF (v := 0) d_X3_counted_129 (by decide) ?_
        refine g_callV (As := [.int 34, .int a1, .int 0, .int 0]) (rest := []) hF (c_X3_add a g r σ9 (34 : Int32) a1 (0 : Int32) (0 : Int32) (fun h9 => absurd h9 (by decide)) hgp9 iσ9) (Nat.le_of_ble_eq_true rfl) mV_X3_add m_923 (recv_ob obC_3) rfl rfl (Nat.le_of_ble_eq_true rfl) d_X3_counted_130 (k_i (fun r10 σ10 ⟨⟨hgp10, hgm10⟩, iσ10, ik10⟩ => ?_)) (fun _ _ _ h => h.elim)
        have hmo10 : Mo σ10 σ9 := fun h9 => mo_e (show σ9 3 3 = σ9 3 3 from rfl) (hgm10 h9)
        have kp : Keep [(3, 1), (3, 2), (3, 3), (3, 4), (3, 9)] [18, 19, 20, 21, 22, 23] σ0 σ10 := keep_c kp ik10 (by decide) (by decide)
        refine g_pop hF d_X3_counted_133 rfl ?_
        exact g_vret hF rfl d_X3_counted_134 ⟨rfl, rfl, rfl, ⟨⟨hgp10, (fun h9 => (hmo1 (hmo3 (hmo7 (hmo9 (mo_e (show σ10 3 3 = σ9 3 3 from (ik10 3 3 rfl rfl rfl)) h9))))))⟩, iσ10, kp⟩⟩
      · -- not taken at 100
        refine g_aload_n hF d_X3_counted_103 rfl 1 rfl ?_
        refine g_iconst hF (v := 1) d_X3_counted_104 (by decide) ?_
        refine g_callV (As := [.int 1]) (rest := []) hF ((RX_all a g r 25 σ7 1 (by decide) (by decide) iσ7 hgp7).1) (Nat.le_of_ble_eq_true rfl) mV_X3_expression m_927 (recv_ob obC_3) rfl rfl (Nat.le_of_ble_eq_true rfl) d_X3_counted_105 (k_v (fun σ11 ⟨⟨hgp11, hgm11⟩, iσ11, ik11⟩ => ?_)) (fun _ _ _ h => h.elim)
        have hmo11 : Mo σ11 σ7 := fun h9 => mo_e (show σ7 3 3 = σ7 3 3 from rfl) (hgm11 h9)
        have kp : Keep [(3, 1), (3, 2), (3, 3), (3, 4), (3, 9)] [18, 19, 20, 21, 22, 23] σ0 σ11 := keep_c kp ik11 (by decide) (by decide)
        refine g_aload_n hF d_X3_counted_108 rfl 1 rfl ?_
        refine g_bipush hF (v := 22) d_X3_counted_109 (by decide) ?_
        refine g_iload_n hF d_X3_counted_111 rfl 2 rfl ?_
        refine g_iconst hF (v := 0) d_X3_counted_112 (by decide) ?_
        refine g_iconst hF (v := 0) d_X3_counted_113 (by decide) ?_
        refine g_callV (As := [.int 22, .int a1, .int 0, .int 0]) (rest := []) hF (c_X3_add a g r σ11 (22 : Int32) a1 (0 : Int32) (0 : Int32) (fun h9 => absurd h9 (by decide)) hgp11 iσ11) (Nat.le_of_ble_eq_true rfl) mV_X3_add m_923 (recv_ob obC_3) rfl rfl (Nat.le_of_ble_eq_true rfl) d_X3_counted_114 (k_i (fun r12 σ12 ⟨⟨hgp12, hgm12⟩, iσ12, ik12⟩ => ?_)) (fun _ _ _ h => h.elim)
        have hmo12 : Mo σ12 σ11 := fun h9 => mo_e (show σ11 3 3 = σ11 3 3 from rfl) (hgm12 h9)
        have kp : Keep [(3, 1), (3, 2), (3, 3), (3, 4), (3, 9)] [18, 19, 20, 21, 22, 23] σ0 σ12 := keep_c kp ik12 (by decide) (by decide)
        refine g_pop hF d_X3_counted_117 rfl ?_
        refine g_aload_n hF d_X3_counted_118 rfl 1 rfl ?_
        refine g_bipush hF (v := 21) d_X3_counted_119 (by decide) ?_
        refine g_callV (As := [.int 21]) (rest := []) hF (c_X3_expect a g r σ12 (21 : Int32) hgp12 (by show ¬ (21 = 0 ∨ 21 = -1); have e0 : (21 : Int32).toInt = 21 := (by decide); have e1 := s_rng (σ7 3 2); omega) iσ12) (Nat.le_of_ble_eq_true rfl) mV_X3_expect m_903 (recv_ob obC_3) rfl rfl (Nat.le_of_ble_eq_true rfl) d_X3_counted_121 (k_v (fun σ13 ⟨⟨hgp13, hgm13⟩, hs13, iσ13, ik13⟩ => ?_)) (fun _ _ _ h => h.elim)
        have hs13 : (σ13 3 3).toInt < 0 → (σ11 3 2).toInt = 21 := (by have h9 := hs13; rw [show (σ12 3 2) = (σ11 3 2) from (ik12 3 2 rfl rfl rfl)] at h9; exact h9)
        have hmo13 : Mo σ13 σ11 := fun h9 => mo_e (show σ12 3 3 = σ11 3 3 from (ik12 3 3 rfl rfl rfl)) (hgm13 h9)
        have kp : Keep [(3, 1), (3, 2), (3, 3), (3, 4), (3, 9)] [18, 19, 20, 21, 22, 23] σ0 σ13 := keep_c kp ik13 (by decide) (by decide)
        refine g_aload_n hF d_X3_counted_124 rfl 1 rfl ?_
        refine g_bipush hF (v := 34) d_X3_counted_125 (by decide) ?_
        refine g_iload_n hF d_X3_counted_127 rfl 2 rfl ?_
        refine g_iconst hF (v := 0) d_X3_counted_128 (by decide) ?_
        refine g_iconst hF (v := 0) d_X3_counted_129 (by decide) ?_
        refine g_callV (As := [.int 34, .int a1, .int 0, .int 0]) (rest := []) hF (c_X3_add a g r σ13 (34 : Int32) a1 (0 : Int32) (0 : Int32) (fun h9 => absurd h9 (by decide)) hgp13 iσ13) (Nat.le_of_ble_eq_true rfl) mV_X3_add m_923 (recv_ob obC_3) rfl rfl (Nat.le_of_ble_eq_true rfl) d_X3_counted_130 (k_i (fun r14 σ14 ⟨⟨hgp14, hgm14⟩, iσ14, ik14⟩ => ?_)) (fun _ _ _ h => h.elim)
        have hmo14 : Mo σ14 σ13 := fun h9 => mo_e (show σ13 3 3 = σ13 3 3 from rfl) (hgm14 h9)
        have kp : Keep [(3, 1), (3, 2), (3, 3), (3, 4), (3, 9)] [18, 19, 20, 21, 22, 23] σ0 σ14 := keep_c kp ik14 (by decide) (by decide)
        refine g_pop hF d_X3_counted_133 rfl ?_
        exact g_vret hF rfl d_X3_counted_134 ⟨rfl, rfl, rfl, ⟨⟨hgp14, (fun h9 => (hmo1 (hmo3 (hmo7 (hmo11 (hmo13 (mo_e (show σ14 3 3 = σ13 3 3 from (ik14 3 3 rfl rfl rfl)) h9)))))))⟩, iσ14, kp⟩⟩
    · -- not taken at 52
      refine g_iconst hF (v := 1) d_X3_counted_55 (by decide) ?_
      refine g_goto hF 60 d_X3_counted_56 (by decide) ?_
      refine g_istore_n hF [(2, .int 1), (0, .ref (r 3)), (1, .int a1)] d_X3_counted_60 rfl hnn (by decide) rfl ?_
      refine g_iload_n hF d_X3_counted_61 rfl 0 rfl ?_
      refine g_if_eq (xv := 1) hF 70 d_X3_counted_62 (by decide) (by decide) (fun c_62 => absurd c_62 (by decide)) (fun _ => ?_)
      refine g_aload_n hF d_X3_counted_65 rfl 1 rfl ?_
      refine g_iconst hF (v := 1) d_X3_counted_66 (by decide) ?_
      refine g_callV (As := [.int 1]) (rest := []) hF ((RX_all a g r 25 σ4 1 (by decide) (by decide) iσ4 hgp4).1) (Nat.le_of_ble_eq_true rfl) mV_X3_expression m_927 (recv_ob obC_3) rfl rfl (Nat.le_of_ble_eq_true rfl) d_X3_counted_67 (k_v (fun σ15 ⟨⟨hgp15, hgm15⟩, iσ15, ik15⟩ => ?_)) (fun _ _ _ h => h.elim)
      have hmo15 : Mo σ15 σ3 := fun h9 => mo_e (show σ4 3 3 = σ3 3 3 from (ik4 3 3 rfl rfl rfl)) (hgm15 h9)
      have kp : Keep [(3, 1), (3, 2), (3, 3), (3, 4), (3, 9)] [18, 19, 20, 21, 22, 23] σ0 σ15 := keep_c kp ik15 (by decide) (by decide)
      refine g_aload_n hF d_X3_counted_70 rfl 1 rfl ?_
      refine g_bipush hF (v := 33) d_X3_counted_71 (by decide) ?_
      refine g_iload_n hF d_X3_counted_73 rfl 2 rfl ?_
      refine g_iload_n hF d_X3_counted_74 rfl 0 rfl ?_
      refine g_if_eq (xv := 1) hF 82 d_X3_counted_75 (by decide) (by decide) (fun c_75 => absurd c_75 (by decide)) (fun _ => ?_)
      refine g_iconst hF (v := 1) d_X3_counted_78 (by decide) ?_
      refine g_goto hF 83 d_X3_counted_79 (by decide) ?_
      refine g_iconst hF (v := 0) d_X3_counted_83 (by decide) ?_
      refine g_callV (As := [.int 33, .int a1, .int 1, .int 0]) (rest := []) hF (c_X3_add a g r σ15 (33 : Int32) a1 (1 : Int32) (0 : Int32) (fun h9 => absurd h9 (by decide)) hgp15 iσ15) (Nat.le_of_ble_eq_true rfl) mV_X3_add m_923 (recv_ob obC_3) rfl rfl (Nat.le_of_ble_eq_true rfl) d_X3_counted_84 (k_i (fun r16 σ16 ⟨⟨hgp16, hgm16⟩, iσ16, ik16⟩ => ?_)) (fun _ _ _ h => h.elim)
      have hmo16 : Mo σ16 σ15 := fun h9 => mo_e (show σ15 3 3 = σ15 3 3 from rfl) (hgm16 h9)
      have kp : Keep [(3, 1), (3, 2), (3, 3), (3, 4), (3, 9)] [18, 19, 20, 21, 22, 23] σ0 σ16 := keep_c kp ik16 (by decide) (by decide)
      refine g_pop hF d_X3_counted_87 rfl ?_
      refine g_aload_n hF d_X3_counted_88 rfl 1 rfl ?_
      refine g_bipush hF (v := 27) d_X3_counted_89 (by decide) ?_
      refine g_callV (As := [.int 27]) (rest := []) hF (c_X3_expect a g r σ16 (27 : Int32) hgp16 (by show ¬ (27 = 0 ∨ 27 = -1); have e0 : (27 : Int32).toInt = 27 := (by decide); have e1 := s_rng (σ1 3 2); have e2 := s_rng (σ3 3 2); omega) iσ16) (Nat.le_of_ble_eq_true rfl) mV_X3_expect m_903 (recv_ob obC_3) rfl rfl (Nat.le_of_ble_eq_true rfl) d_X3_counted_91 (k_v (fun σ17 ⟨⟨hgp17, hgm17⟩, hs17, iσ17, ik17⟩ => ?_)) (fun _ _ _ h => h.elim)
      have hs17 : (σ17 3 3).toInt < 0 → (σ15 3 2).toInt = 27 := (by have h9 := hs17; rw [show (σ16 3 2) = (σ15 3 2) from (ik16 3 2 rfl rfl rfl)] at h9; exact h9)
      have hmo17 : Mo σ17 σ15 := fun h9 => mo_e (show σ16 3 3 = σ15 3 3 from (ik16 3 3 rfl rfl rfl)) (hgm17 h9)
      have kp : Keep [(3, 1), (3, 2), (3, 3), (3, 4), (3, 9)] [18, 19, 20, 21, 22, 23] σ0 σ17 := keep_c kp ik17 (by decide) (by decide)
      refine g_aload_n hF d_X3_counted_94 rfl 1 rfl ?_
      refine g_get (v := .int (σ17 3 2)) hF 2 obC_3 (by decide) m_96 rfl d_X3_counted_95 ?_
      refine g_bipush hF (v := 21) d_X3_counted_98 (by decide) ?_
      refine g_icmp_eq (yv := 21) hF 118 d_X3_counted_100 (by decide) rfl (by decide) (fun c18_100 => ?_) (fun c18_100 => ?_)
      · -- taken at 100
        refine g_aload_n hF d_X3_counted_118 rfl 1 rfl ?_
        refine g_bipush hF (v := 21) d_X3_counted_119 (by decide) ?_
        refine g_callV (As := [.int 21]) (rest := []) hF (c_X3_expect a g r σ17 (21 : Int32) hgp17 (by show ¬ (21 = 0 ∨ 21 = -1); have e0 : (21 : Int32).toInt = 21 := (by decide); have e1 := s_rng (σ17 3 2); omega) iσ17) (Nat.le_of_ble_eq_true rfl) mV_X3_expect m_903 (recv_ob obC_3) rfl rfl (Nat.le_of_ble_eq_true rfl) d_X3_counted_121 (k_v (fun σ19 ⟨⟨hgp19, hgm19⟩, hs19, iσ19, ik19⟩ => ?_)) (fun _ _ _ h => h.elim)
        have hs19 : (σ19 3 3).toInt < 0 → (σ17 3 2).toInt = 21 := hs19
        have hmo19 : Mo σ19 σ17 := fun h9 => mo_e (show σ17 3 3 = σ17 3 3 from rfl) (hgm19 h9)
        have kp : Keep [(3, 1), (3, 2), (3, 3), (3, 4), (3, 9)] [18, 19, 20, 21, 22, 23] σ0 σ19 := keep_c kp ik19 (by decide) (by decide)
        refine g_aload_n hF d_X3_counted_124 rfl 1 rfl ?_
        refine g_bipush hF (v := 34) d_X3_counted_125 (by decide) ?_
        refine g_iload_n hF d_X3_counted_127 rfl 2 rfl ?_
        refine g_iconst hF (v := 0) d_X3_counted_128 (by decide) ?_
        refine g_iconst hF (v := 0) d_X3_counted_129 (by decide) ?_
        refine g_callV (As := [.int 34, .int a1, .int 0, .int 0]) (rest := []) hF (c_X3_add a g r σ19 (34 : Int32) a1 (0 : Int32) (0 : Int32) (fun h9 => absurd h9 (by decide)) hgp19 iσ19) (Nat.le_of_ble_eq_true rfl) mV_X3_add m_923 (recv_ob obC_3) rfl rfl (Nat.le_of_ble_eq_true rfl) d_X3_counted_130 (k_i (fun r20 σ20 ⟨⟨hgp20, hgm20⟩, iσ20, ik20⟩ => ?_)) (fun _ _ _ h => h.elim)
        have hmo20 : Mo σ20 σ19 := fun h9 => mo_e (show σ19 3 3 = σ19 3 3 from rfl) (hgm20 h9)
        have kp : Keep [(3, 1), (3, 2), (3, 3), (3, 4), (3, 9)] [18, 19, 20, 21, 22, 23] σ0 σ20 := keep_c kp ik20 (by decide) (by decide)
        refine g_pop hF d_X3_counted_133 rfl ?_
        exact g_vret hF rfl d_X3_counted_134 ⟨rfl, rfl, rfl, ⟨⟨hgp20, (fun h9 => (hmo1 (hmo3 (hmo15 (hmo17 (hmo19 (mo_e (show σ20 3 3 = σ19 3 3 from (ik20 3 3 rfl rfl rfl)) h9)))))))⟩, iσ20, kp⟩⟩
      · -- not taken at 100
        refine g_aload_n hF d_X3_counted_103 rfl 1 rfl ?_
        refine g_iconst hF (v := 1) d_X3_counted_104 (by decide) ?_
        refine g_callV (As := [.int 1]) (rest := []) hF ((RX_all a g r 25 σ17 1 (by decide) (by decide) iσ17 hgp17).1) (Nat.le_of_ble_eq_true rfl) mV_X3_expression m_927 (recv_ob obC_3) rfl rfl (Nat.le_of_ble_eq_true rfl) d_X3_counted_105 (k_v (fun σ21 ⟨⟨hgp21, hgm21⟩, iσ21, ik21⟩ => ?_)) (fun _ _ _ h => h.elim)
        have hmo21 : Mo σ21 σ17 := fun h9 => mo_e (show σ17 3 3 = σ17 3 3 from rfl) (hgm21 h9)
        have kp : Keep [(3, 1), (3, 2), (3, 3), (3, 4), (3, 9)] [18, 19, 20, 21, 22, 23] σ0 σ21 := keep_c kp ik21 (by decide) (by decide)
        refine g_aload_n hF d_X3_counted_108 rfl 1 rfl ?_
        refine g_bipush hF (v := 22) d_X3_counted_109 (by decide) ?_
        refine g_iload_n hF d_X3_counted_111 rfl 2 rfl ?_
        refine g_iconst hF (v := 0) d_X3_counted_112 (by decide) ?_
        refine g_iconst hF (v := 0) d_X3_counted_113 (by decide) ?_
        refine g_callV (As := [.int 22, .int a1, .int 0, .int 0]) (rest := []) hF (c_X3_add a g r σ21 (22 : Int32) a1 (0 : Int32) (0 : Int32) (fun h9 => absurd h9 (by decide)) hgp21 iσ21) (Nat.le_of_ble_eq_true rfl) mV_X3_add m_923 (recv_ob obC_3) rfl rfl (Nat.le_of_ble_eq_true rfl) d_X3_counted_114 (k_i (fun r22 σ22 ⟨⟨hgp22, hgm22⟩, iσ22, ik22⟩ => ?_)) (fun _ _ _ h => h.elim)
        have hmo22 : Mo σ22 σ21 := fun h9 => mo_e (show σ21 3 3 = σ21 3 3 from rfl) (hgm22 h9)
        have kp : Keep [(3, 1), (3, 2), (3, 3), (3, 4), (3, 9)] [18, 19, 20, 21, 22, 23] σ0 σ22 := keep_c kp ik22 (by decide) (by decide)
        refine g_pop hF d_X3_counted_117 rfl ?_
        refine g_aload_n hF d_X3_counted_118 rfl 1 rfl ?_
        refine g_bipush hF (v := 21) d_X3_counted_119 (by decide) ?_
        refine g_callV (As := [.int 21]) (rest := []) hF (c_X3_expect a g r σ22 (21 : Int32) hgp22 (by show ¬ (21 = 0 ∨ 21 = -1); have e0 : (21 : Int32).toInt = 21 := (by decide); have e1 := s_rng (σ17 3 2); omega) iσ22) (Nat.le_of_ble_eq_true rfl) mV_X3_expect m_903 (recv_ob obC_3) rfl rfl (Nat.le_of_ble_eq_true rfl) d_X3_counted_121 (k_v (fun σ23 ⟨⟨hgp23, hgm23⟩, hs23, iσ23, ik23⟩ => ?_)) (fun _ _ _ h => h.elim)
        have hs23 : (σ23 3 3).toInt < 0 → (σ21 3 2).toInt = 21 := (by have h9 := hs23; rw [show (σ22 3 2) = (σ21 3 2) from (ik22 3 2 rfl rfl rfl)] at h9; exact h9)
        have hmo23 : Mo σ23 σ21 := fun h9 => mo_e (show σ22 3 3 = σ21 3 3 from (ik22 3 3 rfl rfl rfl)) (hgm23 h9)
        have kp : Keep [(3, 1), (3, 2), (3, 3), (3, 4), (3, 9)] [18, 19, 20, 21, 22, 23] σ0 σ23 := keep_c kp ik23 (by decide) (by decide)
        refine g_aload_n hF d_X3_counted_124 rfl 1 rfl ?_
        refine g_bipush hF (v := 34) d_X3_counted_125 (by decide) ?_
        refine g_iload_n hF d_X3_counted_127 rfl 2 rfl ?_
        refine g_iconst hF (v := 0) d_X3_counted_128 (by decide) ?_
        refine g_iconst hF (v := 0) d_X3_counted_129 (by decide) ?_
        refine g_callV (As := [.int 34, .int a1, .int 0, .int 0]) (rest := []) hF (c_X3_add a g r σ23 (34 : Int32) a1 (0 : Int32) (0 : Int32) (fun h9 => absurd h9 (by decide)) hgp23 iσ23) (Nat.le_of_ble_eq_true rfl) mV_X3_add m_923 (recv_ob obC_3) rfl rfl (Nat.le_of_ble_eq_true rfl) d_X3_counted_130 (k_i (fun r24 σ24 ⟨⟨hgp24, hgm24⟩, iσ24, ik24⟩ => ?_)) (fun _ _ _ h => h.elim)
        have hmo24 : Mo σ24 σ23 := fun h9 => mo_e (show σ23 3 3 = σ23 3 3 from rfl) (hgm24 h9)
        have kp : Keep [(3, 1), (3, 2), (3, 3), (3, 4), (3, 9)] [18, 19, 20, 21, 22, 23] σ0 σ24 := keep_c kp ik24 (by decide) (by decide)
        refine g_pop hF d_X3_counted_133 rfl ?_
        exact g_vret hF rfl d_X3_counted_134 ⟨rfl, rfl, rfl, ⟨⟨hgp24, (fun h9 => (hmo1 (hmo3 (hmo15 (hmo17 (hmo21 (hmo23 (mo_e (show σ24 3 3 = σ23 3 3 from (ik24 3 3 rfl rfl rfl)) h9))))))))⟩, iσ24, kp⟩⟩
  · -- not taken at 12
    refine g_aload_n hF d_X3_counted_15 rfl 0 rfl ?_
    refine g_iconst hF (v := 1) d_X3_counted_16 (by decide) ?_
    refine g_callV (As := [.int 1]) (rest := []) hF ((RX_all a g r 25 σ1 1 (by decide) (by decide) iσ1 hgp1).1) (Nat.le_of_ble_eq_true rfl) mV_X3_expression m_927 (recv_ob obC_3) rfl rfl (Nat.le_of_ble_eq_true rfl) d_X3_counted_17 (k_v (fun σ25 ⟨⟨hgp25, hgm25⟩, iσ25, ik25⟩ => ?_)) (fun _ _ _ h => h.elim)
    have hmo25 : Mo σ25 σ1 := fun h9 => mo_e (show σ1 3 3 = σ1 3 3 from rfl) (hgm25 h9)
    have kp : Keep [(3, 1), (3, 2), (3, 3), (3, 4), (3, 9)] [18, 19, 20, 21, 22, 23] σ0 σ25 := keep_c kp ik25 (by decide) (by decide)
    refine g_aload_n hF d_X3_counted_20 rfl 0 rfl ?_
    refine g_bipush hF (v := 22) d_X3_counted_21 (by decide) ?_
    refine g_iload_n hF d_X3_counted_23 rfl 1 rfl ?_
    refine g_iconst hF (v := 0) d_X3_counted_24 (by decide) ?_
    refine g_iconst hF (v := 0) d_X3_counted_25 (by decide) ?_
    refine g_callV (As := [.int 22, .int a1, .int 0, .int 0]) (rest := []) hF (c_X3_add a g r σ25 (22 : Int32) a1 (0 : Int32) (0 : Int32) (fun h9 => absurd h9 (by decide)) hgp25 iσ25) (Nat.le_of_ble_eq_true rfl) mV_X3_add m_923 (recv_ob obC_3) rfl rfl (Nat.le_of_ble_eq_true rfl) d_X3_counted_26 (k_i (fun r26 σ26 ⟨⟨hgp26, hgm26⟩, iσ26, ik26⟩ => ?_)) (fun _ _ _ h => h.elim)
    have hmo26 : Mo σ26 σ25 := fun h9 => mo_e (show σ25 3 3 = σ25 3 3 from rfl) (hgm26 h9)
    have kp : Keep [(3, 1), (3, 2), (3, 3), (3, 4), (3, 9)] [18, 19, 20, 21, 22, 23] σ0 σ26 := keep_c kp ik26 (by decide) (by decide)
    refine g_pop hF d_X3_counted_29 rfl ?_
    refine g_aload_n hF d_X3_counted_30 rfl 0 rfl ?_
    refine g_bipush hF (v := 27) d_X3_counted_31 (by decide) ?_
    refine g_callV (As := [.int 27]) (rest := []) hF (c_X3_expect a g r σ26 (27 : Int32) hgp26 (by show ¬ (27 = 0 ∨ 27 = -1); have e0 : (27 : Int32).toInt = 27 := (by decide); have e1 := s_rng (σ1 3 2); omega) iσ26) (Nat.le_of_ble_eq_true rfl) mV_X3_expect m_903 (recv_ob obC_3) rfl rfl (Nat.le_of_ble_eq_true rfl) d_X3_counted_33 (k_v (fun σ27 ⟨⟨hgp27, hgm27⟩, hs27, iσ27, ik27⟩ => ?_)) (fun _ _ _ h => h.elim)
    have hs27 : (σ27 3 3).toInt < 0 → (σ25 3 2).toInt = 27 := (by have h9 := hs27; rw [show (σ26 3 2) = (σ25 3 2) from (ik26 3 2 rfl rfl rfl)] at h9; exact h9)
    have hmo27 : Mo σ27 σ25 := fun h9 => mo_e (show σ26 3 3 = σ25 3 3 from (ik26 3 3 rfl rfl rfl)) (hgm27 h9)
    have kp : Keep [(3, 1), (3, 2), (3, 3), (3, 4), (3, 9)] [18, 19, 20, 21, 22, 23] σ0 σ27 := keep_c kp ik27 (by decide) (by decide)
    refine g_aload_n hF d_X3_counted_36 rfl 0 rfl ?_
    refine g_bipush hF (v := 32) d_X3_counted_37 (by decide) ?_
    refine g_iload_n hF d_X3_counted_39 rfl 1 rfl ?_
    refine g_iconst hF (v := 0) d_X3_counted_40 (by decide) ?_
    refine g_iconst hF (v := 0) d_X3_counted_41 (by decide) ?_
    refine g_callV (As := [.int 32, .int a1, .int 0, .int 0]) (rest := []) hF (c_X3_add a g r σ27 (32 : Int32) a1 (0 : Int32) (0 : Int32) (fun h9 => absurd h9 (by decide)) hgp27 iσ27) (Nat.le_of_ble_eq_true rfl) mV_X3_add m_923 (recv_ob obC_3) rfl rfl (Nat.le_of_ble_eq_true rfl) d_X3_counted_42 (k_i (fun r28 σ28 ⟨⟨hgp28, hgm28⟩, iσ28, ik28⟩ => ?_)) (fun _ _ _ h => h.elim)
    have hmo28 : Mo σ28 σ27 := fun h9 => mo_e (show σ27 3 3 = σ27 3 3 from rfl) (hgm28 h9)
    have kp : Keep [(3, 1), (3, 2), (3, 3), (3, 4), (3, 9)] [18, 19, 20, 21, 22, 23] σ0 σ28 := keep_c kp ik28 (by decide) (by decide)
    refine g_pop hF d_X3_counted_45 rfl ?_
    refine g_aload_n hF d_X3_counted_46 rfl 0 rfl ?_
    refine g_get (v := .int (σ28 3 2)) hF 2 obC_3 (by decide) m_96 rfl d_X3_counted_47 ?_
    refine g_top (v := (σ27 3 2)) (ik28 3 2 rfl rfl rfl) ?_
    refine g_bipush hF (v := 27) d_X3_counted_50 (by decide) ?_
    refine g_icmp_eq (yv := 27) hF 59 d_X3_counted_52 (by decide) rfl (by decide) (fun c29_52 => ?_) (fun c29_52 => ?_)
    · -- taken at 52
      refine g_iconst hF (v := 0) d_X3_counted_59 (by decide) ?_
      refine g_istore_n hF [(2, .int 0), (0, .ref (r 3)), (1, .int a1)] d_X3_counted_60 rfl hnn (by decide) rfl ?_
      refine g_iload_n hF d_X3_counted_61 rfl 0 rfl ?_
      refine g_if_eq (xv := 0) hF 70 d_X3_counted_62 (by decide) (by decide) (fun _ => ?_) (fun c_62 => absurd c_62 (by decide))
      refine g_aload_n hF d_X3_counted_70 rfl 1 rfl ?_
      refine g_bipush hF (v := 33) d_X3_counted_71 (by decide) ?_
      refine g_iload_n hF d_X3_counted_73 rfl 2 rfl ?_
      refine g_iload_n hF d_X3_counted_74 rfl 0 rfl ?_
      refine g_if_eq (xv := 0) hF 82 d_X3_counted_75 (by decide) (by decide) (fun _ => ?_) (fun c_75 => absurd c_75 (by decide))
      refine g_iconst hF (v := 0) d_X3_counted_82 (by decide) ?_
      refine g_iconst hF (v := 0) d_X3_counted_83 (by decide) ?_
      refine g_callV (As := [.int 33, .int a1, .int 0, .int 0]) (rest := []) hF (c_X3_add a g r σ28 (33 : Int32) a1 (0 : Int32) (0 : Int32) (fun h9 => absurd h9 (by decide)) hgp28 iσ28) (Nat.le_of_ble_eq_true rfl) mV_X3_add m_923 (recv_ob obC_3) rfl rfl (Nat.le_of_ble_eq_true rfl) d_X3_counted_84 (k_i (fun r30 σ30 ⟨⟨hgp30, hgm30⟩, iσ30, ik30⟩ => ?_)) (fun _ _ _ h => h.elim)
      have hmo30 : Mo σ30 σ27 := fun h9 => mo_e (show σ28 3 3 = σ27 3 3 from (ik28 3 3 rfl rfl rfl)) (hgm30 h9)
      have kp : Keep [(3, 1), (3, 2), (3, 3), (3, 4), (3, 9)] [18, 19, 20, 21, 22, 23] σ0 σ30 := keep_c kp ik30 (by decide) (by decide)
      refine g_pop hF d_X3_counted_87 rfl ?_
      refine g_aload_n hF d_X3_counted_88 rfl 1 rfl ?_
      refine g_bipush hF (v := 27) d_X3_counted_89 (by decide) ?_
      refine g_callV (As := [.int 27]) (rest := []) hF (c_X3_expect a g r σ30 (27 : Int32) hgp30 (by show ¬ (27 = 0 ∨ 27 = -1); have e0 : (27 : Int32).toInt = 27 := (by decide); have e1 := s_rng (σ1 3 2); have e2 := s_rng (σ27 3 2); omega) iσ30) (Nat.le_of_ble_eq_true rfl) mV_X3_expect m_903 (recv_ob obC_3) rfl rfl (Nat.le_of_ble_eq_true rfl) d_X3_counted_91 (k_v (fun σ31 ⟨⟨hgp31, hgm31⟩, hs31, iσ31, ik31⟩ => ?_)) (fun _ _ _ h => h.elim)
      have hs31 : (σ31 3 3).toInt < 0 → (σ27 3 2).toInt = 27 := (by have h9 := hs31; rw [show (σ30 3 2) = (σ27 3 2) from ((ik30 3 2 rfl rfl rfl).trans (ik28 3 2 rfl rfl rfl))] at h9; exact h9)
      have hmo31 : Mo σ31 σ27 := fun h9 => mo_e (show σ30 3 3 = σ27 3 3 from ((ik30 3 3 rfl rfl rfl).trans (ik28 3 3 rfl rfl rfl))) (hgm31 h9)
      have kp : Keep [(3, 1), (3, 2), (3, 3), (3, 4), (3, 9)] [18, 19, 20, 21, 22, 23] σ0 σ31 := keep_c kp ik31 (by decide) (by decide)
      refine g_aload_n hF d_X3_counted_94 rfl 1 rfl ?_
      refine g_get (v := .int (σ31 3 2)) hF 2 obC_3 (by decide) m_96 rfl d_X3_counted_95 ?_
      refine g_bipush hF (v := 21) d_X3_counted_98 (by decide) ?_
      refine g_icmp_eq (yv := 21) hF 118 d_X3_counted_100 (by decide) rfl (by decide) (fun c32_100 => ?_) (fun c32_100 => ?_)
      · -- taken at 100
        refine g_aload_n hF d_X3_counted_118 rfl 1 rfl ?_
        refine g_bipush hF (v := 21) d_X3_counted_119 (by decide) ?_
        refine g_callV (As := [.int 21]) (rest := []) hF (c_X3_expect a g r σ31 (21 : Int32) hgp31 (by show ¬ (21 = 0 ∨ 21 = -1); have e0 : (21 : Int32).toInt = 21 := (by decide); have e1 := s_rng (σ31 3 2); omega) iσ31) (Nat.le_of_ble_eq_true rfl) mV_X3_expect m_903 (recv_ob obC_3) rfl rfl (Nat.le_of_ble_eq_true rfl) d_X3_counted_121 (k_v (fun σ33 ⟨⟨hgp33, hgm33⟩, hs33, iσ33, ik33⟩ => ?_)) (fun _ _ _ h => h.elim)
        have hs33 : (σ33 3 3).toInt < 0 → (σ31 3 2).toInt = 21 := hs33
        have hmo33 : Mo σ33 σ31 := fun h9 => mo_e (show σ31 3 3 = σ31 3 3 from rfl) (hgm33 h9)
        have kp : Keep [(3, 1), (3, 2), (3, 3), (3, 4), (3, 9)] [18, 19, 20, 21, 22, 23] σ0 σ33 := keep_c kp ik33 (by decide) (by decide)
        refine g_aload_n hF d_X3_counted_124 rfl 1 rfl ?_
        refine g_bipush hF (v := 34) d_X3_counted_125 (by decide) ?_
        refine g_iload_n hF d_X3_counted_127 rfl 2 rfl ?_
        refine g_iconst hF (v := 0) d_X3_counted_128 (by decide) ?_
        refine g_iconst hF (v := 0) d_X3_counted_129 (by decide) ?_
        refine g_callV (As := [.int 34, .int a1, .int 0, .int 0]) (rest := []) hF (c_X3_add a g r σ33 (34 : Int32) a1 (0 : Int32) (0 : Int32) (fun h9 => absurd h9 (by decide)) hgp33 iσ33) (Nat.le_of_ble_eq_true rfl) mV_X3_add m_923 (recv_ob obC_3) rfl rfl (Nat.le_of_ble_eq_true rfl) d_X3_counted_130 (k_i (fun r34 σ34 ⟨⟨hgp34, hgm34⟩, iσ34, ik34⟩ => ?_)) (fun _ _ _ h => h.elim)
        have hmo34 : Mo σ34 σ33 := fun h9 => mo_e (show σ33 3 3 = σ33 3 3 from rfl) (hgm34 h9)
        have kp : Keep [(3, 1), (3, 2), (3, 3), (3, 4), (3, 9)] [18, 19, 20, 21, 22, 23] σ0 σ34 := keep_c kp ik34 (by decide) (by decide)
        refine g_pop hF d_X3_counted_133 rfl ?_
        exact g_vret hF rfl d_X3_counted_134 ⟨rfl, rfl, rfl, ⟨⟨hgp34, (fun h9 => (hmo1 (hmo25 (hmo27 (hmo31 (hmo33 (mo_e (show σ34 3 3 = σ33 3 3 from (ik34 3 3 rfl rfl rfl)) h9)))))))⟩, iσ34, kp⟩⟩
      · -- not taken at 100
        refine g_aload_n hF d_X3_counted_103 rfl 1 rfl ?_
        refine g_iconst hF (v := 1) d_X3_counted_104 (by decide) ?_
        refine g_callV (As := [.int 1]) (rest := []) hF ((RX_all a g r 25 σ31 1 (by decide) (by decide) iσ31 hgp31).1) (Nat.le_of_ble_eq_true rfl) mV_X3_expression m_927 (recv_ob obC_3) rfl rfl (Nat.le_of_ble_eq_true rfl) d_X3_counted_105 (k_v (fun σ35 ⟨⟨hgp35, hgm35⟩, iσ35, ik35⟩ => ?_)) (fun _ _ _ h => h.elim)
        have hmo35 : Mo σ35 σ31 := fun h9 => mo_e (show σ31 3 3 = σ31 3 3 from rfl) (hgm35 h9)
        have kp : Keep [(3, 1), (3, 2), (3, 3), (3, 4), (3, 9)] [18, 19, 20, 21, 22, 23] σ0 σ35 := keep_c kp ik35 (by decide) (by decide)
        refine g_aload_n hF d_X3_counted_108 rfl 1 rfl ?_
        refine g_bipush hF (v := 22) d_X3_counted_109 (by decide) ?_
        refine g_iload_n hF d_X3_counted_111 rfl 2 rfl ?_
        refine g_iconst hF (v := 0) d_X3_counted_112 (by decide) ?_
        refine g_iconst hF (v := 0) d_X3_counted_113 (by decide) ?_
        refine g_callV (As := [.int 22, .int a1, .int 0, .int 0]) (rest := []) hF (c_X3_add a g r σ35 (22 : Int32) a1 (0 : Int32) (0 : Int32) (fun h9 => absurd h9 (by decide)) hgp35 iσ35) (Nat.le_of_ble_eq_true rfl) mV_X3_add m_923 (recv_ob obC_3) rfl rfl (Nat.le_of_ble_eq_true rfl) d_X3_counted_114 (k_i (fun r36 σ36 ⟨⟨hgp36, hgm36⟩, iσ36, ik36⟩ => ?_)) (fun _ _ _ h => h.elim)
        have hmo36 : Mo σ36 σ35 := fun h9 => mo_e (show σ35 3 3 = σ35 3 3 from rfl) (hgm36 h9)
        have kp : Keep [(3, 1), (3, 2), (3, 3), (3, 4), (3, 9)] [18, 19, 20, 21, 22, 23] σ0 σ36 := keep_c kp ik36 (by decide) (by decide)
        refine g_pop hF d_X3_counted_117 rfl ?_
        refine g_aload_n hF d_X3_counted_118 rfl 1 rfl ?_
        refine g_bipush hF (v := 21) d_X3_counted_119 (by decide) ?_
        refine g_callV (As := [.int 21]) (rest := []) hF (c_X3_expect a g r σ36 (21 : Int32) hgp36 (by show ¬ (21 = 0 ∨ 21 = -1); have e0 : (21 : Int32).toInt = 21 := (by decide); have e1 := s_rng (σ31 3 2); omega) iσ36) (Nat.le_of_ble_eq_true rfl) mV_X3_expect m_903 (recv_ob obC_3) rfl rfl (Nat.le_of_ble_eq_true rfl) d_X3_counted_121 (k_v (fun σ37 ⟨⟨hgp37, hgm37⟩, hs37, iσ37, ik37⟩ => ?_)) (fun _ _ _ h => h.elim)
        have hs37 : (σ37 3 3).toInt < 0 → (σ35 3 2).toInt = 21 := (by have h9 := hs37; rw [show (σ36 3 2) = (σ35 3 2) from (ik36 3 2 rfl rfl rfl)] at h9; exact h9)
        have hmo37 : Mo σ37 σ35 := fun h9 => mo_e (show σ36 3 3 = σ35 3 3 from (ik36 3 3 rfl rfl rfl)) (hgm37 h9)
        have kp : Keep [(3, 1), (3, 2), (3, 3), (3, 4), (3, 9)] [18, 19, 20, 21, 22, 23] σ0 σ37 := keep_c kp ik37 (by decide) (by decide)
        refine g_aload_n hF d_X3_counted_124 rfl 1 rfl ?_
        refine g_bipush hF (v := 34) d_X3_counted_125 (by decide) ?_
        refine g_iload_n hF d_X3_counted_127 rfl 2 rfl ?_
        refine g_iconst hF (v := 0) d_X3_counted_128 (by decide) ?_
        refine g_iconst hF (v := 0) d_X3_counted_129 (by decide) ?_
        refine g_callV (As := [.int 34, .int a1, .int 0, .int 0]) (rest := []) hF (c_X3_add a g r σ37 (34 : Int32) a1 (0 : Int32) (0 : Int32) (fun h9 => absurd h9 (by decide)) hgp37 iσ37) (Nat.le_of_ble_eq_true rfl) mV_X3_add m_923 (recv_ob obC_3) rfl rfl (Nat.le_of_ble_eq_true rfl) d_X3_counted_130 (k_i (fun r38 σ38 ⟨⟨hgp38, hgm38⟩, iσ38, ik38⟩ => ?_)) (fun _ _ _ h => h.elim)
        have hmo38 : Mo σ38 σ37 := fun h9 => mo_e (show σ37 3 3 = σ37 3 3 from rfl) (hgm38 h9)
        have kp : Keep [(3, 1), (3, 2), (3, 3), (3, 4), (3, 9)] [18, 19, 20, 21, 22, 23] σ0 σ38 := keep_c kp ik38 (by decide) (by decide)
        refine g_pop hF d_X3_counted_133 rfl ?_
        exact g_vret hF rfl d_X3_counted_134 ⟨rfl, rfl, rfl, ⟨⟨hgp38, (fun h9 => (hmo1 (hmo25 (hmo27 (hmo31 (hmo35 (hmo37 (mo_e (show σ38 3 3 = σ37 3 3 from (ik38 3 3 rfl rfl rfl)) h9))))))))⟩, iσ38, kp⟩⟩
    · -- not taken at 52
      refine g_iconst hF (v := 1) d_X3_counted_55 (by decide) ?_
      refine g_goto hF 60 d_X3_counted_56 (by decide) ?_
      refine g_istore_n hF [(2, .int 1), (0, .ref (r 3)), (1, .int a1)] d_X3_counted_60 rfl hnn (by decide) rfl ?_
      refine g_iload_n hF d_X3_counted_61 rfl 0 rfl ?_
      refine g_if_eq (xv := 1) hF 70 d_X3_counted_62 (by decide) (by decide) (fun c_62 => absurd c_62 (by decide)) (fun _ => ?_)
      refine g_aload_n hF d_X3_counted_65 rfl 1 rfl ?_
      refine g_iconst hF (v := 1) d_X3_counted_66 (by decide) ?_
      refine g_callV (As := [.int 1]) (rest := []) hF ((RX_all a g r 25 σ28 1 (by decide) (by decide) iσ28 hgp28).1) (Nat.le_of_ble_eq_true rfl) mV_X3_expression m_927 (recv_ob obC_3) rfl rfl (Nat.le_of_ble_eq_true rfl) d_X3_counted_67 (k_v (fun σ39 ⟨⟨hgp39, hgm39⟩, iσ39, ik39⟩ => ?_)) (fun _ _ _ h => h.elim)
      have hmo39 : Mo σ39 σ27 := fun h9 => mo_e (show σ28 3 3 = σ27 3 3 from (ik28 3 3 rfl rfl rfl)) (hgm39 h9)
      have kp : Keep [(3, 1), (3, 2), (3, 3), (3, 4), (3, 9)] [18, 19, 20, 21, 22, 23] σ0 σ39 := keep_c kp ik39 (by decide) (by decide)
      refine g_aload_n hF d_X3_counted_70 rfl 1 rfl ?_
      refine g_bipush hF (v := 33) d_X3_counted_71 (by decide) ?_
      refine g_iload_n hF d_X3_counted_73 rfl 2 rfl ?_
      refine g_iload_n hF d_X3_counted_74 rfl 0 rfl ?_
      refine g_if_eq (xv := 1) hF 82 d_X3_counted_75 (by decide) (by decide) (fun c_75 => absurd c_75 (by decide)) (fun _ => ?_)
      refine g_iconst hF (v := 1) d_X3_counted_78 (by decide) ?_
      refine g_goto hF 83 d_X3_counted_79 (by decide) ?_
      refine g_iconst hF (v := 0) d_X3_counted_83 (by decide) ?_
      refine g_callV (As := [.int 33, .int a1, .int 1, .int 0]) (rest := []) hF (c_X3_add a g r σ39 (33 : Int32) a1 (1 : Int32) (0 : Int32) (fun h9 => absurd h9 (by decide)) hgp39 iσ39) (Nat.le_of_ble_eq_true rfl) mV_X3_add m_923 (recv_ob obC_3) rfl rfl (Nat.le_of_ble_eq_true rfl) d_X3_counted_84 (k_i (fun r40 σ40 ⟨⟨hgp40, hgm40⟩, iσ40, ik40⟩ => ?_)) (fun _ _ _ h => h.elim)
      have hmo40 : Mo σ40 σ39 := fun h9 => mo_e (show σ39 3 3 = σ39 3 3 from rfl) (hgm40 h9)
      have kp : Keep [(3, 1), (3, 2), (3, 3), (3, 4), (3, 9)] [18, 19, 20, 21, 22, 23] σ0 σ40 := keep_c kp ik40 (by decide) (by decide)
      refine g_pop hF d_X3_counted_87 rfl ?_
      refine g_aload_n hF d_X3_counted_88 rfl 1 rfl ?_
      refine g_bipush hF (v := 27) d_X3_counted_89 (by decide) ?_
      refine g_callV (As := [.int 27]) (rest := []) hF (c_X3_expect a g r σ40 (27 : Int32) hgp40 (by show ¬ (27 = 0 ∨ 27 = -1); have e0 : (27 : Int32).toInt = 27 := (by decide); have e1 := s_rng (σ1 3 2); have e2 := s_rng (σ27 3 2); omega) iσ40) (Nat.le_of_ble_eq_true rfl) mV_X3_expect m_903 (recv_ob obC_3) rfl rfl (Nat.le_of_ble_eq_true rfl) d_X3_counted_91 (k_v (fun σ41 ⟨⟨hgp41, hgm41⟩, hs41, iσ41, ik41⟩ => ?_)) (fun _ _ _ h => h.elim)
      have hs41 : (σ41 3 3).toInt < 0 → (σ39 3 2).toInt = 27 := (by have h9 := hs41; rw [show (σ40 3 2) = (σ39 3 2) from (ik40 3 2 rfl rfl rfl)] at h9; exact h9)
      have hmo41 : Mo σ41 σ39 := fun h9 => mo_e (show σ40 3 3 = σ39 3 3 from (ik40 3 3 rfl rfl rfl)) (hgm41 h9)
      have kp : Keep [(3, 1), (3, 2), (3, 3), (3, 4), (3, 9)] [18, 19, 20, 21, 22, 23] σ0 σ41 := keep_c kp ik41 (by decide) (by decide)
      refine g_aload_n hF d_X3_counted_94 rfl 1 rfl ?_
      refine g_get (v := .int (σ41 3 2)) hF 2 obC_3 (by decide) m_96 rfl d_X3_counted_95 ?_
      refine g_bipush hF (v := 21) d_X3_counted_98 (by decide) ?_
      refine g_icmp_eq (yv := 21) hF 118 d_X3_counted_100 (by decide) rfl (by decide) (fun c42_100 => ?_) (fun c42_100 => ?_)
      · -- taken at 100
        refine g_aload_n hF d_X3_counted_118 rfl 1 rfl ?_
        refine g_bipush hF (v := 21) d_X3_counted_119 (by decide) ?_
        refine g_callV (As := [.int 21]) (rest := []) hF (c_X3_expect a g r σ41 (21 : Int32) hgp41 (by show ¬ (21 = 0 ∨ 21 = -1); have e0 : (21 : Int32).toInt = 21 := (by decide); have e1 := s_rng (σ41 3 2); omega) iσ41) (Nat.le_of_ble_eq_true rfl) mV_X3_expect m_903 (recv_ob obC_3) rfl rfl (Nat.le_of_ble_eq_true rfl) d_X3_counted_121 (k_v (fun σ43 ⟨⟨hgp43, hgm43⟩, hs43, iσ43, ik43⟩ => ?_)) (fun _ _ _ h => h.elim)
        have hs43 : (σ43 3 3).toInt < 0 → (σ41 3 2).toInt = 21 := hs43
        have hmo43 : Mo σ43 σ41 := fun h9 => mo_e (show σ41 3 3 = σ41 3 3 from rfl) (hgm43 h9)
        have kp : Keep [(3, 1), (3, 2), (3, 3), (3, 4), (3, 9)] [18, 19, 20, 21, 22, 23] σ0 σ43 := keep_c kp ik43 (by decide) (by decide)
        refine g_aload_n hF d_X3_counted_124 rfl 1 rfl ?_
        refine g_bipush hF (v := 34) d_X3_counted_125 (by decide) ?_
        refine g_iload_n hF d_X3_counted_127 rfl 2 rfl ?_
        refine g_iconst hF (v := 0) d_X3_counted_128 (by decide) ?_
        refine g_iconst hF (v := 0) d_X3_counted_129 (by decide) ?_
        refine g_callV (As := [.int 34, .int a1, .int 0, .int 0]) (rest := []) hF (c_X3_add a g r σ43 (34 : Int32) a1 (0 : Int32) (0 : Int32) (fun h9 => absurd h9 (by decide)) hgp43 iσ43) (Nat.le_of_ble_eq_true rfl) mV_X3_add m_923 (recv_ob obC_3) rfl rfl (Nat.le_of_ble_eq_true rfl) d_X3_counted_130 (k_i (fun r44 σ44 ⟨⟨hgp44, hgm44⟩, iσ44, ik44⟩ => ?_)) (fun _ _ _ h => h.elim)
        have hmo44 : Mo σ44 σ43 := fun h9 => mo_e (show σ43 3 3 = σ43 3 3 from rfl) (hgm44 h9)
        have kp : Keep [(3, 1), (3, 2), (3, 3), (3, 4), (3, 9)] [18, 19, 20, 21, 22, 23] σ0 σ44 := keep_c kp ik44 (by decide) (by decide)
        refine g_pop hF d_X3_counted_133 rfl ?_
        exact g_vret hF rfl d_X3_counted_134 ⟨rfl, rfl, rfl, ⟨⟨hgp44, (fun h9 => (hmo1 (hmo25 (hmo27 (hmo39 (hmo41 (hmo43 (mo_e (show σ44 3 3 = σ43 3 3 from (ik44 3 3 rfl rfl rfl)) h9))))))))⟩, iσ44, kp⟩⟩
      · -- not taken at 100
        refine g_aload_n hF d_X3_counted_103 rfl 1 rfl ?_
        refine g_iconst hF (v := 1) d_X3_counted_104 (by decide) ?_
        refine g_callV (As := [.int 1]) (rest := []) hF ((RX_all a g r 25 σ41 1 (by decide) (by decide) iσ41 hgp41).1) (Nat.le_of_ble_eq_true rfl) mV_X3_expression m_927 (recv_ob obC_3) rfl rfl (Nat.le_of_ble_eq_true rfl) d_X3_counted_105 (k_v (fun σ45 ⟨⟨hgp45, hgm45⟩, iσ45, ik45⟩ => ?_)) (fun _ _ _ h => h.elim)
        have hmo45 : Mo σ45 σ41 := fun h9 => mo_e (show σ41 3 3 = σ41 3 3 from rfl) (hgm45 h9)
        have kp : Keep [(3, 1), (3, 2), (3, 3), (3, 4), (3, 9)] [18, 19, 20, 21, 22, 23] σ0 σ45 := keep_c kp ik45 (by decide) (by decide)
        refine g_aload_n hF d_X3_counted_108 rfl 1 rfl ?_
        refine g_bipush hF (v := 22) d_X3_counted_109 (by decide) ?_
        refine g_iload_n hF d_X3_counted_111 rfl 2 rfl ?_
        refine g_iconst hF (v := 0) d_X3_counted_112 (by decide) ?_
        refine g_iconst hF (v := 0) d_X3_counted_113 (by decide) ?_
        refine g_callV (As := [.int 22, .int a1, .int 0, .int 0]) (rest := []) hF (c_X3_add a g r σ45 (22 : Int32) a1 (0 : Int32) (0 : Int32) (fun h9 => absurd h9 (by decide)) hgp45 iσ45) (Nat.le_of_ble_eq_true rfl) mV_X3_add m_923 (recv_ob obC_3) rfl rfl (Nat.le_of_ble_eq_true rfl) d_X3_counted_114 (k_i (fun r46 σ46 ⟨⟨hgp46, hgm46⟩, iσ46, ik46⟩ => ?_)) (fun _ _ _ h => h.elim)
        have hmo46 : Mo σ46 σ45 := fun h9 => mo_e (show σ45 3 3 = σ45 3 3 from rfl) (hgm46 h9)
        have kp : Keep [(3, 1), (3, 2), (3, 3), (3, 4), (3, 9)] [18, 19, 20, 21, 22, 23] σ0 σ46 := keep_c kp ik46 (by decide) (by decide)
        refine g_pop hF d_X3_counted_117 rfl ?_
        refine g_aload_n hF d_X3_counted_118 rfl 1 rfl ?_
        refine g_bipush hF (v := 21) d_X3_counted_119 (by decide) ?_
        refine g_callV (As := [.int 21]) (rest := []) hF (c_X3_expect a g r σ46 (21 : Int32) hgp46 (by show ¬ (21 = 0 ∨ 21 = -1); have e0 : (21 : Int32).toInt = 21 := (by decide); have e1 := s_rng (σ41 3 2); omega) iσ46) (Nat.le_of_ble_eq_true rfl) mV_X3_expect m_903 (recv_ob obC_3) rfl rfl (Nat.le_of_ble_eq_true rfl) d_X3_counted_121 (k_v (fun σ47 ⟨⟨hgp47, hgm47⟩, hs47, iσ47, ik47⟩ => ?_)) (fun _ _ _ h => h.elim)
        have hs47 : (σ47 3 3).toInt < 0 → (σ45 3 2).toInt = 21 := (by have h9 := hs47; rw [show (σ46 3 2) = (σ45 3 2) from (ik46 3 2 rfl rfl rfl)] at h9; exact h9)
        have hmo47 : Mo σ47 σ45 := fun h9 => mo_e (show σ46 3 3 = σ45 3 3 from (ik46 3 3 rfl rfl rfl)) (hgm47 h9)
        have kp : Keep [(3, 1), (3, 2), (3, 3), (3, 4), (3, 9)] [18, 19, 20, 21, 22, 23] σ0 σ47 := keep_c kp ik47 (by decide) (by decide)
        refine g_aload_n hF d_X3_counted_124 rfl 1 rfl ?_
        refine g_bipush hF (v := 34) d_X3_counted_125 (by decide) ?_
        refine g_iload_n hF d_X3_counted_127 rfl 2 rfl ?_
        refine g_iconst hF (v := 0) d_X3_counted_128 (by decide) ?_
        refine g_iconst hF (v := 0) d_X3_counted_129 (by decide) ?_
        refine g_callV (As := [.int 34, .int a1, .int 0, .int 0]) (rest := []) hF (c_X3_add a g r σ47 (34 : Int32) a1 (0 : Int32) (0 : Int32) (fun h9 => absurd h9 (by decide)) hgp47 iσ47) (Nat.le_of_ble_eq_true rfl) mV_X3_add m_923 (recv_ob obC_3) rfl rfl (Nat.le_of_ble_eq_true rfl) d_X3_counted_130 (k_i (fun r48 σ48 ⟨⟨hgp48, hgm48⟩, iσ48, ik48⟩ => ?_)) (fun _ _ _ h => h.elim)
        have hmo48 : Mo σ48 σ47 := fun h9 => mo_e (show σ47 3 3 = σ47 3 3 from rfl) (hgm48 h9)
        have kp : Keep [(3, 1), (3, 2), (3, 3), (3, 4), (3, 9)] [18, 19, 20, 21, 22, 23] σ0 σ48 := keep_c kp ik48 (by decide) (by decide)
        refine g_pop hF d_X3_counted_133 rfl ?_
        exact g_vret hF rfl d_X3_counted_134 ⟨rfl, rfl, rfl, ⟨⟨hgp48, (fun h9 => (hmo1 (hmo25 (hmo27 (hmo39 (hmo41 (hmo45 (hmo47 (mo_e (show σ48 3 3 = σ47 3 3 from (ik48 3 3 rfl rfl rfl)) h9)))))))))⟩, iσ48, kp⟩⟩
set_option maxHeartbeats 4000000 in
set_option maxRecDepth 100000 in
theorem c_X3_simple (a : Nat → Nat) (g : Nat → Nat → Int32) (r : Nat → Nat) (σ0 : St) (hgp : GPS σ0) (i0 : Inv σ0) (l : Launch) (D : va_G) (cy : Nat → ClassId) : Ct l D cy SC r (EC a g) y_X3_simple (Cond.code y_X3_simple b_X3_simple 3 none) 359 [.ref (r 3)] σ0 Z0 [] (QV (fun σ9 => ((GPS σ9 ∧ Mo σ9 σ0) ∧ (Inv σ9 ∧ Keep [(3, 1), (3, 2), (3, 3), (3, 4), (3, 9)] [18, 19, 20, 21, 22, 23] σ0 σ9)))) QF := by
  refine Ct_of (EC_ok a g) (by decide) (Nat.le_of_ble_eq_true rfl) (by decide) (fun X hnn hF => ?_)
  show G SC r X σ0 Z0 [] [(0, .ref (r 3))] [] 0
  have kp : Keep [(3, 1), (3, 2), (3, 3), (3, 4), (3, 9)] [18, 19, 20, 21, 22, 23] σ0 σ0 := keep_rf
  refine g_aload_n hF d_X3_simple_0 rfl 0 rfl ?_
  refine g_get (v := .int (σ0 3 1)) hF 1 obC_3 (by decide) m_95 rfl d_X3_simple_1 ?_
  refine g_istore_n hF [(1, .int (σ0 3 1)), (0, .ref (r 3))] d_X3_simple_4 rfl hnn (by decide) rfl ?_
  refine g_aload_n hF d_X3_simple_5 rfl 1 rfl ?_
  refine g_get (v := .int (σ0 3 2)) hF 2 obC_3 (by decide) m_96 rfl d_X3_simple_6 ?_
  refine g_bipush hF (v := 14) d_X3_simple_9 (by decide) ?_
  refine g_icmp_eq (yv := 14) hF 23 d_X3_simple_11 (by decide) rfl (by decide) (fun c1_11 => ?_) (fun c1_11 => ?_)
  · -- taken at 11
    refine g_aload_n hF d_X3_simple_23 rfl 1 rfl ?_
    refine g_aload_n hF d_X3_simple_24 rfl 1 rfl ?_
    refine g_get (v := .int (σ0 3 2)) hF 2 obC_3 (by decide) m_96 rfl d_X3_simple_25 ?_
    refine g_bipush hF (v := 14) d_X3_simple_28 (by decide) ?_
    refine g_icmp_ne (yv := 14) hF 38 d_X3_simple_30 (by decide) rfl (by decide) (fun c2_30 => ?_) (fun c2_30 => ?_)
    · -- taken at 30
      refine g_bipush hF (v := 37) d_X3_simple_38 (by decide) ?_
      refine g_iload_n hF d_X3_simple_40 rfl 0 rfl ?_
      refine g_iconst hF (v := 0) d_X3_simple_41 (by decide) ?_
      refine g_iconst hF (v := 0) d_X3_simple_42 (by decide) ?_
      refine g_callV (As := [.int 37, .int (σ0 3 1), .int 0, .int 0]) (rest := []) hF (c_X3_add a g r σ0 (37 : Int32) (σ0 3 1) (0 : Int32) (0 : Int32) (fun h9 => absurd h9 (by decide)) hgp i0) (Nat.le_of_ble_eq_true rfl) mV_X3_add m_923 (recv_ob obC_3) rfl rfl (Nat.le_of_ble_eq_true rfl) d_X3_simple_43 (k_i (fun r3 σ3 ⟨⟨hgp3, hgm3⟩, iσ3, ik3⟩ => ?_)) (fun _ _ _ h => h.elim)
      have hmo3 : Mo σ3 σ0 := fun h9 => mo_e (show σ0 3 3 = σ0 3 3 from rfl) (hgm3 h9)
      have kp : Keep [(3, 1), (3, 2), (3, 3), (3, 4), (3, 9)] [18, 19, 20, 21, 22, 23] σ0 σ3 := keep_c kp ik3 (by decide) (by decide)
      refine g_pop hF d_X3_simple_46 rfl ?_
      refine g_aload_n hF d_X3_simple_47 rfl 1 rfl ?_
      refine g_callV (As := []) (rest := []) hF (c_X3_advance a g r σ3 hgp3.2.2 (by rw [show (σ3 3 1) = (σ0 3 1) from (ik3 3 1 rfl rfl rfl)]; show -1 ≤ (σ0 3 1).toInt ∧ (σ0 3 1).toInt ≤ 16001; have hki := hgp3.2.1.1; have hgz := hgp3.1; have hq91 : (σ3 3 1).toInt = (σ0 3 1).toInt := (by rw [show (σ3 3 1) = (σ0 3 1) from (ik3 3 1 rfl rfl rfl)]); have hq92 : (σ3 3 2).toInt = (σ0 3 2).toInt := (by rw [show (σ3 3 2) = (σ0 3 2) from (ik3 3 2 rfl rfl rfl)]); have e0 := s_rng (σ0 3 1); omega) iσ3) (Nat.le_of_ble_eq_true rfl) mV_X3_advance m_899 (recv_ob obC_3) rfl rfl (Nat.le_of_ble_eq_true rfl) d_X3_simple_48 (k_v (fun σ4 ⟨⟨hgp4, hgm4⟩, hs4, iσ4, ik4⟩ => ?_)) (fun _ _ _ h => h.elim)
      have hs4 : (σ4 3 1).toInt = (σ0 3 1).toInt + 1 := (by have h9 := hs4; rw [show (σ3 3 1) = (σ0 3 1) from (ik3 3 1 rfl rfl rfl)] at h9; exact h9)
      have hmo4 : Mo σ4 σ0 := fun h9 => mo_e (show σ3 3 3 = σ0 3 3 from (ik3 3 3 rfl rfl rfl)) (hgm4 h9)
      have kp : Keep [(3, 1), (3, 2), (3, 3), (3, 4), (3, 9)] [18, 19, 20, 21, 22, 23] σ0 σ4 := keep_c kp ik4 (by decide) (by decide)
      refine g_goto hF 127 d_X3_simple_51 (by decide) ?_
      refine g_aload_n hF d_X3_simple_127 rfl 1 rfl ?_
      refine g_bipush hF (v := 27) d_X3_simple_128 (by decide) ?_
      refine g_callV (As := [.int 27]) (rest := []) hF (c_X3_expect a g r σ4 (27 : Int32) hgp4 (by show ¬ (27 = 0 ∨ 27 = -1); have e0 : (27 : Int32).toInt = 27 := (by decide); omega) iσ4) (Nat.le_of_ble_eq_true rfl) mV_X3_expect m_903 (recv_ob obC_3) rfl rfl (Nat.le_of_ble_eq_true rfl) d_X3_simple_130 (k_v (fun σ5 ⟨⟨hgp5, hgm5⟩, hs5, iσ5, ik5⟩ => ?_)) (fun _ _ _ h => h.elim)
      have hs5 : (σ5 3 3).toInt < 0 → (σ4 3 2).toInt = 27 := hs5
      have hmo5 : Mo σ5 σ0 := fun h9 => mo_e (show σ4 3 3 = σ0 3 3 from ((ik4 3 3 rfl rfl rfl).trans (ik3 3 3 rfl rfl rfl))) (hgm5 h9)
      have kp : Keep [(3, 1), (3, 2), (3, 3), (3, 4), (3, 9)] [18, 19, 20, 21, 22, 23] σ0 σ5 := keep_c kp ik5 (by decide) (by decide)
      exact g_vret hF rfl d_X3_simple_133 ⟨rfl, rfl, rfl, ⟨⟨hgp5, (fun h9 => (hmo5 (mo_e (show σ5 3 3 = σ5 3 3 from rfl) h9)))⟩, iσ5, kp⟩⟩
    · -- not taken at 30
      refine g_bipush hF (v := 36) d_X3_simple_33 (by decide) ?_
      refine g_goto hF 40 d_X3_simple_35 (by decide) ?_
      refine g_iload_n hF d_X3_simple_40 rfl 0 rfl ?_
      refine g_iconst hF (v := 0) d_X3_simple_41 (by decide) ?_
      refine g_iconst hF (v := 0) d_X3_simple_42 (by decide) ?_
      refine g_callV (As := [.int 36, .int (σ0 3 1), .int 0, .int 0]) (rest := []) hF (c_X3_add a g r σ0 (36 : Int32) (σ0 3 1) (0 : Int32) (0 : Int32) (fun h9 => absurd h9 (by decide)) hgp i0) (Nat.le_of_ble_eq_true rfl) mV_X3_add m_923 (recv_ob obC_3) rfl rfl (Nat.le_of_ble_eq_true rfl) d_X3_simple_43 (k_i (fun r6 σ6 ⟨⟨hgp6, hgm6⟩, iσ6, ik6⟩ => ?_)) (fun _ _ _ h => h.elim)
      have hmo6 : Mo σ6 σ0 := fun h9 => mo_e (show σ0 3 3 = σ0 3 3 from rfl) (hgm6 h9)
      have kp : Keep [(3, 1), (3, 2), (3, 3), (3, 4), (3, 9)] [18, 19, 20, 21, 22, 23] σ0 σ6 := keep_c kp ik6 (by decide) (by decide)
      refine g_pop hF d_X3_simple_46 rfl ?_
      refine g_aload_n hF d_X3_simple_47 rfl 1 rfl ?_
      refine g_callV (As := []) (rest := []) hF (c_X3_advance a g r σ6 hgp6.2.2 (by rw [show (σ6 3 1) = (σ0 3 1) from (ik6 3 1 rfl rfl rfl)]; show -1 ≤ (σ0 3 1).toInt ∧ (σ0 3 1).toInt ≤ 16001; have hki := hgp6.2.1.1; have hgz := hgp6.1; have hq91 : (σ6 3 1).toInt = (σ0 3 1).toInt := (by rw [show (σ6 3 1) = (σ0 3 1) from (ik6 3 1 rfl rfl rfl)]); have hq92 : (σ6 3 2).toInt = (σ0 3 2).toInt := (by rw [show (σ6 3 2) = (σ0 3 2) from (ik6 3 2 rfl rfl rfl)]); have e0 := s_rng (σ0 3 1); omega) iσ6) (Nat.le_of_ble_eq_true rfl) mV_X3_advance m_899 (recv_ob obC_3) rfl rfl (Nat.le_of_ble_eq_true rfl) d_X3_simple_48 (k_v (fun σ7 ⟨⟨hgp7, hgm7⟩, hs7, iσ7, ik7⟩ => ?_)) (fun _ _ _ h => h.elim)
      have hs7 : (σ7 3 1).toInt = (σ0 3 1).toInt + 1 := (by have h9 := hs7; rw [show (σ6 3 1) = (σ0 3 1) from (ik6 3 1 rfl rfl rfl)] at h9; exact h9)
      have hmo7 : Mo σ7 σ0 := fun h9 => mo_e (show σ6 3 3 = σ0 3 3 from (ik6 3 3 rfl rfl rfl)) (hgm7 h9)
      have kp : Keep [(3, 1), (3, 2), (3, 3), (3, 4), (3, 9)] [18, 19, 20, 21, 22, 23] σ0 σ7 := keep_c kp ik7 (by decide) (by decide)
      refine g_goto hF 127 d_X3_simple_51 (by decide) ?_
      refine g_aload_n hF d_X3_simple_127 rfl 1 rfl ?_
      refine g_bipush hF (v := 27) d_X3_simple_128 (by decide) ?_
      refine g_callV (As := [.int 27]) (rest := []) hF (c_X3_expect a g r σ7 (27 : Int32) hgp7 (by show ¬ (27 = 0 ∨ 27 = -1); have e0 : (27 : Int32).toInt = 27 := (by decide); omega) iσ7) (Nat.le_of_ble_eq_true rfl) mV_X3_expect m_903 (recv_ob obC_3) rfl rfl (Nat.le_of_ble_eq_true rfl) d_X3_simple_130 (k_v (fun σ8 ⟨⟨hgp8, hgm8⟩, hs8, iσ8, ik8⟩ => ?_)) (fun _ _ _ h => h.elim)
      have hs8 : (σ8 3 3).toInt < 0 → (σ7 3 2).toInt = 27 := hs8
      have hmo8 : Mo σ8 σ0 := fun h9 => mo_e (show σ7 3 3 = σ0 3 3 from ((ik7 3 3 rfl rfl rfl).trans (ik6 3 3 rfl rfl rfl))) (hgm8 h9)
      have kp : Keep [(3, 1), (3, 2), (3, 3), (3, 4), (3, 9)] [18, 19, 20, 21, 22, 23] σ0 σ8 := keep_c kp ik8 (by decide) (by decide)
      exact g_vret hF rfl d_X3_simple_133 ⟨rfl, rfl, rfl, ⟨⟨hgp8, (fun h9 => (hmo8 (mo_e (show σ8 3 3 = σ8 3 3 from rfl) h9)))⟩, iσ8, kp⟩⟩
  · -- not taken at 11
    refine g_aload_n hF d_X3_simple_14 rfl 1 rfl ?_
    refine g_get (v := .int (σ0 3 2)) hF 2 obC_3 (by decide) m_96 rfl d_X3_simple_15 ?_
    refine g_bipush hF (v := 15) d_X3_simple_18 (by decide) ?_
    refine g_icmp_ne (yv := 15) hF 54 d_X3_simple_20 (by decide) rfl (by decide) (fun c9_20 => ?_) (fun c9_20 => ?_)
    · -- taken at 20
      refine g_aload_n hF d_X3_simple_54 rfl 1 rfl ?_
      refine g_get (v := .int (σ0 3 2)) hF 2 obC_3 (by decide) m_96 rfl d_X3_simple_55 ?_
      refine g_bipush hF (v := 16) d_X3_simple_58 (by decide) ?_
      refine g_icmp_ne (yv := 16) hF 112 d_X3_simple_60 (by decide) rfl (by decide) (fun c10_60 => ?_) (fun c10_60 => ?_)
      · -- taken at 60
        refine g_aload_n hF d_X3_simple_112 rfl 1 rfl ?_
        refine g_iconst hF (v := 1) d_X3_simple_113 (by decide) ?_
        refine g_callV (As := [.int 1]) (rest := []) hF ((RX_all a g r 25 σ0 1 (by decide) (by decide) i0 hgp).1) (Nat.le_of_ble_eq_true rfl) mV_X3_expression m_927 (recv_ob obC_3) rfl rfl (Nat.le_of_ble_eq_true rfl) d_X3_simple_114 (k_v (fun σ11 ⟨⟨hgp11, hgm11⟩, iσ11, ik11⟩ => ?_)) (fun _ _ _ h => h.elim)
        have hmo11 : Mo σ11 σ0 := fun h9 => mo_e (show σ0 3 3 = σ0 3 3 from rfl) (hgm11 h9)
        have kp : Keep [(3, 1), (3, 2), (3, 3), (3, 4), (3, 9)] [18, 19, 20, 21, 22, 23] σ0 σ11 := keep_c kp ik11 (by decide) (by decide)
        refine g_aload_n hF d_X3_simple_117 rfl 1 rfl ?_
        refine g_bipush hF (v := 22) d_X3_simple_118 (by decide) ?_
        refine g_iload_n hF d_X3_simple_120 rfl 0 rfl ?_
        refine g_iconst hF (v := 0) d_X3_simple_121 (by decide) ?_
        refine g_iconst hF (v := 0) d_X3_simple_122 (by decide) ?_
        refine g_callV (As := [.int 22, .int (σ0 3 1), .int 0, .int 0]) (rest := []) hF (c_X3_add a g r σ11 (22 : Int32) (σ0 3 1) (0 : Int32) (0 : Int32) (fun h9 => absurd h9 (by decide)) hgp11 iσ11) (Nat.le_of_ble_eq_true rfl) mV_X3_add m_923 (recv_ob obC_3) rfl rfl (Nat.le_of_ble_eq_true rfl) d_X3_simple_123 (k_i (fun r12 σ12 ⟨⟨hgp12, hgm12⟩, iσ12, ik12⟩ => ?_)) (fun _ _ _ h => h.elim)
        have hmo12 : Mo σ12 σ11 := fun h9 => mo_e (show σ11 3 3 = σ11 3 3 from rfl) (hgm12 h9)
        have kp : Keep [(3, 1), (3, 2), (3, 3), (3, 4), (3, 9)] [18, 19, 20, 21, 22, 23] σ0 σ12 := keep_c kp ik12 (by decide) (by decide)
        refine g_pop hF d_X3_simple_126 rfl ?_
        refine g_aload_n hF d_X3_simple_127 rfl 1 rfl ?_
        refine g_bipush hF (v := 27) d_X3_simple_128 (by decide) ?_
        refine g_callV (As := [.int 27]) (rest := []) hF (c_X3_expect a g r σ12 (27 : Int32) hgp12 (by show ¬ (27 = 0 ∨ 27 = -1); have e0 : (27 : Int32).toInt = 27 := (by decide); omega) iσ12) (Nat.le_of_ble_eq_true rfl) mV_X3_expect m_903 (recv_ob obC_3) rfl rfl (Nat.le_of_ble_eq_true rfl) d_X3_simple_130 (k_v (fun σ13 ⟨⟨hgp13, hgm13⟩, hs13, iσ13, ik13⟩ => ?_)) (fun _ _ _ h => h.elim)
        have hs13 : (σ13 3 3).toInt < 0 → (σ11 3 2).toInt = 27 := (by have h9 := hs13; rw [show (σ12 3 2) = (σ11 3 2) from (ik12 3 2 rfl rfl rfl)] at h9; exact h9)
        have hmo13 : Mo σ13 σ11 := fun h9 => mo_e (show σ12 3 3 = σ11 3 3 from (ik12 3 3 rfl rfl rfl)) (hgm13 h9)
        have kp : Keep [(3, 1), (3, 2), (3, 3), (3, 4), (3, 9)] [18, 19, 20, 21, 22, 23] σ0 σ13 := keep_c kp ik13 (by decide) (by decide)
        exact g_vret hF rfl d_X3_simple_133 ⟨rfl, rfl, rfl, ⟨⟨hgp13, (fun h9 => (hmo11 (hmo13 (mo_e (show σ13 3 3 = σ13 3 3 from rfl) h9))))⟩, iσ13, kp⟩⟩
      · -- not taken at 60
        refine g_aload_n hF d_X3_simple_63 rfl 1 rfl ?_
        refine g_callV (As := []) (rest := []) hF (c_X3_advance a g r σ0 hgp.2.2 (by show -1 ≤ (σ0 3 1).toInt ∧ (σ0 3 1).toInt ≤ 16001; have hki := hgp.2.1.1; have hgz := hgp.1; have e0 := s_rng (σ0 3 1); omega) i0) (Nat.le_of_ble_eq_true rfl) mV_X3_advance m_899 (recv_ob obC_3) rfl rfl (Nat.le_of_ble_eq_true rfl) d_X3_simple_64 (k_v (fun σ14 ⟨⟨hgp14, hgm14⟩, hs14, iσ14, ik14⟩ => ?_)) (fun _ _ _ h => h.elim)
        have hs14 : (σ14 3 1).toInt = (σ0 3 1).toInt + 1 := hs14
        have hmo14 : Mo σ14 σ0 := fun h9 => mo_e (show σ0 3 3 = σ0 3 3 from rfl) (hgm14 h9)
        have kp : Keep [(3, 1), (3, 2), (3, 3), (3, 4), (3, 9)] [18, 19, 20, 21, 22, 23] σ0 σ14 := keep_c kp ik14 (by decide) (by decide)
        refine g_aload_n hF d_X3_simple_67 rfl 1 rfl ?_
        refine g_get (v := .int (σ14 3 2)) hF 2 obC_3 (by decide) m_96 rfl d_X3_simple_68 ?_
        refine g_bipush hF (v := 27) d_X3_simple_71 (by decide) ?_
        refine g_icmp_eq (yv := 27) hF 80 d_X3_simple_73 (by decide) rfl (by decide) (fun c15_73 => ?_) (fun c15_73 => ?_)
        · -- taken at 73
          refine g_iconst hF (v := 0) d_X3_simple_80 (by decide) ?_
          refine g_istore_n hF [(2, .int 0), (1, .int (σ0 3 1)), (0, .ref (r 3))] d_X3_simple_81 rfl hnn (by decide) rfl ?_
          refine g_iload_n hF d_X3_simple_82 rfl 0 rfl ?_
          refine g_if_eq (xv := 0) hF 91 d_X3_simple_83 (by decide) (by decide) (fun _ => ?_) (fun c_83 => absurd c_83 (by decide))
          refine g_aload_n hF d_X3_simple_91 rfl 2 rfl ?_
          refine g_bipush hF (v := 38) d_X3_simple_92 (by decide) ?_
          refine g_iload_n hF d_X3_simple_94 rfl 1 rfl ?_
          refine g_iload_n hF d_X3_simple_95 rfl 0 rfl ?_
          refine g_if_eq (xv := 0) hF 103 d_X3_simple_96 (by decide) (by decide) (fun _ => ?_) (fun c_96 => absurd c_96 (by decide))
          refine g_iconst hF (v := 0) d_X3_simple_103 (by decide) ?_
          refine g_iconst hF (v := 0) d_X3_simple_104 (by decide) ?_
          refine g_callV (As := [.int 38, .int (σ0 3 1), .int 0, .int 0]) (rest := []) hF (c_X3_add a g r σ14 (38 : Int32) (σ0 3 1) (0 : Int32) (0 : Int32) (fun h9 => absurd h9 (by decide)) hgp14 iσ14) (Nat.le_of_ble_eq_true rfl) mV_X3_add m_923 (recv_ob obC_3) rfl rfl (Nat.le_of_ble_eq_true rfl) d_X3_simple_105 (k_i (fun r16 σ16 ⟨⟨hgp16, hgm16⟩, iσ16, ik16⟩ => ?_)) (fun _ _ _ h => h.elim)
          have hmo16 : Mo σ16 σ0 := fun h9 => mo_e (show σ14 3 3 = σ0 3 3 from (ik14 3 3 rfl rfl rfl)) (hgm16 h9)
          have kp : Keep [(3, 1), (3, 2), (3, 3), (3, 4), (3, 9)] [18, 19, 20, 21, 22, 23] σ0 σ16 := keep_c kp ik16 (by decide) (by decide)
          refine g_pop hF d_X3_simple_108 rfl ?_
          refine g_goto hF 127 d_X3_simple_109 (by decide) ?_
          refine g_aload_n hF d_X3_simple_127 rfl 2 rfl ?_
          refine g_bipush hF (v := 27) d_X3_simple_128 (by decide) ?_
          refine g_callV (As := [.int 27]) (rest := []) hF (c_X3_expect a g r σ16 (27 : Int32) hgp16 (by show ¬ (27 = 0 ∨ 27 = -1); have e0 : (27 : Int32).toInt = 27 := (by decide); have e1 := s_rng (σ14 3 2); omega) iσ16) (Nat.le_of_ble_eq_true rfl) mV_X3_expect m_903 (recv_ob obC_3) rfl rfl (Nat.le_of_ble_eq_true rfl) d_X3_simple_130 (k_v (fun σ17 ⟨⟨hgp17, hgm17⟩, hs17, iσ17, ik17⟩ => ?_)) (fun _ _ _ h => h.elim)
          have hs17 : (σ17 3 3).toInt < 0 → (σ14 3 2).toInt = 27 := (by have h9 := hs17; rw [show (σ16 3 2) = (σ14 3 2) from (ik16 3 2 rfl rfl rfl)] at h9; exact h9)
          have hmo17 : Mo σ17 σ0 := fun h9 => mo_e (show σ16 3 3 = σ0 3 3 from ((ik16 3 3 rfl rfl rfl).trans (ik14 3 3 rfl rfl rfl))) (hgm17 h9)
          have kp : Keep [(3, 1), (3, 2), (3, 3), (3, 4), (3, 9)] [18, 19, 20, 21, 22, 23] σ0 σ17 := keep_c kp ik17 (by decide) (by decide)
          exact g_vret hF rfl d_X3_simple_133 ⟨rfl, rfl, rfl, ⟨⟨hgp17, (fun h9 => (hmo17 (mo_e (show σ17 3 3 = σ17 3 3 from rfl) h9)))⟩, iσ17, kp⟩⟩
        · -- not taken at 73
          refine g_iconst hF (v := 1) d_X3_simple_76 (by decide) ?_
          refine g_goto hF 81 d_X3_simple_77 (by decide) ?_
          refine g_istore_n hF [(2, .int 1), (1, .int (σ0 3 1)), (0, .ref (r 3))] d_X3_simple_81 rfl hnn (by decide) rfl ?_
          refine g_iload_n hF d_X3_simple_82 rfl 0 rfl ?_
          refine g_if_eq (xv := 1) hF 91 d_X3_simple_83 (by decide) (by decide) (fun c_83 => absurd c_83 (by decide)) (fun _ => ?_)
          refine g_aload_n hF d_X3_simple_86 rfl 2 rfl ?_
          refine g_iconst hF (v := 1) d_X3_simple_87 (by decide) ?_
          refine g_callV (As := [.int 1]) (rest := []) hF ((RX_all a g r 25 σ14 1 (by decide) (by decide) iσ14 hgp14).1) (Nat.le_of_ble_eq_true rfl) mV_X3_expression m_927 (recv_ob obC_3) rfl rfl (Nat.le_of_ble_eq_true rfl) d_X3_simple_88 (k_v (fun σ18 ⟨⟨hgp18, hgm18⟩, iσ18, ik18⟩ => ?_)) (fun _ _ _ h => h.elim)
          have hmo18 : Mo σ18 σ0 := fun h9 => mo_e (show σ14 3 3 = σ0 3 3 from (ik14 3 3 rfl rfl rfl)) (hgm18 h9)
          have kp : Keep [(3, 1), (3, 2), (3, 3), (3, 4), (3, 9)] [18, 19, 20, 21, 22, 23] σ0 σ18 := keep_c kp ik18 (by decide) (by decide)
          refine g_aload_n hF d_X3_simple_91 rfl 2 rfl ?_
          refine g_bipush hF (v := 38) d_X3_simple_92 (by decide) ?_
          refine g_iload_n hF d_X3_simple_94 rfl 1 rfl ?_
          refine g_iload_n hF d_X3_simple_95 rfl 0 rfl ?_
          refine g_if_eq (xv := 1) hF 103 d_X3_simple_96 (by decide) (by decide) (fun c_96 => absurd c_96 (by decide)) (fun _ => ?_)
          refine g_iconst hF (v := 1) d_X3_simple_99 (by decide) ?_
          refine g_goto hF 104 d_X3_simple_100 (by decide) ?_
          refine g_iconst hF (v := 0) d_X3_simple_104 (by decide) ?_
          refine g_callV (As := [.int 38, .int (σ0 3 1), .int 1, .int 0]) (rest := []) hF (c_X3_add a g r σ18 (38 : Int32) (σ0 3 1) (1 : Int32) (0 : Int32) (fun h9 => absurd h9 (by decide)) hgp18 iσ18) (Nat.le_of_ble_eq_true rfl) mV_X3_add m_923 (recv_ob obC_3) rfl rfl (Nat.le_of_ble_eq_true rfl) d_X3_simple_105 (k_i (fun r19 σ19 ⟨⟨hgp19, hgm19⟩, iσ19, ik19⟩ => ?_)) (fun _ _ _ h => h.elim)
          have hmo19 : Mo σ19 σ18 := fun h9 => mo_e (show σ18 3 3 = σ18 3 3 from rfl) (hgm19 h9)
          have kp : Keep [(3, 1), (3, 2), (3, 3), (3, 4), (3, 9)] [18, 19, 20, 21, 22, 23] σ0 σ19 := keep_c kp ik19 (by decide) (by decide)
          refine g_pop hF d_X3_simple_108 rfl ?_
          refine g_goto hF 127 d_X3_simple_109 (by decide) ?_
          refine g_aload_n hF d_X3_simple_127 rfl 2 rfl ?_
          refine g_bipush hF (v := 27) d_X3_simple_128 (by decide) ?_
          refine g_callV (As := [.int 27]) (rest := []) hF (c_X3_expect a g r σ19 (27 : Int32) hgp19 (by show ¬ (27 = 0 ∨ 27 = -1); have e0 : (27 : Int32).toInt = 27 := (by decide); have e1 := s_rng (σ14 3 2); omega) iσ19) (Nat.le_of_ble_eq_true rfl) mV_X3_expect m_903 (recv_ob obC_3) rfl rfl (Nat.le_of_ble_eq_true rfl) d_X3_simple_130 (k_v (fun σ20 ⟨⟨hgp20, hgm20⟩, hs20, iσ20, ik20⟩ => ?_)) (fun _ _ _ h => h.elim)
          have hs20 : (σ20 3 3).toInt < 0 → (σ18 3 2).toInt = 27 := (by have h9 := hs20; rw [show (σ19 3 2) = (σ18 3 2) from (ik19 3 2 rfl rfl rfl)] at h9; exact h9)
          have hmo20 : Mo σ20 σ18 := fun h9 => mo_e (show σ19 3 3 = σ18 3 3 from (ik19 3 3 rfl rfl rfl)) (hgm20 h9)
          have kp : Keep [(3, 1), (3, 2), (3, 3), (3, 4), (3, 9)] [18, 19, 20, 21, 22, 23] σ0 σ20 := keep_c kp ik20 (by decide) (by decide)
          exact g_vret hF rfl d_X3_simple_133 ⟨rfl, rfl, rfl, ⟨⟨hgp20, (fun h9 => (hmo18 (hmo20 (mo_e (show σ20 3 3 = σ20 3 3 from rfl) h9))))⟩, iσ20, kp⟩⟩
    · -- not taken at 20
      refine g_aload_n hF d_X3_simple_23 rfl 1 rfl ?_
      refine g_aload_n hF d_X3_simple_24 rfl 1 rfl ?_
      refine g_get (v := .int (σ0 3 2)) hF 2 obC_3 (by decide) m_96 rfl d_X3_simple_25 ?_
      refine g_bipush hF (v := 14) d_X3_simple_28 (by decide) ?_
      refine g_icmp_ne (yv := 14) hF 38 d_X3_simple_30 (by decide) rfl (by decide) (fun c21_30 => ?_) (fun c21_30 => ?_)
      · -- taken at 30
        refine g_bipush hF (v := 37) d_X3_simple_38 (by decide) ?_
        refine g_iload_n hF d_X3_simple_40 rfl 0 rfl ?_
        refine g_iconst hF (v := 0) d_X3_simple_41 (by decide) ?_
        refine g_iconst hF (v := 0) d_X3_simple_42 (by decide) ?_
        refine g_callV (As := [.int 37, .int (σ0 3 1), .int 0, .int 0]) (rest := []) hF (c_X3_add a g r σ0 (37 : Int32) (σ0 3 1) (0 : Int32) (0 : Int32) (fun h9 => absurd h9 (by decide)) hgp i0) (Nat.le_of_ble_eq_true rfl) mV_X3_add m_923 (recv_ob obC_3) rfl rfl (Nat.le_of_ble_eq_true rfl) d_X3_simple_43 (k_i (fun r22 σ22 ⟨⟨hgp22, hgm22⟩, iσ22, ik22⟩ => ?_)) (fun _ _ _ h => h.elim)
        have hmo22 : Mo σ22 σ0 := fun h9 => mo_e (show σ0 3 3 = σ0 3 3 from rfl) (hgm22 h9)
        have kp : Keep [(3, 1), (3, 2), (3, 3), (3, 4), (3, 9)] [18, 19, 20, 21, 22, 23] σ0 σ22 := keep_c kp ik22 (by decide) (by decide)
        refine g_pop hF d_X3_simple_46 rfl ?_
        refine g_aload_n hF d_X3_simple_47 rfl 1 rfl ?_
        refine g_callV (As := []) (rest := []) hF (c_X3_advance a g r σ22 hgp22.2.2 (by rw [show (σ22 3 1) = (σ0 3 1) from (ik22 3 1 rfl rfl rfl)]; show -1 ≤ (σ0 3 1).toInt ∧ (σ0 3 1).toInt ≤ 16001; have hki := hgp22.2.1.1; have hgz := hgp22.1; have hq91 : (σ22 3 1).toInt = (σ0 3 1).toInt := (by rw [show (σ22 3 1) = (σ0 3 1) from (ik22 3 1 rfl rfl rfl)]); have hq92 : (σ22 3 2).toInt = (σ0 3 2).toInt := (by rw [show (σ22 3 2) = (σ0 3 2) from (ik22 3 2 rfl rfl rfl)]); have e0 := s_rng (σ0 3 1); omega) iσ22) (Nat.le_of_ble_eq_true rfl) mV_X3_advance m_899 (recv_ob obC_3) rfl rfl (Nat.le_of_ble_eq_true rfl) d_X3_simple_48 (k_v (fun σ23 ⟨⟨hgp23, hgm23⟩, hs23, iσ23, ik23⟩ => ?_)) (fun _ _ _ h => h.elim)
        have hs23 : (σ23 3 1).toInt = (σ0 3 1).toInt + 1 := (by have h9 := hs23; rw [show (σ22 3 1) = (σ0 3 1) from (ik22 3 1 rfl rfl rfl)] at h9; exact h9)
        have hmo23 : Mo σ23 σ0 := fun h9 => mo_e (show σ22 3 3 = σ0 3 3 from (ik22 3 3 rfl rfl rfl)) (hgm23 h9)
        have kp : Keep [(3, 1), (3, 2), (3, 3), (3, 4), (3, 9)] [18, 19, 20, 21, 22, 23] σ0 σ23 := keep_c kp ik23 (by decide) (by decide)
        refine g_goto hF 127 d_X3_simple_51 (by decide) ?_
        refine g_aload_n hF d_X3_simple_127 rfl 1 rfl ?_
        refine g_bipush hF (v := 27) d_X3_simple_128 (by decide) ?_
        refine g_callV (As := [.int 27]) (rest := []) hF (c_X3_expect a g r σ23 (27 : Int32) hgp23 (by show ¬ (27 = 0 ∨ 27 = -1); have e0 : (27 : Int32).toInt = 27 := (by decide); omega) iσ23) (Nat.le_of_ble_eq_true rfl) mV_X3_expect m_903 (recv_ob obC_3) rfl rfl (Nat.le_of_ble_eq_true rfl) d_X3_simple_130 (k_v (fun σ24 ⟨⟨hgp24, hgm24⟩, hs24, iσ24, ik24⟩ => ?_)) (fun _ _ _ h => h.elim)
        have hs24 : (σ24 3 3).toInt < 0 → (σ23 3 2).toInt = 27 := hs24
        have hmo24 : Mo σ24 σ0 := fun h9 => mo_e (show σ23 3 3 = σ0 3 3 from ((ik23 3 3 rfl rfl rfl).trans (ik22 3 3 rfl rfl rfl))) (hgm24 h9)
        have kp : Keep [(3, 1), (3, 2), (3, 3), (3, 4), (3, 9)] [18, 19, 20, 21, 22, 23] σ0 σ24 := keep_c kp ik24 (by decide) (by decide)
        exact g_vret hF rfl d_X3_simple_133 ⟨rfl, rfl, rfl, ⟨⟨hgp24, (fun h9 => (hmo24 (mo_e (show σ24 3 3 = σ24 3 3 from rfl) h9)))⟩, iσ24, kp⟩⟩
      · -- not taken at 30
        refine g_bipush hF (v := 36) d_X3_simple_33 (by decide) ?_
        refine g_goto hF 40 d_X3_simple_35 (by decide) ?_
        refine g_iload_n hF d_X3_simple_40 rfl 0 rfl ?_
        refine g_iconst hF (v := 0) d_X3_simple_41 (by decide) ?_
        refine g_iconst hF (v := 0) d_X3_simple_42 (by decide) ?_
        refine g_callV (As := [.int 36, .int (σ0 3 1), .int 0, .int 0]) (rest := []) hF (c_X3_add a g r σ0 (36 : Int32) (σ0 3 1) (0 : Int32) (0 : Int32) (fun h9 => absurd h9 (by decide)) hgp i0) (Nat.le_of_ble_eq_true rfl) mV_X3_add m_923 (recv_ob obC_3) rfl rfl (Nat.le_of_ble_eq_true rfl) d_X3_simple_43 (k_i (fun r25 σ25 ⟨⟨hgp25, hgm25⟩, iσ25, ik25⟩ => ?_)) (fun _ _ _ h => h.elim)
        have hmo25 : Mo σ25 σ0 := fun h9 => mo_e (show σ0 3 3 = σ0 3 3 from rfl) (hgm25 h9)
        have kp : Keep [(3, 1), (3, 2), (3, 3), (3, 4), (3, 9)] [18, 19, 20, 21, 22, 23] σ0 σ25 := keep_c kp ik25 (by decide) (by decide)
        refine g_pop hF d_X3_simple_46 rfl ?_
        refine g_aload_n hF d_X3_simple_47 rfl 1 rfl ?_
        refine g_callV (As := []) (rest := []) hF (c_X3_advance a g r σ25 hgp25.2.2 (by rw [show (σ25 3 1) = (σ0 3 1) from (ik25 3 1 rfl rfl rfl)]; show -1 ≤ (σ0 3 1).toInt ∧ (σ0 3 1).toInt ≤ 16001; have hki := hgp25.2.1.1; have hgz := hgp25.1; have hq91 : (σ25 3 1).toInt = (σ0 3 1).toInt := (by rw [show (σ25 3 1) = (σ0 3 1) from (ik25 3 1 rfl rfl rfl)]); have hq92 : (σ25 3 2).toInt = (σ0 3 2).toInt := (by rw [show (σ25 3 2) = (σ0 3 2) from (ik25 3 2 rfl rfl rfl)]); have e0 := s_rng (σ0 3 1); omega) iσ25) (Nat.le_of_ble_eq_true rfl) mV_X3_advance m_899 (recv_ob obC_3) rfl rfl (Nat.le_of_ble_eq_true rfl) d_X3_simple_48 (k_v (fun σ26 ⟨⟨hgp26, hgm26⟩, hs26, iσ26, ik26⟩ => ?_)) (fun _ _ _ h => h.elim)
        have hs26 : (σ26 3 1).toInt = (σ0 3 1).toInt + 1 := (by have h9 := hs26; rw [show (σ25 3 1) = (σ0 3 1) from (ik25 3 1 rfl rfl rfl)] at h9; exact h9)
        have hmo26 : Mo σ26 σ0 := fun h9 => mo_e (show σ25 3 3 = σ0 3 3 from (ik25 3 3 rfl rfl rfl)) (hgm26 h9)
        have kp : Keep [(3, 1), (3, 2), (3, 3), (3, 4), (3, 9)] [18, 19, 20, 21, 22, 23] σ0 σ26 := keep_c kp ik26 (by decide) (by decide)
        refine g_goto hF 127 d_X3_simple_51 (by decide) ?_
        refine g_aload_n hF d_X3_simple_127 rfl 1 rfl ?_
        refine g_bipush hF (v := 27) d_X3_simple_128 (by decide) ?_
        refine g_callV (As := [.int 27]) (rest := []) hF (c_X3_expect a g r σ26 (27 : Int32) hgp26 (by show ¬ (27 = 0 ∨ 27 = -1); have e0 : (27 : Int32).toInt = 27 := (by decide); omega) iσ26) (Nat.le_of_ble_eq_true rfl) mV_X3_expect m_903 (recv_ob obC_3) rfl rfl (Nat.le_of_ble_eq_true rfl) d_X3_simple_130 (k_v (fun σ27 ⟨⟨hgp27, hgm27⟩, hs27, iσ27, ik27⟩ => ?_)) (fun _ _ _ h => h.elim)
        have hs27 : (σ27 3 3).toInt < 0 → (σ26 3 2).toInt = 27 := hs27
        have hmo27 : Mo σ27 σ0 := fun h9 => mo_e (show σ26 3 3 = σ0 3 3 from ((ik26 3 3 rfl rfl rfl).trans (ik25 3 3 rfl rfl rfl))) (hgm27 h9)
        have kp : Keep [(3, 1), (3, 2), (3, 3), (3, 4), (3, 9)] [18, 19, 20, 21, 22, 23] σ0 σ27 := keep_c kp ik27 (by decide) (by decide)
        exact g_vret hF rfl d_X3_simple_133 ⟨rfl, rfl, rfl, ⟨⟨hgp27, (fun h9 => (hmo27 (mo_e (show σ27 3 3 = σ27 3 3 from rfl) h9)))⟩, iσ27, kp⟩⟩
set_option maxHeartbeats 4000000 in
set_option maxRecDepth 100000 in
theorem c_X1_outer (a : Nat → Nat) (g : Nat → Nat → Int32) (r : Nat → Nat) (σ0 : St) (a1 : Int32) (a2 : Int32) (a3 : Int32) (hnm : NM σ0 a1) (i0 : Inv σ0) (z_a3 : a3 = 0 ∨ a3 = 1) (l : Launch) (D : va_G) (cy : Nat → ClassId) : Ct l D cy SC r (EC a g) y_X1_outer (Cond.code y_X1_outer b_X1_outer 6 none) 4 [.ref (r 8), .int a1, .int a2, .int a3] σ0 Z0 [] (QV (fun σ9 => (Inv σ9 ∧ Keep [(5, 1), (5, 7), (6, 3), (6, 4), (6, 5), (6, 7), (8, 10), (8, 14)] [25, 26, 27, 28, 29, 30, 38, 39] σ0 σ9))) QF := by
  refine Ct_of (EC_ok a g) (by decide) (Nat.le_of_ble_eq_true rfl) (by decide) (fun X hnn hF => ?_)
  show G SC r X σ0 Z0 [] [(0, .ref (r 8)), (1, .int a1), (2, .int a2), (3, .int a3)] [] 0
  have b249 : ∀ (σ : St) (x1 : Int32) (x2 : Int32) (x3 : Int32) (x4 : Int32) (x5 : Int32) , Inv σ → Keep [(5, 1), (5, 7), (6, 3), (6, 4), (6, 5), (6, 7), (8, 10), (8, 14)] [25, 26, 27, 28, 29, 30, 38, 39] σ0 σ → x3 = 0 ∨ x3 = 1 → NM σ0 x1 → G SC r X σ Z0 [] [(0, .ref (r 8)), (1, .int x1), (2, .int x2), (3, .int x3), (4, .int x4), (5, .int x5)] [] 249 := by
    intro σ x1 x2 x3 x4 x5 inv kp z_x3 hnj
    refine g_aload_n hF d_X1_outer_249 rfl 0 rfl ?_
    refine g_aload_n hF d_X1_outer_250 rfl 0 rfl ?_
    refine g_get (v := .ref (r 6)) hF 2 obC_8 (by decide) m_491 rfl d_X1_outer_251 ?_
    refine g_getN (v := .int (σ 6 5)) hF 5 obC_6 (by decide) nm_322 rfl d_X1_outer_254 ?_
    refine g_put (v := (σ 6 5)) hF 14 obC_8 (by decide) m_506 rfl rfl rfl d_X1_outer_257 ?_
    have kp : Keep [(5, 1), (5, 7), (6, 3), (6, 4), (6, 5), (6, 7), (8, 10), (8, 14)] [25, 26, 27, 28, 29, 30, 38, 39] σ0 (upC σ 8 14 (σ 6 5)) := keep_f kp (by decide)
    refine g_aload_n hF d_X1_outer_260 rfl 0 rfl ?_
    refine g_get (v := .ref (r 6)) hF 2 obC_8 (by decide) m_491 rfl d_X1_outer_261 ?_
    refine g_dup hF d_X1_outer_264 rfl ?_
    refine g_getN (v := .int (σ 6 5)) hF 5 obC_6 (by decide) nm_322 rfl d_X1_outer_265 ?_
    refine g_iload hF d_X1_outer_268 5 rfl ?_
    refine g_iadd hF d_X1_outer_270 ?_
    refine g_putN (v := ((σ 6 5) + x5)) hF 5 obC_6 (by decide) nm_322 rfl rfl rfl d_X1_outer_271 ?_
    have kp : Keep [(5, 1), (5, 7), (6, 3), (6, 4), (6, 5), (6, 7), (8, 10), (8, 14)] [25, 26, 27, 28, 29, 30, 38, 39] σ0 (upC (upC σ 8 14 (σ 6 5)) 6 5 ((σ 6 5) + x5)) := keep_f kp (by decide)
    have j1 : Inv (upC (upC σ 8 14 (σ 6 5)) 6 5 ((σ 6 5) + x5)) := ⟨inv.1, inv.2.1, inv.2.2.1, inv.2.2.2.1, inv.2.2.2.2.1, inv.2.2.2.2.2.1, inv.2.2.2.2.2.2.1, inv.2.2.2.2.2.2.2.1, inv.2.2.2.2.2.2.2.2.1, inv.2.2.2.2.2.2.2.2.2.1, inv.2.2.2.2.2.2.2.2.2.2.1, inv.2.2.2.2.2.2.2.2.2.2.2.1, inv.2.2.2.2.2.2.2.2.2.2.2.2.1, inv.2.2.2.2.2.2.2.2.2.2.2.2.2.1, inv.2.2.2.2.2.2.2.2.2.2.2.2.2.2.1, inv.2.2.2.2.2.2.2.2.2.2.2.2.2.2.2.1, inv.2.2.2.2.2.2.2.2.2.2.2.2.2.2.2.2.1, inv.2.2.2.2.2.2.2.2.2.2.2.2.2.2.2.2.2.1, inv.2.2.2.2.2.2.2.2.2.2.2.2.2.2.2.2.2.2.1, inv.2.2.2.2.2.2.2.2.2.2.2.2.2.2.2.2.2.2.2⟩
    exact g_vret hF rfl d_X1_outer_274 ⟨rfl, rfl, rfl, ⟨j1, kp⟩⟩
  have b209 : ∀ (σ : St) (x1 : Int32) (x2 : Int32) (x3 : Int32) (x4 : Int32) (x5 : Int32) , Inv σ → Keep [(5, 1), (5, 7), (6, 3), (6, 4), (6, 5), (6, 7), (8, 10), (8, 14)] [25, 26, 27, 28, 29, 30, 38, 39] σ0 σ → x3 = 0 ∨ x3 = 1 → NM σ0 x1 → G SC r X σ Z0 [] [(0, .ref (r 8)), (1, .int x1), (2, .int x2), (3, .int x3), (4, .int x4), (5, .int x5)] [] 209 := by
    intro σ x1 x2 x3 x4 x5 inv kp z_x3 hnj
    refine g_aload_n hF d_X1_outer_209 rfl 0 rfl ?_
    refine g_get (v := .int (σ 8 13)) hF 13 obC_8 (by decide) m_505 rfl d_X1_outer_210 ?_
    refine g_if_ne hF 249 d_X1_outer_213 (by decide) rfl (fun c2_213 => ?_) (fun c2_213 => ?_)
    · -- taken at 213
      exact b249 σ x1 x2 x3 x4 x5 inv kp z_x3 hnj
    · -- not taken at 213
      refine g_aload_n hF d_X1_outer_216 rfl 0 rfl ?_
      refine g_get (v := .ref (r 5)) hF 3 obC_8 (by decide) m_492 rfl d_X1_outer_217 ?_
      refine g_aload_n hF d_X1_outer_220 rfl 0 rfl ?_
      refine g_get (v := .int (σ 8 10)) hF 10 obC_8 (by decide) m_502 rfl d_X1_outer_221 ?_
      refine g_iconst hF (v := 4) d_X1_outer_224 (by decide) ?_
      refine g_callVN (As := [.int (σ 8 10), .int 4]) (rest := []) hF (c_X8_mark a g r σ (σ 8 10) (4 : Int32) inv) (Nat.le_of_ble_eq_true rfl) mV_X8_mark nm_1410 (recv_ob obC_5) rfl rfl (Nat.le_of_ble_eq_true rfl) d_X1_outer_225 (k_v (fun σ3 ⟨iσ3, ik3⟩ => ?_))
      have kp : Keep [(5, 1), (5, 7), (6, 3), (6, 4), (6, 5), (6, 7), (8, 10), (8, 14)] [25, 26, 27, 28, 29, 30, 38, 39] σ0 σ3 := keep_c kp ik3 (by decide) (by decide)
      refine g_aload_n hF d_X1_outer_228 rfl 0 rfl ?_
      refine g_get (v := .ref (r 5)) hF 3 obC_8 (by decide) m_492 rfl d_X1_outer_229 ?_
      refine g_getN (v := .ref (r 28)) hF 5 obC_5 (by decide) nm_235 rfl d_X1_outer_232 ?_
      refine g_aload_n hF d_X1_outer_235 rfl 0 rfl ?_
      refine g_get (v := .int (σ3 8 10)) hF 10 obC_8 (by decide) m_502 rfl d_X1_outer_236 ?_
      refine g_top (v := (σ 8 10)) (ik3 8 10 rfl rfl rfl) ?_
      refine g_aload_n hF d_X1_outer_239 rfl 0 rfl ?_
      refine g_get (v := .ref (r 6)) hF 2 obC_8 (by decide) m_491 rfl d_X1_outer_240 ?_
      refine g_getN (v := .int (σ3 6 5)) hF 5 obC_6 (by decide) nm_322 rfl d_X1_outer_243 ?_
      refine g_top (v := (σ 6 5)) (ik3 6 5 rfl rfl rfl) ?_
      refine g_callSN (As := [.ref (r 28), .int (σ 8 10), .int (σ 6 5)]) (rest := []) hF (c_set a g r σ3 arC_28 (by decide) (σ 8 10) (σ 6 5)) (Nat.le_of_ble_eq_true rfl) mS_X12_set nm_1409 rfl rfl (Nat.le_of_ble_eq_true rfl) d_X1_outer_246 (k_v (fun σ4 ⟨g4, eσ4, hg4⟩ => ?_))
      subst eσ4
      have kp : Keep [(5, 1), (5, 7), (6, 3), (6, 4), (6, 5), (6, 7), (8, 10), (8, 14)] [25, 26, 27, 28, 29, 30, 38, 39] σ0 (upF σ3 28 g4) := keep_F kp (by decide)
      have j5 : Inv (upF σ3 28 g4) := ⟨iσ3.1, iσ3.2.1, iσ3.2.2.1, iσ3.2.2.2.1, iσ3.2.2.2.2.1, iσ3.2.2.2.2.2.1, iσ3.2.2.2.2.2.2.1, iσ3.2.2.2.2.2.2.2.1, iσ3.2.2.2.2.2.2.2.2.1, iσ3.2.2.2.2.2.2.2.2.2.1, iσ3.2.2.2.2.2.2.2.2.2.2.1, iσ3.2.2.2.2.2.2.2.2.2.2.2.1, iσ3.2.2.2.2.2.2.2.2.2.2.2.2.1, iσ3.2.2.2.2.2.2.2.2.2.2.2.2.2.1, iσ3.2.2.2.2.2.2.2.2.2.2.2.2.2.2.1, iσ3.2.2.2.2.2.2.2.2.2.2.2.2.2.2.2.1, iσ3.2.2.2.2.2.2.2.2.2.2.2.2.2.2.2.2.1, iσ3.2.2.2.2.2.2.2.2.2.2.2.2.2.2.2.2.2.1, iσ3.2.2.2.2.2.2.2.2.2.2.2.2.2.2.2.2.2.2.1, iσ3.2.2.2.2.2.2.2.2.2.2.2.2.2.2.2.2.2.2.2⟩
      exact b249 (upF σ3 28 g4) x1 x2 x3 x4 x5 j5 kp z_x3 hnj
  have b192 : ∀ (σ : St) (x1 : Int32) (x2 : Int32) (x3 : Int32) (x4 : Int32) (x5 : Int32) , Inv σ → Keep [(5, 1), (5, 7), (6, 3), (6, 4), (6, 5), (6, 7), (8, 10), (8, 14)] [25, 26, 27, 28, 29, 30, 38, 39] σ0 σ → x3 = 0 ∨ x3 = 1 → NM σ0 x1 → G SC r X σ Z0 [] [(0, .ref (r 8)), (1, .int x1), (2, .int x2), (3, .int x3), (4, .int x4), (5, .int x5)] [] 192 := by
    intro σ x1 x2 x3 x4 x5 inv kp z_x3 hnj
    refine g_iload_n hF d_X1_outer_192 rfl 2 rfl ?_
    refine g_iconst hF (v := 1) d_X1_outer_193 (by decide) ?_
    refine g_icmp_ne (yv := 1) hF 209 d_X1_outer_194 (by decide) rfl (by decide) (fun c6_194 => ?_) (fun c6_194 => ?_)
    · -- taken at 194
      exact b209 σ x1 x2 x3 x4 x5 inv kp z_x3 hnj
    · -- not taken at 194
      refine g_aload_n hF d_X1_outer_197 rfl 0 rfl ?_
      refine g_get (v := .ref (r 5)) hF 3 obC_8 (by decide) m_492 rfl d_X1_outer_198 ?_
      refine g_aload_n hF d_X1_outer_201 rfl 0 rfl ?_
      refine g_get (v := .int (σ 8 10)) hF 10 obC_8 (by decide) m_502 rfl d_X1_outer_202 ?_
      refine g_iconst hF (v := 2) d_X1_outer_205 (by decide) ?_
      refine g_callVN (As := [.int (σ 8 10), .int 2]) (rest := []) hF (c_X8_mark a g r σ (σ 8 10) (2 : Int32) inv) (Nat.le_of_ble_eq_true rfl) mV_X8_mark nm_1410 (recv_ob obC_5) rfl rfl (Nat.le_of_ble_eq_true rfl) d_X1_outer_206 (k_v (fun σ7 ⟨iσ7, ik7⟩ => ?_))
      have kp : Keep [(5, 1), (5, 7), (6, 3), (6, 4), (6, 5), (6, 7), (8, 10), (8, 14)] [25, 26, 27, 28, 29, 30, 38, 39] σ0 σ7 := keep_c kp ik7 (by decide) (by decide)
      exact b209 σ7 x1 x2 x3 x4 x5 iσ7 kp z_x3 hnj
  have b174 : ∀ (σ : St) (x1 : Int32) (x2 : Int32) (x3 : Int32) (x4 : Int32) (x5 : Int32) , Inv σ → Keep [(5, 1), (5, 7), (6, 3), (6, 4), (6, 5), (6, 7), (8, 10), (8, 14)] [25, 26, 27, 28, 29, 30, 38, 39] σ0 σ → x3 = 0 ∨ x3 = 1 → NM σ0 x1 → G SC r X σ Z0 [] [(0, .ref (r 8)), (1, .int x1), (2, .int x2), (3, .int x3), (4, .int x4), (5, .int x5)] [] 174 := by
    intro σ x1 x2 x3 x4 x5 inv kp z_x3 hnj
    refine g_aload_n hF d_X1_outer_174 rfl 0 rfl ?_
    refine g_get (v := .ref (r 5)) hF 3 obC_8 (by decide) m_492 rfl d_X1_outer_175 ?_
    refine g_getN (v := .ref (r 27)) hF 4 obC_5 (by decide) nm_232 rfl d_X1_outer_178 ?_
    refine g_aload_n hF d_X1_outer_181 rfl 0 rfl ?_
    refine g_get (v := .int (σ 8 10)) hF 10 obC_8 (by decide) m_502 rfl d_X1_outer_182 ?_
    refine g_aload_n hF d_X1_outer_185 rfl 0 rfl ?_
    refine g_get (v := .int (σ 8 12)) hF 12 obC_8 (by decide) m_504 rfl d_X1_outer_186 ?_
    refine g_callSN (As := [.ref (r 27), .int (σ 8 10), .int (σ 8 12)]) (rest := []) hF (c_set a g r σ arC_27 (by decide) (σ 8 10) (σ 8 12)) (Nat.le_of_ble_eq_true rfl) mS_X12_set nm_1409 rfl rfl (Nat.le_of_ble_eq_true rfl) d_X1_outer_189 (k_v (fun σ8 ⟨g8, eσ8, hg8⟩ => ?_))
    subst eσ8
    have kp : Keep [(5, 1), (5, 7), (6, 3), (6, 4), (6, 5), (6, 7), (8, 10), (8, 14)] [25, 26, 27, 28, 29, 30, 38, 39] σ0 (upF σ 27 g8) := keep_F kp (by decide)
    have j9 : Inv (upF σ 27 g8) := ⟨inv.1, inv.2.1, inv.2.2.1, inv.2.2.2.1, inv.2.2.2.2.1, inv.2.2.2.2.2.1, inv.2.2.2.2.2.2.1, inv.2.2.2.2.2.2.2.1, inv.2.2.2.2.2.2.2.2.1, inv.2.2.2.2.2.2.2.2.2.1, inv.2.2.2.2.2.2.2.2.2.2.1, inv.2.2.2.2.2.2.2.2.2.2.2.1, inv.2.2.2.2.2.2.2.2.2.2.2.2.1, inv.2.2.2.2.2.2.2.2.2.2.2.2.2.1, inv.2.2.2.2.2.2.2.2.2.2.2.2.2.2.1, inv.2.2.2.2.2.2.2.2.2.2.2.2.2.2.2.1, inv.2.2.2.2.2.2.2.2.2.2.2.2.2.2.2.2.1, inv.2.2.2.2.2.2.2.2.2.2.2.2.2.2.2.2.2.1, inv.2.2.2.2.2.2.2.2.2.2.2.2.2.2.2.2.2.2.1, inv.2.2.2.2.2.2.2.2.2.2.2.2.2.2.2.2.2.2.2⟩
    exact b192 (upF σ 27 g8) x1 x2 x3 x4 x5 j9 kp z_x3 hnj
  have b141 : ∀ (σ : St) (x1 : Int32) (x2 : Int32) (x3 : Int32) (x4 : Int32) (x5 : Int32) (y1 : Int32) , Inv σ → Keep [(5, 1), (5, 7), (6, 3), (6, 4), (6, 5), (6, 7), (8, 10), (8, 14)] [25, 26, 27, 28, 29, 30, 38, 39] σ0 σ → x3 = 0 ∨ x3 = 1 → NM σ0 x1 → G SC r X σ Z0 [] [(0, .ref (r 8)), (1, .int x1), (2, .int x2), (3, .int x3), (4, .int x4), (5, .int x5)] [.int y1, .ref (r 8)] 141 := by
    intro σ x1 x2 x3 x4 x5 y1 inv kp z_x3 hnj
    refine g_put (v := y1) hF 10 obC_8 (by decide) m_502 rfl rfl rfl d_X1_outer_141 ?_
    have kp : Keep [(5, 1), (5, 7), (6, 3), (6, 4), (6, 5), (6, 7), (8, 10), (8, 14)] [25, 26, 27, 28, 29, 30, 38, 39] σ0 (upC σ 8 10 y1) := keep_f kp (by decide)
    refine g_aload_n hF d_X1_outer_144 rfl 0 rfl ?_
    refine g_get (v := .ref (r 5)) hF 3 obC_8 (by decide) m_492 rfl d_X1_outer_145 ?_
    refine g_getN (v := .ref (r 26)) hF 3 obC_5 (by decide) nm_227 rfl d_X1_outer_148 ?_
    refine g_aload_n hF d_X1_outer_151 rfl 0 rfl ?_
    refine g_get (v := .int y1) hF 10 obC_8 (by decide) m_502 rfl d_X1_outer_152 ?_
    refine g_aload_n hF d_X1_outer_155 rfl 0 rfl ?_
    refine g_get (v := .int (σ 8 11)) hF 11 obC_8 (by decide) m_503 rfl d_X1_outer_156 ?_
    refine g_callSN (As := [.ref (r 26), .int y1, .int (σ 8 11)]) (rest := []) hF (c_set a g r (upC σ 8 10 y1) arC_26 (by decide) y1 (σ 8 11)) (Nat.le_of_ble_eq_true rfl) mS_X12_set nm_1409 rfl rfl (Nat.le_of_ble_eq_true rfl) d_X1_outer_159 (k_v (fun σ10 ⟨g10, eσ10, hg10⟩ => ?_))
    subst eσ10
    have kp : Keep [(5, 1), (5, 7), (6, 3), (6, 4), (6, 5), (6, 7), (8, 10), (8, 14)] [25, 26, 27, 28, 29, 30, 38, 39] σ0 (upF (upC σ 8 10 y1) 26 g10) := keep_F kp (by decide)
    refine g_iload hF d_X1_outer_162 4 rfl ?_
    refine g_if_lt hF 174 d_X1_outer_164 (by decide) rfl (fun c11_164 => ?_) (fun c11_164 => ?_)
    · -- taken at 164
      have j12 : Inv (upF (upC σ 8 10 y1) 26 g10) := ⟨inv.1, inv.2.1, inv.2.2.1, inv.2.2.2.1, inv.2.2.2.2.1, inv.2.2.2.2.2.1, inv.2.2.2.2.2.2.1, inv.2.2.2.2.2.2.2.1, inv.2.2.2.2.2.2.2.2.1, inv.2.2.2.2.2.2.2.2.2.1, inv.2.2.2.2.2.2.2.2.2.2.1, inv.2.2.2.2.2.2.2.2.2.2.2.1, inv.2.2.2.2.2.2.2.2.2.2.2.2.1, inv.2.2.2.2.2.2.2.2.2.2.2.2.2.1, inv.2.2.2.2.2.2.2.2.2.2.2.2.2.2.1, inv.2.2.2.2.2.2.2.2.2.2.2.2.2.2.2.1, inv.2.2.2.2.2.2.2.2.2.2.2.2.2.2.2.2.1, inv.2.2.2.2.2.2.2.2.2.2.2.2.2.2.2.2.2.1, inv.2.2.2.2.2.2.2.2.2.2.2.2.2.2.2.2.2.2.1, inv.2.2.2.2.2.2.2.2.2.2.2.2.2.2.2.2.2.2.2⟩
      exact b174 (upF (upC σ 8 10 y1) 26 g10) x1 x2 x3 x4 x5 j12 kp z_x3 hnj
    · -- not taken at 164
      refine g_aload_n hF d_X1_outer_167 rfl 0 rfl ?_
      refine g_get (v := .int (σ 8 12)) hF 12 obC_8 (by decide) m_504 rfl d_X1_outer_168 ?_
      refine g_if_le hF 192 d_X1_outer_171 (by decide) rfl (fun c13_171 => ?_) (fun c13_171 => ?_)
      · -- taken at 171
        have j14 : Inv (upF (upC σ 8 10 y1) 26 g10) := ⟨inv.1, inv.2.1, inv.2.2.1, inv.2.2.2.1, inv.2.2.2.2.1, inv.2.2.2.2.2.1, inv.2.2.2.2.2.2.1, inv.2.2.2.2.2.2.2.1, inv.2.2.2.2.2.2.2.2.1, inv.2.2.2.2.2.2.2.2.2.1, inv.2.2.2.2.2.2.2.2.2.2.1, inv.2.2.2.2.2.2.2.2.2.2.2.1, inv.2.2.2.2.2.2.2.2.2.2.2.2.1, inv.2.2.2.2.2.2.2.2.2.2.2.2.2.1, inv.2.2.2.2.2.2.2.2.2.2.2.2.2.2.1, inv.2.2.2.2.2.2.2.2.2.2.2.2.2.2.2.1, inv.2.2.2.2.2.2.2.2.2.2.2.2.2.2.2.2.1, inv.2.2.2.2.2.2.2.2.2.2.2.2.2.2.2.2.2.1, inv.2.2.2.2.2.2.2.2.2.2.2.2.2.2.2.2.2.2.1, inv.2.2.2.2.2.2.2.2.2.2.2.2.2.2.2.2.2.2.2⟩
        exact b192 (upF (upC σ 8 10 y1) 26 g10) x1 x2 x3 x4 x5 j14 kp z_x3 hnj
      · -- not taken at 171
        have j15 : Inv (upF (upC σ 8 10 y1) 26 g10) := ⟨inv.1, inv.2.1, inv.2.2.1, inv.2.2.2.1, inv.2.2.2.2.1, inv.2.2.2.2.2.1, inv.2.2.2.2.2.2.1, inv.2.2.2.2.2.2.2.1, inv.2.2.2.2.2.2.2.2.1, inv.2.2.2.2.2.2.2.2.2.1, inv.2.2.2.2.2.2.2.2.2.2.1, inv.2.2.2.2.2.2.2.2.2.2.2.1, inv.2.2.2.2.2.2.2.2.2.2.2.2.1, inv.2.2.2.2.2.2.2.2.2.2.2.2.2.1, inv.2.2.2.2.2.2.2.2.2.2.2.2.2.2.1, inv.2.2.2.2.2.2.2.2.2.2.2.2.2.2.2.1, inv.2.2.2.2.2.2.2.2.2.2.2.2.2.2.2.2.1, inv.2.2.2.2.2.2.2.2.2.2.2.2.2.2.2.2.2.1, inv.2.2.2.2.2.2.2.2.2.2.2.2.2.2.2.2.2.2.1, inv.2.2.2.2.2.2.2.2.2.2.2.2.2.2.2.2.2.2.2⟩
        exact b174 (upF (upC σ 8 10 y1) 26 g10) x1 x2 x3 x4 x5 j15 kp z_x3 hnj
  have b111 : ∀ (σ : St) (x1 : Int32) (x2 : Int32) (x3 : Int32) (x4 : Int32) (x5 : Int32) , Inv σ → Keep [(5, 1), (5, 7), (6, 3), (6, 4), (6, 5), (6, 7), (8, 10), (8, 14)] [25, 26, 27, 28, 29, 30, 38, 39] σ0 σ → x3 = 0 ∨ x3 = 1 → NM σ0 x1 → G SC r X σ Z0 [] [(0, .ref (r 8)), (1, .int x1), (2, .int x2), (3, .int x3), (4, .int x4), (5, .int x5)] [] 111 := by
    intro σ x1 x2 x3 x4 x5 inv kp z_x3 hnj
    refine g_aload_n hF d_X1_outer_111 rfl 0 rfl ?_
    refine g_get (v := .ref (r 6)) hF 2 obC_8 (by decide) m_491 rfl d_X1_outer_112 ?_
    refine g_getN (v := .int (σ 6 3)) hF 3 obC_6 (by decide) nm_317 rfl d_X1_outer_115 ?_
    refine g_if_eq hF 122 d_X1_outer_118 (by decide) rfl (fun c16_118 => ?_) (fun c16_118 => ?_)
    · -- taken at 118
      refine g_aload_n hF d_X1_outer_122 rfl 0 rfl ?_
      refine g_iload hF d_X1_outer_123 4 rfl ?_
      refine g_if_ge hF 139 d_X1_outer_125 (by decide) rfl (fun c17_125 => ?_) (fun c17_125 => ?_)
      · -- taken at 125
        refine g_iload hF d_X1_outer_139 4 rfl ?_
        exact b141 σ x1 x2 x3 x4 x5 x4 inv kp z_x3 hnj
      · -- not taken at 125
        refine g_aload_n hF d_X1_outer_128 rfl 0 rfl ?_
        refine g_get (v := .ref (r 6)) hF 2 obC_8 (by decide) m_491 rfl d_X1_outer_129 ?_
        refine g_iload_n hF d_X1_outer_132 rfl 1 rfl ?_
        refine g_callVN (As := [.int x1]) (rest := [.ref (r 8)]) hF (c_X11_declareOuter a g r σ x1 (nm_keep (fun z => kp 14 z rfl rfl rfl) hnj) inv) (Nat.le_of_ble_eq_true rfl) mV_X11_declareOuter nm_1398 (recv_ob obC_6) rfl rfl (Nat.le_of_ble_eq_true rfl) d_X1_outer_133 (k_i (fun r18 σ18 ⟨iσ18, ik18⟩ => ?_))
        have kp : Keep [(5, 1), (5, 7), (6, 3), (6, 4), (6, 5), (6, 7), (8, 10), (8, 14)] [25, 26, 27, 28, 29, 30, 38, 39] σ0 σ18 := keep_c kp ik18 (by decide) (by decide)
        refine g_goto hF 141 d_X1_outer_136 (by decide) ?_
        exact b141 σ18 x1 x2 x3 x4 x5 r18 iσ18 kp z_x3 hnj
    · -- not taken at 118
      exact g_vret hF rfl d_X1_outer_121 ⟨rfl, rfl, rfl, ⟨inv, kp⟩⟩
  have b84 : ∀ (σ : St) (x1 : Int32) (x2 : Int32) (x3 : Int32) (x4 : Int32) (y0 : Int32) , Inv σ → Keep [(5, 1), (5, 7), (6, 3), (6, 4), (6, 5), (6, 7), (8, 10), (8, 14)] [25, 26, 27, 28, 29, 30, 38, 39] σ0 σ → x3 = 0 ∨ x3 = 1 → NM σ0 x1 → G SC r X σ Z0 [] [(0, .ref (r 8)), (1, .int x1), (2, .int x2), (3, .int x3), (4, .int x4)] [.int y0] 84 := by
    intro σ x1 x2 x3 x4 y0 inv kp z_x3 hnj
    refine g_istore hF [(5, .int y0), (0, .ref (r 8)), (1, .int x1), (2, .int x2), (3, .int x3), (4, .int x4)] d_X1_outer_84 hnn (by decide) rfl ?_
    refine g_aload_n hF d_X1_outer_86 rfl 1 rfl ?_
    refine g_get (v := .ref (r 6)) hF 2 obC_8 (by decide) m_491 rfl d_X1_outer_87 ?_
    refine g_getN (v := .int (σ 6 5)) hF 5 obC_6 (by decide) nm_322 rfl d_X1_outer_90 ?_
    refine g_iload hF d_X1_outer_93 0 rfl ?_
    refine g_iadd hF d_X1_outer_95 ?_
    refine g_sipush hF (v := 16000) d_X1_outer_96 (by decide) ?_
    refine g_icmp_le (yv := 16000) hF 111 d_X1_outer_99 (by decide) rfl (by decide) (fun c19_99 => ?_) (fun c19_99 => ?_)
    · -- taken at 99
      exact g_sub (L' := [(0, .ref (r 8)), (1, .int x1), (2, .int x2), (3, .int x3), (4, .int x4), (5, .int y0)]) [1, 2, 3, 4, 5, 0] rfl (b111 σ x1 x2 x3 x4 y0 inv kp z_x3 hnj)
    · -- not taken at 99
      refine g_aload_n hF d_X1_outer_102 rfl 1 rfl ?_
      refine g_get (v := .ref (r 6)) hF 2 obC_8 (by decide) m_491 rfl d_X1_outer_103 ?_
      refine g_iconst hF (v := 4) d_X1_outer_106 (by decide) ?_
      refine g_iload_n hF d_X1_outer_107 rfl 2 rfl ?_
      refine g_callVN (As := [.int 4, .int x1]) (rest := []) hF (c_X11_fail a g r σ (4 : Int32) x1 inv) (Nat.le_of_ble_eq_true rfl) mV_X11_fail nm_1370 (recv_ob obC_6) rfl rfl (Nat.le_of_ble_eq_true rfl) d_X1_outer_108 (k_v (fun σ20 ⟨iσ20, ik20⟩ => ?_))
      have kp : Keep [(5, 1), (5, 7), (6, 3), (6, 4), (6, 5), (6, 7), (8, 10), (8, 14)] [25, 26, 27, 28, 29, 30, 38, 39] σ0 σ20 := keep_c kp ik20 (by decide) (by decide)
      exact g_sub (L' := [(0, .ref (r 8)), (1, .int x1), (2, .int x2), (3, .int x3), (4, .int x4), (5, .int y0)]) [1, 2, 3, 4, 5, 0] rfl (b111 σ20 x1 x2 x3 x4 y0 iσ20 kp z_x3 hnj)
  have b54 : ∀ (σ : St) (x1 : Int32) (x2 : Int32) (x3 : Int32) (x4 : Int32) (y1 : Int32) , Inv σ → Keep [(5, 1), (5, 7), (6, 3), (6, 4), (6, 5), (6, 7), (8, 10), (8, 14)] [25, 26, 27, 28, 29, 30, 38, 39] σ0 σ → x3 = 0 ∨ x3 = 1 → y1 = 0 ∨ y1 = 1 → NM σ0 x1 → G SC r X σ Z0 [] [(0, .ref (r 8)), (1, .int x1), (2, .int x2), (3, .int x3), (4, .int x4)] [.int y1, .ref (r 8)] 54 := by
    intro σ x1 x2 x3 x4 y1 inv kp z_x3 z_y1 hnj
    refine g_callV (As := [.int y1]) (rest := []) hF (c_X1_checkSquare a g r σ y1 inv z_y1) (Nat.le_of_ble_eq_true rfl) mV_X1_checkSquare m_1371 (recv_ob obC_8) rfl rfl (Nat.le_of_ble_eq_true rfl) d_X1_outer_54 (k_v (fun σ21 ⟨iσ21, ik21⟩ => ?_)) (fun _ _ _ h => h.elim)
    have kp : Keep [(5, 1), (5, 7), (6, 3), (6, 4), (6, 5), (6, 7), (8, 10), (8, 14)] [25, 26, 27, 28, 29, 30, 38, 39] σ0 σ21 := keep_c kp ik21 (by decide) (by decide)
    refine g_aload_n hF d_X1_outer_57 rfl 0 rfl ?_
    refine g_get (v := .int (σ21 8 13)) hF 13 obC_8 (by decide) m_505 rfl d_X1_outer_58 ?_
    refine g_top (v := (σ 8 13)) (ik21 8 13 rfl rfl rfl) ?_
    refine g_if_eq hF 68 d_X1_outer_61 (by decide) rfl (fun c22_61 => ?_) (fun c22_61 => ?_)
    · -- taken at 61
      refine g_aload_n hF d_X1_outer_68 rfl 0 rfl ?_
      refine g_get (v := .int (σ21 8 12)) hF 12 obC_8 (by decide) m_504 rfl d_X1_outer_69 ?_
      refine g_top (v := (σ 8 12)) (ik21 8 12 rfl rfl rfl) ?_
      refine g_iconst hF (v := (-1)) d_X1_outer_72 (by decide) ?_
      refine g_icmp_ne (yv := -1) hF 80 d_X1_outer_73 (by decide) rfl (by decide) (fun c23_73 => ?_) (fun c23_73 => ?_)
      · -- taken at 73
        refine g_aload_n hF d_X1_outer_80 rfl 0 rfl ?_
        refine g_get (v := .int (σ21 8 12)) hF 12 obC_8 (by decide) m_504 rfl d_X1_outer_81 ?_
        refine g_top (v := (σ 8 12)) (ik21 8 12 rfl rfl rfl) ?_
        exact b84 σ21 x1 x2 x3 x4 (σ 8 12) iσ21 kp z_x3 hnj
      · -- not taken at 73
        refine g_iconst hF (v := 1) d_X1_outer_76 (by decide) ?_
        refine g_goto hF 84 d_X1_outer_77 (by decide) ?_
        exact b84 σ21 x1 x2 x3 x4 (1 : Int32) iσ21 kp z_x3 hnj
    · -- not taken at 61
      refine g_iconst hF (v := 0) d_X1_outer_64 (by decide) ?_
      refine g_goto hF 84 d_X1_outer_65 (by decide) ?_
      exact b84 σ21 x1 x2 x3 x4 (0 : Int32) iσ21 kp z_x3 hnj
  have b49 : ∀ (σ : St) (x1 : Int32) (x2 : Int32) (x3 : Int32) (x4 : Int32) , Inv σ → Keep [(5, 1), (5, 7), (6, 3), (6, 4), (6, 5), (6, 7), (8, 10), (8, 14)] [25, 26, 27, 28, 29, 30, 38, 39] σ0 σ → x3 = 0 ∨ x3 = 1 → NM σ0 x1 → G SC r X σ Z0 [] [(0, .ref (r 8)), (1, .int x1), (2, .int x2), (3, .int x3), (4, .int x4)] [.ref (r 8)] 49 := by
    intro σ x1 x2 x3 x4 inv kp z_x3 hnj
    refine g_iconst hF (v := 1) d_X1_outer_49 (by decide) ?_
    refine g_goto hF 54 d_X1_outer_50 (by decide) ?_
    exact b54 σ x1 x2 x3 x4 (1 : Int32) inv kp z_x3 (Or.inr rfl) hnj
  have b34 : ∀ (σ : St) (x1 : Int32) (x2 : Int32) (x3 : Int32) (x4 : Int32) (y1 : Int32) (y2 : Int32) (y3 : Int32) , Inv σ → Keep [(5, 1), (5, 7), (6, 3), (6, 4), (6, 5), (6, 7), (8, 10), (8, 14)] [25, 26, 27, 28, 29, 30, 38, 39] σ0 σ → x3 = 0 ∨ x3 = 1 → y3 = 0 ∨ y3 = 1 → NM σ0 x1 → G SC r X σ Z0 [] [(0, .ref (r 8)), (1, .int x1), (2, .int x2), (3, .int x3), (4, .int x4)] [.int y3, .int y2, .int y1, .ref (r 8)] 34 := by
    intro σ x1 x2 x3 x4 y1 y2 y3 inv kp z_x3 z_y3 hnj
    refine g_callV (As := [.int y1, .int y2, .int y3]) (rest := []) hF (c_X1_checkOuter a g r σ y1 y2 y3 inv z_y3) (Nat.le_of_ble_eq_true rfl) mV_X1_checkOuter m_1394 (recv_ob obC_8) rfl rfl (Nat.le_of_ble_eq_true rfl) d_X1_outer_34 (k_v (fun σ24 ⟨iσ24, ik24⟩ => ?_)) (fun _ _ _ h => h.elim)
    have kp : Keep [(5, 1), (5, 7), (6, 3), (6, 4), (6, 5), (6, 7), (8, 10), (8, 14)] [25, 26, 27, 28, 29, 30, 38, 39] σ0 σ24 := keep_c kp ik24 (by decide) (by decide)
    refine g_aload_n hF d_X1_outer_37 rfl 0 rfl ?_
    refine g_iload_n hF d_X1_outer_38 rfl 3 rfl ?_
    refine g_if_ne hF 49 d_X1_outer_39 (by decide) rfl (fun c25_39 => ?_) (fun c25_39 => ?_)
    · -- taken at 39
      exact b49 σ24 x1 x2 x3 x4 iσ24 kp z_x3 hnj
    · -- not taken at 39
      refine g_aload_n hF d_X1_outer_42 rfl 0 rfl ?_
      refine g_get (v := .int (σ24 8 13)) hF 13 obC_8 (by decide) m_505 rfl d_X1_outer_43 ?_
      refine g_top (v := (σ 8 13)) (ik24 8 13 rfl rfl rfl) ?_
      refine g_if_eq hF 53 d_X1_outer_46 (by decide) rfl (fun c26_46 => ?_) (fun c26_46 => ?_)
      · -- taken at 46
        refine g_iconst hF (v := 0) d_X1_outer_53 (by decide) ?_
        exact b54 σ24 x1 x2 x3 x4 (0 : Int32) iσ24 kp z_x3 (Or.inl rfl) hnj
      · -- not taken at 46
        exact b49 σ24 x1 x2 x3 x4 iσ24 kp z_x3 hnj
  have b29 : ∀ (σ : St) (x1 : Int32) (x2 : Int32) (x3 : Int32) (x4 : Int32) (y1 : Int32) (y2 : Int32) , Inv σ → Keep [(5, 1), (5, 7), (6, 3), (6, 4), (6, 5), (6, 7), (8, 10), (8, 14)] [25, 26, 27, 28, 29, 30, 38, 39] σ0 σ → x3 = 0 ∨ x3 = 1 → NM σ0 x1 → G SC r X σ Z0 [] [(0, .ref (r 8)), (1, .int x1), (2, .int x2), (3, .int x3), (4, .int x4)] [.int y2, .int y1, .ref (r 8)] 29 := by
    intro σ x1 x2 x3 x4 y1 y2 inv kp z_x3 hnj
    refine g_iconst hF (v := 1) d_X1_outer_29 (by decide) ?_
    refine g_goto hF 34 d_X1_outer_30 (by decide) ?_
    exact b34 σ x1 x2 x3 x4 y1 y2 (1 : Int32) inv kp z_x3 (Or.inr rfl) hnj
  have kp : Keep [(5, 1), (5, 7), (6, 3), (6, 4), (6, 5), (6, 7), (8, 10), (8, 14)] [25, 26, 27, 28, 29, 30, 38, 39] σ0 σ0 := keep_rf
  refine g_aload_n hF d_X1_outer_0 rfl 0 rfl ?_
  refine g_get (v := .ref (r 6)) hF 2 obC_8 (by decide) m_491 rfl d_X1_outer_1 ?_
  refine g_iload_n hF d_X1_outer_4 rfl 1 rfl ?_
  refine g_callVN (As := [.int a1]) (rest := []) hF (c_X11_outerOf a g r σ0 a1 i0) (Nat.le_of_ble_eq_true rfl) mV_X11_outerOf nm_1388 (recv_ob obC_6) rfl rfl (Nat.le_of_ble_eq_true rfl) d_X1_outer_5 (k_ro (fun r27 => ?_))
  refine g_istore hF [(4, .int r27), (0, .ref (r 8)), (1, .int a1), (2, .int a2), (3, .int a3)] d_X1_outer_8 hnn (by decide) rfl ?_
  refine g_aload_n hF d_X1_outer_10 rfl 1 rfl ?_
  refine g_iload_n hF d_X1_outer_11 rfl 2 rfl ?_
  refine g_iload hF d_X1_outer_12 0 rfl ?_
  refine g_iload hF d_X1_outer_14 0 rfl ?_
  refine g_if_lt hF 29 d_X1_outer_16 (by decide) rfl (fun c28_16 => ?_) (fun c28_16 => ?_)
  · -- taken at 16
    exact g_sub (L' := [(0, .ref (r 8)), (1, .int a1), (2, .int a2), (3, .int a3), (4, .int r27)]) [1, 2, 3, 4, 0] rfl (b29 σ0 a1 a2 a3 r27 a1 r27 i0 kp z_a3 hnm)
  · -- not taken at 16
    refine g_aload_n hF d_X1_outer_19 rfl 1 rfl ?_
    refine g_iload hF d_X1_outer_20 0 rfl ?_
    refine g_iload_n hF d_X1_outer_22 rfl 3 rfl ?_
    refine g_callV (As := [.int r27, .int a2]) (rest := [.int r27, .int a1, .ref (r 8)]) hF (c_X1_joins a g r σ0 r27 a2 i0) (Nat.le_of_ble_eq_true rfl) mV_X1_joins m_1389 (recv_ob obC_8) rfl rfl (Nat.le_of_ble_eq_true rfl) d_X1_outer_23 (k_roz (fun r29 hz29 => ?_)) (fun _ _ _ h => h.elim)
    refine g_if_eq hF 33 d_X1_outer_26 (by decide) rfl (fun c30_26 => ?_) (fun c30_26 => ?_)
    · -- taken at 26
      refine g_iconst hF (v := 0) d_X1_outer_33 (by decide) ?_
      exact g_sub (L' := [(0, .ref (r 8)), (1, .int a1), (2, .int a2), (3, .int a3), (4, .int r27)]) [1, 2, 3, 4, 0] rfl (b34 σ0 a1 a2 a3 r27 a1 r27 (0 : Int32) i0 kp z_a3 (Or.inl rfl) hnm)
    · -- not taken at 26
      exact g_sub (L' := [(0, .ref (r 8)), (1, .int a1), (2, .int a2), (3, .int a3), (4, .int r27)]) [1, 2, 3, 4, 0] rfl (b29 σ0 a1 a2 a3 r27 a1 r27 i0 kp z_a3 hnm)
set_option maxHeartbeats 4000000 in
set_option maxRecDepth 100000 in
theorem c_X10_listed_r2_s0 (a : Nat → Nat) (g : Nat → Nat → Int32) (r : Nat → Nat) (σ0 : St) (a2 : Int32) (i0 : Inv σ0) (l : Launch) (D : va_G) (cy : Nat → ClassId) : Ct l D cy SC r (EC a g) y_X10_listed (Cond.code y_X10_listed b_X10_listed 6 (some .int)) 5 [.ref (r 2), .ref (a 2), .int a2] σ0 Z0 [] (QI (fun _ σ9 => σ9 = σ0)) QF := by
  refine Ct_of (EC_ok a g) (by decide) (Nat.le_of_ble_eq_true rfl) (by decide) (fun X hnn hF => ?_)
  show G SC r X σ0 Z0 [] [(0, .ref (r 2)), (1, .ref (a 2)), (2, .int a2)] [] 0
  have b8 : ∀ (N : Nat) (x2 : Int32) (x3 : Int32) (x4 : Int32) (x5 : Int32) , upm x5 = N → (0 ≤ x4.toInt ∧ x4.toInt ≤ 1000 ∧ 0 ≤ x5.toInt ∧ x5.toInt ≤ 1000) → G SC r X σ0 Z0 [] [(0, .ref (r 2)), (1, .ref (a 2)), (2, .int x2), (3, .int x3), (4, .int x4), (5, .int x5)] [] 8 := by
    intro M8
    induction M8 using Nat.strongRecOn with
    | _ M8 ih8 =>
      intro x2 x3 x4 x5 N8 hj
      refine g_iload hF d_X10_listed_8 5 rfl ?_
      refine g_aload_n hF d_X10_listed_10 rfl 1 rfl ?_
      refine g_callV (As := []) (rest := [.int x5]) hF (t_len (EC_ok a g) (fun A s h => EC_s0 h) (by decide)) (Nat.le_of_ble_eq_true rfl) mV_String_length m_848 (recv_str (fun A s h => EC_s0 h)) rfl rfl (Nat.le_of_ble_eq_true rfl) d_X10_listed_11 (k_sv ?_) (fun _ _ _ h => h.elim)
      refine g_top (v := 66) (by decide) ?_
      refine g_icmp_ge (yv := 66) hF 65 d_X10_listed_14 (by decide) rfl (by decide) (fun c2_14 => ?_) (fun c2_14 => ?_)
      · -- taken at 14
        refine g_iconst hF (v := (-1)) d_X10_listed_65 (by decide) ?_
        exact g_iret hF rfl d_X10_listed_66 ⟨rfl, rfl, ((-1) : Int32), rfl, rfl⟩
      · -- not taken at 14
        refine g_aload_n hF d_X10_listed_17 rfl 1 rfl ?_
        refine g_iload hF d_X10_listed_18 5 rfl ?_
        refine g_callV (As := [.int x5]) (rest := []) hF (t_ch (EC_ok a g) (fun A s h => EC_s0 h) (by decide) (by decide) x5 (by have e0 := s_rng x5; have e1 : (66 : Int32).toInt = 66 := (by decide); omega) (by have e0 := s_rng x5; have e1 : (66 : Int32).toInt = 66 := (by decide); omega)) (Nat.le_of_ble_eq_true rfl) mV_String_charAt m_849 (recv_str (fun A s h => EC_s0 h)) rfl rfl (Nat.le_of_ble_eq_true rfl) d_X10_listed_20 (k_sx (fun r4 => ?_)) (fun _ _ _ h => h.elim)
        refine g_bipush hF (v := 32) d_X10_listed_23 (by decide) ?_
        refine g_icmp_ne (yv := 32) hF 59 d_X10_listed_25 (by decide) rfl (by decide) (fun c5_25 => ?_) (fun c5_25 => ?_)
        · -- taken at 25
          refine g_iinc hF (x5 + 1) [(5, .int (x5 + 1)), (0, .ref (r 2)), (1, .ref (a 2)), (2, .int x2), (3, .int x3), (4, .int x4)] d_X10_listed_59 5 rfl rfl hnn (by decide) rfl ?_
          refine g_goto hF 8 d_X10_listed_62 (by decide) ?_
          exact g_sub (L' := [(0, .ref (r 2)), (1, .ref (a 2)), (2, .int x2), (3, .int x3), (4, .int x4), (5, .int (x5 + 1))]) [1, 2, 3, 4, 5, 0] rfl (ih8 _ (N8 ▸ upm_lt c2_14 (by decide)) x2 x3 x4 (x5 + 1) rfl (by show 0 ≤ x4.toInt ∧ x4.toInt ≤ 1000 ∧ 0 ≤ (x5 + 1).toInt ∧ (x5 + 1).toInt ≤ 1000; have e0 := s_rng x5; have e1 : (1 : Int32).toInt = 1 := (by decide); obtain ⟨k2, e2⟩ := s_add x5 (1 : Int32); have e2a := s_rng (x5 + 1); have e4 := s_rng x2; have e5 := s_rng x3; have e6 := s_rng x4; have e7 : (66 : Int32).toInt = 66 := (by decide); omega))
        · -- not taken at 25
          refine g_iload hF d_X10_listed_28 5 rfl ?_
          refine g_iload hF d_X10_listed_30 4 rfl ?_
          refine g_isub hF d_X10_listed_32 ?_
          refine g_iload_n hF d_X10_listed_33 rfl 2 rfl ?_
          refine g_icmp_ne hF 50 d_X10_listed_34 (by decide) rfl rfl (fun c6_34 => ?_) (fun c6_34 => ?_)
          · -- taken at 34
            refine g_iload hF d_X10_listed_50 5 rfl ?_
            refine g_iconst hF (v := 1) d_X10_listed_52 (by decide) ?_
            refine g_iadd hF d_X10_listed_53 ?_
            refine g_istore hF [(4, .int (x5 + 1)), (0, .ref (r 2)), (1, .ref (a 2)), (2, .int x2), (3, .int x3), (5, .int x5)] d_X10_listed_54 hnn (by decide) rfl ?_
            refine g_iinc hF (x3 + 1) [(3, .int (x3 + 1)), (4, .int (x5 + 1)), (0, .ref (r 2)), (1, .ref (a 2)), (2, .int x2), (5, .int x5)] d_X10_listed_56 4 rfl rfl hnn (by decide) rfl ?_
            refine g_iinc hF (x5 + 1) [(5, .int (x5 + 1)), (3, .int (x3 + 1)), (4, .int (x5 + 1)), (0, .ref (r 2)), (1, .ref (a 2)), (2, .int x2)] d_X10_listed_59 5 rfl rfl hnn (by decide) rfl ?_
            refine g_goto hF 8 d_X10_listed_62 (by decide) ?_
            exact g_sub (L' := [(0, .ref (r 2)), (1, .ref (a 2)), (2, .int x2), (3, .int (x3 + 1)), (4, .int (x5 + 1)), (5, .int (x5 + 1))]) [3, 4, 5, 1, 2, 0] rfl (ih8 _ (N8 ▸ upm_lt c2_14 (by decide)) x2 (x3 + 1) (x5 + 1) (x5 + 1) rfl (by show 0 ≤ (x5 + 1).toInt ∧ (x5 + 1).toInt ≤ 1000 ∧ 0 ≤ (x5 + 1).toInt ∧ (x5 + 1).toInt ≤ 1000; have e0 := s_rng x5; have e1 : (1 : Int32).toInt = 1 := (by decide); obtain ⟨k2, e2⟩ := s_add x5 (1 : Int32); have e2a := s_rng (x5 + 1); have e4 := s_rng x3; obtain ⟨k5, e5⟩ := s_add x3 (1 : Int32); have e5a := s_rng (x3 + 1); have e7 := s_rng x2; have e8 : (66 : Int32).toInt = 66 := (by decide); have e9 := s_rng x4; obtain ⟨k10, e10⟩ := s_sub x5 x4; have e10a := s_rng (x5 - x4); omega))
          · -- not taken at 34
            refine g_aload_n hF d_X10_listed_37 rfl 0 rfl ?_
            refine g_aload_n hF d_X10_listed_38 rfl 1 rfl ?_
            refine g_iload hF d_X10_listed_39 4 rfl ?_
            refine g_iload_n hF d_X10_listed_41 rfl 2 rfl ?_
            refine g_callV (As := [.ref (a 2), .int x4, .int x2]) (rest := []) hF (c_X10_isNext_r2_s0 a g r σ0 x4 x2 (by show 0 ≤ x4.toInt ∧ x4.toInt ≤ 1000; have e0 := s_rng x4; have e1 := s_rng x2; have e2 := s_rng x5; obtain ⟨k3, e3⟩ := s_sub x5 x4; have e3a := s_rng (x5 - x4); have e5 : (66 : Int32).toInt = 66 := (by decide); omega) i0) (Nat.le_of_ble_eq_true rfl) mV_X10_isNext m_850 (recv_ob obC_2) rfl rfl (Nat.le_of_ble_eq_true rfl) d_X10_listed_42 (k_roz (fun r7 hz7 => ?_)) (fun _ _ _ h => h.elim)
            refine g_if_eq hF 50 d_X10_listed_45 (by decide) rfl (fun c8_45 => ?_) (fun c8_45 => ?_)
            · -- taken at 45
              refine g_iload hF d_X10_listed_50 5 rfl ?_
              refine g_iconst hF (v := 1) d_X10_listed_52 (by decide) ?_
              refine g_iadd hF d_X10_listed_53 ?_
              refine g_istore hF [(4, .int (x5 + 1)), (0, .ref (r 2)), (1, .ref (a 2)), (2, .int x2), (3, .int x3), (5, .int x5)] d_X10_listed_54 hnn (by decide) rfl ?_
              refine g_iinc hF (x3 + 1) [(3, .int (x3 + 1)), (4, .int (x5 + 1)), (0, .ref (r 2)), (1, .ref (a 2)), (2, .int x2), (5, .int x5)] d_X10_listed_56 4 rfl rfl hnn (by decide) rfl ?_
              refine g_iinc hF (x5 + 1) [(5, .int (x5 + 1)), (3, .int (x3 + 1)), (4, .int (x5 + 1)), (0, .ref (r 2)), (1, .ref (a 2)), (2, .int x2)] d_X10_listed_59 5 rfl rfl hnn (by decide) rfl ?_
              refine g_goto hF 8 d_X10_listed_62 (by decide) ?_
              exact g_sub (L' := [(0, .ref (r 2)), (1, .ref (a 2)), (2, .int x2), (3, .int (x3 + 1)), (4, .int (x5 + 1)), (5, .int (x5 + 1))]) [3, 4, 5, 1, 2, 0] rfl (ih8 _ (N8 ▸ upm_lt c2_14 (by decide)) x2 (x3 + 1) (x5 + 1) (x5 + 1) rfl (by show 0 ≤ (x5 + 1).toInt ∧ (x5 + 1).toInt ≤ 1000 ∧ 0 ≤ (x5 + 1).toInt ∧ (x5 + 1).toInt ≤ 1000; have e0 := s_rng x5; have e1 : (1 : Int32).toInt = 1 := (by decide); obtain ⟨k2, e2⟩ := s_add x5 (1 : Int32); have e2a := s_rng (x5 + 1); have e4 := s_rng x3; obtain ⟨k5, e5⟩ := s_add x3 (1 : Int32); have e5a := s_rng (x3 + 1); have e7 := s_rng x2; have e8 : (66 : Int32).toInt = 66 := (by decide); have e9 := s_rng x4; obtain ⟨k10, e10⟩ := s_sub x5 x4; have e10a := s_rng (x5 - x4); omega))
            · -- not taken at 45
              refine g_iload_n hF d_X10_listed_48 rfl 3 rfl ?_
              exact g_iret hF rfl d_X10_listed_49 ⟨rfl, rfl, x3, rfl, rfl⟩
  refine g_iconst hF (v := 0) d_X10_listed_0 (by decide) ?_
  refine g_istore_n hF [(3, .int 0), (0, .ref (r 2)), (1, .ref (a 2)), (2, .int a2)] d_X10_listed_1 rfl hnn (by decide) rfl ?_
  refine g_iconst hF (v := 0) d_X10_listed_2 (by decide) ?_
  refine g_istore hF [(4, .int 0), (3, .int 0), (0, .ref (r 2)), (1, .ref (a 2)), (2, .int a2)] d_X10_listed_3 hnn (by decide) rfl ?_
  refine g_iconst hF (v := 0) d_X10_listed_5 (by decide) ?_
  refine g_istore hF [(5, .int 0), (4, .int 0), (3, .int 0), (0, .ref (r 2)), (1, .ref (a 2)), (2, .int a2)] d_X10_listed_6 hnn (by decide) rfl ?_
  exact g_sub (L' := [(0, .ref (r 2)), (1, .ref (a 2)), (2, .int a2), (3, .int 0), (4, .int 0), (5, .int 0)]) [3, 4, 5, 2, 1, 0] rfl (b8 _ a2 (0 : Int32) (0 : Int32) (0 : Int32) rfl (by show 0 ≤ 0 ∧ 0 ≤ 1000 ∧ 0 ≤ 0 ∧ 0 ≤ 1000; have e0 : (0 : Int32).toInt = 0 := (by decide); have e1 := s_rng a2; omega))
set_option maxHeartbeats 4000000 in
set_option maxRecDepth 100000 in
theorem c_X10_isNext_r2_s1 (a : Nat → Nat) (g : Nat → Nat → Int32) (r : Nat → Nat) (σ0 : St) (a2 : Int32) (a3 : Int32) (hpre : 0 ≤ a2.toInt ∧ a2.toInt ≤ 1000) (i0 : Inv σ0) (l : Launch) (D : va_G) (cy : Nat → ClassId) : Ct l D cy SC r (EC a g) y_X10_isNext (Cond.code y_X10_isNext b_X10_isNext 5 (some .boolean)) 4 [.ref (r 2), .ref (a 4), .int a2, .int a3] σ0 Z0 [] (QI (fun v9 σ9 => (v9 = 0 ∨ v9 = 1) ∧ σ9 = σ0)) QF := by
  refine Ct_of (EC_ok a g) (by decide) (Nat.le_of_ble_eq_true rfl) (by decide) (fun X hnn hF => ?_)
  show G SC r X σ0 Z0 [] [(0, .ref (r 2)), (1, .ref (a 4)), (2, .int a2), (3, .int a3)] [] 0
  have b3 : ∀ (N : Nat) (x2 : Int32) (x3 : Int32) (x4 : Int32) , upm x4 = N → (0 ≤ x2.toInt ∧ x2.toInt ≤ 1000 ∧ 0 ≤ x4.toInt ∧ x4.toInt ≤ 1000) → G SC r X σ0 Z0 [] [(0, .ref (r 2)), (1, .ref (a 4)), (2, .int x2), (3, .int x3), (4, .int x4)] [] 3 := by
    intro M3
    induction M3 using Nat.strongRecOn with
    | _ M3 ih3 =>
      intro x2 x3 x4 N3 hj
      refine g_iload hF d_X10_isNext_3 4 rfl ?_
      refine g_iload_n hF d_X10_isNext_5 rfl 3 rfl ?_
      refine g_icmp_ge hF 50 d_X10_isNext_6 (by decide) rfl rfl (fun c1_6 => ?_) (fun c1_6 => ?_)
      · -- taken at 6
        refine g_iconst hF (v := 1) d_X10_isNext_50 (by decide) ?_
        exact g_zret hF rfl (k_nz (Or.inr rfl)) d_X10_isNext_51 ⟨rfl, rfl, (1 : Int32), rfl, (Or.inr rfl), rfl⟩
      · -- not taken at 6
        refine g_iload_n hF d_X10_isNext_9 rfl 2 rfl ?_
        refine g_iload hF d_X10_isNext_10 4 rfl ?_
        refine g_iadd hF d_X10_isNext_12 ?_
        refine g_aload_n hF d_X10_isNext_13 rfl 1 rfl ?_
        refine g_callV (As := []) (rest := [.int (x2 + x4)]) hF (t_len (EC_ok a g) (fun A s h => EC_s1 h) (by decide)) (Nat.le_of_ble_eq_true rfl) mV_String_length m_848 (recv_str (fun A s h => EC_s1 h)) rfl rfl (Nat.le_of_ble_eq_true rfl) d_X10_isNext_14 (k_sv ?_) (fun _ _ _ h => h.elim)
        refine g_top (v := 108) (by decide) ?_
        refine g_icmp_ge (yv := 108) hF 42 d_X10_isNext_17 (by decide) rfl (by decide) (fun c3_17 => ?_) (fun c3_17 => ?_)
        · -- taken at 17
          refine g_iconst hF (v := 0) d_X10_isNext_42 (by decide) ?_
          exact g_zret hF rfl (k_nz (Or.inl rfl)) d_X10_isNext_43 ⟨rfl, rfl, (0 : Int32), rfl, (Or.inl rfl), rfl⟩
        · -- not taken at 17
          refine g_aload_n hF d_X10_isNext_20 rfl 1 rfl ?_
          refine g_iload_n hF d_X10_isNext_21 rfl 2 rfl ?_
          refine g_iload hF d_X10_isNext_22 4 rfl ?_
          refine g_iadd hF d_X10_isNext_24 ?_
          refine g_callV (As := [.int (x2 + x4)]) (rest := []) hF (t_ch (EC_ok a g) (fun A s h => EC_s1 h) (by decide) (by decide) (x2 + x4) (by have e0 := s_rng x2; have e1 := s_rng x4; obtain ⟨k2, e2⟩ := s_add x2 x4; have e2a := s_rng (x2 + x4); have e4 := s_rng x3; have e5 : (108 : Int32).toInt = 108 := (by decide); omega) (by have e0 := s_rng x2; have e1 := s_rng x4; obtain ⟨k2, e2⟩ := s_add x2 x4; have e2a := s_rng (x2 + x4); have e4 := s_rng x3; have e5 : (108 : Int32).toInt = 108 := (by decide); omega)) (Nat.le_of_ble_eq_true rfl) mV_String_charAt m_849 (recv_str (fun A s h => EC_s1 h)) rfl rfl (Nat.le_of_ble_eq_true rfl) d_X10_isNext_25 (k_sx (fun r5 => ?_)) (fun _ _ _ h => h.elim)
          refine g_aload_n hF d_X10_isNext_28 rfl 0 rfl ?_
          refine g_aload_n hF d_X10_isNext_29 rfl 0 rfl ?_
          refine g_get (v := .int (σ0 2 2)) hF 2 obC_2 (by decide) m_44 rfl d_X10_isNext_30 ?_
          refine g_iload hF d_X10_isNext_33 4 rfl ?_
          refine g_iadd hF d_X10_isNext_35 ?_
          refine g_callV (As := [.int ((σ0 2 2) + x4)]) (rest := [.int r5]) hF (c_X10_byteAt a g r σ0 ((σ0 2 2) + x4) i0) (Nat.le_of_ble_eq_true rfl) mV_X10_byteAt m_806 (recv_ob obC_2) rfl rfl (Nat.le_of_ble_eq_true rfl) d_X10_isNext_36 (k_rop (fun r6 hp6 => ?_)) (fun _ _ _ h => h.elim)
          have hp6 : 0 ≤ r6.toInt → (0 ≤ ((σ0 2 2) + x4).toInt ∧ ((σ0 2 2) + x4).toInt < 16000) := hp6
          refine g_icmp_eq hF 44 d_X10_isNext_39 (by decide) rfl rfl (fun c7_39 => ?_) (fun c7_39 => ?_)
          · -- taken at 39
            refine g_iinc hF (x4 + 1) [(4, .int (x4 + 1)), (0, .ref (r 2)), (1, .ref (a 4)), (2, .int x2), (3, .int x3)] d_X10_isNext_44 4 rfl rfl hnn (by decide) rfl ?_
            refine g_goto hF 3 d_X10_isNext_47 (by decide) ?_
            exact g_sub (L' := [(0, .ref (r 2)), (1, .ref (a 4)), (2, .int x2), (3, .int x3), (4, .int (x4 + 1))]) [1, 2, 3, 4, 0] rfl (ih3 _ (N3 ▸ upm_lt c1_6 (s_rng x3).2) x2 x3 (x4 + 1) rfl (by show 0 ≤ x2.toInt ∧ x2.toInt ≤ 1000 ∧ 0 ≤ (x4 + 1).toInt ∧ (x4 + 1).toInt ≤ 1000; have e0 := s_rng x4; have e1 : (1 : Int32).toInt = 1 := (by decide); obtain ⟨k2, e2⟩ := s_add x4 (1 : Int32); have e2a := s_rng (x4 + 1); have e4 := s_rng x2; have e5 := s_rng x3; obtain ⟨k6, e6⟩ := s_add x2 x4; have e6a := s_rng (x2 + x4); have e8 : (108 : Int32).toInt = 108 := (by decide); have e9 := s_rng r6; have e10 := s_rng (σ0 2 2); have e11 := i0.2.2.2.2.1; obtain ⟨k12, e12⟩ := s_add (σ0 2 2) x4; have e12a := s_rng ((σ0 2 2) + x4); have e14 := s_rng r5; omega))
          · -- not taken at 39
            refine g_iconst hF (v := 0) d_X10_isNext_42 (by decide) ?_
            exact g_zret hF rfl (k_nz (Or.inl rfl)) d_X10_isNext_43 ⟨rfl, rfl, (0 : Int32), rfl, (Or.inl rfl), rfl⟩
  refine g_iconst hF (v := 0) d_X10_isNext_0 (by decide) ?_
  refine g_istore hF [(4, .int 0), (0, .ref (r 2)), (1, .ref (a 4)), (2, .int a2), (3, .int a3)] d_X10_isNext_1 hnn (by decide) rfl ?_
  exact g_sub (L' := [(0, .ref (r 2)), (1, .ref (a 4)), (2, .int a2), (3, .int a3), (4, .int 0)]) [1, 2, 3, 4, 0] rfl (b3 _ a2 a3 (0 : Int32) rfl (by show 0 ≤ a2.toInt ∧ a2.toInt ≤ 1000 ∧ 0 ≤ 0 ∧ 0 ≤ 1000; have e0 : (0 : Int32).toInt = 0 := (by decide); have e1 := s_rng a2; have e2 := s_rng a3; omega))
