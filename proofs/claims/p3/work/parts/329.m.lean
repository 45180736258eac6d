set_option maxHeartbeats 4000000 in
set_option maxRecDepth 100000 in
theorem c_X3_read (a : Nat → Nat) (g : Nat → Nat → Int32) (r : Nat → Nat) (σ0 : St) (i0 : Inv σ0) (l : Launch) (D : va_G) (cy : Nat → ClassId) : Ct l D cy SC r (EC a g) y_X3_read (Cond.code y_X3_read b_X3_read 6 (some .boolean)) 623 [.ref (r 3)] σ0 Z0 [] (QI (fun v9 σ9 => (v9 = 0 ∨ v9 = 1) ∧ ((GPS σ9 ∧ Mo σ9 σ9) ∧ (((v9.toInt : Int) ≠ 0 → (σ9 3 3).toInt < 0) ∧ Inv σ9 ∧ Keep [(3, 1), (3, 2), (3, 3), (3, 4), (3, 9)] [18, 19, 20, 21, 22, 23] σ0 σ9)))) QF := by
  refine Ct_of (EC_ok a g) (by decide) (Nat.le_of_ble_eq_true rfl) (by decide) (fun X hnn hF => ?_)
  show G SC r X σ0 Z0 [] [(0, .ref (r 3))] [] 0
  have b32 : ∀ (N : Nat) (σ : St) (x1 : Int32) , dnm x1 = N → Inv σ → Keep [(3, 1), (3, 2), (3, 3), (3, 4), (3, 9)] [18, 19, 20, 21, 22, 23] σ0 σ → GPS σ → Mo σ σ → G SC r X σ Z0 [] [(0, .ref (r 3)), (1, .int x1)] [] 32 := by
    intro M32
    induction M32 using Nat.strongRecOn with
    | _ M32 ih32 =>
      intro σ x1 N32 inv kp hgp hgm
      refine g_iload_n hF d_X3_read_32 rfl 1 rfl ?_
      refine g_if_le hF 199 d_X3_read_33 (by decide) rfl (fun c1_33 => ?_) (fun c1_33 => ?_)
      · -- taken at 33
        refine g_aload_n hF d_X3_read_199 rfl 0 rfl ?_
        refine g_get (v := .int (σ 3 3)) hF 3 obC_3 (by decide) m_97 rfl d_X3_read_200 ?_
        refine g_if_ge hF 210 d_X3_read_203 (by decide) rfl (fun c2_203 => ?_) (fun c2_203 => ?_)
        · -- taken at 203
          refine g_iconst hF (v := 0) d_X3_read_210 (by decide) ?_
          exact g_zret hF rfl (k_nz (Or.inl rfl)) d_X3_read_211 ⟨rfl, rfl, (0 : Int32), rfl, (Or.inl rfl), ⟨⟨hgp, (fun h9 => h9)⟩, (by show (0 : Int) ≠ 0 → (σ 3 3).toInt < 0; have e0 : (0 : Int32).toInt = 0 := (by decide); have e1 := s_rng (σ 3 3); have e2 := s_rng (σ0 3 3); have e3 := s_rng x1; omega), inv, kp⟩⟩
        · -- not taken at 203
          refine g_iconst hF (v := 1) d_X3_read_206 (by decide) ?_
          refine g_goto hF 211 d_X3_read_207 (by decide) ?_
          exact g_zret hF rfl (k_nz (Or.inr rfl)) d_X3_read_211 ⟨rfl, rfl, (1 : Int32), rfl, (Or.inr rfl), ⟨⟨hgp, (fun h9 => h9)⟩, (by show (1 : Int) ≠ 0 → (σ 3 3).toInt < 0; have e0 : (1 : Int32).toInt = 1 := (by decide); have e1 := s_rng (σ 3 3); have e2 := s_rng (σ0 3 3); have e3 : (0 : Int32).toInt = 0 := (by decide); have e4 := s_rng x1; omega), inv, kp⟩⟩
      · -- not taken at 33
        refine g_aload_n hF d_X3_read_36 rfl 0 rfl ?_
        refine g_get (v := .int (σ 3 3)) hF 3 obC_3 (by decide) m_97 rfl d_X3_read_37 ?_
        refine g_if_ge hF 199 d_X3_read_40 (by decide) rfl (fun c3_40 => ?_) (fun c3_40 => ?_)
        · -- taken at 40
          refine g_aload_n hF d_X3_read_199 rfl 0 rfl ?_
          refine g_get (v := .int (σ 3 3)) hF 3 obC_3 (by decide) m_97 rfl d_X3_read_200 ?_
          refine g_if_ge hF 210 d_X3_read_203 (by decide) rfl (fun c4_203 => ?_) (fun c4_203 => ?_)
          · -- taken at 203
            refine g_iconst hF (v := 0) d_X3_read_210 (by decide) ?_
            exact g_zret hF rfl (k_nz (Or.inl rfl)) d_X3_read_211 ⟨rfl, rfl, (0 : Int32), rfl, (Or.inl rfl), ⟨⟨hgp, (fun h9 => h9)⟩, (by show (0 : Int) ≠ 0 → (σ 3 3).toInt < 0; have e0 : (0 : Int32).toInt = 0 := (by decide); have e1 := s_rng (σ 3 3); have e2 := s_rng (σ0 3 3); have e3 := s_rng x1; omega), inv, kp⟩⟩
          · -- not taken at 203
            refine g_iconst hF (v := 1) d_X3_read_206 (by decide) ?_
            refine g_goto hF 211 d_X3_read_207 (by decide) ?_
            exact g_zret hF rfl (k_nz (Or.inr rfl)) d_X3_read_211 ⟨rfl, rfl, (1 : Int32), rfl, (Or.inr rfl), ⟨⟨hgp, (fun h9 => h9)⟩, (by show (1 : Int) ≠ 0 → (σ 3 3).toInt < 0; have e0 : (1 : Int32).toInt = 1 := (by decide); have e1 := s_rng (σ 3 3); have e2 := s_rng (σ0 3 3); have e3 : (0 : Int32).toInt = 0 := (by decide); have e4 := s_rng x1; omega), inv, kp⟩⟩
        · -- not taken at 40
          refine g_aload_n hF d_X3_read_43 rfl 0 rfl ?_
          refine g_get (v := .int (σ 3 2)) hF 2 obC_3 (by decide) m_96 rfl d_X3_read_44 ?_
          refine g_if_eq hF 199 d_X3_read_47 (by decide) rfl (fun c5_47 => ?_) (fun c5_47 => ?_)
          · -- taken at 47
            refine g_aload_n hF d_X3_read_199 rfl 0 rfl ?_
            refine g_get (v := .int (σ 3 3)) hF 3 obC_3 (by decide) m_97 rfl d_X3_read_200 ?_
            refine g_if_ge hF 210 d_X3_read_203 (by decide) rfl (fun c6_203 => ?_) (fun c6_203 => ?_)
            · -- taken at 203
              refine g_iconst hF (v := 0) d_X3_read_210 (by decide) ?_
              exact g_zret hF rfl (k_nz (Or.inl rfl)) d_X3_read_211 ⟨rfl, rfl, (0 : Int32), rfl, (Or.inl rfl), ⟨⟨hgp, (fun h9 => h9)⟩, (by show (0 : Int) ≠ 0 → (σ 3 3).toInt < 0; have e0 : (0 : Int32).toInt = 0 := (by decide); have e1 := s_rng (σ 3 3); have e2 := s_rng (σ0 3 3); have e3 := s_rng x1; have e4 := s_rng (σ 3 2); omega), inv, kp⟩⟩
            · -- not taken at 203
              refine g_iconst hF (v := 1) d_X3_read_206 (by decide) ?_
              refine g_goto hF 211 d_X3_read_207 (by decide) ?_
              exact g_zret hF rfl (k_nz (Or.inr rfl)) d_X3_read_211 ⟨rfl, rfl, (1 : Int32), rfl, (Or.inr rfl), ⟨⟨hgp, (fun h9 => h9)⟩, (by show (1 : Int) ≠ 0 → (σ 3 3).toInt < 0; have e0 : (1 : Int32).toInt = 1 := (by decide); have e1 := s_rng (σ 3 3); have e2 := s_rng (σ0 3 3); have e3 : (0 : Int32).toInt = 0 := (by decide); have e4 := s_rng (σ 3 2); have e5 := s_rng x1; omega), inv, kp⟩⟩
          · -- not taken at 47
            refine g_aload_n hF d_X3_read_50 rfl 0 rfl ?_
            refine g_get (v := .int (σ 3 2)) hF 2 obC_3 (by decide) m_96 rfl d_X3_read_51 ?_
            refine g_bipush hF (v := 7) d_X3_read_54 (by decide) ?_
            refine g_icmp_ne (yv := 7) hF 63 d_X3_read_56 (by decide) rfl (by decide) (fun c7_56 => ?_) (fun c7_56 => ?_)
            · -- taken at 56
              refine g_aload_n hF d_X3_read_63 rfl 0 rfl ?_
              refine g_get (v := .int (σ 3 2)) hF 2 obC_3 (by decide) m_96 rfl d_X3_read_64 ?_
              refine g_bipush hF (v := 8) d_X3_read_67 (by decide) ?_
              refine g_icmp_ne (yv := 8) hF 76 d_X3_read_69 (by decide) rfl (by decide) (fun c8_69 => ?_) (fun c8_69 => ?_)
              · -- taken at 69
                refine g_iconst hF (v := 0) d_X3_read_76 (by decide) ?_
                refine g_istore_n hF [(2, .int 0), (0, .ref (r 3)), (1, .int x1)] d_X3_read_77 rfl hnn (by decide) rfl ?_
                refine g_iload_n hF d_X3_read_78 rfl 0 rfl ?_
                refine g_if_eq (xv := 0) hF 86 d_X3_read_79 (by decide) (by decide) (fun _ => ?_) (fun c_79 => absurd c_79 (by decide))
                refine g_aload_n hF d_X3_read_86 rfl 1 rfl ?_
                refine g_get (v := .int (σ 3 2)) hF 2 obC_3 (by decide) m_96 rfl d_X3_read_87 ?_
                refine g_bipush hF (v := 6) d_X3_read_90 (by decide) ?_
                refine g_icmp_ne (yv := 6) hF 99 d_X3_read_92 (by decide) rfl (by decide) (fun c9_92 => ?_) (fun c9_92 => ?_)
                · -- taken at 92
                  refine g_iconst hF (v := 0) d_X3_read_99 (by decide) ?_
                  refine g_istore_n hF [(3, .int 0), (2, .int 0), (0, .ref (r 3)), (1, .int x1)] d_X3_read_100 rfl hnn (by decide) rfl ?_
                  refine g_aload_n hF d_X3_read_101 rfl 2 rfl ?_
                  refine g_iload_n hF d_X3_read_102 rfl 0 rfl ?_
                  refine g_if_eq (xv := 0) hF 111 d_X3_read_103 (by decide) (by decide) (fun _ => ?_) (fun c_103 => absurd c_103 (by decide))
                  refine g_iconst hF (v := 5) d_X3_read_111 (by decide) ?_
                  refine g_callV (As := [.int 5]) (rest := []) hF (c_X3_expect a g r σ (5 : Int32) hgp (by show ¬ (5 = 0 ∨ 5 = -1); have e0 : (5 : Int32).toInt = 5 := (by decide); omega) inv) (Nat.le_of_ble_eq_true rfl) mV_X3_expect m_903 (recv_ob obC_3) rfl rfl (Nat.le_of_ble_eq_true rfl) d_X3_read_112 (k_v (fun σ10 ⟨⟨hgp10, hgm10⟩, hs10, iσ10, ik10⟩ => ?_)) (fun _ _ _ h => h.elim)
                  have hs10 : (σ10 3 3).toInt < 0 → (σ 3 2).toInt = 5 := hs10
                  have hmo10 : Mo σ10 σ := fun h9 => mo_e (show σ 3 3 = σ 3 3 from rfl) (hgm10 h9)
                  have kp : Keep [(3, 1), (3, 2), (3, 3), (3, 4), (3, 9)] [18, 19, 20, 21, 22, 23] σ0 σ10 := keep_c kp ik10 (by decide) (by decide)
                  refine g_iload_n hF d_X3_read_115 rfl 0 rfl ?_
                  refine g_if_eq (xv := 0) hF 123 d_X3_read_116 (by decide) (by decide) (fun _ => ?_) (fun c_116 => absurd c_116 (by decide))
                  refine g_aload_n hF d_X3_read_123 rfl 2 rfl ?_
                  refine g_callV (As := []) (rest := []) hF (c_X3_stars a g r σ10 hgp10 iσ10) (Nat.le_of_ble_eq_true rfl) mV_X3_stars m_911 (recv_ob obC_3) rfl rfl (Nat.le_of_ble_eq_true rfl) d_X3_read_124 (k_i (fun r11 σ11 ⟨⟨hgp11, hgm11⟩, iσ11, ik11⟩ => ?_)) (fun _ _ _ h => h.elim)
                  have hmo11 : Mo σ11 σ10 := fun h9 => mo_e (show σ10 3 3 = σ10 3 3 from rfl) (hgm11 h9)
                  have kp : Keep [(3, 1), (3, 2), (3, 3), (3, 4), (3, 9)] [18, 19, 20, 21, 22, 23] σ0 σ11 := keep_c kp ik11 (by decide) (by decide)
                  refine g_istore hF [(4, .int r11), (3, .int 0), (2, .int 0), (0, .ref (r 3)), (1, .int x1)] d_X3_read_127 hnn (by decide) rfl ?_
                  refine g_aload_n hF d_X3_read_129 rfl 3 rfl ?_
                  refine g_get (v := .int (σ11 3 1)) hF 1 obC_3 (by decide) m_95 rfl d_X3_read_130 ?_
                  refine g_istore hF [(5, .int (σ11 3 1)), (4, .int r11), (3, .int 0), (2, .int 0), (0, .ref (r 3)), (1, .int x1)] d_X3_read_133 hnn (by decide) rfl ?_
                  refine g_aload_n hF d_X3_read_135 rfl 4 rfl ?_
                  refine g_iconst hF (v := 2) d_X3_read_136 (by decide) ?_
                  have hkk12 : ∀ z, σ11 14 z = σ0 14 z := fun z => kp 14 z rfl rfl rfl
                  refine g_callV (As := [.int 2]) (rest := []) hF (c_X3_expect a g r σ11 (2 : Int32) hgp11 (by show ¬ (2 = 0 ∨ 2 = -1); have e0 : (2 : Int32).toInt = 2 := (by decide); omega) iσ11) (Nat.le_of_ble_eq_true rfl) mV_X3_expect m_903 (recv_ob obC_3) rfl rfl (Nat.le_of_ble_eq_true rfl) d_X3_read_137 (k_v (fun σ12 ⟨⟨hgp12, hgm12⟩, hs12, iσ12, ik12⟩ => ?_)) (fun _ _ _ h => h.elim)
                  have hs12 : (σ12 3 3).toInt < 0 → (σ11 3 2).toInt = 2 := hs12
                  have hmo12 : Mo σ12 σ11 := fun h9 => mo_e (show σ11 3 3 = σ11 3 3 from rfl) (hgm12 h9)
                  have hnn12 : (σ12 3 3).toInt < 0 → NM σ0 (σ11 3 1) := fun h9 => nm_back hkk12 (hgp11.2.1.2 (hs12 h9))
                  have kp : Keep [(3, 1), (3, 2), (3, 3), (3, 4), (3, 9)] [18, 19, 20, 21, 22, 23] σ0 σ12 := keep_c kp ik12 (by decide) (by decide)
                  refine g_iload_n hF d_X3_read_140 rfl 2 rfl ?_
                  refine g_if_ne (xv := 0) hF 165 d_X3_read_141 (by decide) (by decide) (fun c_141 => absurd c_141 (by decide)) (fun _ => ?_)
                  refine g_aload_n hF d_X3_read_144 rfl 4 rfl ?_
                  refine g_get (v := .int (σ12 3 2)) hF 2 obC_3 (by decide) m_96 rfl d_X3_read_145 ?_
                  refine g_bipush hF (v := 20) d_X3_read_148 (by decide) ?_
                  refine g_icmp_eq (yv := 20) hF 165 d_X3_read_150 (by decide) rfl (by decide) (fun c13_150 => ?_) (fun c13_150 => ?_)
                  · -- taken at 150
                    refine g_aload_n hF d_X3_read_165 rfl 4 rfl ?_
                    refine g_iload hF d_X3_read_166 0 rfl ?_
                    refine g_iload hF d_X3_read_168 1 rfl ?_
                    refine g_iload_n hF d_X3_read_170 rfl 3 rfl ?_
                    refine g_callV (As := [.int (σ11 3 1), .int r11, .int 0]) (rest := []) hF (c_X3_head a g r σ12 (σ11 3 1) r11 (0 : Int32) (fun h9 => (nm_keep (fun z => kp 14 z rfl rfl rfl) (hnn12 (mo_e (show σ12 3 3 = σ12 3 3 from rfl) h9)))) hgp12 iσ12) (Nat.le_of_ble_eq_true rfl) mV_X3_head m_986 (recv_ob obC_3) rfl rfl (Nat.le_of_ble_eq_true rfl) d_X3_read_171 (k_i (fun r14 σ14 ⟨hz14, ⟨hgp14, hgm14⟩, iσ14, ik14⟩ => ?_)) (fun _ _ _ h => h.elim)
                    have hmo14 : Mo σ14 σ12 := fun h9 => mo_e (show σ12 3 3 = σ12 3 3 from rfl) (hgm14 h9)
                    have kp : Keep [(3, 1), (3, 2), (3, 3), (3, 4), (3, 9)] [18, 19, 20, 21, 22, 23] σ0 σ14 := keep_c kp ik14 (by decide) (by decide)
                    refine g_if_eq hF 193 d_X3_read_174 (by decide) rfl (fun c15_174 => ?_) (fun c15_174 => ?_)
                    · -- taken at 174
                      refine g_iinc hF (x1 + (-1)) [(1, .int (x1 + (-1))), (5, .int (σ11 3 1)), (4, .int r11), (3, .int 0), (2, .int 0), (0, .ref (r 3))] d_X3_read_193 5 rfl rfl hnn (by decide) rfl ?_
                      refine g_goto hF 32 d_X3_read_196 (by decide) ?_
                      exact g_sub (L' := [(0, .ref (r 3)), (1, .int (x1 + (-1)))]) [5, 0] rfl (ih32 _ (N32 ▸ dnm_lt c1_33 (by decide)) σ14 (x1 + (-1)) rfl iσ14 kp hgp14 (fun h9 => h9))
                    · -- not taken at 174
                      refine g_aload_n hF d_X3_read_177 rfl 4 rfl ?_
                      refine g_iconst hF (v := 1) d_X3_read_178 (by decide) ?_
                      refine g_callV (As := [.int 1]) (rest := []) hF ((RS_all a g r 26 σ14 1 (by decide) (by decide) iσ14 hgp14).2) (Nat.le_of_ble_eq_true rfl) mV_X3_statements m_1004 (recv_ob obC_3) rfl rfl (Nat.le_of_ble_eq_true rfl) d_X3_read_179 (k_v (fun σ16 ⟨⟨hgp16, hgm16⟩, iσ16, ik16⟩ => ?_)) (fun _ _ _ h => h.elim)
                      have hmo16 : Mo σ16 σ14 := fun h9 => mo_e (show σ14 3 3 = σ14 3 3 from rfl) (hgm16 h9)
                      have kp : Keep [(3, 1), (3, 2), (3, 3), (3, 4), (3, 9)] [18, 19, 20, 21, 22, 23] σ0 σ16 := keep_c kp ik16 (by decide) (by decide)
                      refine g_aload_n hF d_X3_read_182 rfl 4 rfl ?_
                      refine g_bipush hF (v := 49) d_X3_read_183 (by decide) ?_
                      refine g_iload hF d_X3_read_185 0 rfl ?_
                      refine g_iconst hF (v := 0) d_X3_read_187 (by decide) ?_
                      refine g_iconst hF (v := 0) d_X3_read_188 (by decide) ?_
                      refine g_callV (As := [.int 49, .int (σ11 3 1), .int 0, .int 0]) (rest := []) hF (c_X3_add a g r σ16 (49 : Int32) (σ11 3 1) (0 : Int32) (0 : Int32) (fun h9 => absurd h9 (by decide)) hgp16 iσ16) (Nat.le_of_ble_eq_true rfl) mV_X3_add m_923 (recv_ob obC_3) rfl rfl (Nat.le_of_ble_eq_true rfl) d_X3_read_189 (k_i (fun r17 σ17 ⟨⟨hgp17, hgm17⟩, iσ17, ik17⟩ => ?_)) (fun _ _ _ h => h.elim)
                      have hmo17 : Mo σ17 σ16 := fun h9 => mo_e (show σ16 3 3 = σ16 3 3 from rfl) (hgm17 h9)
                      have kp : Keep [(3, 1), (3, 2), (3, 3), (3, 4), (3, 9)] [18, 19, 20, 21, 22, 23] σ0 σ17 := keep_c kp ik17 (by decide) (by decide)
                      refine g_pop hF d_X3_read_192 rfl ?_
                      refine g_iinc hF (x1 + (-1)) [(1, .int (x1 + (-1))), (5, .int (σ11 3 1)), (4, .int r11), (3, .int 0), (2, .int 0), (0, .ref (r 3))] d_X3_read_193 5 rfl rfl hnn (by decide) rfl ?_
                      refine g_goto hF 32 d_X3_read_196 (by decide) ?_
                      exact g_sub (L' := [(0, .ref (r 3)), (1, .int (x1 + (-1)))]) [5, 0] rfl (ih32 _ (N32 ▸ dnm_lt c1_33 (by decide)) σ17 (x1 + (-1)) rfl iσ17 kp hgp17 (fun h9 => h9))
                  · -- not taken at 150
                    refine g_aload_n hF d_X3_read_153 rfl 4 rfl ?_
                    refine g_iload hF d_X3_read_154 0 rfl ?_
                    refine g_iload hF d_X3_read_156 1 rfl ?_
                    refine g_iload_n hF d_X3_read_158 rfl 3 rfl ?_
                    refine g_callV (As := [.int (σ11 3 1), .int r11, .int 0]) (rest := []) hF (c_X3_variables a g r σ12 (σ11 3 1) r11 (0 : Int32) (fun h9 => (nm_keep (fun z => kp 14 z rfl rfl rfl) (hnn12 (mo_e (show σ12 3 3 = σ12 3 3 from rfl) h9)))) hgp12 iσ12) (Nat.le_of_ble_eq_true rfl) mV_X3_variables m_915 (recv_ob obC_3) rfl rfl (Nat.le_of_ble_eq_true rfl) d_X3_read_159 (k_v (fun σ18 ⟨⟨hgp18, hgm18⟩, iσ18, ik18⟩ => ?_)) (fun _ _ _ h => h.elim)
                    have hmo18 : Mo σ18 σ12 := fun h9 => mo_e (show σ12 3 3 = σ12 3 3 from rfl) (hgm18 h9)
                    have kp : Keep [(3, 1), (3, 2), (3, 3), (3, 4), (3, 9)] [18, 19, 20, 21, 22, 23] σ0 σ18 := keep_c kp ik18 (by decide) (by decide)
                    refine g_goto hF 193 d_X3_read_162 (by decide) ?_
                    refine g_iinc hF (x1 + (-1)) [(1, .int (x1 + (-1))), (5, .int (σ11 3 1)), (4, .int r11), (3, .int 0), (2, .int 0), (0, .ref (r 3))] d_X3_read_193 5 rfl rfl hnn (by decide) rfl ?_
                    refine g_goto hF 32 d_X3_read_196 (by decide) ?_
                    exact g_sub (L' := [(0, .ref (r 3)), (1, .int (x1 + (-1)))]) [5, 0] rfl (ih32 _ (N32 ▸ dnm_lt c1_33 (by decide)) σ18 (x1 + (-1)) rfl iσ18 kp hgp18 (fun h9 => h9))
                · -- not taken at 92
                  refine g_iconst hF (v := 1) d_X3_read_95 (by decide) ?_
                  refine g_goto hF 100 d_X3_read_96 (by decide) ?_
                  refine g_istore_n hF [(3, .int 1), (2, .int 0), (0, .ref (r 3)), (1, .int x1)] d_X3_read_100 rfl hnn (by decide) rfl ?_
                  refine g_aload_n hF d_X3_read_101 rfl 2 rfl ?_
                  refine g_iload_n hF d_X3_read_102 rfl 0 rfl ?_
                  refine g_if_eq (xv := 1) hF 111 d_X3_read_103 (by decide) (by decide) (fun c_103 => absurd c_103 (by decide)) (fun _ => ?_)
                  refine g_bipush hF (v := 6) d_X3_read_106 (by decide) ?_
                  refine g_goto hF 112 d_X3_read_108 (by decide) ?_
                  refine g_callV (As := [.int 6]) (rest := []) hF (c_X3_expect a g r σ (6 : Int32) hgp (by show ¬ (6 = 0 ∨ 6 = -1); have e0 : (6 : Int32).toInt = 6 := (by decide); have e1 := s_rng (σ 3 2); have e2 : (0 : Int32).toInt = 0 := (by decide); have e3 : (7 : Int32).toInt = 7 := (by decide); have e4 : (8 : Int32).toInt = 8 := (by decide); have e5 := s_rng x1; have e6 := s_rng (σ 3 3); omega) inv) (Nat.le_of_ble_eq_true rfl) mV_X3_expect m_903 (recv_ob obC_3) rfl rfl (Nat.le_of_ble_eq_true rfl) d_X3_read_112 (k_v (fun σ19 ⟨⟨hgp19, hgm19⟩, hs19, iσ19, ik19⟩ => ?_)) (fun _ _ _ h => h.elim)
                  have hs19 : (σ19 3 3).toInt < 0 → (σ 3 2).toInt = 6 := hs19
                  have hmo19 : Mo σ19 σ := fun h9 => mo_e (show σ 3 3 = σ 3 3 from rfl) (hgm19 h9)
                  have kp : Keep [(3, 1), (3, 2), (3, 3), (3, 4), (3, 9)] [18, 19, 20, 21, 22, 23] σ0 σ19 := keep_c kp ik19 (by decide) (by decide)
                  refine g_iload_n hF d_X3_read_115 rfl 0 rfl ?_
                  refine g_if_eq (xv := 1) hF 123 d_X3_read_116 (by decide) (by decide) (fun c_116 => absurd c_116 (by decide)) (fun _ => ?_)
                  refine g_iconst hF (v := (-1)) d_X3_read_119 (by decide) ?_
                  refine g_goto hF 127 d_X3_read_120 (by decide) ?_
                  refine g_istore hF [(4, .int (-1)), (3, .int 1), (2, .int 0), (0, .ref (r 3)), (1, .int x1)] d_X3_read_127 hnn (by decide) rfl ?_
                  refine g_aload_n hF d_X3_read_129 rfl 3 rfl ?_
                  refine g_get (v := .int (σ19 3 1)) hF 1 obC_3 (by decide) m_95 rfl d_X3_read_130 ?_
                  refine g_istore hF [(5, .int (σ19 3 1)), (4, .int (-1)), (3, .int 1), (2, .int 0), (0, .ref (r 3)), (1, .int x1)] d_X3_read_133 hnn (by decide) rfl ?_
                  refine g_aload_n hF d_X3_read_135 rfl 4 rfl ?_
                  refine g_iconst hF (v := 2) d_X3_read_136 (by decide) ?_
                  have hkk20 : ∀ z, σ19 14 z = σ0 14 z := fun z => kp 14 z rfl rfl rfl
                  refine g_callV (As := [.int 2]) (rest := []) hF (c_X3_expect a g r σ19 (2 : Int32) hgp19 (by show ¬ (2 = 0 ∨ 2 = -1); have e0 : (2 : Int32).toInt = 2 := (by decide); omega) iσ19) (Nat.le_of_ble_eq_true rfl) mV_X3_expect m_903 (recv_ob obC_3) rfl rfl (Nat.le_of_ble_eq_true rfl) d_X3_read_137 (k_v (fun σ20 ⟨⟨hgp20, hgm20⟩, hs20, iσ20, ik20⟩ => ?_)) (fun _ _ _ h => h.elim)
                  have hs20 : (σ20 3 3).toInt < 0 → (σ19 3 2).toInt = 2 := hs20
                  have hmo20 : Mo σ20 σ19 := fun h9 => mo_e (show σ19 3 3 = σ19 3 3 from rfl) (hgm20 h9)
                  have hnn20 : (σ20 3 3).toInt < 0 → NM σ0 (σ19 3 1) := fun h9 => nm_back hkk20 (hgp19.2.1.2 (hs20 h9))
                  have kp : Keep [(3, 1), (3, 2), (3, 3), (3, 4), (3, 9)] [18, 19, 20, 21, 22, 23] σ0 σ20 := keep_c kp ik20 (by decide) (by decide)
                  refine g_iload_n hF d_X3_read_140 rfl 2 rfl ?_
                  refine g_if_ne (xv := 1) hF 165 d_X3_read_141 (by decide) (by decide) (fun _ => ?_) (fun c_141 => absurd c_141 (by decide))
                  refine g_aload_n hF d_X3_read_165 rfl 4 rfl ?_
                  refine g_iload hF d_X3_read_166 0 rfl ?_
                  refine g_iload hF d_X3_read_168 1 rfl ?_
                  refine g_iload_n hF d_X3_read_170 rfl 3 rfl ?_
                  refine g_callV (As := [.int (σ19 3 1), .int (-1), .int 0]) (rest := []) hF (c_X3_head a g r σ20 (σ19 3 1) ((-1) : Int32) (0 : Int32) (fun h9 => (nm_keep (fun z => kp 14 z rfl rfl rfl) (hnn20 (mo_e (show σ20 3 3 = σ20 3 3 from rfl) h9)))) hgp20 iσ20) (Nat.le_of_ble_eq_true rfl) mV_X3_head m_986 (recv_ob obC_3) rfl rfl (Nat.le_of_ble_eq_true rfl) d_X3_read_171 (k_i (fun r21 σ21 ⟨hz21, ⟨hgp21, hgm21⟩, iσ21, ik21⟩ => ?_)) (fun _ _ _ h => h.elim)
                  have hmo21 : Mo σ21 σ20 := fun h9 => mo_e (show σ20 3 3 = σ20 3 3 from rfl) (hgm21 h9)
                  have kp : Keep [(3, 1), (3, 2), (3, 3), (3, 4), (3, 9)] [18, 19, 20, 21, 22, 23] σ0 σ21 := keep_c kp ik21 (by decide) (by decide)
                  refine g_if_eq hF 193 d_X3_read_174 (by decide) rfl (fun c22_174 => ?_) (fun c22_174 => ?_)
                  · -- taken at 174
                    refine g_iinc hF (x1 + (-1)) [(1, .int (x1 + (-1))), (5, .int (σ19 3 1)), (4, .int (-1)), (3, .int 1), (2, .int 0), (0, .ref (r 3))] d_X3_read_193 5 rfl rfl hnn (by decide) rfl ?_
                    refine g_goto hF 32 d_X3_read_196 (by decide) ?_
                    exact g_sub (L' := [(0, .ref (r 3)), (1, .int (x1 + (-1)))]) [5, 0] rfl (ih32 _ (N32 ▸ dnm_lt c1_33 (by decide)) σ21 (x1 + (-1)) rfl iσ21 kp hgp21 (fun h9 => h9))
                  · -- not taken at 174
                    refine g_aload_n hF d_X3_read_177 rfl 4 rfl ?_
                    refine g_iconst hF (v := 1) d_X3_read_178 (by decide) ?_
                    refine g_callV (As := [.int 1]) (rest := []) hF ((RS_all a g r 26 σ21 1 (by decide) (by decide) iσ21 hgp21).2) (Nat.le_of_ble_eq_true rfl) mV_X3_statements m_1004 (recv_ob obC_3) rfl rfl (Nat.le_of_ble_eq_true rfl) d_X3_read_179 (k_v (fun σ23 ⟨⟨hgp23, hgm23⟩, iσ23, ik23⟩ => ?_)) (fun _ _ _ h => h.elim)
                    have hmo23 : Mo σ23 σ21 := fun h9 => mo_e (show σ21 3 3 = σ21 3 3 from rfl) (hgm23 h9)
                    have kp : Keep [(3, 1), (3, 2), (3, 3), (3, 4), (3, 9)] [18, 19, 20, 21, 22, 23] σ0 σ23 := keep_c kp ik23 (by decide) (by decide)
                    refine g_aload_n hF d_X3_read_182 rfl 4 rfl ?_
                    refine g_bipush hF (v := 49) d_X3_read_183 (by decide) ?_
                    refine g_iload hF d_X3_read_185 0 rfl ?_
                    refine g_iconst hF (v := 0) d_X3_read_187 (by decide) ?_
                    refine g_iconst hF (v := 0) d_X3_read_188 (by decide) ?_
                    refine g_callV (As := [.int 49, .int (σ19 3 1), .int 0, .int 0]) (rest := []) hF (c_X3_add a g r σ23 (49 : Int32) (σ19 3 1) (0 : Int32) (0 : Int32) (fun h9 => absurd h9 (by decide)) hgp23 iσ23) (Nat.le_of_ble_eq_true rfl) mV_X3_add m_923 (recv_ob obC_3) rfl rfl (Nat.le_of_ble_eq_true rfl) d_X3_read_189 (k_i (fun r24 σ24 ⟨⟨hgp24, hgm24⟩, iσ24, ik24⟩ => ?_)) (fun _ _ _ h => h.elim)
                    have hmo24 : Mo σ24 σ23 := fun h9 => mo_e (show σ23 3 3 = σ23 3 3 from rfl) (hgm24 h9)
                    have kp : Keep [(3, 1), (3, 2), (3, 3), (3, 4), (3, 9)] [18, 19, 20, 21, 22, 23] σ0 σ24 := keep_c kp ik24 (by decide) (by decide)
                    refine g_pop hF d_X3_read_192 rfl ?_
                    refine g_iinc hF (x1 + (-1)) [(1, .int (x1 + (-1))), (5, .int (σ19 3 1)), (4, .int (-1)), (3, .int 1), (2, .int 0), (0, .ref (r 3))] d_X3_read_193 5 rfl rfl hnn (by decide) rfl ?_
                    refine g_goto hF 32 d_X3_read_196 (by decide) ?_
                    exact g_sub (L' := [(0, .ref (r 3)), (1, .int (x1 + (-1)))]) [5, 0] rfl (ih32 _ (N32 ▸ dnm_lt c1_33 (by decide)) σ24 (x1 + (-1)) rfl iσ24 kp hgp24 (fun h9 => h9))
              · -- not taken at 69
                refine g_iconst hF (v := 2) d_X3_read_72 (by decide) ?_
                refine g_goto hF 77 d_X3_read_73 (by decide) ?_
                refine g_istore_n hF [(2, .int 2), (0, .ref (r 3)), (1, .int x1)] d_X3_read_77 rfl hnn (by decide) rfl ?_
                refine g_iload_n hF d_X3_read_78 rfl 0 rfl ?_
                refine g_if_eq (xv := 2) hF 86 d_X3_read_79 (by decide) (by decide) (fun c_79 => absurd c_79 (by decide)) (fun _ => ?_)
                refine g_aload_n hF d_X3_read_82 rfl 1 rfl ?_
                refine g_callV (As := []) (rest := []) hF (c_X3_advance a g r σ hgp.2.2 (by show -1 ≤ (σ 3 1).toInt ∧ (σ 3 1).toInt ≤ 16001; have hki := hgp.2.1.1; have hgz := hgp.1; have e0 := s_rng (σ 3 1); have e1 := s_rng (σ0 3 1); omega) inv) (Nat.le_of_ble_eq_true rfl) mV_X3_advance m_899 (recv_ob obC_3) rfl rfl (Nat.le_of_ble_eq_true rfl) d_X3_read_83 (k_v (fun σ25 ⟨⟨hgp25, hgm25⟩, hs25, iσ25, ik25⟩ => ?_)) (fun _ _ _ h => h.elim)
                have hs25 : (σ25 3 1).toInt = (σ 3 1).toInt + 1 := hs25
                have hmo25 : Mo σ25 σ := fun h9 => mo_e (show σ 3 3 = σ 3 3 from rfl) (hgm25 h9)
                have kp : Keep [(3, 1), (3, 2), (3, 3), (3, 4), (3, 9)] [18, 19, 20, 21, 22, 23] σ0 σ25 := keep_c kp ik25 (by decide) (by decide)
                refine g_aload_n hF d_X3_read_86 rfl 1 rfl ?_
                refine g_get (v := .int (σ25 3 2)) hF 2 obC_3 (by decide) m_96 rfl d_X3_read_87 ?_
                refine g_bipush hF (v := 6) d_X3_read_90 (by decide) ?_
                refine g_icmp_ne (yv := 6) hF 99 d_X3_read_92 (by decide) rfl (by decide) (fun c26_92 => ?_) (fun c26_92 => ?_)
                · -- taken at 92
                  refine g_iconst hF (v := 0) d_X3_read_99 (by decide) ?_
                  refine g_istore_n hF [(3, .int 0), (2, .int 2), (0, .ref (r 3)), (1, .int x1)] d_X3_read_100 rfl hnn (by decide) rfl ?_
                  refine g_aload_n hF d_X3_read_101 rfl 2 rfl ?_
                  refine g_iload_n hF d_X3_read_102 rfl 0 rfl ?_
                  refine g_if_eq (xv := 0) hF 111 d_X3_read_103 (by decide) (by decide) (fun _ => ?_) (fun c_103 => absurd c_103 (by decide))
                  refine g_iconst hF (v := 5) d_X3_read_111 (by decide) ?_
                  refine g_callV (As := [.int 5]) (rest := []) hF (c_X3_expect a g r σ25 (5 : Int32) hgp25 (by show ¬ (5 = 0 ∨ 5 = -1); have e0 : (5 : Int32).toInt = 5 := (by decide); omega) iσ25) (Nat.le_of_ble_eq_true rfl) mV_X3_expect m_903 (recv_ob obC_3) rfl rfl (Nat.le_of_ble_eq_true rfl) d_X3_read_112 (k_v (fun σ27 ⟨⟨hgp27, hgm27⟩, hs27, iσ27, ik27⟩ => ?_)) (fun _ _ _ h => h.elim)
                  have hs27 : (σ27 3 3).toInt < 0 → (σ25 3 2).toInt = 5 := hs27
                  have hmo27 : Mo σ27 σ := fun h9 => mo_e (show σ25 3 3 = σ 3 3 from (ik25 3 3 rfl rfl rfl)) (hgm27 h9)
                  have kp : Keep [(3, 1), (3, 2), (3, 3), (3, 4), (3, 9)] [18, 19, 20, 21, 22, 23] σ0 σ27 := keep_c kp ik27 (by decide) (by decide)
                  refine g_iload_n hF d_X3_read_115 rfl 0 rfl ?_
                  refine g_if_eq (xv := 0) hF 123 d_X3_read_116 (by decide) (by decide) (fun _ => ?_) (fun c_116 => absurd c_116 (by decide))
                  refine g_aload_n hF d_X3_read_123 rfl 2 rfl ?_
                  refine g_callV (As := []) (rest := []) hF (c_X3_stars a g r σ27 hgp27 iσ27) (Nat.le_of_ble_eq_true rfl) mV_X3_stars m_911 (recv_ob obC_3) rfl rfl (Nat.le_of_ble_eq_true rfl) d_X3_read_124 (k_i (fun r28 σ28 ⟨⟨hgp28, hgm28⟩, iσ28, ik28⟩ => ?_)) (fun _ _ _ h => h.elim)
                  have hmo28 : Mo σ28 σ27 := fun h9 => mo_e (show σ27 3 3 = σ27 3 3 from rfl) (hgm28 h9)
                  have kp : Keep [(3, 1), (3, 2), (3, 3), (3, 4), (3, 9)] [18, 19, 20, 21, 22, 23] σ0 σ28 := keep_c kp ik28 (by decide) (by decide)
                  refine g_istore hF [(4, .int r28), (3, .int 0), (2, .int 2), (0, .ref (r 3)), (1, .int x1)] d_X3_read_127 hnn (by decide) rfl ?_
                  refine g_aload_n hF d_X3_read_129 rfl 3 rfl ?_
                  refine g_get (v := .int (σ28 3 1)) hF 1 obC_3 (by decide) m_95 rfl d_X3_read_130 ?_
                  refine g_istore hF [(5, .int (σ28 3 1)), (4, .int r28), (3, .int 0), (2, .int 2), (0, .ref (r 3)), (1, .int x1)] d_X3_read_133 hnn (by decide) rfl ?_
                  refine g_aload_n hF d_X3_read_135 rfl 4 rfl ?_
                  refine g_iconst hF (v := 2) d_X3_read_136 (by decide) ?_
                  have hkk29 : ∀ z, σ28 14 z = σ0 14 z := fun z => kp 14 z rfl rfl rfl
                  refine g_callV (As := [.int 2]) (rest := []) hF (c_X3_expect a g r σ28 (2 : Int32) hgp28 (by show ¬ (2 = 0 ∨ 2 = -1); have e0 : (2 : Int32).toInt = 2 := (by decide); omega) iσ28) (Nat.le_of_ble_eq_true rfl) mV_X3_expect m_903 (recv_ob obC_3) rfl rfl (Nat.le_of_ble_eq_true rfl) d_X3_read_137 (k_v (fun σ29 ⟨⟨hgp29, hgm29⟩, hs29, iσ29, ik29⟩ => ?_)) (fun _ _ _ h => h.elim)
                  have hs29 : (σ29 3 3).toInt < 0 → (σ28 3 2).toInt = 2 := hs29
                  have hmo29 : Mo σ29 σ28 := fun h9 => mo_e (show σ28 3 3 = σ28 3 3 from rfl) (hgm29 h9)
                  have hnn29 : (σ29 3 3).toInt < 0 → NM σ0 (σ28 3 1) := fun h9 => nm_back hkk29 (hgp28.2.1.2 (hs29 h9))
                  have kp : Keep [(3, 1), (3, 2), (3, 3), (3, 4), (3, 9)] [18, 19, 20, 21, 22, 23] σ0 σ29 := keep_c kp ik29 (by decide) (by decide)
                  refine g_iload_n hF d_X3_read_140 rfl 2 rfl ?_
                  refine g_if_ne (xv := 0) hF 165 d_X3_read_141 (by decide) (by decide) (fun c_141 => absurd c_141 (by decide)) (fun _ => ?_)
                  refine g_aload_n hF d_X3_read_144 rfl 4 rfl ?_
                  refine g_get (v := .int (σ29 3 2)) hF 2 obC_3 (by decide) m_96 rfl d_X3_read_145 ?_
                  refine g_bipush hF (v := 20) d_X3_read_148 (by decide) ?_
                  refine g_icmp_eq (yv := 20) hF 165 d_X3_read_150 (by decide) rfl (by decide) (fun c30_150 => ?_) (fun c30_150 => ?_)
                  · -- taken at 150
                    refine g_aload_n hF d_X3_read_165 rfl 4 rfl ?_
                    refine g_iload hF d_X3_read_166 0 rfl ?_
                    refine g_iload hF d_X3_read_168 1 rfl ?_
                    refine g_iload_n hF d_X3_read_170 rfl 3 rfl ?_
                    refine g_callV (As := [.int (σ28 3 1), .int r28, .int 2]) (rest := []) hF (c_X3_head a g r σ29 (σ28 3 1) r28 (2 : Int32) (fun h9 => (nm_keep (fun z => kp 14 z rfl rfl rfl) (hnn29 (mo_e (show σ29 3 3 = σ29 3 3 from rfl) h9)))) hgp29 iσ29) (Nat.le_of_ble_eq_true rfl) mV_X3_head m_986 (recv_ob obC_3) rfl rfl (Nat.le_of_ble_eq_true rfl) d_X3_read_171 (k_i (fun r31 σ31 ⟨hz31, ⟨hgp31, hgm31⟩, iσ31, ik31⟩ => ?_)) (fun _ _ _ h => h.elim)
                    have hmo31 : Mo σ31 σ29 := fun h9 => mo_e (show σ29 3 3 = σ29 3 3 from rfl) (hgm31 h9)
                    have kp : Keep [(3, 1), (3, 2), (3, 3), (3, 4), (3, 9)] [18, 19, 20, 21, 22, 23] σ0 σ31 := keep_c kp ik31 (by decide) (by decide)
                    refine g_if_eq hF 193 d_X3_read_174 (by decide) rfl (fun c32_174 => ?_) (fun c32_174 => ?_)
                    · -- taken at 174
                      refine g_iinc hF (x1 + (-1)) [(1, .int (x1 + (-1))), (5, .int (σ28 3 1)), (4, .int r28), (3, .int 0), (2, .int 2), (0, .ref (r 3))] d_X3_read_193 5 rfl rfl hnn (by decide) rfl ?_
                      refine g_goto hF 32 d_X3_read_196 (by decide) ?_
                      exact g_sub (L' := [(0, .ref (r 3)), (1, .int (x1 + (-1)))]) [5, 0] rfl (ih32 _ (N32 ▸ dnm_lt c1_33 (by decide)) σ31 (x1 + (-1)) rfl iσ31 kp hgp31 (fun h9 => h9))
                    · -- not taken at 174
                      refine g_aload_n hF d_X3_read_177 rfl 4 rfl ?_
                      refine g_iconst hF (v := 1) d_X3_read_178 (by decide) ?_
                      refine g_callV (As := [.int 1]) (rest := []) hF ((RS_all a g r 26 σ31 1 (by decide) (by decide) iσ31 hgp31).2) (Nat.le_of_ble_eq_true rfl) mV_X3_statements m_1004 (recv_ob obC_3) rfl rfl (Nat.le_of_ble_eq_true rfl) d_X3_read_179 (k_v (fun σ33 ⟨⟨hgp33, hgm33⟩, iσ33, ik33⟩ => ?_)) (fun _ _ _ h => h.elim)
                      have hmo33 : Mo σ33 σ31 := fun h9 => mo_e (show σ31 3 3 = σ31 3 3 from rfl) (hgm33 h9)
                      have kp : Keep [(3, 1), (3, 2), (3, 3), (3, 4), (3, 9)] [18, 19, 20, 21, 22, 23] σ0 σ33 := keep_c kp ik33 (by decide) (by decide)
                      refine g_aload_n hF d_X3_read_182 rfl 4 rfl ?_
                      refine g_bipush hF (v := 49) d_X3_read_183 (by decide) ?_
                      refine g_iload hF d_X3_read_185 0 rfl ?_
                      refine g_iconst hF (v := 0) d_X3_read_187 (by decide) ?_
                      refine g_iconst hF (v := 0) d_X3_read_188 (by decide) ?_
                      refine g_callV (As := [.int 49, .int (σ28 3 1), .int 0, .int 0]) (rest := []) hF (c_X3_add a g r σ33 (49 : Int32) (σ28 3 1) (0 : Int32) (0 : Int32) (fun h9 => absurd h9 (by decide)) hgp33 iσ33) (Nat.le_of_ble_eq_true rfl) mV_X3_add m_923 (recv_ob obC_3) rfl rfl (Nat.le_of_ble_eq_true rfl) d_X3_read_189 (k_i (fun r34 σ34 ⟨⟨hgp34, hgm34⟩, iσ34, ik34⟩ => ?_)) (fun _ _ _ h => h.elim)
                      have hmo34 : Mo σ34 σ33 := fun h9 => mo_e (show σ33 3 3 = σ33 3 3 from rfl) (hgm34 h9)
                      have kp : Keep [(3, 1), (3, 2), (3, 3), (3, 4), (3, 9)] [18, 19, 20, 21, 22, 23] σ0 σ34 := keep_c kp ik34 (by decide) (by decide)
                      refine g_pop hF d_X3_read_192 rfl ?_
                      refine g_iinc hF (x1 + (-1)) [(1, .int (x1 + (-1))), (5, .int (σ28 3 1)), (4, .int r28), (3, .int 0), (2, .int 2), (0, .ref (r 3))] d_X3_read_193 5 rfl rfl hnn (by decide) rfl ?_
                      refine g_goto hF 32 d_X3_read_196 (by decide) ?_
                      exact g_sub (L' := [(0, .ref (r 3)), (1, .int (x1 + (-1)))]) [5, 0] rfl (ih32 _ (N32 ▸ dnm_lt c1_33 (by decide)) σ34 (x1 + (-1)) rfl iσ34 kp hgp34 (fun h9 => h9))
                  · -- not taken at 150
                    refine g_aload_n hF d_X3_read_153 rfl 4 rfl ?_
                    refine g_iload hF d_X3_read_154 0 rfl ?_
                    refine g_iload hF d_X3_read_156 1 rfl ?_
                    refine g_iload_n hF d_X3_read_158 rfl 3 rfl ?_
                    refine g_callV (As := [.int (σ28 3 1), .int r28, .int 2]) (rest := []) hF (c_X3_variables a g r σ29 (σ28 3 1) r28 (2 : Int32) (fun h9 => (nm_keep (fun z => kp 14 z rfl rfl rfl) (hnn29 (mo_e (show σ29 3 3 = σ29 3 3 from rfl) h9)))) hgp29 iσ29) (Nat.le_of_ble_eq_true rfl) mV_X3_variables m_915 (recv_ob obC_3) rfl rfl (Nat.le_of_ble_eq_true rfl) d_X3_read_159 (k_v (fun σ35 ⟨⟨hgp35, hgm35⟩, iσ35, ik35⟩ => ?_)) (fun _ _ _ h => h.elim)
                    have hmo35 : Mo σ35 σ29 := fun h9 => mo_e (show σ29 3 3 = σ29 3 3 from rfl) (hgm35 h9)
                    have kp : Keep [(3, 1), (3, 2), (3, 3), (3, 4), (3, 9)] [18, 19, 20, 21, 22, 23] σ0 σ35 := keep_c kp ik35 (by decide) (by decide)
                    refine g_goto hF 193 d_X3_read_162 (by decide) ?_
                    refine g_iinc hF (x1 + (-1)) [(1, .int (x1 + (-1))), (5, .int (σ28 3 1)), (4, .int r28), (3, .int 0), (2, .int 2), (0, .ref (r 3))] d_X3_read_193 5 rfl rfl hnn (by decide) rfl ?_
                    refine g_goto hF 32 d_X3_read_196 (by decide) ?_
                    exact g_sub (L' := [(0, .ref (r 3)), (1, .int (x1 + (-1)))]) [5, 0] rfl (ih32 _ (N32 ▸ dnm_lt c1_33 (by decide)) σ35 (x1 + (-1)) rfl iσ35 kp hgp35 (fun h9 => h9))
                · -- not taken at 92
                  refine g_iconst hF (v := 1) d_X3_read_95 (by decide) ?_
                  refine g_goto hF 100 d_X3_read_96 (by decide) ?_
                  refine g_istore_n hF [(3, .int 1), (2, .int 2), (0, .ref (r 3)), (1, .int x1)] d_X3_read_100 rfl hnn (by decide) rfl ?_
                  refine g_aload_n hF d_X3_read_101 rfl 2 rfl ?_
                  refine g_iload_n hF d_X3_read_102 rfl 0 rfl ?_
                  refine g_if_eq (xv := 1) hF 111 d_X3_read_103 (by decide) (by decide) (fun c_103 => absurd c_103 (by decide)) (fun _ => ?_)
                  refine g_bipush hF (v := 6) d_X3_read_106 (by decide) ?_
                  refine g_goto hF 112 d_X3_read_108 (by decide) ?_
                  refine g_callV (As := [.int 6]) (rest := []) hF (c_X3_expect a g r σ25 (6 : Int32) hgp25 (by show ¬ (6 = 0 ∨ 6 = -1); have e0 : (6 : Int32).toInt = 6 := (by decide); have e1 := s_rng (σ25 3 2); omega) iσ25) (Nat.le_of_ble_eq_true rfl) mV_X3_expect m_903 (recv_ob obC_3) rfl rfl (Nat.le_of_ble_eq_true rfl) d_X3_read_112 (k_v (fun σ36 ⟨⟨hgp36, hgm36⟩, hs36, iσ36, ik36⟩ => ?_)) (fun _ _ _ h => h.elim)
                  have hs36 : (σ36 3 3).toInt < 0 → (σ25 3 2).toInt = 6 := hs36
                  have hmo36 : Mo σ36 σ := fun h9 => mo_e (show σ25 3 3 = σ 3 3 from (ik25 3 3 rfl rfl rfl)) (hgm36 h9)
                  have kp : Keep [(3, 1), (3, 2), (3, 3), (3, 4), (3, 9)] [18, 19, 20, 21, 22, 23] σ0 σ36 := keep_c kp ik36 (by decide) (by decide)
                  refine g_iload_n hF d_X3_read_115 rfl 0 rfl ?_
                  refine g_if_eq (xv := 1) hF 123 d_X3_read_116 (by decide) (by decide) (fun c_116 => absurd c_116 (by decide)) (fun _ => ?_)
                  refine g_iconst hF (v := (-1)) d_X3_read_119 (by decide) ?_
                  refine g_goto hF 127 d_X3_read_120 (by decide) ?_
                  refine g_istore hF [(4, .int (-1)), (3, .int 1), (2, .int 2), (0, .ref (r 3)), (1, .int x1)] d_X3_read_127 hnn (by decide) rfl ?_
                  refine g_aload_n hF d_X3_read_129 rfl 3 rfl ?_
                  refine g_get (v := .int (σ36 3 1)) hF 1 obC_3 (by decide) m_95 rfl d_X3_read_130 ?_
                  refine g_istore hF [(5, .int (σ36 3 1)), (4, .int (-1)), (3, .int 1), (2, .int 2), (0, .ref (r 3)), (1, .int x1)] d_X3_read_133 hnn (by decide) rfl ?_
                  refine g_aload_n hF d_X3_read_135 rfl 4 rfl ?_
                  refine g_iconst hF (v := 2) d_X3_read_136 (by decide) ?_
                  have hkk37 : ∀ z, σ36 14 z = σ0 14 z := fun z => kp 14 z rfl rfl rfl
                  refine g_callV (As := [.int 2]) (rest := []) hF (c_X3_expect a g r σ36 (2 : Int32) hgp36 (by show ¬ (2 = 0 ∨ 2 = -1); have e0 : (2 : Int32).toInt = 2 := (by decide); omega) iσ36) (Nat.le_of_ble_eq_true rfl) mV_X3_expect m_903 (recv_ob obC_3) rfl rfl (Nat.le_of_ble_eq_true rfl) d_X3_read_137 (k_v (fun σ37 ⟨⟨hgp37, hgm37⟩, hs37, iσ37, ik37⟩ => ?_)) (fun _ _ _ h => h.elim)
                  have hs37 : (σ37 3 3).toInt < 0 → (σ36 3 2).toInt = 2 := hs37
                  have hmo37 : Mo σ37 σ36 := fun h9 => mo_e (show σ36 3 3 = σ36 3 3 from rfl) (hgm37 h9)
                  have hnn37 : (σ37 3 3).toInt < 0 → NM σ0 (σ36 3 1) := fun h9 => nm_back hkk37 (hgp36.2.1.2 (hs37 h9))
                  have kp : Keep [(3, 1), (3, 2), (3, 3), (3, 4), (3, 9)] [18, 19, 20, 21, 22, 23] σ0 σ37 := keep_c kp ik37 (by decide) (by decide)
                  refine g_iload_n hF d_X3_read_140 rfl 2 rfl ?_
                  refine g_if_ne (xv := 1) hF 165 d_X3_read_141 (by decide) (by decide) (fun _ => ?_) (fun c_141 => absurd c_141 (by decide))
                  refine g_aload_n hF d_X3_read_165 rfl 4 rfl ?_
                  refine g_iload hF d_X3_read_166 0 rfl ?_
                  refine g_iload hF d_X3_read_168 1 rfl ?_
                  refine g_iload_n hF d_X3_read_170 rfl 3 rfl ?_
                  refine g_callV (As := [.int (σ36 3 1), .int (-1), .int 2]) (rest := []) hF (c_X3_head a g r σ37 (σ36 3 1) ((-1) : Int32) (2 : Int32) (fun h9 => (nm_keep (fun z => kp 14 z rfl rfl rfl) (hnn37 (mo_e (show σ37 3 3 = σ37 3 3 from rfl) h9)))) hgp37 iσ37) (Nat.le_of_ble_eq_true rfl) mV_X3_head m_986 (recv_ob obC_3) rfl rfl (Nat.le_of_ble_eq_true rfl) d_X3_read_171 (k_i (fun r38 σ38 ⟨hz38, ⟨hgp38, hgm38⟩, iσ38, ik38⟩ => ?_)) (fun _ _ _ h => h.elim)
                  have hmo38 : Mo σ38 σ37 := fun h9 => mo_e (show σ37 3 3 = σ37 3 3 from rfl) (hgm38 h9)
                  have kp : Keep [(3, 1), (3, 2), (3, 3), (3, 4), (3, 9)] [18, 19, 20, 21, 22, 23] σ0 σ38 := keep_c kp ik38 (by decide) (by decide)
                  refine g_if_eq hF 193 d_X3_read_174 (by decide) rfl (fun c39_174 => ?_) (fun c39_174 => ?_)
                  · -- taken at 174
                    refine g_iinc hF (x1 + (-1)) [(1, .int (x1 + (-1))), (5, .int (σ36 3 1)), (4, .int (-1)), (3, .int 1), (2, .int 2), (0, .ref (r 3))] d_X3_read_193 5 rfl rfl hnn (by decide) rfl ?_
                    refine g_goto hF 32 d_X3_read_196 (by decide) ?_
                    exact g_sub (L' := [(0, .ref (r 3)), (1, .int (x1 + (-1)))]) [5, 0] rfl (ih32 _ (N32 ▸ dnm_lt c1_33 (by decide)) σ38 (x1 + (-1)) rfl iσ38 kp hgp38 (fun h9 => h9))
                  · -- not taken at 174
                    refine g_aload_n hF d_X3_read_177 rfl 4 rfl ?_
                    refine g_iconst hF (v := 1) d_X3_read_178 (by decide) ?_
                    refine g_callV (As := [.int 1]) (rest := []) hF ((RS_all a g r 26 σ38 1 (by decide) (by decide) iσ38 hgp38).2) (Nat.le_of_ble_eq_true rfl) mV_X3_statements m_1004 (recv_ob obC_3) rfl rfl (Nat.le_of_ble_eq_true rfl) d_X3_read_179 (k_v (fun σ40 ⟨⟨hgp40, hgm40⟩, iσ40, ik40⟩ => ?_)) (fun _ _ _ h => h.elim)
                    have hmo40 : Mo σ40 σ38 := fun h9 => mo_e (show σ38 3 3 = σ38 3 3 from rfl) (hgm40 h9)
                    have kp : Keep [(3, 1), (3, 2), (3, 3), (3, 4), (3, 9)] [18, 19, 20, 21, 22, 23] σ0 σ40 := keep_c kp ik40 (by decide) (by decide)
                    refine g_aload_n hF d_X3_read_182 rfl 4 rfl ?_
                    refine g_bipush hF (v := 49) d_X3_read_183 (by decide) ?_
                    refine g_iload hF d_X3_read_185 0 rfl ?_
                    refine g_iconst hF (v := 0) d_X3_read_187 (by decide) ?_
                    refine g_iconst hF (v := 0) d_X3_read_188 (by decide) ?_
                    refine g_callV (As := [.int 49, .int (σ36 3 1), .int 0, .int 0]) (rest := []) hF (c_X3_add a g r σ40 (49 : Int32) (σ36 3 1) (0 : Int32) (0 : Int32) (fun h9 => absurd h9 (by decide)) hgp40 iσ40) (Nat.le_of_ble_eq_true rfl) mV_X3_add m_923 (recv_ob obC_3) rfl rfl (Nat.le_of_ble_eq_true rfl) d_X3_read_189 (k_i (fun r41 σ41 ⟨⟨hgp41, hgm41⟩, iσ41, ik41⟩ => ?_)) (fun _ _ _ h => h.elim)
                    have hmo41 : Mo σ41 σ40 := fun h9 => mo_e (show σ40 3 3 = σ40 3 3 from rfl) (hgm41 h9)
                    have kp : Keep [(3, 1), (3, 2), (3, 3), (3, 4), (3, 9)] [18, 19, 20, 21, 22, 23] σ0 σ41 := keep_c kp ik41 (by decide) (by decide)
                    refine g_pop hF d_X3_read_192 rfl ?_
                    refine g_iinc hF (x1 + (-1)) [(1, .int (x1 + (-1))), (5, .int (σ36 3 1)), (4, .int (-1)), (3, .int 1), (2, .int 2), (0, .ref (r 3))] d_X3_read_193 5 rfl rfl hnn (by decide) rfl ?_
                    refine g_goto hF 32 d_X3_read_196 (by decide) ?_
                    exact g_sub (L' := [(0, .ref (r 3)), (1, .int (x1 + (-1)))]) [5, 0] rfl (ih32 _ (N32 ▸ dnm_lt c1_33 (by decide)) σ41 (x1 + (-1)) rfl iσ41 kp hgp41 (fun h9 => h9))
            · -- not taken at 56
              refine g_iconst hF (v := 1) d_X3_read_59 (by decide) ?_
              refine g_goto hF 77 d_X3_read_60 (by decide) ?_
              refine g_istore_n hF [(2, .int 1), (0, .ref (r 3)), (1, .int x1)] d_X3_read_77 rfl hnn (by decide) rfl ?_
              refine g_iload_n hF d_X3_read_78 rfl 0 rfl ?_
              refine g_if_eq (xv := 1) hF 86 d_X3_read_79 (by decide) (by decide) (fun c_79 => absurd c_79 (by decide)) (fun _ => ?_)
              refine g_aload_n hF d_X3_read_82 rfl 1 rfl ?_
              refine g_callV (As := []) (rest := []) hF (c_X3_advance a g r σ hgp.2.2 (by show -1 ≤ (σ 3 1).toInt ∧ (σ 3 1).toInt ≤ 16001; have hki := hgp.2.1.1; have hgz := hgp.1; have e0 := s_rng (σ 3 1); have e1 := s_rng (σ0 3 1); omega) inv) (Nat.le_of_ble_eq_true rfl) mV_X3_advance m_899 (recv_ob obC_3) rfl rfl (Nat.le_of_ble_eq_true rfl) d_X3_read_83 (k_v (fun σ42 ⟨⟨hgp42, hgm42⟩, hs42, iσ42, ik42⟩ => ?_)) (fun _ _ _ h => h.elim)
              have hs42 : (σ42 3 1).toInt = (σ 3 1).toInt + 1 := hs42
              have hmo42 : Mo σ42 σ := fun h9 => mo_e (show σ 3 3 = σ 3 3 from rfl) (hgm42 h9)
              have kp : Keep [(3, 1), (3, 2), (3, 3), (3, 4), (3, 9)] [18, 19, 20, 21, 22, 23] σ0 σ42 := keep_c kp ik42 (by decide) (by decide)
              refine g_aload_n hF d_X3_read_86 rfl 1 rfl ?_
              refine g_get (v := .int (σ42 3 2)) hF 2 obC_3 (by decide) m_96 rfl d_X3_read_87 ?_
              refine g_bipush hF (v := 6) d_X3_read_90 (by decide) ?_
              refine g_icmp_ne (yv := 6) hF 99 d_X3_read_92 (by decide) rfl (by decide) (fun c43_92 => ?_) (fun c43_92 => ?_)
              · -- taken at 92
                refine g_iconst hF (v := 0) d_X3_read_99 (by decide) ?_
                refine g_istore_n hF [(3, .int 0), (2, .int 1), (0, .ref (r 3)), (1, .int x1)] d_X3_read_100 rfl hnn (by decide) rfl ?_
                refine g_aload_n hF d_X3_read_101 rfl 2 rfl ?_
                refine g_iload_n hF d_X3_read_102 rfl 0 rfl ?_
                refine g_if_eq (xv := 0) hF 111 d_X3_read_103 (by decide) (by decide) (fun _ => ?_) (fun c_103 => absurd c_103 (by decide))
                refine g_iconst hF (v := 5) d_X3_read_111 (by decide) ?_
                refine g_callV (As := [.int 5]) (rest := []) hF (c_X3_expect a g r σ42 (5 : Int32) hgp42 (by show ¬ (5 = 0 ∨ 5 = -1); have e0 : (5 : Int32).toInt = 5 := (by decide); omega) iσ42) (Nat.le_of_ble_eq_true rfl) mV_X3_expect m_903 (recv_ob obC_3) rfl rfl (Nat.le_of_ble_eq_true rfl) d_X3_read_112 (k_v (fun σ44 ⟨⟨hgp44, hgm44⟩, hs44, iσ44, ik44⟩ => ?_)) (fun _ _ _ h => h.elim)
                have hs44 : (σ44 3 3).toInt < 0 → (σ42 3 2).toInt = 5 := hs44
                have hmo44 : Mo σ44 σ := fun h9 => mo_e (show σ42 3 3 = σ 3 3 from (ik42 3 3 rfl rfl rfl)) (hgm44 h9)
                have kp : Keep [(3, 1), (3, 2), (3, 3), (3, 4), (3, 9)] [18, 19, 20, 21, 22, 23] σ0 σ44 := keep_c kp ik44 (by decide) (by decide)
                refine g_iload_n hF d_X3_read_115 rfl 0 rfl ?_
                refine g_if_eq (xv := 0) hF 123 d_X3_read_116 (by decide) (by decide) (fun _ => ?_) (fun c_116 => absurd c_116 (by decide))
                refine g_aload_n hF d_X3_read_123 rfl 2 rfl ?_
                refine g_callV (As := []) (rest := []) hF (c_X3_stars a g r σ44 hgp44 iσ44) (Nat.le_of_ble_eq_true rfl) mV_X3_stars m_911 (recv_ob obC_3) rfl rfl (Nat.le_of_ble_eq_true rfl) d_X3_read_124 (k_i (fun r45 σ45 ⟨⟨hgp45, hgm45⟩, iσ45, ik45⟩ => ?_)) (fun _ _ _ h => h.elim)
                have hmo45 : Mo σ45 σ44 := fun h9 => mo_e (show σ44 3 3 = σ44 3 3 from rfl) (hgm45 h9)
                have kp : Keep [(3, 1), (3, 2), (3, 3), (3, 4), (3, 9)] [18, 19, 20, 21, 22, 23] σ0 σ45 := keep_c kp ik45 (by decide) (by decide)
                refine g_istore hF [(4, .int r45), (3, .int 0), (2, .int 1), (0, .ref (r 3)), (1, .int x1)] d_X3_read_127 hnn (by decide) rfl ?_
                refine g_aload_n hF d_X3_read_129 rfl 3 rfl ?_
                refine g_get (v := .int (σ45 3 1)) hF 1 obC_3 (by decide) m_95 rfl d_X3_read_130 ?_
                refine g_istore hF [(5, .int (σ45 3 1)), (4, .int r45), (3, .int 0), (2, .int 1), (0, .ref (r 3)), (1, .int x1)] d_X3_read_133 hnn (by decide) rfl ?_
                refine g_aload_n hF d_X3_read_135 rfl 4 rfl ?_
                refine g_iconst hF (v := 2) d_X3_read_136 (by decide) ?_
                have hkk46 : ∀ z, σ45 14 z = σ0 14 z := fun z => kp 14 z rfl rfl rfl
                refine g_callV (As := [.int 2]) (rest := []) hF (c_X3_expect a g r σ45 (2 : Int32) hgp45 (by show ¬ (2 = 0 ∨ 2 = -1); have e0 : (2 : Int32).toInt = 2 := (by decide); omega) iσ45) (Nat.le_of_ble_eq_true rfl) mV_X3_expect m_903 (recv_ob obC_3) rfl rfl (Nat.le_of_ble_eq_true rfl) d_X3_read_137 (k_v (fun σ46 ⟨⟨hgp46, hgm46⟩, hs46, iσ46, ik46⟩ => ?_)) (fun _ _ _ h => h.elim)
                have hs46 : (σ46 3 3).toInt < 0 → (σ45 3 2).toInt = 2 := hs46
                have hmo46 : Mo σ46 σ45 := fun h9 => mo_e (show σ45 3 3 = σ45 3 3 from rfl) (hgm46 h9)
                have hnn46 : (σ46 3 3).toInt < 0 → NM σ0 (σ45 3 1) := fun h9 => nm_back hkk46 (hgp45.2.1.2 (hs46 h9))
                have kp : Keep [(3, 1), (3, 2), (3, 3), (3, 4), (3, 9)] [18, 19, 20, 21, 22, 23] σ0 σ46 := keep_c kp ik46 (by decide) (by decide)
                refine g_iload_n hF d_X3_read_140 rfl 2 rfl ?_
                refine g_if_ne (xv := 0) hF 165 d_X3_read_141 (by decide) (by decide) (fun c_141 => absurd c_141 (by decide)) (fun _ => ?_)
                refine g_aload_n hF d_X3_read_144 rfl 4 rfl ?_
                refine g_get (v := .int (σ46 3 2)) hF 2 obC_3 (by decide) m_96 rfl d_X3_read_145 ?_
                refine g_bipush hF (v := 20) d_X3_read_148 (by decide) ?_
                refine g_icmp_eq (yv := 20) hF 165 d_X3_read_150 (by decide) rfl (by decide) (fun c47_150 => ?_) (fun c47_150 => ?_)
                · -- taken at 150
                  refine g_aload_n hF d_X3_read_165 rfl 4 rfl ?_
                  refine g_iload hF d_X3_read_166 0 rfl ?_
                  refine g_iload hF d_X3_read_168 1 rfl ?_
                  refine g_iload_n hF d_X3_read_170 rfl 3 rfl ?_
                  refine g_callV (As := [.int (σ45 3 1), .int r45, .int 1]) (rest := []) hF (c_X3_head a g r σ46 (σ45 3 1) r45 (1 : Int32) (fun h9 => (nm_keep (fun z => kp 14 z rfl rfl rfl) (hnn46 (mo_e (show σ46 3 3 = σ46 3 3 from rfl) h9)))) hgp46 iσ46) (Nat.le_of_ble_eq_true rfl) mV_X3_head m_986 (recv_ob obC_3) rfl rfl (Nat.le_of_ble_eq_true rfl) d_X3_read_171 (k_i (fun r48 σ48 ⟨hz48, ⟨hgp48, hgm48⟩, iσ48, ik48⟩ => ?_)) (fun _ _ _ h => h.elim)
                  have hmo48 : Mo σ48 σ46 := fun h9 => mo_e (show σ46 3 3 = σ46 3 3 from rfl) (hgm48 h9)
                  have kp : Keep [(3, 1), (3, 2), (3, 3), (3, 4), (3, 9)] [18, 19, 20, 21, 22, 23] σ0 σ48 := keep_c kp ik48 (by decide) (by decide)
                  refine g_if_eq hF 193 d_X3_read_174 (by decide) rfl (fun c49_174 => ?_) (fun c49_174 => ?_)
                  · -- taken at 174
                    refine g_iinc hF (x1 + (-1)) [(1, .int (x1 + (-1))), (5, .int (σ45 3 1)), (4, .int r45), (3, .int 0), (2, .int 1), (0, .ref (r 3))] d_X3_read_193 5 rfl rfl hnn (by decide) rfl ?_
                    refine g_goto hF 32 d_X3_read_196 (by decide) ?_
                    exact g_sub (L' := [(0, .ref (r 3)), (1, .int (x1 + (-1)))]) [5, 0] rfl (ih32 _ (N32 ▸ dnm_lt c1_33 (by decide)) σ48 (x1 + (-1)) rfl iσ48 kp hgp48 (fun h9 => h9))
                  · -- not taken at 174
                    refine g_aload_n hF d_X3_read_177 rfl 4 rfl ?_
                    refine g_iconst hF (v := 1) d_X3_read_178 (by decide) ?_
                    refine g_callV (As := [.int 1]) (rest := []) hF ((RS_all a g r 26 σ48 1 (by decide) (by decide) iσ48 hgp48).2) (Nat.le_of_ble_eq_true rfl) mV_X3_statements m_1004 (recv_ob obC_3) rfl rfl (Nat.le_of_ble_eq_true rfl) d_X3_read_179 (k_v (fun σ50 ⟨⟨hgp50, hgm50⟩, iσ50, ik50⟩ => ?_)) (fun _ _ _ h => h.elim)
                    have hmo50 : Mo σ50 σ48 := fun h9 => mo_e (show σ48 3 3 = σ48 3 3 from rfl) (hgm50 h9)
                    have kp : Keep [(3, 1), (3, 2), (3, 3), (3, 4), (3, 9)] [18, 19, 20, 21, 22, 23] σ0 σ50 := keep_c kp ik50 (by decide) (by decide)
                    refine g_aload_n hF d_X3_read_182 rfl 4 rfl ?_
                    refine g_bipush hF (v := 49) d_X3_read_183 (by decide) ?_
                    refine g_iload hF d_X3_read_185 0 rfl ?_
                    refine g_iconst hF (v := 0) d_X3_read_187 (by decide) ?_
                    refine g_iconst hF (v := 0) d_X3_read_188 (by decide) ?_
                    refine g_callV (As := [.int 49, .int (σ45 3 1), .int 0, .int 0]) (rest := []) hF (c_X3_add a g r σ50 (49 : Int32) (σ45 3 1) (0 : Int32) (0 : Int32) (fun h9 => absurd h9 (by decide)) hgp50 iσ50) (Nat.le_of_ble_eq_true rfl) mV_X3_add m_923 (recv_ob obC_3) rfl rfl (Nat.le_of_ble_eq_true rfl) d_X3_read_189 (k_i (fun r51 σ51 ⟨⟨hgp51, hgm51⟩, iσ51, ik51⟩ => ?_)) (fun _ _ _ h => h.elim)
                    have hmo51 : Mo σ51 σ50 := fun h9 => mo_e (show σ50 3 3 = σ50 3 3 from rfl) (hgm51 h9)
                    have kp : Keep [(3, 1), (3, 2), (3, 3), (3, 4), (3, 9)] [18, 19, 20, 21, 22, 23] σ0 σ51 := keep_c kp ik51 (by decide) (by decide)
                    refine g_pop hF d_X3_read_192 rfl ?_
                    refine g_iinc hF (x1 + (-1)) [(1, .int (x1 + (-1))), (5, .int (σ45 3 1)), (4, .int r45), (3, .int 0), (2, .int 1), (0, .ref (r 3))] d_X3_read_193 5 rfl rfl hnn (by decide) rfl ?_
                    refine g_goto hF 32 d_X3_read_196 (by decide) ?_
                    exact g_sub (L' := [(0, .ref (r 3)), (1, .int (x1 + (-1)))]) [5, 0] rfl (ih32 _ (N32 ▸ dnm_lt c1_33 (by decide)) σ51 (x1 + (-1)) rfl iσ51 kp hgp51 (fun h9 => h9))
                · -- not taken at 150
                  refine g_aload_n hF d_X3_read_153 rfl 4 rfl ?_
                  refine g_iload hF d_X3_read_154 0 rfl ?_
                  refine g_iload hF d_X3_read_156 1 rfl ?_
                  refine g_iload_n hF d_X3_read_158 rfl 3 rfl ?_
                  refine g_callV (As := [.int (σ45 3 1), .int r45, .int 1]) (rest := []) hF (c_X3_variables a g r σ46 (σ45 3 1) r45 (1 : Int32) (fun h9 => (nm_keep (fun z => kp 14 z rfl rfl rfl) (hnn46 (mo_e (show σ46 3 3 = σ46 3 3 from rfl) h9)))) hgp46 iσ46) (Nat.le_of_ble_eq_true rfl) mV_X3_variables m_915 (recv_ob obC_3) rfl rfl (Nat.le_of_ble_eq_true rfl) d_X3_read_159 (k_v (fun σ52 ⟨⟨hgp52, hgm52⟩, iσ52, ik52⟩ => ?_)) (fun _ _ _ h => h.elim)
                  have hmo52 : Mo σ52 σ46 := fun h9 => mo_e (show σ46 3 3 = σ46 3 3 from rfl) (hgm52 h9)
                  have kp : Keep [(3, 1), (3, 2), (3, 3), (3, 4), (3, 9)] [18, 19, 20, 21, 22, 23] σ0 σ52 := keep_c kp ik52 (by decide) (by decide)
                  refine g_goto hF 193 d_X3_read_162 (by decide) ?_
                  refine g_iinc hF (x1 + (-1)) [(1, .int (x1 + (-1))), (5, .int (σ45 3 1)), (4, .int r45), (3, .int 0), (2, .int 1), (0, .ref (r 3))] d_X3_read_193 5 rfl rfl hnn (by decide) rfl ?_
                  refine g_goto hF 32 d_X3_read_196 (by decide) ?_
                  exact g_sub (L' := [(0, .ref (r 3)), (1, .int (x1 + (-1)))]) [5, 0] rfl (ih32 _ (N32 ▸ dnm_lt c1_33 (by decide)) σ52 (x1 + (-1)) rfl iσ52 kp hgp52 (fun h9 => h9))
              · -- not taken at 92
                refine g_iconst hF (v := 1) d_X3_read_95 (by decide) ?_
                refine g_goto hF 100 d_X3_read_96 (by decide) ?_
                refine g_istore_n hF [(3, .int 1), (2, .int 1), (0, .ref (r 3)), (1, .int x1)] d_X3_read_100 rfl hnn (by decide) rfl ?_
                refine g_aload_n hF d_X3_read_101 rfl 2 rfl ?_
                refine g_iload_n hF d_X3_read_102 rfl 0 rfl ?_
                refine g_if_eq (xv := 1) hF 111 d_X3_read_103 (by decide) (by decide) (fun c_103 => absurd c_103 (by decide)) (fun _ => ?_)
                refine g_bipush hF (v := 6) d_X3_read_106 (by decide) ?_
                refine g_goto hF 112 d_X3_read_108 (by decide) ?_
                refine g_callV (As := [.int 6]) (rest := []) hF (c_X3_expect a g r σ42 (6 : Int32) hgp42 (by show ¬ (6 = 0 ∨ 6 = -1); have e0 : (6 : Int32).toInt = 6 := (by decide); have e1 := s_rng (σ42 3 2); omega) iσ42) (Nat.le_of_ble_eq_true rfl) mV_X3_expect m_903 (recv_ob obC_3) rfl rfl (Nat.le_of_ble_eq_true rfl) d_X3_read_112 (k_v (fun σ53 ⟨⟨hgp53, hgm53⟩, hs53, iσ53, ik53⟩ => ?_)) (fun _ _ _ h => h.elim)
                have hs53 : (σ53 3 3).toInt < 0 → (σ42 3 2).toInt = 6 := hs53
                have hmo53 : Mo σ53 σ := fun h9 => mo_e (show σ42 3 3 = σ 3 3 from (ik42 3 3 rfl rfl rfl)) (hgm53 h9)
                have kp : Keep [(3, 1), (3, 2), (3, 3), (3, 4), (3, 9)] [18, 19, 20, 21, 22, 23] σ0 σ53 := keep_c kp ik53 (by decide) (by decide)
                refine g_iload_n hF d_X3_read_115 rfl 0 rfl ?_
                refine g_if_eq (xv := 1) hF 123 d_X3_read_116 (by decide) (by decide) (fun c_116 => absurd c_116 (by decide)) (fun _ => ?_)
                refine g_iconst hF (v := (-1)) d_X3_read_119 (by decide) ?_
                refine g_goto hF 127 d_X3_read_120 (by decide) ?_
                refine g_istore hF [(4, .int (-1)), (3, .int 1), (2, .int 1), (0, .ref (r 3)), (1, .int x1)] d_X3_read_127 hnn (by decide) rfl ?_
                refine g_aload_n hF d_X3_read_129 rfl 3 rfl ?_
                refine g_get (v := .int (σ53 3 1)) hF 1 obC_3 (by decide) m_95 rfl d_X3_read_130 ?_
                refine g_istore hF [(5, .int (σ53 3 1)), (4, .int (-1)), (3, .int 1), (2, .int 1), (0, .ref (r 3)), (1, .int x1)] d_X3_read_133 hnn (by decide) rfl ?_
                refine g_aload_n hF d_X3_read_135 rfl 4 rfl ?_
                refine g_iconst hF (v := 2) d_X3_read_136 (by decide) ?_
                have hkk54 : ∀ z, σ53 14 z = σ0 14 z := fun z => kp 14 z rfl rfl rfl
                refine g_callV (As := [.int 2]) (rest := []) hF (c_X3_expect a g r σ53 (2 : Int32) hgp53 (by show ¬ (2 = 0 ∨ 2 = -1); have e0 : (2 : Int32).toInt = 2 := (by decide); omega) iσ53) (Nat.le_of_ble_eq_true rfl) mV_X3_expect m_903 (recv_ob obC_3) rfl rfl (Nat.le_of_ble_eq_true rfl) d_X3_read_137 (k_v (fun σ54 ⟨⟨hgp54, hgm54⟩, hs54, iσ54, ik54⟩ => ?_)) (fun _ _ _ h => h.elim)
                have hs54 : (σ54 3 3).toInt < 0 → (σ53 3 2).toInt = 2 := hs54
                have hmo54 : Mo σ54 σ53 := fun h9 => mo_e (show σ53 3 3 = σ53 3 3 from rfl) (hgm54 h9)
                have hnn54 : (σ54 3 3).toInt < 0 → NM σ0 (σ53 3 1) := fun h9 => nm_back hkk54 (hgp53.2.1.2 (hs54 h9))
                have kp : Keep [(3, 1), (3, 2), (3, 3), (3, 4), (3, 9)] [18, 19, 20, 21, 22, 23] σ0 σ54 := keep_c kp ik54 (by decide) (by decide)
                refine g_iload_n hF d_X3_read_140 rfl 2 rfl ?_
                refine g_if_ne (xv := 1) hF 165 d_X3_read_141 (by decide) (by decide) (fun _ => ?_) (fun c_141 => absurd c_141 (by decide))
                refine g_aload_n hF d_X3_read_165 rfl 4 rfl ?_
                refine g_iload hF d_X3_read_166 0 rfl ?_
                refine g_iload hF d_X3_read_168 1 rfl ?_
                refine g_iload_n hF d_X3_read_170 rfl 3 rfl ?_
                refine g_callV (As := [.int (σ53 3 1), .int (-1), .int 1]) (rest := []) hF (c_X3_head a g r σ54 (σ53 3 1) ((-1) : Int32) (1 : Int32) (fun h9 => (nm_keep (fun z => kp 14 z rfl rfl rfl) (hnn54 (mo_e (show σ54 3 3 = σ54 3 3 from rfl) h9)))) hgp54 iσ54) (Nat.le_of_ble_eq_true rfl) mV_X3_head m_986 (recv_ob obC_3) rfl rfl (Nat.le_of_ble_eq_true rfl) d_X3_read_171 (k_i (fun r55 σ55 ⟨hz55, ⟨hgp55, hgm55⟩, iσ55, ik55⟩ => ?_)) (fun _ _ _ h => h.elim)
                have hmo55 : Mo σ55 σ54 := fun h9 => mo_e (show σ54 3 3 = σ54 3 3 from rfl) (hgm55 h9)
                have kp : Keep [(3, 1), (3, 2), (3, 3), (3, 4), (3, 9)] [18, 19, 20, 21, 22, 23] σ0 σ55 := keep_c kp ik55 (by decide) (by decide)
                refine g_if_eq hF 193 d_X3_read_174 (by decide) rfl (fun c56_174 => ?_) (fun c56_174 => ?_)
                · -- taken at 174
                  refine g_iinc hF (x1 + (-1)) [(1, .int (x1 + (-1))), (5, .int (σ53 3 1)), (4, .int (-1)), (3, .int 1), (2, .int 1), (0, .ref (r 3))] d_X3_read_193 5 rfl rfl hnn (by decide) rfl ?_
                  refine g_goto hF 32 d_X3_read_196 (by decide) ?_
                  exact g_sub (L' := [(0, .ref (r 3)), (1, .int (x1 + (-1)))]) [5, 0] rfl (ih32 _ (N32 ▸ dnm_lt c1_33 (by decide)) σ55 (x1 + (-1)) rfl iσ55 kp hgp55 (fun h9 => h9))
                · -- not taken at 174
                  refine g_aload_n hF d_X3_read_177 rfl 4 rfl ?_
                  refine g_iconst hF (v := 1) d_X3_read_178 (by decide) ?_
                  refine g_callV (As := [.int 1]) (rest := []) hF ((RS_all a g r 26 σ55 1 (by decide) (by decide) iσ55 hgp55).2) (Nat.le_of_ble_eq_true rfl) mV_X3_statements m_1004 (recv_ob obC_3) rfl rfl (Nat.le_of_ble_eq_true rfl) d_X3_read_179 (k_v (fun σ57 ⟨⟨hgp57, hgm57⟩, iσ57, ik57⟩ => ?_)) (fun _ _ _ h => h.elim)
                  have hmo57 : Mo σ57 σ55 := fun h9 => mo_e (show σ55 3 3 = σ55 3 3 from rfl) (hgm57 h9)
                  have kp : Keep [(3, 1), (3, 2), (3, 3), (3, 4), (3, 9)] [18, 19, 20, 21, 22, 23] σ0 σ57 := keep_c kp ik57 (by decide) (by decide)
                  refine g_aload_n hF d_X3_read_182 rfl 4 rfl ?_
                  refine g_bipush hF (v := 49) d_X3_read_183 (by decide) ?_
                  refine g_iload hF d_X3_read_185 0 rfl ?_
                  refine g_iconst hF (v := 0) d_X3_read_187 (by decide) ?_
                  refine g_iconst hF (v := 0) d_X3_read_188 (by decide) ?_
                  refine g_callV (As := [.int 49, .int (σ53 3 1), .int 0, .int 0]) (rest := []) hF (c_X3_add a g r σ57 (49 : Int32) (σ53 3 1) (0 : Int32) (0 : Int32) (fun h9 => absurd h9 (by decide)) hgp57 iσ57) (Nat.le_of_ble_eq_true rfl) mV_X3_add m_923 (recv_ob obC_3) rfl rfl (Nat.le_of_ble_eq_true rfl) d_X3_read_189 (k_i (fun r58 σ58 ⟨⟨hgp58, hgm58⟩, iσ58, ik58⟩ => ?_)) (fun _ _ _ h => h.elim)
                  have hmo58 : Mo σ58 σ57 := fun h9 => mo_e (show σ57 3 3 = σ57 3 3 from rfl) (hgm58 h9)
                  have kp : Keep [(3, 1), (3, 2), (3, 3), (3, 4), (3, 9)] [18, 19, 20, 21, 22, 23] σ0 σ58 := keep_c kp ik58 (by decide) (by decide)
                  refine g_pop hF d_X3_read_192 rfl ?_
                  refine g_iinc hF (x1 + (-1)) [(1, .int (x1 + (-1))), (5, .int (σ53 3 1)), (4, .int (-1)), (3, .int 1), (2, .int 1), (0, .ref (r 3))] d_X3_read_193 5 rfl rfl hnn (by decide) rfl ?_
                  refine g_goto hF 32 d_X3_read_196 (by decide) ?_
                  exact g_sub (L' := [(0, .ref (r 3)), (1, .int (x1 + (-1)))]) [5, 0] rfl (ih32 _ (N32 ▸ dnm_lt c1_33 (by decide)) σ58 (x1 + (-1)) rfl iσ58 kp hgp58 (fun h9 => h9))
  have kp : Keep [(3, 1), (3, 2), (3, 3), (3, 4), (3, 9)] [18, 19, 20, 21, 22, 23] σ0 σ0 := keep_rf
  refine g_aload_n hF d_X3_read_0 rfl 0 rfl ?_
  refine g_iconst hF (v := 0) d_X3_read_1 (by decide) ?_
  refine g_put (v := 0) hF 4 obC_3 (by decide) m_99 rfl rfl rfl d_X3_read_2 ?_
  have kp : Keep [(3, 1), (3, 2), (3, 3), (3, 4), (3, 9)] [18, 19, 20, 21, 22, 23] σ0 (upC σ0 3 4 0) := keep_f kp (by decide)
  have p59 : 0 ≤ (0 : Int32).toInt ∧ (0 : Int32).toInt ≤ 32100 := (by have e0 : (0 : Int32).toInt = 0 := (by decide); omega)
  refine g_aload_n hF d_X3_read_5 rfl 0 rfl ?_
  refine g_iconst hF (v := 0) d_X3_read_6 (by decide) ?_
  refine g_put (v := 0) hF 9 obC_3 (by decide) m_114 rfl rfl rfl d_X3_read_7 ?_
  have kp : Keep [(3, 1), (3, 2), (3, 3), (3, 4), (3, 9)] [18, 19, 20, 21, 22, 23] σ0 (upC (upC σ0 3 4 0) 3 9 0) := keep_f kp (by decide)
  refine g_aload_n hF d_X3_read_10 rfl 0 rfl ?_
  refine g_iconst hF (v := (-1)) d_X3_read_11 (by decide) ?_
  refine g_put (v := (-1)) hF 3 obC_3 (by decide) m_97 rfl rfl rfl d_X3_read_12 ?_
  have kp : Keep [(3, 1), (3, 2), (3, 3), (3, 4), (3, 9)] [18, 19, 20, 21, 22, 23] σ0 (upC (upC (upC σ0 3 4 0) 3 9 0) 3 3 (-1)) := keep_f kp (by decide)
  refine g_aload_n hF d_X3_read_15 rfl 0 rfl ?_
  refine g_iconst hF (v := (-1)) d_X3_read_16 (by decide) ?_
  refine g_put (v := (-1)) hF 1 obC_3 (by decide) m_95 rfl rfl rfl d_X3_read_17 ?_
  have kp : Keep [(3, 1), (3, 2), (3, 3), (3, 4), (3, 9)] [18, 19, 20, 21, 22, 23] σ0 (upC (upC (upC (upC σ0 3 4 0) 3 9 0) 3 3 (-1)) 3 1 (-1)) := keep_f kp (by decide)
  refine g_aload_n hF d_X3_read_20 rfl 0 rfl ?_
  have j61 : Inv (upC (upC (upC (upC σ0 3 4 0) 3 9 0) 3 3 (-1)) 3 1 (-1)) := ⟨i0.1, i0.2.1, i0.2.2.1, i0.2.2.2.1, i0.2.2.2.2.1, i0.2.2.2.2.2.1, i0.2.2.2.2.2.2.1, p59, i0.2.2.2.2.2.2.2.2.1, i0.2.2.2.2.2.2.2.2.2.1, i0.2.2.2.2.2.2.2.2.2.2.1, i0.2.2.2.2.2.2.2.2.2.2.2.1, i0.2.2.2.2.2.2.2.2.2.2.2.2.1, i0.2.2.2.2.2.2.2.2.2.2.2.2.2.1, i0.2.2.2.2.2.2.2.2.2.2.2.2.2.2.1, i0.2.2.2.2.2.2.2.2.2.2.2.2.2.2.2.1, i0.2.2.2.2.2.2.2.2.2.2.2.2.2.2.2.2.1, i0.2.2.2.2.2.2.2.2.2.2.2.2.2.2.2.2.2.1, i0.2.2.2.2.2.2.2.2.2.2.2.2.2.2.2.2.2.2.1, i0.2.2.2.2.2.2.2.2.2.2.2.2.2.2.2.2.2.2.2⟩
  refine g_callV (As := []) (rest := []) hF (c_X3_advance a g r (upC (upC (upC (upC σ0 3 4 0) 3 9 0) 3 3 (-1)) 3 1 (-1)) (fun _ z hz => absurd hz (by show ¬ (z : Int) < 0; omega)) (by show -1 ≤ -1 ∧ -1 ≤ 16001; have e0 : ((-1) : Int32).toInt = -1 := (by decide); have e1 := s_rng (σ0 3 1); omega) j61) (Nat.le_of_ble_eq_true rfl) mV_X3_advance m_899 (recv_ob obC_3) rfl rfl (Nat.le_of_ble_eq_true rfl) d_X3_read_21 (k_v (fun σ60 ⟨⟨hgp60, hgm60⟩, hs60, iσ60, ik60⟩ => ?_)) (fun _ _ _ h => h.elim)
  have hs60 : (σ60 3 1).toInt = -1 + 1 := hs60
  have kp : Keep [(3, 1), (3, 2), (3, 3), (3, 4), (3, 9)] [18, 19, 20, 21, 22, 23] σ0 σ60 := keep_c kp ik60 (by decide) (by decide)
  refine g_aload_n hF d_X3_read_24 rfl 0 rfl ?_
  refine g_get (v := .ref (r 2)) hF 0 obC_3 (by decide) m_94 rfl d_X3_read_25 ?_
  refine g_getN (v := .int (σ60 2 4)) hF 4 obC_2 (by decide) nm_47 rfl d_X3_read_28 ?_
  refine g_top (v := (σ0 2 4)) (ik60 2 4 rfl rfl rfl) ?_
  refine g_istore_n hF [(1, .int (σ0 2 4)), (0, .ref (r 3))] d_X3_read_31 rfl hnn (by decide) rfl ?_
  exact g_sub (L' := [(0, .ref (r 3)), (1, .int (σ0 2 4))]) [1, 0] rfl (b32 _ σ60 (σ0 2 4) rfl iσ60 kp hgp60 (fun h9 => h9))
set_option maxHeartbeats 4000000 in
set_option maxRecDepth 100000 in
theorem c_X1_take (a : Nat → Nat) (g : Nat → Nat → Int32) (r : Nat → Nat) (σ0 : St) (a1 : Int32) (a2 : Int32) (hnm : (a1.toInt = 43 ∨ a1.toInt = 47) → vp_in a2 32100 ∧ NM σ0 (σ0 19 a2.toNatClampNeg)) (hpre : (σ0 6 10).toInt < 90000) (i0 : Inv σ0) (l : Launch) (D : va_G) (cy : Nat → ClassId) : Ct l D cy SC r (EC a g) y_X1_take (Cond.code y_X1_take b_X1_take 6 none) 6 [.ref (r 8), .int a1, .int a2] σ0 Z0 [] (QV (fun σ9 => ((((σ9 6 17).toInt = (σ0 6 17).toInt ∨ (σ9 6 17).toInt = 0 ∨ (σ9 6 17).toInt = 1) ∧ ((σ9 6 10).toInt ≤ (σ0 6 10).toInt + 1 ∨ (σ9 6 10).toInt = 0)) ∧ Inv σ9 ∧ Keep [(4, 1), (5, 1), (5, 7), (5, 9), (6, 3), (6, 4), (6, 5), (6, 6), (6, 7), (6, 10), (6, 15), (6, 17), (7, 7), (8, 6), (8, 7), (8, 9), (8, 10), (8, 11), (8, 12), (8, 13), (8, 14), (8, 15), (8, 16)] [17, 24, 25, 26, 27, 28, 29, 30, 31, 32, 33, 38, 39, 40, 41, 42, 43, 44, 45, 48] σ0 σ9))) QF := by
  refine Ct_of (EC_ok a g) (by decide) (Nat.le_of_ble_eq_true rfl) (by decide) (fun X hnn hF => ?_)
  show G SC r X σ0 Z0 [] [(0, .ref (r 8)), (1, .int a1), (2, .int a2)] [] 0
  have kp : Keep [(4, 1), (5, 1), (5, 7), (5, 9), (6, 3), (6, 4), (6, 5), (6, 6), (6, 7), (6, 10), (6, 15), (6, 17), (7, 7), (8, 6), (8, 7), (8, 9), (8, 10), (8, 11), (8, 12), (8, 13), (8, 14), (8, 15), (8, 16)] [17, 24, 25, 26, 27, 28, 29, 30, 31, 32, 33, 38, 39, 40, 41, 42, 43, 44, 45, 48] σ0 σ0 := keep_rf
  refine g_aload_n hF d_X1_take_0 rfl 0 rfl ?_
  refine g_get (v := .ref (r 3)) hF 0 obC_8 (by decide) m_489 rfl d_X1_take_1 ?_
  refine g_getN (v := .ref (r 19)) hF 6 obC_3 (by decide) nm_106 rfl d_X1_take_4 ?_
  refine g_iload_n hF d_X1_take_7 rfl 2 rfl ?_
  refine g_callSN (As := [.ref (r 19), .int a2]) (rest := []) hF (c_at a g r σ0 arC_19 (by decide) a2) (Nat.le_of_ble_eq_true rfl) mS_X12_at nm_1356 rfl rfl (Nat.le_of_ble_eq_true rfl) d_X1_take_8 (k_rop (fun r1 hr1 => ?_))
  have hs1 := hr1
  refine g_istore_n hF [(3, .int r1), (0, .ref (r 8)), (1, .int a1), (2, .int a2)] d_X1_take_11 rfl hnn (by decide) rfl ?_
  refine g_aload_n hF d_X1_take_12 rfl 1 rfl ?_
  refine g_get (v := .ref (r 3)) hF 0 obC_8 (by decide) m_489 rfl d_X1_take_13 ?_
  refine g_getN (v := .ref (r 20)) hF 7 obC_3 (by decide) nm_111 rfl d_X1_take_16 ?_
  refine g_iload_n hF d_X1_take_19 rfl 3 rfl ?_
  refine g_callSN (As := [.ref (r 20), .int a2]) (rest := []) hF (c_at a g r σ0 arC_20 (by decide) a2) (Nat.le_of_ble_eq_true rfl) mS_X12_at nm_1356 rfl rfl (Nat.le_of_ble_eq_true rfl) d_X1_take_20 (k_rop (fun r2 hr2 => ?_))
  refine g_istore hF [(4, .int r2), (3, .int r1), (0, .ref (r 8)), (1, .int a1), (2, .int a2)] d_X1_take_23 hnn (by decide) rfl ?_
  refine g_aload_n hF d_X1_take_25 rfl 2 rfl ?_
  refine g_get (v := .ref (r 3)) hF 0 obC_8 (by decide) m_489 rfl d_X1_take_26 ?_
  refine g_getN (v := .ref (r 21)) hF 8 obC_3 (by decide) nm_113 rfl d_X1_take_29 ?_
  refine g_iload_n hF d_X1_take_32 rfl 4 rfl ?_
  refine g_callSN (As := [.ref (r 21), .int a2]) (rest := []) hF (c_at a g r σ0 arC_21 (by decide) a2) (Nat.le_of_ble_eq_true rfl) mS_X12_at nm_1356 rfl rfl (Nat.le_of_ble_eq_true rfl) d_X1_take_33 (k_rop (fun r3 hr3 => ?_))
  refine g_istore hF [(5, .int r3), (4, .int r2), (3, .int r1), (0, .ref (r 8)), (1, .int a1), (2, .int a2)] d_X1_take_36 hnn (by decide) rfl ?_
  refine g_iload_n hF d_X1_take_38 rfl 4 rfl ?_
  refine (Decidable.em (a1.toInt = 42)).elim (fun q4_39_0 => ?_) (fun q4_39_0 => ?_)
  · refine g_tableIn (off := 41) hF 80 d_X1_take_39 q4_39_0 (by decide) (by decide) (by decide +kernel) (by decide) ?_
    refine g_aload_n hF d_X1_take_80 rfl 3 rfl ?_
    refine g_iload_n hF d_X1_take_81 rfl 2 rfl ?_
    refine g_put (v := r1) hF 6 obC_8 (by decide) m_497 rfl rfl rfl d_X1_take_82 ?_
    have kp : Keep [(4, 1), (5, 1), (5, 7), (5, 9), (6, 3), (6, 4), (6, 5), (6, 6), (6, 7), (6, 10), (6, 15), (6, 17), (7, 7), (8, 6), (8, 7), (8, 9), (8, 10), (8, 11), (8, 12), (8, 13), (8, 14), (8, 15), (8, 16)] [17, 24, 25, 26, 27, 28, 29, 30, 31, 32, 33, 38, 39, 40, 41, 42, 43, 44, 45, 48] σ0 (upC σ0 8 6 r1) := keep_f kp (by decide)
    refine g_aload_n hF d_X1_take_85 rfl 3 rfl ?_
    refine g_iload hF d_X1_take_86 1 rfl ?_
    refine g_if_eq hF 98 d_X1_take_88 (by decide) rfl (fun c5_88 => ?_) (fun c5_88 => ?_)
    · -- taken at 88
      refine g_iload hF d_X1_take_98 0 rfl ?_
      refine g_if_le hF 108 d_X1_take_100 (by decide) rfl (fun c6_100 => ?_) (fun c6_100 => ?_)
      · -- taken at 100
        refine g_iconst hF (v := (-1)) d_X1_take_108 (by decide) ?_
        refine g_put (v := (-1)) hF 7 obC_8 (by decide) m_498 rfl rfl rfl d_X1_take_109 ?_
        have kp : Keep [(4, 1), (5, 1), (5, 7), (5, 9), (6, 3), (6, 4), (6, 5), (6, 6), (6, 7), (6, 10), (6, 15), (6, 17), (7, 7), (8, 6), (8, 7), (8, 9), (8, 10), (8, 11), (8, 12), (8, 13), (8, 14), (8, 15), (8, 16)] [17, 24, 25, 26, 27, 28, 29, 30, 31, 32, 33, 38, 39, 40, 41, 42, 43, 44, 45, 48] σ0 (upC (upC σ0 8 6 r1) 8 7 (-1)) := keep_f kp (by decide)
        refine g_goto hF 178 d_X1_take_112 (by decide) ?_
        have j7 : Inv (upC (upC σ0 8 6 r1) 8 7 (-1)) := ⟨i0.1, i0.2.1, i0.2.2.1, i0.2.2.2.1, i0.2.2.2.2.1, i0.2.2.2.2.2.1, i0.2.2.2.2.2.2.1, i0.2.2.2.2.2.2.2.1, i0.2.2.2.2.2.2.2.2.1, i0.2.2.2.2.2.2.2.2.2.1, i0.2.2.2.2.2.2.2.2.2.2.1, i0.2.2.2.2.2.2.2.2.2.2.2.1, i0.2.2.2.2.2.2.2.2.2.2.2.2.1, i0.2.2.2.2.2.2.2.2.2.2.2.2.2.1, i0.2.2.2.2.2.2.2.2.2.2.2.2.2.2.1, i0.2.2.2.2.2.2.2.2.2.2.2.2.2.2.2.1, i0.2.2.2.2.2.2.2.2.2.2.2.2.2.2.2.2.1, i0.2.2.2.2.2.2.2.2.2.2.2.2.2.2.2.2.2.1, i0.2.2.2.2.2.2.2.2.2.2.2.2.2.2.2.2.2.2.1, i0.2.2.2.2.2.2.2.2.2.2.2.2.2.2.2.2.2.2.2⟩
        exact g_vret hF rfl d_X1_take_178 ⟨rfl, rfl, rfl, ⟨(by show ((σ0 6 17).toInt = (σ0 6 17).toInt ∨ (σ0 6 17).toInt = 0 ∨ (σ0 6 17).toInt = 1) ∧ ((σ0 6 10).toInt ≤ (σ0 6 10).toInt + 1 ∨ (σ0 6 10).toInt = 0); have e0 := s_rng (σ0 6 17); have e1 := s_rng (σ0 6 10); have e2 := i0.2.2.2.2.2.1; omega), j7, kp⟩⟩
      · -- not taken at 100
        refine g_iload hF d_X1_take_103 0 rfl ?_
        refine g_goto hF 109 d_X1_take_105 (by decide) ?_
        refine g_put (v := r3) hF 7 obC_8 (by decide) m_498 rfl rfl rfl d_X1_take_109 ?_
        have kp : Keep [(4, 1), (5, 1), (5, 7), (5, 9), (6, 3), (6, 4), (6, 5), (6, 6), (6, 7), (6, 10), (6, 15), (6, 17), (7, 7), (8, 6), (8, 7), (8, 9), (8, 10), (8, 11), (8, 12), (8, 13), (8, 14), (8, 15), (8, 16)] [17, 24, 25, 26, 27, 28, 29, 30, 31, 32, 33, 38, 39, 40, 41, 42, 43, 44, 45, 48] σ0 (upC (upC σ0 8 6 r1) 8 7 r3) := keep_f kp (by decide)
        refine g_goto hF 178 d_X1_take_112 (by decide) ?_
        have j8 : Inv (upC (upC σ0 8 6 r1) 8 7 r3) := ⟨i0.1, i0.2.1, i0.2.2.1, i0.2.2.2.1, i0.2.2.2.2.1, i0.2.2.2.2.2.1, i0.2.2.2.2.2.2.1, i0.2.2.2.2.2.2.2.1, i0.2.2.2.2.2.2.2.2.1, i0.2.2.2.2.2.2.2.2.2.1, i0.2.2.2.2.2.2.2.2.2.2.1, i0.2.2.2.2.2.2.2.2.2.2.2.1, i0.2.2.2.2.2.2.2.2.2.2.2.2.1, i0.2.2.2.2.2.2.2.2.2.2.2.2.2.1, i0.2.2.2.2.2.2.2.2.2.2.2.2.2.2.1, i0.2.2.2.2.2.2.2.2.2.2.2.2.2.2.2.1, i0.2.2.2.2.2.2.2.2.2.2.2.2.2.2.2.2.1, i0.2.2.2.2.2.2.2.2.2.2.2.2.2.2.2.2.2.1, i0.2.2.2.2.2.2.2.2.2.2.2.2.2.2.2.2.2.2.1, i0.2.2.2.2.2.2.2.2.2.2.2.2.2.2.2.2.2.2.2⟩
        exact g_vret hF rfl d_X1_take_178 ⟨rfl, rfl, rfl, ⟨(by show ((σ0 6 17).toInt = (σ0 6 17).toInt ∨ (σ0 6 17).toInt = 0 ∨ (σ0 6 17).toInt = 1) ∧ ((σ0 6 10).toInt ≤ (σ0 6 10).toInt + 1 ∨ (σ0 6 10).toInt = 0); have e0 := s_rng (σ0 6 17); have e1 := s_rng (σ0 6 10); have e2 := i0.2.2.2.2.2.1; omega), j8, kp⟩⟩
    · -- not taken at 88
      refine g_aload_n hF d_X1_take_91 rfl 3 rfl ?_
      refine g_get (v := .int (σ0 8 8)) hF 8 obC_8 (by decide) m_499 rfl d_X1_take_92 ?_
      refine g_goto hF 109 d_X1_take_95 (by decide) ?_
      refine g_put (v := (σ0 8 8)) hF 7 obC_8 (by decide) m_498 rfl rfl rfl d_X1_take_109 ?_
      have kp : Keep [(4, 1), (5, 1), (5, 7), (5, 9), (6, 3), (6, 4), (6, 5), (6, 6), (6, 7), (6, 10), (6, 15), (6, 17), (7, 7), (8, 6), (8, 7), (8, 9), (8, 10), (8, 11), (8, 12), (8, 13), (8, 14), (8, 15), (8, 16)] [17, 24, 25, 26, 27, 28, 29, 30, 31, 32, 33, 38, 39, 40, 41, 42, 43, 44, 45, 48] σ0 (upC (upC σ0 8 6 r1) 8 7 (σ0 8 8)) := keep_f kp (by decide)
      refine g_goto hF 178 d_X1_take_112 (by decide) ?_
      have j9 : Inv (upC (upC σ0 8 6 r1) 8 7 (σ0 8 8)) := ⟨i0.1, i0.2.1, i0.2.2.1, i0.2.2.2.1, i0.2.2.2.2.1, i0.2.2.2.2.2.1, i0.2.2.2.2.2.2.1, i0.2.2.2.2.2.2.2.1, i0.2.2.2.2.2.2.2.2.1, i0.2.2.2.2.2.2.2.2.2.1, i0.2.2.2.2.2.2.2.2.2.2.1, i0.2.2.2.2.2.2.2.2.2.2.2.1, i0.2.2.2.2.2.2.2.2.2.2.2.2.1, i0.2.2.2.2.2.2.2.2.2.2.2.2.2.1, i0.2.2.2.2.2.2.2.2.2.2.2.2.2.2.1, i0.2.2.2.2.2.2.2.2.2.2.2.2.2.2.2.1, i0.2.2.2.2.2.2.2.2.2.2.2.2.2.2.2.2.1, i0.2.2.2.2.2.2.2.2.2.2.2.2.2.2.2.2.2.1, i0.2.2.2.2.2.2.2.2.2.2.2.2.2.2.2.2.2.2.1, i0.2.2.2.2.2.2.2.2.2.2.2.2.2.2.2.2.2.2.2⟩
      exact g_vret hF rfl d_X1_take_178 ⟨rfl, rfl, rfl, ⟨(by show ((σ0 6 17).toInt = (σ0 6 17).toInt ∨ (σ0 6 17).toInt = 0 ∨ (σ0 6 17).toInt = 1) ∧ ((σ0 6 10).toInt ≤ (σ0 6 10).toInt + 1 ∨ (σ0 6 10).toInt = 0); have e0 := s_rng (σ0 6 17); have e1 := s_rng (σ0 6 10); have e2 := i0.2.2.2.2.2.1; omega), j9, kp⟩⟩
  refine (Decidable.em (a1.toInt = 43)).elim (fun q10_39_1 => ?_) (fun q10_39_1 => ?_)
  · refine g_tableIn (off := 76) hF 115 d_X1_take_39 q10_39_1 (by decide) (by decide) (by decide +kernel) (by decide) ?_
    refine g_aload_n hF d_X1_take_115 rfl 3 rfl ?_
    refine g_iload_n hF d_X1_take_116 rfl 2 rfl ?_
    refine g_iload hF d_X1_take_117 1 rfl ?_
    refine g_iload hF d_X1_take_119 0 rfl ?_
    refine g_callV (As := [.int r1, .int r2, .int r3]) (rest := []) hF (c_X1_variable a g r σ0 r1 r2 r3 (nm_keep (fun z => kp 14 z rfl rfl rfl) (nm_at (hnm (by omega)) hs1)) (by show (σ0 6 10).toInt < 90000; have e0 := s_rng r1; have e1 := s_rng r2; have e2 := s_rng r3; have e3 := s_rng (σ0 6 10); have e4 := i0.2.2.2.2.2.1; omega) i0) (Nat.le_of_ble_eq_true rfl) mV_X1_variable m_1357 (recv_ob obC_8) rfl rfl (Nat.le_of_ble_eq_true rfl) d_X1_take_121 (k_v (fun σ11 ⟨hs11, iσ11, ik11⟩ => ?_)) (fun _ _ _ h => h.elim)
    have hs11 : (σ11 6 10).toInt ≤ (σ0 6 10).toInt + 1 := hs11
    have kp : Keep [(4, 1), (5, 1), (5, 7), (5, 9), (6, 3), (6, 4), (6, 5), (6, 6), (6, 7), (6, 10), (6, 15), (6, 17), (7, 7), (8, 6), (8, 7), (8, 9), (8, 10), (8, 11), (8, 12), (8, 13), (8, 14), (8, 15), (8, 16)] [17, 24, 25, 26, 27, 28, 29, 30, 31, 32, 33, 38, 39, 40, 41, 42, 43, 44, 45, 48] σ0 σ11 := keep_c kp ik11 (by decide) (by decide)
    refine g_goto hF 178 d_X1_take_124 (by decide) ?_
    exact g_vret hF rfl d_X1_take_178 ⟨rfl, rfl, rfl, ⟨(by rw [show (σ11 6 17) = (σ0 6 17) from (ik11 6 17 rfl rfl rfl)]; show ((σ0 6 17).toInt = (σ0 6 17).toInt ∨ (σ0 6 17).toInt = 0 ∨ (σ0 6 17).toInt = 1) ∧ ((σ11 6 10).toInt ≤ (σ0 6 10).toInt + 1 ∨ (σ11 6 10).toInt = 0); have e0 := s_rng (σ0 6 17); have e1 := s_rng (σ11 6 10); have e2 := iσ11.2.2.2.2.2.1; have e3 := s_rng (σ0 6 10); have e4 := i0.2.2.2.2.2.1; omega), iσ11, kp⟩⟩
  refine (Decidable.em (a1.toInt = 44)).elim (fun q12_39_2 => ?_) (fun q12_39_2 => ?_)
  · refine g_tableIn (off := 88) hF 127 d_X1_take_39 q12_39_2 (by decide) (by decide) (by decide +kernel) (by decide) ?_
    refine g_aload_n hF d_X1_take_127 rfl 3 rfl ?_
    refine g_callV (As := []) (rest := []) hF (c_X1_item a g r σ0 i0) (Nat.le_of_ble_eq_true rfl) mV_X1_item m_1411 (recv_ob obC_8) rfl rfl (Nat.le_of_ble_eq_true rfl) d_X1_take_128 (k_v (fun σ13 ⟨iσ13, ik13⟩ => ?_)) (fun _ _ _ h => h.elim)
    have kp : Keep [(4, 1), (5, 1), (5, 7), (5, 9), (6, 3), (6, 4), (6, 5), (6, 6), (6, 7), (6, 10), (6, 15), (6, 17), (7, 7), (8, 6), (8, 7), (8, 9), (8, 10), (8, 11), (8, 12), (8, 13), (8, 14), (8, 15), (8, 16)] [17, 24, 25, 26, 27, 28, 29, 30, 31, 32, 33, 38, 39, 40, 41, 42, 43, 44, 45, 48] σ0 σ13 := keep_c kp ik13 (by decide) (by decide)
    refine g_goto hF 178 d_X1_take_131 (by decide) ?_
    exact g_vret hF rfl d_X1_take_178 ⟨rfl, rfl, rfl, ⟨(by rw [show (σ13 6 17) = (σ0 6 17) from (ik13 6 17 rfl rfl rfl)]; rw [show (σ13 6 10) = (σ0 6 10) from (ik13 6 10 rfl rfl rfl)]; show ((σ0 6 17).toInt = (σ0 6 17).toInt ∨ (σ0 6 17).toInt = 0 ∨ (σ0 6 17).toInt = 1) ∧ ((σ0 6 10).toInt ≤ (σ0 6 10).toInt + 1 ∨ (σ0 6 10).toInt = 0); have e0 := s_rng (σ0 6 17); have e1 := s_rng (σ0 6 10); have e2 := i0.2.2.2.2.2.1; omega), iσ13, kp⟩⟩
  refine (Decidable.em (a1.toInt = 45)).elim (fun q14_39_3 => ?_) (fun q14_39_3 => ?_)
  · refine g_tableIn (off := 95) hF 134 d_X1_take_39 q14_39_3 (by decide) (by decide) (by decide +kernel) (by decide) ?_
    refine g_aload_n hF d_X1_take_134 rfl 3 rfl ?_
    refine g_iload_n hF d_X1_take_135 rfl 2 rfl ?_
    refine g_callV (As := [.int r1]) (rest := []) hF (c_X1_fill a g r σ0 r1 i0) (Nat.le_of_ble_eq_true rfl) mV_X1_fill m_1432 (recv_ob obC_8) rfl rfl (Nat.le_of_ble_eq_true rfl) d_X1_take_136 (k_v (fun σ15 ⟨iσ15, ik15⟩ => ?_)) (fun _ _ _ h => h.elim)
    have kp : Keep [(4, 1), (5, 1), (5, 7), (5, 9), (6, 3), (6, 4), (6, 5), (6, 6), (6, 7), (6, 10), (6, 15), (6, 17), (7, 7), (8, 6), (8, 7), (8, 9), (8, 10), (8, 11), (8, 12), (8, 13), (8, 14), (8, 15), (8, 16)] [17, 24, 25, 26, 27, 28, 29, 30, 31, 32, 33, 38, 39, 40, 41, 42, 43, 44, 45, 48] σ0 σ15 := keep_c kp ik15 (by decide) (by decide)
    refine g_goto hF 178 d_X1_take_139 (by decide) ?_
    exact g_vret hF rfl d_X1_take_178 ⟨rfl, rfl, rfl, ⟨(by rw [show (σ15 6 17) = (σ0 6 17) from (ik15 6 17 rfl rfl rfl)]; rw [show (σ15 6 10) = (σ0 6 10) from (ik15 6 10 rfl rfl rfl)]; show ((σ0 6 17).toInt = (σ0 6 17).toInt ∨ (σ0 6 17).toInt = 0 ∨ (σ0 6 17).toInt = 1) ∧ ((σ0 6 10).toInt ≤ (σ0 6 10).toInt + 1 ∨ (σ0 6 10).toInt = 0); have e0 := s_rng (σ0 6 17); have e1 := s_rng (σ0 6 10); have e2 := i0.2.2.2.2.2.1; omega), iσ15, kp⟩⟩
  refine (Decidable.em (a1.toInt = 46)).elim (fun q16_39_4 => ?_) (fun q16_39_4 => ?_)
  · refine g_tableIn (off := 103) hF 142 d_X1_take_39 q16_39_4 (by decide) (by decide) (by decide +kernel) (by decide) ?_
    refine g_aload_n hF d_X1_take_142 rfl 3 rfl ?_
    refine g_iload_n hF d_X1_take_143 rfl 2 rfl ?_
    refine g_iload hF d_X1_take_144 1 rfl ?_
    refine g_callV (As := [.int r1, .int r2]) (rest := []) hF (c_X1_initial a g r σ0 r1 r2 i0) (Nat.le_of_ble_eq_true rfl) mV_X1_initial m_1437 (recv_ob obC_8) rfl rfl (Nat.le_of_ble_eq_true rfl) d_X1_take_146 (k_v (fun σ17 ⟨iσ17, ik17⟩ => ?_)) (fun _ _ _ h => h.elim)
    have kp : Keep [(4, 1), (5, 1), (5, 7), (5, 9), (6, 3), (6, 4), (6, 5), (6, 6), (6, 7), (6, 10), (6, 15), (6, 17), (7, 7), (8, 6), (8, 7), (8, 9), (8, 10), (8, 11), (8, 12), (8, 13), (8, 14), (8, 15), (8, 16)] [17, 24, 25, 26, 27, 28, 29, 30, 31, 32, 33, 38, 39, 40, 41, 42, 43, 44, 45, 48] σ0 σ17 := keep_c kp ik17 (by decide) (by decide)
    refine g_goto hF 178 d_X1_take_149 (by decide) ?_
    exact g_vret hF rfl d_X1_take_178 ⟨rfl, rfl, rfl, ⟨(by rw [show (σ17 6 17) = (σ0 6 17) from (ik17 6 17 rfl rfl rfl)]; rw [show (σ17 6 10) = (σ0 6 10) from (ik17 6 10 rfl rfl rfl)]; show ((σ0 6 17).toInt = (σ0 6 17).toInt ∨ (σ0 6 17).toInt = 0 ∨ (σ0 6 17).toInt = 1) ∧ ((σ0 6 10).toInt ≤ (σ0 6 10).toInt + 1 ∨ (σ0 6 10).toInt = 0); have e0 := s_rng (σ0 6 17); have e1 := s_rng (σ0 6 10); have e2 := i0.2.2.2.2.2.1; omega), iσ17, kp⟩⟩
  refine (Decidable.em (a1.toInt = 47)).elim (fun q18_39_5 => ?_) (fun q18_39_5 => ?_)
  · refine g_tableIn (off := 113) hF 152 d_X1_take_39 q18_39_5 (by decide) (by decide) (by decide +kernel) (by decide) ?_
    refine g_aload_n hF d_X1_take_152 rfl 3 rfl ?_
    refine g_iload_n hF d_X1_take_153 rfl 2 rfl ?_
    refine g_iload hF d_X1_take_154 1 rfl ?_
    refine g_iload hF d_X1_take_156 0 rfl ?_
    refine g_callV (As := [.int r1, .int r2, .int r3]) (rest := []) hF (c_X1_function a g r σ0 r1 r2 r3 (nm_keep (fun z => kp 14 z rfl rfl rfl) (nm_at (hnm (by omega)) hs1)) i0) (Nat.le_of_ble_eq_true rfl) mV_X1_function m_1441 (recv_ob obC_8) rfl rfl (Nat.le_of_ble_eq_true rfl) d_X1_take_158 (k_v (fun σ19 ⟨hs19, iσ19, ik19⟩ => ?_)) (fun _ _ _ h => h.elim)
    have hs19 : ((σ19 6 17).toInt = (σ0 6 17).toInt ∨ (σ19 6 17).toInt = 1) ∧ ((σ19 6 10).toInt = (σ0 6 10).toInt ∨ (σ19 6 10).toInt = 0) := hs19
    have kp : Keep [(4, 1), (5, 1), (5, 7), (5, 9), (6, 3), (6, 4), (6, 5), (6, 6), (6, 7), (6, 10), (6, 15), (6, 17), (7, 7), (8, 6), (8, 7), (8, 9), (8, 10), (8, 11), (8, 12), (8, 13), (8, 14), (8, 15), (8, 16)] [17, 24, 25, 26, 27, 28, 29, 30, 31, 32, 33, 38, 39, 40, 41, 42, 43, 44, 45, 48] σ0 σ19 := keep_c kp ik19 (by decide) (by decide)
    refine g_goto hF 178 d_X1_take_161 (by decide) ?_
    exact g_vret hF rfl d_X1_take_178 ⟨rfl, rfl, rfl, ⟨(by show ((σ19 6 17).toInt = (σ0 6 17).toInt ∨ (σ19 6 17).toInt = 0 ∨ (σ19 6 17).toInt = 1) ∧ ((σ19 6 10).toInt ≤ (σ0 6 10).toInt + 1 ∨ (σ19 6 10).toInt = 0); have e0 := s_rng (σ19 6 17); have e1 := s_rng (σ0 6 17); have e2 := s_rng (σ19 6 10); have e3 := iσ19.2.2.2.2.2.1; have e4 := s_rng (σ0 6 10); have e5 := i0.2.2.2.2.2.1; omega), iσ19, kp⟩⟩
  refine (Decidable.em (a1.toInt = 48)).elim (fun q20_39_6 => ?_) (fun q20_39_6 => ?_)
  · refine g_tableIn (off := 125) hF 164 d_X1_take_39 q20_39_6 (by decide) (by decide) (by decide +kernel) (by decide) ?_
    refine g_aload_n hF d_X1_take_164 rfl 3 rfl ?_
    refine g_iload_n hF d_X1_take_165 rfl 2 rfl ?_
    refine g_iload hF d_X1_take_166 1 rfl ?_
    refine g_callV (As := [.int r1, .int r2]) (rest := []) hF (c_X1_parameter a g r σ0 r1 r2 (by show (σ0 6 10).toInt < 90000; have e0 := s_rng r1; have e1 := s_rng r2; have e2 := s_rng (σ0 6 10); have e3 := i0.2.2.2.2.2.1; omega) i0) (Nat.le_of_ble_eq_true rfl) mV_X1_parameter m_1454 (recv_ob obC_8) rfl rfl (Nat.le_of_ble_eq_true rfl) d_X1_take_168 (k_v (fun σ21 ⟨hs21, iσ21, ik21⟩ => ?_)) (fun _ _ _ h => h.elim)
    have hs21 : (σ21 6 10).toInt ≤ (σ0 6 10).toInt + 1 := hs21
    have kp : Keep [(4, 1), (5, 1), (5, 7), (5, 9), (6, 3), (6, 4), (6, 5), (6, 6), (6, 7), (6, 10), (6, 15), (6, 17), (7, 7), (8, 6), (8, 7), (8, 9), (8, 10), (8, 11), (8, 12), (8, 13), (8, 14), (8, 15), (8, 16)] [17, 24, 25, 26, 27, 28, 29, 30, 31, 32, 33, 38, 39, 40, 41, 42, 43, 44, 45, 48] σ0 σ21 := keep_c kp ik21 (by decide) (by decide)
    refine g_goto hF 178 d_X1_take_171 (by decide) ?_
    exact g_vret hF rfl d_X1_take_178 ⟨rfl, rfl, rfl, ⟨(by rw [show (σ21 6 17) = (σ0 6 17) from (ik21 6 17 rfl rfl rfl)]; show ((σ0 6 17).toInt = (σ0 6 17).toInt ∨ (σ0 6 17).toInt = 0 ∨ (σ0 6 17).toInt = 1) ∧ ((σ21 6 10).toInt ≤ (σ0 6 10).toInt + 1 ∨ (σ21 6 10).toInt = 0); have e0 := s_rng (σ0 6 17); have e1 := s_rng (σ21 6 10); have e2 := iσ21.2.2.2.2.2.1; have e3 := s_rng (σ0 6 10); have e4 := i0.2.2.2.2.2.1; omega), iσ21, kp⟩⟩
  refine g_tableOut hF 174 d_X1_take_39 rfl (by omega) (by decide) ?_
  refine g_aload_n hF d_X1_take_174 rfl 3 rfl ?_
  refine g_callV (As := []) (rest := []) hF (c_X1_functionEnd a g r σ0 i0) (Nat.le_of_ble_eq_true rfl) mV_X1_functionEnd m_1458 (recv_ob obC_8) rfl rfl (Nat.le_of_ble_eq_true rfl) d_X1_take_175 (k_v (fun σ22 ⟨hs22, iσ22, ik22⟩ => ?_)) (fun _ _ _ h => h.elim)
  have hs22 : ((σ22 6 17).toInt = (σ0 6 17).toInt ∨ (σ22 6 17).toInt = 0) ∧ ((σ22 6 10).toInt = (σ0 6 10).toInt ∨ (σ22 6 10).toInt = 0) := hs22
  have kp : Keep [(4, 1), (5, 1), (5, 7), (5, 9), (6, 3), (6, 4), (6, 5), (6, 6), (6, 7), (6, 10), (6, 15), (6, 17), (7, 7), (8, 6), (8, 7), (8, 9), (8, 10), (8, 11), (8, 12), (8, 13), (8, 14), (8, 15), (8, 16)] [17, 24, 25, 26, 27, 28, 29, 30, 31, 32, 33, 38, 39, 40, 41, 42, 43, 44, 45, 48] σ0 σ22 := keep_c kp ik22 (by decide) (by decide)
  exact g_vret hF rfl d_X1_take_178 ⟨rfl, rfl, rfl, ⟨(by show ((σ22 6 17).toInt = (σ0 6 17).toInt ∨ (σ22 6 17).toInt = 0 ∨ (σ22 6 17).toInt = 1) ∧ ((σ22 6 10).toInt ≤ (σ0 6 10).toInt + 1 ∨ (σ22 6 10).toInt = 0); have e0 := s_rng (σ22 6 17); have e1 := s_rng (σ0 6 17); have e2 := s_rng (σ22 6 10); have e3 := iσ22.2.2.2.2.2.1; have e4 := s_rng (σ0 6 10); have e5 := i0.2.2.2.2.2.1; omega), iσ22, kp⟩⟩
set_option maxHeartbeats 4000000 in
set_option maxRecDepth 100000 in
theorem c_X10_token (a : Nat → Nat) (g : Nat → Nat → Int32) (r : Nat → Nat) (σ0 : St) (i0 : Inv σ0) (l : Launch) (D : va_G) (cy : Nat → ClassId) : Ct l D cy SC r (EC a g) y_X10_token (Cond.code y_X10_token b_X10_token 2 (some .boolean)) 7 [.ref (r 2)] σ0 Z0 [] (QI (fun v9 σ9 => (v9 = 0 ∨ v9 = 1) ∧ (Inv σ9 ∧ Keep [(2, 2), (2, 4)] [13, 14, 15, 16] σ0 σ9))) QF := by
  refine Ct_of (EC_ok a g) (by decide) (Nat.le_of_ble_eq_true rfl) (by decide) (fun X hnn hF => ?_)
  show G SC r X σ0 Z0 [] [(0, .ref (r 2))] [] 0
  have kp : Keep [(2, 2), (2, 4)] [13, 14, 15, 16] σ0 σ0 := keep_rf
  refine g_aload_n hF d_X10_token_0 rfl 0 rfl ?_
  refine g_aload_n hF d_X10_token_1 rfl 0 rfl ?_
  refine g_get (v := .int (σ0 2 2)) hF 2 obC_2 (by decide) m_44 rfl d_X10_token_2 ?_
  refine g_callV (As := [.int (σ0 2 2)]) (rest := []) hF (c_X10_byteAt a g r σ0 (σ0 2 2) i0) (Nat.le_of_ble_eq_true rfl) mV_X10_byteAt m_806 (recv_ob obC_2) rfl rfl (Nat.le_of_ble_eq_true rfl) d_X10_token_5 (k_rop (fun r1 hp1 => ?_)) (fun _ _ _ h => h.elim)
  have hp1 : 0 ≤ r1.toInt → (0 ≤ (σ0 2 2).toInt ∧ (σ0 2 2).toInt < 16000) := hp1
  refine g_istore_n hF [(1, .int r1), (0, .ref (r 2))] d_X10_token_8 rfl hnn (by decide) rfl ?_
  refine g_iload_n hF d_X10_token_9 rfl 0 rfl ?_
  refine g_if_ge hF 23 d_X10_token_10 (by decide) rfl (fun c2_10 => ?_) (fun c2_10 => ?_)
  · -- taken at 10
    refine g_iload_n hF d_X10_token_23 rfl 0 rfl ?_
    refine g_callS (As := [.int r1]) (rest := []) hF (c_X10_isLetter a g r σ0 r1 i0) (Nat.le_of_ble_eq_true rfl) mS_X10_isLetter m_833 rfl rfl (Nat.le_of_ble_eq_true rfl) d_X10_token_24 (k_roz (fun r3 hz3 => ?_)) (fun _ _ _ h => h.elim)
    refine g_if_eq hF 35 d_X10_token_27 (by decide) rfl (fun c4_27 => ?_) (fun c4_27 => ?_)
    · -- taken at 27
      refine g_iload_n hF d_X10_token_35 rfl 0 rfl ?_
      refine g_callS (As := [.int r1]) (rest := []) hF (c_X10_isDigit a g r σ0 r1 i0) (Nat.le_of_ble_eq_true rfl) mS_X10_isDigit m_840 rfl rfl (Nat.le_of_ble_eq_true rfl) d_X10_token_36 (k_roz (fun r5 hz5 => ?_)) (fun _ _ _ h => h.elim)
      refine g_if_eq hF 91 d_X10_token_39 (by decide) rfl (fun c6_39 => ?_) (fun c6_39 => ?_)
      · -- taken at 39
        refine g_iload_n hF d_X10_token_91 rfl 0 rfl ?_
        refine g_bipush hF (v := 39) d_X10_token_92 (by decide) ?_
        refine g_icmp_ne (yv := 39) hF 102 d_X10_token_94 (by decide) rfl (by decide) (fun c7_94 => ?_) (fun c7_94 => ?_)
        · -- taken at 94
          refine g_iload_n hF d_X10_token_102 rfl 0 rfl ?_
          refine g_bipush hF (v := 34) d_X10_token_103 (by decide) ?_
          refine g_icmp_ne (yv := 34) hF 115 d_X10_token_105 (by decide) rfl (by decide) (fun c8_105 => ?_) (fun c8_105 => ?_)
          · -- taken at 105
            refine g_aload_n hF d_X10_token_115 rfl 1 rfl ?_
            refine g_callV (As := []) (rest := []) hF (c_X10_sign a g r σ0 (by show (σ0 2 2).toInt < 16000; have e0 := s_rng (σ0 2 2); have e1 := i0.2.2.2.2.1; have e2 := s_rng r1; have e3 : (0 : Int32).toInt = 0 := (by decide); have e4 := s_rng r3; have e5 := s_rng r5; have e6 : (39 : Int32).toInt = 39 := (by decide); have e7 : (34 : Int32).toInt = 34 := (by decide); omega) i0) (Nat.le_of_ble_eq_true rfl) mV_X10_sign m_887 (recv_ob obC_2) rfl rfl (Nat.le_of_ble_eq_true rfl) d_X10_token_116 (k_i (fun r9 σ9 ⟨hz9, iσ9, ik9⟩ => ?_)) (fun _ _ _ h => h.elim)
            have kp : Keep [(2, 2), (2, 4)] [13, 14, 15, 16] σ0 σ9 := keep_c kp ik9 (by decide) (by decide)
            exact g_zret hF rfl (k_nz hz9) d_X10_token_119 ⟨rfl, rfl, r9, rfl, hz9, ⟨iσ9, kp⟩⟩
          · -- not taken at 105
            refine g_aload_n hF d_X10_token_108 rfl 1 rfl ?_
            refine g_callV (As := []) (rest := []) hF (c_X10_string a g r σ0 (by show (σ0 2 2).toInt < 16000; have e0 := s_rng (σ0 2 2); have e1 := i0.2.2.2.2.1; have e2 := s_rng r1; have e3 : (0 : Int32).toInt = 0 := (by decide); have e4 := s_rng r3; have e5 := s_rng r5; have e6 : (39 : Int32).toInt = 39 := (by decide); have e7 : (34 : Int32).toInt = 34 := (by decide); omega) i0) (Nat.le_of_ble_eq_true rfl) mV_X10_string m_883 (recv_ob obC_2) rfl rfl (Nat.le_of_ble_eq_true rfl) d_X10_token_109 (k_i (fun r10 σ10 ⟨hz10, iσ10, ik10⟩ => ?_)) (fun _ _ _ h => h.elim)
            have kp : Keep [(2, 2), (2, 4)] [13, 14, 15, 16] σ0 σ10 := keep_c kp ik10 (by decide) (by decide)
            refine g_goto hF 119 d_X10_token_112 (by decide) ?_
            exact g_zret hF rfl (k_nz hz10) d_X10_token_119 ⟨rfl, rfl, r10, rfl, hz10, ⟨iσ10, kp⟩⟩
        · -- not taken at 94
          refine g_aload_n hF d_X10_token_97 rfl 1 rfl ?_
          refine g_callV (As := []) (rest := []) hF (c_X10_character a g r σ0 (by show (σ0 2 2).toInt < 16000; have e0 := s_rng (σ0 2 2); have e1 := i0.2.2.2.2.1; have e2 := s_rng r1; have e3 : (0 : Int32).toInt = 0 := (by decide); have e4 := s_rng r3; have e5 := s_rng r5; have e6 : (39 : Int32).toInt = 39 := (by decide); omega) i0) (Nat.le_of_ble_eq_true rfl) mV_X10_character m_871 (recv_ob obC_2) rfl rfl (Nat.le_of_ble_eq_true rfl) d_X10_token_98 (k_i (fun r11 σ11 ⟨hz11, iσ11, ik11⟩ => ?_)) (fun _ _ _ h => h.elim)
          have kp : Keep [(2, 2), (2, 4)] [13, 14, 15, 16] σ0 σ11 := keep_c kp ik11 (by decide) (by decide)
          exact g_zret hF rfl (k_nz hz11) d_X10_token_101 ⟨rfl, rfl, r11, rfl, hz11, ⟨iσ11, kp⟩⟩
      · -- not taken at 39
        refine g_iload_n hF d_X10_token_42 rfl 0 rfl ?_
        refine g_bipush hF (v := 48) d_X10_token_43 (by decide) ?_
        refine g_icmp_ne (yv := 48) hF 86 d_X10_token_45 (by decide) rfl (by decide) (fun c12_45 => ?_) (fun c12_45 => ?_)
        · -- taken at 45
          refine g_aload_n hF d_X10_token_86 rfl 1 rfl ?_
          refine g_callV (As := []) (rest := []) hF (c_X10_digits a g r σ0 (by show (σ0 2 2).toInt < 16000; have e0 := s_rng (σ0 2 2); have e1 := i0.2.2.2.2.1; have e2 := s_rng r1; have e3 : (0 : Int32).toInt = 0 := (by decide); have e4 := s_rng r3; have e5 := s_rng r5; have e6 : (48 : Int32).toInt = 48 := (by decide); omega) i0) (Nat.le_of_ble_eq_true rfl) mV_X10_digits m_861 (recv_ob obC_2) rfl rfl (Nat.le_of_ble_eq_true rfl) d_X10_token_87 (k_i (fun r13 σ13 ⟨hz13, iσ13, ik13⟩ => ?_)) (fun _ _ _ h => h.elim)
          have kp : Keep [(2, 2), (2, 4)] [13, 14, 15, 16] σ0 σ13 := keep_c kp ik13 (by decide) (by decide)
          exact g_zret hF rfl (k_nz hz13) d_X10_token_90 ⟨rfl, rfl, r13, rfl, hz13, ⟨iσ13, kp⟩⟩
        · -- not taken at 45
          refine g_aload_n hF d_X10_token_48 rfl 1 rfl ?_
          refine g_aload_n hF d_X10_token_49 rfl 1 rfl ?_
          refine g_get (v := .int (σ0 2 2)) hF 2 obC_2 (by decide) m_44 rfl d_X10_token_50 ?_
          refine g_iconst hF (v := 1) d_X10_token_53 (by decide) ?_
          refine g_iadd hF d_X10_token_54 ?_
          refine g_callV (As := [.int ((σ0 2 2) + 1)]) (rest := []) hF (c_X10_byteAt a g r σ0 ((σ0 2 2) + 1) i0) (Nat.le_of_ble_eq_true rfl) mV_X10_byteAt m_806 (recv_ob obC_2) rfl rfl (Nat.le_of_ble_eq_true rfl) d_X10_token_55 (k_rop (fun r14 hp14 => ?_)) (fun _ _ _ h => h.elim)
          have hp14 : 0 ≤ r14.toInt → (0 ≤ ((σ0 2 2) + 1).toInt ∧ ((σ0 2 2) + 1).toInt < 16000) := hp14
          refine g_bipush hF (v := 120) d_X10_token_58 (by decide) ?_
          refine g_icmp_ne (yv := 120) hF 86 d_X10_token_60 (by decide) rfl (by decide) (fun c15_60 => ?_) (fun c15_60 => ?_)
          · -- taken at 60
            refine g_aload_n hF d_X10_token_86 rfl 1 rfl ?_
            refine g_callV (As := []) (rest := []) hF (c_X10_digits a g r σ0 (by show (σ0 2 2).toInt < 16000; have e0 := s_rng (σ0 2 2); have e1 := i0.2.2.2.2.1; have e2 := s_rng r1; have e3 : (0 : Int32).toInt = 0 := (by decide); have e4 := s_rng r3; have e5 := s_rng r5; have e6 : (48 : Int32).toInt = 48 := (by decide); have e7 := s_rng r14; have e8 : (1 : Int32).toInt = 1 := (by decide); obtain ⟨k9, e9⟩ := s_add (σ0 2 2) (1 : Int32); have e9a := s_rng ((σ0 2 2) + 1); have e11 : (120 : Int32).toInt = 120 := (by decide); omega) i0) (Nat.le_of_ble_eq_true rfl) mV_X10_digits m_861 (recv_ob obC_2) rfl rfl (Nat.le_of_ble_eq_true rfl) d_X10_token_87 (k_i (fun r16 σ16 ⟨hz16, iσ16, ik16⟩ => ?_)) (fun _ _ _ h => h.elim)
            have kp : Keep [(2, 2), (2, 4)] [13, 14, 15, 16] σ0 σ16 := keep_c kp ik16 (by decide) (by decide)
            exact g_zret hF rfl (k_nz hz16) d_X10_token_90 ⟨rfl, rfl, r16, rfl, hz16, ⟨iσ16, kp⟩⟩
          · -- not taken at 60
            refine g_aload_n hF d_X10_token_63 rfl 1 rfl ?_
            refine g_aload_n hF d_X10_token_64 rfl 1 rfl ?_
            refine g_get (v := .int (σ0 2 2)) hF 2 obC_2 (by decide) m_44 rfl d_X10_token_65 ?_
            refine g_iconst hF (v := 2) d_X10_token_68 (by decide) ?_
            refine g_iadd hF d_X10_token_69 ?_
            refine g_callV (As := [.int ((σ0 2 2) + 2)]) (rest := []) hF (c_X10_byteAt a g r σ0 ((σ0 2 2) + 2) i0) (Nat.le_of_ble_eq_true rfl) mV_X10_byteAt m_806 (recv_ob obC_2) rfl rfl (Nat.le_of_ble_eq_true rfl) d_X10_token_70 (k_rop (fun r17 hp17 => ?_)) (fun _ _ _ h => h.elim)
            have hp17 : 0 ≤ r17.toInt → (0 ≤ ((σ0 2 2) + 2).toInt ∧ ((σ0 2 2) + 2).toInt < 16000) := hp17
            refine g_callS (As := [.int r17]) (rest := []) hF (c_X10_sixteenth a g r σ0 r17 i0) (Nat.le_of_ble_eq_true rfl) mS_X10_sixteenth m_854 rfl rfl (Nat.le_of_ble_eq_true rfl) d_X10_token_73 (k_ro (fun r18 => ?_)) (fun _ _ _ h => h.elim)
            refine g_if_lt hF 86 d_X10_token_76 (by decide) rfl (fun c19_76 => ?_) (fun c19_76 => ?_)
            · -- taken at 76
              refine g_aload_n hF d_X10_token_86 rfl 1 rfl ?_
              refine g_callV (As := []) (rest := []) hF (c_X10_digits a g r σ0 (by show (σ0 2 2).toInt < 16000; have e0 := s_rng (σ0 2 2); have e1 := i0.2.2.2.2.1; have e2 := s_rng r1; have e3 : (0 : Int32).toInt = 0 := (by decide); have e4 := s_rng r3; have e5 := s_rng r5; have e6 : (48 : Int32).toInt = 48 := (by decide); have e7 := s_rng r14; have e8 : (1 : Int32).toInt = 1 := (by decide); obtain ⟨k9, e9⟩ := s_add (σ0 2 2) (1 : Int32); have e9a := s_rng ((σ0 2 2) + 1); have e11 : (120 : Int32).toInt = 120 := (by decide); have e12 := s_rng r17; have e13 : (2 : Int32).toInt = 2 := (by decide); obtain ⟨k14, e14⟩ := s_add (σ0 2 2) (2 : Int32); have e14a := s_rng ((σ0 2 2) + 2); have e16 := s_rng r18; omega) i0) (Nat.le_of_ble_eq_true rfl) mV_X10_digits m_861 (recv_ob obC_2) rfl rfl (Nat.le_of_ble_eq_true rfl) d_X10_token_87 (k_i (fun r20 σ20 ⟨hz20, iσ20, ik20⟩ => ?_)) (fun _ _ _ h => h.elim)
              have kp : Keep [(2, 2), (2, 4)] [13, 14, 15, 16] σ0 σ20 := keep_c kp ik20 (by decide) (by decide)
              exact g_zret hF rfl (k_nz hz20) d_X10_token_90 ⟨rfl, rfl, r20, rfl, hz20, ⟨iσ20, kp⟩⟩
            · -- not taken at 76
              refine g_aload_n hF d_X10_token_79 rfl 1 rfl ?_
              refine g_callV (As := []) (rest := []) hF (c_X10_sixteens a g r σ0 (by show (σ0 2 2).toInt < 16000; have e0 := s_rng (σ0 2 2); have e1 := i0.2.2.2.2.1; have e2 := s_rng r1; have e3 : (0 : Int32).toInt = 0 := (by decide); have e4 := s_rng r3; have e5 := s_rng r5; have e6 : (48 : Int32).toInt = 48 := (by decide); have e7 := s_rng r14; have e8 : (1 : Int32).toInt = 1 := (by decide); obtain ⟨k9, e9⟩ := s_add (σ0 2 2) (1 : Int32); have e9a := s_rng ((σ0 2 2) + 1); have e11 : (120 : Int32).toInt = 120 := (by decide); have e12 := s_rng r17; have e13 : (2 : Int32).toInt = 2 := (by decide); obtain ⟨k14, e14⟩ := s_add (σ0 2 2) (2 : Int32); have e14a := s_rng ((σ0 2 2) + 2); have e16 := s_rng r18; omega) i0) (Nat.le_of_ble_eq_true rfl) mV_X10_sixteens m_857 (recv_ob obC_2) rfl rfl (Nat.le_of_ble_eq_true rfl) d_X10_token_80 (k_i (fun r21 σ21 ⟨hz21, iσ21, ik21⟩ => ?_)) (fun _ _ _ h => h.elim)
              have kp : Keep [(2, 2), (2, 4)] [13, 14, 15, 16] σ0 σ21 := keep_c kp ik21 (by decide) (by decide)
              refine g_goto hF 90 d_X10_token_83 (by decide) ?_
              exact g_zret hF rfl (k_nz hz21) d_X10_token_90 ⟨rfl, rfl, r21, rfl, hz21, ⟨iσ21, kp⟩⟩
    · -- not taken at 27
      refine g_aload_n hF d_X10_token_30 rfl 1 rfl ?_
      refine g_callV (As := []) (rest := []) hF (c_X10_word a g r σ0 (by show (σ0 2 2).toInt < 16000; have e0 := s_rng (σ0 2 2); have e1 := i0.2.2.2.2.1; have e2 := s_rng r1; have e3 : (0 : Int32).toInt = 0 := (by decide); have e4 := s_rng r3; omega) i0) (Nat.le_of_ble_eq_true rfl) mV_X10_word m_836 (recv_ob obC_2) rfl rfl (Nat.le_of_ble_eq_true rfl) d_X10_token_31 (k_i (fun r22 σ22 ⟨hz22, iσ22, ik22⟩ => ?_)) (fun _ _ _ h => h.elim)
      have kp : Keep [(2, 2), (2, 4)] [13, 14, 15, 16] σ0 σ22 := keep_c kp ik22 (by decide) (by decide)
      exact g_zret hF rfl (k_nz hz22) d_X10_token_34 ⟨rfl, rfl, r22, rfl, hz22, ⟨iσ22, kp⟩⟩
  · -- not taken at 10
    refine g_aload_n hF d_X10_token_13 rfl 1 rfl ?_
    refine g_iconst hF (v := 0) d_X10_token_14 (by decide) ?_
    refine g_iconst hF (v := 0) d_X10_token_15 (by decide) ?_
    refine g_iconst hF (v := 0) d_X10_token_16 (by decide) ?_
    refine g_callV (As := [.int 0, .int 0, .int 0]) (rest := []) hF (c_X10_add a g r σ0 (0 : Int32) (0 : Int32) (0 : Int32) (by show 0 ≤ (σ0 2 2).toInt + 0 ∧ (σ0 2 2).toInt + 0 ≤ 40000 ∧ (0 = 2 → 0 ≤ 0 ∧ 0 ≤ 16001); have e0 : (0 : Int32).toInt = 0 := (by decide); have e1 := s_rng (σ0 2 2); have e2 := i0.2.2.2.2.1; have e3 := s_rng r1; omega) i0) (Nat.le_of_ble_eq_true rfl) mV_X10_add m_821 (recv_ob obC_2) rfl rfl (Nat.le_of_ble_eq_true rfl) d_X10_token_17 (k_i (fun r23 σ23 ⟨hz23, iσ23, ik23⟩ => ?_)) (fun _ _ _ h => h.elim)
    have kp : Keep [(2, 2), (2, 4)] [13, 14, 15, 16] σ0 σ23 := keep_c kp ik23 (by decide) (by decide)
    refine g_pop hF d_X10_token_20 rfl ?_
    refine g_iconst hF (v := 0) d_X10_token_21 (by decide) ?_
    exact g_zret hF rfl (k_nz (Or.inl rfl)) d_X10_token_22 ⟨rfl, rfl, (0 : Int32), rfl, (Or.inl rfl), ⟨iσ23, kp⟩⟩
set_option maxHeartbeats 4000000 in
set_option maxRecDepth 100000 in
theorem c_X10_scan (a : Nat → Nat) (g : Nat → Nat → Int32) (r : Nat → Nat) (σ0 : St) (a1 : Int32) (hpre : 0 ≤ a1.toInt ∧ a1.toInt ≤ 16000) (i0 : Inv σ0) (l : Launch) (D : va_G) (cy : Nat → ClassId) : Ct l D cy SC r (EC a g) y_X10_scan (Cond.code y_X10_scan b_X10_scan 4 none) 8 [.ref (r 2), .int a1] σ0 Z0 [] (QV (fun σ9 => (Inv σ9 ∧ Keep [(2, 1), (2, 2), (2, 3), (2, 4)] [13, 14, 15, 16] σ0 σ9))) QF := by
  refine Ct_of (EC_ok a g) (by decide) (Nat.le_of_ble_eq_true rfl) (by decide) (fun X hnn hF => ?_)
  show G SC r X σ0 Z0 [] [(0, .ref (r 2)), (1, .int a1)] [] 0
  have b24 : ∀ (N : Nat) (σ : St) (x1 : Int32) (x2 : Int32) (x3 : Int32) , upm x3 = N → Inv σ → Keep [(2, 1), (2, 2), (2, 3), (2, 4)] [13, 14, 15, 16] σ0 σ → x2 = 0 ∨ x2 = 1 → G SC r X σ Z0 [] [(0, .ref (r 2)), (1, .int x1), (2, .int x2), (3, .int x3)] [] 24 := by
    intro M24
    induction M24 using Nat.strongRecOn with
    | _ M24 ih24 =>
      intro σ x1 x2 x3 N24 inv kp z_x2
      refine g_iload_n hF d_X10_scan_24 rfl 3 rfl ?_
      refine g_aload_n hF d_X10_scan_25 rfl 0 rfl ?_
      refine g_get (v := .int (σ 2 1)) hF 1 obC_2 (by decide) m_43 rfl d_X10_scan_26 ?_
      refine g_icmp_gt hF 62 d_X10_scan_29 (by decide) rfl rfl (fun c1_29 => ?_) (fun c1_29 => ?_)
      · -- taken at 29
        exact g_vret hF rfl d_X10_scan_62 ⟨rfl, rfl, rfl, ⟨inv, kp⟩⟩
      · -- not taken at 29
        refine g_iload_n hF d_X10_scan_32 rfl 2 rfl ?_
        refine g_if_eq hF 62 d_X10_scan_33 (by decide) rfl (fun c2_33 => ?_) (fun c2_33 => ?_)
        · -- taken at 33
          exact g_vret hF rfl d_X10_scan_62 ⟨rfl, rfl, rfl, ⟨inv, kp⟩⟩
        · -- not taken at 33
          refine g_aload_n hF d_X10_scan_36 rfl 0 rfl ?_
          refine g_callV (As := []) (rest := []) hF (c_X10_skipBlanks a g r σ inv) (Nat.le_of_ble_eq_true rfl) mV_X10_skipBlanks m_802 (recv_ob obC_2) rfl rfl (Nat.le_of_ble_eq_true rfl) d_X10_scan_37 (k_i (fun r3 σ3 ⟨hz3, iσ3, ik3⟩ => ?_)) (fun _ _ _ h => h.elim)
          have kp : Keep [(2, 1), (2, 2), (2, 3), (2, 4)] [13, 14, 15, 16] σ0 σ3 := keep_c kp ik3 (by decide) (by decide)
          refine g_if_eq hF 54 d_X10_scan_40 (by decide) rfl (fun c4_40 => ?_) (fun c4_40 => ?_)
          · -- taken at 40
            refine g_iconst hF (v := 0) d_X10_scan_54 (by decide) ?_
            refine g_istore_n hF [(2, .int 0), (0, .ref (r 2)), (1, .int x1), (3, .int x3)] d_X10_scan_55 rfl hnn (by decide) rfl ?_
            refine g_iinc hF (x3 + 1) [(3, .int (x3 + 1)), (2, .int 0), (0, .ref (r 2)), (1, .int x1)] d_X10_scan_56 3 rfl rfl hnn (by decide) rfl ?_
            refine g_goto hF 24 d_X10_scan_59 (by decide) ?_
            exact g_sub (L' := [(0, .ref (r 2)), (1, .int x1), (2, .int 0), (3, .int (x3 + 1))]) [2, 3, 1, 0] rfl (ih24 _ (by show upm (x3 + 1) < _; have hN := N24; unfold upm at hN ⊢; have e0 := s_rng x3; have e1 : (1 : Int32).toInt = 1 := (by decide); obtain ⟨k2, e2⟩ := s_add x3 (1 : Int32); have e2a := s_rng (x3 + 1); have e4 := s_rng (σ 2 1); have e5 := inv.2.2.2.2.2.2.2.2.1; omega) σ3 x1 (0 : Int32) (x3 + 1) rfl iσ3 kp (Or.inl rfl))
          · -- not taken at 40
            refine g_aload_n hF d_X10_scan_43 rfl 0 rfl ?_
            refine g_callV (As := []) (rest := []) hF (c_X10_token a g r σ3 iσ3) (Nat.le_of_ble_eq_true rfl) mV_X10_token m_829 (recv_ob obC_2) rfl rfl (Nat.le_of_ble_eq_true rfl) d_X10_scan_44 (k_i (fun r5 σ5 ⟨hz5, iσ5, ik5⟩ => ?_)) (fun _ _ _ h => h.elim)
            have kp : Keep [(2, 1), (2, 2), (2, 3), (2, 4)] [13, 14, 15, 16] σ0 σ5 := keep_c kp ik5 (by decide) (by decide)
            refine g_if_eq hF 54 d_X10_scan_47 (by decide) rfl (fun c6_47 => ?_) (fun c6_47 => ?_)
            · -- taken at 47
              refine g_iconst hF (v := 0) d_X10_scan_54 (by decide) ?_
              refine g_istore_n hF [(2, .int 0), (0, .ref (r 2)), (1, .int x1), (3, .int x3)] d_X10_scan_55 rfl hnn (by decide) rfl ?_
              refine g_iinc hF (x3 + 1) [(3, .int (x3 + 1)), (2, .int 0), (0, .ref (r 2)), (1, .int x1)] d_X10_scan_56 3 rfl rfl hnn (by decide) rfl ?_
              refine g_goto hF 24 d_X10_scan_59 (by decide) ?_
              exact g_sub (L' := [(0, .ref (r 2)), (1, .int x1), (2, .int 0), (3, .int (x3 + 1))]) [2, 3, 1, 0] rfl (ih24 _ (by show upm (x3 + 1) < _; have hN := N24; unfold upm at hN ⊢; have e0 := s_rng x3; have e1 : (1 : Int32).toInt = 1 := (by decide); obtain ⟨k2, e2⟩ := s_add x3 (1 : Int32); have e2a := s_rng (x3 + 1); have e4 := s_rng (σ 2 1); have e5 := inv.2.2.2.2.2.2.2.2.1; omega) σ5 x1 (0 : Int32) (x3 + 1) rfl iσ5 kp (Or.inl rfl))
            · -- not taken at 47
              refine g_iconst hF (v := 1) d_X10_scan_50 (by decide) ?_
              refine g_goto hF 55 d_X10_scan_51 (by decide) ?_
              refine g_istore_n hF [(2, .int 1), (0, .ref (r 2)), (1, .int x1), (3, .int x3)] d_X10_scan_55 rfl hnn (by decide) rfl ?_
              refine g_iinc hF (x3 + 1) [(3, .int (x3 + 1)), (2, .int 1), (0, .ref (r 2)), (1, .int x1)] d_X10_scan_56 3 rfl rfl hnn (by decide) rfl ?_
              refine g_goto hF 24 d_X10_scan_59 (by decide) ?_
              exact g_sub (L' := [(0, .ref (r 2)), (1, .int x1), (2, .int 1), (3, .int (x3 + 1))]) [2, 3, 1, 0] rfl (ih24 _ (by show upm (x3 + 1) < _; have hN := N24; unfold upm at hN ⊢; have e0 := s_rng x3; have e1 : (1 : Int32).toInt = 1 := (by decide); obtain ⟨k2, e2⟩ := s_add x3 (1 : Int32); have e2a := s_rng (x3 + 1); have e4 := s_rng (σ 2 1); have e5 := inv.2.2.2.2.2.2.2.2.1; omega) σ5 x1 (1 : Int32) (x3 + 1) rfl iσ5 kp (Or.inr rfl))
  have kp : Keep [(2, 1), (2, 2), (2, 3), (2, 4)] [13, 14, 15, 16] σ0 σ0 := keep_rf
  refine g_aload_n hF d_X10_scan_0 rfl 0 rfl ?_
  refine g_iload_n hF d_X10_scan_1 rfl 1 rfl ?_
  refine g_put (v := a1) hF 1 obC_2 (by decide) m_43 rfl rfl rfl d_X10_scan_2 ?_
  have kp : Keep [(2, 1), (2, 2), (2, 3), (2, 4)] [13, 14, 15, 16] σ0 (upC σ0 2 1 a1) := keep_f kp (by decide)
  have p7 : 0 ≤ a1.toInt ∧ a1.toInt ≤ 16000 := (by have e0 := s_rng a1; omega)
  refine g_aload_n hF d_X10_scan_5 rfl 0 rfl ?_
  refine g_iconst hF (v := 0) d_X10_scan_6 (by decide) ?_
  refine g_put (v := 0) hF 2 obC_2 (by decide) m_44 rfl rfl rfl d_X10_scan_7 ?_
  have kp : Keep [(2, 1), (2, 2), (2, 3), (2, 4)] [13, 14, 15, 16] σ0 (upC (upC σ0 2 1 a1) 2 2 0) := keep_f kp (by decide)
  have p8 : 0 ≤ (0 : Int32).toInt ∧ (0 : Int32).toInt ≤ 40000 := (by have e0 : (0 : Int32).toInt = 0 := (by decide); omega)
  refine g_aload_n hF d_X10_scan_10 rfl 0 rfl ?_
  refine g_iconst hF (v := 1) d_X10_scan_11 (by decide) ?_
  refine g_put (v := 1) hF 3 obC_2 (by decide) m_45 rfl rfl rfl d_X10_scan_12 ?_
  have kp : Keep [(2, 1), (2, 2), (2, 3), (2, 4)] [13, 14, 15, 16] σ0 (upC (upC (upC σ0 2 1 a1) 2 2 0) 2 3 1) := keep_f kp (by decide)
  refine g_aload_n hF d_X10_scan_15 rfl 0 rfl ?_
  refine g_iconst hF (v := 0) d_X10_scan_16 (by decide) ?_
  refine g_put (v := 0) hF 4 obC_2 (by decide) m_46 rfl rfl rfl d_X10_scan_17 ?_
  have kp : Keep [(2, 1), (2, 2), (2, 3), (2, 4)] [13, 14, 15, 16] σ0 (upC (upC (upC (upC σ0 2 1 a1) 2 2 0) 2 3 1) 2 4 0) := keep_f kp (by decide)
  refine g_iconst hF (v := 1) d_X10_scan_20 (by decide) ?_
  refine g_istore_n hF [(2, .int 1), (0, .ref (r 2)), (1, .int a1)] d_X10_scan_21 rfl hnn (by decide) rfl ?_
  refine g_iconst hF (v := 0) d_X10_scan_22 (by decide) ?_
  refine g_istore_n hF [(3, .int 0), (2, .int 1), (0, .ref (r 2)), (1, .int a1)] d_X10_scan_23 rfl hnn (by decide) rfl ?_
  have j9 : Inv (upC (upC (upC (upC σ0 2 1 a1) 2 2 0) 2 3 1) 2 4 0) := ⟨i0.1, i0.2.1, i0.2.2.1, i0.2.2.2.1, p8, i0.2.2.2.2.2.1, i0.2.2.2.2.2.2.1, i0.2.2.2.2.2.2.2.1, p7, i0.2.2.2.2.2.2.2.2.2.1, i0.2.2.2.2.2.2.2.2.2.2.1, i0.2.2.2.2.2.2.2.2.2.2.2.1, i0.2.2.2.2.2.2.2.2.2.2.2.2.1, i0.2.2.2.2.2.2.2.2.2.2.2.2.2.1, i0.2.2.2.2.2.2.2.2.2.2.2.2.2.2.1, i0.2.2.2.2.2.2.2.2.2.2.2.2.2.2.2.1, i0.2.2.2.2.2.2.2.2.2.2.2.2.2.2.2.2.1, i0.2.2.2.2.2.2.2.2.2.2.2.2.2.2.2.2.2.1, i0.2.2.2.2.2.2.2.2.2.2.2.2.2.2.2.2.2.2.1, i0.2.2.2.2.2.2.2.2.2.2.2.2.2.2.2.2.2.2.2⟩
  exact g_sub (L' := [(0, .ref (r 2)), (1, .int a1), (2, .int 1), (3, .int 0)]) [2, 3, 1, 0] rfl (b24 _ (upC (upC (upC (upC σ0 2 1 a1) 2 2 0) 2 3 1) 2 4 0) a1 (1 : Int32) (0 : Int32) rfl j9 kp (Or.inr rfl))
