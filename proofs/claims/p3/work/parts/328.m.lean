set_option maxHeartbeats 4000000 in
set_option maxRecDepth 100000 in
theorem c_X3_statement (a : Nat → Nat) (g : Nat → Nat → Int32) (r : Nat → Nat) (k : Nat) (σ0 : St) (a1 : Int32) (ih : 2 ≤ k → RS a g r (k - 1)) (h1 : 1 ≤ a1.toInt) (hk : a1.toInt + (k : Int) = 27) (hgp : GPS σ0) (i0 : Inv σ0) (l : Launch) (D : va_G) (cy : Nat → ClassId) : Ct l D cy SC r (EC a g) y_X3_statement (Cond.code y_X3_statement b_X3_statement 5 none) (10 * k + 361) [.ref (r 3), .int a1] σ0 Z0 [] (QV (fun σ9 => ((GPS σ9 ∧ Mo σ9 σ0) ∧ (Inv σ9 ∧ Keep [(3, 1), (3, 2), (3, 3), (3, 4), (3, 9)] [18, 19, 20, 21, 22, 23] σ0 σ9)))) QF := by
  refine Ct_of (EC_ok a g) (by decide) (Nat.le_of_ble_eq_true rfl) (by decide) (fun X hnn hF => ?_)
  show G SC r X σ0 Z0 [] [(0, .ref (r 3)), (1, .int a1)] [] 0
  have kp : Keep [(3, 1), (3, 2), (3, 3), (3, 4), (3, 9)] [18, 19, 20, 21, 22, 23] σ0 σ0 := keep_rf
  refine g_iload_n hF d_X3_statement_0 rfl 1 rfl ?_
  refine g_bipush hF (v := 25) d_X3_statement_1 (by decide) ?_
  refine g_icmp_le (yv := 25) hF 11 d_X3_statement_3 (by decide) rfl (by decide) (fun c1_3 => ?_) (fun c1_3 => ?_)
  · -- taken at 3
    refine g_aload_n hF d_X3_statement_11 rfl 0 rfl ?_
    refine g_get (v := .int (σ0 3 1)) hF 1 obC_3 (by decide) m_95 rfl d_X3_statement_12 ?_
    refine g_istore_n hF [(2, .int (σ0 3 1)), (0, .ref (r 3)), (1, .int a1)] d_X3_statement_15 rfl hnn (by decide) rfl ?_
    refine g_aload_n hF d_X3_statement_16 rfl 1 rfl ?_
    refine g_get (v := .int (σ0 3 2)) hF 2 obC_3 (by decide) m_96 rfl d_X3_statement_17 ?_
    refine (Decidable.em ((σ0 3 2).toInt = 5)).elim (fun q2_20_0 => ?_) (fun q2_20_0 => ?_)
    · refine g_tableIn (off := 145) hF 165 d_X3_statement_20 q2_20_0 (by decide) (by decide) (by decide +kernel) (by decide) ?_
      refine g_aload_n hF d_X3_statement_165 rfl 1 rfl ?_
      refine g_callV (As := []) (rest := []) hF (c_X3_advance a g r σ0 hgp.2.2 (by show -1 ≤ (σ0 3 1).toInt ∧ (σ0 3 1).toInt ≤ 16001; have hki := hgp.2.1.1; have hgz := hgp.1; have e0 := s_rng (σ0 3 1); omega) i0) (Nat.le_of_ble_eq_true rfl) mV_X3_advance m_899 (recv_ob obC_3) rfl rfl (Nat.le_of_ble_eq_true rfl) d_X3_statement_166 (k_v (fun σ3 ⟨⟨hgp3, hgm3⟩, hs3, iσ3, ik3⟩ => ?_)) (fun _ _ _ h => h.elim)
      have hs3 : (σ3 3 1).toInt = (σ0 3 1).toInt + 1 := hs3
      have hmo3 : Mo σ3 σ0 := fun h9 => mo_e (show σ0 3 3 = σ0 3 3 from rfl) (hgm3 h9)
      have kp : Keep [(3, 1), (3, 2), (3, 3), (3, 4), (3, 9)] [18, 19, 20, 21, 22, 23] σ0 σ3 := keep_c kp ik3 (by decide) (by decide)
      refine g_aload_n hF d_X3_statement_169 rfl 1 rfl ?_
      refine g_callV (As := []) (rest := []) hF (c_X3_stars a g r σ3 hgp3 iσ3) (Nat.le_of_ble_eq_true rfl) mV_X3_stars m_911 (recv_ob obC_3) rfl rfl (Nat.le_of_ble_eq_true rfl) d_X3_statement_170 (k_i (fun r4 σ4 ⟨⟨hgp4, hgm4⟩, iσ4, ik4⟩ => ?_)) (fun _ _ _ h => h.elim)
      have hmo4 : Mo σ4 σ0 := fun h9 => mo_e (show σ3 3 3 = σ0 3 3 from (ik3 3 3 rfl rfl rfl)) (hgm4 h9)
      have kp : Keep [(3, 1), (3, 2), (3, 3), (3, 4), (3, 9)] [18, 19, 20, 21, 22, 23] σ0 σ4 := keep_c kp ik4 (by decide) (by decide)
      refine g_istore_n hF [(3, .int r4), (2, .int (σ0 3 1)), (0, .ref (r 3)), (1, .int a1)] d_X3_statement_173 rfl hnn (by decide) rfl ?_
      refine g_aload_n hF d_X3_statement_174 rfl 2 rfl ?_
      refine g_get (v := .int (σ4 3 1)) hF 1 obC_3 (by decide) m_95 rfl d_X3_statement_175 ?_
      refine g_istore hF [(4, .int (σ4 3 1)), (3, .int r4), (2, .int (σ0 3 1)), (0, .ref (r 3)), (1, .int a1)] d_X3_statement_178 hnn (by decide) rfl ?_
      refine g_aload_n hF d_X3_statement_180 rfl 3 rfl ?_
      refine g_iconst hF (v := 2) d_X3_statement_181 (by decide) ?_
      have hkk5 : ∀ z, σ4 14 z = σ0 14 z := fun z => kp 14 z rfl rfl rfl
      refine g_callV (As := [.int 2]) (rest := []) hF (c_X3_expect a g r σ4 (2 : Int32) hgp4 (by show ¬ (2 = 0 ∨ 2 = -1); have e0 : (2 : Int32).toInt = 2 := (by decide); omega) iσ4) (Nat.le_of_ble_eq_true rfl) mV_X3_expect m_903 (recv_ob obC_3) rfl rfl (Nat.le_of_ble_eq_true rfl) d_X3_statement_182 (k_v (fun σ5 ⟨⟨hgp5, hgm5⟩, hs5, iσ5, ik5⟩ => ?_)) (fun _ _ _ h => h.elim)
      have hs5 : (σ5 3 3).toInt < 0 → (σ4 3 2).toInt = 2 := hs5
      have hmo5 : Mo σ5 σ4 := fun h9 => mo_e (show σ4 3 3 = σ4 3 3 from rfl) (hgm5 h9)
      have hnn5 : (σ5 3 3).toInt < 0 → NM σ0 (σ4 3 1) := fun h9 => nm_back hkk5 (hgp4.2.1.2 (hs5 h9))
      have kp : Keep [(3, 1), (3, 2), (3, 3), (3, 4), (3, 9)] [18, 19, 20, 21, 22, 23] σ0 σ5 := keep_c kp ik5 (by decide) (by decide)
      refine g_aload_n hF d_X3_statement_185 rfl 3 rfl ?_
      refine g_iload hF d_X3_statement_186 0 rfl ?_
      refine g_iload_n hF d_X3_statement_188 rfl 1 rfl ?_
      refine g_iconst hF (v := 0) d_X3_statement_189 (by decide) ?_
      refine g_callV (As := [.int (σ4 3 1), .int r4, .int 0]) (rest := []) hF (c_X3_variables a g r σ5 (σ4 3 1) r4 (0 : Int32) (fun h9 => (nm_keep (fun z => kp 14 z rfl rfl rfl) (hnn5 (mo_e (show σ5 3 3 = σ5 3 3 from rfl) h9)))) hgp5 iσ5) (Nat.le_of_ble_eq_true rfl) mV_X3_variables m_915 (recv_ob obC_3) rfl rfl (Nat.le_of_ble_eq_true rfl) d_X3_statement_190 (k_v (fun σ6 ⟨⟨hgp6, hgm6⟩, iσ6, ik6⟩ => ?_)) (fun _ _ _ h => h.elim)
      have hmo6 : Mo σ6 σ5 := fun h9 => mo_e (show σ5 3 3 = σ5 3 3 from rfl) (hgm6 h9)
      have kp : Keep [(3, 1), (3, 2), (3, 3), (3, 4), (3, 9)] [18, 19, 20, 21, 22, 23] σ0 σ6 := keep_c kp ik6 (by decide) (by decide)
      refine g_goto hF 216 d_X3_statement_193 (by decide) ?_
      exact g_vret hF rfl d_X3_statement_216 ⟨rfl, rfl, rfl, ⟨⟨hgp6, (fun h9 => (hmo4 (hmo5 (hmo6 (mo_e (show σ6 3 3 = σ6 3 3 from rfl) h9)))))⟩, iσ6, kp⟩⟩
    refine (Decidable.em ((σ0 3 2).toInt = 6)).elim (fun q7_20_1 => ?_) (fun q7_20_1 => ?_)
    · refine g_tableIn (off := 192) hF 212 d_X3_statement_20 q7_20_1 (by decide) (by decide) (by decide +kernel) (by decide) ?_
      refine g_aload_n hF d_X3_statement_212 rfl 1 rfl ?_
      refine g_callV (As := []) (rest := []) hF (c_X3_simple a g r σ0 hgp i0) (Nat.le_of_ble_eq_true rfl) mV_X3_simple m_1032 (recv_ob obC_3) rfl rfl (Nat.le_of_ble_eq_true rfl) d_X3_statement_213 (k_v (fun σ8 ⟨⟨hgp8, hgm8⟩, iσ8, ik8⟩ => ?_)) (fun _ _ _ h => h.elim)
      have hmo8 : Mo σ8 σ0 := fun h9 => mo_e (show σ0 3 3 = σ0 3 3 from rfl) (hgm8 h9)
      have kp : Keep [(3, 1), (3, 2), (3, 3), (3, 4), (3, 9)] [18, 19, 20, 21, 22, 23] σ0 σ8 := keep_c kp ik8 (by decide) (by decide)
      exact g_vret hF rfl d_X3_statement_216 ⟨rfl, rfl, rfl, ⟨⟨hgp8, (fun h9 => (hmo8 (mo_e (show σ8 3 3 = σ8 3 3 from rfl) h9)))⟩, iσ8, kp⟩⟩
    refine (Decidable.em ((σ0 3 2).toInt = 7)).elim (fun q9_20_2 => ?_) (fun q9_20_2 => ?_)
    · refine g_tableIn (off := 192) hF 212 d_X3_statement_20 q9_20_2 (by decide) (by decide) (by decide +kernel) (by decide) ?_
      refine g_aload_n hF d_X3_statement_212 rfl 1 rfl ?_
      refine g_callV (As := []) (rest := []) hF (c_X3_simple a g r σ0 hgp i0) (Nat.le_of_ble_eq_true rfl) mV_X3_simple m_1032 (recv_ob obC_3) rfl rfl (Nat.le_of_ble_eq_true rfl) d_X3_statement_213 (k_v (fun σ10 ⟨⟨hgp10, hgm10⟩, iσ10, ik10⟩ => ?_)) (fun _ _ _ h => h.elim)
      have hmo10 : Mo σ10 σ0 := fun h9 => mo_e (show σ0 3 3 = σ0 3 3 from rfl) (hgm10 h9)
      have kp : Keep [(3, 1), (3, 2), (3, 3), (3, 4), (3, 9)] [18, 19, 20, 21, 22, 23] σ0 σ10 := keep_c kp ik10 (by decide) (by decide)
      exact g_vret hF rfl d_X3_statement_216 ⟨rfl, rfl, rfl, ⟨⟨hgp10, (fun h9 => (hmo10 (mo_e (show σ10 3 3 = σ10 3 3 from rfl) h9)))⟩, iσ10, kp⟩⟩
    refine (Decidable.em ((σ0 3 2).toInt = 8)).elim (fun q11_20_3 => ?_) (fun q11_20_3 => ?_)
    · refine g_tableIn (off := 192) hF 212 d_X3_statement_20 q11_20_3 (by decide) (by decide) (by decide +kernel) (by decide) ?_
      refine g_aload_n hF d_X3_statement_212 rfl 1 rfl ?_
      refine g_callV (As := []) (rest := []) hF (c_X3_simple a g r σ0 hgp i0) (Nat.le_of_ble_eq_true rfl) mV_X3_simple m_1032 (recv_ob obC_3) rfl rfl (Nat.le_of_ble_eq_true rfl) d_X3_statement_213 (k_v (fun σ12 ⟨⟨hgp12, hgm12⟩, iσ12, ik12⟩ => ?_)) (fun _ _ _ h => h.elim)
      have hmo12 : Mo σ12 σ0 := fun h9 => mo_e (show σ0 3 3 = σ0 3 3 from rfl) (hgm12 h9)
      have kp : Keep [(3, 1), (3, 2), (3, 3), (3, 4), (3, 9)] [18, 19, 20, 21, 22, 23] σ0 σ12 := keep_c kp ik12 (by decide) (by decide)
      exact g_vret hF rfl d_X3_statement_216 ⟨rfl, rfl, rfl, ⟨⟨hgp12, (fun h9 => (hmo12 (mo_e (show σ12 3 3 = σ12 3 3 from rfl) h9)))⟩, iσ12, kp⟩⟩
    refine (Decidable.em ((σ0 3 2).toInt = 9)).elim (fun q13_20_4 => ?_) (fun q13_20_4 => ?_)
    · refine g_tableIn (off := 176) hF 196 d_X3_statement_20 q13_20_4 (by decide) (by decide) (by decide +kernel) (by decide) ?_
      refine g_aload_n hF d_X3_statement_196 rfl 1 rfl ?_
      refine g_iload_n hF d_X3_statement_197 rfl 2 rfl ?_
      refine g_callV (As := [.int a1]) (rest := []) hF (c_X3_conditional a g r k σ0 a1 ih h1 hk (by have e0 := s_rng a1; have e1 : (1 : Int32).toInt = 1 := (by decide); have e2 : (25 : Int32).toInt = 25 := (by decide); omega) hgp (by show ¬ ((σ0 3 2).toInt = 0 ∨ (σ0 3 2).toInt = -1); have e0 := s_rng a1; have e1 := s_rng (σ0 3 2); have e2 : (1 : Int32).toInt = 1 := (by decide); have e3 : (25 : Int32).toInt = 25 := (by decide); have e4 : (9 : Int32).toInt = 9 := (by decide); omega) i0) (by omega) mV_X3_conditional m_1012 (recv_ob obC_3) rfl rfl (Nat.le_of_ble_eq_true rfl) d_X3_statement_198 (k_v (fun σ14 ⟨⟨hgp14, hgm14⟩, iσ14, ik14⟩ => ?_)) (fun _ _ _ h => h.elim)
      have hmo14 : Mo σ14 σ0 := fun h9 => mo_e (show σ0 3 3 = σ0 3 3 from rfl) (hgm14 h9)
      have kp : Keep [(3, 1), (3, 2), (3, 3), (3, 4), (3, 9)] [18, 19, 20, 21, 22, 23] σ0 σ14 := keep_c kp ik14 (by decide) (by decide)
      refine g_goto hF 216 d_X3_statement_201 (by decide) ?_
      exact g_vret hF rfl d_X3_statement_216 ⟨rfl, rfl, rfl, ⟨⟨hgp14, (fun h9 => (hmo14 (mo_e (show σ14 3 3 = σ14 3 3 from rfl) h9)))⟩, iσ14, kp⟩⟩
    refine (Decidable.em ((σ0 3 2).toInt = 10)).elim (fun q15_20_5 => ?_) (fun q15_20_5 => ?_)
    · refine g_tableIn (off := 192) hF 212 d_X3_statement_20 q15_20_5 (by decide) (by decide) (by decide +kernel) (by decide) ?_
      refine g_aload_n hF d_X3_statement_212 rfl 1 rfl ?_
      refine g_callV (As := []) (rest := []) hF (c_X3_simple a g r σ0 hgp i0) (Nat.le_of_ble_eq_true rfl) mV_X3_simple m_1032 (recv_ob obC_3) rfl rfl (Nat.le_of_ble_eq_true rfl) d_X3_statement_213 (k_v (fun σ16 ⟨⟨hgp16, hgm16⟩, iσ16, ik16⟩ => ?_)) (fun _ _ _ h => h.elim)
      have hmo16 : Mo σ16 σ0 := fun h9 => mo_e (show σ0 3 3 = σ0 3 3 from rfl) (hgm16 h9)
      have kp : Keep [(3, 1), (3, 2), (3, 3), (3, 4), (3, 9)] [18, 19, 20, 21, 22, 23] σ0 σ16 := keep_c kp ik16 (by decide) (by decide)
      exact g_vret hF rfl d_X3_statement_216 ⟨rfl, rfl, rfl, ⟨⟨hgp16, (fun h9 => (hmo16 (mo_e (show σ16 3 3 = σ16 3 3 from rfl) h9)))⟩, iσ16, kp⟩⟩
    refine (Decidable.em ((σ0 3 2).toInt = 11)).elim (fun q17_20_6 => ?_) (fun q17_20_6 => ?_)
    · refine g_tableIn (off := 184) hF 204 d_X3_statement_20 q17_20_6 (by decide) (by decide) (by decide +kernel) (by decide) ?_
      refine g_aload_n hF d_X3_statement_204 rfl 1 rfl ?_
      refine g_iload_n hF d_X3_statement_205 rfl 2 rfl ?_
      refine g_callV (As := [.int a1]) (rest := []) hF (c_X3_loop a g r k σ0 a1 ih h1 hk (by have e0 := s_rng a1; have e1 : (1 : Int32).toInt = 1 := (by decide); have e2 : (25 : Int32).toInt = 25 := (by decide); omega) hgp (by show ¬ ((σ0 3 2).toInt = 0 ∨ (σ0 3 2).toInt = -1); have e0 := s_rng a1; have e1 := s_rng (σ0 3 2); have e2 : (1 : Int32).toInt = 1 := (by decide); have e3 : (25 : Int32).toInt = 25 := (by decide); have e4 : (11 : Int32).toInt = 11 := (by decide); omega) i0) (by omega) mV_X3_loop m_1024 (recv_ob obC_3) rfl rfl (Nat.le_of_ble_eq_true rfl) d_X3_statement_206 (k_v (fun σ18 ⟨⟨hgp18, hgm18⟩, iσ18, ik18⟩ => ?_)) (fun _ _ _ h => h.elim)
      have hmo18 : Mo σ18 σ0 := fun h9 => mo_e (show σ0 3 3 = σ0 3 3 from rfl) (hgm18 h9)
      have kp : Keep [(3, 1), (3, 2), (3, 3), (3, 4), (3, 9)] [18, 19, 20, 21, 22, 23] σ0 σ18 := keep_c kp ik18 (by decide) (by decide)
      refine g_goto hF 216 d_X3_statement_209 (by decide) ?_
      exact g_vret hF rfl d_X3_statement_216 ⟨rfl, rfl, rfl, ⟨⟨hgp18, (fun h9 => (hmo18 (mo_e (show σ18 3 3 = σ18 3 3 from rfl) h9)))⟩, iσ18, kp⟩⟩
    refine (Decidable.em ((σ0 3 2).toInt = 12)).elim (fun q19_20_7 => ?_) (fun q19_20_7 => ?_)
    · refine g_tableIn (off := 184) hF 204 d_X3_statement_20 q19_20_7 (by decide) (by decide) (by decide +kernel) (by decide) ?_
      refine g_aload_n hF d_X3_statement_204 rfl 1 rfl ?_
      refine g_iload_n hF d_X3_statement_205 rfl 2 rfl ?_
      refine g_callV (As := [.int a1]) (rest := []) hF (c_X3_loop a g r k σ0 a1 ih h1 hk (by have e0 := s_rng a1; have e1 : (1 : Int32).toInt = 1 := (by decide); have e2 : (25 : Int32).toInt = 25 := (by decide); omega) hgp (by show ¬ ((σ0 3 2).toInt = 0 ∨ (σ0 3 2).toInt = -1); have e0 := s_rng a1; have e1 := s_rng (σ0 3 2); have e2 : (1 : Int32).toInt = 1 := (by decide); have e3 : (25 : Int32).toInt = 25 := (by decide); have e4 : (12 : Int32).toInt = 12 := (by decide); omega) i0) (by omega) mV_X3_loop m_1024 (recv_ob obC_3) rfl rfl (Nat.le_of_ble_eq_true rfl) d_X3_statement_206 (k_v (fun σ20 ⟨⟨hgp20, hgm20⟩, iσ20, ik20⟩ => ?_)) (fun _ _ _ h => h.elim)
      have hmo20 : Mo σ20 σ0 := fun h9 => mo_e (show σ0 3 3 = σ0 3 3 from rfl) (hgm20 h9)
      have kp : Keep [(3, 1), (3, 2), (3, 3), (3, 4), (3, 9)] [18, 19, 20, 21, 22, 23] σ0 σ20 := keep_c kp ik20 (by decide) (by decide)
      refine g_goto hF 216 d_X3_statement_209 (by decide) ?_
      exact g_vret hF rfl d_X3_statement_216 ⟨rfl, rfl, rfl, ⟨⟨hgp20, (fun h9 => (hmo20 (mo_e (show σ20 3 3 = σ20 3 3 from rfl) h9)))⟩, iσ20, kp⟩⟩
    refine (Decidable.em ((σ0 3 2).toInt = 13)).elim (fun q21_20_8 => ?_) (fun q21_20_8 => ?_)
    · refine g_tableIn (off := 184) hF 204 d_X3_statement_20 q21_20_8 (by decide) (by decide) (by decide +kernel) (by decide) ?_
      refine g_aload_n hF d_X3_statement_204 rfl 1 rfl ?_
      refine g_iload_n hF d_X3_statement_205 rfl 2 rfl ?_
      refine g_callV (As := [.int a1]) (rest := []) hF (c_X3_loop a g r k σ0 a1 ih h1 hk (by have e0 := s_rng a1; have e1 : (1 : Int32).toInt = 1 := (by decide); have e2 : (25 : Int32).toInt = 25 := (by decide); omega) hgp (by show ¬ ((σ0 3 2).toInt = 0 ∨ (σ0 3 2).toInt = -1); have e0 := s_rng a1; have e1 := s_rng (σ0 3 2); have e2 : (1 : Int32).toInt = 1 := (by decide); have e3 : (25 : Int32).toInt = 25 := (by decide); have e4 : (13 : Int32).toInt = 13 := (by decide); omega) i0) (by omega) mV_X3_loop m_1024 (recv_ob obC_3) rfl rfl (Nat.le_of_ble_eq_true rfl) d_X3_statement_206 (k_v (fun σ22 ⟨⟨hgp22, hgm22⟩, iσ22, ik22⟩ => ?_)) (fun _ _ _ h => h.elim)
      have hmo22 : Mo σ22 σ0 := fun h9 => mo_e (show σ0 3 3 = σ0 3 3 from rfl) (hgm22 h9)
      have kp : Keep [(3, 1), (3, 2), (3, 3), (3, 4), (3, 9)] [18, 19, 20, 21, 22, 23] σ0 σ22 := keep_c kp ik22 (by decide) (by decide)
      refine g_goto hF 216 d_X3_statement_209 (by decide) ?_
      exact g_vret hF rfl d_X3_statement_216 ⟨rfl, rfl, rfl, ⟨⟨hgp22, (fun h9 => (hmo22 (mo_e (show σ22 3 3 = σ22 3 3 from rfl) h9)))⟩, iσ22, kp⟩⟩
    refine (Decidable.em ((σ0 3 2).toInt = 14)).elim (fun q23_20_9 => ?_) (fun q23_20_9 => ?_)
    · refine g_tableIn (off := 192) hF 212 d_X3_statement_20 q23_20_9 (by decide) (by decide) (by decide +kernel) (by decide) ?_
      refine g_aload_n hF d_X3_statement_212 rfl 1 rfl ?_
      refine g_callV (As := []) (rest := []) hF (c_X3_simple a g r σ0 hgp i0) (Nat.le_of_ble_eq_true rfl) mV_X3_simple m_1032 (recv_ob obC_3) rfl rfl (Nat.le_of_ble_eq_true rfl) d_X3_statement_213 (k_v (fun σ24 ⟨⟨hgp24, hgm24⟩, iσ24, ik24⟩ => ?_)) (fun _ _ _ h => h.elim)
      have hmo24 : Mo σ24 σ0 := fun h9 => mo_e (show σ0 3 3 = σ0 3 3 from rfl) (hgm24 h9)
      have kp : Keep [(3, 1), (3, 2), (3, 3), (3, 4), (3, 9)] [18, 19, 20, 21, 22, 23] σ0 σ24 := keep_c kp ik24 (by decide) (by decide)
      exact g_vret hF rfl d_X3_statement_216 ⟨rfl, rfl, rfl, ⟨⟨hgp24, (fun h9 => (hmo24 (mo_e (show σ24 3 3 = σ24 3 3 from rfl) h9)))⟩, iσ24, kp⟩⟩
    refine (Decidable.em ((σ0 3 2).toInt = 15)).elim (fun q25_20_10 => ?_) (fun q25_20_10 => ?_)
    · refine g_tableIn (off := 192) hF 212 d_X3_statement_20 q25_20_10 (by decide) (by decide) (by decide +kernel) (by decide) ?_
      refine g_aload_n hF d_X3_statement_212 rfl 1 rfl ?_
      refine g_callV (As := []) (rest := []) hF (c_X3_simple a g r σ0 hgp i0) (Nat.le_of_ble_eq_true rfl) mV_X3_simple m_1032 (recv_ob obC_3) rfl rfl (Nat.le_of_ble_eq_true rfl) d_X3_statement_213 (k_v (fun σ26 ⟨⟨hgp26, hgm26⟩, iσ26, ik26⟩ => ?_)) (fun _ _ _ h => h.elim)
      have hmo26 : Mo σ26 σ0 := fun h9 => mo_e (show σ0 3 3 = σ0 3 3 from rfl) (hgm26 h9)
      have kp : Keep [(3, 1), (3, 2), (3, 3), (3, 4), (3, 9)] [18, 19, 20, 21, 22, 23] σ0 σ26 := keep_c kp ik26 (by decide) (by decide)
      exact g_vret hF rfl d_X3_statement_216 ⟨rfl, rfl, rfl, ⟨⟨hgp26, (fun h9 => (hmo26 (mo_e (show σ26 3 3 = σ26 3 3 from rfl) h9)))⟩, iσ26, kp⟩⟩
    refine (Decidable.em ((σ0 3 2).toInt = 16)).elim (fun q27_20_11 => ?_) (fun q27_20_11 => ?_)
    · refine g_tableIn (off := 192) hF 212 d_X3_statement_20 q27_20_11 (by decide) (by decide) (by decide +kernel) (by decide) ?_
      refine g_aload_n hF d_X3_statement_212 rfl 1 rfl ?_
      refine g_callV (As := []) (rest := []) hF (c_X3_simple a g r σ0 hgp i0) (Nat.le_of_ble_eq_true rfl) mV_X3_simple m_1032 (recv_ob obC_3) rfl rfl (Nat.le_of_ble_eq_true rfl) d_X3_statement_213 (k_v (fun σ28 ⟨⟨hgp28, hgm28⟩, iσ28, ik28⟩ => ?_)) (fun _ _ _ h => h.elim)
      have hmo28 : Mo σ28 σ0 := fun h9 => mo_e (show σ0 3 3 = σ0 3 3 from rfl) (hgm28 h9)
      have kp : Keep [(3, 1), (3, 2), (3, 3), (3, 4), (3, 9)] [18, 19, 20, 21, 22, 23] σ0 σ28 := keep_c kp ik28 (by decide) (by decide)
      exact g_vret hF rfl d_X3_statement_216 ⟨rfl, rfl, rfl, ⟨⟨hgp28, (fun h9 => (hmo28 (mo_e (show σ28 3 3 = σ28 3 3 from rfl) h9)))⟩, iσ28, kp⟩⟩
    refine (Decidable.em ((σ0 3 2).toInt = 17)).elim (fun q29_20_12 => ?_) (fun q29_20_12 => ?_)
    · refine g_tableIn (off := 192) hF 212 d_X3_statement_20 q29_20_12 (by decide) (by decide) (by decide +kernel) (by decide) ?_
      refine g_aload_n hF d_X3_statement_212 rfl 1 rfl ?_
      refine g_callV (As := []) (rest := []) hF (c_X3_simple a g r σ0 hgp i0) (Nat.le_of_ble_eq_true rfl) mV_X3_simple m_1032 (recv_ob obC_3) rfl rfl (Nat.le_of_ble_eq_true rfl) d_X3_statement_213 (k_v (fun σ30 ⟨⟨hgp30, hgm30⟩, iσ30, ik30⟩ => ?_)) (fun _ _ _ h => h.elim)
      have hmo30 : Mo σ30 σ0 := fun h9 => mo_e (show σ0 3 3 = σ0 3 3 from rfl) (hgm30 h9)
      have kp : Keep [(3, 1), (3, 2), (3, 3), (3, 4), (3, 9)] [18, 19, 20, 21, 22, 23] σ0 σ30 := keep_c kp ik30 (by decide) (by decide)
      exact g_vret hF rfl d_X3_statement_216 ⟨rfl, rfl, rfl, ⟨⟨hgp30, (fun h9 => (hmo30 (mo_e (show σ30 3 3 = σ30 3 3 from rfl) h9)))⟩, iσ30, kp⟩⟩
    refine (Decidable.em ((σ0 3 2).toInt = 18)).elim (fun q31_20_13 => ?_) (fun q31_20_13 => ?_)
    · refine g_tableIn (off := 192) hF 212 d_X3_statement_20 q31_20_13 (by decide) (by decide) (by decide +kernel) (by decide) ?_
      refine g_aload_n hF d_X3_statement_212 rfl 1 rfl ?_
      refine g_callV (As := []) (rest := []) hF (c_X3_simple a g r σ0 hgp i0) (Nat.le_of_ble_eq_true rfl) mV_X3_simple m_1032 (recv_ob obC_3) rfl rfl (Nat.le_of_ble_eq_true rfl) d_X3_statement_213 (k_v (fun σ32 ⟨⟨hgp32, hgm32⟩, iσ32, ik32⟩ => ?_)) (fun _ _ _ h => h.elim)
      have hmo32 : Mo σ32 σ0 := fun h9 => mo_e (show σ0 3 3 = σ0 3 3 from rfl) (hgm32 h9)
      have kp : Keep [(3, 1), (3, 2), (3, 3), (3, 4), (3, 9)] [18, 19, 20, 21, 22, 23] σ0 σ32 := keep_c kp ik32 (by decide) (by decide)
      exact g_vret hF rfl d_X3_statement_216 ⟨rfl, rfl, rfl, ⟨⟨hgp32, (fun h9 => (hmo32 (mo_e (show σ32 3 3 = σ32 3 3 from rfl) h9)))⟩, iσ32, kp⟩⟩
    refine (Decidable.em ((σ0 3 2).toInt = 19)).elim (fun q33_20_14 => ?_) (fun q33_20_14 => ?_)
    · refine g_tableIn (off := 192) hF 212 d_X3_statement_20 q33_20_14 (by decide) (by decide) (by decide +kernel) (by decide) ?_
      refine g_aload_n hF d_X3_statement_212 rfl 1 rfl ?_
      refine g_callV (As := []) (rest := []) hF (c_X3_simple a g r σ0 hgp i0) (Nat.le_of_ble_eq_true rfl) mV_X3_simple m_1032 (recv_ob obC_3) rfl rfl (Nat.le_of_ble_eq_true rfl) d_X3_statement_213 (k_v (fun σ34 ⟨⟨hgp34, hgm34⟩, iσ34, ik34⟩ => ?_)) (fun _ _ _ h => h.elim)
      have hmo34 : Mo σ34 σ0 := fun h9 => mo_e (show σ0 3 3 = σ0 3 3 from rfl) (hgm34 h9)
      have kp : Keep [(3, 1), (3, 2), (3, 3), (3, 4), (3, 9)] [18, 19, 20, 21, 22, 23] σ0 σ34 := keep_c kp ik34 (by decide) (by decide)
      exact g_vret hF rfl d_X3_statement_216 ⟨rfl, rfl, rfl, ⟨⟨hgp34, (fun h9 => (hmo34 (mo_e (show σ34 3 3 = σ34 3 3 from rfl) h9)))⟩, iσ34, kp⟩⟩
    refine (Decidable.em ((σ0 3 2).toInt = 20)).elim (fun q35_20_15 => ?_) (fun q35_20_15 => ?_)
    · refine g_tableIn (off := 192) hF 212 d_X3_statement_20 q35_20_15 (by decide) (by decide) (by decide +kernel) (by decide) ?_
      refine g_aload_n hF d_X3_statement_212 rfl 1 rfl ?_
      refine g_callV (As := []) (rest := []) hF (c_X3_simple a g r σ0 hgp i0) (Nat.le_of_ble_eq_true rfl) mV_X3_simple m_1032 (recv_ob obC_3) rfl rfl (Nat.le_of_ble_eq_true rfl) d_X3_statement_213 (k_v (fun σ36 ⟨⟨hgp36, hgm36⟩, iσ36, ik36⟩ => ?_)) (fun _ _ _ h => h.elim)
      have hmo36 : Mo σ36 σ0 := fun h9 => mo_e (show σ0 3 3 = σ0 3 3 from rfl) (hgm36 h9)
      have kp : Keep [(3, 1), (3, 2), (3, 3), (3, 4), (3, 9)] [18, 19, 20, 21, 22, 23] σ0 σ36 := keep_c kp ik36 (by decide) (by decide)
      exact g_vret hF rfl d_X3_statement_216 ⟨rfl, rfl, rfl, ⟨⟨hgp36, (fun h9 => (hmo36 (mo_e (show σ36 3 3 = σ36 3 3 from rfl) h9)))⟩, iσ36, kp⟩⟩
    refine (Decidable.em ((σ0 3 2).toInt = 21)).elim (fun q37_20_16 => ?_) (fun q37_20_16 => ?_)
    · refine g_tableIn (off := 192) hF 212 d_X3_statement_20 q37_20_16 (by decide) (by decide) (by decide +kernel) (by decide) ?_
      refine g_aload_n hF d_X3_statement_212 rfl 1 rfl ?_
      refine g_callV (As := []) (rest := []) hF (c_X3_simple a g r σ0 hgp i0) (Nat.le_of_ble_eq_true rfl) mV_X3_simple m_1032 (recv_ob obC_3) rfl rfl (Nat.le_of_ble_eq_true rfl) d_X3_statement_213 (k_v (fun σ38 ⟨⟨hgp38, hgm38⟩, iσ38, ik38⟩ => ?_)) (fun _ _ _ h => h.elim)
      have hmo38 : Mo σ38 σ0 := fun h9 => mo_e (show σ0 3 3 = σ0 3 3 from rfl) (hgm38 h9)
      have kp : Keep [(3, 1), (3, 2), (3, 3), (3, 4), (3, 9)] [18, 19, 20, 21, 22, 23] σ0 σ38 := keep_c kp ik38 (by decide) (by decide)
      exact g_vret hF rfl d_X3_statement_216 ⟨rfl, rfl, rfl, ⟨⟨hgp38, (fun h9 => (hmo38 (mo_e (show σ38 3 3 = σ38 3 3 from rfl) h9)))⟩, iσ38, kp⟩⟩
    refine (Decidable.em ((σ0 3 2).toInt = 22)).elim (fun q39_20_17 => ?_) (fun q39_20_17 => ?_)
    · refine g_tableIn (off := 108) hF 128 d_X3_statement_20 q39_20_17 (by decide) (by decide) (by decide +kernel) (by decide) ?_
      refine g_aload_n hF d_X3_statement_128 rfl 1 rfl ?_
      refine g_bipush hF (v := 20) d_X3_statement_129 (by decide) ?_
      refine g_iload_n hF d_X3_statement_131 rfl 0 rfl ?_
      refine g_iconst hF (v := 0) d_X3_statement_132 (by decide) ?_
      refine g_iconst hF (v := 0) d_X3_statement_133 (by decide) ?_
      refine g_callV (As := [.int 20, .int (σ0 3 1), .int 0, .int 0]) (rest := []) hF (c_X3_add a g r σ0 (20 : Int32) (σ0 3 1) (0 : Int32) (0 : Int32) (fun h9 => absurd h9 (by decide)) hgp i0) (Nat.le_of_ble_eq_true rfl) mV_X3_add m_923 (recv_ob obC_3) rfl rfl (Nat.le_of_ble_eq_true rfl) d_X3_statement_134 (k_i (fun r40 σ40 ⟨⟨hgp40, hgm40⟩, iσ40, ik40⟩ => ?_)) (fun _ _ _ h => h.elim)
      have hmo40 : Mo σ40 σ0 := fun h9 => mo_e (show σ0 3 3 = σ0 3 3 from rfl) (hgm40 h9)
      have kp : Keep [(3, 1), (3, 2), (3, 3), (3, 4), (3, 9)] [18, 19, 20, 21, 22, 23] σ0 σ40 := keep_c kp ik40 (by decide) (by decide)
      refine g_pop hF d_X3_statement_137 rfl ?_
      refine g_aload_n hF d_X3_statement_138 rfl 1 rfl ?_
      refine g_iload_n hF d_X3_statement_139 rfl 2 rfl ?_
      refine g_iconst hF (v := 1) d_X3_statement_140 (by decide) ?_
      refine g_iadd hF d_X3_statement_141 ?_
      refine g_callV (As := [.int (a1 + 1)]) (rest := []) hF (((ih (by have e0 := s_rng a1; have e1 : (1 : Int32).toInt = 1 := (by decide); obtain ⟨k2, e2⟩ := s_add a1 (1 : Int32); have e2a := s_rng (a1 + 1); have e4 : (25 : Int32).toInt = 25 := (by decide); omega)) σ40 (a1 + 1) (by have e0 := s_rng a1; have e1 : (1 : Int32).toInt = 1 := (by decide); obtain ⟨k2, e2⟩ := s_add a1 (1 : Int32); have e2a := s_rng (a1 + 1); have e4 : (25 : Int32).toInt = 25 := (by decide); omega) (by have e0 := s_rng a1; have e1 : (1 : Int32).toInt = 1 := (by decide); obtain ⟨k2, e2⟩ := s_add a1 (1 : Int32); have e2a := s_rng (a1 + 1); have e4 : (25 : Int32).toInt = 25 := (by decide); omega) iσ40 hgp40).2) (by have : 2 ≤ k := (by have e0 := s_rng a1; have e1 : (1 : Int32).toInt = 1 := (by decide); obtain ⟨k2, e2⟩ := s_add a1 (1 : Int32); have e2a := s_rng (a1 + 1); have e4 : (25 : Int32).toInt = 25 := (by decide); omega); omega) mV_X3_statements m_1004 (recv_ob obC_3) rfl rfl (Nat.le_of_ble_eq_true rfl) d_X3_statement_142 (k_v (fun σ41 ⟨⟨hgp41, hgm41⟩, iσ41, ik41⟩ => ?_)) (fun _ _ _ h => h.elim)
      have hmo41 : Mo σ41 σ0 := fun h9 => mo_e (show σ40 3 3 = σ0 3 3 from (ik40 3 3 rfl rfl rfl)) (hgm41 h9)
      have kp : Keep [(3, 1), (3, 2), (3, 3), (3, 4), (3, 9)] [18, 19, 20, 21, 22, 23] σ0 σ41 := keep_c kp ik41 (by decide) (by decide)
      refine g_aload_n hF d_X3_statement_145 rfl 1 rfl ?_
      refine g_bipush hF (v := 21) d_X3_statement_146 (by decide) ?_
      refine g_iload_n hF d_X3_statement_148 rfl 0 rfl ?_
      refine g_iconst hF (v := 0) d_X3_statement_149 (by decide) ?_
      refine g_iconst hF (v := 0) d_X3_statement_150 (by decide) ?_
      refine g_callV (As := [.int 21, .int (σ0 3 1), .int 0, .int 0]) (rest := []) hF (c_X3_add a g r σ41 (21 : Int32) (σ0 3 1) (0 : Int32) (0 : Int32) (fun h9 => absurd h9 (by decide)) hgp41 iσ41) (Nat.le_of_ble_eq_true rfl) mV_X3_add m_923 (recv_ob obC_3) rfl rfl (Nat.le_of_ble_eq_true rfl) d_X3_statement_151 (k_i (fun r42 σ42 ⟨⟨hgp42, hgm42⟩, iσ42, ik42⟩ => ?_)) (fun _ _ _ h => h.elim)
      have hmo42 : Mo σ42 σ41 := fun h9 => mo_e (show σ41 3 3 = σ41 3 3 from rfl) (hgm42 h9)
      have kp : Keep [(3, 1), (3, 2), (3, 3), (3, 4), (3, 9)] [18, 19, 20, 21, 22, 23] σ0 σ42 := keep_c kp ik42 (by decide) (by decide)
      refine g_pop hF d_X3_statement_154 rfl ?_
      refine g_goto hF 216 d_X3_statement_155 (by decide) ?_
      exact g_vret hF rfl d_X3_statement_216 ⟨rfl, rfl, rfl, ⟨⟨hgp42, (fun h9 => (hmo41 (mo_e (show σ42 3 3 = σ41 3 3 from (ik42 3 3 rfl rfl rfl)) h9)))⟩, iσ42, kp⟩⟩
    refine (Decidable.em ((σ0 3 2).toInt = 23)).elim (fun q43_20_18 => ?_) (fun q43_20_18 => ?_)
    · refine g_tableIn (off := 192) hF 212 d_X3_statement_20 q43_20_18 (by decide) (by decide) (by decide +kernel) (by decide) ?_
      refine g_aload_n hF d_X3_statement_212 rfl 1 rfl ?_
      refine g_callV (As := []) (rest := []) hF (c_X3_simple a g r σ0 hgp i0) (Nat.le_of_ble_eq_true rfl) mV_X3_simple m_1032 (recv_ob obC_3) rfl rfl (Nat.le_of_ble_eq_true rfl) d_X3_statement_213 (k_v (fun σ44 ⟨⟨hgp44, hgm44⟩, iσ44, ik44⟩ => ?_)) (fun _ _ _ h => h.elim)
      have hmo44 : Mo σ44 σ0 := fun h9 => mo_e (show σ0 3 3 = σ0 3 3 from rfl) (hgm44 h9)
      have kp : Keep [(3, 1), (3, 2), (3, 3), (3, 4), (3, 9)] [18, 19, 20, 21, 22, 23] σ0 σ44 := keep_c kp ik44 (by decide) (by decide)
      exact g_vret hF rfl d_X3_statement_216 ⟨rfl, rfl, rfl, ⟨⟨hgp44, (fun h9 => (hmo44 (mo_e (show σ44 3 3 = σ44 3 3 from rfl) h9)))⟩, iσ44, kp⟩⟩
    refine (Decidable.em ((σ0 3 2).toInt = 24)).elim (fun q45_20_19 => ?_) (fun q45_20_19 => ?_)
    · refine g_tableIn (off := 192) hF 212 d_X3_statement_20 q45_20_19 (by decide) (by decide) (by decide +kernel) (by decide) ?_
      refine g_aload_n hF d_X3_statement_212 rfl 1 rfl ?_
      refine g_callV (As := []) (rest := []) hF (c_X3_simple a g r σ0 hgp i0) (Nat.le_of_ble_eq_true rfl) mV_X3_simple m_1032 (recv_ob obC_3) rfl rfl (Nat.le_of_ble_eq_true rfl) d_X3_statement_213 (k_v (fun σ46 ⟨⟨hgp46, hgm46⟩, iσ46, ik46⟩ => ?_)) (fun _ _ _ h => h.elim)
      have hmo46 : Mo σ46 σ0 := fun h9 => mo_e (show σ0 3 3 = σ0 3 3 from rfl) (hgm46 h9)
      have kp : Keep [(3, 1), (3, 2), (3, 3), (3, 4), (3, 9)] [18, 19, 20, 21, 22, 23] σ0 σ46 := keep_c kp ik46 (by decide) (by decide)
      exact g_vret hF rfl d_X3_statement_216 ⟨rfl, rfl, rfl, ⟨⟨hgp46, (fun h9 => (hmo46 (mo_e (show σ46 3 3 = σ46 3 3 from rfl) h9)))⟩, iσ46, kp⟩⟩
    refine (Decidable.em ((σ0 3 2).toInt = 25)).elim (fun q47_20_20 => ?_) (fun q47_20_20 => ?_)
    · refine g_tableIn (off := 192) hF 212 d_X3_statement_20 q47_20_20 (by decide) (by decide) (by decide +kernel) (by decide) ?_
      refine g_aload_n hF d_X3_statement_212 rfl 1 rfl ?_
      refine g_callV (As := []) (rest := []) hF (c_X3_simple a g r σ0 hgp i0) (Nat.le_of_ble_eq_true rfl) mV_X3_simple m_1032 (recv_ob obC_3) rfl rfl (Nat.le_of_ble_eq_true rfl) d_X3_statement_213 (k_v (fun σ48 ⟨⟨hgp48, hgm48⟩, iσ48, ik48⟩ => ?_)) (fun _ _ _ h => h.elim)
      have hmo48 : Mo σ48 σ0 := fun h9 => mo_e (show σ0 3 3 = σ0 3 3 from rfl) (hgm48 h9)
      have kp : Keep [(3, 1), (3, 2), (3, 3), (3, 4), (3, 9)] [18, 19, 20, 21, 22, 23] σ0 σ48 := keep_c kp ik48 (by decide) (by decide)
      exact g_vret hF rfl d_X3_statement_216 ⟨rfl, rfl, rfl, ⟨⟨hgp48, (fun h9 => (hmo48 (mo_e (show σ48 3 3 = σ48 3 3 from rfl) h9)))⟩, iσ48, kp⟩⟩
    refine (Decidable.em ((σ0 3 2).toInt = 26)).elim (fun q49_20_21 => ?_) (fun q49_20_21 => ?_)
    · refine g_tableIn (off := 192) hF 212 d_X3_statement_20 q49_20_21 (by decide) (by decide) (by decide +kernel) (by decide) ?_
      refine g_aload_n hF d_X3_statement_212 rfl 1 rfl ?_
      refine g_callV (As := []) (rest := []) hF (c_X3_simple a g r σ0 hgp i0) (Nat.le_of_ble_eq_true rfl) mV_X3_simple m_1032 (recv_ob obC_3) rfl rfl (Nat.le_of_ble_eq_true rfl) d_X3_statement_213 (k_v (fun σ50 ⟨⟨hgp50, hgm50⟩, iσ50, ik50⟩ => ?_)) (fun _ _ _ h => h.elim)
      have hmo50 : Mo σ50 σ0 := fun h9 => mo_e (show σ0 3 3 = σ0 3 3 from rfl) (hgm50 h9)
      have kp : Keep [(3, 1), (3, 2), (3, 3), (3, 4), (3, 9)] [18, 19, 20, 21, 22, 23] σ0 σ50 := keep_c kp ik50 (by decide) (by decide)
      exact g_vret hF rfl d_X3_statement_216 ⟨rfl, rfl, rfl, ⟨⟨hgp50, (fun h9 => (hmo50 (mo_e (show σ50 3 3 = σ50 3 3 from rfl) h9)))⟩, iσ50, kp⟩⟩
    refine (Decidable.em ((σ0 3 2).toInt = 27)).elim (fun q51_20_22 => ?_) (fun q51_20_22 => ?_)
    · refine g_tableIn (off := 138) hF 158 d_X3_statement_20 q51_20_22 (by decide) (by decide) (by decide +kernel) (by decide) ?_
      refine g_aload_n hF d_X3_statement_158 rfl 1 rfl ?_
      refine g_callV (As := []) (rest := []) hF (c_X3_advance a g r σ0 hgp.2.2 (by show -1 ≤ (σ0 3 1).toInt ∧ (σ0 3 1).toInt ≤ 16001; have hki := hgp.2.1.1; have hgz := hgp.1; have e0 := s_rng (σ0 3 1); omega) i0) (Nat.le_of_ble_eq_true rfl) mV_X3_advance m_899 (recv_ob obC_3) rfl rfl (Nat.le_of_ble_eq_true rfl) d_X3_statement_159 (k_v (fun σ52 ⟨⟨hgp52, hgm52⟩, hs52, iσ52, ik52⟩ => ?_)) (fun _ _ _ h => h.elim)
      have hs52 : (σ52 3 1).toInt = (σ0 3 1).toInt + 1 := hs52
      have hmo52 : Mo σ52 σ0 := fun h9 => mo_e (show σ0 3 3 = σ0 3 3 from rfl) (hgm52 h9)
      have kp : Keep [(3, 1), (3, 2), (3, 3), (3, 4), (3, 9)] [18, 19, 20, 21, 22, 23] σ0 σ52 := keep_c kp ik52 (by decide) (by decide)
      refine g_goto hF 216 d_X3_statement_162 (by decide) ?_
      exact g_vret hF rfl d_X3_statement_216 ⟨rfl, rfl, rfl, ⟨⟨hgp52, (fun h9 => (mo_e (show σ52 3 3 = σ0 3 3 from (ik52 3 3 rfl rfl rfl)) h9))⟩, iσ52, kp⟩⟩
    refine g_tableOut hF 212 d_X3_statement_20 rfl (by omega) (by decide) ?_
    refine g_aload_n hF d_X3_statement_212 rfl 1 rfl ?_
    refine g_callV (As := []) (rest := []) hF (c_X3_simple a g r σ0 hgp i0) (Nat.le_of_ble_eq_true rfl) mV_X3_simple m_1032 (recv_ob obC_3) rfl rfl (Nat.le_of_ble_eq_true rfl) d_X3_statement_213 (k_v (fun σ53 ⟨⟨hgp53, hgm53⟩, iσ53, ik53⟩ => ?_)) (fun _ _ _ h => h.elim)
    have hmo53 : Mo σ53 σ0 := fun h9 => mo_e (show σ0 3 3 = σ0 3 3 from rfl) (hgm53 h9)
    have kp : Keep [(3, 1), (3, 2), (3, 3), (3, 4), (3, 9)] [18, 19, 20, 21, 22, 23] σ0 σ53 := keep_c kp ik53 (by decide) (by decide)
    exact g_vret hF rfl d_X3_statement_216 ⟨rfl, rfl, rfl, ⟨⟨hgp53, (fun h9 => (hmo53 (mo_e (show σ53 3 3 = σ53 3 3 from rfl) h9)))⟩, iσ53, kp⟩⟩
  · -- not taken at 3
    refine g_aload_n hF d_X3_statement_6 rfl 0 rfl ?_
    refine g_callV (As := []) (rest := []) hF (c_X3_fail a g r σ0 hgp i0) (Nat.le_of_ble_eq_true rfl) mV_X3_fail m_907 (recv_ob obC_3) rfl rfl (Nat.le_of_ble_eq_true rfl) d_X3_statement_7 (k_v (fun σ54 ⟨⟨hgp54, hgm54⟩, hs54, iσ54, ik54⟩ => ?_)) (fun _ _ _ h => h.elim)
    have hs54 : 0 ≤ (σ54 3 3).toInt := hs54
    have hmo54 : Mo σ54 σ0 := fun h9 => mo_e (show σ0 3 3 = σ0 3 3 from rfl) (hgm54 h9)
    have kp : Keep [(3, 1), (3, 2), (3, 3), (3, 4), (3, 9)] [18, 19, 20, 21, 22, 23] σ0 σ54 := keep_c kp ik54 (by decide) (by decide)
    exact g_vret hF rfl d_X3_statement_10 ⟨rfl, rfl, rfl, ⟨⟨hgp54, (fun h9 => (hmo54 (mo_e (show σ54 3 3 = σ54 3 3 from rfl) h9)))⟩, iσ54, kp⟩⟩
set_option maxHeartbeats 4000000 in
set_option maxRecDepth 100000 in
theorem c_X3_statements (a : Nat → Nat) (g : Nat → Nat → Int32) (r : Nat → Nat) (k : Nat) (σ0 : St) (a1 : Int32) (ih : 2 ≤ k → RS a g r (k - 1)) (h1 : 1 ≤ a1.toInt) (hk : a1.toInt + (k : Int) = 27) (hgp : GPS σ0) (i0 : Inv σ0) (l : Launch) (D : va_G) (cy : Nat → ClassId) : Ct l D cy SC r (EC a g) y_X3_statements (Cond.code y_X3_statements b_X3_statements 3 none) (10 * k + 362) [.ref (r 3), .int a1] σ0 Z0 [] (QV (fun σ9 => ((GPS σ9 ∧ Mo σ9 σ0) ∧ (Inv σ9 ∧ Keep [(3, 1), (3, 2), (3, 3), (3, 4), (3, 9)] [18, 19, 20, 21, 22, 23] σ0 σ9)))) QF := by
  refine Ct_of (EC_ok a g) (by decide) (Nat.le_of_ble_eq_true rfl) (by decide) (fun X hnn hF => ?_)
  show G SC r X σ0 Z0 [] [(0, .ref (r 3)), (1, .int a1)] [] 0
  have b14 : ∀ (N : Nat) (σ : St) (x1 : Int32) (x2 : Int32) , dnm x2 = N → Inv σ → Keep [(3, 1), (3, 2), (3, 3), (3, 4), (3, 9)] [18, 19, 20, 21, 22, 23] σ0 σ → GPS σ → Mo σ σ0 → 1 ≤ x1.toInt → x1.toInt + (k : Int) = 27 → G SC r X σ Z0 [] [(0, .ref (r 3)), (1, .int x1), (2, .int x2)] [] 14 := by
    intro M14
    induction M14 using Nat.strongRecOn with
    | _ M14 ih14 =>
      intro σ x1 x2 N14 inv kp hgp hgm h1 hk
      refine g_iload_n hF d_X3_statements_14 rfl 2 rfl ?_
      refine g_if_le hF 45 d_X3_statements_15 (by decide) rfl (fun c1_15 => ?_) (fun c1_15 => ?_)
      · -- taken at 15
        refine g_aload_n hF d_X3_statements_45 rfl 0 rfl ?_
        refine g_bipush hF (v := 23) d_X3_statements_46 (by decide) ?_
        refine g_callV (As := [.int 23]) (rest := []) hF (c_X3_expect a g r σ (23 : Int32) hgp (by show ¬ (23 = 0 ∨ 23 = -1); have e0 : (23 : Int32).toInt = 23 := (by decide); omega) inv) (Nat.le_of_ble_eq_true rfl) mV_X3_expect m_903 (recv_ob obC_3) rfl rfl (Nat.le_of_ble_eq_true rfl) d_X3_statements_48 (k_v (fun σ2 ⟨⟨hgp2, hgm2⟩, hs2, iσ2, ik2⟩ => ?_)) (fun _ _ _ h => h.elim)
        have hs2 : (σ2 3 3).toInt < 0 → (σ 3 2).toInt = 23 := hs2
        have hmo2 : Mo σ2 σ := fun h9 => mo_e (show σ 3 3 = σ 3 3 from rfl) (hgm2 h9)
        have kp : Keep [(3, 1), (3, 2), (3, 3), (3, 4), (3, 9)] [18, 19, 20, 21, 22, 23] σ0 σ2 := keep_c kp ik2 (by decide) (by decide)
        exact g_vret hF rfl d_X3_statements_51 ⟨rfl, rfl, rfl, ⟨⟨hgp2, (fun h9 => (hgm (hmo2 (mo_e (show σ2 3 3 = σ2 3 3 from rfl) h9))))⟩, iσ2, kp⟩⟩
      · -- not taken at 15
        refine g_aload_n hF d_X3_statements_18 rfl 0 rfl ?_
        refine g_get (v := .int (σ 3 3)) hF 3 obC_3 (by decide) m_97 rfl d_X3_statements_19 ?_
        refine g_if_ge hF 45 d_X3_statements_22 (by decide) rfl (fun c3_22 => ?_) (fun c3_22 => ?_)
        · -- taken at 22
          refine g_aload_n hF d_X3_statements_45 rfl 0 rfl ?_
          refine g_bipush hF (v := 23) d_X3_statements_46 (by decide) ?_
          refine g_callV (As := [.int 23]) (rest := []) hF (c_X3_expect a g r σ (23 : Int32) hgp (by show ¬ (23 = 0 ∨ 23 = -1); have e0 : (23 : Int32).toInt = 23 := (by decide); omega) inv) (Nat.le_of_ble_eq_true rfl) mV_X3_expect m_903 (recv_ob obC_3) rfl rfl (Nat.le_of_ble_eq_true rfl) d_X3_statements_48 (k_v (fun σ4 ⟨⟨hgp4, hgm4⟩, hs4, iσ4, ik4⟩ => ?_)) (fun _ _ _ h => h.elim)
          have hs4 : (σ4 3 3).toInt < 0 → (σ 3 2).toInt = 23 := hs4
          have hmo4 : Mo σ4 σ := fun h9 => mo_e (show σ 3 3 = σ 3 3 from rfl) (hgm4 h9)
          have kp : Keep [(3, 1), (3, 2), (3, 3), (3, 4), (3, 9)] [18, 19, 20, 21, 22, 23] σ0 σ4 := keep_c kp ik4 (by decide) (by decide)
          exact g_vret hF rfl d_X3_statements_51 ⟨rfl, rfl, rfl, ⟨⟨hgp4, (fun h9 => (hgm (hmo4 (mo_e (show σ4 3 3 = σ4 3 3 from rfl) h9))))⟩, iσ4, kp⟩⟩
        · -- not taken at 22
          refine g_aload_n hF d_X3_statements_25 rfl 0 rfl ?_
          refine g_get (v := .int (σ 3 2)) hF 2 obC_3 (by decide) m_96 rfl d_X3_statements_26 ?_
          refine g_bipush hF (v := 23) d_X3_statements_29 (by decide) ?_
          refine g_icmp_eq (yv := 23) hF 45 d_X3_statements_31 (by decide) rfl (by decide) (fun c5_31 => ?_) (fun c5_31 => ?_)
          · -- taken at 31
            refine g_aload_n hF d_X3_statements_45 rfl 0 rfl ?_
            refine g_bipush hF (v := 23) d_X3_statements_46 (by decide) ?_
            refine g_callV (As := [.int 23]) (rest := []) hF (c_X3_expect a g r σ (23 : Int32) hgp (by show ¬ (23 = 0 ∨ 23 = -1); have e0 : (23 : Int32).toInt = 23 := (by decide); have e1 := s_rng (σ 3 2); omega) inv) (Nat.le_of_ble_eq_true rfl) mV_X3_expect m_903 (recv_ob obC_3) rfl rfl (Nat.le_of_ble_eq_true rfl) d_X3_statements_48 (k_v (fun σ6 ⟨⟨hgp6, hgm6⟩, hs6, iσ6, ik6⟩ => ?_)) (fun _ _ _ h => h.elim)
            have hs6 : (σ6 3 3).toInt < 0 → (σ 3 2).toInt = 23 := hs6
            have hmo6 : Mo σ6 σ := fun h9 => mo_e (show σ 3 3 = σ 3 3 from rfl) (hgm6 h9)
            have kp : Keep [(3, 1), (3, 2), (3, 3), (3, 4), (3, 9)] [18, 19, 20, 21, 22, 23] σ0 σ6 := keep_c kp ik6 (by decide) (by decide)
            exact g_vret hF rfl d_X3_statements_51 ⟨rfl, rfl, rfl, ⟨⟨hgp6, (fun h9 => (hgm (hmo6 (mo_e (show σ6 3 3 = σ6 3 3 from rfl) h9))))⟩, iσ6, kp⟩⟩
          · -- not taken at 31
            refine g_aload_n hF d_X3_statements_34 rfl 0 rfl ?_
            refine g_iload_n hF d_X3_statements_35 rfl 1 rfl ?_
            refine g_callV (As := [.int x1]) (rest := []) hF (c_X3_statement a g r k σ x1 ih h1 hk hgp inv) (by omega) mV_X3_statement m_1008 (recv_ob obC_3) rfl rfl (Nat.le_of_ble_eq_true rfl) d_X3_statements_36 (k_v (fun σ7 ⟨⟨hgp7, hgm7⟩, iσ7, ik7⟩ => ?_)) (fun _ _ _ h => h.elim)
            have hmo7 : Mo σ7 σ := fun h9 => mo_e (show σ 3 3 = σ 3 3 from rfl) (hgm7 h9)
            have kp : Keep [(3, 1), (3, 2), (3, 3), (3, 4), (3, 9)] [18, 19, 20, 21, 22, 23] σ0 σ7 := keep_c kp ik7 (by decide) (by decide)
            refine g_iinc hF (x2 + (-1)) [(2, .int (x2 + (-1))), (0, .ref (r 3)), (1, .int x1)] d_X3_statements_39 2 rfl rfl hnn (by decide) rfl ?_
            refine g_goto hF 14 d_X3_statements_42 (by decide) ?_
            exact g_sub (L' := [(0, .ref (r 3)), (1, .int x1), (2, .int (x2 + (-1)))]) [1, 2, 0] rfl (ih14 _ (N14 ▸ dnm_lt c1_15 (by decide)) σ7 x1 (x2 + (-1)) rfl iσ7 kp hgp7 (fun h9 => (hgm (hmo7 (mo_e (show σ7 3 3 = σ7 3 3 from rfl) h9)))) h1 hk)
  have kp : Keep [(3, 1), (3, 2), (3, 3), (3, 4), (3, 9)] [18, 19, 20, 21, 22, 23] σ0 σ0 := keep_rf
  refine g_aload_n hF d_X3_statements_0 rfl 0 rfl ?_
  refine g_bipush hF (v := 22) d_X3_statements_1 (by decide) ?_
  refine g_callV (As := [.int 22]) (rest := []) hF (c_X3_expect a g r σ0 (22 : Int32) hgp (by show ¬ (22 = 0 ∨ 22 = -1); have e0 : (22 : Int32).toInt = 22 := (by decide); omega) i0) (Nat.le_of_ble_eq_true rfl) mV_X3_expect m_903 (recv_ob obC_3) rfl rfl (Nat.le_of_ble_eq_true rfl) d_X3_statements_3 (k_v (fun σ8 ⟨⟨hgp8, hgm8⟩, hs8, iσ8, ik8⟩ => ?_)) (fun _ _ _ h => h.elim)
  have hs8 : (σ8 3 3).toInt < 0 → (σ0 3 2).toInt = 22 := hs8
  have hmo8 : Mo σ8 σ0 := fun h9 => mo_e (show σ0 3 3 = σ0 3 3 from rfl) (hgm8 h9)
  have kp : Keep [(3, 1), (3, 2), (3, 3), (3, 4), (3, 9)] [18, 19, 20, 21, 22, 23] σ0 σ8 := keep_c kp ik8 (by decide) (by decide)
  refine g_aload_n hF d_X3_statements_6 rfl 0 rfl ?_
  refine g_get (v := .ref (r 2)) hF 0 obC_3 (by decide) m_94 rfl d_X3_statements_7 ?_
  refine g_getN (v := .int (σ8 2 4)) hF 4 obC_2 (by decide) nm_47 rfl d_X3_statements_10 ?_
  refine g_top (v := (σ0 2 4)) (ik8 2 4 rfl rfl rfl) ?_
  refine g_istore_n hF [(2, .int (σ0 2 4)), (0, .ref (r 3)), (1, .int a1)] d_X3_statements_13 rfl hnn (by decide) rfl ?_
  exact g_sub (L' := [(0, .ref (r 3)), (1, .int a1), (2, .int (σ0 2 4))]) [1, 2, 0] rfl (b14 _ σ8 a1 (σ0 2 4) rfl iσ8 kp hgp8 (fun h9 => (hmo8 (mo_e (show σ8 3 3 = σ8 3 3 from rfl) h9))) h1 hk)
theorem RS_all (a : Nat → Nat) (g : Nat → Nat → Int32) (r : Nat → Nat) (k : Nat) : RS a g r k := by
  induction k with
  | zero =>
    intro σ0 z h1 hk i0 hgp
    have ih : 2 ≤ 0 → RS a g r (0 - 1) := fun h => absurd h (by decide)
    exact ⟨c_X3_statement a g r 0 σ0 z ih h1 hk hgp i0, c_X3_statements a g r 0 σ0 z ih h1 hk hgp i0⟩
  | succ k ihk =>
    intro σ0 z h1 hk i0 hgp
    have ih : 2 ≤ k + 1 → RS a g r (k + 1 - 1) := fun _ => ihk
    exact ⟨c_X3_statement a g r (k + 1) σ0 z ih h1 hk hgp i0, c_X3_statements a g r (k + 1) σ0 z ih h1 hk hgp i0⟩
set_option maxHeartbeats 4000000 in
set_option maxRecDepth 100000 in
theorem c_X10_listed_r2_s1 (a : Nat → Nat) (g : Nat → Nat → Int32) (r : Nat → Nat) (σ0 : St) (a2 : Int32) (i0 : Inv σ0) (l : Launch) (D : va_G) (cy : Nat → ClassId) : Ct l D cy SC r (EC a g) y_X10_listed (Cond.code y_X10_listed b_X10_listed 6 (some .int)) 5 [.ref (r 2), .ref (a 4), .int a2] σ0 Z0 [] (QI (fun _ σ9 => σ9 = σ0)) QF := by
  refine Ct_of (EC_ok a g) (by decide) (Nat.le_of_ble_eq_true rfl) (by decide) (fun X hnn hF => ?_)
  show G SC r X σ0 Z0 [] [(0, .ref (r 2)), (1, .ref (a 4)), (2, .int a2)] [] 0
  have b8 : ∀ (N : Nat) (x2 : Int32) (x3 : Int32) (x4 : Int32) (x5 : Int32) , upm x5 = N → (0 ≤ x4.toInt ∧ x4.toInt ≤ 1000 ∧ 0 ≤ x5.toInt ∧ x5.toInt ≤ 1000) → G SC r X σ0 Z0 [] [(0, .ref (r 2)), (1, .ref (a 4)), (2, .int x2), (3, .int x3), (4, .int x4), (5, .int x5)] [] 8 := by
    intro M8
    induction M8 using Nat.strongRecOn with
    | _ M8 ih8 =>
      intro x2 x3 x4 x5 N8 hj
      refine g_iload hF d_X10_listed_8 5 rfl ?_
      refine g_aload_n hF d_X10_listed_10 rfl 1 rfl ?_
      refine g_callV (As := []) (rest := [.int x5]) hF (t_len (EC_ok a g) (fun A s h => EC_s1 h) (by decide)) (Nat.le_of_ble_eq_true rfl) mV_String_length m_848 (recv_str (fun A s h => EC_s1 h)) rfl rfl (Nat.le_of_ble_eq_true rfl) d_X10_listed_11 (k_sv ?_) (fun _ _ _ h => h.elim)
      refine g_top (v := 108) (by decide) ?_
      refine g_icmp_ge (yv := 108) hF 65 d_X10_listed_14 (by decide) rfl (by decide) (fun c2_14 => ?_) (fun c2_14 => ?_)
      · -- taken at 14
        refine g_iconst hF (v := (-1)) d_X10_listed_65 (by decide) ?_
        exact g_iret hF rfl d_X10_listed_66 ⟨rfl, rfl, ((-1) : Int32), rfl, rfl⟩
      · -- not taken at 14
        refine g_aload_n hF d_X10_listed_17 rfl 1 rfl ?_
        refine g_iload hF d_X10_listed_18 5 rfl ?_
        refine g_callV (As := [.int x5]) (rest := []) hF (t_ch (EC_ok a g) (fun A s h => EC_s1 h) (by decide) (by decide) x5 (by have e0 := s_rng x5; have e1 : (108 : Int32).toInt = 108 := (by decide); omega) (by have e0 := s_rng x5; have e1 : (108 : Int32).toInt = 108 := (by decide); omega)) (Nat.le_of_ble_eq_true rfl) mV_String_charAt m_849 (recv_str (fun A s h => EC_s1 h)) rfl rfl (Nat.le_of_ble_eq_true rfl) d_X10_listed_20 (k_sx (fun r4 => ?_)) (fun _ _ _ h => h.elim)
        refine g_bipush hF (v := 32) d_X10_listed_23 (by decide) ?_
        refine g_icmp_ne (yv := 32) hF 59 d_X10_listed_25 (by decide) rfl (by decide) (fun c5_25 => ?_) (fun c5_25 => ?_)
        · -- taken at 25
          refine g_iinc hF (x5 + 1) [(5, .int (x5 + 1)), (0, .ref (r 2)), (1, .ref (a 4)), (2, .int x2), (3, .int x3), (4, .int x4)] d_X10_listed_59 5 rfl rfl hnn (by decide) rfl ?_
          refine g_goto hF 8 d_X10_listed_62 (by decide) ?_
          exact g_sub (L' := [(0, .ref (r 2)), (1, .ref (a 4)), (2, .int x2), (3, .int x3), (4, .int x4), (5, .int (x5 + 1))]) [1, 2, 3, 4, 5, 0] rfl (ih8 _ (N8 ▸ upm_lt c2_14 (by decide)) x2 x3 x4 (x5 + 1) rfl (by show 0 ≤ x4.toInt ∧ x4.toInt ≤ 1000 ∧ 0 ≤ (x5 + 1).toInt ∧ (x5 + 1).toInt ≤ 1000; have e0 := s_rng x5; have e1 : (1 : Int32).toInt = 1 := (by decide); obtain ⟨k2, e2⟩ := s_add x5 (1 : Int32); have e2a := s_rng (x5 + 1); have e4 := s_rng x2; have e5 := s_rng x3; have e6 := s_rng x4; have e7 : (108 : Int32).toInt = 108 := (by decide); omega))
        · -- not taken at 25
          refine g_iload hF d_X10_listed_28 5 rfl ?_
          refine g_iload hF d_X10_listed_30 4 rfl ?_
          refine g_isub hF d_X10_listed_32 ?_
          refine g_iload_n hF d_X10_listed_33 rfl 2 rfl ?_
          refine g_icmp_ne hF 50 d_X10_listed_34 (by decide) rfl rfl (fun c6_34 => ?_) (fun c6_34 => ?_)
          · -- taken at 34
            refine g_iload hF d_X10_listed_50 5 rfl ?_
            refine g_iconst hF (v := 1) d_X10_listed_52 (by decide) ?_
            refine g_iadd hF d_X10_listed_53 ?_
            refine g_istore hF [(4, .int (x5 + 1)), (0, .ref (r 2)), (1, .ref (a 4)), (2, .int x2), (3, .int x3), (5, .int x5)] d_X10_listed_54 hnn (by decide) rfl ?_
            refine g_iinc hF (x3 + 1) [(3, .int (x3 + 1)), (4, .int (x5 + 1)), (0, .ref (r 2)), (1, .ref (a 4)), (2, .int x2), (5, .int x5)] d_X10_listed_56 4 rfl rfl hnn (by decide) rfl ?_
            refine g_iinc hF (x5 + 1) [(5, .int (x5 + 1)), (3, .int (x3 + 1)), (4, .int (x5 + 1)), (0, .ref (r 2)), (1, .ref (a 4)), (2, .int x2)] d_X10_listed_59 5 rfl rfl hnn (by decide) rfl ?_
            refine g_goto hF 8 d_X10_listed_62 (by decide) ?_
            exact g_sub (L' := [(0, .ref (r 2)), (1, .ref (a 4)), (2, .int x2), (3, .int (x3 + 1)), (4, .int (x5 + 1)), (5, .int (x5 + 1))]) [3, 4, 5, 1, 2, 0] rfl (ih8 _ (N8 ▸ upm_lt c2_14 (by decide)) x2 (x3 + 1) (x5 + 1) (x5 + 1) rfl (by show 0 ≤ (x5 + 1).toInt ∧ (x5 + 1).toInt ≤ 1000 ∧ 0 ≤ (x5 + 1).toInt ∧ (x5 + 1).toInt ≤ 1000; have e0 := s_rng x5; have e1 : (1 : Int32).toInt = 1 := (by decide); obtain ⟨k2, e2⟩ := s_add x5 (1 : Int32); have e2a := s_rng (x5 + 1); have e4 := s_rng x3; obtain ⟨k5, e5⟩ := s_add x3 (1 : Int32); have e5a := s_rng (x3 + 1); have e7 := s_rng x2; have e8 : (108 : Int32).toInt = 108 := (by decide); have e9 := s_rng x4; obtain ⟨k10, e10⟩ := s_sub x5 x4; have e10a := s_rng (x5 - x4); omega))
          · -- not taken at 34
            refine g_aload_n hF d_X10_listed_37 rfl 0 rfl ?_
            refine g_aload_n hF d_X10_listed_38 rfl 1 rfl ?_
            refine g_iload hF d_X10_listed_39 4 rfl ?_
            refine g_iload_n hF d_X10_listed_41 rfl 2 rfl ?_
            refine g_callV (As := [.ref (a 4), .int x4, .int x2]) (rest := []) hF (c_X10_isNext_r2_s1 a g r σ0 x4 x2 (by show 0 ≤ x4.toInt ∧ x4.toInt ≤ 1000; have e0 := s_rng x4; have e1 := s_rng x2; have e2 := s_rng x5; obtain ⟨k3, e3⟩ := s_sub x5 x4; have e3a := s_rng (x5 - x4); have e5 : (108 : Int32).toInt = 108 := (by decide); omega) i0) (Nat.le_of_ble_eq_true rfl) mV_X10_isNext m_850 (recv_ob obC_2) rfl rfl (Nat.le_of_ble_eq_true rfl) d_X10_listed_42 (k_roz (fun r7 hz7 => ?_)) (fun _ _ _ h => h.elim)
            refine g_if_eq hF 50 d_X10_listed_45 (by decide) rfl (fun c8_45 => ?_) (fun c8_45 => ?_)
            · -- taken at 45
              refine g_iload hF d_X10_listed_50 5 rfl ?_
              refine g_iconst hF (v := 1) d_X10_listed_52 (by decide) ?_
              refine g_iadd hF d_X10_listed_53 ?_
              refine g_istore hF [(4, .int (x5 + 1)), (0, .ref (r 2)), (1, .ref (a 4)), (2, .int x2), (3, .int x3), (5, .int x5)] d_X10_listed_54 hnn (by decide) rfl ?_
              refine g_iinc hF (x3 + 1) [(3, .int (x3 + 1)), (4, .int (x5 + 1)), (0, .ref (r 2)), (1, .ref (a 4)), (2, .int x2), (5, .int x5)] d_X10_listed_56 4 rfl rfl hnn (by decide) rfl ?_
              refine g_iinc hF (x5 + 1) [(5, .int (x5 + 1)), (3, .int (x3 + 1)), (4, .int (x5 + 1)), (0, .ref (r 2)), (1, .ref (a 4)), (2, .int x2)] d_X10_listed_59 5 rfl rfl hnn (by decide) rfl ?_
              refine g_goto hF 8 d_X10_listed_62 (by decide) ?_
              exact g_sub (L' := [(0, .ref (r 2)), (1, .ref (a 4)), (2, .int x2), (3, .int (x3 + 1)), (4, .int (x5 + 1)), (5, .int (x5 + 1))]) [3, 4, 5, 1, 2, 0] rfl (ih8 _ (N8 ▸ upm_lt c2_14 (by decide)) x2 (x3 + 1) (x5 + 1) (x5 + 1) rfl (by show 0 ≤ (x5 + 1).toInt ∧ (x5 + 1).toInt ≤ 1000 ∧ 0 ≤ (x5 + 1).toInt ∧ (x5 + 1).toInt ≤ 1000; have e0 := s_rng x5; have e1 : (1 : Int32).toInt = 1 := (by decide); obtain ⟨k2, e2⟩ := s_add x5 (1 : Int32); have e2a := s_rng (x5 + 1); have e4 := s_rng x3; obtain ⟨k5, e5⟩ := s_add x3 (1 : Int32); have e5a := s_rng (x3 + 1); have e7 := s_rng x2; have e8 : (108 : Int32).toInt = 108 := (by decide); have e9 := s_rng x4; obtain ⟨k10, e10⟩ := s_sub x5 x4; have e10a := s_rng (x5 - x4); omega))
            · -- not taken at 45
              refine g_iload_n hF d_X10_listed_48 rfl 3 rfl ?_
              exact g_iret hF rfl d_X10_listed_49 ⟨rfl, rfl, x3, rfl, rfl⟩
  refine g_iconst hF (v := 0) d_X10_listed_0 (by decide) ?_
  refine g_istore_n hF [(3, .int 0), (0, .ref (r 2)), (1, .ref (a 4)), (2, .int a2)] d_X10_listed_1 rfl hnn (by decide) rfl ?_
  refine g_iconst hF (v := 0) d_X10_listed_2 (by decide) ?_
  refine g_istore hF [(4, .int 0), (3, .int 0), (0, .ref (r 2)), (1, .ref (a 4)), (2, .int a2)] d_X10_listed_3 hnn (by decide) rfl ?_
  refine g_iconst hF (v := 0) d_X10_listed_5 (by decide) ?_
  refine g_istore hF [(5, .int 0), (4, .int 0), (3, .int 0), (0, .ref (r 2)), (1, .ref (a 4)), (2, .int a2)] d_X10_listed_6 hnn (by decide) rfl ?_
  exact g_sub (L' := [(0, .ref (r 2)), (1, .ref (a 4)), (2, .int a2), (3, .int 0), (4, .int 0), (5, .int 0)]) [3, 4, 5, 2, 1, 0] rfl (b8 _ a2 (0 : Int32) (0 : Int32) (0 : Int32) rfl (by show 0 ≤ 0 ∧ 0 ≤ 1000 ∧ 0 ≤ 0 ∧ 0 ≤ 1000; have e0 : (0 : Int32).toInt = 0 := (by decide); have e1 := s_rng a2; omega))
set_option maxHeartbeats 4000000 in
set_option maxRecDepth 100000 in
theorem c_X10_sign (a : Nat → Nat) (g : Nat → Nat → Int32) (r : Nat → Nat) (σ0 : St) (hpre : (σ0 2 2).toInt < 16000) (i0 : Inv σ0) (l : Launch) (D : va_G) (cy : Nat → ClassId) : Ct l D cy SC r (EC a g) y_X10_sign (Cond.code y_X10_sign b_X10_sign 4 (some .boolean)) 6 [.ref (r 2)] σ0 Z0 [] (QI (fun v9 σ9 => (v9 = 0 ∨ v9 = 1) ∧ (Inv σ9 ∧ Keep [(2, 2), (2, 4)] [13, 14, 15, 16] σ0 σ9))) QF := by
  refine Ct_of (EC_ok a g) (by decide) (Nat.le_of_ble_eq_true rfl) (by decide) (fun X hnn hF => ?_)
  show G SC r X σ0 Z0 [] [(0, .ref (r 2))] [] 0
  have b24 : ∀ (N : Nat) (σ : St) (x1 : Int32) (x2 : Int32) , dnm x2 = N → Inv σ → Keep [(2, 2), (2, 4)] [13, 14, 15, 16] σ0 σ → ((σ 2 2).toInt < 16000 ∧ x2.toInt ≤ 3) → G SC r X σ Z0 [] [(0, .ref (r 2)), (1, .int x1), (2, .int x2)] [] 24 := by
    intro M24
    induction M24 using Nat.strongRecOn with
    | _ M24 ih24 =>
      intro σ x1 x2 N24 inv kp hj
      refine g_iload_n hF d_X10_sign_24 rfl 2 rfl ?_
      refine g_if_le hF 57 d_X10_sign_25 (by decide) rfl (fun c1_25 => ?_) (fun c1_25 => ?_)
      · -- taken at 25
        refine g_aload_n hF d_X10_sign_57 rfl 0 rfl ?_
        refine g_aload_n hF d_X10_sign_58 rfl 0 rfl ?_
        refine g_get (v := .int (σ 2 2)) hF 2 obC_2 (by decide) m_44 rfl d_X10_sign_59 ?_
        refine g_callV (As := [.int (σ 2 2)]) (rest := []) hF (c_X10_bad a g r σ (σ 2 2) (by show 0 ≤ (σ 2 2).toInt ∧ (σ 2 2).toInt ≤ 40000; have e0 := s_rng (σ 2 2); have e1 := inv.2.2.2.2.1; omega) inv) (Nat.le_of_ble_eq_true rfl) mV_X10_bad m_817 (recv_ob obC_2) rfl rfl (Nat.le_of_ble_eq_true rfl) d_X10_sign_62 (k_i (fun r2 σ2 ⟨hz2, iσ2, ik2⟩ => ?_)) (fun _ _ _ h => h.elim)
        have kp : Keep [(2, 2), (2, 4)] [13, 14, 15, 16] σ0 σ2 := keep_c kp ik2 (by decide) (by decide)
        exact g_zret hF rfl (k_nz hz2) d_X10_sign_65 ⟨rfl, rfl, r2, rfl, hz2, ⟨iσ2, kp⟩⟩
      · -- not taken at 25
        refine g_aload_n hF d_X10_sign_28 rfl 0 rfl ?_
        refine g_ldcS hF (fun A s h => (EC_s1 h).1) d_X10_sign_29 ?_
        refine g_iload_n hF d_X10_sign_31 rfl 2 rfl ?_
        refine g_callV (As := [.ref (a 4), .int x2]) (rest := []) hF (c_X10_listed_r2_s1 a g r σ x2 inv) (Nat.le_of_ble_eq_true rfl) mV_X10_listed m_844 (recv_ob obC_2) rfl rfl (Nat.le_of_ble_eq_true rfl) d_X10_sign_32 (k_ro (fun r3 => ?_)) (fun _ _ _ h => h.elim)
        refine g_istore_n hF [(3, .int r3), (0, .ref (r 2)), (1, .int x1), (2, .int x2)] d_X10_sign_35 rfl hnn (by decide) rfl ?_
        refine g_iload_n hF d_X10_sign_36 rfl 0 rfl ?_
        refine g_if_lt hF 51 d_X10_sign_37 (by decide) rfl (fun c4_37 => ?_) (fun c4_37 => ?_)
        · -- taken at 37
          refine g_iinc hF (x2 + (-1)) [(2, .int (x2 + (-1))), (3, .int r3), (0, .ref (r 2)), (1, .int x1)] d_X10_sign_51 3 rfl rfl hnn (by decide) rfl ?_
          refine g_goto hF 24 d_X10_sign_54 (by decide) ?_
          exact g_sub (L' := [(0, .ref (r 2)), (1, .int x1), (2, .int (x2 + (-1)))]) [2, 3, 0] rfl (ih24 _ (N24 ▸ dnm_lt c1_25 (by decide)) σ x1 (x2 + (-1)) rfl inv kp (by show (σ 2 2).toInt < 16000 ∧ (x2 + (-1)).toInt ≤ 3; have e0 := s_rng x2; have e1 : ((-1) : Int32).toInt = -1 := (by decide); obtain ⟨k2, e2⟩ := s_add x2 ((-1) : Int32); have e2a := s_rng (x2 + (-1)); have e4 := s_rng r3; have e5 := s_rng x1; have e6 := s_rng (σ 2 2); have e7 := inv.2.2.2.2.1; have e8 := s_rng (σ0 2 2); have e9 := i0.2.2.2.2.1; have e10 : (0 : Int32).toInt = 0 := (by decide); omega))
        · -- not taken at 37
          refine g_aload_n hF d_X10_sign_40 rfl 1 rfl ?_
          refine g_bipush hF (v := 20) d_X10_sign_41 (by decide) ?_
          refine g_iload_n hF d_X10_sign_43 rfl 0 rfl ?_
          refine g_iadd hF d_X10_sign_44 ?_
          refine g_iconst hF (v := 0) d_X10_sign_45 (by decide) ?_
          refine g_iload_n hF d_X10_sign_46 rfl 3 rfl ?_
          refine g_callV (As := [.int (20 + r3), .int 0, .int x2]) (rest := []) hF (c_X10_add a g r σ (20 + r3) (0 : Int32) x2 (by show 0 ≤ (σ 2 2).toInt + x2.toInt ∧ (σ 2 2).toInt + x2.toInt ≤ 40000 ∧ ((20 + r3).toInt = 2 → 0 ≤ 0 ∧ 0 ≤ 16001); have e0 : (20 : Int32).toInt = 20 := (by decide); have e1 := s_rng r3; obtain ⟨k2, e2⟩ := s_add (20 : Int32) r3; have e2a := s_rng (20 + r3); have e4 : (0 : Int32).toInt = 0 := (by decide); have e5 := s_rng x2; have e6 := s_rng (σ 2 2); have e7 := inv.2.2.2.2.1; have e8 := s_rng (σ0 2 2); have e9 := i0.2.2.2.2.1; omega) inv) (Nat.le_of_ble_eq_true rfl) mV_X10_add m_821 (recv_ob obC_2) rfl rfl (Nat.le_of_ble_eq_true rfl) d_X10_sign_47 (k_i (fun r5 σ5 ⟨hz5, iσ5, ik5⟩ => ?_)) (fun _ _ _ h => h.elim)
          have kp : Keep [(2, 2), (2, 4)] [13, 14, 15, 16] σ0 σ5 := keep_c kp ik5 (by decide) (by decide)
          exact g_zret hF rfl (k_nz hz5) d_X10_sign_50 ⟨rfl, rfl, r5, rfl, hz5, ⟨iσ5, kp⟩⟩
  have kp : Keep [(2, 2), (2, 4)] [13, 14, 15, 16] σ0 σ0 := keep_rf
  refine g_aload_n hF d_X10_sign_0 rfl 0 rfl ?_
  refine g_aload_n hF d_X10_sign_1 rfl 0 rfl ?_
  refine g_get (v := .int (σ0 2 2)) hF 2 obC_2 (by decide) m_44 rfl d_X10_sign_2 ?_
  refine g_iconst hF (v := 1) d_X10_sign_5 (by decide) ?_
  refine g_iadd hF d_X10_sign_6 ?_
  refine g_callV (As := [.int ((σ0 2 2) + 1)]) (rest := []) hF (c_X10_byteAt a g r σ0 ((σ0 2 2) + 1) i0) (Nat.le_of_ble_eq_true rfl) mV_X10_byteAt m_806 (recv_ob obC_2) rfl rfl (Nat.le_of_ble_eq_true rfl) d_X10_sign_7 (k_rop (fun r6 hp6 => ?_)) (fun _ _ _ h => h.elim)
  have hp6 : 0 ≤ r6.toInt → (0 ≤ ((σ0 2 2) + 1).toInt ∧ ((σ0 2 2) + 1).toInt < 16000) := hp6
  refine g_callS (As := [.int r6]) (rest := []) hF (c_X10_mayGoOn a g r σ0 r6 i0) (Nat.le_of_ble_eq_true rfl) mS_X10_mayGoOn m_891 rfl rfl (Nat.le_of_ble_eq_true rfl) d_X10_sign_10 (k_roz (fun r7 hz7 => ?_)) (fun _ _ _ h => h.elim)
  refine g_if_eq hF 20 d_X10_sign_13 (by decide) rfl (fun c8_13 => ?_) (fun c8_13 => ?_)
  · -- taken at 13
    refine g_iconst hF (v := 1) d_X10_sign_20 (by decide) ?_
    refine g_istore_n hF [(1, .int 1), (0, .ref (r 2))] d_X10_sign_21 rfl hnn (by decide) rfl ?_
    refine g_iload_n hF d_X10_sign_22 rfl 0 rfl ?_
    refine g_istore_n hF [(2, .int 1), (1, .int 1), (0, .ref (r 2))] d_X10_sign_23 rfl hnn (by decide) rfl ?_
    exact g_sub (L' := [(0, .ref (r 2)), (1, .int 1), (2, .int 1)]) [2, 1, 0] rfl (b24 _ σ0 (1 : Int32) (1 : Int32) rfl i0 kp (by show (σ0 2 2).toInt < 16000 ∧ 1 ≤ 3; have e0 : (1 : Int32).toInt = 1 := (by decide); have e1 := s_rng (σ0 2 2); have e2 := i0.2.2.2.2.1; have e3 := s_rng r6; obtain ⟨k4, e4⟩ := s_add (σ0 2 2) (1 : Int32); have e4a := s_rng ((σ0 2 2) + 1); omega))
  · -- not taken at 13
    refine g_iconst hF (v := 3) d_X10_sign_16 (by decide) ?_
    refine g_goto hF 21 d_X10_sign_17 (by decide) ?_
    refine g_istore_n hF [(1, .int 3), (0, .ref (r 2))] d_X10_sign_21 rfl hnn (by decide) rfl ?_
    refine g_iload_n hF d_X10_sign_22 rfl 0 rfl ?_
    refine g_istore_n hF [(2, .int 3), (1, .int 3), (0, .ref (r 2))] d_X10_sign_23 rfl hnn (by decide) rfl ?_
    exact g_sub (L' := [(0, .ref (r 2)), (1, .int 3), (2, .int 3)]) [2, 1, 0] rfl (b24 _ σ0 (3 : Int32) (3 : Int32) rfl i0 kp (by show (σ0 2 2).toInt < 16000 ∧ 3 ≤ 3; have e0 : (3 : Int32).toInt = 3 := (by decide); have e1 := s_rng (σ0 2 2); have e2 := i0.2.2.2.2.1; have e3 := s_rng r6; have e4 : (1 : Int32).toInt = 1 := (by decide); obtain ⟨k5, e5⟩ := s_add (σ0 2 2) (1 : Int32); have e5a := s_rng ((σ0 2 2) + 1); omega))
