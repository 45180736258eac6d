set_option maxHeartbeats 4000000 in
set_option maxRecDepth 100000 in
theorem c_X6_reset (a : Nat → Nat) (g : Nat → Nat → Int32) (r : Nat → Nat) (σ0 : St) (a1 : Int32) (qa0 : Nat) (hqa0 : isOp qa0) (i0 : Inv σ0) (l : Launch) (D : va_G) (cy : Nat → ClassId) : Ct l D cy SC r (EC a g) y_X6_reset (Cond.code y_X6_reset b_X6_reset 2 none) 0 [.ref (r qa0), .int a1] σ0 Z0 [] (QV (fun σ9 => (Inv σ9 ∧ Keep [] [] σ0 σ9))) QF := by
  refine Ct_of (EC_ok a g) (by decide) (Nat.le_of_ble_eq_true rfl) (by decide) (fun X hnn hF => ?_)
  show G SC r X σ0 Z0 [] [(0, .ref (r qa0)), (1, .int a1)] [] 0
  have kp : Keep [] [] σ0 σ0 := keep_rf
  refine g_aload_n hF d_X6_reset_0 rfl 0 rfl ?_
  refine g_iconst hF (v := 0) d_X6_reset_1 (by decide) ?_
  refine g_put hF 0 (obC_op hqa0) (by decide) m_398 rfl rfl (rf_op hqa0) d_X6_reset_2 ?_
  obtain ⟨σ1, eσ1⟩ : ∃ z, z = upC σ0 qa0 0 (0 : Int32) := ⟨_, rfl⟩
  rw [← eσ1]
  have ik1 : Keep [] [] σ0 σ1 := by rw [eσ1]; exact keep_op hqa0
  have kp : Keep [] [] σ0 σ1 := keep_c kp ik1 (by decide) (by decide)
  have iσ1 : Inv σ1 := inv_keep ik1 i0
  refine g_aload_n hF d_X6_reset_5 rfl 0 rfl ?_
  refine g_iconst hF (v := 0) d_X6_reset_6 (by decide) ?_
  refine g_put hF 1 (obC_op hqa0) (by decide) m_400 rfl rfl (rf_op hqa0) d_X6_reset_7 ?_
  obtain ⟨σ2, eσ2⟩ : ∃ z, z = upC σ1 qa0 1 (0 : Int32) := ⟨_, rfl⟩
  rw [← eσ2]
  have ik2 : Keep [] [] σ1 σ2 := by rw [eσ2]; exact keep_op hqa0
  have kp : Keep [] [] σ0 σ2 := keep_c kp ik2 (by decide) (by decide)
  have iσ2 : Inv σ2 := inv_keep ik2 iσ1
  refine g_aload_n hF d_X6_reset_10 rfl 0 rfl ?_
  refine g_iconst hF (v := 1) d_X6_reset_11 (by decide) ?_
  refine g_put hF 2 (obC_op hqa0) (by decide) m_403 rfl rfl (rf_op hqa0) d_X6_reset_12 ?_
  obtain ⟨σ3, eσ3⟩ : ∃ z, z = upC σ2 qa0 2 (1 : Int32) := ⟨_, rfl⟩
  rw [← eσ3]
  have ik3 : Keep [] [] σ2 σ3 := by rw [eσ3]; exact keep_op hqa0
  have kp : Keep [] [] σ0 σ3 := keep_c kp ik3 (by decide) (by decide)
  have iσ3 : Inv σ3 := inv_keep ik3 iσ2
  refine g_aload_n hF d_X6_reset_15 rfl 0 rfl ?_
  refine g_iconst hF (v := 0) d_X6_reset_16 (by decide) ?_
  refine g_putZ hF 3 (obC_op hqa0) (by decide) m_405 rfl rfl (rf_op hqa0) (Or.inl rfl) d_X6_reset_17 ?_
  obtain ⟨σ4, eσ4⟩ : ∃ z, z = upC σ3 qa0 3 (0 : Int32) := ⟨_, rfl⟩
  rw [← eσ4]
  have ik4 : Keep [] [] σ3 σ4 := by rw [eσ4]; exact keep_op hqa0
  have kp : Keep [] [] σ0 σ4 := keep_c kp ik4 (by decide) (by decide)
  have iσ4 : Inv σ4 := inv_keep ik4 iσ3
  refine g_aload_n hF d_X6_reset_20 rfl 0 rfl ?_
  refine g_iconst hF (v := (-1)) d_X6_reset_21 (by decide) ?_
  refine g_put hF 4 (obC_op hqa0) (by decide) m_407 rfl rfl (rf_op hqa0) d_X6_reset_22 ?_
  obtain ⟨σ5, eσ5⟩ : ∃ z, z = upC σ4 qa0 4 ((-1) : Int32) := ⟨_, rfl⟩
  rw [← eσ5]
  have ik5 : Keep [] [] σ4 σ5 := by rw [eσ5]; exact keep_op hqa0
  have kp : Keep [] [] σ0 σ5 := keep_c kp ik5 (by decide) (by decide)
  have iσ5 : Inv σ5 := inv_keep ik5 iσ4
  refine g_aload_n hF d_X6_reset_25 rfl 0 rfl ?_
  refine g_iconst hF (v := 0) d_X6_reset_26 (by decide) ?_
  refine g_put hF 5 (obC_op hqa0) (by decide) m_409 rfl rfl (rf_op hqa0) d_X6_reset_27 ?_
  obtain ⟨σ6, eσ6⟩ : ∃ z, z = upC σ5 qa0 5 (0 : Int32) := ⟨_, rfl⟩
  rw [← eσ6]
  have ik6 : Keep [] [] σ5 σ6 := by rw [eσ6]; exact keep_op hqa0
  have kp : Keep [] [] σ0 σ6 := keep_c kp ik6 (by decide) (by decide)
  have iσ6 : Inv σ6 := inv_keep ik6 iσ5
  refine g_aload_n hF d_X6_reset_30 rfl 0 rfl ?_
  refine g_iconst hF (v := 0) d_X6_reset_31 (by decide) ?_
  refine g_put hF 6 (obC_op hqa0) (by decide) m_411 rfl rfl (rf_op hqa0) d_X6_reset_32 ?_
  obtain ⟨σ7, eσ7⟩ : ∃ z, z = upC σ6 qa0 6 (0 : Int32) := ⟨_, rfl⟩
  rw [← eσ7]
  have ik7 : Keep [] [] σ6 σ7 := by rw [eσ7]; exact keep_op hqa0
  have kp : Keep [] [] σ0 σ7 := keep_c kp ik7 (by decide) (by decide)
  have iσ7 : Inv σ7 := inv_keep ik7 iσ6
  refine g_aload_n hF d_X6_reset_35 rfl 0 rfl ?_
  refine g_bipush hF (v := (-2)) d_X6_reset_36 (by decide) ?_
  refine g_put hF 7 (obC_op hqa0) (by decide) m_413 rfl rfl (rf_op hqa0) d_X6_reset_38 ?_
  obtain ⟨σ8, eσ8⟩ : ∃ z, z = upC σ7 qa0 7 ((-2) : Int32) := ⟨_, rfl⟩
  rw [← eσ8]
  have ik8 : Keep [] [] σ7 σ8 := by rw [eσ8]; exact keep_op hqa0
  have kp : Keep [] [] σ0 σ8 := keep_c kp ik8 (by decide) (by decide)
  have iσ8 : Inv σ8 := inv_keep ik8 iσ7
  refine g_aload_n hF d_X6_reset_41 rfl 0 rfl ?_
  refine g_iconst hF (v := 0) d_X6_reset_42 (by decide) ?_
  refine g_put hF 8 (obC_op hqa0) (by decide) m_416 rfl rfl (rf_op hqa0) d_X6_reset_43 ?_
  obtain ⟨σ9, eσ9⟩ : ∃ z, z = upC σ8 qa0 8 (0 : Int32) := ⟨_, rfl⟩
  rw [← eσ9]
  have ik9 : Keep [] [] σ8 σ9 := by rw [eσ9]; exact keep_op hqa0
  have kp : Keep [] [] σ0 σ9 := keep_c kp ik9 (by decide) (by decide)
  have iσ9 : Inv σ9 := inv_keep ik9 iσ8
  refine g_aload_n hF d_X6_reset_46 rfl 0 rfl ?_
  refine g_iload_n hF d_X6_reset_47 rfl 1 rfl ?_
  refine g_put hF 9 (obC_op hqa0) (by decide) m_420 rfl rfl (rf_op hqa0) d_X6_reset_48 ?_
  obtain ⟨σ10, eσ10⟩ : ∃ z, z = upC σ9 qa0 9 a1 := ⟨_, rfl⟩
  rw [← eσ10]
  have ik10 : Keep [] [] σ9 σ10 := by rw [eσ10]; exact keep_op hqa0
  have kp : Keep [] [] σ0 σ10 := keep_c kp ik10 (by decide) (by decide)
  have iσ10 : Inv σ10 := inv_keep ik10 iσ9
  refine g_aload_n hF d_X6_reset_51 rfl 0 rfl ?_
  refine g_iconst hF (v := (-1)) d_X6_reset_52 (by decide) ?_
  refine g_put hF 10 (obC_op hqa0) (by decide) m_423 rfl rfl (rf_op hqa0) d_X6_reset_53 ?_
  obtain ⟨σ11, eσ11⟩ : ∃ z, z = upC σ10 qa0 10 ((-1) : Int32) := ⟨_, rfl⟩
  rw [← eσ11]
  have ik11 : Keep [] [] σ10 σ11 := by rw [eσ11]; exact keep_op hqa0
  have kp : Keep [] [] σ0 σ11 := keep_c kp ik11 (by decide) (by decide)
  have iσ11 : Inv σ11 := inv_keep ik11 iσ10
  refine g_aload_n hF d_X6_reset_56 rfl 0 rfl ?_
  refine g_iconst hF (v := 0) d_X6_reset_57 (by decide) ?_
  refine g_put hF 11 (obC_op hqa0) (by decide) m_425 rfl rfl (rf_op hqa0) d_X6_reset_58 ?_
  obtain ⟨σ12, eσ12⟩ : ∃ z, z = upC σ11 qa0 11 (0 : Int32) := ⟨_, rfl⟩
  rw [← eσ12]
  have ik12 : Keep [] [] σ11 σ12 := by rw [eσ12]; exact keep_op hqa0
  have kp : Keep [] [] σ0 σ12 := keep_c kp ik12 (by decide) (by decide)
  have iσ12 : Inv σ12 := inv_keep ik12 iσ11
  refine g_aload_n hF d_X6_reset_61 rfl 0 rfl ?_
  refine g_iconst hF (v := 0) d_X6_reset_62 (by decide) ?_
  refine g_putZ hF 12 (obC_op hqa0) (by decide) m_427 rfl rfl (rf_op hqa0) (Or.inl rfl) d_X6_reset_63 ?_
  obtain ⟨σ13, eσ13⟩ : ∃ z, z = upC σ12 qa0 12 (0 : Int32) := ⟨_, rfl⟩
  rw [← eσ13]
  have ik13 : Keep [] [] σ12 σ13 := by rw [eσ13]; exact keep_op hqa0
  have kp : Keep [] [] σ0 σ13 := keep_c kp ik13 (by decide) (by decide)
  have iσ13 : Inv σ13 := inv_keep ik13 iσ12
  exact g_vret hF rfl d_X6_reset_66 ⟨rfl, rfl, rfl, ⟨iσ13, kp⟩⟩
set_option maxHeartbeats 4000000 in
set_option maxRecDepth 100000 in
theorem c_X0_emit (a : Nat → Nat) (g : Nat → Nat → Int32) (r : Nat → Nat) (σ0 : St) (a1 : Int32) (a2 : Int32) (a3 : Int32) (a4 : Int32) (i0 : Inv σ0) (l : Launch) (D : va_G) (cy : Nat → ClassId) : Ct l D cy SC r (EC a g) y_X0_emit (Cond.code y_X0_emit b_X0_emit 6 (some .int)) 0 [.ref (r 4), .int a1, .int a2, .int a3, .int a4] σ0 Z0 [] (QI (fun _ σ9 => (Inv σ9 ∧ Keep [(4, 1)] [24] σ0 σ9))) QF := by
  refine Ct_of (EC_ok a g) (by decide) (Nat.le_of_ble_eq_true rfl) (by decide) (fun X hnn hF => ?_)
  show G SC r X σ0 Z0 [] [(0, .ref (r 4)), (1, .int a1), (2, .int a2), (3, .int a3), (4, .int a4)] [] 0
  have kp : Keep [(4, 1)] [24] σ0 σ0 := keep_rf
  refine g_aload_n hF d_X0_emit_0 rfl 0 rfl ?_
  refine g_get (v := .int (σ0 4 1)) hF 1 obC_4 (by decide) m_152 rfl d_X0_emit_1 ?_
  refine g_istore hF [(5, .int (σ0 4 1)), (0, .ref (r 4)), (1, .int a1), (2, .int a2), (3, .int a3), (4, .int a4)] d_X0_emit_4 hnn (by decide) rfl ?_
  refine g_iload hF d_X0_emit_6 0 rfl ?_
  refine g_if_lt hF 90 d_X0_emit_8 (by decide) rfl (fun c1_8 => ?_) (fun c1_8 => ?_)
  · -- taken at 8
    refine g_iload hF d_X0_emit_90 0 rfl ?_
    exact g_iret hF rfl d_X0_emit_92 ⟨rfl, rfl, (σ0 4 1), rfl, ⟨i0, kp⟩⟩
  · -- not taken at 8
    refine g_iload hF d_X0_emit_11 0 rfl ?_
    refine g_aload_n hF d_X0_emit_13 rfl 1 rfl ?_
    refine g_get (v := .ref (r 24)) hF 0 obC_4 (by decide) m_149 rfl d_X0_emit_14 ?_
    refine g_alen hF arC_24 (fun _ => ⟨1, _, rfl⟩) (v := 262208) (by decide) d_X0_emit_17 ?_
    refine g_iconst hF (v := 4) d_X0_emit_18 (by decide) ?_
    refine g_isub hF d_X0_emit_19 ?_
    refine g_top (v := 262204) (by decide) ?_
    refine g_icmp_ge (yv := 262204) hF 90 d_X0_emit_20 (by decide) rfl (by decide) (fun c2_20 => ?_) (fun c2_20 => ?_)
    · -- taken at 20
      refine g_iload hF d_X0_emit_90 0 rfl ?_
      exact g_iret hF rfl d_X0_emit_92 ⟨rfl, rfl, (σ0 4 1), rfl, ⟨i0, kp⟩⟩
    · -- not taken at 20
      refine g_aload_n hF d_X0_emit_23 rfl 1 rfl ?_
      refine g_get (v := .ref (r 24)) hF 0 obC_4 (by decide) m_149 rfl d_X0_emit_24 ?_
      refine g_iload hF d_X0_emit_27 0 rfl ?_
      refine g_iload_n hF d_X0_emit_29 rfl 2 rfl ?_
      refine g_iast hF arC_24 (by refine s_in (by decide) ?_ ?_ <;> (have e0 := s_rng (σ0 4 1); have e1 : (0 : Int32).toInt = 0 := (by decide); have e2 : (262204 : Int32).toInt = 262204 := (by decide); omega)) d_X0_emit_30 ?_
      have kp : Keep [(4, 1)] [24] σ0 (upC σ0 24 ((σ0 4 1)).toNatClampNeg a1) := keep_a kp (by decide)
      refine g_aload_n hF d_X0_emit_31 rfl 1 rfl ?_
      refine g_get (v := .ref (r 24)) hF 0 obC_4 (by decide) m_149 rfl d_X0_emit_32 ?_
      refine g_iload hF d_X0_emit_35 0 rfl ?_
      refine g_iconst hF (v := 1) d_X0_emit_37 (by decide) ?_
      refine g_iadd hF d_X0_emit_38 ?_
      refine g_iload_n hF d_X0_emit_39 rfl 3 rfl ?_
      refine g_iast hF arC_24 (by refine s_in (by decide) ?_ ?_ <;> (have e0 := s_rng (σ0 4 1); have e1 : (1 : Int32).toInt = 1 := (by decide); obtain ⟨k2, e2⟩ := s_add (σ0 4 1) (1 : Int32); have e2a := s_rng ((σ0 4 1) + 1); have e4 : (0 : Int32).toInt = 0 := (by decide); have e5 : (262204 : Int32).toInt = 262204 := (by decide); omega)) d_X0_emit_40 ?_
      have kp : Keep [(4, 1)] [24] σ0 (upC (upC σ0 24 ((σ0 4 1)).toNatClampNeg a1) 24 (((σ0 4 1) + 1)).toNatClampNeg a2) := keep_a kp (by decide)
      refine g_aload_n hF d_X0_emit_41 rfl 1 rfl ?_
      refine g_get (v := .ref (r 24)) hF 0 obC_4 (by decide) m_149 rfl d_X0_emit_42 ?_
      refine g_iload hF d_X0_emit_45 0 rfl ?_
      refine g_iconst hF (v := 2) d_X0_emit_47 (by decide) ?_
      refine g_iadd hF d_X0_emit_48 ?_
      refine g_iload_n hF d_X0_emit_49 rfl 4 rfl ?_
      refine g_iast hF arC_24 (by refine s_in (by decide) ?_ ?_ <;> (have e0 := s_rng (σ0 4 1); have e1 : (2 : Int32).toInt = 2 := (by decide); obtain ⟨k2, e2⟩ := s_add (σ0 4 1) (2 : Int32); have e2a := s_rng ((σ0 4 1) + 2); have e4 : (0 : Int32).toInt = 0 := (by decide); have e5 : (262204 : Int32).toInt = 262204 := (by decide); omega)) d_X0_emit_50 ?_
      have kp : Keep [(4, 1)] [24] σ0 (upC (upC (upC σ0 24 ((σ0 4 1)).toNatClampNeg a1) 24 (((σ0 4 1) + 1)).toNatClampNeg a2) 24 (((σ0 4 1) + 2)).toNatClampNeg a3) := keep_a kp (by decide)
      refine g_aload_n hF d_X0_emit_51 rfl 1 rfl ?_
      refine g_get (v := .ref (r 24)) hF 0 obC_4 (by decide) m_149 rfl d_X0_emit_52 ?_
      refine g_iload hF d_X0_emit_55 0 rfl ?_
      refine g_iconst hF (v := 3) d_X0_emit_57 (by decide) ?_
      refine g_iadd hF d_X0_emit_58 ?_
      refine g_iload hF d_X0_emit_59 5 rfl ?_
      refine g_iast hF arC_24 (by refine s_in (by decide) ?_ ?_ <;> (have e0 := s_rng (σ0 4 1); have e1 : (3 : Int32).toInt = 3 := (by decide); obtain ⟨k2, e2⟩ := s_add (σ0 4 1) (3 : Int32); have e2a := s_rng ((σ0 4 1) + 3); have e4 : (0 : Int32).toInt = 0 := (by decide); have e5 : (262204 : Int32).toInt = 262204 := (by decide); omega)) d_X0_emit_61 ?_
      have kp : Keep [(4, 1)] [24] σ0 (upC (upC (upC (upC σ0 24 ((σ0 4 1)).toNatClampNeg a1) 24 (((σ0 4 1) + 1)).toNatClampNeg a2) 24 (((σ0 4 1) + 2)).toNatClampNeg a3) 24 (((σ0 4 1) + 3)).toNatClampNeg a4) := keep_a kp (by decide)
      refine g_aload_n hF d_X0_emit_62 rfl 1 rfl ?_
      refine g_iload hF d_X0_emit_63 0 rfl ?_
      refine g_iload_n hF d_X0_emit_65 rfl 2 rfl ?_
      refine g_if_lt hF 85 d_X0_emit_66 (by decide) rfl (fun c3_66 => ?_) (fun c3_66 => ?_)
      · -- taken at 66
        refine g_iconst hF (v := 0) d_X0_emit_85 (by decide) ?_
        refine g_iadd hF d_X0_emit_86 ?_
        refine g_put (v := ((σ0 4 1) + 0)) hF 1 obC_4 (by decide) m_152 rfl rfl rfl d_X0_emit_87 ?_
        have kp : Keep [(4, 1)] [24] σ0 (upC (upC (upC (upC (upC σ0 24 ((σ0 4 1)).toNatClampNeg a1) 24 (((σ0 4 1) + 1)).toNatClampNeg a2) 24 (((σ0 4 1) + 2)).toNatClampNeg a3) 24 (((σ0 4 1) + 3)).toNatClampNeg a4) 4 1 ((σ0 4 1) + 0)) := keep_f kp (by decide)
        refine g_iload hF d_X0_emit_90 0 rfl ?_
        have j4 : Inv (upC (upC (upC (upC (upC σ0 24 ((σ0 4 1)).toNatClampNeg a1) 24 (((σ0 4 1) + 1)).toNatClampNeg a2) 24 (((σ0 4 1) + 2)).toNatClampNeg a3) 24 (((σ0 4 1) + 3)).toNatClampNeg a4) 4 1 ((σ0 4 1) + 0)) := ⟨i0.1, i0.2.1, i0.2.2.1, i0.2.2.2.1, i0.2.2.2.2.1, i0.2.2.2.2.2.1, i0.2.2.2.2.2.2.1, i0.2.2.2.2.2.2.2.1, i0.2.2.2.2.2.2.2.2.1, i0.2.2.2.2.2.2.2.2.2.1, i0.2.2.2.2.2.2.2.2.2.2.1, i0.2.2.2.2.2.2.2.2.2.2.2.1, i0.2.2.2.2.2.2.2.2.2.2.2.2.1, i0.2.2.2.2.2.2.2.2.2.2.2.2.2.1, i0.2.2.2.2.2.2.2.2.2.2.2.2.2.2.1, i0.2.2.2.2.2.2.2.2.2.2.2.2.2.2.2.1, i0.2.2.2.2.2.2.2.2.2.2.2.2.2.2.2.2.1, i0.2.2.2.2.2.2.2.2.2.2.2.2.2.2.2.2.2.1, i0.2.2.2.2.2.2.2.2.2.2.2.2.2.2.2.2.2.2.1, i0.2.2.2.2.2.2.2.2.2.2.2.2.2.2.2.2.2.2.2⟩
        exact g_iret hF rfl d_X0_emit_92 ⟨rfl, rfl, (σ0 4 1), rfl, ⟨j4, kp⟩⟩
      · -- not taken at 66
        refine g_iload_n hF d_X0_emit_69 rfl 2 rfl ?_
        refine g_gets hF (fun A s h => EC_z1 h) m_1075 d_X0_emit_70 ?_
        refine g_tlen hF (fun A s h => EC_t1 h) (v := 61) (by decide) d_X0_emit_73 ?_
        refine g_icmp_ge (yv := 61) hF 85 d_X0_emit_74 (by decide) rfl (by decide) (fun c5_74 => ?_) (fun c5_74 => ?_)
        · -- taken at 74
          refine g_iconst hF (v := 0) d_X0_emit_85 (by decide) ?_
          refine g_iadd hF d_X0_emit_86 ?_
          refine g_put (v := ((σ0 4 1) + 0)) hF 1 obC_4 (by decide) m_152 rfl rfl rfl d_X0_emit_87 ?_
          have kp : Keep [(4, 1)] [24] σ0 (upC (upC (upC (upC (upC σ0 24 ((σ0 4 1)).toNatClampNeg a1) 24 (((σ0 4 1) + 1)).toNatClampNeg a2) 24 (((σ0 4 1) + 2)).toNatClampNeg a3) 24 (((σ0 4 1) + 3)).toNatClampNeg a4) 4 1 ((σ0 4 1) + 0)) := keep_f kp (by decide)
          refine g_iload hF d_X0_emit_90 0 rfl ?_
          have j6 : Inv (upC (upC (upC (upC (upC σ0 24 ((σ0 4 1)).toNatClampNeg a1) 24 (((σ0 4 1) + 1)).toNatClampNeg a2) 24 (((σ0 4 1) + 2)).toNatClampNeg a3) 24 (((σ0 4 1) + 3)).toNatClampNeg a4) 4 1 ((σ0 4 1) + 0)) := ⟨i0.1, i0.2.1, i0.2.2.1, i0.2.2.2.1, i0.2.2.2.2.1, i0.2.2.2.2.2.1, i0.2.2.2.2.2.2.1, i0.2.2.2.2.2.2.2.1, i0.2.2.2.2.2.2.2.2.1, i0.2.2.2.2.2.2.2.2.2.1, i0.2.2.2.2.2.2.2.2.2.2.1, i0.2.2.2.2.2.2.2.2.2.2.2.1, i0.2.2.2.2.2.2.2.2.2.2.2.2.1, i0.2.2.2.2.2.2.2.2.2.2.2.2.2.1, i0.2.2.2.2.2.2.2.2.2.2.2.2.2.2.1, i0.2.2.2.2.2.2.2.2.2.2.2.2.2.2.2.1, i0.2.2.2.2.2.2.2.2.2.2.2.2.2.2.2.2.1, i0.2.2.2.2.2.2.2.2.2.2.2.2.2.2.2.2.2.1, i0.2.2.2.2.2.2.2.2.2.2.2.2.2.2.2.2.2.2.1, i0.2.2.2.2.2.2.2.2.2.2.2.2.2.2.2.2.2.2.2⟩
          exact g_iret hF rfl d_X0_emit_92 ⟨rfl, rfl, (σ0 4 1), rfl, ⟨j6, kp⟩⟩
        · -- not taken at 74
          refine g_gets hF (fun A s h => EC_z1 h) m_1075 d_X0_emit_77 ?_
          refine g_iload_n hF d_X0_emit_80 rfl 2 rfl ?_
          refine g_ti hF (fun A s h => EC_t1 h) (by refine s_in (by decide) ?_ ?_ <;> (have e0 := s_rng a1; have e1 : (0 : Int32).toInt = 0 := (by decide); have e2 : (61 : Int32).toInt = 61 := (by decide); have e3 := s_rng (σ0 4 1); have e4 : (262204 : Int32).toInt = 262204 := (by decide); omega)) d_X0_emit_81 ?_
          refine g_any (fun v7 => ?_)
          refine g_goto hF 86 d_X0_emit_82 (by decide) ?_
          refine g_iadd hF d_X0_emit_86 ?_
          refine g_put (v := ((σ0 4 1) + v7)) hF 1 obC_4 (by decide) m_152 rfl rfl rfl d_X0_emit_87 ?_
          have kp : Keep [(4, 1)] [24] σ0 (upC (upC (upC (upC (upC σ0 24 ((σ0 4 1)).toNatClampNeg a1) 24 (((σ0 4 1) + 1)).toNatClampNeg a2) 24 (((σ0 4 1) + 2)).toNatClampNeg a3) 24 (((σ0 4 1) + 3)).toNatClampNeg a4) 4 1 ((σ0 4 1) + v7)) := keep_f kp (by decide)
          refine g_iload hF d_X0_emit_90 0 rfl ?_
          have j8 : Inv (upC (upC (upC (upC (upC σ0 24 ((σ0 4 1)).toNatClampNeg a1) 24 (((σ0 4 1) + 1)).toNatClampNeg a2) 24 (((σ0 4 1) + 2)).toNatClampNeg a3) 24 (((σ0 4 1) + 3)).toNatClampNeg a4) 4 1 ((σ0 4 1) + v7)) := ⟨i0.1, i0.2.1, i0.2.2.1, i0.2.2.2.1, i0.2.2.2.2.1, i0.2.2.2.2.2.1, i0.2.2.2.2.2.2.1, i0.2.2.2.2.2.2.2.1, i0.2.2.2.2.2.2.2.2.1, i0.2.2.2.2.2.2.2.2.2.1, i0.2.2.2.2.2.2.2.2.2.2.1, i0.2.2.2.2.2.2.2.2.2.2.2.1, i0.2.2.2.2.2.2.2.2.2.2.2.2.1, i0.2.2.2.2.2.2.2.2.2.2.2.2.2.1, i0.2.2.2.2.2.2.2.2.2.2.2.2.2.2.1, i0.2.2.2.2.2.2.2.2.2.2.2.2.2.2.2.1, i0.2.2.2.2.2.2.2.2.2.2.2.2.2.2.2.2.1, i0.2.2.2.2.2.2.2.2.2.2.2.2.2.2.2.2.2.1, i0.2.2.2.2.2.2.2.2.2.2.2.2.2.2.2.2.2.2.1, i0.2.2.2.2.2.2.2.2.2.2.2.2.2.2.2.2.2.2.2⟩
          exact g_iret hF rfl d_X0_emit_92 ⟨rfl, rfl, (σ0 4 1), rfl, ⟨j8, kp⟩⟩
set_option maxHeartbeats 4000000 in
set_option maxRecDepth 100000 in
theorem c_X11_fail (a : Nat → Nat) (g : Nat → Nat → Int32) (r : Nat → Nat) (σ0 : St) (a1 : Int32) (a2 : Int32) (i0 : Inv σ0) (l : Launch) (D : va_G) (cy : Nat → ClassId) : Ct l D cy SC r (EC a g) y_X11_fail (Cond.code y_X11_fail b_X11_fail 3 none) 0 [.ref (r 6), .int a1, .int a2] σ0 Z0 [] (QV (fun σ9 => (Inv σ9 ∧ Keep [(6, 3), (6, 4)] [] σ0 σ9))) QF := by
  refine Ct_of (EC_ok a g) (by decide) (Nat.le_of_ble_eq_true rfl) (by decide) (fun X hnn hF => ?_)
  show G SC r X σ0 Z0 [] [(0, .ref (r 6)), (1, .int a1), (2, .int a2)] [] 0
  have kp : Keep [(6, 3), (6, 4)] [] σ0 σ0 := keep_rf
  refine g_aload_n hF d_X11_fail_0 rfl 0 rfl ?_
  refine g_get (v := .int (σ0 6 3)) hF 3 obC_6 (by decide) m_314 rfl d_X11_fail_1 ?_
  refine g_if_ne hF 17 d_X11_fail_4 (by decide) rfl (fun c1_4 => ?_) (fun c1_4 => ?_)
  · -- taken at 4
    exact g_vret hF rfl d_X11_fail_17 ⟨rfl, rfl, rfl, ⟨i0, kp⟩⟩
  · -- not taken at 4
    refine g_aload_n hF d_X11_fail_7 rfl 0 rfl ?_
    refine g_iload_n hF d_X11_fail_8 rfl 1 rfl ?_
    refine g_put (v := a1) hF 3 obC_6 (by decide) m_314 rfl rfl rfl d_X11_fail_9 ?_
    have kp : Keep [(6, 3), (6, 4)] [] σ0 (upC σ0 6 3 a1) := keep_f kp (by decide)
    refine g_aload_n hF d_X11_fail_12 rfl 0 rfl ?_
    refine g_iload_n hF d_X11_fail_13 rfl 2 rfl ?_
    refine g_put (v := a2) hF 4 obC_6 (by decide) m_318 rfl rfl rfl d_X11_fail_14 ?_
    have kp : Keep [(6, 3), (6, 4)] [] σ0 (upC (upC σ0 6 3 a1) 6 4 a2) := keep_f kp (by decide)
    have j2 : Inv (upC (upC σ0 6 3 a1) 6 4 a2) := ⟨i0.1, i0.2.1, i0.2.2.1, i0.2.2.2.1, i0.2.2.2.2.1, i0.2.2.2.2.2.1, i0.2.2.2.2.2.2.1, i0.2.2.2.2.2.2.2.1, i0.2.2.2.2.2.2.2.2.1, i0.2.2.2.2.2.2.2.2.2.1, i0.2.2.2.2.2.2.2.2.2.2.1, i0.2.2.2.2.2.2.2.2.2.2.2.1, i0.2.2.2.2.2.2.2.2.2.2.2.2.1, i0.2.2.2.2.2.2.2.2.2.2.2.2.2.1, i0.2.2.2.2.2.2.2.2.2.2.2.2.2.2.1, i0.2.2.2.2.2.2.2.2.2.2.2.2.2.2.2.1, i0.2.2.2.2.2.2.2.2.2.2.2.2.2.2.2.2.1, i0.2.2.2.2.2.2.2.2.2.2.2.2.2.2.2.2.2.1, i0.2.2.2.2.2.2.2.2.2.2.2.2.2.2.2.2.2.2.1, i0.2.2.2.2.2.2.2.2.2.2.2.2.2.2.2.2.2.2.2⟩
    exact g_vret hF rfl d_X11_fail_17 ⟨rfl, rfl, rfl, ⟨j2, kp⟩⟩
set_option maxHeartbeats 4000000 in
set_option maxRecDepth 100000 in
theorem c_X6_become (a : Nat → Nat) (g : Nat → Nat → Int32) (r : Nat → Nat) (σ0 : St) (a1 : Int32) (a2 : Int32) (qa0 : Nat) (hqa0 : isOp qa0) (i0 : Inv σ0) (l : Launch) (D : va_G) (cy : Nat → ClassId) : Ct l D cy SC r (EC a g) y_X6_become (Cond.code y_X6_become b_X6_become 3 none) 0 [.ref (r qa0), .int a1, .int a2] σ0 Z0 [] (QV (fun σ9 => (Inv σ9 ∧ Keep [] [] σ0 σ9))) QF := by
  refine Ct_of (EC_ok a g) (by decide) (Nat.le_of_ble_eq_true rfl) (by decide) (fun X hnn hF => ?_)
  show G SC r X σ0 Z0 [] [(0, .ref (r qa0)), (1, .int a1), (2, .int a2)] [] 0
  have kp : Keep [] [] σ0 σ0 := keep_rf
  refine g_aload_n hF d_X6_become_0 rfl 0 rfl ?_
  refine g_iconst hF (v := 0) d_X6_become_1 (by decide) ?_
  refine g_put hF 0 (obC_op hqa0) (by decide) m_398 rfl rfl (rf_op hqa0) d_X6_become_2 ?_
  obtain ⟨σ1, eσ1⟩ : ∃ z, z = upC σ0 qa0 0 (0 : Int32) := ⟨_, rfl⟩
  rw [← eσ1]
  have ik1 : Keep [] [] σ0 σ1 := by rw [eσ1]; exact keep_op hqa0
  have kp : Keep [] [] σ0 σ1 := keep_c kp ik1 (by decide) (by decide)
  have iσ1 : Inv σ1 := inv_keep ik1 i0
  refine g_aload_n hF d_X6_become_5 rfl 0 rfl ?_
  refine g_iload_n hF d_X6_become_6 rfl 1 rfl ?_
  refine g_put hF 1 (obC_op hqa0) (by decide) m_400 rfl rfl (rf_op hqa0) d_X6_become_7 ?_
  obtain ⟨σ2, eσ2⟩ : ∃ z, z = upC σ1 qa0 1 a1 := ⟨_, rfl⟩
  rw [← eσ2]
  have ik2 : Keep [] [] σ1 σ2 := by rw [eσ2]; exact keep_op hqa0
  have kp : Keep [] [] σ0 σ2 := keep_c kp ik2 (by decide) (by decide)
  have iσ2 : Inv σ2 := inv_keep ik2 iσ1
  refine g_aload_n hF d_X6_become_10 rfl 0 rfl ?_
  refine g_iload_n hF d_X6_become_11 rfl 2 rfl ?_
  refine g_put hF 6 (obC_op hqa0) (by decide) m_411 rfl rfl (rf_op hqa0) d_X6_become_12 ?_
  obtain ⟨σ3, eσ3⟩ : ∃ z, z = upC σ2 qa0 6 a2 := ⟨_, rfl⟩
  rw [← eσ3]
  have ik3 : Keep [] [] σ2 σ3 := by rw [eσ3]; exact keep_op hqa0
  have kp : Keep [] [] σ0 σ3 := keep_c kp ik3 (by decide) (by decide)
  have iσ3 : Inv σ3 := inv_keep ik3 iσ2
  refine g_aload_n hF d_X6_become_15 rfl 0 rfl ?_
  refine g_iconst hF (v := 0) d_X6_become_16 (by decide) ?_
  refine g_putZ hF 3 (obC_op hqa0) (by decide) m_405 rfl rfl (rf_op hqa0) (Or.inl rfl) d_X6_become_17 ?_
  obtain ⟨σ4, eσ4⟩ : ∃ z, z = upC σ3 qa0 3 (0 : Int32) := ⟨_, rfl⟩
  rw [← eσ4]
  have ik4 : Keep [] [] σ3 σ4 := by rw [eσ4]; exact keep_op hqa0
  have kp : Keep [] [] σ0 σ4 := keep_c kp ik4 (by decide) (by decide)
  have iσ4 : Inv σ4 := inv_keep ik4 iσ3
  exact g_vret hF rfl d_X6_become_20 ⟨rfl, rfl, rfl, ⟨iσ4, kp⟩⟩
set_option maxHeartbeats 4000000 in
set_option maxRecDepth 100000 in
theorem c_X10_sameName (a : Nat → Nat) (g : Nat → Nat → Int32) (r : Nat → Nat) (σ0 : St) (a1 : Int32) (a2 : Int32) (i0 : Inv σ0) (l : Launch) (D : va_G) (cy : Nat → ClassId) : Ct l D cy SC r (EC a g) y_X10_sameName (Cond.code y_X10_sameName b_X10_sameName 7 (some .boolean)) 1 [.ref (r 2), .int a1, .int a2] σ0 Z0 [] (QI (fun v9 σ9 => (v9 = 0 ∨ v9 = 1) ∧ σ9 = σ0)) QF := by
  refine Ct_of (EC_ok a g) (by decide) (Nat.le_of_ble_eq_true rfl) (by decide) (fun X hnn hF => ?_)
  show G SC r X σ0 Z0 [] [(0, .ref (r 2)), (1, .int a1), (2, .int a2)] [] 0
  have b46 : ∀ (N : Nat) (x1 : Int32) (x2 : Int32) (x3 : Int32) (x4 : Int32) (x5 : Int32) (x6 : Int32) , upm x6 = N → (0 ≤ x4.toInt ∧ 0 ≤ x5.toInt ∧ 0 ≤ x6.toInt ∧ x4.toInt + x6.toInt ≤ 40000 ∧ x5.toInt + x6.toInt ≤ 40000) → G SC r X σ0 Z0 [] [(0, .ref (r 2)), (1, .int x1), (2, .int x2), (3, .int x3), (4, .int x4), (5, .int x5), (6, .int x6)] [] 46 := by
    intro M46
    induction M46 using Nat.strongRecOn with
    | _ M46 ih46 =>
      intro x1 x2 x3 x4 x5 x6 N46 hj
      refine g_iload hF d_X10_sameName_46 6 rfl ?_
      refine g_iload_n hF d_X10_sameName_48 rfl 3 rfl ?_
      refine g_icmp_ge hF 109 d_X10_sameName_49 (by decide) rfl rfl (fun c1_49 => ?_) (fun c1_49 => ?_)
      · -- taken at 49
        refine g_iconst hF (v := 1) d_X10_sameName_109 (by decide) ?_
        exact g_zret hF rfl (k_nz (Or.inr rfl)) d_X10_sameName_110 ⟨rfl, rfl, (1 : Int32), rfl, (Or.inr rfl), rfl⟩
      · -- not taken at 49
        refine g_iload hF d_X10_sameName_52 4 rfl ?_
        refine g_iload hF d_X10_sameName_54 6 rfl ?_
        refine g_iadd hF d_X10_sameName_56 ?_
        refine g_aload_n hF d_X10_sameName_57 rfl 0 rfl ?_
        refine g_get (v := .ref (r 1)) hF 0 obC_2 (by decide) m_41 rfl d_X10_sameName_58 ?_
        refine g_alen hF arC_1 (fun _ => ⟨0, _, rfl⟩) (v := 16000) (by decide) d_X10_sameName_61 ?_
        refine g_icmp_ge (yv := 16000) hF 101 d_X10_sameName_62 (by decide) rfl (by decide) (fun c2_62 => ?_) (fun c2_62 => ?_)
        · -- taken at 62
          refine g_iconst hF (v := 0) d_X10_sameName_101 (by decide) ?_
          exact g_zret hF rfl (k_nz (Or.inl rfl)) d_X10_sameName_102 ⟨rfl, rfl, (0 : Int32), rfl, (Or.inl rfl), rfl⟩
        · -- not taken at 62
          refine g_iload hF d_X10_sameName_65 5 rfl ?_
          refine g_iload hF d_X10_sameName_67 6 rfl ?_
          refine g_iadd hF d_X10_sameName_69 ?_
          refine g_aload_n hF d_X10_sameName_70 rfl 0 rfl ?_
          refine g_get (v := .ref (r 1)) hF 0 obC_2 (by decide) m_41 rfl d_X10_sameName_71 ?_
          refine g_alen hF arC_1 (fun _ => ⟨0, _, rfl⟩) (v := 16000) (by decide) d_X10_sameName_74 ?_
          refine g_icmp_ge (yv := 16000) hF 101 d_X10_sameName_75 (by decide) rfl (by decide) (fun c3_75 => ?_) (fun c3_75 => ?_)
          · -- taken at 75
            refine g_iconst hF (v := 0) d_X10_sameName_101 (by decide) ?_
            exact g_zret hF rfl (k_nz (Or.inl rfl)) d_X10_sameName_102 ⟨rfl, rfl, (0 : Int32), rfl, (Or.inl rfl), rfl⟩
          · -- not taken at 75
            refine g_aload_n hF d_X10_sameName_78 rfl 0 rfl ?_
            refine g_get (v := .ref (r 1)) hF 0 obC_2 (by decide) m_41 rfl d_X10_sameName_79 ?_
            refine g_iload hF d_X10_sameName_82 4 rfl ?_
            refine g_iload hF d_X10_sameName_84 6 rfl ?_
            refine g_iadd hF d_X10_sameName_86 ?_
            refine g_bald hF arC_1 (by refine s_in (by decide) ?_ ?_ <;> (have e0 := s_rng x4; have e1 := s_rng x6; obtain ⟨k2, e2⟩ := s_add x4 x6; have e2a := s_rng (x4 + x6); have e4 := s_rng x3; have e5 : (16000 : Int32).toInt = 16000 := (by decide); have e6 := s_rng x5; obtain ⟨k7, e7⟩ := s_add x5 x6; have e7a := s_rng (x5 + x6); omega)) d_X10_sameName_87 ?_
            refine g_any (fun v4 => ?_)
            refine g_aload_n hF d_X10_sameName_88 rfl 0 rfl ?_
            refine g_get (v := .ref (r 1)) hF 0 obC_2 (by decide) m_41 rfl d_X10_sameName_89 ?_
            refine g_iload hF d_X10_sameName_92 5 rfl ?_
            refine g_iload hF d_X10_sameName_94 6 rfl ?_
            refine g_iadd hF d_X10_sameName_96 ?_
            refine g_bald hF arC_1 (by refine s_in (by decide) ?_ ?_ <;> (have e0 := s_rng x5; have e1 := s_rng x6; obtain ⟨k2, e2⟩ := s_add x5 x6; have e2a := s_rng (x5 + x6); have e4 := s_rng x3; have e5 := s_rng x4; obtain ⟨k6, e6⟩ := s_add x4 x6; have e6a := s_rng (x4 + x6); have e8 : (16000 : Int32).toInt = 16000 := (by decide); omega)) d_X10_sameName_97 ?_
            refine g_any (fun v5 => ?_)
            refine g_icmp_eq hF 103 d_X10_sameName_98 (by decide) rfl rfl (fun c6_98 => ?_) (fun c6_98 => ?_)
            · -- taken at 98
              refine g_iinc hF (x6 + 1) [(6, .int (x6 + 1)), (0, .ref (r 2)), (1, .int x1), (2, .int x2), (3, .int x3), (4, .int x4), (5, .int x5)] d_X10_sameName_103 6 rfl rfl hnn (by decide) rfl ?_
              refine g_goto hF 46 d_X10_sameName_106 (by decide) ?_
              exact g_sub (L' := [(0, .ref (r 2)), (1, .int x1), (2, .int x2), (3, .int x3), (4, .int x4), (5, .int x5), (6, .int (x6 + 1))]) [1, 2, 3, 4, 5, 6, 0] rfl (ih46 _ (N46 ▸ upm_lt c1_49 (s_rng x3).2) x1 x2 x3 x4 x5 (x6 + 1) rfl (by show 0 ≤ x4.toInt ∧ 0 ≤ x5.toInt ∧ 0 ≤ (x6 + 1).toInt ∧ x4.toInt + (x6 + 1).toInt ≤ 40000 ∧ x5.toInt + (x6 + 1).toInt ≤ 40000; have e0 := s_rng x6; have e1 : (1 : Int32).toInt = 1 := (by decide); obtain ⟨k2, e2⟩ := s_add x6 (1 : Int32); have e2a := s_rng (x6 + 1); have e4 := s_rng x1; have e5 := s_rng x2; have e6 := s_rng x3; have e7 := s_rng x4; have e8 := s_rng x5; obtain ⟨k9, e9⟩ := s_add x4 x6; have e9a := s_rng (x4 + x6); have e11 : (16000 : Int32).toInt = 16000 := (by decide); obtain ⟨k12, e12⟩ := s_add x5 x6; have e12a := s_rng (x5 + x6); omega))
            · -- not taken at 98
              refine g_iconst hF (v := 0) d_X10_sameName_101 (by decide) ?_
              exact g_zret hF rfl (k_nz (Or.inl rfl)) d_X10_sameName_102 ⟨rfl, rfl, (0 : Int32), rfl, (Or.inl rfl), rfl⟩
  refine g_aload_n hF d_X10_sameName_0 rfl 0 rfl ?_
  refine g_get (v := .ref (r 14)) hF 6 obC_2 (by decide) m_52 rfl d_X10_sameName_1 ?_
  refine g_iload_n hF d_X10_sameName_4 rfl 1 rfl ?_
  refine g_callSN (As := [.ref (r 14), .int a1]) (rest := []) hF (c_at a g r σ0 arC_14 (by decide) a1) (Nat.le_of_ble_eq_true rfl) mS_X12_at nm_1085 rfl rfl (Nat.le_of_ble_eq_true rfl) d_X10_sameName_5 (k_rop (fun r7 hr7 => ?_))
  have hs7 := hr7
  refine g_istore_n hF [(3, .int r7), (0, .ref (r 2)), (1, .int a1), (2, .int a2)] d_X10_sameName_8 rfl hnn (by decide) rfl ?_
  refine g_iload_n hF d_X10_sameName_9 rfl 0 rfl ?_
  refine g_aload_n hF d_X10_sameName_10 rfl 1 rfl ?_
  refine g_get (v := .ref (r 14)) hF 6 obC_2 (by decide) m_52 rfl d_X10_sameName_11 ?_
  refine g_iload_n hF d_X10_sameName_14 rfl 3 rfl ?_
  refine g_callSN (As := [.ref (r 14), .int a2]) (rest := [.int r7]) hF (c_at a g r σ0 arC_14 (by decide) a2) (Nat.le_of_ble_eq_true rfl) mS_X12_at nm_1085 rfl rfl (Nat.le_of_ble_eq_true rfl) d_X10_sameName_15 (k_rop (fun r8 hr8 => ?_))
  have hs8 := hr8
  refine g_icmp_eq hF 23 d_X10_sameName_18 (by decide) rfl rfl (fun c9_18 => ?_) (fun c9_18 => ?_)
  · -- taken at 18
    refine g_aload_n hF d_X10_sameName_23 rfl 1 rfl ?_
    refine g_get (v := .ref (r 15)) hF 7 obC_2 (by decide) m_56 rfl d_X10_sameName_24 ?_
    refine g_iload_n hF d_X10_sameName_27 rfl 2 rfl ?_
    refine g_callSN (As := [.ref (r 15), .int a1]) (rest := []) hF (c_at a g r σ0 arC_15 (by decide) a1) (Nat.le_of_ble_eq_true rfl) mS_X12_at nm_1085 rfl rfl (Nat.le_of_ble_eq_true rfl) d_X10_sameName_28 (k_rop (fun r10 hr10 => ?_))
    have hr10 : 0 ≤ r10.toInt ∧ r10.toInt ≤ 40000 := acr_at i0.2.2.2.2.2.2.2.2.2.2.2.2.2.2.1 (by decide) (by decide) (hr10.imp And.left (fun h => ⟨_, h.2⟩))
    refine g_istore hF [(4, .int r10), (3, .int r7), (0, .ref (r 2)), (1, .int a1), (2, .int a2)] d_X10_sameName_31 hnn (by decide) rfl ?_
    refine g_aload_n hF d_X10_sameName_33 rfl 2 rfl ?_
    refine g_get (v := .ref (r 15)) hF 7 obC_2 (by decide) m_56 rfl d_X10_sameName_34 ?_
    refine g_iload_n hF d_X10_sameName_37 rfl 4 rfl ?_
    refine g_callSN (As := [.ref (r 15), .int a2]) (rest := []) hF (c_at a g r σ0 arC_15 (by decide) a2) (Nat.le_of_ble_eq_true rfl) mS_X12_at nm_1085 rfl rfl (Nat.le_of_ble_eq_true rfl) d_X10_sameName_38 (k_rop (fun r11 hr11 => ?_))
    have hr11 : 0 ≤ r11.toInt ∧ r11.toInt ≤ 40000 := acr_at i0.2.2.2.2.2.2.2.2.2.2.2.2.2.2.1 (by decide) (by decide) (hr11.imp And.left (fun h => ⟨_, h.2⟩))
    refine g_istore hF [(5, .int r11), (4, .int r10), (3, .int r7), (0, .ref (r 2)), (1, .int a1), (2, .int a2)] d_X10_sameName_41 hnn (by decide) rfl ?_
    refine g_iconst hF (v := 0) d_X10_sameName_43 (by decide) ?_
    refine g_istore hF [(6, .int 0), (5, .int r11), (4, .int r10), (3, .int r7), (0, .ref (r 2)), (1, .int a1), (2, .int a2)] d_X10_sameName_44 hnn (by decide) rfl ?_
    exact g_sub (L' := [(0, .ref (r 2)), (1, .int a1), (2, .int a2), (3, .int r7), (4, .int r10), (5, .int r11), (6, .int 0)]) [4, 5, 6, 3, 2, 1, 0] rfl (b46 _ a1 a2 r7 r10 r11 (0 : Int32) rfl (by show 0 ≤ r10.toInt ∧ 0 ≤ r11.toInt ∧ 0 ≤ 0 ∧ r10.toInt + 0 ≤ 40000 ∧ r11.toInt + 0 ≤ 40000; have e0 : (0 : Int32).toInt = 0 := (by decide); have e1 := s_rng r11; have e2 := s_rng r10; have e3 := s_rng r7; have e4 := s_rng a1; have e5 := s_rng a2; have e6 := s_rng r8; omega))
  · -- not taken at 18
    refine g_iconst hF (v := 0) d_X10_sameName_21 (by decide) ?_
    exact g_zret hF rfl (k_nz (Or.inl rfl)) d_X10_sameName_22 ⟨rfl, rfl, (0 : Int32), rfl, (Or.inl rfl), rfl⟩
set_option maxHeartbeats 4000000 in
set_option maxRecDepth 100000 in
theorem c_X11_outerOf (a : Nat → Nat) (g : Nat → Nat → Int32) (r : Nat → Nat) (σ0 : St) (a1 : Int32) (i0 : Inv σ0) (l : Launch) (D : va_G) (cy : Nat → ClassId) : Ct l D cy SC r (EC a g) y_X11_outerOf (Cond.code y_X11_outerOf b_X11_outerOf 3 (some .int)) 2 [.ref (r 6), .int a1] σ0 Z0 [] (QI (fun _ σ9 => σ9 = σ0)) QF := by
  refine Ct_of (EC_ok a g) (by decide) (Nat.le_of_ble_eq_true rfl) (by decide) (fun X hnn hF => ?_)
  show G SC r X σ0 Z0 [] [(0, .ref (r 6)), (1, .int a1)] [] 0
  have b2 : ∀ (N : Nat) (x1 : Int32) (x2 : Int32) , upm x2 = N → G SC r X σ0 Z0 [] [(0, .ref (r 6)), (1, .int x1), (2, .int x2)] [] 2 := by
    intro M2
    induction M2 using Nat.strongRecOn with
    | _ M2 ih2 =>
      intro x1 x2 N2
      refine g_iload_n hF d_X11_outerOf_2 rfl 2 rfl ?_
      refine g_aload_n hF d_X11_outerOf_3 rfl 0 rfl ?_
      refine g_get (v := .int (σ0 6 7)) hF 7 obC_6 (by decide) m_327 rfl d_X11_outerOf_4 ?_
      refine g_icmp_ge hF 50 d_X11_outerOf_7 (by decide) rfl rfl (fun c1_7 => ?_) (fun c1_7 => ?_)
      · -- taken at 7
        refine g_iconst hF (v := (-1)) d_X11_outerOf_50 (by decide) ?_
        exact g_iret hF rfl d_X11_outerOf_51 ⟨rfl, rfl, ((-1) : Int32), rfl, rfl⟩
      · -- not taken at 7
        refine g_aload_n hF d_X11_outerOf_10 rfl 0 rfl ?_
        refine g_get (v := .ref (r 2)) hF 0 obC_6 (by decide) m_305 rfl d_X11_outerOf_11 ?_
        refine g_aload_n hF d_X11_outerOf_14 rfl 0 rfl ?_
        refine g_get (v := .ref (r 38)) hF 8 obC_6 (by decide) m_329 rfl d_X11_outerOf_15 ?_
        refine g_iload_n hF d_X11_outerOf_18 rfl 2 rfl ?_
        refine g_callSN (As := [.ref (r 38), .int x2]) (rest := [.ref (r 2)]) hF (c_at a g r σ0 arC_38 (by decide) x2) (Nat.le_of_ble_eq_true rfl) mS_X12_at nm_1112 rfl rfl (Nat.le_of_ble_eq_true rfl) d_X11_outerOf_19 (k_rop (fun r2 hr2 => ?_))
        refine g_iload_n hF d_X11_outerOf_22 rfl 1 rfl ?_
        refine g_callVN (As := [.int r2, .int x1]) (rest := []) hF (c_X10_sameName a g r σ0 r2 x1 i0) (Nat.le_of_ble_eq_true rfl) mV_X10_sameName nm_1113 (recv_ob obC_2) rfl rfl (Nat.le_of_ble_eq_true rfl) d_X11_outerOf_23 (k_roz (fun r3 hz3 => ?_))
        refine g_if_eq hF 44 d_X11_outerOf_26 (by decide) rfl (fun c4_26 => ?_) (fun c4_26 => ?_)
        · -- taken at 26
          refine g_iinc hF (x2 + 1) [(2, .int (x2 + 1)), (0, .ref (r 6)), (1, .int x1)] d_X11_outerOf_44 2 rfl rfl hnn (by decide) rfl ?_
          refine g_goto hF 2 d_X11_outerOf_47 (by decide) ?_
          exact g_sub (L' := [(0, .ref (r 6)), (1, .int x1), (2, .int (x2 + 1))]) [1, 2, 0] rfl (ih2 _ (N2 ▸ upm_lt c1_7 (s_rng (σ0 6 7)).2) x1 (x2 + 1) rfl)
        · -- not taken at 26
          refine g_aload_n hF d_X11_outerOf_29 rfl 0 rfl ?_
          refine g_get (v := .ref (r 5)) hF 1 obC_6 (by decide) m_309 rfl d_X11_outerOf_30 ?_
          refine g_getN (v := .int (σ0 5 1)) hF 1 obC_5 (by decide) nm_223 rfl d_X11_outerOf_33 ?_
          refine g_aload_n hF d_X11_outerOf_36 rfl 0 rfl ?_
          refine g_get (v := .int (σ0 6 7)) hF 7 obC_6 (by decide) m_327 rfl d_X11_outerOf_37 ?_
          refine g_isub hF d_X11_outerOf_40 ?_
          refine g_iload_n hF d_X11_outerOf_41 rfl 2 rfl ?_
          refine g_iadd hF d_X11_outerOf_42 ?_
          exact g_iret hF rfl d_X11_outerOf_43 ⟨rfl, rfl, (((σ0 5 1) - (σ0 6 7)) + x2), rfl, rfl⟩
  refine g_iconst hF (v := 0) d_X11_outerOf_0 (by decide) ?_
  refine g_istore_n hF [(2, .int 0), (0, .ref (r 6)), (1, .int a1)] d_X11_outerOf_1 rfl hnn (by decide) rfl ?_
  exact g_sub (L' := [(0, .ref (r 6)), (1, .int a1), (2, .int 0)]) [1, 2, 0] rfl (b2 _ a1 (0 : Int32) rfl)
set_option maxHeartbeats 4000000 in
set_option maxRecDepth 100000 in
theorem c_X8_is (a : Nat → Nat) (g : Nat → Nat → Int32) (r : Nat → Nat) (σ0 : St) (a1 : Int32) (a2 : Int32) (i0 : Inv σ0) (l : Launch) (D : va_G) (cy : Nat → ClassId) : Ct l D cy SC r (EC a g) y_X8_is (Cond.code y_X8_is b_X8_is 3 (some .boolean)) 1 [.ref (r 5), .int a1, .int a2] σ0 Z0 [] (QI (fun v9 σ9 => (v9 = 0 ∨ v9 = 1) ∧ σ9 = σ0)) QF := by
  refine Ct_of (EC_ok a g) (by decide) (Nat.le_of_ble_eq_true rfl) (by decide) (fun X hnn hF => ?_)
  show G SC r X σ0 Z0 [] [(0, .ref (r 5)), (1, .int a1), (2, .int a2)] [] 0
  refine g_aload_n hF d_X8_is_0 rfl 0 rfl ?_
  refine g_get (v := .ref (r 25)) hF 2 obC_5 (by decide) m_224 rfl d_X8_is_1 ?_
  refine g_iload_n hF d_X8_is_4 rfl 1 rfl ?_
  refine g_callSN (As := [.ref (r 25), .int a1]) (rest := []) hF (c_at a g r σ0 arC_25 (by decide) a1) (Nat.le_of_ble_eq_true rfl) mS_X12_at nm_1125 rfl rfl (Nat.le_of_ble_eq_true rfl) d_X8_is_5 (k_rop (fun r1 hr1 => ?_))
  refine g_iload_n hF d_X8_is_8 rfl 2 rfl ?_
  refine g_iand hF d_X8_is_9 ?_
  refine g_any (fun v2 => ?_)
  refine g_if_eq hF 17 d_X8_is_10 (by decide) rfl (fun c3_10 => ?_) (fun c3_10 => ?_)
  · -- taken at 10
    refine g_iconst hF (v := 0) d_X8_is_17 (by decide) ?_
    exact g_zret hF rfl (k_nz (Or.inl rfl)) d_X8_is_18 ⟨rfl, rfl, (0 : Int32), rfl, (Or.inl rfl), rfl⟩
  · -- not taken at 10
    refine g_iconst hF (v := 1) d_X8_is_13 (by decide) ?_
    refine g_goto hF 18 d_X8_is_14 (by decide) ?_
    exact g_zret hF rfl (k_nz (Or.inr rfl)) d_X8_is_18 ⟨rfl, rfl, (1 : Int32), rfl, (Or.inr rfl), rfl⟩
set_option maxHeartbeats 4000000 in
set_option maxRecDepth 100000 in
theorem c_X2_refuse (a : Nat → Nat) (g : Nat → Nat → Int32) (r : Nat → Nat) (σ0 : St) (a1 : Int32) (i0 : Inv σ0) (l : Launch) (D : va_G) (cy : Nat → ClassId) : Ct l D cy SC r (EC a g) y_X2_refuse (Cond.code y_X2_refuse b_X2_refuse 2 none) 1 [.ref (r 7), .int a1] σ0 Z0 [] (QV (fun σ9 => (Inv σ9 ∧ Keep [(6, 3), (6, 4)] [] σ0 σ9))) QF := by
  refine Ct_of (EC_ok a g) (by decide) (Nat.le_of_ble_eq_true rfl) (by decide) (fun X hnn hF => ?_)
  show G SC r X σ0 Z0 [] [(0, .ref (r 7)), (1, .int a1)] [] 0
  have kp : Keep [(6, 3), (6, 4)] [] σ0 σ0 := keep_rf
  refine g_aload_n hF d_X2_refuse_0 rfl 0 rfl ?_
  refine g_get (v := .ref (r 6)) hF 2 obC_7 (by decide) m_458 rfl d_X2_refuse_1 ?_
  refine g_iconst hF (v := 2) d_X2_refuse_4 (by decide) ?_
  refine g_iload_n hF d_X2_refuse_5 rfl 1 rfl ?_
  refine g_callVN (As := [.int 2, .int a1]) (rest := []) hF (c_X11_fail a g r σ0 (2 : Int32) a1 i0) (Nat.le_of_ble_eq_true rfl) mV_X11_fail nm_1090 (recv_ob obC_6) rfl rfl (Nat.le_of_ble_eq_true rfl) d_X2_refuse_6 (k_v (fun σ1 ⟨iσ1, ik1⟩ => ?_))
  have kp : Keep [(6, 3), (6, 4)] [] σ0 σ1 := keep_c kp ik1 (by decide) (by decide)
  exact g_vret hF rfl d_X2_refuse_9 ⟨rfl, rfl, rfl, ⟨iσ1, kp⟩⟩
set_option maxHeartbeats 4000000 in
set_option maxRecDepth 100000 in
theorem c_X8_mark (a : Nat → Nat) (g : Nat → Nat → Int32) (r : Nat → Nat) (σ0 : St) (a1 : Int32) (a2 : Int32) (i0 : Inv σ0) (l : Launch) (D : va_G) (cy : Nat → ClassId) : Ct l D cy SC r (EC a g) y_X8_mark (Cond.code y_X8_mark b_X8_mark 3 none) 1 [.ref (r 5), .int a1, .int a2] σ0 Z0 [] (QV (fun σ9 => (Inv σ9 ∧ Keep [] [25] σ0 σ9))) QF := by
  refine Ct_of (EC_ok a g) (by decide) (Nat.le_of_ble_eq_true rfl) (by decide) (fun X hnn hF => ?_)
  show G SC r X σ0 Z0 [] [(0, .ref (r 5)), (1, .int a1), (2, .int a2)] [] 0
  have kp : Keep [] [25] σ0 σ0 := keep_rf
  refine g_aload_n hF d_X8_mark_0 rfl 0 rfl ?_
  refine g_get (v := .ref (r 25)) hF 2 obC_5 (by decide) m_224 rfl d_X8_mark_1 ?_
  refine g_iload_n hF d_X8_mark_4 rfl 1 rfl ?_
  refine g_aload_n hF d_X8_mark_5 rfl 0 rfl ?_
  refine g_get (v := .ref (r 25)) hF 2 obC_5 (by decide) m_224 rfl d_X8_mark_6 ?_
  refine g_iload_n hF d_X8_mark_9 rfl 1 rfl ?_
  refine g_callSN (As := [.ref (r 25), .int a1]) (rest := [.int a1, .ref (r 25)]) hF (c_at a g r σ0 arC_25 (by decide) a1) (Nat.le_of_ble_eq_true rfl) mS_X12_at nm_1125 rfl rfl (Nat.le_of_ble_eq_true rfl) d_X8_mark_10 (k_rop (fun r1 hr1 => ?_))
  refine g_iload_n hF d_X8_mark_13 rfl 2 rfl ?_
  refine g_ior hF d_X8_mark_14 ?_
  refine g_any (fun v2 => ?_)
  refine g_callSN (As := [.ref (r 25), .int a1, .int v2]) (rest := []) hF (c_set a g r σ0 arC_25 (by decide) a1 v2) (Nat.le_of_ble_eq_true rfl) mS_X12_set nm_1098 rfl rfl (Nat.le_of_ble_eq_true rfl) d_X8_mark_15 (k_v (fun σ3 ⟨g3, eσ3, hg3⟩ => ?_))
  subst eσ3
  have kp : Keep [] [25] σ0 (upF σ0 25 g3) := keep_F kp (by decide)
  have j4 : Inv (upF σ0 25 g3) := ⟨i0.1, i0.2.1, i0.2.2.1, i0.2.2.2.1, i0.2.2.2.2.1, i0.2.2.2.2.2.1, i0.2.2.2.2.2.2.1, i0.2.2.2.2.2.2.2.1, i0.2.2.2.2.2.2.2.2.1, i0.2.2.2.2.2.2.2.2.2.1, i0.2.2.2.2.2.2.2.2.2.2.1, i0.2.2.2.2.2.2.2.2.2.2.2.1, i0.2.2.2.2.2.2.2.2.2.2.2.2.1, i0.2.2.2.2.2.2.2.2.2.2.2.2.2.1, i0.2.2.2.2.2.2.2.2.2.2.2.2.2.2.1, i0.2.2.2.2.2.2.2.2.2.2.2.2.2.2.2.1, i0.2.2.2.2.2.2.2.2.2.2.2.2.2.2.2.2.1, i0.2.2.2.2.2.2.2.2.2.2.2.2.2.2.2.2.2.1, i0.2.2.2.2.2.2.2.2.2.2.2.2.2.2.2.2.2.2.1, i0.2.2.2.2.2.2.2.2.2.2.2.2.2.2.2.2.2.2.2⟩
  exact g_vret hF rfl d_X8_mark_18 ⟨rfl, rfl, rfl, ⟨j4, kp⟩⟩
set_option maxHeartbeats 4000000 in
set_option maxRecDepth 100000 in
theorem c_X2_address (a : Nat → Nat) (g : Nat → Nat → Int32) (r : Nat → Nat) (σ0 : St) (qa1 : Nat) (hqa1 : isOp qa1) (i0 : Inv σ0) (l : Launch) (D : va_G) (cy : Nat → ClassId) : Ct l D cy SC r (EC a g) y_X2_address (Cond.code y_X2_address b_X2_address 3 none) 1 [.ref (r 7), .ref (r qa1)] σ0 Z0 [] (QV (fun σ9 => (Inv σ9 ∧ Keep [(4, 1)] [24, 43] σ0 σ9))) QF := by
  refine Ct_of (EC_ok a g) (by decide) (Nat.le_of_ble_eq_true rfl) (by decide) (fun X hnn hF => ?_)
  show G SC r X σ0 Z0 [] [(0, .ref (r 7)), (1, .ref (r qa1))] [] 0
  have kp : Keep [(4, 1)] [24, 43] σ0 σ0 := keep_rf
  refine g_aload_n hF d_X2_address_0 rfl 1 rfl ?_
  refine g_getN hF 0 (obC_op hqa1) (by decide) nm_399 (fval_op hqa1) d_X2_address_1 ?_
  refine g_any (fun v1 => ?_)
  refine g_iconst hF (v := 2) d_X2_address_4 (by decide) ?_
  refine g_icmp_ne (yv := 2) hF 12 d_X2_address_5 (by decide) rfl (by decide) (fun c2_5 => ?_) (fun c2_5 => ?_)
  · -- taken at 5
    refine g_iconst hF (v := 0) d_X2_address_12 (by decide) ?_
    refine g_istore_n hF [(2, .int 0), (0, .ref (r 7)), (1, .ref (r qa1))] d_X2_address_13 rfl hnn (by decide) rfl ?_
    refine g_aload_n hF d_X2_address_14 rfl 2 rfl ?_
    refine g_getN hF 0 (obC_op hqa1) (by decide) nm_399 (fval_op hqa1) d_X2_address_15 ?_
    refine g_any (fun v3 => ?_)
    refine g_iconst hF (v := 1) d_X2_address_18 (by decide) ?_
    refine g_icmp_ne (yv := 1) hF 56 d_X2_address_19 (by decide) rfl (by decide) (fun c4_19 => ?_) (fun c4_19 => ?_)
    · -- taken at 19
      refine g_iload_n hF d_X2_address_56 rfl 0 rfl ?_
      refine g_if_eq (xv := 0) hF 75 d_X2_address_57 (by decide) (by decide) (fun _ => ?_) (fun c_57 => absurd c_57 (by decide))
      refine g_aload_n hF d_X2_address_75 rfl 2 rfl ?_
      refine g_aload_n hF d_X2_address_76 rfl 2 rfl ?_
      refine g_getN hF 1 (obC_op hqa1) (by decide) nm_402 (fval_op hqa1) d_X2_address_77 ?_
      refine g_any (fun v5 => ?_)
      refine g_iconst hF (v := 1) d_X2_address_80 (by decide) ?_
      refine g_iadd hF d_X2_address_81 ?_
      refine g_iload_n hF d_X2_address_82 rfl 0 rfl ?_
      refine g_if_eq (xv := 0) hF 90 d_X2_address_83 (by decide) (by decide) (fun _ => ?_) (fun c_83 => absurd c_83 (by decide))
      refine g_iconst hF (v := 0) d_X2_address_90 (by decide) ?_
      refine g_callVN (As := [.int (v5 + 1), .int 0]) (rest := []) hF (c_X6_become a g r σ0 (v5 + 1) (0 : Int32) qa1 hqa1 i0) (Nat.le_of_ble_eq_true rfl) mV_X6_become nm_1100 (recv_ob (obC_op hqa1)) rfl rfl (Nat.le_of_ble_eq_true rfl) d_X2_address_91 (k_v (fun σ6 ⟨iσ6, ik6⟩ => ?_))
      have kp : Keep [(4, 1)] [24, 43] σ0 σ6 := keep_c kp ik6 (by decide) (by decide)
      refine g_aload_n hF d_X2_address_94 rfl 2 rfl ?_
      refine g_aload_n hF d_X2_address_95 rfl 2 rfl ?_
      refine g_getN hF 4 (obC_op hqa1) (by decide) nm_408 (fval_op hqa1) d_X2_address_96 ?_
      refine g_any (fun v7 => ?_)
      refine g_putN hF 7 (obC_op hqa1) (by decide) nm_414 rfl rfl (rf_op hqa1) d_X2_address_99 ?_
      obtain ⟨σ8, eσ8⟩ : ∃ z, z = upC σ6 qa1 7 v7 := ⟨_, rfl⟩
      rw [← eσ8]
      have ik8 : Keep [] [] σ6 σ8 := by rw [eσ8]; exact keep_op hqa1
      have kp : Keep [(4, 1)] [24, 43] σ0 σ8 := keep_c kp ik8 (by decide) (by decide)
      have iσ8 : Inv σ8 := inv_keep ik8 iσ6
      refine g_aload_n hF d_X2_address_102 rfl 2 rfl ?_
      refine g_iconst hF (v := 0) d_X2_address_103 (by decide) ?_
      refine g_putN hF 8 (obC_op hqa1) (by decide) nm_418 rfl rfl (rf_op hqa1) d_X2_address_104 ?_
      obtain ⟨σ9, eσ9⟩ : ∃ z, z = upC σ8 qa1 8 (0 : Int32) := ⟨_, rfl⟩
      rw [← eσ9]
      have ik9 : Keep [] [] σ8 σ9 := by rw [eσ9]; exact keep_op hqa1
      have kp : Keep [(4, 1)] [24, 43] σ0 σ9 := keep_c kp ik9 (by decide) (by decide)
      have iσ9 : Inv σ9 := inv_keep ik9 iσ8
      exact g_vret hF rfl d_X2_address_107 ⟨rfl, rfl, rfl, ⟨iσ9, kp⟩⟩
    · -- not taken at 19
      refine g_aload_n hF d_X2_address_22 rfl 1 rfl ?_
      refine g_get (v := .ref (r 6)) hF 2 obC_7 (by decide) m_458 rfl d_X2_address_23 ?_
      refine g_getN (v := .ref (r 43)) hF 14 obC_6 (by decide) nm_340 rfl d_X2_address_26 ?_
      refine g_aload_n hF d_X2_address_29 rfl 2 rfl ?_
      refine g_getN hF 4 (obC_op hqa1) (by decide) nm_408 (fval_op hqa1) d_X2_address_30 ?_
      refine g_any (fun v10 => ?_)
      refine g_iconst hF (v := 1) d_X2_address_33 (by decide) ?_
      refine g_callSN (As := [.ref (r 43), .int v10, .int 1]) (rest := []) hF (c_set a g r σ0 arC_43 (by decide) v10 (1 : Int32)) (Nat.le_of_ble_eq_true rfl) mS_X12_set nm_1141 rfl rfl (Nat.le_of_ble_eq_true rfl) d_X2_address_34 (k_v (fun σ11 ⟨g11, eσ11, hg11⟩ => ?_))
      subst eσ11
      have kp : Keep [(4, 1)] [24, 43] σ0 (upF σ0 43 g11) := keep_F kp (by decide)
      refine g_aload_n hF d_X2_address_37 rfl 1 rfl ?_
      refine g_get (v := .ref (r 4)) hF 4 obC_7 (by decide) m_461 rfl d_X2_address_38 ?_
      refine g_bipush hF (v := 14) d_X2_address_41 (by decide) ?_
      refine g_aload_n hF d_X2_address_43 rfl 2 rfl ?_
      refine g_getN hF 4 (obC_op hqa1) (by decide) nm_408 (fval_op hqa1) d_X2_address_44 ?_
      refine g_any (fun v12 => ?_)
      refine g_iconst hF (v := 0) d_X2_address_47 (by decide) ?_
      refine g_iconst hF (v := 0) d_X2_address_48 (by decide) ?_
      have j14 : Inv (upF σ0 43 g11) := ⟨i0.1, i0.2.1, i0.2.2.1, i0.2.2.2.1, i0.2.2.2.2.1, i0.2.2.2.2.2.1, i0.2.2.2.2.2.2.1, i0.2.2.2.2.2.2.2.1, i0.2.2.2.2.2.2.2.2.1, i0.2.2.2.2.2.2.2.2.2.1, i0.2.2.2.2.2.2.2.2.2.2.1, i0.2.2.2.2.2.2.2.2.2.2.2.1, i0.2.2.2.2.2.2.2.2.2.2.2.2.1, i0.2.2.2.2.2.2.2.2.2.2.2.2.2.1, i0.2.2.2.2.2.2.2.2.2.2.2.2.2.2.1, i0.2.2.2.2.2.2.2.2.2.2.2.2.2.2.2.1, i0.2.2.2.2.2.2.2.2.2.2.2.2.2.2.2.2.1, i0.2.2.2.2.2.2.2.2.2.2.2.2.2.2.2.2.2.1, i0.2.2.2.2.2.2.2.2.2.2.2.2.2.2.2.2.2.2.1, i0.2.2.2.2.2.2.2.2.2.2.2.2.2.2.2.2.2.2.2⟩
      refine g_callVN (As := [.int 14, .int v12, .int 0, .int 0]) (rest := []) hF (c_X0_emit a g r (upF σ0 43 g11) (14 : Int32) v12 (0 : Int32) (0 : Int32) j14) (Nat.le_of_ble_eq_true rfl) mV_X0_emit nm_1071 (recv_ob obC_4) rfl rfl (Nat.le_of_ble_eq_true rfl) d_X2_address_49 (k_i (fun r13 σ13 ⟨iσ13, ik13⟩ => ?_))
      have kp : Keep [(4, 1)] [24, 43] σ0 σ13 := keep_c kp ik13 (by decide) (by decide)
      refine g_pop hF d_X2_address_52 rfl ?_
      refine g_goto hF 75 d_X2_address_53 (by decide) ?_
      refine g_aload_n hF d_X2_address_75 rfl 2 rfl ?_
      refine g_aload_n hF d_X2_address_76 rfl 2 rfl ?_
      refine g_getN hF 1 (obC_op hqa1) (by decide) nm_402 (fval_op hqa1) d_X2_address_77 ?_
      refine g_any (fun v15 => ?_)
      refine g_iconst hF (v := 1) d_X2_address_80 (by decide) ?_
      refine g_iadd hF d_X2_address_81 ?_
      refine g_iload_n hF d_X2_address_82 rfl 0 rfl ?_
      refine g_if_eq (xv := 0) hF 90 d_X2_address_83 (by decide) (by decide) (fun _ => ?_) (fun c_83 => absurd c_83 (by decide))
      refine g_iconst hF (v := 0) d_X2_address_90 (by decide) ?_
      refine g_callVN (As := [.int (v15 + 1), .int 0]) (rest := []) hF (c_X6_become a g r σ13 (v15 + 1) (0 : Int32) qa1 hqa1 iσ13) (Nat.le_of_ble_eq_true rfl) mV_X6_become nm_1100 (recv_ob (obC_op hqa1)) rfl rfl (Nat.le_of_ble_eq_true rfl) d_X2_address_91 (k_v (fun σ16 ⟨iσ16, ik16⟩ => ?_))
      have kp : Keep [(4, 1)] [24, 43] σ0 σ16 := keep_c kp ik16 (by decide) (by decide)
      refine g_aload_n hF d_X2_address_94 rfl 2 rfl ?_
      refine g_aload_n hF d_X2_address_95 rfl 2 rfl ?_
      refine g_getN hF 4 (obC_op hqa1) (by decide) nm_408 (fval_op hqa1) d_X2_address_96 ?_
      refine g_any (fun v17 => ?_)
      refine g_putN hF 7 (obC_op hqa1) (by decide) nm_414 rfl rfl (rf_op hqa1) d_X2_address_99 ?_
      obtain ⟨σ18, eσ18⟩ : ∃ z, z = upC σ16 qa1 7 v17 := ⟨_, rfl⟩
      rw [← eσ18]
      have ik18 : Keep [] [] σ16 σ18 := by rw [eσ18]; exact keep_op hqa1
      have kp : Keep [(4, 1)] [24, 43] σ0 σ18 := keep_c kp ik18 (by decide) (by decide)
      have iσ18 : Inv σ18 := inv_keep ik18 iσ16
      refine g_aload_n hF d_X2_address_102 rfl 2 rfl ?_
      refine g_iconst hF (v := 0) d_X2_address_103 (by decide) ?_
      refine g_putN hF 8 (obC_op hqa1) (by decide) nm_418 rfl rfl (rf_op hqa1) d_X2_address_104 ?_
      obtain ⟨σ19, eσ19⟩ : ∃ z, z = upC σ18 qa1 8 (0 : Int32) := ⟨_, rfl⟩
      rw [← eσ19]
      have ik19 : Keep [] [] σ18 σ19 := by rw [eσ19]; exact keep_op hqa1
      have kp : Keep [(4, 1)] [24, 43] σ0 σ19 := keep_c kp ik19 (by decide) (by decide)
      have iσ19 : Inv σ19 := inv_keep ik19 iσ18
      exact g_vret hF rfl d_X2_address_107 ⟨rfl, rfl, rfl, ⟨iσ19, kp⟩⟩
  · -- not taken at 5
    refine g_iconst hF (v := 1) d_X2_address_8 (by decide) ?_
    refine g_goto hF 13 d_X2_address_9 (by decide) ?_
    refine g_istore_n hF [(2, .int 1), (0, .ref (r 7)), (1, .ref (r qa1))] d_X2_address_13 rfl hnn (by decide) rfl ?_
    refine g_aload_n hF d_X2_address_14 rfl 2 rfl ?_
    refine g_getN hF 0 (obC_op hqa1) (by decide) nm_399 (fval_op hqa1) d_X2_address_15 ?_
    refine g_any (fun v20 => ?_)
    refine g_iconst hF (v := 1) d_X2_address_18 (by decide) ?_
    refine g_icmp_ne (yv := 1) hF 56 d_X2_address_19 (by decide) rfl (by decide) (fun c21_19 => ?_) (fun c21_19 => ?_)
    · -- taken at 19
      refine g_iload_n hF d_X2_address_56 rfl 0 rfl ?_
      refine g_if_eq (xv := 1) hF 75 d_X2_address_57 (by decide) (by decide) (fun c_57 => absurd c_57 (by decide)) (fun _ => ?_)
      refine g_aload_n hF d_X2_address_60 rfl 1 rfl ?_
      refine g_get (v := .ref (r 4)) hF 4 obC_7 (by decide) m_461 rfl d_X2_address_61 ?_
      refine g_iconst hF (v := 4) d_X2_address_64 (by decide) ?_
      refine g_aload_n hF d_X2_address_65 rfl 2 rfl ?_
      refine g_getN hF 4 (obC_op hqa1) (by decide) nm_408 (fval_op hqa1) d_X2_address_66 ?_
      refine g_any (fun v22 => ?_)
      refine g_iconst hF (v := 0) d_X2_address_69 (by decide) ?_
      refine g_iconst hF (v := 0) d_X2_address_70 (by decide) ?_
      refine g_callVN (As := [.int 4, .int v22, .int 0, .int 0]) (rest := []) hF (c_X0_emit a g r σ0 (4 : Int32) v22 (0 : Int32) (0 : Int32) i0) (Nat.le_of_ble_eq_true rfl) mV_X0_emit nm_1071 (recv_ob obC_4) rfl rfl (Nat.le_of_ble_eq_true rfl) d_X2_address_71 (k_i (fun r23 σ23 ⟨iσ23, ik23⟩ => ?_))
      have kp : Keep [(4, 1)] [24, 43] σ0 σ23 := keep_c kp ik23 (by decide) (by decide)
      refine g_pop hF d_X2_address_74 rfl ?_
      refine g_aload_n hF d_X2_address_75 rfl 2 rfl ?_
      refine g_aload_n hF d_X2_address_76 rfl 2 rfl ?_
      refine g_getN hF 1 (obC_op hqa1) (by decide) nm_402 (fval_op hqa1) d_X2_address_77 ?_
      refine g_any (fun v24 => ?_)
      refine g_iconst hF (v := 1) d_X2_address_80 (by decide) ?_
      refine g_iadd hF d_X2_address_81 ?_
      refine g_iload_n hF d_X2_address_82 rfl 0 rfl ?_
      refine g_if_eq (xv := 1) hF 90 d_X2_address_83 (by decide) (by decide) (fun c_83 => absurd c_83 (by decide)) (fun _ => ?_)
      refine g_iconst hF (v := 2) d_X2_address_86 (by decide) ?_
      refine g_goto hF 91 d_X2_address_87 (by decide) ?_
      refine g_callVN (As := [.int (v24 + 1), .int 2]) (rest := []) hF (c_X6_become a g r σ23 (v24 + 1) (2 : Int32) qa1 hqa1 iσ23) (Nat.le_of_ble_eq_true rfl) mV_X6_become nm_1100 (recv_ob (obC_op hqa1)) rfl rfl (Nat.le_of_ble_eq_true rfl) d_X2_address_91 (k_v (fun σ25 ⟨iσ25, ik25⟩ => ?_))
      have kp : Keep [(4, 1)] [24, 43] σ0 σ25 := keep_c kp ik25 (by decide) (by decide)
      refine g_aload_n hF d_X2_address_94 rfl 2 rfl ?_
      refine g_aload_n hF d_X2_address_95 rfl 2 rfl ?_
      refine g_getN hF 4 (obC_op hqa1) (by decide) nm_408 (fval_op hqa1) d_X2_address_96 ?_
      refine g_any (fun v26 => ?_)
      refine g_putN hF 7 (obC_op hqa1) (by decide) nm_414 rfl rfl (rf_op hqa1) d_X2_address_99 ?_
      obtain ⟨σ27, eσ27⟩ : ∃ z, z = upC σ25 qa1 7 v26 := ⟨_, rfl⟩
      rw [← eσ27]
      have ik27 : Keep [] [] σ25 σ27 := by rw [eσ27]; exact keep_op hqa1
      have kp : Keep [(4, 1)] [24, 43] σ0 σ27 := keep_c kp ik27 (by decide) (by decide)
      have iσ27 : Inv σ27 := inv_keep ik27 iσ25
      refine g_aload_n hF d_X2_address_102 rfl 2 rfl ?_
      refine g_iconst hF (v := 0) d_X2_address_103 (by decide) ?_
      refine g_putN hF 8 (obC_op hqa1) (by decide) nm_418 rfl rfl (rf_op hqa1) d_X2_address_104 ?_
      obtain ⟨σ28, eσ28⟩ : ∃ z, z = upC σ27 qa1 8 (0 : Int32) := ⟨_, rfl⟩
      rw [← eσ28]
      have ik28 : Keep [] [] σ27 σ28 := by rw [eσ28]; exact keep_op hqa1
      have kp : Keep [(4, 1)] [24, 43] σ0 σ28 := keep_c kp ik28 (by decide) (by decide)
      have iσ28 : Inv σ28 := inv_keep ik28 iσ27
      exact g_vret hF rfl d_X2_address_107 ⟨rfl, rfl, rfl, ⟨iσ28, kp⟩⟩
    · -- not taken at 19
      refine g_aload_n hF d_X2_address_22 rfl 1 rfl ?_
      refine g_get (v := .ref (r 6)) hF 2 obC_7 (by decide) m_458 rfl d_X2_address_23 ?_
      refine g_getN (v := .ref (r 43)) hF 14 obC_6 (by decide) nm_340 rfl d_X2_address_26 ?_
      refine g_aload_n hF d_X2_address_29 rfl 2 rfl ?_
      refine g_getN hF 4 (obC_op hqa1) (by decide) nm_408 (fval_op hqa1) d_X2_address_30 ?_
      refine g_any (fun v29 => ?_)
      refine g_iconst hF (v := 1) d_X2_address_33 (by decide) ?_
      refine g_callSN (As := [.ref (r 43), .int v29, .int 1]) (rest := []) hF (c_set a g r σ0 arC_43 (by decide) v29 (1 : Int32)) (Nat.le_of_ble_eq_true rfl) mS_X12_set nm_1141 rfl rfl (Nat.le_of_ble_eq_true rfl) d_X2_address_34 (k_v (fun σ30 ⟨g30, eσ30, hg30⟩ => ?_))
      subst eσ30
      have kp : Keep [(4, 1)] [24, 43] σ0 (upF σ0 43 g30) := keep_F kp (by decide)
      refine g_aload_n hF d_X2_address_37 rfl 1 rfl ?_
      refine g_get (v := .ref (r 4)) hF 4 obC_7 (by decide) m_461 rfl d_X2_address_38 ?_
      refine g_bipush hF (v := 14) d_X2_address_41 (by decide) ?_
      refine g_aload_n hF d_X2_address_43 rfl 2 rfl ?_
      refine g_getN hF 4 (obC_op hqa1) (by decide) nm_408 (fval_op hqa1) d_X2_address_44 ?_
      refine g_any (fun v31 => ?_)
      refine g_iconst hF (v := 0) d_X2_address_47 (by decide) ?_
      refine g_iconst hF (v := 0) d_X2_address_48 (by decide) ?_
      have j33 : Inv (upF σ0 43 g30) := ⟨i0.1, i0.2.1, i0.2.2.1, i0.2.2.2.1, i0.2.2.2.2.1, i0.2.2.2.2.2.1, i0.2.2.2.2.2.2.1, i0.2.2.2.2.2.2.2.1, i0.2.2.2.2.2.2.2.2.1, i0.2.2.2.2.2.2.2.2.2.1, i0.2.2.2.2.2.2.2.2.2.2.1, i0.2.2.2.2.2.2.2.2.2.2.2.1, i0.2.2.2.2.2.2.2.2.2.2.2.2.1, i0.2.2.2.2.2.2.2.2.2.2.2.2.2.1, i0.2.2.2.2.2.2.2.2.2.2.2.2.2.2.1, i0.2.2.2.2.2.2.2.2.2.2.2.2.2.2.2.1, i0.2.2.2.2.2.2.2.2.2.2.2.2.2.2.2.2.1, i0.2.2.2.2.2.2.2.2.2.2.2.2.2.2.2.2.2.1, i0.2.2.2.2.2.2.2.2.2.2.2.2.2.2.2.2.2.2.1, i0.2.2.2.2.2.2.2.2.2.2.2.2.2.2.2.2.2.2.2⟩
      refine g_callVN (As := [.int 14, .int v31, .int 0, .int 0]) (rest := []) hF (c_X0_emit a g r (upF σ0 43 g30) (14 : Int32) v31 (0 : Int32) (0 : Int32) j33) (Nat.le_of_ble_eq_true rfl) mV_X0_emit nm_1071 (recv_ob obC_4) rfl rfl (Nat.le_of_ble_eq_true rfl) d_X2_address_49 (k_i (fun r32 σ32 ⟨iσ32, ik32⟩ => ?_))
      have kp : Keep [(4, 1)] [24, 43] σ0 σ32 := keep_c kp ik32 (by decide) (by decide)
      refine g_pop hF d_X2_address_52 rfl ?_
      refine g_goto hF 75 d_X2_address_53 (by decide) ?_
      refine g_aload_n hF d_X2_address_75 rfl 2 rfl ?_
      refine g_aload_n hF d_X2_address_76 rfl 2 rfl ?_
      refine g_getN hF 1 (obC_op hqa1) (by decide) nm_402 (fval_op hqa1) d_X2_address_77 ?_
      refine g_any (fun v34 => ?_)
      refine g_iconst hF (v := 1) d_X2_address_80 (by decide) ?_
      refine g_iadd hF d_X2_address_81 ?_
      refine g_iload_n hF d_X2_address_82 rfl 0 rfl ?_
      refine g_if_eq (xv := 1) hF 90 d_X2_address_83 (by decide) (by decide) (fun c_83 => absurd c_83 (by decide)) (fun _ => ?_)
      refine g_iconst hF (v := 2) d_X2_address_86 (by decide) ?_
      refine g_goto hF 91 d_X2_address_87 (by decide) ?_
      refine g_callVN (As := [.int (v34 + 1), .int 2]) (rest := []) hF (c_X6_become a g r σ32 (v34 + 1) (2 : Int32) qa1 hqa1 iσ32) (Nat.le_of_ble_eq_true rfl) mV_X6_become nm_1100 (recv_ob (obC_op hqa1)) rfl rfl (Nat.le_of_ble_eq_true rfl) d_X2_address_91 (k_v (fun σ35 ⟨iσ35, ik35⟩ => ?_))
      have kp : Keep [(4, 1)] [24, 43] σ0 σ35 := keep_c kp ik35 (by decide) (by decide)
      refine g_aload_n hF d_X2_address_94 rfl 2 rfl ?_
      refine g_aload_n hF d_X2_address_95 rfl 2 rfl ?_
      refine g_getN hF 4 (obC_op hqa1) (by decide) nm_408 (fval_op hqa1) d_X2_address_96 ?_
      refine g_any (fun v36 => ?_)
      refine g_putN hF 7 (obC_op hqa1) (by decide) nm_414 rfl rfl (rf_op hqa1) d_X2_address_99 ?_
      obtain ⟨σ37, eσ37⟩ : ∃ z, z = upC σ35 qa1 7 v36 := ⟨_, rfl⟩
      rw [← eσ37]
      have ik37 : Keep [] [] σ35 σ37 := by rw [eσ37]; exact keep_op hqa1
      have kp : Keep [(4, 1)] [24, 43] σ0 σ37 := keep_c kp ik37 (by decide) (by decide)
      have iσ37 : Inv σ37 := inv_keep ik37 iσ35
      refine g_aload_n hF d_X2_address_102 rfl 2 rfl ?_
      refine g_iconst hF (v := 0) d_X2_address_103 (by decide) ?_
      refine g_putN hF 8 (obC_op hqa1) (by decide) nm_418 rfl rfl (rf_op hqa1) d_X2_address_104 ?_
      obtain ⟨σ38, eσ38⟩ : ∃ z, z = upC σ37 qa1 8 (0 : Int32) := ⟨_, rfl⟩
      rw [← eσ38]
      have ik38 : Keep [] [] σ37 σ38 := by rw [eσ38]; exact keep_op hqa1
      have kp : Keep [(4, 1)] [24, 43] σ0 σ38 := keep_c kp ik38 (by decide) (by decide)
      have iσ38 : Inv σ38 := inv_keep ik38 iσ37
      exact g_vret hF rfl d_X2_address_107 ⟨rfl, rfl, rfl, ⟨iσ38, kp⟩⟩
set_option maxHeartbeats 4000000 in
set_option maxRecDepth 100000 in
theorem c_X11_mentionCall (a : Nat → Nat) (g : Nat → Nat → Int32) (r : Nat → Nat) (σ0 : St) (a1 : Int32) (a2 : Int32) (i0 : Inv σ0) (l : Launch) (D : va_G) (cy : Nat → ClassId) : Ct l D cy SC r (EC a g) y_X11_mentionCall (Cond.code y_X11_mentionCall b_X11_mentionCall 4 none) 2 [.ref (r 6), .int a1, .int a2] σ0 Z0 [] (QV (fun σ9 => (Inv σ9 ∧ Keep [] [25, 39] σ0 σ9))) QF := by
  refine Ct_of (EC_ok a g) (by decide) (Nat.le_of_ble_eq_true rfl) (by decide) (fun X hnn hF => ?_)
  show G SC r X σ0 Z0 [] [(0, .ref (r 6)), (1, .int a1), (2, .int a2)] [] 0
  have kp : Keep [] [25, 39] σ0 σ0 := keep_rf
  refine g_iload_n hF d_X11_mentionCall_0 rfl 1 rfl ?_
  refine g_aload_n hF d_X11_mentionCall_1 rfl 0 rfl ?_
  refine g_get (v := .ref (r 5)) hF 1 obC_6 (by decide) m_309 rfl d_X11_mentionCall_2 ?_
  refine g_getN (v := .int (σ0 5 1)) hF 1 obC_5 (by decide) nm_223 rfl d_X11_mentionCall_5 ?_
  refine g_aload_n hF d_X11_mentionCall_8 rfl 0 rfl ?_
  refine g_get (v := .int (σ0 6 7)) hF 7 obC_6 (by decide) m_327 rfl d_X11_mentionCall_9 ?_
  refine g_isub hF d_X11_mentionCall_12 ?_
  refine g_isub hF d_X11_mentionCall_13 ?_
  refine g_istore_n hF [(3, .int (a1 - ((σ0 5 1) - (σ0 6 7)))), (0, .ref (r 6)), (1, .int a1), (2, .int a2)] d_X11_mentionCall_14 rfl hnn (by decide) rfl ?_
  refine g_aload_n hF d_X11_mentionCall_15 rfl 1 rfl ?_
  refine g_get (v := .ref (r 5)) hF 1 obC_6 (by decide) m_309 rfl d_X11_mentionCall_16 ?_
  refine g_iload_n hF d_X11_mentionCall_19 rfl 2 rfl ?_
  refine g_bipush hF (v := 8) d_X11_mentionCall_20 (by decide) ?_
  refine g_callVN (As := [.int a1, .int 8]) (rest := []) hF (c_X8_mark a g r σ0 a1 (8 : Int32) i0) (Nat.le_of_ble_eq_true rfl) mV_X8_mark nm_1150 (recv_ob obC_5) rfl rfl (Nat.le_of_ble_eq_true rfl) d_X11_mentionCall_22 (k_v (fun σ1 ⟨iσ1, ik1⟩ => ?_))
  have kp : Keep [] [25, 39] σ0 σ1 := keep_c kp ik1 (by decide) (by decide)
  refine g_aload_n hF d_X11_mentionCall_25 rfl 1 rfl ?_
  refine g_get (v := .ref (r 39)) hF 9 obC_6 (by decide) m_330 rfl d_X11_mentionCall_26 ?_
  refine g_iload_n hF d_X11_mentionCall_29 rfl 0 rfl ?_
  refine g_callSN (As := [.ref (r 39), .int (a1 - ((σ0 5 1) - (σ0 6 7)))]) (rest := []) hF (c_at a g r σ1 arC_39 (by decide) (a1 - ((σ0 5 1) - (σ0 6 7)))) (Nat.le_of_ble_eq_true rfl) mS_X12_at nm_1112 rfl rfl (Nat.le_of_ble_eq_true rfl) d_X11_mentionCall_30 (k_rop (fun r2 hr2 => ?_))
  refine g_if_ge hF 45 d_X11_mentionCall_33 (by decide) rfl (fun c3_33 => ?_) (fun c3_33 => ?_)
  · -- taken at 33
    exact g_vret hF rfl d_X11_mentionCall_45 ⟨rfl, rfl, rfl, ⟨iσ1, kp⟩⟩
  · -- not taken at 33
    refine g_aload_n hF d_X11_mentionCall_36 rfl 1 rfl ?_
    refine g_get (v := .ref (r 39)) hF 9 obC_6 (by decide) m_330 rfl d_X11_mentionCall_37 ?_
    refine g_iload_n hF d_X11_mentionCall_40 rfl 0 rfl ?_
    refine g_iload_n hF d_X11_mentionCall_41 rfl 3 rfl ?_
    refine g_callSN (As := [.ref (r 39), .int (a1 - ((σ0 5 1) - (σ0 6 7))), .int a2]) (rest := []) hF (c_set a g r σ1 arC_39 (by decide) (a1 - ((σ0 5 1) - (σ0 6 7))) a2) (Nat.le_of_ble_eq_true rfl) mS_X12_set nm_1151 rfl rfl (Nat.le_of_ble_eq_true rfl) d_X11_mentionCall_42 (k_v (fun σ4 ⟨g4, eσ4, hg4⟩ => ?_))
    subst eσ4
    have kp : Keep [] [25, 39] σ0 (upF σ1 39 g4) := keep_F kp (by decide)
    have j5 : Inv (upF σ1 39 g4) := ⟨iσ1.1, iσ1.2.1, iσ1.2.2.1, iσ1.2.2.2.1, iσ1.2.2.2.2.1, iσ1.2.2.2.2.2.1, iσ1.2.2.2.2.2.2.1, iσ1.2.2.2.2.2.2.2.1, iσ1.2.2.2.2.2.2.2.2.1, iσ1.2.2.2.2.2.2.2.2.2.1, iσ1.2.2.2.2.2.2.2.2.2.2.1, iσ1.2.2.2.2.2.2.2.2.2.2.2.1, iσ1.2.2.2.2.2.2.2.2.2.2.2.2.1, iσ1.2.2.2.2.2.2.2.2.2.2.2.2.2.1, iσ1.2.2.2.2.2.2.2.2.2.2.2.2.2.2.1, iσ1.2.2.2.2.2.2.2.2.2.2.2.2.2.2.2.1, iσ1.2.2.2.2.2.2.2.2.2.2.2.2.2.2.2.2.1, iσ1.2.2.2.2.2.2.2.2.2.2.2.2.2.2.2.2.2.1, iσ1.2.2.2.2.2.2.2.2.2.2.2.2.2.2.2.2.2.2.1, iσ1.2.2.2.2.2.2.2.2.2.2.2.2.2.2.2.2.2.2.2⟩
    exact g_vret hF rfl d_X11_mentionCall_45 ⟨rfl, rfl, rfl, ⟨j5, kp⟩⟩
set_option maxHeartbeats 4000000 in
set_option maxRecDepth 100000 in
theorem c_X2_top (a : Nat → Nat) (g : Nat → Nat → Int32) (r : Nat → Nat) (σ0 : St) (i0 : Inv σ0) (l : Launch) (D : va_G) (cy : Nat → ClassId) : Ct l D cy SC r (EC a g) y_X2_top (Cond.code y_X2_top b_X2_top 1 (some (.object "LinkedUnits$Operand"))) 0 [.ref (r 7)] σ0 Z0 [] (QA r (fun q9 σ9 => isOp q9 ∧ σ9 = σ0)) QF := by
  refine Ct_of (EC_ok a g) (by decide) (Nat.le_of_ble_eq_true rfl) (by decide) (fun X hnn hF => ?_)
  show G SC r X σ0 Z0 [] [(0, .ref (r 7))] [] 0
  refine g_aload_n hF d_X2_top_0 rfl 0 rfl ?_
  refine g_get (v := .int (σ0 7 7)) hF 7 obC_7 (by decide) m_464 rfl d_X2_top_1 ?_
  refine g_if_le hF 33 d_X2_top_4 (by decide) rfl (fun c1_4 => ?_) (fun c1_4 => ?_)
  · -- taken at 4
    refine g_aload_n hF d_X2_top_33 rfl 0 rfl ?_
    refine g_get (v := .ref (r 47)) hF 6 obC_7 (by decide) m_463 rfl d_X2_top_34 ?_
    exact g_aret hF rfl d_X2_top_37 ⟨rfl, rfl, 47, rfl, (Or.inl rfl), rfl⟩
  · -- not taken at 4
    refine g_aload_n hF d_X2_top_7 rfl 0 rfl ?_
    refine g_get (v := .int (σ0 7 7)) hF 7 obC_7 (by decide) m_464 rfl d_X2_top_8 ?_
    refine g_aload_n hF d_X2_top_11 rfl 0 rfl ?_
    refine g_get (v := .ref (r 46)) hF 5 obC_7 (by decide) m_462 rfl d_X2_top_12 ?_
    refine g_alenR hF (by decide) rfl (v := 500) (by decide) d_X2_top_15 ?_
    refine g_icmp_gt (yv := 500) hF 33 d_X2_top_16 (by decide) rfl (by decide) (fun c2_16 => ?_) (fun c2_16 => ?_)
    · -- taken at 16
      refine g_aload_n hF d_X2_top_33 rfl 0 rfl ?_
      refine g_get (v := .ref (r 47)) hF 6 obC_7 (by decide) m_463 rfl d_X2_top_34 ?_
      exact g_aret hF rfl d_X2_top_37 ⟨rfl, rfl, 47, rfl, (Or.inl rfl), rfl⟩
    · -- not taken at 16
      refine g_aload_n hF d_X2_top_19 rfl 0 rfl ?_
      refine g_get (v := .ref (r 46)) hF 5 obC_7 (by decide) m_462 rfl d_X2_top_20 ?_
      refine g_aload_n hF d_X2_top_23 rfl 0 rfl ?_
      refine g_get (v := .int (σ0 7 7)) hF 7 obC_7 (by decide) m_464 rfl d_X2_top_24 ?_
      refine g_iconst hF (v := 1) d_X2_top_27 (by decide) ?_
      refine g_isub hF d_X2_top_28 ?_
      refine g_aald hF (by decide) rfl (by refine s_in (by decide) ?_ ?_ <;> (have e0 := s_rng (σ0 7 7); have e1 : (1 : Int32).toInt = 1 := (by decide); obtain ⟨k2, e2⟩ := s_sub (σ0 7 7) (1 : Int32); have e2a := s_rng ((σ0 7 7) - 1); have e4 : (0 : Int32).toInt = 0 := (by decide); have e5 : (500 : Int32).toInt = 500 := (by decide); omega)) d_X2_top_29 ?_
      obtain ⟨q3, eq3⟩ : ∃ q, q = 65 + (((σ0 7 7) - 1)).toNatClampNeg := ⟨_, rfl⟩
      rw [← eq3]
      have hq3 : isOp q3 := isOp_pv eq3 (by refine s_in (by decide) ?_ ?_ <;> (have e0 := s_rng (σ0 7 7); have e1 : (1 : Int32).toInt = 1 := (by decide); obtain ⟨k2, e2⟩ := s_sub (σ0 7 7) (1 : Int32); have e2a := s_rng ((σ0 7 7) - 1); have e4 : (0 : Int32).toInt = 0 := (by decide); have e5 : (500 : Int32).toInt = 500 := (by decide); omega))
      refine g_goto hF 37 d_X2_top_30 (by decide) ?_
      exact g_aret hF rfl d_X2_top_37 ⟨rfl, rfl, q3, rfl, hq3, rfl⟩
set_option maxHeartbeats 4000000 in
set_option maxRecDepth 100000 in
theorem c_X6_isPlace (a : Nat → Nat) (g : Nat → Nat → Int32) (r : Nat → Nat) (σ0 : St) (qa0 : Nat) (hqa0 : isOp qa0) (i0 : Inv σ0) (l : Launch) (D : va_G) (cy : Nat → ClassId) : Ct l D cy SC r (EC a g) y_X6_isPlace (Cond.code y_X6_isPlace b_X6_isPlace 1 (some .boolean)) 0 [.ref (r qa0)] σ0 Z0 [] (QI (fun v9 σ9 => (v9 = 0 ∨ v9 = 1) ∧ σ9 = σ0)) QF := by
  refine Ct_of (EC_ok a g) (by decide) (Nat.le_of_ble_eq_true rfl) (by decide) (fun X hnn hF => ?_)
  show G SC r X σ0 Z0 [] [(0, .ref (r qa0))] [] 0
  refine g_aload_n hF d_X6_isPlace_0 rfl 0 rfl ?_
  refine g_get hF 0 (obC_op hqa0) (by decide) m_398 (fval_op hqa0) d_X6_isPlace_1 ?_
  refine g_any (fun v1 => ?_)
  refine g_iconst hF (v := 1) d_X6_isPlace_4 (by decide) ?_
  refine g_icmp_eq (yv := 1) hF 24 d_X6_isPlace_5 (by decide) rfl (by decide) (fun c2_5 => ?_) (fun c2_5 => ?_)
  · -- taken at 5
    refine g_iconst hF (v := 1) d_X6_isPlace_24 (by decide) ?_
    refine g_goto hF 29 d_X6_isPlace_25 (by decide) ?_
    exact g_zret hF rfl (k_nz (Or.inr rfl)) d_X6_isPlace_29 ⟨rfl, rfl, (1 : Int32), rfl, (Or.inr rfl), rfl⟩
  · -- not taken at 5
    refine g_aload_n hF d_X6_isPlace_8 rfl 0 rfl ?_
    refine g_get hF 0 (obC_op hqa0) (by decide) m_398 (fval_op hqa0) d_X6_isPlace_9 ?_
    refine g_any (fun v3 => ?_)
    refine g_iconst hF (v := 2) d_X6_isPlace_12 (by decide) ?_
    refine g_icmp_eq (yv := 2) hF 24 d_X6_isPlace_13 (by decide) rfl (by decide) (fun c4_13 => ?_) (fun c4_13 => ?_)
    · -- taken at 13
      refine g_iconst hF (v := 1) d_X6_isPlace_24 (by decide) ?_
      refine g_goto hF 29 d_X6_isPlace_25 (by decide) ?_
      exact g_zret hF rfl (k_nz (Or.inr rfl)) d_X6_isPlace_29 ⟨rfl, rfl, (1 : Int32), rfl, (Or.inr rfl), rfl⟩
    · -- not taken at 13
      refine g_aload_n hF d_X6_isPlace_16 rfl 0 rfl ?_
      refine g_get hF 0 (obC_op hqa0) (by decide) m_398 (fval_op hqa0) d_X6_isPlace_17 ?_
      refine g_any (fun v5 => ?_)
      refine g_iconst hF (v := 3) d_X6_isPlace_20 (by decide) ?_
      refine g_icmp_ne (yv := 3) hF 28 d_X6_isPlace_21 (by decide) rfl (by decide) (fun c6_21 => ?_) (fun c6_21 => ?_)
      · -- taken at 21
        refine g_iconst hF (v := 0) d_X6_isPlace_28 (by decide) ?_
        exact g_zret hF rfl (k_nz (Or.inl rfl)) d_X6_isPlace_29 ⟨rfl, rfl, (0 : Int32), rfl, (Or.inl rfl), rfl⟩
      · -- not taken at 21
        refine g_iconst hF (v := 1) d_X6_isPlace_24 (by decide) ?_
        refine g_goto hF 29 d_X6_isPlace_25 (by decide) ?_
        exact g_zret hF rfl (k_nz (Or.inr rfl)) d_X6_isPlace_29 ⟨rfl, rfl, (1 : Int32), rfl, (Or.inr rfl), rfl⟩
set_option maxHeartbeats 4000000 in
set_option maxRecDepth 100000 in
theorem c_X6_fits (a : Nat → Nat) (g : Nat → Nat → Int32) (r : Nat → Nat) (σ0 : St) (a1 : Int32) (qa0 : Nat) (hqa0 : isOp qa0) (i0 : Inv σ0) (l : Launch) (D : va_G) (cy : Nat → ClassId) : Ct l D cy SC r (EC a g) y_X6_fits (Cond.code y_X6_fits b_X6_fits 2 (some .boolean)) 0 [.ref (r qa0), .int a1] σ0 Z0 [] (QI (fun v9 σ9 => (v9 = 0 ∨ v9 = 1) ∧ σ9 = σ0)) QF := by
  refine Ct_of (EC_ok a g) (by decide) (Nat.le_of_ble_eq_true rfl) (by decide) (fun X hnn hF => ?_)
  show G SC r X σ0 Z0 [] [(0, .ref (r qa0)), (1, .int a1)] [] 0
  refine g_aload_n hF d_X6_fits_0 rfl 0 rfl ?_
  refine g_get hF 1 (obC_op hqa0) (by decide) m_400 (fval_op hqa0) d_X6_fits_1 ?_
  refine g_any (fun v1 => ?_)
  refine g_iload_n hF d_X6_fits_4 rfl 1 rfl ?_
  refine g_icmp_ne hF 13 d_X6_fits_5 (by decide) rfl rfl (fun c2_5 => ?_) (fun c2_5 => ?_)
  · -- taken at 5
    refine g_iload_n hF d_X6_fits_13 rfl 1 rfl ?_
    refine g_if_le hF 28 d_X6_fits_14 (by decide) rfl (fun c3_14 => ?_) (fun c3_14 => ?_)
    · -- taken at 14
      refine g_iconst hF (v := 0) d_X6_fits_28 (by decide) ?_
      exact g_zret hF rfl (k_nz (Or.inl rfl)) d_X6_fits_29 ⟨rfl, rfl, (0 : Int32), rfl, (Or.inl rfl), rfl⟩
    · -- not taken at 14
      refine g_aload_n hF d_X6_fits_17 rfl 0 rfl ?_
      refine g_get hF 3 (obC_op hqa0) (by decide) m_405 (fval_op hqa0) d_X6_fits_18 ?_
      refine g_any (fun v4 => ?_)
      refine g_if_eq hF 28 d_X6_fits_21 (by decide) rfl (fun c5_21 => ?_) (fun c5_21 => ?_)
      · -- taken at 21
        refine g_iconst hF (v := 0) d_X6_fits_28 (by decide) ?_
        exact g_zret hF rfl (k_nz (Or.inl rfl)) d_X6_fits_29 ⟨rfl, rfl, (0 : Int32), rfl, (Or.inl rfl), rfl⟩
      · -- not taken at 21
        refine g_iconst hF (v := 1) d_X6_fits_24 (by decide) ?_
        refine g_goto hF 29 d_X6_fits_25 (by decide) ?_
        exact g_zret hF rfl (k_nz (Or.inr rfl)) d_X6_fits_29 ⟨rfl, rfl, (1 : Int32), rfl, (Or.inr rfl), rfl⟩
  · -- not taken at 5
    refine g_iload_n hF d_X6_fits_8 rfl 1 rfl ?_
    refine g_iconst hF (v := (-1)) d_X6_fits_9 (by decide) ?_
    refine g_icmp_ne (yv := -1) hF 24 d_X6_fits_10 (by decide) rfl (by decide) (fun c6_10 => ?_) (fun c6_10 => ?_)
    · -- taken at 10
      refine g_iconst hF (v := 1) d_X6_fits_24 (by decide) ?_
      refine g_goto hF 29 d_X6_fits_25 (by decide) ?_
      exact g_zret hF rfl (k_nz (Or.inr rfl)) d_X6_fits_29 ⟨rfl, rfl, (1 : Int32), rfl, (Or.inr rfl), rfl⟩
    · -- not taken at 10
      refine g_iload_n hF d_X6_fits_13 rfl 1 rfl ?_
      refine g_if_le hF 28 d_X6_fits_14 (by decide) rfl (fun c7_14 => ?_) (fun c7_14 => ?_)
      · -- taken at 14
        refine g_iconst hF (v := 0) d_X6_fits_28 (by decide) ?_
        exact g_zret hF rfl (k_nz (Or.inl rfl)) d_X6_fits_29 ⟨rfl, rfl, (0 : Int32), rfl, (Or.inl rfl), rfl⟩
      · -- not taken at 14
        refine g_aload_n hF d_X6_fits_17 rfl 0 rfl ?_
        refine g_get hF 3 (obC_op hqa0) (by decide) m_405 (fval_op hqa0) d_X6_fits_18 ?_
        refine g_any (fun v8 => ?_)
        refine g_if_eq hF 28 d_X6_fits_21 (by decide) rfl (fun c9_21 => ?_) (fun c9_21 => ?_)
        · -- taken at 21
          refine g_iconst hF (v := 0) d_X6_fits_28 (by decide) ?_
          exact g_zret hF rfl (k_nz (Or.inl rfl)) d_X6_fits_29 ⟨rfl, rfl, (0 : Int32), rfl, (Or.inl rfl), rfl⟩
        · -- not taken at 21
          refine g_iconst hF (v := 1) d_X6_fits_24 (by decide) ?_
          refine g_goto hF 29 d_X6_fits_25 (by decide) ?_
          exact g_zret hF rfl (k_nz (Or.inr rfl)) d_X6_fits_29 ⟨rfl, rfl, (1 : Int32), rfl, (Or.inr rfl), rfl⟩
set_option maxHeartbeats 4000000 in
set_option maxRecDepth 100000 in
theorem c_X2_lineOf (a : Nat → Nat) (g : Nat → Nat → Int32) (r : Nat → Nat) (σ0 : St) (a1 : Int32) (i0 : Inv σ0) (l : Launch) (D : va_G) (cy : Nat → ClassId) : Ct l D cy SC r (EC a g) y_X2_lineOf (Cond.code y_X2_lineOf b_X2_lineOf 2 (some .int)) 1 [.ref (r 7), .int a1] σ0 Z0 [] (QI (fun _ σ9 => σ9 = σ0)) QF := by
  refine Ct_of (EC_ok a g) (by decide) (Nat.le_of_ble_eq_true rfl) (by decide) (fun X hnn hF => ?_)
  show G SC r X σ0 Z0 [] [(0, .ref (r 7)), (1, .int a1)] [] 0
  refine g_aload_n hF d_X2_lineOf_0 rfl 0 rfl ?_
  refine g_get (v := .ref (r 2)) hF 1 obC_7 (by decide) m_457 rfl d_X2_lineOf_1 ?_
  refine g_getN (v := .ref (r 16)) hF 8 obC_2 (by decide) nm_60 rfl d_X2_lineOf_4 ?_
  refine g_iload_n hF d_X2_lineOf_7 rfl 1 rfl ?_
  refine g_callSN (As := [.ref (r 16), .int a1]) (rest := []) hF (c_at a g r σ0 arC_16 (by decide) a1) (Nat.le_of_ble_eq_true rfl) mS_X12_at nm_1058 rfl rfl (Nat.le_of_ble_eq_true rfl) d_X2_lineOf_8 (k_rop (fun r1 hr1 => ?_))
  exact g_iret hF rfl d_X2_lineOf_11 ⟨rfl, rfl, r1, rfl, rfl⟩
set_option maxHeartbeats 4000000 in
set_option maxRecDepth 100000 in
theorem c_X2_raise (a : Nat → Nat) (g : Nat → Nat → Int32) (r : Nat → Nat) (σ0 : St) (a2 : Int32) (a3 : Int32) (qa1 : Nat) (hqa1 : isOp qa1) (i0 : Inv σ0) (l : Launch) (D : va_G) (cy : Nat → ClassId) : Ct l D cy SC r (EC a g) y_X2_raise (Cond.code y_X2_raise b_X2_raise 4 none) 1 [.ref (r 7), .ref (r qa1), .int a2, .int a3] σ0 Z0 [] (QV (fun σ9 => (Inv σ9 ∧ Keep [(6, 3), (6, 4)] [] σ0 σ9))) QF := by
  refine Ct_of (EC_ok a g) (by decide) (Nat.le_of_ble_eq_true rfl) (by decide) (fun X hnn hF => ?_)
  show G SC r X σ0 Z0 [] [(0, .ref (r 7)), (1, .ref (r qa1)), (2, .int a2), (3, .int a3)] [] 0
  have kp : Keep [(6, 3), (6, 4)] [] σ0 σ0 := keep_rf
  refine g_aload_n hF d_X2_raise_0 rfl 1 rfl ?_
  refine g_iload_n hF d_X2_raise_1 rfl 2 rfl ?_
  refine g_putN hF 2 (obC_op hqa1) (by decide) nm_404 rfl rfl (rf_op hqa1) d_X2_raise_2 ?_
  obtain ⟨σ1, eσ1⟩ : ∃ z, z = upC σ0 qa1 2 a2 := ⟨_, rfl⟩
  rw [← eσ1]
  have ik1 : Keep [] [] σ0 σ1 := by rw [eσ1]; exact keep_op hqa1
  have kp : Keep [(6, 3), (6, 4)] [] σ0 σ1 := keep_c kp ik1 (by decide) (by decide)
  have iσ1 : Inv σ1 := inv_keep ik1 i0
  refine g_iload_n hF d_X2_raise_5 rfl 2 rfl ?_
  refine g_bipush hF (v := 60) d_X2_raise_6 (by decide) ?_
  refine g_icmp_le (yv := 60) hF 20 d_X2_raise_8 (by decide) rfl (by decide) (fun c2_8 => ?_) (fun c2_8 => ?_)
  · -- taken at 8
    exact g_vret hF rfl d_X2_raise_20 ⟨rfl, rfl, rfl, ⟨iσ1, kp⟩⟩
  · -- not taken at 8
    refine g_aload_n hF d_X2_raise_11 rfl 0 rfl ?_
    refine g_get (v := .ref (r 6)) hF 2 obC_7 (by decide) m_458 rfl d_X2_raise_12 ?_
    refine g_iconst hF (v := 4) d_X2_raise_15 (by decide) ?_
    refine g_iload_n hF d_X2_raise_16 rfl 3 rfl ?_
    refine g_callVN (As := [.int 4, .int a3]) (rest := []) hF (c_X11_fail a g r σ1 (4 : Int32) a3 iσ1) (Nat.le_of_ble_eq_true rfl) mV_X11_fail nm_1090 (recv_ob obC_6) rfl rfl (Nat.le_of_ble_eq_true rfl) d_X2_raise_17 (k_v (fun σ3 ⟨iσ3, ik3⟩ => ?_))
    have kp : Keep [(6, 3), (6, 4)] [] σ0 σ3 := keep_c kp ik3 (by decide) (by decide)
    exact g_vret hF rfl d_X2_raise_20 ⟨rfl, rfl, rfl, ⟨iσ3, kp⟩⟩
set_option maxHeartbeats 4000000 in
set_option maxRecDepth 100000 in
theorem c_X2_kindOf (a : Nat → Nat) (g : Nat → Nat → Int32) (r : Nat → Nat) (σ0 : St) (a1 : Int32) (i0 : Inv σ0) (l : Launch) (D : va_G) (cy : Nat → ClassId) : Ct l D cy SC r (EC a g) y_X2_kindOf (Cond.code y_X2_kindOf b_X2_kindOf 2 (some .int)) 1 [.ref (r 7), .int a1] σ0 Z0 [] (QI (fun _ σ9 => σ9 = σ0)) QF := by
  refine Ct_of (EC_ok a g) (by decide) (Nat.le_of_ble_eq_true rfl) (by decide) (fun X hnn hF => ?_)
  show G SC r X σ0 Z0 [] [(0, .ref (r 7)), (1, .int a1)] [] 0
  refine g_aload_n hF d_X2_kindOf_0 rfl 0 rfl ?_
  refine g_get (v := .ref (r 2)) hF 1 obC_7 (by decide) m_457 rfl d_X2_kindOf_1 ?_
  refine g_getN (v := .ref (r 13)) hF 5 obC_2 (by decide) nm_49 rfl d_X2_kindOf_4 ?_
  refine g_iload_n hF d_X2_kindOf_7 rfl 1 rfl ?_
  refine g_callSN (As := [.ref (r 13), .int a1]) (rest := []) hF (c_at a g r σ0 arC_13 (by decide) a1) (Nat.le_of_ble_eq_true rfl) mS_X12_at nm_1058 rfl rfl (Nat.le_of_ble_eq_true rfl) d_X2_kindOf_8 (k_rop (fun r1 hr1 => ?_))
  exact g_iret hF rfl d_X2_kindOf_11 ⟨rfl, rfl, r1, rfl, rfl⟩
set_option maxHeartbeats 4000000 in
set_option maxRecDepth 100000 in
theorem c_X2_fetch (a : Nat → Nat) (g : Nat → Nat → Int32) (r : Nat → Nat) (σ0 : St) (a2 : Int32) (qa1 : Nat) (hqa1 : isOp qa1) (i0 : Inv σ0) (l : Launch) (D : va_G) (cy : Nat → ClassId) : Ct l D cy SC r (EC a g) y_X2_fetch (Cond.code y_X2_fetch b_X2_fetch 3 none) 1 [.ref (r 7), .ref (r qa1), .int a2] σ0 Z0 [] (QV (fun σ9 => (Inv σ9 ∧ Keep [(4, 1)] [24] σ0 σ9))) QF := by
  refine Ct_of (EC_ok a g) (by decide) (Nat.le_of_ble_eq_true rfl) (by decide) (fun X hnn hF => ?_)
  show G SC r X σ0 Z0 [] [(0, .ref (r 7)), (1, .ref (r qa1)), (2, .int a2)] [] 0
  have kp : Keep [(4, 1)] [24] σ0 σ0 := keep_rf
  refine g_aload_n hF d_X2_fetch_0 rfl 1 rfl ?_
  refine g_getN hF 0 (obC_op hqa1) (by decide) nm_399 (fval_op hqa1) d_X2_fetch_1 ?_
  refine g_any (fun v1 => ?_)
  refine g_iconst hF (v := 3) d_X2_fetch_4 (by decide) ?_
  refine g_icmp_ne (yv := 3) hF 24 d_X2_fetch_5 (by decide) rfl (by decide) (fun c2_5 => ?_) (fun c2_5 => ?_)
  · -- taken at 5
    refine g_aload_n hF d_X2_fetch_24 rfl 1 rfl ?_
    refine g_callVN (As := []) (rest := []) hF (c_X6_isPlace a g r σ0 qa1 hqa1 i0) (Nat.le_of_ble_eq_true rfl) mV_X6_isPlace nm_1168 (recv_ob (obC_op hqa1)) rfl rfl (Nat.le_of_ble_eq_true rfl) d_X2_fetch_25 (k_roz (fun r3 hz3 => ?_))
    refine g_if_eq hF 59 d_X2_fetch_28 (by decide) rfl (fun c4_28 => ?_) (fun c4_28 => ?_)
    · -- taken at 28
      exact g_vret hF rfl d_X2_fetch_59 ⟨rfl, rfl, rfl, ⟨i0, kp⟩⟩
    · -- not taken at 28
      refine g_aload_n hF d_X2_fetch_31 rfl 0 rfl ?_
      refine g_get (v := .ref (r 4)) hF 4 obC_7 (by decide) m_461 rfl d_X2_fetch_32 ?_
      refine g_aload_n hF d_X2_fetch_35 rfl 1 rfl ?_
      refine g_getN hF 0 (obC_op hqa1) (by decide) nm_399 (fval_op hqa1) d_X2_fetch_36 ?_
      refine g_any (fun v5 => ?_)
      refine g_iconst hF (v := 1) d_X2_fetch_39 (by decide) ?_
      refine g_icmp_ne (yv := 1) hF 48 d_X2_fetch_40 (by decide) rfl (by decide) (fun c6_40 => ?_) (fun c6_40 => ?_)
      · -- taken at 40
        refine g_iconst hF (v := 5) d_X2_fetch_48 (by decide) ?_
        refine g_aload_n hF d_X2_fetch_49 rfl 1 rfl ?_
        refine g_getN hF 4 (obC_op hqa1) (by decide) nm_408 (fval_op hqa1) d_X2_fetch_50 ?_
        refine g_any (fun v7 => ?_)
        refine g_iconst hF (v := 0) d_X2_fetch_53 (by decide) ?_
        refine g_iconst hF (v := 0) d_X2_fetch_54 (by decide) ?_
        refine g_callVN (As := [.int 5, .int v7, .int 0, .int 0]) (rest := []) hF (c_X0_emit a g r σ0 (5 : Int32) v7 (0 : Int32) (0 : Int32) i0) (Nat.le_of_ble_eq_true rfl) mV_X0_emit nm_1071 (recv_ob obC_4) rfl rfl (Nat.le_of_ble_eq_true rfl) d_X2_fetch_55 (k_i (fun r8 σ8 ⟨iσ8, ik8⟩ => ?_))
        have kp : Keep [(4, 1)] [24] σ0 σ8 := keep_c kp ik8 (by decide) (by decide)
        refine g_pop hF d_X2_fetch_58 rfl ?_
        exact g_vret hF rfl d_X2_fetch_59 ⟨rfl, rfl, rfl, ⟨iσ8, kp⟩⟩
      · -- not taken at 40
        refine g_bipush hF (v := 8) d_X2_fetch_43 (by decide) ?_
        refine g_goto hF 49 d_X2_fetch_45 (by decide) ?_
        refine g_aload_n hF d_X2_fetch_49 rfl 1 rfl ?_
        refine g_getN hF 4 (obC_op hqa1) (by decide) nm_408 (fval_op hqa1) d_X2_fetch_50 ?_
        refine g_any (fun v9 => ?_)
        refine g_iconst hF (v := 0) d_X2_fetch_53 (by decide) ?_
        refine g_iconst hF (v := 0) d_X2_fetch_54 (by decide) ?_
        refine g_callVN (As := [.int 8, .int v9, .int 0, .int 0]) (rest := []) hF (c_X0_emit a g r σ0 (8 : Int32) v9 (0 : Int32) (0 : Int32) i0) (Nat.le_of_ble_eq_true rfl) mV_X0_emit nm_1071 (recv_ob obC_4) rfl rfl (Nat.le_of_ble_eq_true rfl) d_X2_fetch_55 (k_i (fun r10 σ10 ⟨iσ10, ik10⟩ => ?_))
        have kp : Keep [(4, 1)] [24] σ0 σ10 := keep_c kp ik10 (by decide) (by decide)
        refine g_pop hF d_X2_fetch_58 rfl ?_
        exact g_vret hF rfl d_X2_fetch_59 ⟨rfl, rfl, rfl, ⟨iσ10, kp⟩⟩
  · -- not taken at 5
    refine g_aload_n hF d_X2_fetch_8 rfl 0 rfl ?_
    refine g_get (v := .ref (r 4)) hF 4 obC_7 (by decide) m_461 rfl d_X2_fetch_9 ?_
    refine g_bipush hF (v := 21) d_X2_fetch_12 (by decide) ?_
    refine g_iload_n hF d_X2_fetch_14 rfl 2 rfl ?_
    refine g_iconst hF (v := 0) d_X2_fetch_15 (by decide) ?_
    refine g_iconst hF (v := 0) d_X2_fetch_16 (by decide) ?_
    refine g_callVN (As := [.int 21, .int a2, .int 0, .int 0]) (rest := []) hF (c_X0_emit a g r σ0 (21 : Int32) a2 (0 : Int32) (0 : Int32) i0) (Nat.le_of_ble_eq_true rfl) mV_X0_emit nm_1071 (recv_ob obC_4) rfl rfl (Nat.le_of_ble_eq_true rfl) d_X2_fetch_17 (k_i (fun r11 σ11 ⟨iσ11, ik11⟩ => ?_))
    have kp : Keep [(4, 1)] [24] σ0 σ11 := keep_c kp ik11 (by decide) (by decide)
    refine g_pop hF d_X2_fetch_20 rfl ?_
    refine g_goto hF 59 d_X2_fetch_21 (by decide) ?_
    exact g_vret hF rfl d_X2_fetch_59 ⟨rfl, rfl, rfl, ⟨iσ11, kp⟩⟩
