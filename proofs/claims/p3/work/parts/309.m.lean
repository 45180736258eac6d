set_option maxHeartbeats 4000000 in
set_option maxRecDepth 100000 in
theorem c_X5_stepped_r12_r63 (a : Nat → Nat) (g : Nat → Nat → Int32) (r : Nat → Nat) (σ0 : St) (a2 : Int32) (a3 : Int32) (i0 : Inv σ0) (l : Launch) (D : va_G) (cy : Nat → ClassId) : Ct l D cy SC r (EC a g) y_X5_stepped (Cond.code y_X5_stepped b_X5_stepped 5 none) 2 [.ref (r 12), .ref (r 63), .int a2, .int a3] σ0 Z0 [] (QV (fun σ9 => (Inv σ9 ∧ Keep [(12, 9)] [63] σ0 σ9))) QF := by
  refine Ct_of (EC_ok a g) (by decide) (Nat.le_of_ble_eq_true rfl) (by decide) (fun X hnn hF => ?_)
  show G SC r X σ0 Z0 [] [(0, .ref (r 12)), (1, .ref (r 63)), (2, .int a2), (3, .int a3)] [] 0
  have kp : Keep [(12, 9)] [63] σ0 σ0 := keep_rf
  refine g_aload_n hF d_X5_stepped_0 rfl 1 rfl ?_
  refine g_iload_n hF d_X5_stepped_1 rfl 2 rfl ?_
  refine g_callSN (As := [.ref (r 63), .int a2]) (rest := []) hF (c_at a g r σ0 arC_63 (by decide) a2) (Nat.le_of_ble_eq_true rfl) mS_X12_at nm_1660 rfl rfl (Nat.le_of_ble_eq_true rfl) d_X5_stepped_2 (k_rop (fun r1 hr1 => ?_))
  refine g_aload_n hF d_X5_stepped_5 rfl 0 rfl ?_
  refine g_get (v := .ref (r 24)) hF 3 obC_12 (by decide) m_674 rfl d_X5_stepped_6 ?_
  refine g_iload_n hF d_X5_stepped_9 rfl 3 rfl ?_
  refine g_iconst hF (v := 2) d_X5_stepped_10 (by decide) ?_
  refine g_iadd hF d_X5_stepped_11 ?_
  refine g_callSN (As := [.ref (r 24), .int (a3 + 2)]) (rest := [.int r1]) hF (c_at a g r σ0 arC_24 (by decide) (a3 + 2)) (Nat.le_of_ble_eq_true rfl) mS_X12_at nm_1660 rfl rfl (Nat.le_of_ble_eq_true rfl) d_X5_stepped_12 (k_rop (fun r2 hr2 => ?_))
  refine g_iadd hF d_X5_stepped_15 ?_
  refine g_istore hF [(4, .int (r1 + r2)), (0, .ref (r 12)), (1, .ref (r 63)), (2, .int a2), (3, .int a3)] d_X5_stepped_16 hnn (by decide) rfl ?_
  refine g_aload_n hF d_X5_stepped_18 rfl 2 rfl ?_
  refine g_iload_n hF d_X5_stepped_19 rfl 3 rfl ?_
  refine g_iload hF d_X5_stepped_20 0 rfl ?_
  refine g_callSN (As := [.ref (r 63), .int a2, .int (r1 + r2)]) (rest := []) hF (c_set a g r σ0 arC_63 (by decide) a2 (r1 + r2)) (Nat.le_of_ble_eq_true rfl) mS_X12_set nm_1661 rfl rfl (Nat.le_of_ble_eq_true rfl) d_X5_stepped_22 (k_v (fun σ3 ⟨g3, eσ3, hg3⟩ => ?_))
  subst eσ3
  have kp : Keep [(12, 9)] [63] σ0 (upF σ0 63 g3) := keep_F kp (by decide)
  refine g_aload_n hF d_X5_stepped_25 rfl 1 rfl ?_
  refine g_iload hF d_X5_stepped_26 0 rfl ?_
  refine g_aload_n hF d_X5_stepped_28 rfl 1 rfl ?_
  refine g_get (v := .ref (r 24)) hF 3 obC_12 (by decide) m_674 rfl d_X5_stepped_29 ?_
  refine g_iload_n hF d_X5_stepped_32 rfl 4 rfl ?_
  refine g_iconst hF (v := 3) d_X5_stepped_33 (by decide) ?_
  refine g_iadd hF d_X5_stepped_34 ?_
  refine g_callSN (As := [.ref (r 24), .int (a3 + 3)]) (rest := [.int (r1 + r2), .ref (r 12)]) hF (c_at a g r (upF σ0 63 g3) arC_24 (by decide) (a3 + 3)) (Nat.le_of_ble_eq_true rfl) mS_X12_at nm_1660 rfl rfl (Nat.le_of_ble_eq_true rfl) d_X5_stepped_35 (k_rop (fun r4 hr4 => ?_))
  refine g_isub hF d_X5_stepped_38 ?_
  have j6 : Inv (upF σ0 63 g3) := ⟨i0.1, i0.2.1, i0.2.2.1, i0.2.2.2.1, i0.2.2.2.2.1, i0.2.2.2.2.2.1, i0.2.2.2.2.2.2.1, i0.2.2.2.2.2.2.2.1, i0.2.2.2.2.2.2.2.2.1, i0.2.2.2.2.2.2.2.2.2.1, i0.2.2.2.2.2.2.2.2.2.2.1, i0.2.2.2.2.2.2.2.2.2.2.2.1, i0.2.2.2.2.2.2.2.2.2.2.2.2.1, i0.2.2.2.2.2.2.2.2.2.2.2.2.2.1, i0.2.2.2.2.2.2.2.2.2.2.2.2.2.2.1, i0.2.2.2.2.2.2.2.2.2.2.2.2.2.2.2.1, i0.2.2.2.2.2.2.2.2.2.2.2.2.2.2.2.2.1, i0.2.2.2.2.2.2.2.2.2.2.2.2.2.2.2.2.2.1, i0.2.2.2.2.2.2.2.2.2.2.2.2.2.2.2.2.2.2.1, i0.2.2.2.2.2.2.2.2.2.2.2.2.2.2.2.2.2.2.2⟩
  refine g_callV (As := [.int ((r1 + r2) - r4)]) (rest := []) hF (c_X5_push a g r (upF σ0 63 g3) ((r1 + r2) - r4) j6) (Nat.le_of_ble_eq_true rfl) mV_X5_push m_1686 (recv_ob obC_12) rfl rfl (Nat.le_of_ble_eq_true rfl) d_X5_stepped_39 (k_v (fun σ5 ⟨iσ5, ik5⟩ => ?_)) (fun _ _ _ h => h.elim)
  have kp : Keep [(12, 9)] [63] σ0 σ5 := keep_c kp ik5 (by decide) (by decide)
  exact g_vret hF rfl d_X5_stepped_42 ⟨rfl, rfl, rfl, ⟨iσ5, kp⟩⟩
set_option maxHeartbeats 4000000 in
set_option maxRecDepth 100000 in
theorem c_X10_skipLine (a : Nat → Nat) (g : Nat → Nat → Int32) (r : Nat → Nat) (σ0 : St) (i0 : Inv σ0) (l : Launch) (D : va_G) (cy : Nat → ClassId) : Ct l D cy SC r (EC a g) y_X10_skipLine (Cond.code y_X10_skipLine b_X10_skipLine 1 (some .boolean)) 2 [.ref (r 2)] σ0 Z0 [] (QI (fun v9 σ9 => (v9 = 0 ∨ v9 = 1) ∧ (Inv σ9 ∧ Keep [(2, 2), (2, 4)] [13, 14, 15, 16] σ0 σ9))) QF := by
  refine Ct_of (EC_ok a g) (by decide) (Nat.le_of_ble_eq_true rfl) (by decide) (fun X hnn hF => ?_)
  show G SC r X σ0 Z0 [] [(0, .ref (r 2))] [] 0
  have b0 : ∀ (N : Nat) (σ : St) , upm (σ 2 2) = N → Inv σ → Keep [(2, 2), (2, 4)] [13, 14, 15, 16] σ0 σ → G SC r X σ Z0 [] [(0, .ref (r 2))] [] 0 := by
    intro M0
    induction M0 using Nat.strongRecOn with
    | _ M0 ih0 =>
      intro σ N0 inv kp
      refine g_aload_n hF d_X10_skipLine_0 rfl 0 rfl ?_
      refine g_get (v := .int (σ 2 2)) hF 2 obC_2 (by decide) m_44 rfl d_X10_skipLine_1 ?_
      refine g_aload_n hF d_X10_skipLine_4 rfl 0 rfl ?_
      refine g_get (v := .int (σ 2 1)) hF 1 obC_2 (by decide) m_43 rfl d_X10_skipLine_5 ?_
      refine g_icmp_ge hF 60 d_X10_skipLine_8 (by decide) rfl rfl (fun c1_8 => ?_) (fun c1_8 => ?_)
      · -- taken at 8
        refine g_iconst hF (v := 1) d_X10_skipLine_60 (by decide) ?_
        exact g_zret hF rfl (k_nz (Or.inr rfl)) d_X10_skipLine_61 ⟨rfl, rfl, (1 : Int32), rfl, (Or.inr rfl), ⟨inv, kp⟩⟩
      · -- not taken at 8
        refine g_aload_n hF d_X10_skipLine_11 rfl 0 rfl ?_
        refine g_aload_n hF d_X10_skipLine_12 rfl 0 rfl ?_
        refine g_get (v := .int (σ 2 2)) hF 2 obC_2 (by decide) m_44 rfl d_X10_skipLine_13 ?_
        refine g_callV (As := [.int (σ 2 2)]) (rest := []) hF (c_X10_byteAt a g r σ (σ 2 2) inv) (Nat.le_of_ble_eq_true rfl) mV_X10_byteAt m_806 (recv_ob obC_2) rfl rfl (Nat.le_of_ble_eq_true rfl) d_X10_skipLine_16 (k_rop (fun r2 hp2 => ?_)) (fun _ _ _ h => h.elim)
        have hp2 : 0 ≤ r2.toInt → (0 ≤ (σ 2 2).toInt ∧ (σ 2 2).toInt < 16000) := hp2
        refine g_bipush hF (v := 10) d_X10_skipLine_19 (by decide) ?_
        refine g_icmp_eq (yv := 10) hF 60 d_X10_skipLine_21 (by decide) rfl (by decide) (fun c3_21 => ?_) (fun c3_21 => ?_)
        · -- taken at 21
          refine g_iconst hF (v := 1) d_X10_skipLine_60 (by decide) ?_
          exact g_zret hF rfl (k_nz (Or.inr rfl)) d_X10_skipLine_61 ⟨rfl, rfl, (1 : Int32), rfl, (Or.inr rfl), ⟨inv, kp⟩⟩
        · -- not taken at 21
          refine g_aload_n hF d_X10_skipLine_24 rfl 0 rfl ?_
          refine g_aload_n hF d_X10_skipLine_25 rfl 0 rfl ?_
          refine g_get (v := .int (σ 2 2)) hF 2 obC_2 (by decide) m_44 rfl d_X10_skipLine_26 ?_
          refine g_callV (As := [.int (σ 2 2)]) (rest := []) hF (c_X10_byteAt a g r σ (σ 2 2) inv) (Nat.le_of_ble_eq_true rfl) mV_X10_byteAt m_806 (recv_ob obC_2) rfl rfl (Nat.le_of_ble_eq_true rfl) d_X10_skipLine_29 (k_rop (fun r4 hp4 => ?_)) (fun _ _ _ h => h.elim)
          have hp4 : 0 ≤ r4.toInt → (0 ≤ (σ 2 2).toInt ∧ (σ 2 2).toInt < 16000) := hp4
          refine g_callS (As := [.int r4]) (rest := []) hF (c_X10_mayOccur a g r σ r4 inv) (Nat.le_of_ble_eq_true rfl) mS_X10_mayOccur m_814 rfl rfl (Nat.le_of_ble_eq_true rfl) d_X10_skipLine_32 (k_roz (fun r5 hz5 => ?_)) (fun _ _ _ h => h.elim)
          refine g_if_ne hF 47 d_X10_skipLine_35 (by decide) rfl (fun c6_35 => ?_) (fun c6_35 => ?_)
          · -- taken at 35
            refine g_aload_n hF d_X10_skipLine_47 rfl 0 rfl ?_
            refine g_dup hF d_X10_skipLine_48 rfl ?_
            refine g_get (v := .int (σ 2 2)) hF 2 obC_2 (by decide) m_44 rfl d_X10_skipLine_49 ?_
            refine g_iconst hF (v := 1) d_X10_skipLine_52 (by decide) ?_
            refine g_iadd hF d_X10_skipLine_53 ?_
            refine g_put (v := ((σ 2 2) + 1)) hF 2 obC_2 (by decide) m_44 rfl rfl rfl d_X10_skipLine_54 ?_
            have kp : Keep [(2, 2), (2, 4)] [13, 14, 15, 16] σ0 (upC σ 2 2 ((σ 2 2) + 1)) := keep_f kp (by decide)
            have p7 : 0 ≤ ((σ 2 2) + 1).toInt ∧ ((σ 2 2) + 1).toInt ≤ 40000 := (by have e0 := s_rng (σ 2 2); have e1 := inv.2.2.2.2.1; have e2 : (1 : Int32).toInt = 1 := (by decide); obtain ⟨k3, e3⟩ := s_add (σ 2 2) (1 : Int32); have e3a := s_rng ((σ 2 2) + 1); have e5 := s_rng (σ 2 1); have e6 := inv.2.2.2.2.2.2.2.2.1; have e7 := s_rng r2; have e8 : (10 : Int32).toInt = 10 := (by decide); have e9 := s_rng r4; omega)
            refine g_goto hF 0 d_X10_skipLine_57 (by decide) ?_
            have j8 : Inv (upC σ 2 2 ((σ 2 2) + 1)) := ⟨inv.1, inv.2.1, inv.2.2.1, inv.2.2.2.1, p7, inv.2.2.2.2.2.1, inv.2.2.2.2.2.2.1, inv.2.2.2.2.2.2.2.1, inv.2.2.2.2.2.2.2.2.1, inv.2.2.2.2.2.2.2.2.2.1, inv.2.2.2.2.2.2.2.2.2.2.1, inv.2.2.2.2.2.2.2.2.2.2.2.1, inv.2.2.2.2.2.2.2.2.2.2.2.2.1, inv.2.2.2.2.2.2.2.2.2.2.2.2.2.1, inv.2.2.2.2.2.2.2.2.2.2.2.2.2.2.1, inv.2.2.2.2.2.2.2.2.2.2.2.2.2.2.2.1, inv.2.2.2.2.2.2.2.2.2.2.2.2.2.2.2.2.1, inv.2.2.2.2.2.2.2.2.2.2.2.2.2.2.2.2.2.1, inv.2.2.2.2.2.2.2.2.2.2.2.2.2.2.2.2.2.2.1, inv.2.2.2.2.2.2.2.2.2.2.2.2.2.2.2.2.2.2.2⟩
            exact ih0 _ (by show upm ((σ 2 2) + 1) < _; have hN := N0; unfold upm at hN ⊢; have e0 := s_rng (σ 2 2); have e1 := inv.2.2.2.2.1; have e2 : (1 : Int32).toInt = 1 := (by decide); obtain ⟨k3, e3⟩ := s_add (σ 2 2) (1 : Int32); have e3a := s_rng ((σ 2 2) + 1); have e5 := s_rng (σ 2 1); have e6 := inv.2.2.2.2.2.2.2.2.1; have e7 := s_rng r2; have e8 : (10 : Int32).toInt = 10 := (by decide); have e9 := s_rng r4; omega) (upC σ 2 2 ((σ 2 2) + 1)) rfl j8 kp
          · -- not taken at 35
            refine g_aload_n hF d_X10_skipLine_38 rfl 0 rfl ?_
            refine g_aload_n hF d_X10_skipLine_39 rfl 0 rfl ?_
            refine g_get (v := .int (σ 2 2)) hF 2 obC_2 (by decide) m_44 rfl d_X10_skipLine_40 ?_
            refine g_callV (As := [.int (σ 2 2)]) (rest := []) hF (c_X10_bad a g r σ (σ 2 2) (by show 0 ≤ (σ 2 2).toInt ∧ (σ 2 2).toInt ≤ 40000; have e0 := s_rng (σ 2 2); have e1 := inv.2.2.2.2.1; have e2 := s_rng (σ 2 1); have e3 := inv.2.2.2.2.2.2.2.2.1; have e4 := s_rng r2; have e5 : (10 : Int32).toInt = 10 := (by decide); have e6 := s_rng r4; omega) inv) (Nat.le_of_ble_eq_true rfl) mV_X10_bad m_817 (recv_ob obC_2) rfl rfl (Nat.le_of_ble_eq_true rfl) d_X10_skipLine_43 (k_i (fun r9 σ9 ⟨hz9, iσ9, ik9⟩ => ?_)) (fun _ _ _ h => h.elim)
            have kp : Keep [(2, 2), (2, 4)] [13, 14, 15, 16] σ0 σ9 := keep_c kp ik9 (by decide) (by decide)
            exact g_zret hF rfl (k_nz hz9) d_X10_skipLine_46 ⟨rfl, rfl, r9, rfl, hz9, ⟨iσ9, kp⟩⟩
  have kp : Keep [(2, 2), (2, 4)] [13, 14, 15, 16] σ0 σ0 := keep_rf
  exact b0 _ σ0 rfl i0 kp
set_option maxHeartbeats 4000000 in
set_option maxRecDepth 100000 in
theorem c_X3_parameters (a : Nat → Nat) (g : Nat → Nat → Int32) (r : Nat → Nat) (σ0 : St) (hgp : GPS σ0) (i0 : Inv σ0) (l : Launch) (D : va_G) (cy : Nat → ClassId) : Ct l D cy SC r (EC a g) y_X3_parameters (Cond.code y_X3_parameters b_X3_parameters 7 (some .int)) 2 [.ref (r 3)] σ0 Z0 [] (QI (fun v9 σ9 => ((GPS σ9 ∧ Mo σ9 σ0) ∧ (Inv σ9 ∧ Keep [(3, 1), (3, 2), (3, 3)] [23] σ0 σ9)))) QF := by
  refine Ct_of (EC_ok a g) (by decide) (Nat.le_of_ble_eq_true rfl) (by decide) (fun X hnn hF => ?_)
  show G SC r X σ0 Z0 [] [(0, .ref (r 3))] [] 0
  have b6 : ∀ (N : Nat) (σ : St) (x1 : Int32) (x2 : Int32) (x3 : Int32) , upm x2 = N → Inv σ → Keep [(3, 1), (3, 2), (3, 3)] [23] σ0 σ → x3 = 0 ∨ x3 = 1 → GPS σ → Mo σ σ0 → G SC r X σ Z0 [] [(0, .ref (r 3)), (1, .int x1), (2, .int x2), (3, .int x3)] [] 6 := by
    intro M6
    induction M6 using Nat.strongRecOn with
    | _ M6 ih6 =>
      intro σ x1 x2 x3 N6 inv kp z_x3 hgp hgm
      refine g_iload_n hF d_X3_parameters_6 rfl 2 rfl ?_
      refine g_bipush hF (v := 8) d_X3_parameters_7 (by decide) ?_
      refine g_icmp_ge (yv := 8) hF 100 d_X3_parameters_9 (by decide) rfl (by decide) (fun c1_9 => ?_) (fun c1_9 => ?_)
      · -- taken at 9
        refine g_iload_n hF d_X3_parameters_100 rfl 3 rfl ?_
        refine g_if_eq hF 108 d_X3_parameters_101 (by decide) rfl (fun c2_101 => ?_) (fun c2_101 => ?_)
        · -- taken at 101
          refine g_iload_n hF d_X3_parameters_108 rfl 1 rfl ?_
          exact g_iret hF rfl d_X3_parameters_109 ⟨rfl, rfl, x1, rfl, ⟨⟨hgp, (fun h9 => (hgm (mo_e (show σ 3 3 = σ 3 3 from rfl) h9)))⟩, inv, kp⟩⟩
        · -- not taken at 101
          refine g_aload_n hF d_X3_parameters_104 rfl 0 rfl ?_
          refine g_callV (As := []) (rest := []) hF (c_X3_fail a g r σ hgp inv) (Nat.le_of_ble_eq_true rfl) mV_X3_fail m_907 (recv_ob obC_3) rfl rfl (Nat.le_of_ble_eq_true rfl) d_X3_parameters_105 (k_v (fun σ3 ⟨⟨hgp3, hgm3⟩, hs3, iσ3, ik3⟩ => ?_)) (fun _ _ _ h => h.elim)
          have hs3 : 0 ≤ (σ3 3 3).toInt := hs3
          have hmo3 : Mo σ3 σ := fun h9 => mo_e (show σ 3 3 = σ 3 3 from rfl) (hgm3 h9)
          have kp : Keep [(3, 1), (3, 2), (3, 3)] [23] σ0 σ3 := keep_c kp ik3 (by decide) (by decide)
          refine g_iload_n hF d_X3_parameters_108 rfl 1 rfl ?_
          exact g_iret hF rfl d_X3_parameters_109 ⟨rfl, rfl, x1, rfl, ⟨⟨hgp3, (fun h9 => (hgm (hmo3 (mo_e (show σ3 3 3 = σ3 3 3 from rfl) h9))))⟩, iσ3, kp⟩⟩
      · -- not taken at 9
        refine g_iload_n hF d_X3_parameters_12 rfl 3 rfl ?_
        refine g_if_eq hF 100 d_X3_parameters_13 (by decide) rfl (fun c4_13 => ?_) (fun c4_13 => ?_)
        · -- taken at 13
          refine g_iload_n hF d_X3_parameters_100 rfl 3 rfl ?_
          refine g_if_eq hF 108 d_X3_parameters_101 (by decide) rfl (fun c5_101 => ?_) (fun c5_101 => ?_)
          · -- taken at 101
            refine g_iload_n hF d_X3_parameters_108 rfl 1 rfl ?_
            exact g_iret hF rfl d_X3_parameters_109 ⟨rfl, rfl, x1, rfl, ⟨⟨hgp, (fun h9 => (hgm (mo_e (show σ 3 3 = σ 3 3 from rfl) h9)))⟩, inv, kp⟩⟩
          · -- not taken at 101
            refine g_aload_n hF d_X3_parameters_104 rfl 0 rfl ?_
            refine g_callV (As := []) (rest := []) hF (c_X3_fail a g r σ hgp inv) (Nat.le_of_ble_eq_true rfl) mV_X3_fail m_907 (recv_ob obC_3) rfl rfl (Nat.le_of_ble_eq_true rfl) d_X3_parameters_105 (k_v (fun σ6 ⟨⟨hgp6, hgm6⟩, hs6, iσ6, ik6⟩ => ?_)) (fun _ _ _ h => h.elim)
            have hs6 : 0 ≤ (σ6 3 3).toInt := hs6
            have hmo6 : Mo σ6 σ := fun h9 => mo_e (show σ 3 3 = σ 3 3 from rfl) (hgm6 h9)
            have kp : Keep [(3, 1), (3, 2), (3, 3)] [23] σ0 σ6 := keep_c kp ik6 (by decide) (by decide)
            refine g_iload_n hF d_X3_parameters_108 rfl 1 rfl ?_
            exact g_iret hF rfl d_X3_parameters_109 ⟨rfl, rfl, x1, rfl, ⟨⟨hgp6, (fun h9 => (hgm (hmo6 (mo_e (show σ6 3 3 = σ6 3 3 from rfl) h9))))⟩, iσ6, kp⟩⟩
        · -- not taken at 13
          refine g_aload_n hF d_X3_parameters_16 rfl 0 rfl ?_
          refine g_iconst hF (v := 5) d_X3_parameters_17 (by decide) ?_
          refine g_callV (As := [.int 5]) (rest := []) hF (c_X3_expect a g r σ (5 : Int32) hgp (by show ¬ (5 = 0 ∨ 5 = -1); have e0 : (5 : Int32).toInt = 5 := (by decide); omega) inv) (Nat.le_of_ble_eq_true rfl) mV_X3_expect m_903 (recv_ob obC_3) rfl rfl (Nat.le_of_ble_eq_true rfl) d_X3_parameters_18 (k_v (fun σ7 ⟨⟨hgp7, hgm7⟩, hs7, iσ7, ik7⟩ => ?_)) (fun _ _ _ h => h.elim)
          have hs7 : (σ7 3 3).toInt < 0 → (σ 3 2).toInt = 5 := hs7
          have hmo7 : Mo σ7 σ := fun h9 => mo_e (show σ 3 3 = σ 3 3 from rfl) (hgm7 h9)
          have kp : Keep [(3, 1), (3, 2), (3, 3)] [23] σ0 σ7 := keep_c kp ik7 (by decide) (by decide)
          refine g_aload_n hF d_X3_parameters_21 rfl 0 rfl ?_
          refine g_callV (As := []) (rest := []) hF (c_X3_stars a g r σ7 hgp7 iσ7) (Nat.le_of_ble_eq_true rfl) mV_X3_stars m_911 (recv_ob obC_3) rfl rfl (Nat.le_of_ble_eq_true rfl) d_X3_parameters_22 (k_i (fun r8 σ8 ⟨⟨hgp8, hgm8⟩, iσ8, ik8⟩ => ?_)) (fun _ _ _ h => h.elim)
          have hmo8 : Mo σ8 σ7 := fun h9 => mo_e (show σ7 3 3 = σ7 3 3 from rfl) (hgm8 h9)
          have kp : Keep [(3, 1), (3, 2), (3, 3)] [23] σ0 σ8 := keep_c kp ik8 (by decide) (by decide)
          refine g_istore hF [(4, .int r8), (0, .ref (r 3)), (1, .int x1), (2, .int x2), (3, .int x3)] d_X3_parameters_25 hnn (by decide) rfl ?_
          refine g_aload_n hF d_X3_parameters_27 rfl 1 rfl ?_
          refine g_get (v := .int (σ8 3 1)) hF 1 obC_3 (by decide) m_95 rfl d_X3_parameters_28 ?_
          refine g_istore hF [(5, .int (σ8 3 1)), (4, .int r8), (0, .ref (r 3)), (1, .int x1), (2, .int x2), (3, .int x3)] d_X3_parameters_31 hnn (by decide) rfl ?_
          refine g_aload_n hF d_X3_parameters_33 rfl 2 rfl ?_
          refine g_iconst hF (v := 2) d_X3_parameters_34 (by decide) ?_
          refine g_callV (As := [.int 2]) (rest := []) hF (c_X3_accept a g r σ8 (2 : Int32) hgp8 (by show ¬ (2 = 0 ∨ 2 = -1); have e0 : (2 : Int32).toInt = 2 := (by decide); omega) iσ8) (Nat.le_of_ble_eq_true rfl) mV_X3_accept m_966 (recv_ob obC_3) rfl rfl (Nat.le_of_ble_eq_true rfl) d_X3_parameters_35 (k_i (fun r9 σ9 ⟨hz9, ⟨hgp9, hgm9⟩, iσ9, ik9⟩ => ?_)) (fun _ _ _ h => h.elim)
          have hmo9 : Mo σ9 σ8 := fun h9 => mo_e (show σ8 3 3 = σ8 3 3 from rfl) (hgm9 h9)
          have kp : Keep [(3, 1), (3, 2), (3, 3)] [23] σ0 σ9 := keep_c kp ik9 (by decide) (by decide)
          refine g_istore hF [(6, .int r9), (5, .int (σ8 3 1)), (4, .int r8), (0, .ref (r 3)), (1, .int x1), (2, .int x2), (3, .int x3)] d_X3_parameters_38 hnn (by decide) rfl ?_
          refine g_aload_n hF d_X3_parameters_40 rfl 3 rfl ?_
          refine g_bipush hF (v := 24) d_X3_parameters_41 (by decide) ?_
          refine g_callV (As := [.int 24]) (rest := []) hF (c_X3_accept a g r σ9 (24 : Int32) hgp9 (by show ¬ (24 = 0 ∨ 24 = -1); have e0 : (24 : Int32).toInt = 24 := (by decide); omega) iσ9) (Nat.le_of_ble_eq_true rfl) mV_X3_accept m_966 (recv_ob obC_3) rfl rfl (Nat.le_of_ble_eq_true rfl) d_X3_parameters_43 (k_i (fun r10 σ10 ⟨hz10, ⟨hgp10, hgm10⟩, iσ10, ik10⟩ => ?_)) (fun _ _ _ h => h.elim)
          have hmo10 : Mo σ10 σ8 := fun h9 => mo_e (show σ9 3 3 = σ8 3 3 from (ik9 3 3 rfl rfl rfl)) (hgm10 h9)
          have kp : Keep [(3, 1), (3, 2), (3, 3)] [23] σ0 σ10 := keep_c kp ik10 (by decide) (by decide)
          refine g_if_eq hF 58 d_X3_parameters_46 (by decide) rfl (fun c11_46 => ?_) (fun c11_46 => ?_)
          · -- taken at 46
            refine g_aload_n hF d_X3_parameters_58 rfl 3 rfl ?_
            refine g_get (v := .ref (r 23)) hF 11 obC_3 (by decide) m_116 rfl d_X3_parameters_59 ?_
            refine g_iload_n hF d_X3_parameters_62 rfl 5 rfl ?_
            refine g_iload hF d_X3_parameters_63 0 rfl ?_
            refine g_if_eq hF 73 d_X3_parameters_65 (by decide) rfl (fun c12_65 => ?_) (fun c12_65 => ?_)
            · -- taken at 65
              refine g_aload_n hF d_X3_parameters_73 rfl 3 rfl ?_
              refine g_get (v := .int (σ10 3 1)) hF 1 obC_3 (by decide) m_95 rfl d_X3_parameters_74 ?_
              refine g_callSN (As := [.ref (r 23), .int x2, .int (σ10 3 1)]) (rest := []) hF (c_set a g r σ10 arC_23 (by decide) x2 (σ10 3 1)) (Nat.le_of_ble_eq_true rfl) mS_X12_set nm_979 rfl rfl (Nat.le_of_ble_eq_true rfl) d_X3_parameters_77 (k_v (fun σ13 ⟨g13, eσ13, hg13⟩ => ?_))
              subst eσ13
              have kp : Keep [(3, 1), (3, 2), (3, 3)] [23] σ0 (upF σ10 23 g13) := keep_F kp (by decide)
              refine g_iload_n hF d_X3_parameters_80 rfl 4 rfl ?_
              refine g_iload hF d_X3_parameters_81 2 rfl ?_
              have j15 : Inv (upF σ10 23 g13) := ⟨iσ10.1, iσ10.2.1, iσ10.2.2.1, iσ10.2.2.2.1, iσ10.2.2.2.2.1, iσ10.2.2.2.2.2.1, iσ10.2.2.2.2.2.2.1, iσ10.2.2.2.2.2.2.2.1, iσ10.2.2.2.2.2.2.2.2.1, iσ10.2.2.2.2.2.2.2.2.2.1, iσ10.2.2.2.2.2.2.2.2.2.2.1, iσ10.2.2.2.2.2.2.2.2.2.2.2.1, iσ10.2.2.2.2.2.2.2.2.2.2.2.2.1, iσ10.2.2.2.2.2.2.2.2.2.2.2.2.2.1, iσ10.2.2.2.2.2.2.2.2.2.2.2.2.2.2.1, iσ10.2.2.2.2.2.2.2.2.2.2.2.2.2.2.2.1, iσ10.2.2.2.2.2.2.2.2.2.2.2.2.2.2.2.2.1, iσ10.2.2.2.2.2.2.2.2.2.2.2.2.2.2.2.2.2.1, iσ10.2.2.2.2.2.2.2.2.2.2.2.2.2.2.2.2.2.2.1, iσ10.2.2.2.2.2.2.2.2.2.2.2.2.2.2.2.2.2.2.2⟩
              refine g_callSN (As := [.int x1, .int r8]) (rest := []) hF (c_X8_withParameter a g r (upF σ10 23 g13) x1 r8 j15) (Nat.le_of_ble_eq_true rfl) mS_X8_withParameter nm_994 rfl rfl (Nat.le_of_ble_eq_true rfl) d_X3_parameters_83 (k_ro (fun r14 => ?_))
              refine g_istore_n hF [(1, .int r14), (6, .int r9), (5, .int (σ8 3 1)), (4, .int r8), (0, .ref (r 3)), (2, .int x2), (3, .int x3)] d_X3_parameters_86 rfl hnn (by decide) rfl ?_
              refine g_aload_n hF d_X3_parameters_87 rfl 4 rfl ?_
              refine g_bipush hF (v := 26) d_X3_parameters_88 (by decide) ?_
              refine g_callV (As := [.int 26]) (rest := []) hF (c_X3_accept a g r (upF σ10 23 g13) (26 : Int32) hgp10 (by show ¬ (26 = 0 ∨ 26 = -1); have e0 : (26 : Int32).toInt = 26 := (by decide); omega) j15) (Nat.le_of_ble_eq_true rfl) mV_X3_accept m_966 (recv_ob obC_3) rfl rfl (Nat.le_of_ble_eq_true rfl) d_X3_parameters_90 (k_i (fun r16 σ16 ⟨hz16, ⟨hgp16, hgm16⟩, iσ16, ik16⟩ => ?_)) (fun _ _ _ h => h.elim)
              have hmo16 : Mo σ16 σ8 := fun h9 => mo_e (show (upF σ10 23 g13) 3 3 = σ8 3 3 from ((ik10 3 3 rfl rfl rfl).trans (ik9 3 3 rfl rfl rfl))) (hgm16 h9)
              have kp : Keep [(3, 1), (3, 2), (3, 3)] [23] σ0 σ16 := keep_c kp ik16 (by decide) (by decide)
              refine g_istore_n hF [(3, .int r16), (1, .int r14), (6, .int r9), (5, .int (σ8 3 1)), (4, .int r8), (0, .ref (r 3)), (2, .int x2)] d_X3_parameters_93 rfl hnn (by decide) rfl ?_
              refine g_iinc hF (x2 + 1) [(2, .int (x2 + 1)), (3, .int r16), (1, .int r14), (6, .int r9), (5, .int (σ8 3 1)), (4, .int r8), (0, .ref (r 3))] d_X3_parameters_94 6 rfl rfl hnn (by decide) rfl ?_
              refine g_goto hF 6 d_X3_parameters_97 (by decide) ?_
              exact g_sub (L' := [(0, .ref (r 3)), (1, .int r14), (2, .int (x2 + 1)), (3, .int r16)]) [6, 2, 0, 1] rfl (ih6 _ (N6 ▸ upm_lt c1_9 (by decide)) σ16 r14 (x2 + 1) r16 rfl iσ16 kp hz16 hgp16 (fun h9 => (hgm (hmo7 (hmo8 (mo_e (show σ16 3 3 = σ8 3 3 from ((ik16 3 3 rfl rfl rfl).trans ((ik10 3 3 rfl rfl rfl).trans (ik9 3 3 rfl rfl rfl)))) h9))))))
            · -- not taken at 65
              refine g_iload hF d_X3_parameters_68 1 rfl ?_
              refine g_goto hF 77 d_X3_parameters_70 (by decide) ?_
              refine g_callSN (As := [.ref (r 23), .int x2, .int (σ8 3 1)]) (rest := []) hF (c_set a g r σ10 arC_23 (by decide) x2 (σ8 3 1)) (Nat.le_of_ble_eq_true rfl) mS_X12_set nm_979 rfl rfl (Nat.le_of_ble_eq_true rfl) d_X3_parameters_77 (k_v (fun σ17 ⟨g17, eσ17, hg17⟩ => ?_))
              subst eσ17
              have kp : Keep [(3, 1), (3, 2), (3, 3)] [23] σ0 (upF σ10 23 g17) := keep_F kp (by decide)
              refine g_iload_n hF d_X3_parameters_80 rfl 4 rfl ?_
              refine g_iload hF d_X3_parameters_81 2 rfl ?_
              have j19 : Inv (upF σ10 23 g17) := ⟨iσ10.1, iσ10.2.1, iσ10.2.2.1, iσ10.2.2.2.1, iσ10.2.2.2.2.1, iσ10.2.2.2.2.2.1, iσ10.2.2.2.2.2.2.1, iσ10.2.2.2.2.2.2.2.1, iσ10.2.2.2.2.2.2.2.2.1, iσ10.2.2.2.2.2.2.2.2.2.1, iσ10.2.2.2.2.2.2.2.2.2.2.1, iσ10.2.2.2.2.2.2.2.2.2.2.2.1, iσ10.2.2.2.2.2.2.2.2.2.2.2.2.1, iσ10.2.2.2.2.2.2.2.2.2.2.2.2.2.1, iσ10.2.2.2.2.2.2.2.2.2.2.2.2.2.2.1, iσ10.2.2.2.2.2.2.2.2.2.2.2.2.2.2.2.1, iσ10.2.2.2.2.2.2.2.2.2.2.2.2.2.2.2.2.1, iσ10.2.2.2.2.2.2.2.2.2.2.2.2.2.2.2.2.2.1, iσ10.2.2.2.2.2.2.2.2.2.2.2.2.2.2.2.2.2.2.1, iσ10.2.2.2.2.2.2.2.2.2.2.2.2.2.2.2.2.2.2.2⟩
              refine g_callSN (As := [.int x1, .int r8]) (rest := []) hF (c_X8_withParameter a g r (upF σ10 23 g17) x1 r8 j19) (Nat.le_of_ble_eq_true rfl) mS_X8_withParameter nm_994 rfl rfl (Nat.le_of_ble_eq_true rfl) d_X3_parameters_83 (k_ro (fun r18 => ?_))
              refine g_istore_n hF [(1, .int r18), (6, .int r9), (5, .int (σ8 3 1)), (4, .int r8), (0, .ref (r 3)), (2, .int x2), (3, .int x3)] d_X3_parameters_86 rfl hnn (by decide) rfl ?_
              refine g_aload_n hF d_X3_parameters_87 rfl 4 rfl ?_
              refine g_bipush hF (v := 26) d_X3_parameters_88 (by decide) ?_
              refine g_callV (As := [.int 26]) (rest := []) hF (c_X3_accept a g r (upF σ10 23 g17) (26 : Int32) hgp10 (by show ¬ (26 = 0 ∨ 26 = -1); have e0 : (26 : Int32).toInt = 26 := (by decide); omega) j19) (Nat.le_of_ble_eq_true rfl) mV_X3_accept m_966 (recv_ob obC_3) rfl rfl (Nat.le_of_ble_eq_true rfl) d_X3_parameters_90 (k_i (fun r20 σ20 ⟨hz20, ⟨hgp20, hgm20⟩, iσ20, ik20⟩ => ?_)) (fun _ _ _ h => h.elim)
              have hmo20 : Mo σ20 σ8 := fun h9 => mo_e (show (upF σ10 23 g17) 3 3 = σ8 3 3 from ((ik10 3 3 rfl rfl rfl).trans (ik9 3 3 rfl rfl rfl))) (hgm20 h9)
              have kp : Keep [(3, 1), (3, 2), (3, 3)] [23] σ0 σ20 := keep_c kp ik20 (by decide) (by decide)
              refine g_istore_n hF [(3, .int r20), (1, .int r18), (6, .int r9), (5, .int (σ8 3 1)), (4, .int r8), (0, .ref (r 3)), (2, .int x2)] d_X3_parameters_93 rfl hnn (by decide) rfl ?_
              refine g_iinc hF (x2 + 1) [(2, .int (x2 + 1)), (3, .int r20), (1, .int r18), (6, .int r9), (5, .int (σ8 3 1)), (4, .int r8), (0, .ref (r 3))] d_X3_parameters_94 6 rfl rfl hnn (by decide) rfl ?_
              refine g_goto hF 6 d_X3_parameters_97 (by decide) ?_
              exact g_sub (L' := [(0, .ref (r 3)), (1, .int r18), (2, .int (x2 + 1)), (3, .int r20)]) [6, 2, 0, 1] rfl (ih6 _ (N6 ▸ upm_lt c1_9 (by decide)) σ20 r18 (x2 + 1) r20 rfl iσ20 kp hz20 hgp20 (fun h9 => (hgm (hmo7 (hmo8 (mo_e (show σ20 3 3 = σ8 3 3 from ((ik20 3 3 rfl rfl rfl).trans ((ik10 3 3 rfl rfl rfl).trans (ik9 3 3 rfl rfl rfl)))) h9))))))
          · -- not taken at 46
            refine g_aload_n hF d_X3_parameters_49 rfl 3 rfl ?_
            refine g_bipush hF (v := 25) d_X3_parameters_50 (by decide) ?_
            refine g_callV (As := [.int 25]) (rest := []) hF (c_X3_expect a g r σ10 (25 : Int32) hgp10 (by show ¬ (25 = 0 ∨ 25 = -1); have e0 : (25 : Int32).toInt = 25 := (by decide); omega) iσ10) (Nat.le_of_ble_eq_true rfl) mV_X3_expect m_903 (recv_ob obC_3) rfl rfl (Nat.le_of_ble_eq_true rfl) d_X3_parameters_52 (k_v (fun σ21 ⟨⟨hgp21, hgm21⟩, hs21, iσ21, ik21⟩ => ?_)) (fun _ _ _ h => h.elim)
            have hs21 : (σ21 3 3).toInt < 0 → (σ10 3 2).toInt = 25 := hs21
            have hmo21 : Mo σ21 σ8 := fun h9 => mo_e (show σ10 3 3 = σ8 3 3 from ((ik10 3 3 rfl rfl rfl).trans (ik9 3 3 rfl rfl rfl))) (hgm21 h9)
            have kp : Keep [(3, 1), (3, 2), (3, 3)] [23] σ0 σ21 := keep_c kp ik21 (by decide) (by decide)
            refine g_iinc hF (r8 + 1) [(4, .int (r8 + 1)), (6, .int r9), (5, .int (σ8 3 1)), (0, .ref (r 3)), (1, .int x1), (2, .int x2), (3, .int x3)] d_X3_parameters_55 2 rfl rfl hnn (by decide) rfl ?_
            refine g_aload_n hF d_X3_parameters_58 rfl 3 rfl ?_
            refine g_get (v := .ref (r 23)) hF 11 obC_3 (by decide) m_116 rfl d_X3_parameters_59 ?_
            refine g_iload_n hF d_X3_parameters_62 rfl 5 rfl ?_
            refine g_iload hF d_X3_parameters_63 1 rfl ?_
            refine g_if_eq hF 73 d_X3_parameters_65 (by decide) rfl (fun c22_65 => ?_) (fun c22_65 => ?_)
            · -- taken at 65
              refine g_aload_n hF d_X3_parameters_73 rfl 3 rfl ?_
              refine g_get (v := .int (σ21 3 1)) hF 1 obC_3 (by decide) m_95 rfl d_X3_parameters_74 ?_
              refine g_callSN (As := [.ref (r 23), .int x2, .int (σ21 3 1)]) (rest := []) hF (c_set a g r σ21 arC_23 (by decide) x2 (σ21 3 1)) (Nat.le_of_ble_eq_true rfl) mS_X12_set nm_979 rfl rfl (Nat.le_of_ble_eq_true rfl) d_X3_parameters_77 (k_v (fun σ23 ⟨g23, eσ23, hg23⟩ => ?_))
              subst eσ23
              have kp : Keep [(3, 1), (3, 2), (3, 3)] [23] σ0 (upF σ21 23 g23) := keep_F kp (by decide)
              refine g_iload_n hF d_X3_parameters_80 rfl 4 rfl ?_
              refine g_iload hF d_X3_parameters_81 0 rfl ?_
              have j25 : Inv (upF σ21 23 g23) := ⟨iσ21.1, iσ21.2.1, iσ21.2.2.1, iσ21.2.2.2.1, iσ21.2.2.2.2.1, iσ21.2.2.2.2.2.1, iσ21.2.2.2.2.2.2.1, iσ21.2.2.2.2.2.2.2.1, iσ21.2.2.2.2.2.2.2.2.1, iσ21.2.2.2.2.2.2.2.2.2.1, iσ21.2.2.2.2.2.2.2.2.2.2.1, iσ21.2.2.2.2.2.2.2.2.2.2.2.1, iσ21.2.2.2.2.2.2.2.2.2.2.2.2.1, iσ21.2.2.2.2.2.2.2.2.2.2.2.2.2.1, iσ21.2.2.2.2.2.2.2.2.2.2.2.2.2.2.1, iσ21.2.2.2.2.2.2.2.2.2.2.2.2.2.2.2.1, iσ21.2.2.2.2.2.2.2.2.2.2.2.2.2.2.2.2.1, iσ21.2.2.2.2.2.2.2.2.2.2.2.2.2.2.2.2.2.1, iσ21.2.2.2.2.2.2.2.2.2.2.2.2.2.2.2.2.2.2.1, iσ21.2.2.2.2.2.2.2.2.2.2.2.2.2.2.2.2.2.2.2⟩
              refine g_callSN (As := [.int x1, .int (r8 + 1)]) (rest := []) hF (c_X8_withParameter a g r (upF σ21 23 g23) x1 (r8 + 1) j25) (Nat.le_of_ble_eq_true rfl) mS_X8_withParameter nm_994 rfl rfl (Nat.le_of_ble_eq_true rfl) d_X3_parameters_83 (k_ro (fun r24 => ?_))
              refine g_istore_n hF [(1, .int r24), (4, .int (r8 + 1)), (6, .int r9), (5, .int (σ8 3 1)), (0, .ref (r 3)), (2, .int x2), (3, .int x3)] d_X3_parameters_86 rfl hnn (by decide) rfl ?_
              refine g_aload_n hF d_X3_parameters_87 rfl 4 rfl ?_
              refine g_bipush hF (v := 26) d_X3_parameters_88 (by decide) ?_
              refine g_callV (As := [.int 26]) (rest := []) hF (c_X3_accept a g r (upF σ21 23 g23) (26 : Int32) hgp21 (by show ¬ (26 = 0 ∨ 26 = -1); have e0 : (26 : Int32).toInt = 26 := (by decide); omega) j25) (Nat.le_of_ble_eq_true rfl) mV_X3_accept m_966 (recv_ob obC_3) rfl rfl (Nat.le_of_ble_eq_true rfl) d_X3_parameters_90 (k_i (fun r26 σ26 ⟨hz26, ⟨hgp26, hgm26⟩, iσ26, ik26⟩ => ?_)) (fun _ _ _ h => h.elim)
              have hmo26 : Mo σ26 σ21 := fun h9 => mo_e (show (upF σ21 23 g23) 3 3 = σ21 3 3 from rfl) (hgm26 h9)
              have kp : Keep [(3, 1), (3, 2), (3, 3)] [23] σ0 σ26 := keep_c kp ik26 (by decide) (by decide)
              refine g_istore_n hF [(3, .int r26), (1, .int r24), (4, .int (r8 + 1)), (6, .int r9), (5, .int (σ8 3 1)), (0, .ref (r 3)), (2, .int x2)] d_X3_parameters_93 rfl hnn (by decide) rfl ?_
              refine g_iinc hF (x2 + 1) [(2, .int (x2 + 1)), (3, .int r26), (1, .int r24), (4, .int (r8 + 1)), (6, .int r9), (5, .int (σ8 3 1)), (0, .ref (r 3))] d_X3_parameters_94 6 rfl rfl hnn (by decide) rfl ?_
              refine g_goto hF 6 d_X3_parameters_97 (by decide) ?_
              exact g_sub (L' := [(0, .ref (r 3)), (1, .int r24), (2, .int (x2 + 1)), (3, .int r26)]) [6, 2, 0, 1] rfl (ih6 _ (N6 ▸ upm_lt c1_9 (by decide)) σ26 r24 (x2 + 1) r26 rfl iσ26 kp hz26 hgp26 (fun h9 => (hgm (hmo7 (hmo8 (hmo21 (mo_e (show σ26 3 3 = σ21 3 3 from (ik26 3 3 rfl rfl rfl)) h9)))))))
            · -- not taken at 65
              refine g_iload hF d_X3_parameters_68 2 rfl ?_
              refine g_goto hF 77 d_X3_parameters_70 (by decide) ?_
              refine g_callSN (As := [.ref (r 23), .int x2, .int (σ8 3 1)]) (rest := []) hF (c_set a g r σ21 arC_23 (by decide) x2 (σ8 3 1)) (Nat.le_of_ble_eq_true rfl) mS_X12_set nm_979 rfl rfl (Nat.le_of_ble_eq_true rfl) d_X3_parameters_77 (k_v (fun σ27 ⟨g27, eσ27, hg27⟩ => ?_))
              subst eσ27
              have kp : Keep [(3, 1), (3, 2), (3, 3)] [23] σ0 (upF σ21 23 g27) := keep_F kp (by decide)
              refine g_iload_n hF d_X3_parameters_80 rfl 4 rfl ?_
              refine g_iload hF d_X3_parameters_81 0 rfl ?_
              have j29 : Inv (upF σ21 23 g27) := ⟨iσ21.1, iσ21.2.1, iσ21.2.2.1, iσ21.2.2.2.1, iσ21.2.2.2.2.1, iσ21.2.2.2.2.2.1, iσ21.2.2.2.2.2.2.1, iσ21.2.2.2.2.2.2.2.1, iσ21.2.2.2.2.2.2.2.2.1, iσ21.2.2.2.2.2.2.2.2.2.1, iσ21.2.2.2.2.2.2.2.2.2.2.1, iσ21.2.2.2.2.2.2.2.2.2.2.2.1, iσ21.2.2.2.2.2.2.2.2.2.2.2.2.1, iσ21.2.2.2.2.2.2.2.2.2.2.2.2.2.1, iσ21.2.2.2.2.2.2.2.2.2.2.2.2.2.2.1, iσ21.2.2.2.2.2.2.2.2.2.2.2.2.2.2.2.1, iσ21.2.2.2.2.2.2.2.2.2.2.2.2.2.2.2.2.1, iσ21.2.2.2.2.2.2.2.2.2.2.2.2.2.2.2.2.2.1, iσ21.2.2.2.2.2.2.2.2.2.2.2.2.2.2.2.2.2.2.1, iσ21.2.2.2.2.2.2.2.2.2.2.2.2.2.2.2.2.2.2.2⟩
              refine g_callSN (As := [.int x1, .int (r8 + 1)]) (rest := []) hF (c_X8_withParameter a g r (upF σ21 23 g27) x1 (r8 + 1) j29) (Nat.le_of_ble_eq_true rfl) mS_X8_withParameter nm_994 rfl rfl (Nat.le_of_ble_eq_true rfl) d_X3_parameters_83 (k_ro (fun r28 => ?_))
              refine g_istore_n hF [(1, .int r28), (4, .int (r8 + 1)), (6, .int r9), (5, .int (σ8 3 1)), (0, .ref (r 3)), (2, .int x2), (3, .int x3)] d_X3_parameters_86 rfl hnn (by decide) rfl ?_
              refine g_aload_n hF d_X3_parameters_87 rfl 4 rfl ?_
              refine g_bipush hF (v := 26) d_X3_parameters_88 (by decide) ?_
              refine g_callV (As := [.int 26]) (rest := []) hF (c_X3_accept a g r (upF σ21 23 g27) (26 : Int32) hgp21 (by show ¬ (26 = 0 ∨ 26 = -1); have e0 : (26 : Int32).toInt = 26 := (by decide); omega) j29) (Nat.le_of_ble_eq_true rfl) mV_X3_accept m_966 (recv_ob obC_3) rfl rfl (Nat.le_of_ble_eq_true rfl) d_X3_parameters_90 (k_i (fun r30 σ30 ⟨hz30, ⟨hgp30, hgm30⟩, iσ30, ik30⟩ => ?_)) (fun _ _ _ h => h.elim)
              have hmo30 : Mo σ30 σ21 := fun h9 => mo_e (show (upF σ21 23 g27) 3 3 = σ21 3 3 from rfl) (hgm30 h9)
              have kp : Keep [(3, 1), (3, 2), (3, 3)] [23] σ0 σ30 := keep_c kp ik30 (by decide) (by decide)
              refine g_istore_n hF [(3, .int r30), (1, .int r28), (4, .int (r8 + 1)), (6, .int r9), (5, .int (σ8 3 1)), (0, .ref (r 3)), (2, .int x2)] d_X3_parameters_93 rfl hnn (by decide) rfl ?_
              refine g_iinc hF (x2 + 1) [(2, .int (x2 + 1)), (3, .int r30), (1, .int r28), (4, .int (r8 + 1)), (6, .int r9), (5, .int (σ8 3 1)), (0, .ref (r 3))] d_X3_parameters_94 6 rfl rfl hnn (by decide) rfl ?_
              refine g_goto hF 6 d_X3_parameters_97 (by decide) ?_
              exact g_sub (L' := [(0, .ref (r 3)), (1, .int r28), (2, .int (x2 + 1)), (3, .int r30)]) [6, 2, 0, 1] rfl (ih6 _ (N6 ▸ upm_lt c1_9 (by decide)) σ30 r28 (x2 + 1) r30 rfl iσ30 kp hz30 hgp30 (fun h9 => (hgm (hmo7 (hmo8 (hmo21 (mo_e (show σ30 3 3 = σ21 3 3 from (ik30 3 3 rfl rfl rfl)) h9)))))))
  have kp : Keep [(3, 1), (3, 2), (3, 3)] [23] σ0 σ0 := keep_rf
  refine g_iconst hF (v := 0) d_X3_parameters_0 (by decide) ?_
  refine g_istore_n hF [(1, .int 0), (0, .ref (r 3))] d_X3_parameters_1 rfl hnn (by decide) rfl ?_
  refine g_iconst hF (v := 0) d_X3_parameters_2 (by decide) ?_
  refine g_istore_n hF [(2, .int 0), (1, .int 0), (0, .ref (r 3))] d_X3_parameters_3 rfl hnn (by decide) rfl ?_
  refine g_iconst hF (v := 1) d_X3_parameters_4 (by decide) ?_
  refine g_istore_n hF [(3, .int 1), (2, .int 0), (1, .int 0), (0, .ref (r 3))] d_X3_parameters_5 rfl hnn (by decide) rfl ?_
  exact g_sub (L' := [(0, .ref (r 3)), (1, .int 0), (2, .int 0), (3, .int 1)]) [3, 2, 1, 0] rfl (b6 _ σ0 (0 : Int32) (0 : Int32) (1 : Int32) rfl i0 kp (Or.inr rfl) hgp (fun h9 => (mo_e (show σ0 3 3 = σ0 3 3 from rfl) h9)))
set_option maxHeartbeats 4000000 in
set_option maxRecDepth 100000 in
theorem c_X2_number (a : Nat → Nat) (g : Nat → Nat → Int32) (r : Nat → Nat) (σ0 : St) (a1 : Int32) (i0 : Inv σ0) (l : Launch) (D : va_G) (cy : Nat → ClassId) : Ct l D cy SC r (EC a g) y_X2_number (Cond.code y_X2_number b_X2_number 3 none) 2 [.ref (r 7), .int a1] σ0 Z0 [] (QV (fun σ9 => (Inv σ9 ∧ Keep [(4, 1), (7, 7)] [24] σ0 σ9))) QF := by
  refine Ct_of (EC_ok a g) (by decide) (Nat.le_of_ble_eq_true rfl) (by decide) (fun X hnn hF => ?_)
  show G SC r X σ0 Z0 [] [(0, .ref (r 7)), (1, .int a1)] [] 0
  have kp : Keep [(4, 1), (7, 7)] [24] σ0 σ0 := keep_rf
  refine g_aload_n hF d_X2_number_0 rfl 0 rfl ?_
  refine g_callV (As := []) (rest := []) hF (c_X2_push a g r σ0 i0) (Nat.le_of_ble_eq_true rfl) mV_X2_push m_1063 (recv_ob obC_7) rfl rfl (Nat.le_of_ble_eq_true rfl) d_X2_number_1 (k_a (fun q1 σ1 ⟨hq1, iσ1, ik1⟩ => ?_)) (fun _ _ _ h => h.elim)
  have kp : Keep [(4, 1), (7, 7)] [24] σ0 σ1 := keep_c kp ik1 (by decide) (by decide)
  refine g_astore_n hF [(2, .ref (r q1)), (0, .ref (r 7)), (1, .int a1)] d_X2_number_4 rfl hnn (by decide) rfl ?_
  refine g_aload_n hF d_X2_number_5 rfl 0 rfl ?_
  refine g_iconst hF (v := 1) d_X2_number_6 (by decide) ?_
  refine g_putN hF 6 (obC_op hq1) (by decide) nm_412 rfl rfl (rf_op hq1) d_X2_number_7 ?_
  obtain ⟨σ2, eσ2⟩ : ∃ z, z = upC σ1 q1 6 (1 : Int32) := ⟨_, rfl⟩
  rw [← eσ2]
  have ik2 : Keep [] [] σ1 σ2 := by rw [eσ2]; exact keep_op hq1
  have kp : Keep [(4, 1), (7, 7)] [24] σ0 σ2 := keep_c kp ik2 (by decide) (by decide)
  have iσ2 : Inv σ2 := inv_keep ik2 iσ1
  refine g_aload_n hF d_X2_number_10 rfl 0 rfl ?_
  refine g_aload_n hF d_X2_number_11 rfl 1 rfl ?_
  refine g_get (v := .ref (r 2)) hF 1 obC_7 (by decide) m_457 rfl d_X2_number_12 ?_
  refine g_getN (v := .ref (r 14)) hF 6 obC_2 (by decide) nm_53 rfl d_X2_number_15 ?_
  refine g_iload_n hF d_X2_number_18 rfl 2 rfl ?_
  refine g_callSN (As := [.ref (r 14), .int a1]) (rest := [.ref (r q1)]) hF (c_at a g r σ2 arC_14 (by decide) a1) (Nat.le_of_ble_eq_true rfl) mS_X12_at nm_1058 rfl rfl (Nat.le_of_ble_eq_true rfl) d_X2_number_19 (k_rop (fun r3 hr3 => ?_))
  have hs3 := hr3
  refine g_putN hF 8 (obC_op hq1) (by decide) nm_418 rfl rfl (rf_op hq1) d_X2_number_22 ?_
  obtain ⟨σ4, eσ4⟩ : ∃ z, z = upC σ2 q1 8 r3 := ⟨_, rfl⟩
  rw [← eσ4]
  have ik4 : Keep [] [] σ2 σ4 := by rw [eσ4]; exact keep_op hq1
  have kp : Keep [(4, 1), (7, 7)] [24] σ0 σ4 := keep_c kp ik4 (by decide) (by decide)
  have iσ4 : Inv σ4 := inv_keep ik4 iσ2
  refine g_aload_n hF d_X2_number_25 rfl 0 rfl ?_
  refine g_aload_n hF d_X2_number_26 rfl 0 rfl ?_
  refine g_getN hF 8 (obC_op hq1) (by decide) nm_418 (fval_op hq1) d_X2_number_27 ?_
  refine g_any (fun v5 => ?_)
  refine g_if_ne hF 37 d_X2_number_30 (by decide) rfl (fun c6_30 => ?_) (fun c6_30 => ?_)
  · -- taken at 30
    refine g_iconst hF (v := 0) d_X2_number_37 (by decide) ?_
    refine g_putZN hF 3 (obC_op hq1) (by decide) nm_406 rfl rfl (rf_op hq1) (Or.inl rfl) d_X2_number_38 ?_
    obtain ⟨σ7, eσ7⟩ : ∃ z, z = upC σ4 q1 3 (0 : Int32) := ⟨_, rfl⟩
    rw [← eσ7]
    have ik7 : Keep [] [] σ4 σ7 := by rw [eσ7]; exact keep_op hq1
    have kp : Keep [(4, 1), (7, 7)] [24] σ0 σ7 := keep_c kp ik7 (by decide) (by decide)
    have iσ7 : Inv σ7 := inv_keep ik7 iσ4
    refine g_aload_n hF d_X2_number_41 rfl 1 rfl ?_
    refine g_get (v := .ref (r 4)) hF 4 obC_7 (by decide) m_461 rfl d_X2_number_42 ?_
    refine g_iconst hF (v := 1) d_X2_number_45 (by decide) ?_
    refine g_aload_n hF d_X2_number_46 rfl 0 rfl ?_
    refine g_getN hF 8 (obC_op hq1) (by decide) nm_418 (fval_op hq1) d_X2_number_47 ?_
    refine g_any (fun v8 => ?_)
    refine g_iconst hF (v := 0) d_X2_number_50 (by decide) ?_
    refine g_iconst hF (v := 0) d_X2_number_51 (by decide) ?_
    refine g_callVN (As := [.int 1, .int v8, .int 0, .int 0]) (rest := []) hF (c_X0_emit a g r σ7 (1 : Int32) v8 (0 : Int32) (0 : Int32) iσ7) (Nat.le_of_ble_eq_true rfl) mV_X0_emit nm_1071 (recv_ob obC_4) rfl rfl (Nat.le_of_ble_eq_true rfl) d_X2_number_52 (k_i (fun r9 σ9 ⟨iσ9, ik9⟩ => ?_))
    have kp : Keep [(4, 1), (7, 7)] [24] σ0 σ9 := keep_c kp ik9 (by decide) (by decide)
    refine g_pop hF d_X2_number_55 rfl ?_
    exact g_vret hF rfl d_X2_number_56 ⟨rfl, rfl, rfl, ⟨iσ9, kp⟩⟩
  · -- not taken at 30
    refine g_iconst hF (v := 1) d_X2_number_33 (by decide) ?_
    refine g_goto hF 38 d_X2_number_34 (by decide) ?_
    refine g_putZN hF 3 (obC_op hq1) (by decide) nm_406 rfl rfl (rf_op hq1) (Or.inr rfl) d_X2_number_38 ?_
    obtain ⟨σ10, eσ10⟩ : ∃ z, z = upC σ4 q1 3 (1 : Int32) := ⟨_, rfl⟩
    rw [← eσ10]
    have ik10 : Keep [] [] σ4 σ10 := by rw [eσ10]; exact keep_op hq1
    have kp : Keep [(4, 1), (7, 7)] [24] σ0 σ10 := keep_c kp ik10 (by decide) (by decide)
    have iσ10 : Inv σ10 := inv_keep ik10 iσ4
    refine g_aload_n hF d_X2_number_41 rfl 1 rfl ?_
    refine g_get (v := .ref (r 4)) hF 4 obC_7 (by decide) m_461 rfl d_X2_number_42 ?_
    refine g_iconst hF (v := 1) d_X2_number_45 (by decide) ?_
    refine g_aload_n hF d_X2_number_46 rfl 0 rfl ?_
    refine g_getN hF 8 (obC_op hq1) (by decide) nm_418 (fval_op hq1) d_X2_number_47 ?_
    refine g_any (fun v11 => ?_)
    refine g_iconst hF (v := 0) d_X2_number_50 (by decide) ?_
    refine g_iconst hF (v := 0) d_X2_number_51 (by decide) ?_
    refine g_callVN (As := [.int 1, .int v11, .int 0, .int 0]) (rest := []) hF (c_X0_emit a g r σ10 (1 : Int32) v11 (0 : Int32) (0 : Int32) iσ10) (Nat.le_of_ble_eq_true rfl) mV_X0_emit nm_1071 (recv_ob obC_4) rfl rfl (Nat.le_of_ble_eq_true rfl) d_X2_number_52 (k_i (fun r12 σ12 ⟨iσ12, ik12⟩ => ?_))
    have kp : Keep [(4, 1), (7, 7)] [24] σ0 σ12 := keep_c kp ik12 (by decide) (by decide)
    refine g_pop hF d_X2_number_55 rfl ?_
    exact g_vret hF rfl d_X2_number_56 ⟨rfl, rfl, rfl, ⟨iσ12, kp⟩⟩
set_option maxHeartbeats 4000000 in
set_option maxRecDepth 100000 in
theorem c_X2_pop (a : Nat → Nat) (g : Nat → Nat → Int32) (r : Nat → Nat) (σ0 : St) (i0 : Inv σ0) (l : Launch) (D : va_G) (cy : Nat → ClassId) : Ct l D cy SC r (EC a g) y_X2_pop (Cond.code y_X2_pop b_X2_pop 2 (some (.object "LinkedUnits$Operand"))) 2 [.ref (r 7)] σ0 Z0 [] (QA r (fun q9 σ9 => isOp q9 ∧ (Inv σ9 ∧ Keep [(4, 1), (7, 7)] [24] σ0 σ9))) QF := by
  refine Ct_of (EC_ok a g) (by decide) (Nat.le_of_ble_eq_true rfl) (by decide) (fun X hnn hF => ?_)
  show G SC r X σ0 Z0 [] [(0, .ref (r 7))] [] 0
  have kp : Keep [(4, 1), (7, 7)] [24] σ0 σ0 := keep_rf
  refine g_aload_n hF d_X2_pop_0 rfl 0 rfl ?_
  refine g_aload_n hF d_X2_pop_1 rfl 0 rfl ?_
  refine g_callV (As := []) (rest := [.ref (r 7)]) hF (c_X2_top a g r σ0 i0) (Nat.le_of_ble_eq_true rfl) mV_X2_top m_1160 (recv_ob obC_7) rfl rfl (Nat.le_of_ble_eq_true rfl) d_X2_pop_2 (k_roa (fun q1 hq1 => ?_)) (fun _ _ _ h => h.elim)
  refine g_callV (As := [.ref (r q1)]) (rest := []) hF (c_X2_loaded a g r σ0 q1 hq1 i0) (Nat.le_of_ble_eq_true rfl) mV_X2_loaded m_1164 (recv_ob obC_7) rfl rfl (Nat.le_of_ble_eq_true rfl) d_X2_pop_5 (k_a (fun q2 σ2 ⟨hq2, iσ2, ik2⟩ => ?_)) (fun _ _ _ h => h.elim)
  have kp : Keep [(4, 1), (7, 7)] [24] σ0 σ2 := keep_c kp ik2 (by decide) (by decide)
  refine g_astore_n hF [(1, .ref (r q2)), (0, .ref (r 7))] d_X2_pop_8 rfl hnn (by decide) rfl ?_
  refine g_aload_n hF d_X2_pop_9 rfl 1 rfl ?_
  refine g_dup hF d_X2_pop_10 rfl ?_
  refine g_get (v := .int (σ2 7 7)) hF 7 obC_7 (by decide) m_464 rfl d_X2_pop_11 ?_
  refine g_top (v := (σ0 7 7)) (ik2 7 7 rfl rfl rfl) ?_
  refine g_aload_n hF d_X2_pop_14 rfl 1 rfl ?_
  refine g_get (v := .int (σ2 7 7)) hF 7 obC_7 (by decide) m_464 rfl d_X2_pop_15 ?_
  refine g_top (v := (σ0 7 7)) (ik2 7 7 rfl rfl rfl) ?_
  refine g_if_le hF 25 d_X2_pop_18 (by decide) rfl (fun c3_18 => ?_) (fun c3_18 => ?_)
  · -- taken at 18
    refine g_iconst hF (v := 0) d_X2_pop_25 (by decide) ?_
    refine g_isub hF d_X2_pop_26 ?_
    refine g_put (v := ((σ0 7 7) - 0)) hF 7 obC_7 (by decide) m_464 rfl rfl rfl d_X2_pop_27 ?_
    have kp : Keep [(4, 1), (7, 7)] [24] σ0 (upC σ2 7 7 ((σ0 7 7) - 0)) := keep_f kp (by decide)
    refine g_aload_n hF d_X2_pop_30 rfl 0 rfl ?_
    have j4 : Inv (upC σ2 7 7 ((σ0 7 7) - 0)) := ⟨iσ2.1, iσ2.2.1, iσ2.2.2.1, iσ2.2.2.2.1, iσ2.2.2.2.2.1, iσ2.2.2.2.2.2.1, iσ2.2.2.2.2.2.2.1, iσ2.2.2.2.2.2.2.2.1, iσ2.2.2.2.2.2.2.2.2.1, iσ2.2.2.2.2.2.2.2.2.2.1, iσ2.2.2.2.2.2.2.2.2.2.2.1, iσ2.2.2.2.2.2.2.2.2.2.2.2.1, iσ2.2.2.2.2.2.2.2.2.2.2.2.2.1, iσ2.2.2.2.2.2.2.2.2.2.2.2.2.2.1, iσ2.2.2.2.2.2.2.2.2.2.2.2.2.2.2.1, iσ2.2.2.2.2.2.2.2.2.2.2.2.2.2.2.2.1, iσ2.2.2.2.2.2.2.2.2.2.2.2.2.2.2.2.2.1, iσ2.2.2.2.2.2.2.2.2.2.2.2.2.2.2.2.2.2.1, iσ2.2.2.2.2.2.2.2.2.2.2.2.2.2.2.2.2.2.2.1, iσ2.2.2.2.2.2.2.2.2.2.2.2.2.2.2.2.2.2.2.2⟩
    exact g_aret hF rfl d_X2_pop_31 ⟨rfl, rfl, q2, rfl, hq2, ⟨j4, kp⟩⟩
  · -- not taken at 18
    refine g_iconst hF (v := 1) d_X2_pop_21 (by decide) ?_
    refine g_goto hF 26 d_X2_pop_22 (by decide) ?_
    refine g_isub hF d_X2_pop_26 ?_
    refine g_put (v := ((σ0 7 7) - 1)) hF 7 obC_7 (by decide) m_464 rfl rfl rfl d_X2_pop_27 ?_
    have kp : Keep [(4, 1), (7, 7)] [24] σ0 (upC σ2 7 7 ((σ0 7 7) - 1)) := keep_f kp (by decide)
    refine g_aload_n hF d_X2_pop_30 rfl 0 rfl ?_
    have j5 : Inv (upC σ2 7 7 ((σ0 7 7) - 1)) := ⟨iσ2.1, iσ2.2.1, iσ2.2.2.1, iσ2.2.2.2.1, iσ2.2.2.2.2.1, iσ2.2.2.2.2.2.1, iσ2.2.2.2.2.2.2.1, iσ2.2.2.2.2.2.2.2.1, iσ2.2.2.2.2.2.2.2.2.1, iσ2.2.2.2.2.2.2.2.2.2.1, iσ2.2.2.2.2.2.2.2.2.2.2.1, iσ2.2.2.2.2.2.2.2.2.2.2.2.1, iσ2.2.2.2.2.2.2.2.2.2.2.2.2.1, iσ2.2.2.2.2.2.2.2.2.2.2.2.2.2.1, iσ2.2.2.2.2.2.2.2.2.2.2.2.2.2.2.1, iσ2.2.2.2.2.2.2.2.2.2.2.2.2.2.2.2.1, iσ2.2.2.2.2.2.2.2.2.2.2.2.2.2.2.2.2.1, iσ2.2.2.2.2.2.2.2.2.2.2.2.2.2.2.2.2.2.1, iσ2.2.2.2.2.2.2.2.2.2.2.2.2.2.2.2.2.2.2.1, iσ2.2.2.2.2.2.2.2.2.2.2.2.2.2.2.2.2.2.2.2⟩
    exact g_aret hF rfl d_X2_pop_31 ⟨rfl, rfl, q2, rfl, hq2, ⟨j5, kp⟩⟩
set_option maxHeartbeats 4000000 in
set_option maxRecDepth 100000 in
theorem c_X7_condition (a : Nat → Nat) (g : Nat → Nat → Int32) (r : Nat → Nat) (σ0 : St) (a1 : Int32) (i0 : Inv σ0) (l : Launch) (D : va_G) (cy : Nat → ClassId) : Ct l D cy SC r (EC a g) y_X7_condition (Cond.code y_X7_condition b_X7_condition 3 (some (.object "LinkedUnits$Operand"))) 3 [.ref (r 9), .int a1] σ0 Z0 [] (QA r (fun q9 σ9 => isOp q9 ∧ (Inv σ9 ∧ Keep [(4, 1), (6, 3), (6, 4), (7, 7)] [24] σ0 σ9))) QF := by
  refine Ct_of (EC_ok a g) (by decide) (Nat.le_of_ble_eq_true rfl) (by decide) (fun X hnn hF => ?_)
  show G SC r X σ0 Z0 [] [(0, .ref (r 9)), (1, .int a1)] [] 0
  have kp : Keep [(4, 1), (6, 3), (6, 4), (7, 7)] [24] σ0 σ0 := keep_rf
  refine g_aload_n hF d_X7_condition_0 rfl 0 rfl ?_
  refine g_get (v := .ref (r 7)) hF 3 obC_9 (by decide) m_556 rfl d_X7_condition_1 ?_
  refine g_callVN (As := []) (rest := []) hF (c_X2_pop a g r σ0 i0) (Nat.le_of_ble_eq_true rfl) mV_X2_pop nm_1297 (recv_ob obC_7) rfl rfl (Nat.le_of_ble_eq_true rfl) d_X7_condition_4 (k_a (fun q1 σ1 ⟨hq1, iσ1, ik1⟩ => ?_))
  have kp : Keep [(4, 1), (6, 3), (6, 4), (7, 7)] [24] σ0 σ1 := keep_c kp ik1 (by decide) (by decide)
  refine g_astore_n hF [(2, .ref (r q1)), (0, .ref (r 9)), (1, .int a1)] d_X7_condition_7 rfl hnn (by decide) rfl ?_
  refine g_aload_n hF d_X7_condition_8 rfl 0 rfl ?_
  refine g_getN hF 1 (obC_op hq1) (by decide) nm_401 (fval_op hq1) d_X7_condition_9 ?_
  refine g_any (fun v2 => ?_)
  refine g_iconst hF (v := (-1)) d_X7_condition_12 (by decide) ?_
  refine g_icmp_ne (yv := -1) hF 25 d_X7_condition_13 (by decide) rfl (by decide) (fun c3_13 => ?_) (fun c3_13 => ?_)
  · -- taken at 13
    refine g_aload_n hF d_X7_condition_25 rfl 0 rfl ?_
    exact g_aret hF rfl d_X7_condition_26 ⟨rfl, rfl, q1, rfl, hq1, ⟨iσ1, kp⟩⟩
  · -- not taken at 13
    refine g_aload_n hF d_X7_condition_16 rfl 1 rfl ?_
    refine g_get (v := .ref (r 6)) hF 1 obC_9 (by decide) m_554 rfl d_X7_condition_17 ?_
    refine g_iconst hF (v := 2) d_X7_condition_20 (by decide) ?_
    refine g_iload_n hF d_X7_condition_21 rfl 2 rfl ?_
    refine g_callVN (As := [.int 2, .int a1]) (rest := []) hF (c_X11_fail a g r σ1 (2 : Int32) a1 iσ1) (Nat.le_of_ble_eq_true rfl) mV_X11_fail nm_1307 (recv_ob obC_6) rfl rfl (Nat.le_of_ble_eq_true rfl) d_X7_condition_22 (k_v (fun σ4 ⟨iσ4, ik4⟩ => ?_))
    have kp : Keep [(4, 1), (6, 3), (6, 4), (7, 7)] [24] σ0 σ4 := keep_c kp ik4 (by decide) (by decide)
    refine g_aload_n hF d_X7_condition_25 rfl 0 rfl ?_
    exact g_aret hF rfl d_X7_condition_26 ⟨rfl, rfl, q1, rfl, hq1, ⟨iσ4, kp⟩⟩
set_option maxHeartbeats 4000000 in
set_option maxRecDepth 100000 in
theorem c_X7_giveBack (a : Nat → Nat) (g : Nat → Nat → Int32) (r : Nat → Nat) (σ0 : St) (a1 : Int32) (a2 : Int32) (i0 : Inv σ0) (z_a2 : a2 = 0 ∨ a2 = 1) (l : Launch) (D : va_G) (cy : Nat → ClassId) : Ct l D cy SC r (EC a g) y_X7_giveBack (Cond.code y_X7_giveBack b_X7_giveBack 5 none) 3 [.ref (r 9), .int a1, .int a2] σ0 Z0 [] (QV (fun σ9 => (Inv σ9 ∧ Keep [(4, 1), (6, 3), (6, 4), (7, 7)] [24] σ0 σ9))) QF := by
  refine Ct_of (EC_ok a g) (by decide) (Nat.le_of_ble_eq_true rfl) (by decide) (fun X hnn hF => ?_)
  show G SC r X σ0 Z0 [] [(0, .ref (r 9)), (1, .int a1), (2, .int a2)] [] 0
  have kp : Keep [(4, 1), (6, 3), (6, 4), (7, 7)] [24] σ0 σ0 := keep_rf
  refine g_aload_n hF d_X7_giveBack_0 rfl 0 rfl ?_
  refine g_get (v := .ref (r 6)) hF 1 obC_9 (by decide) m_554 rfl d_X7_giveBack_1 ?_
  refine g_getN (v := .ref (r 5)) hF 1 obC_6 (by decide) nm_310 rfl d_X7_giveBack_4 ?_
  refine g_getN (v := .ref (r 26)) hF 3 obC_5 (by decide) nm_228 rfl d_X7_giveBack_7 ?_
  refine g_aload_n hF d_X7_giveBack_10 rfl 0 rfl ?_
  refine g_get (v := .ref (r 6)) hF 1 obC_9 (by decide) m_554 rfl d_X7_giveBack_11 ?_
  refine g_getN (v := .int (σ0 6 6)) hF 6 obC_6 (by decide) nm_326 rfl d_X7_giveBack_14 ?_
  refine g_callSN (As := [.ref (r 26), .int (σ0 6 6)]) (rest := []) hF (c_at a g r σ0 arC_26 (by decide) (σ0 6 6)) (Nat.le_of_ble_eq_true rfl) mS_X12_at nm_1053 rfl rfl (Nat.le_of_ble_eq_true rfl) d_X7_giveBack_17 (k_rop (fun r1 hr1 => ?_))
  refine g_istore_n hF [(3, .int r1), (0, .ref (r 9)), (1, .int a1), (2, .int a2)] d_X7_giveBack_20 rfl hnn (by decide) rfl ?_
  refine g_iload_n hF d_X7_giveBack_21 rfl 0 rfl ?_
  refine g_iconst hF (v := (-1)) d_X7_giveBack_22 (by decide) ?_
  refine g_icmp_ne (yv := -1) hF 30 d_X7_giveBack_23 (by decide) rfl (by decide) (fun c2_23 => ?_) (fun c2_23 => ?_)
  · -- taken at 23
    refine g_iconst hF (v := 0) d_X7_giveBack_30 (by decide) ?_
    refine g_istore hF [(4, .int 0), (3, .int r1), (0, .ref (r 9)), (1, .int a1), (2, .int a2)] d_X7_giveBack_31 hnn (by decide) rfl ?_
    refine g_iload_n hF d_X7_giveBack_33 rfl 4 rfl ?_
    refine g_if_eq hF 53 d_X7_giveBack_34 (by decide) rfl (fun c3_34 => ?_) (fun c3_34 => ?_)
    · -- taken at 34
      refine g_aload_n hF d_X7_giveBack_53 rfl 2 rfl ?_
      refine g_get (v := .ref (r 4)) hF 2 obC_9 (by decide) m_555 rfl d_X7_giveBack_54 ?_
      refine g_iconst hF (v := 1) d_X7_giveBack_57 (by decide) ?_
      refine g_iconst hF (v := 0) d_X7_giveBack_58 (by decide) ?_
      refine g_iconst hF (v := 0) d_X7_giveBack_59 (by decide) ?_
      refine g_iconst hF (v := 0) d_X7_giveBack_60 (by decide) ?_
      refine g_callVN (As := [.int 1, .int 0, .int 0, .int 0]) (rest := []) hF (c_X0_emit a g r σ0 (1 : Int32) (0 : Int32) (0 : Int32) (0 : Int32) i0) (Nat.le_of_ble_eq_true rfl) mV_X0_emit nm_1298 (recv_ob obC_4) rfl rfl (Nat.le_of_ble_eq_true rfl) d_X7_giveBack_61 (k_i (fun r4 σ4 ⟨iσ4, ik4⟩ => ?_))
      have kp : Keep [(4, 1), (6, 3), (6, 4), (7, 7)] [24] σ0 σ4 := keep_c kp ik4 (by decide) (by decide)
      refine g_pop hF d_X7_giveBack_64 rfl ?_
      refine g_aload_n hF d_X7_giveBack_65 rfl 2 rfl ?_
      refine g_get (v := .ref (r 4)) hF 2 obC_9 (by decide) m_555 rfl d_X7_giveBack_66 ?_
      refine g_bipush hF (v := 33) d_X7_giveBack_69 (by decide) ?_
      refine g_iconst hF (v := 0) d_X7_giveBack_71 (by decide) ?_
      refine g_iconst hF (v := 0) d_X7_giveBack_72 (by decide) ?_
      refine g_iconst hF (v := 0) d_X7_giveBack_73 (by decide) ?_
      refine g_callVN (As := [.int 33, .int 0, .int 0, .int 0]) (rest := []) hF (c_X0_emit a g r σ4 (33 : Int32) (0 : Int32) (0 : Int32) (0 : Int32) iσ4) (Nat.le_of_ble_eq_true rfl) mV_X0_emit nm_1298 (recv_ob obC_4) rfl rfl (Nat.le_of_ble_eq_true rfl) d_X7_giveBack_74 (k_i (fun r5 σ5 ⟨iσ5, ik5⟩ => ?_))
      have kp : Keep [(4, 1), (6, 3), (6, 4), (7, 7)] [24] σ0 σ5 := keep_c kp ik5 (by decide) (by decide)
      refine g_pop hF d_X7_giveBack_77 rfl ?_
      refine g_iload hF d_X7_giveBack_78 0 rfl ?_
      refine g_if_ne (xv := 0) hF 92 d_X7_giveBack_80 (by decide) (by decide) (fun c_80 => absurd c_80 (by decide)) (fun _ => ?_)
      refine g_aload_n hF d_X7_giveBack_83 rfl 2 rfl ?_
      refine g_get (v := .ref (r 6)) hF 1 obC_9 (by decide) m_554 rfl d_X7_giveBack_84 ?_
      refine g_iconst hF (v := 2) d_X7_giveBack_87 (by decide) ?_
      refine g_iload_n hF d_X7_giveBack_88 rfl 3 rfl ?_
      refine g_callVN (As := [.int 2, .int a1]) (rest := []) hF (c_X11_fail a g r σ5 (2 : Int32) a1 iσ5) (Nat.le_of_ble_eq_true rfl) mV_X11_fail nm_1307 (recv_ob obC_6) rfl rfl (Nat.le_of_ble_eq_true rfl) d_X7_giveBack_89 (k_v (fun σ6 ⟨iσ6, ik6⟩ => ?_))
      have kp : Keep [(4, 1), (6, 3), (6, 4), (7, 7)] [24] σ0 σ6 := keep_c kp ik6 (by decide) (by decide)
      exact g_vret hF rfl d_X7_giveBack_92 ⟨rfl, rfl, rfl, ⟨iσ6, kp⟩⟩
    · -- not taken at 34
      refine g_aload_n hF d_X7_giveBack_37 rfl 2 rfl ?_
      refine g_get (v := .ref (r 7)) hF 3 obC_9 (by decide) m_556 rfl d_X7_giveBack_38 ?_
      refine g_callVN (As := []) (rest := []) hF (c_X2_pop a g r σ0 i0) (Nat.le_of_ble_eq_true rfl) mV_X2_pop nm_1297 (recv_ob obC_7) rfl rfl (Nat.le_of_ble_eq_true rfl) d_X7_giveBack_41 (k_a (fun q7 σ7 ⟨hq7, iσ7, ik7⟩ => ?_))
      have kp : Keep [(4, 1), (6, 3), (6, 4), (7, 7)] [24] σ0 σ7 := keep_c kp ik7 (by decide) (by decide)
      refine g_iload_n hF d_X7_giveBack_44 rfl 1 rfl ?_
      refine g_callVN (As := [.int r1]) (rest := []) hF (c_X6_fits a g r σ7 r1 q7 hq7 iσ7) (Nat.le_of_ble_eq_true rfl) mV_X6_fits nm_1331 (recv_ob (obC_op hq7)) rfl rfl (Nat.le_of_ble_eq_true rfl) d_X7_giveBack_45 (k_roz (fun r8 hz8 => ?_))
      refine g_istore hF [(4, .int r8), (3, .int r1), (0, .ref (r 9)), (1, .int a1), (2, .int a2)] d_X7_giveBack_48 hnn (by decide) rfl ?_
      refine g_goto hF 65 d_X7_giveBack_50 (by decide) ?_
      refine g_aload_n hF d_X7_giveBack_65 rfl 2 rfl ?_
      refine g_get (v := .ref (r 4)) hF 2 obC_9 (by decide) m_555 rfl d_X7_giveBack_66 ?_
      refine g_bipush hF (v := 33) d_X7_giveBack_69 (by decide) ?_
      refine g_iconst hF (v := 0) d_X7_giveBack_71 (by decide) ?_
      refine g_iconst hF (v := 0) d_X7_giveBack_72 (by decide) ?_
      refine g_iconst hF (v := 0) d_X7_giveBack_73 (by decide) ?_
      refine g_callVN (As := [.int 33, .int 0, .int 0, .int 0]) (rest := []) hF (c_X0_emit a g r σ7 (33 : Int32) (0 : Int32) (0 : Int32) (0 : Int32) iσ7) (Nat.le_of_ble_eq_true rfl) mV_X0_emit nm_1298 (recv_ob obC_4) rfl rfl (Nat.le_of_ble_eq_true rfl) d_X7_giveBack_74 (k_i (fun r9 σ9 ⟨iσ9, ik9⟩ => ?_))
      have kp : Keep [(4, 1), (6, 3), (6, 4), (7, 7)] [24] σ0 σ9 := keep_c kp ik9 (by decide) (by decide)
      refine g_pop hF d_X7_giveBack_77 rfl ?_
      refine g_iload hF d_X7_giveBack_78 0 rfl ?_
      refine g_if_ne hF 92 d_X7_giveBack_80 (by decide) rfl (fun c10_80 => ?_) (fun c10_80 => ?_)
      · -- taken at 80
        exact g_vret hF rfl d_X7_giveBack_92 ⟨rfl, rfl, rfl, ⟨iσ9, kp⟩⟩
      · -- not taken at 80
        refine g_aload_n hF d_X7_giveBack_83 rfl 2 rfl ?_
        refine g_get (v := .ref (r 6)) hF 1 obC_9 (by decide) m_554 rfl d_X7_giveBack_84 ?_
        refine g_iconst hF (v := 2) d_X7_giveBack_87 (by decide) ?_
        refine g_iload_n hF d_X7_giveBack_88 rfl 3 rfl ?_
        refine g_callVN (As := [.int 2, .int a1]) (rest := []) hF (c_X11_fail a g r σ9 (2 : Int32) a1 iσ9) (Nat.le_of_ble_eq_true rfl) mV_X11_fail nm_1307 (recv_ob obC_6) rfl rfl (Nat.le_of_ble_eq_true rfl) d_X7_giveBack_89 (k_v (fun σ11 ⟨iσ11, ik11⟩ => ?_))
        have kp : Keep [(4, 1), (6, 3), (6, 4), (7, 7)] [24] σ0 σ11 := keep_c kp ik11 (by decide) (by decide)
        exact g_vret hF rfl d_X7_giveBack_92 ⟨rfl, rfl, rfl, ⟨iσ11, kp⟩⟩
  · -- not taken at 23
    refine g_iconst hF (v := 1) d_X7_giveBack_26 (by decide) ?_
    refine g_goto hF 31 d_X7_giveBack_27 (by decide) ?_
    refine g_istore hF [(4, .int 1), (3, .int r1), (0, .ref (r 9)), (1, .int a1), (2, .int a2)] d_X7_giveBack_31 hnn (by decide) rfl ?_
    refine g_iload_n hF d_X7_giveBack_33 rfl 4 rfl ?_
    refine g_if_eq hF 53 d_X7_giveBack_34 (by decide) rfl (fun c12_34 => ?_) (fun c12_34 => ?_)
    · -- taken at 34
      refine g_aload_n hF d_X7_giveBack_53 rfl 2 rfl ?_
      refine g_get (v := .ref (r 4)) hF 2 obC_9 (by decide) m_555 rfl d_X7_giveBack_54 ?_
      refine g_iconst hF (v := 1) d_X7_giveBack_57 (by decide) ?_
      refine g_iconst hF (v := 0) d_X7_giveBack_58 (by decide) ?_
      refine g_iconst hF (v := 0) d_X7_giveBack_59 (by decide) ?_
      refine g_iconst hF (v := 0) d_X7_giveBack_60 (by decide) ?_
      refine g_callVN (As := [.int 1, .int 0, .int 0, .int 0]) (rest := []) hF (c_X0_emit a g r σ0 (1 : Int32) (0 : Int32) (0 : Int32) (0 : Int32) i0) (Nat.le_of_ble_eq_true rfl) mV_X0_emit nm_1298 (recv_ob obC_4) rfl rfl (Nat.le_of_ble_eq_true rfl) d_X7_giveBack_61 (k_i (fun r13 σ13 ⟨iσ13, ik13⟩ => ?_))
      have kp : Keep [(4, 1), (6, 3), (6, 4), (7, 7)] [24] σ0 σ13 := keep_c kp ik13 (by decide) (by decide)
      refine g_pop hF d_X7_giveBack_64 rfl ?_
      refine g_aload_n hF d_X7_giveBack_65 rfl 2 rfl ?_
      refine g_get (v := .ref (r 4)) hF 2 obC_9 (by decide) m_555 rfl d_X7_giveBack_66 ?_
      refine g_bipush hF (v := 33) d_X7_giveBack_69 (by decide) ?_
      refine g_iconst hF (v := 0) d_X7_giveBack_71 (by decide) ?_
      refine g_iconst hF (v := 0) d_X7_giveBack_72 (by decide) ?_
      refine g_iconst hF (v := 0) d_X7_giveBack_73 (by decide) ?_
      refine g_callVN (As := [.int 33, .int 0, .int 0, .int 0]) (rest := []) hF (c_X0_emit a g r σ13 (33 : Int32) (0 : Int32) (0 : Int32) (0 : Int32) iσ13) (Nat.le_of_ble_eq_true rfl) mV_X0_emit nm_1298 (recv_ob obC_4) rfl rfl (Nat.le_of_ble_eq_true rfl) d_X7_giveBack_74 (k_i (fun r14 σ14 ⟨iσ14, ik14⟩ => ?_))
      have kp : Keep [(4, 1), (6, 3), (6, 4), (7, 7)] [24] σ0 σ14 := keep_c kp ik14 (by decide) (by decide)
      refine g_pop hF d_X7_giveBack_77 rfl ?_
      refine g_iload hF d_X7_giveBack_78 0 rfl ?_
      refine g_if_ne (xv := 1) hF 92 d_X7_giveBack_80 (by decide) (by decide) (fun _ => ?_) (fun c_80 => absurd c_80 (by decide))
      exact g_vret hF rfl d_X7_giveBack_92 ⟨rfl, rfl, rfl, ⟨iσ14, kp⟩⟩
    · -- not taken at 34
      refine g_aload_n hF d_X7_giveBack_37 rfl 2 rfl ?_
      refine g_get (v := .ref (r 7)) hF 3 obC_9 (by decide) m_556 rfl d_X7_giveBack_38 ?_
      refine g_callVN (As := []) (rest := []) hF (c_X2_pop a g r σ0 i0) (Nat.le_of_ble_eq_true rfl) mV_X2_pop nm_1297 (recv_ob obC_7) rfl rfl (Nat.le_of_ble_eq_true rfl) d_X7_giveBack_41 (k_a (fun q15 σ15 ⟨hq15, iσ15, ik15⟩ => ?_))
      have kp : Keep [(4, 1), (6, 3), (6, 4), (7, 7)] [24] σ0 σ15 := keep_c kp ik15 (by decide) (by decide)
      refine g_iload_n hF d_X7_giveBack_44 rfl 1 rfl ?_
      refine g_callVN (As := [.int r1]) (rest := []) hF (c_X6_fits a g r σ15 r1 q15 hq15 iσ15) (Nat.le_of_ble_eq_true rfl) mV_X6_fits nm_1331 (recv_ob (obC_op hq15)) rfl rfl (Nat.le_of_ble_eq_true rfl) d_X7_giveBack_45 (k_roz (fun r16 hz16 => ?_))
      refine g_istore hF [(4, .int r16), (3, .int r1), (0, .ref (r 9)), (1, .int a1), (2, .int a2)] d_X7_giveBack_48 hnn (by decide) rfl ?_
      refine g_goto hF 65 d_X7_giveBack_50 (by decide) ?_
      refine g_aload_n hF d_X7_giveBack_65 rfl 2 rfl ?_
      refine g_get (v := .ref (r 4)) hF 2 obC_9 (by decide) m_555 rfl d_X7_giveBack_66 ?_
      refine g_bipush hF (v := 33) d_X7_giveBack_69 (by decide) ?_
      refine g_iconst hF (v := 0) d_X7_giveBack_71 (by decide) ?_
      refine g_iconst hF (v := 0) d_X7_giveBack_72 (by decide) ?_
      refine g_iconst hF (v := 0) d_X7_giveBack_73 (by decide) ?_
      refine g_callVN (As := [.int 33, .int 0, .int 0, .int 0]) (rest := []) hF (c_X0_emit a g r σ15 (33 : Int32) (0 : Int32) (0 : Int32) (0 : Int32) iσ15) (Nat.le_of_ble_eq_true rfl) mV_X0_emit nm_1298 (recv_ob obC_4) rfl rfl (Nat.le_of_ble_eq_true rfl) d_X7_giveBack_74 (k_i (fun r17 σ17 ⟨iσ17, ik17⟩ => ?_))
      have kp : Keep [(4, 1), (6, 3), (6, 4), (7, 7)] [24] σ0 σ17 := keep_c kp ik17 (by decide) (by decide)
      refine g_pop hF d_X7_giveBack_77 rfl ?_
      refine g_iload hF d_X7_giveBack_78 0 rfl ?_
      refine g_if_ne hF 92 d_X7_giveBack_80 (by decide) rfl (fun c18_80 => ?_) (fun c18_80 => ?_)
      · -- taken at 80
        exact g_vret hF rfl d_X7_giveBack_92 ⟨rfl, rfl, rfl, ⟨iσ17, kp⟩⟩
      · -- not taken at 80
        refine g_aload_n hF d_X7_giveBack_83 rfl 2 rfl ?_
        refine g_get (v := .ref (r 6)) hF 1 obC_9 (by decide) m_554 rfl d_X7_giveBack_84 ?_
        refine g_iconst hF (v := 2) d_X7_giveBack_87 (by decide) ?_
        refine g_iload_n hF d_X7_giveBack_88 rfl 3 rfl ?_
        refine g_callVN (As := [.int 2, .int a1]) (rest := []) hF (c_X11_fail a g r σ17 (2 : Int32) a1 iσ17) (Nat.le_of_ble_eq_true rfl) mV_X11_fail nm_1307 (recv_ob obC_6) rfl rfl (Nat.le_of_ble_eq_true rfl) d_X7_giveBack_89 (k_v (fun σ19 ⟨iσ19, ik19⟩ => ?_))
        have kp : Keep [(4, 1), (6, 3), (6, 4), (7, 7)] [24] σ0 σ19 := keep_c kp ik19 (by decide) (by decide)
        exact g_vret hF rfl d_X7_giveBack_92 ⟨rfl, rfl, rfl, ⟨iσ19, kp⟩⟩
set_option maxHeartbeats 4000000 in
set_option maxRecDepth 100000 in
theorem c_X7_doLoop (a : Nat → Nat) (g : Nat → Nat → Int32) (r : Nat → Nat) (σ0 : St) (a1 : Int32) (a2 : Int32) (i0 : Inv σ0) (l : Launch) (D : va_G) (cy : Nat → ClassId) : Ct l D cy SC r (EC a g) y_X7_doLoop (Cond.code y_X7_doLoop b_X7_doLoop 3 none) 4 [.ref (r 9), .int a1, .int a2] σ0 Z0 [] (QV (fun σ9 => (Inv σ9 ∧ Keep [(4, 1), (6, 3), (6, 4), (7, 7), (9, 5)] [24, 49, 50, 51, 52] σ0 σ9))) QF := by
  refine Ct_of (EC_ok a g) (by decide) (Nat.le_of_ble_eq_true rfl) (by decide) (fun X hnn hF => ?_)
  show G SC r X σ0 Z0 [] [(0, .ref (r 9)), (1, .int a1), (2, .int a2)] [] 0
  have kp : Keep [(4, 1), (6, 3), (6, 4), (7, 7), (9, 5)] [24, 49, 50, 51, 52] σ0 σ0 := keep_rf
  refine g_iload_n hF d_X7_doLoop_0 rfl 1 rfl ?_
  refine g_bipush hF (v := 29) d_X7_doLoop_1 (by decide) ?_
  refine g_icmp_ne (yv := 29) hF 19 d_X7_doLoop_3 (by decide) rfl (by decide) (fun c1_3 => ?_) (fun c1_3 => ?_)
  · -- taken at 3
    refine g_iload_n hF d_X7_doLoop_19 rfl 1 rfl ?_
    refine g_bipush hF (v := 30) d_X7_doLoop_20 (by decide) ?_
    refine g_icmp_ne (yv := 30) hF 55 d_X7_doLoop_22 (by decide) rfl (by decide) (fun c2_22 => ?_) (fun c2_22 => ?_)
    · -- taken at 22
      refine g_aload_n hF d_X7_doLoop_55 rfl 0 rfl ?_
      refine g_iload_n hF d_X7_doLoop_56 rfl 2 rfl ?_
      refine g_callV (As := [.int a2]) (rest := []) hF (c_X7_condition a g r σ0 a2 i0) (Nat.le_of_ble_eq_true rfl) mV_X7_condition m_1303 (recv_ob obC_9) rfl rfl (Nat.le_of_ble_eq_true rfl) d_X7_doLoop_57 (k_a (fun q3 σ3 ⟨hq3, iσ3, ik3⟩ => ?_)) (fun _ _ _ h => h.elim)
      have kp : Keep [(4, 1), (6, 3), (6, 4), (7, 7), (9, 5)] [24, 49, 50, 51, 52] σ0 σ3 := keep_c kp ik3 (by decide) (by decide)
      refine g_pop hF d_X7_doLoop_60 rfl ?_
      refine g_aload_n hF d_X7_doLoop_61 rfl 0 rfl ?_
      refine g_get (v := .ref (r 4)) hF 2 obC_9 (by decide) m_555 rfl d_X7_doLoop_62 ?_
      refine g_bipush hF (v := 28) d_X7_doLoop_65 (by decide) ?_
      refine g_aload_n hF d_X7_doLoop_67 rfl 0 rfl ?_
      refine g_get (v := .ref (r 50)) hF 7 obC_9 (by decide) m_560 rfl d_X7_doLoop_68 ?_
      refine g_aload_n hF d_X7_doLoop_71 rfl 0 rfl ?_
      refine g_get (v := .int (σ3 9 5)) hF 5 obC_9 (by decide) m_558 rfl d_X7_doLoop_72 ?_
      refine g_top (v := (σ0 9 5)) (ik3 9 5 rfl rfl rfl) ?_
      refine g_iconst hF (v := 1) d_X7_doLoop_75 (by decide) ?_
      refine g_isub hF d_X7_doLoop_76 ?_
      refine g_callSN (As := [.ref (r 50), .int ((σ0 9 5) - 1)]) (rest := [.int 28, .ref (r 4)]) hF (c_at a g r σ3 arC_50 (by decide) ((σ0 9 5) - 1)) (Nat.le_of_ble_eq_true rfl) mS_X12_at nm_1053 rfl rfl (Nat.le_of_ble_eq_true rfl) d_X7_doLoop_77 (k_rop (fun r4 hr4 => ?_))
      refine g_iconst hF (v := 0) d_X7_doLoop_80 (by decide) ?_
      refine g_iconst hF (v := 0) d_X7_doLoop_81 (by decide) ?_
      refine g_callVN (As := [.int 28, .int r4, .int 0, .int 0]) (rest := []) hF (c_X0_emit a g r σ3 (28 : Int32) r4 (0 : Int32) (0 : Int32) iσ3) (Nat.le_of_ble_eq_true rfl) mV_X0_emit nm_1298 (recv_ob obC_4) rfl rfl (Nat.le_of_ble_eq_true rfl) d_X7_doLoop_82 (k_i (fun r5 σ5 ⟨iσ5, ik5⟩ => ?_))
      have kp : Keep [(4, 1), (6, 3), (6, 4), (7, 7), (9, 5)] [24, 49, 50, 51, 52] σ0 σ5 := keep_c kp ik5 (by decide) (by decide)
      refine g_pop hF d_X7_doLoop_85 rfl ?_
      refine g_aload_n hF d_X7_doLoop_86 rfl 0 rfl ?_
      refine g_callV (As := []) (rest := []) hF (c_X7_finish a g r σ5 iσ5) (Nat.le_of_ble_eq_true rfl) mV_X7_finish m_1319 (recv_ob obC_9) rfl rfl (Nat.le_of_ble_eq_true rfl) d_X7_doLoop_87 (k_v (fun σ6 ⟨iσ6, ik6⟩ => ?_)) (fun _ _ _ h => h.elim)
      have kp : Keep [(4, 1), (6, 3), (6, 4), (7, 7), (9, 5)] [24, 49, 50, 51, 52] σ0 σ6 := keep_c kp ik6 (by decide) (by decide)
      exact g_vret hF rfl d_X7_doLoop_90 ⟨rfl, rfl, rfl, ⟨iσ6, kp⟩⟩
    · -- not taken at 22
      refine g_aload_n hF d_X7_doLoop_25 rfl 0 rfl ?_
      refine g_get (v := .ref (r 4)) hF 2 obC_9 (by decide) m_555 rfl d_X7_doLoop_26 ?_
      refine g_aload_n hF d_X7_doLoop_29 rfl 0 rfl ?_
      refine g_get (v := .ref (r 52)) hF 9 obC_9 (by decide) m_562 rfl d_X7_doLoop_30 ?_
      refine g_aload_n hF d_X7_doLoop_33 rfl 0 rfl ?_
      refine g_get (v := .int (σ0 9 5)) hF 5 obC_9 (by decide) m_558 rfl d_X7_doLoop_34 ?_
      refine g_iconst hF (v := 1) d_X7_doLoop_37 (by decide) ?_
      refine g_isub hF d_X7_doLoop_38 ?_
      refine g_callSN (As := [.ref (r 52), .int ((σ0 9 5) - 1)]) (rest := [.ref (r 4)]) hF (c_at a g r σ0 arC_52 (by decide) ((σ0 9 5) - 1)) (Nat.le_of_ble_eq_true rfl) mS_X12_at nm_1053 rfl rfl (Nat.le_of_ble_eq_true rfl) d_X7_doLoop_39 (k_rop (fun r7 hr7 => ?_))
      refine g_aload_n hF d_X7_doLoop_42 rfl 0 rfl ?_
      refine g_get (v := .ref (r 4)) hF 2 obC_9 (by decide) m_555 rfl d_X7_doLoop_43 ?_
      refine g_getN (v := .int (σ0 4 1)) hF 1 obC_4 (by decide) nm_154 rfl d_X7_doLoop_46 ?_
      refine g_callVN (As := [.int r7, .int (σ0 4 1)]) (rest := []) hF (c_X0_aim a g r σ0 r7 (σ0 4 1) i0) (Nat.le_of_ble_eq_true rfl) mV_X0_aim nm_1318 (recv_ob obC_4) rfl rfl (Nat.le_of_ble_eq_true rfl) d_X7_doLoop_49 (k_v (fun σ8 ⟨iσ8, ik8⟩ => ?_))
      have kp : Keep [(4, 1), (6, 3), (6, 4), (7, 7), (9, 5)] [24, 49, 50, 51, 52] σ0 σ8 := keep_c kp ik8 (by decide) (by decide)
      refine g_goto hF 90 d_X7_doLoop_52 (by decide) ?_
      exact g_vret hF rfl d_X7_doLoop_90 ⟨rfl, rfl, rfl, ⟨iσ8, kp⟩⟩
  · -- not taken at 3
    refine g_aload_n hF d_X7_doLoop_6 rfl 0 rfl ?_
    refine g_iconst hF (v := 1) d_X7_doLoop_7 (by decide) ?_
    refine g_callV (As := [.int 1]) (rest := []) hF (c_X7_begin a g r σ0 (1 : Int32) i0 (Or.inr rfl)) (Nat.le_of_ble_eq_true rfl) mV_X7_begin m_1308 (recv_ob obC_9) rfl rfl (Nat.le_of_ble_eq_true rfl) d_X7_doLoop_8 (k_v (fun σ9 ⟨iσ9, ik9⟩ => ?_)) (fun _ _ _ h => h.elim)
    have kp : Keep [(4, 1), (6, 3), (6, 4), (7, 7), (9, 5)] [24, 49, 50, 51, 52] σ0 σ9 := keep_c kp ik9 (by decide) (by decide)
    refine g_aload_n hF d_X7_doLoop_11 rfl 0 rfl ?_
    refine g_iload_n hF d_X7_doLoop_12 rfl 2 rfl ?_
    refine g_callV (As := [.int a2]) (rest := []) hF (c_X7_turn a g r σ9 a2 iσ9) (Nat.le_of_ble_eq_true rfl) mV_X7_turn m_1336 (recv_ob obC_9) rfl rfl (Nat.le_of_ble_eq_true rfl) d_X7_doLoop_13 (k_v (fun σ10 ⟨iσ10, ik10⟩ => ?_)) (fun _ _ _ h => h.elim)
    have kp : Keep [(4, 1), (6, 3), (6, 4), (7, 7), (9, 5)] [24, 49, 50, 51, 52] σ0 σ10 := keep_c kp ik10 (by decide) (by decide)
    refine g_goto hF 90 d_X7_doLoop_16 (by decide) ?_
    exact g_vret hF rfl d_X7_doLoop_90 ⟨rfl, rfl, rfl, ⟨iσ10, kp⟩⟩
set_option maxHeartbeats 4000000 in
set_option maxRecDepth 100000 in
theorem c_X12_count (a : Nat → Nat) (g : Nat → Nat → Int32) (r : Nat → Nat) (σ0 : St) (a1 : Int32) (a2 : Int32) (i0 : Inv σ0) (l : Launch) (D : va_G) (cy : Nat → ClassId) : Ct l D cy SC r (EC a g) y_X12_count (Cond.code y_X12_count b_X12_count 3 (some .int)) 3 [.ref (r 0), .int a1, .int a2] σ0 Z0 [] (QI (fun _ σ9 => σ9 = σ0)) QF := by
  refine Ct_of (EC_ok a g) (by decide) (Nat.le_of_ble_eq_true rfl) (by decide) (fun X hnn hF => ?_)
  show G SC r X σ0 Z0 [] [(0, .ref (r 0)), (1, .int a1), (2, .int a2)] [] 0
  refine g_aload_n hF d_X12_count_0 rfl 0 rfl ?_
  refine g_get (v := .ref (r 5)) hF 7 obC_0 (by decide) m_742 rfl d_X12_count_1 ?_
  refine g_iload_n hF d_X12_count_4 rfl 1 rfl ?_
  refine g_callVN (As := [.int a1]) (rest := []) hF (c_X8_has a g r σ0 a1 i0) (Nat.le_of_ble_eq_true rfl) mV_X8_has nm_1513 (recv_ob obC_5) rfl rfl (Nat.le_of_ble_eq_true rfl) d_X12_count_5 (k_roz (fun r1 hz1 => ?_))
  refine g_if_eq hF 20 d_X12_count_8 (by decide) rfl (fun c2_8 => ?_) (fun c2_8 => ?_)
  · -- taken at 8
    refine g_iconst hF (v := (-1)) d_X12_count_20 (by decide) ?_
    exact g_iret hF rfl d_X12_count_21 ⟨rfl, rfl, ((-1) : Int32), rfl, rfl⟩
  · -- not taken at 8
    refine g_iload_n hF d_X12_count_11 rfl 2 rfl ?_
    refine g_if_lt hF 20 d_X12_count_12 (by decide) rfl (fun c3_12 => ?_) (fun c3_12 => ?_)
    · -- taken at 12
      refine g_iconst hF (v := (-1)) d_X12_count_20 (by decide) ?_
      exact g_iret hF rfl d_X12_count_21 ⟨rfl, rfl, ((-1) : Int32), rfl, rfl⟩
    · -- not taken at 12
      refine g_iload_n hF d_X12_count_15 rfl 2 rfl ?_
      refine g_iconst hF (v := 1) d_X12_count_16 (by decide) ?_
      refine g_icmp_le (yv := 1) hF 22 d_X12_count_17 (by decide) rfl (by decide) (fun c4_17 => ?_) (fun c4_17 => ?_)
      · -- taken at 17
        refine g_iload_n hF d_X12_count_22 rfl 2 rfl ?_
        refine g_if_ne hF 37 d_X12_count_23 (by decide) rfl (fun c5_23 => ?_) (fun c5_23 => ?_)
        · -- taken at 23
          refine g_aload_n hF d_X12_count_37 rfl 0 rfl ?_
          refine g_get (v := .ref (r 5)) hF 7 obC_0 (by decide) m_742 rfl d_X12_count_38 ?_
          refine g_getN (v := .ref (r 37)) hF 17 obC_5 (by decide) nm_259 rfl d_X12_count_41 ?_
          refine g_iload_n hF d_X12_count_44 rfl 1 rfl ?_
          refine g_callS (As := [.ref (r 37), .int a1]) (rest := []) hF (c_at a g r σ0 arC_37 (by decide) a1) (Nat.le_of_ble_eq_true rfl) mS_X12_at m_1036 rfl rfl (Nat.le_of_ble_eq_true rfl) d_X12_count_45 (k_rop (fun r6 hr6 => ?_)) (fun _ _ _ h => h.elim)
          exact g_iret hF rfl d_X12_count_48 ⟨rfl, rfl, r6, rfl, rfl⟩
        · -- not taken at 23
          refine g_aload_n hF d_X12_count_26 rfl 0 rfl ?_
          refine g_get (v := .ref (r 5)) hF 7 obC_0 (by decide) m_742 rfl d_X12_count_27 ?_
          refine g_iload_n hF d_X12_count_30 rfl 1 rfl ?_
          refine g_callVN (As := [.int a1]) (rest := []) hF (c_X8_symbolsOf a g r σ0 a1 i0) (Nat.le_of_ble_eq_true rfl) mV_X8_symbolsOf nm_1517 (recv_ob obC_5) rfl rfl (Nat.le_of_ble_eq_true rfl) d_X12_count_31 (k_ro (fun r7 => ?_))
          refine g_goto hF 48 d_X12_count_34 (by decide) ?_
          exact g_iret hF rfl d_X12_count_48 ⟨rfl, rfl, r7, rfl, rfl⟩
      · -- not taken at 17
        refine g_iconst hF (v := (-1)) d_X12_count_20 (by decide) ?_
        exact g_iret hF rfl d_X12_count_21 ⟨rfl, rfl, ((-1) : Int32), rfl, rfl⟩
set_option maxHeartbeats 4000000 in
set_option maxRecDepth 100000 in
theorem c_X5_enter (a : Nat → Nat) (g : Nat → Nat → Int32) (r : Nat → Nat) (σ0 : St) (a1 : Int32) (a2 : Int32) (i0 : Inv σ0) (l : Launch) (D : va_G) (cy : Nat → ClassId) : Ct l D cy SC r (EC a g) y_X5_enter (Cond.code y_X5_enter b_X5_enter 4 none) 2 [.ref (r 12), .int a1, .int a2] σ0 Z0 [] (QV (fun σ9 => (Inv σ9 ∧ Keep [(12, 7), (12, 8), (12, 9), (12, 10), (12, 11), (12, 13), (12, 14), (12, 16), (12, 17)] [62, 64] σ0 σ9))) QF := by
  refine Ct_of (EC_ok a g) (by decide) (Nat.le_of_ble_eq_true rfl) (by decide) (fun X hnn hF => ?_)
  show G SC r X σ0 Z0 [] [(0, .ref (r 12)), (1, .int a1), (2, .int a2)] [] 0
  have kp : Keep [(12, 7), (12, 8), (12, 9), (12, 10), (12, 11), (12, 13), (12, 14), (12, 16), (12, 17)] [62, 64] σ0 σ0 := keep_rf
  refine g_aload_n hF d_X5_enter_0 rfl 0 rfl ?_
  refine g_iload_n hF d_X5_enter_1 rfl 2 rfl ?_
  refine g_callV (As := [.int a2]) (rest := []) hF (c_X5_turn a g r σ0 a2 i0) (Nat.le_of_ble_eq_true rfl) mV_X5_turn m_1652 (recv_ob obC_12) rfl rfl (Nat.le_of_ble_eq_true rfl) d_X5_enter_2 (k_i (fun r1 σ1 ⟨hz1, iσ1, ik1⟩ => ?_)) (fun _ _ _ h => h.elim)
  have kp : Keep [(12, 7), (12, 8), (12, 9), (12, 10), (12, 11), (12, 13), (12, 14), (12, 16), (12, 17)] [62, 64] σ0 σ1 := keep_c kp ik1 (by decide) (by decide)
  refine g_if_ne hF 9 d_X5_enter_5 (by decide) rfl (fun c2_5 => ?_) (fun c2_5 => ?_)
  · -- taken at 5
    refine g_aload_n hF d_X5_enter_9 rfl 0 rfl ?_
    refine g_get (v := .int (σ1 12 11)) hF 11 obC_12 (by decide) m_683 rfl d_X5_enter_10 ?_
    refine g_top (v := (σ0 12 11)) (ik1 12 11 rfl rfl rfl) ?_
    refine g_bipush hF (v := 32) d_X5_enter_13 (by decide) ?_
    refine g_isub hF d_X5_enter_15 ?_
    refine g_aload_n hF d_X5_enter_16 rfl 0 rfl ?_
    refine g_get (v := .ref (r 24)) hF 3 obC_12 (by decide) m_674 rfl d_X5_enter_17 ?_
    refine g_iload_n hF d_X5_enter_20 rfl 1 rfl ?_
    refine g_callSN (As := [.ref (r 24), .int a1]) (rest := [.int ((σ0 12 11) - 32)]) hF (c_at a g r σ1 arC_24 (by decide) a1) (Nat.le_of_ble_eq_true rfl) mS_X12_at nm_1660 rfl rfl (Nat.le_of_ble_eq_true rfl) d_X5_enter_21 (k_rop (fun r3 hr3 => ?_))
    refine g_isub hF d_X5_enter_24 ?_
    refine g_istore_n hF [(3, .int (((σ0 12 11) - 32) - r3)), (0, .ref (r 12)), (1, .int a1), (2, .int a2)] d_X5_enter_25 rfl hnn (by decide) rfl ?_
    refine g_iload_n hF d_X5_enter_26 rfl 0 rfl ?_
    refine g_sipush hF (v := 24576) d_X5_enter_27 (by decide) ?_
    refine g_icmp_ge (yv := 24576) hF 40 d_X5_enter_30 (by decide) rfl (by decide) (fun c4_30 => ?_) (fun c4_30 => ?_)
    · -- taken at 30
      refine g_aload_n hF d_X5_enter_40 rfl 1 rfl ?_
      refine g_get (v := .ref (r 64)) hF 6 obC_12 (by decide) m_678 rfl d_X5_enter_41 ?_
      refine g_iconst hF (v := 3) d_X5_enter_44 (by decide) ?_
      refine g_aload_n hF d_X5_enter_45 rfl 1 rfl ?_
      refine g_get (v := .int (σ1 12 7)) hF 7 obC_12 (by decide) m_679 rfl d_X5_enter_46 ?_
      refine g_top (v := (σ0 12 7)) (ik1 12 7 rfl rfl rfl) ?_
      refine g_imul hF d_X5_enter_49 ?_
      refine g_any (fun v5 => ?_)
      refine g_aload_n hF d_X5_enter_50 rfl 1 rfl ?_
      refine g_get (v := .int (σ1 12 8)) hF 8 obC_12 (by decide) m_680 rfl d_X5_enter_51 ?_
      refine g_top (v := (σ0 12 8)) (ik1 12 8 rfl rfl rfl) ?_
      refine g_callSN (As := [.ref (r 64), .int v5, .int (σ0 12 8)]) (rest := []) hF (c_set a g r σ1 arC_64 (by decide) v5 (σ0 12 8)) (Nat.le_of_ble_eq_true rfl) mS_X12_set nm_1661 rfl rfl (Nat.le_of_ble_eq_true rfl) d_X5_enter_54 (k_v (fun σ6 ⟨g6, eσ6, hg6⟩ => ?_))
      subst eσ6
      have kp : Keep [(12, 7), (12, 8), (12, 9), (12, 10), (12, 11), (12, 13), (12, 14), (12, 16), (12, 17)] [62, 64] σ0 (upF σ1 64 g6) := keep_F kp (by decide)
      refine g_aload_n hF d_X5_enter_57 rfl 1 rfl ?_
      refine g_get (v := .ref (r 64)) hF 6 obC_12 (by decide) m_678 rfl d_X5_enter_58 ?_
      refine g_iconst hF (v := 3) d_X5_enter_61 (by decide) ?_
      refine g_aload_n hF d_X5_enter_62 rfl 1 rfl ?_
      refine g_get (v := .int (σ1 12 7)) hF 7 obC_12 (by decide) m_679 rfl d_X5_enter_63 ?_
      refine g_top (v := (σ0 12 7)) (ik1 12 7 rfl rfl rfl) ?_
      refine g_imul hF d_X5_enter_66 ?_
      refine g_any (fun v7 => ?_)
      refine g_iconst hF (v := 1) d_X5_enter_67 (by decide) ?_
      refine g_iadd hF d_X5_enter_68 ?_
      refine g_aload_n hF d_X5_enter_69 rfl 1 rfl ?_
      refine g_get (v := .int (σ1 12 10)) hF 10 obC_12 (by decide) m_682 rfl d_X5_enter_70 ?_
      refine g_top (v := (σ0 12 10)) (ik1 12 10 rfl rfl rfl) ?_
      refine g_callSN (As := [.ref (r 64), .int (v7 + 1), .int (σ0 12 10)]) (rest := []) hF (c_set a g r (upF σ1 64 g6) arC_64 (by decide) (v7 + 1) (σ0 12 10)) (Nat.le_of_ble_eq_true rfl) mS_X12_set nm_1661 rfl rfl (Nat.le_of_ble_eq_true rfl) d_X5_enter_73 (k_v (fun σ8 ⟨g8, eσ8, hg8⟩ => ?_))
      subst eσ8
      have kp : Keep [(12, 7), (12, 8), (12, 9), (12, 10), (12, 11), (12, 13), (12, 14), (12, 16), (12, 17)] [62, 64] σ0 (upF (upF σ1 64 g6) 64 g8) := keep_F kp (by decide)
      refine g_aload_n hF d_X5_enter_76 rfl 1 rfl ?_
      refine g_get (v := .ref (r 64)) hF 6 obC_12 (by decide) m_678 rfl d_X5_enter_77 ?_
      refine g_iconst hF (v := 3) d_X5_enter_80 (by decide) ?_
      refine g_aload_n hF d_X5_enter_81 rfl 1 rfl ?_
      refine g_get (v := .int (σ1 12 7)) hF 7 obC_12 (by decide) m_679 rfl d_X5_enter_82 ?_
      refine g_top (v := (σ0 12 7)) (ik1 12 7 rfl rfl rfl) ?_
      refine g_imul hF d_X5_enter_85 ?_
      refine g_any (fun v9 => ?_)
      refine g_iconst hF (v := 2) d_X5_enter_86 (by decide) ?_
      refine g_iadd hF d_X5_enter_87 ?_
      refine g_aload_n hF d_X5_enter_88 rfl 1 rfl ?_
      refine g_get (v := .int (σ1 12 11)) hF 11 obC_12 (by decide) m_683 rfl d_X5_enter_89 ?_
      refine g_top (v := (σ0 12 11)) (ik1 12 11 rfl rfl rfl) ?_
      refine g_callSN (As := [.ref (r 64), .int (v9 + 2), .int (σ0 12 11)]) (rest := []) hF (c_set a g r (upF (upF σ1 64 g6) 64 g8) arC_64 (by decide) (v9 + 2) (σ0 12 11)) (Nat.le_of_ble_eq_true rfl) mS_X12_set nm_1661 rfl rfl (Nat.le_of_ble_eq_true rfl) d_X5_enter_92 (k_v (fun σ10 ⟨g10, eσ10, hg10⟩ => ?_))
      subst eσ10
      have kp : Keep [(12, 7), (12, 8), (12, 9), (12, 10), (12, 11), (12, 13), (12, 14), (12, 16), (12, 17)] [62, 64] σ0 (upF (upF (upF σ1 64 g6) 64 g8) 64 g10) := keep_F kp (by decide)
      refine g_aload_n hF d_X5_enter_95 rfl 1 rfl ?_
      refine g_dup hF d_X5_enter_96 rfl ?_
      refine g_get (v := .int (σ1 12 7)) hF 7 obC_12 (by decide) m_679 rfl d_X5_enter_97 ?_
      refine g_top (v := (σ0 12 7)) (ik1 12 7 rfl rfl rfl) ?_
      refine g_iconst hF (v := 1) d_X5_enter_100 (by decide) ?_
      refine g_iadd hF d_X5_enter_101 ?_
      refine g_put (v := ((σ0 12 7) + 1)) hF 7 obC_12 (by decide) m_679 rfl rfl rfl d_X5_enter_102 ?_
      have kp : Keep [(12, 7), (12, 8), (12, 9), (12, 10), (12, 11), (12, 13), (12, 14), (12, 16), (12, 17)] [62, 64] σ0 (upC (upF (upF (upF σ1 64 g6) 64 g8) 64 g10) 12 7 ((σ0 12 7) + 1)) := keep_f kp (by decide)
      refine g_aload_n hF d_X5_enter_105 rfl 1 rfl ?_
      refine g_aload_n hF d_X5_enter_106 rfl 1 rfl ?_
      refine g_get (v := .int (σ1 12 9)) hF 9 obC_12 (by decide) m_681 rfl d_X5_enter_107 ?_
      refine g_top (v := (σ0 12 9)) (ik1 12 9 rfl rfl rfl) ?_
      refine g_aload_n hF d_X5_enter_110 rfl 1 rfl ?_
      refine g_get (v := .ref (r 24)) hF 3 obC_12 (by decide) m_674 rfl d_X5_enter_111 ?_
      refine g_iload_n hF d_X5_enter_114 rfl 2 rfl ?_
      refine g_iconst hF (v := 2) d_X5_enter_115 (by decide) ?_
      refine g_iadd hF d_X5_enter_116 ?_
      refine g_callSN (As := [.ref (r 24), .int (a1 + 2)]) (rest := [.int (σ0 12 9), .ref (r 12)]) hF (c_at a g r (upC (upF (upF (upF σ1 64 g6) 64 g8) 64 g10) 12 7 ((σ0 12 7) + 1)) arC_24 (by decide) (a1 + 2)) (Nat.le_of_ble_eq_true rfl) mS_X12_at nm_1660 rfl rfl (Nat.le_of_ble_eq_true rfl) d_X5_enter_117 (k_rop (fun r11 hr11 => ?_))
      refine g_isub hF d_X5_enter_120 ?_
      refine g_put (v := ((σ0 12 9) - r11)) hF 10 obC_12 (by decide) m_682 rfl rfl rfl d_X5_enter_121 ?_
      have kp : Keep [(12, 7), (12, 8), (12, 9), (12, 10), (12, 11), (12, 13), (12, 14), (12, 16), (12, 17)] [62, 64] σ0 (upC (upC (upF (upF (upF σ1 64 g6) 64 g8) 64 g10) 12 7 ((σ0 12 7) + 1)) 12 10 ((σ0 12 9) - r11)) := keep_f kp (by decide)
      refine g_aload_n hF d_X5_enter_124 rfl 1 rfl ?_
      refine g_aload_n hF d_X5_enter_125 rfl 1 rfl ?_
      refine g_get (v := .int ((σ0 12 9) - r11)) hF 10 obC_12 (by decide) m_682 rfl d_X5_enter_126 ?_
      refine g_aload_n hF d_X5_enter_129 rfl 1 rfl ?_
      refine g_get (v := .ref (r 24)) hF 3 obC_12 (by decide) m_674 rfl d_X5_enter_130 ?_
      refine g_iload_n hF d_X5_enter_133 rfl 2 rfl ?_
      refine g_iconst hF (v := 1) d_X5_enter_134 (by decide) ?_
      refine g_iadd hF d_X5_enter_135 ?_
      refine g_callSN (As := [.ref (r 24), .int (a1 + 1)]) (rest := [.int ((σ0 12 9) - r11), .ref (r 12)]) hF (c_at a g r (upC (upC (upF (upF (upF σ1 64 g6) 64 g8) 64 g10) 12 7 ((σ0 12 7) + 1)) 12 10 ((σ0 12 9) - r11)) arC_24 (by decide) (a1 + 1)) (Nat.le_of_ble_eq_true rfl) mS_X12_at nm_1660 rfl rfl (Nat.le_of_ble_eq_true rfl) d_X5_enter_136 (k_rop (fun r12 hr12 => ?_))
      refine g_iadd hF d_X5_enter_139 ?_
      refine g_put (v := (((σ0 12 9) - r11) + r12)) hF 9 obC_12 (by decide) m_681 rfl rfl rfl d_X5_enter_140 ?_
      have kp : Keep [(12, 7), (12, 8), (12, 9), (12, 10), (12, 11), (12, 13), (12, 14), (12, 16), (12, 17)] [62, 64] σ0 (upC (upC (upC (upF (upF (upF σ1 64 g6) 64 g8) 64 g10) 12 7 ((σ0 12 7) + 1)) 12 10 ((σ0 12 9) - r11)) 12 9 (((σ0 12 9) - r11) + r12)) := keep_f kp (by decide)
      refine g_aload_n hF d_X5_enter_143 rfl 1 rfl ?_
      refine g_iload_n hF d_X5_enter_144 rfl 0 rfl ?_
      refine g_put (v := (((σ0 12 11) - 32) - r3)) hF 11 obC_12 (by decide) m_683 rfl rfl rfl d_X5_enter_145 ?_
      have kp : Keep [(12, 7), (12, 8), (12, 9), (12, 10), (12, 11), (12, 13), (12, 14), (12, 16), (12, 17)] [62, 64] σ0 (upC (upC (upC (upC (upF (upF (upF σ1 64 g6) 64 g8) 64 g10) 12 7 ((σ0 12 7) + 1)) 12 10 ((σ0 12 9) - r11)) 12 9 (((σ0 12 9) - r11) + r12)) 12 11 (((σ0 12 11) - 32) - r3)) := keep_f kp (by decide)
      refine g_aload_n hF d_X5_enter_148 rfl 1 rfl ?_
      refine g_iload_n hF d_X5_enter_149 rfl 2 rfl ?_
      refine g_iconst hF (v := 4) d_X5_enter_150 (by decide) ?_
      refine g_iadd hF d_X5_enter_151 ?_
      refine g_put (v := (a1 + 4)) hF 8 obC_12 (by decide) m_680 rfl rfl rfl d_X5_enter_152 ?_
      have kp : Keep [(12, 7), (12, 8), (12, 9), (12, 10), (12, 11), (12, 13), (12, 14), (12, 16), (12, 17)] [62, 64] σ0 (upC (upC (upC (upC (upC (upF (upF (upF σ1 64 g6) 64 g8) 64 g10) 12 7 ((σ0 12 7) + 1)) 12 10 ((σ0 12 9) - r11)) 12 9 (((σ0 12 9) - r11) + r12)) 12 11 (((σ0 12 11) - 32) - r3)) 12 8 (a1 + 4)) := keep_f kp (by decide)
      refine g_aload_n hF d_X5_enter_155 rfl 1 rfl ?_
      refine g_aload_n hF d_X5_enter_156 rfl 1 rfl ?_
      refine g_get (v := .ref (r 24)) hF 3 obC_12 (by decide) m_674 rfl d_X5_enter_157 ?_
      refine g_iload_n hF d_X5_enter_160 rfl 2 rfl ?_
      refine g_iconst hF (v := 2) d_X5_enter_161 (by decide) ?_
      refine g_iadd hF d_X5_enter_162 ?_
      refine g_callSN (As := [.ref (r 24), .int (a1 + 2)]) (rest := [.ref (r 12)]) hF (c_at a g r (upC (upC (upC (upC (upC (upF (upF (upF σ1 64 g6) 64 g8) 64 g10) 12 7 ((σ0 12 7) + 1)) 12 10 ((σ0 12 9) - r11)) 12 9 (((σ0 12 9) - r11) + r12)) 12 11 (((σ0 12 11) - 32) - r3)) 12 8 (a1 + 4)) arC_24 (by decide) (a1 + 2)) (Nat.le_of_ble_eq_true rfl) mS_X12_at nm_1660 rfl rfl (Nat.le_of_ble_eq_true rfl) d_X5_enter_163 (k_rop (fun r13 hr13 => ?_))
      refine g_aload_n hF d_X5_enter_166 rfl 1 rfl ?_
      refine g_get (v := .ref (r 24)) hF 3 obC_12 (by decide) m_674 rfl d_X5_enter_167 ?_
      refine g_iload_n hF d_X5_enter_170 rfl 2 rfl ?_
      refine g_iconst hF (v := 3) d_X5_enter_171 (by decide) ?_
      refine g_iadd hF d_X5_enter_172 ?_
      refine g_callSN (As := [.ref (r 24), .int (a1 + 3)]) (rest := [.int r13, .ref (r 12)]) hF (c_at a g r (upC (upC (upC (upC (upC (upF (upF (upF σ1 64 g6) 64 g8) 64 g10) 12 7 ((σ0 12 7) + 1)) 12 10 ((σ0 12 9) - r11)) 12 9 (((σ0 12 9) - r11) + r12)) 12 11 (((σ0 12 11) - 32) - r3)) 12 8 (a1 + 4)) arC_24 (by decide) (a1 + 3)) (Nat.le_of_ble_eq_true rfl) mS_X12_at nm_1660 rfl rfl (Nat.le_of_ble_eq_true rfl) d_X5_enter_173 (k_rop (fun r14 hr14 => ?_))
      have j16 : Inv (upC (upC (upC (upC (upC (upF (upF (upF σ1 64 g6) 64 g8) 64 g10) 12 7 ((σ0 12 7) + 1)) 12 10 ((σ0 12 9) - r11)) 12 9 (((σ0 12 9) - r11) + r12)) 12 11 (((σ0 12 11) - 32) - r3)) 12 8 (a1 + 4)) := ⟨iσ1.1, iσ1.2.1, iσ1.2.2.1, iσ1.2.2.2.1, iσ1.2.2.2.2.1, iσ1.2.2.2.2.2.1, iσ1.2.2.2.2.2.2.1, iσ1.2.2.2.2.2.2.2.1, iσ1.2.2.2.2.2.2.2.2.1, iσ1.2.2.2.2.2.2.2.2.2.1, iσ1.2.2.2.2.2.2.2.2.2.2.1, iσ1.2.2.2.2.2.2.2.2.2.2.2.1, iσ1.2.2.2.2.2.2.2.2.2.2.2.2.1, iσ1.2.2.2.2.2.2.2.2.2.2.2.2.2.1, iσ1.2.2.2.2.2.2.2.2.2.2.2.2.2.2.1, iσ1.2.2.2.2.2.2.2.2.2.2.2.2.2.2.2.1, iσ1.2.2.2.2.2.2.2.2.2.2.2.2.2.2.2.2.1, iσ1.2.2.2.2.2.2.2.2.2.2.2.2.2.2.2.2.2.1, iσ1.2.2.2.2.2.2.2.2.2.2.2.2.2.2.2.2.2.2.1, iσ1.2.2.2.2.2.2.2.2.2.2.2.2.2.2.2.2.2.2.2⟩
      refine g_callV (As := [.int r13, .int r14]) (rest := []) hF (c_X5_copyParameters a g r (upC (upC (upC (upC (upC (upF (upF (upF σ1 64 g6) 64 g8) 64 g10) 12 7 ((σ0 12 7) + 1)) 12 10 ((σ0 12 9) - r11)) 12 9 (((σ0 12 9) - r11) + r12)) 12 11 (((σ0 12 11) - 32) - r3)) 12 8 (a1 + 4)) r13 r14 j16) (Nat.le_of_ble_eq_true rfl) mV_X5_copyParameters m_1662 (recv_ob obC_12) rfl rfl (Nat.le_of_ble_eq_true rfl) d_X5_enter_176 (k_v (fun σ15 ⟨iσ15, ik15⟩ => ?_)) (fun _ _ _ h => h.elim)
      have kp : Keep [(12, 7), (12, 8), (12, 9), (12, 10), (12, 11), (12, 13), (12, 14), (12, 16), (12, 17)] [62, 64] σ0 σ15 := keep_c kp ik15 (by decide) (by decide)
      exact g_vret hF rfl d_X5_enter_179 ⟨rfl, rfl, rfl, ⟨iσ15, kp⟩⟩
    · -- not taken at 30
      refine g_aload_n hF d_X5_enter_33 rfl 1 rfl ?_
      refine g_iconst hF (v := 3) d_X5_enter_34 (by decide) ?_
      refine g_iload_n hF d_X5_enter_35 rfl 3 rfl ?_
      refine g_callV (As := [.int 3, .int a2]) (rest := []) hF (c_X5_fail a g r σ1 (3 : Int32) a2 iσ1) (Nat.le_of_ble_eq_true rfl) mV_X5_fail m_1656 (recv_ob obC_12) rfl rfl (Nat.le_of_ble_eq_true rfl) d_X5_enter_36 (k_v (fun σ17 ⟨iσ17, ik17⟩ => ?_)) (fun _ _ _ h => h.elim)
      have kp : Keep [(12, 7), (12, 8), (12, 9), (12, 10), (12, 11), (12, 13), (12, 14), (12, 16), (12, 17)] [62, 64] σ0 σ17 := keep_c kp ik17 (by decide) (by decide)
      exact g_vret hF rfl d_X5_enter_39 ⟨rfl, rfl, rfl, ⟨iσ17, kp⟩⟩
  · -- not taken at 5
    exact g_vret hF rfl d_X5_enter_8 ⟨rfl, rfl, rfl, ⟨iσ1, kp⟩⟩
set_option maxHeartbeats 4000000 in
set_option maxRecDepth 100000 in
theorem c_X5_plain (a : Nat → Nat) (g : Nat → Nat → Int32) (r : Nat → Nat) (σ0 : St) (a1 : Int32) (a2 : Int32) (i0 : Inv σ0) (l : Launch) (D : va_G) (cy : Nat → ClassId) : Ct l D cy SC r (EC a g) y_X5_plain (Cond.code y_X5_plain b_X5_plain 5 none) 3 [.ref (r 12), .int a1, .int a2] σ0 Z0 [] (QV (fun σ9 => (Inv σ9 ∧ Keep [(12, 9)] [62, 63] σ0 σ9))) QF := by
  refine Ct_of (EC_ok a g) (by decide) (Nat.le_of_ble_eq_true rfl) (by decide) (fun X hnn hF => ?_)
  show G SC r X σ0 Z0 [] [(0, .ref (r 12)), (1, .int a1), (2, .int a2)] [] 0
  have kp : Keep [(12, 9)] [62, 63] σ0 σ0 := keep_rf
  refine g_aload_n hF d_X5_plain_0 rfl 0 rfl ?_
  refine g_get (v := .ref (r 24)) hF 3 obC_12 (by decide) m_674 rfl d_X5_plain_1 ?_
  refine g_iload_n hF d_X5_plain_4 rfl 2 rfl ?_
  refine g_iconst hF (v := 1) d_X5_plain_5 (by decide) ?_
  refine g_iadd hF d_X5_plain_6 ?_
  refine g_callSN (As := [.ref (r 24), .int (a2 + 1)]) (rest := []) hF (c_at a g r σ0 arC_24 (by decide) (a2 + 1)) (Nat.le_of_ble_eq_true rfl) mS_X12_at nm_1660 rfl rfl (Nat.le_of_ble_eq_true rfl) d_X5_plain_7 (k_rop (fun r1 hr1 => ?_))
  refine g_istore_n hF [(3, .int r1), (0, .ref (r 12)), (1, .int a1), (2, .int a2)] d_X5_plain_10 rfl hnn (by decide) rfl ?_
  refine g_aload_n hF d_X5_plain_11 rfl 1 rfl ?_
  refine g_get (v := .ref (r 24)) hF 3 obC_12 (by decide) m_674 rfl d_X5_plain_12 ?_
  refine g_iload_n hF d_X5_plain_15 rfl 3 rfl ?_
  refine g_iconst hF (v := 2) d_X5_plain_16 (by decide) ?_
  refine g_iadd hF d_X5_plain_17 ?_
  refine g_callSN (As := [.ref (r 24), .int (a2 + 2)]) (rest := []) hF (c_at a g r σ0 arC_24 (by decide) (a2 + 2)) (Nat.le_of_ble_eq_true rfl) mS_X12_at nm_1660 rfl rfl (Nat.le_of_ble_eq_true rfl) d_X5_plain_18 (k_rop (fun r2 hr2 => ?_))
  refine g_istore hF [(4, .int r2), (3, .int r1), (0, .ref (r 12)), (1, .int a1), (2, .int a2)] d_X5_plain_21 hnn (by decide) rfl ?_
  refine g_iload_n hF d_X5_plain_23 rfl 3 rfl ?_
  refine (Decidable.em (a1.toInt = 1)).elim (fun q3_24_0 => ?_) (fun q3_24_0 => ?_)
  · refine g_tableIn (off := 52) hF 76 d_X5_plain_24 q3_24_0 (by decide) (by decide) (by decide +kernel) (by decide) ?_
    refine g_aload_n hF d_X5_plain_76 rfl 2 rfl ?_
    refine g_iload_n hF d_X5_plain_77 rfl 1 rfl ?_
    refine g_callV (As := [.int r1]) (rest := []) hF (c_X5_push a g r σ0 r1 i0) (Nat.le_of_ble_eq_true rfl) mV_X5_push m_1686 (recv_ob obC_12) rfl rfl (Nat.le_of_ble_eq_true rfl) d_X5_plain_78 (k_v (fun σ4 ⟨iσ4, ik4⟩ => ?_)) (fun _ _ _ h => h.elim)
    have kp : Keep [(12, 9)] [62, 63] σ0 σ4 := keep_c kp ik4 (by decide) (by decide)
    refine g_goto hF 259 d_X5_plain_81 (by decide) ?_
    exact g_vret hF rfl d_X5_plain_259 ⟨rfl, rfl, rfl, ⟨iσ4, kp⟩⟩
  refine (Decidable.em (a1.toInt = 2)).elim (fun q5_24_1 => ?_) (fun q5_24_1 => ?_)
  · refine g_tableIn (off := 60) hF 84 d_X5_plain_24 q5_24_1 (by decide) (by decide) (by decide +kernel) (by decide) ?_
    refine g_aload_n hF d_X5_plain_84 rfl 2 rfl ?_
    refine g_callV (As := []) (rest := []) hF (c_X5_pop a g r σ0 i0) (Nat.le_of_ble_eq_true rfl) mV_X5_pop m_1681 (recv_ob obC_12) rfl rfl (Nat.le_of_ble_eq_true rfl) d_X5_plain_85 (k_i (fun r6 σ6 ⟨iσ6, ik6⟩ => ?_)) (fun _ _ _ h => h.elim)
    have kp : Keep [(12, 9)] [62, 63] σ0 σ6 := keep_c kp ik6 (by decide) (by decide)
    refine g_pop hF d_X5_plain_88 rfl ?_
    refine g_goto hF 259 d_X5_plain_89 (by decide) ?_
    exact g_vret hF rfl d_X5_plain_259 ⟨rfl, rfl, rfl, ⟨iσ6, kp⟩⟩
  refine (Decidable.em (a1.toInt = 3)).elim (fun q7_24_2 => ?_) (fun q7_24_2 => ?_)
  · refine g_tableIn (off := 68) hF 92 d_X5_plain_24 q7_24_2 (by decide) (by decide) (by decide +kernel) (by decide) ?_
    refine g_aload_n hF d_X5_plain_92 rfl 2 rfl ?_
    refine g_aload_n hF d_X5_plain_93 rfl 2 rfl ?_
    refine g_get (v := .ref (r 10)) hF 1 obC_12 (by decide) m_672 rfl d_X5_plain_94 ?_
    refine g_getN (v := .ref (r 58)) hF 9 obC_10 (by decide) nm_610 rfl d_X5_plain_97 ?_
    refine g_iload_n hF d_X5_plain_100 rfl 1 rfl ?_
    refine g_callSN (As := [.ref (r 58), .int r1]) (rest := [.ref (r 12)]) hF (c_at a g r σ0 arC_58 (by decide) r1) (Nat.le_of_ble_eq_true rfl) mS_X12_at nm_1660 rfl rfl (Nat.le_of_ble_eq_true rfl) d_X5_plain_101 (k_rop (fun r8 hr8 => ?_))
    refine g_iload hF d_X5_plain_104 0 rfl ?_
    refine g_iadd hF d_X5_plain_106 ?_
    refine g_callV (As := [.int (r8 + r2)]) (rest := []) hF (c_X5_push a g r σ0 (r8 + r2) i0) (Nat.le_of_ble_eq_true rfl) mV_X5_push m_1686 (recv_ob obC_12) rfl rfl (Nat.le_of_ble_eq_true rfl) d_X5_plain_107 (k_v (fun σ9 ⟨iσ9, ik9⟩ => ?_)) (fun _ _ _ h => h.elim)
    have kp : Keep [(12, 9)] [62, 63] σ0 σ9 := keep_c kp ik9 (by decide) (by decide)
    refine g_goto hF 259 d_X5_plain_110 (by decide) ?_
    exact g_vret hF rfl d_X5_plain_259 ⟨rfl, rfl, rfl, ⟨iσ9, kp⟩⟩
  refine (Decidable.em (a1.toInt = 4)).elim (fun q10_24_3 => ?_) (fun q10_24_3 => ?_)
  · refine g_tableIn (off := 89) hF 113 d_X5_plain_24 q10_24_3 (by decide) (by decide) (by decide +kernel) (by decide) ?_
    refine g_aload_n hF d_X5_plain_113 rfl 2 rfl ?_
    refine g_aload_n hF d_X5_plain_114 rfl 2 rfl ?_
    refine g_get (v := .ref (r 10)) hF 1 obC_12 (by decide) m_672 rfl d_X5_plain_115 ?_
    refine g_getN (v := .ref (r 59)) hF 10 obC_10 (by decide) nm_612 rfl d_X5_plain_118 ?_
    refine g_iload_n hF d_X5_plain_121 rfl 1 rfl ?_
    refine g_callSN (As := [.ref (r 59), .int r1]) (rest := [.ref (r 12)]) hF (c_at a g r σ0 arC_59 (by decide) r1) (Nat.le_of_ble_eq_true rfl) mS_X12_at nm_1660 rfl rfl (Nat.le_of_ble_eq_true rfl) d_X5_plain_122 (k_rop (fun r11 hr11 => ?_))
    refine g_callV (As := [.int r11]) (rest := []) hF (c_X5_push a g r σ0 r11 i0) (Nat.le_of_ble_eq_true rfl) mV_X5_push m_1686 (recv_ob obC_12) rfl rfl (Nat.le_of_ble_eq_true rfl) d_X5_plain_125 (k_v (fun σ12 ⟨iσ12, ik12⟩ => ?_)) (fun _ _ _ h => h.elim)
    have kp : Keep [(12, 9)] [62, 63] σ0 σ12 := keep_c kp ik12 (by decide) (by decide)
    refine g_goto hF 259 d_X5_plain_128 (by decide) ?_
    exact g_vret hF rfl d_X5_plain_259 ⟨rfl, rfl, rfl, ⟨iσ12, kp⟩⟩
  refine (Decidable.em (a1.toInt = 5)).elim (fun q13_24_4 => ?_) (fun q13_24_4 => ?_)
  · refine g_tableIn (off := 107) hF 131 d_X5_plain_24 q13_24_4 (by decide) (by decide) (by decide +kernel) (by decide) ?_
    refine g_aload_n hF d_X5_plain_131 rfl 2 rfl ?_
    refine g_aload_n hF d_X5_plain_132 rfl 2 rfl ?_
    refine g_get (v := .ref (r 62)) hF 4 obC_12 (by decide) m_675 rfl d_X5_plain_133 ?_
    refine g_aload_n hF d_X5_plain_136 rfl 2 rfl ?_
    refine g_get (v := .ref (r 10)) hF 1 obC_12 (by decide) m_672 rfl d_X5_plain_137 ?_
    refine g_getN (v := .ref (r 59)) hF 10 obC_10 (by decide) nm_612 rfl d_X5_plain_140 ?_
    refine g_iload_n hF d_X5_plain_143 rfl 1 rfl ?_
    refine g_callSN (As := [.ref (r 59), .int r1]) (rest := [.ref (r 62), .ref (r 12)]) hF (c_at a g r σ0 arC_59 (by decide) r1) (Nat.le_of_ble_eq_true rfl) mS_X12_at nm_1660 rfl rfl (Nat.le_of_ble_eq_true rfl) d_X5_plain_144 (k_rop (fun r14 hr14 => ?_))
    refine g_callSN (As := [.ref (r 62), .int r14]) (rest := [.ref (r 12)]) hF (c_at a g r σ0 arC_62 (by decide) r14) (Nat.le_of_ble_eq_true rfl) mS_X12_at nm_1660 rfl rfl (Nat.le_of_ble_eq_true rfl) d_X5_plain_147 (k_rop (fun r15 hr15 => ?_))
    refine g_callV (As := [.int r15]) (rest := []) hF (c_X5_push a g r σ0 r15 i0) (Nat.le_of_ble_eq_true rfl) mV_X5_push m_1686 (recv_ob obC_12) rfl rfl (Nat.le_of_ble_eq_true rfl) d_X5_plain_150 (k_v (fun σ16 ⟨iσ16, ik16⟩ => ?_)) (fun _ _ _ h => h.elim)
    have kp : Keep [(12, 9)] [62, 63] σ0 σ16 := keep_c kp ik16 (by decide) (by decide)
    refine g_goto hF 259 d_X5_plain_153 (by decide) ?_
    exact g_vret hF rfl d_X5_plain_259 ⟨rfl, rfl, rfl, ⟨iσ16, kp⟩⟩
  refine (Decidable.em (a1.toInt = 6)).elim (fun q17_24_5 => ?_) (fun q17_24_5 => ?_)
  · refine g_tableIn (off := 132) hF 156 d_X5_plain_24 q17_24_5 (by decide) (by decide) (by decide +kernel) (by decide) ?_
    refine g_aload_n hF d_X5_plain_156 rfl 2 rfl ?_
    refine g_get (v := .ref (r 62)) hF 4 obC_12 (by decide) m_675 rfl d_X5_plain_157 ?_
    refine g_aload_n hF d_X5_plain_160 rfl 2 rfl ?_
    refine g_get (v := .ref (r 10)) hF 1 obC_12 (by decide) m_672 rfl d_X5_plain_161 ?_
    refine g_getN (v := .ref (r 59)) hF 10 obC_10 (by decide) nm_612 rfl d_X5_plain_164 ?_
    refine g_iload_n hF d_X5_plain_167 rfl 1 rfl ?_
    refine g_callSN (As := [.ref (r 59), .int r1]) (rest := [.ref (r 62)]) hF (c_at a g r σ0 arC_59 (by decide) r1) (Nat.le_of_ble_eq_true rfl) mS_X12_at nm_1660 rfl rfl (Nat.le_of_ble_eq_true rfl) d_X5_plain_168 (k_rop (fun r18 hr18 => ?_))
    refine g_aload_n hF d_X5_plain_171 rfl 2 rfl ?_
    refine g_callV (As := []) (rest := [.int r18, .ref (r 62)]) hF (c_X5_peeked a g r σ0 i0) (Nat.le_of_ble_eq_true rfl) mV_X5_peeked m_1744 (recv_ob obC_12) rfl rfl (Nat.le_of_ble_eq_true rfl) d_X5_plain_172 (k_ro (fun r19 => ?_)) (fun _ _ _ h => h.elim)
    refine g_callSN (As := [.ref (r 62), .int r18, .int r19]) (rest := []) hF (c_set a g r σ0 arC_62 (by decide) r18 r19) (Nat.le_of_ble_eq_true rfl) mS_X12_set nm_1661 rfl rfl (Nat.le_of_ble_eq_true rfl) d_X5_plain_175 (k_v (fun σ20 ⟨g20, eσ20, hg20⟩ => ?_))
    subst eσ20
    have kp : Keep [(12, 9)] [62, 63] σ0 (upF σ0 62 g20) := keep_F kp (by decide)
    refine g_goto hF 259 d_X5_plain_178 (by decide) ?_
    have j21 : Inv (upF σ0 62 g20) := ⟨i0.1, i0.2.1, i0.2.2.1, i0.2.2.2.1, i0.2.2.2.2.1, i0.2.2.2.2.2.1, i0.2.2.2.2.2.2.1, i0.2.2.2.2.2.2.2.1, i0.2.2.2.2.2.2.2.2.1, i0.2.2.2.2.2.2.2.2.2.1, i0.2.2.2.2.2.2.2.2.2.2.1, i0.2.2.2.2.2.2.2.2.2.2.2.1, i0.2.2.2.2.2.2.2.2.2.2.2.2.1, i0.2.2.2.2.2.2.2.2.2.2.2.2.2.1, i0.2.2.2.2.2.2.2.2.2.2.2.2.2.2.1, i0.2.2.2.2.2.2.2.2.2.2.2.2.2.2.2.1, i0.2.2.2.2.2.2.2.2.2.2.2.2.2.2.2.2.1, i0.2.2.2.2.2.2.2.2.2.2.2.2.2.2.2.2.2.1, i0.2.2.2.2.2.2.2.2.2.2.2.2.2.2.2.2.2.2.1, i0.2.2.2.2.2.2.2.2.2.2.2.2.2.2.2.2.2.2.2⟩
    exact g_vret hF rfl d_X5_plain_259 ⟨rfl, rfl, rfl, ⟨j21, kp⟩⟩
  refine (Decidable.em (a1.toInt = 7)).elim (fun q22_24_6 => ?_) (fun q22_24_6 => ?_)
  · refine g_tableIn (off := 157) hF 181 d_X5_plain_24 q22_24_6 (by decide) (by decide) (by decide +kernel) (by decide) ?_
    refine g_aload_n hF d_X5_plain_181 rfl 2 rfl ?_
    refine g_aload_n hF d_X5_plain_182 rfl 2 rfl ?_
    refine g_get (v := .ref (r 62)) hF 4 obC_12 (by decide) m_675 rfl d_X5_plain_183 ?_
    refine g_aload_n hF d_X5_plain_186 rfl 2 rfl ?_
    refine g_get (v := .ref (r 10)) hF 1 obC_12 (by decide) m_672 rfl d_X5_plain_187 ?_
    refine g_getN (v := .ref (r 59)) hF 10 obC_10 (by decide) nm_612 rfl d_X5_plain_190 ?_
    refine g_iload_n hF d_X5_plain_193 rfl 1 rfl ?_
    refine g_callSN (As := [.ref (r 59), .int r1]) (rest := [.ref (r 62), .ref (r 12)]) hF (c_at a g r σ0 arC_59 (by decide) r1) (Nat.le_of_ble_eq_true rfl) mS_X12_at nm_1660 rfl rfl (Nat.le_of_ble_eq_true rfl) d_X5_plain_194 (k_rop (fun r23 hr23 => ?_))
    refine g_iload_n hF d_X5_plain_197 rfl 4 rfl ?_
    refine g_callV (As := [.ref (r 62), .int r23, .int a2]) (rest := []) hF (c_X5_stepped_r12_r62 a g r σ0 r23 a2 i0) (Nat.le_of_ble_eq_true rfl) mV_X5_stepped m_1736 (recv_ob obC_12) rfl rfl (Nat.le_of_ble_eq_true rfl) d_X5_plain_198 (k_v (fun σ24 ⟨iσ24, ik24⟩ => ?_)) (fun _ _ _ h => h.elim)
    have kp : Keep [(12, 9)] [62, 63] σ0 σ24 := keep_c kp ik24 (by decide) (by decide)
    refine g_goto hF 259 d_X5_plain_201 (by decide) ?_
    exact g_vret hF rfl d_X5_plain_259 ⟨rfl, rfl, rfl, ⟨iσ24, kp⟩⟩
  refine (Decidable.em (a1.toInt = 8)).elim (fun q25_24_7 => ?_) (fun q25_24_7 => ?_)
  · refine g_tableIn (off := 180) hF 204 d_X5_plain_24 q25_24_7 (by decide) (by decide) (by decide +kernel) (by decide) ?_
    refine g_aload_n hF d_X5_plain_204 rfl 2 rfl ?_
    refine g_aload_n hF d_X5_plain_205 rfl 2 rfl ?_
    refine g_get (v := .ref (r 63)) hF 5 obC_12 (by decide) m_677 rfl d_X5_plain_206 ?_
    refine g_aload_n hF d_X5_plain_209 rfl 2 rfl ?_
    refine g_get (v := .int (σ0 12 10)) hF 10 obC_12 (by decide) m_682 rfl d_X5_plain_210 ?_
    refine g_iload_n hF d_X5_plain_213 rfl 1 rfl ?_
    refine g_iadd hF d_X5_plain_214 ?_
    refine g_callSN (As := [.ref (r 63), .int ((σ0 12 10) + r1)]) (rest := [.ref (r 12)]) hF (c_at a g r σ0 arC_63 (by decide) ((σ0 12 10) + r1)) (Nat.le_of_ble_eq_true rfl) mS_X12_at nm_1660 rfl rfl (Nat.le_of_ble_eq_true rfl) d_X5_plain_215 (k_rop (fun r26 hr26 => ?_))
    refine g_callV (As := [.int r26]) (rest := []) hF (c_X5_push a g r σ0 r26 i0) (Nat.le_of_ble_eq_true rfl) mV_X5_push m_1686 (recv_ob obC_12) rfl rfl (Nat.le_of_ble_eq_true rfl) d_X5_plain_218 (k_v (fun σ27 ⟨iσ27, ik27⟩ => ?_)) (fun _ _ _ h => h.elim)
    have kp : Keep [(12, 9)] [62, 63] σ0 σ27 := keep_c kp ik27 (by decide) (by decide)
    refine g_goto hF 259 d_X5_plain_221 (by decide) ?_
    exact g_vret hF rfl d_X5_plain_259 ⟨rfl, rfl, rfl, ⟨iσ27, kp⟩⟩
  refine (Decidable.em (a1.toInt = 9)).elim (fun q28_24_8 => ?_) (fun q28_24_8 => ?_)
  · refine g_tableIn (off := 200) hF 224 d_X5_plain_24 q28_24_8 (by decide) (by decide) (by decide +kernel) (by decide) ?_
    refine g_aload_n hF d_X5_plain_224 rfl 2 rfl ?_
    refine g_get (v := .ref (r 63)) hF 5 obC_12 (by decide) m_677 rfl d_X5_plain_225 ?_
    refine g_aload_n hF d_X5_plain_228 rfl 2 rfl ?_
    refine g_get (v := .int (σ0 12 10)) hF 10 obC_12 (by decide) m_682 rfl d_X5_plain_229 ?_
    refine g_iload_n hF d_X5_plain_232 rfl 1 rfl ?_
    refine g_iadd hF d_X5_plain_233 ?_
    refine g_aload_n hF d_X5_plain_234 rfl 2 rfl ?_
    refine g_callV (As := []) (rest := [.int ((σ0 12 10) + r1), .ref (r 63)]) hF (c_X5_peeked a g r σ0 i0) (Nat.le_of_ble_eq_true rfl) mV_X5_peeked m_1744 (recv_ob obC_12) rfl rfl (Nat.le_of_ble_eq_true rfl) d_X5_plain_235 (k_ro (fun r29 => ?_)) (fun _ _ _ h => h.elim)
    refine g_callSN (As := [.ref (r 63), .int ((σ0 12 10) + r1), .int r29]) (rest := []) hF (c_set a g r σ0 arC_63 (by decide) ((σ0 12 10) + r1) r29) (Nat.le_of_ble_eq_true rfl) mS_X12_set nm_1661 rfl rfl (Nat.le_of_ble_eq_true rfl) d_X5_plain_238 (k_v (fun σ30 ⟨g30, eσ30, hg30⟩ => ?_))
    subst eσ30
    have kp : Keep [(12, 9)] [62, 63] σ0 (upF σ0 63 g30) := keep_F kp (by decide)
    refine g_goto hF 259 d_X5_plain_241 (by decide) ?_
    have j31 : Inv (upF σ0 63 g30) := ⟨i0.1, i0.2.1, i0.2.2.1, i0.2.2.2.1, i0.2.2.2.2.1, i0.2.2.2.2.2.1, i0.2.2.2.2.2.2.1, i0.2.2.2.2.2.2.2.1, i0.2.2.2.2.2.2.2.2.1, i0.2.2.2.2.2.2.2.2.2.1, i0.2.2.2.2.2.2.2.2.2.2.1, i0.2.2.2.2.2.2.2.2.2.2.2.1, i0.2.2.2.2.2.2.2.2.2.2.2.2.1, i0.2.2.2.2.2.2.2.2.2.2.2.2.2.1, i0.2.2.2.2.2.2.2.2.2.2.2.2.2.2.1, i0.2.2.2.2.2.2.2.2.2.2.2.2.2.2.2.1, i0.2.2.2.2.2.2.2.2.2.2.2.2.2.2.2.2.1, i0.2.2.2.2.2.2.2.2.2.2.2.2.2.2.2.2.2.1, i0.2.2.2.2.2.2.2.2.2.2.2.2.2.2.2.2.2.2.1, i0.2.2.2.2.2.2.2.2.2.2.2.2.2.2.2.2.2.2.2⟩
    exact g_vret hF rfl d_X5_plain_259 ⟨rfl, rfl, rfl, ⟨j31, kp⟩⟩
  refine g_tableOut hF 244 d_X5_plain_24 rfl (by omega) (by decide) ?_
  refine g_aload_n hF d_X5_plain_244 rfl 2 rfl ?_
  refine g_aload_n hF d_X5_plain_245 rfl 2 rfl ?_
  refine g_get (v := .ref (r 63)) hF 5 obC_12 (by decide) m_677 rfl d_X5_plain_246 ?_
  refine g_aload_n hF d_X5_plain_249 rfl 2 rfl ?_
  refine g_get (v := .int (σ0 12 10)) hF 10 obC_12 (by decide) m_682 rfl d_X5_plain_250 ?_
  refine g_iload_n hF d_X5_plain_253 rfl 1 rfl ?_
  refine g_iadd hF d_X5_plain_254 ?_
  refine g_iload_n hF d_X5_plain_255 rfl 4 rfl ?_
  refine g_callV (As := [.ref (r 63), .int ((σ0 12 10) + r1), .int a2]) (rest := []) hF (c_X5_stepped_r12_r63 a g r σ0 ((σ0 12 10) + r1) a2 i0) (Nat.le_of_ble_eq_true rfl) mV_X5_stepped m_1736 (recv_ob obC_12) rfl rfl (Nat.le_of_ble_eq_true rfl) d_X5_plain_256 (k_v (fun σ32 ⟨iσ32, ik32⟩ => ?_)) (fun _ _ _ h => h.elim)
  have kp : Keep [(12, 9)] [62, 63] σ0 σ32 := keep_c kp ik32 (by decide) (by decide)
  exact g_vret hF rfl d_X5_plain_259 ⟨rfl, rfl, rfl, ⟨iσ32, kp⟩⟩
