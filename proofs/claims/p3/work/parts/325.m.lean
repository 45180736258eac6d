set_option maxHeartbeats 4000000 in
set_option maxRecDepth 100000 in
theorem c_X3_expression (a : Nat → Nat) (g : Nat → Nat → Int32) (r : Nat → Nat) (k : Nat) (σ0 : St) (a1 : Int32) (ih : 2 ≤ k → RX a g r (k - 1)) (h1 : 1 ≤ a1.toInt) (hk : a1.toInt + (k : Int) = 26) (hgp : GPS σ0) (i0 : Inv σ0) (l : Launch) (D : va_G) (cy : Nat → ClassId) : Ct l D cy SC r (EC a g) y_X3_expression (Cond.code y_X3_expression b_X3_expression 3 none) (14 * k + 8) [.ref (r 3), .int a1] σ0 Z0 [] (QV (fun σ9 => ((GPS σ9 ∧ Mo σ9 σ0) ∧ (Inv σ9 ∧ Keep [(3, 1), (3, 2), (3, 3), (3, 4), (3, 9)] [18, 19, 20, 21, 22, 23] σ0 σ9)))) QF := by
  refine Ct_of (EC_ok a g) (by decide) (Nat.le_of_ble_eq_true rfl) (by decide) (fun X hnn hF => ?_)
  show G SC r X σ0 Z0 [] [(0, .ref (r 3)), (1, .int a1)] [] 0
  have kp : Keep [(3, 1), (3, 2), (3, 3), (3, 4), (3, 9)] [18, 19, 20, 21, 22, 23] σ0 σ0 := keep_rf
  refine g_aload_n hF d_X3_expression_0 rfl 0 rfl ?_
  refine g_iload_n hF d_X3_expression_1 rfl 1 rfl ?_
  refine g_callV (As := [.int a1]) (rest := []) hF (c_X3_choice a g r k σ0 a1 ih h1 hk hgp i0) (by omega) mV_X3_choice m_931 (recv_ob obC_3) rfl rfl (Nat.le_of_ble_eq_true rfl) d_X3_expression_2 (k_v (fun σ1 ⟨⟨hgp1, hgm1⟩, iσ1, ik1⟩ => ?_)) (fun _ _ _ h => h.elim)
  have hmo1 : Mo σ1 σ0 := fun h9 => mo_e (show σ0 3 3 = σ0 3 3 from rfl) (hgm1 h9)
  have kp : Keep [(3, 1), (3, 2), (3, 3), (3, 4), (3, 9)] [18, 19, 20, 21, 22, 23] σ0 σ1 := keep_c kp ik1 (by decide) (by decide)
  refine g_aload_n hF d_X3_expression_5 rfl 0 rfl ?_
  refine g_get (v := .int (σ1 3 1)) hF 1 obC_3 (by decide) m_95 rfl d_X3_expression_6 ?_
  refine g_istore_n hF [(2, .int (σ1 3 1)), (0, .ref (r 3)), (1, .int a1)] d_X3_expression_9 rfl hnn (by decide) rfl ?_
  refine g_aload_n hF d_X3_expression_10 rfl 1 rfl ?_
  refine g_get (v := .int (σ1 3 2)) hF 2 obC_3 (by decide) m_96 rfl d_X3_expression_11 ?_
  refine g_bipush hF (v := 30) d_X3_expression_14 (by decide) ?_
  refine g_icmp_lt (yv := 30) hF 63 d_X3_expression_16 (by decide) rfl (by decide) (fun c2_16 => ?_) (fun c2_16 => ?_)
  · -- taken at 16
    exact g_vret hF rfl d_X3_expression_63 ⟨rfl, rfl, rfl, ⟨⟨hgp1, (fun h9 => (hmo1 (mo_e (show σ1 3 3 = σ1 3 3 from rfl) h9)))⟩, iσ1, kp⟩⟩
  · -- not taken at 16
    refine g_aload_n hF d_X3_expression_19 rfl 1 rfl ?_
    refine g_get (v := .int (σ1 3 2)) hF 2 obC_3 (by decide) m_96 rfl d_X3_expression_20 ?_
    refine g_bipush hF (v := 40) d_X3_expression_23 (by decide) ?_
    refine g_icmp_gt (yv := 40) hF 63 d_X3_expression_25 (by decide) rfl (by decide) (fun c3_25 => ?_) (fun c3_25 => ?_)
    · -- taken at 25
      exact g_vret hF rfl d_X3_expression_63 ⟨rfl, rfl, rfl, ⟨⟨hgp1, (fun h9 => (hmo1 (mo_e (show σ1 3 3 = σ1 3 3 from rfl) h9)))⟩, iσ1, kp⟩⟩
    · -- not taken at 25
      refine g_aload_n hF d_X3_expression_28 rfl 1 rfl ?_
      refine g_iload_n hF d_X3_expression_29 rfl 2 rfl ?_
      refine g_callV (As := [.int a1]) (rest := []) hF (c_X3_deeper a g r σ1 a1 hgp1 (by show ¬ ((σ1 3 2).toInt = 0 ∨ (σ1 3 2).toInt = -1); have e0 := s_rng a1; have e1 := s_rng (σ1 3 2); have e2 := s_rng (σ0 3 2); have e3 : (1 : Int32).toInt = 1 := (by decide); have e4 : (30 : Int32).toInt = 30 := (by decide); have e5 : (40 : Int32).toInt = 40 := (by decide); omega) iσ1) (Nat.le_of_ble_eq_true rfl) mV_X3_deeper m_943 (recv_ob obC_3) rfl rfl (Nat.le_of_ble_eq_true rfl) d_X3_expression_30 (k_i (fun r4 σ4 ⟨hz4, hp4, ⟨hgp4, hgm4⟩, iσ4, ik4⟩ => ?_)) (fun _ _ _ h => h.elim)
      have hmo4 : Mo σ4 σ1 := fun h9 => mo_e (show σ1 3 3 = σ1 3 3 from rfl) (hgm4 h9)
      have kp : Keep [(3, 1), (3, 2), (3, 3), (3, 4), (3, 9)] [18, 19, 20, 21, 22, 23] σ0 σ4 := keep_c kp ik4 (by decide) (by decide)
      refine g_if_eq hF 63 d_X3_expression_33 (by decide) rfl (fun c5_33 => ?_) (fun c5_33 => ?_)
      · -- taken at 33
        exact g_vret hF rfl d_X3_expression_63 ⟨rfl, rfl, rfl, ⟨⟨hgp4, (fun h9 => (hmo1 (hmo4 (mo_e (show σ4 3 3 = σ4 3 3 from rfl) h9))))⟩, iσ4, kp⟩⟩
      · -- not taken at 33
        refine g_aload_n hF d_X3_expression_36 rfl 1 rfl ?_
        refine g_bipush hF (v := 7) d_X3_expression_37 (by decide) ?_
        refine g_iload_n hF d_X3_expression_39 rfl 0 rfl ?_
        refine g_iconst hF (v := 0) d_X3_expression_40 (by decide) ?_
        refine g_iconst hF (v := 0) d_X3_expression_41 (by decide) ?_
        refine g_callV (As := [.int 7, .int (σ1 3 1), .int 0, .int 0]) (rest := []) hF (c_X3_add a g r σ4 (7 : Int32) (σ1 3 1) (0 : Int32) (0 : Int32) (fun h9 => absurd h9 (by decide)) hgp4 iσ4) (Nat.le_of_ble_eq_true rfl) mV_X3_add m_923 (recv_ob obC_3) rfl rfl (Nat.le_of_ble_eq_true rfl) d_X3_expression_42 (k_i (fun r6 σ6 ⟨⟨hgp6, hgm6⟩, iσ6, ik6⟩ => ?_)) (fun _ _ _ h => h.elim)
        have hmo6 : Mo σ6 σ4 := fun h9 => mo_e (show σ4 3 3 = σ4 3 3 from rfl) (hgm6 h9)
        have kp : Keep [(3, 1), (3, 2), (3, 3), (3, 4), (3, 9)] [18, 19, 20, 21, 22, 23] σ0 σ6 := keep_c kp ik6 (by decide) (by decide)
        refine g_pop hF d_X3_expression_45 rfl ?_
        refine g_aload_n hF d_X3_expression_46 rfl 1 rfl ?_
        refine g_iload_n hF d_X3_expression_47 rfl 2 rfl ?_
        refine g_iconst hF (v := 1) d_X3_expression_48 (by decide) ?_
        refine g_iadd hF d_X3_expression_49 ?_
        refine g_callV (As := [.int (a1 + 1)]) (rest := []) hF (((ih (by have e0 := s_rng a1; have e1 : (1 : Int32).toInt = 1 := (by decide); obtain ⟨k2, e2⟩ := s_add a1 (1 : Int32); have e2a := s_rng (a1 + 1); have e4 := s_rng r4; have e5 : (0 : Int32).toInt = 0 := (by decide); omega)) σ6 (a1 + 1) (by have e0 := s_rng a1; have e1 : (1 : Int32).toInt = 1 := (by decide); obtain ⟨k2, e2⟩ := s_add a1 (1 : Int32); have e2a := s_rng (a1 + 1); have e4 := s_rng r4; have e5 : (0 : Int32).toInt = 0 := (by decide); omega) (by have e0 := s_rng a1; have e1 : (1 : Int32).toInt = 1 := (by decide); obtain ⟨k2, e2⟩ := s_add a1 (1 : Int32); have e2a := s_rng (a1 + 1); have e4 := s_rng r4; have e5 : (0 : Int32).toInt = 0 := (by decide); omega) iσ6 hgp6).1) (by have : 2 ≤ k := (by have e0 := s_rng a1; have e1 : (1 : Int32).toInt = 1 := (by decide); obtain ⟨k2, e2⟩ := s_add a1 (1 : Int32); have e2a := s_rng (a1 + 1); have e4 := s_rng r4; have e5 : (0 : Int32).toInt = 0 := (by decide); omega); omega) mV_X3_expression m_927 (recv_ob obC_3) rfl rfl (Nat.le_of_ble_eq_true rfl) d_X3_expression_50 (k_v (fun σ7 ⟨⟨hgp7, hgm7⟩, iσ7, ik7⟩ => ?_)) (fun _ _ _ h => h.elim)
        have hmo7 : Mo σ7 σ4 := fun h9 => mo_e (show σ6 3 3 = σ4 3 3 from (ik6 3 3 rfl rfl rfl)) (hgm7 h9)
        have kp : Keep [(3, 1), (3, 2), (3, 3), (3, 4), (3, 9)] [18, 19, 20, 21, 22, 23] σ0 σ7 := keep_c kp ik7 (by decide) (by decide)
        refine g_aload_n hF d_X3_expression_53 rfl 1 rfl ?_
        refine g_bipush hF (v := 9) d_X3_expression_54 (by decide) ?_
        refine g_iload_n hF d_X3_expression_56 rfl 0 rfl ?_
        refine g_iconst hF (v := 0) d_X3_expression_57 (by decide) ?_
        refine g_iconst hF (v := 0) d_X3_expression_58 (by decide) ?_
        refine g_callV (As := [.int 9, .int (σ1 3 1), .int 0, .int 0]) (rest := []) hF (c_X3_add a g r σ7 (9 : Int32) (σ1 3 1) (0 : Int32) (0 : Int32) (fun h9 => absurd h9 (by decide)) hgp7 iσ7) (Nat.le_of_ble_eq_true rfl) mV_X3_add m_923 (recv_ob obC_3) rfl rfl (Nat.le_of_ble_eq_true rfl) d_X3_expression_59 (k_i (fun r8 σ8 ⟨⟨hgp8, hgm8⟩, iσ8, ik8⟩ => ?_)) (fun _ _ _ h => h.elim)
        have hmo8 : Mo σ8 σ7 := fun h9 => mo_e (show σ7 3 3 = σ7 3 3 from rfl) (hgm8 h9)
        have kp : Keep [(3, 1), (3, 2), (3, 3), (3, 4), (3, 9)] [18, 19, 20, 21, 22, 23] σ0 σ8 := keep_c kp ik8 (by decide) (by decide)
        refine g_pop hF d_X3_expression_62 rfl ?_
        exact g_vret hF rfl d_X3_expression_63 ⟨rfl, rfl, rfl, ⟨⟨hgp8, (fun h9 => (hmo1 (hmo4 (hmo7 (mo_e (show σ8 3 3 = σ7 3 3 from (ik8 3 3 rfl rfl rfl)) h9)))))⟩, iσ8, kp⟩⟩
theorem RX_all (a : Nat → Nat) (g : Nat → Nat → Int32) (r : Nat → Nat) (k : Nat) : RX a g r k := by
  induction k with
  | zero =>
    intro σ0 z h1 hk i0 hgp
    have ih : 2 ≤ 0 → RX a g r (0 - 1) := fun h => absurd h (by decide)
    exact ⟨c_X3_expression a g r 0 σ0 z ih h1 hk hgp i0, c_X3_choice a g r 0 σ0 z ih h1 hk hgp i0, c_X3_unary a g r 0 σ0 z ih h1 hk hgp i0⟩
  | succ k ihk =>
    intro σ0 z h1 hk i0 hgp
    have ih : 2 ≤ k + 1 → RX a g r (k + 1 - 1) := fun _ => ihk
    exact ⟨c_X3_expression a g r (k + 1) σ0 z ih h1 hk hgp i0, c_X3_choice a g r (k + 1) σ0 z ih h1 hk hgp i0, c_X3_unary a g r (k + 1) σ0 z ih h1 hk hgp i0⟩
set_option maxHeartbeats 4000000 in
set_option maxRecDepth 100000 in
theorem c_X10_isNext_r2_s0 (a : Nat → Nat) (g : Nat → Nat → Int32) (r : Nat → Nat) (σ0 : St) (a2 : Int32) (a3 : Int32) (hpre : 0 ≤ a2.toInt ∧ a2.toInt ≤ 1000) (i0 : Inv σ0) (l : Launch) (D : va_G) (cy : Nat → ClassId) : Ct l D cy SC r (EC a g) y_X10_isNext (Cond.code y_X10_isNext b_X10_isNext 5 (some .boolean)) 4 [.ref (r 2), .ref (a 2), .int a2, .int a3] σ0 Z0 [] (QI (fun v9 σ9 => (v9 = 0 ∨ v9 = 1) ∧ σ9 = σ0)) QF := by
  refine Ct_of (EC_ok a g) (by decide) (Nat.le_of_ble_eq_true rfl) (by decide) (fun X hnn hF => ?_)
  show G SC r X σ0 Z0 [] [(0, .ref (r 2)), (1, .ref (a 2)), (2, .int a2), (3, .int a3)] [] 0
  have b3 : ∀ (N : Nat) (x2 : Int32) (x3 : Int32) (x4 : Int32) , upm x4 = N → (0 ≤ x2.toInt ∧ x2.toInt ≤ 1000 ∧ 0 ≤ x4.toInt ∧ x4.toInt ≤ 1000) → G SC r X σ0 Z0 [] [(0, .ref (r 2)), (1, .ref (a 2)), (2, .int x2), (3, .int x3), (4, .int x4)] [] 3 := by
    intro M3
    induction M3 using Nat.strongRecOn with
    | _ M3 ih3 =>
      intro x2 x3 x4 N3 hj
      refine g_iload hF d_X10_isNext_3 4 rfl ?_
      refine g_iload_n hF d_X10_isNext_5 rfl 3 rfl ?_
      refine g_icmp_ge hF 50 d_X10_isNext_6 (by decide) rfl rfl (fun c1_6 => ?_) (fun c1_6 => ?_)
      · -- taken at 6
        refine g_iconst hF (v := 1) d_X10_isNext_50 (by decide) ?_
        exact g_zret hF rfl (k_nz (Or.inr rfl)) d_X10_isNext_51 ⟨rfl, rfl, (1 : Int32), rfl, (Or.inr rfl), rfl⟩
      · -- not taken at 6
        refine g_iload_n hF d_X10_isNext_9 rfl 2 rfl ?_
        refine g_iload hF d_X10_isNext_10 4 rfl ?_
        refine g_iadd hF d_X10_isNext_12 ?_
        refine g_aload_n hF d_X10_isNext_13 rfl 1 rfl ?_
        refine g_callV (As := []) (rest := [.int (x2 + x4)]) hF (t_len (EC_ok a g) (fun A s h => EC_s0 h) (by decide)) (Nat.le_of_ble_eq_true rfl) mV_String_length m_848 (recv_str (fun A s h => EC_s0 h)) rfl rfl (Nat.le_of_ble_eq_true rfl) d_X10_isNext_14 (k_sv ?_) (fun _ _ _ h => h.elim)
        refine g_top (v := 66) (by decide) ?_
        refine g_icmp_ge (yv := 66) hF 42 d_X10_isNext_17 (by decide) rfl (by decide) (fun c3_17 => ?_) (fun c3_17 => ?_)
        · -- taken at 17
          refine g_iconst hF (v := 0) d_X10_isNext_42 (by decide) ?_
          exact g_zret hF rfl (k_nz (Or.inl rfl)) d_X10_isNext_43 ⟨rfl, rfl, (0 : Int32), rfl, (Or.inl rfl), rfl⟩
        · -- not taken at 17
          refine g_aload_n hF d_X10_isNext_20 rfl 1 rfl ?_
          refine g_iload_n hF d_X10_isNext_21 rfl 2 rfl ?_
          refine g_iload hF d_X10_isNext_22 4 rfl ?_
          refine g_iadd hF d_X10_isNext_24 ?_
          refine g_callV (As := [.int (x2 + x4)]) (rest := []) hF (t_ch (EC_ok a g) (fun A s h => EC_s0 h) (by decide) (by decide) (x2 + x4) (by have e0 := s_rng x2; have e1 := s_rng x4; obtain ⟨k2, e2⟩ := s_add x2 x4; have e2a := s_rng (x2 + x4); have e4 := s_rng x3; have e5 : (66 : Int32).toInt = 66 := (by decide); omega) (by have e0 := s_rng x2; have e1 := s_rng x4; obtain ⟨k2, e2⟩ := s_add x2 x4; have e2a := s_rng (x2 + x4); have e4 := s_rng x3; have e5 : (66 : Int32).toInt = 66 := (by decide); omega)) (Nat.le_of_ble_eq_true rfl) mV_String_charAt m_849 (recv_str (fun A s h => EC_s0 h)) rfl rfl (Nat.le_of_ble_eq_true rfl) d_X10_isNext_25 (k_sx (fun r5 => ?_)) (fun _ _ _ h => h.elim)
          refine g_aload_n hF d_X10_isNext_28 rfl 0 rfl ?_
          refine g_aload_n hF d_X10_isNext_29 rfl 0 rfl ?_
          refine g_get (v := .int (σ0 2 2)) hF 2 obC_2 (by decide) m_44 rfl d_X10_isNext_30 ?_
          refine g_iload hF d_X10_isNext_33 4 rfl ?_
          refine g_iadd hF d_X10_isNext_35 ?_
          refine g_callV (As := [.int ((σ0 2 2) + x4)]) (rest := [.int r5]) hF (c_X10_byteAt a g r σ0 ((σ0 2 2) + x4) i0) (Nat.le_of_ble_eq_true rfl) mV_X10_byteAt m_806 (recv_ob obC_2) rfl rfl (Nat.le_of_ble_eq_true rfl) d_X10_isNext_36 (k_rop (fun r6 hp6 => ?_)) (fun _ _ _ h => h.elim)
          have hp6 : 0 ≤ r6.toInt → (0 ≤ ((σ0 2 2) + x4).toInt ∧ ((σ0 2 2) + x4).toInt < 16000) := hp6
          refine g_icmp_eq hF 44 d_X10_isNext_39 (by decide) rfl rfl (fun c7_39 => ?_) (fun c7_39 => ?_)
          · -- taken at 39
            refine g_iinc hF (x4 + 1) [(4, .int (x4 + 1)), (0, .ref (r 2)), (1, .ref (a 2)), (2, .int x2), (3, .int x3)] d_X10_isNext_44 4 rfl rfl hnn (by decide) rfl ?_
            refine g_goto hF 3 d_X10_isNext_47 (by decide) ?_
            exact g_sub (L' := [(0, .ref (r 2)), (1, .ref (a 2)), (2, .int x2), (3, .int x3), (4, .int (x4 + 1))]) [1, 2, 3, 4, 0] rfl (ih3 _ (N3 ▸ upm_lt c1_6 (s_rng x3).2) x2 x3 (x4 + 1) rfl (by show 0 ≤ x2.toInt ∧ x2.toInt ≤ 1000 ∧ 0 ≤ (x4 + 1).toInt ∧ (x4 + 1).toInt ≤ 1000; have e0 := s_rng x4; have e1 : (1 : Int32).toInt = 1 := (by decide); obtain ⟨k2, e2⟩ := s_add x4 (1 : Int32); have e2a := s_rng (x4 + 1); have e4 := s_rng x2; have e5 := s_rng x3; obtain ⟨k6, e6⟩ := s_add x2 x4; have e6a := s_rng (x2 + x4); have e8 : (66 : Int32).toInt = 66 := (by decide); have e9 := s_rng r6; have e10 := s_rng (σ0 2 2); have e11 := i0.2.2.2.2.1; obtain ⟨k12, e12⟩ := s_add (σ0 2 2) x4; have e12a := s_rng ((σ0 2 2) + x4); have e14 := s_rng r5; omega))
          · -- not taken at 39
            refine g_iconst hF (v := 0) d_X10_isNext_42 (by decide) ?_
            exact g_zret hF rfl (k_nz (Or.inl rfl)) d_X10_isNext_43 ⟨rfl, rfl, (0 : Int32), rfl, (Or.inl rfl), rfl⟩
  refine g_iconst hF (v := 0) d_X10_isNext_0 (by decide) ?_
  refine g_istore hF [(4, .int 0), (0, .ref (r 2)), (1, .ref (a 2)), (2, .int a2), (3, .int a3)] d_X10_isNext_1 hnn (by decide) rfl ?_
  exact g_sub (L' := [(0, .ref (r 2)), (1, .ref (a 2)), (2, .int a2), (3, .int a3), (4, .int 0)]) [1, 2, 3, 4, 0] rfl (b3 _ a2 a3 (0 : Int32) rfl (by show 0 ≤ a2.toInt ∧ a2.toInt ≤ 1000 ∧ 0 ≤ 0 ∧ 0 ≤ 1000; have e0 : (0 : Int32).toInt = 0 := (by decide); have e1 := s_rng a2; have e2 := s_rng a3; omega))
set_option maxHeartbeats 4000000 in
set_option maxRecDepth 100000 in
theorem c_X3_bracket (a : Nat → Nat) (g : Nat → Nat → Int32) (r : Nat → Nat) (σ0 : St) (hgp : GPS σ0) (hpre : ¬ ((σ0 3 2).toInt = 0 ∨ (σ0 3 2).toInt = -1)) (i0 : Inv σ0) (l : Launch) (D : va_G) (cy : Nat → ClassId) : Ct l D cy SC r (EC a g) y_X3_bracket (Cond.code y_X3_bracket b_X3_bracket 4 (some .int)) 359 [.ref (r 3)] σ0 Z0 [] (QI (fun v9 σ9 => ((GPS σ9 ∧ Mo σ9 σ0) ∧ (Inv σ9 ∧ Keep [(3, 1), (3, 2), (3, 3), (3, 4), (3, 9)] [18, 19, 20, 21, 22, 23] σ0 σ9)))) QF := by
  refine Ct_of (EC_ok a g) (by decide) (Nat.le_of_ble_eq_true rfl) (by decide) (fun X hnn hF => ?_)
  show G SC r X σ0 Z0 [] [(0, .ref (r 3))] [] 0
  have kp : Keep [(3, 1), (3, 2), (3, 3), (3, 4), (3, 9)] [18, 19, 20, 21, 22, 23] σ0 σ0 := keep_rf
  refine g_aload_n hF d_X3_bracket_0 rfl 0 rfl ?_
  refine g_get (v := .int (σ0 3 1)) hF 1 obC_3 (by decide) m_95 rfl d_X3_bracket_1 ?_
  refine g_istore_n hF [(1, .int (σ0 3 1)), (0, .ref (r 3))] d_X3_bracket_4 rfl hnn (by decide) rfl ?_
  refine g_aload_n hF d_X3_bracket_5 rfl 1 rfl ?_
  refine g_callV (As := []) (rest := []) hF (c_X3_advance a g r σ0 hgp.2.2 (by show -1 ≤ (σ0 3 1).toInt ∧ (σ0 3 1).toInt ≤ 16001; have hki := hgp.2.1.1; have hgz := hgp.1; have e0 := s_rng (σ0 3 1); omega) i0) (Nat.le_of_ble_eq_true rfl) mV_X3_advance m_899 (recv_ob obC_3) rfl rfl (Nat.le_of_ble_eq_true rfl) d_X3_bracket_6 (k_v (fun σ1 ⟨⟨hgp1, hgm1⟩, hs1, iσ1, ik1⟩ => ?_)) (fun _ _ _ h => h.elim)
  have hs1 : (σ1 3 1).toInt = (σ0 3 1).toInt + 1 := hs1
  have hmo1 : Mo σ1 σ0 := fun h9 => mo_e (show σ0 3 3 = σ0 3 3 from rfl) (hgm1 h9)
  have kp : Keep [(3, 1), (3, 2), (3, 3), (3, 4), (3, 9)] [18, 19, 20, 21, 22, 23] σ0 σ1 := keep_c kp ik1 (by decide) (by decide)
  refine g_aload_n hF d_X3_bracket_9 rfl 1 rfl ?_
  refine g_get (v := .int (σ1 3 2)) hF 2 obC_3 (by decide) m_96 rfl d_X3_bracket_10 ?_
  refine g_bipush hF (v := 25) d_X3_bracket_13 (by decide) ?_
  refine g_icmp_eq (yv := 25) hF 22 d_X3_bracket_15 (by decide) rfl (by decide) (fun c2_15 => ?_) (fun c2_15 => ?_)
  · -- taken at 15
    refine g_iconst hF (v := 0) d_X3_bracket_22 (by decide) ?_
    refine g_istore_n hF [(2, .int 0), (1, .int (σ0 3 1)), (0, .ref (r 3))] d_X3_bracket_23 rfl hnn (by decide) rfl ?_
    refine g_iload_n hF d_X3_bracket_24 rfl 0 rfl ?_
    refine g_if_eq (xv := 0) hF 60 d_X3_bracket_25 (by decide) (by decide) (fun _ => ?_) (fun c_25 => absurd c_25 (by decide))
    refine g_aload_n hF d_X3_bracket_60 rfl 2 rfl ?_
    refine g_bipush hF (v := 25) d_X3_bracket_61 (by decide) ?_
    refine g_callV (As := [.int 25]) (rest := []) hF (c_X3_expect a g r σ1 (25 : Int32) hgp1 (by show ¬ (25 = 0 ∨ 25 = -1); have e0 : (25 : Int32).toInt = 25 := (by decide); have e1 := s_rng (σ1 3 2); omega) iσ1) (Nat.le_of_ble_eq_true rfl) mV_X3_expect m_903 (recv_ob obC_3) rfl rfl (Nat.le_of_ble_eq_true rfl) d_X3_bracket_63 (k_v (fun σ3 ⟨⟨hgp3, hgm3⟩, hs3, iσ3, ik3⟩ => ?_)) (fun _ _ _ h => h.elim)
    have hs3 : (σ3 3 3).toInt < 0 → (σ1 3 2).toInt = 25 := hs3
    have hmo3 : Mo σ3 σ0 := fun h9 => mo_e (show σ1 3 3 = σ0 3 3 from (ik1 3 3 rfl rfl rfl)) (hgm3 h9)
    have kp : Keep [(3, 1), (3, 2), (3, 3), (3, 4), (3, 9)] [18, 19, 20, 21, 22, 23] σ0 σ3 := keep_c kp ik3 (by decide) (by decide)
    refine g_aload_n hF d_X3_bracket_66 rfl 2 rfl ?_
    refine g_bipush hF (v := 42) d_X3_bracket_67 (by decide) ?_
    refine g_iload_n hF d_X3_bracket_69 rfl 1 rfl ?_
    refine g_iload_n hF d_X3_bracket_70 rfl 0 rfl ?_
    refine g_if_eq (xv := 0) hF 78 d_X3_bracket_71 (by decide) (by decide) (fun _ => ?_) (fun c_71 => absurd c_71 (by decide))
    refine g_iconst hF (v := 0) d_X3_bracket_78 (by decide) ?_
    refine g_iconst hF (v := 0) d_X3_bracket_79 (by decide) ?_
    refine g_callV (As := [.int 42, .int (σ0 3 1), .int 0, .int 0]) (rest := []) hF (c_X3_add a g r σ3 (42 : Int32) (σ0 3 1) (0 : Int32) (0 : Int32) (fun h9 => absurd h9 (by decide)) hgp3 iσ3) (Nat.le_of_ble_eq_true rfl) mV_X3_add m_923 (recv_ob obC_3) rfl rfl (Nat.le_of_ble_eq_true rfl) d_X3_bracket_80 (k_i (fun r4 σ4 ⟨⟨hgp4, hgm4⟩, iσ4, ik4⟩ => ?_)) (fun _ _ _ h => h.elim)
    have hmo4 : Mo σ4 σ3 := fun h9 => mo_e (show σ3 3 3 = σ3 3 3 from rfl) (hgm4 h9)
    have kp : Keep [(3, 1), (3, 2), (3, 3), (3, 4), (3, 9)] [18, 19, 20, 21, 22, 23] σ0 σ4 := keep_c kp ik4 (by decide) (by decide)
    exact g_iret hF rfl d_X3_bracket_83 ⟨rfl, rfl, r4, rfl, ⟨⟨hgp4, (fun h9 => (hmo3 (mo_e (show σ4 3 3 = σ3 3 3 from (ik4 3 3 rfl rfl rfl)) h9)))⟩, iσ4, kp⟩⟩
  · -- not taken at 15
    refine g_iconst hF (v := 1) d_X3_bracket_18 (by decide) ?_
    refine g_goto hF 23 d_X3_bracket_19 (by decide) ?_
    refine g_istore_n hF [(2, .int 1), (1, .int (σ0 3 1)), (0, .ref (r 3))] d_X3_bracket_23 rfl hnn (by decide) rfl ?_
    refine g_iload_n hF d_X3_bracket_24 rfl 0 rfl ?_
    refine g_if_eq (xv := 1) hF 60 d_X3_bracket_25 (by decide) (by decide) (fun c_25 => absurd c_25 (by decide)) (fun _ => ?_)
    refine g_aload_n hF d_X3_bracket_28 rfl 2 rfl ?_
    refine g_bipush hF (v := 40) d_X3_bracket_29 (by decide) ?_
    refine g_iload_n hF d_X3_bracket_31 rfl 1 rfl ?_
    refine g_iconst hF (v := 0) d_X3_bracket_32 (by decide) ?_
    refine g_iconst hF (v := 0) d_X3_bracket_33 (by decide) ?_
    refine g_callV (As := [.int 40, .int (σ0 3 1), .int 0, .int 0]) (rest := []) hF (c_X3_add a g r σ1 (40 : Int32) (σ0 3 1) (0 : Int32) (0 : Int32) (fun h9 => absurd h9 (by decide)) hgp1 iσ1) (Nat.le_of_ble_eq_true rfl) mV_X3_add m_923 (recv_ob obC_3) rfl rfl (Nat.le_of_ble_eq_true rfl) d_X3_bracket_34 (k_i (fun r5 σ5 ⟨⟨hgp5, hgm5⟩, iσ5, ik5⟩ => ?_)) (fun _ _ _ h => h.elim)
    have hmo5 : Mo σ5 σ0 := fun h9 => mo_e (show σ1 3 3 = σ0 3 3 from (ik1 3 3 rfl rfl rfl)) (hgm5 h9)
    have kp : Keep [(3, 1), (3, 2), (3, 3), (3, 4), (3, 9)] [18, 19, 20, 21, 22, 23] σ0 σ5 := keep_c kp ik5 (by decide) (by decide)
    refine g_istore_n hF [(3, .int r5), (2, .int 1), (1, .int (σ0 3 1)), (0, .ref (r 3))] d_X3_bracket_37 rfl hnn (by decide) rfl ?_
    refine g_aload_n hF d_X3_bracket_38 rfl 3 rfl ?_
    refine g_iconst hF (v := 1) d_X3_bracket_39 (by decide) ?_
    refine g_callV (As := [.int 1]) (rest := []) hF ((RX_all a g r 25 σ5 1 (by decide) (by decide) iσ5 hgp5).1) (Nat.le_of_ble_eq_true rfl) mV_X3_expression m_927 (recv_ob obC_3) rfl rfl (Nat.le_of_ble_eq_true rfl) d_X3_bracket_40 (k_v (fun σ6 ⟨⟨hgp6, hgm6⟩, iσ6, ik6⟩ => ?_)) (fun _ _ _ h => h.elim)
    have hmo6 : Mo σ6 σ0 := fun h9 => mo_e (show σ5 3 3 = σ0 3 3 from ((ik5 3 3 rfl rfl rfl).trans (ik1 3 3 rfl rfl rfl))) (hgm6 h9)
    have kp : Keep [(3, 1), (3, 2), (3, 3), (3, 4), (3, 9)] [18, 19, 20, 21, 22, 23] σ0 σ6 := keep_c kp ik6 (by decide) (by decide)
    refine g_aload_n hF d_X3_bracket_43 rfl 3 rfl ?_
    refine g_get (v := .ref (r 20)) hF 7 obC_3 (by decide) m_108 rfl d_X3_bracket_44 ?_
    refine g_iload_n hF d_X3_bracket_47 rfl 0 rfl ?_
    refine g_aload_n hF d_X3_bracket_48 rfl 3 rfl ?_
    refine g_bipush hF (v := 41) d_X3_bracket_49 (by decide) ?_
    refine g_iload_n hF d_X3_bracket_51 rfl 2 rfl ?_
    refine g_iconst hF (v := 0) d_X3_bracket_52 (by decide) ?_
    refine g_iconst hF (v := 0) d_X3_bracket_53 (by decide) ?_
    refine g_callV (As := [.int 41, .int (σ0 3 1), .int 0, .int 0]) (rest := [.int r5, .ref (r 20)]) hF (c_X3_add a g r σ6 (41 : Int32) (σ0 3 1) (0 : Int32) (0 : Int32) (fun h9 => absurd h9 (by decide)) hgp6 iσ6) (Nat.le_of_ble_eq_true rfl) mV_X3_add m_923 (recv_ob obC_3) rfl rfl (Nat.le_of_ble_eq_true rfl) d_X3_bracket_54 (k_i (fun r7 σ7 ⟨⟨hgp7, hgm7⟩, iσ7, ik7⟩ => ?_)) (fun _ _ _ h => h.elim)
    have hmo7 : Mo σ7 σ6 := fun h9 => mo_e (show σ6 3 3 = σ6 3 3 from rfl) (hgm7 h9)
    have kp : Keep [(3, 1), (3, 2), (3, 3), (3, 4), (3, 9)] [18, 19, 20, 21, 22, 23] σ0 σ7 := keep_c kp ik7 (by decide) (by decide)
    refine g_callSN (As := [.ref (r 20), .int r5, .int r7]) (rest := []) hF (c_set a g r σ7 arC_20 (by decide) r5 r7) (Nat.le_of_ble_eq_true rfl) mS_X12_set nm_979 rfl rfl (Nat.le_of_ble_eq_true rfl) d_X3_bracket_57 (k_v (fun σ8 ⟨g8, eσ8, hg8⟩ => ?_))
    subst eσ8
    have kp : Keep [(3, 1), (3, 2), (3, 3), (3, 4), (3, 9)] [18, 19, 20, 21, 22, 23] σ0 (upF σ7 20 g8) := keep_F kp (by decide)
    refine g_aload_n hF d_X3_bracket_60 rfl 3 rfl ?_
    refine g_bipush hF (v := 25) d_X3_bracket_61 (by decide) ?_
    have j10 : Inv (upF σ7 20 g8) := ⟨iσ7.1, iσ7.2.1, iσ7.2.2.1, iσ7.2.2.2.1, iσ7.2.2.2.2.1, iσ7.2.2.2.2.2.1, iσ7.2.2.2.2.2.2.1, iσ7.2.2.2.2.2.2.2.1, iσ7.2.2.2.2.2.2.2.2.1, iσ7.2.2.2.2.2.2.2.2.2.1, iσ7.2.2.2.2.2.2.2.2.2.2.1, iσ7.2.2.2.2.2.2.2.2.2.2.2.1, iσ7.2.2.2.2.2.2.2.2.2.2.2.2.1, iσ7.2.2.2.2.2.2.2.2.2.2.2.2.2.1, iσ7.2.2.2.2.2.2.2.2.2.2.2.2.2.2.1, iσ7.2.2.2.2.2.2.2.2.2.2.2.2.2.2.2.1, iσ7.2.2.2.2.2.2.2.2.2.2.2.2.2.2.2.2.1, iσ7.2.2.2.2.2.2.2.2.2.2.2.2.2.2.2.2.2.1, iσ7.2.2.2.2.2.2.2.2.2.2.2.2.2.2.2.2.2.2.1, iσ7.2.2.2.2.2.2.2.2.2.2.2.2.2.2.2.2.2.2.2⟩
    refine g_callV (As := [.int 25]) (rest := []) hF (c_X3_expect a g r (upF σ7 20 g8) (25 : Int32) hgp7 (by show ¬ (25 = 0 ∨ 25 = -1); have e0 : (25 : Int32).toInt = 25 := (by decide); have e1 := s_rng (σ1 3 2); omega) j10) (Nat.le_of_ble_eq_true rfl) mV_X3_expect m_903 (recv_ob obC_3) rfl rfl (Nat.le_of_ble_eq_true rfl) d_X3_bracket_63 (k_v (fun σ9 ⟨⟨hgp9, hgm9⟩, hs9, iσ9, ik9⟩ => ?_)) (fun _ _ _ h => h.elim)
    have hs9 : (σ9 3 3).toInt < 0 → (σ6 3 2).toInt = 25 := (by have h9 := hs9; rw [show ((upF σ7 20 g8) 3 2) = (σ6 3 2) from (ik7 3 2 rfl rfl rfl)] at h9; exact h9)
    have hmo9 : Mo σ9 σ6 := fun h9 => mo_e (show (upF σ7 20 g8) 3 3 = σ6 3 3 from (ik7 3 3 rfl rfl rfl)) (hgm9 h9)
    have kp : Keep [(3, 1), (3, 2), (3, 3), (3, 4), (3, 9)] [18, 19, 20, 21, 22, 23] σ0 σ9 := keep_c kp ik9 (by decide) (by decide)
    refine g_aload_n hF d_X3_bracket_66 rfl 3 rfl ?_
    refine g_bipush hF (v := 42) d_X3_bracket_67 (by decide) ?_
    refine g_iload_n hF d_X3_bracket_69 rfl 2 rfl ?_
    refine g_iload_n hF d_X3_bracket_70 rfl 1 rfl ?_
    refine g_if_eq (xv := 1) hF 78 d_X3_bracket_71 (by decide) (by decide) (fun c_71 => absurd c_71 (by decide)) (fun _ => ?_)
    refine g_iconst hF (v := 1) d_X3_bracket_74 (by decide) ?_
    refine g_goto hF 79 d_X3_bracket_75 (by decide) ?_
    refine g_iconst hF (v := 0) d_X3_bracket_79 (by decide) ?_
    refine g_callV (As := [.int 42, .int (σ0 3 1), .int 1, .int 0]) (rest := []) hF (c_X3_add a g r σ9 (42 : Int32) (σ0 3 1) (1 : Int32) (0 : Int32) (fun h9 => absurd h9 (by decide)) hgp9 iσ9) (Nat.le_of_ble_eq_true rfl) mV_X3_add m_923 (recv_ob obC_3) rfl rfl (Nat.le_of_ble_eq_true rfl) d_X3_bracket_80 (k_i (fun r11 σ11 ⟨⟨hgp11, hgm11⟩, iσ11, ik11⟩ => ?_)) (fun _ _ _ h => h.elim)
    have hmo11 : Mo σ11 σ9 := fun h9 => mo_e (show σ9 3 3 = σ9 3 3 from rfl) (hgm11 h9)
    have kp : Keep [(3, 1), (3, 2), (3, 3), (3, 4), (3, 9)] [18, 19, 20, 21, 22, 23] σ0 σ11 := keep_c kp ik11 (by decide) (by decide)
    exact g_iret hF rfl d_X3_bracket_83 ⟨rfl, rfl, r11, rfl, ⟨⟨hgp11, (fun h9 => (hmo6 (hmo9 (mo_e (show σ11 3 3 = σ9 3 3 from (ik11 3 3 rfl rfl rfl)) h9))))⟩, iσ11, kp⟩⟩
set_option maxHeartbeats 4000000 in
set_option maxRecDepth 100000 in
theorem c_X3_initial (a : Nat → Nat) (g : Nat → Nat → Int32) (r : Nat → Nat) (σ0 : St) (a1 : Int32) (a2 : Int32) (hgp : GPS σ0) (hpre : ¬ ((σ0 3 2).toInt = 0 ∨ (σ0 3 2).toInt = -1)) (i0 : Inv σ0) (l : Launch) (D : va_G) (cy : Nat → ClassId) : Ct l D cy SC r (EC a g) y_X3_initial (Cond.code y_X3_initial b_X3_initial 8 none) 359 [.ref (r 3), .int a1, .int a2] σ0 Z0 [] (QV (fun σ9 => ((GPS σ9 ∧ Mo σ9 σ0) ∧ (Inv σ9 ∧ Keep [(3, 1), (3, 2), (3, 3), (3, 4), (3, 9)] [18, 19, 20, 21, 22, 23] σ0 σ9)))) QF := by
  refine Ct_of (EC_ok a g) (by decide) (Nat.le_of_ble_eq_true rfl) (by decide) (fun X hnn hF => ?_)
  show G SC r X σ0 Z0 [] [(0, .ref (r 3)), (1, .int a1), (2, .int a2)] [] 0
  have b108 : ∀ (N : Nat) (σ : St) (x1 : Int32) (x2 : Int32) (x3 : Int32) (x4 : Int32) (x5 : Int32) (x6 : Int32) (x7 : Int32) , upm x6 = N → Inv σ → Keep [(3, 1), (3, 2), (3, 3), (3, 4), (3, 9)] [18, 19, 20, 21, 22, 23] σ0 σ → x5 = 0 ∨ x5 = 1 → x7 = 0 ∨ x7 = 1 → GPS σ → Mo σ σ0 → G SC r X σ Z0 [] [(0, .ref (r 3)), (1, .int x1), (2, .int x2), (3, .int x3), (4, .int x4), (5, .int x5), (6, .int x6), (7, .int x7)] [] 108 := by
    intro M108
    induction M108 using Nat.strongRecOn with
    | _ M108 ih108 =>
      intro σ x1 x2 x3 x4 x5 x6 x7 N108 inv kp z_x5 z_x7 hgp hgm
      refine g_iload hF d_X3_initial_108 6 rfl ?_
      refine g_aload_n hF d_X3_initial_110 rfl 0 rfl ?_
      refine g_get (v := .ref (r 2)) hF 0 obC_3 (by decide) m_94 rfl d_X3_initial_111 ?_
      refine g_getN (v := .int (σ 2 4)) hF 4 obC_2 (by decide) nm_47 rfl d_X3_initial_114 ?_
      refine g_icmp_ge hF 157 d_X3_initial_117 (by decide) rfl rfl (fun c1_117 => ?_) (fun c1_117 => ?_)
      · -- taken at 117
        refine g_aload_n hF d_X3_initial_157 rfl 0 rfl ?_
        refine g_bipush hF (v := 23) d_X3_initial_158 (by decide) ?_
        refine g_callV (As := [.int 23]) (rest := []) hF (c_X3_expect a g r σ (23 : Int32) hgp (by show ¬ (23 = 0 ∨ 23 = -1); have e0 : (23 : Int32).toInt = 23 := (by decide); omega) inv) (Nat.le_of_ble_eq_true rfl) mV_X3_expect m_903 (recv_ob obC_3) rfl rfl (Nat.le_of_ble_eq_true rfl) d_X3_initial_160 (k_v (fun σ2 ⟨⟨hgp2, hgm2⟩, hs2, iσ2, ik2⟩ => ?_)) (fun _ _ _ h => h.elim)
        have hs2 : (σ2 3 3).toInt < 0 → (σ 3 2).toInt = 23 := hs2
        have hmo2 : Mo σ2 σ := fun h9 => mo_e (show σ 3 3 = σ 3 3 from rfl) (hgm2 h9)
        have kp : Keep [(3, 1), (3, 2), (3, 3), (3, 4), (3, 9)] [18, 19, 20, 21, 22, 23] σ0 σ2 := keep_c kp ik2 (by decide) (by decide)
        refine g_aload_n hF d_X3_initial_163 rfl 0 rfl ?_
        refine g_get (v := .ref (r 21)) hF 8 obC_3 (by decide) m_112 rfl d_X3_initial_164 ?_
        refine g_iload_n hF d_X3_initial_167 rfl 1 rfl ?_
        refine g_iload hF d_X3_initial_168 6 rfl ?_
        refine g_callSN (As := [.ref (r 21), .int x1, .int x6]) (rest := []) hF (c_set a g r σ2 arC_21 (by decide) x1 x6) (Nat.le_of_ble_eq_true rfl) mS_X12_set nm_979 rfl rfl (Nat.le_of_ble_eq_true rfl) d_X3_initial_170 (k_v (fun σ3 ⟨g3, eσ3, hg3⟩ => ?_))
        subst eσ3
        have kp : Keep [(3, 1), (3, 2), (3, 3), (3, 4), (3, 9)] [18, 19, 20, 21, 22, 23] σ0 (upF σ2 21 g3) := keep_F kp (by decide)
        refine g_aload_n hF d_X3_initial_173 rfl 0 rfl ?_
        refine g_bipush hF (v := 46) d_X3_initial_174 (by decide) ?_
        refine g_iload_n hF d_X3_initial_176 rfl 3 rfl ?_
        refine g_iconst hF (v := 1) d_X3_initial_177 (by decide) ?_
        refine g_iconst hF (v := 0) d_X3_initial_178 (by decide) ?_
        have j5 : Inv (upF σ2 21 g3) := ⟨iσ2.1, iσ2.2.1, iσ2.2.2.1, iσ2.2.2.2.1, iσ2.2.2.2.2.1, iσ2.2.2.2.2.2.1, iσ2.2.2.2.2.2.2.1, iσ2.2.2.2.2.2.2.2.1, iσ2.2.2.2.2.2.2.2.2.1, iσ2.2.2.2.2.2.2.2.2.2.1, iσ2.2.2.2.2.2.2.2.2.2.2.1, iσ2.2.2.2.2.2.2.2.2.2.2.2.1, iσ2.2.2.2.2.2.2.2.2.2.2.2.2.1, iσ2.2.2.2.2.2.2.2.2.2.2.2.2.2.1, iσ2.2.2.2.2.2.2.2.2.2.2.2.2.2.2.1, iσ2.2.2.2.2.2.2.2.2.2.2.2.2.2.2.2.1, iσ2.2.2.2.2.2.2.2.2.2.2.2.2.2.2.2.2.1, iσ2.2.2.2.2.2.2.2.2.2.2.2.2.2.2.2.2.2.1, iσ2.2.2.2.2.2.2.2.2.2.2.2.2.2.2.2.2.2.2.1, iσ2.2.2.2.2.2.2.2.2.2.2.2.2.2.2.2.2.2.2.2⟩
        refine g_callV (As := [.int 46, .int x3, .int 1, .int 0]) (rest := []) hF (c_X3_add a g r (upF σ2 21 g3) (46 : Int32) x3 (1 : Int32) (0 : Int32) (fun h9 => absurd h9 (by decide)) hgp2 j5) (Nat.le_of_ble_eq_true rfl) mV_X3_add m_923 (recv_ob obC_3) rfl rfl (Nat.le_of_ble_eq_true rfl) d_X3_initial_179 (k_i (fun r4 σ4 ⟨⟨hgp4, hgm4⟩, iσ4, ik4⟩ => ?_)) (fun _ _ _ h => h.elim)
        have hmo4 : Mo σ4 σ2 := fun h9 => mo_e (show (upF σ2 21 g3) 3 3 = σ2 3 3 from rfl) (hgm4 h9)
        have kp : Keep [(3, 1), (3, 2), (3, 3), (3, 4), (3, 9)] [18, 19, 20, 21, 22, 23] σ0 σ4 := keep_c kp ik4 (by decide) (by decide)
        refine g_pop hF d_X3_initial_182 rfl ?_
        refine g_goto hF 240 d_X3_initial_183 (by decide) ?_
        exact g_vret hF rfl d_X3_initial_240 ⟨rfl, rfl, rfl, ⟨⟨hgp4, (fun h9 => (hgm (hmo2 (mo_e (show σ4 3 3 = σ2 3 3 from (ik4 3 3 rfl rfl rfl)) h9))))⟩, iσ4, kp⟩⟩
      · -- not taken at 117
        refine g_iload hF d_X3_initial_120 7 rfl ?_
        refine g_if_eq hF 157 d_X3_initial_122 (by decide) rfl (fun c6_122 => ?_) (fun c6_122 => ?_)
        · -- taken at 122
          refine g_aload_n hF d_X3_initial_157 rfl 0 rfl ?_
          refine g_bipush hF (v := 23) d_X3_initial_158 (by decide) ?_
          refine g_callV (As := [.int 23]) (rest := []) hF (c_X3_expect a g r σ (23 : Int32) hgp (by show ¬ (23 = 0 ∨ 23 = -1); have e0 : (23 : Int32).toInt = 23 := (by decide); omega) inv) (Nat.le_of_ble_eq_true rfl) mV_X3_expect m_903 (recv_ob obC_3) rfl rfl (Nat.le_of_ble_eq_true rfl) d_X3_initial_160 (k_v (fun σ7 ⟨⟨hgp7, hgm7⟩, hs7, iσ7, ik7⟩ => ?_)) (fun _ _ _ h => h.elim)
          have hs7 : (σ7 3 3).toInt < 0 → (σ 3 2).toInt = 23 := hs7
          have hmo7 : Mo σ7 σ := fun h9 => mo_e (show σ 3 3 = σ 3 3 from rfl) (hgm7 h9)
          have kp : Keep [(3, 1), (3, 2), (3, 3), (3, 4), (3, 9)] [18, 19, 20, 21, 22, 23] σ0 σ7 := keep_c kp ik7 (by decide) (by decide)
          refine g_aload_n hF d_X3_initial_163 rfl 0 rfl ?_
          refine g_get (v := .ref (r 21)) hF 8 obC_3 (by decide) m_112 rfl d_X3_initial_164 ?_
          refine g_iload_n hF d_X3_initial_167 rfl 1 rfl ?_
          refine g_iload hF d_X3_initial_168 6 rfl ?_
          refine g_callSN (As := [.ref (r 21), .int x1, .int x6]) (rest := []) hF (c_set a g r σ7 arC_21 (by decide) x1 x6) (Nat.le_of_ble_eq_true rfl) mS_X12_set nm_979 rfl rfl (Nat.le_of_ble_eq_true rfl) d_X3_initial_170 (k_v (fun σ8 ⟨g8, eσ8, hg8⟩ => ?_))
          subst eσ8
          have kp : Keep [(3, 1), (3, 2), (3, 3), (3, 4), (3, 9)] [18, 19, 20, 21, 22, 23] σ0 (upF σ7 21 g8) := keep_F kp (by decide)
          refine g_aload_n hF d_X3_initial_173 rfl 0 rfl ?_
          refine g_bipush hF (v := 46) d_X3_initial_174 (by decide) ?_
          refine g_iload_n hF d_X3_initial_176 rfl 3 rfl ?_
          refine g_iconst hF (v := 1) d_X3_initial_177 (by decide) ?_
          refine g_iconst hF (v := 0) d_X3_initial_178 (by decide) ?_
          have j10 : Inv (upF σ7 21 g8) := ⟨iσ7.1, iσ7.2.1, iσ7.2.2.1, iσ7.2.2.2.1, iσ7.2.2.2.2.1, iσ7.2.2.2.2.2.1, iσ7.2.2.2.2.2.2.1, iσ7.2.2.2.2.2.2.2.1, iσ7.2.2.2.2.2.2.2.2.1, iσ7.2.2.2.2.2.2.2.2.2.1, iσ7.2.2.2.2.2.2.2.2.2.2.1, iσ7.2.2.2.2.2.2.2.2.2.2.2.1, iσ7.2.2.2.2.2.2.2.2.2.2.2.2.1, iσ7.2.2.2.2.2.2.2.2.2.2.2.2.2.1, iσ7.2.2.2.2.2.2.2.2.2.2.2.2.2.2.1, iσ7.2.2.2.2.2.2.2.2.2.2.2.2.2.2.2.1, iσ7.2.2.2.2.2.2.2.2.2.2.2.2.2.2.2.2.1, iσ7.2.2.2.2.2.2.2.2.2.2.2.2.2.2.2.2.2.1, iσ7.2.2.2.2.2.2.2.2.2.2.2.2.2.2.2.2.2.2.1, iσ7.2.2.2.2.2.2.2.2.2.2.2.2.2.2.2.2.2.2.2⟩
          refine g_callV (As := [.int 46, .int x3, .int 1, .int 0]) (rest := []) hF (c_X3_add a g r (upF σ7 21 g8) (46 : Int32) x3 (1 : Int32) (0 : Int32) (fun h9 => absurd h9 (by decide)) hgp7 j10) (Nat.le_of_ble_eq_true rfl) mV_X3_add m_923 (recv_ob obC_3) rfl rfl (Nat.le_of_ble_eq_true rfl) d_X3_initial_179 (k_i (fun r9 σ9 ⟨⟨hgp9, hgm9⟩, iσ9, ik9⟩ => ?_)) (fun _ _ _ h => h.elim)
          have hmo9 : Mo σ9 σ7 := fun h9 => mo_e (show (upF σ7 21 g8) 3 3 = σ7 3 3 from rfl) (hgm9 h9)
          have kp : Keep [(3, 1), (3, 2), (3, 3), (3, 4), (3, 9)] [18, 19, 20, 21, 22, 23] σ0 σ9 := keep_c kp ik9 (by decide) (by decide)
          refine g_pop hF d_X3_initial_182 rfl ?_
          refine g_goto hF 240 d_X3_initial_183 (by decide) ?_
          exact g_vret hF rfl d_X3_initial_240 ⟨rfl, rfl, rfl, ⟨⟨hgp9, (fun h9 => (hgm (hmo7 (mo_e (show σ9 3 3 = σ7 3 3 from (ik9 3 3 rfl rfl rfl)) h9))))⟩, iσ9, kp⟩⟩
        · -- not taken at 122
          refine g_aload_n hF d_X3_initial_125 rfl 0 rfl ?_
          refine g_iconst hF (v := 1) d_X3_initial_126 (by decide) ?_
          refine g_callV (As := [.int 1]) (rest := []) hF ((RX_all a g r 25 σ 1 (by decide) (by decide) inv hgp).1) (Nat.le_of_ble_eq_true rfl) mV_X3_expression m_927 (recv_ob obC_3) rfl rfl (Nat.le_of_ble_eq_true rfl) d_X3_initial_127 (k_v (fun σ11 ⟨⟨hgp11, hgm11⟩, iσ11, ik11⟩ => ?_)) (fun _ _ _ h => h.elim)
          have hmo11 : Mo σ11 σ := fun h9 => mo_e (show σ 3 3 = σ 3 3 from rfl) (hgm11 h9)
          have kp : Keep [(3, 1), (3, 2), (3, 3), (3, 4), (3, 9)] [18, 19, 20, 21, 22, 23] σ0 σ11 := keep_c kp ik11 (by decide) (by decide)
          refine g_aload_n hF d_X3_initial_130 rfl 0 rfl ?_
          refine g_bipush hF (v := 44) d_X3_initial_131 (by decide) ?_
          refine g_aload_n hF d_X3_initial_133 rfl 0 rfl ?_
          refine g_get (v := .int (σ11 3 1)) hF 1 obC_3 (by decide) m_95 rfl d_X3_initial_134 ?_
          refine g_iconst hF (v := 0) d_X3_initial_137 (by decide) ?_
          refine g_iconst hF (v := 0) d_X3_initial_138 (by decide) ?_
          refine g_callV (As := [.int 44, .int (σ11 3 1), .int 0, .int 0]) (rest := []) hF (c_X3_add a g r σ11 (44 : Int32) (σ11 3 1) (0 : Int32) (0 : Int32) (fun h9 => absurd h9 (by decide)) hgp11 iσ11) (Nat.le_of_ble_eq_true rfl) mV_X3_add m_923 (recv_ob obC_3) rfl rfl (Nat.le_of_ble_eq_true rfl) d_X3_initial_139 (k_i (fun r12 σ12 ⟨⟨hgp12, hgm12⟩, iσ12, ik12⟩ => ?_)) (fun _ _ _ h => h.elim)
          have hmo12 : Mo σ12 σ11 := fun h9 => mo_e (show σ11 3 3 = σ11 3 3 from rfl) (hgm12 h9)
          have kp : Keep [(3, 1), (3, 2), (3, 3), (3, 4), (3, 9)] [18, 19, 20, 21, 22, 23] σ0 σ12 := keep_c kp ik12 (by decide) (by decide)
          refine g_pop hF d_X3_initial_142 rfl ?_
          refine g_aload_n hF d_X3_initial_143 rfl 0 rfl ?_
          refine g_bipush hF (v := 26) d_X3_initial_144 (by decide) ?_
          refine g_callV (As := [.int 26]) (rest := []) hF (c_X3_accept a g r σ12 (26 : Int32) hgp12 (by show ¬ (26 = 0 ∨ 26 = -1); have e0 : (26 : Int32).toInt = 26 := (by decide); omega) iσ12) (Nat.le_of_ble_eq_true rfl) mV_X3_accept m_966 (recv_ob obC_3) rfl rfl (Nat.le_of_ble_eq_true rfl) d_X3_initial_146 (k_i (fun r13 σ13 ⟨hz13, ⟨hgp13, hgm13⟩, iσ13, ik13⟩ => ?_)) (fun _ _ _ h => h.elim)
          have hmo13 : Mo σ13 σ11 := fun h9 => mo_e (show σ12 3 3 = σ11 3 3 from (ik12 3 3 rfl rfl rfl)) (hgm13 h9)
          have kp : Keep [(3, 1), (3, 2), (3, 3), (3, 4), (3, 9)] [18, 19, 20, 21, 22, 23] σ0 σ13 := keep_c kp ik13 (by decide) (by decide)
          refine g_istore hF [(7, .int r13), (0, .ref (r 3)), (1, .int x1), (2, .int x2), (3, .int x3), (4, .int x4), (5, .int x5), (6, .int x6)] d_X3_initial_149 hnn (by decide) rfl ?_
          refine g_iinc hF (x6 + 1) [(6, .int (x6 + 1)), (7, .int r13), (0, .ref (r 3)), (1, .int x1), (2, .int x2), (3, .int x3), (4, .int x4), (5, .int x5)] d_X3_initial_151 7 rfl rfl hnn (by decide) rfl ?_
          refine g_goto hF 108 d_X3_initial_154 (by decide) ?_
          exact g_sub (L' := [(0, .ref (r 3)), (1, .int x1), (2, .int x2), (3, .int x3), (4, .int x4), (5, .int x5), (6, .int (x6 + 1)), (7, .int r13)]) [2, 3, 4, 5, 6, 7, 0, 1] rfl (ih108 _ (N108 ▸ upm_lt c1_117 (s_rng (σ 2 4)).2) σ13 x1 x2 x3 x4 x5 (x6 + 1) r13 rfl iσ13 kp z_x5 hz13 hgp13 (fun h9 => (hgm (hmo11 (mo_e (show σ13 3 3 = σ11 3 3 from ((ik13 3 3 rfl rfl rfl).trans (ik12 3 3 rfl rfl rfl))) h9)))))
  have kp : Keep [(3, 1), (3, 2), (3, 3), (3, 4), (3, 9)] [18, 19, 20, 21, 22, 23] σ0 σ0 := keep_rf
  refine g_aload_n hF d_X3_initial_0 rfl 0 rfl ?_
  refine g_get (v := .int (σ0 3 1)) hF 1 obC_3 (by decide) m_95 rfl d_X3_initial_1 ?_
  refine g_istore_n hF [(3, .int (σ0 3 1)), (0, .ref (r 3)), (1, .int a1), (2, .int a2)] d_X3_initial_4 rfl hnn (by decide) rfl ?_
  refine g_aload_n hF d_X3_initial_5 rfl 1 rfl ?_
  refine g_callV (As := []) (rest := []) hF (c_X3_advance a g r σ0 hgp.2.2 (by show -1 ≤ (σ0 3 1).toInt ∧ (σ0 3 1).toInt ≤ 16001; have hki := hgp.2.1.1; have hgz := hgp.1; have e0 := s_rng (σ0 3 1); omega) i0) (Nat.le_of_ble_eq_true rfl) mV_X3_advance m_899 (recv_ob obC_3) rfl rfl (Nat.le_of_ble_eq_true rfl) d_X3_initial_6 (k_v (fun σ14 ⟨⟨hgp14, hgm14⟩, hs14, iσ14, ik14⟩ => ?_)) (fun _ _ _ h => h.elim)
  have hs14 : (σ14 3 1).toInt = (σ0 3 1).toInt + 1 := hs14
  have hmo14 : Mo σ14 σ0 := fun h9 => mo_e (show σ0 3 3 = σ0 3 3 from rfl) (hgm14 h9)
  have kp : Keep [(3, 1), (3, 2), (3, 3), (3, 4), (3, 9)] [18, 19, 20, 21, 22, 23] σ0 σ14 := keep_c kp ik14 (by decide) (by decide)
  refine g_aload_n hF d_X3_initial_9 rfl 1 rfl ?_
  refine g_get (v := .ref (r 2)) hF 0 obC_3 (by decide) m_94 rfl d_X3_initial_10 ?_
  refine g_getN (v := .ref (r 13)) hF 5 obC_2 (by decide) nm_50 rfl d_X3_initial_13 ?_
  refine g_aload_n hF d_X3_initial_16 rfl 1 rfl ?_
  refine g_get (v := .int (σ14 3 1)) hF 1 obC_3 (by decide) m_95 rfl d_X3_initial_17 ?_
  refine g_iconst hF (v := 1) d_X3_initial_20 (by decide) ?_
  refine g_iadd hF d_X3_initial_21 ?_
  refine g_callSN (As := [.ref (r 13), .int ((σ14 3 1) + 1)]) (rest := []) hF (c_at a g r σ14 arC_13 (by decide) ((σ14 3 1) + 1)) (Nat.le_of_ble_eq_true rfl) mS_X12_at nm_947 rfl rfl (Nat.le_of_ble_eq_true rfl) d_X3_initial_22 (k_rop (fun r15 hr15 => ?_))
  refine g_istore hF [(4, .int r15), (3, .int (σ0 3 1)), (0, .ref (r 3)), (1, .int a1), (2, .int a2)] d_X3_initial_25 hnn (by decide) rfl ?_
  refine g_iload_n hF d_X3_initial_27 rfl 3 rfl ?_
  refine g_if_lt hF 57 d_X3_initial_28 (by decide) rfl (fun c16_28 => ?_) (fun c16_28 => ?_)
  · -- taken at 28
    refine g_iconst hF (v := 0) d_X3_initial_57 (by decide) ?_
    refine g_istore hF [(5, .int 0), (4, .int r15), (3, .int (σ0 3 1)), (0, .ref (r 3)), (1, .int a1), (2, .int a2)] d_X3_initial_58 hnn (by decide) rfl ?_
    refine g_iload hF d_X3_initial_60 0 rfl ?_
    refine g_if_eq (xv := 0) hF 89 d_X3_initial_62 (by decide) (by decide) (fun _ => ?_) (fun c_62 => absurd c_62 (by decide))
    refine g_aload_n hF d_X3_initial_89 rfl 3 rfl ?_
    refine g_get (v := .int (σ14 3 2)) hF 2 obC_3 (by decide) m_96 rfl d_X3_initial_90 ?_
    refine g_bipush hF (v := 22) d_X3_initial_93 (by decide) ?_
    refine g_icmp_ne (yv := 22) hF 186 d_X3_initial_95 (by decide) rfl (by decide) (fun c17_95 => ?_) (fun c17_95 => ?_)
    · -- taken at 95
      refine g_iload hF d_X3_initial_186 0 rfl ?_
      refine g_if_eq (xv := 0) hF 225 d_X3_initial_188 (by decide) (by decide) (fun _ => ?_) (fun c_188 => absurd c_188 (by decide))
      refine g_aload_n hF d_X3_initial_225 rfl 3 rfl ?_
      refine g_iconst hF (v := 1) d_X3_initial_226 (by decide) ?_
      refine g_callV (As := [.int 1]) (rest := []) hF ((RX_all a g r 25 σ14 1 (by decide) (by decide) iσ14 hgp14).1) (Nat.le_of_ble_eq_true rfl) mV_X3_expression m_927 (recv_ob obC_3) rfl rfl (Nat.le_of_ble_eq_true rfl) d_X3_initial_227 (k_v (fun σ18 ⟨⟨hgp18, hgm18⟩, iσ18, ik18⟩ => ?_)) (fun _ _ _ h => h.elim)
      have hmo18 : Mo σ18 σ0 := fun h9 => mo_e (show σ14 3 3 = σ0 3 3 from (ik14 3 3 rfl rfl rfl)) (hgm18 h9)
      have kp : Keep [(3, 1), (3, 2), (3, 3), (3, 4), (3, 9)] [18, 19, 20, 21, 22, 23] σ0 σ18 := keep_c kp ik18 (by decide) (by decide)
      refine g_aload_n hF d_X3_initial_230 rfl 3 rfl ?_
      refine g_bipush hF (v := 46) d_X3_initial_231 (by decide) ?_
      refine g_iload_n hF d_X3_initial_233 rfl 2 rfl ?_
      refine g_iconst hF (v := 0) d_X3_initial_234 (by decide) ?_
      refine g_iconst hF (v := 0) d_X3_initial_235 (by decide) ?_
      refine g_callV (As := [.int 46, .int (σ0 3 1), .int 0, .int 0]) (rest := []) hF (c_X3_add a g r σ18 (46 : Int32) (σ0 3 1) (0 : Int32) (0 : Int32) (fun h9 => absurd h9 (by decide)) hgp18 iσ18) (Nat.le_of_ble_eq_true rfl) mV_X3_add m_923 (recv_ob obC_3) rfl rfl (Nat.le_of_ble_eq_true rfl) d_X3_initial_236 (k_i (fun r19 σ19 ⟨⟨hgp19, hgm19⟩, iσ19, ik19⟩ => ?_)) (fun _ _ _ h => h.elim)
      have hmo19 : Mo σ19 σ18 := fun h9 => mo_e (show σ18 3 3 = σ18 3 3 from rfl) (hgm19 h9)
      have kp : Keep [(3, 1), (3, 2), (3, 3), (3, 4), (3, 9)] [18, 19, 20, 21, 22, 23] σ0 σ19 := keep_c kp ik19 (by decide) (by decide)
      refine g_pop hF d_X3_initial_239 rfl ?_
      exact g_vret hF rfl d_X3_initial_240 ⟨rfl, rfl, rfl, ⟨⟨hgp19, (fun h9 => (hmo18 (mo_e (show σ19 3 3 = σ18 3 3 from (ik19 3 3 rfl rfl rfl)) h9)))⟩, iσ19, kp⟩⟩
    · -- not taken at 95
      refine g_aload_n hF d_X3_initial_98 rfl 3 rfl ?_
      refine g_callV (As := []) (rest := []) hF (c_X3_advance a g r σ14 hgp14.2.2 (by show -1 ≤ (σ14 3 1).toInt ∧ (σ14 3 1).toInt ≤ 16001; have hki := hgp14.2.1.1; have hgz := hgp14.1; have e0 := s_rng (σ14 3 1); have e1 := s_rng (σ0 3 1); omega) iσ14) (Nat.le_of_ble_eq_true rfl) mV_X3_advance m_899 (recv_ob obC_3) rfl rfl (Nat.le_of_ble_eq_true rfl) d_X3_initial_99 (k_v (fun σ20 ⟨⟨hgp20, hgm20⟩, hs20, iσ20, ik20⟩ => ?_)) (fun _ _ _ h => h.elim)
      have hs20 : (σ20 3 1).toInt = (σ14 3 1).toInt + 1 := hs20
      have hmo20 : Mo σ20 σ0 := fun h9 => mo_e (show σ14 3 3 = σ0 3 3 from (ik14 3 3 rfl rfl rfl)) (hgm20 h9)
      have kp : Keep [(3, 1), (3, 2), (3, 3), (3, 4), (3, 9)] [18, 19, 20, 21, 22, 23] σ0 σ20 := keep_c kp ik20 (by decide) (by decide)
      refine g_iconst hF (v := 0) d_X3_initial_102 (by decide) ?_
      refine g_istore hF [(6, .int 0), (5, .int 0), (4, .int r15), (3, .int (σ0 3 1)), (0, .ref (r 3)), (1, .int a1), (2, .int a2)] d_X3_initial_103 hnn (by decide) rfl ?_
      refine g_iconst hF (v := 1) d_X3_initial_105 (by decide) ?_
      refine g_istore hF [(7, .int 1), (6, .int 0), (5, .int 0), (4, .int r15), (3, .int (σ0 3 1)), (0, .ref (r 3)), (1, .int a1), (2, .int a2)] d_X3_initial_106 hnn (by decide) rfl ?_
      exact g_sub (L' := [(0, .ref (r 3)), (1, .int a1), (2, .int a2), (3, .int (σ0 3 1)), (4, .int r15), (5, .int 0), (6, .int 0), (7, .int 1)]) [5, 6, 7, 4, 3, 2, 1, 0] rfl (b108 _ σ20 a1 a2 (σ0 3 1) r15 (0 : Int32) (0 : Int32) (1 : Int32) rfl iσ20 kp (Or.inl rfl) (Or.inr rfl) hgp20 (fun h9 => (mo_e (show σ20 3 3 = σ0 3 3 from ((ik20 3 3 rfl rfl rfl).trans (ik14 3 3 rfl rfl rfl))) h9)))
  · -- not taken at 28
    refine g_aload_n hF d_X3_initial_31 rfl 2 rfl ?_
    refine g_get (v := .int (σ14 3 2)) hF 2 obC_3 (by decide) m_96 rfl d_X3_initial_32 ?_
    refine g_iconst hF (v := 4) d_X3_initial_35 (by decide) ?_
    refine g_icmp_ne (yv := 4) hF 57 d_X3_initial_36 (by decide) rfl (by decide) (fun c21_36 => ?_) (fun c21_36 => ?_)
    · -- taken at 36
      refine g_iconst hF (v := 0) d_X3_initial_57 (by decide) ?_
      refine g_istore hF [(5, .int 0), (4, .int r15), (3, .int (σ0 3 1)), (0, .ref (r 3)), (1, .int a1), (2, .int a2)] d_X3_initial_58 hnn (by decide) rfl ?_
      refine g_iload hF d_X3_initial_60 0 rfl ?_
      refine g_if_eq (xv := 0) hF 89 d_X3_initial_62 (by decide) (by decide) (fun _ => ?_) (fun c_62 => absurd c_62 (by decide))
      refine g_aload_n hF d_X3_initial_89 rfl 3 rfl ?_
      refine g_get (v := .int (σ14 3 2)) hF 2 obC_3 (by decide) m_96 rfl d_X3_initial_90 ?_
      refine g_bipush hF (v := 22) d_X3_initial_93 (by decide) ?_
      refine g_icmp_ne (yv := 22) hF 186 d_X3_initial_95 (by decide) rfl (by decide) (fun c22_95 => ?_) (fun c22_95 => ?_)
      · -- taken at 95
        refine g_iload hF d_X3_initial_186 0 rfl ?_
        refine g_if_eq (xv := 0) hF 225 d_X3_initial_188 (by decide) (by decide) (fun _ => ?_) (fun c_188 => absurd c_188 (by decide))
        refine g_aload_n hF d_X3_initial_225 rfl 3 rfl ?_
        refine g_iconst hF (v := 1) d_X3_initial_226 (by decide) ?_
        refine g_callV (As := [.int 1]) (rest := []) hF ((RX_all a g r 25 σ14 1 (by decide) (by decide) iσ14 hgp14).1) (Nat.le_of_ble_eq_true rfl) mV_X3_expression m_927 (recv_ob obC_3) rfl rfl (Nat.le_of_ble_eq_true rfl) d_X3_initial_227 (k_v (fun σ23 ⟨⟨hgp23, hgm23⟩, iσ23, ik23⟩ => ?_)) (fun _ _ _ h => h.elim)
        have hmo23 : Mo σ23 σ0 := fun h9 => mo_e (show σ14 3 3 = σ0 3 3 from (ik14 3 3 rfl rfl rfl)) (hgm23 h9)
        have kp : Keep [(3, 1), (3, 2), (3, 3), (3, 4), (3, 9)] [18, 19, 20, 21, 22, 23] σ0 σ23 := keep_c kp ik23 (by decide) (by decide)
        refine g_aload_n hF d_X3_initial_230 rfl 3 rfl ?_
        refine g_bipush hF (v := 46) d_X3_initial_231 (by decide) ?_
        refine g_iload_n hF d_X3_initial_233 rfl 2 rfl ?_
        refine g_iconst hF (v := 0) d_X3_initial_234 (by decide) ?_
        refine g_iconst hF (v := 0) d_X3_initial_235 (by decide) ?_
        refine g_callV (As := [.int 46, .int (σ0 3 1), .int 0, .int 0]) (rest := []) hF (c_X3_add a g r σ23 (46 : Int32) (σ0 3 1) (0 : Int32) (0 : Int32) (fun h9 => absurd h9 (by decide)) hgp23 iσ23) (Nat.le_of_ble_eq_true rfl) mV_X3_add m_923 (recv_ob obC_3) rfl rfl (Nat.le_of_ble_eq_true rfl) d_X3_initial_236 (k_i (fun r24 σ24 ⟨⟨hgp24, hgm24⟩, iσ24, ik24⟩ => ?_)) (fun _ _ _ h => h.elim)
        have hmo24 : Mo σ24 σ23 := fun h9 => mo_e (show σ23 3 3 = σ23 3 3 from rfl) (hgm24 h9)
        have kp : Keep [(3, 1), (3, 2), (3, 3), (3, 4), (3, 9)] [18, 19, 20, 21, 22, 23] σ0 σ24 := keep_c kp ik24 (by decide) (by decide)
        refine g_pop hF d_X3_initial_239 rfl ?_
        exact g_vret hF rfl d_X3_initial_240 ⟨rfl, rfl, rfl, ⟨⟨hgp24, (fun h9 => (hmo23 (mo_e (show σ24 3 3 = σ23 3 3 from (ik24 3 3 rfl rfl rfl)) h9)))⟩, iσ24, kp⟩⟩
      · -- not taken at 95
        refine g_aload_n hF d_X3_initial_98 rfl 3 rfl ?_
        refine g_callV (As := []) (rest := []) hF (c_X3_advance a g r σ14 hgp14.2.2 (by show -1 ≤ (σ14 3 1).toInt ∧ (σ14 3 1).toInt ≤ 16001; have hki := hgp14.2.1.1; have hgz := hgp14.1; have e0 := s_rng (σ14 3 1); have e1 := s_rng (σ0 3 1); omega) iσ14) (Nat.le_of_ble_eq_true rfl) mV_X3_advance m_899 (recv_ob obC_3) rfl rfl (Nat.le_of_ble_eq_true rfl) d_X3_initial_99 (k_v (fun σ25 ⟨⟨hgp25, hgm25⟩, hs25, iσ25, ik25⟩ => ?_)) (fun _ _ _ h => h.elim)
        have hs25 : (σ25 3 1).toInt = (σ14 3 1).toInt + 1 := hs25
        have hmo25 : Mo σ25 σ0 := fun h9 => mo_e (show σ14 3 3 = σ0 3 3 from (ik14 3 3 rfl rfl rfl)) (hgm25 h9)
        have kp : Keep [(3, 1), (3, 2), (3, 3), (3, 4), (3, 9)] [18, 19, 20, 21, 22, 23] σ0 σ25 := keep_c kp ik25 (by decide) (by decide)
        refine g_iconst hF (v := 0) d_X3_initial_102 (by decide) ?_
        refine g_istore hF [(6, .int 0), (5, .int 0), (4, .int r15), (3, .int (σ0 3 1)), (0, .ref (r 3)), (1, .int a1), (2, .int a2)] d_X3_initial_103 hnn (by decide) rfl ?_
        refine g_iconst hF (v := 1) d_X3_initial_105 (by decide) ?_
        refine g_istore hF [(7, .int 1), (6, .int 0), (5, .int 0), (4, .int r15), (3, .int (σ0 3 1)), (0, .ref (r 3)), (1, .int a1), (2, .int a2)] d_X3_initial_106 hnn (by decide) rfl ?_
        exact g_sub (L' := [(0, .ref (r 3)), (1, .int a1), (2, .int a2), (3, .int (σ0 3 1)), (4, .int r15), (5, .int 0), (6, .int 0), (7, .int 1)]) [5, 6, 7, 4, 3, 2, 1, 0] rfl (b108 _ σ25 a1 a2 (σ0 3 1) r15 (0 : Int32) (0 : Int32) (1 : Int32) rfl iσ25 kp (Or.inl rfl) (Or.inr rfl) hgp25 (fun h9 => (mo_e (show σ25 3 3 = σ0 3 3 from ((ik25 3 3 rfl rfl rfl).trans (ik14 3 3 rfl rfl rfl))) h9)))
    · -- not taken at 36
      refine g_iload hF d_X3_initial_39 0 rfl ?_
      refine g_bipush hF (v := 26) d_X3_initial_41 (by decide) ?_
      refine g_icmp_eq (yv := 26) hF 53 d_X3_initial_43 (by decide) rfl (by decide) (fun c26_43 => ?_) (fun c26_43 => ?_)
      · -- taken at 43
        refine g_iconst hF (v := 1) d_X3_initial_53 (by decide) ?_
        refine g_goto hF 58 d_X3_initial_54 (by decide) ?_
        refine g_istore hF [(5, .int 1), (4, .int r15), (3, .int (σ0 3 1)), (0, .ref (r 3)), (1, .int a1), (2, .int a2)] d_X3_initial_58 hnn (by decide) rfl ?_
        refine g_iload hF d_X3_initial_60 0 rfl ?_
        refine g_if_eq (xv := 1) hF 89 d_X3_initial_62 (by decide) (by decide) (fun c_62 => absurd c_62 (by decide)) (fun _ => ?_)
        refine g_aload_n hF d_X3_initial_65 rfl 3 rfl ?_
        refine g_get (v := .ref (r 21)) hF 8 obC_3 (by decide) m_112 rfl d_X3_initial_66 ?_
        refine g_iload_n hF d_X3_initial_69 rfl 4 rfl ?_
        refine g_aload_n hF d_X3_initial_70 rfl 3 rfl ?_
        refine g_get (v := .ref (r 2)) hF 0 obC_3 (by decide) m_94 rfl d_X3_initial_71 ?_
        refine g_getN (v := .ref (r 14)) hF 6 obC_2 (by decide) nm_55 rfl d_X3_initial_74 ?_
        refine g_aload_n hF d_X3_initial_77 rfl 3 rfl ?_
        refine g_get (v := .int (σ14 3 1)) hF 1 obC_3 (by decide) m_95 rfl d_X3_initial_78 ?_
        refine g_callSN (As := [.ref (r 14), .int (σ14 3 1)]) (rest := [.int a1, .ref (r 21)]) hF (c_at a g r σ14 arC_14 (by decide) (σ14 3 1)) (Nat.le_of_ble_eq_true rfl) mS_X12_at nm_947 rfl rfl (Nat.le_of_ble_eq_true rfl) d_X3_initial_81 (k_rop (fun r27 hr27 => ?_))
        have hs27 := hr27
        refine g_iconst hF (v := 1) d_X3_initial_84 (by decide) ?_
        refine g_iadd hF d_X3_initial_85 ?_
        refine g_callSN (As := [.ref (r 21), .int a1, .int (r27 + 1)]) (rest := []) hF (c_set a g r σ14 arC_21 (by decide) a1 (r27 + 1)) (Nat.le_of_ble_eq_true rfl) mS_X12_set nm_979 rfl rfl (Nat.le_of_ble_eq_true rfl) d_X3_initial_86 (k_v (fun σ28 ⟨g28, eσ28, hg28⟩ => ?_))
        subst eσ28
        have kp : Keep [(3, 1), (3, 2), (3, 3), (3, 4), (3, 9)] [18, 19, 20, 21, 22, 23] σ0 (upF σ14 21 g28) := keep_F kp (by decide)
        refine g_aload_n hF d_X3_initial_89 rfl 3 rfl ?_
        refine g_get (v := .int (σ14 3 2)) hF 2 obC_3 (by decide) m_96 rfl d_X3_initial_90 ?_
        refine g_bipush hF (v := 22) d_X3_initial_93 (by decide) ?_
        refine g_icmp_ne (yv := 22) hF 186 d_X3_initial_95 (by decide) rfl (by decide) (fun c29_95 => ?_) (fun c29_95 => ?_)
        · -- taken at 95
          refine g_iload hF d_X3_initial_186 0 rfl ?_
          refine g_if_eq (xv := 1) hF 225 d_X3_initial_188 (by decide) (by decide) (fun c_188 => absurd c_188 (by decide)) (fun _ => ?_)
          refine g_iload_n hF d_X3_initial_191 rfl 5 rfl ?_
          refine g_if_ne hF 225 d_X3_initial_192 (by decide) rfl (fun c30_192 => ?_) (fun c30_192 => ?_)
          · -- taken at 192
            refine g_aload_n hF d_X3_initial_225 rfl 3 rfl ?_
            refine g_iconst hF (v := 1) d_X3_initial_226 (by decide) ?_
            have j32 : Inv (upF σ14 21 g28) := ⟨iσ14.1, iσ14.2.1, iσ14.2.2.1, iσ14.2.2.2.1, iσ14.2.2.2.2.1, iσ14.2.2.2.2.2.1, iσ14.2.2.2.2.2.2.1, iσ14.2.2.2.2.2.2.2.1, iσ14.2.2.2.2.2.2.2.2.1, iσ14.2.2.2.2.2.2.2.2.2.1, iσ14.2.2.2.2.2.2.2.2.2.2.1, iσ14.2.2.2.2.2.2.2.2.2.2.2.1, iσ14.2.2.2.2.2.2.2.2.2.2.2.2.1, iσ14.2.2.2.2.2.2.2.2.2.2.2.2.2.1, iσ14.2.2.2.2.2.2.2.2.2.2.2.2.2.2.1, iσ14.2.2.2.2.2.2.2.2.2.2.2.2.2.2.2.1, iσ14.2.2.2.2.2.2.2.2.2.2.2.2.2.2.2.2.1, iσ14.2.2.2.2.2.2.2.2.2.2.2.2.2.2.2.2.2.1, iσ14.2.2.2.2.2.2.2.2.2.2.2.2.2.2.2.2.2.2.1, iσ14.2.2.2.2.2.2.2.2.2.2.2.2.2.2.2.2.2.2.2⟩
            refine g_callV (As := [.int 1]) (rest := []) hF ((RX_all a g r 25 (upF σ14 21 g28) 1 (by decide) (by decide) j32 hgp14).1) (Nat.le_of_ble_eq_true rfl) mV_X3_expression m_927 (recv_ob obC_3) rfl rfl (Nat.le_of_ble_eq_true rfl) d_X3_initial_227 (k_v (fun σ31 ⟨⟨hgp31, hgm31⟩, iσ31, ik31⟩ => ?_)) (fun _ _ _ h => h.elim)
            have hmo31 : Mo σ31 σ0 := fun h9 => mo_e (show (upF σ14 21 g28) 3 3 = σ0 3 3 from (ik14 3 3 rfl rfl rfl)) (hgm31 h9)
            have kp : Keep [(3, 1), (3, 2), (3, 3), (3, 4), (3, 9)] [18, 19, 20, 21, 22, 23] σ0 σ31 := keep_c kp ik31 (by decide) (by decide)
            refine g_aload_n hF d_X3_initial_230 rfl 3 rfl ?_
            refine g_bipush hF (v := 46) d_X3_initial_231 (by decide) ?_
            refine g_iload_n hF d_X3_initial_233 rfl 2 rfl ?_
            refine g_iconst hF (v := 0) d_X3_initial_234 (by decide) ?_
            refine g_iconst hF (v := 0) d_X3_initial_235 (by decide) ?_
            refine g_callV (As := [.int 46, .int (σ0 3 1), .int 0, .int 0]) (rest := []) hF (c_X3_add a g r σ31 (46 : Int32) (σ0 3 1) (0 : Int32) (0 : Int32) (fun h9 => absurd h9 (by decide)) hgp31 iσ31) (Nat.le_of_ble_eq_true rfl) mV_X3_add m_923 (recv_ob obC_3) rfl rfl (Nat.le_of_ble_eq_true rfl) d_X3_initial_236 (k_i (fun r33 σ33 ⟨⟨hgp33, hgm33⟩, iσ33, ik33⟩ => ?_)) (fun _ _ _ h => h.elim)
            have hmo33 : Mo σ33 σ31 := fun h9 => mo_e (show σ31 3 3 = σ31 3 3 from rfl) (hgm33 h9)
            have kp : Keep [(3, 1), (3, 2), (3, 3), (3, 4), (3, 9)] [18, 19, 20, 21, 22, 23] σ0 σ33 := keep_c kp ik33 (by decide) (by decide)
            refine g_pop hF d_X3_initial_239 rfl ?_
            exact g_vret hF rfl d_X3_initial_240 ⟨rfl, rfl, rfl, ⟨⟨hgp33, (fun h9 => (hmo31 (mo_e (show σ33 3 3 = σ31 3 3 from (ik33 3 3 rfl rfl rfl)) h9)))⟩, iσ33, kp⟩⟩
          · -- not taken at 192
            refine g_aload_n hF d_X3_initial_195 rfl 3 rfl ?_
            refine g_bipush hF (v := 45) d_X3_initial_196 (by decide) ?_
            refine g_aload_n hF d_X3_initial_198 rfl 3 rfl ?_
            refine g_get (v := .int (σ14 3 1)) hF 1 obC_3 (by decide) m_95 rfl d_X3_initial_199 ?_
            refine g_iconst hF (v := 0) d_X3_initial_202 (by decide) ?_
            refine g_iconst hF (v := 0) d_X3_initial_203 (by decide) ?_
            have j35 : Inv (upF σ14 21 g28) := ⟨iσ14.1, iσ14.2.1, iσ14.2.2.1, iσ14.2.2.2.1, iσ14.2.2.2.2.1, iσ14.2.2.2.2.2.1, iσ14.2.2.2.2.2.2.1, iσ14.2.2.2.2.2.2.2.1, iσ14.2.2.2.2.2.2.2.2.1, iσ14.2.2.2.2.2.2.2.2.2.1, iσ14.2.2.2.2.2.2.2.2.2.2.1, iσ14.2.2.2.2.2.2.2.2.2.2.2.1, iσ14.2.2.2.2.2.2.2.2.2.2.2.2.1, iσ14.2.2.2.2.2.2.2.2.2.2.2.2.2.1, iσ14.2.2.2.2.2.2.2.2.2.2.2.2.2.2.1, iσ14.2.2.2.2.2.2.2.2.2.2.2.2.2.2.2.1, iσ14.2.2.2.2.2.2.2.2.2.2.2.2.2.2.2.2.1, iσ14.2.2.2.2.2.2.2.2.2.2.2.2.2.2.2.2.2.1, iσ14.2.2.2.2.2.2.2.2.2.2.2.2.2.2.2.2.2.2.1, iσ14.2.2.2.2.2.2.2.2.2.2.2.2.2.2.2.2.2.2.2⟩
            refine g_callV (As := [.int 45, .int (σ14 3 1), .int 0, .int 0]) (rest := []) hF (c_X3_add a g r (upF σ14 21 g28) (45 : Int32) (σ14 3 1) (0 : Int32) (0 : Int32) (fun h9 => absurd h9 (by decide)) hgp14 j35) (Nat.le_of_ble_eq_true rfl) mV_X3_add m_923 (recv_ob obC_3) rfl rfl (Nat.le_of_ble_eq_true rfl) d_X3_initial_204 (k_i (fun r34 σ34 ⟨⟨hgp34, hgm34⟩, iσ34, ik34⟩ => ?_)) (fun _ _ _ h => h.elim)
            have hmo34 : Mo σ34 σ0 := fun h9 => mo_e (show (upF σ14 21 g28) 3 3 = σ0 3 3 from (ik14 3 3 rfl rfl rfl)) (hgm34 h9)
            have kp : Keep [(3, 1), (3, 2), (3, 3), (3, 4), (3, 9)] [18, 19, 20, 21, 22, 23] σ0 σ34 := keep_c kp ik34 (by decide) (by decide)
            refine g_pop hF d_X3_initial_207 rfl ?_
            refine g_aload_n hF d_X3_initial_208 rfl 3 rfl ?_
            refine g_callV (As := []) (rest := []) hF (c_X3_advance a g r σ34 hgp34.2.2 (by rw [show (σ34 3 1) = (σ14 3 1) from (ik34 3 1 rfl rfl rfl)]; show -1 ≤ (σ14 3 1).toInt ∧ (σ14 3 1).toInt ≤ 16001; have hki := hgp34.2.1.1; have hgz := hgp34.1; have hq91 : (σ34 3 1).toInt = (σ14 3 1).toInt := (by rw [show (σ34 3 1) = (σ14 3 1) from (ik34 3 1 rfl rfl rfl)]); have hq92 : (σ34 3 2).toInt = (σ14 3 2).toInt := (by rw [show (σ34 3 2) = (σ14 3 2) from (ik34 3 2 rfl rfl rfl)]); have e0 := s_rng (σ14 3 1); have e1 := s_rng (σ0 3 1); omega) iσ34) (Nat.le_of_ble_eq_true rfl) mV_X3_advance m_899 (recv_ob obC_3) rfl rfl (Nat.le_of_ble_eq_true rfl) d_X3_initial_209 (k_v (fun σ36 ⟨⟨hgp36, hgm36⟩, hs36, iσ36, ik36⟩ => ?_)) (fun _ _ _ h => h.elim)
            have hs36 : (σ36 3 1).toInt = (σ14 3 1).toInt + 1 := (by have h9 := hs36; rw [show (σ34 3 1) = (σ14 3 1) from (ik34 3 1 rfl rfl rfl)] at h9; exact h9)
            have hmo36 : Mo σ36 σ0 := fun h9 => mo_e (show σ34 3 3 = σ0 3 3 from ((ik34 3 3 rfl rfl rfl).trans (ik14 3 3 rfl rfl rfl))) (hgm36 h9)
            have kp : Keep [(3, 1), (3, 2), (3, 3), (3, 4), (3, 9)] [18, 19, 20, 21, 22, 23] σ0 σ36 := keep_c kp ik36 (by decide) (by decide)
            refine g_aload_n hF d_X3_initial_212 rfl 3 rfl ?_
            refine g_bipush hF (v := 46) d_X3_initial_213 (by decide) ?_
            refine g_iload_n hF d_X3_initial_215 rfl 2 rfl ?_
            refine g_iconst hF (v := 2) d_X3_initial_216 (by decide) ?_
            refine g_iconst hF (v := 0) d_X3_initial_217 (by decide) ?_
            refine g_callV (As := [.int 46, .int (σ0 3 1), .int 2, .int 0]) (rest := []) hF (c_X3_add a g r σ36 (46 : Int32) (σ0 3 1) (2 : Int32) (0 : Int32) (fun h9 => absurd h9 (by decide)) hgp36 iσ36) (Nat.le_of_ble_eq_true rfl) mV_X3_add m_923 (recv_ob obC_3) rfl rfl (Nat.le_of_ble_eq_true rfl) d_X3_initial_218 (k_i (fun r37 σ37 ⟨⟨hgp37, hgm37⟩, iσ37, ik37⟩ => ?_)) (fun _ _ _ h => h.elim)
            have hmo37 : Mo σ37 σ0 := fun h9 => mo_e (show σ36 3 3 = σ0 3 3 from ((ik36 3 3 rfl rfl rfl).trans ((ik34 3 3 rfl rfl rfl).trans (ik14 3 3 rfl rfl rfl)))) (hgm37 h9)
            have kp : Keep [(3, 1), (3, 2), (3, 3), (3, 4), (3, 9)] [18, 19, 20, 21, 22, 23] σ0 σ37 := keep_c kp ik37 (by decide) (by decide)
            refine g_pop hF d_X3_initial_221 rfl ?_
            refine g_goto hF 240 d_X3_initial_222 (by decide) ?_
            exact g_vret hF rfl d_X3_initial_240 ⟨rfl, rfl, rfl, ⟨⟨hgp37, (fun h9 => (mo_e (show σ37 3 3 = σ0 3 3 from ((ik37 3 3 rfl rfl rfl).trans ((ik36 3 3 rfl rfl rfl).trans ((ik34 3 3 rfl rfl rfl).trans (ik14 3 3 rfl rfl rfl))))) h9))⟩, iσ37, kp⟩⟩
        · -- not taken at 95
          refine g_aload_n hF d_X3_initial_98 rfl 3 rfl ?_
          have j39 : Inv (upF σ14 21 g28) := ⟨iσ14.1, iσ14.2.1, iσ14.2.2.1, iσ14.2.2.2.1, iσ14.2.2.2.2.1, iσ14.2.2.2.2.2.1, iσ14.2.2.2.2.2.2.1, iσ14.2.2.2.2.2.2.2.1, iσ14.2.2.2.2.2.2.2.2.1, iσ14.2.2.2.2.2.2.2.2.2.1, iσ14.2.2.2.2.2.2.2.2.2.2.1, iσ14.2.2.2.2.2.2.2.2.2.2.2.1, iσ14.2.2.2.2.2.2.2.2.2.2.2.2.1, iσ14.2.2.2.2.2.2.2.2.2.2.2.2.2.1, iσ14.2.2.2.2.2.2.2.2.2.2.2.2.2.2.1, iσ14.2.2.2.2.2.2.2.2.2.2.2.2.2.2.2.1, iσ14.2.2.2.2.2.2.2.2.2.2.2.2.2.2.2.2.1, iσ14.2.2.2.2.2.2.2.2.2.2.2.2.2.2.2.2.2.1, iσ14.2.2.2.2.2.2.2.2.2.2.2.2.2.2.2.2.2.2.1, iσ14.2.2.2.2.2.2.2.2.2.2.2.2.2.2.2.2.2.2.2⟩
          refine g_callV (As := []) (rest := []) hF (c_X3_advance a g r (upF σ14 21 g28) hgp14.2.2 (by show -1 ≤ (σ14 3 1).toInt ∧ (σ14 3 1).toInt ≤ 16001; have hki := hgp14.2.1.1; have hgz := hgp14.1; have e0 := s_rng (σ14 3 1); have e1 := s_rng (σ0 3 1); omega) j39) (Nat.le_of_ble_eq_true rfl) mV_X3_advance m_899 (recv_ob obC_3) rfl rfl (Nat.le_of_ble_eq_true rfl) d_X3_initial_99 (k_v (fun σ38 ⟨⟨hgp38, hgm38⟩, hs38, iσ38, ik38⟩ => ?_)) (fun _ _ _ h => h.elim)
          have hs38 : (σ38 3 1).toInt = (σ14 3 1).toInt + 1 := hs38
          have hmo38 : Mo σ38 σ0 := fun h9 => mo_e (show (upF σ14 21 g28) 3 3 = σ0 3 3 from (ik14 3 3 rfl rfl rfl)) (hgm38 h9)
          have kp : Keep [(3, 1), (3, 2), (3, 3), (3, 4), (3, 9)] [18, 19, 20, 21, 22, 23] σ0 σ38 := keep_c kp ik38 (by decide) (by decide)
          refine g_iconst hF (v := 0) d_X3_initial_102 (by decide) ?_
          refine g_istore hF [(6, .int 0), (5, .int 1), (4, .int r15), (3, .int (σ0 3 1)), (0, .ref (r 3)), (1, .int a1), (2, .int a2)] d_X3_initial_103 hnn (by decide) rfl ?_
          refine g_iconst hF (v := 1) d_X3_initial_105 (by decide) ?_
          refine g_istore hF [(7, .int 1), (6, .int 0), (5, .int 1), (4, .int r15), (3, .int (σ0 3 1)), (0, .ref (r 3)), (1, .int a1), (2, .int a2)] d_X3_initial_106 hnn (by decide) rfl ?_
          exact g_sub (L' := [(0, .ref (r 3)), (1, .int a1), (2, .int a2), (3, .int (σ0 3 1)), (4, .int r15), (5, .int 1), (6, .int 0), (7, .int 1)]) [5, 6, 7, 4, 3, 2, 1, 0] rfl (b108 _ σ38 a1 a2 (σ0 3 1) r15 (1 : Int32) (0 : Int32) (1 : Int32) rfl iσ38 kp (Or.inr rfl) (Or.inr rfl) hgp38 (fun h9 => (mo_e (show σ38 3 3 = σ0 3 3 from ((ik38 3 3 rfl rfl rfl).trans (ik14 3 3 rfl rfl rfl))) h9)))
      · -- not taken at 43
        refine g_iload hF d_X3_initial_46 0 rfl ?_
        refine g_bipush hF (v := 27) d_X3_initial_48 (by decide) ?_
        refine g_icmp_ne (yv := 27) hF 57 d_X3_initial_50 (by decide) rfl (by decide) (fun c40_50 => ?_) (fun c40_50 => ?_)
        · -- taken at 50
          refine g_iconst hF (v := 0) d_X3_initial_57 (by decide) ?_
          refine g_istore hF [(5, .int 0), (4, .int r15), (3, .int (σ0 3 1)), (0, .ref (r 3)), (1, .int a1), (2, .int a2)] d_X3_initial_58 hnn (by decide) rfl ?_
          refine g_iload hF d_X3_initial_60 0 rfl ?_
          refine g_if_eq (xv := 0) hF 89 d_X3_initial_62 (by decide) (by decide) (fun _ => ?_) (fun c_62 => absurd c_62 (by decide))
          refine g_aload_n hF d_X3_initial_89 rfl 3 rfl ?_
          refine g_get (v := .int (σ14 3 2)) hF 2 obC_3 (by decide) m_96 rfl d_X3_initial_90 ?_
          refine g_bipush hF (v := 22) d_X3_initial_93 (by decide) ?_
          refine g_icmp_ne (yv := 22) hF 186 d_X3_initial_95 (by decide) rfl (by decide) (fun c41_95 => ?_) (fun c41_95 => ?_)
          · -- taken at 95
            refine g_iload hF d_X3_initial_186 0 rfl ?_
            refine g_if_eq (xv := 0) hF 225 d_X3_initial_188 (by decide) (by decide) (fun _ => ?_) (fun c_188 => absurd c_188 (by decide))
            refine g_aload_n hF d_X3_initial_225 rfl 3 rfl ?_
            refine g_iconst hF (v := 1) d_X3_initial_226 (by decide) ?_
            refine g_callV (As := [.int 1]) (rest := []) hF ((RX_all a g r 25 σ14 1 (by decide) (by decide) iσ14 hgp14).1) (Nat.le_of_ble_eq_true rfl) mV_X3_expression m_927 (recv_ob obC_3) rfl rfl (Nat.le_of_ble_eq_true rfl) d_X3_initial_227 (k_v (fun σ42 ⟨⟨hgp42, hgm42⟩, iσ42, ik42⟩ => ?_)) (fun _ _ _ h => h.elim)
            have hmo42 : Mo σ42 σ0 := fun h9 => mo_e (show σ14 3 3 = σ0 3 3 from (ik14 3 3 rfl rfl rfl)) (hgm42 h9)
            have kp : Keep [(3, 1), (3, 2), (3, 3), (3, 4), (3, 9)] [18, 19, 20, 21, 22, 23] σ0 σ42 := keep_c kp ik42 (by decide) (by decide)
            refine g_aload_n hF d_X3_initial_230 rfl 3 rfl ?_
            refine g_bipush hF (v := 46) d_X3_initial_231 (by decide) ?_
            refine g_iload_n hF d_X3_initial_233 rfl 2 rfl ?_
            refine g_iconst hF (v := 0) d_X3_initial_234 (by decide) ?_
            refine g_iconst hF (v := 0) d_X3_initial_235 (by decide) ?_
            refine g_callV (As := [.int 46, .int (σ0 3 1), .int 0, .int 0]) (rest := []) hF (c_X3_add a g r σ42 (46 : Int32) (σ0 3 1) (0 : Int32) (0 : Int32) (fun h9 => absurd h9 (by decide)) hgp42 iσ42) (Nat.le_of_ble_eq_true rfl) mV_X3_add m_923 (recv_ob obC_3) rfl rfl (Nat.le_of_ble_eq_true rfl) d_X3_initial_236 (k_i (fun r43 σ43 ⟨⟨hgp43, hgm43⟩, iσ43, ik43⟩ => ?_)) (fun _ _ _ h => h.elim)
            have hmo43 : Mo σ43 σ42 := fun h9 => mo_e (show σ42 3 3 = σ42 3 3 from rfl) (hgm43 h9)
            have kp : Keep [(3, 1), (3, 2), (3, 3), (3, 4), (3, 9)] [18, 19, 20, 21, 22, 23] σ0 σ43 := keep_c kp ik43 (by decide) (by decide)
            refine g_pop hF d_X3_initial_239 rfl ?_
            exact g_vret hF rfl d_X3_initial_240 ⟨rfl, rfl, rfl, ⟨⟨hgp43, (fun h9 => (hmo42 (mo_e (show σ43 3 3 = σ42 3 3 from (ik43 3 3 rfl rfl rfl)) h9)))⟩, iσ43, kp⟩⟩
          · -- not taken at 95
            refine g_aload_n hF d_X3_initial_98 rfl 3 rfl ?_
            refine g_callV (As := []) (rest := []) hF (c_X3_advance a g r σ14 hgp14.2.2 (by show -1 ≤ (σ14 3 1).toInt ∧ (σ14 3 1).toInt ≤ 16001; have hki := hgp14.2.1.1; have hgz := hgp14.1; have e0 := s_rng (σ14 3 1); have e1 := s_rng (σ0 3 1); omega) iσ14) (Nat.le_of_ble_eq_true rfl) mV_X3_advance m_899 (recv_ob obC_3) rfl rfl (Nat.le_of_ble_eq_true rfl) d_X3_initial_99 (k_v (fun σ44 ⟨⟨hgp44, hgm44⟩, hs44, iσ44, ik44⟩ => ?_)) (fun _ _ _ h => h.elim)
            have hs44 : (σ44 3 1).toInt = (σ14 3 1).toInt + 1 := hs44
            have hmo44 : Mo σ44 σ0 := fun h9 => mo_e (show σ14 3 3 = σ0 3 3 from (ik14 3 3 rfl rfl rfl)) (hgm44 h9)
            have kp : Keep [(3, 1), (3, 2), (3, 3), (3, 4), (3, 9)] [18, 19, 20, 21, 22, 23] σ0 σ44 := keep_c kp ik44 (by decide) (by decide)
            refine g_iconst hF (v := 0) d_X3_initial_102 (by decide) ?_
            refine g_istore hF [(6, .int 0), (5, .int 0), (4, .int r15), (3, .int (σ0 3 1)), (0, .ref (r 3)), (1, .int a1), (2, .int a2)] d_X3_initial_103 hnn (by decide) rfl ?_
            refine g_iconst hF (v := 1) d_X3_initial_105 (by decide) ?_
            refine g_istore hF [(7, .int 1), (6, .int 0), (5, .int 0), (4, .int r15), (3, .int (σ0 3 1)), (0, .ref (r 3)), (1, .int a1), (2, .int a2)] d_X3_initial_106 hnn (by decide) rfl ?_
            exact g_sub (L' := [(0, .ref (r 3)), (1, .int a1), (2, .int a2), (3, .int (σ0 3 1)), (4, .int r15), (5, .int 0), (6, .int 0), (7, .int 1)]) [5, 6, 7, 4, 3, 2, 1, 0] rfl (b108 _ σ44 a1 a2 (σ0 3 1) r15 (0 : Int32) (0 : Int32) (1 : Int32) rfl iσ44 kp (Or.inl rfl) (Or.inr rfl) hgp44 (fun h9 => (mo_e (show σ44 3 3 = σ0 3 3 from ((ik44 3 3 rfl rfl rfl).trans (ik14 3 3 rfl rfl rfl))) h9)))
        · -- not taken at 50
          refine g_iconst hF (v := 1) d_X3_initial_53 (by decide) ?_
          refine g_goto hF 58 d_X3_initial_54 (by decide) ?_
          refine g_istore hF [(5, .int 1), (4, .int r15), (3, .int (σ0 3 1)), (0, .ref (r 3)), (1, .int a1), (2, .int a2)] d_X3_initial_58 hnn (by decide) rfl ?_
          refine g_iload hF d_X3_initial_60 0 rfl ?_
          refine g_if_eq (xv := 1) hF 89 d_X3_initial_62 (by decide) (by decide) (fun c_62 => absurd c_62 (by decide)) (fun _ => ?_)
          refine g_aload_n hF d_X3_initial_65 rfl 3 rfl ?_
          refine g_get (v := .ref (r 21)) hF 8 obC_3 (by decide) m_112 rfl d_X3_initial_66 ?_
          refine g_iload_n hF d_X3_initial_69 rfl 4 rfl ?_
          refine g_aload_n hF d_X3_initial_70 rfl 3 rfl ?_
          refine g_get (v := .ref (r 2)) hF 0 obC_3 (by decide) m_94 rfl d_X3_initial_71 ?_
          refine g_getN (v := .ref (r 14)) hF 6 obC_2 (by decide) nm_55 rfl d_X3_initial_74 ?_
          refine g_aload_n hF d_X3_initial_77 rfl 3 rfl ?_
          refine g_get (v := .int (σ14 3 1)) hF 1 obC_3 (by decide) m_95 rfl d_X3_initial_78 ?_
          refine g_callSN (As := [.ref (r 14), .int (σ14 3 1)]) (rest := [.int a1, .ref (r 21)]) hF (c_at a g r σ14 arC_14 (by decide) (σ14 3 1)) (Nat.le_of_ble_eq_true rfl) mS_X12_at nm_947 rfl rfl (Nat.le_of_ble_eq_true rfl) d_X3_initial_81 (k_rop (fun r45 hr45 => ?_))
          have hs45 := hr45
          refine g_iconst hF (v := 1) d_X3_initial_84 (by decide) ?_
          refine g_iadd hF d_X3_initial_85 ?_
          refine g_callSN (As := [.ref (r 21), .int a1, .int (r45 + 1)]) (rest := []) hF (c_set a g r σ14 arC_21 (by decide) a1 (r45 + 1)) (Nat.le_of_ble_eq_true rfl) mS_X12_set nm_979 rfl rfl (Nat.le_of_ble_eq_true rfl) d_X3_initial_86 (k_v (fun σ46 ⟨g46, eσ46, hg46⟩ => ?_))
          subst eσ46
          have kp : Keep [(3, 1), (3, 2), (3, 3), (3, 4), (3, 9)] [18, 19, 20, 21, 22, 23] σ0 (upF σ14 21 g46) := keep_F kp (by decide)
          refine g_aload_n hF d_X3_initial_89 rfl 3 rfl ?_
          refine g_get (v := .int (σ14 3 2)) hF 2 obC_3 (by decide) m_96 rfl d_X3_initial_90 ?_
          refine g_bipush hF (v := 22) d_X3_initial_93 (by decide) ?_
          refine g_icmp_ne (yv := 22) hF 186 d_X3_initial_95 (by decide) rfl (by decide) (fun c47_95 => ?_) (fun c47_95 => ?_)
          · -- taken at 95
            refine g_iload hF d_X3_initial_186 0 rfl ?_
            refine g_if_eq (xv := 1) hF 225 d_X3_initial_188 (by decide) (by decide) (fun c_188 => absurd c_188 (by decide)) (fun _ => ?_)
            refine g_iload_n hF d_X3_initial_191 rfl 5 rfl ?_
            refine g_if_ne hF 225 d_X3_initial_192 (by decide) rfl (fun c48_192 => ?_) (fun c48_192 => ?_)
            · -- taken at 192
              refine g_aload_n hF d_X3_initial_225 rfl 3 rfl ?_
              refine g_iconst hF (v := 1) d_X3_initial_226 (by decide) ?_
              have j50 : Inv (upF σ14 21 g46) := ⟨iσ14.1, iσ14.2.1, iσ14.2.2.1, iσ14.2.2.2.1, iσ14.2.2.2.2.1, iσ14.2.2.2.2.2.1, iσ14.2.2.2.2.2.2.1, iσ14.2.2.2.2.2.2.2.1, iσ14.2.2.2.2.2.2.2.2.1, iσ14.2.2.2.2.2.2.2.2.2.1, iσ14.2.2.2.2.2.2.2.2.2.2.1, iσ14.2.2.2.2.2.2.2.2.2.2.2.1, iσ14.2.2.2.2.2.2.2.2.2.2.2.2.1, iσ14.2.2.2.2.2.2.2.2.2.2.2.2.2.1, iσ14.2.2.2.2.2.2.2.2.2.2.2.2.2.2.1, iσ14.2.2.2.2.2.2.2.2.2.2.2.2.2.2.2.1, iσ14.2.2.2.2.2.2.2.2.2.2.2.2.2.2.2.2.1, iσ14.2.2.2.2.2.2.2.2.2.2.2.2.2.2.2.2.2.1, iσ14.2.2.2.2.2.2.2.2.2.2.2.2.2.2.2.2.2.2.1, iσ14.2.2.2.2.2.2.2.2.2.2.2.2.2.2.2.2.2.2.2⟩
              refine g_callV (As := [.int 1]) (rest := []) hF ((RX_all a g r 25 (upF σ14 21 g46) 1 (by decide) (by decide) j50 hgp14).1) (Nat.le_of_ble_eq_true rfl) mV_X3_expression m_927 (recv_ob obC_3) rfl rfl (Nat.le_of_ble_eq_true rfl) d_X3_initial_227 (k_v (fun σ49 ⟨⟨hgp49, hgm49⟩, iσ49, ik49⟩ => ?_)) (fun _ _ _ h => h.elim)
              have hmo49 : Mo σ49 σ0 := fun h9 => mo_e (show (upF σ14 21 g46) 3 3 = σ0 3 3 from (ik14 3 3 rfl rfl rfl)) (hgm49 h9)
              have kp : Keep [(3, 1), (3, 2), (3, 3), (3, 4), (3, 9)] [18, 19, 20, 21, 22, 23] σ0 σ49 := keep_c kp ik49 (by decide) (by decide)
              refine g_aload_n hF d_X3_initial_230 rfl 3 rfl ?_
              refine g_bipush hF (v := 46) d_X3_initial_231 (by decide) ?_
              refine g_iload_n hF d_X3_initial_233 rfl 2 rfl ?_
              refine g_iconst hF (v := 0) d_X3_initial_234 (by decide) ?_
              refine g_iconst hF (v := 0) d_X3_initial_235 (by decide) ?_
              refine g_callV (As := [.int 46, .int (σ0 3 1), .int 0, .int 0]) (rest := []) hF (c_X3_add a g r σ49 (46 : Int32) (σ0 3 1) (0 : Int32) (0 : Int32) (fun h9 => absurd h9 (by decide)) hgp49 iσ49) (Nat.le_of_ble_eq_true rfl) mV_X3_add m_923 (recv_ob obC_3) rfl rfl (Nat.le_of_ble_eq_true rfl) d_X3_initial_236 (k_i (fun r51 σ51 ⟨⟨hgp51, hgm51⟩, iσ51, ik51⟩ => ?_)) (fun _ _ _ h => h.elim)
              have hmo51 : Mo σ51 σ49 := fun h9 => mo_e (show σ49 3 3 = σ49 3 3 from rfl) (hgm51 h9)
              have kp : Keep [(3, 1), (3, 2), (3, 3), (3, 4), (3, 9)] [18, 19, 20, 21, 22, 23] σ0 σ51 := keep_c kp ik51 (by decide) (by decide)
              refine g_pop hF d_X3_initial_239 rfl ?_
              exact g_vret hF rfl d_X3_initial_240 ⟨rfl, rfl, rfl, ⟨⟨hgp51, (fun h9 => (hmo49 (mo_e (show σ51 3 3 = σ49 3 3 from (ik51 3 3 rfl rfl rfl)) h9)))⟩, iσ51, kp⟩⟩
            · -- not taken at 192
              refine g_aload_n hF d_X3_initial_195 rfl 3 rfl ?_
              refine g_bipush hF (v := 45) d_X3_initial_196 (by decide) ?_
              refine g_aload_n hF d_X3_initial_198 rfl 3 rfl ?_
              refine g_get (v := .int (σ14 3 1)) hF 1 obC_3 (by decide) m_95 rfl d_X3_initial_199 ?_
              refine g_iconst hF (v := 0) d_X3_initial_202 (by decide) ?_
              refine g_iconst hF (v := 0) d_X3_initial_203 (by decide) ?_
              have j53 : Inv (upF σ14 21 g46) := ⟨iσ14.1, iσ14.2.1, iσ14.2.2.1, iσ14.2.2.2.1, iσ14.2.2.2.2.1, iσ14.2.2.2.2.2.1, iσ14.2.2.2.2.2.2.1, iσ14.2.2.2.2.2.2.2.1, iσ14.2.2.2.2.2.2.2.2.1, iσ14.2.2.2.2.2.2.2.2.2.1, iσ14.2.2.2.2.2.2.2.2.2.2.1, iσ14.2.2.2.2.2.2.2.2.2.2.2.1, iσ14.2.2.2.2.2.2.2.2.2.2.2.2.1, iσ14.2.2.2.2.2.2.2.2.2.2.2.2.2.1, iσ14.2.2.2.2.2.2.2.2.2.2.2.2.2.2.1, iσ14.2.2.2.2.2.2.2.2.2.2.2.2.2.2.2.1, iσ14.2.2.2.2.2.2.2.2.2.2.2.2.2.2.2.2.1, iσ14.2.2.2.2.2.2.2.2.2.2.2.2.2.2.2.2.2.1, iσ14.2.2.2.2.2.2.2.2.2.2.2.2.2.2.2.2.2.2.1, iσ14.2.2.2.2.2.2.2.2.2.2.2.2.2.2.2.2.2.2.2⟩
              refine g_callV (As := [.int 45, .int (σ14 3 1), .int 0, .int 0]) (rest := []) hF (c_X3_add a g r (upF σ14 21 g46) (45 : Int32) (σ14 3 1) (0 : Int32) (0 : Int32) (fun h9 => absurd h9 (by decide)) hgp14 j53) (Nat.le_of_ble_eq_true rfl) mV_X3_add m_923 (recv_ob obC_3) rfl rfl (Nat.le_of_ble_eq_true rfl) d_X3_initial_204 (k_i (fun r52 σ52 ⟨⟨hgp52, hgm52⟩, iσ52, ik52⟩ => ?_)) (fun _ _ _ h => h.elim)
              have hmo52 : Mo σ52 σ0 := fun h9 => mo_e (show (upF σ14 21 g46) 3 3 = σ0 3 3 from (ik14 3 3 rfl rfl rfl)) (hgm52 h9)
              have kp : Keep [(3, 1), (3, 2), (3, 3), (3, 4), (3, 9)] [18, 19, 20, 21, 22, 23] σ0 σ52 := keep_c kp ik52 (by decide) (by decide)
              refine g_pop hF d_X3_initial_207 rfl ?_
              refine g_aload_n hF d_X3_initial_208 rfl 3 rfl ?_
              refine g_callV (As := []) (rest := []) hF (c_X3_advance a g r σ52 hgp52.2.2 (by rw [show (σ52 3 1) = (σ14 3 1) from (ik52 3 1 rfl rfl rfl)]; show -1 ≤ (σ14 3 1).toInt ∧ (σ14 3 1).toInt ≤ 16001; have hki := hgp52.2.1.1; have hgz := hgp52.1; have hq91 : (σ52 3 1).toInt = (σ14 3 1).toInt := (by rw [show (σ52 3 1) = (σ14 3 1) from (ik52 3 1 rfl rfl rfl)]); have hq92 : (σ52 3 2).toInt = (σ14 3 2).toInt := (by rw [show (σ52 3 2) = (σ14 3 2) from (ik52 3 2 rfl rfl rfl)]); have e0 := s_rng (σ14 3 1); have e1 := s_rng (σ0 3 1); omega) iσ52) (Nat.le_of_ble_eq_true rfl) mV_X3_advance m_899 (recv_ob obC_3) rfl rfl (Nat.le_of_ble_eq_true rfl) d_X3_initial_209 (k_v (fun σ54 ⟨⟨hgp54, hgm54⟩, hs54, iσ54, ik54⟩ => ?_)) (fun _ _ _ h => h.elim)
              have hs54 : (σ54 3 1).toInt = (σ14 3 1).toInt + 1 := (by have h9 := hs54; rw [show (σ52 3 1) = (σ14 3 1) from (ik52 3 1 rfl rfl rfl)] at h9; exact h9)
              have hmo54 : Mo σ54 σ0 := fun h9 => mo_e (show σ52 3 3 = σ0 3 3 from ((ik52 3 3 rfl rfl rfl).trans (ik14 3 3 rfl rfl rfl))) (hgm54 h9)
              have kp : Keep [(3, 1), (3, 2), (3, 3), (3, 4), (3, 9)] [18, 19, 20, 21, 22, 23] σ0 σ54 := keep_c kp ik54 (by decide) (by decide)
              refine g_aload_n hF d_X3_initial_212 rfl 3 rfl ?_
              refine g_bipush hF (v := 46) d_X3_initial_213 (by decide) ?_
              refine g_iload_n hF d_X3_initial_215 rfl 2 rfl ?_
              refine g_iconst hF (v := 2) d_X3_initial_216 (by decide) ?_
              refine g_iconst hF (v := 0) d_X3_initial_217 (by decide) ?_
              refine g_callV (As := [.int 46, .int (σ0 3 1), .int 2, .int 0]) (rest := []) hF (c_X3_add a g r σ54 (46 : Int32) (σ0 3 1) (2 : Int32) (0 : Int32) (fun h9 => absurd h9 (by decide)) hgp54 iσ54) (Nat.le_of_ble_eq_true rfl) mV_X3_add m_923 (recv_ob obC_3) rfl rfl (Nat.le_of_ble_eq_true rfl) d_X3_initial_218 (k_i (fun r55 σ55 ⟨⟨hgp55, hgm55⟩, iσ55, ik55⟩ => ?_)) (fun _ _ _ h => h.elim)
              have hmo55 : Mo σ55 σ0 := fun h9 => mo_e (show σ54 3 3 = σ0 3 3 from ((ik54 3 3 rfl rfl rfl).trans ((ik52 3 3 rfl rfl rfl).trans (ik14 3 3 rfl rfl rfl)))) (hgm55 h9)
              have kp : Keep [(3, 1), (3, 2), (3, 3), (3, 4), (3, 9)] [18, 19, 20, 21, 22, 23] σ0 σ55 := keep_c kp ik55 (by decide) (by decide)
              refine g_pop hF d_X3_initial_221 rfl ?_
              refine g_goto hF 240 d_X3_initial_222 (by decide) ?_
              exact g_vret hF rfl d_X3_initial_240 ⟨rfl, rfl, rfl, ⟨⟨hgp55, (fun h9 => (mo_e (show σ55 3 3 = σ0 3 3 from ((ik55 3 3 rfl rfl rfl).trans ((ik54 3 3 rfl rfl rfl).trans ((ik52 3 3 rfl rfl rfl).trans (ik14 3 3 rfl rfl rfl))))) h9))⟩, iσ55, kp⟩⟩
          · -- not taken at 95
            refine g_aload_n hF d_X3_initial_98 rfl 3 rfl ?_
            have j57 : Inv (upF σ14 21 g46) := ⟨iσ14.1, iσ14.2.1, iσ14.2.2.1, iσ14.2.2.2.1, iσ14.2.2.2.2.1, iσ14.2.2.2.2.2.1, iσ14.2.2.2.2.2.2.1, iσ14.2.2.2.2.2.2.2.1, iσ14.2.2.2.2.2.2.2.2.1, iσ14.2.2.2.2.2.2.2.2.2.1, iσ14.2.2.2.2.2.2.2.2.2.2.1, iσ14.2.2.2.2.2.2.2.2.2.2.2.1, iσ14.2.2.2.2.2.2.2.2.2.2.2.2.1, iσ14.2.2.2.2.2.2.2.2.2.2.2.2.2.1, iσ14.2.2.2.2.2.2.2.2.2.2.2.2.2.2.1, iσ14.2.2.2.2.2.2.2.2.2.2.2.2.2.2.2.1, iσ14.2.2.2.2.2.2.2.2.2.2.2.2.2.2.2.2.1, iσ14.2.2.2.2.2.2.2.2.2.2.2.2.2.2.2.2.2.1, iσ14.2.2.2.2.2.2.2.2.2.2.2.2.2.2.2.2.2.2.1, iσ14.2.2.2.2.2.2.2.2.2.2.2.2.2.2.2.2.2.2.2⟩
            refine g_callV (As := []) (rest := []) hF (c_X3_advance a g r (upF σ14 21 g46) hgp14.2.2 (by show -1 ≤ (σ14 3 1).toInt ∧ (σ14 3 1).toInt ≤ 16001; have hki := hgp14.2.1.1; have hgz := hgp14.1; have e0 := s_rng (σ14 3 1); have e1 := s_rng (σ0 3 1); omega) j57) (Nat.le_of_ble_eq_true rfl) mV_X3_advance m_899 (recv_ob obC_3) rfl rfl (Nat.le_of_ble_eq_true rfl) d_X3_initial_99 (k_v (fun σ56 ⟨⟨hgp56, hgm56⟩, hs56, iσ56, ik56⟩ => ?_)) (fun _ _ _ h => h.elim)
            have hs56 : (σ56 3 1).toInt = (σ14 3 1).toInt + 1 := hs56
            have hmo56 : Mo σ56 σ0 := fun h9 => mo_e (show (upF σ14 21 g46) 3 3 = σ0 3 3 from (ik14 3 3 rfl rfl rfl)) (hgm56 h9)
            have kp : Keep [(3, 1), (3, 2), (3, 3), (3, 4), (3, 9)] [18, 19, 20, 21, 22, 23] σ0 σ56 := keep_c kp ik56 (by decide) (by decide)
            refine g_iconst hF (v := 0) d_X3_initial_102 (by decide) ?_
            refine g_istore hF [(6, .int 0), (5, .int 1), (4, .int r15), (3, .int (σ0 3 1)), (0, .ref (r 3)), (1, .int a1), (2, .int a2)] d_X3_initial_103 hnn (by decide) rfl ?_
            refine g_iconst hF (v := 1) d_X3_initial_105 (by decide) ?_
            refine g_istore hF [(7, .int 1), (6, .int 0), (5, .int 1), (4, .int r15), (3, .int (σ0 3 1)), (0, .ref (r 3)), (1, .int a1), (2, .int a2)] d_X3_initial_106 hnn (by decide) rfl ?_
            exact g_sub (L' := [(0, .ref (r 3)), (1, .int a1), (2, .int a2), (3, .int (σ0 3 1)), (4, .int r15), (5, .int 1), (6, .int 0), (7, .int 1)]) [5, 6, 7, 4, 3, 2, 1, 0] rfl (b108 _ σ56 a1 a2 (σ0 3 1) r15 (1 : Int32) (0 : Int32) (1 : Int32) rfl iσ56 kp (Or.inr rfl) (Or.inr rfl) hgp56 (fun h9 => (mo_e (show σ56 3 3 = σ0 3 3 from ((ik56 3 3 rfl rfl rfl).trans (ik14 3 3 rfl rfl rfl))) h9)))
set_option maxHeartbeats 4000000 in
set_option maxRecDepth 100000 in
theorem c_X3_condition (a : Nat → Nat) (g : Nat → Nat → Int32) (r : Nat → Nat) (σ0 : St) (a1 : Int32) (a2 : Int32) (hgp : GPS σ0) (hpre : ¬ (a1.toInt = 43 ∨ a1.toInt = 47)) (i0 : Inv σ0) (l : Launch) (D : va_G) (cy : Nat → ClassId) : Ct l D cy SC r (EC a g) y_X3_condition (Cond.code y_X3_condition b_X3_condition 3 none) 359 [.ref (r 3), .int a1, .int a2] σ0 Z0 [] (QV (fun σ9 => ((GPS σ9 ∧ Mo σ9 σ0) ∧ (Inv σ9 ∧ Keep [(3, 1), (3, 2), (3, 3), (3, 4), (3, 9)] [18, 19, 20, 21, 22, 23] σ0 σ9)))) QF := by
  refine Ct_of (EC_ok a g) (by decide) (Nat.le_of_ble_eq_true rfl) (by decide) (fun X hnn hF => ?_)
  show G SC r X σ0 Z0 [] [(0, .ref (r 3)), (1, .int a1), (2, .int a2)] [] 0
  have kp : Keep [(3, 1), (3, 2), (3, 3), (3, 4), (3, 9)] [18, 19, 20, 21, 22, 23] σ0 σ0 := keep_rf
  refine g_aload_n hF d_X3_condition_0 rfl 0 rfl ?_
  refine g_bipush hF (v := 20) d_X3_condition_1 (by decide) ?_
  refine g_callV (As := [.int 20]) (rest := []) hF (c_X3_expect a g r σ0 (20 : Int32) hgp (by show ¬ (20 = 0 ∨ 20 = -1); have e0 : (20 : Int32).toInt = 20 := (by decide); omega) i0) (Nat.le_of_ble_eq_true rfl) mV_X3_expect m_903 (recv_ob obC_3) rfl rfl (Nat.le_of_ble_eq_true rfl) d_X3_condition_3 (k_v (fun σ1 ⟨⟨hgp1, hgm1⟩, hs1, iσ1, ik1⟩ => ?_)) (fun _ _ _ h => h.elim)
  have hs1 : (σ1 3 3).toInt < 0 → (σ0 3 2).toInt = 20 := hs1
  have hmo1 : Mo σ1 σ0 := fun h9 => mo_e (show σ0 3 3 = σ0 3 3 from rfl) (hgm1 h9)
  have kp : Keep [(3, 1), (3, 2), (3, 3), (3, 4), (3, 9)] [18, 19, 20, 21, 22, 23] σ0 σ1 := keep_c kp ik1 (by decide) (by decide)
  refine g_aload_n hF d_X3_condition_6 rfl 0 rfl ?_
  refine g_iconst hF (v := 1) d_X3_condition_7 (by decide) ?_
  refine g_callV (As := [.int 1]) (rest := []) hF ((RX_all a g r 25 σ1 1 (by decide) (by decide) iσ1 hgp1).1) (Nat.le_of_ble_eq_true rfl) mV_X3_expression m_927 (recv_ob obC_3) rfl rfl (Nat.le_of_ble_eq_true rfl) d_X3_condition_8 (k_v (fun σ2 ⟨⟨hgp2, hgm2⟩, iσ2, ik2⟩ => ?_)) (fun _ _ _ h => h.elim)
  have hmo2 : Mo σ2 σ1 := fun h9 => mo_e (show σ1 3 3 = σ1 3 3 from rfl) (hgm2 h9)
  have kp : Keep [(3, 1), (3, 2), (3, 3), (3, 4), (3, 9)] [18, 19, 20, 21, 22, 23] σ0 σ2 := keep_c kp ik2 (by decide) (by decide)
  refine g_aload_n hF d_X3_condition_11 rfl 0 rfl ?_
  refine g_bipush hF (v := 21) d_X3_condition_12 (by decide) ?_
  refine g_callV (As := [.int 21]) (rest := []) hF (c_X3_expect a g r σ2 (21 : Int32) hgp2 (by show ¬ (21 = 0 ∨ 21 = -1); have e0 : (21 : Int32).toInt = 21 := (by decide); omega) iσ2) (Nat.le_of_ble_eq_true rfl) mV_X3_expect m_903 (recv_ob obC_3) rfl rfl (Nat.le_of_ble_eq_true rfl) d_X3_condition_14 (k_v (fun σ3 ⟨⟨hgp3, hgm3⟩, hs3, iσ3, ik3⟩ => ?_)) (fun _ _ _ h => h.elim)
  have hs3 : (σ3 3 3).toInt < 0 → (σ2 3 2).toInt = 21 := hs3
  have hmo3 : Mo σ3 σ2 := fun h9 => mo_e (show σ2 3 3 = σ2 3 3 from rfl) (hgm3 h9)
  have kp : Keep [(3, 1), (3, 2), (3, 3), (3, 4), (3, 9)] [18, 19, 20, 21, 22, 23] σ0 σ3 := keep_c kp ik3 (by decide) (by decide)
  refine g_aload_n hF d_X3_condition_17 rfl 0 rfl ?_
  refine g_iload_n hF d_X3_condition_18 rfl 1 rfl ?_
  refine g_iload_n hF d_X3_condition_19 rfl 2 rfl ?_
  refine g_iconst hF (v := 0) d_X3_condition_20 (by decide) ?_
  refine g_iconst hF (v := 0) d_X3_condition_21 (by decide) ?_
  refine g_callV (As := [.int a1, .int a2, .int 0, .int 0]) (rest := []) hF (c_X3_add a g r σ3 a1 a2 (0 : Int32) (0 : Int32) (fun h9 _ => absurd h9 (by have e0 := s_rng a1; omega)) hgp3 iσ3) (Nat.le_of_ble_eq_true rfl) mV_X3_add m_923 (recv_ob obC_3) rfl rfl (Nat.le_of_ble_eq_true rfl) d_X3_condition_22 (k_i (fun r4 σ4 ⟨⟨hgp4, hgm4⟩, iσ4, ik4⟩ => ?_)) (fun _ _ _ h => h.elim)
  have hmo4 : Mo σ4 σ3 := fun h9 => mo_e (show σ3 3 3 = σ3 3 3 from rfl) (hgm4 h9)
  have kp : Keep [(3, 1), (3, 2), (3, 3), (3, 4), (3, 9)] [18, 19, 20, 21, 22, 23] σ0 σ4 := keep_c kp ik4 (by decide) (by decide)
  refine g_pop hF d_X3_condition_25 rfl ?_
  exact g_vret hF rfl d_X3_condition_26 ⟨rfl, rfl, rfl, ⟨⟨hgp4, (fun h9 => (hmo1 (hmo2 (hmo3 (mo_e (show σ4 3 3 = σ3 3 3 from (ik4 3 3 rfl rfl rfl)) h9)))))⟩, iσ4, kp⟩⟩
