set_option maxHeartbeats 4000000 in
set_option maxRecDepth 100000 in
theorem c_X12_takeBytes (a : Nat → Nat) (g : Nat → Nat → Int32) (r : Nat → Nat) (σ0 : St) (a1 : Int32) (hpre : (σ0 0 1).toInt ≤ 15996) (i0 : Inv σ0) (l : Launch) (D : va_G) (cy : Nat → ClassId) : Ct l D cy SC r (EC a g) y_X12_takeBytes (Cond.code y_X12_takeBytes b_X12_takeBytes 3 none) 0 [.ref (r 0), .int a1] σ0 Z0 [] (QV (fun σ9 => (((σ9 0 1).toInt = (σ0 0 1).toInt + 4) ∧ Inv σ9 ∧ Keep [(0, 1)] [1] σ0 σ9))) QF := by
  refine Ct_of (EC_ok a g) (by decide) (Nat.le_of_ble_eq_true rfl) (by decide) (fun X hnn hF => ?_)
  show G SC r X σ0 Z0 [] [(0, .ref (r 0)), (1, .int a1)] [] 0
  have b3 : ∀ (N : Nat) (σ : St) (x1 : Int32) (x2 : Int32) , upm (σ 0 1) = N → Inv σ → Keep [(0, 1)] [1] σ0 σ → (8 * (σ 0 1).toInt + x2.toInt = 8 * (σ0 0 1).toInt + 24 ∧ -8 ≤ x2.toInt ∧ x2.toInt ≤ 24) → G SC r X σ Z0 [] [(0, .ref (r 0)), (1, .int x1), (2, .int x2)] [] 3 := by
    intro M3
    induction M3 using Nat.strongRecOn with
    | _ M3 ih3 =>
      intro σ x1 x2 N3 inv kp hj
      refine g_iload_n hF d_X12_takeBytes_3 rfl 2 rfl ?_
      refine g_if_lt hF 48 d_X12_takeBytes_4 (by decide) rfl (fun c1_4 => ?_) (fun c1_4 => ?_)
      · -- taken at 4
        exact g_vret hF rfl d_X12_takeBytes_48 ⟨rfl, rfl, rfl, ⟨(by show (σ 0 1).toInt = (σ0 0 1).toInt + 4; have e0 := s_rng (σ 0 1); have e1 := inv.1; have e2 := s_rng (σ0 0 1); have e3 := i0.1; omega), inv, kp⟩⟩
      · -- not taken at 4
        refine g_aload_n hF d_X12_takeBytes_7 rfl 0 rfl ?_
        refine g_get (v := .int (σ 0 1)) hF 1 obC_0 (by decide) m_736 rfl d_X12_takeBytes_8 ?_
        refine g_aload_n hF d_X12_takeBytes_11 rfl 0 rfl ?_
        refine g_get (v := .ref (r 1)) hF 0 obC_0 (by decide) m_735 rfl d_X12_takeBytes_12 ?_
        refine g_alen hF arC_1 (fun _ => ⟨0, _, rfl⟩) (v := 16000) (by decide) d_X12_takeBytes_15 ?_
        refine g_icmp_ge (yv := 16000) hF 48 d_X12_takeBytes_16 (by decide) rfl (by decide) (fun c2_16 => ?_) (fun c2_16 => ?_)
        · -- taken at 16
          exact g_vret hF rfl d_X12_takeBytes_48 ⟨rfl, rfl, rfl, ⟨(by show (σ 0 1).toInt = (σ0 0 1).toInt + 4; have e0 := s_rng (σ 0 1); have e1 := inv.1; have e2 := s_rng (σ0 0 1); have e3 := i0.1; have e4 : (16000 : Int32).toInt = 16000 := (by decide); omega), inv, kp⟩⟩
        · -- not taken at 16
          refine g_aload_n hF d_X12_takeBytes_19 rfl 0 rfl ?_
          refine g_get (v := .ref (r 1)) hF 0 obC_0 (by decide) m_735 rfl d_X12_takeBytes_20 ?_
          refine g_aload_n hF d_X12_takeBytes_23 rfl 0 rfl ?_
          refine g_get (v := .int (σ 0 1)) hF 1 obC_0 (by decide) m_736 rfl d_X12_takeBytes_24 ?_
          refine g_iload_n hF d_X12_takeBytes_27 rfl 1 rfl ?_
          refine g_iload_n hF d_X12_takeBytes_28 rfl 2 rfl ?_
          refine g_ishr hF d_X12_takeBytes_29 ?_
          refine g_any (fun v3 => ?_)
          refine g_i2b hF d_X12_takeBytes_30 ?_
          refine g_any (fun v4 => ?_)
          refine g_bast hF arC_1 (by refine s_in (by decide) ?_ ?_ <;> (have e0 := s_rng (σ 0 1); have e1 := inv.1; have e2 : (16000 : Int32).toInt = 16000 := (by decide); omega)) d_X12_takeBytes_31 ?_
          have kp : Keep [(0, 1)] [1] σ0 (upC σ 1 ((σ 0 1)).toNatClampNeg (vp_nar .byte v4)) := keep_a kp (by decide)
          have p5 : ByteOK ((upC σ 1 ((σ 0 1)).toNatClampNeg (vp_nar .byte v4)) 1) := byte_up inv.2.2.2.2.2.2.2.2.2.2.2.2.2.2.2.2.2.1
          refine g_aload_n hF d_X12_takeBytes_32 rfl 0 rfl ?_
          refine g_dup hF d_X12_takeBytes_33 rfl ?_
          refine g_get (v := .int (σ 0 1)) hF 1 obC_0 (by decide) m_736 rfl d_X12_takeBytes_34 ?_
          refine g_iconst hF (v := 1) d_X12_takeBytes_37 (by decide) ?_
          refine g_iadd hF d_X12_takeBytes_38 ?_
          refine g_put (v := ((σ 0 1) + 1)) hF 1 obC_0 (by decide) m_736 rfl rfl rfl d_X12_takeBytes_39 ?_
          have kp : Keep [(0, 1)] [1] σ0 (upC (upC σ 1 ((σ 0 1)).toNatClampNeg (vp_nar .byte v4)) 0 1 ((σ 0 1) + 1)) := keep_f kp (by decide)
          have p6 : 0 ≤ ((σ 0 1) + 1).toInt ∧ ((σ 0 1) + 1).toInt ≤ 16000 := (by have e0 := s_rng (σ 0 1); have e1 := inv.1; have e2 : (1 : Int32).toInt = 1 := (by decide); obtain ⟨k3, e3⟩ := s_add (σ 0 1) (1 : Int32); have e3a := s_rng ((σ 0 1) + 1); have e5 : (16000 : Int32).toInt = 16000 := (by decide); omega)
          refine g_iinc hF (x2 + (-8)) [(2, .int (x2 + (-8))), (0, .ref (r 0)), (1, .int x1)] d_X12_takeBytes_42 2 rfl rfl hnn (by decide) rfl ?_
          refine g_goto hF 3 d_X12_takeBytes_45 (by decide) ?_
          have j7 : Inv (upC (upC σ 1 ((σ 0 1)).toNatClampNeg (vp_nar .byte v4)) 0 1 ((σ 0 1) + 1)) := ⟨p6, inv.2.1, inv.2.2.1, inv.2.2.2.1, inv.2.2.2.2.1, inv.2.2.2.2.2.1, inv.2.2.2.2.2.2.1, inv.2.2.2.2.2.2.2.1, inv.2.2.2.2.2.2.2.2.1, inv.2.2.2.2.2.2.2.2.2.1, inv.2.2.2.2.2.2.2.2.2.2.1, inv.2.2.2.2.2.2.2.2.2.2.2.1, inv.2.2.2.2.2.2.2.2.2.2.2.2.1, inv.2.2.2.2.2.2.2.2.2.2.2.2.2.1, inv.2.2.2.2.2.2.2.2.2.2.2.2.2.2.1, inv.2.2.2.2.2.2.2.2.2.2.2.2.2.2.2.1, inv.2.2.2.2.2.2.2.2.2.2.2.2.2.2.2.2.1, p5, inv.2.2.2.2.2.2.2.2.2.2.2.2.2.2.2.2.2.2.1, inv.2.2.2.2.2.2.2.2.2.2.2.2.2.2.2.2.2.2.2⟩
          exact g_sub (L' := [(0, .ref (r 0)), (1, .int x1), (2, .int (x2 + (-8)))]) [1, 2, 0] rfl (ih3 _ (by show upm ((σ 0 1) + 1) < _; have hN := N3; unfold upm at hN ⊢; have e0 := s_rng (σ 0 1); have e1 := inv.1; have e2 : (1 : Int32).toInt = 1 := (by decide); obtain ⟨k3, e3⟩ := s_add (σ 0 1) (1 : Int32); have e3a := s_rng ((σ 0 1) + 1); have e5 : (16000 : Int32).toInt = 16000 := (by decide); omega) (upC (upC σ 1 ((σ 0 1)).toNatClampNeg (vp_nar .byte v4)) 0 1 ((σ 0 1) + 1)) x1 (x2 + (-8)) rfl j7 kp (by show 8 * ((σ 0 1) + 1).toInt + (x2 + (-8)).toInt = 8 * (σ0 0 1).toInt + 24 ∧ -8 ≤ (x2 + (-8)).toInt ∧ (x2 + (-8)).toInt ≤ 24; have e0 := s_rng x2; have e1 : ((-8) : Int32).toInt = -8 := (by decide); obtain ⟨k2, e2⟩ := s_add x2 ((-8) : Int32); have e2a := s_rng (x2 + (-8)); have e4 := s_rng x1; have e5 := s_rng (σ 0 1); have e6 := inv.1; have e7 : (1 : Int32).toInt = 1 := (by decide); obtain ⟨k8, e8⟩ := s_add (σ 0 1) (1 : Int32); have e8a := s_rng ((σ 0 1) + 1); have e10 := s_rng (σ0 0 1); have e11 := i0.1; have e12 : (0 : Int32).toInt = 0 := (by decide); have e13 : (16000 : Int32).toInt = 16000 := (by decide); omega))
  have kp : Keep [(0, 1)] [1] σ0 σ0 := keep_rf
  refine g_bipush hF (v := 24) d_X12_takeBytes_0 (by decide) ?_
  refine g_istore_n hF [(2, .int 24), (0, .ref (r 0)), (1, .int a1)] d_X12_takeBytes_2 rfl hnn (by decide) rfl ?_
  exact g_sub (L' := [(0, .ref (r 0)), (1, .int a1), (2, .int 24)]) [1, 2, 0] rfl (b3 _ σ0 a1 (24 : Int32) rfl i0 kp (by show 8 * (σ0 0 1).toInt + 24 = 8 * (σ0 0 1).toInt + 24 ∧ -8 ≤ 24 ∧ 24 ≤ 24; have e0 : (24 : Int32).toInt = 24 := (by decide); have e1 := s_rng a1; have e2 := s_rng (σ0 0 1); have e3 := i0.1; omega))
set_option maxHeartbeats 4000000 in
set_option maxRecDepth 100000 in
theorem c_X12_end (a : Nat → Nat) (g : Nat → Nat → Int32) (r : Nat → Nat) (σ0 : St) (a1 : Int32) (i0 : Inv σ0) (l : Launch) (D : va_G) (cy : Nat → ClassId) : Ct l D cy SC r (EC a g) y_X12_end (Cond.code y_X12_end b_X12_end 2 (some .int)) 0 [.ref (r 0), .int a1] σ0 Z0 [] (QI (fun v9 σ9 => ((((0 ≤ a1.toInt ∧ a1.toInt ≤ (σ0 0 1).toInt) → (v9.toInt = a1.toInt ∧ (σ9 0 1).toInt = a1.toInt)) ∧ (¬ (0 ≤ a1.toInt ∧ a1.toInt ≤ (σ0 0 1).toInt) → (v9.toInt = -1 ∧ (σ9 0 1).toInt = (σ0 0 1).toInt))) ∧ Inv σ9 ∧ Keep [(0, 1)] [] σ0 σ9))) QF := by
  refine Ct_of (EC_ok a g) (by decide) (Nat.le_of_ble_eq_true rfl) (by decide) (fun X hnn hF => ?_)
  show G SC r X σ0 Z0 [] [(0, .ref (r 0)), (1, .int a1)] [] 0
  have kp : Keep [(0, 1)] [] σ0 σ0 := keep_rf
  refine g_iload_n hF d_X12_end_0 rfl 1 rfl ?_
  refine g_if_lt hF 12 d_X12_end_1 (by decide) rfl (fun c1_1 => ?_) (fun c1_1 => ?_)
  · -- taken at 1
    refine g_iconst hF (v := (-1)) d_X12_end_12 (by decide) ?_
    exact g_iret hF rfl d_X12_end_13 ⟨rfl, rfl, ((-1) : Int32), rfl, ⟨(by show ((0 ≤ a1.toInt ∧ a1.toInt ≤ (σ0 0 1).toInt) → (-1 = a1.toInt ∧ (σ0 0 1).toInt = a1.toInt)) ∧ (¬ (0 ≤ a1.toInt ∧ a1.toInt ≤ (σ0 0 1).toInt) → (-1 = -1 ∧ (σ0 0 1).toInt = (σ0 0 1).toInt)); have e0 : ((-1) : Int32).toInt = -1 := (by decide); have e1 := s_rng (σ0 0 1); have e2 := i0.1; omega), i0, kp⟩⟩
  · -- not taken at 1
    refine g_iload_n hF d_X12_end_4 rfl 1 rfl ?_
    refine g_aload_n hF d_X12_end_5 rfl 0 rfl ?_
    refine g_get (v := .int (σ0 0 1)) hF 1 obC_0 (by decide) m_736 rfl d_X12_end_6 ?_
    refine g_icmp_le hF 14 d_X12_end_9 (by decide) rfl rfl (fun c2_9 => ?_) (fun c2_9 => ?_)
    · -- taken at 9
      refine g_aload_n hF d_X12_end_14 rfl 0 rfl ?_
      refine g_iload_n hF d_X12_end_15 rfl 1 rfl ?_
      refine g_put (v := a1) hF 1 obC_0 (by decide) m_736 rfl rfl rfl d_X12_end_16 ?_
      have kp : Keep [(0, 1)] [] σ0 (upC σ0 0 1 a1) := keep_f kp (by decide)
      have p3 : 0 ≤ a1.toInt ∧ a1.toInt ≤ 16000 := (by have e0 := s_rng a1; have e1 : (0 : Int32).toInt = 0 := (by decide); have e2 := s_rng (σ0 0 1); have e3 := i0.1; omega)
      refine g_iload_n hF d_X12_end_19 rfl 1 rfl ?_
      have j4 : Inv (upC σ0 0 1 a1) := ⟨p3, i0.2.1, i0.2.2.1, i0.2.2.2.1, i0.2.2.2.2.1, i0.2.2.2.2.2.1, i0.2.2.2.2.2.2.1, i0.2.2.2.2.2.2.2.1, i0.2.2.2.2.2.2.2.2.1, i0.2.2.2.2.2.2.2.2.2.1, i0.2.2.2.2.2.2.2.2.2.2.1, i0.2.2.2.2.2.2.2.2.2.2.2.1, i0.2.2.2.2.2.2.2.2.2.2.2.2.1, i0.2.2.2.2.2.2.2.2.2.2.2.2.2.1, i0.2.2.2.2.2.2.2.2.2.2.2.2.2.2.1, i0.2.2.2.2.2.2.2.2.2.2.2.2.2.2.2.1, i0.2.2.2.2.2.2.2.2.2.2.2.2.2.2.2.2.1, i0.2.2.2.2.2.2.2.2.2.2.2.2.2.2.2.2.2.1, i0.2.2.2.2.2.2.2.2.2.2.2.2.2.2.2.2.2.2.1, i0.2.2.2.2.2.2.2.2.2.2.2.2.2.2.2.2.2.2.2⟩
      exact g_iret hF rfl d_X12_end_20 ⟨rfl, rfl, a1, rfl, ⟨(by show ((0 ≤ a1.toInt ∧ a1.toInt ≤ (σ0 0 1).toInt) → (a1.toInt = a1.toInt ∧ a1.toInt = a1.toInt)) ∧ (¬ (0 ≤ a1.toInt ∧ a1.toInt ≤ (σ0 0 1).toInt) → (a1.toInt = -1 ∧ a1.toInt = (σ0 0 1).toInt)); have e0 := s_rng a1; have e1 := s_rng (σ0 0 1); have e2 := i0.1; have e3 : (0 : Int32).toInt = 0 := (by decide); omega), j4, kp⟩⟩
    · -- not taken at 9
      refine g_iconst hF (v := (-1)) d_X12_end_12 (by decide) ?_
      exact g_iret hF rfl d_X12_end_13 ⟨rfl, rfl, ((-1) : Int32), rfl, ⟨(by show ((0 ≤ a1.toInt ∧ a1.toInt ≤ (σ0 0 1).toInt) → (-1 = a1.toInt ∧ (σ0 0 1).toInt = a1.toInt)) ∧ (¬ (0 ≤ a1.toInt ∧ a1.toInt ≤ (σ0 0 1).toInt) → (-1 = -1 ∧ (σ0 0 1).toInt = (σ0 0 1).toInt)); have e0 : ((-1) : Int32).toInt = -1 := (by decide); have e1 := s_rng (σ0 0 1); have e2 := i0.1; have e3 := s_rng a1; have e4 : (0 : Int32).toInt = 0 := (by decide); omega), i0, kp⟩⟩
set_option maxHeartbeats 4000000 in
set_option maxRecDepth 100000 in
theorem c_X10_byteAt (a : Nat → Nat) (g : Nat → Nat → Int32) (r : Nat → Nat) (σ0 : St) (a1 : Int32) (i0 : Inv σ0) (l : Launch) (D : va_G) (cy : Nat → ClassId) : Ct l D cy SC r (EC a g) y_X10_byteAt (Cond.code y_X10_byteAt b_X10_byteAt 2 (some .int)) 0 [.ref (r 2), .int a1] σ0 Z0 [] (QI (fun v9 σ9 => ((0 ≤ v9.toInt → (0 ≤ a1.toInt ∧ a1.toInt < 16000)) ∧ σ9 = σ0))) QF := by
  refine Ct_of (EC_ok a g) (by decide) (Nat.le_of_ble_eq_true rfl) (by decide) (fun X hnn hF => ?_)
  show G SC r X σ0 Z0 [] [(0, .ref (r 2)), (1, .int a1)] [] 0
  refine g_iload_n hF d_X10_byteAt_0 rfl 1 rfl ?_
  refine g_if_lt hF 34 d_X10_byteAt_1 (by decide) rfl (fun c1_1 => ?_) (fun c1_1 => ?_)
  · -- taken at 1
    refine g_iconst hF (v := (-1)) d_X10_byteAt_34 (by decide) ?_
    exact g_iret hF rfl d_X10_byteAt_35 ⟨rfl, rfl, ((-1) : Int32), rfl, ⟨(by show 0 ≤ -1 → (0 ≤ a1.toInt ∧ a1.toInt < 16000); have e0 : ((-1) : Int32).toInt = -1 := (by decide); have e1 := s_rng a1; have e2 : (0 : Int32).toInt = 0 := (by decide); omega), rfl⟩⟩
  · -- not taken at 1
    refine g_iload_n hF d_X10_byteAt_4 rfl 1 rfl ?_
    refine g_aload_n hF d_X10_byteAt_5 rfl 0 rfl ?_
    refine g_get (v := .int (σ0 2 1)) hF 1 obC_2 (by decide) m_43 rfl d_X10_byteAt_6 ?_
    refine g_icmp_ge hF 34 d_X10_byteAt_9 (by decide) rfl rfl (fun c2_9 => ?_) (fun c2_9 => ?_)
    · -- taken at 9
      refine g_iconst hF (v := (-1)) d_X10_byteAt_34 (by decide) ?_
      exact g_iret hF rfl d_X10_byteAt_35 ⟨rfl, rfl, ((-1) : Int32), rfl, ⟨(by show 0 ≤ -1 → (0 ≤ a1.toInt ∧ a1.toInt < 16000); have e0 : ((-1) : Int32).toInt = -1 := (by decide); have e1 := s_rng a1; have e2 : (0 : Int32).toInt = 0 := (by decide); have e3 := s_rng (σ0 2 1); have e4 := i0.2.2.2.2.2.2.2.2.1; omega), rfl⟩⟩
    · -- not taken at 9
      refine g_iload_n hF d_X10_byteAt_12 rfl 1 rfl ?_
      refine g_aload_n hF d_X10_byteAt_13 rfl 0 rfl ?_
      refine g_get (v := .ref (r 1)) hF 0 obC_2 (by decide) m_41 rfl d_X10_byteAt_14 ?_
      refine g_alen hF arC_1 (fun _ => ⟨0, _, rfl⟩) (v := 16000) (by decide) d_X10_byteAt_17 ?_
      refine g_icmp_ge (yv := 16000) hF 34 d_X10_byteAt_18 (by decide) rfl (by decide) (fun c3_18 => ?_) (fun c3_18 => ?_)
      · -- taken at 18
        refine g_iconst hF (v := (-1)) d_X10_byteAt_34 (by decide) ?_
        exact g_iret hF rfl d_X10_byteAt_35 ⟨rfl, rfl, ((-1) : Int32), rfl, ⟨(by show 0 ≤ -1 → (0 ≤ a1.toInt ∧ a1.toInt < 16000); have e0 : ((-1) : Int32).toInt = -1 := (by decide); have e1 := s_rng a1; have e2 : (0 : Int32).toInt = 0 := (by decide); have e3 := s_rng (σ0 2 1); have e4 := i0.2.2.2.2.2.2.2.2.1; have e5 : (16000 : Int32).toInt = 16000 := (by decide); omega), rfl⟩⟩
      · -- not taken at 18
        refine g_aload_n hF d_X10_byteAt_21 rfl 0 rfl ?_
        refine g_get (v := .ref (r 1)) hF 0 obC_2 (by decide) m_41 rfl d_X10_byteAt_22 ?_
        refine g_iload_n hF d_X10_byteAt_25 rfl 1 rfl ?_
        refine g_bald hF arC_1 (by refine s_in (by decide) ?_ ?_ <;> (have e0 := s_rng a1; have e1 : (0 : Int32).toInt = 0 := (by decide); have e2 := s_rng (σ0 2 1); have e3 := i0.2.2.2.2.2.2.2.2.1; have e4 : (16000 : Int32).toInt = 16000 := (by decide); omega)) d_X10_byteAt_26 ?_
        refine g_any (fun v4 => ?_)
        refine g_sipush hF (v := 255) d_X10_byteAt_27 (by decide) ?_
        refine g_iand hF d_X10_byteAt_30 ?_
        refine g_any (fun v5 => ?_)
        refine g_goto hF 35 d_X10_byteAt_31 (by decide) ?_
        exact g_iret hF rfl d_X10_byteAt_35 ⟨rfl, rfl, v5, rfl, ⟨(by show 0 ≤ v5.toInt → (0 ≤ a1.toInt ∧ a1.toInt < 16000); have e0 := s_rng v5; have e1 := s_rng a1; have e2 : (0 : Int32).toInt = 0 := (by decide); have e3 := s_rng (σ0 2 1); have e4 := i0.2.2.2.2.2.2.2.2.1; have e5 : (16000 : Int32).toInt = 16000 := (by decide); omega), rfl⟩⟩
set_option maxHeartbeats 4000000 in
set_option maxRecDepth 100000 in
theorem c_X10_mayOccur (a : Nat → Nat) (g : Nat → Nat → Int32) (r : Nat → Nat) (σ0 : St) (a0 : Int32) (i0 : Inv σ0) (l : Launch) (D : va_G) (cy : Nat → ClassId) : Ct l D cy SC r (EC a g) y_X10_mayOccur (Cond.code y_X10_mayOccur b_X10_mayOccur 1 (some .boolean)) 0 [.int a0] σ0 Z0 [] (QI (fun v9 σ9 => (v9 = 0 ∨ v9 = 1) ∧ σ9 = σ0)) QF := by
  refine Ct_of (EC_ok a g) (by decide) (Nat.le_of_ble_eq_true rfl) (by decide) (fun X hnn hF => ?_)
  show G SC r X σ0 Z0 [] [(0, .int a0)] [] 0
  refine g_iload_n hF d_X10_mayOccur_0 rfl 0 rfl ?_
  refine g_bipush hF (v := 32) d_X10_mayOccur_1 (by decide) ?_
  refine g_icmp_lt (yv := 32) hF 12 d_X10_mayOccur_3 (by decide) rfl (by decide) (fun c1_3 => ?_) (fun c1_3 => ?_)
  · -- taken at 3
    refine g_iload_n hF d_X10_mayOccur_12 rfl 0 rfl ?_
    refine g_bipush hF (v := 9) d_X10_mayOccur_13 (by decide) ?_
    refine g_icmp_eq (yv := 9) hF 30 d_X10_mayOccur_15 (by decide) rfl (by decide) (fun c2_15 => ?_) (fun c2_15 => ?_)
    · -- taken at 15
      refine g_iconst hF (v := 1) d_X10_mayOccur_30 (by decide) ?_
      refine g_goto hF 35 d_X10_mayOccur_31 (by decide) ?_
      exact g_zret hF rfl (k_nz (Or.inr rfl)) d_X10_mayOccur_35 ⟨rfl, rfl, (1 : Int32), rfl, (Or.inr rfl), rfl⟩
    · -- not taken at 15
      refine g_iload_n hF d_X10_mayOccur_18 rfl 0 rfl ?_
      refine g_bipush hF (v := 10) d_X10_mayOccur_19 (by decide) ?_
      refine g_icmp_eq (yv := 10) hF 30 d_X10_mayOccur_21 (by decide) rfl (by decide) (fun c3_21 => ?_) (fun c3_21 => ?_)
      · -- taken at 21
        refine g_iconst hF (v := 1) d_X10_mayOccur_30 (by decide) ?_
        refine g_goto hF 35 d_X10_mayOccur_31 (by decide) ?_
        exact g_zret hF rfl (k_nz (Or.inr rfl)) d_X10_mayOccur_35 ⟨rfl, rfl, (1 : Int32), rfl, (Or.inr rfl), rfl⟩
      · -- not taken at 21
        refine g_iload_n hF d_X10_mayOccur_24 rfl 0 rfl ?_
        refine g_bipush hF (v := 13) d_X10_mayOccur_25 (by decide) ?_
        refine g_icmp_ne (yv := 13) hF 34 d_X10_mayOccur_27 (by decide) rfl (by decide) (fun c4_27 => ?_) (fun c4_27 => ?_)
        · -- taken at 27
          refine g_iconst hF (v := 0) d_X10_mayOccur_34 (by decide) ?_
          exact g_zret hF rfl (k_nz (Or.inl rfl)) d_X10_mayOccur_35 ⟨rfl, rfl, (0 : Int32), rfl, (Or.inl rfl), rfl⟩
        · -- not taken at 27
          refine g_iconst hF (v := 1) d_X10_mayOccur_30 (by decide) ?_
          refine g_goto hF 35 d_X10_mayOccur_31 (by decide) ?_
          exact g_zret hF rfl (k_nz (Or.inr rfl)) d_X10_mayOccur_35 ⟨rfl, rfl, (1 : Int32), rfl, (Or.inr rfl), rfl⟩
  · -- not taken at 3
    refine g_iload_n hF d_X10_mayOccur_6 rfl 0 rfl ?_
    refine g_bipush hF (v := 126) d_X10_mayOccur_7 (by decide) ?_
    refine g_icmp_le (yv := 126) hF 30 d_X10_mayOccur_9 (by decide) rfl (by decide) (fun c5_9 => ?_) (fun c5_9 => ?_)
    · -- taken at 9
      refine g_iconst hF (v := 1) d_X10_mayOccur_30 (by decide) ?_
      refine g_goto hF 35 d_X10_mayOccur_31 (by decide) ?_
      exact g_zret hF rfl (k_nz (Or.inr rfl)) d_X10_mayOccur_35 ⟨rfl, rfl, (1 : Int32), rfl, (Or.inr rfl), rfl⟩
    · -- not taken at 9
      refine g_iload_n hF d_X10_mayOccur_12 rfl 0 rfl ?_
      refine g_bipush hF (v := 9) d_X10_mayOccur_13 (by decide) ?_
      refine g_icmp_eq (yv := 9) hF 30 d_X10_mayOccur_15 (by decide) rfl (by decide) (fun c6_15 => ?_) (fun c6_15 => ?_)
      · -- taken at 15
        refine g_iconst hF (v := 1) d_X10_mayOccur_30 (by decide) ?_
        refine g_goto hF 35 d_X10_mayOccur_31 (by decide) ?_
        exact g_zret hF rfl (k_nz (Or.inr rfl)) d_X10_mayOccur_35 ⟨rfl, rfl, (1 : Int32), rfl, (Or.inr rfl), rfl⟩
      · -- not taken at 15
        refine g_iload_n hF d_X10_mayOccur_18 rfl 0 rfl ?_
        refine g_bipush hF (v := 10) d_X10_mayOccur_19 (by decide) ?_
        refine g_icmp_eq (yv := 10) hF 30 d_X10_mayOccur_21 (by decide) rfl (by decide) (fun c7_21 => ?_) (fun c7_21 => ?_)
        · -- taken at 21
          refine g_iconst hF (v := 1) d_X10_mayOccur_30 (by decide) ?_
          refine g_goto hF 35 d_X10_mayOccur_31 (by decide) ?_
          exact g_zret hF rfl (k_nz (Or.inr rfl)) d_X10_mayOccur_35 ⟨rfl, rfl, (1 : Int32), rfl, (Or.inr rfl), rfl⟩
        · -- not taken at 21
          refine g_iload_n hF d_X10_mayOccur_24 rfl 0 rfl ?_
          refine g_bipush hF (v := 13) d_X10_mayOccur_25 (by decide) ?_
          refine g_icmp_ne (yv := 13) hF 34 d_X10_mayOccur_27 (by decide) rfl (by decide) (fun c8_27 => ?_) (fun c8_27 => ?_)
          · -- taken at 27
            refine g_iconst hF (v := 0) d_X10_mayOccur_34 (by decide) ?_
            exact g_zret hF rfl (k_nz (Or.inl rfl)) d_X10_mayOccur_35 ⟨rfl, rfl, (0 : Int32), rfl, (Or.inl rfl), rfl⟩
          · -- not taken at 27
            refine g_iconst hF (v := 1) d_X10_mayOccur_30 (by decide) ?_
            refine g_goto hF 35 d_X10_mayOccur_31 (by decide) ?_
            exact g_zret hF rfl (k_nz (Or.inr rfl)) d_X10_mayOccur_35 ⟨rfl, rfl, (1 : Int32), rfl, (Or.inr rfl), rfl⟩
set_option maxHeartbeats 4000000 in
set_option maxRecDepth 100000 in
theorem c_X10_add (a : Nat → Nat) (g : Nat → Nat → Int32) (r : Nat → Nat) (σ0 : St) (a1 : Int32) (a2 : Int32) (a3 : Int32) (hpre : 0 ≤ (σ0 2 2).toInt + a3.toInt ∧ (σ0 2 2).toInt + a3.toInt ≤ 40000 ∧ (a1.toInt = 2 → 0 ≤ a2.toInt ∧ a2.toInt ≤ 16001)) (i0 : Inv σ0) (l : Launch) (D : va_G) (cy : Nat → ClassId) : Ct l D cy SC r (EC a g) y_X10_add (Cond.code y_X10_add b_X10_add 4 (some .boolean)) 0 [.ref (r 2), .int a1, .int a2, .int a3] σ0 Z0 [] (QI (fun v9 σ9 => (v9 = 0 ∨ v9 = 1) ∧ (Inv σ9 ∧ Keep [(2, 2), (2, 4)] [13, 14, 15, 16] σ0 σ9))) QF := by
  refine Ct_of (EC_ok a g) (by decide) (Nat.le_of_ble_eq_true rfl) (by decide) (fun X hnn hF => ?_)
  show G SC r X σ0 Z0 [] [(0, .ref (r 2)), (1, .int a1), (2, .int a2), (3, .int a3)] [] 0
  have kp : Keep [(2, 2), (2, 4)] [13, 14, 15, 16] σ0 σ0 := keep_rf
  refine g_aload_n hF d_X10_add_0 rfl 0 rfl ?_
  refine g_get (v := .int (σ0 2 4)) hF 4 obC_2 (by decide) m_46 rfl d_X10_add_1 ?_
  refine g_if_lt hF 111 d_X10_add_4 (by decide) rfl (fun c1_4 => ?_) (fun c1_4 => ?_)
  · -- taken at 4
    refine g_aload_n hF d_X10_add_111 rfl 0 rfl ?_
    refine g_dup hF d_X10_add_112 rfl ?_
    refine g_get (v := .int (σ0 2 2)) hF 2 obC_2 (by decide) m_44 rfl d_X10_add_113 ?_
    refine g_iload_n hF d_X10_add_116 rfl 3 rfl ?_
    refine g_iadd hF d_X10_add_117 ?_
    refine g_put (v := ((σ0 2 2) + a3)) hF 2 obC_2 (by decide) m_44 rfl rfl rfl d_X10_add_118 ?_
    have kp : Keep [(2, 2), (2, 4)] [13, 14, 15, 16] σ0 (upC σ0 2 2 ((σ0 2 2) + a3)) := keep_f kp (by decide)
    have p2 : 0 ≤ ((σ0 2 2) + a3).toInt ∧ ((σ0 2 2) + a3).toInt ≤ 40000 := (by have e0 := s_rng (σ0 2 2); have e1 := i0.2.2.2.2.1; have e2 := s_rng a3; obtain ⟨k3, e3⟩ := s_add (σ0 2 2) a3; have e3a := s_rng ((σ0 2 2) + a3); omega)
    refine g_iconst hF (v := 1) d_X10_add_121 (by decide) ?_
    have j3 : Inv (upC σ0 2 2 ((σ0 2 2) + a3)) := ⟨i0.1, i0.2.1, i0.2.2.1, i0.2.2.2.1, p2, i0.2.2.2.2.2.1, i0.2.2.2.2.2.2.1, i0.2.2.2.2.2.2.2.1, i0.2.2.2.2.2.2.2.2.1, i0.2.2.2.2.2.2.2.2.2.1, i0.2.2.2.2.2.2.2.2.2.2.1, i0.2.2.2.2.2.2.2.2.2.2.2.1, i0.2.2.2.2.2.2.2.2.2.2.2.2.1, i0.2.2.2.2.2.2.2.2.2.2.2.2.2.1, i0.2.2.2.2.2.2.2.2.2.2.2.2.2.2.1, i0.2.2.2.2.2.2.2.2.2.2.2.2.2.2.2.1, i0.2.2.2.2.2.2.2.2.2.2.2.2.2.2.2.2.1, i0.2.2.2.2.2.2.2.2.2.2.2.2.2.2.2.2.2.1, i0.2.2.2.2.2.2.2.2.2.2.2.2.2.2.2.2.2.2.1, i0.2.2.2.2.2.2.2.2.2.2.2.2.2.2.2.2.2.2.2⟩
    exact g_zret hF rfl (k_nz (Or.inr rfl)) d_X10_add_122 ⟨rfl, rfl, (1 : Int32), rfl, (Or.inr rfl), ⟨j3, kp⟩⟩
  · -- not taken at 4
    refine g_aload_n hF d_X10_add_7 rfl 0 rfl ?_
    refine g_get (v := .int (σ0 2 4)) hF 4 obC_2 (by decide) m_46 rfl d_X10_add_8 ?_
    refine g_aload_n hF d_X10_add_11 rfl 0 rfl ?_
    refine g_get (v := .ref (r 13)) hF 5 obC_2 (by decide) m_48 rfl d_X10_add_12 ?_
    refine g_alen hF arC_13 (fun _ => ⟨1, _, rfl⟩) (v := 16002) (by decide) d_X10_add_15 ?_
    refine g_icmp_ge (yv := 16002) hF 111 d_X10_add_16 (by decide) rfl (by decide) (fun c4_16 => ?_) (fun c4_16 => ?_)
    · -- taken at 16
      refine g_aload_n hF d_X10_add_111 rfl 0 rfl ?_
      refine g_dup hF d_X10_add_112 rfl ?_
      refine g_get (v := .int (σ0 2 2)) hF 2 obC_2 (by decide) m_44 rfl d_X10_add_113 ?_
      refine g_iload_n hF d_X10_add_116 rfl 3 rfl ?_
      refine g_iadd hF d_X10_add_117 ?_
      refine g_put (v := ((σ0 2 2) + a3)) hF 2 obC_2 (by decide) m_44 rfl rfl rfl d_X10_add_118 ?_
      have kp : Keep [(2, 2), (2, 4)] [13, 14, 15, 16] σ0 (upC σ0 2 2 ((σ0 2 2) + a3)) := keep_f kp (by decide)
      have p5 : 0 ≤ ((σ0 2 2) + a3).toInt ∧ ((σ0 2 2) + a3).toInt ≤ 40000 := (by have e0 := s_rng (σ0 2 2); have e1 := i0.2.2.2.2.1; have e2 := s_rng a3; obtain ⟨k3, e3⟩ := s_add (σ0 2 2) a3; have e3a := s_rng ((σ0 2 2) + a3); omega)
      refine g_iconst hF (v := 1) d_X10_add_121 (by decide) ?_
      have j6 : Inv (upC σ0 2 2 ((σ0 2 2) + a3)) := ⟨i0.1, i0.2.1, i0.2.2.1, i0.2.2.2.1, p5, i0.2.2.2.2.2.1, i0.2.2.2.2.2.2.1, i0.2.2.2.2.2.2.2.1, i0.2.2.2.2.2.2.2.2.1, i0.2.2.2.2.2.2.2.2.2.1, i0.2.2.2.2.2.2.2.2.2.2.1, i0.2.2.2.2.2.2.2.2.2.2.2.1, i0.2.2.2.2.2.2.2.2.2.2.2.2.1, i0.2.2.2.2.2.2.2.2.2.2.2.2.2.1, i0.2.2.2.2.2.2.2.2.2.2.2.2.2.2.1, i0.2.2.2.2.2.2.2.2.2.2.2.2.2.2.2.1, i0.2.2.2.2.2.2.2.2.2.2.2.2.2.2.2.2.1, i0.2.2.2.2.2.2.2.2.2.2.2.2.2.2.2.2.2.1, i0.2.2.2.2.2.2.2.2.2.2.2.2.2.2.2.2.2.2.1, i0.2.2.2.2.2.2.2.2.2.2.2.2.2.2.2.2.2.2.2⟩
      exact g_zret hF rfl (k_nz (Or.inr rfl)) d_X10_add_122 ⟨rfl, rfl, (1 : Int32), rfl, (Or.inr rfl), ⟨j6, kp⟩⟩
    · -- not taken at 16
      refine g_aload_n hF d_X10_add_19 rfl 0 rfl ?_
      refine g_get (v := .int (σ0 2 4)) hF 4 obC_2 (by decide) m_46 rfl d_X10_add_20 ?_
      refine g_aload_n hF d_X10_add_23 rfl 0 rfl ?_
      refine g_get (v := .ref (r 14)) hF 6 obC_2 (by decide) m_52 rfl d_X10_add_24 ?_
      refine g_alen hF arC_14 (fun _ => ⟨1, _, rfl⟩) (v := 16002) (by decide) d_X10_add_27 ?_
      refine g_icmp_ge (yv := 16002) hF 111 d_X10_add_28 (by decide) rfl (by decide) (fun c7_28 => ?_) (fun c7_28 => ?_)
      · -- taken at 28
        refine g_aload_n hF d_X10_add_111 rfl 0 rfl ?_
        refine g_dup hF d_X10_add_112 rfl ?_
        refine g_get (v := .int (σ0 2 2)) hF 2 obC_2 (by decide) m_44 rfl d_X10_add_113 ?_
        refine g_iload_n hF d_X10_add_116 rfl 3 rfl ?_
        refine g_iadd hF d_X10_add_117 ?_
        refine g_put (v := ((σ0 2 2) + a3)) hF 2 obC_2 (by decide) m_44 rfl rfl rfl d_X10_add_118 ?_
        have kp : Keep [(2, 2), (2, 4)] [13, 14, 15, 16] σ0 (upC σ0 2 2 ((σ0 2 2) + a3)) := keep_f kp (by decide)
        have p8 : 0 ≤ ((σ0 2 2) + a3).toInt ∧ ((σ0 2 2) + a3).toInt ≤ 40000 := (by have e0 := s_rng (σ0 2 2); have e1 := i0.2.2.2.2.1; have e2 := s_rng a3; obtain ⟨k3, e3⟩ := s_add (σ0 2 2) a3; have e3a := s_rng ((σ0 2 2) + a3); omega)
        refine g_iconst hF (v := 1) d_X10_add_121 (by decide) ?_
        have j9 : Inv (upC σ0 2 2 ((σ0 2 2) + a3)) := ⟨i0.1, i0.2.1, i0.2.2.1, i0.2.2.2.1, p8, i0.2.2.2.2.2.1, i0.2.2.2.2.2.2.1, i0.2.2.2.2.2.2.2.1, i0.2.2.2.2.2.2.2.2.1, i0.2.2.2.2.2.2.2.2.2.1, i0.2.2.2.2.2.2.2.2.2.2.1, i0.2.2.2.2.2.2.2.2.2.2.2.1, i0.2.2.2.2.2.2.2.2.2.2.2.2.1, i0.2.2.2.2.2.2.2.2.2.2.2.2.2.1, i0.2.2.2.2.2.2.2.2.2.2.2.2.2.2.1, i0.2.2.2.2.2.2.2.2.2.2.2.2.2.2.2.1, i0.2.2.2.2.2.2.2.2.2.2.2.2.2.2.2.2.1, i0.2.2.2.2.2.2.2.2.2.2.2.2.2.2.2.2.2.1, i0.2.2.2.2.2.2.2.2.2.2.2.2.2.2.2.2.2.2.1, i0.2.2.2.2.2.2.2.2.2.2.2.2.2.2.2.2.2.2.2⟩
        exact g_zret hF rfl (k_nz (Or.inr rfl)) d_X10_add_122 ⟨rfl, rfl, (1 : Int32), rfl, (Or.inr rfl), ⟨j9, kp⟩⟩
      · -- not taken at 28
        refine g_aload_n hF d_X10_add_31 rfl 0 rfl ?_
        refine g_get (v := .int (σ0 2 4)) hF 4 obC_2 (by decide) m_46 rfl d_X10_add_32 ?_
        refine g_aload_n hF d_X10_add_35 rfl 0 rfl ?_
        refine g_get (v := .ref (r 15)) hF 7 obC_2 (by decide) m_56 rfl d_X10_add_36 ?_
        refine g_alen hF arC_15 (fun _ => ⟨1, _, rfl⟩) (v := 16002) (by decide) d_X10_add_39 ?_
        refine g_icmp_ge (yv := 16002) hF 111 d_X10_add_40 (by decide) rfl (by decide) (fun c10_40 => ?_) (fun c10_40 => ?_)
        · -- taken at 40
          refine g_aload_n hF d_X10_add_111 rfl 0 rfl ?_
          refine g_dup hF d_X10_add_112 rfl ?_
          refine g_get (v := .int (σ0 2 2)) hF 2 obC_2 (by decide) m_44 rfl d_X10_add_113 ?_
          refine g_iload_n hF d_X10_add_116 rfl 3 rfl ?_
          refine g_iadd hF d_X10_add_117 ?_
          refine g_put (v := ((σ0 2 2) + a3)) hF 2 obC_2 (by decide) m_44 rfl rfl rfl d_X10_add_118 ?_
          have kp : Keep [(2, 2), (2, 4)] [13, 14, 15, 16] σ0 (upC σ0 2 2 ((σ0 2 2) + a3)) := keep_f kp (by decide)
          have p11 : 0 ≤ ((σ0 2 2) + a3).toInt ∧ ((σ0 2 2) + a3).toInt ≤ 40000 := (by have e0 := s_rng (σ0 2 2); have e1 := i0.2.2.2.2.1; have e2 := s_rng a3; obtain ⟨k3, e3⟩ := s_add (σ0 2 2) a3; have e3a := s_rng ((σ0 2 2) + a3); omega)
          refine g_iconst hF (v := 1) d_X10_add_121 (by decide) ?_
          have j12 : Inv (upC σ0 2 2 ((σ0 2 2) + a3)) := ⟨i0.1, i0.2.1, i0.2.2.1, i0.2.2.2.1, p11, i0.2.2.2.2.2.1, i0.2.2.2.2.2.2.1, i0.2.2.2.2.2.2.2.1, i0.2.2.2.2.2.2.2.2.1, i0.2.2.2.2.2.2.2.2.2.1, i0.2.2.2.2.2.2.2.2.2.2.1, i0.2.2.2.2.2.2.2.2.2.2.2.1, i0.2.2.2.2.2.2.2.2.2.2.2.2.1, i0.2.2.2.2.2.2.2.2.2.2.2.2.2.1, i0.2.2.2.2.2.2.2.2.2.2.2.2.2.2.1, i0.2.2.2.2.2.2.2.2.2.2.2.2.2.2.2.1, i0.2.2.2.2.2.2.2.2.2.2.2.2.2.2.2.2.1, i0.2.2.2.2.2.2.2.2.2.2.2.2.2.2.2.2.2.1, i0.2.2.2.2.2.2.2.2.2.2.2.2.2.2.2.2.2.2.1, i0.2.2.2.2.2.2.2.2.2.2.2.2.2.2.2.2.2.2.2⟩
          exact g_zret hF rfl (k_nz (Or.inr rfl)) d_X10_add_122 ⟨rfl, rfl, (1 : Int32), rfl, (Or.inr rfl), ⟨j12, kp⟩⟩
        · -- not taken at 40
          refine g_aload_n hF d_X10_add_43 rfl 0 rfl ?_
          refine g_get (v := .int (σ0 2 4)) hF 4 obC_2 (by decide) m_46 rfl d_X10_add_44 ?_
          refine g_aload_n hF d_X10_add_47 rfl 0 rfl ?_
          refine g_get (v := .ref (r 16)) hF 8 obC_2 (by decide) m_59 rfl d_X10_add_48 ?_
          refine g_alen hF arC_16 (fun _ => ⟨1, _, rfl⟩) (v := 16002) (by decide) d_X10_add_51 ?_
          refine g_icmp_ge (yv := 16002) hF 111 d_X10_add_52 (by decide) rfl (by decide) (fun c13_52 => ?_) (fun c13_52 => ?_)
          · -- taken at 52
            refine g_aload_n hF d_X10_add_111 rfl 0 rfl ?_
            refine g_dup hF d_X10_add_112 rfl ?_
            refine g_get (v := .int (σ0 2 2)) hF 2 obC_2 (by decide) m_44 rfl d_X10_add_113 ?_
            refine g_iload_n hF d_X10_add_116 rfl 3 rfl ?_
            refine g_iadd hF d_X10_add_117 ?_
            refine g_put (v := ((σ0 2 2) + a3)) hF 2 obC_2 (by decide) m_44 rfl rfl rfl d_X10_add_118 ?_
            have kp : Keep [(2, 2), (2, 4)] [13, 14, 15, 16] σ0 (upC σ0 2 2 ((σ0 2 2) + a3)) := keep_f kp (by decide)
            have p14 : 0 ≤ ((σ0 2 2) + a3).toInt ∧ ((σ0 2 2) + a3).toInt ≤ 40000 := (by have e0 := s_rng (σ0 2 2); have e1 := i0.2.2.2.2.1; have e2 := s_rng a3; obtain ⟨k3, e3⟩ := s_add (σ0 2 2) a3; have e3a := s_rng ((σ0 2 2) + a3); omega)
            refine g_iconst hF (v := 1) d_X10_add_121 (by decide) ?_
            have j15 : Inv (upC σ0 2 2 ((σ0 2 2) + a3)) := ⟨i0.1, i0.2.1, i0.2.2.1, i0.2.2.2.1, p14, i0.2.2.2.2.2.1, i0.2.2.2.2.2.2.1, i0.2.2.2.2.2.2.2.1, i0.2.2.2.2.2.2.2.2.1, i0.2.2.2.2.2.2.2.2.2.1, i0.2.2.2.2.2.2.2.2.2.2.1, i0.2.2.2.2.2.2.2.2.2.2.2.1, i0.2.2.2.2.2.2.2.2.2.2.2.2.1, i0.2.2.2.2.2.2.2.2.2.2.2.2.2.1, i0.2.2.2.2.2.2.2.2.2.2.2.2.2.2.1, i0.2.2.2.2.2.2.2.2.2.2.2.2.2.2.2.1, i0.2.2.2.2.2.2.2.2.2.2.2.2.2.2.2.2.1, i0.2.2.2.2.2.2.2.2.2.2.2.2.2.2.2.2.2.1, i0.2.2.2.2.2.2.2.2.2.2.2.2.2.2.2.2.2.2.1, i0.2.2.2.2.2.2.2.2.2.2.2.2.2.2.2.2.2.2.2⟩
            exact g_zret hF rfl (k_nz (Or.inr rfl)) d_X10_add_122 ⟨rfl, rfl, (1 : Int32), rfl, (Or.inr rfl), ⟨j15, kp⟩⟩
          · -- not taken at 52
            refine g_aload_n hF d_X10_add_55 rfl 0 rfl ?_
            refine g_get (v := .ref (r 13)) hF 5 obC_2 (by decide) m_48 rfl d_X10_add_56 ?_
            refine g_aload_n hF d_X10_add_59 rfl 0 rfl ?_
            refine g_get (v := .int (σ0 2 4)) hF 4 obC_2 (by decide) m_46 rfl d_X10_add_60 ?_
            refine g_iload_n hF d_X10_add_63 rfl 1 rfl ?_
            refine g_iast hF arC_13 (by refine s_in (by decide) ?_ ?_ <;> (have e0 := s_rng (σ0 2 4); have e1 : (0 : Int32).toInt = 0 := (by decide); have e2 : (16002 : Int32).toInt = 16002 := (by decide); omega)) d_X10_add_64 ?_
            have kp : Keep [(2, 2), (2, 4)] [13, 14, 15, 16] σ0 (upC σ0 13 ((σ0 2 4)).toNatClampNeg a1) := keep_a kp (by decide)
            refine g_aload_n hF d_X10_add_65 rfl 0 rfl ?_
            refine g_get (v := .ref (r 14)) hF 6 obC_2 (by decide) m_52 rfl d_X10_add_66 ?_
            refine g_aload_n hF d_X10_add_69 rfl 0 rfl ?_
            refine g_get (v := .int (σ0 2 4)) hF 4 obC_2 (by decide) m_46 rfl d_X10_add_70 ?_
            refine g_iload_n hF d_X10_add_73 rfl 2 rfl ?_
            refine g_iast hF arC_14 (by refine s_in (by decide) ?_ ?_ <;> (have e0 := s_rng (σ0 2 4); have e1 : (0 : Int32).toInt = 0 := (by decide); have e2 : (16002 : Int32).toInt = 16002 := (by decide); omega)) d_X10_add_74 ?_
            have kp : Keep [(2, 2), (2, 4)] [13, 14, 15, 16] σ0 (upC (upC σ0 13 ((σ0 2 4)).toNatClampNeg a1) 14 ((σ0 2 4)).toNatClampNeg a2) := keep_a kp (by decide)
            refine g_aload_n hF d_X10_add_75 rfl 0 rfl ?_
            refine g_get (v := .ref (r 15)) hF 7 obC_2 (by decide) m_56 rfl d_X10_add_76 ?_
            refine g_aload_n hF d_X10_add_79 rfl 0 rfl ?_
            refine g_get (v := .int (σ0 2 4)) hF 4 obC_2 (by decide) m_46 rfl d_X10_add_80 ?_
            refine g_aload_n hF d_X10_add_83 rfl 0 rfl ?_
            refine g_get (v := .int (σ0 2 2)) hF 2 obC_2 (by decide) m_44 rfl d_X10_add_84 ?_
            refine g_iast hF arC_15 (by refine s_in (by decide) ?_ ?_ <;> (have e0 := s_rng (σ0 2 4); have e1 : (0 : Int32).toInt = 0 := (by decide); have e2 : (16002 : Int32).toInt = 16002 := (by decide); omega)) d_X10_add_87 ?_
            have kp : Keep [(2, 2), (2, 4)] [13, 14, 15, 16] σ0 (upC (upC (upC σ0 13 ((σ0 2 4)).toNatClampNeg a1) 14 ((σ0 2 4)).toNatClampNeg a2) 15 ((σ0 2 4)).toNatClampNeg (σ0 2 2)) := keep_a kp (by decide)
            have p16 : AllIn 0 40000 ((upC (upC (upC σ0 13 ((σ0 2 4)).toNatClampNeg a1) 14 ((σ0 2 4)).toNatClampNeg a2) 15 ((σ0 2 4)).toNatClampNeg (σ0 2 2)) 15) := (acr_up i0.2.2.2.2.2.2.2.2.2.2.2.2.2.2.1 (by show 0 ≤ (σ0 2 2).toInt ∧ (σ0 2 2).toInt ≤ 40000; have e0 := s_rng (σ0 2 2); have e1 := i0.2.2.2.2.1; omega))
            refine g_aload_n hF d_X10_add_88 rfl 0 rfl ?_
            refine g_get (v := .ref (r 16)) hF 8 obC_2 (by decide) m_59 rfl d_X10_add_89 ?_
            refine g_aload_n hF d_X10_add_92 rfl 0 rfl ?_
            refine g_get (v := .int (σ0 2 4)) hF 4 obC_2 (by decide) m_46 rfl d_X10_add_93 ?_
            refine g_aload_n hF d_X10_add_96 rfl 0 rfl ?_
            refine g_get (v := .int (σ0 2 3)) hF 3 obC_2 (by decide) m_45 rfl d_X10_add_97 ?_
            refine g_iast hF arC_16 (by refine s_in (by decide) ?_ ?_ <;> (have e0 := s_rng (σ0 2 4); have e1 : (0 : Int32).toInt = 0 := (by decide); have e2 : (16002 : Int32).toInt = 16002 := (by decide); omega)) d_X10_add_100 ?_
            have kp : Keep [(2, 2), (2, 4)] [13, 14, 15, 16] σ0 (upC (upC (upC (upC σ0 13 ((σ0 2 4)).toNatClampNeg a1) 14 ((σ0 2 4)).toNatClampNeg a2) 15 ((σ0 2 4)).toNatClampNeg (σ0 2 2)) 16 ((σ0 2 4)).toNatClampNeg (σ0 2 3)) := keep_a kp (by decide)
            refine g_aload_n hF d_X10_add_101 rfl 0 rfl ?_
            refine g_dup hF d_X10_add_102 rfl ?_
            refine g_get (v := .int (σ0 2 4)) hF 4 obC_2 (by decide) m_46 rfl d_X10_add_103 ?_
            refine g_iconst hF (v := 1) d_X10_add_106 (by decide) ?_
            refine g_iadd hF d_X10_add_107 ?_
            refine g_put (v := ((σ0 2 4) + 1)) hF 4 obC_2 (by decide) m_46 rfl rfl rfl d_X10_add_108 ?_
            have kp : Keep [(2, 2), (2, 4)] [13, 14, 15, 16] σ0 (upC (upC (upC (upC (upC σ0 13 ((σ0 2 4)).toNatClampNeg a1) 14 ((σ0 2 4)).toNatClampNeg a2) 15 ((σ0 2 4)).toNatClampNeg (σ0 2 2)) 16 ((σ0 2 4)).toNatClampNeg (σ0 2 3)) 2 4 ((σ0 2 4) + 1)) := keep_f kp (by decide)
            refine g_aload_n hF d_X10_add_111 rfl 0 rfl ?_
            refine g_dup hF d_X10_add_112 rfl ?_
            refine g_get (v := .int (σ0 2 2)) hF 2 obC_2 (by decide) m_44 rfl d_X10_add_113 ?_
            refine g_iload_n hF d_X10_add_116 rfl 3 rfl ?_
            refine g_iadd hF d_X10_add_117 ?_
            refine g_put (v := ((σ0 2 2) + a3)) hF 2 obC_2 (by decide) m_44 rfl rfl rfl d_X10_add_118 ?_
            have kp : Keep [(2, 2), (2, 4)] [13, 14, 15, 16] σ0 (upC (upC (upC (upC (upC (upC σ0 13 ((σ0 2 4)).toNatClampNeg a1) 14 ((σ0 2 4)).toNatClampNeg a2) 15 ((σ0 2 4)).toNatClampNeg (σ0 2 2)) 16 ((σ0 2 4)).toNatClampNeg (σ0 2 3)) 2 4 ((σ0 2 4) + 1)) 2 2 ((σ0 2 2) + a3)) := keep_f kp (by decide)
            have p17 : 0 ≤ ((σ0 2 2) + a3).toInt ∧ ((σ0 2 2) + a3).toInt ≤ 40000 := (by have e0 := s_rng (σ0 2 2); have e1 := i0.2.2.2.2.1; have e2 := s_rng a3; obtain ⟨k3, e3⟩ := s_add (σ0 2 2) a3; have e3a := s_rng ((σ0 2 2) + a3); omega)
            refine g_iconst hF (v := 1) d_X10_add_121 (by decide) ?_
            have j18 : Inv (upC (upC (upC (upC (upC (upC σ0 13 ((σ0 2 4)).toNatClampNeg a1) 14 ((σ0 2 4)).toNatClampNeg a2) 15 ((σ0 2 4)).toNatClampNeg (σ0 2 2)) 16 ((σ0 2 4)).toNatClampNeg (σ0 2 3)) 2 4 ((σ0 2 4) + 1)) 2 2 ((σ0 2 2) + a3)) := ⟨i0.1, i0.2.1, i0.2.2.1, i0.2.2.2.1, p17, i0.2.2.2.2.2.1, i0.2.2.2.2.2.2.1, i0.2.2.2.2.2.2.2.1, i0.2.2.2.2.2.2.2.2.1, i0.2.2.2.2.2.2.2.2.2.1, i0.2.2.2.2.2.2.2.2.2.2.1, i0.2.2.2.2.2.2.2.2.2.2.2.1, i0.2.2.2.2.2.2.2.2.2.2.2.2.1, i0.2.2.2.2.2.2.2.2.2.2.2.2.2.1, p16, i0.2.2.2.2.2.2.2.2.2.2.2.2.2.2.2.1, i0.2.2.2.2.2.2.2.2.2.2.2.2.2.2.2.2.1, i0.2.2.2.2.2.2.2.2.2.2.2.2.2.2.2.2.2.1, i0.2.2.2.2.2.2.2.2.2.2.2.2.2.2.2.2.2.2.1, (vi_up i0.2.2.2.2.2.2.2.2.2.2.2.2.2.2.2.2.2.2.2 (by have e0 := s_rng a1; have e1 := s_rng a2; have e2 := s_rng a3; omega))⟩
            exact g_zret hF rfl (k_nz (Or.inr rfl)) d_X10_add_122 ⟨rfl, rfl, (1 : Int32), rfl, (Or.inr rfl), ⟨j18, kp⟩⟩
set_option maxHeartbeats 4000000 in
set_option maxRecDepth 100000 in
theorem c_X10_isLetter (a : Nat → Nat) (g : Nat → Nat → Int32) (r : Nat → Nat) (σ0 : St) (a0 : Int32) (i0 : Inv σ0) (l : Launch) (D : va_G) (cy : Nat → ClassId) : Ct l D cy SC r (EC a g) y_X10_isLetter (Cond.code y_X10_isLetter b_X10_isLetter 1 (some .boolean)) 0 [.int a0] σ0 Z0 [] (QI (fun v9 σ9 => (v9 = 0 ∨ v9 = 1) ∧ σ9 = σ0)) QF := by
  refine Ct_of (EC_ok a g) (by decide) (Nat.le_of_ble_eq_true rfl) (by decide) (fun X hnn hF => ?_)
  show G SC r X σ0 Z0 [] [(0, .int a0)] [] 0
  refine g_iload_n hF d_X10_isLetter_0 rfl 0 rfl ?_
  refine g_bipush hF (v := 97) d_X10_isLetter_1 (by decide) ?_
  refine g_icmp_lt (yv := 97) hF 12 d_X10_isLetter_3 (by decide) rfl (by decide) (fun c1_3 => ?_) (fun c1_3 => ?_)
  · -- taken at 3
    refine g_iload_n hF d_X10_isLetter_12 rfl 0 rfl ?_
    refine g_bipush hF (v := 65) d_X10_isLetter_13 (by decide) ?_
    refine g_icmp_lt (yv := 65) hF 24 d_X10_isLetter_15 (by decide) rfl (by decide) (fun c2_15 => ?_) (fun c2_15 => ?_)
    · -- taken at 15
      refine g_iload_n hF d_X10_isLetter_24 rfl 0 rfl ?_
      refine g_bipush hF (v := 95) d_X10_isLetter_25 (by decide) ?_
      refine g_icmp_ne (yv := 95) hF 34 d_X10_isLetter_27 (by decide) rfl (by decide) (fun c3_27 => ?_) (fun c3_27 => ?_)
      · -- taken at 27
        refine g_iconst hF (v := 0) d_X10_isLetter_34 (by decide) ?_
        exact g_zret hF rfl (k_nz (Or.inl rfl)) d_X10_isLetter_35 ⟨rfl, rfl, (0 : Int32), rfl, (Or.inl rfl), rfl⟩
      · -- not taken at 27
        refine g_iconst hF (v := 1) d_X10_isLetter_30 (by decide) ?_
        refine g_goto hF 35 d_X10_isLetter_31 (by decide) ?_
        exact g_zret hF rfl (k_nz (Or.inr rfl)) d_X10_isLetter_35 ⟨rfl, rfl, (1 : Int32), rfl, (Or.inr rfl), rfl⟩
    · -- not taken at 15
      refine g_iload_n hF d_X10_isLetter_18 rfl 0 rfl ?_
      refine g_bipush hF (v := 90) d_X10_isLetter_19 (by decide) ?_
      refine g_icmp_le (yv := 90) hF 30 d_X10_isLetter_21 (by decide) rfl (by decide) (fun c4_21 => ?_) (fun c4_21 => ?_)
      · -- taken at 21
        refine g_iconst hF (v := 1) d_X10_isLetter_30 (by decide) ?_
        refine g_goto hF 35 d_X10_isLetter_31 (by decide) ?_
        exact g_zret hF rfl (k_nz (Or.inr rfl)) d_X10_isLetter_35 ⟨rfl, rfl, (1 : Int32), rfl, (Or.inr rfl), rfl⟩
      · -- not taken at 21
        refine g_iload_n hF d_X10_isLetter_24 rfl 0 rfl ?_
        refine g_bipush hF (v := 95) d_X10_isLetter_25 (by decide) ?_
        refine g_icmp_ne (yv := 95) hF 34 d_X10_isLetter_27 (by decide) rfl (by decide) (fun c5_27 => ?_) (fun c5_27 => ?_)
        · -- taken at 27
          refine g_iconst hF (v := 0) d_X10_isLetter_34 (by decide) ?_
          exact g_zret hF rfl (k_nz (Or.inl rfl)) d_X10_isLetter_35 ⟨rfl, rfl, (0 : Int32), rfl, (Or.inl rfl), rfl⟩
        · -- not taken at 27
          refine g_iconst hF (v := 1) d_X10_isLetter_30 (by decide) ?_
          refine g_goto hF 35 d_X10_isLetter_31 (by decide) ?_
          exact g_zret hF rfl (k_nz (Or.inr rfl)) d_X10_isLetter_35 ⟨rfl, rfl, (1 : Int32), rfl, (Or.inr rfl), rfl⟩
  · -- not taken at 3
    refine g_iload_n hF d_X10_isLetter_6 rfl 0 rfl ?_
    refine g_bipush hF (v := 122) d_X10_isLetter_7 (by decide) ?_
    refine g_icmp_le (yv := 122) hF 30 d_X10_isLetter_9 (by decide) rfl (by decide) (fun c6_9 => ?_) (fun c6_9 => ?_)
    · -- taken at 9
      refine g_iconst hF (v := 1) d_X10_isLetter_30 (by decide) ?_
      refine g_goto hF 35 d_X10_isLetter_31 (by decide) ?_
      exact g_zret hF rfl (k_nz (Or.inr rfl)) d_X10_isLetter_35 ⟨rfl, rfl, (1 : Int32), rfl, (Or.inr rfl), rfl⟩
    · -- not taken at 9
      refine g_iload_n hF d_X10_isLetter_12 rfl 0 rfl ?_
      refine g_bipush hF (v := 65) d_X10_isLetter_13 (by decide) ?_
      refine g_icmp_lt (yv := 65) hF 24 d_X10_isLetter_15 (by decide) rfl (by decide) (fun c7_15 => ?_) (fun c7_15 => ?_)
      · -- taken at 15
        refine g_iload_n hF d_X10_isLetter_24 rfl 0 rfl ?_
        refine g_bipush hF (v := 95) d_X10_isLetter_25 (by decide) ?_
        refine g_icmp_ne (yv := 95) hF 34 d_X10_isLetter_27 (by decide) rfl (by decide) (fun c8_27 => ?_) (fun c8_27 => ?_)
        · -- taken at 27
          refine g_iconst hF (v := 0) d_X10_isLetter_34 (by decide) ?_
          exact g_zret hF rfl (k_nz (Or.inl rfl)) d_X10_isLetter_35 ⟨rfl, rfl, (0 : Int32), rfl, (Or.inl rfl), rfl⟩
        · -- not taken at 27
          refine g_iconst hF (v := 1) d_X10_isLetter_30 (by decide) ?_
          refine g_goto hF 35 d_X10_isLetter_31 (by decide) ?_
          exact g_zret hF rfl (k_nz (Or.inr rfl)) d_X10_isLetter_35 ⟨rfl, rfl, (1 : Int32), rfl, (Or.inr rfl), rfl⟩
      · -- not taken at 15
        refine g_iload_n hF d_X10_isLetter_18 rfl 0 rfl ?_
        refine g_bipush hF (v := 90) d_X10_isLetter_19 (by decide) ?_
        refine g_icmp_le (yv := 90) hF 30 d_X10_isLetter_21 (by decide) rfl (by decide) (fun c9_21 => ?_) (fun c9_21 => ?_)
        · -- taken at 21
          refine g_iconst hF (v := 1) d_X10_isLetter_30 (by decide) ?_
          refine g_goto hF 35 d_X10_isLetter_31 (by decide) ?_
          exact g_zret hF rfl (k_nz (Or.inr rfl)) d_X10_isLetter_35 ⟨rfl, rfl, (1 : Int32), rfl, (Or.inr rfl), rfl⟩
        · -- not taken at 21
          refine g_iload_n hF d_X10_isLetter_24 rfl 0 rfl ?_
          refine g_bipush hF (v := 95) d_X10_isLetter_25 (by decide) ?_
          refine g_icmp_ne (yv := 95) hF 34 d_X10_isLetter_27 (by decide) rfl (by decide) (fun c10_27 => ?_) (fun c10_27 => ?_)
          · -- taken at 27
            refine g_iconst hF (v := 0) d_X10_isLetter_34 (by decide) ?_
            exact g_zret hF rfl (k_nz (Or.inl rfl)) d_X10_isLetter_35 ⟨rfl, rfl, (0 : Int32), rfl, (Or.inl rfl), rfl⟩
          · -- not taken at 27
            refine g_iconst hF (v := 1) d_X10_isLetter_30 (by decide) ?_
            refine g_goto hF 35 d_X10_isLetter_31 (by decide) ?_
            exact g_zret hF rfl (k_nz (Or.inr rfl)) d_X10_isLetter_35 ⟨rfl, rfl, (1 : Int32), rfl, (Or.inr rfl), rfl⟩
set_option maxHeartbeats 4000000 in
set_option maxRecDepth 100000 in
theorem c_X10_isDigit (a : Nat → Nat) (g : Nat → Nat → Int32) (r : Nat → Nat) (σ0 : St) (a0 : Int32) (i0 : Inv σ0) (l : Launch) (D : va_G) (cy : Nat → ClassId) : Ct l D cy SC r (EC a g) y_X10_isDigit (Cond.code y_X10_isDigit b_X10_isDigit 1 (some .boolean)) 0 [.int a0] σ0 Z0 [] (QI (fun v9 σ9 => (v9 = 0 ∨ v9 = 1) ∧ σ9 = σ0)) QF := by
  refine Ct_of (EC_ok a g) (by decide) (Nat.le_of_ble_eq_true rfl) (by decide) (fun X hnn hF => ?_)
  show G SC r X σ0 Z0 [] [(0, .int a0)] [] 0
  refine g_iload_n hF d_X10_isDigit_0 rfl 0 rfl ?_
  refine g_bipush hF (v := 48) d_X10_isDigit_1 (by decide) ?_
  refine g_icmp_lt (yv := 48) hF 16 d_X10_isDigit_3 (by decide) rfl (by decide) (fun c1_3 => ?_) (fun c1_3 => ?_)
  · -- taken at 3
    refine g_iconst hF (v := 0) d_X10_isDigit_16 (by decide) ?_
    exact g_zret hF rfl (k_nz (Or.inl rfl)) d_X10_isDigit_17 ⟨rfl, rfl, (0 : Int32), rfl, (Or.inl rfl), rfl⟩
  · -- not taken at 3
    refine g_iload_n hF d_X10_isDigit_6 rfl 0 rfl ?_
    refine g_bipush hF (v := 57) d_X10_isDigit_7 (by decide) ?_
    refine g_icmp_gt (yv := 57) hF 16 d_X10_isDigit_9 (by decide) rfl (by decide) (fun c2_9 => ?_) (fun c2_9 => ?_)
    · -- taken at 9
      refine g_iconst hF (v := 0) d_X10_isDigit_16 (by decide) ?_
      exact g_zret hF rfl (k_nz (Or.inl rfl)) d_X10_isDigit_17 ⟨rfl, rfl, (0 : Int32), rfl, (Or.inl rfl), rfl⟩
    · -- not taken at 9
      refine g_iconst hF (v := 1) d_X10_isDigit_12 (by decide) ?_
      refine g_goto hF 17 d_X10_isDigit_13 (by decide) ?_
      exact g_zret hF rfl (k_nz (Or.inr rfl)) d_X10_isDigit_17 ⟨rfl, rfl, (1 : Int32), rfl, (Or.inr rfl), rfl⟩
set_option maxHeartbeats 4000000 in
set_option maxRecDepth 100000 in
theorem c_X10_sixteenth (a : Nat → Nat) (g : Nat → Nat → Int32) (r : Nat → Nat) (σ0 : St) (a0 : Int32) (i0 : Inv σ0) (l : Launch) (D : va_G) (cy : Nat → ClassId) : Ct l D cy SC r (EC a g) y_X10_sixteenth (Cond.code y_X10_sixteenth b_X10_sixteenth 1 (some .int)) 1 [.int a0] σ0 Z0 [] (QI (fun _ σ9 => σ9 = σ0)) QF := by
  refine Ct_of (EC_ok a g) (by decide) (Nat.le_of_ble_eq_true rfl) (by decide) (fun X hnn hF => ?_)
  show G SC r X σ0 Z0 [] [(0, .int a0)] [] 0
  refine g_iload_n hF d_X10_sixteenth_0 rfl 0 rfl ?_
  refine g_callS (As := [.int a0]) (rest := []) hF (c_X10_isDigit a g r σ0 a0 i0) (Nat.le_of_ble_eq_true rfl) mS_X10_isDigit m_840 rfl rfl (Nat.le_of_ble_eq_true rfl) d_X10_sixteenth_1 (k_roz (fun r1 hz1 => ?_)) (fun _ _ _ h => h.elim)
  refine g_if_eq hF 12 d_X10_sixteenth_4 (by decide) rfl (fun c2_4 => ?_) (fun c2_4 => ?_)
  · -- taken at 4
    refine g_iload_n hF d_X10_sixteenth_12 rfl 0 rfl ?_
    refine g_bipush hF (v := 97) d_X10_sixteenth_13 (by decide) ?_
    refine g_icmp_lt (yv := 97) hF 32 d_X10_sixteenth_15 (by decide) rfl (by decide) (fun c3_15 => ?_) (fun c3_15 => ?_)
    · -- taken at 15
      refine g_iload_n hF d_X10_sixteenth_32 rfl 0 rfl ?_
      refine g_bipush hF (v := 65) d_X10_sixteenth_33 (by decide) ?_
      refine g_icmp_lt (yv := 65) hF 54 d_X10_sixteenth_35 (by decide) rfl (by decide) (fun c4_35 => ?_) (fun c4_35 => ?_)
      · -- taken at 35
        refine g_iconst hF (v := (-1)) d_X10_sixteenth_54 (by decide) ?_
        exact g_iret hF rfl d_X10_sixteenth_55 ⟨rfl, rfl, ((-1) : Int32), rfl, rfl⟩
      · -- not taken at 35
        refine g_iload_n hF d_X10_sixteenth_38 rfl 0 rfl ?_
        refine g_bipush hF (v := 70) d_X10_sixteenth_39 (by decide) ?_
        refine g_icmp_gt (yv := 70) hF 54 d_X10_sixteenth_41 (by decide) rfl (by decide) (fun c5_41 => ?_) (fun c5_41 => ?_)
        · -- taken at 41
          refine g_iconst hF (v := (-1)) d_X10_sixteenth_54 (by decide) ?_
          exact g_iret hF rfl d_X10_sixteenth_55 ⟨rfl, rfl, ((-1) : Int32), rfl, rfl⟩
        · -- not taken at 41
          refine g_iload_n hF d_X10_sixteenth_44 rfl 0 rfl ?_
          refine g_bipush hF (v := 65) d_X10_sixteenth_45 (by decide) ?_
          refine g_isub hF d_X10_sixteenth_47 ?_
          refine g_bipush hF (v := 10) d_X10_sixteenth_48 (by decide) ?_
          refine g_iadd hF d_X10_sixteenth_50 ?_
          refine g_goto hF 55 d_X10_sixteenth_51 (by decide) ?_
          exact g_iret hF rfl d_X10_sixteenth_55 ⟨rfl, rfl, ((a0 - 65) + 10), rfl, rfl⟩
    · -- not taken at 15
      refine g_iload_n hF d_X10_sixteenth_18 rfl 0 rfl ?_
      refine g_bipush hF (v := 102) d_X10_sixteenth_19 (by decide) ?_
      refine g_icmp_gt (yv := 102) hF 32 d_X10_sixteenth_21 (by decide) rfl (by decide) (fun c6_21 => ?_) (fun c6_21 => ?_)
      · -- taken at 21
        refine g_iload_n hF d_X10_sixteenth_32 rfl 0 rfl ?_
        refine g_bipush hF (v := 65) d_X10_sixteenth_33 (by decide) ?_
        refine g_icmp_lt (yv := 65) hF 54 d_X10_sixteenth_35 (by decide) rfl (by decide) (fun c7_35 => ?_) (fun c7_35 => ?_)
        · -- taken at 35
          refine g_iconst hF (v := (-1)) d_X10_sixteenth_54 (by decide) ?_
          exact g_iret hF rfl d_X10_sixteenth_55 ⟨rfl, rfl, ((-1) : Int32), rfl, rfl⟩
        · -- not taken at 35
          refine g_iload_n hF d_X10_sixteenth_38 rfl 0 rfl ?_
          refine g_bipush hF (v := 70) d_X10_sixteenth_39 (by decide) ?_
          refine g_icmp_gt (yv := 70) hF 54 d_X10_sixteenth_41 (by decide) rfl (by decide) (fun c8_41 => ?_) (fun c8_41 => ?_)
          · -- taken at 41
            refine g_iconst hF (v := (-1)) d_X10_sixteenth_54 (by decide) ?_
            exact g_iret hF rfl d_X10_sixteenth_55 ⟨rfl, rfl, ((-1) : Int32), rfl, rfl⟩
          · -- not taken at 41
            refine g_iload_n hF d_X10_sixteenth_44 rfl 0 rfl ?_
            refine g_bipush hF (v := 65) d_X10_sixteenth_45 (by decide) ?_
            refine g_isub hF d_X10_sixteenth_47 ?_
            refine g_bipush hF (v := 10) d_X10_sixteenth_48 (by decide) ?_
            refine g_iadd hF d_X10_sixteenth_50 ?_
            refine g_goto hF 55 d_X10_sixteenth_51 (by decide) ?_
            exact g_iret hF rfl d_X10_sixteenth_55 ⟨rfl, rfl, ((a0 - 65) + 10), rfl, rfl⟩
      · -- not taken at 21
        refine g_iload_n hF d_X10_sixteenth_24 rfl 0 rfl ?_
        refine g_bipush hF (v := 97) d_X10_sixteenth_25 (by decide) ?_
        refine g_isub hF d_X10_sixteenth_27 ?_
        refine g_bipush hF (v := 10) d_X10_sixteenth_28 (by decide) ?_
        refine g_iadd hF d_X10_sixteenth_30 ?_
        exact g_iret hF rfl d_X10_sixteenth_31 ⟨rfl, rfl, ((a0 - 97) + 10), rfl, rfl⟩
  · -- not taken at 4
    refine g_iload_n hF d_X10_sixteenth_7 rfl 0 rfl ?_
    refine g_bipush hF (v := 48) d_X10_sixteenth_8 (by decide) ?_
    refine g_isub hF d_X10_sixteenth_10 ?_
    exact g_iret hF rfl d_X10_sixteenth_11 ⟨rfl, rfl, (a0 - 48), rfl, rfl⟩
set_option maxHeartbeats 4000000 in
set_option maxRecDepth 100000 in
theorem c_X10_codeAt (a : Nat → Nat) (g : Nat → Nat → Int32) (r : Nat → Nat) (σ0 : St) (a1 : Int32) (a2 : Int32) (i0 : Inv σ0) (l : Launch) (D : va_G) (cy : Nat → ClassId) : Ct l D cy SC r (EC a g) y_X10_codeAt (Cond.code y_X10_codeAt b_X10_codeAt 5 (some .int)) 1 [.ref (r 2), .int a1, .int a2] σ0 Z0 [] (QI (fun _ σ9 => σ9 = σ0)) QF := by
  refine Ct_of (EC_ok a g) (by decide) (Nat.le_of_ble_eq_true rfl) (by decide) (fun X hnn hF => ?_)
  show G SC r X σ0 Z0 [] [(0, .ref (r 2)), (1, .int a1), (2, .int a2)] [] 0
  refine g_aload_n hF d_X10_codeAt_0 rfl 0 rfl ?_
  refine g_iload_n hF d_X10_codeAt_1 rfl 1 rfl ?_
  refine g_callV (As := [.int a1]) (rest := []) hF (c_X10_byteAt a g r σ0 a1 i0) (Nat.le_of_ble_eq_true rfl) mV_X10_byteAt m_806 (recv_ob obC_2) rfl rfl (Nat.le_of_ble_eq_true rfl) d_X10_codeAt_2 (k_rop (fun r1 hp1 => ?_)) (fun _ _ _ h => h.elim)
  have hp1 : 0 ≤ r1.toInt → (0 ≤ a1.toInt ∧ a1.toInt < 16000) := hp1
  refine g_istore_n hF [(3, .int r1), (0, .ref (r 2)), (1, .int a1), (2, .int a2)] d_X10_codeAt_5 rfl hnn (by decide) rfl ?_
  refine g_iload_n hF d_X10_codeAt_6 rfl 0 rfl ?_
  refine g_bipush hF (v := 92) d_X10_codeAt_7 (by decide) ?_
  refine g_icmp_eq (yv := 92) hF 35 d_X10_codeAt_9 (by decide) rfl (by decide) (fun c2_9 => ?_) (fun c2_9 => ?_)
  · -- taken at 9
    refine g_aload_n hF d_X10_codeAt_35 rfl 1 rfl ?_
    refine g_iload_n hF d_X10_codeAt_36 rfl 2 rfl ?_
    refine g_iconst hF (v := 1) d_X10_codeAt_37 (by decide) ?_
    refine g_iadd hF d_X10_codeAt_38 ?_
    refine g_callV (As := [.int (a1 + 1)]) (rest := []) hF (c_X10_byteAt a g r σ0 (a1 + 1) i0) (Nat.le_of_ble_eq_true rfl) mV_X10_byteAt m_806 (recv_ob obC_2) rfl rfl (Nat.le_of_ble_eq_true rfl) d_X10_codeAt_39 (k_rop (fun r3 hp3 => ?_)) (fun _ _ _ h => h.elim)
    have hp3 : 0 ≤ r3.toInt → (0 ≤ (a1 + 1).toInt ∧ (a1 + 1).toInt < 16000) := hp3
    refine g_istore hF [(4, .int r3), (3, .int r1), (0, .ref (r 2)), (1, .int a1), (2, .int a2)] d_X10_codeAt_42 hnn (by decide) rfl ?_
    refine g_iload hF d_X10_codeAt_44 0 rfl ?_
    refine (Decidable.em (r3.toInt = 34)).elim (fun q4_46_0 => ?_) (fun q4_46_0 => ?_)
    · refine g_lookup (off := 55) hF 101 d_X10_codeAt_46 (by decide +kernel) (by rw [q4_46_0]; decide +kernel) (by decide) ?_
      refine g_iload hF d_X10_codeAt_101 0 rfl ?_
      exact g_iret hF rfl d_X10_codeAt_103 ⟨rfl, rfl, r3, rfl, rfl⟩
    refine (Decidable.em (r3.toInt = 39)).elim (fun q5_46_1 => ?_) (fun q5_46_1 => ?_)
    · refine g_lookup (off := 55) hF 101 d_X10_codeAt_46 (by decide +kernel) (by rw [q5_46_1]; decide +kernel) (by decide) ?_
      refine g_iload hF d_X10_codeAt_101 0 rfl ?_
      exact g_iret hF rfl d_X10_codeAt_103 ⟨rfl, rfl, r3, rfl, rfl⟩
    refine (Decidable.em (r3.toInt = 48)).elim (fun q6_46_2 => ?_) (fun q6_46_2 => ?_)
    · refine g_lookup (off := 53) hF 99 d_X10_codeAt_46 (by decide +kernel) (by rw [q6_46_2]; decide +kernel) (by decide) ?_
      refine g_iconst hF (v := 0) d_X10_codeAt_99 (by decide) ?_
      exact g_iret hF rfl d_X10_codeAt_100 ⟨rfl, rfl, (0 : Int32), rfl, rfl⟩
    refine (Decidable.em (r3.toInt = 92)).elim (fun q7_46_3 => ?_) (fun q7_46_3 => ?_)
    · refine g_lookup (off := 55) hF 101 d_X10_codeAt_46 (by decide +kernel) (by rw [q7_46_3]; decide +kernel) (by decide) ?_
      refine g_iload hF d_X10_codeAt_101 0 rfl ?_
      exact g_iret hF rfl d_X10_codeAt_103 ⟨rfl, rfl, r3, rfl, rfl⟩
    refine (Decidable.em (r3.toInt = 110)).elim (fun q8_46_4 => ?_) (fun q8_46_4 => ?_)
    · refine g_lookup (off := 50) hF 96 d_X10_codeAt_46 (by decide +kernel) (by rw [q8_46_4]; decide +kernel) (by decide) ?_
      refine g_bipush hF (v := 10) d_X10_codeAt_96 (by decide) ?_
      exact g_iret hF rfl d_X10_codeAt_98 ⟨rfl, rfl, (10 : Int32), rfl, rfl⟩
    refine g_lookup (off := 58) hF 104 d_X10_codeAt_46 (by decide +kernel) ((g_osw (34) (by decide) q4_46_0).trans ((g_osw (39) (by decide) q5_46_1).trans ((g_osw (48) (by decide) q6_46_2).trans ((g_osw (92) (by decide) q7_46_3).trans ((g_osw (110) (by decide) q8_46_4).trans rfl))))) (by decide) ?_
    refine g_iconst hF (v := (-1)) d_X10_codeAt_104 (by decide) ?_
    exact g_iret hF rfl d_X10_codeAt_105 ⟨rfl, rfl, ((-1) : Int32), rfl, rfl⟩
  · -- not taken at 9
    refine g_iload_n hF d_X10_codeAt_12 rfl 0 rfl ?_
    refine g_bipush hF (v := 32) d_X10_codeAt_13 (by decide) ?_
    refine g_icmp_lt (yv := 32) hF 29 d_X10_codeAt_15 (by decide) rfl (by decide) (fun c9_15 => ?_) (fun c9_15 => ?_)
    · -- taken at 15
      refine g_iconst hF (v := (-1)) d_X10_codeAt_29 (by decide) ?_
      refine g_goto hF 34 d_X10_codeAt_30 (by decide) ?_
      exact g_iret hF rfl d_X10_codeAt_34 ⟨rfl, rfl, ((-1) : Int32), rfl, rfl⟩
    · -- not taken at 15
      refine g_iload_n hF d_X10_codeAt_18 rfl 0 rfl ?_
      refine g_bipush hF (v := 126) d_X10_codeAt_19 (by decide) ?_
      refine g_icmp_gt (yv := 126) hF 29 d_X10_codeAt_21 (by decide) rfl (by decide) (fun c10_21 => ?_) (fun c10_21 => ?_)
      · -- taken at 21
        refine g_iconst hF (v := (-1)) d_X10_codeAt_29 (by decide) ?_
        refine g_goto hF 34 d_X10_codeAt_30 (by decide) ?_
        exact g_iret hF rfl d_X10_codeAt_34 ⟨rfl, rfl, ((-1) : Int32), rfl, rfl⟩
      · -- not taken at 21
        refine g_iload_n hF d_X10_codeAt_24 rfl 0 rfl ?_
        refine g_iload_n hF d_X10_codeAt_25 rfl 3 rfl ?_
        refine g_icmp_ne hF 33 d_X10_codeAt_26 (by decide) rfl rfl (fun c11_26 => ?_) (fun c11_26 => ?_)
        · -- taken at 26
          refine g_iload_n hF d_X10_codeAt_33 rfl 0 rfl ?_
          exact g_iret hF rfl d_X10_codeAt_34 ⟨rfl, rfl, r1, rfl, rfl⟩
        · -- not taken at 26
          refine g_iconst hF (v := (-1)) d_X10_codeAt_29 (by decide) ?_
          refine g_goto hF 34 d_X10_codeAt_30 (by decide) ?_
          exact g_iret hF rfl d_X10_codeAt_34 ⟨rfl, rfl, ((-1) : Int32), rfl, rfl⟩
set_option maxHeartbeats 4000000 in
set_option maxRecDepth 100000 in
theorem c_X10_widthAt (a : Nat → Nat) (g : Nat → Nat → Int32) (r : Nat → Nat) (σ0 : St) (a1 : Int32) (i0 : Inv σ0) (l : Launch) (D : va_G) (cy : Nat → ClassId) : Ct l D cy SC r (EC a g) y_X10_widthAt (Cond.code y_X10_widthAt b_X10_widthAt 2 (some .int)) 1 [.ref (r 2), .int a1] σ0 Z0 [] (QI (fun v9 σ9 => ((1 ≤ v9.toInt ∧ v9.toInt ≤ 2) ∧ σ9 = σ0))) QF := by
  refine Ct_of (EC_ok a g) (by decide) (Nat.le_of_ble_eq_true rfl) (by decide) (fun X hnn hF => ?_)
  show G SC r X σ0 Z0 [] [(0, .ref (r 2)), (1, .int a1)] [] 0
  refine g_aload_n hF d_X10_widthAt_0 rfl 0 rfl ?_
  refine g_iload_n hF d_X10_widthAt_1 rfl 1 rfl ?_
  refine g_callV (As := [.int a1]) (rest := []) hF (c_X10_byteAt a g r σ0 a1 i0) (Nat.le_of_ble_eq_true rfl) mV_X10_byteAt m_806 (recv_ob obC_2) rfl rfl (Nat.le_of_ble_eq_true rfl) d_X10_widthAt_2 (k_rop (fun r1 hp1 => ?_)) (fun _ _ _ h => h.elim)
  have hp1 : 0 ≤ r1.toInt → (0 ≤ a1.toInt ∧ a1.toInt < 16000) := hp1
  refine g_bipush hF (v := 92) d_X10_widthAt_5 (by decide) ?_
  refine g_icmp_ne (yv := 92) hF 14 d_X10_widthAt_7 (by decide) rfl (by decide) (fun c2_7 => ?_) (fun c2_7 => ?_)
  · -- taken at 7
    refine g_iconst hF (v := 1) d_X10_widthAt_14 (by decide) ?_
    exact g_iret hF rfl d_X10_widthAt_15 ⟨rfl, rfl, (1 : Int32), rfl, ⟨(by show 1 ≤ 1 ∧ 1 ≤ 2; have e0 : (1 : Int32).toInt = 1 := (by decide); omega), rfl⟩⟩
  · -- not taken at 7
    refine g_iconst hF (v := 2) d_X10_widthAt_10 (by decide) ?_
    refine g_goto hF 15 d_X10_widthAt_11 (by decide) ?_
    exact g_iret hF rfl d_X10_widthAt_15 ⟨rfl, rfl, (2 : Int32), rfl, ⟨(by show 1 ≤ 2 ∧ 2 ≤ 2; have e0 : (2 : Int32).toInt = 2 := (by decide); omega), rfl⟩⟩
set_option maxHeartbeats 4000000 in
set_option maxRecDepth 100000 in
theorem c_X10_mayGoOn (a : Nat → Nat) (g : Nat → Nat → Int32) (r : Nat → Nat) (σ0 : St) (a0 : Int32) (i0 : Inv σ0) (l : Launch) (D : va_G) (cy : Nat → ClassId) : Ct l D cy SC r (EC a g) y_X10_mayGoOn (Cond.code y_X10_mayGoOn b_X10_mayGoOn 1 (some .boolean)) 0 [.int a0] σ0 Z0 [] (QI (fun v9 σ9 => (v9 = 0 ∨ v9 = 1) ∧ σ9 = σ0)) QF := by
  refine Ct_of (EC_ok a g) (by decide) (Nat.le_of_ble_eq_true rfl) (by decide) (fun X hnn hF => ?_)
  show G SC r X σ0 Z0 [] [(0, .int a0)] [] 0
  refine g_iload_n hF d_X10_mayGoOn_0 rfl 0 rfl ?_
  refine g_bipush hF (v := 61) d_X10_mayGoOn_1 (by decide) ?_
  refine g_icmp_eq (yv := 61) hF 42 d_X10_mayGoOn_3 (by decide) rfl (by decide) (fun c1_3 => ?_) (fun c1_3 => ?_)
  · -- taken at 3
    refine g_iconst hF (v := 1) d_X10_mayGoOn_42 (by decide) ?_
    refine g_goto hF 47 d_X10_mayGoOn_43 (by decide) ?_
    exact g_zret hF rfl (k_nz (Or.inr rfl)) d_X10_mayGoOn_47 ⟨rfl, rfl, (1 : Int32), rfl, (Or.inr rfl), rfl⟩
  · -- not taken at 3
    refine g_iload_n hF d_X10_mayGoOn_6 rfl 0 rfl ?_
    refine g_bipush hF (v := 60) d_X10_mayGoOn_7 (by decide) ?_
    refine g_icmp_eq (yv := 60) hF 42 d_X10_mayGoOn_9 (by decide) rfl (by decide) (fun c2_9 => ?_) (fun c2_9 => ?_)
    · -- taken at 9
      refine g_iconst hF (v := 1) d_X10_mayGoOn_42 (by decide) ?_
      refine g_goto hF 47 d_X10_mayGoOn_43 (by decide) ?_
      exact g_zret hF rfl (k_nz (Or.inr rfl)) d_X10_mayGoOn_47 ⟨rfl, rfl, (1 : Int32), rfl, (Or.inr rfl), rfl⟩
    · -- not taken at 9
      refine g_iload_n hF d_X10_mayGoOn_12 rfl 0 rfl ?_
      refine g_bipush hF (v := 62) d_X10_mayGoOn_13 (by decide) ?_
      refine g_icmp_eq (yv := 62) hF 42 d_X10_mayGoOn_15 (by decide) rfl (by decide) (fun c3_15 => ?_) (fun c3_15 => ?_)
      · -- taken at 15
        refine g_iconst hF (v := 1) d_X10_mayGoOn_42 (by decide) ?_
        refine g_goto hF 47 d_X10_mayGoOn_43 (by decide) ?_
        exact g_zret hF rfl (k_nz (Or.inr rfl)) d_X10_mayGoOn_47 ⟨rfl, rfl, (1 : Int32), rfl, (Or.inr rfl), rfl⟩
      · -- not taken at 15
        refine g_iload_n hF d_X10_mayGoOn_18 rfl 0 rfl ?_
        refine g_bipush hF (v := 43) d_X10_mayGoOn_19 (by decide) ?_
        refine g_icmp_eq (yv := 43) hF 42 d_X10_mayGoOn_21 (by decide) rfl (by decide) (fun c4_21 => ?_) (fun c4_21 => ?_)
        · -- taken at 21
          refine g_iconst hF (v := 1) d_X10_mayGoOn_42 (by decide) ?_
          refine g_goto hF 47 d_X10_mayGoOn_43 (by decide) ?_
          exact g_zret hF rfl (k_nz (Or.inr rfl)) d_X10_mayGoOn_47 ⟨rfl, rfl, (1 : Int32), rfl, (Or.inr rfl), rfl⟩
        · -- not taken at 21
          refine g_iload_n hF d_X10_mayGoOn_24 rfl 0 rfl ?_
          refine g_bipush hF (v := 45) d_X10_mayGoOn_25 (by decide) ?_
          refine g_icmp_eq (yv := 45) hF 42 d_X10_mayGoOn_27 (by decide) rfl (by decide) (fun c5_27 => ?_) (fun c5_27 => ?_)
          · -- taken at 27
            refine g_iconst hF (v := 1) d_X10_mayGoOn_42 (by decide) ?_
            refine g_goto hF 47 d_X10_mayGoOn_43 (by decide) ?_
            exact g_zret hF rfl (k_nz (Or.inr rfl)) d_X10_mayGoOn_47 ⟨rfl, rfl, (1 : Int32), rfl, (Or.inr rfl), rfl⟩
          · -- not taken at 27
            refine g_iload_n hF d_X10_mayGoOn_30 rfl 0 rfl ?_
            refine g_bipush hF (v := 38) d_X10_mayGoOn_31 (by decide) ?_
            refine g_icmp_eq (yv := 38) hF 42 d_X10_mayGoOn_33 (by decide) rfl (by decide) (fun c6_33 => ?_) (fun c6_33 => ?_)
            · -- taken at 33
              refine g_iconst hF (v := 1) d_X10_mayGoOn_42 (by decide) ?_
              refine g_goto hF 47 d_X10_mayGoOn_43 (by decide) ?_
              exact g_zret hF rfl (k_nz (Or.inr rfl)) d_X10_mayGoOn_47 ⟨rfl, rfl, (1 : Int32), rfl, (Or.inr rfl), rfl⟩
            · -- not taken at 33
              refine g_iload_n hF d_X10_mayGoOn_36 rfl 0 rfl ?_
              refine g_bipush hF (v := 124) d_X10_mayGoOn_37 (by decide) ?_
              refine g_icmp_ne (yv := 124) hF 46 d_X10_mayGoOn_39 (by decide) rfl (by decide) (fun c7_39 => ?_) (fun c7_39 => ?_)
              · -- taken at 39
                refine g_iconst hF (v := 0) d_X10_mayGoOn_46 (by decide) ?_
                exact g_zret hF rfl (k_nz (Or.inl rfl)) d_X10_mayGoOn_47 ⟨rfl, rfl, (0 : Int32), rfl, (Or.inl rfl), rfl⟩
              · -- not taken at 39
                refine g_iconst hF (v := 1) d_X10_mayGoOn_42 (by decide) ?_
                refine g_goto hF 47 d_X10_mayGoOn_43 (by decide) ?_
                exact g_zret hF rfl (k_nz (Or.inr rfl)) d_X10_mayGoOn_47 ⟨rfl, rfl, (1 : Int32), rfl, (Or.inr rfl), rfl⟩
set_option maxHeartbeats 4000000 in
set_option maxRecDepth 100000 in
theorem c_X3_advance (a : Nat → Nat) (g : Nat → Nat → Int32) (r : Nat → Nat) (σ0 : St) (hgp : GI σ0) (hpre : -1 ≤ (σ0 3 1).toInt ∧ (σ0 3 1).toInt ≤ 16001) (i0 : Inv σ0) (l : Launch) (D : va_G) (cy : Nat → ClassId) : Ct l D cy SC r (EC a g) y_X3_advance (Cond.code y_X3_advance b_X3_advance 2 none) 0 [.ref (r 3)] σ0 Z0 [] (QV (fun σ9 => ((GPS σ9 ∧ Mo σ9 σ0) ∧ (((σ9 3 1).toInt = (σ0 3 1).toInt + 1) ∧ Inv σ9 ∧ Keep [(3, 1), (3, 2)] [] σ0 σ9)))) QF := by
  refine Ct_of (EC_ok a g) (by decide) (Nat.le_of_ble_eq_true rfl) (by decide) (fun X hnn hF => ?_)
  show G SC r X σ0 Z0 [] [(0, .ref (r 3))] [] 0
  have kp : Keep [(3, 1), (3, 2)] [] σ0 σ0 := keep_rf
  refine g_aload_n hF d_X3_advance_0 rfl 0 rfl ?_
  refine g_dup hF d_X3_advance_1 rfl ?_
  refine g_get (v := .int (σ0 3 1)) hF 1 obC_3 (by decide) m_95 rfl d_X3_advance_2 ?_
  refine g_iconst hF (v := 1) d_X3_advance_5 (by decide) ?_
  refine g_iadd hF d_X3_advance_6 ?_
  refine g_put (v := ((σ0 3 1) + 1)) hF 1 obC_3 (by decide) m_95 rfl rfl rfl d_X3_advance_7 ?_
  have kp : Keep [(3, 1), (3, 2)] [] σ0 (upC σ0 3 1 ((σ0 3 1) + 1)) := keep_f kp (by decide)
  refine g_aload_n hF d_X3_advance_10 rfl 0 rfl ?_
  refine g_get (v := .int ((σ0 3 1) + 1)) hF 1 obC_3 (by decide) m_95 rfl d_X3_advance_11 ?_
  refine g_if_lt hF 50 d_X3_advance_14 (by decide) rfl (fun c1_14 => ?_) (fun c1_14 => ?_)
  · -- taken at 14
    refine g_iconst hF (v := 0) d_X3_advance_50 (by decide) ?_
    refine g_istore_n hF [(1, .int 0), (0, .ref (r 3))] d_X3_advance_51 rfl hnn (by decide) rfl ?_
    refine g_aload_n hF d_X3_advance_52 rfl 1 rfl ?_
    refine g_iload_n hF d_X3_advance_53 rfl 0 rfl ?_
    refine g_if_eq (xv := 0) hF 72 d_X3_advance_54 (by decide) (by decide) (fun _ => ?_) (fun c_54 => absurd c_54 (by decide))
    refine g_iconst hF (v := 0) d_X3_advance_72 (by decide) ?_
    refine g_put (v := 0) hF 2 obC_3 (by decide) m_96 rfl rfl rfl d_X3_advance_73 ?_
    have kp : Keep [(3, 1), (3, 2)] [] σ0 (upC (upC σ0 3 1 ((σ0 3 1) + 1)) 3 2 0) := keep_f kp (by decide)
    have j2 : Inv (upC (upC σ0 3 1 ((σ0 3 1) + 1)) 3 2 0) := ⟨i0.1, i0.2.1, i0.2.2.1, i0.2.2.2.1, i0.2.2.2.2.1, i0.2.2.2.2.2.1, i0.2.2.2.2.2.2.1, i0.2.2.2.2.2.2.2.1, i0.2.2.2.2.2.2.2.2.1, i0.2.2.2.2.2.2.2.2.2.1, i0.2.2.2.2.2.2.2.2.2.2.1, i0.2.2.2.2.2.2.2.2.2.2.2.1, i0.2.2.2.2.2.2.2.2.2.2.2.2.1, i0.2.2.2.2.2.2.2.2.2.2.2.2.2.1, i0.2.2.2.2.2.2.2.2.2.2.2.2.2.2.1, i0.2.2.2.2.2.2.2.2.2.2.2.2.2.2.2.1, i0.2.2.2.2.2.2.2.2.2.2.2.2.2.2.2.2.1, i0.2.2.2.2.2.2.2.2.2.2.2.2.2.2.2.2.2.1, i0.2.2.2.2.2.2.2.2.2.2.2.2.2.2.2.2.2.2.1, i0.2.2.2.2.2.2.2.2.2.2.2.2.2.2.2.2.2.2.2⟩
    exact g_vret hF rfl d_X3_advance_76 ⟨rfl, rfl, rfl, ⟨⟨(gps_adv0 hgp hpre), (fun h9 => (mo_e (show (upC (upC σ0 3 1 ((σ0 3 1) + 1)) 3 2 0) 3 3 = σ0 3 3 from rfl) h9))⟩, (by show ((σ0 3 1) + 1).toInt = (σ0 3 1).toInt + 1; have e0 := s_rng (σ0 3 1); have e1 : (1 : Int32).toInt = 1 := (by decide); obtain ⟨k2, e2⟩ := s_add (σ0 3 1) (1 : Int32); have e2a := s_rng ((σ0 3 1) + 1); have e4 : (0 : Int32).toInt = 0 := (by decide); omega), j2, kp⟩⟩
  · -- not taken at 14
    refine g_aload_n hF d_X3_advance_17 rfl 0 rfl ?_
    refine g_get (v := .int ((σ0 3 1) + 1)) hF 1 obC_3 (by decide) m_95 rfl d_X3_advance_18 ?_
    refine g_aload_n hF d_X3_advance_21 rfl 0 rfl ?_
    refine g_get (v := .ref (r 2)) hF 0 obC_3 (by decide) m_94 rfl d_X3_advance_22 ?_
    refine g_getN (v := .int (σ0 2 4)) hF 4 obC_2 (by decide) nm_47 rfl d_X3_advance_25 ?_
    refine g_icmp_ge hF 50 d_X3_advance_28 (by decide) rfl rfl (fun c3_28 => ?_) (fun c3_28 => ?_)
    · -- taken at 28
      refine g_iconst hF (v := 0) d_X3_advance_50 (by decide) ?_
      refine g_istore_n hF [(1, .int 0), (0, .ref (r 3))] d_X3_advance_51 rfl hnn (by decide) rfl ?_
      refine g_aload_n hF d_X3_advance_52 rfl 1 rfl ?_
      refine g_iload_n hF d_X3_advance_53 rfl 0 rfl ?_
      refine g_if_eq (xv := 0) hF 72 d_X3_advance_54 (by decide) (by decide) (fun _ => ?_) (fun c_54 => absurd c_54 (by decide))
      refine g_iconst hF (v := 0) d_X3_advance_72 (by decide) ?_
      refine g_put (v := 0) hF 2 obC_3 (by decide) m_96 rfl rfl rfl d_X3_advance_73 ?_
      have kp : Keep [(3, 1), (3, 2)] [] σ0 (upC (upC σ0 3 1 ((σ0 3 1) + 1)) 3 2 0) := keep_f kp (by decide)
      have j4 : Inv (upC (upC σ0 3 1 ((σ0 3 1) + 1)) 3 2 0) := ⟨i0.1, i0.2.1, i0.2.2.1, i0.2.2.2.1, i0.2.2.2.2.1, i0.2.2.2.2.2.1, i0.2.2.2.2.2.2.1, i0.2.2.2.2.2.2.2.1, i0.2.2.2.2.2.2.2.2.1, i0.2.2.2.2.2.2.2.2.2.1, i0.2.2.2.2.2.2.2.2.2.2.1, i0.2.2.2.2.2.2.2.2.2.2.2.1, i0.2.2.2.2.2.2.2.2.2.2.2.2.1, i0.2.2.2.2.2.2.2.2.2.2.2.2.2.1, i0.2.2.2.2.2.2.2.2.2.2.2.2.2.2.1, i0.2.2.2.2.2.2.2.2.2.2.2.2.2.2.2.1, i0.2.2.2.2.2.2.2.2.2.2.2.2.2.2.2.2.1, i0.2.2.2.2.2.2.2.2.2.2.2.2.2.2.2.2.2.1, i0.2.2.2.2.2.2.2.2.2.2.2.2.2.2.2.2.2.2.1, i0.2.2.2.2.2.2.2.2.2.2.2.2.2.2.2.2.2.2.2⟩
      exact g_vret hF rfl d_X3_advance_76 ⟨rfl, rfl, rfl, ⟨⟨(gps_adv0 hgp hpre), (fun h9 => (mo_e (show (upC (upC σ0 3 1 ((σ0 3 1) + 1)) 3 2 0) 3 3 = σ0 3 3 from rfl) h9))⟩, (by show ((σ0 3 1) + 1).toInt = (σ0 3 1).toInt + 1; have e0 := s_rng (σ0 3 1); have e1 : (1 : Int32).toInt = 1 := (by decide); obtain ⟨k2, e2⟩ := s_add (σ0 3 1) (1 : Int32); have e2a := s_rng ((σ0 3 1) + 1); have e4 : (0 : Int32).toInt = 0 := (by decide); have e5 := s_rng (σ0 2 4); omega), j4, kp⟩⟩
    · -- not taken at 28
      refine g_aload_n hF d_X3_advance_31 rfl 0 rfl ?_
      refine g_get (v := .int ((σ0 3 1) + 1)) hF 1 obC_3 (by decide) m_95 rfl d_X3_advance_32 ?_
      refine g_aload_n hF d_X3_advance_35 rfl 0 rfl ?_
      refine g_get (v := .ref (r 2)) hF 0 obC_3 (by decide) m_94 rfl d_X3_advance_36 ?_
      refine g_getN (v := .ref (r 13)) hF 5 obC_2 (by decide) nm_50 rfl d_X3_advance_39 ?_
      refine g_alen hF arC_13 (fun _ => ⟨1, _, rfl⟩) (v := 16002) (by decide) d_X3_advance_42 ?_
      refine g_icmp_ge (yv := 16002) hF 50 d_X3_advance_43 (by decide) rfl (by decide) (fun c5_43 => ?_) (fun c5_43 => ?_)
      · -- taken at 43
        refine g_iconst hF (v := 0) d_X3_advance_50 (by decide) ?_
        refine g_istore_n hF [(1, .int 0), (0, .ref (r 3))] d_X3_advance_51 rfl hnn (by decide) rfl ?_
        refine g_aload_n hF d_X3_advance_52 rfl 1 rfl ?_
        refine g_iload_n hF d_X3_advance_53 rfl 0 rfl ?_
        refine g_if_eq (xv := 0) hF 72 d_X3_advance_54 (by decide) (by decide) (fun _ => ?_) (fun c_54 => absurd c_54 (by decide))
        refine g_iconst hF (v := 0) d_X3_advance_72 (by decide) ?_
        refine g_put (v := 0) hF 2 obC_3 (by decide) m_96 rfl rfl rfl d_X3_advance_73 ?_
        have kp : Keep [(3, 1), (3, 2)] [] σ0 (upC (upC σ0 3 1 ((σ0 3 1) + 1)) 3 2 0) := keep_f kp (by decide)
        have j6 : Inv (upC (upC σ0 3 1 ((σ0 3 1) + 1)) 3 2 0) := ⟨i0.1, i0.2.1, i0.2.2.1, i0.2.2.2.1, i0.2.2.2.2.1, i0.2.2.2.2.2.1, i0.2.2.2.2.2.2.1, i0.2.2.2.2.2.2.2.1, i0.2.2.2.2.2.2.2.2.1, i0.2.2.2.2.2.2.2.2.2.1, i0.2.2.2.2.2.2.2.2.2.2.1, i0.2.2.2.2.2.2.2.2.2.2.2.1, i0.2.2.2.2.2.2.2.2.2.2.2.2.1, i0.2.2.2.2.2.2.2.2.2.2.2.2.2.1, i0.2.2.2.2.2.2.2.2.2.2.2.2.2.2.1, i0.2.2.2.2.2.2.2.2.2.2.2.2.2.2.2.1, i0.2.2.2.2.2.2.2.2.2.2.2.2.2.2.2.2.1, i0.2.2.2.2.2.2.2.2.2.2.2.2.2.2.2.2.2.1, i0.2.2.2.2.2.2.2.2.2.2.2.2.2.2.2.2.2.2.1, i0.2.2.2.2.2.2.2.2.2.2.2.2.2.2.2.2.2.2.2⟩
        exact g_vret hF rfl d_X3_advance_76 ⟨rfl, rfl, rfl, ⟨⟨(gps_adv0 hgp hpre), (fun h9 => (mo_e (show (upC (upC σ0 3 1 ((σ0 3 1) + 1)) 3 2 0) 3 3 = σ0 3 3 from rfl) h9))⟩, (by show ((σ0 3 1) + 1).toInt = (σ0 3 1).toInt + 1; have e0 := s_rng (σ0 3 1); have e1 : (1 : Int32).toInt = 1 := (by decide); obtain ⟨k2, e2⟩ := s_add (σ0 3 1) (1 : Int32); have e2a := s_rng ((σ0 3 1) + 1); have e4 : (0 : Int32).toInt = 0 := (by decide); have e5 := s_rng (σ0 2 4); have e6 : (16002 : Int32).toInt = 16002 := (by decide); omega), j6, kp⟩⟩
      · -- not taken at 43
        refine g_iconst hF (v := 1) d_X3_advance_46 (by decide) ?_
        refine g_goto hF 51 d_X3_advance_47 (by decide) ?_
        refine g_istore_n hF [(1, .int 1), (0, .ref (r 3))] d_X3_advance_51 rfl hnn (by decide) rfl ?_
        refine g_aload_n hF d_X3_advance_52 rfl 1 rfl ?_
        refine g_iload_n hF d_X3_advance_53 rfl 0 rfl ?_
        refine g_if_eq (xv := 1) hF 72 d_X3_advance_54 (by decide) (by decide) (fun c_54 => absurd c_54 (by decide)) (fun _ => ?_)
        refine g_aload_n hF d_X3_advance_57 rfl 1 rfl ?_
        refine g_get (v := .ref (r 2)) hF 0 obC_3 (by decide) m_94 rfl d_X3_advance_58 ?_
        refine g_getN (v := .ref (r 13)) hF 5 obC_2 (by decide) nm_50 rfl d_X3_advance_61 ?_
        refine g_aload_n hF d_X3_advance_64 rfl 1 rfl ?_
        refine g_get (v := .int ((σ0 3 1) + 1)) hF 1 obC_3 (by decide) m_95 rfl d_X3_advance_65 ?_
        refine g_iald hF arC_13 (by refine s_in (by decide) ?_ ?_ <;> (have e0 := s_rng (σ0 3 1); have e1 : (1 : Int32).toInt = 1 := (by decide); obtain ⟨k2, e2⟩ := s_add (σ0 3 1) (1 : Int32); have e2a := s_rng ((σ0 3 1) + 1); have e4 : (0 : Int32).toInt = 0 := (by decide); have e5 := s_rng (σ0 2 4); have e6 : (16002 : Int32).toInt = 16002 := (by decide); omega)) d_X3_advance_68 ?_
        refine g_nm (fun v7 ev7 => ?_)
        refine g_goto hF 73 d_X3_advance_69 (by decide) ?_
        refine g_put (v := v7) hF 2 obC_3 (by decide) m_96 rfl rfl rfl d_X3_advance_73 ?_
        have kp : Keep [(3, 1), (3, 2)] [] σ0 (upC (upC σ0 3 1 ((σ0 3 1) + 1)) 3 2 v7) := keep_f kp (by decide)
        have j8 : Inv (upC (upC σ0 3 1 ((σ0 3 1) + 1)) 3 2 v7) := ⟨i0.1, i0.2.1, i0.2.2.1, i0.2.2.2.1, i0.2.2.2.2.1, i0.2.2.2.2.2.1, i0.2.2.2.2.2.2.1, i0.2.2.2.2.2.2.2.1, i0.2.2.2.2.2.2.2.2.1, i0.2.2.2.2.2.2.2.2.2.1, i0.2.2.2.2.2.2.2.2.2.2.1, i0.2.2.2.2.2.2.2.2.2.2.2.1, i0.2.2.2.2.2.2.2.2.2.2.2.2.1, i0.2.2.2.2.2.2.2.2.2.2.2.2.2.1, i0.2.2.2.2.2.2.2.2.2.2.2.2.2.2.1, i0.2.2.2.2.2.2.2.2.2.2.2.2.2.2.2.1, i0.2.2.2.2.2.2.2.2.2.2.2.2.2.2.2.2.1, i0.2.2.2.2.2.2.2.2.2.2.2.2.2.2.2.2.2.1, i0.2.2.2.2.2.2.2.2.2.2.2.2.2.2.2.2.2.2.1, i0.2.2.2.2.2.2.2.2.2.2.2.2.2.2.2.2.2.2.2⟩
        exact g_vret hF rfl d_X3_advance_76 ⟨rfl, rfl, rfl, ⟨⟨(gps_adv1 hgp hpre (by have e0 := s_rng (σ0 3 1); have e1 : (1 : Int32).toInt = 1 := (by decide); obtain ⟨k2, e2⟩ := s_add (σ0 3 1) (1 : Int32); have e2a := s_rng ((σ0 3 1) + 1); have e4 : (0 : Int32).toInt = 0 := (by decide); have e5 := s_rng (σ0 2 4); have e6 : (16002 : Int32).toInt = 16002 := (by decide); omega) (by have e0 := s_rng (σ0 3 1); have e1 : (1 : Int32).toInt = 1 := (by decide); obtain ⟨k2, e2⟩ := s_add (σ0 3 1) (1 : Int32); have e2a := s_rng ((σ0 3 1) + 1); have e4 : (0 : Int32).toInt = 0 := (by decide); have e5 := s_rng (σ0 2 4); have e6 : (16002 : Int32).toInt = 16002 := (by decide); omega) i0.2.2.2.2.2.2.2.2.2.2.2.2.2.2.2.2.2.2.2 ev7), (fun h9 => (mo_e (show (upC (upC σ0 3 1 ((σ0 3 1) + 1)) 3 2 v7) 3 3 = σ0 3 3 from rfl) h9))⟩, (by show ((σ0 3 1) + 1).toInt = (σ0 3 1).toInt + 1; have e0 := s_rng (σ0 3 1); have e1 : (1 : Int32).toInt = 1 := (by decide); obtain ⟨k2, e2⟩ := s_add (σ0 3 1) (1 : Int32); have e2a := s_rng ((σ0 3 1) + 1); have e4 : (0 : Int32).toInt = 0 := (by decide); have e5 := s_rng (σ0 2 4); have e6 : (16002 : Int32).toInt = 16002 := (by decide); omega), j8, kp⟩⟩
set_option maxHeartbeats 4000000 in
set_option maxRecDepth 100000 in
theorem c_X3_fail (a : Nat → Nat) (g : Nat → Nat → Int32) (r : Nat → Nat) (σ0 : St) (hgp : GPS σ0) (i0 : Inv σ0) (l : Launch) (D : va_G) (cy : Nat → ClassId) : Ct l D cy SC r (EC a g) y_X3_fail (Cond.code y_X3_fail b_X3_fail 1 none) 0 [.ref (r 3)] σ0 Z0 [] (QV (fun σ9 => ((GPS σ9 ∧ Mo σ9 σ0) ∧ ((0 ≤ (σ9 3 3).toInt) ∧ Inv σ9 ∧ Keep [(3, 2), (3, 3)] [] σ0 σ9)))) QF := by
  refine Ct_of (EC_ok a g) (by decide) (Nat.le_of_ble_eq_true rfl) (by decide) (fun X hnn hF => ?_)
  show G SC r X σ0 Z0 [] [(0, .ref (r 3))] [] 0
  have kp : Keep [(3, 2), (3, 3)] [] σ0 σ0 := keep_rf
  have hgz : 0 ≤ (σ0 3 1).toInt := hgp.1
  refine g_aload_n hF d_X3_fail_0 rfl 0 rfl ?_
  refine g_get (v := .int (σ0 3 3)) hF 3 obC_3 (by decide) m_97 rfl d_X3_fail_1 ?_
  refine g_if_ge hF 15 d_X3_fail_4 (by decide) rfl (fun c1_4 => ?_) (fun c1_4 => ?_)
  · -- taken at 4
    refine g_aload_n hF d_X3_fail_15 rfl 0 rfl ?_
    refine g_iconst hF (v := (-1)) d_X3_fail_16 (by decide) ?_
    refine g_put (v := (-1)) hF 2 obC_3 (by decide) m_96 rfl rfl rfl d_X3_fail_17 ?_
    have kp : Keep [(3, 2), (3, 3)] [] σ0 (upC σ0 3 2 (-1)) := keep_f kp (by decide)
    have j2 : Inv (upC σ0 3 2 (-1)) := ⟨i0.1, i0.2.1, i0.2.2.1, i0.2.2.2.1, i0.2.2.2.2.1, i0.2.2.2.2.2.1, i0.2.2.2.2.2.2.1, i0.2.2.2.2.2.2.2.1, i0.2.2.2.2.2.2.2.2.1, i0.2.2.2.2.2.2.2.2.2.1, i0.2.2.2.2.2.2.2.2.2.2.1, i0.2.2.2.2.2.2.2.2.2.2.2.1, i0.2.2.2.2.2.2.2.2.2.2.2.2.1, i0.2.2.2.2.2.2.2.2.2.2.2.2.2.1, i0.2.2.2.2.2.2.2.2.2.2.2.2.2.2.1, i0.2.2.2.2.2.2.2.2.2.2.2.2.2.2.2.1, i0.2.2.2.2.2.2.2.2.2.2.2.2.2.2.2.2.1, i0.2.2.2.2.2.2.2.2.2.2.2.2.2.2.2.2.2.1, i0.2.2.2.2.2.2.2.2.2.2.2.2.2.2.2.2.2.2.1, i0.2.2.2.2.2.2.2.2.2.2.2.2.2.2.2.2.2.2.2⟩
    exact g_vret hF rfl d_X3_fail_20 ⟨rfl, rfl, rfl, ⟨⟨(gps_fail2 hgp (by have e0 := s_rng (σ0 3 3); have e1 : (0 : Int32).toInt = 0 := (by decide); omega)), (fun h9 => (mo_e (show (upC σ0 3 2 (-1)) 3 3 = σ0 3 3 from rfl) h9))⟩, (by show 0 ≤ (σ0 3 3).toInt; have e0 := s_rng (σ0 3 3); have e1 : (0 : Int32).toInt = 0 := (by decide); omega), j2, kp⟩⟩
  · -- not taken at 4
    refine g_aload_n hF d_X3_fail_7 rfl 0 rfl ?_
    refine g_aload_n hF d_X3_fail_8 rfl 0 rfl ?_
    refine g_get (v := .int (σ0 3 1)) hF 1 obC_3 (by decide) m_95 rfl d_X3_fail_9 ?_
    refine g_put (v := (σ0 3 1)) hF 3 obC_3 (by decide) m_97 rfl rfl rfl d_X3_fail_12 ?_
    have kp : Keep [(3, 2), (3, 3)] [] σ0 (upC σ0 3 3 (σ0 3 1)) := keep_f kp (by decide)
    refine g_aload_n hF d_X3_fail_15 rfl 0 rfl ?_
    refine g_iconst hF (v := (-1)) d_X3_fail_16 (by decide) ?_
    refine g_put (v := (-1)) hF 2 obC_3 (by decide) m_96 rfl rfl rfl d_X3_fail_17 ?_
    have kp : Keep [(3, 2), (3, 3)] [] σ0 (upC (upC σ0 3 3 (σ0 3 1)) 3 2 (-1)) := keep_f kp (by decide)
    have j3 : Inv (upC (upC σ0 3 3 (σ0 3 1)) 3 2 (-1)) := ⟨i0.1, i0.2.1, i0.2.2.1, i0.2.2.2.1, i0.2.2.2.2.1, i0.2.2.2.2.2.1, i0.2.2.2.2.2.2.1, i0.2.2.2.2.2.2.2.1, i0.2.2.2.2.2.2.2.2.1, i0.2.2.2.2.2.2.2.2.2.1, i0.2.2.2.2.2.2.2.2.2.2.1, i0.2.2.2.2.2.2.2.2.2.2.2.1, i0.2.2.2.2.2.2.2.2.2.2.2.2.1, i0.2.2.2.2.2.2.2.2.2.2.2.2.2.1, i0.2.2.2.2.2.2.2.2.2.2.2.2.2.2.1, i0.2.2.2.2.2.2.2.2.2.2.2.2.2.2.2.1, i0.2.2.2.2.2.2.2.2.2.2.2.2.2.2.2.2.1, i0.2.2.2.2.2.2.2.2.2.2.2.2.2.2.2.2.2.1, i0.2.2.2.2.2.2.2.2.2.2.2.2.2.2.2.2.2.2.1, i0.2.2.2.2.2.2.2.2.2.2.2.2.2.2.2.2.2.2.2⟩
    exact g_vret hF rfl d_X3_fail_20 ⟨rfl, rfl, rfl, ⟨⟨(gps_fail1 hgp), (fun h9 => by have h9 : (σ0 3 1).toInt < 0 := h9; show (σ0 3 3).toInt < 0; have e0 := s_rng (σ0 3 3); have e1 := s_rng (σ0 3 1); have e2 : (0 : Int32).toInt = 0 := (by decide); omega)⟩, (by show 0 ≤ (σ0 3 1).toInt; have e0 := s_rng (σ0 3 1); have e1 := s_rng (σ0 3 3); have e2 : (0 : Int32).toInt = 0 := (by decide); omega), j3, kp⟩⟩
set_option maxHeartbeats 4000000 in
set_option maxRecDepth 100000 in
theorem c_X3_stars (a : Nat → Nat) (g : Nat → Nat → Int32) (r : Nat → Nat) (σ0 : St) (hgp : GPS σ0) (i0 : Inv σ0) (l : Launch) (D : va_G) (cy : Nat → ClassId) : Ct l D cy SC r (EC a g) y_X3_stars (Cond.code y_X3_stars b_X3_stars 2 (some .int)) 1 [.ref (r 3)] σ0 Z0 [] (QI (fun v9 σ9 => ((GPS σ9 ∧ Mo σ9 σ0) ∧ (Inv σ9 ∧ Keep [(3, 1), (3, 2), (3, 3)] [] σ0 σ9)))) QF := by
  refine Ct_of (EC_ok a g) (by decide) (Nat.le_of_ble_eq_true rfl) (by decide) (fun X hnn hF => ?_)
  show G SC r X σ0 Z0 [] [(0, .ref (r 3))] [] 0
  have b2 : ∀ (N : Nat) (σ : St) (x1 : Int32) , upm x1 = N → Inv σ → Keep [(3, 1), (3, 2), (3, 3)] [] σ0 σ → GPS σ → Mo σ σ0 → G SC r X σ Z0 [] [(0, .ref (r 3)), (1, .int x1)] [] 2 := by
    intro M2
    induction M2 using Nat.strongRecOn with
    | _ M2 ih2 =>
      intro σ x1 N2 inv kp hgp hgm
      refine g_iload_n hF d_X3_stars_2 rfl 1 rfl ?_
      refine g_iconst hF (v := 5) d_X3_stars_3 (by decide) ?_
      refine g_icmp_ge (yv := 5) hF 26 d_X3_stars_4 (by decide) rfl (by decide) (fun c1_4 => ?_) (fun c1_4 => ?_)
      · -- taken at 4
        refine g_aload_n hF d_X3_stars_26 rfl 0 rfl ?_
        refine g_get (v := .int (σ 3 2)) hF 2 obC_3 (by decide) m_96 rfl d_X3_stars_27 ?_
        refine g_bipush hF (v := 45) d_X3_stars_30 (by decide) ?_
        refine g_icmp_ne (yv := 45) hF 39 d_X3_stars_32 (by decide) rfl (by decide) (fun c2_32 => ?_) (fun c2_32 => ?_)
        · -- taken at 32
          refine g_iload_n hF d_X3_stars_39 rfl 1 rfl ?_
          exact g_iret hF rfl d_X3_stars_40 ⟨rfl, rfl, x1, rfl, ⟨⟨hgp, (fun h9 => (hgm (mo_e (show σ 3 3 = σ 3 3 from rfl) h9)))⟩, inv, kp⟩⟩
        · -- not taken at 32
          refine g_aload_n hF d_X3_stars_35 rfl 0 rfl ?_
          refine g_callV (As := []) (rest := []) hF (c_X3_fail a g r σ hgp inv) (Nat.le_of_ble_eq_true rfl) mV_X3_fail m_907 (recv_ob obC_3) rfl rfl (Nat.le_of_ble_eq_true rfl) d_X3_stars_36 (k_v (fun σ3 ⟨⟨hgp3, hgm3⟩, hs3, iσ3, ik3⟩ => ?_)) (fun _ _ _ h => h.elim)
          have hs3 : 0 ≤ (σ3 3 3).toInt := hs3
          have hmo3 : Mo σ3 σ := fun h9 => mo_e (show σ 3 3 = σ 3 3 from rfl) (hgm3 h9)
          have kp : Keep [(3, 1), (3, 2), (3, 3)] [] σ0 σ3 := keep_c kp ik3 (by decide) (by decide)
          refine g_iload_n hF d_X3_stars_39 rfl 1 rfl ?_
          exact g_iret hF rfl d_X3_stars_40 ⟨rfl, rfl, x1, rfl, ⟨⟨hgp3, (fun h9 => (hgm (hmo3 (mo_e (show σ3 3 3 = σ3 3 3 from rfl) h9))))⟩, iσ3, kp⟩⟩
      · -- not taken at 4
        refine g_aload_n hF d_X3_stars_7 rfl 0 rfl ?_
        refine g_get (v := .int (σ 3 2)) hF 2 obC_3 (by decide) m_96 rfl d_X3_stars_8 ?_
        refine g_bipush hF (v := 45) d_X3_stars_11 (by decide) ?_
        refine g_icmp_ne (yv := 45) hF 26 d_X3_stars_13 (by decide) rfl (by decide) (fun c4_13 => ?_) (fun c4_13 => ?_)
        · -- taken at 13
          refine g_aload_n hF d_X3_stars_26 rfl 0 rfl ?_
          refine g_get (v := .int (σ 3 2)) hF 2 obC_3 (by decide) m_96 rfl d_X3_stars_27 ?_
          refine g_bipush hF (v := 45) d_X3_stars_30 (by decide) ?_
          refine g_icmp_ne (yv := 45) hF 39 d_X3_stars_32 (by decide) rfl (by decide) (fun c5_32 => ?_) (fun c5_32 => ?_)
          · -- taken at 32
            refine g_iload_n hF d_X3_stars_39 rfl 1 rfl ?_
            exact g_iret hF rfl d_X3_stars_40 ⟨rfl, rfl, x1, rfl, ⟨⟨hgp, (fun h9 => (hgm (mo_e (show σ 3 3 = σ 3 3 from rfl) h9)))⟩, inv, kp⟩⟩
          · -- not taken at 32
            refine g_aload_n hF d_X3_stars_35 rfl 0 rfl ?_
            refine g_callV (As := []) (rest := []) hF (c_X3_fail a g r σ hgp inv) (Nat.le_of_ble_eq_true rfl) mV_X3_fail m_907 (recv_ob obC_3) rfl rfl (Nat.le_of_ble_eq_true rfl) d_X3_stars_36 (k_v (fun σ6 ⟨⟨hgp6, hgm6⟩, hs6, iσ6, ik6⟩ => ?_)) (fun _ _ _ h => h.elim)
            have hs6 : 0 ≤ (σ6 3 3).toInt := hs6
            have hmo6 : Mo σ6 σ := fun h9 => mo_e (show σ 3 3 = σ 3 3 from rfl) (hgm6 h9)
            have kp : Keep [(3, 1), (3, 2), (3, 3)] [] σ0 σ6 := keep_c kp ik6 (by decide) (by decide)
            refine g_iload_n hF d_X3_stars_39 rfl 1 rfl ?_
            exact g_iret hF rfl d_X3_stars_40 ⟨rfl, rfl, x1, rfl, ⟨⟨hgp6, (fun h9 => (hgm (hmo6 (mo_e (show σ6 3 3 = σ6 3 3 from rfl) h9))))⟩, iσ6, kp⟩⟩
        · -- not taken at 13
          refine g_aload_n hF d_X3_stars_16 rfl 0 rfl ?_
          refine g_callV (As := []) (rest := []) hF (c_X3_advance a g r σ hgp.2.2 (by show -1 ≤ (σ 3 1).toInt ∧ (σ 3 1).toInt ≤ 16001; have hki := hgp.2.1.1; have hgz := hgp.1; have e0 := s_rng (σ 3 1); have e1 := s_rng (σ0 3 1); omega) inv) (Nat.le_of_ble_eq_true rfl) mV_X3_advance m_899 (recv_ob obC_3) rfl rfl (Nat.le_of_ble_eq_true rfl) d_X3_stars_17 (k_v (fun σ7 ⟨⟨hgp7, hgm7⟩, hs7, iσ7, ik7⟩ => ?_)) (fun _ _ _ h => h.elim)
          have hs7 : (σ7 3 1).toInt = (σ 3 1).toInt + 1 := hs7
          have hmo7 : Mo σ7 σ := fun h9 => mo_e (show σ 3 3 = σ 3 3 from rfl) (hgm7 h9)
          have kp : Keep [(3, 1), (3, 2), (3, 3)] [] σ0 σ7 := keep_c kp ik7 (by decide) (by decide)
          refine g_iinc hF (x1 + 1) [(1, .int (x1 + 1)), (0, .ref (r 3))] d_X3_stars_20 1 rfl rfl hnn (by decide) rfl ?_
          refine g_goto hF 2 d_X3_stars_23 (by decide) ?_
          exact g_sub (L' := [(0, .ref (r 3)), (1, .int (x1 + 1))]) [1, 0] rfl (ih2 _ (N2 ▸ upm_lt c1_4 (by decide)) σ7 (x1 + 1) rfl iσ7 kp hgp7 (fun h9 => (hgm (mo_e (show σ7 3 3 = σ 3 3 from (ik7 3 3 rfl rfl rfl)) h9))))
  have kp : Keep [(3, 1), (3, 2), (3, 3)] [] σ0 σ0 := keep_rf
  refine g_iconst hF (v := 0) d_X3_stars_0 (by decide) ?_
  refine g_istore_n hF [(1, .int 0), (0, .ref (r 3))] d_X3_stars_1 rfl hnn (by decide) rfl ?_
  exact g_sub (L' := [(0, .ref (r 3)), (1, .int 0)]) [1, 0] rfl (b2 _ σ0 (0 : Int32) rfl i0 kp hgp (fun h9 => (mo_e (show σ0 3 3 = σ0 3 3 from rfl) h9)))
set_option maxHeartbeats 4000000 in
set_option maxRecDepth 100000 in
theorem c_X3_add (a : Nat → Nat) (g : Nat → Nat → Int32) (r : Nat → Nat) (σ0 : St) (a1 : Int32) (a2 : Int32) (a3 : Int32) (a4 : Int32) (hnm : (a1.toInt = 43 ∨ a1.toInt = 47) → (σ0 3 3).toInt < 0 → NM σ0 a2) (hgp : GPS σ0) (i0 : Inv σ0) (l : Launch) (D : va_G) (cy : Nat → ClassId) : Ct l D cy SC r (EC a g) y_X3_add (Cond.code y_X3_add b_X3_add 6 (some .int)) 0 [.ref (r 3), .int a1, .int a2, .int a3, .int a4] σ0 Z0 [] (QI (fun v9 σ9 => ((GPS σ9 ∧ Mo σ9 σ0) ∧ (Inv σ9 ∧ Keep [(3, 4)] [18, 19, 20, 21] σ0 σ9)))) QF := by
  refine Ct_of (EC_ok a g) (by decide) (Nat.le_of_ble_eq_true rfl) (by decide) (fun X hnn hF => ?_)
  show G SC r X σ0 Z0 [] [(0, .ref (r 3)), (1, .int a1), (2, .int a2), (3, .int a3), (4, .int a4)] [] 0
  have kp : Keep [(3, 4)] [18, 19, 20, 21] σ0 σ0 := keep_rf
  refine g_aload_n hF d_X3_add_0 rfl 0 rfl ?_
  refine g_get (v := .int (σ0 3 4)) hF 4 obC_3 (by decide) m_99 rfl d_X3_add_1 ?_
  refine g_istore hF [(5, .int (σ0 3 4)), (0, .ref (r 3)), (1, .int a1), (2, .int a2), (3, .int a3), (4, .int a4)] d_X3_add_4 hnn (by decide) rfl ?_
  refine g_iload hF d_X3_add_6 0 rfl ?_
  refine g_if_lt hF 94 d_X3_add_8 (by decide) rfl (fun c1_8 => ?_) (fun c1_8 => ?_)
  · -- taken at 8
    refine g_iload hF d_X3_add_94 0 rfl ?_
    exact g_iret hF rfl d_X3_add_96 ⟨rfl, rfl, (σ0 3 4), rfl, ⟨⟨hgp, (fun h9 => (mo_e (show σ0 3 3 = σ0 3 3 from rfl) h9))⟩, i0, kp⟩⟩
  · -- not taken at 8
    refine g_iload hF d_X3_add_11 0 rfl ?_
    refine g_aload_n hF d_X3_add_13 rfl 1 rfl ?_
    refine g_get (v := .ref (r 18)) hF 5 obC_3 (by decide) m_101 rfl d_X3_add_14 ?_
    refine g_alen hF arC_18 (fun _ => ⟨1, _, rfl⟩) (v := 32100) (by decide) d_X3_add_17 ?_
    refine g_icmp_ge (yv := 32100) hF 94 d_X3_add_18 (by decide) rfl (by decide) (fun c2_18 => ?_) (fun c2_18 => ?_)
    · -- taken at 18
      refine g_iload hF d_X3_add_94 0 rfl ?_
      exact g_iret hF rfl d_X3_add_96 ⟨rfl, rfl, (σ0 3 4), rfl, ⟨⟨hgp, (fun h9 => (mo_e (show σ0 3 3 = σ0 3 3 from rfl) h9))⟩, i0, kp⟩⟩
    · -- not taken at 18
      refine g_iload hF d_X3_add_21 0 rfl ?_
      refine g_aload_n hF d_X3_add_23 rfl 1 rfl ?_
      refine g_get (v := .ref (r 19)) hF 6 obC_3 (by decide) m_104 rfl d_X3_add_24 ?_
      refine g_alen hF arC_19 (fun _ => ⟨1, _, rfl⟩) (v := 32100) (by decide) d_X3_add_27 ?_
      refine g_icmp_ge (yv := 32100) hF 94 d_X3_add_28 (by decide) rfl (by decide) (fun c3_28 => ?_) (fun c3_28 => ?_)
      · -- taken at 28
        refine g_iload hF d_X3_add_94 0 rfl ?_
        exact g_iret hF rfl d_X3_add_96 ⟨rfl, rfl, (σ0 3 4), rfl, ⟨⟨hgp, (fun h9 => (mo_e (show σ0 3 3 = σ0 3 3 from rfl) h9))⟩, i0, kp⟩⟩
      · -- not taken at 28
        refine g_iload hF d_X3_add_31 0 rfl ?_
        refine g_aload_n hF d_X3_add_33 rfl 1 rfl ?_
        refine g_get (v := .ref (r 20)) hF 7 obC_3 (by decide) m_108 rfl d_X3_add_34 ?_
        refine g_alen hF arC_20 (fun _ => ⟨1, _, rfl⟩) (v := 32100) (by decide) d_X3_add_37 ?_
        refine g_icmp_ge (yv := 32100) hF 94 d_X3_add_38 (by decide) rfl (by decide) (fun c4_38 => ?_) (fun c4_38 => ?_)
        · -- taken at 38
          refine g_iload hF d_X3_add_94 0 rfl ?_
          exact g_iret hF rfl d_X3_add_96 ⟨rfl, rfl, (σ0 3 4), rfl, ⟨⟨hgp, (fun h9 => (mo_e (show σ0 3 3 = σ0 3 3 from rfl) h9))⟩, i0, kp⟩⟩
        · -- not taken at 38
          refine g_iload hF d_X3_add_41 0 rfl ?_
          refine g_aload_n hF d_X3_add_43 rfl 1 rfl ?_
          refine g_get (v := .ref (r 21)) hF 8 obC_3 (by decide) m_112 rfl d_X3_add_44 ?_
          refine g_alen hF arC_21 (fun _ => ⟨1, _, rfl⟩) (v := 32100) (by decide) d_X3_add_47 ?_
          refine g_icmp_ge (yv := 32100) hF 94 d_X3_add_48 (by decide) rfl (by decide) (fun c5_48 => ?_) (fun c5_48 => ?_)
          · -- taken at 48
            refine g_iload hF d_X3_add_94 0 rfl ?_
            exact g_iret hF rfl d_X3_add_96 ⟨rfl, rfl, (σ0 3 4), rfl, ⟨⟨hgp, (fun h9 => (mo_e (show σ0 3 3 = σ0 3 3 from rfl) h9))⟩, i0, kp⟩⟩
          · -- not taken at 48
            refine g_aload_n hF d_X3_add_51 rfl 1 rfl ?_
            refine g_get (v := .ref (r 18)) hF 5 obC_3 (by decide) m_101 rfl d_X3_add_52 ?_
            refine g_iload hF d_X3_add_55 0 rfl ?_
            refine g_iload_n hF d_X3_add_57 rfl 2 rfl ?_
            refine g_iast hF arC_18 (by refine s_in (by decide) ?_ ?_ <;> (have e0 := s_rng (σ0 3 4); have e1 := i0.2.2.2.2.2.2.2.1; have e2 : (0 : Int32).toInt = 0 := (by decide); have e3 : (32100 : Int32).toInt = 32100 := (by decide); omega)) d_X3_add_58 ?_
            have kp : Keep [(3, 4)] [18, 19, 20, 21] σ0 (upC σ0 18 ((σ0 3 4)).toNatClampNeg a1) := keep_a kp (by decide)
            refine g_aload_n hF d_X3_add_59 rfl 1 rfl ?_
            refine g_get (v := .ref (r 19)) hF 6 obC_3 (by decide) m_104 rfl d_X3_add_60 ?_
            refine g_iload hF d_X3_add_63 0 rfl ?_
            refine g_iload_n hF d_X3_add_65 rfl 3 rfl ?_
            refine g_iast hF arC_19 (by refine s_in (by decide) ?_ ?_ <;> (have e0 := s_rng (σ0 3 4); have e1 := i0.2.2.2.2.2.2.2.1; have e2 : (0 : Int32).toInt = 0 := (by decide); have e3 : (32100 : Int32).toInt = 32100 := (by decide); omega)) d_X3_add_66 ?_
            have kp : Keep [(3, 4)] [18, 19, 20, 21] σ0 (upC (upC σ0 18 ((σ0 3 4)).toNatClampNeg a1) 19 ((σ0 3 4)).toNatClampNeg a2) := keep_a kp (by decide)
            refine g_aload_n hF d_X3_add_67 rfl 1 rfl ?_
            refine g_get (v := .ref (r 20)) hF 7 obC_3 (by decide) m_108 rfl d_X3_add_68 ?_
            refine g_iload hF d_X3_add_71 0 rfl ?_
            refine g_iload_n hF d_X3_add_73 rfl 4 rfl ?_
            refine g_iast hF arC_20 (by refine s_in (by decide) ?_ ?_ <;> (have e0 := s_rng (σ0 3 4); have e1 := i0.2.2.2.2.2.2.2.1; have e2 : (0 : Int32).toInt = 0 := (by decide); have e3 : (32100 : Int32).toInt = 32100 := (by decide); omega)) d_X3_add_74 ?_
            have kp : Keep [(3, 4)] [18, 19, 20, 21] σ0 (upC (upC (upC σ0 18 ((σ0 3 4)).toNatClampNeg a1) 19 ((σ0 3 4)).toNatClampNeg a2) 20 ((σ0 3 4)).toNatClampNeg a3) := keep_a kp (by decide)
            refine g_aload_n hF d_X3_add_75 rfl 1 rfl ?_
            refine g_get (v := .ref (r 21)) hF 8 obC_3 (by decide) m_112 rfl d_X3_add_76 ?_
            refine g_iload hF d_X3_add_79 0 rfl ?_
            refine g_iload hF d_X3_add_81 5 rfl ?_
            refine g_iast hF arC_21 (by refine s_in (by decide) ?_ ?_ <;> (have e0 := s_rng (σ0 3 4); have e1 := i0.2.2.2.2.2.2.2.1; have e2 : (0 : Int32).toInt = 0 := (by decide); have e3 : (32100 : Int32).toInt = 32100 := (by decide); omega)) d_X3_add_83 ?_
            have kp : Keep [(3, 4)] [18, 19, 20, 21] σ0 (upC (upC (upC (upC σ0 18 ((σ0 3 4)).toNatClampNeg a1) 19 ((σ0 3 4)).toNatClampNeg a2) 20 ((σ0 3 4)).toNatClampNeg a3) 21 ((σ0 3 4)).toNatClampNeg a4) := keep_a kp (by decide)
            refine g_aload_n hF d_X3_add_84 rfl 1 rfl ?_
            refine g_dup hF d_X3_add_85 rfl ?_
            refine g_get (v := .int (σ0 3 4)) hF 4 obC_3 (by decide) m_99 rfl d_X3_add_86 ?_
            refine g_iconst hF (v := 1) d_X3_add_89 (by decide) ?_
            refine g_iadd hF d_X3_add_90 ?_
            refine g_put (v := ((σ0 3 4) + 1)) hF 4 obC_3 (by decide) m_99 rfl rfl rfl d_X3_add_91 ?_
            have kp : Keep [(3, 4)] [18, 19, 20, 21] σ0 (upC (upC (upC (upC (upC σ0 18 ((σ0 3 4)).toNatClampNeg a1) 19 ((σ0 3 4)).toNatClampNeg a2) 20 ((σ0 3 4)).toNatClampNeg a3) 21 ((σ0 3 4)).toNatClampNeg a4) 3 4 ((σ0 3 4) + 1)) := keep_f kp (by decide)
            have p6 : 0 ≤ ((σ0 3 4) + 1).toInt ∧ ((σ0 3 4) + 1).toInt ≤ 32100 := (by have e0 := s_rng (σ0 3 4); have e1 := i0.2.2.2.2.2.2.2.1; have e2 : (1 : Int32).toInt = 1 := (by decide); obtain ⟨k3, e3⟩ := s_add (σ0 3 4) (1 : Int32); have e3a := s_rng ((σ0 3 4) + 1); have e5 : (0 : Int32).toInt = 0 := (by decide); have e6 : (32100 : Int32).toInt = 32100 := (by decide); omega)
            refine g_iload hF d_X3_add_94 0 rfl ?_
            have j7 : Inv (upC (upC (upC (upC (upC σ0 18 ((σ0 3 4)).toNatClampNeg a1) 19 ((σ0 3 4)).toNatClampNeg a2) 20 ((σ0 3 4)).toNatClampNeg a3) 21 ((σ0 3 4)).toNatClampNeg a4) 3 4 ((σ0 3 4) + 1)) := ⟨i0.1, i0.2.1, i0.2.2.1, i0.2.2.2.1, i0.2.2.2.2.1, i0.2.2.2.2.2.1, i0.2.2.2.2.2.2.1, p6, i0.2.2.2.2.2.2.2.2.1, i0.2.2.2.2.2.2.2.2.2.1, i0.2.2.2.2.2.2.2.2.2.2.1, i0.2.2.2.2.2.2.2.2.2.2.2.1, i0.2.2.2.2.2.2.2.2.2.2.2.2.1, i0.2.2.2.2.2.2.2.2.2.2.2.2.2.1, i0.2.2.2.2.2.2.2.2.2.2.2.2.2.2.1, i0.2.2.2.2.2.2.2.2.2.2.2.2.2.2.2.1, i0.2.2.2.2.2.2.2.2.2.2.2.2.2.2.2.2.1, i0.2.2.2.2.2.2.2.2.2.2.2.2.2.2.2.2.2.1, i0.2.2.2.2.2.2.2.2.2.2.2.2.2.2.2.2.2.2.1, i0.2.2.2.2.2.2.2.2.2.2.2.2.2.2.2.2.2.2.2⟩
            exact g_iret hF rfl d_X3_add_96 ⟨rfl, rfl, (σ0 3 4), rfl, ⟨⟨(gps_add hgp (by have e0 := s_rng (σ0 3 4); have e1 := i0.2.2.2.2.2.2.2.1; have e2 : (0 : Int32).toInt = 0 := (by decide); have e3 : (32100 : Int32).toInt = 32100 := (by decide); omega) (by have e0 := s_rng (σ0 3 4); have e1 := i0.2.2.2.2.2.2.2.1; have e2 : (0 : Int32).toInt = 0 := (by decide); have e3 : (32100 : Int32).toInt = 32100 := (by decide); omega) hnm), (fun h9 => (mo_e (show (upC (upC (upC (upC (upC σ0 18 ((σ0 3 4)).toNatClampNeg a1) 19 ((σ0 3 4)).toNatClampNeg a2) 20 ((σ0 3 4)).toNatClampNeg a3) 21 ((σ0 3 4)).toNatClampNeg a4) 3 4 ((σ0 3 4) + 1)) 3 3 = σ0 3 3 from rfl) h9))⟩, j7, kp⟩⟩
set_option maxHeartbeats 4000000 in
set_option maxRecDepth 100000 in
theorem c_X3_deeper (a : Nat → Nat) (g : Nat → Nat → Int32) (r : Nat → Nat) (σ0 : St) (a1 : Int32) (hgp : GPS σ0) (hpre : ¬ ((σ0 3 2).toInt = 0 ∨ (σ0 3 2).toInt = -1)) (i0 : Inv σ0) (l : Launch) (D : va_G) (cy : Nat → ClassId) : Ct l D cy SC r (EC a g) y_X3_deeper (Cond.code y_X3_deeper b_X3_deeper 3 (some .boolean)) 1 [.ref (r 3), .int a1] σ0 Z0 [] (QI (fun v9 σ9 => (v9 = 0 ∨ v9 = 1) ∧ (v9.toInt ≠ (0 : Int32).toInt → a1.toInt < 25) ∧ ((GPS σ9 ∧ Mo σ9 σ0) ∧ (Inv σ9 ∧ Keep [(3, 1), (3, 2), (3, 3)] [] σ0 σ9)))) QF := by
  refine Ct_of (EC_ok a g) (by decide) (Nat.le_of_ble_eq_true rfl) (by decide) (fun X hnn hF => ?_)
  show G SC r X σ0 Z0 [] [(0, .ref (r 3)), (1, .int a1)] [] 0
  have kp : Keep [(3, 1), (3, 2), (3, 3)] [] σ0 σ0 := keep_rf
  refine g_iload_n hF d_X3_deeper_0 rfl 1 rfl ?_
  refine g_bipush hF (v := 25) d_X3_deeper_1 (by decide) ?_
  refine g_icmp_ge (yv := 25) hF 10 d_X3_deeper_3 (by decide) rfl (by decide) (fun c1_3 => ?_) (fun c1_3 => ?_)
  · -- taken at 3
    refine g_iconst hF (v := 0) d_X3_deeper_10 (by decide) ?_
    refine g_istore_n hF [(2, .int 0), (0, .ref (r 3)), (1, .int a1)] d_X3_deeper_11 rfl hnn (by decide) rfl ?_
    refine g_iload_n hF d_X3_deeper_12 rfl 0 rfl ?_
    refine g_if_eq (xv := 0) hF 23 d_X3_deeper_13 (by decide) (by decide) (fun _ => ?_) (fun c_13 => absurd c_13 (by decide))
    refine g_aload_n hF d_X3_deeper_23 rfl 1 rfl ?_
    refine g_callV (As := []) (rest := []) hF (c_X3_fail a g r σ0 hgp i0) (Nat.le_of_ble_eq_true rfl) mV_X3_fail m_907 (recv_ob obC_3) rfl rfl (Nat.le_of_ble_eq_true rfl) d_X3_deeper_24 (k_v (fun σ2 ⟨⟨hgp2, hgm2⟩, hs2, iσ2, ik2⟩ => ?_)) (fun _ _ _ h => h.elim)
    have hs2 : 0 ≤ (σ2 3 3).toInt := hs2
    have hmo2 : Mo σ2 σ0 := fun h9 => mo_e (show σ0 3 3 = σ0 3 3 from rfl) (hgm2 h9)
    have kp : Keep [(3, 1), (3, 2), (3, 3)] [] σ0 σ2 := keep_c kp ik2 (by decide) (by decide)
    refine g_iload_n hF d_X3_deeper_27 rfl 0 rfl ?_
    exact g_zret hF rfl (k_nz (Or.inl rfl)) d_X3_deeper_28 ⟨rfl, rfl, (0 : Int32), rfl, (Or.inl rfl), (fun h9 => absurd rfl h9), ⟨⟨hgp2, (fun h9 => (hmo2 (mo_e (show σ2 3 3 = σ2 3 3 from rfl) h9)))⟩, iσ2, kp⟩⟩
  · -- not taken at 3
    refine g_iconst hF (v := 1) d_X3_deeper_6 (by decide) ?_
    refine g_goto hF 11 d_X3_deeper_7 (by decide) ?_
    refine g_istore_n hF [(2, .int 1), (0, .ref (r 3)), (1, .int a1)] d_X3_deeper_11 rfl hnn (by decide) rfl ?_
    refine g_iload_n hF d_X3_deeper_12 rfl 0 rfl ?_
    refine g_if_eq (xv := 1) hF 23 d_X3_deeper_13 (by decide) (by decide) (fun c_13 => absurd c_13 (by decide)) (fun _ => ?_)
    refine g_aload_n hF d_X3_deeper_16 rfl 1 rfl ?_
    refine g_callV (As := []) (rest := []) hF (c_X3_advance a g r σ0 hgp.2.2 (by show -1 ≤ (σ0 3 1).toInt ∧ (σ0 3 1).toInt ≤ 16001; have hki := hgp.2.1.1; have hgz := hgp.1; have e0 := s_rng (σ0 3 1); omega) i0) (Nat.le_of_ble_eq_true rfl) mV_X3_advance m_899 (recv_ob obC_3) rfl rfl (Nat.le_of_ble_eq_true rfl) d_X3_deeper_17 (k_v (fun σ3 ⟨⟨hgp3, hgm3⟩, hs3, iσ3, ik3⟩ => ?_)) (fun _ _ _ h => h.elim)
    have hs3 : (σ3 3 1).toInt = (σ0 3 1).toInt + 1 := hs3
    have hmo3 : Mo σ3 σ0 := fun h9 => mo_e (show σ0 3 3 = σ0 3 3 from rfl) (hgm3 h9)
    have kp : Keep [(3, 1), (3, 2), (3, 3)] [] σ0 σ3 := keep_c kp ik3 (by decide) (by decide)
    refine g_goto hF 27 d_X3_deeper_20 (by decide) ?_
    refine g_iload_n hF d_X3_deeper_27 rfl 0 rfl ?_
    exact g_zret hF rfl (k_nz (Or.inr rfl)) d_X3_deeper_28 ⟨rfl, rfl, (1 : Int32), rfl, (Or.inr rfl), (fun _ => by have e0 := s_rng a1; have e1 : (25 : Int32).toInt = 25 := (by decide); omega), ⟨⟨hgp3, (fun h9 => (mo_e (show σ3 3 3 = σ0 3 3 from (ik3 3 3 rfl rfl rfl)) h9))⟩, iσ3, kp⟩⟩
set_option maxHeartbeats 4000000 in
set_option maxRecDepth 100000 in
theorem c_X3_accept (a : Nat → Nat) (g : Nat → Nat → Int32) (r : Nat → Nat) (σ0 : St) (a1 : Int32) (hgp : GPS σ0) (hpre : ¬ (a1.toInt = 0 ∨ a1.toInt = -1)) (i0 : Inv σ0) (l : Launch) (D : va_G) (cy : Nat → ClassId) : Ct l D cy SC r (EC a g) y_X3_accept (Cond.code y_X3_accept b_X3_accept 3 (some .boolean)) 1 [.ref (r 3), .int a1] σ0 Z0 [] (QI (fun v9 σ9 => (v9 = 0 ∨ v9 = 1) ∧ ((GPS σ9 ∧ Mo σ9 σ0) ∧ (Inv σ9 ∧ Keep [(3, 1), (3, 2)] [] σ0 σ9)))) QF := by
  refine Ct_of (EC_ok a g) (by decide) (Nat.le_of_ble_eq_true rfl) (by decide) (fun X hnn hF => ?_)
  show G SC r X σ0 Z0 [] [(0, .ref (r 3)), (1, .int a1)] [] 0
  have kp : Keep [(3, 1), (3, 2)] [] σ0 σ0 := keep_rf
  refine g_aload_n hF d_X3_accept_0 rfl 0 rfl ?_
  refine g_get (v := .int (σ0 3 2)) hF 2 obC_3 (by decide) m_96 rfl d_X3_accept_1 ?_
  refine g_iload_n hF d_X3_accept_4 rfl 1 rfl ?_
  refine g_icmp_ne hF 12 d_X3_accept_5 (by decide) rfl rfl (fun c1_5 => ?_) (fun c1_5 => ?_)
  · -- taken at 5
    refine g_iconst hF (v := 0) d_X3_accept_12 (by decide) ?_
    refine g_istore_n hF [(2, .int 0), (0, .ref (r 3)), (1, .int a1)] d_X3_accept_13 rfl hnn (by decide) rfl ?_
    refine g_iload_n hF d_X3_accept_14 rfl 0 rfl ?_
    refine g_if_eq (xv := 0) hF 22 d_X3_accept_15 (by decide) (by decide) (fun _ => ?_) (fun c_15 => absurd c_15 (by decide))
    refine g_iload_n hF d_X3_accept_22 rfl 0 rfl ?_
    exact g_zret hF rfl (k_nz (Or.inl rfl)) d_X3_accept_23 ⟨rfl, rfl, (0 : Int32), rfl, (Or.inl rfl), ⟨⟨hgp, (fun h9 => (mo_e (show σ0 3 3 = σ0 3 3 from rfl) h9))⟩, i0, kp⟩⟩
  · -- not taken at 5
    refine g_iconst hF (v := 1) d_X3_accept_8 (by decide) ?_
    refine g_goto hF 13 d_X3_accept_9 (by decide) ?_
    refine g_istore_n hF [(2, .int 1), (0, .ref (r 3)), (1, .int a1)] d_X3_accept_13 rfl hnn (by decide) rfl ?_
    refine g_iload_n hF d_X3_accept_14 rfl 0 rfl ?_
    refine g_if_eq (xv := 1) hF 22 d_X3_accept_15 (by decide) (by decide) (fun c_15 => absurd c_15 (by decide)) (fun _ => ?_)
    refine g_aload_n hF d_X3_accept_18 rfl 1 rfl ?_
    refine g_callV (As := []) (rest := []) hF (c_X3_advance a g r σ0 hgp.2.2 (by show -1 ≤ (σ0 3 1).toInt ∧ (σ0 3 1).toInt ≤ 16001; have hki := hgp.2.1.1; have hgz := hgp.1; have e0 := s_rng (σ0 3 1); omega) i0) (Nat.le_of_ble_eq_true rfl) mV_X3_advance m_899 (recv_ob obC_3) rfl rfl (Nat.le_of_ble_eq_true rfl) d_X3_accept_19 (k_v (fun σ2 ⟨⟨hgp2, hgm2⟩, hs2, iσ2, ik2⟩ => ?_)) (fun _ _ _ h => h.elim)
    have hs2 : (σ2 3 1).toInt = (σ0 3 1).toInt + 1 := hs2
    have hmo2 : Mo σ2 σ0 := fun h9 => mo_e (show σ0 3 3 = σ0 3 3 from rfl) (hgm2 h9)
    have kp : Keep [(3, 1), (3, 2)] [] σ0 σ2 := keep_c kp ik2 (by decide) (by decide)
    refine g_iload_n hF d_X3_accept_22 rfl 0 rfl ?_
    exact g_zret hF rfl (k_nz (Or.inr rfl)) d_X3_accept_23 ⟨rfl, rfl, (1 : Int32), rfl, (Or.inr rfl), ⟨⟨hgp2, (fun h9 => (mo_e (show σ2 3 3 = σ0 3 3 from (ik2 3 3 rfl rfl rfl)) h9))⟩, iσ2, kp⟩⟩
set_option maxHeartbeats 4000000 in
set_option maxRecDepth 100000 in
theorem c_X3_levelOf (a : Nat → Nat) (g : Nat → Nat → Int32) (r : Nat → Nat) (σ0 : St) (a0 : Int32) (i0 : Inv σ0) (l : Launch) (D : va_G) (cy : Nat → ClassId) : Ct l D cy SC r (EC a g) y_X3_levelOf (Cond.code y_X3_levelOf b_X3_levelOf 2 (some .int)) 0 [.int a0] σ0 Z0 [] (QI (fun v9 σ9 => (((0 : Int) < v9.toInt → 1 ≤ a0.toInt) ∧ σ9 = σ0))) QF := by
  refine Ct_of (EC_ok a g) (by decide) (Nat.le_of_ble_eq_true rfl) (by decide) (fun X hnn hF => ?_)
  show G SC r X σ0 Z0 [] [(0, .int a0)] [] 0
  refine g_iload_n hF d_X3_levelOf_0 rfl 0 rfl ?_
  refine g_bipush hF (v := 41) d_X3_levelOf_1 (by decide) ?_
  refine g_isub hF d_X3_levelOf_3 ?_
  refine g_istore_n hF [(1, .int (a0 - 41)), (0, .int a0)] d_X3_levelOf_4 rfl hnn (by decide) rfl ?_
  refine g_iload_n hF d_X3_levelOf_5 rfl 0 rfl ?_
  refine g_if_lt hF 25 d_X3_levelOf_6 (by decide) rfl (fun c1_6 => ?_) (fun c1_6 => ?_)
  · -- taken at 6
    refine g_iconst hF (v := 0) d_X3_levelOf_25 (by decide) ?_
    exact g_iret hF rfl d_X3_levelOf_26 ⟨rfl, rfl, (0 : Int32), rfl, ⟨(by show (0 : Int) < 0 → 1 ≤ a0.toInt; have e0 : (0 : Int32).toInt = 0 := (by decide); have e1 := s_rng a0; have e2 : (41 : Int32).toInt = 41 := (by decide); obtain ⟨k3, e3⟩ := s_sub a0 (41 : Int32); have e3a := s_rng (a0 - 41); omega), rfl⟩⟩
  · -- not taken at 6
    refine g_iload_n hF d_X3_levelOf_9 rfl 0 rfl ?_
    refine g_gets hF (fun A s h => EC_z0 h) m_973 d_X3_levelOf_10 ?_
    refine g_tlen hF (fun A s h => EC_t0 h) (v := 18) (by decide) d_X3_levelOf_13 ?_
    refine g_icmp_ge (yv := 18) hF 25 d_X3_levelOf_14 (by decide) rfl (by decide) (fun c2_14 => ?_) (fun c2_14 => ?_)
    · -- taken at 14
      refine g_iconst hF (v := 0) d_X3_levelOf_25 (by decide) ?_
      exact g_iret hF rfl d_X3_levelOf_26 ⟨rfl, rfl, (0 : Int32), rfl, ⟨(by show (0 : Int) < 0 → 1 ≤ a0.toInt; have e0 : (0 : Int32).toInt = 0 := (by decide); have e1 := s_rng a0; have e2 : (41 : Int32).toInt = 41 := (by decide); obtain ⟨k3, e3⟩ := s_sub a0 (41 : Int32); have e3a := s_rng (a0 - 41); have e5 : (18 : Int32).toInt = 18 := (by decide); omega), rfl⟩⟩
    · -- not taken at 14
      refine g_gets hF (fun A s h => EC_z0 h) m_973 d_X3_levelOf_17 ?_
      refine g_iload_n hF d_X3_levelOf_20 rfl 0 rfl ?_
      refine g_ti hF (fun A s h => EC_t0 h) (by refine s_in (by decide) ?_ ?_ <;> (have e0 := s_rng a0; have e1 : (41 : Int32).toInt = 41 := (by decide); obtain ⟨k2, e2⟩ := s_sub a0 (41 : Int32); have e2a := s_rng (a0 - 41); have e4 : (0 : Int32).toInt = 0 := (by decide); have e5 : (18 : Int32).toInt = 18 := (by decide); omega)) d_X3_levelOf_21 ?_
      refine g_any (fun v3 => ?_)
      refine g_goto hF 26 d_X3_levelOf_22 (by decide) ?_
      exact g_iret hF rfl d_X3_levelOf_26 ⟨rfl, rfl, v3, rfl, ⟨(by show (0 : Int) < v3.toInt → 1 ≤ a0.toInt; have e0 := s_rng v3; have e1 := s_rng a0; have e2 : (41 : Int32).toInt = 41 := (by decide); obtain ⟨k3, e3⟩ := s_sub a0 (41 : Int32); have e3a := s_rng (a0 - 41); have e5 : (0 : Int32).toInt = 0 := (by decide); have e6 : (18 : Int32).toInt = 18 := (by decide); omega), rfl⟩⟩
set_option maxHeartbeats 4000000 in
set_option maxRecDepth 100000 in
theorem c_X3_settle (a : Nat → Nat) (g : Nat → Nat → Int32) (r : Nat → Nat) (σ0 : St) (a1 : Int32) (a2 : Int32) (hgp : GPS σ0) (i0 : Inv σ0) (l : Launch) (D : va_G) (cy : Nat → ClassId) : Ct l D cy SC r (EC a g) y_X3_settle (Cond.code y_X3_settle b_X3_settle 4 none) 1 [.ref (r 3), .int a1, .int a2] σ0 Z0 [] (QV (fun σ9 => ((GPS σ9 ∧ Mo σ9 σ0) ∧ (Inv σ9 ∧ Keep [(3, 4), (3, 9)] [18, 19, 20, 21] σ0 σ9)))) QF := by
  refine Ct_of (EC_ok a g) (by decide) (Nat.le_of_ble_eq_true rfl) (by decide) (fun X hnn hF => ?_)
  show G SC r X σ0 Z0 [] [(0, .ref (r 3)), (1, .int a1), (2, .int a2)] [] 0
  have b0 : ∀ (N : Nat) (σ : St) (x1 : Int32) (x2 : Int32) , dnm (σ 3 9) = N → Inv σ → Keep [(3, 4), (3, 9)] [18, 19, 20, 21] σ0 σ → GPS σ → Mo σ σ0 → G SC r X σ Z0 [] [(0, .ref (r 3)), (1, .int x1), (2, .int x2)] [] 0 := by
    intro M0
    induction M0 using Nat.strongRecOn with
    | _ M0 ih0 =>
      intro σ x1 x2 N0 inv kp hgp hgm
      refine g_aload_n hF d_X3_settle_0 rfl 0 rfl ?_
      refine g_get (v := .int (σ 3 9)) hF 9 obC_3 (by decide) m_114 rfl d_X3_settle_1 ?_
      refine g_iload_n hF d_X3_settle_4 rfl 1 rfl ?_
      refine g_icmp_le hF 64 d_X3_settle_5 (by decide) rfl rfl (fun c1_5 => ?_) (fun c1_5 => ?_)
      · -- taken at 5
        exact g_vret hF rfl d_X3_settle_64 ⟨rfl, rfl, rfl, ⟨⟨hgp, (fun h9 => (hgm (mo_e (show σ 3 3 = σ 3 3 from rfl) h9)))⟩, inv, kp⟩⟩
      · -- not taken at 5
        refine g_aload_n hF d_X3_settle_8 rfl 0 rfl ?_
        refine g_get (v := .ref (r 22)) hF 10 obC_3 (by decide) m_115 rfl d_X3_settle_9 ?_
        refine g_aload_n hF d_X3_settle_12 rfl 0 rfl ?_
        refine g_get (v := .int (σ 3 9)) hF 9 obC_3 (by decide) m_114 rfl d_X3_settle_13 ?_
        refine g_iconst hF (v := 1) d_X3_settle_16 (by decide) ?_
        refine g_isub hF d_X3_settle_17 ?_
        refine g_callSN (As := [.ref (r 22), .int ((σ 3 9) - 1)]) (rest := []) hF (c_at a g r σ arC_22 (by decide) ((σ 3 9) - 1)) (Nat.le_of_ble_eq_true rfl) mS_X12_at nm_947 rfl rfl (Nat.le_of_ble_eq_true rfl) d_X3_settle_18 (k_rop (fun r2 hr2 => ?_))
        refine g_istore_n hF [(3, .int r2), (0, .ref (r 3)), (1, .int x1), (2, .int x2)] d_X3_settle_21 rfl hnn (by decide) rfl ?_
        refine g_aload_n hF d_X3_settle_22 rfl 1 rfl ?_
        refine g_get (v := .ref (r 2)) hF 0 obC_3 (by decide) m_94 rfl d_X3_settle_23 ?_
        refine g_getN (v := .ref (r 13)) hF 5 obC_2 (by decide) nm_50 rfl d_X3_settle_26 ?_
        refine g_iload_n hF d_X3_settle_29 rfl 0 rfl ?_
        refine g_callSN (As := [.ref (r 13), .int r2]) (rest := []) hF (c_at a g r σ arC_13 (by decide) r2) (Nat.le_of_ble_eq_true rfl) mS_X12_at nm_947 rfl rfl (Nat.le_of_ble_eq_true rfl) d_X3_settle_30 (k_rop (fun r3 hr3 => ?_))
        refine g_callS (As := [.int r3]) (rest := []) hF (c_X3_levelOf a g r σ r3 inv) (Nat.le_of_ble_eq_true rfl) mS_X3_levelOf m_970 rfl rfl (Nat.le_of_ble_eq_true rfl) d_X3_settle_33 (k_rop (fun r4 hp4 => ?_)) (fun _ _ _ h => h.elim)
        have hp4 : (0 : Int) < r4.toInt → 1 ≤ r3.toInt := hp4
        refine g_iload_n hF d_X3_settle_36 rfl 3 rfl ?_
        refine g_icmp_ge hF 41 d_X3_settle_37 (by decide) rfl rfl (fun c5_37 => ?_) (fun c5_37 => ?_)
        · -- taken at 37
          refine g_aload_n hF d_X3_settle_41 rfl 1 rfl ?_
          refine g_bipush hF (v := 8) d_X3_settle_42 (by decide) ?_
          refine g_iload_n hF d_X3_settle_44 rfl 0 rfl ?_
          refine g_iconst hF (v := 0) d_X3_settle_45 (by decide) ?_
          refine g_iconst hF (v := 0) d_X3_settle_46 (by decide) ?_
          refine g_callV (As := [.int 8, .int r2, .int 0, .int 0]) (rest := []) hF (c_X3_add a g r σ (8 : Int32) r2 (0 : Int32) (0 : Int32) (fun h9 => absurd h9 (by decide)) hgp inv) (Nat.le_of_ble_eq_true rfl) mV_X3_add m_923 (recv_ob obC_3) rfl rfl (Nat.le_of_ble_eq_true rfl) d_X3_settle_47 (k_i (fun r6 σ6 ⟨⟨hgp6, hgm6⟩, iσ6, ik6⟩ => ?_)) (fun _ _ _ h => h.elim)
          have hmo6 : Mo σ6 σ := fun h9 => mo_e (show σ 3 3 = σ 3 3 from rfl) (hgm6 h9)
          have kp : Keep [(3, 4), (3, 9)] [18, 19, 20, 21] σ0 σ6 := keep_c kp ik6 (by decide) (by decide)
          refine g_pop hF d_X3_settle_50 rfl ?_
          refine g_aload_n hF d_X3_settle_51 rfl 1 rfl ?_
          refine g_dup hF d_X3_settle_52 rfl ?_
          refine g_get (v := .int (σ6 3 9)) hF 9 obC_3 (by decide) m_114 rfl d_X3_settle_53 ?_
          refine g_top (v := (σ 3 9)) (ik6 3 9 rfl rfl rfl) ?_
          refine g_iconst hF (v := 1) d_X3_settle_56 (by decide) ?_
          refine g_isub hF d_X3_settle_57 ?_
          refine g_put (v := ((σ 3 9) - 1)) hF 9 obC_3 (by decide) m_114 rfl rfl rfl d_X3_settle_58 ?_
          have kp : Keep [(3, 4), (3, 9)] [18, 19, 20, 21] σ0 (upC σ6 3 9 ((σ 3 9) - 1)) := keep_f kp (by decide)
          refine g_goto hF 0 d_X3_settle_61 (by decide) ?_
          have j7 : Inv (upC σ6 3 9 ((σ 3 9) - 1)) := ⟨iσ6.1, iσ6.2.1, iσ6.2.2.1, iσ6.2.2.2.1, iσ6.2.2.2.2.1, iσ6.2.2.2.2.2.1, iσ6.2.2.2.2.2.2.1, iσ6.2.2.2.2.2.2.2.1, iσ6.2.2.2.2.2.2.2.2.1, iσ6.2.2.2.2.2.2.2.2.2.1, iσ6.2.2.2.2.2.2.2.2.2.2.1, iσ6.2.2.2.2.2.2.2.2.2.2.2.1, iσ6.2.2.2.2.2.2.2.2.2.2.2.2.1, iσ6.2.2.2.2.2.2.2.2.2.2.2.2.2.1, iσ6.2.2.2.2.2.2.2.2.2.2.2.2.2.2.1, iσ6.2.2.2.2.2.2.2.2.2.2.2.2.2.2.2.1, iσ6.2.2.2.2.2.2.2.2.2.2.2.2.2.2.2.2.1, iσ6.2.2.2.2.2.2.2.2.2.2.2.2.2.2.2.2.2.1, iσ6.2.2.2.2.2.2.2.2.2.2.2.2.2.2.2.2.2.2.1, iσ6.2.2.2.2.2.2.2.2.2.2.2.2.2.2.2.2.2.2.2⟩
          exact g_sub (L' := [(0, .ref (r 3)), (1, .int x1), (2, .int x2)]) [1, 2, 3] rfl (ih0 _ (by show dnm ((σ 3 9) - 1) < _; have hN := N0; unfold dnm at hN ⊢; have e0 := s_rng (σ 3 9); have e1 : (1 : Int32).toInt = 1 := (by decide); obtain ⟨k2, e2⟩ := s_sub (σ 3 9) (1 : Int32); have e2a := s_rng ((σ 3 9) - 1); have e4 := s_rng x1; omega) (upC σ6 3 9 ((σ 3 9) - 1)) x1 x2 rfl j7 kp hgp6 (fun h9 => (hgm (mo_e (show (upC σ6 3 9 ((σ 3 9) - 1)) 3 3 = σ 3 3 from (ik6 3 3 rfl rfl rfl)) h9))))
        · -- not taken at 37
          exact g_vret hF rfl d_X3_settle_40 ⟨rfl, rfl, rfl, ⟨⟨hgp, (fun h9 => (hgm (mo_e (show σ 3 3 = σ 3 3 from rfl) h9)))⟩, inv, kp⟩⟩
  have kp : Keep [(3, 4), (3, 9)] [18, 19, 20, 21] σ0 σ0 := keep_rf
  exact b0 _ σ0 a1 a2 rfl i0 kp hgp (fun h9 => (mo_e (show σ0 3 3 = σ0 3 3 from rfl) h9))
set_option maxHeartbeats 4000000 in
set_option maxRecDepth 100000 in
theorem c_X8_parameters (a : Nat → Nat) (g : Nat → Nat → Int32) (r : Nat → Nat) (σ0 : St) (a0 : Int32) (i0 : Inv σ0) (l : Launch) (D : va_G) (cy : Nat → ClassId) : Ct l D cy SC r (EC a g) y_X8_parameters (Cond.code y_X8_parameters b_X8_parameters 1 (some .int)) 0 [.int a0] σ0 Z0 [] (QI (fun _ σ9 => σ9 = σ0)) QF := by
  refine Ct_of (EC_ok a g) (by decide) (Nat.le_of_ble_eq_true rfl) (by decide) (fun X hnn hF => ?_)
  show G SC r X σ0 Z0 [] [(0, .int a0)] [] 0
  refine g_iload_n hF d_X8_parameters_0 rfl 0 rfl ?_
  refine g_bipush hF (v := 24) d_X8_parameters_1 (by decide) ?_
  refine g_iushr hF d_X8_parameters_3 ?_
  refine g_any (fun v1 => ?_)
  exact g_iret hF rfl d_X8_parameters_4 ⟨rfl, rfl, v1, rfl, rfl⟩
set_option maxHeartbeats 4000000 in
set_option maxRecDepth 100000 in
theorem c_X8_parameter (a : Nat → Nat) (g : Nat → Nat → Int32) (r : Nat → Nat) (σ0 : St) (a0 : Int32) (a1 : Int32) (i0 : Inv σ0) (l : Launch) (D : va_G) (cy : Nat → ClassId) : Ct l D cy SC r (EC a g) y_X8_parameter (Cond.code y_X8_parameter b_X8_parameter 2 (some .int)) 0 [.int a0, .int a1] σ0 Z0 [] (QI (fun _ σ9 => σ9 = σ0)) QF := by
  refine Ct_of (EC_ok a g) (by decide) (Nat.le_of_ble_eq_true rfl) (by decide) (fun X hnn hF => ?_)
  show G SC r X σ0 Z0 [] [(0, .int a0), (1, .int a1)] [] 0
  refine g_iload_n hF d_X8_parameter_0 rfl 0 rfl ?_
  refine g_iconst hF (v := 3) d_X8_parameter_1 (by decide) ?_
  refine g_iload_n hF d_X8_parameter_2 rfl 1 rfl ?_
  refine g_imul hF d_X8_parameter_3 ?_
  refine g_any (fun v1 => ?_)
  refine g_iushr hF d_X8_parameter_4 ?_
  refine g_any (fun v2 => ?_)
  refine g_bipush hF (v := 7) d_X8_parameter_5 (by decide) ?_
  refine g_iand hF d_X8_parameter_7 ?_
  refine g_any (fun v3 => ?_)
  exact g_iret hF rfl d_X8_parameter_8 ⟨rfl, rfl, v3, rfl, rfl⟩
set_option maxHeartbeats 4000000 in
set_option maxRecDepth 100000 in
theorem c_X11_leave (a : Nat → Nat) (g : Nat → Nat → Int32) (r : Nat → Nat) (σ0 : St) (i0 : Inv σ0) (l : Launch) (D : va_G) (cy : Nat → ClassId) : Ct l D cy SC r (EC a g) y_X11_leave (Cond.code y_X11_leave b_X11_leave 1 none) 0 [.ref (r 6)] σ0 Z0 [] (QV (fun σ9 => (((σ9 6 17).toInt = 0 ∧ (σ9 6 10).toInt = 0) ∧ Inv σ9 ∧ Keep [(6, 6), (6, 10), (6, 15), (6, 17)] [] σ0 σ9))) QF := by
  refine Ct_of (EC_ok a g) (by decide) (Nat.le_of_ble_eq_true rfl) (by decide) (fun X hnn hF => ?_)
  show G SC r X σ0 Z0 [] [(0, .ref (r 6))] [] 0
  have kp : Keep [(6, 6), (6, 10), (6, 15), (6, 17)] [] σ0 σ0 := keep_rf
  refine g_aload_n hF d_X11_leave_0 rfl 0 rfl ?_
  refine g_iconst hF (v := (-1)) d_X11_leave_1 (by decide) ?_
  refine g_put (v := (-1)) hF 6 obC_6 (by decide) m_324 rfl rfl rfl d_X11_leave_2 ?_
  have kp : Keep [(6, 6), (6, 10), (6, 15), (6, 17)] [] σ0 (upC σ0 6 6 (-1)) := keep_f kp (by decide)
  refine g_aload_n hF d_X11_leave_5 rfl 0 rfl ?_
  refine g_iconst hF (v := 0) d_X11_leave_6 (by decide) ?_
  refine g_put (v := 0) hF 10 obC_6 (by decide) m_331 rfl rfl rfl d_X11_leave_7 ?_
  have kp : Keep [(6, 6), (6, 10), (6, 15), (6, 17)] [] σ0 (upC (upC σ0 6 6 (-1)) 6 10 0) := keep_f kp (by decide)
  have p1 : 0 ≤ (0 : Int32).toInt ∧ (0 : Int32).toInt ≤ 100000 := (by have e0 : (0 : Int32).toInt = 0 := (by decide); omega)
  refine g_aload_n hF d_X11_leave_10 rfl 0 rfl ?_
  refine g_iconst hF (v := 0) d_X11_leave_11 (by decide) ?_
  refine g_put (v := 0) hF 15 obC_6 (by decide) m_342 rfl rfl rfl d_X11_leave_12 ?_
  have kp : Keep [(6, 6), (6, 10), (6, 15), (6, 17)] [] σ0 (upC (upC (upC σ0 6 6 (-1)) 6 10 0) 6 15 0) := keep_f kp (by decide)
  have p2 : 0 ≤ (0 : Int32).toInt ∧ (0 : Int32).toInt ≤ 100000 := (by have e0 : (0 : Int32).toInt = 0 := (by decide); omega)
  refine g_aload_n hF d_X11_leave_15 rfl 0 rfl ?_
  refine g_iconst hF (v := 0) d_X11_leave_16 (by decide) ?_
  refine g_put (v := 0) hF 17 obC_6 (by decide) m_344 rfl rfl rfl d_X11_leave_17 ?_
  have kp : Keep [(6, 6), (6, 10), (6, 15), (6, 17)] [] σ0 (upC (upC (upC (upC σ0 6 6 (-1)) 6 10 0) 6 15 0) 6 17 0) := keep_f kp (by decide)
  have j3 : Inv (upC (upC (upC (upC σ0 6 6 (-1)) 6 10 0) 6 15 0) 6 17 0) := ⟨i0.1, i0.2.1, i0.2.2.1, i0.2.2.2.1, i0.2.2.2.2.1, p1, p2, i0.2.2.2.2.2.2.2.1, i0.2.2.2.2.2.2.2.2.1, i0.2.2.2.2.2.2.2.2.2.1, i0.2.2.2.2.2.2.2.2.2.2.1, i0.2.2.2.2.2.2.2.2.2.2.2.1, i0.2.2.2.2.2.2.2.2.2.2.2.2.1, i0.2.2.2.2.2.2.2.2.2.2.2.2.2.1, i0.2.2.2.2.2.2.2.2.2.2.2.2.2.2.1, i0.2.2.2.2.2.2.2.2.2.2.2.2.2.2.2.1, i0.2.2.2.2.2.2.2.2.2.2.2.2.2.2.2.2.1, i0.2.2.2.2.2.2.2.2.2.2.2.2.2.2.2.2.2.1, ⟨(by show 0 ≤ 0; have hb1 : (σ0 6 15).toInt ≤ (σ0 6 10).toInt := i0.2.2.2.2.2.2.2.2.2.2.2.2.2.2.2.2.2.2.1.1; have e0 : (0 : Int32).toInt = 0 := (by decide); have e1 := s_rng (σ0 6 10); have e2 := i0.2.2.2.2.2.1; have e3 := s_rng (σ0 6 15); have e4 := i0.2.2.2.2.2.2.1; have e5 := i0.2.2.2.2.2.2.2.2.2.2.2.2.2.2.2.2.2.2.1.1; have e6 := s_rng (σ0 6 17); omega), (fun z hz1 hz2 => by have hz2 : (z : Int) < 0 := hz2; have hb1 : (σ0 6 15).toInt ≤ (σ0 6 10).toInt := i0.2.2.2.2.2.2.2.2.2.2.2.2.2.2.2.2.2.2.1.1; have hb2 : (z : Int) < (σ0 6 17).toInt → (σ0 45 z).toInt ≤ (σ0 6 10).toInt := i0.2.2.2.2.2.2.2.2.2.2.2.2.2.2.2.2.2.2.1.2 z hz1; have e0 : (0 : Int32).toInt = 0 := (by decide); have e1 := s_rng (σ0 6 10); have e2 := i0.2.2.2.2.2.1; have e3 := s_rng (σ0 6 15); have e4 := i0.2.2.2.2.2.2.1; have e5 := i0.2.2.2.2.2.2.2.2.2.2.2.2.2.2.2.2.2.2.1.1; have e6 := s_rng (σ0 6 17); show (σ0 45 z).toInt ≤ 0; omega)⟩, i0.2.2.2.2.2.2.2.2.2.2.2.2.2.2.2.2.2.2.2⟩
  exact g_vret hF rfl d_X11_leave_20 ⟨rfl, rfl, rfl, ⟨(by show 0 = 0 ∧ 0 = 0; have e0 : (0 : Int32).toInt = 0 := (by decide); have e1 := s_rng (σ0 6 17); have e2 := s_rng (σ0 6 10); have e3 := i0.2.2.2.2.2.1; omega), j3, kp⟩⟩
set_option maxHeartbeats 4000000 in
set_option maxRecDepth 100000 in
theorem c_X1_begin (a : Nat → Nat) (g : Nat → Nat → Int32) (r : Nat → Nat) (σ0 : St) (i0 : Inv σ0) (l : Launch) (D : va_G) (cy : Nat → ClassId) : Ct l D cy SC r (EC a g) y_X1_begin (Cond.code y_X1_begin b_X1_begin 1 none) 0 [.ref (r 8)] σ0 Z0 [] (QV (fun σ9 => (Inv σ9 ∧ Keep [(8, 6), (8, 8)] [] σ0 σ9))) QF := by
  refine Ct_of (EC_ok a g) (by decide) (Nat.le_of_ble_eq_true rfl) (by decide) (fun X hnn hF => ?_)
  show G SC r X σ0 Z0 [] [(0, .ref (r 8))] [] 0
  have kp : Keep [(8, 6), (8, 8)] [] σ0 σ0 := keep_rf
  refine g_aload_n hF d_X1_begin_0 rfl 0 rfl ?_
  refine g_iconst hF (v := (-1)) d_X1_begin_1 (by decide) ?_
  refine g_put (v := (-1)) hF 6 obC_8 (by decide) m_497 rfl rfl rfl d_X1_begin_2 ?_
  have kp : Keep [(8, 6), (8, 8)] [] σ0 (upC σ0 8 6 (-1)) := keep_f kp (by decide)
  refine g_aload_n hF d_X1_begin_5 rfl 0 rfl ?_
  refine g_iconst hF (v := 0) d_X1_begin_6 (by decide) ?_
  refine g_put (v := 0) hF 8 obC_8 (by decide) m_499 rfl rfl rfl d_X1_begin_7 ?_
  have kp : Keep [(8, 6), (8, 8)] [] σ0 (upC (upC σ0 8 6 (-1)) 8 8 0) := keep_f kp (by decide)
  have j1 : Inv (upC (upC σ0 8 6 (-1)) 8 8 0) := ⟨i0.1, i0.2.1, i0.2.2.1, i0.2.2.2.1, i0.2.2.2.2.1, i0.2.2.2.2.2.1, i0.2.2.2.2.2.2.1, i0.2.2.2.2.2.2.2.1, i0.2.2.2.2.2.2.2.2.1, i0.2.2.2.2.2.2.2.2.2.1, i0.2.2.2.2.2.2.2.2.2.2.1, i0.2.2.2.2.2.2.2.2.2.2.2.1, i0.2.2.2.2.2.2.2.2.2.2.2.2.1, i0.2.2.2.2.2.2.2.2.2.2.2.2.2.1, i0.2.2.2.2.2.2.2.2.2.2.2.2.2.2.1, i0.2.2.2.2.2.2.2.2.2.2.2.2.2.2.2.1, i0.2.2.2.2.2.2.2.2.2.2.2.2.2.2.2.2.1, i0.2.2.2.2.2.2.2.2.2.2.2.2.2.2.2.2.2.1, i0.2.2.2.2.2.2.2.2.2.2.2.2.2.2.2.2.2.2.1, i0.2.2.2.2.2.2.2.2.2.2.2.2.2.2.2.2.2.2.2⟩
  exact g_vret hF rfl d_X1_begin_10 ⟨rfl, rfl, rfl, ⟨j1, kp⟩⟩
