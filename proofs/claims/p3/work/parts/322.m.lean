set_option maxHeartbeats 4000000 in
set_option maxRecDepth 100000 in
theorem c_X8_declare_r5_r1 (a : Nat → Nat) (g : Nat → Nat → Int32) (r : Nat → Nat) (σ0 : St) (a2 : Int32) (a3 : Int32) (hpre : 0 ≤ a2.toInt ∧ a2.toInt ≤ 40000 ∧ 0 ≤ a3.toInt ∧ a3.toInt ≤ 16001) (i0 : Inv σ0) (l : Launch) (D : va_G) (cy : Nat → ClassId) : Ct l D cy SC r (EC a g) y_X8_declare (Cond.code y_X8_declare b_X8_declare 5 (some .int)) 2 [.ref (r 5), .ref (r 1), .int a2, .int a3] σ0 Z0 [] (QI (fun _ σ9 => (Inv σ9 ∧ Keep [(5, 1), (5, 7)] [25, 28, 29, 30] σ0 σ9))) QF := by
  refine Ct_of (EC_ok a g) (by decide) (Nat.le_of_ble_eq_true rfl) (by decide) (fun X hnn hF => ?_)
  show G SC r X σ0 Z0 [] [(0, .ref (r 5)), (1, .ref (r 1)), (2, .int a2), (3, .int a3)] [] 0
  have kp : Keep [(5, 1), (5, 7)] [25, 28, 29, 30] σ0 σ0 := keep_rf
  refine g_aload_n hF d_X8_declare_0 rfl 0 rfl ?_
  refine g_get (v := .int (σ0 5 1)) hF 1 obC_5 (by decide) m_222 rfl d_X8_declare_1 ?_
  refine g_istore hF [(4, .int (σ0 5 1)), (0, .ref (r 5)), (1, .ref (r 1)), (2, .int a2), (3, .int a3)] d_X8_declare_4 hnn (by decide) rfl ?_
  refine g_iload hF d_X8_declare_6 0 rfl ?_
  refine g_aload_n hF d_X8_declare_8 rfl 1 rfl ?_
  refine g_get (v := .ref (r 29)) hF 6 obC_5 (by decide) m_237 rfl d_X8_declare_9 ?_
  refine g_alen hF arC_29 (fun _ => ⟨1, _, rfl⟩) (v := 10100) (by decide) d_X8_declare_12 ?_
  refine g_icmp_ge (yv := 10100) hF 46 d_X8_declare_13 (by decide) rfl (by decide) (fun c1_13 => ?_) (fun c1_13 => ?_)
  · -- taken at 13
    refine g_iconst hF (v := (-1)) d_X8_declare_46 (by decide) ?_
    exact g_iret hF rfl d_X8_declare_47 ⟨rfl, rfl, ((-1) : Int32), rfl, ⟨i0, kp⟩⟩
  · -- not taken at 13
    refine g_iload_n hF d_X8_declare_16 rfl 3 rfl ?_
    refine g_if_lt hF 46 d_X8_declare_17 (by decide) rfl (fun c2_17 => ?_) (fun c2_17 => ?_)
    · -- taken at 17
      refine g_iconst hF (v := (-1)) d_X8_declare_46 (by decide) ?_
      exact g_iret hF rfl d_X8_declare_47 ⟨rfl, rfl, ((-1) : Int32), rfl, ⟨i0, kp⟩⟩
    · -- not taken at 17
      refine g_iload_n hF d_X8_declare_20 rfl 4 rfl ?_
      refine g_if_lt hF 46 d_X8_declare_21 (by decide) rfl (fun c3_21 => ?_) (fun c3_21 => ?_)
      · -- taken at 21
        refine g_iconst hF (v := (-1)) d_X8_declare_46 (by decide) ?_
        exact g_iret hF rfl d_X8_declare_47 ⟨rfl, rfl, ((-1) : Int32), rfl, ⟨i0, kp⟩⟩
      · -- not taken at 21
        refine g_iload_n hF d_X8_declare_24 rfl 3 rfl ?_
        refine g_iload_n hF d_X8_declare_25 rfl 4 rfl ?_
        refine g_iadd hF d_X8_declare_26 ?_
        refine g_aload_n hF d_X8_declare_27 rfl 2 rfl ?_
        refine g_alen hF arC_1 (fun _ => ⟨0, _, rfl⟩) (v := 16000) (by decide) d_X8_declare_28 ?_
        refine g_icmp_gt (yv := 16000) hF 46 d_X8_declare_29 (by decide) rfl (by decide) (fun c4_29 => ?_) (fun c4_29 => ?_)
        · -- taken at 29
          refine g_iconst hF (v := (-1)) d_X8_declare_46 (by decide) ?_
          exact g_iret hF rfl d_X8_declare_47 ⟨rfl, rfl, ((-1) : Int32), rfl, ⟨i0, kp⟩⟩
        · -- not taken at 29
          refine g_aload_n hF d_X8_declare_32 rfl 1 rfl ?_
          refine g_get (v := .int (σ0 5 7)) hF 7 obC_5 (by decide) m_239 rfl d_X8_declare_33 ?_
          refine g_iload_n hF d_X8_declare_36 rfl 4 rfl ?_
          refine g_iadd hF d_X8_declare_37 ?_
          refine g_aload_n hF d_X8_declare_38 rfl 1 rfl ?_
          refine g_get (v := .ref (r 30)) hF 8 obC_5 (by decide) m_240 rfl d_X8_declare_39 ?_
          refine g_alen hF arC_30 (fun _ => ⟨0, _, rfl⟩) (v := 65600) (by decide) d_X8_declare_42 ?_
          refine g_icmp_le (yv := 65600) hF 48 d_X8_declare_43 (by decide) rfl (by decide) (fun c5_43 => ?_) (fun c5_43 => ?_)
          · -- taken at 43
            refine g_aload_n hF d_X8_declare_48 rfl 2 rfl ?_
            refine g_iload_n hF d_X8_declare_49 rfl 3 rfl ?_
            refine g_aload_n hF d_X8_declare_50 rfl 1 rfl ?_
            refine g_get (v := .ref (r 30)) hF 8 obC_5 (by decide) m_240 rfl d_X8_declare_51 ?_
            refine g_aload_n hF d_X8_declare_54 rfl 1 rfl ?_
            refine g_get (v := .int (σ0 5 7)) hF 7 obC_5 (by decide) m_239 rfl d_X8_declare_55 ?_
            refine g_iload_n hF d_X8_declare_58 rfl 4 rfl ?_
            refine g_copyb hF (Nat.le_of_ble_eq_true rfl) m_1406 m_1407 m_1408 m_24 arC_1 arC_30 (by have e0 := s_rng a2; have e1 : (0 : Int32).toInt = 0 := (by decide); have e2 := s_rng a3; obtain ⟨k3, e3⟩ := s_add a2 a3; have e3a := s_rng (a2 + a3); have e5 : (16000 : Int32).toInt = 16000 := (by decide); have e6 := s_rng (σ0 5 7); have e7 := i0.2.2.2.1; obtain ⟨k8, e8⟩ := s_add (σ0 5 7) a3; have e8a := s_rng ((σ0 5 7) + a3); have e10 : (65600 : Int32).toInt = 65600 := (by decide); omega) (by have e0 := s_rng (σ0 5 7); have e1 := i0.2.2.2.1; have e2 := s_rng a3; obtain ⟨k3, e3⟩ := s_add (σ0 5 7) a3; have e3a := s_rng ((σ0 5 7) + a3); have e5 : (65600 : Int32).toInt = 65600 := (by decide); have e6 : (0 : Int32).toInt = 0 := (by decide); have e7 := s_rng a2; obtain ⟨k8, e8⟩ := s_add a2 a3; have e8a := s_rng (a2 + a3); have e10 : (16000 : Int32).toInt = 16000 := (by decide); omega) (by have e0 := s_rng a3; have e1 : (0 : Int32).toInt = 0 := (by decide); have e2 := s_rng a2; obtain ⟨k3, e3⟩ := s_add a2 a3; have e3a := s_rng (a2 + a3); have e5 : (16000 : Int32).toInt = 16000 := (by decide); have e6 := s_rng (σ0 5 7); have e7 := i0.2.2.2.1; obtain ⟨k8, e8⟩ := s_add (σ0 5 7) a3; have e8a := s_rng ((σ0 5 7) + a3); have e10 : (65600 : Int32).toInt = 65600 := (by decide); omega) (copy_le (by have e0 := s_rng a2; have e1 : (0 : Int32).toInt = 0 := (by decide); have e2 := s_rng a3; obtain ⟨k3, e3⟩ := s_add a2 a3; have e3a := s_rng (a2 + a3); have e5 : (16000 : Int32).toInt = 16000 := (by decide); have e6 := s_rng (σ0 5 7); have e7 := i0.2.2.2.1; obtain ⟨k8, e8⟩ := s_add (σ0 5 7) a3; have e8a := s_rng ((σ0 5 7) + a3); have e10 : (65600 : Int32).toInt = 65600 := (by decide); omega) (by have e0 := s_rng a3; have e1 : (0 : Int32).toInt = 0 := (by decide); have e2 := s_rng a2; obtain ⟨k3, e3⟩ := s_add a2 a3; have e3a := s_rng (a2 + a3); have e5 : (16000 : Int32).toInt = 16000 := (by decide); have e6 := s_rng (σ0 5 7); have e7 := i0.2.2.2.1; obtain ⟨k8, e8⟩ := s_add (σ0 5 7) a3; have e8a := s_rng ((σ0 5 7) + a3); have e10 : (65600 : Int32).toInt = 65600 := (by decide); omega) (by have e0 := s_rng a2; have e1 := s_rng a3; have e2 : (0 : Int32).toInt = 0 := (by decide); obtain ⟨k3, e3⟩ := s_add a2 a3; have e3a := s_rng (a2 + a3); have e5 : (16000 : Int32).toInt = 16000 := (by decide); have e6 := s_rng (σ0 5 7); have e7 := i0.2.2.2.1; obtain ⟨k8, e8⟩ := s_add (σ0 5 7) a3; have e8a := s_rng ((σ0 5 7) + a3); have e10 : (65600 : Int32).toInt = 65600 := (by decide); omega)) (copy_le (by have e0 := s_rng (σ0 5 7); have e1 := i0.2.2.2.1; have e2 := s_rng a3; obtain ⟨k3, e3⟩ := s_add (σ0 5 7) a3; have e3a := s_rng ((σ0 5 7) + a3); have e5 : (65600 : Int32).toInt = 65600 := (by decide); have e6 : (0 : Int32).toInt = 0 := (by decide); have e7 := s_rng a2; obtain ⟨k8, e8⟩ := s_add a2 a3; have e8a := s_rng (a2 + a3); have e10 : (16000 : Int32).toInt = 16000 := (by decide); omega) (by have e0 := s_rng a3; have e1 : (0 : Int32).toInt = 0 := (by decide); have e2 := s_rng a2; obtain ⟨k3, e3⟩ := s_add a2 a3; have e3a := s_rng (a2 + a3); have e5 : (16000 : Int32).toInt = 16000 := (by decide); have e6 := s_rng (σ0 5 7); have e7 := i0.2.2.2.1; obtain ⟨k8, e8⟩ := s_add (σ0 5 7) a3; have e8a := s_rng ((σ0 5 7) + a3); have e10 : (65600 : Int32).toInt = 65600 := (by decide); omega) (by have e0 := s_rng (σ0 5 7); have e1 := i0.2.2.2.1; have e2 := s_rng a3; have e3 : (0 : Int32).toInt = 0 := (by decide); have e4 := s_rng a2; obtain ⟨k5, e5⟩ := s_add a2 a3; have e5a := s_rng (a2 + a3); have e7 : (16000 : Int32).toInt = 16000 := (by decide); obtain ⟨k8, e8⟩ := s_add (σ0 5 7) a3; have e8a := s_rng ((σ0 5 7) + a3); have e10 : (65600 : Int32).toInt = 65600 := (by decide); omega)) (fun i _ => i0.2.2.2.2.2.2.2.2.2.2.2.2.2.2.2.2.2.1 _) (by decide) d_X8_declare_59 (fun g7 => ?_)
            have kp : Keep [(5, 1), (5, 7)] [25, 28, 29, 30] σ0 (upF σ0 30 g7) := keep_F kp (by decide)
            refine g_aload_n hF d_X8_declare_62 rfl 1 rfl ?_
            refine g_dup hF d_X8_declare_63 rfl ?_
            refine g_get (v := .int (σ0 5 7)) hF 7 obC_5 (by decide) m_239 rfl d_X8_declare_64 ?_
            refine g_iload_n hF d_X8_declare_67 rfl 4 rfl ?_
            refine g_iadd hF d_X8_declare_68 ?_
            refine g_put (v := ((σ0 5 7) + a3)) hF 7 obC_5 (by decide) m_239 rfl rfl rfl d_X8_declare_69 ?_
            have kp : Keep [(5, 1), (5, 7)] [25, 28, 29, 30] σ0 (upC (upF σ0 30 g7) 5 7 ((σ0 5 7) + a3)) := keep_f kp (by decide)
            have p8 : 0 ≤ ((σ0 5 7) + a3).toInt ∧ ((σ0 5 7) + a3).toInt ≤ 65600 := (by have e0 := s_rng (σ0 5 7); have e1 := i0.2.2.2.1; have e2 := s_rng a3; obtain ⟨k3, e3⟩ := s_add (σ0 5 7) a3; have e3a := s_rng ((σ0 5 7) + a3); have e5 : (0 : Int32).toInt = 0 := (by decide); have e6 := s_rng a2; obtain ⟨k7, e7⟩ := s_add a2 a3; have e7a := s_rng (a2 + a3); have e9 : (16000 : Int32).toInt = 16000 := (by decide); have e10 : (65600 : Int32).toInt = 65600 := (by decide); omega)
            refine g_aload_n hF d_X8_declare_72 rfl 1 rfl ?_
            refine g_get (v := .ref (r 29)) hF 6 obC_5 (by decide) m_237 rfl d_X8_declare_73 ?_
            refine g_iload hF d_X8_declare_76 0 rfl ?_
            refine g_aload_n hF d_X8_declare_78 rfl 1 rfl ?_
            refine g_get (v := .int ((σ0 5 7) + a3)) hF 7 obC_5 (by decide) m_239 rfl d_X8_declare_79 ?_
            refine g_iast hF arC_29 (by refine s_in (by decide) ?_ ?_ <;> (have e0 := s_rng (σ0 5 1); have e1 := i0.2.2.1; have e2 : (10100 : Int32).toInt = 10100 := (by decide); omega)) d_X8_declare_82 ?_
            have kp : Keep [(5, 1), (5, 7)] [25, 28, 29, 30] σ0 (upC (upC (upF σ0 30 g7) 5 7 ((σ0 5 7) + a3)) 29 ((σ0 5 1)).toNatClampNeg ((σ0 5 7) + a3)) := keep_a kp (by decide)
            have p9 : AllIn 0 65600 ((upC (upC (upF σ0 30 g7) 5 7 ((σ0 5 7) + a3)) 29 ((σ0 5 1)).toNatClampNeg ((σ0 5 7) + a3)) 29) := (acr_up i0.2.2.2.2.2.2.2.2.2.2.2.2.2.2.2.1 (by show 0 ≤ ((σ0 5 7) + a3).toInt ∧ ((σ0 5 7) + a3).toInt ≤ 65600; have e0 := s_rng (σ0 5 7); have e1 := i0.2.2.2.1; have e2 := s_rng a3; obtain ⟨k3, e3⟩ := s_add (σ0 5 7) a3; have e3a := s_rng ((σ0 5 7) + a3); have e5 : (0 : Int32).toInt = 0 := (by decide); have e6 := s_rng a2; obtain ⟨k7, e7⟩ := s_add a2 a3; have e7a := s_rng (a2 + a3); have e9 : (16000 : Int32).toInt = 16000 := (by decide); have e10 : (65600 : Int32).toInt = 65600 := (by decide); omega))
            refine g_aload_n hF d_X8_declare_83 rfl 1 rfl ?_
            refine g_dup hF d_X8_declare_84 rfl ?_
            refine g_get (v := .int (σ0 5 1)) hF 1 obC_5 (by decide) m_222 rfl d_X8_declare_85 ?_
            refine g_iconst hF (v := 1) d_X8_declare_88 (by decide) ?_
            refine g_iadd hF d_X8_declare_89 ?_
            refine g_put (v := ((σ0 5 1) + 1)) hF 1 obC_5 (by decide) m_222 rfl rfl rfl d_X8_declare_90 ?_
            have kp : Keep [(5, 1), (5, 7)] [25, 28, 29, 30] σ0 (upC (upC (upC (upF σ0 30 g7) 5 7 ((σ0 5 7) + a3)) 29 ((σ0 5 1)).toNatClampNeg ((σ0 5 7) + a3)) 5 1 ((σ0 5 1) + 1)) := keep_f kp (by decide)
            have p10 : 0 ≤ ((σ0 5 1) + 1).toInt ∧ ((σ0 5 1) + 1).toInt ≤ 10100 := (by have e0 := s_rng (σ0 5 1); have e1 := i0.2.2.1; have e2 : (1 : Int32).toInt = 1 := (by decide); obtain ⟨k3, e3⟩ := s_add (σ0 5 1) (1 : Int32); have e3a := s_rng ((σ0 5 1) + 1); have e5 : (10100 : Int32).toInt = 10100 := (by decide); omega)
            refine g_aload_n hF d_X8_declare_93 rfl 1 rfl ?_
            refine g_get (v := .ref (r 25)) hF 2 obC_5 (by decide) m_224 rfl d_X8_declare_94 ?_
            refine g_iload hF d_X8_declare_97 0 rfl ?_
            refine g_iconst hF (v := 0) d_X8_declare_99 (by decide) ?_
            refine g_callSN (As := [.ref (r 25), .int (σ0 5 1), .int 0]) (rest := []) hF (c_set a g r (upC (upC (upC (upF σ0 30 g7) 5 7 ((σ0 5 7) + a3)) 29 ((σ0 5 1)).toNatClampNeg ((σ0 5 7) + a3)) 5 1 ((σ0 5 1) + 1)) arC_25 (by decide) (σ0 5 1) (0 : Int32)) (Nat.le_of_ble_eq_true rfl) mS_X12_set nm_1098 rfl rfl (Nat.le_of_ble_eq_true rfl) d_X8_declare_100 (k_v (fun σ11 ⟨g11, eσ11, hg11⟩ => ?_))
            subst eσ11
            have kp : Keep [(5, 1), (5, 7)] [25, 28, 29, 30] σ0 (upF (upC (upC (upC (upF σ0 30 g7) 5 7 ((σ0 5 7) + a3)) 29 ((σ0 5 1)).toNatClampNeg ((σ0 5 7) + a3)) 5 1 ((σ0 5 1) + 1)) 25 g11) := keep_F kp (by decide)
            refine g_aload_n hF d_X8_declare_103 rfl 1 rfl ?_
            refine g_get (v := .ref (r 28)) hF 5 obC_5 (by decide) m_234 rfl d_X8_declare_104 ?_
            refine g_iload hF d_X8_declare_107 0 rfl ?_
            refine g_iconst hF (v := 0) d_X8_declare_109 (by decide) ?_
            refine g_callSN (As := [.ref (r 28), .int (σ0 5 1), .int 0]) (rest := []) hF (c_set a g r (upF (upC (upC (upC (upF σ0 30 g7) 5 7 ((σ0 5 7) + a3)) 29 ((σ0 5 1)).toNatClampNeg ((σ0 5 7) + a3)) 5 1 ((σ0 5 1) + 1)) 25 g11) arC_28 (by decide) (σ0 5 1) (0 : Int32)) (Nat.le_of_ble_eq_true rfl) mS_X12_set nm_1098 rfl rfl (Nat.le_of_ble_eq_true rfl) d_X8_declare_110 (k_v (fun σ12 ⟨g12, eσ12, hg12⟩ => ?_))
            subst eσ12
            have kp : Keep [(5, 1), (5, 7)] [25, 28, 29, 30] σ0 (upF (upF (upC (upC (upC (upF σ0 30 g7) 5 7 ((σ0 5 7) + a3)) 29 ((σ0 5 1)).toNatClampNeg ((σ0 5 7) + a3)) 5 1 ((σ0 5 1) + 1)) 25 g11) 28 g12) := keep_F kp (by decide)
            refine g_iload hF d_X8_declare_113 0 rfl ?_
            have j13 : Inv (upF (upF (upC (upC (upC (upF σ0 30 g7) 5 7 ((σ0 5 7) + a3)) 29 ((σ0 5 1)).toNatClampNeg ((σ0 5 7) + a3)) 5 1 ((σ0 5 1) + 1)) 25 g11) 28 g12) := ⟨i0.1, i0.2.1, p10, p8, i0.2.2.2.2.1, i0.2.2.2.2.2.1, i0.2.2.2.2.2.2.1, i0.2.2.2.2.2.2.2.1, i0.2.2.2.2.2.2.2.2.1, i0.2.2.2.2.2.2.2.2.2.1, i0.2.2.2.2.2.2.2.2.2.2.1, i0.2.2.2.2.2.2.2.2.2.2.2.1, i0.2.2.2.2.2.2.2.2.2.2.2.2.1, i0.2.2.2.2.2.2.2.2.2.2.2.2.2.1, i0.2.2.2.2.2.2.2.2.2.2.2.2.2.2.1, p9, i0.2.2.2.2.2.2.2.2.2.2.2.2.2.2.2.2.1, i0.2.2.2.2.2.2.2.2.2.2.2.2.2.2.2.2.2.1, i0.2.2.2.2.2.2.2.2.2.2.2.2.2.2.2.2.2.2.1, i0.2.2.2.2.2.2.2.2.2.2.2.2.2.2.2.2.2.2.2⟩
            exact g_iret hF rfl d_X8_declare_115 ⟨rfl, rfl, (σ0 5 1), rfl, ⟨j13, kp⟩⟩
          · -- not taken at 43
            refine g_iconst hF (v := (-1)) d_X8_declare_46 (by decide) ?_
            exact g_iret hF rfl d_X8_declare_47 ⟨rfl, rfl, ((-1) : Int32), rfl, ⟨i0, kp⟩⟩
set_option maxHeartbeats 4000000 in
set_option maxRecDepth 100000 in
theorem c_X11_declareOuter (a : Nat → Nat) (g : Nat → Nat → Int32) (r : Nat → Nat) (σ0 : St) (a1 : Int32) (hnm : NM σ0 a1) (i0 : Inv σ0) (l : Launch) (D : va_G) (cy : Nat → ClassId) : Ct l D cy SC r (EC a g) y_X11_declareOuter (Cond.code y_X11_declareOuter b_X11_declareOuter 2 (some .int)) 3 [.ref (r 6), .int a1] σ0 Z0 [] (QI (fun _ σ9 => (Inv σ9 ∧ Keep [(5, 1), (5, 7), (6, 7)] [25, 28, 29, 30, 38, 39] σ0 σ9))) QF := by
  refine Ct_of (EC_ok a g) (by decide) (Nat.le_of_ble_eq_true rfl) (by decide) (fun X hnn hF => ?_)
  show G SC r X σ0 Z0 [] [(0, .ref (r 6)), (1, .int a1)] [] 0
  have kp : Keep [(5, 1), (5, 7), (6, 7)] [25, 28, 29, 30, 38, 39] σ0 σ0 := keep_rf
  refine g_aload_n hF d_X11_declareOuter_0 rfl 0 rfl ?_
  refine g_get (v := .ref (r 38)) hF 8 obC_6 (by decide) m_329 rfl d_X11_declareOuter_1 ?_
  refine g_aload_n hF d_X11_declareOuter_4 rfl 0 rfl ?_
  refine g_get (v := .int (σ0 6 7)) hF 7 obC_6 (by decide) m_327 rfl d_X11_declareOuter_5 ?_
  refine g_iload_n hF d_X11_declareOuter_8 rfl 1 rfl ?_
  refine g_callSN (As := [.ref (r 38), .int (σ0 6 7), .int a1]) (rest := []) hF (c_set a g r σ0 arC_38 (by decide) (σ0 6 7) a1) (Nat.le_of_ble_eq_true rfl) mS_X12_set nm_1151 rfl rfl (Nat.le_of_ble_eq_true rfl) d_X11_declareOuter_9 (k_v (fun σ1 ⟨g1, eσ1, hg1⟩ => ?_))
  subst eσ1
  have kp : Keep [(5, 1), (5, 7), (6, 7)] [25, 28, 29, 30, 38, 39] σ0 (upF σ0 38 g1) := keep_F kp (by decide)
  refine g_aload_n hF d_X11_declareOuter_12 rfl 0 rfl ?_
  refine g_get (v := .ref (r 39)) hF 9 obC_6 (by decide) m_330 rfl d_X11_declareOuter_13 ?_
  refine g_aload_n hF d_X11_declareOuter_16 rfl 0 rfl ?_
  refine g_get (v := .int (σ0 6 7)) hF 7 obC_6 (by decide) m_327 rfl d_X11_declareOuter_17 ?_
  refine g_iconst hF (v := (-1)) d_X11_declareOuter_20 (by decide) ?_
  refine g_callSN (As := [.ref (r 39), .int (σ0 6 7), .int (-1)]) (rest := []) hF (c_set a g r (upF σ0 38 g1) arC_39 (by decide) (σ0 6 7) ((-1) : Int32)) (Nat.le_of_ble_eq_true rfl) mS_X12_set nm_1151 rfl rfl (Nat.le_of_ble_eq_true rfl) d_X11_declareOuter_21 (k_v (fun σ2 ⟨g2, eσ2, hg2⟩ => ?_))
  subst eσ2
  have kp : Keep [(5, 1), (5, 7), (6, 7)] [25, 28, 29, 30, 38, 39] σ0 (upF (upF σ0 38 g1) 39 g2) := keep_F kp (by decide)
  refine g_aload_n hF d_X11_declareOuter_24 rfl 0 rfl ?_
  refine g_dup hF d_X11_declareOuter_25 rfl ?_
  refine g_get (v := .int (σ0 6 7)) hF 7 obC_6 (by decide) m_327 rfl d_X11_declareOuter_26 ?_
  refine g_iconst hF (v := 1) d_X11_declareOuter_29 (by decide) ?_
  refine g_iadd hF d_X11_declareOuter_30 ?_
  refine g_put (v := ((σ0 6 7) + 1)) hF 7 obC_6 (by decide) m_327 rfl rfl rfl d_X11_declareOuter_31 ?_
  have kp : Keep [(5, 1), (5, 7), (6, 7)] [25, 28, 29, 30, 38, 39] σ0 (upC (upF (upF σ0 38 g1) 39 g2) 6 7 ((σ0 6 7) + 1)) := keep_f kp (by decide)
  refine g_aload_n hF d_X11_declareOuter_34 rfl 0 rfl ?_
  refine g_get (v := .ref (r 5)) hF 1 obC_6 (by decide) m_309 rfl d_X11_declareOuter_35 ?_
  refine g_aload_n hF d_X11_declareOuter_38 rfl 0 rfl ?_
  refine g_get (v := .ref (r 2)) hF 0 obC_6 (by decide) m_305 rfl d_X11_declareOuter_39 ?_
  refine g_getN (v := .ref (r 1)) hF 0 obC_2 (by decide) nm_42 rfl d_X11_declareOuter_42 ?_
  refine g_aload_n hF d_X11_declareOuter_45 rfl 0 rfl ?_
  refine g_get (v := .ref (r 2)) hF 0 obC_6 (by decide) m_305 rfl d_X11_declareOuter_46 ?_
  refine g_getN (v := .ref (r 15)) hF 7 obC_2 (by decide) nm_58 rfl d_X11_declareOuter_49 ?_
  refine g_iload_n hF d_X11_declareOuter_52 rfl 1 rfl ?_
  refine g_callSN (As := [.ref (r 15), .int a1]) (rest := [.ref (r 1), .ref (r 5)]) hF (c_at a g r (upC (upF (upF σ0 38 g1) 39 g2) 6 7 ((σ0 6 7) + 1)) arC_15 (by decide) a1) (Nat.le_of_ble_eq_true rfl) mS_X12_at nm_1112 rfl rfl (Nat.le_of_ble_eq_true rfl) d_X11_declareOuter_53 (k_rop (fun r3 hr3 => ?_))
  have hr3 : 0 ≤ r3.toInt ∧ r3.toInt ≤ 40000 := acr_at i0.2.2.2.2.2.2.2.2.2.2.2.2.2.2.1 (by decide) (by decide) (hr3.imp And.left (fun h => ⟨_, h.2⟩))
  refine g_aload_n hF d_X11_declareOuter_56 rfl 0 rfl ?_
  refine g_get (v := .ref (r 2)) hF 0 obC_6 (by decide) m_305 rfl d_X11_declareOuter_57 ?_
  refine g_getN (v := .ref (r 14)) hF 6 obC_2 (by decide) nm_54 rfl d_X11_declareOuter_60 ?_
  refine g_iload_n hF d_X11_declareOuter_63 rfl 1 rfl ?_
  refine g_callSN (As := [.ref (r 14), .int a1]) (rest := [.int r3, .ref (r 1), .ref (r 5)]) hF (c_at a g r (upC (upF (upF σ0 38 g1) 39 g2) 6 7 ((σ0 6 7) + 1)) arC_14 (by decide) a1) (Nat.le_of_ble_eq_true rfl) mS_X12_at nm_1112 rfl rfl (Nat.le_of_ble_eq_true rfl) d_X11_declareOuter_64 (k_rop (fun r4 hr4 => ?_))
  have hs4 := hr4
  have hb4 : 0 ≤ r4.toInt ∧ r4.toInt ≤ 16001 := nm_val (nm_keep (fun z => kp 14 z rfl rfl rfl) hnm) hs4
  have j6 : Inv (upC (upF (upF σ0 38 g1) 39 g2) 6 7 ((σ0 6 7) + 1)) := ⟨i0.1, i0.2.1, i0.2.2.1, i0.2.2.2.1, i0.2.2.2.2.1, i0.2.2.2.2.2.1, i0.2.2.2.2.2.2.1, i0.2.2.2.2.2.2.2.1, i0.2.2.2.2.2.2.2.2.1, i0.2.2.2.2.2.2.2.2.2.1, i0.2.2.2.2.2.2.2.2.2.2.1, i0.2.2.2.2.2.2.2.2.2.2.2.1, i0.2.2.2.2.2.2.2.2.2.2.2.2.1, i0.2.2.2.2.2.2.2.2.2.2.2.2.2.1, i0.2.2.2.2.2.2.2.2.2.2.2.2.2.2.1, i0.2.2.2.2.2.2.2.2.2.2.2.2.2.2.2.1, i0.2.2.2.2.2.2.2.2.2.2.2.2.2.2.2.2.1, i0.2.2.2.2.2.2.2.2.2.2.2.2.2.2.2.2.2.1, i0.2.2.2.2.2.2.2.2.2.2.2.2.2.2.2.2.2.2.1, i0.2.2.2.2.2.2.2.2.2.2.2.2.2.2.2.2.2.2.2⟩
  refine g_callVN (As := [.ref (r 1), .int r3, .int r4]) (rest := []) hF (c_X8_declare_r5_r1 a g r (upC (upF (upF σ0 38 g1) 39 g2) 6 7 ((σ0 6 7) + 1)) r3 r4 (by show 0 ≤ r3.toInt ∧ r3.toInt ≤ 40000 ∧ 0 ≤ r4.toInt ∧ r4.toInt ≤ 16001; have e0 := s_rng r3; have e1 := s_rng r4; omega) j6) (Nat.le_of_ble_eq_true rfl) mV_X8_declare nm_1402 (recv_ob obC_5) rfl rfl (Nat.le_of_ble_eq_true rfl) d_X11_declareOuter_67 (k_i (fun r5 σ5 ⟨iσ5, ik5⟩ => ?_))
  have kp : Keep [(5, 1), (5, 7), (6, 7)] [25, 28, 29, 30, 38, 39] σ0 σ5 := keep_c kp ik5 (by decide) (by decide)
  exact g_iret hF rfl d_X11_declareOuter_70 ⟨rfl, rfl, r5, rfl, ⟨iσ5, kp⟩⟩
set_option maxHeartbeats 4000000 in
set_option maxRecDepth 100000 in
theorem c_X1_function (a : Nat → Nat) (g : Nat → Nat → Int32) (r : Nat → Nat) (σ0 : St) (a1 : Int32) (a2 : Int32) (a3 : Int32) (hnm : NM σ0 a1) (i0 : Inv σ0) (l : Launch) (D : va_G) (cy : Nat → ClassId) : Ct l D cy SC r (EC a g) y_X1_function (Cond.code y_X1_function b_X1_function 10 none) 4 [.ref (r 8), .int a1, .int a2, .int a3] σ0 Z0 [] (QV (fun σ9 => ((((σ9 6 17).toInt = (σ0 6 17).toInt ∨ (σ9 6 17).toInt = 1) ∧ ((σ9 6 10).toInt = (σ0 6 10).toInt ∨ (σ9 6 10).toInt = 0)) ∧ Inv σ9 ∧ Keep [(4, 1), (5, 1), (5, 7), (6, 3), (6, 4), (6, 6), (6, 7), (6, 10), (6, 15), (6, 17)] [25, 26, 27, 28, 29, 30, 38, 39, 45] σ0 σ9))) QF := by
  refine Ct_of (EC_ok a g) (by decide) (Nat.le_of_ble_eq_true rfl) (by decide) (fun X hnn hF => ?_)
  show G SC r X σ0 Z0 [] [(0, .ref (r 8)), (1, .int a1), (2, .int a2), (3, .int a3)] [] 0
  have b192 : ∀ (σ : St) (x1 : Int32) (x2 : Int32) (x3 : Int32) (x4 : Int32) (x5 : Int32) (x6 : Int32) (x7 : Int32) (x8 : Int32) (x9 : Int32) (y1 : Int32) (y2 : Int32) , Inv σ → Keep [(4, 1), (5, 1), (5, 7), (6, 3), (6, 4), (6, 6), (6, 7), (6, 10), (6, 15), (6, 17)] [25, 26, 27, 28, 29, 30, 38, 39, 45] σ0 σ → x5 = 0 ∨ x5 = 1 → x6 = 0 ∨ x6 = 1 → x8 = 0 ∨ x8 = 1 → NM σ0 x1 → (((σ 6 17).toInt = (σ0 6 17).toInt ∨ (σ 6 17).toInt = 1) ∧ ((σ 6 10).toInt = (σ0 6 10).toInt ∨ (σ 6 10).toInt = 0)) → G SC r X σ Z0 [] [(0, .ref (r 8)), (1, .int x1), (2, .int x2), (3, .int x3), (4, .int x4), (5, .int x5), (6, .int x6), (7, .int x7), (8, .int x8), (9, .int x9)] [.int y2, .int y1, .ref (r 5)] 192 := by
    intro σ x1 x2 x3 x4 x5 x6 x7 x8 x9 y1 y2 inv kp z_x5 z_x6 z_x8 hnj hj
    refine g_callVN (As := [.int y1, .int y2]) (rest := []) hF (c_X8_mark a g r σ y1 y2 inv) (Nat.le_of_ble_eq_true rfl) mV_X8_mark nm_1410 (recv_ob obC_5) rfl rfl (Nat.le_of_ble_eq_true rfl) d_X1_function_192 (k_v (fun σ1 ⟨iσ1, ik1⟩ => ?_))
    have kp : Keep [(4, 1), (5, 1), (5, 7), (6, 3), (6, 4), (6, 6), (6, 7), (6, 10), (6, 15), (6, 17)] [25, 26, 27, 28, 29, 30, 38, 39, 45] σ0 σ1 := keep_c kp ik1 (by decide) (by decide)
    refine g_aload_n hF d_X1_function_195 rfl 0 rfl ?_
    refine g_get (v := .ref (r 5)) hF 3 obC_8 (by decide) m_492 rfl d_X1_function_196 ?_
    refine g_getN (v := .ref (r 26)) hF 3 obC_5 (by decide) nm_227 rfl d_X1_function_199 ?_
    refine g_iload hF d_X1_function_202 9 rfl ?_
    refine g_iload hF d_X1_function_204 4 rfl ?_
    refine g_callSN (As := [.ref (r 26), .int x9, .int x4]) (rest := []) hF (c_set a g r σ1 arC_26 (by decide) x9 x4) (Nat.le_of_ble_eq_true rfl) mS_X12_set nm_1409 rfl rfl (Nat.le_of_ble_eq_true rfl) d_X1_function_206 (k_v (fun σ2 ⟨g2, eσ2, hg2⟩ => ?_))
    subst eσ2
    have kp : Keep [(4, 1), (5, 1), (5, 7), (6, 3), (6, 4), (6, 6), (6, 7), (6, 10), (6, 15), (6, 17)] [25, 26, 27, 28, 29, 30, 38, 39, 45] σ0 (upF σ1 26 g2) := keep_F kp (by decide)
    refine g_aload_n hF d_X1_function_209 rfl 0 rfl ?_
    refine g_get (v := .ref (r 5)) hF 3 obC_8 (by decide) m_492 rfl d_X1_function_210 ?_
    refine g_getN (v := .ref (r 27)) hF 4 obC_5 (by decide) nm_232 rfl d_X1_function_213 ?_
    refine g_iload hF d_X1_function_216 9 rfl ?_
    refine g_iload_n hF d_X1_function_218 rfl 2 rfl ?_
    refine g_callSN (As := [.ref (r 27), .int x9, .int x2]) (rest := []) hF (c_set a g r (upF σ1 26 g2) arC_27 (by decide) x9 x2) (Nat.le_of_ble_eq_true rfl) mS_X12_set nm_1409 rfl rfl (Nat.le_of_ble_eq_true rfl) d_X1_function_219 (k_v (fun σ3 ⟨g3, eσ3, hg3⟩ => ?_))
    subst eσ3
    have kp : Keep [(4, 1), (5, 1), (5, 7), (6, 3), (6, 4), (6, 6), (6, 7), (6, 10), (6, 15), (6, 17)] [25, 26, 27, 28, 29, 30, 38, 39, 45] σ0 (upF (upF σ1 26 g2) 27 g3) := keep_F kp (by decide)
    refine g_iload hF d_X1_function_222 6 rfl ?_
    refine g_if_eq hF 265 d_X1_function_224 (by decide) rfl (fun c4_224 => ?_) (fun c4_224 => ?_)
    · -- taken at 224
      have j5 : Inv (upF (upF σ1 26 g2) 27 g3) := ⟨iσ1.1, iσ1.2.1, iσ1.2.2.1, iσ1.2.2.2.1, iσ1.2.2.2.2.1, iσ1.2.2.2.2.2.1, iσ1.2.2.2.2.2.2.1, iσ1.2.2.2.2.2.2.2.1, iσ1.2.2.2.2.2.2.2.2.1, iσ1.2.2.2.2.2.2.2.2.2.1, iσ1.2.2.2.2.2.2.2.2.2.2.1, iσ1.2.2.2.2.2.2.2.2.2.2.2.1, iσ1.2.2.2.2.2.2.2.2.2.2.2.2.1, iσ1.2.2.2.2.2.2.2.2.2.2.2.2.2.1, iσ1.2.2.2.2.2.2.2.2.2.2.2.2.2.2.1, iσ1.2.2.2.2.2.2.2.2.2.2.2.2.2.2.2.1, iσ1.2.2.2.2.2.2.2.2.2.2.2.2.2.2.2.2.1, iσ1.2.2.2.2.2.2.2.2.2.2.2.2.2.2.2.2.2.1, iσ1.2.2.2.2.2.2.2.2.2.2.2.2.2.2.2.2.2.2.1, iσ1.2.2.2.2.2.2.2.2.2.2.2.2.2.2.2.2.2.2.2⟩
      exact g_vret hF rfl d_X1_function_265 ⟨rfl, rfl, rfl, ⟨(by rw [show ((upF (upF σ1 26 g2) 27 g3) 6 17) = (σ 6 17) from (ik1 6 17 rfl rfl rfl)]; rw [show ((upF (upF σ1 26 g2) 27 g3) 6 10) = (σ 6 10) from (ik1 6 10 rfl rfl rfl)]; show ((σ 6 17).toInt = (σ0 6 17).toInt ∨ (σ 6 17).toInt = 1) ∧ ((σ 6 10).toInt = (σ0 6 10).toInt ∨ (σ 6 10).toInt = 0); have e0 := s_rng (σ 6 17); have e1 := s_rng (σ0 6 17); have e2 := s_rng (σ 6 10); have e3 := inv.2.2.2.2.2.1; have e4 := s_rng (σ0 6 10); have e5 := i0.2.2.2.2.2.1; omega), j5, kp⟩⟩
    · -- not taken at 224
      refine g_aload_n hF d_X1_function_227 rfl 0 rfl ?_
      refine g_get (v := .ref (r 5)) hF 3 obC_8 (by decide) m_492 rfl d_X1_function_228 ?_
      refine g_iload hF d_X1_function_231 9 rfl ?_
      refine g_iconst hF (v := 4) d_X1_function_233 (by decide) ?_
      have j7 : Inv (upF (upF σ1 26 g2) 27 g3) := ⟨iσ1.1, iσ1.2.1, iσ1.2.2.1, iσ1.2.2.2.1, iσ1.2.2.2.2.1, iσ1.2.2.2.2.2.1, iσ1.2.2.2.2.2.2.1, iσ1.2.2.2.2.2.2.2.1, iσ1.2.2.2.2.2.2.2.2.1, iσ1.2.2.2.2.2.2.2.2.2.1, iσ1.2.2.2.2.2.2.2.2.2.2.1, iσ1.2.2.2.2.2.2.2.2.2.2.2.1, iσ1.2.2.2.2.2.2.2.2.2.2.2.2.1, iσ1.2.2.2.2.2.2.2.2.2.2.2.2.2.1, iσ1.2.2.2.2.2.2.2.2.2.2.2.2.2.2.1, iσ1.2.2.2.2.2.2.2.2.2.2.2.2.2.2.2.1, iσ1.2.2.2.2.2.2.2.2.2.2.2.2.2.2.2.2.1, iσ1.2.2.2.2.2.2.2.2.2.2.2.2.2.2.2.2.2.1, iσ1.2.2.2.2.2.2.2.2.2.2.2.2.2.2.2.2.2.2.1, iσ1.2.2.2.2.2.2.2.2.2.2.2.2.2.2.2.2.2.2.2⟩
      refine g_callVN (As := [.int x9, .int 4]) (rest := []) hF (c_X8_mark a g r (upF (upF σ1 26 g2) 27 g3) x9 (4 : Int32) j7) (Nat.le_of_ble_eq_true rfl) mV_X8_mark nm_1410 (recv_ob obC_5) rfl rfl (Nat.le_of_ble_eq_true rfl) d_X1_function_234 (k_v (fun σ6 ⟨iσ6, ik6⟩ => ?_))
      have kp : Keep [(4, 1), (5, 1), (5, 7), (6, 3), (6, 4), (6, 6), (6, 7), (6, 10), (6, 15), (6, 17)] [25, 26, 27, 28, 29, 30, 38, 39, 45] σ0 σ6 := keep_c kp ik6 (by decide) (by decide)
      refine g_aload_n hF d_X1_function_237 rfl 0 rfl ?_
      refine g_get (v := .ref (r 5)) hF 3 obC_8 (by decide) m_492 rfl d_X1_function_238 ?_
      refine g_getN (v := .ref (r 28)) hF 5 obC_5 (by decide) nm_235 rfl d_X1_function_241 ?_
      refine g_iload hF d_X1_function_244 9 rfl ?_
      refine g_aload_n hF d_X1_function_246 rfl 0 rfl ?_
      refine g_get (v := .ref (r 4)) hF 4 obC_8 (by decide) m_493 rfl d_X1_function_247 ?_
      refine g_callVN (As := []) (rest := [.int x9, .ref (r 28)]) hF (c_X0_header a g r σ6 iσ6) (Nat.le_of_ble_eq_true rfl) mV_X0_header nm_1445 (recv_ob obC_4) rfl rfl (Nat.le_of_ble_eq_true rfl) d_X1_function_250 (k_i (fun r8 σ8 ⟨iσ8, ik8⟩ => ?_))
      have kp : Keep [(4, 1), (5, 1), (5, 7), (6, 3), (6, 4), (6, 6), (6, 7), (6, 10), (6, 15), (6, 17)] [25, 26, 27, 28, 29, 30, 38, 39, 45] σ0 σ8 := keep_c kp ik8 (by decide) (by decide)
      refine g_callSN (As := [.ref (r 28), .int x9, .int r8]) (rest := []) hF (c_set a g r σ8 arC_28 (by decide) x9 r8) (Nat.le_of_ble_eq_true rfl) mS_X12_set nm_1409 rfl rfl (Nat.le_of_ble_eq_true rfl) d_X1_function_253 (k_v (fun σ9 ⟨g9, eσ9, hg9⟩ => ?_))
      subst eσ9
      have kp : Keep [(4, 1), (5, 1), (5, 7), (6, 3), (6, 4), (6, 6), (6, 7), (6, 10), (6, 15), (6, 17)] [25, 26, 27, 28, 29, 30, 38, 39, 45] σ0 (upF σ8 28 g9) := keep_F kp (by decide)
      refine g_aload_n hF d_X1_function_256 rfl 0 rfl ?_
      refine g_get (v := .ref (r 6)) hF 2 obC_8 (by decide) m_491 rfl d_X1_function_257 ?_
      refine g_iload hF d_X1_function_260 9 rfl ?_
      have j11 : Inv (upF σ8 28 g9) := ⟨iσ8.1, iσ8.2.1, iσ8.2.2.1, iσ8.2.2.2.1, iσ8.2.2.2.2.1, iσ8.2.2.2.2.2.1, iσ8.2.2.2.2.2.2.1, iσ8.2.2.2.2.2.2.2.1, iσ8.2.2.2.2.2.2.2.2.1, iσ8.2.2.2.2.2.2.2.2.2.1, iσ8.2.2.2.2.2.2.2.2.2.2.1, iσ8.2.2.2.2.2.2.2.2.2.2.2.1, iσ8.2.2.2.2.2.2.2.2.2.2.2.2.1, iσ8.2.2.2.2.2.2.2.2.2.2.2.2.2.1, iσ8.2.2.2.2.2.2.2.2.2.2.2.2.2.2.1, iσ8.2.2.2.2.2.2.2.2.2.2.2.2.2.2.2.1, iσ8.2.2.2.2.2.2.2.2.2.2.2.2.2.2.2.2.1, iσ8.2.2.2.2.2.2.2.2.2.2.2.2.2.2.2.2.2.1, iσ8.2.2.2.2.2.2.2.2.2.2.2.2.2.2.2.2.2.2.1, iσ8.2.2.2.2.2.2.2.2.2.2.2.2.2.2.2.2.2.2.2⟩
      refine g_callVN (As := [.int x9]) (rest := []) hF (c_X11_enter a g r (upF σ8 28 g9) x9 j11) (Nat.le_of_ble_eq_true rfl) mV_X11_enter nm_1449 (recv_ob obC_6) rfl rfl (Nat.le_of_ble_eq_true rfl) d_X1_function_262 (k_v (fun σ10 ⟨hs10, iσ10, ik10⟩ => ?_))
      have hs10 : (σ10 6 17).toInt = 1 ∧ (σ10 6 10).toInt = 0 := hs10
      have kp : Keep [(4, 1), (5, 1), (5, 7), (6, 3), (6, 4), (6, 6), (6, 7), (6, 10), (6, 15), (6, 17)] [25, 26, 27, 28, 29, 30, 38, 39, 45] σ0 σ10 := keep_c kp ik10 (by decide) (by decide)
      exact g_vret hF rfl d_X1_function_265 ⟨rfl, rfl, rfl, ⟨(by show ((σ10 6 17).toInt = (σ0 6 17).toInt ∨ (σ10 6 17).toInt = 1) ∧ ((σ10 6 10).toInt = (σ0 6 10).toInt ∨ (σ10 6 10).toInt = 0); have e0 := s_rng (σ10 6 17); have e1 := s_rng (σ0 6 17); have e2 := s_rng (σ10 6 10); have e3 := iσ10.2.2.2.2.2.1; have e4 := s_rng (σ0 6 10); have e5 := i0.2.2.2.2.2.1; omega), iσ10, kp⟩⟩
  have b174 : ∀ (σ : St) (x1 : Int32) (x2 : Int32) (x3 : Int32) (x4 : Int32) (x5 : Int32) (x6 : Int32) (x7 : Int32) (x8 : Int32) (y0 : Int32) , Inv σ → Keep [(4, 1), (5, 1), (5, 7), (6, 3), (6, 4), (6, 6), (6, 7), (6, 10), (6, 15), (6, 17)] [25, 26, 27, 28, 29, 30, 38, 39, 45] σ0 σ → x5 = 0 ∨ x5 = 1 → x6 = 0 ∨ x6 = 1 → x8 = 0 ∨ x8 = 1 → NM σ0 x1 → (((σ 6 17).toInt = (σ0 6 17).toInt ∨ (σ 6 17).toInt = 1) ∧ ((σ 6 10).toInt = (σ0 6 10).toInt ∨ (σ 6 10).toInt = 0)) → G SC r X σ Z0 [] [(0, .ref (r 8)), (1, .int x1), (2, .int x2), (3, .int x3), (4, .int x4), (5, .int x5), (6, .int x6), (7, .int x7), (8, .int x8)] [.int y0] 174 := by
    intro σ x1 x2 x3 x4 x5 x6 x7 x8 y0 inv kp z_x5 z_x6 z_x8 hnj hj
    refine g_istore hF [(9, .int y0), (0, .ref (r 8)), (1, .int x1), (2, .int x2), (3, .int x3), (4, .int x4), (5, .int x5), (6, .int x6), (7, .int x7), (8, .int x8)] d_X1_function_174 hnn (by decide) rfl ?_
    refine g_aload_n hF d_X1_function_176 rfl 1 rfl ?_
    refine g_get (v := .ref (r 5)) hF 3 obC_8 (by decide) m_492 rfl d_X1_function_177 ?_
    refine g_iload hF d_X1_function_180 0 rfl ?_
    refine g_iload hF d_X1_function_182 6 rfl ?_
    refine g_if_eq hF 191 d_X1_function_184 (by decide) rfl (fun c12_184 => ?_) (fun c12_184 => ?_)
    · -- taken at 184
      refine g_iconst hF (v := 1) d_X1_function_191 (by decide) ?_
      exact g_sub (L' := [(0, .ref (r 8)), (1, .int x1), (2, .int x2), (3, .int x3), (4, .int x4), (5, .int x5), (6, .int x6), (7, .int x7), (8, .int x8), (9, .int y0)]) [1, 2, 3, 4, 5, 6, 7, 8, 9, 0] rfl (b192 σ x1 x2 x3 x4 x5 x6 x7 x8 y0 y0 (1 : Int32) inv kp z_x5 z_x6 z_x8 hnj (by show ((σ 6 17).toInt = (σ0 6 17).toInt ∨ (σ 6 17).toInt = 1) ∧ ((σ 6 10).toInt = (σ0 6 10).toInt ∨ (σ 6 10).toInt = 0); have e0 := s_rng y0; have e1 := s_rng x1; have e2 := s_rng x2; have e3 := s_rng x3; have e4 := s_rng x4; have e5 := s_rng x5; have e6 := s_rng x6; have e7 := s_rng x7; have e8 := s_rng x8; have e9 := s_rng (σ 6 17); have e10 := s_rng (σ0 6 17); have e11 := s_rng (σ 6 10); have e12 := inv.2.2.2.2.2.1; have e13 := s_rng (σ0 6 10); have e14 := i0.2.2.2.2.2.1; have e15 : (0 : Int32).toInt = 0 := (by decide); omega))
    · -- not taken at 184
      refine g_iconst hF (v := 3) d_X1_function_187 (by decide) ?_
      refine g_goto hF 192 d_X1_function_188 (by decide) ?_
      exact g_sub (L' := [(0, .ref (r 8)), (1, .int x1), (2, .int x2), (3, .int x3), (4, .int x4), (5, .int x5), (6, .int x6), (7, .int x7), (8, .int x8), (9, .int y0)]) [1, 2, 3, 4, 5, 6, 7, 8, 9, 0] rfl (b192 σ x1 x2 x3 x4 x5 x6 x7 x8 y0 y0 (3 : Int32) inv kp z_x5 z_x6 z_x8 hnj (by show ((σ 6 17).toInt = (σ0 6 17).toInt ∨ (σ 6 17).toInt = 1) ∧ ((σ 6 10).toInt = (σ0 6 10).toInt ∨ (σ 6 10).toInt = 0); have e0 := s_rng y0; have e1 := s_rng x1; have e2 := s_rng x2; have e3 := s_rng x3; have e4 := s_rng x4; have e5 := s_rng x5; have e6 := s_rng x6; have e7 := s_rng x7; have e8 := s_rng x8; have e9 := s_rng (σ 6 17); have e10 := s_rng (σ0 6 17); have e11 := s_rng (σ 6 10); have e12 := inv.2.2.2.2.2.1; have e13 := s_rng (σ0 6 10); have e14 := i0.2.2.2.2.2.1; have e15 : (0 : Int32).toInt = 0 := (by decide); omega))
  have b134 : ∀ (σ : St) (x1 : Int32) (x2 : Int32) (x3 : Int32) (x4 : Int32) (x5 : Int32) (x6 : Int32) (x7 : Int32) (y0 : Int32) , Inv σ → Keep [(4, 1), (5, 1), (5, 7), (6, 3), (6, 4), (6, 6), (6, 7), (6, 10), (6, 15), (6, 17)] [25, 26, 27, 28, 29, 30, 38, 39, 45] σ0 σ → x5 = 0 ∨ x5 = 1 → x6 = 0 ∨ x6 = 1 → y0 = 0 ∨ y0 = 1 → NM σ0 x1 → (((σ 6 17).toInt = (σ0 6 17).toInt ∨ (σ 6 17).toInt = 1) ∧ ((σ 6 10).toInt = (σ0 6 10).toInt ∨ (σ 6 10).toInt = 0)) → G SC r X σ Z0 [] [(0, .ref (r 8)), (1, .int x1), (2, .int x2), (3, .int x3), (4, .int x4), (5, .int x5), (6, .int x6), (7, .int x7)] [.int y0] 134 := by
    intro σ x1 x2 x3 x4 x5 x6 x7 y0 inv kp z_x5 z_x6 z_y0 hnj hj
    refine g_istore hF [(8, .int y0), (0, .ref (r 8)), (1, .int x1), (2, .int x2), (3, .int x3), (4, .int x4), (5, .int x5), (6, .int x6), (7, .int x7)] d_X1_function_134 hnn (by decide) rfl ?_
    refine g_aload_n hF d_X1_function_136 rfl 1 rfl ?_
    refine g_iload_n hF d_X1_function_137 rfl 2 rfl ?_
    refine g_iload hF d_X1_function_138 8 rfl ?_
    refine g_iload hF d_X1_function_140 0 rfl ?_
    refine g_callV (As := [.int x1, .int x7, .int y0]) (rest := []) hF (c_X1_checkOuter a g r σ x1 x7 y0 inv z_y0) (Nat.le_of_ble_eq_true rfl) mV_X1_checkOuter m_1394 (recv_ob obC_8) rfl rfl (Nat.le_of_ble_eq_true rfl) d_X1_function_142 (k_v (fun σ13 ⟨iσ13, ik13⟩ => ?_)) (fun _ _ _ h => h.elim)
    have kp : Keep [(4, 1), (5, 1), (5, 7), (6, 3), (6, 4), (6, 6), (6, 7), (6, 10), (6, 15), (6, 17)] [25, 26, 27, 28, 29, 30, 38, 39, 45] σ0 σ13 := keep_c kp ik13 (by decide) (by decide)
    refine g_aload_n hF d_X1_function_145 rfl 1 rfl ?_
    refine g_get (v := .ref (r 6)) hF 2 obC_8 (by decide) m_491 rfl d_X1_function_146 ?_
    refine g_getN (v := .int (σ13 6 3)) hF 3 obC_6 (by decide) nm_317 rfl d_X1_function_149 ?_
    refine g_if_eq hF 156 d_X1_function_152 (by decide) rfl (fun c14_152 => ?_) (fun c14_152 => ?_)
    · -- taken at 152
      refine g_iload hF d_X1_function_156 8 rfl ?_
      refine g_if_ge hF 172 d_X1_function_158 (by decide) rfl (fun c15_158 => ?_) (fun c15_158 => ?_)
      · -- taken at 158
        refine g_iload hF d_X1_function_172 8 rfl ?_
        exact g_sub (L' := [(0, .ref (r 8)), (1, .int x1), (2, .int x2), (3, .int x3), (4, .int x4), (5, .int x5), (6, .int x6), (7, .int x7), (8, .int y0)]) [1, 2, 3, 4, 5, 6, 7, 8, 0] rfl (b174 σ13 x1 x2 x3 x4 x5 x6 x7 y0 x7 iσ13 kp z_x5 z_x6 z_y0 hnj (by rw [show (σ13 6 17) = (σ 6 17) from (ik13 6 17 rfl rfl rfl)]; rw [show (σ13 6 10) = (σ 6 10) from (ik13 6 10 rfl rfl rfl)]; show ((σ 6 17).toInt = (σ0 6 17).toInt ∨ (σ 6 17).toInt = 1) ∧ ((σ 6 10).toInt = (σ0 6 10).toInt ∨ (σ 6 10).toInt = 0); have e0 := s_rng y0; have e1 := s_rng x1; have e2 := s_rng x2; have e3 := s_rng x3; have e4 := s_rng x4; have e5 := s_rng x5; have e6 := s_rng x6; have e7 := s_rng x7; have e8 := s_rng (σ 6 17); have e9 := s_rng (σ0 6 17); have e10 := s_rng (σ 6 10); have e11 := inv.2.2.2.2.2.1; have e12 := s_rng (σ0 6 10); have e13 := i0.2.2.2.2.2.1; have e14 : (0 : Int32).toInt = 0 := (by decide); have e15 := s_rng (σ13 6 3); omega))
      · -- not taken at 158
        refine g_aload_n hF d_X1_function_161 rfl 1 rfl ?_
        refine g_get (v := .ref (r 6)) hF 2 obC_8 (by decide) m_491 rfl d_X1_function_162 ?_
        refine g_iload_n hF d_X1_function_165 rfl 2 rfl ?_
        refine g_callVN (As := [.int x1]) (rest := []) hF (c_X11_declareOuter a g r σ13 x1 (nm_keep (fun z => kp 14 z rfl rfl rfl) hnj) iσ13) (Nat.le_of_ble_eq_true rfl) mV_X11_declareOuter nm_1398 (recv_ob obC_6) rfl rfl (Nat.le_of_ble_eq_true rfl) d_X1_function_166 (k_i (fun r16 σ16 ⟨iσ16, ik16⟩ => ?_))
        have kp : Keep [(4, 1), (5, 1), (5, 7), (6, 3), (6, 4), (6, 6), (6, 7), (6, 10), (6, 15), (6, 17)] [25, 26, 27, 28, 29, 30, 38, 39, 45] σ0 σ16 := keep_c kp ik16 (by decide) (by decide)
        refine g_goto hF 174 d_X1_function_169 (by decide) ?_
        exact g_sub (L' := [(0, .ref (r 8)), (1, .int x1), (2, .int x2), (3, .int x3), (4, .int x4), (5, .int x5), (6, .int x6), (7, .int x7), (8, .int y0)]) [1, 2, 3, 4, 5, 6, 7, 8, 0] rfl (b174 σ16 x1 x2 x3 x4 x5 x6 x7 y0 r16 iσ16 kp z_x5 z_x6 z_y0 hnj (by rw [show (σ16 6 17) = (σ 6 17) from ((ik16 6 17 rfl rfl rfl).trans (ik13 6 17 rfl rfl rfl))]; rw [show (σ16 6 10) = (σ 6 10) from ((ik16 6 10 rfl rfl rfl).trans (ik13 6 10 rfl rfl rfl))]; show ((σ 6 17).toInt = (σ0 6 17).toInt ∨ (σ 6 17).toInt = 1) ∧ ((σ 6 10).toInt = (σ0 6 10).toInt ∨ (σ 6 10).toInt = 0); have e0 := s_rng y0; have e1 := s_rng x1; have e2 := s_rng x2; have e3 := s_rng x3; have e4 := s_rng x4; have e5 := s_rng x5; have e6 := s_rng x6; have e7 := s_rng x7; have e8 := s_rng (σ 6 17); have e9 := s_rng (σ0 6 17); have e10 := s_rng (σ 6 10); have e11 := inv.2.2.2.2.2.1; have e12 := s_rng (σ0 6 10); have e13 := i0.2.2.2.2.2.1; have e14 : (0 : Int32).toInt = 0 := (by decide); have e15 := s_rng (σ13 6 3); omega))
    · -- not taken at 152
      exact g_vret hF rfl d_X1_function_155 ⟨rfl, rfl, rfl, ⟨(by rw [show (σ13 6 17) = (σ 6 17) from (ik13 6 17 rfl rfl rfl)]; rw [show (σ13 6 10) = (σ 6 10) from (ik13 6 10 rfl rfl rfl)]; show ((σ 6 17).toInt = (σ0 6 17).toInt ∨ (σ 6 17).toInt = 1) ∧ ((σ 6 10).toInt = (σ0 6 10).toInt ∨ (σ 6 10).toInt = 0); have e0 := s_rng (σ 6 17); have e1 := s_rng (σ0 6 17); have e2 := s_rng (σ 6 10); have e3 := inv.2.2.2.2.2.1; have e4 := s_rng (σ0 6 10); have e5 := i0.2.2.2.2.2.1; omega), iσ13, kp⟩⟩
  have b133 : ∀ (σ : St) (x1 : Int32) (x2 : Int32) (x3 : Int32) (x4 : Int32) (x5 : Int32) (x6 : Int32) (x7 : Int32) , Inv σ → Keep [(4, 1), (5, 1), (5, 7), (6, 3), (6, 4), (6, 6), (6, 7), (6, 10), (6, 15), (6, 17)] [25, 26, 27, 28, 29, 30, 38, 39, 45] σ0 σ → x5 = 0 ∨ x5 = 1 → x6 = 0 ∨ x6 = 1 → NM σ0 x1 → (((σ 6 17).toInt = (σ0 6 17).toInt ∨ (σ 6 17).toInt = 1) ∧ ((σ 6 10).toInt = (σ0 6 10).toInt ∨ (σ 6 10).toInt = 0)) → G SC r X σ Z0 [] [(0, .ref (r 8)), (1, .int x1), (2, .int x2), (3, .int x3), (4, .int x4), (5, .int x5), (6, .int x6), (7, .int x7)] [] 133 := by
    intro σ x1 x2 x3 x4 x5 x6 x7 inv kp z_x5 z_x6 hnj hj
    refine g_iconst hF (v := 0) d_X1_function_133 (by decide) ?_
    exact b134 σ x1 x2 x3 x4 x5 x6 x7 (0 : Int32) inv kp z_x5 z_x6 (Or.inl rfl) hnj (by show ((σ 6 17).toInt = (σ0 6 17).toInt ∨ (σ 6 17).toInt = 1) ∧ ((σ 6 10).toInt = (σ0 6 10).toInt ∨ (σ 6 10).toInt = 0); have e0 := s_rng x1; have e1 := s_rng x2; have e2 := s_rng x3; have e3 := s_rng x4; have e4 := s_rng x5; have e5 := s_rng x6; have e6 := s_rng x7; have e7 := s_rng (σ 6 17); have e8 := s_rng (σ0 6 17); have e9 := s_rng (σ 6 10); have e10 := inv.2.2.2.2.2.1; have e11 := s_rng (σ0 6 10); have e12 := i0.2.2.2.2.2.1; omega)
  have b129 : ∀ (σ : St) (x1 : Int32) (x2 : Int32) (x3 : Int32) (x4 : Int32) (x5 : Int32) (x6 : Int32) (x7 : Int32) , Inv σ → Keep [(4, 1), (5, 1), (5, 7), (6, 3), (6, 4), (6, 6), (6, 7), (6, 10), (6, 15), (6, 17)] [25, 26, 27, 28, 29, 30, 38, 39, 45] σ0 σ → x5 = 0 ∨ x5 = 1 → x6 = 0 ∨ x6 = 1 → NM σ0 x1 → (((σ 6 17).toInt = (σ0 6 17).toInt ∨ (σ 6 17).toInt = 1) ∧ ((σ 6 10).toInt = (σ0 6 10).toInt ∨ (σ 6 10).toInt = 0)) → G SC r X σ Z0 [] [(0, .ref (r 8)), (1, .int x1), (2, .int x2), (3, .int x3), (4, .int x4), (5, .int x5), (6, .int x6), (7, .int x7)] [] 129 := by
    intro σ x1 x2 x3 x4 x5 x6 x7 inv kp z_x5 z_x6 hnj hj
    refine g_iconst hF (v := 1) d_X1_function_129 (by decide) ?_
    refine g_goto hF 134 d_X1_function_130 (by decide) ?_
    exact b134 σ x1 x2 x3 x4 x5 x6 x7 (1 : Int32) inv kp z_x5 z_x6 (Or.inr rfl) hnj (by show ((σ 6 17).toInt = (σ0 6 17).toInt ∨ (σ 6 17).toInt = 1) ∧ ((σ 6 10).toInt = (σ0 6 10).toInt ∨ (σ 6 10).toInt = 0); have e0 := s_rng x1; have e1 := s_rng x2; have e2 := s_rng x3; have e3 := s_rng x4; have e4 := s_rng x5; have e5 := s_rng x6; have e6 := s_rng x7; have e7 := s_rng (σ 6 17); have e8 := s_rng (σ0 6 17); have e9 := s_rng (σ 6 10); have e10 := inv.2.2.2.2.2.1; have e11 := s_rng (σ0 6 10); have e12 := i0.2.2.2.2.2.1; omega)
  have b33 : ∀ (σ : St) (x1 : Int32) (x2 : Int32) (x3 : Int32) (x4 : Int32) (x5 : Int32) (y0 : Int32) , Inv σ → Keep [(4, 1), (5, 1), (5, 7), (6, 3), (6, 4), (6, 6), (6, 7), (6, 10), (6, 15), (6, 17)] [25, 26, 27, 28, 29, 30, 38, 39, 45] σ0 σ → x5 = 0 ∨ x5 = 1 → y0 = 0 ∨ y0 = 1 → NM σ0 x1 → (((σ 6 17).toInt = (σ0 6 17).toInt ∨ (σ 6 17).toInt = 1) ∧ ((σ 6 10).toInt = (σ0 6 10).toInt ∨ (σ 6 10).toInt = 0)) → G SC r X σ Z0 [] [(0, .ref (r 8)), (1, .int x1), (2, .int x2), (3, .int x3), (4, .int x4), (5, .int x5)] [.int y0] 33 := by
    intro σ x1 x2 x3 x4 x5 y0 inv kp z_x5 z_y0 hnj hj
    refine g_istore hF [(6, .int y0), (0, .ref (r 8)), (1, .int x1), (2, .int x2), (3, .int x3), (4, .int x4), (5, .int x5)] d_X1_function_33 hnn (by decide) rfl ?_
    refine g_aload_n hF d_X1_function_35 rfl 1 rfl ?_
    refine g_get (v := .ref (r 6)) hF 2 obC_8 (by decide) m_491 rfl d_X1_function_36 ?_
    refine g_iload_n hF d_X1_function_39 rfl 2 rfl ?_
    refine g_callVN (As := [.int x1]) (rest := []) hF (c_X11_outerOf a g r σ x1 inv) (Nat.le_of_ble_eq_true rfl) mV_X11_outerOf nm_1388 (recv_ob obC_6) rfl rfl (Nat.le_of_ble_eq_true rfl) d_X1_function_40 (k_ro (fun r17 => ?_))
    refine g_istore hF [(7, .int r17), (6, .int y0), (0, .ref (r 8)), (1, .int x1), (2, .int x2), (3, .int x3), (4, .int x4), (5, .int x5)] d_X1_function_43 hnn (by decide) rfl ?_
    refine g_iload hF d_X1_function_45 0 rfl ?_
    refine g_if_lt hF 129 d_X1_function_47 (by decide) rfl (fun c18_47 => ?_) (fun c18_47 => ?_)
    · -- taken at 47
      exact g_sub (L' := [(0, .ref (r 8)), (1, .int x1), (2, .int x2), (3, .int x3), (4, .int x4), (5, .int x5), (6, .int y0), (7, .int r17)]) [2, 3, 4, 5, 6, 7, 1, 0] rfl (b129 σ x1 x2 x3 x4 x5 y0 r17 inv kp z_x5 z_y0 hnj (by show ((σ 6 17).toInt = (σ0 6 17).toInt ∨ (σ 6 17).toInt = 1) ∧ ((σ 6 10).toInt = (σ0 6 10).toInt ∨ (σ 6 10).toInt = 0); have e0 := s_rng r17; have e1 := s_rng y0; have e2 := s_rng x1; have e3 := s_rng x2; have e4 := s_rng x3; have e5 := s_rng x4; have e6 := s_rng x5; have e7 := s_rng (σ 6 17); have e8 := s_rng (σ0 6 17); have e9 := s_rng (σ 6 10); have e10 := inv.2.2.2.2.2.1; have e11 := s_rng (σ0 6 10); have e12 := i0.2.2.2.2.2.1; have e13 : (0 : Int32).toInt = 0 := (by decide); omega))
    · -- not taken at 47
      refine g_aload_n hF d_X1_function_50 rfl 2 rfl ?_
      refine g_get (v := .ref (r 5)) hF 3 obC_8 (by decide) m_492 rfl d_X1_function_51 ?_
      refine g_iload hF d_X1_function_54 0 rfl ?_
      refine g_iconst hF (v := 1) d_X1_function_56 (by decide) ?_
      refine g_callVN (As := [.int r17, .int 1]) (rest := []) hF (c_X8_is a g r σ r17 (1 : Int32) inv) (Nat.le_of_ble_eq_true rfl) mV_X8_is nm_1393 (recv_ob obC_5) rfl rfl (Nat.le_of_ble_eq_true rfl) d_X1_function_57 (k_roz (fun r19 hz19 => ?_))
      refine g_if_eq hF 133 d_X1_function_60 (by decide) rfl (fun c20_60 => ?_) (fun c20_60 => ?_)
      · -- taken at 60
        exact g_sub (L' := [(0, .ref (r 8)), (1, .int x1), (2, .int x2), (3, .int x3), (4, .int x4), (5, .int x5), (6, .int y0), (7, .int r17)]) [2, 3, 4, 5, 6, 7, 1, 0] rfl (b133 σ x1 x2 x3 x4 x5 y0 r17 inv kp z_x5 z_y0 hnj (by show ((σ 6 17).toInt = (σ0 6 17).toInt ∨ (σ 6 17).toInt = 1) ∧ ((σ 6 10).toInt = (σ0 6 10).toInt ∨ (σ 6 10).toInt = 0); have e0 := s_rng r17; have e1 := s_rng y0; have e2 := s_rng x1; have e3 := s_rng x2; have e4 := s_rng x3; have e5 := s_rng x4; have e6 := s_rng x5; have e7 := s_rng (σ 6 17); have e8 := s_rng (σ0 6 17); have e9 := s_rng (σ 6 10); have e10 := inv.2.2.2.2.2.1; have e11 := s_rng (σ0 6 10); have e12 := i0.2.2.2.2.2.1; have e13 : (0 : Int32).toInt = 0 := (by decide); have e14 := s_rng r19; omega))
      · -- not taken at 60
        refine g_aload_n hF d_X1_function_63 rfl 2 rfl ?_
        refine g_get (v := .ref (r 5)) hF 3 obC_8 (by decide) m_492 rfl d_X1_function_64 ?_
        refine g_getN (v := .ref (r 26)) hF 3 obC_5 (by decide) nm_227 rfl d_X1_function_67 ?_
        refine g_iload hF d_X1_function_70 0 rfl ?_
        refine g_callSN (As := [.ref (r 26), .int r17]) (rest := []) hF (c_at a g r σ arC_26 (by decide) r17) (Nat.le_of_ble_eq_true rfl) mS_X12_at nm_1356 rfl rfl (Nat.le_of_ble_eq_true rfl) d_X1_function_72 (k_rop (fun r21 hr21 => ?_))
        refine g_iload hF d_X1_function_75 6 rfl ?_
        refine g_icmp_ne hF 133 d_X1_function_77 (by decide) rfl rfl (fun c22_77 => ?_) (fun c22_77 => ?_)
        · -- taken at 77
          exact g_sub (L' := [(0, .ref (r 8)), (1, .int x1), (2, .int x2), (3, .int x3), (4, .int x4), (5, .int x5), (6, .int y0), (7, .int r17)]) [2, 3, 4, 5, 6, 7, 1, 0] rfl (b133 σ x1 x2 x3 x4 x5 y0 r17 inv kp z_x5 z_y0 hnj (by show ((σ 6 17).toInt = (σ0 6 17).toInt ∨ (σ 6 17).toInt = 1) ∧ ((σ 6 10).toInt = (σ0 6 10).toInt ∨ (σ 6 10).toInt = 0); have e0 := s_rng r17; have e1 := s_rng y0; have e2 := s_rng x1; have e3 := s_rng x2; have e4 := s_rng x3; have e5 := s_rng x4; have e6 := s_rng x5; have e7 := s_rng (σ 6 17); have e8 := s_rng (σ0 6 17); have e9 := s_rng (σ 6 10); have e10 := inv.2.2.2.2.2.1; have e11 := s_rng (σ0 6 10); have e12 := i0.2.2.2.2.2.1; have e13 : (0 : Int32).toInt = 0 := (by decide); have e14 := s_rng r19; have e15 := s_rng r21; omega))
        · -- not taken at 77
          refine g_aload_n hF d_X1_function_80 rfl 2 rfl ?_
          refine g_get (v := .ref (r 5)) hF 3 obC_8 (by decide) m_492 rfl d_X1_function_81 ?_
          refine g_getN (v := .ref (r 27)) hF 4 obC_5 (by decide) nm_232 rfl d_X1_function_84 ?_
          refine g_iload hF d_X1_function_87 0 rfl ?_
          refine g_callSN (As := [.ref (r 27), .int r17]) (rest := []) hF (c_at a g r σ arC_27 (by decide) r17) (Nat.le_of_ble_eq_true rfl) mS_X12_at nm_1356 rfl rfl (Nat.le_of_ble_eq_true rfl) d_X1_function_89 (k_rop (fun r23 hr23 => ?_))
          refine g_iload_n hF d_X1_function_92 rfl 4 rfl ?_
          refine g_icmp_ne hF 133 d_X1_function_93 (by decide) rfl rfl (fun c24_93 => ?_) (fun c24_93 => ?_)
          · -- taken at 93
            exact g_sub (L' := [(0, .ref (r 8)), (1, .int x1), (2, .int x2), (3, .int x3), (4, .int x4), (5, .int x5), (6, .int y0), (7, .int r17)]) [2, 3, 4, 5, 6, 7, 1, 0] rfl (b133 σ x1 x2 x3 x4 x5 y0 r17 inv kp z_x5 z_y0 hnj (by show ((σ 6 17).toInt = (σ0 6 17).toInt ∨ (σ 6 17).toInt = 1) ∧ ((σ 6 10).toInt = (σ0 6 10).toInt ∨ (σ 6 10).toInt = 0); have e0 := s_rng r17; have e1 := s_rng y0; have e2 := s_rng x1; have e3 := s_rng x2; have e4 := s_rng x3; have e5 := s_rng x4; have e6 := s_rng x5; have e7 := s_rng (σ 6 17); have e8 := s_rng (σ0 6 17); have e9 := s_rng (σ 6 10); have e10 := inv.2.2.2.2.2.1; have e11 := s_rng (σ0 6 10); have e12 := i0.2.2.2.2.2.1; have e13 : (0 : Int32).toInt = 0 := (by decide); have e14 := s_rng r19; have e15 := s_rng r21; have e16 := s_rng r23; omega))
          · -- not taken at 93
            refine g_aload_n hF d_X1_function_96 rfl 2 rfl ?_
            refine g_get (v := .ref (r 5)) hF 3 obC_8 (by decide) m_492 rfl d_X1_function_97 ?_
            refine g_iload hF d_X1_function_100 0 rfl ?_
            refine g_iconst hF (v := 2) d_X1_function_102 (by decide) ?_
            refine g_callVN (As := [.int r17, .int 2]) (rest := []) hF (c_X8_is a g r σ r17 (2 : Int32) inv) (Nat.le_of_ble_eq_true rfl) mV_X8_is nm_1393 (recv_ob obC_5) rfl rfl (Nat.le_of_ble_eq_true rfl) d_X1_function_103 (k_roz (fun r25 hz25 => ?_))
            refine g_iload hF d_X1_function_106 7 rfl ?_
            refine g_icmp_ne hF 133 d_X1_function_108 (by decide) rfl rfl (fun c26_108 => ?_) (fun c26_108 => ?_)
            · -- taken at 108
              exact g_sub (L' := [(0, .ref (r 8)), (1, .int x1), (2, .int x2), (3, .int x3), (4, .int x4), (5, .int x5), (6, .int y0), (7, .int r17)]) [2, 3, 4, 5, 6, 7, 1, 0] rfl (b133 σ x1 x2 x3 x4 x5 y0 r17 inv kp z_x5 z_y0 hnj (by show ((σ 6 17).toInt = (σ0 6 17).toInt ∨ (σ 6 17).toInt = 1) ∧ ((σ 6 10).toInt = (σ0 6 10).toInt ∨ (σ 6 10).toInt = 0); have e0 := s_rng r17; have e1 := s_rng y0; have e2 := s_rng x1; have e3 := s_rng x2; have e4 := s_rng x3; have e5 := s_rng x4; have e6 := s_rng x5; have e7 := s_rng (σ 6 17); have e8 := s_rng (σ0 6 17); have e9 := s_rng (σ 6 10); have e10 := inv.2.2.2.2.2.1; have e11 := s_rng (σ0 6 10); have e12 := i0.2.2.2.2.2.1; have e13 : (0 : Int32).toInt = 0 := (by decide); have e14 := s_rng r19; have e15 := s_rng r21; have e16 := s_rng r23; have e17 := s_rng r25; omega))
            · -- not taken at 108
              refine g_iload hF d_X1_function_111 1 rfl ?_
              refine g_if_eq hF 129 d_X1_function_113 (by decide) rfl (fun c27_113 => ?_) (fun c27_113 => ?_)
              · -- taken at 113
                exact g_sub (L' := [(0, .ref (r 8)), (1, .int x1), (2, .int x2), (3, .int x3), (4, .int x4), (5, .int x5), (6, .int y0), (7, .int r17)]) [2, 3, 4, 5, 6, 7, 1, 0] rfl (b129 σ x1 x2 x3 x4 x5 y0 r17 inv kp z_x5 z_y0 hnj (by show ((σ 6 17).toInt = (σ0 6 17).toInt ∨ (σ 6 17).toInt = 1) ∧ ((σ 6 10).toInt = (σ0 6 10).toInt ∨ (σ 6 10).toInt = 0); have e0 := s_rng r17; have e1 := s_rng y0; have e2 := s_rng x1; have e3 := s_rng x2; have e4 := s_rng x3; have e5 := s_rng x4; have e6 := s_rng x5; have e7 := s_rng (σ 6 17); have e8 := s_rng (σ0 6 17); have e9 := s_rng (σ 6 10); have e10 := inv.2.2.2.2.2.1; have e11 := s_rng (σ0 6 10); have e12 := i0.2.2.2.2.2.1; have e13 : (0 : Int32).toInt = 0 := (by decide); have e14 := s_rng r19; have e15 := s_rng r21; have e16 := s_rng r23; have e17 := s_rng r25; omega))
              · -- not taken at 113
                refine g_aload_n hF d_X1_function_116 rfl 2 rfl ?_
                refine g_get (v := .ref (r 5)) hF 3 obC_8 (by decide) m_492 rfl d_X1_function_117 ?_
                refine g_iload hF d_X1_function_120 0 rfl ?_
                refine g_iconst hF (v := 4) d_X1_function_122 (by decide) ?_
                refine g_callVN (As := [.int r17, .int 4]) (rest := []) hF (c_X8_is a g r σ r17 (4 : Int32) inv) (Nat.le_of_ble_eq_true rfl) mV_X8_is nm_1393 (recv_ob obC_5) rfl rfl (Nat.le_of_ble_eq_true rfl) d_X1_function_123 (k_roz (fun r28 hz28 => ?_))
                refine g_if_ne hF 133 d_X1_function_126 (by decide) rfl (fun c29_126 => ?_) (fun c29_126 => ?_)
                · -- taken at 126
                  exact g_sub (L' := [(0, .ref (r 8)), (1, .int x1), (2, .int x2), (3, .int x3), (4, .int x4), (5, .int x5), (6, .int y0), (7, .int r17)]) [2, 3, 4, 5, 6, 7, 1, 0] rfl (b133 σ x1 x2 x3 x4 x5 y0 r17 inv kp z_x5 z_y0 hnj (by show ((σ 6 17).toInt = (σ0 6 17).toInt ∨ (σ 6 17).toInt = 1) ∧ ((σ 6 10).toInt = (σ0 6 10).toInt ∨ (σ 6 10).toInt = 0); have e0 := s_rng r17; have e1 := s_rng y0; have e2 := s_rng x1; have e3 := s_rng x2; have e4 := s_rng x3; have e5 := s_rng x4; have e6 := s_rng x5; have e7 := s_rng (σ 6 17); have e8 := s_rng (σ0 6 17); have e9 := s_rng (σ 6 10); have e10 := inv.2.2.2.2.2.1; have e11 := s_rng (σ0 6 10); have e12 := i0.2.2.2.2.2.1; have e13 : (0 : Int32).toInt = 0 := (by decide); have e14 := s_rng r19; have e15 := s_rng r21; have e16 := s_rng r23; have e17 := s_rng r25; have e18 := s_rng r28; omega))
                · -- not taken at 126
                  exact g_sub (L' := [(0, .ref (r 8)), (1, .int x1), (2, .int x2), (3, .int x3), (4, .int x4), (5, .int x5), (6, .int y0), (7, .int r17)]) [2, 3, 4, 5, 6, 7, 1, 0] rfl (b129 σ x1 x2 x3 x4 x5 y0 r17 inv kp z_x5 z_y0 hnj (by show ((σ 6 17).toInt = (σ0 6 17).toInt ∨ (σ 6 17).toInt = 1) ∧ ((σ 6 10).toInt = (σ0 6 10).toInt ∨ (σ 6 10).toInt = 0); have e0 := s_rng r17; have e1 := s_rng y0; have e2 := s_rng x1; have e3 := s_rng x2; have e4 := s_rng x3; have e5 := s_rng x4; have e6 := s_rng x5; have e7 := s_rng (σ 6 17); have e8 := s_rng (σ0 6 17); have e9 := s_rng (σ 6 10); have e10 := inv.2.2.2.2.2.1; have e11 := s_rng (σ0 6 10); have e12 := i0.2.2.2.2.2.1; have e13 : (0 : Int32).toInt = 0 := (by decide); have e14 := s_rng r19; have e15 := s_rng r21; have e16 := s_rng r23; have e17 := s_rng r25; have e18 := s_rng r28; omega))
  have b20 : ∀ (σ : St) (x1 : Int32) (x2 : Int32) (x3 : Int32) (x4 : Int32) (y0 : Int32) , Inv σ → Keep [(4, 1), (5, 1), (5, 7), (6, 3), (6, 4), (6, 6), (6, 7), (6, 10), (6, 15), (6, 17)] [25, 26, 27, 28, 29, 30, 38, 39, 45] σ0 σ → y0 = 0 ∨ y0 = 1 → NM σ0 x1 → (((σ 6 17).toInt = (σ0 6 17).toInt ∨ (σ 6 17).toInt = 1) ∧ ((σ 6 10).toInt = (σ0 6 10).toInt ∨ (σ 6 10).toInt = 0)) → G SC r X σ Z0 [] [(0, .ref (r 8)), (1, .int x1), (2, .int x2), (3, .int x3), (4, .int x4)] [.int y0] 20 := by
    intro σ x1 x2 x3 x4 y0 inv kp z_y0 hnj hj
    refine g_istore hF [(5, .int y0), (0, .ref (r 8)), (1, .int x1), (2, .int x2), (3, .int x3), (4, .int x4)] d_X1_function_20 hnn (by decide) rfl ?_
    refine g_iload_n hF d_X1_function_22 rfl 4 rfl ?_
    refine g_iconst hF (v := 4) d_X1_function_23 (by decide) ?_
    refine g_iand hF d_X1_function_24 ?_
    refine g_any (fun v30 => ?_)
    refine g_if_eq hF 32 d_X1_function_25 (by decide) rfl (fun c31_25 => ?_) (fun c31_25 => ?_)
    · -- taken at 25
      refine g_iconst hF (v := 0) d_X1_function_32 (by decide) ?_
      exact g_sub (L' := [(0, .ref (r 8)), (1, .int x1), (2, .int x2), (3, .int x3), (4, .int x4), (5, .int y0)]) [1, 2, 3, 4, 5, 0] rfl (b33 σ x1 x2 x3 x4 y0 (0 : Int32) inv kp z_y0 (Or.inl rfl) hnj (by show ((σ 6 17).toInt = (σ0 6 17).toInt ∨ (σ 6 17).toInt = 1) ∧ ((σ 6 10).toInt = (σ0 6 10).toInt ∨ (σ 6 10).toInt = 0); have e0 := s_rng y0; have e1 := s_rng x1; have e2 := s_rng x2; have e3 := s_rng x3; have e4 := s_rng x4; have e5 := s_rng (σ 6 17); have e6 := s_rng (σ0 6 17); have e7 := s_rng (σ 6 10); have e8 := inv.2.2.2.2.2.1; have e9 := s_rng (σ0 6 10); have e10 := i0.2.2.2.2.2.1; omega))
    · -- not taken at 25
      refine g_iconst hF (v := 1) d_X1_function_28 (by decide) ?_
      refine g_goto hF 33 d_X1_function_29 (by decide) ?_
      exact g_sub (L' := [(0, .ref (r 8)), (1, .int x1), (2, .int x2), (3, .int x3), (4, .int x4), (5, .int y0)]) [1, 2, 3, 4, 5, 0] rfl (b33 σ x1 x2 x3 x4 y0 (1 : Int32) inv kp z_y0 (Or.inr rfl) hnj (by show ((σ 6 17).toInt = (σ0 6 17).toInt ∨ (σ 6 17).toInt = 1) ∧ ((σ 6 10).toInt = (σ0 6 10).toInt ∨ (σ 6 10).toInt = 0); have e0 := s_rng y0; have e1 := s_rng x1; have e2 := s_rng x2; have e3 := s_rng x3; have e4 := s_rng x4; have e5 := s_rng (σ 6 17); have e6 := s_rng (σ0 6 17); have e7 := s_rng (σ 6 10); have e8 := inv.2.2.2.2.2.1; have e9 := s_rng (σ0 6 10); have e10 := i0.2.2.2.2.2.1; omega))
  have kp : Keep [(4, 1), (5, 1), (5, 7), (6, 3), (6, 4), (6, 6), (6, 7), (6, 10), (6, 15), (6, 17)] [25, 26, 27, 28, 29, 30, 38, 39, 45] σ0 σ0 := keep_rf
  refine g_iload_n hF d_X1_function_0 rfl 3 rfl ?_
  refine g_bipush hF (v := 8) d_X1_function_1 (by decide) ?_
  refine g_idiv hF d_X1_function_3 (by decide) ?_
  refine g_any (fun v32 => ?_)
  refine g_iconst hF (v := 1) d_X1_function_4 (by decide) ?_
  refine g_isub hF d_X1_function_5 ?_
  refine g_istore hF [(4, .int (v32 - 1)), (0, .ref (r 8)), (1, .int a1), (2, .int a2), (3, .int a3)] d_X1_function_6 hnn (by decide) rfl ?_
  refine g_iload_n hF d_X1_function_8 rfl 4 rfl ?_
  refine g_iconst hF (v := 3) d_X1_function_9 (by decide) ?_
  refine g_iand hF d_X1_function_10 ?_
  refine g_any (fun v33 => ?_)
  refine g_iconst hF (v := 1) d_X1_function_11 (by decide) ?_
  refine g_icmp_ne (yv := 1) hF 19 d_X1_function_12 (by decide) rfl (by decide) (fun c34_12 => ?_) (fun c34_12 => ?_)
  · -- taken at 12
    refine g_iconst hF (v := 0) d_X1_function_19 (by decide) ?_
    exact g_sub (L' := [(0, .ref (r 8)), (1, .int a1), (2, .int a2), (3, .int a3), (4, .int (v32 - 1))]) [1, 2, 3, 4, 0] rfl (b20 σ0 a1 a2 a3 (v32 - 1) (0 : Int32) i0 kp (Or.inl rfl) hnm (by show ((σ0 6 17).toInt = (σ0 6 17).toInt ∨ (σ0 6 17).toInt = 1) ∧ ((σ0 6 10).toInt = (σ0 6 10).toInt ∨ (σ0 6 10).toInt = 0); have e0 := s_rng v32; have e1 : (1 : Int32).toInt = 1 := (by decide); obtain ⟨k2, e2⟩ := s_sub v32 (1 : Int32); have e2a := s_rng (v32 - 1); have e4 := s_rng a1; have e5 := s_rng a2; have e6 := s_rng a3; have e7 := s_rng (σ0 6 17); have e8 := s_rng (σ0 6 10); have e9 := i0.2.2.2.2.2.1; have e10 := s_rng v33; omega))
  · -- not taken at 12
    refine g_iconst hF (v := 1) d_X1_function_15 (by decide) ?_
    refine g_goto hF 20 d_X1_function_16 (by decide) ?_
    exact g_sub (L' := [(0, .ref (r 8)), (1, .int a1), (2, .int a2), (3, .int a3), (4, .int (v32 - 1))]) [1, 2, 3, 4, 0] rfl (b20 σ0 a1 a2 a3 (v32 - 1) (1 : Int32) i0 kp (Or.inr rfl) hnm (by show ((σ0 6 17).toInt = (σ0 6 17).toInt ∨ (σ0 6 17).toInt = 1) ∧ ((σ0 6 10).toInt = (σ0 6 10).toInt ∨ (σ0 6 10).toInt = 0); have e0 := s_rng v32; have e1 : (1 : Int32).toInt = 1 := (by decide); obtain ⟨k2, e2⟩ := s_sub v32 (1 : Int32); have e2a := s_rng (v32 - 1); have e4 := s_rng a1; have e5 := s_rng a2; have e6 := s_rng a3; have e7 := s_rng (σ0 6 17); have e8 := s_rng (σ0 6 10); have e9 := i0.2.2.2.2.2.1; have e10 := s_rng v33; omega))
def RX (a : Nat → Nat) (g : Nat → Nat → Int32) (r : Nat → Nat) (k : Nat) : Prop := ∀ (σ0 : St) (z : Int32), 1 ≤ z.toInt → z.toInt + (k : Int) = 26 → Inv σ0 → GPS σ0 → (∀ (l : Launch) (D : va_G) (cy : Nat → ClassId), Ct l D cy SC r (EC a g) y_X3_expression (Cond.code y_X3_expression b_X3_expression 3 none) (14 * k + 8) [.ref (r 3), .int z] σ0 Z0 [] (QV (fun σ9 => ((GPS σ9 ∧ Mo σ9 σ0) ∧ (Inv σ9 ∧ Keep [(3, 1), (3, 2), (3, 3), (3, 4), (3, 9)] [18, 19, 20, 21, 22, 23] σ0 σ9)))) QF) ∧ (∀ (l : Launch) (D : va_G) (cy : Nat → ClassId), Ct l D cy SC r (EC a g) y_X3_choice (Cond.code y_X3_choice b_X3_choice 3 none) (14 * k + 7) [.ref (r 3), .int z] σ0 Z0 [] (QV (fun σ9 => ((GPS σ9 ∧ Mo σ9 σ0) ∧ (Inv σ9 ∧ Keep [(3, 1), (3, 2), (3, 3), (3, 4), (3, 9)] [18, 19, 20, 21, 22, 23] σ0 σ9)))) QF) ∧ (∀ (l : Launch) (D : va_G) (cy : Nat → ClassId), Ct l D cy SC r (EC a g) y_X3_unary (Cond.code y_X3_unary b_X3_unary 3 none) (14 * k + 5) [.ref (r 3), .int z] σ0 Z0 [] (QV (fun σ9 => ((GPS σ9 ∧ Mo σ9 σ0) ∧ (Inv σ9 ∧ Keep [(3, 1), (3, 2), (3, 3), (3, 4), (3, 9)] [18, 19, 20, 21, 22, 23] σ0 σ9)))) QF)
set_option maxHeartbeats 4000000 in
set_option maxRecDepth 100000 in
theorem c_X3_call (a : Nat → Nat) (g : Nat → Nat → Int32) (r : Nat → Nat) (k : Nat) (σ0 : St) (a1 : Int32) (a2 : Int32) (ih : 2 ≤ k → RX a g r (k - 1)) (h1 : 1 ≤ a2.toInt) (hk : a2.toInt + (k : Int) = 26) (hgp : GPS σ0) (hpre : ¬ ((σ0 3 2).toInt = 0 ∨ (σ0 3 2).toInt = -1)) (i0 : Inv σ0) (l : Launch) (D : va_G) (cy : Nat → ClassId) : Ct l D cy SC r (EC a g) y_X3_call (Cond.code y_X3_call b_X3_call 5 none) (14 * k + 2) [.ref (r 3), .int a1, .int a2] σ0 Z0 [] (QV (fun σ9 => ((GPS σ9 ∧ Mo σ9 σ0) ∧ (Inv σ9 ∧ Keep [(3, 1), (3, 2), (3, 3), (3, 4), (3, 9)] [18, 19, 20, 21, 22, 23] σ0 σ9)))) QF := by
  refine Ct_of (EC_ok a g) (by decide) (Nat.le_of_ble_eq_true rfl) (by decide) (fun X hnn hF => ?_)
  show G SC r X σ0 Z0 [] [(0, .ref (r 3)), (1, .int a1), (2, .int a2)] [] 0
  have b42 : ∀ (N : Nat) (σ : St) (x1 : Int32) (x2 : Int32) (x3 : Int32) (x4 : Int32) , dnm x4 = N → Inv σ → Keep [(3, 1), (3, 2), (3, 3), (3, 4), (3, 9)] [18, 19, 20, 21, 22, 23] σ0 σ → x3 = 0 ∨ x3 = 1 → GPS σ → Mo σ σ0 → 1 ≤ x2.toInt → x2.toInt + (k : Int) = 26 → x2.toInt ≤ 24 → G SC r X σ Z0 [] [(0, .ref (r 3)), (1, .int x1), (2, .int x2), (3, .int x3), (4, .int x4)] [] 42 := by
    intro M42
    induction M42 using Nat.strongRecOn with
    | _ M42 ih42 =>
      intro σ x1 x2 x3 x4 N42 inv kp z_x3 hgp hgm h1 hk h25
      refine g_iload hF d_X3_call_42 4 rfl ?_
      refine g_if_le hF 80 d_X3_call_44 (by decide) rfl (fun c1_44 => ?_) (fun c1_44 => ?_)
      · -- taken at 44
        refine g_aload_n hF d_X3_call_80 rfl 0 rfl ?_
        refine g_bipush hF (v := 21) d_X3_call_81 (by decide) ?_
        refine g_callV (As := [.int 21]) (rest := []) hF (c_X3_expect a g r σ (21 : Int32) hgp (by show ¬ (21 = 0 ∨ 21 = -1); have e0 : (21 : Int32).toInt = 21 := (by decide); omega) inv) (Nat.le_of_ble_eq_true rfl) mV_X3_expect m_903 (recv_ob obC_3) rfl rfl (Nat.le_of_ble_eq_true rfl) d_X3_call_83 (k_v (fun σ2 ⟨⟨hgp2, hgm2⟩, hs2, iσ2, ik2⟩ => ?_)) (fun _ _ _ h => h.elim)
        have hs2 : (σ2 3 3).toInt < 0 → (σ 3 2).toInt = 21 := hs2
        have hmo2 : Mo σ2 σ := fun h9 => mo_e (show σ 3 3 = σ 3 3 from rfl) (hgm2 h9)
        have kp : Keep [(3, 1), (3, 2), (3, 3), (3, 4), (3, 9)] [18, 19, 20, 21, 22, 23] σ0 σ2 := keep_c kp ik2 (by decide) (by decide)
        refine g_aload_n hF d_X3_call_86 rfl 0 rfl ?_
        refine g_bipush hF (v := 6) d_X3_call_87 (by decide) ?_
        refine g_iload_n hF d_X3_call_89 rfl 1 rfl ?_
        refine g_iconst hF (v := 0) d_X3_call_90 (by decide) ?_
        refine g_iconst hF (v := 0) d_X3_call_91 (by decide) ?_
        refine g_callV (As := [.int 6, .int x1, .int 0, .int 0]) (rest := []) hF (c_X3_add a g r σ2 (6 : Int32) x1 (0 : Int32) (0 : Int32) (fun h9 => absurd h9 (by decide)) hgp2 iσ2) (Nat.le_of_ble_eq_true rfl) mV_X3_add m_923 (recv_ob obC_3) rfl rfl (Nat.le_of_ble_eq_true rfl) d_X3_call_92 (k_i (fun r3 σ3 ⟨⟨hgp3, hgm3⟩, iσ3, ik3⟩ => ?_)) (fun _ _ _ h => h.elim)
        have hmo3 : Mo σ3 σ2 := fun h9 => mo_e (show σ2 3 3 = σ2 3 3 from rfl) (hgm3 h9)
        have kp : Keep [(3, 1), (3, 2), (3, 3), (3, 4), (3, 9)] [18, 19, 20, 21, 22, 23] σ0 σ3 := keep_c kp ik3 (by decide) (by decide)
        refine g_pop hF d_X3_call_95 rfl ?_
        exact g_vret hF rfl d_X3_call_96 ⟨rfl, rfl, rfl, ⟨⟨hgp3, (fun h9 => (hgm (hmo2 (mo_e (show σ3 3 3 = σ2 3 3 from (ik3 3 3 rfl rfl rfl)) h9))))⟩, iσ3, kp⟩⟩
      · -- not taken at 44
        refine g_iload_n hF d_X3_call_47 rfl 3 rfl ?_
        refine g_if_eq hF 80 d_X3_call_48 (by decide) rfl (fun c4_48 => ?_) (fun c4_48 => ?_)
        · -- taken at 48
          refine g_aload_n hF d_X3_call_80 rfl 0 rfl ?_
          refine g_bipush hF (v := 21) d_X3_call_81 (by decide) ?_
          refine g_callV (As := [.int 21]) (rest := []) hF (c_X3_expect a g r σ (21 : Int32) hgp (by show ¬ (21 = 0 ∨ 21 = -1); have e0 : (21 : Int32).toInt = 21 := (by decide); omega) inv) (Nat.le_of_ble_eq_true rfl) mV_X3_expect m_903 (recv_ob obC_3) rfl rfl (Nat.le_of_ble_eq_true rfl) d_X3_call_83 (k_v (fun σ5 ⟨⟨hgp5, hgm5⟩, hs5, iσ5, ik5⟩ => ?_)) (fun _ _ _ h => h.elim)
          have hs5 : (σ5 3 3).toInt < 0 → (σ 3 2).toInt = 21 := hs5
          have hmo5 : Mo σ5 σ := fun h9 => mo_e (show σ 3 3 = σ 3 3 from rfl) (hgm5 h9)
          have kp : Keep [(3, 1), (3, 2), (3, 3), (3, 4), (3, 9)] [18, 19, 20, 21, 22, 23] σ0 σ5 := keep_c kp ik5 (by decide) (by decide)
          refine g_aload_n hF d_X3_call_86 rfl 0 rfl ?_
          refine g_bipush hF (v := 6) d_X3_call_87 (by decide) ?_
          refine g_iload_n hF d_X3_call_89 rfl 1 rfl ?_
          refine g_iconst hF (v := 0) d_X3_call_90 (by decide) ?_
          refine g_iconst hF (v := 0) d_X3_call_91 (by decide) ?_
          refine g_callV (As := [.int 6, .int x1, .int 0, .int 0]) (rest := []) hF (c_X3_add a g r σ5 (6 : Int32) x1 (0 : Int32) (0 : Int32) (fun h9 => absurd h9 (by decide)) hgp5 iσ5) (Nat.le_of_ble_eq_true rfl) mV_X3_add m_923 (recv_ob obC_3) rfl rfl (Nat.le_of_ble_eq_true rfl) d_X3_call_92 (k_i (fun r6 σ6 ⟨⟨hgp6, hgm6⟩, iσ6, ik6⟩ => ?_)) (fun _ _ _ h => h.elim)
          have hmo6 : Mo σ6 σ5 := fun h9 => mo_e (show σ5 3 3 = σ5 3 3 from rfl) (hgm6 h9)
          have kp : Keep [(3, 1), (3, 2), (3, 3), (3, 4), (3, 9)] [18, 19, 20, 21, 22, 23] σ0 σ6 := keep_c kp ik6 (by decide) (by decide)
          refine g_pop hF d_X3_call_95 rfl ?_
          exact g_vret hF rfl d_X3_call_96 ⟨rfl, rfl, rfl, ⟨⟨hgp6, (fun h9 => (hgm (hmo5 (mo_e (show σ6 3 3 = σ5 3 3 from (ik6 3 3 rfl rfl rfl)) h9))))⟩, iσ6, kp⟩⟩
        · -- not taken at 48
          refine g_aload_n hF d_X3_call_51 rfl 0 rfl ?_
          refine g_iload_n hF d_X3_call_52 rfl 2 rfl ?_
          refine g_iconst hF (v := 1) d_X3_call_53 (by decide) ?_
          refine g_iadd hF d_X3_call_54 ?_
          refine g_callV (As := [.int (x2 + 1)]) (rest := []) hF (((ih (by have e0 := s_rng x2; have e1 : (1 : Int32).toInt = 1 := (by decide); obtain ⟨k2, e2⟩ := s_add x2 (1 : Int32); have e2a := s_rng (x2 + 1); have e4 : (25 : Int32).toInt = 25 := (by decide); omega)) σ (x2 + 1) (by have e0 := s_rng x2; have e1 : (1 : Int32).toInt = 1 := (by decide); obtain ⟨k2, e2⟩ := s_add x2 (1 : Int32); have e2a := s_rng (x2 + 1); have e4 : (25 : Int32).toInt = 25 := (by decide); omega) (by have e0 := s_rng x2; have e1 : (1 : Int32).toInt = 1 := (by decide); obtain ⟨k2, e2⟩ := s_add x2 (1 : Int32); have e2a := s_rng (x2 + 1); have e4 : (25 : Int32).toInt = 25 := (by decide); omega) inv hgp).1) (by have : 2 ≤ k := (by have e0 := s_rng x2; have e1 : (1 : Int32).toInt = 1 := (by decide); obtain ⟨k2, e2⟩ := s_add x2 (1 : Int32); have e2a := s_rng (x2 + 1); have e4 : (25 : Int32).toInt = 25 := (by decide); omega); omega) mV_X3_expression m_927 (recv_ob obC_3) rfl rfl (Nat.le_of_ble_eq_true rfl) d_X3_call_55 (k_v (fun σ7 ⟨⟨hgp7, hgm7⟩, iσ7, ik7⟩ => ?_)) (fun _ _ _ h => h.elim)
          have hmo7 : Mo σ7 σ := fun h9 => mo_e (show σ 3 3 = σ 3 3 from rfl) (hgm7 h9)
          have kp : Keep [(3, 1), (3, 2), (3, 3), (3, 4), (3, 9)] [18, 19, 20, 21, 22, 23] σ0 σ7 := keep_c kp ik7 (by decide) (by decide)
          refine g_aload_n hF d_X3_call_58 rfl 0 rfl ?_
          refine g_iconst hF (v := 5) d_X3_call_59 (by decide) ?_
          refine g_iload_n hF d_X3_call_60 rfl 1 rfl ?_
          refine g_iconst hF (v := 0) d_X3_call_61 (by decide) ?_
          refine g_iconst hF (v := 0) d_X3_call_62 (by decide) ?_
          refine g_callV (As := [.int 5, .int x1, .int 0, .int 0]) (rest := []) hF (c_X3_add a g r σ7 (5 : Int32) x1 (0 : Int32) (0 : Int32) (fun h9 => absurd h9 (by decide)) hgp7 iσ7) (Nat.le_of_ble_eq_true rfl) mV_X3_add m_923 (recv_ob obC_3) rfl rfl (Nat.le_of_ble_eq_true rfl) d_X3_call_63 (k_i (fun r8 σ8 ⟨⟨hgp8, hgm8⟩, iσ8, ik8⟩ => ?_)) (fun _ _ _ h => h.elim)
          have hmo8 : Mo σ8 σ7 := fun h9 => mo_e (show σ7 3 3 = σ7 3 3 from rfl) (hgm8 h9)
          have kp : Keep [(3, 1), (3, 2), (3, 3), (3, 4), (3, 9)] [18, 19, 20, 21, 22, 23] σ0 σ8 := keep_c kp ik8 (by decide) (by decide)
          refine g_pop hF d_X3_call_66 rfl ?_
          refine g_aload_n hF d_X3_call_67 rfl 0 rfl ?_
          refine g_bipush hF (v := 26) d_X3_call_68 (by decide) ?_
          refine g_callV (As := [.int 26]) (rest := []) hF (c_X3_accept a g r σ8 (26 : Int32) hgp8 (by show ¬ (26 = 0 ∨ 26 = -1); have e0 : (26 : Int32).toInt = 26 := (by decide); omega) iσ8) (Nat.le_of_ble_eq_true rfl) mV_X3_accept m_966 (recv_ob obC_3) rfl rfl (Nat.le_of_ble_eq_true rfl) d_X3_call_70 (k_i (fun r9 σ9 ⟨hz9, ⟨hgp9, hgm9⟩, iσ9, ik9⟩ => ?_)) (fun _ _ _ h => h.elim)
          have hmo9 : Mo σ9 σ7 := fun h9 => mo_e (show σ8 3 3 = σ7 3 3 from (ik8 3 3 rfl rfl rfl)) (hgm9 h9)
          have kp : Keep [(3, 1), (3, 2), (3, 3), (3, 4), (3, 9)] [18, 19, 20, 21, 22, 23] σ0 σ9 := keep_c kp ik9 (by decide) (by decide)
          refine g_istore_n hF [(3, .int r9), (0, .ref (r 3)), (1, .int x1), (2, .int x2), (4, .int x4)] d_X3_call_73 rfl hnn (by decide) rfl ?_
          refine g_iinc hF (x4 + (-1)) [(4, .int (x4 + (-1))), (3, .int r9), (0, .ref (r 3)), (1, .int x1), (2, .int x2)] d_X3_call_74 4 rfl rfl hnn (by decide) rfl ?_
          refine g_goto hF 42 d_X3_call_77 (by decide) ?_
          exact g_sub (L' := [(0, .ref (r 3)), (1, .int x1), (2, .int x2), (3, .int r9), (4, .int (x4 + (-1)))]) [2, 3, 4, 1, 0] rfl (ih42 _ (N42 ▸ dnm_lt c1_44 (by decide)) σ9 x1 x2 r9 (x4 + (-1)) rfl iσ9 kp hz9 hgp9 (fun h9 => (hgm (hmo7 (mo_e (show σ9 3 3 = σ7 3 3 from ((ik9 3 3 rfl rfl rfl).trans (ik8 3 3 rfl rfl rfl))) h9)))) h1 hk (by have e0 := s_rng x2; have e1 : (1 : Int32).toInt = 1 := (by decide); have e2 : (25 : Int32).toInt = 25 := (by decide); omega))
  have kp : Keep [(3, 1), (3, 2), (3, 3), (3, 4), (3, 9)] [18, 19, 20, 21, 22, 23] σ0 σ0 := keep_rf
  refine g_aload_n hF d_X3_call_0 rfl 0 rfl ?_
  refine g_iload_n hF d_X3_call_1 rfl 2 rfl ?_
  refine g_callV (As := [.int a2]) (rest := []) hF (c_X3_deeper a g r σ0 a2 hgp (by show ¬ ((σ0 3 2).toInt = 0 ∨ (σ0 3 2).toInt = -1); have e0 := s_rng a2; have e1 := s_rng (σ0 3 2); have e2 : (1 : Int32).toInt = 1 := (by decide); omega) i0) (Nat.le_of_ble_eq_true rfl) mV_X3_deeper m_943 (recv_ob obC_3) rfl rfl (Nat.le_of_ble_eq_true rfl) d_X3_call_2 (k_i (fun r10 σ10 ⟨hz10, hp10, ⟨hgp10, hgm10⟩, iσ10, ik10⟩ => ?_)) (fun _ _ _ h => h.elim)
  have hmo10 : Mo σ10 σ0 := fun h9 => mo_e (show σ0 3 3 = σ0 3 3 from rfl) (hgm10 h9)
  have kp : Keep [(3, 1), (3, 2), (3, 3), (3, 4), (3, 9)] [18, 19, 20, 21, 22, 23] σ0 σ10 := keep_c kp ik10 (by decide) (by decide)
  refine g_if_ne hF 9 d_X3_call_5 (by decide) rfl (fun c11_5 => ?_) (fun c11_5 => ?_)
  · -- taken at 5
    refine g_aload_n hF d_X3_call_9 rfl 0 rfl ?_
    refine g_iconst hF (v := 4) d_X3_call_10 (by decide) ?_
    refine g_iload_n hF d_X3_call_11 rfl 1 rfl ?_
    refine g_iconst hF (v := 0) d_X3_call_12 (by decide) ?_
    refine g_iconst hF (v := 0) d_X3_call_13 (by decide) ?_
    refine g_callV (As := [.int 4, .int a1, .int 0, .int 0]) (rest := []) hF (c_X3_add a g r σ10 (4 : Int32) a1 (0 : Int32) (0 : Int32) (fun h9 => absurd h9 (by decide)) hgp10 iσ10) (Nat.le_of_ble_eq_true rfl) mV_X3_add m_923 (recv_ob obC_3) rfl rfl (Nat.le_of_ble_eq_true rfl) d_X3_call_14 (k_i (fun r12 σ12 ⟨⟨hgp12, hgm12⟩, iσ12, ik12⟩ => ?_)) (fun _ _ _ h => h.elim)
    have hmo12 : Mo σ12 σ10 := fun h9 => mo_e (show σ10 3 3 = σ10 3 3 from rfl) (hgm12 h9)
    have kp : Keep [(3, 1), (3, 2), (3, 3), (3, 4), (3, 9)] [18, 19, 20, 21, 22, 23] σ0 σ12 := keep_c kp ik12 (by decide) (by decide)
    refine g_pop hF d_X3_call_17 rfl ?_
    refine g_aload_n hF d_X3_call_18 rfl 0 rfl ?_
    refine g_get (v := .int (σ12 3 2)) hF 2 obC_3 (by decide) m_96 rfl d_X3_call_19 ?_
    refine g_top (v := (σ10 3 2)) (ik12 3 2 rfl rfl rfl) ?_
    refine g_bipush hF (v := 21) d_X3_call_22 (by decide) ?_
    refine g_icmp_eq (yv := 21) hF 31 d_X3_call_24 (by decide) rfl (by decide) (fun c13_24 => ?_) (fun c13_24 => ?_)
    · -- taken at 24
      refine g_iconst hF (v := 0) d_X3_call_31 (by decide) ?_
      refine g_istore_n hF [(3, .int 0), (0, .ref (r 3)), (1, .int a1), (2, .int a2)] d_X3_call_32 rfl hnn (by decide) rfl ?_
      refine g_aload_n hF d_X3_call_33 rfl 1 rfl ?_
      refine g_get (v := .ref (r 2)) hF 0 obC_3 (by decide) m_94 rfl d_X3_call_34 ?_
      refine g_getN (v := .int (σ12 2 4)) hF 4 obC_2 (by decide) nm_47 rfl d_X3_call_37 ?_
      refine g_top (v := (σ0 2 4)) ((ik12 2 4 rfl rfl rfl).trans (ik10 2 4 rfl rfl rfl)) ?_
      refine g_istore hF [(4, .int (σ0 2 4)), (3, .int 0), (0, .ref (r 3)), (1, .int a1), (2, .int a2)] d_X3_call_40 hnn (by decide) rfl ?_
      exact g_sub (L' := [(0, .ref (r 3)), (1, .int a1), (2, .int a2), (3, .int 0), (4, .int (σ0 2 4))]) [2, 3, 4, 1, 0] rfl (b42 _ σ12 a1 a2 (0 : Int32) (σ0 2 4) rfl iσ12 kp (Or.inl rfl) hgp12 (fun h9 => (hmo10 (mo_e (show σ12 3 3 = σ10 3 3 from (ik12 3 3 rfl rfl rfl)) h9))) h1 hk (by have e0 := s_rng a2; have e1 : (1 : Int32).toInt = 1 := (by decide); have e2 := s_rng r10; have e3 : (0 : Int32).toInt = 0 := (by decide); omega))
    · -- not taken at 24
      refine g_iconst hF (v := 1) d_X3_call_27 (by decide) ?_
      refine g_goto hF 32 d_X3_call_28 (by decide) ?_
      refine g_istore_n hF [(3, .int 1), (0, .ref (r 3)), (1, .int a1), (2, .int a2)] d_X3_call_32 rfl hnn (by decide) rfl ?_
      refine g_aload_n hF d_X3_call_33 rfl 1 rfl ?_
      refine g_get (v := .ref (r 2)) hF 0 obC_3 (by decide) m_94 rfl d_X3_call_34 ?_
      refine g_getN (v := .int (σ12 2 4)) hF 4 obC_2 (by decide) nm_47 rfl d_X3_call_37 ?_
      refine g_top (v := (σ0 2 4)) ((ik12 2 4 rfl rfl rfl).trans (ik10 2 4 rfl rfl rfl)) ?_
      refine g_istore hF [(4, .int (σ0 2 4)), (3, .int 1), (0, .ref (r 3)), (1, .int a1), (2, .int a2)] d_X3_call_40 hnn (by decide) rfl ?_
      exact g_sub (L' := [(0, .ref (r 3)), (1, .int a1), (2, .int a2), (3, .int 1), (4, .int (σ0 2 4))]) [2, 3, 4, 1, 0] rfl (b42 _ σ12 a1 a2 (1 : Int32) (σ0 2 4) rfl iσ12 kp (Or.inr rfl) hgp12 (fun h9 => (hmo10 (mo_e (show σ12 3 3 = σ10 3 3 from (ik12 3 3 rfl rfl rfl)) h9))) h1 hk (by have e0 := s_rng a2; have e1 : (1 : Int32).toInt = 1 := (by decide); have e2 := s_rng r10; have e3 : (0 : Int32).toInt = 0 := (by decide); omega))
  · -- not taken at 5
    exact g_vret hF rfl d_X3_call_8 ⟨rfl, rfl, rfl, ⟨⟨hgp10, (fun h9 => (hmo10 (mo_e (show σ10 3 3 = σ10 3 3 from rfl) h9)))⟩, iσ10, kp⟩⟩
set_option maxHeartbeats 4000000 in
set_option maxRecDepth 100000 in
theorem c_X3_primary (a : Nat → Nat) (g : Nat → Nat → Int32) (r : Nat → Nat) (k : Nat) (σ0 : St) (a1 : Int32) (ih : 2 ≤ k → RX a g r (k - 1)) (h1 : 1 ≤ a1.toInt) (hk : a1.toInt + (k : Int) = 26) (hgp : GPS σ0) (i0 : Inv σ0) (l : Launch) (D : va_G) (cy : Nat → ClassId) : Ct l D cy SC r (EC a g) y_X3_primary (Cond.code y_X3_primary b_X3_primary 3 none) (14 * k + 3) [.ref (r 3), .int a1] σ0 Z0 [] (QV (fun σ9 => ((GPS σ9 ∧ Mo σ9 σ0) ∧ (Inv σ9 ∧ Keep [(3, 1), (3, 2), (3, 3), (3, 4), (3, 9)] [18, 19, 20, 21, 22, 23] σ0 σ9)))) QF := by
  refine Ct_of (EC_ok a g) (by decide) (Nat.le_of_ble_eq_true rfl) (by decide) (fun X hnn hF => ?_)
  show G SC r X σ0 Z0 [] [(0, .ref (r 3)), (1, .int a1)] [] 0
  have kp : Keep [(3, 1), (3, 2), (3, 3), (3, 4), (3, 9)] [18, 19, 20, 21, 22, 23] σ0 σ0 := keep_rf
  refine g_aload_n hF d_X3_primary_0 rfl 0 rfl ?_
  refine g_get (v := .int (σ0 3 1)) hF 1 obC_3 (by decide) m_95 rfl d_X3_primary_1 ?_
  refine g_istore_n hF [(2, .int (σ0 3 1)), (0, .ref (r 3)), (1, .int a1)] d_X3_primary_4 rfl hnn (by decide) rfl ?_
  refine g_aload_n hF d_X3_primary_5 rfl 1 rfl ?_
  refine g_get (v := .int (σ0 3 2)) hF 2 obC_3 (by decide) m_96 rfl d_X3_primary_6 ?_
  refine (Decidable.em ((σ0 3 2).toInt = 2)).elim (fun q1_9_0 => ?_) (fun q1_9_0 => ?_)
  · refine g_lookup (off := 71) hF 80 d_X3_primary_9 (by decide +kernel) (by rw [q1_9_0]; decide +kernel) (by decide) ?_
    refine g_aload_n hF d_X3_primary_80 rfl 1 rfl ?_
    refine g_callV (As := []) (rest := []) hF (c_X3_advance a g r σ0 hgp.2.2 (by show -1 ≤ (σ0 3 1).toInt ∧ (σ0 3 1).toInt ≤ 16001; have hki := hgp.2.1.1; have hgz := hgp.1; have e0 := s_rng (σ0 3 1); omega) i0) (Nat.le_of_ble_eq_true rfl) mV_X3_advance m_899 (recv_ob obC_3) rfl rfl (Nat.le_of_ble_eq_true rfl) d_X3_primary_81 (k_v (fun σ2 ⟨⟨hgp2, hgm2⟩, hs2, iσ2, ik2⟩ => ?_)) (fun _ _ _ h => h.elim)
    have hs2 : (σ2 3 1).toInt = (σ0 3 1).toInt + 1 := hs2
    have hmo2 : Mo σ2 σ0 := fun h9 => mo_e (show σ0 3 3 = σ0 3 3 from rfl) (hgm2 h9)
    have kp : Keep [(3, 1), (3, 2), (3, 3), (3, 4), (3, 9)] [18, 19, 20, 21, 22, 23] σ0 σ2 := keep_c kp ik2 (by decide) (by decide)
    refine g_aload_n hF d_X3_primary_84 rfl 1 rfl ?_
    refine g_get (v := .int (σ2 3 2)) hF 2 obC_3 (by decide) m_96 rfl d_X3_primary_85 ?_
    refine g_bipush hF (v := 20) d_X3_primary_88 (by decide) ?_
    refine g_icmp_ne (yv := 20) hF 102 d_X3_primary_90 (by decide) rfl (by decide) (fun c3_90 => ?_) (fun c3_90 => ?_)
    · -- taken at 90
      refine g_aload_n hF d_X3_primary_102 rfl 1 rfl ?_
      refine g_iconst hF (v := 3) d_X3_primary_103 (by decide) ?_
      refine g_iload_n hF d_X3_primary_104 rfl 0 rfl ?_
      refine g_iconst hF (v := 0) d_X3_primary_105 (by decide) ?_
      refine g_iconst hF (v := 0) d_X3_primary_106 (by decide) ?_
      refine g_callV (As := [.int 3, .int (σ0 3 1), .int 0, .int 0]) (rest := []) hF (c_X3_add a g r σ2 (3 : Int32) (σ0 3 1) (0 : Int32) (0 : Int32) (fun h9 => absurd h9 (by decide)) hgp2 iσ2) (Nat.le_of_ble_eq_true rfl) mV_X3_add m_923 (recv_ob obC_3) rfl rfl (Nat.le_of_ble_eq_true rfl) d_X3_primary_107 (k_i (fun r4 σ4 ⟨⟨hgp4, hgm4⟩, iσ4, ik4⟩ => ?_)) (fun _ _ _ h => h.elim)
      have hmo4 : Mo σ4 σ0 := fun h9 => mo_e (show σ2 3 3 = σ0 3 3 from (ik2 3 3 rfl rfl rfl)) (hgm4 h9)
      have kp : Keep [(3, 1), (3, 2), (3, 3), (3, 4), (3, 9)] [18, 19, 20, 21, 22, 23] σ0 σ4 := keep_c kp ik4 (by decide) (by decide)
      refine g_pop hF d_X3_primary_110 rfl ?_
      refine g_goto hF 142 d_X3_primary_111 (by decide) ?_
      exact g_vret hF rfl d_X3_primary_142 ⟨rfl, rfl, rfl, ⟨⟨hgp4, (fun h9 => (mo_e (show σ4 3 3 = σ0 3 3 from ((ik4 3 3 rfl rfl rfl).trans (ik2 3 3 rfl rfl rfl))) h9))⟩, iσ4, kp⟩⟩
    · -- not taken at 90
      refine g_aload_n hF d_X3_primary_93 rfl 1 rfl ?_
      refine g_iload_n hF d_X3_primary_94 rfl 0 rfl ?_
      refine g_iload_n hF d_X3_primary_95 rfl 2 rfl ?_
      refine g_callV (As := [.int (σ0 3 1), .int a1]) (rest := []) hF (c_X3_call a g r k σ2 (σ0 3 1) a1 ih h1 hk hgp2 (by show ¬ ((σ2 3 2).toInt = 0 ∨ (σ2 3 2).toInt = -1); have e0 := s_rng (σ0 3 1); have e1 := s_rng a1; have e2 := s_rng (σ2 3 2); have e3 := s_rng (σ0 3 2); have e4 : (1 : Int32).toInt = 1 := (by decide); have e5 : (2 : Int32).toInt = 2 := (by decide); have e6 : (20 : Int32).toInt = 20 := (by decide); omega) iσ2) (by omega) mV_X3_call m_962 (recv_ob obC_3) rfl rfl (Nat.le_of_ble_eq_true rfl) d_X3_primary_96 (k_v (fun σ5 ⟨⟨hgp5, hgm5⟩, iσ5, ik5⟩ => ?_)) (fun _ _ _ h => h.elim)
      have hmo5 : Mo σ5 σ0 := fun h9 => mo_e (show σ2 3 3 = σ0 3 3 from (ik2 3 3 rfl rfl rfl)) (hgm5 h9)
      have kp : Keep [(3, 1), (3, 2), (3, 3), (3, 4), (3, 9)] [18, 19, 20, 21, 22, 23] σ0 σ5 := keep_c kp ik5 (by decide) (by decide)
      refine g_goto hF 142 d_X3_primary_99 (by decide) ?_
      exact g_vret hF rfl d_X3_primary_142 ⟨rfl, rfl, rfl, ⟨⟨hgp5, (fun h9 => (hmo5 (mo_e (show σ5 3 3 = σ5 3 3 from rfl) h9)))⟩, iσ5, kp⟩⟩
  refine (Decidable.em ((σ0 3 2).toInt = 3)).elim (fun q6_9_1 => ?_) (fun q6_9_1 => ?_)
  · refine g_lookup (off := 43) hF 52 d_X3_primary_9 (by decide +kernel) (by rw [q6_9_1]; decide +kernel) (by decide) ?_
    refine g_aload_n hF d_X3_primary_52 rfl 1 rfl ?_
    refine g_aload_n hF d_X3_primary_53 rfl 1 rfl ?_
    refine g_get (v := .int (σ0 3 2)) hF 2 obC_3 (by decide) m_96 rfl d_X3_primary_54 ?_
    refine g_iconst hF (v := 3) d_X3_primary_57 (by decide) ?_
    refine g_icmp_ne (yv := 3) hF 65 d_X3_primary_58 (by decide) rfl (by decide) (fun c7_58 => ?_) (fun c7_58 => ?_)
    · -- taken at 58
      refine g_iconst hF (v := 2) d_X3_primary_65 (by decide) ?_
      refine g_iload_n hF d_X3_primary_66 rfl 0 rfl ?_
      refine g_iconst hF (v := 0) d_X3_primary_67 (by decide) ?_
      refine g_iconst hF (v := 0) d_X3_primary_68 (by decide) ?_
      refine g_callV (As := [.int 2, .int (σ0 3 1), .int 0, .int 0]) (rest := []) hF (c_X3_add a g r σ0 (2 : Int32) (σ0 3 1) (0 : Int32) (0 : Int32) (fun h9 => absurd h9 (by decide)) hgp i0) (Nat.le_of_ble_eq_true rfl) mV_X3_add m_923 (recv_ob obC_3) rfl rfl (Nat.le_of_ble_eq_true rfl) d_X3_primary_69 (k_i (fun r8 σ8 ⟨⟨hgp8, hgm8⟩, iσ8, ik8⟩ => ?_)) (fun _ _ _ h => h.elim)
      have hmo8 : Mo σ8 σ0 := fun h9 => mo_e (show σ0 3 3 = σ0 3 3 from rfl) (hgm8 h9)
      have kp : Keep [(3, 1), (3, 2), (3, 3), (3, 4), (3, 9)] [18, 19, 20, 21, 22, 23] σ0 σ8 := keep_c kp ik8 (by decide) (by decide)
      refine g_pop hF d_X3_primary_72 rfl ?_
      refine g_aload_n hF d_X3_primary_73 rfl 1 rfl ?_
      refine g_callV (As := []) (rest := []) hF (c_X3_advance a g r σ8 hgp8.2.2 (by rw [show (σ8 3 1) = (σ0 3 1) from (ik8 3 1 rfl rfl rfl)]; show -1 ≤ (σ0 3 1).toInt ∧ (σ0 3 1).toInt ≤ 16001; have hki := hgp8.2.1.1; have hgz := hgp8.1; have hq91 : (σ8 3 1).toInt = (σ0 3 1).toInt := (by rw [show (σ8 3 1) = (σ0 3 1) from (ik8 3 1 rfl rfl rfl)]); have hq92 : (σ8 3 2).toInt = (σ0 3 2).toInt := (by rw [show (σ8 3 2) = (σ0 3 2) from (ik8 3 2 rfl rfl rfl)]); have e0 := s_rng (σ0 3 1); omega) iσ8) (Nat.le_of_ble_eq_true rfl) mV_X3_advance m_899 (recv_ob obC_3) rfl rfl (Nat.le_of_ble_eq_true rfl) d_X3_primary_74 (k_v (fun σ9 ⟨⟨hgp9, hgm9⟩, hs9, iσ9, ik9⟩ => ?_)) (fun _ _ _ h => h.elim)
      have hs9 : (σ9 3 1).toInt = (σ0 3 1).toInt + 1 := (by have h9 := hs9; rw [show (σ8 3 1) = (σ0 3 1) from (ik8 3 1 rfl rfl rfl)] at h9; exact h9)
      have hmo9 : Mo σ9 σ0 := fun h9 => mo_e (show σ8 3 3 = σ0 3 3 from (ik8 3 3 rfl rfl rfl)) (hgm9 h9)
      have kp : Keep [(3, 1), (3, 2), (3, 3), (3, 4), (3, 9)] [18, 19, 20, 21, 22, 23] σ0 σ9 := keep_c kp ik9 (by decide) (by decide)
      refine g_goto hF 142 d_X3_primary_77 (by decide) ?_
      exact g_vret hF rfl d_X3_primary_142 ⟨rfl, rfl, rfl, ⟨⟨hgp9, (fun h9 => (mo_e (show σ9 3 3 = σ0 3 3 from ((ik9 3 3 rfl rfl rfl).trans (ik8 3 3 rfl rfl rfl))) h9))⟩, iσ9, kp⟩⟩
    · -- not taken at 58
      refine g_iconst hF (v := 1) d_X3_primary_61 (by decide) ?_
      refine g_goto hF 66 d_X3_primary_62 (by decide) ?_
      refine g_iload_n hF d_X3_primary_66 rfl 0 rfl ?_
      refine g_iconst hF (v := 0) d_X3_primary_67 (by decide) ?_
      refine g_iconst hF (v := 0) d_X3_primary_68 (by decide) ?_
      refine g_callV (As := [.int 1, .int (σ0 3 1), .int 0, .int 0]) (rest := []) hF (c_X3_add a g r σ0 (1 : Int32) (σ0 3 1) (0 : Int32) (0 : Int32) (fun h9 => absurd h9 (by decide)) hgp i0) (Nat.le_of_ble_eq_true rfl) mV_X3_add m_923 (recv_ob obC_3) rfl rfl (Nat.le_of_ble_eq_true rfl) d_X3_primary_69 (k_i (fun r10 σ10 ⟨⟨hgp10, hgm10⟩, iσ10, ik10⟩ => ?_)) (fun _ _ _ h => h.elim)
      have hmo10 : Mo σ10 σ0 := fun h9 => mo_e (show σ0 3 3 = σ0 3 3 from rfl) (hgm10 h9)
      have kp : Keep [(3, 1), (3, 2), (3, 3), (3, 4), (3, 9)] [18, 19, 20, 21, 22, 23] σ0 σ10 := keep_c kp ik10 (by decide) (by decide)
      refine g_pop hF d_X3_primary_72 rfl ?_
      refine g_aload_n hF d_X3_primary_73 rfl 1 rfl ?_
      refine g_callV (As := []) (rest := []) hF (c_X3_advance a g r σ10 hgp10.2.2 (by rw [show (σ10 3 1) = (σ0 3 1) from (ik10 3 1 rfl rfl rfl)]; show -1 ≤ (σ0 3 1).toInt ∧ (σ0 3 1).toInt ≤ 16001; have hki := hgp10.2.1.1; have hgz := hgp10.1; have hq91 : (σ10 3 1).toInt = (σ0 3 1).toInt := (by rw [show (σ10 3 1) = (σ0 3 1) from (ik10 3 1 rfl rfl rfl)]); have hq92 : (σ10 3 2).toInt = (σ0 3 2).toInt := (by rw [show (σ10 3 2) = (σ0 3 2) from (ik10 3 2 rfl rfl rfl)]); have e0 := s_rng (σ0 3 1); omega) iσ10) (Nat.le_of_ble_eq_true rfl) mV_X3_advance m_899 (recv_ob obC_3) rfl rfl (Nat.le_of_ble_eq_true rfl) d_X3_primary_74 (k_v (fun σ11 ⟨⟨hgp11, hgm11⟩, hs11, iσ11, ik11⟩ => ?_)) (fun _ _ _ h => h.elim)
      have hs11 : (σ11 3 1).toInt = (σ0 3 1).toInt + 1 := (by have h9 := hs11; rw [show (σ10 3 1) = (σ0 3 1) from (ik10 3 1 rfl rfl rfl)] at h9; exact h9)
      have hmo11 : Mo σ11 σ0 := fun h9 => mo_e (show σ10 3 3 = σ0 3 3 from (ik10 3 3 rfl rfl rfl)) (hgm11 h9)
      have kp : Keep [(3, 1), (3, 2), (3, 3), (3, 4), (3, 9)] [18, 19, 20, 21, 22, 23] σ0 σ11 := keep_c kp ik11 (by decide) (by decide)
      refine g_goto hF 142 d_X3_primary_77 (by decide) ?_
      exact g_vret hF rfl d_X3_primary_142 ⟨rfl, rfl, rfl, ⟨⟨hgp11, (fun h9 => (mo_e (show σ11 3 3 = σ0 3 3 from ((ik11 3 3 rfl rfl rfl).trans (ik10 3 3 rfl rfl rfl))) h9))⟩, iσ11, kp⟩⟩
  refine (Decidable.em ((σ0 3 2).toInt = 4)).elim (fun q12_9_2 => ?_) (fun q12_9_2 => ?_)
  · refine g_lookup (off := 43) hF 52 d_X3_primary_9 (by decide +kernel) (by rw [q12_9_2]; decide +kernel) (by decide) ?_
    refine g_aload_n hF d_X3_primary_52 rfl 1 rfl ?_
    refine g_aload_n hF d_X3_primary_53 rfl 1 rfl ?_
    refine g_get (v := .int (σ0 3 2)) hF 2 obC_3 (by decide) m_96 rfl d_X3_primary_54 ?_
    refine g_iconst hF (v := 3) d_X3_primary_57 (by decide) ?_
    refine g_icmp_ne (yv := 3) hF 65 d_X3_primary_58 (by decide) rfl (by decide) (fun c13_58 => ?_) (fun c13_58 => ?_)
    · -- taken at 58
      refine g_iconst hF (v := 2) d_X3_primary_65 (by decide) ?_
      refine g_iload_n hF d_X3_primary_66 rfl 0 rfl ?_
      refine g_iconst hF (v := 0) d_X3_primary_67 (by decide) ?_
      refine g_iconst hF (v := 0) d_X3_primary_68 (by decide) ?_
      refine g_callV (As := [.int 2, .int (σ0 3 1), .int 0, .int 0]) (rest := []) hF (c_X3_add a g r σ0 (2 : Int32) (σ0 3 1) (0 : Int32) (0 : Int32) (fun h9 => absurd h9 (by decide)) hgp i0) (Nat.le_of_ble_eq_true rfl) mV_X3_add m_923 (recv_ob obC_3) rfl rfl (Nat.le_of_ble_eq_true rfl) d_X3_primary_69 (k_i (fun r14 σ14 ⟨⟨hgp14, hgm14⟩, iσ14, ik14⟩ => ?_)) (fun _ _ _ h => h.elim)
      have hmo14 : Mo σ14 σ0 := fun h9 => mo_e (show σ0 3 3 = σ0 3 3 from rfl) (hgm14 h9)
      have kp : Keep [(3, 1), (3, 2), (3, 3), (3, 4), (3, 9)] [18, 19, 20, 21, 22, 23] σ0 σ14 := keep_c kp ik14 (by decide) (by decide)
      refine g_pop hF d_X3_primary_72 rfl ?_
      refine g_aload_n hF d_X3_primary_73 rfl 1 rfl ?_
      refine g_callV (As := []) (rest := []) hF (c_X3_advance a g r σ14 hgp14.2.2 (by rw [show (σ14 3 1) = (σ0 3 1) from (ik14 3 1 rfl rfl rfl)]; show -1 ≤ (σ0 3 1).toInt ∧ (σ0 3 1).toInt ≤ 16001; have hki := hgp14.2.1.1; have hgz := hgp14.1; have hq91 : (σ14 3 1).toInt = (σ0 3 1).toInt := (by rw [show (σ14 3 1) = (σ0 3 1) from (ik14 3 1 rfl rfl rfl)]); have hq92 : (σ14 3 2).toInt = (σ0 3 2).toInt := (by rw [show (σ14 3 2) = (σ0 3 2) from (ik14 3 2 rfl rfl rfl)]); have e0 := s_rng (σ0 3 1); omega) iσ14) (Nat.le_of_ble_eq_true rfl) mV_X3_advance m_899 (recv_ob obC_3) rfl rfl (Nat.le_of_ble_eq_true rfl) d_X3_primary_74 (k_v (fun σ15 ⟨⟨hgp15, hgm15⟩, hs15, iσ15, ik15⟩ => ?_)) (fun _ _ _ h => h.elim)
      have hs15 : (σ15 3 1).toInt = (σ0 3 1).toInt + 1 := (by have h9 := hs15; rw [show (σ14 3 1) = (σ0 3 1) from (ik14 3 1 rfl rfl rfl)] at h9; exact h9)
      have hmo15 : Mo σ15 σ0 := fun h9 => mo_e (show σ14 3 3 = σ0 3 3 from (ik14 3 3 rfl rfl rfl)) (hgm15 h9)
      have kp : Keep [(3, 1), (3, 2), (3, 3), (3, 4), (3, 9)] [18, 19, 20, 21, 22, 23] σ0 σ15 := keep_c kp ik15 (by decide) (by decide)
      refine g_goto hF 142 d_X3_primary_77 (by decide) ?_
      exact g_vret hF rfl d_X3_primary_142 ⟨rfl, rfl, rfl, ⟨⟨hgp15, (fun h9 => (mo_e (show σ15 3 3 = σ0 3 3 from ((ik15 3 3 rfl rfl rfl).trans (ik14 3 3 rfl rfl rfl))) h9))⟩, iσ15, kp⟩⟩
    · -- not taken at 58
      refine g_iconst hF (v := 1) d_X3_primary_61 (by decide) ?_
      refine g_goto hF 66 d_X3_primary_62 (by decide) ?_
      refine g_iload_n hF d_X3_primary_66 rfl 0 rfl ?_
      refine g_iconst hF (v := 0) d_X3_primary_67 (by decide) ?_
      refine g_iconst hF (v := 0) d_X3_primary_68 (by decide) ?_
      refine g_callV (As := [.int 1, .int (σ0 3 1), .int 0, .int 0]) (rest := []) hF (c_X3_add a g r σ0 (1 : Int32) (σ0 3 1) (0 : Int32) (0 : Int32) (fun h9 => absurd h9 (by decide)) hgp i0) (Nat.le_of_ble_eq_true rfl) mV_X3_add m_923 (recv_ob obC_3) rfl rfl (Nat.le_of_ble_eq_true rfl) d_X3_primary_69 (k_i (fun r16 σ16 ⟨⟨hgp16, hgm16⟩, iσ16, ik16⟩ => ?_)) (fun _ _ _ h => h.elim)
      have hmo16 : Mo σ16 σ0 := fun h9 => mo_e (show σ0 3 3 = σ0 3 3 from rfl) (hgm16 h9)
      have kp : Keep [(3, 1), (3, 2), (3, 3), (3, 4), (3, 9)] [18, 19, 20, 21, 22, 23] σ0 σ16 := keep_c kp ik16 (by decide) (by decide)
      refine g_pop hF d_X3_primary_72 rfl ?_
      refine g_aload_n hF d_X3_primary_73 rfl 1 rfl ?_
      refine g_callV (As := []) (rest := []) hF (c_X3_advance a g r σ16 hgp16.2.2 (by rw [show (σ16 3 1) = (σ0 3 1) from (ik16 3 1 rfl rfl rfl)]; show -1 ≤ (σ0 3 1).toInt ∧ (σ0 3 1).toInt ≤ 16001; have hki := hgp16.2.1.1; have hgz := hgp16.1; have hq91 : (σ16 3 1).toInt = (σ0 3 1).toInt := (by rw [show (σ16 3 1) = (σ0 3 1) from (ik16 3 1 rfl rfl rfl)]); have hq92 : (σ16 3 2).toInt = (σ0 3 2).toInt := (by rw [show (σ16 3 2) = (σ0 3 2) from (ik16 3 2 rfl rfl rfl)]); have e0 := s_rng (σ0 3 1); omega) iσ16) (Nat.le_of_ble_eq_true rfl) mV_X3_advance m_899 (recv_ob obC_3) rfl rfl (Nat.le_of_ble_eq_true rfl) d_X3_primary_74 (k_v (fun σ17 ⟨⟨hgp17, hgm17⟩, hs17, iσ17, ik17⟩ => ?_)) (fun _ _ _ h => h.elim)
      have hs17 : (σ17 3 1).toInt = (σ0 3 1).toInt + 1 := (by have h9 := hs17; rw [show (σ16 3 1) = (σ0 3 1) from (ik16 3 1 rfl rfl rfl)] at h9; exact h9)
      have hmo17 : Mo σ17 σ0 := fun h9 => mo_e (show σ16 3 3 = σ0 3 3 from (ik16 3 3 rfl rfl rfl)) (hgm17 h9)
      have kp : Keep [(3, 1), (3, 2), (3, 3), (3, 4), (3, 9)] [18, 19, 20, 21, 22, 23] σ0 σ17 := keep_c kp ik17 (by decide) (by decide)
      refine g_goto hF 142 d_X3_primary_77 (by decide) ?_
      exact g_vret hF rfl d_X3_primary_142 ⟨rfl, rfl, rfl, ⟨⟨hgp17, (fun h9 => (mo_e (show σ17 3 3 = σ0 3 3 from ((ik17 3 3 rfl rfl rfl).trans (ik16 3 3 rfl rfl rfl))) h9))⟩, iσ17, kp⟩⟩
  refine (Decidable.em ((σ0 3 2).toInt = 20)).elim (fun q18_9_3 => ?_) (fun q18_9_3 => ?_)
  · refine g_lookup (off := 105) hF 114 d_X3_primary_9 (by decide +kernel) (by rw [q18_9_3]; decide +kernel) (by decide) ?_
    refine g_aload_n hF d_X3_primary_114 rfl 1 rfl ?_
    refine g_iload_n hF d_X3_primary_115 rfl 2 rfl ?_
    refine g_callV (As := [.int a1]) (rest := []) hF (c_X3_deeper a g r σ0 a1 hgp (by show ¬ ((σ0 3 2).toInt = 0 ∨ (σ0 3 2).toInt = -1); have e0 := s_rng a1; have e1 := s_rng (σ0 3 2); have e2 : (1 : Int32).toInt = 1 := (by decide); have e3 : (20 : Int32).toInt = 20 := (by decide); omega) i0) (Nat.le_of_ble_eq_true rfl) mV_X3_deeper m_943 (recv_ob obC_3) rfl rfl (Nat.le_of_ble_eq_true rfl) d_X3_primary_116 (k_i (fun r19 σ19 ⟨hz19, hp19, ⟨hgp19, hgm19⟩, iσ19, ik19⟩ => ?_)) (fun _ _ _ h => h.elim)
    have hmo19 : Mo σ19 σ0 := fun h9 => mo_e (show σ0 3 3 = σ0 3 3 from rfl) (hgm19 h9)
    have kp : Keep [(3, 1), (3, 2), (3, 3), (3, 4), (3, 9)] [18, 19, 20, 21, 22, 23] σ0 σ19 := keep_c kp ik19 (by decide) (by decide)
    refine g_if_eq hF 142 d_X3_primary_119 (by decide) rfl (fun c20_119 => ?_) (fun c20_119 => ?_)
    · -- taken at 119
      exact g_vret hF rfl d_X3_primary_142 ⟨rfl, rfl, rfl, ⟨⟨hgp19, (fun h9 => (hmo19 (mo_e (show σ19 3 3 = σ19 3 3 from rfl) h9)))⟩, iσ19, kp⟩⟩
    · -- not taken at 119
      refine g_aload_n hF d_X3_primary_122 rfl 1 rfl ?_
      refine g_iload_n hF d_X3_primary_123 rfl 2 rfl ?_
      refine g_iconst hF (v := 1) d_X3_primary_124 (by decide) ?_
      refine g_iadd hF d_X3_primary_125 ?_
      refine g_callV (As := [.int (a1 + 1)]) (rest := []) hF (((ih (by have e0 := s_rng a1; have e1 : (1 : Int32).toInt = 1 := (by decide); obtain ⟨k2, e2⟩ := s_add a1 (1 : Int32); have e2a := s_rng (a1 + 1); have e4 := s_rng r19; have e5 : (0 : Int32).toInt = 0 := (by decide); omega)) σ19 (a1 + 1) (by have e0 := s_rng a1; have e1 : (1 : Int32).toInt = 1 := (by decide); obtain ⟨k2, e2⟩ := s_add a1 (1 : Int32); have e2a := s_rng (a1 + 1); have e4 := s_rng r19; have e5 : (0 : Int32).toInt = 0 := (by decide); omega) (by have e0 := s_rng a1; have e1 : (1 : Int32).toInt = 1 := (by decide); obtain ⟨k2, e2⟩ := s_add a1 (1 : Int32); have e2a := s_rng (a1 + 1); have e4 := s_rng r19; have e5 : (0 : Int32).toInt = 0 := (by decide); omega) iσ19 hgp19).1) (by have : 2 ≤ k := (by have e0 := s_rng a1; have e1 : (1 : Int32).toInt = 1 := (by decide); obtain ⟨k2, e2⟩ := s_add a1 (1 : Int32); have e2a := s_rng (a1 + 1); have e4 := s_rng r19; have e5 : (0 : Int32).toInt = 0 := (by decide); omega); omega) mV_X3_expression m_927 (recv_ob obC_3) rfl rfl (Nat.le_of_ble_eq_true rfl) d_X3_primary_126 (k_v (fun σ21 ⟨⟨hgp21, hgm21⟩, iσ21, ik21⟩ => ?_)) (fun _ _ _ h => h.elim)
      have hmo21 : Mo σ21 σ19 := fun h9 => mo_e (show σ19 3 3 = σ19 3 3 from rfl) (hgm21 h9)
      have kp : Keep [(3, 1), (3, 2), (3, 3), (3, 4), (3, 9)] [18, 19, 20, 21, 22, 23] σ0 σ21 := keep_c kp ik21 (by decide) (by decide)
      refine g_aload_n hF d_X3_primary_129 rfl 1 rfl ?_
      refine g_bipush hF (v := 21) d_X3_primary_130 (by decide) ?_
      refine g_callV (As := [.int 21]) (rest := []) hF (c_X3_expect a g r σ21 (21 : Int32) hgp21 (by show ¬ (21 = 0 ∨ 21 = -1); have e0 : (21 : Int32).toInt = 21 := (by decide); omega) iσ21) (Nat.le_of_ble_eq_true rfl) mV_X3_expect m_903 (recv_ob obC_3) rfl rfl (Nat.le_of_ble_eq_true rfl) d_X3_primary_132 (k_v (fun σ22 ⟨⟨hgp22, hgm22⟩, hs22, iσ22, ik22⟩ => ?_)) (fun _ _ _ h => h.elim)
      have hs22 : (σ22 3 3).toInt < 0 → (σ21 3 2).toInt = 21 := hs22
      have hmo22 : Mo σ22 σ21 := fun h9 => mo_e (show σ21 3 3 = σ21 3 3 from rfl) (hgm22 h9)
      have kp : Keep [(3, 1), (3, 2), (3, 3), (3, 4), (3, 9)] [18, 19, 20, 21, 22, 23] σ0 σ22 := keep_c kp ik22 (by decide) (by decide)
      refine g_goto hF 142 d_X3_primary_135 (by decide) ?_
      exact g_vret hF rfl d_X3_primary_142 ⟨rfl, rfl, rfl, ⟨⟨hgp22, (fun h9 => (hmo19 (hmo21 (hmo22 (mo_e (show σ22 3 3 = σ22 3 3 from rfl) h9)))))⟩, iσ22, kp⟩⟩
  refine g_lookup (off := 129) hF 138 d_X3_primary_9 (by decide +kernel) ((g_osw (2) (by decide) q1_9_0).trans ((g_osw (3) (by decide) q6_9_1).trans ((g_osw (4) (by decide) q12_9_2).trans ((g_osw (20) (by decide) q18_9_3).trans rfl)))) (by decide) ?_
  refine g_aload_n hF d_X3_primary_138 rfl 1 rfl ?_
  refine g_callV (As := []) (rest := []) hF (c_X3_fail a g r σ0 hgp i0) (Nat.le_of_ble_eq_true rfl) mV_X3_fail m_907 (recv_ob obC_3) rfl rfl (Nat.le_of_ble_eq_true rfl) d_X3_primary_139 (k_v (fun σ23 ⟨⟨hgp23, hgm23⟩, hs23, iσ23, ik23⟩ => ?_)) (fun _ _ _ h => h.elim)
  have hs23 : 0 ≤ (σ23 3 3).toInt := hs23
  have hmo23 : Mo σ23 σ0 := fun h9 => mo_e (show σ0 3 3 = σ0 3 3 from rfl) (hgm23 h9)
  have kp : Keep [(3, 1), (3, 2), (3, 3), (3, 4), (3, 9)] [18, 19, 20, 21, 22, 23] σ0 σ23 := keep_c kp ik23 (by decide) (by decide)
  exact g_vret hF rfl d_X3_primary_142 ⟨rfl, rfl, rfl, ⟨⟨hgp23, (fun h9 => (hmo23 (mo_e (show σ23 3 3 = σ23 3 3 from rfl) h9)))⟩, iσ23, kp⟩⟩
