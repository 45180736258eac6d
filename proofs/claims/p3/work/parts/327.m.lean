set_option maxHeartbeats 4000000 in
set_option maxRecDepth 100000 in
theorem c_X10_word (a : Nat → Nat) (g : Nat → Nat → Int32) (r : Nat → Nat) (σ0 : St) (hpre : (σ0 2 2).toInt < 16000) (i0 : Inv σ0) (l : Launch) (D : va_G) (cy : Nat → ClassId) : Ct l D cy SC r (EC a g) y_X10_word (Cond.code y_X10_word b_X10_word 3 (some .boolean)) 6 [.ref (r 2)] σ0 Z0 [] (QI (fun v9 σ9 => (v9 = 0 ∨ v9 = 1) ∧ (Inv σ9 ∧ Keep [(2, 2), (2, 4)] [13, 14, 15, 16] σ0 σ9))) QF := by
  refine Ct_of (EC_ok a g) (by decide) (Nat.le_of_ble_eq_true rfl) (by decide) (fun X hnn hF => ?_)
  show G SC r X σ0 Z0 [] [(0, .ref (r 2))] [] 0
  have b13 : ∀ (N : Nat) (σ : St) (x1 : Int32) (x2 : Int32) , upm x1 = N → Inv σ → Keep [(2, 2), (2, 4)] [13, 14, 15, 16] σ0 σ → ((σ 2 2).toInt < 16000 ∧ 0 ≤ x1.toInt ∧ x1.toInt ≤ 16001) → G SC r X σ Z0 [] [(0, .ref (r 2)), (1, .int x1), (2, .int x2)] [] 13 := by
    intro M13
    induction M13 using Nat.strongRecOn with
    | _ M13 ih13 =>
      intro σ x1 x2 N13 inv kp hj
      refine g_iload_n hF d_X10_word_13 rfl 1 rfl ?_
      refine g_aload_n hF d_X10_word_14 rfl 0 rfl ?_
      refine g_get (v := .int (σ 2 1)) hF 1 obC_2 (by decide) m_43 rfl d_X10_word_15 ?_
      refine g_icmp_gt hF 54 d_X10_word_18 (by decide) rfl rfl (fun c1_18 => ?_) (fun c1_18 => ?_)
      · -- taken at 18
        refine g_iload_n hF d_X10_word_54 rfl 1 rfl ?_
        refine g_bipush hF (v := 24) d_X10_word_55 (by decide) ?_
        refine g_icmp_le (yv := 24) hF 69 d_X10_word_57 (by decide) rfl (by decide) (fun c2_57 => ?_) (fun c2_57 => ?_)
        · -- taken at 57
          refine g_aload_n hF d_X10_word_69 rfl 0 rfl ?_
          refine g_ldcS hF (fun A s h => (EC_s0 h).1) d_X10_word_70 ?_
          refine g_iload_n hF d_X10_word_72 rfl 1 rfl ?_
          refine g_callV (As := [.ref (a 2), .int x1]) (rest := []) hF (c_X10_listed_r2_s0 a g r σ x1 inv) (Nat.le_of_ble_eq_true rfl) mV_X10_listed m_844 (recv_ob obC_2) rfl rfl (Nat.le_of_ble_eq_true rfl) d_X10_word_73 (k_ro (fun r3 => ?_)) (fun _ _ _ h => h.elim)
          refine g_istore_n hF [(2, .int r3), (0, .ref (r 2)), (1, .int x1)] d_X10_word_76 rfl hnn (by decide) rfl ?_
          refine g_aload_n hF d_X10_word_77 rfl 1 rfl ?_
          refine g_iload_n hF d_X10_word_78 rfl 0 rfl ?_
          refine g_if_ge hF 86 d_X10_word_79 (by decide) rfl (fun c4_79 => ?_) (fun c4_79 => ?_)
          · -- taken at 79
            refine g_iconst hF (v := 5) d_X10_word_86 (by decide) ?_
            refine g_iload_n hF d_X10_word_87 rfl 0 rfl ?_
            refine g_iadd hF d_X10_word_88 ?_
            refine g_iload_n hF d_X10_word_89 rfl 2 rfl ?_
            refine g_iload_n hF d_X10_word_90 rfl 2 rfl ?_
            refine g_callV (As := [.int (5 + r3), .int x1, .int x1]) (rest := []) hF (c_X10_add a g r σ (5 + r3) x1 x1 (by show 0 ≤ (σ 2 2).toInt + x1.toInt ∧ (σ 2 2).toInt + x1.toInt ≤ 40000 ∧ ((5 + r3).toInt = 2 → 0 ≤ x1.toInt ∧ x1.toInt ≤ 16001); have e0 : (5 : Int32).toInt = 5 := (by decide); have e1 := s_rng r3; obtain ⟨k2, e2⟩ := s_add (5 : Int32) r3; have e2a := s_rng (5 + r3); have e4 := s_rng x1; have e5 := s_rng (σ 2 2); have e6 := inv.2.2.2.2.1; have e7 := s_rng (σ0 2 2); have e8 := i0.2.2.2.2.1; have e9 := s_rng (σ 2 1); have e10 := inv.2.2.2.2.2.2.2.2.1; have e11 : (24 : Int32).toInt = 24 := (by decide); have e12 : (0 : Int32).toInt = 0 := (by decide); omega) inv) (Nat.le_of_ble_eq_true rfl) mV_X10_add m_821 (recv_ob obC_2) rfl rfl (Nat.le_of_ble_eq_true rfl) d_X10_word_91 (k_i (fun r5 σ5 ⟨hz5, iσ5, ik5⟩ => ?_)) (fun _ _ _ h => h.elim)
            have kp : Keep [(2, 2), (2, 4)] [13, 14, 15, 16] σ0 σ5 := keep_c kp ik5 (by decide) (by decide)
            exact g_zret hF rfl (k_nz hz5) d_X10_word_94 ⟨rfl, rfl, r5, rfl, hz5, ⟨iσ5, kp⟩⟩
          · -- not taken at 79
            refine g_iconst hF (v := 2) d_X10_word_82 (by decide) ?_
            refine g_goto hF 89 d_X10_word_83 (by decide) ?_
            refine g_iload_n hF d_X10_word_89 rfl 2 rfl ?_
            refine g_iload_n hF d_X10_word_90 rfl 2 rfl ?_
            refine g_callV (As := [.int 2, .int x1, .int x1]) (rest := []) hF (c_X10_add a g r σ (2 : Int32) x1 x1 (by show 0 ≤ (σ 2 2).toInt + x1.toInt ∧ (σ 2 2).toInt + x1.toInt ≤ 40000 ∧ (2 = 2 → 0 ≤ x1.toInt ∧ x1.toInt ≤ 16001); have e0 : (2 : Int32).toInt = 2 := (by decide); have e1 := s_rng x1; have e2 := s_rng (σ 2 2); have e3 := inv.2.2.2.2.1; have e4 := s_rng (σ0 2 2); have e5 := i0.2.2.2.2.1; have e6 := s_rng (σ 2 1); have e7 := inv.2.2.2.2.2.2.2.2.1; have e8 : (24 : Int32).toInt = 24 := (by decide); omega) inv) (Nat.le_of_ble_eq_true rfl) mV_X10_add m_821 (recv_ob obC_2) rfl rfl (Nat.le_of_ble_eq_true rfl) d_X10_word_91 (k_i (fun r6 σ6 ⟨hz6, iσ6, ik6⟩ => ?_)) (fun _ _ _ h => h.elim)
            have kp : Keep [(2, 2), (2, 4)] [13, 14, 15, 16] σ0 σ6 := keep_c kp ik6 (by decide) (by decide)
            exact g_zret hF rfl (k_nz hz6) d_X10_word_94 ⟨rfl, rfl, r6, rfl, hz6, ⟨iσ6, kp⟩⟩
        · -- not taken at 57
          refine g_aload_n hF d_X10_word_60 rfl 0 rfl ?_
          refine g_aload_n hF d_X10_word_61 rfl 0 rfl ?_
          refine g_get (v := .int (σ 2 2)) hF 2 obC_2 (by decide) m_44 rfl d_X10_word_62 ?_
          refine g_callV (As := [.int (σ 2 2)]) (rest := []) hF (c_X10_bad a g r σ (σ 2 2) (by show 0 ≤ (σ 2 2).toInt ∧ (σ 2 2).toInt ≤ 40000; have e0 := s_rng (σ 2 2); have e1 := inv.2.2.2.2.1; omega) inv) (Nat.le_of_ble_eq_true rfl) mV_X10_bad m_817 (recv_ob obC_2) rfl rfl (Nat.le_of_ble_eq_true rfl) d_X10_word_65 (k_i (fun r7 σ7 ⟨hz7, iσ7, ik7⟩ => ?_)) (fun _ _ _ h => h.elim)
          have kp : Keep [(2, 2), (2, 4)] [13, 14, 15, 16] σ0 σ7 := keep_c kp ik7 (by decide) (by decide)
          exact g_zret hF rfl (k_nz hz7) d_X10_word_68 ⟨rfl, rfl, r7, rfl, hz7, ⟨iσ7, kp⟩⟩
      · -- not taken at 18
        refine g_iload_n hF d_X10_word_21 rfl 2 rfl ?_
        refine g_callS (As := [.int x2]) (rest := []) hF (c_X10_isLetter a g r σ x2 inv) (Nat.le_of_ble_eq_true rfl) mS_X10_isLetter m_833 rfl rfl (Nat.le_of_ble_eq_true rfl) d_X10_word_22 (k_roz (fun r8 hz8 => ?_)) (fun _ _ _ h => h.elim)
        refine g_if_ne hF 35 d_X10_word_25 (by decide) rfl (fun c9_25 => ?_) (fun c9_25 => ?_)
        · -- taken at 25
          refine g_aload_n hF d_X10_word_35 rfl 0 rfl ?_
          refine g_aload_n hF d_X10_word_36 rfl 0 rfl ?_
          refine g_get (v := .int (σ 2 2)) hF 2 obC_2 (by decide) m_44 rfl d_X10_word_37 ?_
          refine g_iload_n hF d_X10_word_40 rfl 1 rfl ?_
          refine g_iadd hF d_X10_word_41 ?_
          refine g_iconst hF (v := 1) d_X10_word_42 (by decide) ?_
          refine g_iadd hF d_X10_word_43 ?_
          refine g_callV (As := [.int (((σ 2 2) + x1) + 1)]) (rest := []) hF (c_X10_byteAt a g r σ (((σ 2 2) + x1) + 1) inv) (Nat.le_of_ble_eq_true rfl) mV_X10_byteAt m_806 (recv_ob obC_2) rfl rfl (Nat.le_of_ble_eq_true rfl) d_X10_word_44 (k_rop (fun r10 hp10 => ?_)) (fun _ _ _ h => h.elim)
          have hp10 : 0 ≤ r10.toInt → (0 ≤ (((σ 2 2) + x1) + 1).toInt ∧ (((σ 2 2) + x1) + 1).toInt < 16000) := hp10
          refine g_istore_n hF [(2, .int r10), (0, .ref (r 2)), (1, .int x1)] d_X10_word_47 rfl hnn (by decide) rfl ?_
          refine g_iinc hF (x1 + 1) [(1, .int (x1 + 1)), (2, .int r10), (0, .ref (r 2))] d_X10_word_48 2 rfl rfl hnn (by decide) rfl ?_
          refine g_goto hF 13 d_X10_word_51 (by decide) ?_
          exact g_sub (L' := [(0, .ref (r 2)), (1, .int (x1 + 1)), (2, .int r10)]) [2, 0, 1] rfl (ih13 _ (by show upm (x1 + 1) < _; have hN := N13; unfold upm at hN ⊢; have e0 := s_rng x1; have e1 : (1 : Int32).toInt = 1 := (by decide); obtain ⟨k2, e2⟩ := s_add x1 (1 : Int32); have e2a := s_rng (x1 + 1); have e4 := s_rng (σ 2 1); have e5 := inv.2.2.2.2.2.2.2.2.1; have e6 := s_rng r10; have e7 := s_rng (σ 2 2); have e8 := inv.2.2.2.2.1; obtain ⟨k9, e9⟩ := s_add (σ 2 2) x1; have e9a := s_rng ((σ 2 2) + x1); obtain ⟨k11, e11⟩ := s_add ((σ 2 2) + x1) (1 : Int32); have e11a := s_rng (((σ 2 2) + x1) + 1); omega) σ (x1 + 1) r10 rfl inv kp (by show (σ 2 2).toInt < 16000 ∧ 0 ≤ (x1 + 1).toInt ∧ (x1 + 1).toInt ≤ 16001; have e0 := s_rng x1; have e1 : (1 : Int32).toInt = 1 := (by decide); obtain ⟨k2, e2⟩ := s_add x1 (1 : Int32); have e2a := s_rng (x1 + 1); have e4 := s_rng r10; have e5 := s_rng (σ 2 2); have e6 := inv.2.2.2.2.1; have e7 := s_rng (σ0 2 2); have e8 := i0.2.2.2.2.1; have e9 := s_rng (σ 2 1); have e10 := inv.2.2.2.2.2.2.2.2.1; obtain ⟨k11, e11⟩ := s_add (σ 2 2) x1; have e11a := s_rng ((σ 2 2) + x1); obtain ⟨k13, e13⟩ := s_add ((σ 2 2) + x1) (1 : Int32); have e13a := s_rng (((σ 2 2) + x1) + 1); omega))
        · -- not taken at 25
          refine g_iload_n hF d_X10_word_28 rfl 2 rfl ?_
          refine g_callS (As := [.int x2]) (rest := []) hF (c_X10_isDigit a g r σ x2 inv) (Nat.le_of_ble_eq_true rfl) mS_X10_isDigit m_840 rfl rfl (Nat.le_of_ble_eq_true rfl) d_X10_word_29 (k_roz (fun r11 hz11 => ?_)) (fun _ _ _ h => h.elim)
          refine g_if_eq hF 54 d_X10_word_32 (by decide) rfl (fun c12_32 => ?_) (fun c12_32 => ?_)
          · -- taken at 32
            refine g_iload_n hF d_X10_word_54 rfl 1 rfl ?_
            refine g_bipush hF (v := 24) d_X10_word_55 (by decide) ?_
            refine g_icmp_le (yv := 24) hF 69 d_X10_word_57 (by decide) rfl (by decide) (fun c13_57 => ?_) (fun c13_57 => ?_)
            · -- taken at 57
              refine g_aload_n hF d_X10_word_69 rfl 0 rfl ?_
              refine g_ldcS hF (fun A s h => (EC_s0 h).1) d_X10_word_70 ?_
              refine g_iload_n hF d_X10_word_72 rfl 1 rfl ?_
              refine g_callV (As := [.ref (a 2), .int x1]) (rest := []) hF (c_X10_listed_r2_s0 a g r σ x1 inv) (Nat.le_of_ble_eq_true rfl) mV_X10_listed m_844 (recv_ob obC_2) rfl rfl (Nat.le_of_ble_eq_true rfl) d_X10_word_73 (k_ro (fun r14 => ?_)) (fun _ _ _ h => h.elim)
              refine g_istore_n hF [(2, .int r14), (0, .ref (r 2)), (1, .int x1)] d_X10_word_76 rfl hnn (by decide) rfl ?_
              refine g_aload_n hF d_X10_word_77 rfl 1 rfl ?_
              refine g_iload_n hF d_X10_word_78 rfl 0 rfl ?_
              refine g_if_ge hF 86 d_X10_word_79 (by decide) rfl (fun c15_79 => ?_) (fun c15_79 => ?_)
              · -- taken at 79
                refine g_iconst hF (v := 5) d_X10_word_86 (by decide) ?_
                refine g_iload_n hF d_X10_word_87 rfl 0 rfl ?_
                refine g_iadd hF d_X10_word_88 ?_
                refine g_iload_n hF d_X10_word_89 rfl 2 rfl ?_
                refine g_iload_n hF d_X10_word_90 rfl 2 rfl ?_
                refine g_callV (As := [.int (5 + r14), .int x1, .int x1]) (rest := []) hF (c_X10_add a g r σ (5 + r14) x1 x1 (by show 0 ≤ (σ 2 2).toInt + x1.toInt ∧ (σ 2 2).toInt + x1.toInt ≤ 40000 ∧ ((5 + r14).toInt = 2 → 0 ≤ x1.toInt ∧ x1.toInt ≤ 16001); have e0 : (5 : Int32).toInt = 5 := (by decide); have e1 := s_rng r14; obtain ⟨k2, e2⟩ := s_add (5 : Int32) r14; have e2a := s_rng (5 + r14); have e4 := s_rng x1; have e5 := s_rng (σ 2 2); have e6 := inv.2.2.2.2.1; have e7 := s_rng (σ0 2 2); have e8 := i0.2.2.2.2.1; have e9 := s_rng (σ 2 1); have e10 := inv.2.2.2.2.2.2.2.2.1; have e11 : (24 : Int32).toInt = 24 := (by decide); have e12 : (0 : Int32).toInt = 0 := (by decide); have e13 := s_rng r8; have e14 := s_rng r11; omega) inv) (Nat.le_of_ble_eq_true rfl) mV_X10_add m_821 (recv_ob obC_2) rfl rfl (Nat.le_of_ble_eq_true rfl) d_X10_word_91 (k_i (fun r16 σ16 ⟨hz16, iσ16, ik16⟩ => ?_)) (fun _ _ _ h => h.elim)
                have kp : Keep [(2, 2), (2, 4)] [13, 14, 15, 16] σ0 σ16 := keep_c kp ik16 (by decide) (by decide)
                exact g_zret hF rfl (k_nz hz16) d_X10_word_94 ⟨rfl, rfl, r16, rfl, hz16, ⟨iσ16, kp⟩⟩
              · -- not taken at 79
                refine g_iconst hF (v := 2) d_X10_word_82 (by decide) ?_
                refine g_goto hF 89 d_X10_word_83 (by decide) ?_
                refine g_iload_n hF d_X10_word_89 rfl 2 rfl ?_
                refine g_iload_n hF d_X10_word_90 rfl 2 rfl ?_
                refine g_callV (As := [.int 2, .int x1, .int x1]) (rest := []) hF (c_X10_add a g r σ (2 : Int32) x1 x1 (by show 0 ≤ (σ 2 2).toInt + x1.toInt ∧ (σ 2 2).toInt + x1.toInt ≤ 40000 ∧ (2 = 2 → 0 ≤ x1.toInt ∧ x1.toInt ≤ 16001); have e0 : (2 : Int32).toInt = 2 := (by decide); have e1 := s_rng x1; have e2 := s_rng (σ 2 2); have e3 := inv.2.2.2.2.1; have e4 := s_rng (σ0 2 2); have e5 := i0.2.2.2.2.1; have e6 := s_rng (σ 2 1); have e7 := inv.2.2.2.2.2.2.2.2.1; have e8 : (24 : Int32).toInt = 24 := (by decide); omega) inv) (Nat.le_of_ble_eq_true rfl) mV_X10_add m_821 (recv_ob obC_2) rfl rfl (Nat.le_of_ble_eq_true rfl) d_X10_word_91 (k_i (fun r17 σ17 ⟨hz17, iσ17, ik17⟩ => ?_)) (fun _ _ _ h => h.elim)
                have kp : Keep [(2, 2), (2, 4)] [13, 14, 15, 16] σ0 σ17 := keep_c kp ik17 (by decide) (by decide)
                exact g_zret hF rfl (k_nz hz17) d_X10_word_94 ⟨rfl, rfl, r17, rfl, hz17, ⟨iσ17, kp⟩⟩
            · -- not taken at 57
              refine g_aload_n hF d_X10_word_60 rfl 0 rfl ?_
              refine g_aload_n hF d_X10_word_61 rfl 0 rfl ?_
              refine g_get (v := .int (σ 2 2)) hF 2 obC_2 (by decide) m_44 rfl d_X10_word_62 ?_
              refine g_callV (As := [.int (σ 2 2)]) (rest := []) hF (c_X10_bad a g r σ (σ 2 2) (by show 0 ≤ (σ 2 2).toInt ∧ (σ 2 2).toInt ≤ 40000; have e0 := s_rng (σ 2 2); have e1 := inv.2.2.2.2.1; omega) inv) (Nat.le_of_ble_eq_true rfl) mV_X10_bad m_817 (recv_ob obC_2) rfl rfl (Nat.le_of_ble_eq_true rfl) d_X10_word_65 (k_i (fun r18 σ18 ⟨hz18, iσ18, ik18⟩ => ?_)) (fun _ _ _ h => h.elim)
              have kp : Keep [(2, 2), (2, 4)] [13, 14, 15, 16] σ0 σ18 := keep_c kp ik18 (by decide) (by decide)
              exact g_zret hF rfl (k_nz hz18) d_X10_word_68 ⟨rfl, rfl, r18, rfl, hz18, ⟨iσ18, kp⟩⟩
          · -- not taken at 32
            refine g_aload_n hF d_X10_word_35 rfl 0 rfl ?_
            refine g_aload_n hF d_X10_word_36 rfl 0 rfl ?_
            refine g_get (v := .int (σ 2 2)) hF 2 obC_2 (by decide) m_44 rfl d_X10_word_37 ?_
            refine g_iload_n hF d_X10_word_40 rfl 1 rfl ?_
            refine g_iadd hF d_X10_word_41 ?_
            refine g_iconst hF (v := 1) d_X10_word_42 (by decide) ?_
            refine g_iadd hF d_X10_word_43 ?_
            refine g_callV (As := [.int (((σ 2 2) + x1) + 1)]) (rest := []) hF (c_X10_byteAt a g r σ (((σ 2 2) + x1) + 1) inv) (Nat.le_of_ble_eq_true rfl) mV_X10_byteAt m_806 (recv_ob obC_2) rfl rfl (Nat.le_of_ble_eq_true rfl) d_X10_word_44 (k_rop (fun r19 hp19 => ?_)) (fun _ _ _ h => h.elim)
            have hp19 : 0 ≤ r19.toInt → (0 ≤ (((σ 2 2) + x1) + 1).toInt ∧ (((σ 2 2) + x1) + 1).toInt < 16000) := hp19
            refine g_istore_n hF [(2, .int r19), (0, .ref (r 2)), (1, .int x1)] d_X10_word_47 rfl hnn (by decide) rfl ?_
            refine g_iinc hF (x1 + 1) [(1, .int (x1 + 1)), (2, .int r19), (0, .ref (r 2))] d_X10_word_48 2 rfl rfl hnn (by decide) rfl ?_
            refine g_goto hF 13 d_X10_word_51 (by decide) ?_
            exact g_sub (L' := [(0, .ref (r 2)), (1, .int (x1 + 1)), (2, .int r19)]) [2, 0, 1] rfl (ih13 _ (by show upm (x1 + 1) < _; have hN := N13; unfold upm at hN ⊢; have e0 := s_rng x1; have e1 : (1 : Int32).toInt = 1 := (by decide); obtain ⟨k2, e2⟩ := s_add x1 (1 : Int32); have e2a := s_rng (x1 + 1); have e4 := s_rng (σ 2 1); have e5 := inv.2.2.2.2.2.2.2.2.1; have e6 := s_rng r19; have e7 := s_rng (σ 2 2); have e8 := inv.2.2.2.2.1; obtain ⟨k9, e9⟩ := s_add (σ 2 2) x1; have e9a := s_rng ((σ 2 2) + x1); obtain ⟨k11, e11⟩ := s_add ((σ 2 2) + x1) (1 : Int32); have e11a := s_rng (((σ 2 2) + x1) + 1); omega) σ (x1 + 1) r19 rfl inv kp (by show (σ 2 2).toInt < 16000 ∧ 0 ≤ (x1 + 1).toInt ∧ (x1 + 1).toInt ≤ 16001; have e0 := s_rng x1; have e1 : (1 : Int32).toInt = 1 := (by decide); obtain ⟨k2, e2⟩ := s_add x1 (1 : Int32); have e2a := s_rng (x1 + 1); have e4 := s_rng r19; have e5 := s_rng (σ 2 2); have e6 := inv.2.2.2.2.1; have e7 := s_rng (σ0 2 2); have e8 := i0.2.2.2.2.1; have e9 := s_rng (σ 2 1); have e10 := inv.2.2.2.2.2.2.2.2.1; obtain ⟨k11, e11⟩ := s_add (σ 2 2) x1; have e11a := s_rng ((σ 2 2) + x1); obtain ⟨k13, e13⟩ := s_add ((σ 2 2) + x1) (1 : Int32); have e13a := s_rng (((σ 2 2) + x1) + 1); omega))
  have kp : Keep [(2, 2), (2, 4)] [13, 14, 15, 16] σ0 σ0 := keep_rf
  refine g_iconst hF (v := 1) d_X10_word_0 (by decide) ?_
  refine g_istore_n hF [(1, .int 1), (0, .ref (r 2))] d_X10_word_1 rfl hnn (by decide) rfl ?_
  refine g_aload_n hF d_X10_word_2 rfl 1 rfl ?_
  refine g_aload_n hF d_X10_word_3 rfl 1 rfl ?_
  refine g_get (v := .int (σ0 2 2)) hF 2 obC_2 (by decide) m_44 rfl d_X10_word_4 ?_
  refine g_iconst hF (v := 1) d_X10_word_7 (by decide) ?_
  refine g_iadd hF d_X10_word_8 ?_
  refine g_callV (As := [.int ((σ0 2 2) + 1)]) (rest := []) hF (c_X10_byteAt a g r σ0 ((σ0 2 2) + 1) i0) (Nat.le_of_ble_eq_true rfl) mV_X10_byteAt m_806 (recv_ob obC_2) rfl rfl (Nat.le_of_ble_eq_true rfl) d_X10_word_9 (k_rop (fun r20 hp20 => ?_)) (fun _ _ _ h => h.elim)
  have hp20 : 0 ≤ r20.toInt → (0 ≤ ((σ0 2 2) + 1).toInt ∧ ((σ0 2 2) + 1).toInt < 16000) := hp20
  refine g_istore_n hF [(2, .int r20), (1, .int 1), (0, .ref (r 2))] d_X10_word_12 rfl hnn (by decide) rfl ?_
  exact g_sub (L' := [(0, .ref (r 2)), (1, .int 1), (2, .int r20)]) [2, 1, 0] rfl (b13 _ σ0 (1 : Int32) r20 rfl i0 kp (by show (σ0 2 2).toInt < 16000 ∧ 0 ≤ 1 ∧ 1 ≤ 16001; have e0 := s_rng r20; have e1 : (1 : Int32).toInt = 1 := (by decide); have e2 := s_rng (σ0 2 2); have e3 := i0.2.2.2.2.1; obtain ⟨k4, e4⟩ := s_add (σ0 2 2) (1 : Int32); have e4a := s_rng ((σ0 2 2) + 1); omega))
set_option maxHeartbeats 4000000 in
set_option maxRecDepth 100000 in
theorem c_X3_variables (a : Nat → Nat) (g : Nat → Nat → Int32) (r : Nat → Nat) (σ0 : St) (a1 : Int32) (a2 : Int32) (a3 : Int32) (hnm : (σ0 3 3).toInt < 0 → NM σ0 a1) (hgp : GPS σ0) (i0 : Inv σ0) (l : Launch) (D : va_G) (cy : Nat → ClassId) : Ct l D cy SC r (EC a g) y_X3_variables (Cond.code y_X3_variables b_X3_variables 10 none) 360 [.ref (r 3), .int a1, .int a2, .int a3] σ0 Z0 [] (QV (fun σ9 => ((GPS σ9 ∧ Mo σ9 σ0) ∧ (Inv σ9 ∧ Keep [(3, 1), (3, 2), (3, 3), (3, 4), (3, 9)] [18, 19, 20, 21, 22, 23] σ0 σ9)))) QF := by
  refine Ct_of (EC_ok a g) (by decide) (Nat.le_of_ble_eq_true rfl) (by decide) (fun X hnn hF => ?_)
  show G SC r X σ0 Z0 [] [(0, .ref (r 3)), (1, .int a1), (2, .int a2), (3, .int a3)] [] 0
  have b18 : ∀ (N : Nat) (σ : St) (x1 : Int32) (x2 : Int32) (x3 : Int32) (x4 : Int32) (x5 : Int32) (x6 : Int32) (x7 : Int32) , dnm x7 = N → Inv σ → Keep [(3, 1), (3, 2), (3, 3), (3, 4), (3, 9)] [18, 19, 20, 21, 22, 23] σ0 σ → x6 = 0 ∨ x6 = 1 → GPS σ → Mo σ σ0 → ((σ 3 3).toInt < 0 → NM σ0 x4) → G SC r X σ Z0 [] [(0, .ref (r 3)), (1, .int x1), (2, .int x2), (3, .int x3), (4, .int x4), (5, .int x5), (6, .int x6), (7, .int x7)] [] 18 := by
    intro M18
    induction M18 using Nat.strongRecOn with
    | _ M18 ih18 =>
      intro σ x1 x2 x3 x4 x5 x6 x7 N18 inv kp z_x6 hgp hgm hnj
      refine g_iload hF d_X3_variables_18 7 rfl ?_
      refine g_if_le hF 135 d_X3_variables_20 (by decide) rfl (fun c1_20 => ?_) (fun c1_20 => ?_)
      · -- taken at 20
        refine g_aload_n hF d_X3_variables_135 rfl 0 rfl ?_
        refine g_bipush hF (v := 27) d_X3_variables_136 (by decide) ?_
        refine g_callV (As := [.int 27]) (rest := []) hF (c_X3_expect a g r σ (27 : Int32) hgp (by show ¬ (27 = 0 ∨ 27 = -1); have e0 : (27 : Int32).toInt = 27 := (by decide); omega) inv) (Nat.le_of_ble_eq_true rfl) mV_X3_expect m_903 (recv_ob obC_3) rfl rfl (Nat.le_of_ble_eq_true rfl) d_X3_variables_138 (k_v (fun σ2 ⟨⟨hgp2, hgm2⟩, hs2, iσ2, ik2⟩ => ?_)) (fun _ _ _ h => h.elim)
        have hs2 : (σ2 3 3).toInt < 0 → (σ 3 2).toInt = 27 := hs2
        have hmo2 : Mo σ2 σ := fun h9 => mo_e (show σ 3 3 = σ 3 3 from rfl) (hgm2 h9)
        have kp : Keep [(3, 1), (3, 2), (3, 3), (3, 4), (3, 9)] [18, 19, 20, 21, 22, 23] σ0 σ2 := keep_c kp ik2 (by decide) (by decide)
        exact g_vret hF rfl d_X3_variables_141 ⟨rfl, rfl, rfl, ⟨⟨hgp2, (fun h9 => (hgm (hmo2 (mo_e (show σ2 3 3 = σ2 3 3 from rfl) h9))))⟩, iσ2, kp⟩⟩
      · -- not taken at 20
        refine g_iload hF d_X3_variables_23 6 rfl ?_
        refine g_if_eq hF 135 d_X3_variables_25 (by decide) rfl (fun c3_25 => ?_) (fun c3_25 => ?_)
        · -- taken at 25
          refine g_aload_n hF d_X3_variables_135 rfl 0 rfl ?_
          refine g_bipush hF (v := 27) d_X3_variables_136 (by decide) ?_
          refine g_callV (As := [.int 27]) (rest := []) hF (c_X3_expect a g r σ (27 : Int32) hgp (by show ¬ (27 = 0 ∨ 27 = -1); have e0 : (27 : Int32).toInt = 27 := (by decide); omega) inv) (Nat.le_of_ble_eq_true rfl) mV_X3_expect m_903 (recv_ob obC_3) rfl rfl (Nat.le_of_ble_eq_true rfl) d_X3_variables_138 (k_v (fun σ4 ⟨⟨hgp4, hgm4⟩, hs4, iσ4, ik4⟩ => ?_)) (fun _ _ _ h => h.elim)
          have hs4 : (σ4 3 3).toInt < 0 → (σ 3 2).toInt = 27 := hs4
          have hmo4 : Mo σ4 σ := fun h9 => mo_e (show σ 3 3 = σ 3 3 from rfl) (hgm4 h9)
          have kp : Keep [(3, 1), (3, 2), (3, 3), (3, 4), (3, 9)] [18, 19, 20, 21, 22, 23] σ0 σ4 := keep_c kp ik4 (by decide) (by decide)
          exact g_vret hF rfl d_X3_variables_141 ⟨rfl, rfl, rfl, ⟨⟨hgp4, (fun h9 => (hgm (hmo4 (mo_e (show σ4 3 3 = σ4 3 3 from rfl) h9))))⟩, iσ4, kp⟩⟩
        · -- not taken at 25
          refine g_aload_n hF d_X3_variables_28 rfl 0 rfl ?_
          refine g_get (v := .int (σ 3 2)) hF 2 obC_3 (by decide) m_96 rfl d_X3_variables_29 ?_
          refine g_bipush hF (v := 24) d_X3_variables_32 (by decide) ?_
          refine g_icmp_ne (yv := 24) hF 44 d_X3_variables_34 (by decide) rfl (by decide) (fun c5_34 => ?_) (fun c5_34 => ?_)
          · -- taken at 34
            refine g_iconst hF (v := (-1)) d_X3_variables_44 (by decide) ?_
            refine g_istore hF [(8, .int (-1)), (0, .ref (r 3)), (1, .int x1), (2, .int x2), (3, .int x3), (4, .int x4), (5, .int x5), (6, .int x6), (7, .int x7)] d_X3_variables_45 hnn (by decide) rfl ?_
            refine g_aload_n hF d_X3_variables_47 rfl 1 rfl ?_
            refine g_get (v := .int (σ 3 2)) hF 2 obC_3 (by decide) m_96 rfl d_X3_variables_48 ?_
            refine g_bipush hF (v := 30) d_X3_variables_51 (by decide) ?_
            refine g_icmp_ne (yv := 30) hF 60 d_X3_variables_53 (by decide) rfl (by decide) (fun c6_53 => ?_) (fun c6_53 => ?_)
            · -- taken at 53
              refine g_iconst hF (v := 0) d_X3_variables_60 (by decide) ?_
              refine g_istore hF [(9, .int 0), (8, .int (-1)), (0, .ref (r 3)), (1, .int x1), (2, .int x2), (3, .int x3), (4, .int x4), (5, .int x5), (6, .int x6), (7, .int x7)] d_X3_variables_61 hnn (by decide) rfl ?_
              refine g_aload_n hF d_X3_variables_63 rfl 2 rfl ?_
              refine g_bipush hF (v := 43) d_X3_variables_64 (by decide) ?_
              refine g_iload hF d_X3_variables_66 6 rfl ?_
              refine g_iload hF d_X3_variables_68 7 rfl ?_
              refine g_iload hF d_X3_variables_70 0 rfl ?_
              refine g_if_eq (xv := 0) hF 81 d_X3_variables_72 (by decide) (by decide) (fun _ => ?_) (fun c_72 => absurd c_72 (by decide))
              refine g_iload_n hF d_X3_variables_81 rfl 5 rfl ?_
              refine g_callV (As := [.int 43, .int x4, .int x5, .int x3]) (rest := []) hF (c_X3_add a g r σ (43 : Int32) x4 x5 x3 (fun _ h9 => (nm_keep (fun z => kp 14 z rfl rfl rfl) (hnj (mo_e (show σ 3 3 = σ 3 3 from rfl) h9)))) hgp inv) (Nat.le_of_ble_eq_true rfl) mV_X3_add m_923 (recv_ob obC_3) rfl rfl (Nat.le_of_ble_eq_true rfl) d_X3_variables_82 (k_i (fun r7 σ7 ⟨⟨hgp7, hgm7⟩, iσ7, ik7⟩ => ?_)) (fun _ _ _ h => h.elim)
              have hmo7 : Mo σ7 σ := fun h9 => mo_e (show σ 3 3 = σ 3 3 from rfl) (hgm7 h9)
              have kp : Keep [(3, 1), (3, 2), (3, 3), (3, 4), (3, 9)] [18, 19, 20, 21, 22, 23] σ0 σ7 := keep_c kp ik7 (by decide) (by decide)
              refine g_pop hF d_X3_variables_85 rfl ?_
              refine g_iload hF d_X3_variables_86 0 rfl ?_
              refine g_if_eq (xv := 0) hF 99 d_X3_variables_88 (by decide) (by decide) (fun _ => ?_) (fun c_88 => absurd c_88 (by decide))
              refine g_aload_n hF d_X3_variables_99 rfl 2 rfl ?_
              refine g_bipush hF (v := 26) d_X3_variables_100 (by decide) ?_
              refine g_callV (As := [.int 26]) (rest := []) hF (c_X3_accept a g r σ7 (26 : Int32) hgp7 (by show ¬ (26 = 0 ∨ 26 = -1); have e0 : (26 : Int32).toInt = 26 := (by decide); omega) iσ7) (Nat.le_of_ble_eq_true rfl) mV_X3_accept m_966 (recv_ob obC_3) rfl rfl (Nat.le_of_ble_eq_true rfl) d_X3_variables_102 (k_i (fun r8 σ8 ⟨hz8, ⟨hgp8, hgm8⟩, iσ8, ik8⟩ => ?_)) (fun _ _ _ h => h.elim)
              have hmo8 : Mo σ8 σ := fun h9 => mo_e (show σ7 3 3 = σ 3 3 from (ik7 3 3 rfl rfl rfl)) (hgm8 h9)
              have kp : Keep [(3, 1), (3, 2), (3, 3), (3, 4), (3, 9)] [18, 19, 20, 21, 22, 23] σ0 σ8 := keep_c kp ik8 (by decide) (by decide)
              refine g_istore hF [(6, .int r8), (9, .int 0), (8, .int (-1)), (0, .ref (r 3)), (1, .int x1), (2, .int x2), (3, .int x3), (4, .int x4), (5, .int x5), (7, .int x7)] d_X3_variables_105 hnn (by decide) rfl ?_
              refine g_iload hF d_X3_variables_107 0 rfl ?_
              refine g_if_eq hF 129 d_X3_variables_109 (by decide) rfl (fun c9_109 => ?_) (fun c9_109 => ?_)
              · -- taken at 109
                refine g_iinc hF (x7 + (-1)) [(7, .int (x7 + (-1))), (6, .int r8), (9, .int 0), (8, .int (-1)), (0, .ref (r 3)), (1, .int x1), (2, .int x2), (3, .int x3), (4, .int x4), (5, .int x5)] d_X3_variables_129 9 rfl rfl hnn (by decide) rfl ?_
                refine g_goto hF 18 d_X3_variables_132 (by decide) ?_
                exact g_sub (L' := [(0, .ref (r 3)), (1, .int x1), (2, .int x2), (3, .int x3), (4, .int x4), (5, .int x5), (6, .int r8), (7, .int (x7 + (-1)))]) [4, 5, 6, 7, 8, 9, 1, 0] rfl (ih18 _ (N18 ▸ dnm_lt c1_20 (by decide)) σ8 x1 x2 x3 x4 x5 r8 (x7 + (-1)) rfl iσ8 kp hz8 hgp8 (fun h9 => (hgm (mo_e (show σ8 3 3 = σ 3 3 from ((ik8 3 3 rfl rfl rfl).trans (ik7 3 3 rfl rfl rfl))) h9))) (fun h9 => hnj (mo_e (show σ8 3 3 = σ 3 3 from ((ik8 3 3 rfl rfl rfl).trans (ik7 3 3 rfl rfl rfl))) h9)))
              · -- not taken at 109
                refine g_aload_n hF d_X3_variables_112 rfl 3 rfl ?_
                refine g_callV (As := []) (rest := []) hF (c_X3_stars a g r σ8 hgp8 iσ8) (Nat.le_of_ble_eq_true rfl) mV_X3_stars m_911 (recv_ob obC_3) rfl rfl (Nat.le_of_ble_eq_true rfl) d_X3_variables_113 (k_i (fun r10 σ10 ⟨⟨hgp10, hgm10⟩, iσ10, ik10⟩ => ?_)) (fun _ _ _ h => h.elim)
                have hmo10 : Mo σ10 σ := fun h9 => mo_e (show σ8 3 3 = σ 3 3 from ((ik8 3 3 rfl rfl rfl).trans (ik7 3 3 rfl rfl rfl))) (hgm10 h9)
                have kp : Keep [(3, 1), (3, 2), (3, 3), (3, 4), (3, 9)] [18, 19, 20, 21, 22, 23] σ0 σ10 := keep_c kp ik10 (by decide) (by decide)
                refine g_istore hF [(5, .int r10), (6, .int r8), (9, .int 0), (8, .int (-1)), (0, .ref (r 3)), (1, .int x1), (2, .int x2), (3, .int x3), (4, .int x4), (7, .int x7)] d_X3_variables_116 hnn (by decide) rfl ?_
                refine g_aload_n hF d_X3_variables_118 rfl 4 rfl ?_
                refine g_get (v := .int (σ10 3 1)) hF 1 obC_3 (by decide) m_95 rfl d_X3_variables_119 ?_
                refine g_istore hF [(4, .int (σ10 3 1)), (5, .int r10), (6, .int r8), (9, .int 0), (8, .int (-1)), (0, .ref (r 3)), (1, .int x1), (2, .int x2), (3, .int x3), (7, .int x7)] d_X3_variables_122 hnn (by decide) rfl ?_
                refine g_aload_n hF d_X3_variables_124 rfl 5 rfl ?_
                refine g_iconst hF (v := 2) d_X3_variables_125 (by decide) ?_
                have hkk11 : ∀ z, σ10 14 z = σ0 14 z := fun z => kp 14 z rfl rfl rfl
                refine g_callV (As := [.int 2]) (rest := []) hF (c_X3_expect a g r σ10 (2 : Int32) hgp10 (by show ¬ (2 = 0 ∨ 2 = -1); have e0 : (2 : Int32).toInt = 2 := (by decide); omega) iσ10) (Nat.le_of_ble_eq_true rfl) mV_X3_expect m_903 (recv_ob obC_3) rfl rfl (Nat.le_of_ble_eq_true rfl) d_X3_variables_126 (k_v (fun σ11 ⟨⟨hgp11, hgm11⟩, hs11, iσ11, ik11⟩ => ?_)) (fun _ _ _ h => h.elim)
                have hs11 : (σ11 3 3).toInt < 0 → (σ10 3 2).toInt = 2 := hs11
                have hmo11 : Mo σ11 σ10 := fun h9 => mo_e (show σ10 3 3 = σ10 3 3 from rfl) (hgm11 h9)
                have hnn11 : (σ11 3 3).toInt < 0 → NM σ0 (σ10 3 1) := fun h9 => nm_back hkk11 (hgp10.2.1.2 (hs11 h9))
                have kp : Keep [(3, 1), (3, 2), (3, 3), (3, 4), (3, 9)] [18, 19, 20, 21, 22, 23] σ0 σ11 := keep_c kp ik11 (by decide) (by decide)
                refine g_iinc hF (x7 + (-1)) [(7, .int (x7 + (-1))), (4, .int (σ10 3 1)), (5, .int r10), (6, .int r8), (9, .int 0), (8, .int (-1)), (0, .ref (r 3)), (1, .int x1), (2, .int x2), (3, .int x3)] d_X3_variables_129 9 rfl rfl hnn (by decide) rfl ?_
                refine g_goto hF 18 d_X3_variables_132 (by decide) ?_
                exact g_sub (L' := [(0, .ref (r 3)), (1, .int x1), (2, .int x2), (3, .int x3), (4, .int (σ10 3 1)), (5, .int r10), (6, .int r8), (7, .int (x7 + (-1)))]) [6, 7, 8, 9, 1, 2, 3, 0] rfl (ih18 _ (N18 ▸ dnm_lt c1_20 (by decide)) σ11 x1 x2 x3 (σ10 3 1) r10 r8 (x7 + (-1)) rfl iσ11 kp hz8 hgp11 (fun h9 => (hgm (hmo10 (hmo11 (mo_e (show σ11 3 3 = σ11 3 3 from rfl) h9))))) (fun h9 => hnn11 (mo_e (show σ11 3 3 = σ11 3 3 from rfl) h9)))
            · -- not taken at 53
              refine g_iconst hF (v := 1) d_X3_variables_56 (by decide) ?_
              refine g_goto hF 61 d_X3_variables_57 (by decide) ?_
              refine g_istore hF [(9, .int 1), (8, .int (-1)), (0, .ref (r 3)), (1, .int x1), (2, .int x2), (3, .int x3), (4, .int x4), (5, .int x5), (6, .int x6), (7, .int x7)] d_X3_variables_61 hnn (by decide) rfl ?_
              refine g_aload_n hF d_X3_variables_63 rfl 2 rfl ?_
              refine g_bipush hF (v := 43) d_X3_variables_64 (by decide) ?_
              refine g_iload hF d_X3_variables_66 6 rfl ?_
              refine g_iload hF d_X3_variables_68 7 rfl ?_
              refine g_iload hF d_X3_variables_70 0 rfl ?_
              refine g_if_eq (xv := 1) hF 81 d_X3_variables_72 (by decide) (by decide) (fun c_72 => absurd c_72 (by decide)) (fun _ => ?_)
              refine g_iload_n hF d_X3_variables_75 rfl 5 rfl ?_
              refine g_iconst hF (v := 4) d_X3_variables_76 (by decide) ?_
              refine g_iadd hF d_X3_variables_77 ?_
              refine g_goto hF 82 d_X3_variables_78 (by decide) ?_
              refine g_callV (As := [.int 43, .int x4, .int x5, .int (x3 + 4)]) (rest := []) hF (c_X3_add a g r σ (43 : Int32) x4 x5 (x3 + 4) (fun _ h9 => (nm_keep (fun z => kp 14 z rfl rfl rfl) (hnj (mo_e (show σ 3 3 = σ 3 3 from rfl) h9)))) hgp inv) (Nat.le_of_ble_eq_true rfl) mV_X3_add m_923 (recv_ob obC_3) rfl rfl (Nat.le_of_ble_eq_true rfl) d_X3_variables_82 (k_i (fun r12 σ12 ⟨⟨hgp12, hgm12⟩, iσ12, ik12⟩ => ?_)) (fun _ _ _ h => h.elim)
              have hmo12 : Mo σ12 σ := fun h9 => mo_e (show σ 3 3 = σ 3 3 from rfl) (hgm12 h9)
              have kp : Keep [(3, 1), (3, 2), (3, 3), (3, 4), (3, 9)] [18, 19, 20, 21, 22, 23] σ0 σ12 := keep_c kp ik12 (by decide) (by decide)
              refine g_pop hF d_X3_variables_85 rfl ?_
              refine g_iload hF d_X3_variables_86 0 rfl ?_
              refine g_if_eq (xv := 1) hF 99 d_X3_variables_88 (by decide) (by decide) (fun c_88 => absurd c_88 (by decide)) (fun _ => ?_)
              refine g_aload_n hF d_X3_variables_91 rfl 2 rfl ?_
              refine g_iload hF d_X3_variables_92 1 rfl ?_
              refine g_iload hF d_X3_variables_94 7 rfl ?_
              refine g_callV (As := [.int (-1), .int x5]) (rest := []) hF (c_X3_initial a g r σ12 ((-1) : Int32) x5 hgp12 (by rw [show (σ12 3 2) = (σ 3 2) from (ik12 3 2 rfl rfl rfl)]; show ¬ ((σ 3 2).toInt = 0 ∨ (σ 3 2).toInt = -1); have e0 : ((-1) : Int32).toInt = -1 := (by decide); have e1 := s_rng x5; have e2 := s_rng (σ 3 2); have e3 := s_rng (σ0 3 2); have e4 : (24 : Int32).toInt = 24 := (by decide); have e5 : (30 : Int32).toInt = 30 := (by decide); omega) iσ12) (Nat.le_of_ble_eq_true rfl) mV_X3_initial m_982 (recv_ob obC_3) rfl rfl (Nat.le_of_ble_eq_true rfl) d_X3_variables_96 (k_v (fun σ13 ⟨⟨hgp13, hgm13⟩, iσ13, ik13⟩ => ?_)) (fun _ _ _ h => h.elim)
              have hmo13 : Mo σ13 σ := fun h9 => mo_e (show σ12 3 3 = σ 3 3 from (ik12 3 3 rfl rfl rfl)) (hgm13 h9)
              have kp : Keep [(3, 1), (3, 2), (3, 3), (3, 4), (3, 9)] [18, 19, 20, 21, 22, 23] σ0 σ13 := keep_c kp ik13 (by decide) (by decide)
              refine g_aload_n hF d_X3_variables_99 rfl 2 rfl ?_
              refine g_bipush hF (v := 26) d_X3_variables_100 (by decide) ?_
              refine g_callV (As := [.int 26]) (rest := []) hF (c_X3_accept a g r σ13 (26 : Int32) hgp13 (by show ¬ (26 = 0 ∨ 26 = -1); have e0 : (26 : Int32).toInt = 26 := (by decide); omega) iσ13) (Nat.le_of_ble_eq_true rfl) mV_X3_accept m_966 (recv_ob obC_3) rfl rfl (Nat.le_of_ble_eq_true rfl) d_X3_variables_102 (k_i (fun r14 σ14 ⟨hz14, ⟨hgp14, hgm14⟩, iσ14, ik14⟩ => ?_)) (fun _ _ _ h => h.elim)
              have hmo14 : Mo σ14 σ13 := fun h9 => mo_e (show σ13 3 3 = σ13 3 3 from rfl) (hgm14 h9)
              have kp : Keep [(3, 1), (3, 2), (3, 3), (3, 4), (3, 9)] [18, 19, 20, 21, 22, 23] σ0 σ14 := keep_c kp ik14 (by decide) (by decide)
              refine g_istore hF [(6, .int r14), (9, .int 1), (8, .int (-1)), (0, .ref (r 3)), (1, .int x1), (2, .int x2), (3, .int x3), (4, .int x4), (5, .int x5), (7, .int x7)] d_X3_variables_105 hnn (by decide) rfl ?_
              refine g_iload hF d_X3_variables_107 0 rfl ?_
              refine g_if_eq hF 129 d_X3_variables_109 (by decide) rfl (fun c15_109 => ?_) (fun c15_109 => ?_)
              · -- taken at 109
                refine g_iinc hF (x7 + (-1)) [(7, .int (x7 + (-1))), (6, .int r14), (9, .int 1), (8, .int (-1)), (0, .ref (r 3)), (1, .int x1), (2, .int x2), (3, .int x3), (4, .int x4), (5, .int x5)] d_X3_variables_129 9 rfl rfl hnn (by decide) rfl ?_
                refine g_goto hF 18 d_X3_variables_132 (by decide) ?_
                exact g_sub (L' := [(0, .ref (r 3)), (1, .int x1), (2, .int x2), (3, .int x3), (4, .int x4), (5, .int x5), (6, .int r14), (7, .int (x7 + (-1)))]) [4, 5, 6, 7, 8, 9, 1, 0] rfl (ih18 _ (N18 ▸ dnm_lt c1_20 (by decide)) σ14 x1 x2 x3 x4 x5 r14 (x7 + (-1)) rfl iσ14 kp hz14 hgp14 (fun h9 => (hgm (hmo13 (mo_e (show σ14 3 3 = σ13 3 3 from (ik14 3 3 rfl rfl rfl)) h9)))) (fun h9 => hnj (hmo13 (mo_e (show σ14 3 3 = σ13 3 3 from (ik14 3 3 rfl rfl rfl)) h9))))
              · -- not taken at 109
                refine g_aload_n hF d_X3_variables_112 rfl 3 rfl ?_
                refine g_callV (As := []) (rest := []) hF (c_X3_stars a g r σ14 hgp14 iσ14) (Nat.le_of_ble_eq_true rfl) mV_X3_stars m_911 (recv_ob obC_3) rfl rfl (Nat.le_of_ble_eq_true rfl) d_X3_variables_113 (k_i (fun r16 σ16 ⟨⟨hgp16, hgm16⟩, iσ16, ik16⟩ => ?_)) (fun _ _ _ h => h.elim)
                have hmo16 : Mo σ16 σ13 := fun h9 => mo_e (show σ14 3 3 = σ13 3 3 from (ik14 3 3 rfl rfl rfl)) (hgm16 h9)
                have kp : Keep [(3, 1), (3, 2), (3, 3), (3, 4), (3, 9)] [18, 19, 20, 21, 22, 23] σ0 σ16 := keep_c kp ik16 (by decide) (by decide)
                refine g_istore hF [(5, .int r16), (6, .int r14), (9, .int 1), (8, .int (-1)), (0, .ref (r 3)), (1, .int x1), (2, .int x2), (3, .int x3), (4, .int x4), (7, .int x7)] d_X3_variables_116 hnn (by decide) rfl ?_
                refine g_aload_n hF d_X3_variables_118 rfl 4 rfl ?_
                refine g_get (v := .int (σ16 3 1)) hF 1 obC_3 (by decide) m_95 rfl d_X3_variables_119 ?_
                refine g_istore hF [(4, .int (σ16 3 1)), (5, .int r16), (6, .int r14), (9, .int 1), (8, .int (-1)), (0, .ref (r 3)), (1, .int x1), (2, .int x2), (3, .int x3), (7, .int x7)] d_X3_variables_122 hnn (by decide) rfl ?_
                refine g_aload_n hF d_X3_variables_124 rfl 5 rfl ?_
                refine g_iconst hF (v := 2) d_X3_variables_125 (by decide) ?_
                have hkk17 : ∀ z, σ16 14 z = σ0 14 z := fun z => kp 14 z rfl rfl rfl
                refine g_callV (As := [.int 2]) (rest := []) hF (c_X3_expect a g r σ16 (2 : Int32) hgp16 (by show ¬ (2 = 0 ∨ 2 = -1); have e0 : (2 : Int32).toInt = 2 := (by decide); omega) iσ16) (Nat.le_of_ble_eq_true rfl) mV_X3_expect m_903 (recv_ob obC_3) rfl rfl (Nat.le_of_ble_eq_true rfl) d_X3_variables_126 (k_v (fun σ17 ⟨⟨hgp17, hgm17⟩, hs17, iσ17, ik17⟩ => ?_)) (fun _ _ _ h => h.elim)
                have hs17 : (σ17 3 3).toInt < 0 → (σ16 3 2).toInt = 2 := hs17
                have hmo17 : Mo σ17 σ16 := fun h9 => mo_e (show σ16 3 3 = σ16 3 3 from rfl) (hgm17 h9)
                have hnn17 : (σ17 3 3).toInt < 0 → NM σ0 (σ16 3 1) := fun h9 => nm_back hkk17 (hgp16.2.1.2 (hs17 h9))
                have kp : Keep [(3, 1), (3, 2), (3, 3), (3, 4), (3, 9)] [18, 19, 20, 21, 22, 23] σ0 σ17 := keep_c kp ik17 (by decide) (by decide)
                refine g_iinc hF (x7 + (-1)) [(7, .int (x7 + (-1))), (4, .int (σ16 3 1)), (5, .int r16), (6, .int r14), (9, .int 1), (8, .int (-1)), (0, .ref (r 3)), (1, .int x1), (2, .int x2), (3, .int x3)] d_X3_variables_129 9 rfl rfl hnn (by decide) rfl ?_
                refine g_goto hF 18 d_X3_variables_132 (by decide) ?_
                exact g_sub (L' := [(0, .ref (r 3)), (1, .int x1), (2, .int x2), (3, .int x3), (4, .int (σ16 3 1)), (5, .int r16), (6, .int r14), (7, .int (x7 + (-1)))]) [6, 7, 8, 9, 1, 2, 3, 0] rfl (ih18 _ (N18 ▸ dnm_lt c1_20 (by decide)) σ17 x1 x2 x3 (σ16 3 1) r16 r14 (x7 + (-1)) rfl iσ17 kp hz14 hgp17 (fun h9 => (hgm (hmo13 (hmo16 (hmo17 (mo_e (show σ17 3 3 = σ17 3 3 from rfl) h9)))))) (fun h9 => hnn17 (mo_e (show σ17 3 3 = σ17 3 3 from rfl) h9)))
          · -- not taken at 34
            refine g_aload_n hF d_X3_variables_37 rfl 0 rfl ?_
            refine g_callV (As := []) (rest := []) hF (c_X3_bracket a g r σ hgp (by show ¬ ((σ 3 2).toInt = 0 ∨ (σ 3 2).toInt = -1); have e0 := s_rng (σ 3 2); have e1 := s_rng (σ0 3 2); have e2 : (24 : Int32).toInt = 24 := (by decide); omega) inv) (Nat.le_of_ble_eq_true rfl) mV_X3_bracket m_919 (recv_ob obC_3) rfl rfl (Nat.le_of_ble_eq_true rfl) d_X3_variables_38 (k_i (fun r18 σ18 ⟨⟨hgp18, hgm18⟩, iσ18, ik18⟩ => ?_)) (fun _ _ _ h => h.elim)
            have hmo18 : Mo σ18 σ := fun h9 => mo_e (show σ 3 3 = σ 3 3 from rfl) (hgm18 h9)
            have kp : Keep [(3, 1), (3, 2), (3, 3), (3, 4), (3, 9)] [18, 19, 20, 21, 22, 23] σ0 σ18 := keep_c kp ik18 (by decide) (by decide)
            refine g_goto hF 45 d_X3_variables_41 (by decide) ?_
            refine g_istore hF [(8, .int r18), (0, .ref (r 3)), (1, .int x1), (2, .int x2), (3, .int x3), (4, .int x4), (5, .int x5), (6, .int x6), (7, .int x7)] d_X3_variables_45 hnn (by decide) rfl ?_
            refine g_aload_n hF d_X3_variables_47 rfl 1 rfl ?_
            refine g_get (v := .int (σ18 3 2)) hF 2 obC_3 (by decide) m_96 rfl d_X3_variables_48 ?_
            refine g_bipush hF (v := 30) d_X3_variables_51 (by decide) ?_
            refine g_icmp_ne (yv := 30) hF 60 d_X3_variables_53 (by decide) rfl (by decide) (fun c19_53 => ?_) (fun c19_53 => ?_)
            · -- taken at 53
              refine g_iconst hF (v := 0) d_X3_variables_60 (by decide) ?_
              refine g_istore hF [(9, .int 0), (8, .int r18), (0, .ref (r 3)), (1, .int x1), (2, .int x2), (3, .int x3), (4, .int x4), (5, .int x5), (6, .int x6), (7, .int x7)] d_X3_variables_61 hnn (by decide) rfl ?_
              refine g_aload_n hF d_X3_variables_63 rfl 2 rfl ?_
              refine g_bipush hF (v := 43) d_X3_variables_64 (by decide) ?_
              refine g_iload hF d_X3_variables_66 6 rfl ?_
              refine g_iload hF d_X3_variables_68 7 rfl ?_
              refine g_iload hF d_X3_variables_70 0 rfl ?_
              refine g_if_eq (xv := 0) hF 81 d_X3_variables_72 (by decide) (by decide) (fun _ => ?_) (fun c_72 => absurd c_72 (by decide))
              refine g_iload_n hF d_X3_variables_81 rfl 5 rfl ?_
              refine g_callV (As := [.int 43, .int x4, .int x5, .int x3]) (rest := []) hF (c_X3_add a g r σ18 (43 : Int32) x4 x5 x3 (fun _ h9 => (nm_keep (fun z => kp 14 z rfl rfl rfl) (hnj (hmo18 (mo_e (show σ18 3 3 = σ18 3 3 from rfl) h9))))) hgp18 iσ18) (Nat.le_of_ble_eq_true rfl) mV_X3_add m_923 (recv_ob obC_3) rfl rfl (Nat.le_of_ble_eq_true rfl) d_X3_variables_82 (k_i (fun r20 σ20 ⟨⟨hgp20, hgm20⟩, iσ20, ik20⟩ => ?_)) (fun _ _ _ h => h.elim)
              have hmo20 : Mo σ20 σ18 := fun h9 => mo_e (show σ18 3 3 = σ18 3 3 from rfl) (hgm20 h9)
              have kp : Keep [(3, 1), (3, 2), (3, 3), (3, 4), (3, 9)] [18, 19, 20, 21, 22, 23] σ0 σ20 := keep_c kp ik20 (by decide) (by decide)
              refine g_pop hF d_X3_variables_85 rfl ?_
              refine g_iload hF d_X3_variables_86 0 rfl ?_
              refine g_if_eq (xv := 0) hF 99 d_X3_variables_88 (by decide) (by decide) (fun _ => ?_) (fun c_88 => absurd c_88 (by decide))
              refine g_aload_n hF d_X3_variables_99 rfl 2 rfl ?_
              refine g_bipush hF (v := 26) d_X3_variables_100 (by decide) ?_
              refine g_callV (As := [.int 26]) (rest := []) hF (c_X3_accept a g r σ20 (26 : Int32) hgp20 (by show ¬ (26 = 0 ∨ 26 = -1); have e0 : (26 : Int32).toInt = 26 := (by decide); omega) iσ20) (Nat.le_of_ble_eq_true rfl) mV_X3_accept m_966 (recv_ob obC_3) rfl rfl (Nat.le_of_ble_eq_true rfl) d_X3_variables_102 (k_i (fun r21 σ21 ⟨hz21, ⟨hgp21, hgm21⟩, iσ21, ik21⟩ => ?_)) (fun _ _ _ h => h.elim)
              have hmo21 : Mo σ21 σ18 := fun h9 => mo_e (show σ20 3 3 = σ18 3 3 from (ik20 3 3 rfl rfl rfl)) (hgm21 h9)
              have kp : Keep [(3, 1), (3, 2), (3, 3), (3, 4), (3, 9)] [18, 19, 20, 21, 22, 23] σ0 σ21 := keep_c kp ik21 (by decide) (by decide)
              refine g_istore hF [(6, .int r21), (9, .int 0), (8, .int r18), (0, .ref (r 3)), (1, .int x1), (2, .int x2), (3, .int x3), (4, .int x4), (5, .int x5), (7, .int x7)] d_X3_variables_105 hnn (by decide) rfl ?_
              refine g_iload hF d_X3_variables_107 0 rfl ?_
              refine g_if_eq hF 129 d_X3_variables_109 (by decide) rfl (fun c22_109 => ?_) (fun c22_109 => ?_)
              · -- taken at 109
                refine g_iinc hF (x7 + (-1)) [(7, .int (x7 + (-1))), (6, .int r21), (9, .int 0), (8, .int r18), (0, .ref (r 3)), (1, .int x1), (2, .int x2), (3, .int x3), (4, .int x4), (5, .int x5)] d_X3_variables_129 9 rfl rfl hnn (by decide) rfl ?_
                refine g_goto hF 18 d_X3_variables_132 (by decide) ?_
                exact g_sub (L' := [(0, .ref (r 3)), (1, .int x1), (2, .int x2), (3, .int x3), (4, .int x4), (5, .int x5), (6, .int r21), (7, .int (x7 + (-1)))]) [4, 5, 6, 7, 8, 9, 1, 0] rfl (ih18 _ (N18 ▸ dnm_lt c1_20 (by decide)) σ21 x1 x2 x3 x4 x5 r21 (x7 + (-1)) rfl iσ21 kp hz21 hgp21 (fun h9 => (hgm (hmo18 (mo_e (show σ21 3 3 = σ18 3 3 from ((ik21 3 3 rfl rfl rfl).trans (ik20 3 3 rfl rfl rfl))) h9)))) (fun h9 => hnj (hmo18 (mo_e (show σ21 3 3 = σ18 3 3 from ((ik21 3 3 rfl rfl rfl).trans (ik20 3 3 rfl rfl rfl))) h9))))
              · -- not taken at 109
                refine g_aload_n hF d_X3_variables_112 rfl 3 rfl ?_
                refine g_callV (As := []) (rest := []) hF (c_X3_stars a g r σ21 hgp21 iσ21) (Nat.le_of_ble_eq_true rfl) mV_X3_stars m_911 (recv_ob obC_3) rfl rfl (Nat.le_of_ble_eq_true rfl) d_X3_variables_113 (k_i (fun r23 σ23 ⟨⟨hgp23, hgm23⟩, iσ23, ik23⟩ => ?_)) (fun _ _ _ h => h.elim)
                have hmo23 : Mo σ23 σ18 := fun h9 => mo_e (show σ21 3 3 = σ18 3 3 from ((ik21 3 3 rfl rfl rfl).trans (ik20 3 3 rfl rfl rfl))) (hgm23 h9)
                have kp : Keep [(3, 1), (3, 2), (3, 3), (3, 4), (3, 9)] [18, 19, 20, 21, 22, 23] σ0 σ23 := keep_c kp ik23 (by decide) (by decide)
                refine g_istore hF [(5, .int r23), (6, .int r21), (9, .int 0), (8, .int r18), (0, .ref (r 3)), (1, .int x1), (2, .int x2), (3, .int x3), (4, .int x4), (7, .int x7)] d_X3_variables_116 hnn (by decide) rfl ?_
                refine g_aload_n hF d_X3_variables_118 rfl 4 rfl ?_
                refine g_get (v := .int (σ23 3 1)) hF 1 obC_3 (by decide) m_95 rfl d_X3_variables_119 ?_
                refine g_istore hF [(4, .int (σ23 3 1)), (5, .int r23), (6, .int r21), (9, .int 0), (8, .int r18), (0, .ref (r 3)), (1, .int x1), (2, .int x2), (3, .int x3), (7, .int x7)] d_X3_variables_122 hnn (by decide) rfl ?_
                refine g_aload_n hF d_X3_variables_124 rfl 5 rfl ?_
                refine g_iconst hF (v := 2) d_X3_variables_125 (by decide) ?_
                have hkk24 : ∀ z, σ23 14 z = σ0 14 z := fun z => kp 14 z rfl rfl rfl
                refine g_callV (As := [.int 2]) (rest := []) hF (c_X3_expect a g r σ23 (2 : Int32) hgp23 (by show ¬ (2 = 0 ∨ 2 = -1); have e0 : (2 : Int32).toInt = 2 := (by decide); omega) iσ23) (Nat.le_of_ble_eq_true rfl) mV_X3_expect m_903 (recv_ob obC_3) rfl rfl (Nat.le_of_ble_eq_true rfl) d_X3_variables_126 (k_v (fun σ24 ⟨⟨hgp24, hgm24⟩, hs24, iσ24, ik24⟩ => ?_)) (fun _ _ _ h => h.elim)
                have hs24 : (σ24 3 3).toInt < 0 → (σ23 3 2).toInt = 2 := hs24
                have hmo24 : Mo σ24 σ23 := fun h9 => mo_e (show σ23 3 3 = σ23 3 3 from rfl) (hgm24 h9)
                have hnn24 : (σ24 3 3).toInt < 0 → NM σ0 (σ23 3 1) := fun h9 => nm_back hkk24 (hgp23.2.1.2 (hs24 h9))
                have kp : Keep [(3, 1), (3, 2), (3, 3), (3, 4), (3, 9)] [18, 19, 20, 21, 22, 23] σ0 σ24 := keep_c kp ik24 (by decide) (by decide)
                refine g_iinc hF (x7 + (-1)) [(7, .int (x7 + (-1))), (4, .int (σ23 3 1)), (5, .int r23), (6, .int r21), (9, .int 0), (8, .int r18), (0, .ref (r 3)), (1, .int x1), (2, .int x2), (3, .int x3)] d_X3_variables_129 9 rfl rfl hnn (by decide) rfl ?_
                refine g_goto hF 18 d_X3_variables_132 (by decide) ?_
                exact g_sub (L' := [(0, .ref (r 3)), (1, .int x1), (2, .int x2), (3, .int x3), (4, .int (σ23 3 1)), (5, .int r23), (6, .int r21), (7, .int (x7 + (-1)))]) [6, 7, 8, 9, 1, 2, 3, 0] rfl (ih18 _ (N18 ▸ dnm_lt c1_20 (by decide)) σ24 x1 x2 x3 (σ23 3 1) r23 r21 (x7 + (-1)) rfl iσ24 kp hz21 hgp24 (fun h9 => (hgm (hmo18 (hmo23 (hmo24 (mo_e (show σ24 3 3 = σ24 3 3 from rfl) h9)))))) (fun h9 => hnn24 (mo_e (show σ24 3 3 = σ24 3 3 from rfl) h9)))
            · -- not taken at 53
              refine g_iconst hF (v := 1) d_X3_variables_56 (by decide) ?_
              refine g_goto hF 61 d_X3_variables_57 (by decide) ?_
              refine g_istore hF [(9, .int 1), (8, .int r18), (0, .ref (r 3)), (1, .int x1), (2, .int x2), (3, .int x3), (4, .int x4), (5, .int x5), (6, .int x6), (7, .int x7)] d_X3_variables_61 hnn (by decide) rfl ?_
              refine g_aload_n hF d_X3_variables_63 rfl 2 rfl ?_
              refine g_bipush hF (v := 43) d_X3_variables_64 (by decide) ?_
              refine g_iload hF d_X3_variables_66 6 rfl ?_
              refine g_iload hF d_X3_variables_68 7 rfl ?_
              refine g_iload hF d_X3_variables_70 0 rfl ?_
              refine g_if_eq (xv := 1) hF 81 d_X3_variables_72 (by decide) (by decide) (fun c_72 => absurd c_72 (by decide)) (fun _ => ?_)
              refine g_iload_n hF d_X3_variables_75 rfl 5 rfl ?_
              refine g_iconst hF (v := 4) d_X3_variables_76 (by decide) ?_
              refine g_iadd hF d_X3_variables_77 ?_
              refine g_goto hF 82 d_X3_variables_78 (by decide) ?_
              refine g_callV (As := [.int 43, .int x4, .int x5, .int (x3 + 4)]) (rest := []) hF (c_X3_add a g r σ18 (43 : Int32) x4 x5 (x3 + 4) (fun _ h9 => (nm_keep (fun z => kp 14 z rfl rfl rfl) (hnj (hmo18 (mo_e (show σ18 3 3 = σ18 3 3 from rfl) h9))))) hgp18 iσ18) (Nat.le_of_ble_eq_true rfl) mV_X3_add m_923 (recv_ob obC_3) rfl rfl (Nat.le_of_ble_eq_true rfl) d_X3_variables_82 (k_i (fun r25 σ25 ⟨⟨hgp25, hgm25⟩, iσ25, ik25⟩ => ?_)) (fun _ _ _ h => h.elim)
              have hmo25 : Mo σ25 σ18 := fun h9 => mo_e (show σ18 3 3 = σ18 3 3 from rfl) (hgm25 h9)
              have kp : Keep [(3, 1), (3, 2), (3, 3), (3, 4), (3, 9)] [18, 19, 20, 21, 22, 23] σ0 σ25 := keep_c kp ik25 (by decide) (by decide)
              refine g_pop hF d_X3_variables_85 rfl ?_
              refine g_iload hF d_X3_variables_86 0 rfl ?_
              refine g_if_eq (xv := 1) hF 99 d_X3_variables_88 (by decide) (by decide) (fun c_88 => absurd c_88 (by decide)) (fun _ => ?_)
              refine g_aload_n hF d_X3_variables_91 rfl 2 rfl ?_
              refine g_iload hF d_X3_variables_92 1 rfl ?_
              refine g_iload hF d_X3_variables_94 7 rfl ?_
              refine g_callV (As := [.int r18, .int x5]) (rest := []) hF (c_X3_initial a g r σ25 r18 x5 hgp25 (by rw [show (σ25 3 2) = (σ18 3 2) from (ik25 3 2 rfl rfl rfl)]; show ¬ ((σ18 3 2).toInt = 0 ∨ (σ18 3 2).toInt = -1); have e0 := s_rng r18; have e1 := s_rng x5; have e2 := s_rng (σ18 3 2); have e3 := s_rng (σ0 3 2); have e4 : (30 : Int32).toInt = 30 := (by decide); omega) iσ25) (Nat.le_of_ble_eq_true rfl) mV_X3_initial m_982 (recv_ob obC_3) rfl rfl (Nat.le_of_ble_eq_true rfl) d_X3_variables_96 (k_v (fun σ26 ⟨⟨hgp26, hgm26⟩, iσ26, ik26⟩ => ?_)) (fun _ _ _ h => h.elim)
              have hmo26 : Mo σ26 σ18 := fun h9 => mo_e (show σ25 3 3 = σ18 3 3 from (ik25 3 3 rfl rfl rfl)) (hgm26 h9)
              have kp : Keep [(3, 1), (3, 2), (3, 3), (3, 4), (3, 9)] [18, 19, 20, 21, 22, 23] σ0 σ26 := keep_c kp ik26 (by decide) (by decide)
              refine g_aload_n hF d_X3_variables_99 rfl 2 rfl ?_
              refine g_bipush hF (v := 26) d_X3_variables_100 (by decide) ?_
              refine g_callV (As := [.int 26]) (rest := []) hF (c_X3_accept a g r σ26 (26 : Int32) hgp26 (by show ¬ (26 = 0 ∨ 26 = -1); have e0 : (26 : Int32).toInt = 26 := (by decide); omega) iσ26) (Nat.le_of_ble_eq_true rfl) mV_X3_accept m_966 (recv_ob obC_3) rfl rfl (Nat.le_of_ble_eq_true rfl) d_X3_variables_102 (k_i (fun r27 σ27 ⟨hz27, ⟨hgp27, hgm27⟩, iσ27, ik27⟩ => ?_)) (fun _ _ _ h => h.elim)
              have hmo27 : Mo σ27 σ26 := fun h9 => mo_e (show σ26 3 3 = σ26 3 3 from rfl) (hgm27 h9)
              have kp : Keep [(3, 1), (3, 2), (3, 3), (3, 4), (3, 9)] [18, 19, 20, 21, 22, 23] σ0 σ27 := keep_c kp ik27 (by decide) (by decide)
              refine g_istore hF [(6, .int r27), (9, .int 1), (8, .int r18), (0, .ref (r 3)), (1, .int x1), (2, .int x2), (3, .int x3), (4, .int x4), (5, .int x5), (7, .int x7)] d_X3_variables_105 hnn (by decide) rfl ?_
              refine g_iload hF d_X3_variables_107 0 rfl ?_
              refine g_if_eq hF 129 d_X3_variables_109 (by decide) rfl (fun c28_109 => ?_) (fun c28_109 => ?_)
              · -- taken at 109
                refine g_iinc hF (x7 + (-1)) [(7, .int (x7 + (-1))), (6, .int r27), (9, .int 1), (8, .int r18), (0, .ref (r 3)), (1, .int x1), (2, .int x2), (3, .int x3), (4, .int x4), (5, .int x5)] d_X3_variables_129 9 rfl rfl hnn (by decide) rfl ?_
                refine g_goto hF 18 d_X3_variables_132 (by decide) ?_
                exact g_sub (L' := [(0, .ref (r 3)), (1, .int x1), (2, .int x2), (3, .int x3), (4, .int x4), (5, .int x5), (6, .int r27), (7, .int (x7 + (-1)))]) [4, 5, 6, 7, 8, 9, 1, 0] rfl (ih18 _ (N18 ▸ dnm_lt c1_20 (by decide)) σ27 x1 x2 x3 x4 x5 r27 (x7 + (-1)) rfl iσ27 kp hz27 hgp27 (fun h9 => (hgm (hmo18 (hmo26 (mo_e (show σ27 3 3 = σ26 3 3 from (ik27 3 3 rfl rfl rfl)) h9))))) (fun h9 => hnj (hmo18 (hmo26 (mo_e (show σ27 3 3 = σ26 3 3 from (ik27 3 3 rfl rfl rfl)) h9)))))
              · -- not taken at 109
                refine g_aload_n hF d_X3_variables_112 rfl 3 rfl ?_
                refine g_callV (As := []) (rest := []) hF (c_X3_stars a g r σ27 hgp27 iσ27) (Nat.le_of_ble_eq_true rfl) mV_X3_stars m_911 (recv_ob obC_3) rfl rfl (Nat.le_of_ble_eq_true rfl) d_X3_variables_113 (k_i (fun r29 σ29 ⟨⟨hgp29, hgm29⟩, iσ29, ik29⟩ => ?_)) (fun _ _ _ h => h.elim)
                have hmo29 : Mo σ29 σ26 := fun h9 => mo_e (show σ27 3 3 = σ26 3 3 from (ik27 3 3 rfl rfl rfl)) (hgm29 h9)
                have kp : Keep [(3, 1), (3, 2), (3, 3), (3, 4), (3, 9)] [18, 19, 20, 21, 22, 23] σ0 σ29 := keep_c kp ik29 (by decide) (by decide)
                refine g_istore hF [(5, .int r29), (6, .int r27), (9, .int 1), (8, .int r18), (0, .ref (r 3)), (1, .int x1), (2, .int x2), (3, .int x3), (4, .int x4), (7, .int x7)] d_X3_variables_116 hnn (by decide) rfl ?_
                refine g_aload_n hF d_X3_variables_118 rfl 4 rfl ?_
                refine g_get (v := .int (σ29 3 1)) hF 1 obC_3 (by decide) m_95 rfl d_X3_variables_119 ?_
                refine g_istore hF [(4, .int (σ29 3 1)), (5, .int r29), (6, .int r27), (9, .int 1), (8, .int r18), (0, .ref (r 3)), (1, .int x1), (2, .int x2), (3, .int x3), (7, .int x7)] d_X3_variables_122 hnn (by decide) rfl ?_
                refine g_aload_n hF d_X3_variables_124 rfl 5 rfl ?_
                refine g_iconst hF (v := 2) d_X3_variables_125 (by decide) ?_
                have hkk30 : ∀ z, σ29 14 z = σ0 14 z := fun z => kp 14 z rfl rfl rfl
                refine g_callV (As := [.int 2]) (rest := []) hF (c_X3_expect a g r σ29 (2 : Int32) hgp29 (by show ¬ (2 = 0 ∨ 2 = -1); have e0 : (2 : Int32).toInt = 2 := (by decide); omega) iσ29) (Nat.le_of_ble_eq_true rfl) mV_X3_expect m_903 (recv_ob obC_3) rfl rfl (Nat.le_of_ble_eq_true rfl) d_X3_variables_126 (k_v (fun σ30 ⟨⟨hgp30, hgm30⟩, hs30, iσ30, ik30⟩ => ?_)) (fun _ _ _ h => h.elim)
                have hs30 : (σ30 3 3).toInt < 0 → (σ29 3 2).toInt = 2 := hs30
                have hmo30 : Mo σ30 σ29 := fun h9 => mo_e (show σ29 3 3 = σ29 3 3 from rfl) (hgm30 h9)
                have hnn30 : (σ30 3 3).toInt < 0 → NM σ0 (σ29 3 1) := fun h9 => nm_back hkk30 (hgp29.2.1.2 (hs30 h9))
                have kp : Keep [(3, 1), (3, 2), (3, 3), (3, 4), (3, 9)] [18, 19, 20, 21, 22, 23] σ0 σ30 := keep_c kp ik30 (by decide) (by decide)
                refine g_iinc hF (x7 + (-1)) [(7, .int (x7 + (-1))), (4, .int (σ29 3 1)), (5, .int r29), (6, .int r27), (9, .int 1), (8, .int r18), (0, .ref (r 3)), (1, .int x1), (2, .int x2), (3, .int x3)] d_X3_variables_129 9 rfl rfl hnn (by decide) rfl ?_
                refine g_goto hF 18 d_X3_variables_132 (by decide) ?_
                exact g_sub (L' := [(0, .ref (r 3)), (1, .int x1), (2, .int x2), (3, .int x3), (4, .int (σ29 3 1)), (5, .int r29), (6, .int r27), (7, .int (x7 + (-1)))]) [6, 7, 8, 9, 1, 2, 3, 0] rfl (ih18 _ (N18 ▸ dnm_lt c1_20 (by decide)) σ30 x1 x2 x3 (σ29 3 1) r29 r27 (x7 + (-1)) rfl iσ30 kp hz27 hgp30 (fun h9 => (hgm (hmo18 (hmo26 (hmo29 (hmo30 (mo_e (show σ30 3 3 = σ30 3 3 from rfl) h9))))))) (fun h9 => hnn30 (mo_e (show σ30 3 3 = σ30 3 3 from rfl) h9)))
  have kp : Keep [(3, 1), (3, 2), (3, 3), (3, 4), (3, 9)] [18, 19, 20, 21, 22, 23] σ0 σ0 := keep_rf
  refine g_iload_n hF d_X3_variables_0 rfl 1 rfl ?_
  refine g_istore hF [(4, .int a1), (0, .ref (r 3)), (1, .int a1), (2, .int a2), (3, .int a3)] d_X3_variables_1 hnn (by decide) rfl ?_
  refine g_iload_n hF d_X3_variables_3 rfl 3 rfl ?_
  refine g_istore hF [(5, .int a2), (4, .int a1), (0, .ref (r 3)), (1, .int a1), (2, .int a2), (3, .int a3)] d_X3_variables_4 hnn (by decide) rfl ?_
  refine g_iconst hF (v := 1) d_X3_variables_6 (by decide) ?_
  refine g_istore hF [(6, .int 1), (5, .int a2), (4, .int a1), (0, .ref (r 3)), (1, .int a1), (2, .int a2), (3, .int a3)] d_X3_variables_7 hnn (by decide) rfl ?_
  refine g_aload_n hF d_X3_variables_9 rfl 3 rfl ?_
  refine g_get (v := .ref (r 2)) hF 0 obC_3 (by decide) m_94 rfl d_X3_variables_10 ?_
  refine g_getN (v := .int (σ0 2 4)) hF 4 obC_2 (by decide) nm_47 rfl d_X3_variables_13 ?_
  refine g_istore hF [(7, .int (σ0 2 4)), (6, .int 1), (5, .int a2), (4, .int a1), (0, .ref (r 3)), (1, .int a1), (2, .int a2), (3, .int a3)] d_X3_variables_16 hnn (by decide) rfl ?_
  exact g_sub (L' := [(0, .ref (r 3)), (1, .int a1), (2, .int a2), (3, .int a3), (4, .int a1), (5, .int a2), (6, .int 1), (7, .int (σ0 2 4))]) [4, 5, 6, 7, 3, 2, 1, 0] rfl (b18 _ σ0 a1 a2 a3 a1 a2 (1 : Int32) (σ0 2 4) rfl i0 kp (Or.inr rfl) hgp (fun h9 => (mo_e (show σ0 3 3 = σ0 3 3 from rfl) h9)) (fun h9 => hnm (mo_e (show σ0 3 3 = σ0 3 3 from rfl) h9)))
set_option maxHeartbeats 4000000 in
set_option maxRecDepth 100000 in
theorem c_X1_variable (a : Nat → Nat) (g : Nat → Nat → Int32) (r : Nat → Nat) (σ0 : St) (a1 : Int32) (a2 : Int32) (a3 : Int32) (hnm : NM σ0 a1) (hpre : (σ0 6 10).toInt < 90000) (i0 : Inv σ0) (l : Launch) (D : va_G) (cy : Nat → ClassId) : Ct l D cy SC r (EC a g) y_X1_variable (Cond.code y_X1_variable b_X1_variable 6 none) 5 [.ref (r 8), .int a1, .int a2, .int a3] σ0 Z0 [] (QV (fun σ9 => (((σ9 6 10).toInt ≤ (σ0 6 10).toInt + 1) ∧ Inv σ9 ∧ Keep [(4, 1), (5, 1), (5, 7), (6, 3), (6, 4), (6, 5), (6, 7), (6, 10), (6, 15), (8, 6), (8, 9), (8, 10), (8, 11), (8, 12), (8, 13), (8, 14), (8, 15), (8, 16)] [24, 25, 26, 27, 28, 29, 30, 38, 39, 40, 41, 42, 43, 44] σ0 σ9))) QF := by
  refine Ct_of (EC_ok a g) (by decide) (Nat.le_of_ble_eq_true rfl) (by decide) (fun X hnn hF => ?_)
  show G SC r X σ0 Z0 [] [(0, .ref (r 8)), (1, .int a1), (2, .int a2), (3, .int a3)] [] 0
  have b105 : ∀ (σ : St) (x1 : Int32) (x2 : Int32) (x3 : Int32) (x4 : Int32) (x5 : Int32) (y1 : Int32) , Inv σ → Keep [(4, 1), (5, 1), (5, 7), (6, 3), (6, 4), (6, 5), (6, 7), (6, 10), (6, 15), (8, 6), (8, 9), (8, 10), (8, 11), (8, 12), (8, 13), (8, 14), (8, 15), (8, 16)] [24, 25, 26, 27, 28, 29, 30, 38, 39, 40, 41, 42, 43, 44] σ0 σ → x5 = 0 ∨ x5 = 1 → y1 = 0 ∨ y1 = 1 → NM σ0 x1 → ((σ 6 10).toInt = (σ0 6 10).toInt) → G SC r X σ Z0 [] [(0, .ref (r 8)), (1, .int x1), (2, .int x2), (3, .int x3), (4, .int x4), (5, .int x5)] [.int y1, .ref (r 8)] 105 := by
    intro σ x1 x2 x3 x4 x5 y1 inv kp z_x5 z_y1 hnj hj
    refine g_putZ (v := y1) hF 13 obC_8 (by decide) m_505 rfl rfl rfl z_y1 d_X1_variable_105 ?_
    have kp : Keep [(4, 1), (5, 1), (5, 7), (6, 3), (6, 4), (6, 5), (6, 7), (6, 10), (6, 15), (8, 6), (8, 9), (8, 10), (8, 11), (8, 12), (8, 13), (8, 14), (8, 15), (8, 16)] [24, 25, 26, 27, 28, 29, 30, 38, 39, 40, 41, 42, 43, 44] σ0 (upC σ 8 13 y1) := keep_f kp (by decide)
    refine g_aload_n hF d_X1_variable_108 rfl 0 rfl ?_
    refine g_get (v := .int (σ 8 9)) hF 9 obC_8 (by decide) m_501 rfl d_X1_variable_109 ?_
    refine g_if_eq hF 125 d_X1_variable_112 (by decide) rfl (fun c1_112 => ?_) (fun c1_112 => ?_)
    · -- taken at 112
      refine g_aload_n hF d_X1_variable_125 rfl 0 rfl ?_
      refine g_iload_n hF d_X1_variable_126 rfl 1 rfl ?_
      refine g_iload hF d_X1_variable_127 4 rfl ?_
      refine g_iload hF d_X1_variable_129 5 rfl ?_
      have j3 : Inv (upC σ 8 13 y1) := ⟨inv.1, inv.2.1, inv.2.2.1, inv.2.2.2.1, inv.2.2.2.2.1, inv.2.2.2.2.2.1, inv.2.2.2.2.2.2.1, inv.2.2.2.2.2.2.2.1, inv.2.2.2.2.2.2.2.2.1, inv.2.2.2.2.2.2.2.2.2.1, inv.2.2.2.2.2.2.2.2.2.2.1, inv.2.2.2.2.2.2.2.2.2.2.2.1, inv.2.2.2.2.2.2.2.2.2.2.2.2.1, inv.2.2.2.2.2.2.2.2.2.2.2.2.2.1, inv.2.2.2.2.2.2.2.2.2.2.2.2.2.2.1, inv.2.2.2.2.2.2.2.2.2.2.2.2.2.2.2.1, inv.2.2.2.2.2.2.2.2.2.2.2.2.2.2.2.2.1, inv.2.2.2.2.2.2.2.2.2.2.2.2.2.2.2.2.2.1, inv.2.2.2.2.2.2.2.2.2.2.2.2.2.2.2.2.2.2.1, inv.2.2.2.2.2.2.2.2.2.2.2.2.2.2.2.2.2.2.2⟩
      refine g_callV (As := [.int x1, .int x4, .int x5]) (rest := []) hF (c_X1_outer a g r (upC σ 8 13 y1) x1 x4 x5 (nm_keep (fun z => kp 14 z rfl rfl rfl) hnj) j3 z_x5) (Nat.le_of_ble_eq_true rfl) mV_X1_outer m_1384 (recv_ob obC_8) rfl rfl (Nat.le_of_ble_eq_true rfl) d_X1_variable_131 (k_v (fun σ2 ⟨iσ2, ik2⟩ => ?_)) (fun _ _ _ h => h.elim)
      have kp : Keep [(4, 1), (5, 1), (5, 7), (6, 3), (6, 4), (6, 5), (6, 7), (6, 10), (6, 15), (8, 6), (8, 9), (8, 10), (8, 11), (8, 12), (8, 13), (8, 14), (8, 15), (8, 16)] [24, 25, 26, 27, 28, 29, 30, 38, 39, 40, 41, 42, 43, 44] σ0 σ2 := keep_c kp ik2 (by decide) (by decide)
      refine g_aload_n hF d_X1_variable_134 rfl 0 rfl ?_
      refine g_iconst hF (v := (-1)) d_X1_variable_135 (by decide) ?_
      refine g_put (v := (-1)) hF 6 obC_8 (by decide) m_497 rfl rfl rfl d_X1_variable_136 ?_
      have kp : Keep [(4, 1), (5, 1), (5, 7), (6, 3), (6, 4), (6, 5), (6, 7), (6, 10), (6, 15), (8, 6), (8, 9), (8, 10), (8, 11), (8, 12), (8, 13), (8, 14), (8, 15), (8, 16)] [24, 25, 26, 27, 28, 29, 30, 38, 39, 40, 41, 42, 43, 44] σ0 (upC σ2 8 6 (-1)) := keep_f kp (by decide)
      have j4 : Inv (upC σ2 8 6 (-1)) := ⟨iσ2.1, iσ2.2.1, iσ2.2.2.1, iσ2.2.2.2.1, iσ2.2.2.2.2.1, iσ2.2.2.2.2.2.1, iσ2.2.2.2.2.2.2.1, iσ2.2.2.2.2.2.2.2.1, iσ2.2.2.2.2.2.2.2.2.1, iσ2.2.2.2.2.2.2.2.2.2.1, iσ2.2.2.2.2.2.2.2.2.2.2.1, iσ2.2.2.2.2.2.2.2.2.2.2.2.1, iσ2.2.2.2.2.2.2.2.2.2.2.2.2.1, iσ2.2.2.2.2.2.2.2.2.2.2.2.2.2.1, iσ2.2.2.2.2.2.2.2.2.2.2.2.2.2.2.1, iσ2.2.2.2.2.2.2.2.2.2.2.2.2.2.2.2.1, iσ2.2.2.2.2.2.2.2.2.2.2.2.2.2.2.2.2.1, iσ2.2.2.2.2.2.2.2.2.2.2.2.2.2.2.2.2.2.1, iσ2.2.2.2.2.2.2.2.2.2.2.2.2.2.2.2.2.2.2.1, iσ2.2.2.2.2.2.2.2.2.2.2.2.2.2.2.2.2.2.2.2⟩
      exact g_vret hF rfl d_X1_variable_139 ⟨rfl, rfl, rfl, ⟨(by rw [show ((upC σ2 8 6 (-1)) 6 10) = (σ 6 10) from (ik2 6 10 rfl rfl rfl)]; show (σ 6 10).toInt ≤ (σ0 6 10).toInt + 1; have e0 := s_rng (σ 6 10); have e1 := inv.2.2.2.2.2.1; have e2 := s_rng (σ0 6 10); have e3 := i0.2.2.2.2.2.1; omega), j4, kp⟩⟩
    · -- not taken at 112
      refine g_aload_n hF d_X1_variable_115 rfl 0 rfl ?_
      refine g_iload_n hF d_X1_variable_116 rfl 1 rfl ?_
      refine g_iload hF d_X1_variable_117 5 rfl ?_
      have j6 : Inv (upC σ 8 13 y1) := ⟨inv.1, inv.2.1, inv.2.2.1, inv.2.2.2.1, inv.2.2.2.2.1, inv.2.2.2.2.2.1, inv.2.2.2.2.2.2.1, inv.2.2.2.2.2.2.2.1, inv.2.2.2.2.2.2.2.2.1, inv.2.2.2.2.2.2.2.2.2.1, inv.2.2.2.2.2.2.2.2.2.2.1, inv.2.2.2.2.2.2.2.2.2.2.2.1, inv.2.2.2.2.2.2.2.2.2.2.2.2.1, inv.2.2.2.2.2.2.2.2.2.2.2.2.2.1, inv.2.2.2.2.2.2.2.2.2.2.2.2.2.2.1, inv.2.2.2.2.2.2.2.2.2.2.2.2.2.2.2.1, inv.2.2.2.2.2.2.2.2.2.2.2.2.2.2.2.2.1, inv.2.2.2.2.2.2.2.2.2.2.2.2.2.2.2.2.2.1, inv.2.2.2.2.2.2.2.2.2.2.2.2.2.2.2.2.2.2.1, inv.2.2.2.2.2.2.2.2.2.2.2.2.2.2.2.2.2.2.2⟩
      refine g_callV (As := [.int x1, .int x5]) (rest := []) hF (c_X1_local a g r (upC σ 8 13 y1) x1 x5 (by show (σ 6 10).toInt < 90000; have e0 := s_rng x1; have e1 := s_rng x5; have e2 := s_rng (σ 6 10); have e3 := inv.2.2.2.2.2.1; have e4 := s_rng (σ0 6 10); have e5 := i0.2.2.2.2.2.1; omega) j6 z_x5) (Nat.le_of_ble_eq_true rfl) mV_X1_local m_1361 (recv_ob obC_8) rfl rfl (Nat.le_of_ble_eq_true rfl) d_X1_variable_119 (k_v (fun σ5 ⟨hs5, iσ5, ik5⟩ => ?_)) (fun _ _ _ h => h.elim)
      have hs5 : (σ5 6 10).toInt ≤ (σ 6 10).toInt + 1 := hs5
      have kp : Keep [(4, 1), (5, 1), (5, 7), (6, 3), (6, 4), (6, 5), (6, 7), (6, 10), (6, 15), (8, 6), (8, 9), (8, 10), (8, 11), (8, 12), (8, 13), (8, 14), (8, 15), (8, 16)] [24, 25, 26, 27, 28, 29, 30, 38, 39, 40, 41, 42, 43, 44] σ0 σ5 := keep_c kp ik5 (by decide) (by decide)
      refine g_goto hF 134 d_X1_variable_122 (by decide) ?_
      refine g_aload_n hF d_X1_variable_134 rfl 0 rfl ?_
      refine g_iconst hF (v := (-1)) d_X1_variable_135 (by decide) ?_
      refine g_put (v := (-1)) hF 6 obC_8 (by decide) m_497 rfl rfl rfl d_X1_variable_136 ?_
      have kp : Keep [(4, 1), (5, 1), (5, 7), (6, 3), (6, 4), (6, 5), (6, 7), (6, 10), (6, 15), (8, 6), (8, 9), (8, 10), (8, 11), (8, 12), (8, 13), (8, 14), (8, 15), (8, 16)] [24, 25, 26, 27, 28, 29, 30, 38, 39, 40, 41, 42, 43, 44] σ0 (upC σ5 8 6 (-1)) := keep_f kp (by decide)
      have j7 : Inv (upC σ5 8 6 (-1)) := ⟨iσ5.1, iσ5.2.1, iσ5.2.2.1, iσ5.2.2.2.1, iσ5.2.2.2.2.1, iσ5.2.2.2.2.2.1, iσ5.2.2.2.2.2.2.1, iσ5.2.2.2.2.2.2.2.1, iσ5.2.2.2.2.2.2.2.2.1, iσ5.2.2.2.2.2.2.2.2.2.1, iσ5.2.2.2.2.2.2.2.2.2.2.1, iσ5.2.2.2.2.2.2.2.2.2.2.2.1, iσ5.2.2.2.2.2.2.2.2.2.2.2.2.1, iσ5.2.2.2.2.2.2.2.2.2.2.2.2.2.1, iσ5.2.2.2.2.2.2.2.2.2.2.2.2.2.2.1, iσ5.2.2.2.2.2.2.2.2.2.2.2.2.2.2.2.1, iσ5.2.2.2.2.2.2.2.2.2.2.2.2.2.2.2.2.1, iσ5.2.2.2.2.2.2.2.2.2.2.2.2.2.2.2.2.2.1, iσ5.2.2.2.2.2.2.2.2.2.2.2.2.2.2.2.2.2.2.1, iσ5.2.2.2.2.2.2.2.2.2.2.2.2.2.2.2.2.2.2.2⟩
      exact g_vret hF rfl d_X1_variable_139 ⟨rfl, rfl, rfl, ⟨(by show (σ5 6 10).toInt ≤ (σ0 6 10).toInt + 1; have e0 := s_rng (σ5 6 10); have e1 := iσ5.2.2.2.2.2.1; have e2 := s_rng (σ0 6 10); have e3 := i0.2.2.2.2.2.1; omega), j7, kp⟩⟩
  have b90 : ∀ (σ : St) (x1 : Int32) (x2 : Int32) (x3 : Int32) (x4 : Int32) (x5 : Int32) (y1 : Int32) , Inv σ → Keep [(4, 1), (5, 1), (5, 7), (6, 3), (6, 4), (6, 5), (6, 7), (6, 10), (6, 15), (8, 6), (8, 9), (8, 10), (8, 11), (8, 12), (8, 13), (8, 14), (8, 15), (8, 16)] [24, 25, 26, 27, 28, 29, 30, 38, 39, 40, 41, 42, 43, 44] σ0 σ → x5 = 0 ∨ x5 = 1 → y1 = 0 ∨ y1 = 1 → NM σ0 x1 → ((σ 6 10).toInt = (σ0 6 10).toInt) → G SC r X σ Z0 [] [(0, .ref (r 8)), (1, .int x1), (2, .int x2), (3, .int x3), (4, .int x4), (5, .int x5)] [.int y1, .ref (r 8)] 90 := by
    intro σ x1 x2 x3 x4 x5 y1 inv kp z_x5 z_y1 hnj hj
    refine g_putZ (v := y1) hF 9 obC_8 (by decide) m_501 rfl rfl rfl z_y1 d_X1_variable_90 ?_
    have kp : Keep [(4, 1), (5, 1), (5, 7), (6, 3), (6, 4), (6, 5), (6, 7), (6, 10), (6, 15), (8, 6), (8, 9), (8, 10), (8, 11), (8, 12), (8, 13), (8, 14), (8, 15), (8, 16)] [24, 25, 26, 27, 28, 29, 30, 38, 39, 40, 41, 42, 43, 44] σ0 (upC σ 8 9 y1) := keep_f kp (by decide)
    refine g_aload_n hF d_X1_variable_93 rfl 0 rfl ?_
    refine g_iload hF d_X1_variable_94 4 rfl ?_
    refine g_iconst hF (v := 2) d_X1_variable_96 (by decide) ?_
    refine g_icmp_ne (yv := 2) hF 104 d_X1_variable_97 (by decide) rfl (by decide) (fun c8_97 => ?_) (fun c8_97 => ?_)
    · -- taken at 97
      refine g_iconst hF (v := 0) d_X1_variable_104 (by decide) ?_
      have j9 : Inv (upC σ 8 9 y1) := ⟨inv.1, inv.2.1, inv.2.2.1, inv.2.2.2.1, inv.2.2.2.2.1, inv.2.2.2.2.2.1, inv.2.2.2.2.2.2.1, inv.2.2.2.2.2.2.2.1, inv.2.2.2.2.2.2.2.2.1, inv.2.2.2.2.2.2.2.2.2.1, inv.2.2.2.2.2.2.2.2.2.2.1, inv.2.2.2.2.2.2.2.2.2.2.2.1, inv.2.2.2.2.2.2.2.2.2.2.2.2.1, inv.2.2.2.2.2.2.2.2.2.2.2.2.2.1, inv.2.2.2.2.2.2.2.2.2.2.2.2.2.2.1, inv.2.2.2.2.2.2.2.2.2.2.2.2.2.2.2.1, inv.2.2.2.2.2.2.2.2.2.2.2.2.2.2.2.2.1, inv.2.2.2.2.2.2.2.2.2.2.2.2.2.2.2.2.2.1, inv.2.2.2.2.2.2.2.2.2.2.2.2.2.2.2.2.2.2.1, inv.2.2.2.2.2.2.2.2.2.2.2.2.2.2.2.2.2.2.2⟩
      exact b105 (upC σ 8 9 y1) x1 x2 x3 x4 x5 (0 : Int32) j9 kp z_x5 (Or.inl rfl) hnj (by show (σ 6 10).toInt = (σ0 6 10).toInt; have e0 := s_rng x1; have e1 := s_rng x2; have e2 := s_rng x3; have e3 := s_rng x4; have e4 := s_rng x5; have e5 := s_rng (σ 6 10); have e6 := inv.2.2.2.2.2.1; have e7 := s_rng (σ0 6 10); have e8 := i0.2.2.2.2.2.1; have e9 : (2 : Int32).toInt = 2 := (by decide); omega)
    · -- not taken at 97
      refine g_iconst hF (v := 1) d_X1_variable_100 (by decide) ?_
      refine g_goto hF 105 d_X1_variable_101 (by decide) ?_
      have j10 : Inv (upC σ 8 9 y1) := ⟨inv.1, inv.2.1, inv.2.2.1, inv.2.2.2.1, inv.2.2.2.2.1, inv.2.2.2.2.2.1, inv.2.2.2.2.2.2.1, inv.2.2.2.2.2.2.2.1, inv.2.2.2.2.2.2.2.2.1, inv.2.2.2.2.2.2.2.2.2.1, inv.2.2.2.2.2.2.2.2.2.2.1, inv.2.2.2.2.2.2.2.2.2.2.2.1, inv.2.2.2.2.2.2.2.2.2.2.2.2.1, inv.2.2.2.2.2.2.2.2.2.2.2.2.2.1, inv.2.2.2.2.2.2.2.2.2.2.2.2.2.2.1, inv.2.2.2.2.2.2.2.2.2.2.2.2.2.2.2.1, inv.2.2.2.2.2.2.2.2.2.2.2.2.2.2.2.2.1, inv.2.2.2.2.2.2.2.2.2.2.2.2.2.2.2.2.2.1, inv.2.2.2.2.2.2.2.2.2.2.2.2.2.2.2.2.2.2.1, inv.2.2.2.2.2.2.2.2.2.2.2.2.2.2.2.2.2.2.2⟩
      exact b105 (upC σ 8 9 y1) x1 x2 x3 x4 x5 (1 : Int32) j10 kp z_x5 (Or.inr rfl) hnj (by show (σ 6 10).toInt = (σ0 6 10).toInt; have e0 := s_rng x1; have e1 := s_rng x2; have e2 := s_rng x3; have e3 := s_rng x4; have e4 := s_rng x5; have e5 := s_rng (σ 6 10); have e6 := inv.2.2.2.2.2.1; have e7 := s_rng (σ0 6 10); have e8 := i0.2.2.2.2.2.1; have e9 : (2 : Int32).toInt = 2 := (by decide); omega)
  have b61 : ∀ (σ : St) (x1 : Int32) (x2 : Int32) (x3 : Int32) (x4 : Int32) (x5 : Int32) (y1 : Int32) , Inv σ → Keep [(4, 1), (5, 1), (5, 7), (6, 3), (6, 4), (6, 5), (6, 7), (6, 10), (6, 15), (8, 6), (8, 9), (8, 10), (8, 11), (8, 12), (8, 13), (8, 14), (8, 15), (8, 16)] [24, 25, 26, 27, 28, 29, 30, 38, 39, 40, 41, 42, 43, 44] σ0 σ → x5 = 0 ∨ x5 = 1 → NM σ0 x1 → ((σ 6 10).toInt = (σ0 6 10).toInt) → G SC r X σ Z0 [] [(0, .ref (r 8)), (1, .int x1), (2, .int x2), (3, .int x3), (4, .int x4), (5, .int x5)] [.int y1, .ref (r 8)] 61 := by
    intro σ x1 x2 x3 x4 x5 y1 inv kp z_x5 hnj hj
    refine g_put (v := y1) hF 12 obC_8 (by decide) m_504 rfl rfl rfl d_X1_variable_61 ?_
    have kp : Keep [(4, 1), (5, 1), (5, 7), (6, 3), (6, 4), (6, 5), (6, 7), (6, 10), (6, 15), (8, 6), (8, 9), (8, 10), (8, 11), (8, 12), (8, 13), (8, 14), (8, 15), (8, 16)] [24, 25, 26, 27, 28, 29, 30, 38, 39, 40, 41, 42, 43, 44] σ0 (upC σ 8 12 y1) := keep_f kp (by decide)
    refine g_aload_n hF d_X1_variable_64 rfl 0 rfl ?_
    refine g_iconst hF (v := 0) d_X1_variable_65 (by decide) ?_
    refine g_put (v := 0) hF 15 obC_8 (by decide) m_507 rfl rfl rfl d_X1_variable_66 ?_
    have kp : Keep [(4, 1), (5, 1), (5, 7), (6, 3), (6, 4), (6, 5), (6, 7), (6, 10), (6, 15), (8, 6), (8, 9), (8, 10), (8, 11), (8, 12), (8, 13), (8, 14), (8, 15), (8, 16)] [24, 25, 26, 27, 28, 29, 30, 38, 39, 40, 41, 42, 43, 44] σ0 (upC (upC σ 8 12 y1) 8 15 0) := keep_f kp (by decide)
    refine g_aload_n hF d_X1_variable_69 rfl 0 rfl ?_
    refine g_iconst hF (v := 0) d_X1_variable_70 (by decide) ?_
    refine g_putZ (v := 0) hF 16 obC_8 (by decide) m_508 rfl rfl rfl (Or.inl rfl) d_X1_variable_71 ?_
    have kp : Keep [(4, 1), (5, 1), (5, 7), (6, 3), (6, 4), (6, 5), (6, 7), (6, 10), (6, 15), (8, 6), (8, 9), (8, 10), (8, 11), (8, 12), (8, 13), (8, 14), (8, 15), (8, 16)] [24, 25, 26, 27, 28, 29, 30, 38, 39, 40, 41, 42, 43, 44] σ0 (upC (upC (upC σ 8 12 y1) 8 15 0) 8 16 0) := keep_f kp (by decide)
    refine g_aload_n hF d_X1_variable_74 rfl 0 rfl ?_
    refine g_aload_n hF d_X1_variable_75 rfl 0 rfl ?_
    refine g_get (v := .ref (r 6)) hF 2 obC_8 (by decide) m_491 rfl d_X1_variable_76 ?_
    refine g_getN (v := .int (σ 6 6)) hF 6 obC_6 (by decide) nm_325 rfl d_X1_variable_79 ?_
    refine g_if_lt hF 89 d_X1_variable_82 (by decide) rfl (fun c11_82 => ?_) (fun c11_82 => ?_)
    · -- taken at 82
      refine g_iconst hF (v := 0) d_X1_variable_89 (by decide) ?_
      have j12 : Inv (upC (upC (upC σ 8 12 y1) 8 15 0) 8 16 0) := ⟨inv.1, inv.2.1, inv.2.2.1, inv.2.2.2.1, inv.2.2.2.2.1, inv.2.2.2.2.2.1, inv.2.2.2.2.2.2.1, inv.2.2.2.2.2.2.2.1, inv.2.2.2.2.2.2.2.2.1, inv.2.2.2.2.2.2.2.2.2.1, inv.2.2.2.2.2.2.2.2.2.2.1, inv.2.2.2.2.2.2.2.2.2.2.2.1, inv.2.2.2.2.2.2.2.2.2.2.2.2.1, inv.2.2.2.2.2.2.2.2.2.2.2.2.2.1, inv.2.2.2.2.2.2.2.2.2.2.2.2.2.2.1, inv.2.2.2.2.2.2.2.2.2.2.2.2.2.2.2.1, inv.2.2.2.2.2.2.2.2.2.2.2.2.2.2.2.2.1, inv.2.2.2.2.2.2.2.2.2.2.2.2.2.2.2.2.2.1, inv.2.2.2.2.2.2.2.2.2.2.2.2.2.2.2.2.2.2.1, inv.2.2.2.2.2.2.2.2.2.2.2.2.2.2.2.2.2.2.2⟩
      exact b90 (upC (upC (upC σ 8 12 y1) 8 15 0) 8 16 0) x1 x2 x3 x4 x5 (0 : Int32) j12 kp z_x5 (Or.inl rfl) hnj (by show (σ 6 10).toInt = (σ0 6 10).toInt; have e0 := s_rng x1; have e1 := s_rng x2; have e2 := s_rng x3; have e3 := s_rng x4; have e4 := s_rng x5; have e5 := s_rng (σ 6 10); have e6 := inv.2.2.2.2.2.1; have e7 := s_rng (σ0 6 10); have e8 := i0.2.2.2.2.2.1; omega)
    · -- not taken at 82
      refine g_iconst hF (v := 1) d_X1_variable_85 (by decide) ?_
      refine g_goto hF 90 d_X1_variable_86 (by decide) ?_
      have j13 : Inv (upC (upC (upC σ 8 12 y1) 8 15 0) 8 16 0) := ⟨inv.1, inv.2.1, inv.2.2.1, inv.2.2.2.1, inv.2.2.2.2.1, inv.2.2.2.2.2.1, inv.2.2.2.2.2.2.1, inv.2.2.2.2.2.2.2.1, inv.2.2.2.2.2.2.2.2.1, inv.2.2.2.2.2.2.2.2.2.1, inv.2.2.2.2.2.2.2.2.2.2.1, inv.2.2.2.2.2.2.2.2.2.2.2.1, inv.2.2.2.2.2.2.2.2.2.2.2.2.1, inv.2.2.2.2.2.2.2.2.2.2.2.2.2.1, inv.2.2.2.2.2.2.2.2.2.2.2.2.2.2.1, inv.2.2.2.2.2.2.2.2.2.2.2.2.2.2.2.1, inv.2.2.2.2.2.2.2.2.2.2.2.2.2.2.2.2.1, inv.2.2.2.2.2.2.2.2.2.2.2.2.2.2.2.2.2.1, inv.2.2.2.2.2.2.2.2.2.2.2.2.2.2.2.2.2.2.1, inv.2.2.2.2.2.2.2.2.2.2.2.2.2.2.2.2.2.2.2⟩
      exact b90 (upC (upC (upC σ 8 12 y1) 8 15 0) 8 16 0) x1 x2 x3 x4 x5 (1 : Int32) j13 kp z_x5 (Or.inr rfl) hnj (by show (σ 6 10).toInt = (σ0 6 10).toInt; have e0 := s_rng x1; have e1 := s_rng x2; have e2 := s_rng x3; have e3 := s_rng x4; have e4 := s_rng x5; have e5 := s_rng (σ 6 10); have e6 := inv.2.2.2.2.2.1; have e7 := s_rng (σ0 6 10); have e8 := i0.2.2.2.2.2.1; omega)
  have b60 : ∀ (σ : St) (x1 : Int32) (x2 : Int32) (x3 : Int32) (x4 : Int32) (x5 : Int32) , Inv σ → Keep [(4, 1), (5, 1), (5, 7), (6, 3), (6, 4), (6, 5), (6, 7), (6, 10), (6, 15), (8, 6), (8, 9), (8, 10), (8, 11), (8, 12), (8, 13), (8, 14), (8, 15), (8, 16)] [24, 25, 26, 27, 28, 29, 30, 38, 39, 40, 41, 42, 43, 44] σ0 σ → x5 = 0 ∨ x5 = 1 → NM σ0 x1 → ((σ 6 10).toInt = (σ0 6 10).toInt) → G SC r X σ Z0 [] [(0, .ref (r 8)), (1, .int x1), (2, .int x2), (3, .int x3), (4, .int x4), (5, .int x5)] [.ref (r 8)] 60 := by
    intro σ x1 x2 x3 x4 x5 inv kp z_x5 hnj hj
    refine g_iconst hF (v := 0) d_X1_variable_60 (by decide) ?_
    exact b61 σ x1 x2 x3 x4 x5 (0 : Int32) inv kp z_x5 hnj (by show (σ 6 10).toInt = (σ0 6 10).toInt; have e0 := s_rng x1; have e1 := s_rng x2; have e2 := s_rng x3; have e3 := s_rng x4; have e4 := s_rng x5; have e5 := s_rng (σ 6 10); have e6 := inv.2.2.2.2.2.1; have e7 := s_rng (σ0 6 10); have e8 := i0.2.2.2.2.2.1; omega)
  have b16 : ∀ (σ : St) (x1 : Int32) (x2 : Int32) (x3 : Int32) (x4 : Int32) (y0 : Int32) , Inv σ → Keep [(4, 1), (5, 1), (5, 7), (6, 3), (6, 4), (6, 5), (6, 7), (6, 10), (6, 15), (8, 6), (8, 9), (8, 10), (8, 11), (8, 12), (8, 13), (8, 14), (8, 15), (8, 16)] [24, 25, 26, 27, 28, 29, 30, 38, 39, 40, 41, 42, 43, 44] σ0 σ → y0 = 0 ∨ y0 = 1 → NM σ0 x1 → ((σ 6 10).toInt = (σ0 6 10).toInt) → G SC r X σ Z0 [] [(0, .ref (r 8)), (1, .int x1), (2, .int x2), (3, .int x3), (4, .int x4)] [.int y0] 16 := by
    intro σ x1 x2 x3 x4 y0 inv kp z_y0 hnj hj
    refine g_istore hF [(5, .int y0), (0, .ref (r 8)), (1, .int x1), (2, .int x2), (3, .int x3), (4, .int x4)] d_X1_variable_16 hnn (by decide) rfl ?_
    refine g_aload_n hF d_X1_variable_18 rfl 1 rfl ?_
    refine g_iload_n hF d_X1_variable_19 rfl 3 rfl ?_
    refine g_put (v := x2) hF 11 obC_8 (by decide) m_503 rfl rfl rfl d_X1_variable_20 ?_
    have kp : Keep [(4, 1), (5, 1), (5, 7), (6, 3), (6, 4), (6, 5), (6, 7), (6, 10), (6, 15), (8, 6), (8, 9), (8, 10), (8, 11), (8, 12), (8, 13), (8, 14), (8, 15), (8, 16)] [24, 25, 26, 27, 28, 29, 30, 38, 39, 40, 41, 42, 43, 44] σ0 (upC σ 8 11 x2) := keep_f kp (by decide)
    refine g_aload_n hF d_X1_variable_23 rfl 1 rfl ?_
    refine g_aload_n hF d_X1_variable_24 rfl 1 rfl ?_
    refine g_get (v := .int (σ 8 6)) hF 6 obC_8 (by decide) m_497 rfl d_X1_variable_25 ?_
    refine g_if_ge hF 35 d_X1_variable_28 (by decide) rfl (fun c14_28 => ?_) (fun c14_28 => ?_)
    · -- taken at 28
      refine g_aload_n hF d_X1_variable_35 rfl 1 rfl ?_
      refine g_get (v := .int (σ 8 7)) hF 7 obC_8 (by decide) m_498 rfl d_X1_variable_36 ?_
      refine g_iconst hF (v := 1) d_X1_variable_39 (by decide) ?_
      refine g_icmp_lt (yv := 1) hF 60 d_X1_variable_40 (by decide) rfl (by decide) (fun c15_40 => ?_) (fun c15_40 => ?_)
      · -- taken at 40
        have j16 : Inv (upC σ 8 11 x2) := ⟨inv.1, inv.2.1, inv.2.2.1, inv.2.2.2.1, inv.2.2.2.2.1, inv.2.2.2.2.2.1, inv.2.2.2.2.2.2.1, inv.2.2.2.2.2.2.2.1, inv.2.2.2.2.2.2.2.2.1, inv.2.2.2.2.2.2.2.2.2.1, inv.2.2.2.2.2.2.2.2.2.2.1, inv.2.2.2.2.2.2.2.2.2.2.2.1, inv.2.2.2.2.2.2.2.2.2.2.2.2.1, inv.2.2.2.2.2.2.2.2.2.2.2.2.2.1, inv.2.2.2.2.2.2.2.2.2.2.2.2.2.2.1, inv.2.2.2.2.2.2.2.2.2.2.2.2.2.2.2.1, inv.2.2.2.2.2.2.2.2.2.2.2.2.2.2.2.2.1, inv.2.2.2.2.2.2.2.2.2.2.2.2.2.2.2.2.2.1, inv.2.2.2.2.2.2.2.2.2.2.2.2.2.2.2.2.2.2.1, inv.2.2.2.2.2.2.2.2.2.2.2.2.2.2.2.2.2.2.2⟩
        exact g_sub (L' := [(0, .ref (r 8)), (1, .int x1), (2, .int x2), (3, .int x3), (4, .int x4), (5, .int y0)]) [1, 2, 3, 4, 5, 0] rfl (b60 (upC σ 8 11 x2) x1 x2 x3 x4 y0 j16 kp z_y0 hnj (by show (σ 6 10).toInt = (σ0 6 10).toInt; have e0 := s_rng y0; have e1 := s_rng x1; have e2 := s_rng x2; have e3 := s_rng x3; have e4 := s_rng x4; have e5 := s_rng (σ 6 10); have e6 := inv.2.2.2.2.2.1; have e7 := s_rng (σ0 6 10); have e8 := i0.2.2.2.2.2.1; omega))
      · -- not taken at 40
        refine g_aload_n hF d_X1_variable_43 rfl 1 rfl ?_
        refine g_get (v := .int (σ 8 7)) hF 7 obC_8 (by decide) m_498 rfl d_X1_variable_44 ?_
        refine g_sipush hF (v := 4000) d_X1_variable_47 (by decide) ?_
        refine g_icmp_gt (yv := 4000) hF 60 d_X1_variable_50 (by decide) rfl (by decide) (fun c17_50 => ?_) (fun c17_50 => ?_)
        · -- taken at 50
          have j18 : Inv (upC σ 8 11 x2) := ⟨inv.1, inv.2.1, inv.2.2.1, inv.2.2.2.1, inv.2.2.2.2.1, inv.2.2.2.2.2.1, inv.2.2.2.2.2.2.1, inv.2.2.2.2.2.2.2.1, inv.2.2.2.2.2.2.2.2.1, inv.2.2.2.2.2.2.2.2.2.1, inv.2.2.2.2.2.2.2.2.2.2.1, inv.2.2.2.2.2.2.2.2.2.2.2.1, inv.2.2.2.2.2.2.2.2.2.2.2.2.1, inv.2.2.2.2.2.2.2.2.2.2.2.2.2.1, inv.2.2.2.2.2.2.2.2.2.2.2.2.2.2.1, inv.2.2.2.2.2.2.2.2.2.2.2.2.2.2.2.1, inv.2.2.2.2.2.2.2.2.2.2.2.2.2.2.2.2.1, inv.2.2.2.2.2.2.2.2.2.2.2.2.2.2.2.2.2.1, inv.2.2.2.2.2.2.2.2.2.2.2.2.2.2.2.2.2.2.1, inv.2.2.2.2.2.2.2.2.2.2.2.2.2.2.2.2.2.2.2⟩
          exact g_sub (L' := [(0, .ref (r 8)), (1, .int x1), (2, .int x2), (3, .int x3), (4, .int x4), (5, .int y0)]) [1, 2, 3, 4, 5, 0] rfl (b60 (upC σ 8 11 x2) x1 x2 x3 x4 y0 j18 kp z_y0 hnj (by show (σ 6 10).toInt = (σ0 6 10).toInt; have e0 := s_rng y0; have e1 := s_rng x1; have e2 := s_rng x2; have e3 := s_rng x3; have e4 := s_rng x4; have e5 := s_rng (σ 6 10); have e6 := inv.2.2.2.2.2.1; have e7 := s_rng (σ0 6 10); have e8 := i0.2.2.2.2.2.1; omega))
        · -- not taken at 50
          refine g_aload_n hF d_X1_variable_53 rfl 1 rfl ?_
          refine g_get (v := .int (σ 8 7)) hF 7 obC_8 (by decide) m_498 rfl d_X1_variable_54 ?_
          refine g_goto hF 61 d_X1_variable_57 (by decide) ?_
          have j19 : Inv (upC σ 8 11 x2) := ⟨inv.1, inv.2.1, inv.2.2.1, inv.2.2.2.1, inv.2.2.2.2.1, inv.2.2.2.2.2.1, inv.2.2.2.2.2.2.1, inv.2.2.2.2.2.2.2.1, inv.2.2.2.2.2.2.2.2.1, inv.2.2.2.2.2.2.2.2.2.1, inv.2.2.2.2.2.2.2.2.2.2.1, inv.2.2.2.2.2.2.2.2.2.2.2.1, inv.2.2.2.2.2.2.2.2.2.2.2.2.1, inv.2.2.2.2.2.2.2.2.2.2.2.2.2.1, inv.2.2.2.2.2.2.2.2.2.2.2.2.2.2.1, inv.2.2.2.2.2.2.2.2.2.2.2.2.2.2.2.1, inv.2.2.2.2.2.2.2.2.2.2.2.2.2.2.2.2.1, inv.2.2.2.2.2.2.2.2.2.2.2.2.2.2.2.2.2.1, inv.2.2.2.2.2.2.2.2.2.2.2.2.2.2.2.2.2.2.1, inv.2.2.2.2.2.2.2.2.2.2.2.2.2.2.2.2.2.2.2⟩
          exact g_sub (L' := [(0, .ref (r 8)), (1, .int x1), (2, .int x2), (3, .int x3), (4, .int x4), (5, .int y0)]) [1, 2, 3, 4, 5, 0] rfl (b61 (upC σ 8 11 x2) x1 x2 x3 x4 y0 (σ 8 7) j19 kp z_y0 hnj (by show (σ 6 10).toInt = (σ0 6 10).toInt; have e0 := s_rng y0; have e1 := s_rng x1; have e2 := s_rng x2; have e3 := s_rng x3; have e4 := s_rng x4; have e5 := s_rng (σ 6 10); have e6 := inv.2.2.2.2.2.1; have e7 := s_rng (σ0 6 10); have e8 := i0.2.2.2.2.2.1; omega))
    · -- not taken at 28
      refine g_iconst hF (v := (-1)) d_X1_variable_31 (by decide) ?_
      refine g_goto hF 61 d_X1_variable_32 (by decide) ?_
      have j20 : Inv (upC σ 8 11 x2) := ⟨inv.1, inv.2.1, inv.2.2.1, inv.2.2.2.1, inv.2.2.2.2.1, inv.2.2.2.2.2.1, inv.2.2.2.2.2.2.1, inv.2.2.2.2.2.2.2.1, inv.2.2.2.2.2.2.2.2.1, inv.2.2.2.2.2.2.2.2.2.1, inv.2.2.2.2.2.2.2.2.2.2.1, inv.2.2.2.2.2.2.2.2.2.2.2.1, inv.2.2.2.2.2.2.2.2.2.2.2.2.1, inv.2.2.2.2.2.2.2.2.2.2.2.2.2.1, inv.2.2.2.2.2.2.2.2.2.2.2.2.2.2.1, inv.2.2.2.2.2.2.2.2.2.2.2.2.2.2.2.1, inv.2.2.2.2.2.2.2.2.2.2.2.2.2.2.2.2.1, inv.2.2.2.2.2.2.2.2.2.2.2.2.2.2.2.2.2.1, inv.2.2.2.2.2.2.2.2.2.2.2.2.2.2.2.2.2.2.1, inv.2.2.2.2.2.2.2.2.2.2.2.2.2.2.2.2.2.2.2⟩
      exact g_sub (L' := [(0, .ref (r 8)), (1, .int x1), (2, .int x2), (3, .int x3), (4, .int x4), (5, .int y0)]) [1, 2, 3, 4, 5, 0] rfl (b61 (upC σ 8 11 x2) x1 x2 x3 x4 y0 ((-1) : Int32) j20 kp z_y0 hnj (by show (σ 6 10).toInt = (σ0 6 10).toInt; have e0 := s_rng y0; have e1 := s_rng x1; have e2 := s_rng x2; have e3 := s_rng x3; have e4 := s_rng x4; have e5 := s_rng (σ 6 10); have e6 := inv.2.2.2.2.2.1; have e7 := s_rng (σ0 6 10); have e8 := i0.2.2.2.2.2.1; omega))
  have kp : Keep [(4, 1), (5, 1), (5, 7), (6, 3), (6, 4), (6, 5), (6, 7), (6, 10), (6, 15), (8, 6), (8, 9), (8, 10), (8, 11), (8, 12), (8, 13), (8, 14), (8, 15), (8, 16)] [24, 25, 26, 27, 28, 29, 30, 38, 39, 40, 41, 42, 43, 44] σ0 σ0 := keep_rf
  refine g_iload_n hF d_X1_variable_0 rfl 3 rfl ?_
  refine g_iconst hF (v := 3) d_X1_variable_1 (by decide) ?_
  refine g_iand hF d_X1_variable_2 ?_
  refine g_any (fun v21 => ?_)
  refine g_istore hF [(4, .int v21), (0, .ref (r 8)), (1, .int a1), (2, .int a2), (3, .int a3)] d_X1_variable_3 hnn (by decide) rfl ?_
  refine g_iload_n hF d_X1_variable_5 rfl 4 rfl ?_
  refine g_iconst hF (v := 4) d_X1_variable_6 (by decide) ?_
  refine g_iand hF d_X1_variable_7 ?_
  refine g_any (fun v22 => ?_)
  refine g_if_eq hF 15 d_X1_variable_8 (by decide) rfl (fun c23_8 => ?_) (fun c23_8 => ?_)
  · -- taken at 8
    refine g_iconst hF (v := 0) d_X1_variable_15 (by decide) ?_
    exact g_sub (L' := [(0, .ref (r 8)), (1, .int a1), (2, .int a2), (3, .int a3), (4, .int v21)]) [1, 2, 3, 4, 0] rfl (b16 σ0 a1 a2 a3 v21 (0 : Int32) i0 kp (Or.inl rfl) hnm (by show (σ0 6 10).toInt = (σ0 6 10).toInt; have e0 := s_rng v21; have e1 := s_rng a1; have e2 := s_rng a2; have e3 := s_rng a3; have e4 := s_rng (σ0 6 10); have e5 := i0.2.2.2.2.2.1; omega))
  · -- not taken at 8
    refine g_iconst hF (v := 1) d_X1_variable_11 (by decide) ?_
    refine g_goto hF 16 d_X1_variable_12 (by decide) ?_
    exact g_sub (L' := [(0, .ref (r 8)), (1, .int a1), (2, .int a2), (3, .int a3), (4, .int v21)]) [1, 2, 3, 4, 0] rfl (b16 σ0 a1 a2 a3 v21 (1 : Int32) i0 kp (Or.inr rfl) hnm (by show (σ0 6 10).toInt = (σ0 6 10).toInt; have e0 := s_rng v21; have e1 := s_rng a1; have e2 := s_rng a2; have e3 := s_rng a3; have e4 := s_rng (σ0 6 10); have e5 := i0.2.2.2.2.2.1; omega))
def RS (a : Nat → Nat) (g : Nat → Nat → Int32) (r : Nat → Nat) (k : Nat) : Prop := ∀ (σ0 : St) (z : Int32), 1 ≤ z.toInt → z.toInt + (k : Int) = 27 → Inv σ0 → GPS σ0 → (∀ (l : Launch) (D : va_G) (cy : Nat → ClassId), Ct l D cy SC r (EC a g) y_X3_statement (Cond.code y_X3_statement b_X3_statement 5 none) (10 * k + 361) [.ref (r 3), .int z] σ0 Z0 [] (QV (fun σ9 => ((GPS σ9 ∧ Mo σ9 σ0) ∧ (Inv σ9 ∧ Keep [(3, 1), (3, 2), (3, 3), (3, 4), (3, 9)] [18, 19, 20, 21, 22, 23] σ0 σ9)))) QF) ∧ (∀ (l : Launch) (D : va_G) (cy : Nat → ClassId), Ct l D cy SC r (EC a g) y_X3_statements (Cond.code y_X3_statements b_X3_statements 3 none) (10 * k + 362) [.ref (r 3), .int z] σ0 Z0 [] (QV (fun σ9 => ((GPS σ9 ∧ Mo σ9 σ0) ∧ (Inv σ9 ∧ Keep [(3, 1), (3, 2), (3, 3), (3, 4), (3, 9)] [18, 19, 20, 21, 22, 23] σ0 σ9)))) QF)
set_option maxHeartbeats 4000000 in
set_option maxRecDepth 100000 in
theorem c_X3_body (a : Nat → Nat) (g : Nat → Nat → Int32) (r : Nat → Nat) (k : Nat) (σ0 : St) (a1 : Int32) (ih : 2 ≤ k → RS a g r (k - 1)) (h1 : 1 ≤ a1.toInt) (hk : a1.toInt + (k : Int) = 27) (h25 : a1.toInt ≤ 25) (hgp : GPS σ0) (i0 : Inv σ0) (l : Launch) (D : va_G) (cy : Nat → ClassId) : Ct l D cy SC r (EC a g) y_X3_body (Cond.code y_X3_body b_X3_body 2 none) (10 * k + 355) [.ref (r 3), .int a1] σ0 Z0 [] (QV (fun σ9 => ((GPS σ9 ∧ Mo σ9 σ0) ∧ (Inv σ9 ∧ Keep [(3, 1), (3, 2), (3, 3), (3, 4), (3, 9)] [18, 19, 20, 21, 22, 23] σ0 σ9)))) QF := by
  refine Ct_of (EC_ok a g) (by decide) (Nat.le_of_ble_eq_true rfl) (by decide) (fun X hnn hF => ?_)
  show G SC r X σ0 Z0 [] [(0, .ref (r 3)), (1, .int a1)] [] 0
  have kp : Keep [(3, 1), (3, 2), (3, 3), (3, 4), (3, 9)] [18, 19, 20, 21, 22, 23] σ0 σ0 := keep_rf
  refine g_aload_n hF d_X3_body_0 rfl 0 rfl ?_
  refine g_bipush hF (v := 20) d_X3_body_1 (by decide) ?_
  refine g_aload_n hF d_X3_body_3 rfl 0 rfl ?_
  refine g_get (v := .int (σ0 3 1)) hF 1 obC_3 (by decide) m_95 rfl d_X3_body_4 ?_
  refine g_iconst hF (v := 0) d_X3_body_7 (by decide) ?_
  refine g_iconst hF (v := 0) d_X3_body_8 (by decide) ?_
  refine g_callV (As := [.int 20, .int (σ0 3 1), .int 0, .int 0]) (rest := []) hF (c_X3_add a g r σ0 (20 : Int32) (σ0 3 1) (0 : Int32) (0 : Int32) (fun h9 => absurd h9 (by decide)) hgp i0) (Nat.le_of_ble_eq_true rfl) mV_X3_add m_923 (recv_ob obC_3) rfl rfl (Nat.le_of_ble_eq_true rfl) d_X3_body_9 (k_i (fun r1 σ1 ⟨⟨hgp1, hgm1⟩, iσ1, ik1⟩ => ?_)) (fun _ _ _ h => h.elim)
  have hmo1 : Mo σ1 σ0 := fun h9 => mo_e (show σ0 3 3 = σ0 3 3 from rfl) (hgm1 h9)
  have kp : Keep [(3, 1), (3, 2), (3, 3), (3, 4), (3, 9)] [18, 19, 20, 21, 22, 23] σ0 σ1 := keep_c kp ik1 (by decide) (by decide)
  refine g_pop hF d_X3_body_12 rfl ?_
  refine g_aload_n hF d_X3_body_13 rfl 0 rfl ?_
  refine g_iload_n hF d_X3_body_14 rfl 1 rfl ?_
  refine g_iconst hF (v := 1) d_X3_body_15 (by decide) ?_
  refine g_iadd hF d_X3_body_16 ?_
  refine g_callV (As := [.int (a1 + 1)]) (rest := []) hF (((ih (by have e0 := s_rng a1; have e1 : (1 : Int32).toInt = 1 := (by decide); obtain ⟨k2, e2⟩ := s_add a1 (1 : Int32); have e2a := s_rng (a1 + 1); have e4 : (25 : Int32).toInt = 25 := (by decide); omega)) σ1 (a1 + 1) (by have e0 := s_rng a1; have e1 : (1 : Int32).toInt = 1 := (by decide); obtain ⟨k2, e2⟩ := s_add a1 (1 : Int32); have e2a := s_rng (a1 + 1); have e4 : (25 : Int32).toInt = 25 := (by decide); omega) (by have e0 := s_rng a1; have e1 : (1 : Int32).toInt = 1 := (by decide); obtain ⟨k2, e2⟩ := s_add a1 (1 : Int32); have e2a := s_rng (a1 + 1); have e4 : (25 : Int32).toInt = 25 := (by decide); omega) iσ1 hgp1).1) (by have : 2 ≤ k := (by have e0 := s_rng a1; have e1 : (1 : Int32).toInt = 1 := (by decide); obtain ⟨k2, e2⟩ := s_add a1 (1 : Int32); have e2a := s_rng (a1 + 1); have e4 : (25 : Int32).toInt = 25 := (by decide); omega); omega) mV_X3_statement m_1008 (recv_ob obC_3) rfl rfl (Nat.le_of_ble_eq_true rfl) d_X3_body_17 (k_v (fun σ2 ⟨⟨hgp2, hgm2⟩, iσ2, ik2⟩ => ?_)) (fun _ _ _ h => h.elim)
  have hmo2 : Mo σ2 σ0 := fun h9 => mo_e (show σ1 3 3 = σ0 3 3 from (ik1 3 3 rfl rfl rfl)) (hgm2 h9)
  have kp : Keep [(3, 1), (3, 2), (3, 3), (3, 4), (3, 9)] [18, 19, 20, 21, 22, 23] σ0 σ2 := keep_c kp ik2 (by decide) (by decide)
  refine g_aload_n hF d_X3_body_20 rfl 0 rfl ?_
  refine g_bipush hF (v := 21) d_X3_body_21 (by decide) ?_
  refine g_aload_n hF d_X3_body_23 rfl 0 rfl ?_
  refine g_get (v := .int (σ2 3 1)) hF 1 obC_3 (by decide) m_95 rfl d_X3_body_24 ?_
  refine g_iconst hF (v := 0) d_X3_body_27 (by decide) ?_
  refine g_iconst hF (v := 0) d_X3_body_28 (by decide) ?_
  refine g_callV (As := [.int 21, .int (σ2 3 1), .int 0, .int 0]) (rest := []) hF (c_X3_add a g r σ2 (21 : Int32) (σ2 3 1) (0 : Int32) (0 : Int32) (fun h9 => absurd h9 (by decide)) hgp2 iσ2) (Nat.le_of_ble_eq_true rfl) mV_X3_add m_923 (recv_ob obC_3) rfl rfl (Nat.le_of_ble_eq_true rfl) d_X3_body_29 (k_i (fun r3 σ3 ⟨⟨hgp3, hgm3⟩, iσ3, ik3⟩ => ?_)) (fun _ _ _ h => h.elim)
  have hmo3 : Mo σ3 σ2 := fun h9 => mo_e (show σ2 3 3 = σ2 3 3 from rfl) (hgm3 h9)
  have kp : Keep [(3, 1), (3, 2), (3, 3), (3, 4), (3, 9)] [18, 19, 20, 21, 22, 23] σ0 σ3 := keep_c kp ik3 (by decide) (by decide)
  refine g_pop hF d_X3_body_32 rfl ?_
  exact g_vret hF rfl d_X3_body_33 ⟨rfl, rfl, rfl, ⟨⟨hgp3, (fun h9 => (hmo2 (mo_e (show σ3 3 3 = σ2 3 3 from (ik3 3 3 rfl rfl rfl)) h9)))⟩, iσ3, kp⟩⟩
set_option maxHeartbeats 4000000 in
set_option maxRecDepth 100000 in
theorem c_X3_conditional (a : Nat → Nat) (g : Nat → Nat → Int32) (r : Nat → Nat) (k : Nat) (σ0 : St) (a1 : Int32) (ih : 2 ≤ k → RS a g r (k - 1)) (h1 : 1 ≤ a1.toInt) (hk : a1.toInt + (k : Int) = 27) (h25 : a1.toInt ≤ 25) (hgp : GPS σ0) (hpre : ¬ ((σ0 3 2).toInt = 0 ∨ (σ0 3 2).toInt = -1)) (i0 : Inv σ0) (l : Launch) (D : va_G) (cy : Nat → ClassId) : Ct l D cy SC r (EC a g) y_X3_conditional (Cond.code y_X3_conditional b_X3_conditional 3 none) (10 * k + 360) [.ref (r 3), .int a1] σ0 Z0 [] (QV (fun σ9 => ((GPS σ9 ∧ Mo σ9 σ0) ∧ (Inv σ9 ∧ Keep [(3, 1), (3, 2), (3, 3), (3, 4), (3, 9)] [18, 19, 20, 21, 22, 23] σ0 σ9)))) QF := by
  refine Ct_of (EC_ok a g) (by decide) (Nat.le_of_ble_eq_true rfl) (by decide) (fun X hnn hF => ?_)
  show G SC r X σ0 Z0 [] [(0, .ref (r 3)), (1, .int a1)] [] 0
  have kp : Keep [(3, 1), (3, 2), (3, 3), (3, 4), (3, 9)] [18, 19, 20, 21, 22, 23] σ0 σ0 := keep_rf
  refine g_aload_n hF d_X3_conditional_0 rfl 0 rfl ?_
  refine g_get (v := .int (σ0 3 1)) hF 1 obC_3 (by decide) m_95 rfl d_X3_conditional_1 ?_
  refine g_istore_n hF [(2, .int (σ0 3 1)), (0, .ref (r 3)), (1, .int a1)] d_X3_conditional_4 rfl hnn (by decide) rfl ?_
  refine g_aload_n hF d_X3_conditional_5 rfl 1 rfl ?_
  refine g_callV (As := []) (rest := []) hF (c_X3_advance a g r σ0 hgp.2.2 (by show -1 ≤ (σ0 3 1).toInt ∧ (σ0 3 1).toInt ≤ 16001; have hki := hgp.2.1.1; have hgz := hgp.1; have e0 := s_rng (σ0 3 1); omega) i0) (Nat.le_of_ble_eq_true rfl) mV_X3_advance m_899 (recv_ob obC_3) rfl rfl (Nat.le_of_ble_eq_true rfl) d_X3_conditional_6 (k_v (fun σ1 ⟨⟨hgp1, hgm1⟩, hs1, iσ1, ik1⟩ => ?_)) (fun _ _ _ h => h.elim)
  have hs1 : (σ1 3 1).toInt = (σ0 3 1).toInt + 1 := hs1
  have hmo1 : Mo σ1 σ0 := fun h9 => mo_e (show σ0 3 3 = σ0 3 3 from rfl) (hgm1 h9)
  have kp : Keep [(3, 1), (3, 2), (3, 3), (3, 4), (3, 9)] [18, 19, 20, 21, 22, 23] σ0 σ1 := keep_c kp ik1 (by decide) (by decide)
  refine g_aload_n hF d_X3_conditional_9 rfl 1 rfl ?_
  refine g_bipush hF (v := 23) d_X3_conditional_10 (by decide) ?_
  refine g_iload_n hF d_X3_conditional_12 rfl 0 rfl ?_
  refine g_callV (As := [.int 23, .int (σ0 3 1)]) (rest := []) hF (c_X3_condition a g r σ1 (23 : Int32) (σ0 3 1) hgp1 (by show ¬ (23 = 43 ∨ 23 = 47); have e0 : (23 : Int32).toInt = 23 := (by decide); have e1 := s_rng (σ0 3 1); omega) iσ1) (Nat.le_of_ble_eq_true rfl) mV_X3_condition m_1016 (recv_ob obC_3) rfl rfl (Nat.le_of_ble_eq_true rfl) d_X3_conditional_13 (k_v (fun σ2 ⟨⟨hgp2, hgm2⟩, iσ2, ik2⟩ => ?_)) (fun _ _ _ h => h.elim)
  have hmo2 : Mo σ2 σ0 := fun h9 => mo_e (show σ1 3 3 = σ0 3 3 from (ik1 3 3 rfl rfl rfl)) (hgm2 h9)
  have kp : Keep [(3, 1), (3, 2), (3, 3), (3, 4), (3, 9)] [18, 19, 20, 21, 22, 23] σ0 σ2 := keep_c kp ik2 (by decide) (by decide)
  refine g_aload_n hF d_X3_conditional_16 rfl 1 rfl ?_
  refine g_iload_n hF d_X3_conditional_17 rfl 2 rfl ?_
  refine g_callV (As := [.int a1]) (rest := []) hF (c_X3_body a g r k σ2 a1 ih h1 hk (by have e0 := s_rng a1; have e1 : (1 : Int32).toInt = 1 := (by decide); have e2 : (25 : Int32).toInt = 25 := (by decide); omega) hgp2 iσ2) (by omega) mV_X3_body m_1020 (recv_ob obC_3) rfl rfl (Nat.le_of_ble_eq_true rfl) d_X3_conditional_18 (k_v (fun σ3 ⟨⟨hgp3, hgm3⟩, iσ3, ik3⟩ => ?_)) (fun _ _ _ h => h.elim)
  have hmo3 : Mo σ3 σ2 := fun h9 => mo_e (show σ2 3 3 = σ2 3 3 from rfl) (hgm3 h9)
  have kp : Keep [(3, 1), (3, 2), (3, 3), (3, 4), (3, 9)] [18, 19, 20, 21, 22, 23] σ0 σ3 := keep_c kp ik3 (by decide) (by decide)
  refine g_aload_n hF d_X3_conditional_21 rfl 1 rfl ?_
  refine g_get (v := .int (σ3 3 2)) hF 2 obC_3 (by decide) m_96 rfl d_X3_conditional_22 ?_
  refine g_bipush hF (v := 10) d_X3_conditional_25 (by decide) ?_
  refine g_icmp_ne (yv := 10) hF 49 d_X3_conditional_27 (by decide) rfl (by decide) (fun c4_27 => ?_) (fun c4_27 => ?_)
  · -- taken at 27
    refine g_aload_n hF d_X3_conditional_49 rfl 1 rfl ?_
    refine g_bipush hF (v := 25) d_X3_conditional_50 (by decide) ?_
    refine g_iload_n hF d_X3_conditional_52 rfl 0 rfl ?_
    refine g_iconst hF (v := 0) d_X3_conditional_53 (by decide) ?_
    refine g_iconst hF (v := 0) d_X3_conditional_54 (by decide) ?_
    refine g_callV (As := [.int 25, .int (σ0 3 1), .int 0, .int 0]) (rest := []) hF (c_X3_add a g r σ3 (25 : Int32) (σ0 3 1) (0 : Int32) (0 : Int32) (fun h9 => absurd h9 (by decide)) hgp3 iσ3) (Nat.le_of_ble_eq_true rfl) mV_X3_add m_923 (recv_ob obC_3) rfl rfl (Nat.le_of_ble_eq_true rfl) d_X3_conditional_55 (k_i (fun r5 σ5 ⟨⟨hgp5, hgm5⟩, iσ5, ik5⟩ => ?_)) (fun _ _ _ h => h.elim)
    have hmo5 : Mo σ5 σ3 := fun h9 => mo_e (show σ3 3 3 = σ3 3 3 from rfl) (hgm5 h9)
    have kp : Keep [(3, 1), (3, 2), (3, 3), (3, 4), (3, 9)] [18, 19, 20, 21, 22, 23] σ0 σ5 := keep_c kp ik5 (by decide) (by decide)
    refine g_pop hF d_X3_conditional_58 rfl ?_
    exact g_vret hF rfl d_X3_conditional_59 ⟨rfl, rfl, rfl, ⟨⟨hgp5, (fun h9 => (hmo2 (hmo3 (mo_e (show σ5 3 3 = σ3 3 3 from (ik5 3 3 rfl rfl rfl)) h9))))⟩, iσ5, kp⟩⟩
  · -- not taken at 27
    refine g_aload_n hF d_X3_conditional_30 rfl 1 rfl ?_
    refine g_bipush hF (v := 24) d_X3_conditional_31 (by decide) ?_
    refine g_iload_n hF d_X3_conditional_33 rfl 0 rfl ?_
    refine g_iconst hF (v := 0) d_X3_conditional_34 (by decide) ?_
    refine g_iconst hF (v := 0) d_X3_conditional_35 (by decide) ?_
    refine g_callV (As := [.int 24, .int (σ0 3 1), .int 0, .int 0]) (rest := []) hF (c_X3_add a g r σ3 (24 : Int32) (σ0 3 1) (0 : Int32) (0 : Int32) (fun h9 => absurd h9 (by decide)) hgp3 iσ3) (Nat.le_of_ble_eq_true rfl) mV_X3_add m_923 (recv_ob obC_3) rfl rfl (Nat.le_of_ble_eq_true rfl) d_X3_conditional_36 (k_i (fun r6 σ6 ⟨⟨hgp6, hgm6⟩, iσ6, ik6⟩ => ?_)) (fun _ _ _ h => h.elim)
    have hmo6 : Mo σ6 σ3 := fun h9 => mo_e (show σ3 3 3 = σ3 3 3 from rfl) (hgm6 h9)
    have kp : Keep [(3, 1), (3, 2), (3, 3), (3, 4), (3, 9)] [18, 19, 20, 21, 22, 23] σ0 σ6 := keep_c kp ik6 (by decide) (by decide)
    refine g_pop hF d_X3_conditional_39 rfl ?_
    refine g_aload_n hF d_X3_conditional_40 rfl 1 rfl ?_
    refine g_callV (As := []) (rest := []) hF (c_X3_advance a g r σ6 hgp6.2.2 (by rw [show (σ6 3 1) = (σ3 3 1) from (ik6 3 1 rfl rfl rfl)]; show -1 ≤ (σ3 3 1).toInt ∧ (σ3 3 1).toInt ≤ 16001; have hki := hgp6.2.1.1; have hgz := hgp6.1; have hq91 : (σ6 3 1).toInt = (σ3 3 1).toInt := (by rw [show (σ6 3 1) = (σ3 3 1) from (ik6 3 1 rfl rfl rfl)]); have hq92 : (σ6 3 2).toInt = (σ3 3 2).toInt := (by rw [show (σ6 3 2) = (σ3 3 2) from (ik6 3 2 rfl rfl rfl)]); have e0 := s_rng (σ3 3 1); have e1 := s_rng (σ0 3 1); omega) iσ6) (Nat.le_of_ble_eq_true rfl) mV_X3_advance m_899 (recv_ob obC_3) rfl rfl (Nat.le_of_ble_eq_true rfl) d_X3_conditional_41 (k_v (fun σ7 ⟨⟨hgp7, hgm7⟩, hs7, iσ7, ik7⟩ => ?_)) (fun _ _ _ h => h.elim)
    have hs7 : (σ7 3 1).toInt = (σ3 3 1).toInt + 1 := (by have h9 := hs7; rw [show (σ6 3 1) = (σ3 3 1) from (ik6 3 1 rfl rfl rfl)] at h9; exact h9)
    have hmo7 : Mo σ7 σ3 := fun h9 => mo_e (show σ6 3 3 = σ3 3 3 from (ik6 3 3 rfl rfl rfl)) (hgm7 h9)
    have kp : Keep [(3, 1), (3, 2), (3, 3), (3, 4), (3, 9)] [18, 19, 20, 21, 22, 23] σ0 σ7 := keep_c kp ik7 (by decide) (by decide)
    refine g_aload_n hF d_X3_conditional_44 rfl 1 rfl ?_
    refine g_iload_n hF d_X3_conditional_45 rfl 2 rfl ?_
    refine g_callV (As := [.int a1]) (rest := []) hF (c_X3_body a g r k σ7 a1 ih h1 hk (by have e0 := s_rng a1; have e1 : (1 : Int32).toInt = 1 := (by decide); have e2 : (25 : Int32).toInt = 25 := (by decide); omega) hgp7 iσ7) (by omega) mV_X3_body m_1020 (recv_ob obC_3) rfl rfl (Nat.le_of_ble_eq_true rfl) d_X3_conditional_46 (k_v (fun σ8 ⟨⟨hgp8, hgm8⟩, iσ8, ik8⟩ => ?_)) (fun _ _ _ h => h.elim)
    have hmo8 : Mo σ8 σ3 := fun h9 => mo_e (show σ7 3 3 = σ3 3 3 from ((ik7 3 3 rfl rfl rfl).trans (ik6 3 3 rfl rfl rfl))) (hgm8 h9)
    have kp : Keep [(3, 1), (3, 2), (3, 3), (3, 4), (3, 9)] [18, 19, 20, 21, 22, 23] σ0 σ8 := keep_c kp ik8 (by decide) (by decide)
    refine g_aload_n hF d_X3_conditional_49 rfl 1 rfl ?_
    refine g_bipush hF (v := 25) d_X3_conditional_50 (by decide) ?_
    refine g_iload_n hF d_X3_conditional_52 rfl 0 rfl ?_
    refine g_iconst hF (v := 0) d_X3_conditional_53 (by decide) ?_
    refine g_iconst hF (v := 0) d_X3_conditional_54 (by decide) ?_
    refine g_callV (As := [.int 25, .int (σ0 3 1), .int 0, .int 0]) (rest := []) hF (c_X3_add a g r σ8 (25 : Int32) (σ0 3 1) (0 : Int32) (0 : Int32) (fun h9 => absurd h9 (by decide)) hgp8 iσ8) (Nat.le_of_ble_eq_true rfl) mV_X3_add m_923 (recv_ob obC_3) rfl rfl (Nat.le_of_ble_eq_true rfl) d_X3_conditional_55 (k_i (fun r9 σ9 ⟨⟨hgp9, hgm9⟩, iσ9, ik9⟩ => ?_)) (fun _ _ _ h => h.elim)
    have hmo9 : Mo σ9 σ8 := fun h9 => mo_e (show σ8 3 3 = σ8 3 3 from rfl) (hgm9 h9)
    have kp : Keep [(3, 1), (3, 2), (3, 3), (3, 4), (3, 9)] [18, 19, 20, 21, 22, 23] σ0 σ9 := keep_c kp ik9 (by decide) (by decide)
    refine g_pop hF d_X3_conditional_58 rfl ?_
    exact g_vret hF rfl d_X3_conditional_59 ⟨rfl, rfl, rfl, ⟨⟨hgp9, (fun h9 => (hmo2 (hmo3 (hmo8 (mo_e (show σ9 3 3 = σ8 3 3 from (ik9 3 3 rfl rfl rfl)) h9)))))⟩, iσ9, kp⟩⟩
set_option maxHeartbeats 4000000 in
set_option maxRecDepth 100000 in
theorem c_X3_loop (a : Nat → Nat) (g : Nat → Nat → Int32) (r : Nat → Nat) (k : Nat) (σ0 : St) (a1 : Int32) (ih : 2 ≤ k → RS a g r (k - 1)) (h1 : 1 ≤ a1.toInt) (hk : a1.toInt + (k : Int) = 27) (h25 : a1.toInt ≤ 25) (hgp : GPS σ0) (hpre : ¬ ((σ0 3 2).toInt = 0 ∨ (σ0 3 2).toInt = -1)) (i0 : Inv σ0) (l : Launch) (D : va_G) (cy : Nat → ClassId) : Ct l D cy SC r (EC a g) y_X3_loop (Cond.code y_X3_loop b_X3_loop 5 none) (10 * k + 360) [.ref (r 3), .int a1] σ0 Z0 [] (QV (fun σ9 => ((GPS σ9 ∧ Mo σ9 σ0) ∧ (Inv σ9 ∧ Keep [(3, 1), (3, 2), (3, 3), (3, 4), (3, 9)] [18, 19, 20, 21, 22, 23] σ0 σ9)))) QF := by
  refine Ct_of (EC_ok a g) (by decide) (Nat.le_of_ble_eq_true rfl) (by decide) (fun X hnn hF => ?_)
  show G SC r X σ0 Z0 [] [(0, .ref (r 3)), (1, .int a1)] [] 0
  have kp : Keep [(3, 1), (3, 2), (3, 3), (3, 4), (3, 9)] [18, 19, 20, 21, 22, 23] σ0 σ0 := keep_rf
  refine g_aload_n hF d_X3_loop_0 rfl 0 rfl ?_
  refine g_get (v := .int (σ0 3 1)) hF 1 obC_3 (by decide) m_95 rfl d_X3_loop_1 ?_
  refine g_istore_n hF [(2, .int (σ0 3 1)), (0, .ref (r 3)), (1, .int a1)] d_X3_loop_4 rfl hnn (by decide) rfl ?_
  refine g_aload_n hF d_X3_loop_5 rfl 1 rfl ?_
  refine g_get (v := .int (σ0 3 2)) hF 2 obC_3 (by decide) m_96 rfl d_X3_loop_6 ?_
  refine g_istore_n hF [(3, .int (σ0 3 2)), (2, .int (σ0 3 1)), (0, .ref (r 3)), (1, .int a1)] d_X3_loop_9 rfl hnn (by decide) rfl ?_
  refine g_aload_n hF d_X3_loop_10 rfl 2 rfl ?_
  refine g_callV (As := []) (rest := []) hF (c_X3_advance a g r σ0 hgp.2.2 (by show -1 ≤ (σ0 3 1).toInt ∧ (σ0 3 1).toInt ≤ 16001; have hki := hgp.2.1.1; have hgz := hgp.1; have e0 := s_rng (σ0 3 1); omega) i0) (Nat.le_of_ble_eq_true rfl) mV_X3_advance m_899 (recv_ob obC_3) rfl rfl (Nat.le_of_ble_eq_true rfl) d_X3_loop_11 (k_v (fun σ1 ⟨⟨hgp1, hgm1⟩, hs1, iσ1, ik1⟩ => ?_)) (fun _ _ _ h => h.elim)
  have hs1 : (σ1 3 1).toInt = (σ0 3 1).toInt + 1 := hs1
  have hmo1 : Mo σ1 σ0 := fun h9 => mo_e (show σ0 3 3 = σ0 3 3 from rfl) (hgm1 h9)
  have kp : Keep [(3, 1), (3, 2), (3, 3), (3, 4), (3, 9)] [18, 19, 20, 21, 22, 23] σ0 σ1 := keep_c kp ik1 (by decide) (by decide)
  refine g_iload_n hF d_X3_loop_14 rfl 0 rfl ?_
  refine g_bipush hF (v := 11) d_X3_loop_15 (by decide) ?_
  refine g_icmp_ne (yv := 11) hF 55 d_X3_loop_17 (by decide) rfl (by decide) (fun c2_17 => ?_) (fun c2_17 => ?_)
  · -- taken at 17
    refine g_iload_n hF d_X3_loop_55 rfl 0 rfl ?_
    refine g_bipush hF (v := 12) d_X3_loop_56 (by decide) ?_
    refine g_icmp_ne (yv := 12) hF 116 d_X3_loop_58 (by decide) rfl (by decide) (fun c3_58 => ?_) (fun c3_58 => ?_)
    · -- taken at 58
      refine g_aload_n hF d_X3_loop_116 rfl 2 rfl ?_
      refine g_iload_n hF d_X3_loop_117 rfl 1 rfl ?_
      refine g_callV (As := [.int (σ0 3 1)]) (rest := []) hF (c_X3_counted a g r σ1 (σ0 3 1) hgp1 iσ1) (Nat.le_of_ble_eq_true rfl) mV_X3_counted m_1028 (recv_ob obC_3) rfl rfl (Nat.le_of_ble_eq_true rfl) d_X3_loop_118 (k_v (fun σ4 ⟨⟨hgp4, hgm4⟩, iσ4, ik4⟩ => ?_)) (fun _ _ _ h => h.elim)
      have hmo4 : Mo σ4 σ0 := fun h9 => mo_e (show σ1 3 3 = σ0 3 3 from (ik1 3 3 rfl rfl rfl)) (hgm4 h9)
      have kp : Keep [(3, 1), (3, 2), (3, 3), (3, 4), (3, 9)] [18, 19, 20, 21, 22, 23] σ0 σ4 := keep_c kp ik4 (by decide) (by decide)
      refine g_aload_n hF d_X3_loop_121 rfl 2 rfl ?_
      refine g_iload_n hF d_X3_loop_122 rfl 3 rfl ?_
      refine g_callV (As := [.int a1]) (rest := []) hF (c_X3_body a g r k σ4 a1 ih h1 hk (by have e0 := s_rng a1; have e1 : (1 : Int32).toInt = 1 := (by decide); have e2 : (25 : Int32).toInt = 25 := (by decide); omega) hgp4 iσ4) (by omega) mV_X3_body m_1020 (recv_ob obC_3) rfl rfl (Nat.le_of_ble_eq_true rfl) d_X3_loop_123 (k_v (fun σ5 ⟨⟨hgp5, hgm5⟩, iσ5, ik5⟩ => ?_)) (fun _ _ _ h => h.elim)
      have hmo5 : Mo σ5 σ4 := fun h9 => mo_e (show σ4 3 3 = σ4 3 3 from rfl) (hgm5 h9)
      have kp : Keep [(3, 1), (3, 2), (3, 3), (3, 4), (3, 9)] [18, 19, 20, 21, 22, 23] σ0 σ5 := keep_c kp ik5 (by decide) (by decide)
      refine g_aload_n hF d_X3_loop_126 rfl 2 rfl ?_
      refine g_bipush hF (v := 35) d_X3_loop_127 (by decide) ?_
      refine g_iload_n hF d_X3_loop_129 rfl 1 rfl ?_
      refine g_iconst hF (v := 0) d_X3_loop_130 (by decide) ?_
      refine g_iconst hF (v := 0) d_X3_loop_131 (by decide) ?_
      refine g_callV (As := [.int 35, .int (σ0 3 1), .int 0, .int 0]) (rest := []) hF (c_X3_add a g r σ5 (35 : Int32) (σ0 3 1) (0 : Int32) (0 : Int32) (fun h9 => absurd h9 (by decide)) hgp5 iσ5) (Nat.le_of_ble_eq_true rfl) mV_X3_add m_923 (recv_ob obC_3) rfl rfl (Nat.le_of_ble_eq_true rfl) d_X3_loop_132 (k_i (fun r6 σ6 ⟨⟨hgp6, hgm6⟩, iσ6, ik6⟩ => ?_)) (fun _ _ _ h => h.elim)
      have hmo6 : Mo σ6 σ5 := fun h9 => mo_e (show σ5 3 3 = σ5 3 3 from rfl) (hgm6 h9)
      have kp : Keep [(3, 1), (3, 2), (3, 3), (3, 4), (3, 9)] [18, 19, 20, 21, 22, 23] σ0 σ6 := keep_c kp ik6 (by decide) (by decide)
      refine g_pop hF d_X3_loop_135 rfl ?_
      exact g_vret hF rfl d_X3_loop_136 ⟨rfl, rfl, rfl, ⟨⟨hgp6, (fun h9 => (hmo4 (hmo5 (mo_e (show σ6 3 3 = σ5 3 3 from (ik6 3 3 rfl rfl rfl)) h9))))⟩, iσ6, kp⟩⟩
    · -- not taken at 58
      refine g_aload_n hF d_X3_loop_61 rfl 2 rfl ?_
      refine g_bipush hF (v := 29) d_X3_loop_62 (by decide) ?_
      refine g_iload_n hF d_X3_loop_64 rfl 1 rfl ?_
      refine g_iconst hF (v := 0) d_X3_loop_65 (by decide) ?_
      refine g_iconst hF (v := 0) d_X3_loop_66 (by decide) ?_
      refine g_callV (As := [.int 29, .int (σ0 3 1), .int 0, .int 0]) (rest := []) hF (c_X3_add a g r σ1 (29 : Int32) (σ0 3 1) (0 : Int32) (0 : Int32) (fun h9 => absurd h9 (by decide)) hgp1 iσ1) (Nat.le_of_ble_eq_true rfl) mV_X3_add m_923 (recv_ob obC_3) rfl rfl (Nat.le_of_ble_eq_true rfl) d_X3_loop_67 (k_i (fun r7 σ7 ⟨⟨hgp7, hgm7⟩, iσ7, ik7⟩ => ?_)) (fun _ _ _ h => h.elim)
      have hmo7 : Mo σ7 σ0 := fun h9 => mo_e (show σ1 3 3 = σ0 3 3 from (ik1 3 3 rfl rfl rfl)) (hgm7 h9)
      have kp : Keep [(3, 1), (3, 2), (3, 3), (3, 4), (3, 9)] [18, 19, 20, 21, 22, 23] σ0 σ7 := keep_c kp ik7 (by decide) (by decide)
      refine g_pop hF d_X3_loop_70 rfl ?_
      refine g_aload_n hF d_X3_loop_71 rfl 2 rfl ?_
      refine g_iload_n hF d_X3_loop_72 rfl 3 rfl ?_
      refine g_callV (As := [.int a1]) (rest := []) hF (c_X3_body a g r k σ7 a1 ih h1 hk (by have e0 := s_rng a1; have e1 : (1 : Int32).toInt = 1 := (by decide); have e2 : (25 : Int32).toInt = 25 := (by decide); omega) hgp7 iσ7) (by omega) mV_X3_body m_1020 (recv_ob obC_3) rfl rfl (Nat.le_of_ble_eq_true rfl) d_X3_loop_73 (k_v (fun σ8 ⟨⟨hgp8, hgm8⟩, iσ8, ik8⟩ => ?_)) (fun _ _ _ h => h.elim)
      have hmo8 : Mo σ8 σ0 := fun h9 => mo_e (show σ7 3 3 = σ0 3 3 from ((ik7 3 3 rfl rfl rfl).trans (ik1 3 3 rfl rfl rfl))) (hgm8 h9)
      have kp : Keep [(3, 1), (3, 2), (3, 3), (3, 4), (3, 9)] [18, 19, 20, 21, 22, 23] σ0 σ8 := keep_c kp ik8 (by decide) (by decide)
      refine g_aload_n hF d_X3_loop_76 rfl 2 rfl ?_
      refine g_get (v := .int (σ8 3 1)) hF 1 obC_3 (by decide) m_95 rfl d_X3_loop_77 ?_
      refine g_istore hF [(4, .int (σ8 3 1)), (3, .int (σ0 3 2)), (2, .int (σ0 3 1)), (0, .ref (r 3)), (1, .int a1)] d_X3_loop_80 hnn (by decide) rfl ?_
      refine g_aload_n hF d_X3_loop_82 rfl 3 rfl ?_
      refine g_bipush hF (v := 11) d_X3_loop_83 (by decide) ?_
      refine g_callV (As := [.int 11]) (rest := []) hF (c_X3_expect a g r σ8 (11 : Int32) hgp8 (by show ¬ (11 = 0 ∨ 11 = -1); have e0 : (11 : Int32).toInt = 11 := (by decide); have e1 := s_rng (σ0 3 2); have e2 : (12 : Int32).toInt = 12 := (by decide); omega) iσ8) (Nat.le_of_ble_eq_true rfl) mV_X3_expect m_903 (recv_ob obC_3) rfl rfl (Nat.le_of_ble_eq_true rfl) d_X3_loop_85 (k_v (fun σ9 ⟨⟨hgp9, hgm9⟩, hs9, iσ9, ik9⟩ => ?_)) (fun _ _ _ h => h.elim)
      have hs9 : (σ9 3 3).toInt < 0 → (σ8 3 2).toInt = 11 := hs9
      have hmo9 : Mo σ9 σ8 := fun h9 => mo_e (show σ8 3 3 = σ8 3 3 from rfl) (hgm9 h9)
      have kp : Keep [(3, 1), (3, 2), (3, 3), (3, 4), (3, 9)] [18, 19, 20, 21, 22, 23] σ0 σ9 := keep_c kp ik9 (by decide) (by decide)
      refine g_aload_n hF d_X3_loop_88 rfl 3 rfl ?_
      refine g_bipush hF (v := 30) d_X3_loop_89 (by decide) ?_
      refine g_iload hF d_X3_loop_91 0 rfl ?_
      refine g_iconst hF (v := 0) d_X3_loop_93 (by decide) ?_
      refine g_iconst hF (v := 0) d_X3_loop_94 (by decide) ?_
      refine g_callV (As := [.int 30, .int (σ8 3 1), .int 0, .int 0]) (rest := []) hF (c_X3_add a g r σ9 (30 : Int32) (σ8 3 1) (0 : Int32) (0 : Int32) (fun h9 => absurd h9 (by decide)) hgp9 iσ9) (Nat.le_of_ble_eq_true rfl) mV_X3_add m_923 (recv_ob obC_3) rfl rfl (Nat.le_of_ble_eq_true rfl) d_X3_loop_95 (k_i (fun r10 σ10 ⟨⟨hgp10, hgm10⟩, iσ10, ik10⟩ => ?_)) (fun _ _ _ h => h.elim)
      have hmo10 : Mo σ10 σ9 := fun h9 => mo_e (show σ9 3 3 = σ9 3 3 from rfl) (hgm10 h9)
      have kp : Keep [(3, 1), (3, 2), (3, 3), (3, 4), (3, 9)] [18, 19, 20, 21, 22, 23] σ0 σ10 := keep_c kp ik10 (by decide) (by decide)
      refine g_pop hF d_X3_loop_98 rfl ?_
      refine g_aload_n hF d_X3_loop_99 rfl 3 rfl ?_
      refine g_bipush hF (v := 31) d_X3_loop_100 (by decide) ?_
      refine g_iload hF d_X3_loop_102 0 rfl ?_
      refine g_callV (As := [.int 31, .int (σ8 3 1)]) (rest := []) hF (c_X3_condition a g r σ10 (31 : Int32) (σ8 3 1) hgp10 (by show ¬ (31 = 43 ∨ 31 = 47); have e0 : (31 : Int32).toInt = 31 := (by decide); have e1 := s_rng (σ8 3 1); omega) iσ10) (Nat.le_of_ble_eq_true rfl) mV_X3_condition m_1016 (recv_ob obC_3) rfl rfl (Nat.le_of_ble_eq_true rfl) d_X3_loop_104 (k_v (fun σ11 ⟨⟨hgp11, hgm11⟩, iσ11, ik11⟩ => ?_)) (fun _ _ _ h => h.elim)
      have hmo11 : Mo σ11 σ9 := fun h9 => mo_e (show σ10 3 3 = σ9 3 3 from (ik10 3 3 rfl rfl rfl)) (hgm11 h9)
      have kp : Keep [(3, 1), (3, 2), (3, 3), (3, 4), (3, 9)] [18, 19, 20, 21, 22, 23] σ0 σ11 := keep_c kp ik11 (by decide) (by decide)
      refine g_aload_n hF d_X3_loop_107 rfl 3 rfl ?_
      refine g_bipush hF (v := 27) d_X3_loop_108 (by decide) ?_
      refine g_callV (As := [.int 27]) (rest := []) hF (c_X3_expect a g r σ11 (27 : Int32) hgp11 (by show ¬ (27 = 0 ∨ 27 = -1); have e0 : (27 : Int32).toInt = 27 := (by decide); omega) iσ11) (Nat.le_of_ble_eq_true rfl) mV_X3_expect m_903 (recv_ob obC_3) rfl rfl (Nat.le_of_ble_eq_true rfl) d_X3_loop_110 (k_v (fun σ12 ⟨⟨hgp12, hgm12⟩, hs12, iσ12, ik12⟩ => ?_)) (fun _ _ _ h => h.elim)
      have hs12 : (σ12 3 3).toInt < 0 → (σ11 3 2).toInt = 27 := hs12
      have hmo12 : Mo σ12 σ11 := fun h9 => mo_e (show σ11 3 3 = σ11 3 3 from rfl) (hgm12 h9)
      have kp : Keep [(3, 1), (3, 2), (3, 3), (3, 4), (3, 9)] [18, 19, 20, 21, 22, 23] σ0 σ12 := keep_c kp ik12 (by decide) (by decide)
      refine g_goto hF 136 d_X3_loop_113 (by decide) ?_
      exact g_vret hF rfl d_X3_loop_136 ⟨rfl, rfl, rfl, ⟨⟨hgp12, (fun h9 => (hmo8 (hmo9 (hmo11 (hmo12 (mo_e (show σ12 3 3 = σ12 3 3 from rfl) h9))))))⟩, iσ12, kp⟩⟩
  · -- not taken at 17
    refine g_aload_n hF d_X3_loop_20 rfl 2 rfl ?_
    refine g_bipush hF (v := 26) d_X3_loop_21 (by decide) ?_
    refine g_iload_n hF d_X3_loop_23 rfl 1 rfl ?_
    refine g_iconst hF (v := 0) d_X3_loop_24 (by decide) ?_
    refine g_iconst hF (v := 0) d_X3_loop_25 (by decide) ?_
    refine g_callV (As := [.int 26, .int (σ0 3 1), .int 0, .int 0]) (rest := []) hF (c_X3_add a g r σ1 (26 : Int32) (σ0 3 1) (0 : Int32) (0 : Int32) (fun h9 => absurd h9 (by decide)) hgp1 iσ1) (Nat.le_of_ble_eq_true rfl) mV_X3_add m_923 (recv_ob obC_3) rfl rfl (Nat.le_of_ble_eq_true rfl) d_X3_loop_26 (k_i (fun r13 σ13 ⟨⟨hgp13, hgm13⟩, iσ13, ik13⟩ => ?_)) (fun _ _ _ h => h.elim)
    have hmo13 : Mo σ13 σ0 := fun h9 => mo_e (show σ1 3 3 = σ0 3 3 from (ik1 3 3 rfl rfl rfl)) (hgm13 h9)
    have kp : Keep [(3, 1), (3, 2), (3, 3), (3, 4), (3, 9)] [18, 19, 20, 21, 22, 23] σ0 σ13 := keep_c kp ik13 (by decide) (by decide)
    refine g_pop hF d_X3_loop_29 rfl ?_
    refine g_aload_n hF d_X3_loop_30 rfl 2 rfl ?_
    refine g_bipush hF (v := 27) d_X3_loop_31 (by decide) ?_
    refine g_iload_n hF d_X3_loop_33 rfl 1 rfl ?_
    refine g_callV (As := [.int 27, .int (σ0 3 1)]) (rest := []) hF (c_X3_condition a g r σ13 (27 : Int32) (σ0 3 1) hgp13 (by show ¬ (27 = 43 ∨ 27 = 47); have e0 : (27 : Int32).toInt = 27 := (by decide); have e1 := s_rng (σ0 3 1); omega) iσ13) (Nat.le_of_ble_eq_true rfl) mV_X3_condition m_1016 (recv_ob obC_3) rfl rfl (Nat.le_of_ble_eq_true rfl) d_X3_loop_34 (k_v (fun σ14 ⟨⟨hgp14, hgm14⟩, iσ14, ik14⟩ => ?_)) (fun _ _ _ h => h.elim)
    have hmo14 : Mo σ14 σ0 := fun h9 => mo_e (show σ13 3 3 = σ0 3 3 from ((ik13 3 3 rfl rfl rfl).trans (ik1 3 3 rfl rfl rfl))) (hgm14 h9)
    have kp : Keep [(3, 1), (3, 2), (3, 3), (3, 4), (3, 9)] [18, 19, 20, 21, 22, 23] σ0 σ14 := keep_c kp ik14 (by decide) (by decide)
    refine g_aload_n hF d_X3_loop_37 rfl 2 rfl ?_
    refine g_iload_n hF d_X3_loop_38 rfl 3 rfl ?_
    refine g_callV (As := [.int a1]) (rest := []) hF (c_X3_body a g r k σ14 a1 ih h1 hk (by have e0 := s_rng a1; have e1 : (1 : Int32).toInt = 1 := (by decide); have e2 : (25 : Int32).toInt = 25 := (by decide); omega) hgp14 iσ14) (by omega) mV_X3_body m_1020 (recv_ob obC_3) rfl rfl (Nat.le_of_ble_eq_true rfl) d_X3_loop_39 (k_v (fun σ15 ⟨⟨hgp15, hgm15⟩, iσ15, ik15⟩ => ?_)) (fun _ _ _ h => h.elim)
    have hmo15 : Mo σ15 σ14 := fun h9 => mo_e (show σ14 3 3 = σ14 3 3 from rfl) (hgm15 h9)
    have kp : Keep [(3, 1), (3, 2), (3, 3), (3, 4), (3, 9)] [18, 19, 20, 21, 22, 23] σ0 σ15 := keep_c kp ik15 (by decide) (by decide)
    refine g_aload_n hF d_X3_loop_42 rfl 2 rfl ?_
    refine g_bipush hF (v := 28) d_X3_loop_43 (by decide) ?_
    refine g_iload_n hF d_X3_loop_45 rfl 1 rfl ?_
    refine g_iconst hF (v := 0) d_X3_loop_46 (by decide) ?_
    refine g_iconst hF (v := 0) d_X3_loop_47 (by decide) ?_
    refine g_callV (As := [.int 28, .int (σ0 3 1), .int 0, .int 0]) (rest := []) hF (c_X3_add a g r σ15 (28 : Int32) (σ0 3 1) (0 : Int32) (0 : Int32) (fun h9 => absurd h9 (by decide)) hgp15 iσ15) (Nat.le_of_ble_eq_true rfl) mV_X3_add m_923 (recv_ob obC_3) rfl rfl (Nat.le_of_ble_eq_true rfl) d_X3_loop_48 (k_i (fun r16 σ16 ⟨⟨hgp16, hgm16⟩, iσ16, ik16⟩ => ?_)) (fun _ _ _ h => h.elim)
    have hmo16 : Mo σ16 σ15 := fun h9 => mo_e (show σ15 3 3 = σ15 3 3 from rfl) (hgm16 h9)
    have kp : Keep [(3, 1), (3, 2), (3, 3), (3, 4), (3, 9)] [18, 19, 20, 21, 22, 23] σ0 σ16 := keep_c kp ik16 (by decide) (by decide)
    refine g_pop hF d_X3_loop_51 rfl ?_
    refine g_goto hF 136 d_X3_loop_52 (by decide) ?_
    exact g_vret hF rfl d_X3_loop_136 ⟨rfl, rfl, rfl, ⟨⟨hgp16, (fun h9 => (hmo14 (hmo15 (mo_e (show σ16 3 3 = σ15 3 3 from (ik16 3 3 rfl rfl rfl)) h9))))⟩, iσ16, kp⟩⟩
