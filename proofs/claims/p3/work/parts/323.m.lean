set_option maxHeartbeats 4000000 in
set_option maxRecDepth 100000 in
theorem c_X3_behind (a : Nat → Nat) (g : Nat → Nat → Int32) (r : Nat → Nat) (k : Nat) (σ0 : St) (a1 : Int32) (ih : 2 ≤ k → RX a g r (k - 1)) (h1 : 1 ≤ a1.toInt) (hk : a1.toInt + (k : Int) = 26) (hgp : GPS σ0) (i0 : Inv σ0) (l : Launch) (D : va_G) (cy : Nat → ClassId) : Ct l D cy SC r (EC a g) y_X3_behind (Cond.code y_X3_behind b_X3_behind 5 none) (14 * k + 4) [.ref (r 3), .int a1] σ0 Z0 [] (QV (fun σ9 => ((GPS σ9 ∧ Mo σ9 σ0) ∧ (Inv σ9 ∧ Keep [(3, 1), (3, 2), (3, 3), (3, 4), (3, 9)] [18, 19, 20, 21, 22, 23] σ0 σ9)))) QF := by
  refine Ct_of (EC_ok a g) (by decide) (Nat.le_of_ble_eq_true rfl) (by decide) (fun X hnn hF => ?_)
  show G SC r X σ0 Z0 [] [(0, .ref (r 3)), (1, .int a1)] [] 0
  have b15 : ∀ (N : Nat) (σ : St) (x1 : Int32) (x2 : Int32) (x3 : Int32) , dnm x3 = N → Inv σ → Keep [(3, 1), (3, 2), (3, 3), (3, 4), (3, 9)] [18, 19, 20, 21, 22, 23] σ0 σ → x2 = 0 ∨ x2 = 1 → GPS σ → Mo σ σ0 → 1 ≤ x1.toInt → x1.toInt + (k : Int) = 26 → G SC r X σ Z0 [] [(0, .ref (r 3)), (1, .int x1), (2, .int x2), (3, .int x3)] [] 15 := by
    intro M15
    induction M15 using Nat.strongRecOn with
    | _ M15 ih15 =>
      intro σ x1 x2 x3 N15 inv kp z_x2 hgp hgm h1 hk
      refine g_iload_n hF d_X3_behind_15 rfl 3 rfl ?_
      refine g_if_le hF 142 d_X3_behind_16 (by decide) rfl (fun c1_16 => ?_) (fun c1_16 => ?_)
      · -- taken at 16
        exact g_vret hF rfl d_X3_behind_142 ⟨rfl, rfl, rfl, ⟨⟨hgp, (fun h9 => (hgm (mo_e (show σ 3 3 = σ 3 3 from rfl) h9)))⟩, inv, kp⟩⟩
      · -- not taken at 16
        refine g_iload_n hF d_X3_behind_19 rfl 2 rfl ?_
        refine g_if_eq hF 142 d_X3_behind_20 (by decide) rfl (fun c2_20 => ?_) (fun c2_20 => ?_)
        · -- taken at 20
          exact g_vret hF rfl d_X3_behind_142 ⟨rfl, rfl, rfl, ⟨⟨hgp, (fun h9 => (hgm (mo_e (show σ 3 3 = σ 3 3 from rfl) h9)))⟩, inv, kp⟩⟩
        · -- not taken at 20
          refine g_aload_n hF d_X3_behind_23 rfl 0 rfl ?_
          refine g_get (v := .int (σ 3 1)) hF 1 obC_3 (by decide) m_95 rfl d_X3_behind_24 ?_
          refine g_istore hF [(4, .int (σ 3 1)), (0, .ref (r 3)), (1, .int x1), (2, .int x2), (3, .int x3)] d_X3_behind_27 hnn (by decide) rfl ?_
          refine g_aload_n hF d_X3_behind_29 rfl 1 rfl ?_
          refine g_get (v := .int (σ 3 2)) hF 2 obC_3 (by decide) m_96 rfl d_X3_behind_30 ?_
          refine g_bipush hF (v := 24) d_X3_behind_33 (by decide) ?_
          refine g_icmp_eq (yv := 24) hF 56 d_X3_behind_35 (by decide) rfl (by decide) (fun c3_35 => ?_) (fun c3_35 => ?_)
          · -- taken at 35
            refine g_iconst hF (v := 1) d_X3_behind_56 (by decide) ?_
            refine g_goto hF 61 d_X3_behind_57 (by decide) ?_
            refine g_istore_n hF [(2, .int 1), (4, .int (σ 3 1)), (0, .ref (r 3)), (1, .int x1), (3, .int x3)] d_X3_behind_61 rfl hnn (by decide) rfl ?_
            refine g_aload_n hF d_X3_behind_62 rfl 2 rfl ?_
            refine g_get (v := .int (σ 3 2)) hF 2 obC_3 (by decide) m_96 rfl d_X3_behind_63 ?_
            refine g_bipush hF (v := 24) d_X3_behind_66 (by decide) ?_
            refine g_icmp_ne (yv := 24) hF 117 d_X3_behind_68 (by decide) rfl (by decide) (fun c4_68 => ?_) (fun c4_68 => ?_)
            · -- taken at 68
              refine g_iload_n hF d_X3_behind_117 rfl 0 rfl ?_
              refine g_if_eq (xv := 1) hF 136 d_X3_behind_118 (by decide) (by decide) (fun c_118 => absurd c_118 (by decide)) (fun _ => ?_)
              refine g_aload_n hF d_X3_behind_121 rfl 2 rfl ?_
              refine g_callV (As := []) (rest := []) hF (c_X3_advance a g r σ hgp.2.2 (by show -1 ≤ (σ 3 1).toInt ∧ (σ 3 1).toInt ≤ 16001; have hki := hgp.2.1.1; have hgz := hgp.1; have e0 := s_rng (σ 3 1); have e1 := s_rng (σ0 3 1); omega) inv) (Nat.le_of_ble_eq_true rfl) mV_X3_advance m_899 (recv_ob obC_3) rfl rfl (Nat.le_of_ble_eq_true rfl) d_X3_behind_122 (k_v (fun σ5 ⟨⟨hgp5, hgm5⟩, hs5, iσ5, ik5⟩ => ?_)) (fun _ _ _ h => h.elim)
              have hs5 : (σ5 3 1).toInt = (σ 3 1).toInt + 1 := hs5
              have hmo5 : Mo σ5 σ := fun h9 => mo_e (show σ 3 3 = σ 3 3 from rfl) (hgm5 h9)
              have kp : Keep [(3, 1), (3, 2), (3, 3), (3, 4), (3, 9)] [18, 19, 20, 21, 22, 23] σ0 σ5 := keep_c kp ik5 (by decide) (by decide)
              refine g_aload_n hF d_X3_behind_125 rfl 2 rfl ?_
              refine g_bipush hF (v := 13) d_X3_behind_126 (by decide) ?_
              refine g_iload hF d_X3_behind_128 1 rfl ?_
              refine g_iconst hF (v := 0) d_X3_behind_130 (by decide) ?_
              refine g_iconst hF (v := 0) d_X3_behind_131 (by decide) ?_
              refine g_callV (As := [.int 13, .int (σ 3 1), .int 0, .int 0]) (rest := []) hF (c_X3_add a g r σ5 (13 : Int32) (σ 3 1) (0 : Int32) (0 : Int32) (fun h9 => absurd h9 (by decide)) hgp5 iσ5) (Nat.le_of_ble_eq_true rfl) mV_X3_add m_923 (recv_ob obC_3) rfl rfl (Nat.le_of_ble_eq_true rfl) d_X3_behind_132 (k_i (fun r6 σ6 ⟨⟨hgp6, hgm6⟩, iσ6, ik6⟩ => ?_)) (fun _ _ _ h => h.elim)
              have hmo6 : Mo σ6 σ := fun h9 => mo_e (show σ5 3 3 = σ 3 3 from (ik5 3 3 rfl rfl rfl)) (hgm6 h9)
              have kp : Keep [(3, 1), (3, 2), (3, 3), (3, 4), (3, 9)] [18, 19, 20, 21, 22, 23] σ0 σ6 := keep_c kp ik6 (by decide) (by decide)
              refine g_pop hF d_X3_behind_135 rfl ?_
              refine g_iinc hF (x3 + (-1)) [(3, .int (x3 + (-1))), (2, .int 1), (4, .int (σ 3 1)), (0, .ref (r 3)), (1, .int x1)] d_X3_behind_136 4 rfl rfl hnn (by decide) rfl ?_
              refine g_goto hF 15 d_X3_behind_139 (by decide) ?_
              exact g_sub (L' := [(0, .ref (r 3)), (1, .int x1), (2, .int 1), (3, .int (x3 + (-1)))]) [3, 4, 1, 0] rfl (ih15 _ (N15 ▸ dnm_lt c1_16 (by decide)) σ6 x1 (1 : Int32) (x3 + (-1)) rfl iσ6 kp (Or.inr rfl) hgp6 (fun h9 => (hgm (mo_e (show σ6 3 3 = σ 3 3 from ((ik6 3 3 rfl rfl rfl).trans (ik5 3 3 rfl rfl rfl))) h9))) h1 hk)
            · -- not taken at 68
              refine g_aload_n hF d_X3_behind_71 rfl 2 rfl ?_
              refine g_iload_n hF d_X3_behind_72 rfl 3 rfl ?_
              refine g_callV (As := [.int x1]) (rest := []) hF (c_X3_deeper a g r σ x1 hgp (by show ¬ ((σ 3 2).toInt = 0 ∨ (σ 3 2).toInt = -1); have e0 := s_rng x1; have e1 := s_rng (σ 3 2); have e2 := s_rng (σ0 3 2); have e3 : (1 : Int32).toInt = 1 := (by decide); have e4 : (24 : Int32).toInt = 24 := (by decide); omega) inv) (Nat.le_of_ble_eq_true rfl) mV_X3_deeper m_943 (recv_ob obC_3) rfl rfl (Nat.le_of_ble_eq_true rfl) d_X3_behind_73 (k_i (fun r7 σ7 ⟨hz7, hp7, ⟨hgp7, hgm7⟩, iσ7, ik7⟩ => ?_)) (fun _ _ _ h => h.elim)
              have hmo7 : Mo σ7 σ := fun h9 => mo_e (show σ 3 3 = σ 3 3 from rfl) (hgm7 h9)
              have kp : Keep [(3, 1), (3, 2), (3, 3), (3, 4), (3, 9)] [18, 19, 20, 21, 22, 23] σ0 σ7 := keep_c kp ik7 (by decide) (by decide)
              refine g_if_eq hF 136 d_X3_behind_76 (by decide) rfl (fun c8_76 => ?_) (fun c8_76 => ?_)
              · -- taken at 76
                refine g_iinc hF (x3 + (-1)) [(3, .int (x3 + (-1))), (2, .int 1), (4, .int (σ 3 1)), (0, .ref (r 3)), (1, .int x1)] d_X3_behind_136 4 rfl rfl hnn (by decide) rfl ?_
                refine g_goto hF 15 d_X3_behind_139 (by decide) ?_
                exact g_sub (L' := [(0, .ref (r 3)), (1, .int x1), (2, .int 1), (3, .int (x3 + (-1)))]) [3, 4, 1, 0] rfl (ih15 _ (N15 ▸ dnm_lt c1_16 (by decide)) σ7 x1 (1 : Int32) (x3 + (-1)) rfl iσ7 kp (Or.inr rfl) hgp7 (fun h9 => (hgm (hmo7 (mo_e (show σ7 3 3 = σ7 3 3 from rfl) h9)))) h1 hk)
              · -- not taken at 76
                refine g_aload_n hF d_X3_behind_79 rfl 2 rfl ?_
                refine g_bipush hF (v := 7) d_X3_behind_80 (by decide) ?_
                refine g_iload hF d_X3_behind_82 1 rfl ?_
                refine g_iconst hF (v := 0) d_X3_behind_84 (by decide) ?_
                refine g_iconst hF (v := 0) d_X3_behind_85 (by decide) ?_
                refine g_callV (As := [.int 7, .int (σ 3 1), .int 0, .int 0]) (rest := []) hF (c_X3_add a g r σ7 (7 : Int32) (σ 3 1) (0 : Int32) (0 : Int32) (fun h9 => absurd h9 (by decide)) hgp7 iσ7) (Nat.le_of_ble_eq_true rfl) mV_X3_add m_923 (recv_ob obC_3) rfl rfl (Nat.le_of_ble_eq_true rfl) d_X3_behind_86 (k_i (fun r9 σ9 ⟨⟨hgp9, hgm9⟩, iσ9, ik9⟩ => ?_)) (fun _ _ _ h => h.elim)
                have hmo9 : Mo σ9 σ7 := fun h9 => mo_e (show σ7 3 3 = σ7 3 3 from rfl) (hgm9 h9)
                have kp : Keep [(3, 1), (3, 2), (3, 3), (3, 4), (3, 9)] [18, 19, 20, 21, 22, 23] σ0 σ9 := keep_c kp ik9 (by decide) (by decide)
                refine g_pop hF d_X3_behind_89 rfl ?_
                refine g_aload_n hF d_X3_behind_90 rfl 2 rfl ?_
                refine g_iload_n hF d_X3_behind_91 rfl 3 rfl ?_
                refine g_iconst hF (v := 1) d_X3_behind_92 (by decide) ?_
                refine g_iadd hF d_X3_behind_93 ?_
                refine g_callV (As := [.int (x1 + 1)]) (rest := []) hF (((ih (by have e0 := s_rng x1; have e1 : (1 : Int32).toInt = 1 := (by decide); obtain ⟨k2, e2⟩ := s_add x1 (1 : Int32); have e2a := s_rng (x1 + 1); have e4 := s_rng r7; have e5 : (0 : Int32).toInt = 0 := (by decide); have e6 := s_rng x3; have e7 := s_rng x2; omega)) σ9 (x1 + 1) (by have e0 := s_rng x1; have e1 : (1 : Int32).toInt = 1 := (by decide); obtain ⟨k2, e2⟩ := s_add x1 (1 : Int32); have e2a := s_rng (x1 + 1); have e4 := s_rng r7; have e5 : (0 : Int32).toInt = 0 := (by decide); have e6 := s_rng x3; have e7 := s_rng x2; omega) (by have e0 := s_rng x1; have e1 : (1 : Int32).toInt = 1 := (by decide); obtain ⟨k2, e2⟩ := s_add x1 (1 : Int32); have e2a := s_rng (x1 + 1); have e4 := s_rng r7; have e5 : (0 : Int32).toInt = 0 := (by decide); have e6 := s_rng x3; have e7 := s_rng x2; omega) iσ9 hgp9).1) (by have : 2 ≤ k := (by have e0 := s_rng x1; have e1 : (1 : Int32).toInt = 1 := (by decide); obtain ⟨k2, e2⟩ := s_add x1 (1 : Int32); have e2a := s_rng (x1 + 1); have e4 := s_rng r7; have e5 : (0 : Int32).toInt = 0 := (by decide); have e6 := s_rng x3; have e7 := s_rng x2; omega); omega) mV_X3_expression m_927 (recv_ob obC_3) rfl rfl (Nat.le_of_ble_eq_true rfl) d_X3_behind_94 (k_v (fun σ10 ⟨⟨hgp10, hgm10⟩, iσ10, ik10⟩ => ?_)) (fun _ _ _ h => h.elim)
                have hmo10 : Mo σ10 σ7 := fun h9 => mo_e (show σ9 3 3 = σ7 3 3 from (ik9 3 3 rfl rfl rfl)) (hgm10 h9)
                have kp : Keep [(3, 1), (3, 2), (3, 3), (3, 4), (3, 9)] [18, 19, 20, 21, 22, 23] σ0 σ10 := keep_c kp ik10 (by decide) (by decide)
                refine g_aload_n hF d_X3_behind_97 rfl 2 rfl ?_
                refine g_bipush hF (v := 25) d_X3_behind_98 (by decide) ?_
                refine g_callV (As := [.int 25]) (rest := []) hF (c_X3_expect a g r σ10 (25 : Int32) hgp10 (by show ¬ (25 = 0 ∨ 25 = -1); have e0 : (25 : Int32).toInt = 25 := (by decide); omega) iσ10) (Nat.le_of_ble_eq_true rfl) mV_X3_expect m_903 (recv_ob obC_3) rfl rfl (Nat.le_of_ble_eq_true rfl) d_X3_behind_100 (k_v (fun σ11 ⟨⟨hgp11, hgm11⟩, hs11, iσ11, ik11⟩ => ?_)) (fun _ _ _ h => h.elim)
                have hs11 : (σ11 3 3).toInt < 0 → (σ10 3 2).toInt = 25 := hs11
                have hmo11 : Mo σ11 σ10 := fun h9 => mo_e (show σ10 3 3 = σ10 3 3 from rfl) (hgm11 h9)
                have kp : Keep [(3, 1), (3, 2), (3, 3), (3, 4), (3, 9)] [18, 19, 20, 21, 22, 23] σ0 σ11 := keep_c kp ik11 (by decide) (by decide)
                refine g_aload_n hF d_X3_behind_103 rfl 2 rfl ?_
                refine g_bipush hF (v := 10) d_X3_behind_104 (by decide) ?_
                refine g_iload hF d_X3_behind_106 1 rfl ?_
                refine g_iconst hF (v := 0) d_X3_behind_108 (by decide) ?_
                refine g_iconst hF (v := 0) d_X3_behind_109 (by decide) ?_
                refine g_callV (As := [.int 10, .int (σ 3 1), .int 0, .int 0]) (rest := []) hF (c_X3_add a g r σ11 (10 : Int32) (σ 3 1) (0 : Int32) (0 : Int32) (fun h9 => absurd h9 (by decide)) hgp11 iσ11) (Nat.le_of_ble_eq_true rfl) mV_X3_add m_923 (recv_ob obC_3) rfl rfl (Nat.le_of_ble_eq_true rfl) d_X3_behind_110 (k_i (fun r12 σ12 ⟨⟨hgp12, hgm12⟩, iσ12, ik12⟩ => ?_)) (fun _ _ _ h => h.elim)
                have hmo12 : Mo σ12 σ11 := fun h9 => mo_e (show σ11 3 3 = σ11 3 3 from rfl) (hgm12 h9)
                have kp : Keep [(3, 1), (3, 2), (3, 3), (3, 4), (3, 9)] [18, 19, 20, 21, 22, 23] σ0 σ12 := keep_c kp ik12 (by decide) (by decide)
                refine g_pop hF d_X3_behind_113 rfl ?_
                refine g_goto hF 136 d_X3_behind_114 (by decide) ?_
                refine g_iinc hF (x3 + (-1)) [(3, .int (x3 + (-1))), (2, .int 1), (4, .int (σ 3 1)), (0, .ref (r 3)), (1, .int x1)] d_X3_behind_136 4 rfl rfl hnn (by decide) rfl ?_
                refine g_goto hF 15 d_X3_behind_139 (by decide) ?_
                exact g_sub (L' := [(0, .ref (r 3)), (1, .int x1), (2, .int 1), (3, .int (x3 + (-1)))]) [3, 4, 1, 0] rfl (ih15 _ (N15 ▸ dnm_lt c1_16 (by decide)) σ12 x1 (1 : Int32) (x3 + (-1)) rfl iσ12 kp (Or.inr rfl) hgp12 (fun h9 => (hgm (hmo7 (hmo10 (hmo11 (mo_e (show σ12 3 3 = σ11 3 3 from (ik12 3 3 rfl rfl rfl)) h9)))))) h1 hk)
          · -- not taken at 35
            refine g_aload_n hF d_X3_behind_38 rfl 1 rfl ?_
            refine g_get (v := .int (σ 3 2)) hF 2 obC_3 (by decide) m_96 rfl d_X3_behind_39 ?_
            refine g_bipush hF (v := 61) d_X3_behind_42 (by decide) ?_
            refine g_icmp_eq (yv := 61) hF 56 d_X3_behind_44 (by decide) rfl (by decide) (fun c13_44 => ?_) (fun c13_44 => ?_)
            · -- taken at 44
              refine g_iconst hF (v := 1) d_X3_behind_56 (by decide) ?_
              refine g_goto hF 61 d_X3_behind_57 (by decide) ?_
              refine g_istore_n hF [(2, .int 1), (4, .int (σ 3 1)), (0, .ref (r 3)), (1, .int x1), (3, .int x3)] d_X3_behind_61 rfl hnn (by decide) rfl ?_
              refine g_aload_n hF d_X3_behind_62 rfl 2 rfl ?_
              refine g_get (v := .int (σ 3 2)) hF 2 obC_3 (by decide) m_96 rfl d_X3_behind_63 ?_
              refine g_bipush hF (v := 24) d_X3_behind_66 (by decide) ?_
              refine g_icmp_ne (yv := 24) hF 117 d_X3_behind_68 (by decide) rfl (by decide) (fun c14_68 => ?_) (fun c14_68 => ?_)
              · -- taken at 68
                refine g_iload_n hF d_X3_behind_117 rfl 0 rfl ?_
                refine g_if_eq (xv := 1) hF 136 d_X3_behind_118 (by decide) (by decide) (fun c_118 => absurd c_118 (by decide)) (fun _ => ?_)
                refine g_aload_n hF d_X3_behind_121 rfl 2 rfl ?_
                refine g_callV (As := []) (rest := []) hF (c_X3_advance a g r σ hgp.2.2 (by show -1 ≤ (σ 3 1).toInt ∧ (σ 3 1).toInt ≤ 16001; have hki := hgp.2.1.1; have hgz := hgp.1; have e0 := s_rng (σ 3 1); have e1 := s_rng (σ0 3 1); omega) inv) (Nat.le_of_ble_eq_true rfl) mV_X3_advance m_899 (recv_ob obC_3) rfl rfl (Nat.le_of_ble_eq_true rfl) d_X3_behind_122 (k_v (fun σ15 ⟨⟨hgp15, hgm15⟩, hs15, iσ15, ik15⟩ => ?_)) (fun _ _ _ h => h.elim)
                have hs15 : (σ15 3 1).toInt = (σ 3 1).toInt + 1 := hs15
                have hmo15 : Mo σ15 σ := fun h9 => mo_e (show σ 3 3 = σ 3 3 from rfl) (hgm15 h9)
                have kp : Keep [(3, 1), (3, 2), (3, 3), (3, 4), (3, 9)] [18, 19, 20, 21, 22, 23] σ0 σ15 := keep_c kp ik15 (by decide) (by decide)
                refine g_aload_n hF d_X3_behind_125 rfl 2 rfl ?_
                refine g_bipush hF (v := 13) d_X3_behind_126 (by decide) ?_
                refine g_iload hF d_X3_behind_128 1 rfl ?_
                refine g_iconst hF (v := 0) d_X3_behind_130 (by decide) ?_
                refine g_iconst hF (v := 0) d_X3_behind_131 (by decide) ?_
                refine g_callV (As := [.int 13, .int (σ 3 1), .int 0, .int 0]) (rest := []) hF (c_X3_add a g r σ15 (13 : Int32) (σ 3 1) (0 : Int32) (0 : Int32) (fun h9 => absurd h9 (by decide)) hgp15 iσ15) (Nat.le_of_ble_eq_true rfl) mV_X3_add m_923 (recv_ob obC_3) rfl rfl (Nat.le_of_ble_eq_true rfl) d_X3_behind_132 (k_i (fun r16 σ16 ⟨⟨hgp16, hgm16⟩, iσ16, ik16⟩ => ?_)) (fun _ _ _ h => h.elim)
                have hmo16 : Mo σ16 σ := fun h9 => mo_e (show σ15 3 3 = σ 3 3 from (ik15 3 3 rfl rfl rfl)) (hgm16 h9)
                have kp : Keep [(3, 1), (3, 2), (3, 3), (3, 4), (3, 9)] [18, 19, 20, 21, 22, 23] σ0 σ16 := keep_c kp ik16 (by decide) (by decide)
                refine g_pop hF d_X3_behind_135 rfl ?_
                refine g_iinc hF (x3 + (-1)) [(3, .int (x3 + (-1))), (2, .int 1), (4, .int (σ 3 1)), (0, .ref (r 3)), (1, .int x1)] d_X3_behind_136 4 rfl rfl hnn (by decide) rfl ?_
                refine g_goto hF 15 d_X3_behind_139 (by decide) ?_
                exact g_sub (L' := [(0, .ref (r 3)), (1, .int x1), (2, .int 1), (3, .int (x3 + (-1)))]) [3, 4, 1, 0] rfl (ih15 _ (N15 ▸ dnm_lt c1_16 (by decide)) σ16 x1 (1 : Int32) (x3 + (-1)) rfl iσ16 kp (Or.inr rfl) hgp16 (fun h9 => (hgm (mo_e (show σ16 3 3 = σ 3 3 from ((ik16 3 3 rfl rfl rfl).trans (ik15 3 3 rfl rfl rfl))) h9))) h1 hk)
              · -- not taken at 68
                refine g_aload_n hF d_X3_behind_71 rfl 2 rfl ?_
                refine g_iload_n hF d_X3_behind_72 rfl 3 rfl ?_
                refine g_callV (As := [.int x1]) (rest := []) hF (c_X3_deeper a g r σ x1 hgp (by show ¬ ((σ 3 2).toInt = 0 ∨ (σ 3 2).toInt = -1); have e0 := s_rng x1; have e1 := s_rng (σ 3 2); have e2 := s_rng (σ0 3 2); have e3 : (1 : Int32).toInt = 1 := (by decide); have e4 : (24 : Int32).toInt = 24 := (by decide); have e5 : (61 : Int32).toInt = 61 := (by decide); omega) inv) (Nat.le_of_ble_eq_true rfl) mV_X3_deeper m_943 (recv_ob obC_3) rfl rfl (Nat.le_of_ble_eq_true rfl) d_X3_behind_73 (k_i (fun r17 σ17 ⟨hz17, hp17, ⟨hgp17, hgm17⟩, iσ17, ik17⟩ => ?_)) (fun _ _ _ h => h.elim)
                have hmo17 : Mo σ17 σ := fun h9 => mo_e (show σ 3 3 = σ 3 3 from rfl) (hgm17 h9)
                have kp : Keep [(3, 1), (3, 2), (3, 3), (3, 4), (3, 9)] [18, 19, 20, 21, 22, 23] σ0 σ17 := keep_c kp ik17 (by decide) (by decide)
                refine g_if_eq hF 136 d_X3_behind_76 (by decide) rfl (fun c18_76 => ?_) (fun c18_76 => ?_)
                · -- taken at 76
                  refine g_iinc hF (x3 + (-1)) [(3, .int (x3 + (-1))), (2, .int 1), (4, .int (σ 3 1)), (0, .ref (r 3)), (1, .int x1)] d_X3_behind_136 4 rfl rfl hnn (by decide) rfl ?_
                  refine g_goto hF 15 d_X3_behind_139 (by decide) ?_
                  exact g_sub (L' := [(0, .ref (r 3)), (1, .int x1), (2, .int 1), (3, .int (x3 + (-1)))]) [3, 4, 1, 0] rfl (ih15 _ (N15 ▸ dnm_lt c1_16 (by decide)) σ17 x1 (1 : Int32) (x3 + (-1)) rfl iσ17 kp (Or.inr rfl) hgp17 (fun h9 => (hgm (hmo17 (mo_e (show σ17 3 3 = σ17 3 3 from rfl) h9)))) h1 hk)
                · -- not taken at 76
                  refine g_aload_n hF d_X3_behind_79 rfl 2 rfl ?_
                  refine g_bipush hF (v := 7) d_X3_behind_80 (by decide) ?_
                  refine g_iload hF d_X3_behind_82 1 rfl ?_
                  refine g_iconst hF (v := 0) d_X3_behind_84 (by decide) ?_
                  refine g_iconst hF (v := 0) d_X3_behind_85 (by decide) ?_
                  refine g_callV (As := [.int 7, .int (σ 3 1), .int 0, .int 0]) (rest := []) hF (c_X3_add a g r σ17 (7 : Int32) (σ 3 1) (0 : Int32) (0 : Int32) (fun h9 => absurd h9 (by decide)) hgp17 iσ17) (Nat.le_of_ble_eq_true rfl) mV_X3_add m_923 (recv_ob obC_3) rfl rfl (Nat.le_of_ble_eq_true rfl) d_X3_behind_86 (k_i (fun r19 σ19 ⟨⟨hgp19, hgm19⟩, iσ19, ik19⟩ => ?_)) (fun _ _ _ h => h.elim)
                  have hmo19 : Mo σ19 σ17 := fun h9 => mo_e (show σ17 3 3 = σ17 3 3 from rfl) (hgm19 h9)
                  have kp : Keep [(3, 1), (3, 2), (3, 3), (3, 4), (3, 9)] [18, 19, 20, 21, 22, 23] σ0 σ19 := keep_c kp ik19 (by decide) (by decide)
                  refine g_pop hF d_X3_behind_89 rfl ?_
                  refine g_aload_n hF d_X3_behind_90 rfl 2 rfl ?_
                  refine g_iload_n hF d_X3_behind_91 rfl 3 rfl ?_
                  refine g_iconst hF (v := 1) d_X3_behind_92 (by decide) ?_
                  refine g_iadd hF d_X3_behind_93 ?_
                  refine g_callV (As := [.int (x1 + 1)]) (rest := []) hF (((ih (by have e0 := s_rng x1; have e1 : (1 : Int32).toInt = 1 := (by decide); obtain ⟨k2, e2⟩ := s_add x1 (1 : Int32); have e2a := s_rng (x1 + 1); have e4 := s_rng r17; have e5 : (0 : Int32).toInt = 0 := (by decide); have e6 := s_rng x3; have e7 := s_rng x2; omega)) σ19 (x1 + 1) (by have e0 := s_rng x1; have e1 : (1 : Int32).toInt = 1 := (by decide); obtain ⟨k2, e2⟩ := s_add x1 (1 : Int32); have e2a := s_rng (x1 + 1); have e4 := s_rng r17; have e5 : (0 : Int32).toInt = 0 := (by decide); have e6 := s_rng x3; have e7 := s_rng x2; omega) (by have e0 := s_rng x1; have e1 : (1 : Int32).toInt = 1 := (by decide); obtain ⟨k2, e2⟩ := s_add x1 (1 : Int32); have e2a := s_rng (x1 + 1); have e4 := s_rng r17; have e5 : (0 : Int32).toInt = 0 := (by decide); have e6 := s_rng x3; have e7 := s_rng x2; omega) iσ19 hgp19).1) (by have : 2 ≤ k := (by have e0 := s_rng x1; have e1 : (1 : Int32).toInt = 1 := (by decide); obtain ⟨k2, e2⟩ := s_add x1 (1 : Int32); have e2a := s_rng (x1 + 1); have e4 := s_rng r17; have e5 : (0 : Int32).toInt = 0 := (by decide); have e6 := s_rng x3; have e7 := s_rng x2; omega); omega) mV_X3_expression m_927 (recv_ob obC_3) rfl rfl (Nat.le_of_ble_eq_true rfl) d_X3_behind_94 (k_v (fun σ20 ⟨⟨hgp20, hgm20⟩, iσ20, ik20⟩ => ?_)) (fun _ _ _ h => h.elim)
                  have hmo20 : Mo σ20 σ17 := fun h9 => mo_e (show σ19 3 3 = σ17 3 3 from (ik19 3 3 rfl rfl rfl)) (hgm20 h9)
                  have kp : Keep [(3, 1), (3, 2), (3, 3), (3, 4), (3, 9)] [18, 19, 20, 21, 22, 23] σ0 σ20 := keep_c kp ik20 (by decide) (by decide)
                  refine g_aload_n hF d_X3_behind_97 rfl 2 rfl ?_
                  refine g_bipush hF (v := 25) d_X3_behind_98 (by decide) ?_
                  refine g_callV (As := [.int 25]) (rest := []) hF (c_X3_expect a g r σ20 (25 : Int32) hgp20 (by show ¬ (25 = 0 ∨ 25 = -1); have e0 : (25 : Int32).toInt = 25 := (by decide); omega) iσ20) (Nat.le_of_ble_eq_true rfl) mV_X3_expect m_903 (recv_ob obC_3) rfl rfl (Nat.le_of_ble_eq_true rfl) d_X3_behind_100 (k_v (fun σ21 ⟨⟨hgp21, hgm21⟩, hs21, iσ21, ik21⟩ => ?_)) (fun _ _ _ h => h.elim)
                  have hs21 : (σ21 3 3).toInt < 0 → (σ20 3 2).toInt = 25 := hs21
                  have hmo21 : Mo σ21 σ20 := fun h9 => mo_e (show σ20 3 3 = σ20 3 3 from rfl) (hgm21 h9)
                  have kp : Keep [(3, 1), (3, 2), (3, 3), (3, 4), (3, 9)] [18, 19, 20, 21, 22, 23] σ0 σ21 := keep_c kp ik21 (by decide) (by decide)
                  refine g_aload_n hF d_X3_behind_103 rfl 2 rfl ?_
                  refine g_bipush hF (v := 10) d_X3_behind_104 (by decide) ?_
                  refine g_iload hF d_X3_behind_106 1 rfl ?_
                  refine g_iconst hF (v := 0) d_X3_behind_108 (by decide) ?_
                  refine g_iconst hF (v := 0) d_X3_behind_109 (by decide) ?_
                  refine g_callV (As := [.int 10, .int (σ 3 1), .int 0, .int 0]) (rest := []) hF (c_X3_add a g r σ21 (10 : Int32) (σ 3 1) (0 : Int32) (0 : Int32) (fun h9 => absurd h9 (by decide)) hgp21 iσ21) (Nat.le_of_ble_eq_true rfl) mV_X3_add m_923 (recv_ob obC_3) rfl rfl (Nat.le_of_ble_eq_true rfl) d_X3_behind_110 (k_i (fun r22 σ22 ⟨⟨hgp22, hgm22⟩, iσ22, ik22⟩ => ?_)) (fun _ _ _ h => h.elim)
                  have hmo22 : Mo σ22 σ21 := fun h9 => mo_e (show σ21 3 3 = σ21 3 3 from rfl) (hgm22 h9)
                  have kp : Keep [(3, 1), (3, 2), (3, 3), (3, 4), (3, 9)] [18, 19, 20, 21, 22, 23] σ0 σ22 := keep_c kp ik22 (by decide) (by decide)
                  refine g_pop hF d_X3_behind_113 rfl ?_
                  refine g_goto hF 136 d_X3_behind_114 (by decide) ?_
                  refine g_iinc hF (x3 + (-1)) [(3, .int (x3 + (-1))), (2, .int 1), (4, .int (σ 3 1)), (0, .ref (r 3)), (1, .int x1)] d_X3_behind_136 4 rfl rfl hnn (by decide) rfl ?_
                  refine g_goto hF 15 d_X3_behind_139 (by decide) ?_
                  exact g_sub (L' := [(0, .ref (r 3)), (1, .int x1), (2, .int 1), (3, .int (x3 + (-1)))]) [3, 4, 1, 0] rfl (ih15 _ (N15 ▸ dnm_lt c1_16 (by decide)) σ22 x1 (1 : Int32) (x3 + (-1)) rfl iσ22 kp (Or.inr rfl) hgp22 (fun h9 => (hgm (hmo17 (hmo20 (hmo21 (mo_e (show σ22 3 3 = σ21 3 3 from (ik22 3 3 rfl rfl rfl)) h9)))))) h1 hk)
            · -- not taken at 44
              refine g_aload_n hF d_X3_behind_47 rfl 1 rfl ?_
              refine g_get (v := .int (σ 3 2)) hF 2 obC_3 (by decide) m_96 rfl d_X3_behind_48 ?_
              refine g_bipush hF (v := 62) d_X3_behind_51 (by decide) ?_
              refine g_icmp_ne (yv := 62) hF 60 d_X3_behind_53 (by decide) rfl (by decide) (fun c23_53 => ?_) (fun c23_53 => ?_)
              · -- taken at 53
                refine g_iconst hF (v := 0) d_X3_behind_60 (by decide) ?_
                refine g_istore_n hF [(2, .int 0), (4, .int (σ 3 1)), (0, .ref (r 3)), (1, .int x1), (3, .int x3)] d_X3_behind_61 rfl hnn (by decide) rfl ?_
                refine g_aload_n hF d_X3_behind_62 rfl 2 rfl ?_
                refine g_get (v := .int (σ 3 2)) hF 2 obC_3 (by decide) m_96 rfl d_X3_behind_63 ?_
                refine g_bipush hF (v := 24) d_X3_behind_66 (by decide) ?_
                refine g_icmp_ne (yv := 24) hF 117 d_X3_behind_68 (by decide) rfl (by decide) (fun c24_68 => ?_) (fun c24_68 => ?_)
                · -- taken at 68
                  refine g_iload_n hF d_X3_behind_117 rfl 0 rfl ?_
                  refine g_if_eq (xv := 0) hF 136 d_X3_behind_118 (by decide) (by decide) (fun _ => ?_) (fun c_118 => absurd c_118 (by decide))
                  refine g_iinc hF (x3 + (-1)) [(3, .int (x3 + (-1))), (2, .int 0), (4, .int (σ 3 1)), (0, .ref (r 3)), (1, .int x1)] d_X3_behind_136 4 rfl rfl hnn (by decide) rfl ?_
                  refine g_goto hF 15 d_X3_behind_139 (by decide) ?_
                  exact g_sub (L' := [(0, .ref (r 3)), (1, .int x1), (2, .int 0), (3, .int (x3 + (-1)))]) [3, 4, 1, 0] rfl (ih15 _ (N15 ▸ dnm_lt c1_16 (by decide)) σ x1 (0 : Int32) (x3 + (-1)) rfl inv kp (Or.inl rfl) hgp (fun h9 => (hgm (mo_e (show σ 3 3 = σ 3 3 from rfl) h9))) h1 hk)
                · -- not taken at 68
                  refine g_aload_n hF d_X3_behind_71 rfl 2 rfl ?_
                  refine g_iload_n hF d_X3_behind_72 rfl 3 rfl ?_
                  refine g_callV (As := [.int x1]) (rest := []) hF (c_X3_deeper a g r σ x1 hgp (by show ¬ ((σ 3 2).toInt = 0 ∨ (σ 3 2).toInt = -1); have e0 := s_rng x1; have e1 := s_rng (σ 3 2); have e2 := s_rng (σ0 3 2); have e3 : (1 : Int32).toInt = 1 := (by decide); have e4 : (24 : Int32).toInt = 24 := (by decide); have e5 : (61 : Int32).toInt = 61 := (by decide); have e6 : (62 : Int32).toInt = 62 := (by decide); omega) inv) (Nat.le_of_ble_eq_true rfl) mV_X3_deeper m_943 (recv_ob obC_3) rfl rfl (Nat.le_of_ble_eq_true rfl) d_X3_behind_73 (k_i (fun r25 σ25 ⟨hz25, hp25, ⟨hgp25, hgm25⟩, iσ25, ik25⟩ => ?_)) (fun _ _ _ h => h.elim)
                  have hmo25 : Mo σ25 σ := fun h9 => mo_e (show σ 3 3 = σ 3 3 from rfl) (hgm25 h9)
                  have kp : Keep [(3, 1), (3, 2), (3, 3), (3, 4), (3, 9)] [18, 19, 20, 21, 22, 23] σ0 σ25 := keep_c kp ik25 (by decide) (by decide)
                  refine g_if_eq hF 136 d_X3_behind_76 (by decide) rfl (fun c26_76 => ?_) (fun c26_76 => ?_)
                  · -- taken at 76
                    refine g_iinc hF (x3 + (-1)) [(3, .int (x3 + (-1))), (2, .int 0), (4, .int (σ 3 1)), (0, .ref (r 3)), (1, .int x1)] d_X3_behind_136 4 rfl rfl hnn (by decide) rfl ?_
                    refine g_goto hF 15 d_X3_behind_139 (by decide) ?_
                    exact g_sub (L' := [(0, .ref (r 3)), (1, .int x1), (2, .int 0), (3, .int (x3 + (-1)))]) [3, 4, 1, 0] rfl (ih15 _ (N15 ▸ dnm_lt c1_16 (by decide)) σ25 x1 (0 : Int32) (x3 + (-1)) rfl iσ25 kp (Or.inl rfl) hgp25 (fun h9 => (hgm (hmo25 (mo_e (show σ25 3 3 = σ25 3 3 from rfl) h9)))) h1 hk)
                  · -- not taken at 76
                    refine g_aload_n hF d_X3_behind_79 rfl 2 rfl ?_
                    refine g_bipush hF (v := 7) d_X3_behind_80 (by decide) ?_
                    refine g_iload hF d_X3_behind_82 1 rfl ?_
                    refine g_iconst hF (v := 0) d_X3_behind_84 (by decide) ?_
                    refine g_iconst hF (v := 0) d_X3_behind_85 (by decide) ?_
                    refine g_callV (As := [.int 7, .int (σ 3 1), .int 0, .int 0]) (rest := []) hF (c_X3_add a g r σ25 (7 : Int32) (σ 3 1) (0 : Int32) (0 : Int32) (fun h9 => absurd h9 (by decide)) hgp25 iσ25) (Nat.le_of_ble_eq_true rfl) mV_X3_add m_923 (recv_ob obC_3) rfl rfl (Nat.le_of_ble_eq_true rfl) d_X3_behind_86 (k_i (fun r27 σ27 ⟨⟨hgp27, hgm27⟩, iσ27, ik27⟩ => ?_)) (fun _ _ _ h => h.elim)
                    have hmo27 : Mo σ27 σ25 := fun h9 => mo_e (show σ25 3 3 = σ25 3 3 from rfl) (hgm27 h9)
                    have kp : Keep [(3, 1), (3, 2), (3, 3), (3, 4), (3, 9)] [18, 19, 20, 21, 22, 23] σ0 σ27 := keep_c kp ik27 (by decide) (by decide)
                    refine g_pop hF d_X3_behind_89 rfl ?_
                    refine g_aload_n hF d_X3_behind_90 rfl 2 rfl ?_
                    refine g_iload_n hF d_X3_behind_91 rfl 3 rfl ?_
                    refine g_iconst hF (v := 1) d_X3_behind_92 (by decide) ?_
                    refine g_iadd hF d_X3_behind_93 ?_
                    refine g_callV (As := [.int (x1 + 1)]) (rest := []) hF (((ih (by have e0 := s_rng x1; have e1 : (1 : Int32).toInt = 1 := (by decide); obtain ⟨k2, e2⟩ := s_add x1 (1 : Int32); have e2a := s_rng (x1 + 1); have e4 := s_rng r25; have e5 : (0 : Int32).toInt = 0 := (by decide); have e6 := s_rng x3; have e7 := s_rng x2; omega)) σ27 (x1 + 1) (by have e0 := s_rng x1; have e1 : (1 : Int32).toInt = 1 := (by decide); obtain ⟨k2, e2⟩ := s_add x1 (1 : Int32); have e2a := s_rng (x1 + 1); have e4 := s_rng r25; have e5 : (0 : Int32).toInt = 0 := (by decide); have e6 := s_rng x3; have e7 := s_rng x2; omega) (by have e0 := s_rng x1; have e1 : (1 : Int32).toInt = 1 := (by decide); obtain ⟨k2, e2⟩ := s_add x1 (1 : Int32); have e2a := s_rng (x1 + 1); have e4 := s_rng r25; have e5 : (0 : Int32).toInt = 0 := (by decide); have e6 := s_rng x3; have e7 := s_rng x2; omega) iσ27 hgp27).1) (by have : 2 ≤ k := (by have e0 := s_rng x1; have e1 : (1 : Int32).toInt = 1 := (by decide); obtain ⟨k2, e2⟩ := s_add x1 (1 : Int32); have e2a := s_rng (x1 + 1); have e4 := s_rng r25; have e5 : (0 : Int32).toInt = 0 := (by decide); have e6 := s_rng x3; have e7 := s_rng x2; omega); omega) mV_X3_expression m_927 (recv_ob obC_3) rfl rfl (Nat.le_of_ble_eq_true rfl) d_X3_behind_94 (k_v (fun σ28 ⟨⟨hgp28, hgm28⟩, iσ28, ik28⟩ => ?_)) (fun _ _ _ h => h.elim)
                    have hmo28 : Mo σ28 σ25 := fun h9 => mo_e (show σ27 3 3 = σ25 3 3 from (ik27 3 3 rfl rfl rfl)) (hgm28 h9)
                    have kp : Keep [(3, 1), (3, 2), (3, 3), (3, 4), (3, 9)] [18, 19, 20, 21, 22, 23] σ0 σ28 := keep_c kp ik28 (by decide) (by decide)
                    refine g_aload_n hF d_X3_behind_97 rfl 2 rfl ?_
                    refine g_bipush hF (v := 25) d_X3_behind_98 (by decide) ?_
                    refine g_callV (As := [.int 25]) (rest := []) hF (c_X3_expect a g r σ28 (25 : Int32) hgp28 (by show ¬ (25 = 0 ∨ 25 = -1); have e0 : (25 : Int32).toInt = 25 := (by decide); omega) iσ28) (Nat.le_of_ble_eq_true rfl) mV_X3_expect m_903 (recv_ob obC_3) rfl rfl (Nat.le_of_ble_eq_true rfl) d_X3_behind_100 (k_v (fun σ29 ⟨⟨hgp29, hgm29⟩, hs29, iσ29, ik29⟩ => ?_)) (fun _ _ _ h => h.elim)
                    have hs29 : (σ29 3 3).toInt < 0 → (σ28 3 2).toInt = 25 := hs29
                    have hmo29 : Mo σ29 σ28 := fun h9 => mo_e (show σ28 3 3 = σ28 3 3 from rfl) (hgm29 h9)
                    have kp : Keep [(3, 1), (3, 2), (3, 3), (3, 4), (3, 9)] [18, 19, 20, 21, 22, 23] σ0 σ29 := keep_c kp ik29 (by decide) (by decide)
                    refine g_aload_n hF d_X3_behind_103 rfl 2 rfl ?_
                    refine g_bipush hF (v := 10) d_X3_behind_104 (by decide) ?_
                    refine g_iload hF d_X3_behind_106 1 rfl ?_
                    refine g_iconst hF (v := 0) d_X3_behind_108 (by decide) ?_
                    refine g_iconst hF (v := 0) d_X3_behind_109 (by decide) ?_
                    refine g_callV (As := [.int 10, .int (σ 3 1), .int 0, .int 0]) (rest := []) hF (c_X3_add a g r σ29 (10 : Int32) (σ 3 1) (0 : Int32) (0 : Int32) (fun h9 => absurd h9 (by decide)) hgp29 iσ29) (Nat.le_of_ble_eq_true rfl) mV_X3_add m_923 (recv_ob obC_3) rfl rfl (Nat.le_of_ble_eq_true rfl) d_X3_behind_110 (k_i (fun r30 σ30 ⟨⟨hgp30, hgm30⟩, iσ30, ik30⟩ => ?_)) (fun _ _ _ h => h.elim)
                    have hmo30 : Mo σ30 σ29 := fun h9 => mo_e (show σ29 3 3 = σ29 3 3 from rfl) (hgm30 h9)
                    have kp : Keep [(3, 1), (3, 2), (3, 3), (3, 4), (3, 9)] [18, 19, 20, 21, 22, 23] σ0 σ30 := keep_c kp ik30 (by decide) (by decide)
                    refine g_pop hF d_X3_behind_113 rfl ?_
                    refine g_goto hF 136 d_X3_behind_114 (by decide) ?_
                    refine g_iinc hF (x3 + (-1)) [(3, .int (x3 + (-1))), (2, .int 0), (4, .int (σ 3 1)), (0, .ref (r 3)), (1, .int x1)] d_X3_behind_136 4 rfl rfl hnn (by decide) rfl ?_
                    refine g_goto hF 15 d_X3_behind_139 (by decide) ?_
                    exact g_sub (L' := [(0, .ref (r 3)), (1, .int x1), (2, .int 0), (3, .int (x3 + (-1)))]) [3, 4, 1, 0] rfl (ih15 _ (N15 ▸ dnm_lt c1_16 (by decide)) σ30 x1 (0 : Int32) (x3 + (-1)) rfl iσ30 kp (Or.inl rfl) hgp30 (fun h9 => (hgm (hmo25 (hmo28 (hmo29 (mo_e (show σ30 3 3 = σ29 3 3 from (ik30 3 3 rfl rfl rfl)) h9)))))) h1 hk)
              · -- not taken at 53
                refine g_iconst hF (v := 1) d_X3_behind_56 (by decide) ?_
                refine g_goto hF 61 d_X3_behind_57 (by decide) ?_
                refine g_istore_n hF [(2, .int 1), (4, .int (σ 3 1)), (0, .ref (r 3)), (1, .int x1), (3, .int x3)] d_X3_behind_61 rfl hnn (by decide) rfl ?_
                refine g_aload_n hF d_X3_behind_62 rfl 2 rfl ?_
                refine g_get (v := .int (σ 3 2)) hF 2 obC_3 (by decide) m_96 rfl d_X3_behind_63 ?_
                refine g_bipush hF (v := 24) d_X3_behind_66 (by decide) ?_
                refine g_icmp_ne (yv := 24) hF 117 d_X3_behind_68 (by decide) rfl (by decide) (fun c31_68 => ?_) (fun c31_68 => ?_)
                · -- taken at 68
                  refine g_iload_n hF d_X3_behind_117 rfl 0 rfl ?_
                  refine g_if_eq (xv := 1) hF 136 d_X3_behind_118 (by decide) (by decide) (fun c_118 => absurd c_118 (by decide)) (fun _ => ?_)
                  refine g_aload_n hF d_X3_behind_121 rfl 2 rfl ?_
                  refine g_callV (As := []) (rest := []) hF (c_X3_advance a g r σ hgp.2.2 (by show -1 ≤ (σ 3 1).toInt ∧ (σ 3 1).toInt ≤ 16001; have hki := hgp.2.1.1; have hgz := hgp.1; have e0 := s_rng (σ 3 1); have e1 := s_rng (σ0 3 1); omega) inv) (Nat.le_of_ble_eq_true rfl) mV_X3_advance m_899 (recv_ob obC_3) rfl rfl (Nat.le_of_ble_eq_true rfl) d_X3_behind_122 (k_v (fun σ32 ⟨⟨hgp32, hgm32⟩, hs32, iσ32, ik32⟩ => ?_)) (fun _ _ _ h => h.elim)
                  have hs32 : (σ32 3 1).toInt = (σ 3 1).toInt + 1 := hs32
                  have hmo32 : Mo σ32 σ := fun h9 => mo_e (show σ 3 3 = σ 3 3 from rfl) (hgm32 h9)
                  have kp : Keep [(3, 1), (3, 2), (3, 3), (3, 4), (3, 9)] [18, 19, 20, 21, 22, 23] σ0 σ32 := keep_c kp ik32 (by decide) (by decide)
                  refine g_aload_n hF d_X3_behind_125 rfl 2 rfl ?_
                  refine g_bipush hF (v := 13) d_X3_behind_126 (by decide) ?_
                  refine g_iload hF d_X3_behind_128 1 rfl ?_
                  refine g_iconst hF (v := 0) d_X3_behind_130 (by decide) ?_
                  refine g_iconst hF (v := 0) d_X3_behind_131 (by decide) ?_
                  refine g_callV (As := [.int 13, .int (σ 3 1), .int 0, .int 0]) (rest := []) hF (c_X3_add a g r σ32 (13 : Int32) (σ 3 1) (0 : Int32) (0 : Int32) (fun h9 => absurd h9 (by decide)) hgp32 iσ32) (Nat.le_of_ble_eq_true rfl) mV_X3_add m_923 (recv_ob obC_3) rfl rfl (Nat.le_of_ble_eq_true rfl) d_X3_behind_132 (k_i (fun r33 σ33 ⟨⟨hgp33, hgm33⟩, iσ33, ik33⟩ => ?_)) (fun _ _ _ h => h.elim)
                  have hmo33 : Mo σ33 σ := fun h9 => mo_e (show σ32 3 3 = σ 3 3 from (ik32 3 3 rfl rfl rfl)) (hgm33 h9)
                  have kp : Keep [(3, 1), (3, 2), (3, 3), (3, 4), (3, 9)] [18, 19, 20, 21, 22, 23] σ0 σ33 := keep_c kp ik33 (by decide) (by decide)
                  refine g_pop hF d_X3_behind_135 rfl ?_
                  refine g_iinc hF (x3 + (-1)) [(3, .int (x3 + (-1))), (2, .int 1), (4, .int (σ 3 1)), (0, .ref (r 3)), (1, .int x1)] d_X3_behind_136 4 rfl rfl hnn (by decide) rfl ?_
                  refine g_goto hF 15 d_X3_behind_139 (by decide) ?_
                  exact g_sub (L' := [(0, .ref (r 3)), (1, .int x1), (2, .int 1), (3, .int (x3 + (-1)))]) [3, 4, 1, 0] rfl (ih15 _ (N15 ▸ dnm_lt c1_16 (by decide)) σ33 x1 (1 : Int32) (x3 + (-1)) rfl iσ33 kp (Or.inr rfl) hgp33 (fun h9 => (hgm (mo_e (show σ33 3 3 = σ 3 3 from ((ik33 3 3 rfl rfl rfl).trans (ik32 3 3 rfl rfl rfl))) h9))) h1 hk)
                · -- not taken at 68
                  refine g_aload_n hF d_X3_behind_71 rfl 2 rfl ?_
                  refine g_iload_n hF d_X3_behind_72 rfl 3 rfl ?_
                  refine g_callV (As := [.int x1]) (rest := []) hF (c_X3_deeper a g r σ x1 hgp (by show ¬ ((σ 3 2).toInt = 0 ∨ (σ 3 2).toInt = -1); have e0 := s_rng x1; have e1 := s_rng (σ 3 2); have e2 := s_rng (σ0 3 2); have e3 : (1 : Int32).toInt = 1 := (by decide); have e4 : (24 : Int32).toInt = 24 := (by decide); have e5 : (61 : Int32).toInt = 61 := (by decide); have e6 : (62 : Int32).toInt = 62 := (by decide); omega) inv) (Nat.le_of_ble_eq_true rfl) mV_X3_deeper m_943 (recv_ob obC_3) rfl rfl (Nat.le_of_ble_eq_true rfl) d_X3_behind_73 (k_i (fun r34 σ34 ⟨hz34, hp34, ⟨hgp34, hgm34⟩, iσ34, ik34⟩ => ?_)) (fun _ _ _ h => h.elim)
                  have hmo34 : Mo σ34 σ := fun h9 => mo_e (show σ 3 3 = σ 3 3 from rfl) (hgm34 h9)
                  have kp : Keep [(3, 1), (3, 2), (3, 3), (3, 4), (3, 9)] [18, 19, 20, 21, 22, 23] σ0 σ34 := keep_c kp ik34 (by decide) (by decide)
                  refine g_if_eq hF 136 d_X3_behind_76 (by decide) rfl (fun c35_76 => ?_) (fun c35_76 => ?_)
                  · -- taken at 76
                    refine g_iinc hF (x3 + (-1)) [(3, .int (x3 + (-1))), (2, .int 1), (4, .int (σ 3 1)), (0, .ref (r 3)), (1, .int x1)] d_X3_behind_136 4 rfl rfl hnn (by decide) rfl ?_
                    refine g_goto hF 15 d_X3_behind_139 (by decide) ?_
                    exact g_sub (L' := [(0, .ref (r 3)), (1, .int x1), (2, .int 1), (3, .int (x3 + (-1)))]) [3, 4, 1, 0] rfl (ih15 _ (N15 ▸ dnm_lt c1_16 (by decide)) σ34 x1 (1 : Int32) (x3 + (-1)) rfl iσ34 kp (Or.inr rfl) hgp34 (fun h9 => (hgm (hmo34 (mo_e (show σ34 3 3 = σ34 3 3 from rfl) h9)))) h1 hk)
                  · -- not taken at 76
                    refine g_aload_n hF d_X3_behind_79 rfl 2 rfl ?_
                    refine g_bipush hF (v := 7) d_X3_behind_80 (by decide) ?_
                    refine g_iload hF d_X3_behind_82 1 rfl ?_
                    refine g_iconst hF (v := 0) d_X3_behind_84 (by decide) ?_
                    refine g_iconst hF (v := 0) d_X3_behind_85 (by decide) ?_
                    refine g_callV (As := [.int 7, .int (σ 3 1), .int 0, .int 0]) (rest := []) hF (c_X3_add a g r σ34 (7 : Int32) (σ 3 1) (0 : Int32) (0 : Int32) (fun h9 => absurd h9 (by decide)) hgp34 iσ34) (Nat.le_of_ble_eq_true rfl) mV_X3_add m_923 (recv_ob obC_3) rfl rfl (Nat.le_of_ble_eq_true rfl) d_X3_behind_86 (k_i (fun r36 σ36 ⟨⟨hgp36, hgm36⟩, iσ36, ik36⟩ => ?_)) (fun _ _ _ h => h.elim)
                    have hmo36 : Mo σ36 σ34 := fun h9 => mo_e (show σ34 3 3 = σ34 3 3 from rfl) (hgm36 h9)
                    have kp : Keep [(3, 1), (3, 2), (3, 3), (3, 4), (3, 9)] [18, 19, 20, 21, 22, 23] σ0 σ36 := keep_c kp ik36 (by decide) (by decide)
                    refine g_pop hF d_X3_behind_89 rfl ?_
                    refine g_aload_n hF d_X3_behind_90 rfl 2 rfl ?_
                    refine g_iload_n hF d_X3_behind_91 rfl 3 rfl ?_
                    refine g_iconst hF (v := 1) d_X3_behind_92 (by decide) ?_
                    refine g_iadd hF d_X3_behind_93 ?_
                    refine g_callV (As := [.int (x1 + 1)]) (rest := []) hF (((ih (by have e0 := s_rng x1; have e1 : (1 : Int32).toInt = 1 := (by decide); obtain ⟨k2, e2⟩ := s_add x1 (1 : Int32); have e2a := s_rng (x1 + 1); have e4 := s_rng r34; have e5 : (0 : Int32).toInt = 0 := (by decide); have e6 := s_rng x3; have e7 := s_rng x2; omega)) σ36 (x1 + 1) (by have e0 := s_rng x1; have e1 : (1 : Int32).toInt = 1 := (by decide); obtain ⟨k2, e2⟩ := s_add x1 (1 : Int32); have e2a := s_rng (x1 + 1); have e4 := s_rng r34; have e5 : (0 : Int32).toInt = 0 := (by decide); have e6 := s_rng x3; have e7 := s_rng x2; omega) (by have e0 := s_rng x1; have e1 : (1 : Int32).toInt = 1 := (by decide); obtain ⟨k2, e2⟩ := s_add x1 (1 : Int32); have e2a := s_rng (x1 + 1); have e4 := s_rng r34; have e5 : (0 : Int32).toInt = 0 := (by decide); have e6 := s_rng x3; have e7 := s_rng x2; omega) iσ36 hgp36).1) (by have : 2 ≤ k := (by have e0 := s_rng x1; have e1 : (1 : Int32).toInt = 1 := (by decide); obtain ⟨k2, e2⟩ := s_add x1 (1 : Int32); have e2a := s_rng (x1 + 1); have e4 := s_rng r34; have e5 : (0 : Int32).toInt = 0 := (by decide); have e6 := s_rng x3; have e7 := s_rng x2; omega); omega) mV_X3_expression m_927 (recv_ob obC_3) rfl rfl (Nat.le_of_ble_eq_true rfl) d_X3_behind_94 (k_v (fun σ37 ⟨⟨hgp37, hgm37⟩, iσ37, ik37⟩ => ?_)) (fun _ _ _ h => h.elim)
                    have hmo37 : Mo σ37 σ34 := fun h9 => mo_e (show σ36 3 3 = σ34 3 3 from (ik36 3 3 rfl rfl rfl)) (hgm37 h9)
                    have kp : Keep [(3, 1), (3, 2), (3, 3), (3, 4), (3, 9)] [18, 19, 20, 21, 22, 23] σ0 σ37 := keep_c kp ik37 (by decide) (by decide)
                    refine g_aload_n hF d_X3_behind_97 rfl 2 rfl ?_
                    refine g_bipush hF (v := 25) d_X3_behind_98 (by decide) ?_
                    refine g_callV (As := [.int 25]) (rest := []) hF (c_X3_expect a g r σ37 (25 : Int32) hgp37 (by show ¬ (25 = 0 ∨ 25 = -1); have e0 : (25 : Int32).toInt = 25 := (by decide); omega) iσ37) (Nat.le_of_ble_eq_true rfl) mV_X3_expect m_903 (recv_ob obC_3) rfl rfl (Nat.le_of_ble_eq_true rfl) d_X3_behind_100 (k_v (fun σ38 ⟨⟨hgp38, hgm38⟩, hs38, iσ38, ik38⟩ => ?_)) (fun _ _ _ h => h.elim)
                    have hs38 : (σ38 3 3).toInt < 0 → (σ37 3 2).toInt = 25 := hs38
                    have hmo38 : Mo σ38 σ37 := fun h9 => mo_e (show σ37 3 3 = σ37 3 3 from rfl) (hgm38 h9)
                    have kp : Keep [(3, 1), (3, 2), (3, 3), (3, 4), (3, 9)] [18, 19, 20, 21, 22, 23] σ0 σ38 := keep_c kp ik38 (by decide) (by decide)
                    refine g_aload_n hF d_X3_behind_103 rfl 2 rfl ?_
                    refine g_bipush hF (v := 10) d_X3_behind_104 (by decide) ?_
                    refine g_iload hF d_X3_behind_106 1 rfl ?_
                    refine g_iconst hF (v := 0) d_X3_behind_108 (by decide) ?_
                    refine g_iconst hF (v := 0) d_X3_behind_109 (by decide) ?_
                    refine g_callV (As := [.int 10, .int (σ 3 1), .int 0, .int 0]) (rest := []) hF (c_X3_add a g r σ38 (10 : Int32) (σ 3 1) (0 : Int32) (0 : Int32) (fun h9 => absurd h9 (by decide)) hgp38 iσ38) (Nat.le_of_ble_eq_true rfl) mV_X3_add m_923 (recv_ob obC_3) rfl rfl (Nat.le_of_ble_eq_true rfl) d_X3_behind_110 (k_i (fun r39 σ39 ⟨⟨hgp39, hgm39⟩, iσ39, ik39⟩ => ?_)) (fun _ _ _ h => h.elim)
                    have hmo39 : Mo σ39 σ38 := fun h9 => mo_e (show σ38 3 3 = σ38 3 3 from rfl) (hgm39 h9)
                    have kp : Keep [(3, 1), (3, 2), (3, 3), (3, 4), (3, 9)] [18, 19, 20, 21, 22, 23] σ0 σ39 := keep_c kp ik39 (by decide) (by decide)
                    refine g_pop hF d_X3_behind_113 rfl ?_
                    refine g_goto hF 136 d_X3_behind_114 (by decide) ?_
                    refine g_iinc hF (x3 + (-1)) [(3, .int (x3 + (-1))), (2, .int 1), (4, .int (σ 3 1)), (0, .ref (r 3)), (1, .int x1)] d_X3_behind_136 4 rfl rfl hnn (by decide) rfl ?_
                    refine g_goto hF 15 d_X3_behind_139 (by decide) ?_
                    exact g_sub (L' := [(0, .ref (r 3)), (1, .int x1), (2, .int 1), (3, .int (x3 + (-1)))]) [3, 4, 1, 0] rfl (ih15 _ (N15 ▸ dnm_lt c1_16 (by decide)) σ39 x1 (1 : Int32) (x3 + (-1)) rfl iσ39 kp (Or.inr rfl) hgp39 (fun h9 => (hgm (hmo34 (hmo37 (hmo38 (mo_e (show σ39 3 3 = σ38 3 3 from (ik39 3 3 rfl rfl rfl)) h9)))))) h1 hk)
  have kp : Keep [(3, 1), (3, 2), (3, 3), (3, 4), (3, 9)] [18, 19, 20, 21, 22, 23] σ0 σ0 := keep_rf
  refine g_aload_n hF d_X3_behind_0 rfl 0 rfl ?_
  refine g_iload_n hF d_X3_behind_1 rfl 1 rfl ?_
  refine g_callV (As := [.int a1]) (rest := []) hF (c_X3_primary a g r k σ0 a1 ih h1 hk hgp i0) (by omega) mV_X3_primary m_958 (recv_ob obC_3) rfl rfl (Nat.le_of_ble_eq_true rfl) d_X3_behind_2 (k_v (fun σ40 ⟨⟨hgp40, hgm40⟩, iσ40, ik40⟩ => ?_)) (fun _ _ _ h => h.elim)
  have hmo40 : Mo σ40 σ0 := fun h9 => mo_e (show σ0 3 3 = σ0 3 3 from rfl) (hgm40 h9)
  have kp : Keep [(3, 1), (3, 2), (3, 3), (3, 4), (3, 9)] [18, 19, 20, 21, 22, 23] σ0 σ40 := keep_c kp ik40 (by decide) (by decide)
  refine g_iconst hF (v := 1) d_X3_behind_5 (by decide) ?_
  refine g_istore_n hF [(2, .int 1), (0, .ref (r 3)), (1, .int a1)] d_X3_behind_6 rfl hnn (by decide) rfl ?_
  refine g_aload_n hF d_X3_behind_7 rfl 1 rfl ?_
  refine g_get (v := .ref (r 2)) hF 0 obC_3 (by decide) m_94 rfl d_X3_behind_8 ?_
  refine g_getN (v := .int (σ40 2 4)) hF 4 obC_2 (by decide) nm_47 rfl d_X3_behind_11 ?_
  refine g_top (v := (σ0 2 4)) (ik40 2 4 rfl rfl rfl) ?_
  refine g_istore_n hF [(3, .int (σ0 2 4)), (2, .int 1), (0, .ref (r 3)), (1, .int a1)] d_X3_behind_14 rfl hnn (by decide) rfl ?_
  exact g_sub (L' := [(0, .ref (r 3)), (1, .int a1), (2, .int 1), (3, .int (σ0 2 4))]) [2, 3, 1, 0] rfl (b15 _ σ40 a1 (1 : Int32) (σ0 2 4) rfl iσ40 kp (Or.inr rfl) hgp40 (fun h9 => (hmo40 (mo_e (show σ40 3 3 = σ40 3 3 from rfl) h9))) h1 hk)
set_option maxHeartbeats 4000000 in
set_option maxRecDepth 100000 in
theorem c_X3_cast (a : Nat → Nat) (g : Nat → Nat → Int32) (r : Nat → Nat) (k : Nat) (σ0 : St) (a1 : Int32) (ih : 2 ≤ k → RX a g r (k - 1)) (h1 : 1 ≤ a1.toInt) (hk : a1.toInt + (k : Int) = 26) (hgp : GPS σ0) (hpre : ¬ ((σ0 3 2).toInt = 0 ∨ (σ0 3 2).toInt = -1)) (i0 : Inv σ0) (l : Launch) (D : va_G) (cy : Nat → ClassId) : Ct l D cy SC r (EC a g) y_X3_cast (Cond.code y_X3_cast b_X3_cast 4 none) (14 * k + 2) [.ref (r 3), .int a1] σ0 Z0 [] (QV (fun σ9 => ((GPS σ9 ∧ Mo σ9 σ0) ∧ (Inv σ9 ∧ Keep [(3, 1), (3, 2), (3, 3), (3, 4), (3, 9)] [18, 19, 20, 21, 22, 23] σ0 σ9)))) QF := by
  refine Ct_of (EC_ok a g) (by decide) (Nat.le_of_ble_eq_true rfl) (by decide) (fun X hnn hF => ?_)
  show G SC r X σ0 Z0 [] [(0, .ref (r 3)), (1, .int a1)] [] 0
  have kp : Keep [(3, 1), (3, 2), (3, 3), (3, 4), (3, 9)] [18, 19, 20, 21, 22, 23] σ0 σ0 := keep_rf
  refine g_aload_n hF d_X3_cast_0 rfl 0 rfl ?_
  refine g_get (v := .int (σ0 3 1)) hF 1 obC_3 (by decide) m_95 rfl d_X3_cast_1 ?_
  refine g_istore_n hF [(2, .int (σ0 3 1)), (0, .ref (r 3)), (1, .int a1)] d_X3_cast_4 rfl hnn (by decide) rfl ?_
  refine g_aload_n hF d_X3_cast_5 rfl 1 rfl ?_
  refine g_iload_n hF d_X3_cast_6 rfl 2 rfl ?_
  refine g_callV (As := [.int a1]) (rest := []) hF (c_X3_deeper a g r σ0 a1 hgp (by show ¬ ((σ0 3 2).toInt = 0 ∨ (σ0 3 2).toInt = -1); have e0 := s_rng a1; have e1 := s_rng (σ0 3 2); have e2 : (1 : Int32).toInt = 1 := (by decide); omega) i0) (Nat.le_of_ble_eq_true rfl) mV_X3_deeper m_943 (recv_ob obC_3) rfl rfl (Nat.le_of_ble_eq_true rfl) d_X3_cast_7 (k_i (fun r1 σ1 ⟨hz1, hp1, ⟨hgp1, hgm1⟩, iσ1, ik1⟩ => ?_)) (fun _ _ _ h => h.elim)
  have hmo1 : Mo σ1 σ0 := fun h9 => mo_e (show σ0 3 3 = σ0 3 3 from rfl) (hgm1 h9)
  have kp : Keep [(3, 1), (3, 2), (3, 3), (3, 4), (3, 9)] [18, 19, 20, 21, 22, 23] σ0 σ1 := keep_c kp ik1 (by decide) (by decide)
  refine g_if_eq hF 46 d_X3_cast_10 (by decide) rfl (fun c2_10 => ?_) (fun c2_10 => ?_)
  · -- taken at 10
    exact g_vret hF rfl d_X3_cast_46 ⟨rfl, rfl, rfl, ⟨⟨hgp1, (fun h9 => (hmo1 (mo_e (show σ1 3 3 = σ1 3 3 from rfl) h9)))⟩, iσ1, kp⟩⟩
  · -- not taken at 10
    refine g_aload_n hF d_X3_cast_13 rfl 1 rfl ?_
    refine g_iconst hF (v := 5) d_X3_cast_14 (by decide) ?_
    refine g_callV (As := [.int 5]) (rest := []) hF (c_X3_expect a g r σ1 (5 : Int32) hgp1 (by show ¬ (5 = 0 ∨ 5 = -1); have e0 : (5 : Int32).toInt = 5 := (by decide); omega) iσ1) (Nat.le_of_ble_eq_true rfl) mV_X3_expect m_903 (recv_ob obC_3) rfl rfl (Nat.le_of_ble_eq_true rfl) d_X3_cast_15 (k_v (fun σ3 ⟨⟨hgp3, hgm3⟩, hs3, iσ3, ik3⟩ => ?_)) (fun _ _ _ h => h.elim)
    have hs3 : (σ3 3 3).toInt < 0 → (σ1 3 2).toInt = 5 := hs3
    have hmo3 : Mo σ3 σ1 := fun h9 => mo_e (show σ1 3 3 = σ1 3 3 from rfl) (hgm3 h9)
    have kp : Keep [(3, 1), (3, 2), (3, 3), (3, 4), (3, 9)] [18, 19, 20, 21, 22, 23] σ0 σ3 := keep_c kp ik3 (by decide) (by decide)
    refine g_aload_n hF d_X3_cast_18 rfl 1 rfl ?_
    refine g_callV (As := []) (rest := []) hF (c_X3_stars a g r σ3 hgp3 iσ3) (Nat.le_of_ble_eq_true rfl) mV_X3_stars m_911 (recv_ob obC_3) rfl rfl (Nat.le_of_ble_eq_true rfl) d_X3_cast_19 (k_i (fun r4 σ4 ⟨⟨hgp4, hgm4⟩, iσ4, ik4⟩ => ?_)) (fun _ _ _ h => h.elim)
    have hmo4 : Mo σ4 σ3 := fun h9 => mo_e (show σ3 3 3 = σ3 3 3 from rfl) (hgm4 h9)
    have kp : Keep [(3, 1), (3, 2), (3, 3), (3, 4), (3, 9)] [18, 19, 20, 21, 22, 23] σ0 σ4 := keep_c kp ik4 (by decide) (by decide)
    refine g_istore_n hF [(3, .int r4), (2, .int (σ0 3 1)), (0, .ref (r 3)), (1, .int a1)] d_X3_cast_22 rfl hnn (by decide) rfl ?_
    refine g_aload_n hF d_X3_cast_23 rfl 2 rfl ?_
    refine g_bipush hF (v := 21) d_X3_cast_24 (by decide) ?_
    refine g_callV (As := [.int 21]) (rest := []) hF (c_X3_expect a g r σ4 (21 : Int32) hgp4 (by show ¬ (21 = 0 ∨ 21 = -1); have e0 : (21 : Int32).toInt = 21 := (by decide); omega) iσ4) (Nat.le_of_ble_eq_true rfl) mV_X3_expect m_903 (recv_ob obC_3) rfl rfl (Nat.le_of_ble_eq_true rfl) d_X3_cast_26 (k_v (fun σ5 ⟨⟨hgp5, hgm5⟩, hs5, iσ5, ik5⟩ => ?_)) (fun _ _ _ h => h.elim)
    have hs5 : (σ5 3 3).toInt < 0 → (σ4 3 2).toInt = 21 := hs5
    have hmo5 : Mo σ5 σ4 := fun h9 => mo_e (show σ4 3 3 = σ4 3 3 from rfl) (hgm5 h9)
    have kp : Keep [(3, 1), (3, 2), (3, 3), (3, 4), (3, 9)] [18, 19, 20, 21, 22, 23] σ0 σ5 := keep_c kp ik5 (by decide) (by decide)
    refine g_aload_n hF d_X3_cast_29 rfl 2 rfl ?_
    refine g_iload_n hF d_X3_cast_30 rfl 3 rfl ?_
    refine g_iconst hF (v := 1) d_X3_cast_31 (by decide) ?_
    refine g_iadd hF d_X3_cast_32 ?_
    refine g_callV (As := [.int (a1 + 1)]) (rest := []) hF (((ih (by have e0 := s_rng a1; have e1 : (1 : Int32).toInt = 1 := (by decide); obtain ⟨k2, e2⟩ := s_add a1 (1 : Int32); have e2a := s_rng (a1 + 1); have e4 := s_rng r1; have e5 : (0 : Int32).toInt = 0 := (by decide); omega)) σ5 (a1 + 1) (by have e0 := s_rng a1; have e1 : (1 : Int32).toInt = 1 := (by decide); obtain ⟨k2, e2⟩ := s_add a1 (1 : Int32); have e2a := s_rng (a1 + 1); have e4 := s_rng r1; have e5 : (0 : Int32).toInt = 0 := (by decide); omega) (by have e0 := s_rng a1; have e1 : (1 : Int32).toInt = 1 := (by decide); obtain ⟨k2, e2⟩ := s_add a1 (1 : Int32); have e2a := s_rng (a1 + 1); have e4 := s_rng r1; have e5 : (0 : Int32).toInt = 0 := (by decide); omega) iσ5 hgp5).2.2) (by have : 2 ≤ k := (by have e0 := s_rng a1; have e1 : (1 : Int32).toInt = 1 := (by decide); obtain ⟨k2, e2⟩ := s_add a1 (1 : Int32); have e2a := s_rng (a1 + 1); have e4 := s_rng r1; have e5 : (0 : Int32).toInt = 0 := (by decide); omega); omega) mV_X3_unary m_939 (recv_ob obC_3) rfl rfl (Nat.le_of_ble_eq_true rfl) d_X3_cast_33 (k_v (fun σ6 ⟨⟨hgp6, hgm6⟩, iσ6, ik6⟩ => ?_)) (fun _ _ _ h => h.elim)
    have hmo6 : Mo σ6 σ5 := fun h9 => mo_e (show σ5 3 3 = σ5 3 3 from rfl) (hgm6 h9)
    have kp : Keep [(3, 1), (3, 2), (3, 3), (3, 4), (3, 9)] [18, 19, 20, 21, 22, 23] σ0 σ6 := keep_c kp ik6 (by decide) (by decide)
    refine g_aload_n hF d_X3_cast_36 rfl 2 rfl ?_
    refine g_bipush hF (v := 12) d_X3_cast_37 (by decide) ?_
    refine g_iload_n hF d_X3_cast_39 rfl 1 rfl ?_
    refine g_iload_n hF d_X3_cast_40 rfl 0 rfl ?_
    refine g_iconst hF (v := 0) d_X3_cast_41 (by decide) ?_
    refine g_callV (As := [.int 12, .int (σ0 3 1), .int r4, .int 0]) (rest := []) hF (c_X3_add a g r σ6 (12 : Int32) (σ0 3 1) r4 (0 : Int32) (fun h9 => absurd h9 (by decide)) hgp6 iσ6) (Nat.le_of_ble_eq_true rfl) mV_X3_add m_923 (recv_ob obC_3) rfl rfl (Nat.le_of_ble_eq_true rfl) d_X3_cast_42 (k_i (fun r7 σ7 ⟨⟨hgp7, hgm7⟩, iσ7, ik7⟩ => ?_)) (fun _ _ _ h => h.elim)
    have hmo7 : Mo σ7 σ6 := fun h9 => mo_e (show σ6 3 3 = σ6 3 3 from rfl) (hgm7 h9)
    have kp : Keep [(3, 1), (3, 2), (3, 3), (3, 4), (3, 9)] [18, 19, 20, 21, 22, 23] σ0 σ7 := keep_c kp ik7 (by decide) (by decide)
    refine g_pop hF d_X3_cast_45 rfl ?_
    exact g_vret hF rfl d_X3_cast_46 ⟨rfl, rfl, rfl, ⟨⟨hgp7, (fun h9 => (hmo1 (hmo3 (hmo4 (hmo5 (hmo6 (mo_e (show σ7 3 3 = σ6 3 3 from (ik7 3 3 rfl rfl rfl)) h9)))))))⟩, iσ7, kp⟩⟩
