def wp_layAll (a1 : Int32) (σ τ : St) (vs : List Nat) (Q : St → St → List Nat → Prop) : Prop :=
  ∃ L5 : Nat → Int32 → Int32 → St → St → List Nat → Prop, (∃ n, L5 n (16 : Int32) (0 : Int32) σ τ vs) ∧ ∀ (n5 : Nat) (x2_5 : Int32) (x3_5 : Int32) (s5 t5 : St) (z5 : List Nat), L5 n5 x2_5 x3_5 s5 t5 z5 → ((a1.toInt ≤ x3_5.toInt → ∃ L55 : Nat → Int32 → St → St → List Nat → Prop, (∃ n, L55 n (0 : Int32) s5 t5 z5) ∧ ∀ (n55 : Nat) (x3_55 : Int32) (s55 t55 : St) (z55 : List Nat), L55 n55 x3_55 s55 t55 z55 → ((16016 ≤ x3_55.toInt → ∃ L79 : Nat → Int32 → St → St → List Nat → Prop, (∃ n, L79 n (0 : Int32) s55 t55 z55) ∧ ∀ (n79 : Nat) (x3_79 : Int32) (s79 t79 : St) (z79 : List Nat), L79 n79 x3_79 s79 t79 z79 → ((a1.toInt ≤ x3_79.toInt → Q (upC s79 0 70 a1) t79 z79) ∧ (x3_79.toInt < a1.toInt → ((0 ≤ x3_79.toInt ∧ x3_79.toInt < 100) ∧ ((0 ≤ ((s79 40 x3_79.toNatClampNeg) - (1 : Int32)).toInt ∧ ((s79 40 x3_79.toNatClampNeg) - (1 : Int32)).toInt < 102) ∧ ∃ L103 : Nat → Int32 → St → St → List Nat → Prop, (∃ n, L103 n (s79 22 ((s79 40 x3_79.toNatClampNeg) - (1 : Int32)).toNatClampNeg) s79 t79 z79) ∧ ∀ (n103 : Nat) (x5_103 : Int32) (s103 t103 : St) (z103 : List Nat), L103 n103 x5_103 s103 t103 z103 → (((0 ≤ (((s79 40 x3_79.toNatClampNeg) - (1 : Int32)) + (1 : Int32)).toInt ∧ (((s79 40 x3_79.toNatClampNeg) - (1 : Int32)) + (1 : Int32)).toInt < 102) ∧ ((s103 22 (((s79 40 x3_79.toNatClampNeg) - (1 : Int32)) + (1 : Int32)).toNatClampNeg).toInt ≤ x5_103.toInt → ((0 ≤ ((s79 40 x3_79.toNatClampNeg) - (1 : Int32)).toInt ∧ ((s79 40 x3_79.toNatClampNeg) - (1 : Int32)).toInt < 102) ∧ ∃ L147 : Nat → Int32 → St → St → List Nat → Prop, (∃ n, L147 n (s103 24 ((s79 40 x3_79.toNatClampNeg) - (1 : Int32)).toNatClampNeg) s103 t103 z103) ∧ ∀ (n147 : Nat) (x5_147 : Int32) (s147 t147 : St) (z147 : List Nat), L147 n147 x5_147 s147 t147 z147 → (((0 ≤ (((s79 40 x3_79.toNatClampNeg) - (1 : Int32)) + (1 : Int32)).toInt ∧ (((s79 40 x3_79.toNatClampNeg) - (1 : Int32)) + (1 : Int32)).toInt < 102) ∧ ((s147 24 (((s79 40 x3_79.toNatClampNeg) - (1 : Int32)) + (1 : Int32)).toNatClampNeg).toInt ≤ x5_147.toInt → ((0 ≤ x3_79.toInt ∧ x3_79.toInt < 100) ∧ ((0 ≤ x3_79.toInt ∧ x3_79.toInt < 100) ∧ ∃ m, m < n79 ∧ L79 m (x3_79 + 1) (upC s147 41 x3_79.toNatClampNeg (s147 40 x3_79.toNatClampNeg)) t147 z147))) ∧ (x5_147.toInt < (s147 24 (((s79 40 x3_79.toNatClampNeg) - (1 : Int32)) + (1 : Int32)).toNatClampNeg).toInt → ((0 ≤ (x5_147 + (2 : Int32)).toInt ∧ (x5_147 + (2 : Int32)).toInt < 196608) ∧ (∃ J217 : Int32 → Prop, (∀ (y0_217 : Int32), J217 y0_217 → (((0 ≤ x3_79.toInt ∧ x3_79.toInt < 100) ∧ ((0 ≤ x5_147.toInt ∧ x5_147.toInt < 196608) ∧ ((0 ≤ (x5_147 + (1 : Int32)).toInt ∧ (x5_147 + (1 : Int32)).toInt < 196608) ∧ ((0 ≤ ((s147 42 x3_79.toNatClampNeg) + (s147 25 x5_147.toNatClampNeg)).toInt ∧ ((s147 42 x3_79.toNatClampNeg) + (s147 25 x5_147.toNatClampNeg)).toInt < 16016) ∧ ∃ m, m < n147 ∧ L147 m (x5_147 + 3) (upC s147 45 ((s147 42 x3_79.toNatClampNeg) + (s147 25 x5_147.toNatClampNeg)).toNatClampNeg ((s147 25 (x5_147 + (1 : Int32)).toNatClampNeg) + y0_217)) t147 z147)))))) ∧ ((s147 25 (x5_147 + (2 : Int32)).toNatClampNeg).toInt ≤ 0 → (0 ≤ (s147 25 (x5_147 + (2 : Int32)).toNatClampNeg).toInt → J217 (0 : Int32)) ∧ ((s147 25 (x5_147 + (2 : Int32)).toNatClampNeg).toInt < 0 → ((0 ≤ x3_79.toInt ∧ x3_79.toInt < 100) ∧ J217 (((s147 42 x3_79.toNatClampNeg) - (1 : Int32)) - (s147 25 (x5_147 + (2 : Int32)).toNatClampNeg))))) ∧ (0 < (s147 25 (x5_147 + (2 : Int32)).toNatClampNeg).toInt → ((0 ≤ ((s79 40 x3_79.toNatClampNeg) - (1 : Int32)).toInt ∧ ((s79 40 x3_79.toNatClampNeg) - (1 : Int32)).toInt < 102) ∧ ((0 ≤ (((s147 22 ((s79 40 x3_79.toNatClampNeg) - (1 : Int32)).toNatClampNeg) + (s147 25 (x5_147 + (2 : Int32)).toNatClampNeg)) - (1 : Int32)).toInt ∧ (((s147 22 ((s79 40 x3_79.toNatClampNeg) - (1 : Int32)).toNatClampNeg) + (s147 25 (x5_147 + (2 : Int32)).toNatClampNeg)) - (1 : Int32)).toInt < 10000) ∧ J217 (s147 43 (((s147 22 ((s79 40 x3_79.toNatClampNeg) - (1 : Int32)).toNatClampNeg) + (s147 25 (x5_147 + (2 : Int32)).toNatClampNeg)) - (1 : Int32)).toNatClampNeg))))))))))) ∧ (x5_103.toInt < (s103 22 (((s79 40 x3_79.toNatClampNeg) - (1 : Int32)) + (1 : Int32)).toNatClampNeg).toInt → wp_aimOf x5_103 x3_79 a1 s103 t103 z103 (fun v128 s128 t128 z128 => ((0 ≤ x5_103.toInt ∧ x5_103.toInt < 10000) ∧ ∃ m, m < n103 ∧ L103 m (x5_103 + 1) (upC s128 43 x5_103.toNatClampNeg v128) t128 z128)))))))))) ∧ (x3_55.toInt < 16016 → ((0 ≤ x3_55.toInt ∧ x3_55.toInt < 16016) ∧ ∃ m, m < n55 ∧ L55 m (x3_55 + 1) (upC s55 45 x3_55.toNatClampNeg (0 : Int32)) t55 z55)))) ∧ (x3_5.toInt < a1.toInt → ((0 ≤ x3_5.toInt ∧ x3_5.toInt < 100) ∧ ((0 ≤ x3_5.toInt ∧ x3_5.toInt < 100) ∧ ((0 ≤ ((s5 40 x3_5.toNatClampNeg) - (1 : Int32)).toInt ∧ ((s5 40 x3_5.toNatClampNeg) - (1 : Int32)).toInt < 100) ∧ ((0 ≤ x3_5.toInt ∧ x3_5.toInt < 100) ∧ ((0 ≤ ((s5 40 x3_5.toNatClampNeg) - (1 : Int32)).toInt ∧ ((s5 40 x3_5.toNatClampNeg) - (1 : Int32)).toInt < 102) ∧ ∃ m, m < n5 ∧ L5 m (x2_5 + (s5 23 ((s5 40 x3_5.toNatClampNeg) - (1 : Int32)).toNatClampNeg)) (x3_5 + 1) (upC (upC s5 42 x3_5.toNatClampNeg x2_5) 44 ((s5 40 x3_5.toNatClampNeg) - (1 : Int32)).toNatClampNeg x2_5) t5 z5)))))))
set_option maxHeartbeats 4000000 in
set_option maxRecDepth 100000 in
theorem ct_layAll (a : Nat → Nat) (r : Nat → Nat) {a1 : Int32} {σ τ : St} {vs : List Nat} {Q : St → St → List Nat → Prop} (hcap : vs.length ≤ CAP) (w : wp_layAll a1 σ τ vs Q) (l : Launch) (D : va_G) (cy : Nat → ClassId) : Ct l D cy SM r (EM a) y_X14_layAll (Cond.code y_X14_layAll b_X14_layAll 8 none) 6 [.ref (r 0), .int a1] σ τ vs (QVs Q) QT0 := by
  unfold wp_layAll at w
  refine Ct_of (EM_ok a) (by decide) (Nat.le_of_ble_eq_true rfl) hcap (fun X hnn hF => ?_)
  show G SM r X σ τ vs [(0, .ref (r 0)), (1, .int a1)] [] 0
  refine g_bipush hF (v := 16) d_X14_layAll_0 (by decide) ?_
  refine g_istore_n hF [(2, .int 16), (0, .ref (r 0)), (1, .int a1)] d_X14_layAll_2 rfl hnn (by decide) rfl ?_
  refine g_iconst hF (v := 0) d_X14_layAll_3 (by decide) ?_
  refine g_istore_n hF [(3, .int 0), (2, .int 16), (0, .ref (r 0)), (1, .int a1)] d_X14_layAll_4 rfl hnn (by decide) rfl ?_
  obtain ⟨L5, ⟨i5, u5⟩, h5⟩ := w
  have b5 : ∀ (n5 : Nat) (x2_5 : Int32) (x3_5 : Int32) (s5 t5 : St) (z5 : List Nat), L5 n5 x2_5 x3_5 s5 t5 z5 → G SM r X s5 t5 z5 [(0, .ref (r 0)), (1, .int a1), (2, .int x2_5), (3, .int x3_5)] [] 5 := by
    intro n5
    induction n5 using Nat.strongRecOn with
    | _ n5 ih5 =>
      intro x2_5 x3_5 s5 t5 z5  w5_
      have w5_ := h5 n5 x2_5 x3_5 s5 t5 z5  w5_
      refine g_iload_n hF d_X14_layAll_5 rfl 3 rfl ?_
      refine g_iload_n hF d_X14_layAll_6 rfl 1 rfl ?_
      refine g_icmp_ge hF 53 d_X14_layAll_7 (by decide) rfl rfl (fun c => ?_) (fun c => ?_)
      · have w1 := w5_.1 c
        refine g_iconst hF (v := 0) d_X14_layAll_53 (by decide) ?_
        refine g_istore_n hF [(3, .int 0), (0, .ref (r 0)), (1, .int a1), (2, .int x2_5)] d_X14_layAll_54 rfl hnn (by decide) rfl ?_
        obtain ⟨L55, ⟨i55, u55⟩, h55⟩ := w1
        have b55 : ∀ (n55 : Nat) (x3_55 : Int32) (s55 t55 : St) (z55 : List Nat), L55 n55 x3_55 s55 t55 z55 → G SM r X s55 t55 z55 [(0, .ref (r 0)), (1, .int a1), (3, .int x3_55)] [] 55 := by
          intro n55
          induction n55 using Nat.strongRecOn with
          | _ n55 ih55 =>
            intro x3_55 s55 t55 z55  w55_
            have w55_ := h55 n55 x3_55 s55 t55 z55  w55_
            refine g_iload_n hF d_X14_layAll_55 rfl 2 rfl ?_
            refine g_aload_n hF d_X14_layAll_56 rfl 0 rfl ?_
            refine g_get (v := .ref (r 45)) hF 77 obM_0 (by decide) m_1942 rfl d_X14_layAll_57 ?_
            refine g_alen hF arM_45 (fun _ => ⟨1, _, rfl⟩) (v := 16016) (by decide) d_X14_layAll_60 ?_
            refine g_icmp_ge (yv := 16016) hF 77 d_X14_layAll_61 (by decide) rfl (by decide) (fun c => ?_) (fun c => ?_)
            · have w2 := w55_.1 c
              refine g_iconst hF (v := 0) d_X14_layAll_77 (by decide) ?_
              refine g_istore_n hF [(3, .int 0), (0, .ref (r 0)), (1, .int a1)] d_X14_layAll_78 rfl hnn (by decide) rfl ?_
              obtain ⟨L79, ⟨i79, u79⟩, h79⟩ := w2
              have b79 : ∀ (n79 : Nat) (x3_79 : Int32) (s79 t79 : St) (z79 : List Nat), L79 n79 x3_79 s79 t79 z79 → G SM r X s79 t79 z79 [(0, .ref (r 0)), (1, .int a1), (3, .int x3_79)] [] 79 := by
                intro n79
                induction n79 using Nat.strongRecOn with
                | _ n79 ih79 =>
                  intro x3_79 s79 t79 z79  w79_
                  have w79_ := h79 n79 x3_79 s79 t79 z79  w79_
                  refine g_iload_n hF d_X14_layAll_79 rfl 2 rfl ?_
                  refine g_iload_n hF d_X14_layAll_80 rfl 1 rfl ?_
                  refine g_icmp_ge hF 274 d_X14_layAll_81 (by decide) rfl rfl (fun c => ?_) (fun c => ?_)
                  · have w3 := w79_.1 c
                    refine g_aload_n hF d_X14_layAll_274 rfl 0 rfl ?_
                    refine g_iload_n hF d_X14_layAll_275 rfl 1 rfl ?_
                    refine g_put (v := a1) hF 70 obM_0 (by decide) m_1935 rfl rfl rfl d_X14_layAll_276 ?_
                    exact g_vret hF rfl d_X14_layAll_279 ⟨rfl, w3⟩
                  · have w4 := w79_.2 c
                    refine g_aload_n hF d_X14_layAll_84 rfl 0 rfl ?_
                    refine g_get (v := .ref (r 40)) hF 66 obM_0 (by decide) m_1931 rfl d_X14_layAll_85 ?_
                    refine g_iload_n hF d_X14_layAll_88 rfl 2 rfl ?_
                    have w5 := w4.2
                    refine g_iald hF arM_40 (s_in (Nat.le_of_ble_eq_true rfl) w4.1.1 w4.1.2) d_X14_layAll_89 ?_
                    refine g_top (v := (s79 40 x3_79.toNatClampNeg)) rfl ?_
                    refine g_iconst hF (v := 1) d_X14_layAll_90 (by decide) ?_
                    refine g_isub hF d_X14_layAll_91 ?_
                    refine g_istore hF [(4, .int ((s79 40 x3_79.toNatClampNeg) - (1 : Int32))), (0, .ref (r 0)), (1, .int a1), (3, .int x3_79)] d_X14_layAll_92 hnn (by decide) rfl ?_
                    refine g_aload_n hF d_X14_layAll_94 rfl 1 rfl ?_
                    refine g_get (v := .ref (r 22)) hF 32 obM_0 (by decide) m_1897 rfl d_X14_layAll_95 ?_
                    refine g_iload hF d_X14_layAll_98 0 rfl ?_
                    have w6 := w5.2
                    refine g_iald hF arM_22 (s_in (Nat.le_of_ble_eq_true rfl) w5.1.1 w5.1.2) d_X14_layAll_100 ?_
                    refine g_top (v := (s79 22 ((s79 40 x3_79.toNatClampNeg) - (1 : Int32)).toNatClampNeg)) rfl ?_
                    refine g_istore hF [(5, .int (s79 22 ((s79 40 x3_79.toNatClampNeg) - (1 : Int32)).toNatClampNeg)), (4, .int ((s79 40 x3_79.toNatClampNeg) - (1 : Int32))), (0, .ref (r 0)), (1, .int a1), (3, .int x3_79)] d_X14_layAll_101 hnn (by decide) rfl ?_
                    obtain ⟨L103, ⟨i103, u103⟩, h103⟩ := w6
                    have b103 : ∀ (n103 : Nat) (x5_103 : Int32) (s103 t103 : St) (z103 : List Nat), L103 n103 x5_103 s103 t103 z103 → G SM r X s103 t103 z103 [(0, .ref (r 0)), (1, .int a1), (3, .int x3_79), (4, .int ((s79 40 x3_79.toNatClampNeg) - (1 : Int32))), (5, .int x5_103)] [] 103 := by
                      intro n103
                      induction n103 using Nat.strongRecOn with
                      | _ n103 ih103 =>
                        intro x5_103 s103 t103 z103  w103_
                        have w103_ := h103 n103 x5_103 s103 t103 z103  w103_
                        refine g_iload hF d_X14_layAll_103 4 rfl ?_
                        refine g_aload_n hF d_X14_layAll_105 rfl 0 rfl ?_
                        refine g_get (v := .ref (r 22)) hF 32 obM_0 (by decide) m_1897 rfl d_X14_layAll_106 ?_
                        refine g_iload hF d_X14_layAll_109 3 rfl ?_
                        refine g_iconst hF (v := 1) d_X14_layAll_111 (by decide) ?_
                        refine g_iadd hF d_X14_layAll_112 ?_
                        have w7 := w103_.2
                        refine g_iald hF arM_22 (s_in (Nat.le_of_ble_eq_true rfl) w103_.1.1 w103_.1.2) d_X14_layAll_113 ?_
                        refine g_top (v := (s103 22 (((s79 40 x3_79.toNatClampNeg) - (1 : Int32)) + (1 : Int32)).toNatClampNeg)) rfl ?_
                        refine g_icmp_ge hF 138 d_X14_layAll_114 (by decide) rfl rfl (fun c => ?_) (fun c => ?_)
                        · have w8 := w7.1 c
                          refine g_aload_n hF d_X14_layAll_138 rfl 0 rfl ?_
                          refine g_get (v := .ref (r 24)) hF 34 obM_0 (by decide) m_1899 rfl d_X14_layAll_139 ?_
                          refine g_iload hF d_X14_layAll_142 3 rfl ?_
                          have w9 := w8.2
                          refine g_iald hF arM_24 (s_in (Nat.le_of_ble_eq_true rfl) w8.1.1 w8.1.2) d_X14_layAll_144 ?_
                          refine g_top (v := (s103 24 ((s79 40 x3_79.toNatClampNeg) - (1 : Int32)).toNatClampNeg)) rfl ?_
                          refine g_istore hF [(5, .int (s103 24 ((s79 40 x3_79.toNatClampNeg) - (1 : Int32)).toNatClampNeg)), (0, .ref (r 0)), (1, .int a1), (3, .int x3_79), (4, .int ((s79 40 x3_79.toNatClampNeg) - (1 : Int32)))] d_X14_layAll_145 hnn (by decide) rfl ?_
                          obtain ⟨L147, ⟨i147, u147⟩, h147⟩ := w9
                          have b147 : ∀ (n147 : Nat) (x5_147 : Int32) (s147 t147 : St) (z147 : List Nat), L147 n147 x5_147 s147 t147 z147 → G SM r X s147 t147 z147 [(0, .ref (r 0)), (1, .int a1), (3, .int x3_79), (4, .int ((s79 40 x3_79.toNatClampNeg) - (1 : Int32))), (5, .int x5_147)] [] 147 := by
                            intro n147
                            induction n147 using Nat.strongRecOn with
                            | _ n147 ih147 =>
                              intro x5_147 s147 t147 z147  w147_
                              have w147_ := h147 n147 x5_147 s147 t147 z147  w147_
                              refine g_iload hF d_X14_layAll_147 4 rfl ?_
                              refine g_aload_n hF d_X14_layAll_149 rfl 0 rfl ?_
                              refine g_get (v := .ref (r 24)) hF 34 obM_0 (by decide) m_1899 rfl d_X14_layAll_150 ?_
                              refine g_iload hF d_X14_layAll_153 3 rfl ?_
                              refine g_iconst hF (v := 1) d_X14_layAll_155 (by decide) ?_
                              refine g_iadd hF d_X14_layAll_156 ?_
                              have w10 := w147_.2
                              refine g_iald hF arM_24 (s_in (Nat.le_of_ble_eq_true rfl) w147_.1.1 w147_.1.2) d_X14_layAll_157 ?_
                              refine g_top (v := (s147 24 (((s79 40 x3_79.toNatClampNeg) - (1 : Int32)) + (1 : Int32)).toNatClampNeg)) rfl ?_
                              refine g_icmp_ge hF 256 d_X14_layAll_158 (by decide) rfl rfl (fun c => ?_) (fun c => ?_)
                              · have w11 := w10.1 c
                                refine g_aload_n hF d_X14_layAll_256 rfl 0 rfl ?_
                                refine g_get (v := .ref (r 41)) hF 68 obM_0 (by decide) m_1933 rfl d_X14_layAll_257 ?_
                                refine g_iload_n hF d_X14_layAll_260 rfl 2 rfl ?_
                                refine g_aload_n hF d_X14_layAll_261 rfl 0 rfl ?_
                                refine g_get (v := .ref (r 40)) hF 66 obM_0 (by decide) m_1931 rfl d_X14_layAll_262 ?_
                                refine g_iload_n hF d_X14_layAll_265 rfl 2 rfl ?_
                                have w12 := w11.2
                                refine g_iald hF arM_40 (s_in (Nat.le_of_ble_eq_true rfl) w11.1.1 w11.1.2) d_X14_layAll_266 ?_
                                refine g_top (v := (s147 40 x3_79.toNatClampNeg)) rfl ?_
                                have w13 := w12.2
                                refine g_iast hF arM_41 (s_in (Nat.le_of_ble_eq_true rfl) w12.1.1 w12.1.2) d_X14_layAll_267 ?_
                                refine g_iinc hF (x3_79 + 1) [(3, .int (x3_79 + 1)), (0, .ref (r 0)), (1, .int a1), (4, .int ((s79 40 x3_79.toNatClampNeg) - (1 : Int32))), (5, .int x5_147)] d_X14_layAll_268 2 rfl rfl hnn (by decide) rfl ?_
                                refine g_goto hF 79 d_X14_layAll_271 (by decide) ?_
                                obtain ⟨m79, hm79, w9⟩ := w13
                                exact g_sub (L' := [(0, .ref (r 0)), (1, .int a1), (3, .int (x3_79 + 1))]) [1, 2, 0] rfl (ih79 m79 hm79 (x3_79 + 1) (upC s147 41 x3_79.toNatClampNeg (s147 40 x3_79.toNatClampNeg)) t147 z147 w9)
                              · have w14 := w10.2 c
                                refine g_aload_n hF d_X14_layAll_161 rfl 0 rfl ?_
                                refine g_get (v := .ref (r 25)) hF 38 obM_0 (by decide) m_1903 rfl d_X14_layAll_162 ?_
                                refine g_iload hF d_X14_layAll_165 4 rfl ?_
                                refine g_iconst hF (v := 2) d_X14_layAll_167 (by decide) ?_
                                refine g_iadd hF d_X14_layAll_168 ?_
                                have w15 := w14.2
                                refine g_iald hF arM_25 (s_in (Nat.le_of_ble_eq_true rfl) w14.1.1 w14.1.2) d_X14_layAll_169 ?_
                                refine g_top (v := (s147 25 (x5_147 + (2 : Int32)).toNatClampNeg)) rfl ?_
                                refine g_istore hF [(6, .int (s147 25 (x5_147 + (2 : Int32)).toNatClampNeg)), (0, .ref (r 0)), (1, .int a1), (3, .int x3_79), (4, .int ((s79 40 x3_79.toNatClampNeg) - (1 : Int32))), (5, .int x5_147)] d_X14_layAll_170 hnn (by decide) rfl ?_
                                refine g_iload hF d_X14_layAll_172 0 rfl ?_
                                obtain ⟨J217, h217, w16⟩ := w15
                                have b217 : ∀ (y0_217 : Int32), J217 y0_217 → G SM r X s147 t147 z147 [(0, .ref (r 0)), (1, .int a1), (3, .int x3_79), (4, .int ((s79 40 x3_79.toNatClampNeg) - (1 : Int32))), (5, .int x5_147)] [.int y0_217] 217 := by
                                  intro y0_217  w217_
                                  have w217_ := h217 y0_217  w217_
                                  refine g_istore hF [(7, .int y0_217), (0, .ref (r 0)), (1, .int a1), (3, .int x3_79), (4, .int ((s79 40 x3_79.toNatClampNeg) - (1 : Int32))), (5, .int x5_147)] d_X14_layAll_217 hnn (by decide) rfl ?_
                                  refine g_aload_n hF d_X14_layAll_219 rfl 1 rfl ?_
                                  refine g_get (v := .ref (r 45)) hF 77 obM_0 (by decide) m_1942 rfl d_X14_layAll_220 ?_
                                  refine g_aload_n hF d_X14_layAll_223 rfl 1 rfl ?_
                                  refine g_get (v := .ref (r 42)) hF 69 obM_0 (by decide) m_1934 rfl d_X14_layAll_224 ?_
                                  refine g_iload_n hF d_X14_layAll_227 rfl 3 rfl ?_
                                  have w17 := w217_.2
                                  refine g_iald hF arM_42 (s_in (Nat.le_of_ble_eq_true rfl) w217_.1.1 w217_.1.2) d_X14_layAll_228 ?_
                                  refine g_top (v := (s147 42 x3_79.toNatClampNeg)) rfl ?_
                                  refine g_aload_n hF d_X14_layAll_229 rfl 1 rfl ?_
                                  refine g_get (v := .ref (r 25)) hF 38 obM_0 (by decide) m_1903 rfl d_X14_layAll_230 ?_
                                  refine g_iload hF d_X14_layAll_233 5 rfl ?_
                                  have w18 := w17.2
                                  refine g_iald hF arM_25 (s_in (Nat.le_of_ble_eq_true rfl) w17.1.1 w17.1.2) d_X14_layAll_235 ?_
                                  refine g_top (v := (s147 25 x5_147.toNatClampNeg)) rfl ?_
                                  refine g_iadd hF d_X14_layAll_236 ?_
                                  refine g_aload_n hF d_X14_layAll_237 rfl 1 rfl ?_
                                  refine g_get (v := .ref (r 25)) hF 38 obM_0 (by decide) m_1903 rfl d_X14_layAll_238 ?_
                                  refine g_iload hF d_X14_layAll_241 5 rfl ?_
                                  refine g_iconst hF (v := 1) d_X14_layAll_243 (by decide) ?_
                                  refine g_iadd hF d_X14_layAll_244 ?_
                                  have w19 := w18.2
                                  refine g_iald hF arM_25 (s_in (Nat.le_of_ble_eq_true rfl) w18.1.1 w18.1.2) d_X14_layAll_245 ?_
                                  refine g_top (v := (s147 25 (x5_147 + (1 : Int32)).toNatClampNeg)) rfl ?_
                                  refine g_iload hF d_X14_layAll_246 0 rfl ?_
                                  refine g_iadd hF d_X14_layAll_248 ?_
                                  have w20 := w19.2
                                  refine g_iast hF arM_45 (s_in (Nat.le_of_ble_eq_true rfl) w19.1.1 w19.1.2) d_X14_layAll_249 ?_
                                  refine g_iinc hF (x5_147 + 3) [(5, .int (x5_147 + 3)), (7, .int y0_217), (0, .ref (r 0)), (1, .int a1), (3, .int x3_79), (4, .int ((s79 40 x3_79.toNatClampNeg) - (1 : Int32)))] d_X14_layAll_250 5 rfl rfl hnn (by decide) rfl ?_
                                  refine g_goto hF 147 d_X14_layAll_253 (by decide) ?_
                                  obtain ⟨m147, hm147, w9⟩ := w20
                                  exact g_sub (L' := [(0, .ref (r 0)), (1, .int a1), (3, .int x3_79), (4, .int ((s79 40 x3_79.toNatClampNeg) - (1 : Int32))), (5, .int (x5_147 + 3))]) [2, 3, 4, 5, 0] rfl (ih147 m147 hm147 (x5_147 + 3) (upC s147 45 ((s147 42 x3_79.toNatClampNeg) + (s147 25 x5_147.toNatClampNeg)).toNatClampNeg ((s147 25 (x5_147 + (1 : Int32)).toNatClampNeg) + y0_217)) t147 z147 w9)
                                refine g_if_le hF 197 d_X14_layAll_174 (by decide) rfl (fun c => ?_) (fun c => ?_)
                                · have w21 := w16.1 c
                                  refine g_iload hF d_X14_layAll_197 0 rfl ?_
                                  refine g_if_ge hF 216 d_X14_layAll_199 (by decide) rfl (fun c => ?_) (fun c => ?_)
                                  · have w22 := w21.1 c
                                    refine g_iconst hF (v := 0) d_X14_layAll_216 (by decide) ?_
                                    exact g_sub (L' := [(0, .ref (r 0)), (1, .int a1), (3, .int x3_79), (4, .int ((s79 40 x3_79.toNatClampNeg) - (1 : Int32))), (5, .int x5_147)]) [1, 2, 3, 4, 5] rfl (b217 (0 : Int32) w22)
                                  · have w23 := w21.2 c
                                    refine g_aload_n hF d_X14_layAll_202 rfl 1 rfl ?_
                                    refine g_get (v := .ref (r 42)) hF 69 obM_0 (by decide) m_1934 rfl d_X14_layAll_203 ?_
                                    refine g_iload_n hF d_X14_layAll_206 rfl 3 rfl ?_
                                    have w24 := w23.2
                                    refine g_iald hF arM_42 (s_in (Nat.le_of_ble_eq_true rfl) w23.1.1 w23.1.2) d_X14_layAll_207 ?_
                                    refine g_top (v := (s147 42 x3_79.toNatClampNeg)) rfl ?_
                                    refine g_iconst hF (v := 1) d_X14_layAll_208 (by decide) ?_
                                    refine g_isub hF d_X14_layAll_209 ?_
                                    refine g_iload hF d_X14_layAll_210 0 rfl ?_
                                    refine g_isub hF d_X14_layAll_212 ?_
                                    refine g_goto hF 217 d_X14_layAll_213 (by decide) ?_
                                    exact g_sub (L' := [(0, .ref (r 0)), (1, .int a1), (3, .int x3_79), (4, .int ((s79 40 x3_79.toNatClampNeg) - (1 : Int32))), (5, .int x5_147)]) [1, 2, 3, 4, 5] rfl (b217 (((s147 42 x3_79.toNatClampNeg) - (1 : Int32)) - (s147 25 (x5_147 + (2 : Int32)).toNatClampNeg)) w24)
                                · have w25 := w16.2 c
                                  refine g_aload_n hF d_X14_layAll_177 rfl 1 rfl ?_
                                  refine g_get (v := .ref (r 43)) hF 75 obM_0 (by decide) m_1940 rfl d_X14_layAll_178 ?_
                                  refine g_aload_n hF d_X14_layAll_181 rfl 1 rfl ?_
                                  refine g_get (v := .ref (r 22)) hF 32 obM_0 (by decide) m_1897 rfl d_X14_layAll_182 ?_
                                  refine g_iload hF d_X14_layAll_185 4 rfl ?_
                                  have w26 := w25.2
                                  refine g_iald hF arM_22 (s_in (Nat.le_of_ble_eq_true rfl) w25.1.1 w25.1.2) d_X14_layAll_187 ?_
                                  refine g_top (v := (s147 22 ((s79 40 x3_79.toNatClampNeg) - (1 : Int32)).toNatClampNeg)) rfl ?_
                                  refine g_iload hF d_X14_layAll_188 0 rfl ?_
                                  refine g_iadd hF d_X14_layAll_190 ?_
                                  refine g_iconst hF (v := 1) d_X14_layAll_191 (by decide) ?_
                                  refine g_isub hF d_X14_layAll_192 ?_
                                  have w27 := w26.2
                                  refine g_iald hF arM_43 (s_in (Nat.le_of_ble_eq_true rfl) w26.1.1 w26.1.2) d_X14_layAll_193 ?_
                                  refine g_top (v := (s147 43 (((s147 22 ((s79 40 x3_79.toNatClampNeg) - (1 : Int32)).toNatClampNeg) + (s147 25 (x5_147 + (2 : Int32)).toNatClampNeg)) - (1 : Int32)).toNatClampNeg)) rfl ?_
                                  refine g_goto hF 217 d_X14_layAll_194 (by decide) ?_
                                  exact g_sub (L' := [(0, .ref (r 0)), (1, .int a1), (3, .int x3_79), (4, .int ((s79 40 x3_79.toNatClampNeg) - (1 : Int32))), (5, .int x5_147)]) [1, 2, 3, 4, 5] rfl (b217 (s147 43 (((s147 22 ((s79 40 x3_79.toNatClampNeg) - (1 : Int32)).toNatClampNeg) + (s147 25 (x5_147 + (2 : Int32)).toNatClampNeg)) - (1 : Int32)).toNatClampNeg) w27)
                          exact g_sub (L' := [(0, .ref (r 0)), (1, .int a1), (3, .int x3_79), (4, .int ((s79 40 x3_79.toNatClampNeg) - (1 : Int32))), (5, .int (s103 24 ((s79 40 x3_79.toNatClampNeg) - (1 : Int32)).toNatClampNeg))]) [1, 2, 3, 4, 0] rfl (b147 i147 (s103 24 ((s79 40 x3_79.toNatClampNeg) - (1 : Int32)).toNatClampNeg) s103 t103 z103 u147)
                        · have w28 := w7.2 c
                          refine g_aload_n hF d_X14_layAll_117 rfl 0 rfl ?_
                          refine g_get (v := .ref (r 43)) hF 75 obM_0 (by decide) m_1940 rfl d_X14_layAll_118 ?_
                          refine g_iload hF d_X14_layAll_121 4 rfl ?_
                          refine g_aload_n hF d_X14_layAll_123 rfl 0 rfl ?_
                          refine g_iload hF d_X14_layAll_124 4 rfl ?_
                          refine g_iload_n hF d_X14_layAll_126 rfl 2 rfl ?_
                          refine g_iload_n hF d_X14_layAll_127 rfl 1 rfl ?_
                          refine g_cap (fun hc28 => ?_)
                          refine g_callV (As := [.int x5_103, .int x3_79, .int a1]) (rest := [.int x5_103, .ref (r 43)]) hF (fun l D cy => (ct_aimOf a r hc28 w28) l D cy) (Nat.le_of_ble_eq_true rfl) mV_X14_aimOf m_2717 (recv_ob obM_0) rfl rfl (Nat.le_of_ble_eq_true rfl) d_X14_layAll_128 (kI (fun v128 s128 t128 z128 w30 => ?_)) (fun _ _ _ h => h.elim)
                          have w31 := w30.2
                          refine g_iast hF arM_43 (s_in (Nat.le_of_ble_eq_true rfl) w30.1.1 w30.1.2) d_X14_layAll_131 ?_
                          refine g_iinc hF (x5_103 + 1) [(5, .int (x5_103 + 1)), (0, .ref (r 0)), (1, .int a1), (3, .int x3_79), (4, .int ((s79 40 x3_79.toNatClampNeg) - (1 : Int32)))] d_X14_layAll_132 4 rfl rfl hnn (by decide) rfl ?_
                          refine g_goto hF 103 d_X14_layAll_135 (by decide) ?_
                          obtain ⟨m103, hm103, w9⟩ := w31
                          exact g_sub (L' := [(0, .ref (r 0)), (1, .int a1), (3, .int x3_79), (4, .int ((s79 40 x3_79.toNatClampNeg) - (1 : Int32))), (5, .int (x5_103 + 1))]) [1, 2, 3, 4, 0] rfl (ih103 m103 hm103 (x5_103 + 1) (upC s128 43 x5_103.toNatClampNeg v128) t128 z128 w9)
                    exact g_sub (L' := [(0, .ref (r 0)), (1, .int a1), (3, .int x3_79), (4, .int ((s79 40 x3_79.toNatClampNeg) - (1 : Int32))), (5, .int (s79 22 ((s79 40 x3_79.toNatClampNeg) - (1 : Int32)).toNatClampNeg))]) [2, 3, 4, 1, 0] rfl (b103 i103 (s79 22 ((s79 40 x3_79.toNatClampNeg) - (1 : Int32)).toNatClampNeg) s79 t79 z79 u103)
              exact g_sub (L' := [(0, .ref (r 0)), (1, .int a1), (3, .int 0)]) [1, 2, 0] rfl (b79 i79 (0 : Int32) s55 t55 z55 u79)
            · have w32 := w55_.2 c
              refine g_aload_n hF d_X14_layAll_64 rfl 0 rfl ?_
              refine g_get (v := .ref (r 45)) hF 77 obM_0 (by decide) m_1942 rfl d_X14_layAll_65 ?_
              refine g_iload_n hF d_X14_layAll_68 rfl 2 rfl ?_
              refine g_iconst hF (v := 0) d_X14_layAll_69 (by decide) ?_
              have w33 := w32.2
              refine g_iast hF arM_45 (s_in (Nat.le_of_ble_eq_true rfl) w32.1.1 w32.1.2) d_X14_layAll_70 ?_
              refine g_iinc hF (x3_55 + 1) [(3, .int (x3_55 + 1)), (0, .ref (r 0)), (1, .int a1)] d_X14_layAll_71 2 rfl rfl hnn (by decide) rfl ?_
              refine g_goto hF 55 d_X14_layAll_74 (by decide) ?_
              obtain ⟨m55, hm55, w9⟩ := w33
              exact g_sub (L' := [(0, .ref (r 0)), (1, .int a1), (3, .int (x3_55 + 1))]) [1, 2, 0] rfl (ih55 m55 hm55 (x3_55 + 1) (upC s55 45 x3_55.toNatClampNeg (0 : Int32)) t55 z55 w9)
        exact g_sub (L' := [(0, .ref (r 0)), (1, .int a1), (3, .int 0)]) [1, 2, 0] rfl (b55 i55 (0 : Int32) s5 t5 z5 u55)
      · have w34 := w5_.2 c
        refine g_aload_n hF d_X14_layAll_10 rfl 0 rfl ?_
        refine g_get (v := .ref (r 42)) hF 69 obM_0 (by decide) m_1934 rfl d_X14_layAll_11 ?_
        refine g_iload_n hF d_X14_layAll_14 rfl 3 rfl ?_
        refine g_iload_n hF d_X14_layAll_15 rfl 2 rfl ?_
        have w35 := w34.2
        refine g_iast hF arM_42 (s_in (Nat.le_of_ble_eq_true rfl) w34.1.1 w34.1.2) d_X14_layAll_16 ?_
        refine g_aload_n hF d_X14_layAll_17 rfl 0 rfl ?_
        refine g_get (v := .ref (r 44)) hF 76 obM_0 (by decide) m_1941 rfl d_X14_layAll_18 ?_
        refine g_aload_n hF d_X14_layAll_21 rfl 0 rfl ?_
        refine g_get (v := .ref (r 40)) hF 66 obM_0 (by decide) m_1931 rfl d_X14_layAll_22 ?_
        refine g_iload_n hF d_X14_layAll_25 rfl 3 rfl ?_
        have w36 := w35.2
        refine g_iald hF arM_40 (s_in (Nat.le_of_ble_eq_true rfl) w35.1.1 w35.1.2) d_X14_layAll_26 ?_
        refine g_top (v := (s5 40 x3_5.toNatClampNeg)) rfl ?_
        refine g_iconst hF (v := 1) d_X14_layAll_27 (by decide) ?_
        refine g_isub hF d_X14_layAll_28 ?_
        refine g_iload_n hF d_X14_layAll_29 rfl 2 rfl ?_
        have w37 := w36.2
        refine g_iast hF arM_44 (s_in (Nat.le_of_ble_eq_true rfl) w36.1.1 w36.1.2) d_X14_layAll_30 ?_
        refine g_iload_n hF d_X14_layAll_31 rfl 2 rfl ?_
        refine g_aload_n hF d_X14_layAll_32 rfl 0 rfl ?_
        refine g_get (v := .ref (r 23)) hF 33 obM_0 (by decide) m_1898 rfl d_X14_layAll_33 ?_
        refine g_aload_n hF d_X14_layAll_36 rfl 0 rfl ?_
        refine g_get (v := .ref (r 40)) hF 66 obM_0 (by decide) m_1931 rfl d_X14_layAll_37 ?_
        refine g_iload_n hF d_X14_layAll_40 rfl 3 rfl ?_
        have w38 := w37.2
        refine g_iald hF arM_40 (s_in (Nat.le_of_ble_eq_true rfl) w37.1.1 w37.1.2) d_X14_layAll_41 ?_
        refine g_top (v := (s5 40 x3_5.toNatClampNeg)) rfl ?_
        refine g_iconst hF (v := 1) d_X14_layAll_42 (by decide) ?_
        refine g_isub hF d_X14_layAll_43 ?_
        have w39 := w38.2
        refine g_iald hF arM_23 (s_in (Nat.le_of_ble_eq_true rfl) w38.1.1 w38.1.2) d_X14_layAll_44 ?_
        refine g_top (v := (s5 23 ((s5 40 x3_5.toNatClampNeg) - (1 : Int32)).toNatClampNeg)) rfl ?_
        refine g_iadd hF d_X14_layAll_45 ?_
        refine g_istore_n hF [(2, .int (x2_5 + (s5 23 ((s5 40 x3_5.toNatClampNeg) - (1 : Int32)).toNatClampNeg))), (0, .ref (r 0)), (1, .int a1), (3, .int x3_5)] d_X14_layAll_46 rfl hnn (by decide) rfl ?_
        refine g_iinc hF (x3_5 + 1) [(3, .int (x3_5 + 1)), (2, .int (x2_5 + (s5 23 ((s5 40 x3_5.toNatClampNeg) - (1 : Int32)).toNatClampNeg))), (0, .ref (r 0)), (1, .int a1)] d_X14_layAll_47 3 rfl rfl hnn (by decide) rfl ?_
        refine g_goto hF 5 d_X14_layAll_50 (by decide) ?_
        obtain ⟨m5, hm5, w9⟩ := w39
        exact g_sub (L' := [(0, .ref (r 0)), (1, .int a1), (2, .int (x2_5 + (s5 23 ((s5 40 x3_5.toNatClampNeg) - (1 : Int32)).toNatClampNeg))), (3, .int (x3_5 + 1))]) [2, 3, 1, 0] rfl (ih5 m5 hm5 (x2_5 + (s5 23 ((s5 40 x3_5.toNatClampNeg) - (1 : Int32)).toNatClampNeg)) (x3_5 + 1) (upC (upC s5 42 x3_5.toNatClampNeg x2_5) 44 ((s5 40 x3_5.toNatClampNeg) - (1 : Int32)).toNatClampNeg x2_5) t5 z5 w9)
  exact g_sub (L' := [(0, .ref (r 0)), (1, .int a1), (2, .int 16), (3, .int 0)]) [2, 3, 1, 0] rfl (b5 i5 (16 : Int32) (0 : Int32) σ τ vs u5)
def wp_enter (a1 : Int32) (a2 : Int32) (a3 : Int32) (a4 : Int32) (σ τ : St) (vs : List Nat) (Q : St → St → List Nat → Prop) : Prop :=
  ((σ 0 92).toInt ≠ (σ 0 93).toInt → (∃ J53 : Int32 → Prop, (∀ (y0_53 : Int32), J53 y0_53 → (((0 ≤ a1.toInt ∧ a1.toInt < 10000) ∧ (24576 ≤ ((y0_53 - (32 : Int32)) - (σ 30 a1.toNatClampNeg)).toInt → ((0 ≤ (σ 0 86).toInt ∧ (σ 0 86).toInt < 260) ∧ ((0 ≤ (σ 0 86).toInt ∧ (σ 0 86).toInt < 260) ∧ ((0 ≤ (σ 0 86).toInt ∧ (σ 0 86).toInt < 260) ∧ wp_parametersOf a1 (upC (upC (upC (upC (upC σ 0 92 ((σ 0 92) + (1 : Int32))) 49 (σ 0 86).toNatClampNeg ((y0_53 - (32 : Int32)) - (σ 30 a1.toNatClampNeg))) 50 (σ 0 86).toNatClampNeg a1) 51 (σ 0 86).toNatClampNeg a2) 0 86 ((σ 0 86) + (1 : Int32))) τ vs (fun v125 => ∃ L133 : Nat → Int32 → St → St → List Nat → Prop, (∃ n, L133 n (0 : Int32) (upC (upC (upC (upC (upC σ 0 92 ((σ 0 92) + (1 : Int32))) 49 (σ 0 86).toNatClampNeg ((y0_53 - (32 : Int32)) - (σ 30 a1.toNatClampNeg))) 50 (σ 0 86).toNatClampNeg a1) 51 (σ 0 86).toNatClampNeg a2) 0 86 ((σ 0 86) + (1 : Int32))) τ vs) ∧ ∀ (n133 : Nat) (x7_133 : Int32) (s133 t133 : St) (z133 : List Nat), L133 n133 x7_133 s133 t133 z133 → (((0 ≤ a1.toInt ∧ a1.toInt < 10000) ∧ ((s133 28 a1.toNatClampNeg).toInt ≤ x7_133.toInt → ∃ L182 : Nat → Int32 → St → St → List Nat → Prop, (∃ n, L182 n (0 : Int32) (upC s133 0 81 ((s133 0 81) - v125)) t133 z133) ∧ ∀ (n182 : Nat) (x7_182 : Int32) (s182 t182 : St) (z182 : List Nat), L182 n182 x7_182 s182 t182 z182 → ((v125.toInt ≤ x7_182.toInt → Q s182 t182 z182) ∧ (x7_182.toInt < v125.toInt → ((0 ≤ ((s182 0 81) + x7_182).toInt ∧ ((s182 0 81) + x7_182).toInt < 140000) ∧ wp_setLocal x7_182 (s182 47 ((s182 0 81) + x7_182).toNatClampNeg) s182 t182 z182 (fun s204 t204 z204 => ∃ m, m < n182 ∧ L182 m (x7_182 + 1) s204 t204 z204))))) ∧ (x7_133.toInt < (s133 28 a1.toNatClampNeg).toInt → ((0 ≤ ((((s133 0 86) - (1 : Int32)) * (100 : Int32)) + x7_133).toInt ∧ ((((s133 0 86) - (1 : Int32)) * (100 : Int32)) + x7_133).toInt < 26000) ∧ ∃ m, m < n133 ∧ L133 m (x7_133 + 1) (upC s133 48 ((((s133 0 86) - (1 : Int32)) * (100 : Int32)) + x7_133).toNatClampNeg (0 : Int32)) t133 z133))))))))) ∧ (((y0_53 - (32 : Int32)) - (σ 30 a1.toNatClampNeg)).toInt < 24576 → wp_ends (3 : Int32) a3 a4 (upC σ 0 92 ((σ 0 92) + (1 : Int32))) τ vs (fun s78 t78 z78 => Q s78 t78 z78))))) ∧ ((σ 0 86).toInt ≠ 0 → ((0 ≤ ((σ 0 86) - (1 : Int32)).toInt ∧ ((σ 0 86) - (1 : Int32)).toInt < 260) ∧ J53 (σ 49 ((σ 0 86) - (1 : Int32)).toNatClampNeg))) ∧ ((σ 0 86).toInt = 0 → J53 (32768 : Int32)))) ∧ ((σ 0 92).toInt = (σ 0 93).toInt → wp_ends (4 : Int32) a3 a4 σ τ vs (fun s16 t16 z16 => Q s16 t16 z16))
set_option maxHeartbeats 4000000 in
set_option maxRecDepth 100000 in
theorem ct_enter (a : Nat → Nat) (r : Nat → Nat) {a1 : Int32} {a2 : Int32} {a3 : Int32} {a4 : Int32} {σ τ : St} {vs : List Nat} {Q : St → St → List Nat → Prop} (hcap : vs.length ≤ CAP) (w : wp_enter a1 a2 a3 a4 σ τ vs Q) (l : Launch) (D : va_G) (cy : Nat → ClassId) : Ct l D cy SM r (EM a) y_X14_enter (Cond.code y_X14_enter b_X14_enter 8 none) 2 [.ref (r 0), .int a1, .int a2, .int a3, .int a4] σ τ vs (QVs Q) QT0 := by
  unfold wp_enter at w
  refine Ct_of (EM_ok a) (by decide) (Nat.le_of_ble_eq_true rfl) hcap (fun X hnn hF => ?_)
  show G SM r X σ τ vs [(0, .ref (r 0)), (1, .int a1), (2, .int a2), (3, .int a3), (4, .int a4)] [] 0
  refine g_aload_n hF d_X14_enter_0 rfl 0 rfl ?_
  refine g_get (v := .int (σ 0 92)) hF 92 obM_0 (by decide) m_1957 rfl d_X14_enter_1 ?_
  refine g_aload_n hF d_X14_enter_4 rfl 0 rfl ?_
  refine g_get (v := .int (σ 0 93)) hF 93 obM_0 (by decide) m_1958 rfl d_X14_enter_5 ?_
  refine g_icmp_ne hF 20 d_X14_enter_8 (by decide) rfl rfl (fun c => ?_) (fun c => ?_)
  · have w1 := w.1 c
    refine g_aload_n hF d_X14_enter_20 rfl 0 rfl ?_
    refine g_dup hF d_X14_enter_21 rfl ?_
    refine g_get (v := .int (σ 0 92)) hF 92 obM_0 (by decide) m_1957 rfl d_X14_enter_22 ?_
    refine g_iconst hF (v := 1) d_X14_enter_25 (by decide) ?_
    refine g_iadd hF d_X14_enter_26 ?_
    refine g_put (v := ((σ 0 92) + (1 : Int32))) hF 92 obM_0 (by decide) m_1957 rfl rfl rfl d_X14_enter_27 ?_
    refine g_aload_n hF d_X14_enter_30 rfl 0 rfl ?_
    refine g_get (v := .int (σ 0 86)) hF 86 obM_0 (by decide) m_1951 rfl d_X14_enter_31 ?_
    obtain ⟨J53, h53, w2⟩ := w1
    have b53 : ∀ (y0_53 : Int32), J53 y0_53 → G SM r X (upC σ 0 92 ((σ 0 92) + (1 : Int32))) τ vs [(0, .ref (r 0)), (1, .int a1), (2, .int a2), (3, .int a3), (4, .int a4)] [.int y0_53] 53 := by
      intro y0_53  w53_
      have w53_ := h53 y0_53  w53_
      refine g_bipush hF (v := 32) d_X14_enter_53 (by decide) ?_
      refine g_isub hF d_X14_enter_55 ?_
      refine g_aload_n hF d_X14_enter_56 rfl 0 rfl ?_
      refine g_get (v := .ref (r 30)) hF 44 obM_0 (by decide) m_1909 rfl d_X14_enter_57 ?_
      refine g_iload_n hF d_X14_enter_60 rfl 1 rfl ?_
      have w3 := w53_.2
      refine g_iald hF arM_30 (s_in (Nat.le_of_ble_eq_true rfl) w53_.1.1 w53_.1.2) d_X14_enter_61 ?_
      refine g_top (v := (σ 30 a1.toNatClampNeg)) rfl ?_
      refine g_isub hF d_X14_enter_62 ?_
      refine g_istore hF [(5, .int ((y0_53 - (32 : Int32)) - (σ 30 a1.toNatClampNeg))), (0, .ref (r 0)), (1, .int a1), (2, .int a2), (3, .int a3), (4, .int a4)] d_X14_enter_63 hnn (by decide) rfl ?_
      refine g_iload hF d_X14_enter_65 0 rfl ?_
      refine g_sipush hF (v := 24576) d_X14_enter_67 (by decide) ?_
      refine g_icmp_ge (yv := 24576) hF 82 d_X14_enter_70 (by decide) rfl (by decide) (fun c => ?_) (fun c => ?_)
      · have w4 := w3.1 c
        refine g_aload_n hF d_X14_enter_82 rfl 1 rfl ?_
        refine g_get (v := .ref (r 49)) hF 83 obM_0 (by decide) m_1948 rfl d_X14_enter_83 ?_
        refine g_aload_n hF d_X14_enter_86 rfl 1 rfl ?_
        refine g_get (v := .int (σ 0 86)) hF 86 obM_0 (by decide) m_1951 rfl d_X14_enter_87 ?_
        refine g_iload hF d_X14_enter_90 0 rfl ?_
        have w5 := w4.2
        refine g_iast hF arM_49 (s_in (Nat.le_of_ble_eq_true rfl) w4.1.1 w4.1.2) d_X14_enter_92 ?_
        refine g_aload_n hF d_X14_enter_93 rfl 1 rfl ?_
        refine g_get (v := .ref (r 50)) hF 84 obM_0 (by decide) m_1949 rfl d_X14_enter_94 ?_
        refine g_aload_n hF d_X14_enter_97 rfl 1 rfl ?_
        refine g_get (v := .int (σ 0 86)) hF 86 obM_0 (by decide) m_1951 rfl d_X14_enter_98 ?_
        refine g_iload_n hF d_X14_enter_101 rfl 2 rfl ?_
        have w6 := w5.2
        refine g_iast hF arM_50 (s_in (Nat.le_of_ble_eq_true rfl) w5.1.1 w5.1.2) d_X14_enter_102 ?_
        refine g_aload_n hF d_X14_enter_103 rfl 1 rfl ?_
        refine g_get (v := .ref (r 51)) hF 85 obM_0 (by decide) m_1950 rfl d_X14_enter_104 ?_
        refine g_aload_n hF d_X14_enter_107 rfl 1 rfl ?_
        refine g_get (v := .int (σ 0 86)) hF 86 obM_0 (by decide) m_1951 rfl d_X14_enter_108 ?_
        refine g_iload_n hF d_X14_enter_111 rfl 3 rfl ?_
        have w7 := w6.2
        refine g_iast hF arM_51 (s_in (Nat.le_of_ble_eq_true rfl) w6.1.1 w6.1.2) d_X14_enter_112 ?_
        refine g_aload_n hF d_X14_enter_113 rfl 1 rfl ?_
        refine g_dup hF d_X14_enter_114 rfl ?_
        refine g_get (v := .int (σ 0 86)) hF 86 obM_0 (by decide) m_1951 rfl d_X14_enter_115 ?_
        refine g_iconst hF (v := 1) d_X14_enter_118 (by decide) ?_
        refine g_iadd hF d_X14_enter_119 ?_
        refine g_put (v := ((σ 0 86) + (1 : Int32))) hF 86 obM_0 (by decide) m_1951 rfl rfl rfl d_X14_enter_120 ?_
        refine g_aload_n hF d_X14_enter_123 rfl 1 rfl ?_
        refine g_iload_n hF d_X14_enter_124 rfl 2 rfl ?_
        refine g_callV (As := [.int a1]) (rest := []) hF (fun l D cy => (ct_parametersOf a r hcap w7) l D cy) (Nat.le_of_ble_eq_true rfl) mV_X14_parametersOf m_2749 (recv_ob obM_0) rfl rfl (Nat.le_of_ble_eq_true rfl) d_X14_enter_125 (krI (fun v125 w8 => ?_)) (fun _ _ _ h => h.elim)
        refine g_istore hF [(6, .int v125), (5, .int ((y0_53 - (32 : Int32)) - (σ 30 a1.toNatClampNeg))), (0, .ref (r 0)), (1, .int a1), (2, .int a2), (3, .int a3), (4, .int a4)] d_X14_enter_128 hnn (by decide) rfl ?_
        refine g_iconst hF (v := 0) d_X14_enter_130 (by decide) ?_
        refine g_istore hF [(7, .int 0), (6, .int v125), (5, .int ((y0_53 - (32 : Int32)) - (σ 30 a1.toNatClampNeg))), (0, .ref (r 0)), (1, .int a1), (2, .int a2), (3, .int a3), (4, .int a4)] d_X14_enter_131 hnn (by decide) rfl ?_
        obtain ⟨L133, ⟨i133, u133⟩, h133⟩ := w8
        have b133 : ∀ (n133 : Nat) (x7_133 : Int32) (s133 t133 : St) (z133 : List Nat), L133 n133 x7_133 s133 t133 z133 → G SM r X s133 t133 z133 [(0, .ref (r 0)), (1, .int a1), (6, .int v125), (7, .int x7_133)] [] 133 := by
          intro n133
          induction n133 using Nat.strongRecOn with
          | _ n133 ih133 =>
            intro x7_133 s133 t133 z133  w133_
            have w133_ := h133 n133 x7_133 s133 t133 z133  w133_
            refine g_iload hF d_X14_enter_133 3 rfl ?_
            refine g_aload_n hF d_X14_enter_135 rfl 0 rfl ?_
            refine g_get (v := .ref (r 28)) hF 42 obM_0 (by decide) m_1907 rfl d_X14_enter_136 ?_
            refine g_iload_n hF d_X14_enter_139 rfl 1 rfl ?_
            have w9 := w133_.2
            refine g_iald hF arM_28 (s_in (Nat.le_of_ble_eq_true rfl) w133_.1.1 w133_.1.2) d_X14_enter_140 ?_
            refine g_top (v := (s133 28 a1.toNatClampNeg)) rfl ?_
            refine g_icmp_ge hF 168 d_X14_enter_141 (by decide) rfl rfl (fun c => ?_) (fun c => ?_)
            · have w10 := w9.1 c
              refine g_aload_n hF d_X14_enter_168 rfl 0 rfl ?_
              refine g_dup hF d_X14_enter_169 rfl ?_
              refine g_get (v := .int (s133 0 81)) hF 81 obM_0 (by decide) m_1946 rfl d_X14_enter_170 ?_
              refine g_iload hF d_X14_enter_173 2 rfl ?_
              refine g_isub hF d_X14_enter_175 ?_
              refine g_put (v := ((s133 0 81) - v125)) hF 81 obM_0 (by decide) m_1946 rfl rfl rfl d_X14_enter_176 ?_
              refine g_iconst hF (v := 0) d_X14_enter_179 (by decide) ?_
              refine g_istore hF [(7, .int 0), (0, .ref (r 0)), (1, .int a1), (6, .int v125)] d_X14_enter_180 hnn (by decide) rfl ?_
              obtain ⟨L182, ⟨i182, u182⟩, h182⟩ := w10
              have b182 : ∀ (n182 : Nat) (x7_182 : Int32) (s182 t182 : St) (z182 : List Nat), L182 n182 x7_182 s182 t182 z182 → G SM r X s182 t182 z182 [(0, .ref (r 0)), (6, .int v125), (7, .int x7_182)] [] 182 := by
                intro n182
                induction n182 using Nat.strongRecOn with
                | _ n182 ih182 =>
                  intro x7_182 s182 t182 z182  w182_
                  have w182_ := h182 n182 x7_182 s182 t182 z182  w182_
                  refine g_iload hF d_X14_enter_182 2 rfl ?_
                  refine g_iload hF d_X14_enter_184 1 rfl ?_
                  refine g_icmp_ge hF 213 d_X14_enter_186 (by decide) rfl rfl (fun c => ?_) (fun c => ?_)
                  · have w11 := w182_.1 c
                    exact g_vret hF rfl d_X14_enter_213 ⟨rfl, w11⟩
                  · have w12 := w182_.2 c
                    refine g_aload_n hF d_X14_enter_189 rfl 0 rfl ?_
                    refine g_iload hF d_X14_enter_190 2 rfl ?_
                    refine g_aload_n hF d_X14_enter_192 rfl 0 rfl ?_
                    refine g_get (v := .ref (r 47)) hF 80 obM_0 (by decide) m_1945 rfl d_X14_enter_193 ?_
                    refine g_aload_n hF d_X14_enter_196 rfl 0 rfl ?_
                    refine g_get (v := .int (s182 0 81)) hF 81 obM_0 (by decide) m_1946 rfl d_X14_enter_197 ?_
                    refine g_iload hF d_X14_enter_200 2 rfl ?_
                    refine g_iadd hF d_X14_enter_202 ?_
                    have w13 := w12.2
                    refine g_iald hF arM_47 (s_in (Nat.le_of_ble_eq_true rfl) w12.1.1 w12.1.2) d_X14_enter_203 ?_
                    refine g_top (v := (s182 47 ((s182 0 81) + x7_182).toNatClampNeg)) rfl ?_
                    refine g_cap (fun hc13 => ?_)
                    refine g_callV (As := [.int x7_182, .int (s182 47 ((s182 0 81) + x7_182).toNatClampNeg)]) (rest := []) hF (fun l D cy => (ct_setLocal a r hc13 w13) l D cy) (Nat.le_of_ble_eq_true rfl) mV_X14_setLocal m_2753 (recv_ob obM_0) rfl rfl (Nat.le_of_ble_eq_true rfl) d_X14_enter_204 (kV (fun s204 t204 z204 w15 => ?_)) (fun _ _ _ h => h.elim)
                    refine g_iinc hF (x7_182 + 1) [(7, .int (x7_182 + 1)), (0, .ref (r 0)), (6, .int v125)] d_X14_enter_207 2 rfl rfl hnn (by decide) rfl ?_
                    refine g_goto hF 182 d_X14_enter_210 (by decide) ?_
                    obtain ⟨m182, hm182, w9⟩ := w15
                    exact g_sub (L' := [(0, .ref (r 0)), (6, .int v125), (7, .int (x7_182 + 1))]) [1, 2, 0] rfl (ih182 m182 hm182 (x7_182 + 1) s204 t204 z204 w9)
              exact g_sub (L' := [(0, .ref (r 0)), (6, .int v125), (7, .int 0)]) [1, 3, 0] rfl (b182 i182 (0 : Int32) (upC s133 0 81 ((s133 0 81) - v125)) t133 z133 u182)
            · have w16 := w9.2 c
              refine g_aload_n hF d_X14_enter_144 rfl 0 rfl ?_
              refine g_get (v := .ref (r 48)) hF 82 obM_0 (by decide) m_1947 rfl d_X14_enter_145 ?_
              refine g_aload_n hF d_X14_enter_148 rfl 0 rfl ?_
              refine g_get (v := .int (s133 0 86)) hF 86 obM_0 (by decide) m_1951 rfl d_X14_enter_149 ?_
              refine g_iconst hF (v := 1) d_X14_enter_152 (by decide) ?_
              refine g_isub hF d_X14_enter_153 ?_
              refine g_bipush hF (v := 100) d_X14_enter_154 (by decide) ?_
              refine g_imul hF d_X14_enter_156 ?_
              refine g_iload hF d_X14_enter_157 3 rfl ?_
              refine g_iadd hF d_X14_enter_159 ?_
              refine g_iconst hF (v := 0) d_X14_enter_160 (by decide) ?_
              have w17 := w16.2
              refine g_iast hF arM_48 (s_in (Nat.le_of_ble_eq_true rfl) w16.1.1 w16.1.2) d_X14_enter_161 ?_
              refine g_iinc hF (x7_133 + 1) [(7, .int (x7_133 + 1)), (0, .ref (r 0)), (1, .int a1), (6, .int v125)] d_X14_enter_162 3 rfl rfl hnn (by decide) rfl ?_
              refine g_goto hF 133 d_X14_enter_165 (by decide) ?_
              obtain ⟨m133, hm133, w9⟩ := w17
              exact g_sub (L' := [(0, .ref (r 0)), (1, .int a1), (6, .int v125), (7, .int (x7_133 + 1))]) [1, 2, 3, 0] rfl (ih133 m133 hm133 (x7_133 + 1) (upC s133 48 ((((s133 0 86) - (1 : Int32)) * (100 : Int32)) + x7_133).toNatClampNeg (0 : Int32)) t133 z133 w9)
        exact g_sub (L' := [(0, .ref (r 0)), (1, .int a1), (6, .int v125), (7, .int 0)]) [3, 4, 1, 0] rfl (b133 i133 (0 : Int32) (upC (upC (upC (upC (upC σ 0 92 ((σ 0 92) + (1 : Int32))) 49 (σ 0 86).toNatClampNeg ((y0_53 - (32 : Int32)) - (σ 30 a1.toNatClampNeg))) 50 (σ 0 86).toNatClampNeg a1) 51 (σ 0 86).toNatClampNeg a2) 0 86 ((σ 0 86) + (1 : Int32))) τ vs u133)
      · have w18 := w3.2 c
        refine g_aload_n hF d_X14_enter_73 rfl 1 rfl ?_
        refine g_iconst hF (v := 3) d_X14_enter_74 (by decide) ?_
        refine g_iload_n hF d_X14_enter_75 rfl 4 rfl ?_
        refine g_iload hF d_X14_enter_76 5 rfl ?_
        refine g_callV (As := [.int 3, .int a3, .int a4]) (rest := []) hF (fun l D cy => (ct_ends a r hcap w18) l D cy) (Nat.le_of_ble_eq_true rfl) mV_X14_ends m_2745 (recv_ob obM_0) rfl rfl (Nat.le_of_ble_eq_true rfl) d_X14_enter_78 (kV (fun s78 t78 z78 w19 => ?_)) (fun _ _ _ h => h.elim)
        exact g_vret hF rfl d_X14_enter_81 ⟨rfl, w19⟩
    refine g_if_ne hF 42 d_X14_enter_34 (by decide) rfl (fun c => ?_) (fun c => ?_)
    · have w20 := w2.1 c
      refine g_aload_n hF d_X14_enter_42 rfl 0 rfl ?_
      refine g_get (v := .ref (r 49)) hF 83 obM_0 (by decide) m_1948 rfl d_X14_enter_43 ?_
      refine g_aload_n hF d_X14_enter_46 rfl 0 rfl ?_
      refine g_get (v := .int (σ 0 86)) hF 86 obM_0 (by decide) m_1951 rfl d_X14_enter_47 ?_
      refine g_iconst hF (v := 1) d_X14_enter_50 (by decide) ?_
      refine g_isub hF d_X14_enter_51 ?_
      have w21 := w20.2
      refine g_iald hF arM_49 (s_in (Nat.le_of_ble_eq_true rfl) w20.1.1 w20.1.2) d_X14_enter_52 ?_
      refine g_top (v := (σ 49 ((σ 0 86) - (1 : Int32)).toNatClampNeg)) rfl ?_
      exact b53 (σ 49 ((σ 0 86) - (1 : Int32)).toNatClampNeg) w21
    · have w22 := w2.2 c
      refine g_ldc (v := 32768) hF m_1863 d_X14_enter_37 ?_
      refine g_goto hF 53 d_X14_enter_39 (by decide) ?_
      exact b53 (32768 : Int32) w22
  · have w23 := w.2 c
    refine g_aload_n hF d_X14_enter_11 rfl 0 rfl ?_
    refine g_iconst hF (v := 4) d_X14_enter_12 (by decide) ?_
    refine g_iload_n hF d_X14_enter_13 rfl 3 rfl ?_
    refine g_iload hF d_X14_enter_14 4 rfl ?_
    refine g_callV (As := [.int 4, .int a3, .int a4]) (rest := []) hF (fun l D cy => (ct_ends a r hcap w23) l D cy) (Nat.le_of_ble_eq_true rfl) mV_X14_ends m_2745 (recv_ob obM_0) rfl rfl (Nat.le_of_ble_eq_true rfl) d_X14_enter_16 (kV (fun s16 t16 z16 w24 => ?_)) (fun _ _ _ h => h.elim)
    exact g_vret hF rfl d_X14_enter_19 ⟨rfl, w24⟩
def wp_call_1 (a1 : Int32) (a2 : Int32) (a3 : Int32) (σ τ : St) (vs : List Nat) (Q : Int32 → St → St → List Nat → Prop) : Prop :=
  ((0 ≤ ((σ 0 86) - (1 : Int32)).toInt ∧ ((σ 0 86) - (1 : Int32)).toInt < 260) ∧ ((0 ≤ (σ 50 ((σ 0 86) - (1 : Int32)).toNatClampNeg).toInt ∧ (σ 50 ((σ 0 86) - (1 : Int32)).toNatClampNeg).toInt < 10000) ∧ ((0 ≤ (σ 27 (σ 50 ((σ 0 86) - (1 : Int32)).toNatClampNeg).toNatClampNeg).toInt ∧ (σ 27 (σ 50 ((σ 0 86) - (1 : Int32)).toNatClampNeg).toNatClampNeg).toInt < 102) ∧ ((0 ≤ ((σ 22 (σ 27 (σ 50 ((σ 0 86) - (1 : Int32)).toNatClampNeg).toNatClampNeg).toNatClampNeg) + a2).toInt ∧ ((σ 22 (σ 27 (σ 50 ((σ 0 86) - (1 : Int32)).toNatClampNeg).toNatClampNeg).toNatClampNeg) + a2).toInt < 10000) ∧ (0 ≤ (σ 43 ((σ 22 (σ 27 (σ 50 ((σ 0 86) - (1 : Int32)).toNatClampNeg).toNatClampNeg).toNatClampNeg) + a2).toNatClampNeg).toInt → wp_enter (σ 43 ((σ 22 (σ 27 (σ 50 ((σ 0 86) - (1 : Int32)).toNatClampNeg).toNatClampNeg).toNatClampNeg) + a2).toNatClampNeg) (a1 + (3 : Int32)) ((σ 27 (σ 50 ((σ 0 86) - (1 : Int32)).toNatClampNeg).toNatClampNeg) + (1 : Int32)) a3 σ τ vs (fun s63 t63 z63 => (0 ≤ (s63 0 97).toInt → Q a1 s63 t63 z63) ∧ ((s63 0 97).toInt < 0 → ((0 ≤ (σ 43 ((σ 22 (σ 27 (σ 50 ((σ 0 86) - (1 : Int32)).toNatClampNeg).toNatClampNeg).toNatClampNeg) + a2).toNatClampNeg).toInt ∧ (σ 43 ((σ 22 (σ 27 (σ 50 ((σ 0 86) - (1 : Int32)).toNatClampNeg).toNatClampNeg).toNatClampNeg) + a2).toNatClampNeg).toInt < 10000) ∧ Q (s63 26 (σ 43 ((σ 22 (σ 27 (σ 50 ((σ 0 86) - (1 : Int32)).toNatClampNeg).toNatClampNeg).toNatClampNeg) + a2).toNatClampNeg).toNatClampNeg) s63 t63 z63)))) ∧ ((σ 43 ((σ 22 (σ 27 (σ 50 ((σ 0 86) - (1 : Int32)).toNatClampNeg).toNatClampNeg).toNatClampNeg) + a2).toNatClampNeg).toInt < 0 → wp_library_1 (((-1) : Int32) - (σ 43 ((σ 22 (σ 27 (σ 50 ((σ 0 86) - (1 : Int32)).toNatClampNeg).toNatClampNeg).toNatClampNeg) + a2).toNatClampNeg)) a3 σ τ vs (fun s45 t45 z45 => Q (a1 + (3 : Int32)) s45 t45 z45))))))
set_option maxHeartbeats 4000000 in
set_option maxRecDepth 100000 in
theorem ct_call_1 (a : Nat → Nat) (r : Nat → Nat) {a1 : Int32} {a2 : Int32} {a3 : Int32} {σ τ : St} {vs : List Nat} {Q : Int32 → St → St → List Nat → Prop} (hcap : vs.length ≤ CAP) (w : wp_call_1 a1 a2 a3 σ τ vs Q) (l : Launch) (D : va_G) (cy : Nat → ClassId) : Ct l D cy SM r (EM a) y_X14_call_1 (Cond.code y_X14_call_1 b_X14_call_1 6 (some .int)) 5 [.ref (r 0), .int a1, .int a2, .int a3] σ τ vs (QIs Q) QT0 := by
  unfold wp_call_1 at w
  refine Ct_of (EM_ok a) (by decide) (Nat.le_of_ble_eq_true rfl) hcap (fun X hnn hF => ?_)
  show G SM r X σ τ vs [(0, .ref (r 0)), (1, .int a1), (2, .int a2), (3, .int a3)] [] 0
  refine g_aload_n hF d_X14_call_1_0 rfl 0 rfl ?_
  refine g_get (v := .ref (r 27)) hF 41 obM_0 (by decide) m_1906 rfl d_X14_call_1_1 ?_
  refine g_aload_n hF d_X14_call_1_4 rfl 0 rfl ?_
  refine g_get (v := .ref (r 50)) hF 84 obM_0 (by decide) m_1949 rfl d_X14_call_1_5 ?_
  refine g_aload_n hF d_X14_call_1_8 rfl 0 rfl ?_
  refine g_get (v := .int (σ 0 86)) hF 86 obM_0 (by decide) m_1951 rfl d_X14_call_1_9 ?_
  refine g_iconst hF (v := 1) d_X14_call_1_12 (by decide) ?_
  refine g_isub hF d_X14_call_1_13 ?_
  have w1 := w.2
  refine g_iald hF arM_50 (s_in (Nat.le_of_ble_eq_true rfl) w.1.1 w.1.2) d_X14_call_1_14 ?_
  refine g_top (v := (σ 50 ((σ 0 86) - (1 : Int32)).toNatClampNeg)) rfl ?_
  have w2 := w1.2
  refine g_iald hF arM_27 (s_in (Nat.le_of_ble_eq_true rfl) w1.1.1 w1.1.2) d_X14_call_1_15 ?_
  refine g_top (v := (σ 27 (σ 50 ((σ 0 86) - (1 : Int32)).toNatClampNeg).toNatClampNeg)) rfl ?_
  refine g_istore hF [(4, .int (σ 27 (σ 50 ((σ 0 86) - (1 : Int32)).toNatClampNeg).toNatClampNeg)), (0, .ref (r 0)), (1, .int a1), (2, .int a2), (3, .int a3)] d_X14_call_1_16 hnn (by decide) rfl ?_
  refine g_aload_n hF d_X14_call_1_18 rfl 1 rfl ?_
  refine g_get (v := .ref (r 43)) hF 75 obM_0 (by decide) m_1940 rfl d_X14_call_1_19 ?_
  refine g_aload_n hF d_X14_call_1_22 rfl 1 rfl ?_
  refine g_get (v := .ref (r 22)) hF 32 obM_0 (by decide) m_1897 rfl d_X14_call_1_23 ?_
  refine g_iload hF d_X14_call_1_26 0 rfl ?_
  have w3 := w2.2
  refine g_iald hF arM_22 (s_in (Nat.le_of_ble_eq_true rfl) w2.1.1 w2.1.2) d_X14_call_1_28 ?_
  refine g_top (v := (σ 22 (σ 27 (σ 50 ((σ 0 86) - (1 : Int32)).toNatClampNeg).toNatClampNeg).toNatClampNeg)) rfl ?_
  refine g_iload_n hF d_X14_call_1_29 rfl 3 rfl ?_
  refine g_iadd hF d_X14_call_1_30 ?_
  have w4 := w3.2
  refine g_iald hF arM_43 (s_in (Nat.le_of_ble_eq_true rfl) w3.1.1 w3.1.2) d_X14_call_1_31 ?_
  refine g_top (v := (σ 43 ((σ 22 (σ 27 (σ 50 ((σ 0 86) - (1 : Int32)).toNatClampNeg).toNatClampNeg).toNatClampNeg) + a2).toNatClampNeg)) rfl ?_
  refine g_istore hF [(5, .int (σ 43 ((σ 22 (σ 27 (σ 50 ((σ 0 86) - (1 : Int32)).toNatClampNeg).toNatClampNeg).toNatClampNeg) + a2).toNatClampNeg)), (4, .int (σ 27 (σ 50 ((σ 0 86) - (1 : Int32)).toNatClampNeg).toNatClampNeg)), (0, .ref (r 0)), (1, .int a1), (2, .int a2), (3, .int a3)] d_X14_call_1_32 hnn (by decide) rfl ?_
  refine g_iload hF d_X14_call_1_34 0 rfl ?_
  refine g_if_ge hF 52 d_X14_call_1_36 (by decide) rfl (fun c => ?_) (fun c => ?_)
  · have w5 := w4.1 c
    refine g_aload_n hF d_X14_call_1_52 rfl 2 rfl ?_
    refine g_iload hF d_X14_call_1_53 0 rfl ?_
    refine g_iload_n hF d_X14_call_1_55 rfl 3 rfl ?_
    refine g_iconst hF (v := 3) d_X14_call_1_56 (by decide) ?_
    refine g_iadd hF d_X14_call_1_57 ?_
    refine g_iload hF d_X14_call_1_58 1 rfl ?_
    refine g_iconst hF (v := 1) d_X14_call_1_60 (by decide) ?_
    refine g_iadd hF d_X14_call_1_61 ?_
    refine g_iload_n hF d_X14_call_1_62 rfl 5 rfl ?_
    refine g_callV (As := [.int (σ 43 ((σ 22 (σ 27 (σ 50 ((σ 0 86) - (1 : Int32)).toNatClampNeg).toNatClampNeg).toNatClampNeg) + a2).toNatClampNeg), .int (a1 + (3 : Int32)), .int ((σ 27 (σ 50 ((σ 0 86) - (1 : Int32)).toNatClampNeg).toNatClampNeg) + (1 : Int32)), .int a3]) (rest := []) hF (fun l D cy => (ct_enter a r hcap w5) l D cy) (Nat.le_of_ble_eq_true rfl) mV_X14_enter m_2741 (recv_ob obM_0) rfl rfl (Nat.le_of_ble_eq_true rfl) d_X14_call_1_63 (kV (fun s63 t63 z63 w6 => ?_)) (fun _ _ _ h => h.elim)
    refine g_aload_n hF d_X14_call_1_66 rfl 2 rfl ?_
    refine g_get (v := .int (s63 0 97)) hF 97 obM_0 (by decide) m_1962 rfl d_X14_call_1_67 ?_
    refine g_if_ge hF 83 d_X14_call_1_70 (by decide) rfl (fun c => ?_) (fun c => ?_)
    · have w7 := w6.1 c
      refine g_iload_n hF d_X14_call_1_83 rfl 3 rfl ?_
      exact g_iret hF rfl d_X14_call_1_84 ⟨a1, rfl, w7⟩
    · have w8 := w6.2 c
      refine g_aload_n hF d_X14_call_1_73 rfl 2 rfl ?_
      refine g_get (v := .ref (r 26)) hF 40 obM_0 (by decide) m_1905 rfl d_X14_call_1_74 ?_
      refine g_iload hF d_X14_call_1_77 0 rfl ?_
      have w9 := w8.2
      refine g_iald hF arM_26 (s_in (Nat.le_of_ble_eq_true rfl) w8.1.1 w8.1.2) d_X14_call_1_79 ?_
      refine g_top (v := (s63 26 (σ 43 ((σ 22 (σ 27 (σ 50 ((σ 0 86) - (1 : Int32)).toNatClampNeg).toNatClampNeg).toNatClampNeg) + a2).toNatClampNeg).toNatClampNeg)) rfl ?_
      refine g_goto hF 84 d_X14_call_1_80 (by decide) ?_
      exact g_iret hF rfl d_X14_call_1_84 ⟨(s63 26 (σ 43 ((σ 22 (σ 27 (σ 50 ((σ 0 86) - (1 : Int32)).toNatClampNeg).toNatClampNeg).toNatClampNeg) + a2).toNatClampNeg).toNatClampNeg), rfl, w9⟩
  · have w10 := w4.2 c
    refine g_aload_n hF d_X14_call_1_39 rfl 2 rfl ?_
    refine g_iconst hF (v := (-1)) d_X14_call_1_40 (by decide) ?_
    refine g_iload hF d_X14_call_1_41 0 rfl ?_
    refine g_isub hF d_X14_call_1_43 ?_
    refine g_iload_n hF d_X14_call_1_44 rfl 5 rfl ?_
    refine g_callV (As := [.int (((-1) : Int32) - (σ 43 ((σ 22 (σ 27 (σ 50 ((σ 0 86) - (1 : Int32)).toNatClampNeg).toNatClampNeg).toNatClampNeg) + a2).toNatClampNeg)), .int a3]) (rest := []) hF (fun l D cy => (ct_library_1 a r hcap w10) l D cy) (Nat.le_of_ble_eq_true rfl) mV_X14_library_1 m_2796 (recv_ob obM_0) rfl rfl (Nat.le_of_ble_eq_true rfl) d_X14_call_1_45 (kV (fun s45 t45 z45 w11 => ?_)) (fun _ _ _ h => h.elim)
    refine g_iload_n hF d_X14_call_1_48 rfl 3 rfl ?_
    refine g_iconst hF (v := 3) d_X14_call_1_49 (by decide) ?_
    refine g_iadd hF d_X14_call_1_50 ?_
    exact g_iret hF rfl d_X14_call_1_51 ⟨(a1 + (3 : Int32)), rfl, w11⟩
def wp_cut (σ τ : St) (vs : List Nat) (Q : St → St → List Nat → Prop) : Prop :=
  ∃ L9 : Nat → Int32 → Int32 → St → St → List Nat → Prop, (∃ n, L9 n (0 : Int32) (1 : Int32) (upC σ 0 8 (0 : Int32)) τ vs) ∧ ∀ (n9 : Nat) (x1_9 : Int32) (x2_9 : Int32) (s9 t9 : St) (z9 : List Nat), L9 n9 x1_9 x2_9 s9 t9 z9 → (((s9 0 9).toInt ≤ x1_9.toInt → wp_token (0 : Int32) (s9 0 9) (s9 0 9) x2_9 (0 : Int32) s9 t9 z9 (fun s199 t199 z199 => Q s199 t199 z199)) ∧ (x1_9.toInt < (s9 0 9).toInt → wp_look x1_9 s9 t9 z9 (fun v19 => wp_isAllowed v19 s9 t9 z9 (fun v35 => (∃ J126 : Int32 → St → St → List Nat → Prop, (∀ (x5_126 : Int32) (s126 t126 : St) (z126 : List Nat), J126 x5_126 s126 t126 z126 → ((∃ J151 : Prop, (J151  → (∃ L154 : Nat → Int32 → Int32 → Prop, (∃ n, L154 n x2_9 x1_9) ∧ ∀ (n154 : Nat) (x2_154 : Int32) (x6_154 : Int32), L154 n154 x2_154 x6_154 → ((x5_126.toInt ≤ x6_154.toInt → ∃ m, m < n9 ∧ L9 m x5_126 x2_154 s126 t126 z126) ∧ (x6_154.toInt < x5_126.toInt → wp_look x6_154 s126 t126 z126 (fun v164 => (∃ J175 : Int32 → Prop, (∀ (x2_175 : Int32), J175 x2_175 → (∃ m, m < n154 ∧ L154 m x2_175 (x6_154 + 1))) ∧ (v164.toInt ≠ 10 → J175 x2_154) ∧ (v164.toInt = 10 → J175 (x2_154 + 1)))))))) ∧ ((s126 0 8).toInt ≤ (s9 0 8).toInt → J151) ∧ ((s9 0 8).toInt < (s126 0 8).toInt → ((0 ≤ ((s126 0 8) - (1 : Int32)).toInt ∧ ((s126 0 8) - (1 : Int32)).toInt < 16002) ∧ ((s126 2 ((s126 0 8) - (1 : Int32)).toNatClampNeg).toInt ≠ 1 → J151) ∧ ((s126 2 ((s126 0 8) - (1 : Int32)).toNatClampNeg).toInt = 1 → Q s126 t126 z126)))))) ∧ (v35.toInt ≠ 0 → (∃ J82 : Prop, (J82  → ((∃ J111 : Prop, (J111  → (wp_isBlank v19 s9 t9 z9 (fun v112 => (v112.toInt ≠ 0 → J126 (x1_9 + (1 : Int32)) s9 t9 z9) ∧ (v112.toInt = 0 → wp_one_0 x1_9 x2_9 s9 t9 z9 (fun v121 s121 t121 z121 => J126 v121 s121 t121 z121))))) ∧ (v19.toInt ≠ 47 → J111) ∧ (v19.toInt = 47 → wp_look (x1_9 + (1 : Int32)) s9 t9 z9 (fun v92 => (v92.toInt ≠ 42 → J111) ∧ (v92.toInt = 42 → wp_remarkEnd x1_9 x2_9 s9 t9 z9 (fun v103 s103 t103 z103 => J126 v103 s103 t103 z103))))))) ∧ (v19.toInt ≠ 47 → J82) ∧ (v19.toInt = 47 → wp_look (x1_9 + (1 : Int32)) s9 t9 z9 (fun v64 => (v64.toInt ≠ 47 → J82) ∧ (v64.toInt = 47 → wp_lineEnd x1_9 s9 t9 z9 (fun v74 s74 t74 z74 => J126 v74 s74 t74 z74)))))) ∧ (v35.toInt = 0 → wp_token (1 : Int32) x1_9 (x1_9 + (1 : Int32)) x2_9 (0 : Int32) s9 t9 z9 (fun s48 t48 z48 => J126 (x1_9 + (1 : Int32)) s48 t48 z48)))))))
set_option maxHeartbeats 4000000 in
set_option maxRecDepth 100000 in
theorem ct_cut (a : Nat → Nat) (r : Nat → Nat) {σ τ : St} {vs : List Nat} {Q : St → St → List Nat → Prop} (hcap : vs.length ≤ CAP) (w : wp_cut  σ τ vs Q) (l : Launch) (D : va_G) (cy : Nat → ClassId) : Ct l D cy SM r (EM a) y_X14_cut (Cond.code y_X14_cut b_X14_cut 7 none) 7 [.ref (r 0)] σ τ vs (QVs Q) QT0 := by
  unfold wp_cut at w
  refine Ct_of (EM_ok a) (by decide) (Nat.le_of_ble_eq_true rfl) hcap (fun X hnn hF => ?_)
  show G SM r X σ τ vs [(0, .ref (r 0))] [] 0
  refine g_aload_n hF d_X14_cut_0 rfl 0 rfl ?_
  refine g_iconst hF (v := 0) d_X14_cut_1 (by decide) ?_
  refine g_put (v := 0) hF 8 obM_0 (by decide) m_1873 rfl rfl rfl d_X14_cut_2 ?_
  refine g_iconst hF (v := 0) d_X14_cut_5 (by decide) ?_
  refine g_istore_n hF [(1, .int 0), (0, .ref (r 0))] d_X14_cut_6 rfl hnn (by decide) rfl ?_
  refine g_iconst hF (v := 1) d_X14_cut_7 (by decide) ?_
  refine g_istore_n hF [(2, .int 1), (1, .int 0), (0, .ref (r 0))] d_X14_cut_8 rfl hnn (by decide) rfl ?_
  obtain ⟨L9, ⟨i9, u9⟩, h9⟩ := w
  have b9 : ∀ (n9 : Nat) (x1_9 : Int32) (x2_9 : Int32) (s9 t9 : St) (z9 : List Nat), L9 n9 x1_9 x2_9 s9 t9 z9 → G SM r X s9 t9 z9 [(0, .ref (r 0)), (1, .int x1_9), (2, .int x2_9)] [] 9 := by
    intro n9
    induction n9 using Nat.strongRecOn with
    | _ n9 ih9 =>
      intro x1_9 x2_9 s9 t9 z9  w9_
      have w9_ := h9 n9 x1_9 x2_9 s9 t9 z9  w9_
      refine g_iload_n hF d_X14_cut_9 rfl 1 rfl ?_
      refine g_aload_n hF d_X14_cut_10 rfl 0 rfl ?_
      refine g_get (v := .int (s9 0 9)) hF 9 obM_0 (by decide) m_1874 rfl d_X14_cut_11 ?_
      refine g_icmp_ge hF 187 d_X14_cut_14 (by decide) rfl rfl (fun c => ?_) (fun c => ?_)
      · have w1 := w9_.1 c
        refine g_aload_n hF d_X14_cut_187 rfl 0 rfl ?_
        refine g_iconst hF (v := 0) d_X14_cut_188 (by decide) ?_
        refine g_aload_n hF d_X14_cut_189 rfl 0 rfl ?_
        refine g_get (v := .int (s9 0 9)) hF 9 obM_0 (by decide) m_1874 rfl d_X14_cut_190 ?_
        refine g_aload_n hF d_X14_cut_193 rfl 0 rfl ?_
        refine g_get (v := .int (s9 0 9)) hF 9 obM_0 (by decide) m_1874 rfl d_X14_cut_194 ?_
        refine g_iload_n hF d_X14_cut_197 rfl 2 rfl ?_
        refine g_iconst hF (v := 0) d_X14_cut_198 (by decide) ?_
        refine g_cap (fun hc1 => ?_)
        refine g_callV (As := [.int 0, .int (s9 0 9), .int (s9 0 9), .int x2_9, .int 0]) (rest := []) hF (fun l D cy => (ct_token a r hc1 w1) l D cy) (Nat.le_of_ble_eq_true rfl) mV_X14_token m_2194 (recv_ob obM_0) rfl rfl (Nat.le_of_ble_eq_true rfl) d_X14_cut_199 (kV (fun s199 t199 z199 w3 => ?_)) (fun _ _ _ h => h.elim)
        exact g_vret hF rfl d_X14_cut_202 ⟨rfl, w3⟩
      · have w4 := w9_.2 c
        refine g_aload_n hF d_X14_cut_17 rfl 0 rfl ?_
        refine g_iload_n hF d_X14_cut_18 rfl 1 rfl ?_
        refine g_cap (fun hc4 => ?_)
        refine g_callV (As := [.int x1_9]) (rest := []) hF (fun l D cy => (ct_look a r hc4 w4) l D cy) (Nat.le_of_ble_eq_true rfl) mV_X14_look m_2187 (recv_ob obM_0) rfl rfl (Nat.le_of_ble_eq_true rfl) d_X14_cut_19 (krI (fun v19 w6 => ?_)) (fun _ _ _ h => h.elim)
        refine g_istore_n hF [(3, .int v19), (0, .ref (r 0)), (1, .int x1_9), (2, .int x2_9)] d_X14_cut_22 rfl hnn (by decide) rfl ?_
        refine g_aload_n hF d_X14_cut_23 rfl 1 rfl ?_
        refine g_get (v := .int (s9 0 8)) hF 8 obM_0 (by decide) m_1873 rfl d_X14_cut_24 ?_
        refine g_istore hF [(4, .int (s9 0 8)), (3, .int v19), (0, .ref (r 0)), (1, .int x1_9), (2, .int x2_9)] d_X14_cut_27 hnn (by decide) rfl ?_
        refine g_iload_n hF d_X14_cut_29 rfl 3 rfl ?_
        refine g_iconst hF (v := 1) d_X14_cut_30 (by decide) ?_
        refine g_iadd hF d_X14_cut_31 ?_
        refine g_istore hF [(5, .int (x1_9 + (1 : Int32))), (4, .int (s9 0 8)), (3, .int v19), (0, .ref (r 0)), (1, .int x1_9), (2, .int x2_9)] d_X14_cut_32 hnn (by decide) rfl ?_
        refine g_iload_n hF d_X14_cut_34 rfl 2 rfl ?_
        refine g_callS (As := [.int v19]) (rest := []) hF (fun l D cy => (ct_isAllowed a r hc4 w6) l D cy) (Nat.le_of_ble_eq_true rfl) mS_X14_isAllowed m_2191 rfl rfl (Nat.le_of_ble_eq_true rfl) d_X14_cut_35 (krZ (fun v35 hz35 w7 => ?_)) (fun _ _ _ h => h.elim)
        obtain ⟨J126, h126, w8⟩ := w7
        have b126 : ∀ (x5_126 : Int32) (s126 t126 : St) (z126 : List Nat), J126 x5_126 s126 t126 z126 → G SM r X s126 t126 z126 [(0, .ref (r 0)), (1, .int x1_9), (2, .int x2_9), (4, .int (s9 0 8)), (5, .int x5_126)] [] 126 := by
          intro x5_126 s126 t126 z126  w126_
          have w126_ := h126 x5_126 s126 t126 z126  w126_
          refine g_aload_n hF d_X14_cut_126 rfl 0 rfl ?_
          refine g_get (v := .int (s126 0 8)) hF 8 obM_0 (by decide) m_1873 rfl d_X14_cut_127 ?_
          refine g_iload hF d_X14_cut_130 3 rfl ?_
          obtain ⟨J151, h151, w9⟩ := w126_
          have b151 : J151  → G SM r X s126 t126 z126 [(0, .ref (r 0)), (1, .int x1_9), (2, .int x2_9), (5, .int x5_126)] [] 151 := by
            intro   w151_
            have w151_ := h151   w151_
            refine g_iload_n hF d_X14_cut_151 rfl 1 rfl ?_
            refine g_istore hF [(6, .int x1_9), (0, .ref (r 0)), (1, .int x1_9), (2, .int x2_9), (5, .int x5_126)] d_X14_cut_152 hnn (by decide) rfl ?_
            obtain ⟨L154, ⟨i154, u154⟩, h154⟩ := w151_
            have b154 : ∀ (n154 : Nat) (x2_154 : Int32) (x6_154 : Int32), L154 n154 x2_154 x6_154 → G SM r X s126 t126 z126 [(0, .ref (r 0)), (2, .int x2_154), (5, .int x5_126), (6, .int x6_154)] [] 154 := by
              intro n154
              induction n154 using Nat.strongRecOn with
              | _ n154 ih154 =>
                intro x2_154 x6_154  w154_
                have w154_ := h154 n154 x2_154 x6_154  w154_
                refine g_iload hF d_X14_cut_154 3 rfl ?_
                refine g_iload hF d_X14_cut_156 2 rfl ?_
                refine g_icmp_ge hF 181 d_X14_cut_158 (by decide) rfl rfl (fun c => ?_) (fun c => ?_)
                · have w10 := w154_.1 c
                  refine g_iload hF d_X14_cut_181 2 rfl ?_
                  refine g_istore_n hF [(1, .int x5_126), (0, .ref (r 0)), (2, .int x2_154), (5, .int x5_126), (6, .int x6_154)] d_X14_cut_183 rfl hnn (by decide) rfl ?_
                  refine g_goto hF 9 d_X14_cut_184 (by decide) ?_
                  obtain ⟨m9, hm9, w9⟩ := w10
                  exact g_sub (L' := [(0, .ref (r 0)), (1, .int x5_126), (2, .int x2_154)]) [1, 0, 2] rfl (ih9 m9 hm9 x5_126 x2_154 s126 t126 z126 w9)
                · have w11 := w154_.2 c
                  refine g_aload_n hF d_X14_cut_161 rfl 0 rfl ?_
                  refine g_iload hF d_X14_cut_162 3 rfl ?_
                  refine g_cap (fun hc11 => ?_)
                  refine g_callV (As := [.int x6_154]) (rest := []) hF (fun l D cy => (ct_look a r hc11 w11) l D cy) (Nat.le_of_ble_eq_true rfl) mV_X14_look m_2187 (recv_ob obM_0) rfl rfl (Nat.le_of_ble_eq_true rfl) d_X14_cut_164 (krI (fun v164 w13 => ?_)) (fun _ _ _ h => h.elim)
                  refine g_bipush hF (v := 10) d_X14_cut_167 (by decide) ?_
                  obtain ⟨J175, h175, w14⟩ := w13
                  have b175 : ∀ (x2_175 : Int32), J175 x2_175 → G SM r X s126 t126 z126 [(0, .ref (r 0)), (2, .int x2_175), (5, .int x5_126), (6, .int x6_154)] [] 175 := by
                    intro x2_175  w175_
                    have w175_ := h175 x2_175  w175_
                    refine g_iinc hF (x6_154 + 1) [(6, .int (x6_154 + 1)), (0, .ref (r 0)), (2, .int x2_175), (5, .int x5_126)] d_X14_cut_175 3 rfl rfl hnn (by decide) rfl ?_
                    refine g_goto hF 154 d_X14_cut_178 (by decide) ?_
                    obtain ⟨m154, hm154, w9⟩ := w175_
                    exact g_sub (L' := [(0, .ref (r 0)), (2, .int x2_175), (5, .int x5_126), (6, .int (x6_154 + 1))]) [1, 2, 3, 0] rfl (ih154 m154 hm154 x2_175 (x6_154 + 1) w9)
                  refine g_icmp_ne (yv := 10) hF 175 d_X14_cut_169 (by decide) rfl (by decide) (fun c => ?_) (fun c => ?_)
                  · have w15 := w14.1 c
                    exact b175 x2_154 w15
                  · have w16 := w14.2 c
                    refine g_iinc hF (x2_154 + 1) [(2, .int (x2_154 + 1)), (0, .ref (r 0)), (5, .int x5_126), (6, .int x6_154)] d_X14_cut_172 1 rfl rfl hnn (by decide) rfl ?_
                    exact g_sub (L' := [(0, .ref (r 0)), (2, .int (x2_154 + 1)), (5, .int x5_126), (6, .int x6_154)]) [1, 0, 2, 3] rfl (b175 (x2_154 + 1) w16)
            exact g_sub (L' := [(0, .ref (r 0)), (2, .int x2_9), (5, .int x5_126), (6, .int x1_9)]) [1, 3, 4, 0] rfl (b154 i154 x2_9 x1_9 u154)
          refine g_icmp_le hF 151 d_X14_cut_132 (by decide) rfl rfl (fun c => ?_) (fun c => ?_)
          · have w17 := w9.1 c
            exact g_sub (L' := [(0, .ref (r 0)), (1, .int x1_9), (2, .int x2_9), (5, .int x5_126)]) [0, 1, 2, 4] rfl (b151  w17)
          · have w18 := w9.2 c
            refine g_aload_n hF d_X14_cut_135 rfl 0 rfl ?_
            refine g_get (v := .ref (r 2)) hF 3 obM_0 (by decide) m_1868 rfl d_X14_cut_136 ?_
            refine g_aload_n hF d_X14_cut_139 rfl 0 rfl ?_
            refine g_get (v := .int (s126 0 8)) hF 8 obM_0 (by decide) m_1873 rfl d_X14_cut_140 ?_
            refine g_iconst hF (v := 1) d_X14_cut_143 (by decide) ?_
            refine g_isub hF d_X14_cut_144 ?_
            have w19 := w18.2
            refine g_iald hF arM_2 (s_in (Nat.le_of_ble_eq_true rfl) w18.1.1 w18.1.2) d_X14_cut_145 ?_
            refine g_top (v := (s126 2 ((s126 0 8) - (1 : Int32)).toNatClampNeg)) rfl ?_
            refine g_iconst hF (v := 1) d_X14_cut_146 (by decide) ?_
            refine g_icmp_ne (yv := 1) hF 151 d_X14_cut_147 (by decide) rfl (by decide) (fun c => ?_) (fun c => ?_)
            · have w20 := w19.1 c
              exact g_sub (L' := [(0, .ref (r 0)), (1, .int x1_9), (2, .int x2_9), (5, .int x5_126)]) [0, 1, 2, 4] rfl (b151  w20)
            · have w21 := w19.2 c
              exact g_vret hF rfl d_X14_cut_150 ⟨rfl, w21⟩
        refine g_if_ne hF 54 d_X14_cut_38 (by decide) rfl (fun c => ?_) (fun c => ?_)
        · have w22 := w8.1 c
          refine g_iload_n hF d_X14_cut_54 rfl 2 rfl ?_
          refine g_bipush hF (v := 47) d_X14_cut_55 (by decide) ?_
          obtain ⟨J82, h82, w23⟩ := w22
          have b82 : J82  → G SM r X s9 t9 z9 [(0, .ref (r 0)), (1, .int x1_9), (2, .int x2_9), (3, .int v19), (4, .int (s9 0 8)), (5, .int (x1_9 + (1 : Int32)))] [] 82 := by
            intro   w82_
            have w82_ := h82   w82_
            refine g_iload_n hF d_X14_cut_82 rfl 3 rfl ?_
            refine g_bipush hF (v := 47) d_X14_cut_83 (by decide) ?_
            obtain ⟨J111, h111, w24⟩ := w82_
            have b111 : J111  → G SM r X s9 t9 z9 [(0, .ref (r 0)), (1, .int x1_9), (2, .int x2_9), (3, .int v19), (4, .int (s9 0 8)), (5, .int (x1_9 + (1 : Int32)))] [] 111 := by
              intro   w111_
              have w111_ := h111   w111_
              refine g_iload_n hF d_X14_cut_111 rfl 3 rfl ?_
              refine g_callS (As := [.int v19]) (rest := []) hF (fun l D cy => (ct_isBlank a r hc4 w111_) l D cy) (Nat.le_of_ble_eq_true rfl) mS_X14_isBlank m_2210 rfl rfl (Nat.le_of_ble_eq_true rfl) d_X14_cut_112 (krZ (fun v112 hz112 w25 => ?_)) (fun _ _ _ h => h.elim)
              refine g_if_ne hF 126 d_X14_cut_115 (by decide) rfl (fun c => ?_) (fun c => ?_)
              · have w26 := w25.1 c
                exact g_sub (L' := [(0, .ref (r 0)), (1, .int x1_9), (2, .int x2_9), (4, .int (s9 0 8)), (5, .int (x1_9 + (1 : Int32)))]) [0, 1, 2, 4, 5] rfl (b126 (x1_9 + (1 : Int32)) s9 t9 z9 w26)
              · have w27 := w25.2 c
                refine g_aload_n hF d_X14_cut_118 rfl 0 rfl ?_
                refine g_iload_n hF d_X14_cut_119 rfl 1 rfl ?_
                refine g_iload_n hF d_X14_cut_120 rfl 2 rfl ?_
                refine g_callV (As := [.int x1_9, .int x2_9]) (rest := []) hF (fun l D cy => (ct_one_0 a r hc4 w27) l D cy) (Nat.le_of_ble_eq_true rfl) mV_X14_one_0 m_2213 (recv_ob obM_0) rfl rfl (Nat.le_of_ble_eq_true rfl) d_X14_cut_121 (kI (fun v121 s121 t121 z121 w28 => ?_)) (fun _ _ _ h => h.elim)
                refine g_istore hF [(5, .int v121), (0, .ref (r 0)), (1, .int x1_9), (2, .int x2_9), (3, .int v19), (4, .int (s9 0 8))] d_X14_cut_124 hnn (by decide) rfl ?_
                exact g_sub (L' := [(0, .ref (r 0)), (1, .int x1_9), (2, .int x2_9), (4, .int (s9 0 8)), (5, .int v121)]) [1, 2, 3, 5, 0] rfl (b126 v121 s121 t121 z121 w28)
            refine g_icmp_ne (yv := 47) hF 111 d_X14_cut_85 (by decide) rfl (by decide) (fun c => ?_) (fun c => ?_)
            · have w29 := w24.1 c
              exact b111  w29
            · have w30 := w24.2 c
              refine g_aload_n hF d_X14_cut_88 rfl 0 rfl ?_
              refine g_iload_n hF d_X14_cut_89 rfl 1 rfl ?_
              refine g_iconst hF (v := 1) d_X14_cut_90 (by decide) ?_
              refine g_iadd hF d_X14_cut_91 ?_
              refine g_callV (As := [.int (x1_9 + (1 : Int32))]) (rest := []) hF (fun l D cy => (ct_look a r hc4 w30) l D cy) (Nat.le_of_ble_eq_true rfl) mV_X14_look m_2187 (recv_ob obM_0) rfl rfl (Nat.le_of_ble_eq_true rfl) d_X14_cut_92 (krI (fun v92 w31 => ?_)) (fun _ _ _ h => h.elim)
              refine g_bipush hF (v := 42) d_X14_cut_95 (by decide) ?_
              refine g_icmp_ne (yv := 42) hF 111 d_X14_cut_97 (by decide) rfl (by decide) (fun c => ?_) (fun c => ?_)
              · have w32 := w31.1 c
                exact b111  w32
              · have w33 := w31.2 c
                refine g_aload_n hF d_X14_cut_100 rfl 0 rfl ?_
                refine g_iload_n hF d_X14_cut_101 rfl 1 rfl ?_
                refine g_iload_n hF d_X14_cut_102 rfl 2 rfl ?_
                refine g_callV (As := [.int x1_9, .int x2_9]) (rest := []) hF (fun l D cy => (ct_remarkEnd a r hc4 w33) l D cy) (Nat.le_of_ble_eq_true rfl) mV_X14_remarkEnd m_2206 (recv_ob obM_0) rfl rfl (Nat.le_of_ble_eq_true rfl) d_X14_cut_103 (kI (fun v103 s103 t103 z103 w34 => ?_)) (fun _ _ _ h => h.elim)
                refine g_istore hF [(5, .int v103), (0, .ref (r 0)), (1, .int x1_9), (2, .int x2_9), (3, .int v19), (4, .int (s9 0 8))] d_X14_cut_106 hnn (by decide) rfl ?_
                refine g_goto hF 126 d_X14_cut_108 (by decide) ?_
                exact g_sub (L' := [(0, .ref (r 0)), (1, .int x1_9), (2, .int x2_9), (4, .int (s9 0 8)), (5, .int v103)]) [1, 2, 3, 5, 0] rfl (b126 v103 s103 t103 z103 w34)
          refine g_icmp_ne (yv := 47) hF 82 d_X14_cut_57 (by decide) rfl (by decide) (fun c => ?_) (fun c => ?_)
          · have w35 := w23.1 c
            exact g_sub (L' := [(0, .ref (r 0)), (1, .int x1_9), (2, .int x2_9), (3, .int v19), (4, .int (s9 0 8)), (5, .int (x1_9 + (1 : Int32)))]) [3, 4, 5, 2, 1, 0] rfl (b82  w35)
          · have w36 := w23.2 c
            refine g_aload_n hF d_X14_cut_60 rfl 3 rfl ?_
            refine g_iload_n hF d_X14_cut_61 rfl 4 rfl ?_
            refine g_iconst hF (v := 1) d_X14_cut_62 (by decide) ?_
            refine g_iadd hF d_X14_cut_63 ?_
            refine g_callV (As := [.int (x1_9 + (1 : Int32))]) (rest := []) hF (fun l D cy => (ct_look a r hc4 w36) l D cy) (Nat.le_of_ble_eq_true rfl) mV_X14_look m_2187 (recv_ob obM_0) rfl rfl (Nat.le_of_ble_eq_true rfl) d_X14_cut_64 (krI (fun v64 w37 => ?_)) (fun _ _ _ h => h.elim)
            refine g_bipush hF (v := 47) d_X14_cut_67 (by decide) ?_
            refine g_icmp_ne (yv := 47) hF 82 d_X14_cut_69 (by decide) rfl (by decide) (fun c => ?_) (fun c => ?_)
            · have w38 := w37.1 c
              exact g_sub (L' := [(0, .ref (r 0)), (1, .int x1_9), (2, .int x2_9), (3, .int v19), (4, .int (s9 0 8)), (5, .int (x1_9 + (1 : Int32)))]) [3, 4, 5, 2, 1, 0] rfl (b82  w38)
            · have w39 := w37.2 c
              refine g_aload_n hF d_X14_cut_72 rfl 3 rfl ?_
              refine g_iload_n hF d_X14_cut_73 rfl 4 rfl ?_
              refine g_callV (As := [.int x1_9]) (rest := []) hF (fun l D cy => (ct_lineEnd a r hc4 w39) l D cy) (Nat.le_of_ble_eq_true rfl) mV_X14_lineEnd m_2198 (recv_ob obM_0) rfl rfl (Nat.le_of_ble_eq_true rfl) d_X14_cut_74 (kI (fun v74 s74 t74 z74 w40 => ?_)) (fun _ _ _ h => h.elim)
              refine g_istore hF [(5, .int v74), (4, .int (s9 0 8)), (3, .int v19), (0, .ref (r 0)), (1, .int x1_9), (2, .int x2_9)] d_X14_cut_77 hnn (by decide) rfl ?_
              refine g_goto hF 126 d_X14_cut_79 (by decide) ?_
              exact g_sub (L' := [(0, .ref (r 0)), (1, .int x1_9), (2, .int x2_9), (4, .int (s9 0 8)), (5, .int v74)]) [3, 4, 5, 1, 0] rfl (b126 v74 s74 t74 z74 w40)
        · have w41 := w8.2 c
          refine g_aload_n hF d_X14_cut_41 rfl 3 rfl ?_
          refine g_iconst hF (v := 1) d_X14_cut_42 (by decide) ?_
          refine g_iload_n hF d_X14_cut_43 rfl 4 rfl ?_
          refine g_iload hF d_X14_cut_44 0 rfl ?_
          refine g_iload_n hF d_X14_cut_46 rfl 5 rfl ?_
          refine g_iconst hF (v := 0) d_X14_cut_47 (by decide) ?_
          refine g_callV (As := [.int 1, .int x1_9, .int (x1_9 + (1 : Int32)), .int x2_9, .int 0]) (rest := []) hF (fun l D cy => (ct_token a r hc4 w41) l D cy) (Nat.le_of_ble_eq_true rfl) mV_X14_token m_2194 (recv_ob obM_0) rfl rfl (Nat.le_of_ble_eq_true rfl) d_X14_cut_48 (kV (fun s48 t48 z48 w42 => ?_)) (fun _ _ _ h => h.elim)
          refine g_goto hF 126 d_X14_cut_51 (by decide) ?_
          exact g_sub (L' := [(0, .ref (r 0)), (1, .int x1_9), (2, .int x2_9), (4, .int (s9 0 8)), (5, .int (x1_9 + (1 : Int32)))]) [3, 4, 5, 1, 0] rfl (b126 (x1_9 + (1 : Int32)) s48 t48 z48 w42)
  exact g_sub (L' := [(0, .ref (r 0)), (1, .int 0), (2, .int 1)]) [2, 1, 0] rfl (b9 i9 (0 : Int32) (1 : Int32) (upC σ 0 8 (0 : Int32)) τ vs u9)
def wp_binary (Kexpression : Int32 → St → St → List Nat → (Nat → St → St → List Nat → Prop) → (St → St → List Nat → Prop) → Prop) (Kchoice : Int32 → St → St → List Nat → (Nat → St → St → List Nat → Prop) → (St → St → List Nat → Prop) → Prop) (Kbinary : Int32 → Int32 → St → St → List Nat → (Nat → St → St → List Nat → Prop) → (St → St → List Nat → Prop) → Prop) (Kdecided : Int32 → Nat → Int32 → Int32 → St → St → List Nat → (Nat → St → St → List Nat → Prop) → (St → St → List Nat → Prop) → Prop) (Kunary : Int32 → St → St → List Nat → (Nat → St → St → List Nat → Prop) → (St → St → List Nat → Prop) → Prop) (Kbehind : Int32 → St → St → List Nat → (Nat → St → St → List Nat → Prop) → (St → St → List Nat → Prop) → Prop) (Kprimary : Int32 → St → St → List Nat → (Nat → St → St → List Nat → Prop) → (St → St → List Nat → Prop) → Prop) (Kcall_0 : Int32 → Int32 → St → St → List Nat → (Nat → St → St → List Nat → Prop) → (St → St → List Nat → Prop) → Prop) (a1 : Int32) (a2 : Int32) (σ τ : St) (vs : List Nat) (Q : Nat → St → St → List Nat → Prop) (T : St → St → List Nat → Prop) : Prop :=
  Kunary a2 σ τ vs (fun u2 s2 t2 z2 => ∃ L6 : Nat → Nat → St → St → List Nat → Prop, (∃ n, L6 n u2 s2 t2 z2) ∧ ∀ (n6 : Nat) (x3_6 : Nat) (s6 t6 : St) (z6 : List Nat), L6 n6 x3_6 s6 t6 z6 → (wp_sign s6 t6 z6 (fun v7 => wp_rank v7 s6 t6 z6 (fun v10 => (v10.toInt < a1.toInt → Q x3_6 s6 t6 z6) ∧ (a1.toInt ≤ v10.toInt → wp_sign s6 t6 z6 (fun v18 => wp_read_1 x3_6 (upC s6 0 10 ((s6 0 10) + (1 : Int32))) t6 z6 (fun s41 t41 z41 => (∃ J104 : Nat → St → St → List Nat → Prop, (∀ (x3_104 : Nat) (s104 t104 : St) (z104 : List Nat), J104 x3_104 s104 t104 z104 → (∃ m, m < n6 ∧ L6 m x3_104 s104 t104 z104)) ∧ (∃ J58 : Prop, (J58  → (Kdecided v18 x3_6 (s6 0 10) a2 s41 t41 z41 (fun u65 s65 t65 z65 => J104 u65 s65 t65 z65) T)) ∧ (v18.toInt = 11 → J58) ∧ (v18.toInt ≠ 11 → (v18.toInt ≠ 10 → wp_rank v18 s41 t41 z41 (fun v75 => Kbinary (v75 + (1 : Int32)) a2 s41 t41 z41 (fun u81 s81 t81 z81 => wp_read_1 u81 s81 t81 z81 (fun s89 t89 z89 => wp_two v18 x3_6 u81 (s6 0 10) s89 t89 z89 (fun u100 s100 t100 z100 => J104 u100 s100 t100 z100))) T)) ∧ (v18.toInt = 10 → J58))))))))))) T
set_option maxHeartbeats 4000000 in
set_option maxRecDepth 100000 in
theorem ct_binary (a : Nat → Nat) (r : Nat → Nat) (dK : Nat) (hdK : 4 ≤ dK) (Kexpression : Int32 → St → St → List Nat → (Nat → St → St → List Nat → Prop) → (St → St → List Nat → Prop) → Prop) (Kchoice : Int32 → St → St → List Nat → (Nat → St → St → List Nat → Prop) → (St → St → List Nat → Prop) → Prop) (Kbinary : Int32 → Int32 → St → St → List Nat → (Nat → St → St → List Nat → Prop) → (St → St → List Nat → Prop) → Prop) (Kdecided : Int32 → Nat → Int32 → Int32 → St → St → List Nat → (Nat → St → St → List Nat → Prop) → (St → St → List Nat → Prop) → Prop) (Kunary : Int32 → St → St → List Nat → (Nat → St → St → List Nat → Prop) → (St → St → List Nat → Prop) → Prop) (Kbehind : Int32 → St → St → List Nat → (Nat → St → St → List Nat → Prop) → (St → St → List Nat → Prop) → Prop) (Kprimary : Int32 → St → St → List Nat → (Nat → St → St → List Nat → Prop) → (St → St → List Nat → Prop) → Prop) (Kcall_0 : Int32 → Int32 → St → St → List Nat → (Nat → St → St → List Nat → Prop) → (St → St → List Nat → Prop) → Prop) (hKbinary : ∀ {a1 : Int32} {a2 : Int32} {σ τ : St} {vs : List Nat} {Q : Nat → St → St → List Nat → Prop} {T : St → St → List Nat → Prop}, vs.length ≤ CAP → Kbinary a1 a2 σ τ vs Q T → ∀ (l : Launch) (D : va_G) (cy : Nat → ClassId), Ct l D cy SM r (EM a) y_X14_binary (Cond.code y_X14_binary b_X14_binary 7 (some (.object "LinkedUnitsModel$Value"))) dK [.ref (r 0), .int a1, .int a2] σ τ vs (QAs Q) T) (hKdecided : ∀ {a1 : Int32} {a2 : Nat} {a3 : Int32} {a4 : Int32} {σ τ : St} {vs : List Nat} {Q : Nat → St → St → List Nat → Prop} {T : St → St → List Nat → Prop}, vs.length ≤ CAP → Kdecided a1 a2 a3 a4 σ τ vs Q T → ∀ (l : Launch) (D : va_G) (cy : Nat → ClassId), Ct l D cy SM r (EM a) y_X14_decided (Cond.code y_X14_decided b_X14_decided 8 (some (.object "LinkedUnitsModel$Value"))) dK [.ref (r 0), .int a1, .ref a2, .int a3, .int a4] σ τ vs (QAs Q) T) (hKunary : ∀ {a1 : Int32} {σ τ : St} {vs : List Nat} {Q : Nat → St → St → List Nat → Prop} {T : St → St → List Nat → Prop}, vs.length ≤ CAP → Kunary a1 σ τ vs Q T → ∀ (l : Launch) (D : va_G) (cy : Nat → ClassId), Ct l D cy SM r (EM a) y_X14_unary (Cond.code y_X14_unary b_X14_unary 7 (some (.object "LinkedUnitsModel$Value"))) dK [.ref (r 0), .int a1] σ τ vs (QAs Q) T) {a1 : Int32} {a2 : Int32} {σ τ : St} {vs : List Nat} {Q : Nat → St → St → List Nat → Prop} {T : St → St → List Nat → Prop} (hcap : vs.length ≤ CAP) (w : wp_binary Kexpression Kchoice Kbinary Kdecided Kunary Kbehind Kprimary Kcall_0 a1 a2 σ τ vs Q T) (l : Launch) (D : va_G) (cy : Nat → ClassId) : Ct l D cy SM r (EM a) y_X14_binary (Cond.code y_X14_binary b_X14_binary 7 (some (.object "LinkedUnitsModel$Value"))) (dK + 1) [.ref (r 0), .int a1, .int a2] σ τ vs (QAs Q) T := by
  unfold wp_binary at w
  refine Ct_of (EM_ok a) (by decide) (Nat.le_of_ble_eq_true rfl) hcap (fun X hnn hF => ?_)
  show G SM r X σ τ vs [(0, .ref (r 0)), (1, .int a1), (2, .int a2)] [] 0
  refine g_aload_n hF d_X14_binary_0 rfl 0 rfl ?_
  refine g_iload_n hF d_X14_binary_1 rfl 2 rfl ?_
  refine g_callV (As := [.int a2]) (rest := []) hF (fun l D cy => (hKunary hcap w) l D cy) (Nat.le_refl _) mV_X14_unary m_2373 (recv_ob obM_0) rfl rfl (Nat.le_of_ble_eq_true rfl) d_X14_binary_2 (kA (fun u2 s2 t2 z2 w1 => ?_)) (fun σ9 τ9 vs9 h9 => g_out hF stopM rfl h9)
  refine g_astore_n hF [(3, .ref u2), (0, .ref (r 0)), (1, .int a1), (2, .int a2)] d_X14_binary_5 rfl hnn (by decide) rfl ?_
  obtain ⟨L6, ⟨i6, u6⟩, h6⟩ := w1
  have b6 : ∀ (n6 : Nat) (x3_6 : Nat) (s6 t6 : St) (z6 : List Nat), L6 n6 x3_6 s6 t6 z6 → G SM r X s6 t6 z6 [(0, .ref (r 0)), (1, .int a1), (2, .int a2), (3, .ref x3_6)] [] 6 := by
    intro n6
    induction n6 using Nat.strongRecOn with
    | _ n6 ih6 =>
      intro x3_6 s6 t6 z6  w6_
      have w6_ := h6 n6 x3_6 s6 t6 z6  w6_
      refine g_aload_n hF d_X14_binary_6 rfl 0 rfl ?_
      refine g_cap (fun hc1 => ?_)
      refine g_callV (As := []) (rest := []) hF (fun l D cy => (ct_sign a r hc1 w6_) l D cy) (Nat.add_le_add_right (Nat.le_trans (Nat.le_of_ble_eq_true rfl) hdK) 1) mV_X14_sign m_2377 (recv_ob obM_0) rfl rfl (Nat.le_of_ble_eq_true rfl) d_X14_binary_7 (krI (fun v7 w3 => ?_)) (fun _ _ _ h => h.elim)
      refine g_callS (As := [.int v7]) (rest := []) hF (fun l D cy => (ct_rank a r hc1 w3) l D cy) (Nat.add_le_add_right (Nat.le_trans (Nat.le_of_ble_eq_true rfl) hdK) 1) mS_X14_rank m_2513 rfl rfl (Nat.le_of_ble_eq_true rfl) d_X14_binary_10 (krI (fun v10 w4 => ?_)) (fun _ _ _ h => h.elim)
      refine g_iload_n hF d_X14_binary_13 rfl 1 rfl ?_
      refine g_icmp_lt hF 107 d_X14_binary_14 (by decide) rfl rfl (fun c => ?_) (fun c => ?_)
      · have w5 := w4.1 c
        refine g_aload_n hF d_X14_binary_107 rfl 3 rfl ?_
        exact g_aret hF rfl d_X14_binary_108 ⟨x3_6, rfl, w5⟩
      · have w6 := w4.2 c
        refine g_aload_n hF d_X14_binary_17 rfl 0 rfl ?_
        refine g_callV (As := []) (rest := []) hF (fun l D cy => (ct_sign a r hc1 w6) l D cy) (Nat.add_le_add_right (Nat.le_trans (Nat.le_of_ble_eq_true rfl) hdK) 1) mV_X14_sign m_2377 (recv_ob obM_0) rfl rfl (Nat.le_of_ble_eq_true rfl) d_X14_binary_18 (krI (fun v18 w7 => ?_)) (fun _ _ _ h => h.elim)
        refine g_istore hF [(4, .int v18), (0, .ref (r 0)), (1, .int a1), (2, .int a2), (3, .ref x3_6)] d_X14_binary_21 hnn (by decide) rfl ?_
        refine g_aload_n hF d_X14_binary_23 rfl 1 rfl ?_
        refine g_get (v := .int (s6 0 10)) hF 10 obM_0 (by decide) m_1875 rfl d_X14_binary_24 ?_
        refine g_istore hF [(5, .int (s6 0 10)), (4, .int v18), (0, .ref (r 0)), (1, .int a1), (2, .int a2), (3, .ref x3_6)] d_X14_binary_27 hnn (by decide) rfl ?_
        refine g_aload_n hF d_X14_binary_29 rfl 2 rfl ?_
        refine g_dup hF d_X14_binary_30 rfl ?_
        refine g_get (v := .int (s6 0 10)) hF 10 obM_0 (by decide) m_1875 rfl d_X14_binary_31 ?_
        refine g_iconst hF (v := 1) d_X14_binary_34 (by decide) ?_
        refine g_iadd hF d_X14_binary_35 ?_
        refine g_put (v := ((s6 0 10) + (1 : Int32))) hF 10 obM_0 (by decide) m_1875 rfl rfl rfl d_X14_binary_36 ?_
        refine g_aload_n hF d_X14_binary_39 rfl 2 rfl ?_
        refine g_aload_n hF d_X14_binary_40 rfl 5 rfl ?_
        refine g_callV (As := [.ref x3_6]) (rest := []) hF (fun l D cy => (ct_read_1 a r hc1 w7) l D cy) (Nat.add_le_add_right (Nat.le_trans (Nat.le_of_ble_eq_true rfl) hdK) 1) mV_X14_read_1 m_2453 (recv_ob obM_0) rfl rfl (Nat.le_of_ble_eq_true rfl) d_X14_binary_41 (kV (fun s41 t41 z41 w8 => ?_)) (fun _ _ _ h => h.elim)
        refine g_iload hF d_X14_binary_44 1 rfl ?_
        refine g_bipush hF (v := 11) d_X14_binary_46 (by decide) ?_
        obtain ⟨J104, h104, w9⟩ := w8
        have b104 : ∀ (x3_104 : Nat) (s104 t104 : St) (z104 : List Nat), J104 x3_104 s104 t104 z104 → G SM r X s104 t104 z104 [(0, .ref (r 0)), (1, .int a1), (2, .int a2), (3, .ref x3_104)] [] 104 := by
          intro x3_104 s104 t104 z104  w104_
          have w104_ := h104 x3_104 s104 t104 z104  w104_
          refine g_goto hF 6 d_X14_binary_104 (by decide) ?_
          obtain ⟨m6, hm6, w9⟩ := w104_
          exact ih6 m6 hm6 x3_104 s104 t104 z104 w9
        obtain ⟨J58, h58, w10⟩ := w9
        have b58 : J58  → G SM r X s41 t41 z41 [(0, .ref (r 0)), (1, .int a1), (2, .int a2), (3, .ref x3_6), (4, .int v18), (5, .int (s6 0 10))] [] 58 := by
          intro   w58_
          have w58_ := h58   w58_
          refine g_aload_n hF d_X14_binary_58 rfl 0 rfl ?_
          refine g_iload hF d_X14_binary_59 4 rfl ?_
          refine g_aload_n hF d_X14_binary_61 rfl 3 rfl ?_
          refine g_iload hF d_X14_binary_62 5 rfl ?_
          refine g_iload_n hF d_X14_binary_64 rfl 2 rfl ?_
          refine g_cap (fun hc10 => ?_)
          refine g_callV (As := [.int v18, .ref x3_6, .int (s6 0 10), .int a2]) (rest := []) hF (fun l D cy => (hKdecided hc10 w58_) l D cy) (Nat.le_refl _) mV_X14_decided m_2516 (recv_ob obM_0) rfl rfl (Nat.le_of_ble_eq_true rfl) d_X14_binary_65 (kA (fun u65 s65 t65 z65 w12 => ?_)) (fun σ9 τ9 vs9 h9 => g_out hF stopM rfl h9)
          refine g_astore_n hF [(3, .ref u65), (0, .ref (r 0)), (1, .int a1), (2, .int a2), (4, .int v18), (5, .int (s6 0 10))] d_X14_binary_68 rfl hnn (by decide) rfl ?_
          refine g_goto hF 104 d_X14_binary_69 (by decide) ?_
          exact g_sub (L' := [(0, .ref (r 0)), (1, .int a1), (2, .int a2), (3, .ref u65)]) [1, 2, 3, 0] rfl (b104 u65 s65 t65 z65 w12)
        refine g_icmp_eq (yv := 11) hF 58 d_X14_binary_48 (by decide) rfl (by decide) (fun c => ?_) (fun c => ?_)
        · have w13 := w10.1 c
          exact g_sub (L' := [(0, .ref (r 0)), (1, .int a1), (2, .int a2), (3, .ref x3_6), (4, .int v18), (5, .int (s6 0 10))]) [2, 3, 4, 5, 1, 0] rfl (b58  w13)
        · have w14 := w10.2 c
          refine g_iload hF d_X14_binary_51 1 rfl ?_
          refine g_bipush hF (v := 10) d_X14_binary_53 (by decide) ?_
          refine g_icmp_ne (yv := 10) hF 72 d_X14_binary_55 (by decide) rfl (by decide) (fun c => ?_) (fun c => ?_)
          · have w15 := w14.1 c
            refine g_aload_n hF d_X14_binary_72 rfl 2 rfl ?_
            refine g_iload hF d_X14_binary_73 1 rfl ?_
            refine g_cap (fun hc15 => ?_)
            refine g_callS (As := [.int v18]) (rest := [.ref (r 0)]) hF (fun l D cy => (ct_rank a r hc15 w15) l D cy) (Nat.add_le_add_right (Nat.le_trans (Nat.le_of_ble_eq_true rfl) hdK) 1) mS_X14_rank m_2513 rfl rfl (Nat.le_of_ble_eq_true rfl) d_X14_binary_75 (krI (fun v75 w17 => ?_)) (fun _ _ _ h => h.elim)
            refine g_iconst hF (v := 1) d_X14_binary_78 (by decide) ?_
            refine g_iadd hF d_X14_binary_79 ?_
            refine g_iload_n hF d_X14_binary_80 rfl 4 rfl ?_
            refine g_callV (As := [.int (v75 + (1 : Int32)), .int a2]) (rest := []) hF (fun l D cy => (hKbinary hc15 w17) l D cy) (Nat.le_refl _) mV_X14_binary m_2369 (recv_ob obM_0) rfl rfl (Nat.le_of_ble_eq_true rfl) d_X14_binary_81 (kA (fun u81 s81 t81 z81 w18 => ?_)) (fun σ9 τ9 vs9 h9 => g_out hF stopM rfl h9)
            refine g_astore hF [(6, .ref u81), (5, .int (s6 0 10)), (4, .int v18), (0, .ref (r 0)), (1, .int a1), (2, .int a2), (3, .ref x3_6)] d_X14_binary_84 hnn (by decide) rfl ?_
            refine g_aload_n hF d_X14_binary_86 rfl 3 rfl ?_
            refine g_aload hF d_X14_binary_87 0 rfl ?_
            refine g_cap (fun hc18 => ?_)
            refine g_callV (As := [.ref u81]) (rest := []) hF (fun l D cy => (ct_read_1 a r hc18 w18) l D cy) (Nat.add_le_add_right (Nat.le_trans (Nat.le_of_ble_eq_true rfl) hdK) 1) mV_X14_read_1 m_2453 (recv_ob obM_0) rfl rfl (Nat.le_of_ble_eq_true rfl) d_X14_binary_89 (kV (fun s89 t89 z89 w20 => ?_)) (fun _ _ _ h => h.elim)
            refine g_aload_n hF d_X14_binary_92 rfl 3 rfl ?_
            refine g_iload hF d_X14_binary_93 2 rfl ?_
            refine g_aload_n hF d_X14_binary_95 rfl 6 rfl ?_
            refine g_aload hF d_X14_binary_96 0 rfl ?_
            refine g_iload hF d_X14_binary_98 1 rfl ?_
            refine g_cap (fun hc20 => ?_)
            refine g_callV (As := [.int v18, .ref x3_6, .ref u81, .int (s6 0 10)]) (rest := []) hF (fun l D cy => (ct_two a r hc20 w20) l D cy) (Nat.add_le_add_right (Nat.le_trans (Nat.le_of_ble_eq_true rfl) hdK) 1) mV_X14_two m_2528 (recv_ob obM_0) rfl rfl (Nat.le_of_ble_eq_true rfl) d_X14_binary_100 (kA (fun u100 s100 t100 z100 w22 => ?_)) (fun _ _ _ h => h.elim)
            refine g_astore_n hF [(3, .ref u100), (6, .ref u81), (5, .int (s6 0 10)), (4, .int v18), (0, .ref (r 0)), (1, .int a1), (2, .int a2)] d_X14_binary_103 rfl hnn (by decide) rfl ?_
            exact g_sub (L' := [(0, .ref (r 0)), (1, .int a1), (2, .int a2), (3, .ref u100)]) [4, 5, 6, 0] rfl (b104 u100 s100 t100 z100 w22)
          · have w23 := w14.2 c
            exact g_sub (L' := [(0, .ref (r 0)), (1, .int a1), (2, .int a2), (3, .ref x3_6), (4, .int v18), (5, .int (s6 0 10))]) [2, 3, 4, 5, 1, 0] rfl (b58  w23)
  exact g_sub (L' := [(0, .ref (r 0)), (1, .int a1), (2, .int a2), (3, .ref u2)]) [1, 2, 3, 0] rfl (b6 i6 u2 s2 t2 z2 u6)
