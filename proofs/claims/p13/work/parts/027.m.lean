def wp_library_0 (a1 : Int32) (σ τ : St) (vs : List Nat) (Q : Int32 → Prop) : Prop :=
  ∃ L4 : Nat → Int32 → Int32 → Prop, (∃ n, L4 n (1 : Int32) (0 : Int32)) ∧ ∀ (n4 : Nat) (x2_4 : Int32) (x3_4 : Int32), L4 n4 x2_4 x3_4 → ((4 ≤ x3_4.toInt → Q ((-1) : Int32)) ∧ (x3_4.toInt < 4 → ∃ L12 : Nat → Int32 → Prop, (∃ n, L12 n x2_4) ∧ ∀ (n12 : Nat) (x4_12 : Int32), L12 n12 x4_12 → (((0 ≤ x4_12.toInt ∧ x4_12.toInt < SN 2) ∧ ((chI (SF 2 x4_12.toNatClampNeg)).toInt = 32 → ((0 ≤ a1.toInt ∧ a1.toInt < 10000) ∧ (∃ J49 : Int32 → Prop, (∀ (y0_49 : Int32), y0_49 = 0 ∨ y0_49 = 1 → J49 y0_49 → (∃ L54 : Nat → Int32 → Int32 → Prop, (∃ n, L54 n y0_49 (0 : Int32)) ∧ ∀ (n54 : Nat) (x5_54 : Int32) (x6_54 : Int32), x5_54 = 0 ∨ x5_54 = 1 → L54 n54 x5_54 x6_54 → ((∃ J108 : Prop, (J108  → ((x5_54.toInt = 0 → ∃ m, m < n4 ∧ L4 m (x4_12 + (1 : Int32)) (x3_4 + 1)) ∧ (x5_54.toInt ≠ 0 → Q x3_4))) ∧ (x5_54.toInt = 0 → J108) ∧ (x5_54.toInt ≠ 0 → ((x4_12 - x2_4).toInt ≤ x6_54.toInt → J108) ∧ (x6_54.toInt < (x4_12 - x2_4).toInt → ((0 ≤ (x2_4 + x6_54).toInt ∧ (x2_4 + x6_54).toInt < SN 2) ∧ ((0 ≤ a1.toInt ∧ a1.toInt < 10000) ∧ ((0 ≤ ((σ 18 a1.toNatClampNeg) + x6_54).toInt ∧ ((σ 18 a1.toNatClampNeg) + x6_54).toInt < 65536) ∧ (∃ J100 : Int32 → Prop, (∀ (y0_100 : Int32), y0_100 = 0 ∨ y0_100 = 1 → J100 y0_100 → (∃ m, m < n54 ∧ L54 m y0_100 (x6_54 + 1))) ∧ ((chI (SF 2 (x2_4 + x6_54).toNatClampNeg)).toInt ≠ (σ 20 ((σ 18 a1.toNatClampNeg) + x6_54).toNatClampNeg).toInt → J100 (0 : Int32)) ∧ ((chI (SF 2 (x2_4 + x6_54).toNatClampNeg)).toInt = (σ 20 ((σ 18 a1.toNatClampNeg) + x6_54).toNatClampNeg).toInt → J100 (1 : Int32)))))))))))) ∧ ((x4_12 - x2_4).toInt ≠ (σ 19 a1.toNatClampNeg).toInt → J49 (0 : Int32)) ∧ ((x4_12 - x2_4).toInt = (σ 19 a1.toNatClampNeg).toInt → J49 (1 : Int32))))) ∧ ((chI (SF 2 x4_12.toNatClampNeg)).toInt ≠ 32 → ∃ m, m < n12 ∧ L12 m (x4_12 + 1))))))
set_option maxHeartbeats 4000000 in
set_option maxRecDepth 100000 in
theorem ct_library_0 (a : Nat → Nat) (r : Nat → Nat) {a1 : Int32} {σ τ : St} {vs : List Nat} {Q : Int32 → Prop} (hcap : vs.length ≤ CAP) (w : wp_library_0 a1 σ τ vs Q) (l : Launch) (D : va_G) (cy : Nat → ClassId) : Ct l D cy SM r (EM a) y_X14_library_0 (Cond.code y_X14_library_0 b_X14_library_0 7 (some .int)) 4 [.ref (r 0), .int a1] σ τ vs (QIr σ τ vs Q) QT0 := by
  unfold wp_library_0 at w
  refine Ct_of (EM_ok a) (by decide) (Nat.le_of_ble_eq_true rfl) hcap (fun X hnn hF => ?_)
  show G SM r X σ τ vs [(0, .ref (r 0)), (1, .int a1)] [] 0
  refine g_iconst hF (v := 1) d_X14_library_0_0 (by decide) ?_
  refine g_istore_n hF [(2, .int 1), (0, .ref (r 0)), (1, .int a1)] d_X14_library_0_1 rfl hnn (by decide) rfl ?_
  refine g_iconst hF (v := 0) d_X14_library_0_2 (by decide) ?_
  refine g_istore_n hF [(3, .int 0), (2, .int 1), (0, .ref (r 0)), (1, .int a1)] d_X14_library_0_3 rfl hnn (by decide) rfl ?_
  obtain ⟨L4, ⟨i4, u4⟩, h4⟩ := w
  have b4 : ∀ (n4 : Nat) (x2_4 : Int32) (x3_4 : Int32), L4 n4 x2_4 x3_4 → G SM r X σ τ vs [(0, .ref (r 0)), (1, .int a1), (2, .int x2_4), (3, .int x3_4)] [] 4 := by
    intro n4
    induction n4 using Nat.strongRecOn with
    | _ n4 ih4 =>
      intro x2_4 x3_4  w4_
      have w4_ := h4 n4 x2_4 x3_4  w4_
      refine g_iload_n hF d_X14_library_0_4 rfl 3 rfl ?_
      refine g_iconst hF (v := 4) d_X14_library_0_5 (by decide) ?_
      refine g_icmp_ge (yv := 4) hF 126 d_X14_library_0_6 (by decide) rfl (by decide) (fun c => ?_) (fun c => ?_)
      · have w1 := w4_.1 c
        refine g_iconst hF (v := (-1)) d_X14_library_0_126 (by decide) ?_
        exact g_iret hF rfl d_X14_library_0_127 ⟨rfl, rfl, rfl, ((-1) : Int32), rfl, w1⟩
      · have w2 := w4_.2 c
        refine g_iload_n hF d_X14_library_0_9 rfl 2 rfl ?_
        refine g_istore hF [(4, .int x2_4), (0, .ref (r 0)), (1, .int a1), (2, .int x2_4), (3, .int x3_4)] d_X14_library_0_10 hnn (by decide) rfl ?_
        obtain ⟨L12, ⟨i12, u12⟩, h12⟩ := w2
        have b12 : ∀ (n12 : Nat) (x4_12 : Int32), L12 n12 x4_12 → G SM r X σ τ vs [(0, .ref (r 0)), (1, .int a1), (2, .int x2_4), (3, .int x3_4), (4, .int x4_12)] [] 12 := by
          intro n12
          induction n12 using Nat.strongRecOn with
          | _ n12 ih12 =>
            intro x4_12  w12_
            have w12_ := h12 n12 x4_12  w12_
            refine g_ldcSw hF (fun A s h => (EM_s (j := 2) h (by decide)).1) d_X14_library_0_12 ?_
            refine g_iload hF d_X14_library_0_15 4 rfl ?_
            have w3 := w12_.2
            refine g_callV (As := [.int x4_12]) (rest := []) hF (t_ch2 (EM_ok a) (fun A s h => EM_s (j := 2) h (by decide)) hcap (SN_lt (by decide)) x4_12 w12_.1.1 w12_.1.2) (Nat.le_of_ble_eq_true rfl) mV_String_charAt m_2233 (recv_str (fun A s h => EM_s (j := 2) h (by decide))) rfl rfl (Nat.le_of_ble_eq_true rfl) d_X14_library_0_17 (k_sv ?_) (fun _ _ _ h => h.elim)
            refine g_bipush hF (v := 32) d_X14_library_0_20 (by decide) ?_
            refine g_icmp_eq (yv := 32) hF 31 d_X14_library_0_22 (by decide) rfl (by decide) (fun c => ?_) (fun c => ?_)
            · have w4 := w3.1 c
              refine g_iload hF d_X14_library_0_31 4 rfl ?_
              refine g_iload_n hF d_X14_library_0_33 rfl 2 rfl ?_
              refine g_isub hF d_X14_library_0_34 ?_
              refine g_aload_n hF d_X14_library_0_35 rfl 0 rfl ?_
              refine g_get (v := .ref (r 19)) hF 28 obM_0 (by decide) m_1893 rfl d_X14_library_0_36 ?_
              refine g_iload_n hF d_X14_library_0_39 rfl 1 rfl ?_
              have w5 := w4.2
              refine g_iald hF arM_19 (s_in (Nat.le_of_ble_eq_true rfl) w4.1.1 w4.1.2) d_X14_library_0_40 ?_
              refine g_top (v := (σ 19 a1.toNatClampNeg)) rfl ?_
              obtain ⟨J49, h49, w6⟩ := w5
              have b49 : ∀ (y0_49 : Int32), y0_49 = 0 ∨ y0_49 = 1 → J49 y0_49 → G SM r X σ τ vs [(0, .ref (r 0)), (1, .int a1), (2, .int x2_4), (3, .int x3_4), (4, .int x4_12)] [.int y0_49] 49 := by
                intro y0_49 hy0_49 w49_
                have w49_ := h49 y0_49 hy0_49 w49_
                refine g_istore hF [(5, .int y0_49), (0, .ref (r 0)), (1, .int a1), (2, .int x2_4), (3, .int x3_4), (4, .int x4_12)] d_X14_library_0_49 hnn (by decide) rfl ?_
                refine g_iconst hF (v := 0) d_X14_library_0_51 (by decide) ?_
                refine g_istore hF [(6, .int 0), (5, .int y0_49), (0, .ref (r 0)), (1, .int a1), (2, .int x2_4), (3, .int x3_4), (4, .int x4_12)] d_X14_library_0_52 hnn (by decide) rfl ?_
                obtain ⟨L54, ⟨i54, u54⟩, h54⟩ := w49_
                have b54 : ∀ (n54 : Nat) (x5_54 : Int32) (x6_54 : Int32), x5_54 = 0 ∨ x5_54 = 1 → L54 n54 x5_54 x6_54 → G SM r X σ τ vs [(0, .ref (r 0)), (1, .int a1), (2, .int x2_4), (3, .int x3_4), (4, .int x4_12), (5, .int x5_54), (6, .int x6_54)] [] 54 := by
                  intro n54
                  induction n54 using Nat.strongRecOn with
                  | _ n54 ih54 =>
                    intro x5_54 x6_54 hx5_54 w54_
                    have w54_ := h54 n54 x5_54 x6_54 hx5_54 w54_
                    refine g_iload hF d_X14_library_0_54 5 rfl ?_
                    obtain ⟨J108, h108, w7⟩ := w54_
                    have b108 : J108  → G SM r X σ τ vs [(0, .ref (r 0)), (1, .int a1), (3, .int x3_4), (4, .int x4_12), (5, .int x5_54)] [] 108 := by
                      intro   w108_
                      have w108_ := h108   w108_
                      refine g_iload hF d_X14_library_0_108 4 rfl ?_
                      refine g_if_eq hF 115 d_X14_library_0_110 (by decide) rfl (fun c => ?_) (fun c => ?_)
                      · have w8 := w108_.1 c
                        refine g_iload hF d_X14_library_0_115 3 rfl ?_
                        refine g_iconst hF (v := 1) d_X14_library_0_117 (by decide) ?_
                        refine g_iadd hF d_X14_library_0_118 ?_
                        refine g_istore_n hF [(2, .int (x4_12 + (1 : Int32))), (0, .ref (r 0)), (1, .int a1), (3, .int x3_4), (4, .int x4_12), (5, .int x5_54)] d_X14_library_0_119 rfl hnn (by decide) rfl ?_
                        refine g_iinc hF (x3_4 + 1) [(3, .int (x3_4 + 1)), (2, .int (x4_12 + (1 : Int32))), (0, .ref (r 0)), (1, .int a1), (4, .int x4_12), (5, .int x5_54)] d_X14_library_0_120 3 rfl rfl hnn (by decide) rfl ?_
                        refine g_goto hF 4 d_X14_library_0_123 (by decide) ?_
                        obtain ⟨m4, hm4, w9⟩ := w8
                        exact g_sub (L' := [(0, .ref (r 0)), (1, .int a1), (2, .int (x4_12 + (1 : Int32))), (3, .int (x3_4 + 1))]) [2, 3, 1, 0] rfl (ih4 m4 hm4 (x4_12 + (1 : Int32)) (x3_4 + 1) w9)
                      · have w9 := w108_.2 c
                        refine g_iload_n hF d_X14_library_0_113 rfl 2 rfl ?_
                        exact g_iret hF rfl d_X14_library_0_114 ⟨rfl, rfl, rfl, x3_4, rfl, w9⟩
                    refine g_if_eq hF 108 d_X14_library_0_56 (by decide) rfl (fun c => ?_) (fun c => ?_)
                    · have w10 := w7.1 c
                      exact g_sub (L' := [(0, .ref (r 0)), (1, .int a1), (3, .int x3_4), (4, .int x4_12), (5, .int x5_54)]) [0, 1, 3, 4, 5] rfl (b108  w10)
                    · have w11 := w7.2 c
                      refine g_iload hF d_X14_library_0_59 6 rfl ?_
                      refine g_iload hF d_X14_library_0_61 4 rfl ?_
                      refine g_iload_n hF d_X14_library_0_63 rfl 2 rfl ?_
                      refine g_isub hF d_X14_library_0_64 ?_
                      refine g_icmp_ge hF 108 d_X14_library_0_65 (by decide) rfl rfl (fun c => ?_) (fun c => ?_)
                      · have w12 := w11.1 c
                        exact g_sub (L' := [(0, .ref (r 0)), (1, .int a1), (3, .int x3_4), (4, .int x4_12), (5, .int x5_54)]) [0, 1, 3, 4, 5] rfl (b108  w12)
                      · have w13 := w11.2 c
                        refine g_ldcSw hF (fun A s h => (EM_s (j := 2) h (by decide)).1) d_X14_library_0_68 ?_
                        refine g_iload_n hF d_X14_library_0_71 rfl 2 rfl ?_
                        refine g_iload hF d_X14_library_0_72 6 rfl ?_
                        refine g_iadd hF d_X14_library_0_74 ?_
                        have w14 := w13.2
                        refine g_callV (As := [.int (x2_4 + x6_54)]) (rest := []) hF (t_ch2 (EM_ok a) (fun A s h => EM_s (j := 2) h (by decide)) hcap (SN_lt (by decide)) (x2_4 + x6_54) w13.1.1 w13.1.2) (Nat.le_of_ble_eq_true rfl) mV_String_charAt m_2233 (recv_str (fun A s h => EM_s (j := 2) h (by decide))) rfl rfl (Nat.le_of_ble_eq_true rfl) d_X14_library_0_75 (k_sv ?_) (fun _ _ _ h => h.elim)
                        refine g_aload_n hF d_X14_library_0_78 rfl 0 rfl ?_
                        refine g_get (v := .ref (r 20)) hF 29 obM_0 (by decide) m_1894 rfl d_X14_library_0_79 ?_
                        refine g_aload_n hF d_X14_library_0_82 rfl 0 rfl ?_
                        refine g_get (v := .ref (r 18)) hF 27 obM_0 (by decide) m_1892 rfl d_X14_library_0_83 ?_
                        refine g_iload_n hF d_X14_library_0_86 rfl 1 rfl ?_
                        have w15 := w14.2
                        refine g_iald hF arM_18 (s_in (Nat.le_of_ble_eq_true rfl) w14.1.1 w14.1.2) d_X14_library_0_87 ?_
                        refine g_top (v := (σ 18 a1.toNatClampNeg)) rfl ?_
                        refine g_iload hF d_X14_library_0_88 6 rfl ?_
                        refine g_iadd hF d_X14_library_0_90 ?_
                        have w16 := w15.2
                        refine g_bald hF arM_20 (s_in (Nat.le_of_ble_eq_true rfl) w15.1.1 w15.1.2) d_X14_library_0_91 ?_
                        refine g_top (v := (σ 20 ((σ 18 a1.toNatClampNeg) + x6_54).toNatClampNeg)) rfl ?_
                        obtain ⟨J100, h100, w17⟩ := w16
                        have b100 : ∀ (y0_100 : Int32), y0_100 = 0 ∨ y0_100 = 1 → J100 y0_100 → G SM r X σ τ vs [(0, .ref (r 0)), (1, .int a1), (2, .int x2_4), (3, .int x3_4), (4, .int x4_12), (6, .int x6_54)] [.int y0_100] 100 := by
                          intro y0_100 hy0_100 w100_
                          have w100_ := h100 y0_100 hy0_100 w100_
                          refine g_istore hF [(5, .int y0_100), (0, .ref (r 0)), (1, .int a1), (2, .int x2_4), (3, .int x3_4), (4, .int x4_12), (6, .int x6_54)] d_X14_library_0_100 hnn (by decide) rfl ?_
                          refine g_iinc hF (x6_54 + 1) [(6, .int (x6_54 + 1)), (5, .int y0_100), (0, .ref (r 0)), (1, .int a1), (2, .int x2_4), (3, .int x3_4), (4, .int x4_12)] d_X14_library_0_102 6 rfl rfl hnn (by decide) rfl ?_
                          refine g_goto hF 54 d_X14_library_0_105 (by decide) ?_
                          obtain ⟨m54, hm54, w9⟩ := w100_
                          exact g_sub (L' := [(0, .ref (r 0)), (1, .int a1), (2, .int x2_4), (3, .int x3_4), (4, .int x4_12), (5, .int y0_100), (6, .int (x6_54 + 1))]) [2, 3, 4, 5, 6, 1, 0] rfl (ih54 m54 hm54 y0_100 (x6_54 + 1) hy0_100 w9)
                        refine g_icmp_ne hF 99 d_X14_library_0_92 (by decide) rfl rfl (fun c => ?_) (fun c => ?_)
                        · have w18 := w17.1 c
                          refine g_iconst hF (v := 0) d_X14_library_0_99 (by decide) ?_
                          exact g_sub (L' := [(0, .ref (r 0)), (1, .int a1), (2, .int x2_4), (3, .int x3_4), (4, .int x4_12), (6, .int x6_54)]) [0, 1, 2, 3, 4, 6] rfl (b100 (0 : Int32) (Or.inl rfl) w18)
                        · have w19 := w17.2 c
                          refine g_iconst hF (v := 1) d_X14_library_0_95 (by decide) ?_
                          refine g_goto hF 100 d_X14_library_0_96 (by decide) ?_
                          exact g_sub (L' := [(0, .ref (r 0)), (1, .int a1), (2, .int x2_4), (3, .int x3_4), (4, .int x4_12), (6, .int x6_54)]) [0, 1, 2, 3, 4, 6] rfl (b100 (1 : Int32) (Or.inr rfl) w19)
                exact g_sub (L' := [(0, .ref (r 0)), (1, .int a1), (2, .int x2_4), (3, .int x3_4), (4, .int x4_12), (5, .int y0_49), (6, .int 0)]) [2, 3, 4, 5, 6, 1, 0] rfl (b54 i54 y0_49 (0 : Int32) hy0_49 u54)
              refine g_icmp_ne hF 48 d_X14_library_0_41 (by decide) rfl rfl (fun c => ?_) (fun c => ?_)
              · have w20 := w6.1 c
                refine g_iconst hF (v := 0) d_X14_library_0_48 (by decide) ?_
                exact b49 (0 : Int32) (Or.inl rfl) w20
              · have w21 := w6.2 c
                refine g_iconst hF (v := 1) d_X14_library_0_44 (by decide) ?_
                refine g_goto hF 49 d_X14_library_0_45 (by decide) ?_
                exact b49 (1 : Int32) (Or.inr rfl) w21
            · have w22 := w3.2 c
              refine g_iinc hF (x4_12 + 1) [(4, .int (x4_12 + 1)), (0, .ref (r 0)), (1, .int a1), (2, .int x2_4), (3, .int x3_4)] d_X14_library_0_25 4 rfl rfl hnn (by decide) rfl ?_
              refine g_goto hF 12 d_X14_library_0_28 (by decide) ?_
              obtain ⟨m12, hm12, w9⟩ := w22
              exact g_sub (L' := [(0, .ref (r 0)), (1, .int a1), (2, .int x2_4), (3, .int x3_4), (4, .int (x4_12 + 1))]) [1, 2, 3, 4, 0] rfl (ih12 m12 hm12 (x4_12 + 1) w9)
        exact g_sub (L' := [(0, .ref (r 0)), (1, .int a1), (2, .int x2_4), (3, .int x3_4), (4, .int x2_4)]) [1, 2, 3, 4, 0] rfl (b12 i12 x2_4 u12)
  exact g_sub (L' := [(0, .ref (r 0)), (1, .int a1), (2, .int 1), (3, .int 0)]) [2, 3, 1, 0] rfl (b4 i4 (1 : Int32) (0 : Int32) u4)
def wp_isSymbol (a1 : Int32) (a2 : Int32) (σ τ : St) (vs : List Nat) (Q : Int32 → Prop) : Prop :=
  ((0 ≤ a1.toInt ∧ a1.toInt < 10000) ∧ ((σ 12 a1.toNatClampNeg).toInt ≠ 0 → Q (0 : Int32)) ∧ ((σ 12 a1.toNatClampNeg).toInt = 0 → ((0 ≤ a1.toInt ∧ a1.toInt < 10000) ∧ ((σ 13 a1.toNatClampNeg).toInt ≠ a2.toInt → Q (0 : Int32)) ∧ ((σ 13 a1.toNatClampNeg).toInt = a2.toInt → Q (1 : Int32)))))
set_option maxHeartbeats 4000000 in
set_option maxRecDepth 100000 in
theorem ct_isSymbol (a : Nat → Nat) (r : Nat → Nat) {a1 : Int32} {a2 : Int32} {σ τ : St} {vs : List Nat} {Q : Int32 → Prop} (hcap : vs.length ≤ CAP) (w : wp_isSymbol a1 a2 σ τ vs Q) (l : Launch) (D : va_G) (cy : Nat → ClassId) : Ct l D cy SM r (EM a) y_X14_isSymbol (Cond.code y_X14_isSymbol b_X14_isSymbol 3 (some .boolean)) 0 [.ref (r 0), .int a1, .int a2] σ τ vs (QZr σ τ vs Q) QT0 := by
  unfold wp_isSymbol at w
  refine Ct_of (EM_ok a) (by decide) (Nat.le_of_ble_eq_true rfl) hcap (fun X hnn hF => ?_)
  show G SM r X σ τ vs [(0, .ref (r 0)), (1, .int a1), (2, .int a2)] [] 0
  refine g_aload_n hF d_X14_isSymbol_0 rfl 0 rfl ?_
  refine g_get (v := .ref (r 12)) hF 21 obM_0 (by decide) m_1886 rfl d_X14_isSymbol_1 ?_
  refine g_iload_n hF d_X14_isSymbol_4 rfl 1 rfl ?_
  have w1 := w.2
  refine g_zald hF arM_12 (s_in (Nat.le_of_ble_eq_true rfl) w.1.1 w.1.2) d_X14_isSymbol_5 ?_
  refine g_top (v := (σ 12 a1.toNatClampNeg)) rfl ?_
  refine g_if_ne hF 23 d_X14_isSymbol_6 (by decide) rfl (fun c => ?_) (fun c => ?_)
  · have w2 := w1.1 c
    refine g_iconst hF (v := 0) d_X14_isSymbol_23 (by decide) ?_
    exact g_zret hF rfl (k_nz (Or.inl rfl)) d_X14_isSymbol_24 ⟨rfl, rfl, rfl, (0 : Int32), rfl, (Or.inl rfl), w2⟩
  · have w3 := w1.2 c
    refine g_aload_n hF d_X14_isSymbol_9 rfl 0 rfl ?_
    refine g_get (v := .ref (r 13)) hF 22 obM_0 (by decide) m_1887 rfl d_X14_isSymbol_10 ?_
    refine g_iload_n hF d_X14_isSymbol_13 rfl 1 rfl ?_
    have w4 := w3.2
    refine g_zald hF arM_13 (s_in (Nat.le_of_ble_eq_true rfl) w3.1.1 w3.1.2) d_X14_isSymbol_14 ?_
    refine g_top (v := (σ 13 a1.toNatClampNeg)) rfl ?_
    refine g_iload_n hF d_X14_isSymbol_15 rfl 2 rfl ?_
    refine g_icmp_ne hF 23 d_X14_isSymbol_16 (by decide) rfl rfl (fun c => ?_) (fun c => ?_)
    · have w5 := w4.1 c
      refine g_iconst hF (v := 0) d_X14_isSymbol_23 (by decide) ?_
      exact g_zret hF rfl (k_nz (Or.inl rfl)) d_X14_isSymbol_24 ⟨rfl, rfl, rfl, (0 : Int32), rfl, (Or.inl rfl), w5⟩
    · have w6 := w4.2 c
      refine g_iconst hF (v := 1) d_X14_isSymbol_19 (by decide) ?_
      refine g_goto hF 24 d_X14_isSymbol_20 (by decide) ?_
      exact g_zret hF rfl (k_nz (Or.inr rfl)) d_X14_isSymbol_24 ⟨rfl, rfl, rfl, (1 : Int32), rfl, (Or.inr rfl), w6⟩
def wp_isAlike (a1 : Int32) (a2 : Int32) (σ τ : St) (vs : List Nat) (Q : Int32 → Prop) : Prop :=
  ((0 ≤ a1.toInt ∧ a1.toInt < 10000) ∧ ((0 ≤ a2.toInt ∧ a2.toInt < 10000) ∧ ((σ 19 a1.toNatClampNeg).toInt = (σ 19 a2.toNatClampNeg).toInt → ∃ L19 : Nat → Int32 → Prop, (∃ n, L19 n (0 : Int32)) ∧ ∀ (n19 : Nat) (x3_19 : Int32), L19 n19 x3_19 → (((0 ≤ a1.toInt ∧ a1.toInt < 10000) ∧ ((σ 19 a1.toNatClampNeg).toInt ≤ x3_19.toInt → Q (1 : Int32)) ∧ (x3_19.toInt < (σ 19 a1.toNatClampNeg).toInt → ((0 ≤ a1.toInt ∧ a1.toInt < 10000) ∧ ((0 ≤ ((σ 18 a1.toNatClampNeg) + x3_19).toInt ∧ ((σ 18 a1.toNatClampNeg) + x3_19).toInt < 65536) ∧ ((0 ≤ a2.toInt ∧ a2.toInt < 10000) ∧ ((0 ≤ ((σ 18 a2.toNatClampNeg) + x3_19).toInt ∧ ((σ 18 a2.toNatClampNeg) + x3_19).toInt < 65536) ∧ ((σ 20 ((σ 18 a1.toNatClampNeg) + x3_19).toNatClampNeg).toInt = (σ 20 ((σ 18 a2.toNatClampNeg) + x3_19).toNatClampNeg).toInt → ∃ m, m < n19 ∧ L19 m (x3_19 + 1)) ∧ ((σ 20 ((σ 18 a1.toNatClampNeg) + x3_19).toNatClampNeg).toInt ≠ (σ 20 ((σ 18 a2.toNatClampNeg) + x3_19).toNatClampNeg).toInt → Q (0 : Int32)))))))))) ∧ ((σ 19 a1.toNatClampNeg).toInt ≠ (σ 19 a2.toNatClampNeg).toInt → Q (0 : Int32))))
set_option maxHeartbeats 4000000 in
set_option maxRecDepth 100000 in
theorem ct_isAlike (a : Nat → Nat) (r : Nat → Nat) {a1 : Int32} {a2 : Int32} {σ τ : St} {vs : List Nat} {Q : Int32 → Prop} (hcap : vs.length ≤ CAP) (w : wp_isAlike a1 a2 σ τ vs Q) (l : Launch) (D : va_G) (cy : Nat → ClassId) : Ct l D cy SM r (EM a) y_X14_isAlike (Cond.code y_X14_isAlike b_X14_isAlike 4 (some .boolean)) 0 [.ref (r 0), .int a1, .int a2] σ τ vs (QZr σ τ vs Q) QT0 := by
  unfold wp_isAlike at w
  refine Ct_of (EM_ok a) (by decide) (Nat.le_of_ble_eq_true rfl) hcap (fun X hnn hF => ?_)
  show G SM r X σ τ vs [(0, .ref (r 0)), (1, .int a1), (2, .int a2)] [] 0
  refine g_aload_n hF d_X14_isAlike_0 rfl 0 rfl ?_
  refine g_get (v := .ref (r 19)) hF 28 obM_0 (by decide) m_1893 rfl d_X14_isAlike_1 ?_
  refine g_iload_n hF d_X14_isAlike_4 rfl 1 rfl ?_
  have w1 := w.2
  refine g_iald hF arM_19 (s_in (Nat.le_of_ble_eq_true rfl) w.1.1 w.1.2) d_X14_isAlike_5 ?_
  refine g_top (v := (σ 19 a1.toNatClampNeg)) rfl ?_
  refine g_aload_n hF d_X14_isAlike_6 rfl 0 rfl ?_
  refine g_get (v := .ref (r 19)) hF 28 obM_0 (by decide) m_1893 rfl d_X14_isAlike_7 ?_
  refine g_iload_n hF d_X14_isAlike_10 rfl 2 rfl ?_
  have w2 := w1.2
  refine g_iald hF arM_19 (s_in (Nat.le_of_ble_eq_true rfl) w1.1.1 w1.1.2) d_X14_isAlike_11 ?_
  refine g_top (v := (σ 19 a2.toNatClampNeg)) rfl ?_
  refine g_icmp_eq hF 17 d_X14_isAlike_12 (by decide) rfl rfl (fun c => ?_) (fun c => ?_)
  · have w3 := w2.1 c
    refine g_iconst hF (v := 0) d_X14_isAlike_17 (by decide) ?_
    refine g_istore_n hF [(3, .int 0), (0, .ref (r 0)), (1, .int a1), (2, .int a2)] d_X14_isAlike_18 rfl hnn (by decide) rfl ?_
    obtain ⟨L19, ⟨i19, u19⟩, h19⟩ := w3
    have b19 : ∀ (n19 : Nat) (x3_19 : Int32), L19 n19 x3_19 → G SM r X σ τ vs [(0, .ref (r 0)), (1, .int a1), (2, .int a2), (3, .int x3_19)] [] 19 := by
      intro n19
      induction n19 using Nat.strongRecOn with
      | _ n19 ih19 =>
        intro x3_19  w19_
        have w19_ := h19 n19 x3_19  w19_
        refine g_iload_n hF d_X14_isAlike_19 rfl 3 rfl ?_
        refine g_aload_n hF d_X14_isAlike_20 rfl 0 rfl ?_
        refine g_get (v := .ref (r 19)) hF 28 obM_0 (by decide) m_1893 rfl d_X14_isAlike_21 ?_
        refine g_iload_n hF d_X14_isAlike_24 rfl 1 rfl ?_
        have w4 := w19_.2
        refine g_iald hF arM_19 (s_in (Nat.le_of_ble_eq_true rfl) w19_.1.1 w19_.1.2) d_X14_isAlike_25 ?_
        refine g_top (v := (σ 19 a1.toNatClampNeg)) rfl ?_
        refine g_icmp_ge hF 66 d_X14_isAlike_26 (by decide) rfl rfl (fun c => ?_) (fun c => ?_)
        · have w5 := w4.1 c
          refine g_iconst hF (v := 1) d_X14_isAlike_66 (by decide) ?_
          exact g_zret hF rfl (k_nz (Or.inr rfl)) d_X14_isAlike_67 ⟨rfl, rfl, rfl, (1 : Int32), rfl, (Or.inr rfl), w5⟩
        · have w6 := w4.2 c
          refine g_aload_n hF d_X14_isAlike_29 rfl 0 rfl ?_
          refine g_get (v := .ref (r 20)) hF 29 obM_0 (by decide) m_1894 rfl d_X14_isAlike_30 ?_
          refine g_aload_n hF d_X14_isAlike_33 rfl 0 rfl ?_
          refine g_get (v := .ref (r 18)) hF 27 obM_0 (by decide) m_1892 rfl d_X14_isAlike_34 ?_
          refine g_iload_n hF d_X14_isAlike_37 rfl 1 rfl ?_
          have w7 := w6.2
          refine g_iald hF arM_18 (s_in (Nat.le_of_ble_eq_true rfl) w6.1.1 w6.1.2) d_X14_isAlike_38 ?_
          refine g_top (v := (σ 18 a1.toNatClampNeg)) rfl ?_
          refine g_iload_n hF d_X14_isAlike_39 rfl 3 rfl ?_
          refine g_iadd hF d_X14_isAlike_40 ?_
          have w8 := w7.2
          refine g_bald hF arM_20 (s_in (Nat.le_of_ble_eq_true rfl) w7.1.1 w7.1.2) d_X14_isAlike_41 ?_
          refine g_top (v := (σ 20 ((σ 18 a1.toNatClampNeg) + x3_19).toNatClampNeg)) rfl ?_
          refine g_aload_n hF d_X14_isAlike_42 rfl 0 rfl ?_
          refine g_get (v := .ref (r 20)) hF 29 obM_0 (by decide) m_1894 rfl d_X14_isAlike_43 ?_
          refine g_aload_n hF d_X14_isAlike_46 rfl 0 rfl ?_
          refine g_get (v := .ref (r 18)) hF 27 obM_0 (by decide) m_1892 rfl d_X14_isAlike_47 ?_
          refine g_iload_n hF d_X14_isAlike_50 rfl 2 rfl ?_
          have w9 := w8.2
          refine g_iald hF arM_18 (s_in (Nat.le_of_ble_eq_true rfl) w8.1.1 w8.1.2) d_X14_isAlike_51 ?_
          refine g_top (v := (σ 18 a2.toNatClampNeg)) rfl ?_
          refine g_iload_n hF d_X14_isAlike_52 rfl 3 rfl ?_
          refine g_iadd hF d_X14_isAlike_53 ?_
          have w10 := w9.2
          refine g_bald hF arM_20 (s_in (Nat.le_of_ble_eq_true rfl) w9.1.1 w9.1.2) d_X14_isAlike_54 ?_
          refine g_top (v := (σ 20 ((σ 18 a2.toNatClampNeg) + x3_19).toNatClampNeg)) rfl ?_
          refine g_icmp_eq hF 60 d_X14_isAlike_55 (by decide) rfl rfl (fun c => ?_) (fun c => ?_)
          · have w11 := w10.1 c
            refine g_iinc hF (x3_19 + 1) [(3, .int (x3_19 + 1)), (0, .ref (r 0)), (1, .int a1), (2, .int a2)] d_X14_isAlike_60 3 rfl rfl hnn (by decide) rfl ?_
            refine g_goto hF 19 d_X14_isAlike_63 (by decide) ?_
            obtain ⟨m19, hm19, w9⟩ := w11
            exact g_sub (L' := [(0, .ref (r 0)), (1, .int a1), (2, .int a2), (3, .int (x3_19 + 1))]) [1, 2, 3, 0] rfl (ih19 m19 hm19 (x3_19 + 1) w9)
          · have w12 := w10.2 c
            refine g_iconst hF (v := 0) d_X14_isAlike_58 (by decide) ?_
            exact g_zret hF rfl (k_nz (Or.inl rfl)) d_X14_isAlike_59 ⟨rfl, rfl, rfl, (0 : Int32), rfl, (Or.inl rfl), w12⟩
    exact g_sub (L' := [(0, .ref (r 0)), (1, .int a1), (2, .int a2), (3, .int 0)]) [1, 2, 3, 0] rfl (b19 i19 (0 : Int32) u19)
  · have w13 := w2.2 c
    refine g_iconst hF (v := 0) d_X14_isAlike_15 (by decide) ?_
    exact g_zret hF rfl (k_nz (Or.inl rfl)) d_X14_isAlike_16 ⟨rfl, rfl, rfl, (0 : Int32), rfl, (Or.inl rfl), w13⟩
def wp_hasLibraryType (a1 : Int32) (a2 : Int32) (σ τ : St) (vs : List Nat) (Q : Int32 → Prop) : Prop :=
  ((0 ≤ a1.toInt ∧ a1.toInt < 10000) ∧ ((σ 9 a1.toNatClampNeg).toInt = 2 → (a2.toInt ≠ 0 → ((0 ≤ a1.toInt ∧ a1.toInt < 10000) ∧ ((σ 10 a1.toNatClampNeg).toInt ≠ -1 → Q (0 : Int32)) ∧ ((σ 10 a1.toNatClampNeg).toInt = -1 → ((0 ≤ a1.toInt ∧ a1.toInt < 10000) ∧ ((σ 15 a1.toNatClampNeg).toInt ≠ 1 → Q (0 : Int32)) ∧ ((σ 15 a1.toNatClampNeg).toInt = 1 → ((0 ≤ ((8 : Int32) * a1).toInt ∧ ((8 : Int32) * a1).toInt < 80000) ∧ ((σ 16 ((8 : Int32) * a1).toNatClampNeg).toInt ≠ 0 → Q (0 : Int32)) ∧ ((σ 16 ((8 : Int32) * a1).toNatClampNeg).toInt = 0 → Q (1 : Int32)))))))) ∧ (a2.toInt = 0 → ((0 ≤ a1.toInt ∧ a1.toInt < 10000) ∧ ((σ 10 a1.toNatClampNeg).toInt ≠ 0 → Q (0 : Int32)) ∧ ((σ 10 a1.toNatClampNeg).toInt = 0 → ((0 ≤ a1.toInt ∧ a1.toInt < 10000) ∧ ((σ 15 a1.toNatClampNeg).toInt ≠ 0 → Q (0 : Int32)) ∧ ((σ 15 a1.toNatClampNeg).toInt = 0 → Q (1 : Int32))))))) ∧ ((σ 9 a1.toNatClampNeg).toInt ≠ 2 → Q (0 : Int32)))
set_option maxHeartbeats 4000000 in
set_option maxRecDepth 100000 in
theorem ct_hasLibraryType (a : Nat → Nat) (r : Nat → Nat) {a1 : Int32} {a2 : Int32} {σ τ : St} {vs : List Nat} {Q : Int32 → Prop} (hcap : vs.length ≤ CAP) (w : wp_hasLibraryType a1 a2 σ τ vs Q) (l : Launch) (D : va_G) (cy : Nat → ClassId) : Ct l D cy SM r (EM a) y_X14_hasLibraryType (Cond.code y_X14_hasLibraryType b_X14_hasLibraryType 3 (some .boolean)) 0 [.ref (r 0), .int a1, .int a2] σ τ vs (QZr σ τ vs Q) QT0 := by
  unfold wp_hasLibraryType at w
  refine Ct_of (EM_ok a) (by decide) (Nat.le_of_ble_eq_true rfl) hcap (fun X hnn hF => ?_)
  show G SM r X σ τ vs [(0, .ref (r 0)), (1, .int a1), (2, .int a2)] [] 0
  refine g_aload_n hF d_X14_hasLibraryType_0 rfl 0 rfl ?_
  refine g_get (v := .ref (r 9)) hF 18 obM_0 (by decide) m_1883 rfl d_X14_hasLibraryType_1 ?_
  refine g_iload_n hF d_X14_hasLibraryType_4 rfl 1 rfl ?_
  have w1 := w.2
  refine g_iald hF arM_9 (s_in (Nat.le_of_ble_eq_true rfl) w.1.1 w.1.2) d_X14_hasLibraryType_5 ?_
  refine g_top (v := (σ 9 a1.toNatClampNeg)) rfl ?_
  refine g_iconst hF (v := 2) d_X14_hasLibraryType_6 (by decide) ?_
  refine g_icmp_eq (yv := 2) hF 12 d_X14_hasLibraryType_7 (by decide) rfl (by decide) (fun c => ?_) (fun c => ?_)
  · have w2 := w1.1 c
    refine g_iload_n hF d_X14_hasLibraryType_12 rfl 2 rfl ?_
    refine g_if_ne hF 42 d_X14_hasLibraryType_13 (by decide) rfl (fun c => ?_) (fun c => ?_)
    · have w3 := w2.1 c
      refine g_aload_n hF d_X14_hasLibraryType_42 rfl 0 rfl ?_
      refine g_get (v := .ref (r 10)) hF 19 obM_0 (by decide) m_1884 rfl d_X14_hasLibraryType_43 ?_
      refine g_iload_n hF d_X14_hasLibraryType_46 rfl 1 rfl ?_
      have w4 := w3.2
      refine g_iald hF arM_10 (s_in (Nat.le_of_ble_eq_true rfl) w3.1.1 w3.1.2) d_X14_hasLibraryType_47 ?_
      refine g_top (v := (σ 10 a1.toNatClampNeg)) rfl ?_
      refine g_iconst hF (v := (-1)) d_X14_hasLibraryType_48 (by decide) ?_
      refine g_icmp_ne (yv := -1) hF 78 d_X14_hasLibraryType_49 (by decide) rfl (by decide) (fun c => ?_) (fun c => ?_)
      · have w5 := w4.1 c
        refine g_iconst hF (v := 0) d_X14_hasLibraryType_78 (by decide) ?_
        exact g_zret hF rfl (k_nz (Or.inl rfl)) d_X14_hasLibraryType_79 ⟨rfl, rfl, rfl, (0 : Int32), rfl, (Or.inl rfl), w5⟩
      · have w6 := w4.2 c
        refine g_aload_n hF d_X14_hasLibraryType_52 rfl 0 rfl ?_
        refine g_get (v := .ref (r 15)) hF 24 obM_0 (by decide) m_1889 rfl d_X14_hasLibraryType_53 ?_
        refine g_iload_n hF d_X14_hasLibraryType_56 rfl 1 rfl ?_
        have w7 := w6.2
        refine g_iald hF arM_15 (s_in (Nat.le_of_ble_eq_true rfl) w6.1.1 w6.1.2) d_X14_hasLibraryType_57 ?_
        refine g_top (v := (σ 15 a1.toNatClampNeg)) rfl ?_
        refine g_iconst hF (v := 1) d_X14_hasLibraryType_58 (by decide) ?_
        refine g_icmp_ne (yv := 1) hF 78 d_X14_hasLibraryType_59 (by decide) rfl (by decide) (fun c => ?_) (fun c => ?_)
        · have w8 := w7.1 c
          refine g_iconst hF (v := 0) d_X14_hasLibraryType_78 (by decide) ?_
          exact g_zret hF rfl (k_nz (Or.inl rfl)) d_X14_hasLibraryType_79 ⟨rfl, rfl, rfl, (0 : Int32), rfl, (Or.inl rfl), w8⟩
        · have w9 := w7.2 c
          refine g_aload_n hF d_X14_hasLibraryType_62 rfl 0 rfl ?_
          refine g_get (v := .ref (r 16)) hF 25 obM_0 (by decide) m_1890 rfl d_X14_hasLibraryType_63 ?_
          refine g_bipush hF (v := 8) d_X14_hasLibraryType_66 (by decide) ?_
          refine g_iload_n hF d_X14_hasLibraryType_68 rfl 1 rfl ?_
          refine g_imul hF d_X14_hasLibraryType_69 ?_
          have w10 := w9.2
          refine g_iald hF arM_16 (s_in (Nat.le_of_ble_eq_true rfl) w9.1.1 w9.1.2) d_X14_hasLibraryType_70 ?_
          refine g_top (v := (σ 16 ((8 : Int32) * a1).toNatClampNeg)) rfl ?_
          refine g_if_ne hF 78 d_X14_hasLibraryType_71 (by decide) rfl (fun c => ?_) (fun c => ?_)
          · have w11 := w10.1 c
            refine g_iconst hF (v := 0) d_X14_hasLibraryType_78 (by decide) ?_
            exact g_zret hF rfl (k_nz (Or.inl rfl)) d_X14_hasLibraryType_79 ⟨rfl, rfl, rfl, (0 : Int32), rfl, (Or.inl rfl), w11⟩
          · have w12 := w10.2 c
            refine g_iconst hF (v := 1) d_X14_hasLibraryType_74 (by decide) ?_
            refine g_goto hF 79 d_X14_hasLibraryType_75 (by decide) ?_
            exact g_zret hF rfl (k_nz (Or.inr rfl)) d_X14_hasLibraryType_79 ⟨rfl, rfl, rfl, (1 : Int32), rfl, (Or.inr rfl), w12⟩
    · have w13 := w2.2 c
      refine g_aload_n hF d_X14_hasLibraryType_16 rfl 0 rfl ?_
      refine g_get (v := .ref (r 10)) hF 19 obM_0 (by decide) m_1884 rfl d_X14_hasLibraryType_17 ?_
      refine g_iload_n hF d_X14_hasLibraryType_20 rfl 1 rfl ?_
      have w14 := w13.2
      refine g_iald hF arM_10 (s_in (Nat.le_of_ble_eq_true rfl) w13.1.1 w13.1.2) d_X14_hasLibraryType_21 ?_
      refine g_top (v := (σ 10 a1.toNatClampNeg)) rfl ?_
      refine g_if_ne hF 38 d_X14_hasLibraryType_22 (by decide) rfl (fun c => ?_) (fun c => ?_)
      · have w15 := w14.1 c
        refine g_iconst hF (v := 0) d_X14_hasLibraryType_38 (by decide) ?_
        refine g_goto hF 79 d_X14_hasLibraryType_39 (by decide) ?_
        exact g_zret hF rfl (k_nz (Or.inl rfl)) d_X14_hasLibraryType_79 ⟨rfl, rfl, rfl, (0 : Int32), rfl, (Or.inl rfl), w15⟩
      · have w16 := w14.2 c
        refine g_aload_n hF d_X14_hasLibraryType_25 rfl 0 rfl ?_
        refine g_get (v := .ref (r 15)) hF 24 obM_0 (by decide) m_1889 rfl d_X14_hasLibraryType_26 ?_
        refine g_iload_n hF d_X14_hasLibraryType_29 rfl 1 rfl ?_
        have w17 := w16.2
        refine g_iald hF arM_15 (s_in (Nat.le_of_ble_eq_true rfl) w16.1.1 w16.1.2) d_X14_hasLibraryType_30 ?_
        refine g_top (v := (σ 15 a1.toNatClampNeg)) rfl ?_
        refine g_if_ne hF 38 d_X14_hasLibraryType_31 (by decide) rfl (fun c => ?_) (fun c => ?_)
        · have w18 := w17.1 c
          refine g_iconst hF (v := 0) d_X14_hasLibraryType_38 (by decide) ?_
          refine g_goto hF 79 d_X14_hasLibraryType_39 (by decide) ?_
          exact g_zret hF rfl (k_nz (Or.inl rfl)) d_X14_hasLibraryType_79 ⟨rfl, rfl, rfl, (0 : Int32), rfl, (Or.inl rfl), w18⟩
        · have w19 := w17.2 c
          refine g_iconst hF (v := 1) d_X14_hasLibraryType_34 (by decide) ?_
          refine g_goto hF 79 d_X14_hasLibraryType_35 (by decide) ?_
          exact g_zret hF rfl (k_nz (Or.inr rfl)) d_X14_hasLibraryType_79 ⟨rfl, rfl, rfl, (1 : Int32), rfl, (Or.inr rfl), w19⟩
  · have w20 := w1.2 c
    refine g_iconst hF (v := 0) d_X14_hasLibraryType_10 (by decide) ?_
    exact g_zret hF rfl (k_nz (Or.inl rfl)) d_X14_hasLibraryType_11 ⟨rfl, rfl, rfl, (0 : Int32), rfl, (Or.inl rfl), w20⟩
def wp_hasType (a1 : Int32) (a2 : Int32) (σ τ : St) (vs : List Nat) (Q : Int32 → Prop) : Prop :=
  ((0 ≤ a1.toInt ∧ a1.toInt < 10000) ∧ ((0 ≤ a2.toInt ∧ a2.toInt < 10000) ∧ ((σ 9 a1.toNatClampNeg).toInt ≠ (σ 9 a2.toNatClampNeg).toInt → Q (0 : Int32)) ∧ ((σ 9 a1.toNatClampNeg).toInt = (σ 9 a2.toNatClampNeg).toInt → ((0 ≤ a1.toInt ∧ a1.toInt < 10000) ∧ ((0 ≤ a2.toInt ∧ a2.toInt < 10000) ∧ ((σ 10 a1.toNatClampNeg).toInt = (σ 10 a2.toNatClampNeg).toInt → ((0 ≤ a1.toInt ∧ a1.toInt < 10000) ∧ ((σ 9 a1.toNatClampNeg).toInt ≠ 1 → ((0 ≤ a1.toInt ∧ a1.toInt < 10000) ∧ ((0 ≤ a2.toInt ∧ a2.toInt < 10000) ∧ ((σ 15 a1.toNatClampNeg).toInt = (σ 15 a2.toNatClampNeg).toInt → ∃ L122 : Nat → Int32 → Prop, (∃ n, L122 n (0 : Int32)) ∧ ∀ (n122 : Nat) (x3_122 : Int32), L122 n122 x3_122 → (((0 ≤ a1.toInt ∧ a1.toInt < 10000) ∧ ((σ 15 a1.toNatClampNeg).toInt ≤ x3_122.toInt → Q (1 : Int32)) ∧ (x3_122.toInt < (σ 15 a1.toNatClampNeg).toInt → ((0 ≤ (((8 : Int32) * a1) + x3_122).toInt ∧ (((8 : Int32) * a1) + x3_122).toInt < 80000) ∧ ((0 ≤ (((8 : Int32) * a2) + x3_122).toInt ∧ (((8 : Int32) * a2) + x3_122).toInt < 80000) ∧ ((σ 16 (((8 : Int32) * a1) + x3_122).toNatClampNeg).toInt = (σ 16 (((8 : Int32) * a2) + x3_122).toNatClampNeg).toInt → ∃ m, m < n122 ∧ L122 m (x3_122 + 1)) ∧ ((σ 16 (((8 : Int32) * a1) + x3_122).toNatClampNeg).toInt ≠ (σ 16 (((8 : Int32) * a2) + x3_122).toNatClampNeg).toInt → Q (0 : Int32)))))))) ∧ ((σ 15 a1.toNatClampNeg).toInt ≠ (σ 15 a2.toNatClampNeg).toInt → Q (0 : Int32))))) ∧ ((σ 9 a1.toNatClampNeg).toInt = 1 → ((0 ≤ a1.toInt ∧ a1.toInt < 10000) ∧ (∃ J56 : Int32 → Prop, (∀ (y0_56 : Int32), y0_56 = 0 ∨ y0_56 = 1 → J56 y0_56 → (((0 ≤ a2.toInt ∧ a2.toInt < 10000) ∧ (∃ J70 : Int32 → Prop, (∀ (y1_70 : Int32), y1_70 = 0 ∨ y1_70 = 1 → J70 y1_70 → ((y0_56.toInt ≠ y1_70.toInt → Q (0 : Int32)) ∧ (y0_56.toInt = y1_70.toInt → ((0 ≤ a1.toInt ∧ a1.toInt < 10000) ∧ ((σ 11 a1.toNatClampNeg).toInt ≤ 0 → Q (1 : Int32)) ∧ (0 < (σ 11 a1.toNatClampNeg).toInt → ((0 ≤ a1.toInt ∧ a1.toInt < 10000) ∧ ((0 ≤ a2.toInt ∧ a2.toInt < 10000) ∧ ((σ 11 a1.toNatClampNeg).toInt ≠ (σ 11 a2.toNatClampNeg).toInt → Q (0 : Int32)) ∧ ((σ 11 a1.toNatClampNeg).toInt = (σ 11 a2.toNatClampNeg).toInt → Q (1 : Int32))))))))) ∧ (0 ≤ (σ 11 a2.toNatClampNeg).toInt → J70 (0 : Int32)) ∧ ((σ 11 a2.toNatClampNeg).toInt < 0 → J70 (1 : Int32)))))) ∧ (0 ≤ (σ 11 a1.toNatClampNeg).toInt → J56 (0 : Int32)) ∧ ((σ 11 a1.toNatClampNeg).toInt < 0 → J56 (1 : Int32))))))) ∧ ((σ 10 a1.toNatClampNeg).toInt ≠ (σ 10 a2.toNatClampNeg).toInt → Q (0 : Int32)))))))
set_option maxHeartbeats 4000000 in
set_option maxRecDepth 100000 in
theorem ct_hasType (a : Nat → Nat) (r : Nat → Nat) {a1 : Int32} {a2 : Int32} {σ τ : St} {vs : List Nat} {Q : Int32 → Prop} (hcap : vs.length ≤ CAP) (w : wp_hasType a1 a2 σ τ vs Q) (l : Launch) (D : va_G) (cy : Nat → ClassId) : Ct l D cy SM r (EM a) y_X14_hasType (Cond.code y_X14_hasType b_X14_hasType 4 (some .boolean)) 0 [.ref (r 0), .int a1, .int a2] σ τ vs (QZr σ τ vs Q) QT0 := by
  unfold wp_hasType at w
  refine Ct_of (EM_ok a) (by decide) (Nat.le_of_ble_eq_true rfl) hcap (fun X hnn hF => ?_)
  show G SM r X σ τ vs [(0, .ref (r 0)), (1, .int a1), (2, .int a2)] [] 0
  refine g_aload_n hF d_X14_hasType_0 rfl 0 rfl ?_
  refine g_get (v := .ref (r 9)) hF 18 obM_0 (by decide) m_1883 rfl d_X14_hasType_1 ?_
  refine g_iload_n hF d_X14_hasType_4 rfl 1 rfl ?_
  have w1 := w.2
  refine g_iald hF arM_9 (s_in (Nat.le_of_ble_eq_true rfl) w.1.1 w.1.2) d_X14_hasType_5 ?_
  refine g_top (v := (σ 9 a1.toNatClampNeg)) rfl ?_
  refine g_aload_n hF d_X14_hasType_6 rfl 0 rfl ?_
  refine g_get (v := .ref (r 9)) hF 18 obM_0 (by decide) m_1883 rfl d_X14_hasType_7 ?_
  refine g_iload_n hF d_X14_hasType_10 rfl 2 rfl ?_
  have w2 := w1.2
  refine g_iald hF arM_9 (s_in (Nat.le_of_ble_eq_true rfl) w1.1.1 w1.1.2) d_X14_hasType_11 ?_
  refine g_top (v := (σ 9 a2.toNatClampNeg)) rfl ?_
  refine g_icmp_ne hF 30 d_X14_hasType_12 (by decide) rfl rfl (fun c => ?_) (fun c => ?_)
  · have w3 := w2.1 c
    refine g_iconst hF (v := 0) d_X14_hasType_30 (by decide) ?_
    exact g_zret hF rfl (k_nz (Or.inl rfl)) d_X14_hasType_31 ⟨rfl, rfl, rfl, (0 : Int32), rfl, (Or.inl rfl), w3⟩
  · have w4 := w2.2 c
    refine g_aload_n hF d_X14_hasType_15 rfl 0 rfl ?_
    refine g_get (v := .ref (r 10)) hF 19 obM_0 (by decide) m_1884 rfl d_X14_hasType_16 ?_
    refine g_iload_n hF d_X14_hasType_19 rfl 1 rfl ?_
    have w5 := w4.2
    refine g_iald hF arM_10 (s_in (Nat.le_of_ble_eq_true rfl) w4.1.1 w4.1.2) d_X14_hasType_20 ?_
    refine g_top (v := (σ 10 a1.toNatClampNeg)) rfl ?_
    refine g_aload_n hF d_X14_hasType_21 rfl 0 rfl ?_
    refine g_get (v := .ref (r 10)) hF 19 obM_0 (by decide) m_1884 rfl d_X14_hasType_22 ?_
    refine g_iload_n hF d_X14_hasType_25 rfl 2 rfl ?_
    have w6 := w5.2
    refine g_iald hF arM_10 (s_in (Nat.le_of_ble_eq_true rfl) w5.1.1 w5.1.2) d_X14_hasType_26 ?_
    refine g_top (v := (σ 10 a2.toNatClampNeg)) rfl ?_
    refine g_icmp_eq hF 32 d_X14_hasType_27 (by decide) rfl rfl (fun c => ?_) (fun c => ?_)
    · have w7 := w6.1 c
      refine g_aload_n hF d_X14_hasType_32 rfl 0 rfl ?_
      refine g_get (v := .ref (r 9)) hF 18 obM_0 (by decide) m_1883 rfl d_X14_hasType_33 ?_
      refine g_iload_n hF d_X14_hasType_36 rfl 1 rfl ?_
      have w8 := w7.2
      refine g_iald hF arM_9 (s_in (Nat.le_of_ble_eq_true rfl) w7.1.1 w7.1.2) d_X14_hasType_37 ?_
      refine g_top (v := (σ 9 a1.toNatClampNeg)) rfl ?_
      refine g_iconst hF (v := 1) d_X14_hasType_38 (by decide) ?_
      refine g_icmp_ne (yv := 1) hF 103 d_X14_hasType_39 (by decide) rfl (by decide) (fun c => ?_) (fun c => ?_)
      · have w9 := w8.1 c
        refine g_aload_n hF d_X14_hasType_103 rfl 0 rfl ?_
        refine g_get (v := .ref (r 15)) hF 24 obM_0 (by decide) m_1889 rfl d_X14_hasType_104 ?_
        refine g_iload_n hF d_X14_hasType_107 rfl 1 rfl ?_
        have w10 := w9.2
        refine g_iald hF arM_15 (s_in (Nat.le_of_ble_eq_true rfl) w9.1.1 w9.1.2) d_X14_hasType_108 ?_
        refine g_top (v := (σ 15 a1.toNatClampNeg)) rfl ?_
        refine g_aload_n hF d_X14_hasType_109 rfl 0 rfl ?_
        refine g_get (v := .ref (r 15)) hF 24 obM_0 (by decide) m_1889 rfl d_X14_hasType_110 ?_
        refine g_iload_n hF d_X14_hasType_113 rfl 2 rfl ?_
        have w11 := w10.2
        refine g_iald hF arM_15 (s_in (Nat.le_of_ble_eq_true rfl) w10.1.1 w10.1.2) d_X14_hasType_114 ?_
        refine g_top (v := (σ 15 a2.toNatClampNeg)) rfl ?_
        refine g_icmp_eq hF 120 d_X14_hasType_115 (by decide) rfl rfl (fun c => ?_) (fun c => ?_)
        · have w12 := w11.1 c
          refine g_iconst hF (v := 0) d_X14_hasType_120 (by decide) ?_
          refine g_istore_n hF [(3, .int 0), (0, .ref (r 0)), (1, .int a1), (2, .int a2)] d_X14_hasType_121 rfl hnn (by decide) rfl ?_
          obtain ⟨L122, ⟨i122, u122⟩, h122⟩ := w12
          have b122 : ∀ (n122 : Nat) (x3_122 : Int32), L122 n122 x3_122 → G SM r X σ τ vs [(0, .ref (r 0)), (1, .int a1), (2, .int a2), (3, .int x3_122)] [] 122 := by
            intro n122
            induction n122 using Nat.strongRecOn with
            | _ n122 ih122 =>
              intro x3_122  w122_
              have w122_ := h122 n122 x3_122  w122_
              refine g_iload_n hF d_X14_hasType_122 rfl 3 rfl ?_
              refine g_aload_n hF d_X14_hasType_123 rfl 0 rfl ?_
              refine g_get (v := .ref (r 15)) hF 24 obM_0 (by decide) m_1889 rfl d_X14_hasType_124 ?_
              refine g_iload_n hF d_X14_hasType_127 rfl 1 rfl ?_
              have w13 := w122_.2
              refine g_iald hF arM_15 (s_in (Nat.le_of_ble_eq_true rfl) w122_.1.1 w122_.1.2) d_X14_hasType_128 ?_
              refine g_top (v := (σ 15 a1.toNatClampNeg)) rfl ?_
              refine g_icmp_ge hF 165 d_X14_hasType_129 (by decide) rfl rfl (fun c => ?_) (fun c => ?_)
              · have w14 := w13.1 c
                refine g_iconst hF (v := 1) d_X14_hasType_165 (by decide) ?_
                exact g_zret hF rfl (k_nz (Or.inr rfl)) d_X14_hasType_166 ⟨rfl, rfl, rfl, (1 : Int32), rfl, (Or.inr rfl), w14⟩
              · have w15 := w13.2 c
                refine g_aload_n hF d_X14_hasType_132 rfl 0 rfl ?_
                refine g_get (v := .ref (r 16)) hF 25 obM_0 (by decide) m_1890 rfl d_X14_hasType_133 ?_
                refine g_bipush hF (v := 8) d_X14_hasType_136 (by decide) ?_
                refine g_iload_n hF d_X14_hasType_138 rfl 1 rfl ?_
                refine g_imul hF d_X14_hasType_139 ?_
                refine g_iload_n hF d_X14_hasType_140 rfl 3 rfl ?_
                refine g_iadd hF d_X14_hasType_141 ?_
                have w16 := w15.2
                refine g_iald hF arM_16 (s_in (Nat.le_of_ble_eq_true rfl) w15.1.1 w15.1.2) d_X14_hasType_142 ?_
                refine g_top (v := (σ 16 (((8 : Int32) * a1) + x3_122).toNatClampNeg)) rfl ?_
                refine g_aload_n hF d_X14_hasType_143 rfl 0 rfl ?_
                refine g_get (v := .ref (r 16)) hF 25 obM_0 (by decide) m_1890 rfl d_X14_hasType_144 ?_
                refine g_bipush hF (v := 8) d_X14_hasType_147 (by decide) ?_
                refine g_iload_n hF d_X14_hasType_149 rfl 2 rfl ?_
                refine g_imul hF d_X14_hasType_150 ?_
                refine g_iload_n hF d_X14_hasType_151 rfl 3 rfl ?_
                refine g_iadd hF d_X14_hasType_152 ?_
                have w17 := w16.2
                refine g_iald hF arM_16 (s_in (Nat.le_of_ble_eq_true rfl) w16.1.1 w16.1.2) d_X14_hasType_153 ?_
                refine g_top (v := (σ 16 (((8 : Int32) * a2) + x3_122).toNatClampNeg)) rfl ?_
                refine g_icmp_eq hF 159 d_X14_hasType_154 (by decide) rfl rfl (fun c => ?_) (fun c => ?_)
                · have w18 := w17.1 c
                  refine g_iinc hF (x3_122 + 1) [(3, .int (x3_122 + 1)), (0, .ref (r 0)), (1, .int a1), (2, .int a2)] d_X14_hasType_159 3 rfl rfl hnn (by decide) rfl ?_
                  refine g_goto hF 122 d_X14_hasType_162 (by decide) ?_
                  obtain ⟨m122, hm122, w9⟩ := w18
                  exact g_sub (L' := [(0, .ref (r 0)), (1, .int a1), (2, .int a2), (3, .int (x3_122 + 1))]) [1, 2, 3, 0] rfl (ih122 m122 hm122 (x3_122 + 1) w9)
                · have w19 := w17.2 c
                  refine g_iconst hF (v := 0) d_X14_hasType_157 (by decide) ?_
                  exact g_zret hF rfl (k_nz (Or.inl rfl)) d_X14_hasType_158 ⟨rfl, rfl, rfl, (0 : Int32), rfl, (Or.inl rfl), w19⟩
          exact g_sub (L' := [(0, .ref (r 0)), (1, .int a1), (2, .int a2), (3, .int 0)]) [1, 2, 3, 0] rfl (b122 i122 (0 : Int32) u122)
        · have w20 := w11.2 c
          refine g_iconst hF (v := 0) d_X14_hasType_118 (by decide) ?_
          exact g_zret hF rfl (k_nz (Or.inl rfl)) d_X14_hasType_119 ⟨rfl, rfl, rfl, (0 : Int32), rfl, (Or.inl rfl), w20⟩
      · have w21 := w8.2 c
        refine g_aload_n hF d_X14_hasType_42 rfl 0 rfl ?_
        refine g_get (v := .ref (r 11)) hF 20 obM_0 (by decide) m_1885 rfl d_X14_hasType_43 ?_
        refine g_iload_n hF d_X14_hasType_46 rfl 1 rfl ?_
        have w22 := w21.2
        refine g_iald hF arM_11 (s_in (Nat.le_of_ble_eq_true rfl) w21.1.1 w21.1.2) d_X14_hasType_47 ?_
        refine g_top (v := (σ 11 a1.toNatClampNeg)) rfl ?_
        obtain ⟨J56, h56, w23⟩ := w22
        have b56 : ∀ (y0_56 : Int32), y0_56 = 0 ∨ y0_56 = 1 → J56 y0_56 → G SM r X σ τ vs [(0, .ref (r 0)), (1, .int a1), (2, .int a2)] [.int y0_56] 56 := by
          intro y0_56 hy0_56 w56_
          have w56_ := h56 y0_56 hy0_56 w56_
          refine g_aload_n hF d_X14_hasType_56 rfl 0 rfl ?_
          refine g_get (v := .ref (r 11)) hF 20 obM_0 (by decide) m_1885 rfl d_X14_hasType_57 ?_
          refine g_iload_n hF d_X14_hasType_60 rfl 2 rfl ?_
          have w24 := w56_.2
          refine g_iald hF arM_11 (s_in (Nat.le_of_ble_eq_true rfl) w56_.1.1 w56_.1.2) d_X14_hasType_61 ?_
          refine g_top (v := (σ 11 a2.toNatClampNeg)) rfl ?_
          obtain ⟨J70, h70, w25⟩ := w24
          have b70 : ∀ (y1_70 : Int32), y1_70 = 0 ∨ y1_70 = 1 → J70 y1_70 → G SM r X σ τ vs [(0, .ref (r 0)), (1, .int a1), (2, .int a2)] [.int y1_70, .int y0_56] 70 := by
            intro y1_70 hy1_70 w70_
            have w70_ := h70 y1_70 hy1_70 w70_
            refine g_icmp_ne hF 101 d_X14_hasType_70 (by decide) rfl rfl (fun c => ?_) (fun c => ?_)
            · have w26 := w70_.1 c
              refine g_iconst hF (v := 0) d_X14_hasType_101 (by decide) ?_
              exact g_zret hF rfl (k_nz (Or.inl rfl)) d_X14_hasType_102 ⟨rfl, rfl, rfl, (0 : Int32), rfl, (Or.inl rfl), w26⟩
            · have w27 := w70_.2 c
              refine g_aload_n hF d_X14_hasType_73 rfl 0 rfl ?_
              refine g_get (v := .ref (r 11)) hF 20 obM_0 (by decide) m_1885 rfl d_X14_hasType_74 ?_
              refine g_iload_n hF d_X14_hasType_77 rfl 1 rfl ?_
              have w28 := w27.2
              refine g_iald hF arM_11 (s_in (Nat.le_of_ble_eq_true rfl) w27.1.1 w27.1.2) d_X14_hasType_78 ?_
              refine g_top (v := (σ 11 a1.toNatClampNeg)) rfl ?_
              refine g_if_le hF 97 d_X14_hasType_79 (by decide) rfl (fun c => ?_) (fun c => ?_)
              · have w29 := w28.1 c
                refine g_iconst hF (v := 1) d_X14_hasType_97 (by decide) ?_
                refine g_goto hF 102 d_X14_hasType_98 (by decide) ?_
                exact g_zret hF rfl (k_nz (Or.inr rfl)) d_X14_hasType_102 ⟨rfl, rfl, rfl, (1 : Int32), rfl, (Or.inr rfl), w29⟩
              · have w30 := w28.2 c
                refine g_aload_n hF d_X14_hasType_82 rfl 0 rfl ?_
                refine g_get (v := .ref (r 11)) hF 20 obM_0 (by decide) m_1885 rfl d_X14_hasType_83 ?_
                refine g_iload_n hF d_X14_hasType_86 rfl 1 rfl ?_
                have w31 := w30.2
                refine g_iald hF arM_11 (s_in (Nat.le_of_ble_eq_true rfl) w30.1.1 w30.1.2) d_X14_hasType_87 ?_
                refine g_top (v := (σ 11 a1.toNatClampNeg)) rfl ?_
                refine g_aload_n hF d_X14_hasType_88 rfl 0 rfl ?_
                refine g_get (v := .ref (r 11)) hF 20 obM_0 (by decide) m_1885 rfl d_X14_hasType_89 ?_
                refine g_iload_n hF d_X14_hasType_92 rfl 2 rfl ?_
                have w32 := w31.2
                refine g_iald hF arM_11 (s_in (Nat.le_of_ble_eq_true rfl) w31.1.1 w31.1.2) d_X14_hasType_93 ?_
                refine g_top (v := (σ 11 a2.toNatClampNeg)) rfl ?_
                refine g_icmp_ne hF 101 d_X14_hasType_94 (by decide) rfl rfl (fun c => ?_) (fun c => ?_)
                · have w33 := w32.1 c
                  refine g_iconst hF (v := 0) d_X14_hasType_101 (by decide) ?_
                  exact g_zret hF rfl (k_nz (Or.inl rfl)) d_X14_hasType_102 ⟨rfl, rfl, rfl, (0 : Int32), rfl, (Or.inl rfl), w33⟩
                · have w34 := w32.2 c
                  refine g_iconst hF (v := 1) d_X14_hasType_97 (by decide) ?_
                  refine g_goto hF 102 d_X14_hasType_98 (by decide) ?_
                  exact g_zret hF rfl (k_nz (Or.inr rfl)) d_X14_hasType_102 ⟨rfl, rfl, rfl, (1 : Int32), rfl, (Or.inr rfl), w34⟩
          refine g_if_ge hF 69 d_X14_hasType_62 (by decide) rfl (fun c => ?_) (fun c => ?_)
          · have w35 := w25.1 c
            refine g_iconst hF (v := 0) d_X14_hasType_69 (by decide) ?_
            exact b70 (0 : Int32) (Or.inl rfl) w35
          · have w36 := w25.2 c
            refine g_iconst hF (v := 1) d_X14_hasType_65 (by decide) ?_
            refine g_goto hF 70 d_X14_hasType_66 (by decide) ?_
            exact b70 (1 : Int32) (Or.inr rfl) w36
        refine g_if_ge hF 55 d_X14_hasType_48 (by decide) rfl (fun c => ?_) (fun c => ?_)
        · have w37 := w23.1 c
          refine g_iconst hF (v := 0) d_X14_hasType_55 (by decide) ?_
          exact b56 (0 : Int32) (Or.inl rfl) w37
        · have w38 := w23.2 c
          refine g_iconst hF (v := 1) d_X14_hasType_51 (by decide) ?_
          refine g_goto hF 56 d_X14_hasType_52 (by decide) ?_
          exact b56 (1 : Int32) (Or.inr rfl) w38
    · have w39 := w6.2 c
      refine g_iconst hF (v := 0) d_X14_hasType_30 (by decide) ?_
      exact g_zret hF rfl (k_nz (Or.inl rfl)) d_X14_hasType_31 ⟨rfl, rfl, rfl, (0 : Int32), rfl, (Or.inl rfl), w39⟩
def wp_mainOf (a1 : Int32) (σ τ : St) (vs : List Nat) (Q : Int32 → Prop) : Prop :=
  ∃ L2 : Nat → Int32 → Prop, (∃ n, L2 n (0 : Int32)) ∧ ∀ (n2 : Nat) (x2_2 : Int32), L2 n2 x2_2 → ((a1.toInt ≤ x2_2.toInt → Q ((-1) : Int32)) ∧ (x2_2.toInt < a1.toInt → ((0 ≤ x2_2.toInt ∧ x2_2.toInt < 100) ∧ ((0 ≤ ((σ 40 x2_2.toNatClampNeg) - (1 : Int32)).toInt ∧ ((σ 40 x2_2.toNatClampNeg) - (1 : Int32)).toInt < 102) ∧ ∃ L21 : Nat → Int32 → Prop, (∃ n, L21 n (σ 22 ((σ 40 x2_2.toNatClampNeg) - (1 : Int32)).toNatClampNeg)) ∧ ∀ (n21 : Nat) (x3_21 : Int32), L21 n21 x3_21 → (((0 ≤ x2_2.toInt ∧ x2_2.toInt < 100) ∧ ((0 ≤ (σ 40 x2_2.toNatClampNeg).toInt ∧ (σ 40 x2_2.toNatClampNeg).toInt < 102) ∧ ((σ 22 (σ 40 x2_2.toNatClampNeg).toNatClampNeg).toInt ≤ x3_21.toInt → ∃ m, m < n2 ∧ L2 m (x2_2 + 1)) ∧ (x3_21.toInt < (σ 22 (σ 40 x2_2.toNatClampNeg).toNatClampNeg).toInt → ((0 ≤ x3_21.toInt ∧ x3_21.toInt < 10000) ∧ (∃ J121 : Int32 → Prop, (∀ (y0_121 : Int32), y0_121 = 0 ∨ y0_121 = 1 → J121 y0_121 → ((∃ J172 : Prop, (J172  → (∃ m, m < n21 ∧ L21 m (x3_21 + 1))) ∧ (y0_121.toInt = 0 → J172) ∧ (y0_121.toInt ≠ 0 → wp_isSymbol x3_21 (1 : Int32) σ τ vs (fun v131 => (v131.toInt = 0 → J172) ∧ (v131.toInt ≠ 0 → ((0 ≤ x3_21.toInt ∧ x3_21.toInt < 10000) ∧ ((σ 9 x3_21.toNatClampNeg).toInt ≠ 2 → J172) ∧ ((σ 9 x3_21.toNatClampNeg).toInt = 2 → ((0 ≤ x3_21.toInt ∧ x3_21.toInt < 10000) ∧ ((σ 10 x3_21.toNatClampNeg).toInt ≠ 0 → J172) ∧ ((σ 10 x3_21.toNatClampNeg).toInt = 0 → ((0 ≤ x3_21.toInt ∧ x3_21.toInt < 10000) ∧ ((σ 15 x3_21.toNatClampNeg).toInt ≠ 0 → J172) ∧ ((σ 15 x3_21.toNatClampNeg).toInt = 0 → ((0 ≤ x3_21.toInt ∧ x3_21.toInt < 10000) ∧ Q (σ 17 x3_21.toNatClampNeg)))))))))))))) ∧ (∃ J120 : Prop, (J120  → (J121 (0 : Int32))) ∧ ((σ 19 x3_21.toNatClampNeg).toInt ≠ 4 → J120) ∧ ((σ 19 x3_21.toNatClampNeg).toInt = 4 → ((0 ≤ x3_21.toInt ∧ x3_21.toInt < 10000) ∧ ((0 ≤ (σ 18 x3_21.toNatClampNeg).toInt ∧ (σ 18 x3_21.toNatClampNeg).toInt < 65536) ∧ ((σ 20 (σ 18 x3_21.toNatClampNeg).toNatClampNeg).toInt ≠ 109 → J120) ∧ ((σ 20 (σ 18 x3_21.toNatClampNeg).toNatClampNeg).toInt = 109 → ((0 ≤ x3_21.toInt ∧ x3_21.toInt < 10000) ∧ ((0 ≤ ((σ 18 x3_21.toNatClampNeg) + (1 : Int32)).toInt ∧ ((σ 18 x3_21.toNatClampNeg) + (1 : Int32)).toInt < 65536) ∧ ((σ 20 ((σ 18 x3_21.toNatClampNeg) + (1 : Int32)).toNatClampNeg).toInt ≠ 97 → J120) ∧ ((σ 20 ((σ 18 x3_21.toNatClampNeg) + (1 : Int32)).toNatClampNeg).toInt = 97 → ((0 ≤ x3_21.toInt ∧ x3_21.toInt < 10000) ∧ ((0 ≤ ((σ 18 x3_21.toNatClampNeg) + (2 : Int32)).toInt ∧ ((σ 18 x3_21.toNatClampNeg) + (2 : Int32)).toInt < 65536) ∧ ((σ 20 ((σ 18 x3_21.toNatClampNeg) + (2 : Int32)).toNatClampNeg).toInt ≠ 105 → J120) ∧ ((σ 20 ((σ 18 x3_21.toNatClampNeg) + (2 : Int32)).toNatClampNeg).toInt = 105 → ((0 ≤ x3_21.toInt ∧ x3_21.toInt < 10000) ∧ ((0 ≤ ((σ 18 x3_21.toNatClampNeg) + (3 : Int32)).toInt ∧ ((σ 18 x3_21.toNatClampNeg) + (3 : Int32)).toInt < 65536) ∧ ((σ 20 ((σ 18 x3_21.toNatClampNeg) + (3 : Int32)).toNatClampNeg).toInt ≠ 110 → J120) ∧ ((σ 20 ((σ 18 x3_21.toNatClampNeg) + (3 : Int32)).toNatClampNeg).toInt = 110 → J121 (1 : Int32)))))))))))))))))))))))))
set_option maxHeartbeats 4000000 in
set_option maxRecDepth 100000 in
theorem ct_mainOf (a : Nat → Nat) (r : Nat → Nat) {a1 : Int32} {σ τ : St} {vs : List Nat} {Q : Int32 → Prop} (hcap : vs.length ≤ CAP) (w : wp_mainOf a1 σ τ vs Q) (l : Launch) (D : va_G) (cy : Nat → ClassId) : Ct l D cy SM r (EM a) y_X14_mainOf (Cond.code y_X14_mainOf b_X14_mainOf 5 (some .int)) 1 [.ref (r 0), .int a1] σ τ vs (QIr σ τ vs Q) QT0 := by
  unfold wp_mainOf at w
  refine Ct_of (EM_ok a) (by decide) (Nat.le_of_ble_eq_true rfl) hcap (fun X hnn hF => ?_)
  show G SM r X σ τ vs [(0, .ref (r 0)), (1, .int a1)] [] 0
  refine g_iconst hF (v := 0) d_X14_mainOf_0 (by decide) ?_
  refine g_istore_n hF [(2, .int 0), (0, .ref (r 0)), (1, .int a1)] d_X14_mainOf_1 rfl hnn (by decide) rfl ?_
  obtain ⟨L2, ⟨i2, u2⟩, h2⟩ := w
  have b2 : ∀ (n2 : Nat) (x2_2 : Int32), L2 n2 x2_2 → G SM r X σ τ vs [(0, .ref (r 0)), (1, .int a1), (2, .int x2_2)] [] 2 := by
    intro n2
    induction n2 using Nat.strongRecOn with
    | _ n2 ih2 =>
      intro x2_2  w2_
      have w2_ := h2 n2 x2_2  w2_
      refine g_iload_n hF d_X14_mainOf_2 rfl 2 rfl ?_
      refine g_iload_n hF d_X14_mainOf_3 rfl 1 rfl ?_
      refine g_icmp_ge hF 184 d_X14_mainOf_4 (by decide) rfl rfl (fun c => ?_) (fun c => ?_)
      · have w1 := w2_.1 c
        refine g_iconst hF (v := (-1)) d_X14_mainOf_184 (by decide) ?_
        exact g_iret hF rfl d_X14_mainOf_185 ⟨rfl, rfl, rfl, ((-1) : Int32), rfl, w1⟩
      · have w2 := w2_.2 c
        refine g_aload_n hF d_X14_mainOf_7 rfl 0 rfl ?_
        refine g_get (v := .ref (r 22)) hF 32 obM_0 (by decide) m_1897 rfl d_X14_mainOf_8 ?_
        refine g_aload_n hF d_X14_mainOf_11 rfl 0 rfl ?_
        refine g_get (v := .ref (r 40)) hF 66 obM_0 (by decide) m_1931 rfl d_X14_mainOf_12 ?_
        refine g_iload_n hF d_X14_mainOf_15 rfl 2 rfl ?_
        have w3 := w2.2
        refine g_iald hF arM_40 (s_in (Nat.le_of_ble_eq_true rfl) w2.1.1 w2.1.2) d_X14_mainOf_16 ?_
        refine g_top (v := (σ 40 x2_2.toNatClampNeg)) rfl ?_
        refine g_iconst hF (v := 1) d_X14_mainOf_17 (by decide) ?_
        refine g_isub hF d_X14_mainOf_18 ?_
        have w4 := w3.2
        refine g_iald hF arM_22 (s_in (Nat.le_of_ble_eq_true rfl) w3.1.1 w3.1.2) d_X14_mainOf_19 ?_
        refine g_top (v := (σ 22 ((σ 40 x2_2.toNatClampNeg) - (1 : Int32)).toNatClampNeg)) rfl ?_
        refine g_istore_n hF [(3, .int (σ 22 ((σ 40 x2_2.toNatClampNeg) - (1 : Int32)).toNatClampNeg)), (0, .ref (r 0)), (1, .int a1), (2, .int x2_2)] d_X14_mainOf_20 rfl hnn (by decide) rfl ?_
        obtain ⟨L21, ⟨i21, u21⟩, h21⟩ := w4
        have b21 : ∀ (n21 : Nat) (x3_21 : Int32), L21 n21 x3_21 → G SM r X σ τ vs [(0, .ref (r 0)), (1, .int a1), (2, .int x2_2), (3, .int x3_21)] [] 21 := by
          intro n21
          induction n21 using Nat.strongRecOn with
          | _ n21 ih21 =>
            intro x3_21  w21_
            have w21_ := h21 n21 x3_21  w21_
            refine g_iload_n hF d_X14_mainOf_21 rfl 3 rfl ?_
            refine g_aload_n hF d_X14_mainOf_22 rfl 0 rfl ?_
            refine g_get (v := .ref (r 22)) hF 32 obM_0 (by decide) m_1897 rfl d_X14_mainOf_23 ?_
            refine g_aload_n hF d_X14_mainOf_26 rfl 0 rfl ?_
            refine g_get (v := .ref (r 40)) hF 66 obM_0 (by decide) m_1931 rfl d_X14_mainOf_27 ?_
            refine g_iload_n hF d_X14_mainOf_30 rfl 2 rfl ?_
            have w5 := w21_.2
            refine g_iald hF arM_40 (s_in (Nat.le_of_ble_eq_true rfl) w21_.1.1 w21_.1.2) d_X14_mainOf_31 ?_
            refine g_top (v := (σ 40 x2_2.toNatClampNeg)) rfl ?_
            have w6 := w5.2
            refine g_iald hF arM_22 (s_in (Nat.le_of_ble_eq_true rfl) w5.1.1 w5.1.2) d_X14_mainOf_32 ?_
            refine g_top (v := (σ 22 (σ 40 x2_2.toNatClampNeg).toNatClampNeg)) rfl ?_
            refine g_icmp_ge hF 178 d_X14_mainOf_33 (by decide) rfl rfl (fun c => ?_) (fun c => ?_)
            · have w7 := w6.1 c
              refine g_iinc hF (x2_2 + 1) [(2, .int (x2_2 + 1)), (0, .ref (r 0)), (1, .int a1), (3, .int x3_21)] d_X14_mainOf_178 2 rfl rfl hnn (by decide) rfl ?_
              refine g_goto hF 2 d_X14_mainOf_181 (by decide) ?_
              obtain ⟨m2, hm2, w9⟩ := w7
              exact g_sub (L' := [(0, .ref (r 0)), (1, .int a1), (2, .int (x2_2 + 1))]) [1, 2, 0] rfl (ih2 m2 hm2 (x2_2 + 1) w9)
            · have w8 := w6.2 c
              refine g_aload_n hF d_X14_mainOf_36 rfl 0 rfl ?_
              refine g_get (v := .ref (r 19)) hF 28 obM_0 (by decide) m_1893 rfl d_X14_mainOf_37 ?_
              refine g_iload_n hF d_X14_mainOf_40 rfl 3 rfl ?_
              have w9 := w8.2
              refine g_iald hF arM_19 (s_in (Nat.le_of_ble_eq_true rfl) w8.1.1 w8.1.2) d_X14_mainOf_41 ?_
              refine g_top (v := (σ 19 x3_21.toNatClampNeg)) rfl ?_
              refine g_iconst hF (v := 4) d_X14_mainOf_42 (by decide) ?_
              obtain ⟨J121, h121, w10⟩ := w9
              have b121 : ∀ (y0_121 : Int32), y0_121 = 0 ∨ y0_121 = 1 → J121 y0_121 → G SM r X σ τ vs [(0, .ref (r 0)), (1, .int a1), (2, .int x2_2), (3, .int x3_21)] [.int y0_121] 121 := by
                intro y0_121 hy0_121 w121_
                have w121_ := h121 y0_121 hy0_121 w121_
                refine g_istore hF [(4, .int y0_121), (0, .ref (r 0)), (1, .int a1), (2, .int x2_2), (3, .int x3_21)] d_X14_mainOf_121 hnn (by decide) rfl ?_
                refine g_iload hF d_X14_mainOf_123 0 rfl ?_
                obtain ⟨J172, h172, w11⟩ := w121_
                have b172 : J172  → G SM r X σ τ vs [(0, .ref (r 0)), (1, .int a1), (2, .int x2_2), (3, .int x3_21)] [] 172 := by
                  intro   w172_
                  have w172_ := h172   w172_
                  refine g_iinc hF (x3_21 + 1) [(3, .int (x3_21 + 1)), (0, .ref (r 0)), (1, .int a1), (2, .int x2_2)] d_X14_mainOf_172 3 rfl rfl hnn (by decide) rfl ?_
                  refine g_goto hF 21 d_X14_mainOf_175 (by decide) ?_
                  obtain ⟨m21, hm21, w9⟩ := w172_
                  exact g_sub (L' := [(0, .ref (r 0)), (1, .int a1), (2, .int x2_2), (3, .int (x3_21 + 1))]) [1, 2, 3, 0] rfl (ih21 m21 hm21 (x3_21 + 1) w9)
                refine g_if_eq hF 172 d_X14_mainOf_125 (by decide) rfl (fun c => ?_) (fun c => ?_)
                · have w12 := w11.1 c
                  exact g_sub (L' := [(0, .ref (r 0)), (1, .int a1), (2, .int x2_2), (3, .int x3_21)]) [1, 2, 3, 4] rfl (b172  w12)
                · have w13 := w11.2 c
                  refine g_aload_n hF d_X14_mainOf_128 rfl 1 rfl ?_
                  refine g_iload_n hF d_X14_mainOf_129 rfl 4 rfl ?_
                  refine g_iconst hF (v := 1) d_X14_mainOf_130 (by decide) ?_
                  refine g_callV (As := [.int x3_21, .int 1]) (rest := []) hF (fun l D cy => (ct_isSymbol a r hcap w13) l D cy) (Nat.le_of_ble_eq_true rfl) mV_X14_isSymbol m_2689 (recv_ob obM_0) rfl rfl (Nat.le_of_ble_eq_true rfl) d_X14_mainOf_131 (krZ (fun v131 hz131 w14 => ?_)) (fun _ _ _ h => h.elim)
                  refine g_if_eq hF 172 d_X14_mainOf_134 (by decide) rfl (fun c => ?_) (fun c => ?_)
                  · have w15 := w14.1 c
                    exact g_sub (L' := [(0, .ref (r 0)), (1, .int a1), (2, .int x2_2), (3, .int x3_21)]) [1, 2, 3, 4] rfl (b172  w15)
                  · have w16 := w14.2 c
                    refine g_aload_n hF d_X14_mainOf_137 rfl 1 rfl ?_
                    refine g_get (v := .ref (r 9)) hF 18 obM_0 (by decide) m_1883 rfl d_X14_mainOf_138 ?_
                    refine g_iload_n hF d_X14_mainOf_141 rfl 4 rfl ?_
                    have w17 := w16.2
                    refine g_iald hF arM_9 (s_in (Nat.le_of_ble_eq_true rfl) w16.1.1 w16.1.2) d_X14_mainOf_142 ?_
                    refine g_top (v := (σ 9 x3_21.toNatClampNeg)) rfl ?_
                    refine g_iconst hF (v := 2) d_X14_mainOf_143 (by decide) ?_
                    refine g_icmp_ne (yv := 2) hF 172 d_X14_mainOf_144 (by decide) rfl (by decide) (fun c => ?_) (fun c => ?_)
                    · have w18 := w17.1 c
                      exact g_sub (L' := [(0, .ref (r 0)), (1, .int a1), (2, .int x2_2), (3, .int x3_21)]) [1, 2, 3, 4] rfl (b172  w18)
                    · have w19 := w17.2 c
                      refine g_aload_n hF d_X14_mainOf_147 rfl 1 rfl ?_
                      refine g_get (v := .ref (r 10)) hF 19 obM_0 (by decide) m_1884 rfl d_X14_mainOf_148 ?_
                      refine g_iload_n hF d_X14_mainOf_151 rfl 4 rfl ?_
                      have w20 := w19.2
                      refine g_iald hF arM_10 (s_in (Nat.le_of_ble_eq_true rfl) w19.1.1 w19.1.2) d_X14_mainOf_152 ?_
                      refine g_top (v := (σ 10 x3_21.toNatClampNeg)) rfl ?_
                      refine g_if_ne hF 172 d_X14_mainOf_153 (by decide) rfl (fun c => ?_) (fun c => ?_)
                      · have w21 := w20.1 c
                        exact g_sub (L' := [(0, .ref (r 0)), (1, .int a1), (2, .int x2_2), (3, .int x3_21)]) [1, 2, 3, 4] rfl (b172  w21)
                      · have w22 := w20.2 c
                        refine g_aload_n hF d_X14_mainOf_156 rfl 1 rfl ?_
                        refine g_get (v := .ref (r 15)) hF 24 obM_0 (by decide) m_1889 rfl d_X14_mainOf_157 ?_
                        refine g_iload_n hF d_X14_mainOf_160 rfl 4 rfl ?_
                        have w23 := w22.2
                        refine g_iald hF arM_15 (s_in (Nat.le_of_ble_eq_true rfl) w22.1.1 w22.1.2) d_X14_mainOf_161 ?_
                        refine g_top (v := (σ 15 x3_21.toNatClampNeg)) rfl ?_
                        refine g_if_ne hF 172 d_X14_mainOf_162 (by decide) rfl (fun c => ?_) (fun c => ?_)
                        · have w24 := w23.1 c
                          exact g_sub (L' := [(0, .ref (r 0)), (1, .int a1), (2, .int x2_2), (3, .int x3_21)]) [1, 2, 3, 4] rfl (b172  w24)
                        · have w25 := w23.2 c
                          refine g_aload_n hF d_X14_mainOf_165 rfl 1 rfl ?_
                          refine g_get (v := .ref (r 17)) hF 26 obM_0 (by decide) m_1891 rfl d_X14_mainOf_166 ?_
                          refine g_iload_n hF d_X14_mainOf_169 rfl 4 rfl ?_
                          have w26 := w25.2
                          refine g_iald hF arM_17 (s_in (Nat.le_of_ble_eq_true rfl) w25.1.1 w25.1.2) d_X14_mainOf_170 ?_
                          refine g_top (v := (σ 17 x3_21.toNatClampNeg)) rfl ?_
                          exact g_iret hF rfl d_X14_mainOf_171 ⟨rfl, rfl, rfl, (σ 17 x3_21.toNatClampNeg), rfl, w26⟩
              obtain ⟨J120, h120, w27⟩ := w10
              have b120 : J120  → G SM r X σ τ vs [(0, .ref (r 0)), (1, .int a1), (2, .int x2_2), (3, .int x3_21)] [] 120 := by
                intro   w120_
                have w120_ := h120   w120_
                refine g_iconst hF (v := 0) d_X14_mainOf_120 (by decide) ?_
                exact b121 (0 : Int32) (Or.inl rfl) w120_
              refine g_icmp_ne (yv := 4) hF 120 d_X14_mainOf_43 (by decide) rfl (by decide) (fun c => ?_) (fun c => ?_)
              · have w28 := w27.1 c
                exact b120  w28
              · have w29 := w27.2 c
                refine g_aload_n hF d_X14_mainOf_46 rfl 0 rfl ?_
                refine g_get (v := .ref (r 20)) hF 29 obM_0 (by decide) m_1894 rfl d_X14_mainOf_47 ?_
                refine g_aload_n hF d_X14_mainOf_50 rfl 0 rfl ?_
                refine g_get (v := .ref (r 18)) hF 27 obM_0 (by decide) m_1892 rfl d_X14_mainOf_51 ?_
                refine g_iload_n hF d_X14_mainOf_54 rfl 3 rfl ?_
                have w30 := w29.2
                refine g_iald hF arM_18 (s_in (Nat.le_of_ble_eq_true rfl) w29.1.1 w29.1.2) d_X14_mainOf_55 ?_
                refine g_top (v := (σ 18 x3_21.toNatClampNeg)) rfl ?_
                have w31 := w30.2
                refine g_bald hF arM_20 (s_in (Nat.le_of_ble_eq_true rfl) w30.1.1 w30.1.2) d_X14_mainOf_56 ?_
                refine g_top (v := (σ 20 (σ 18 x3_21.toNatClampNeg).toNatClampNeg)) rfl ?_
                refine g_bipush hF (v := 109) d_X14_mainOf_57 (by decide) ?_
                refine g_icmp_ne (yv := 109) hF 120 d_X14_mainOf_59 (by decide) rfl (by decide) (fun c => ?_) (fun c => ?_)
                · have w32 := w31.1 c
                  exact b120  w32
                · have w33 := w31.2 c
                  refine g_aload_n hF d_X14_mainOf_62 rfl 0 rfl ?_
                  refine g_get (v := .ref (r 20)) hF 29 obM_0 (by decide) m_1894 rfl d_X14_mainOf_63 ?_
                  refine g_aload_n hF d_X14_mainOf_66 rfl 0 rfl ?_
                  refine g_get (v := .ref (r 18)) hF 27 obM_0 (by decide) m_1892 rfl d_X14_mainOf_67 ?_
                  refine g_iload_n hF d_X14_mainOf_70 rfl 3 rfl ?_
                  have w34 := w33.2
                  refine g_iald hF arM_18 (s_in (Nat.le_of_ble_eq_true rfl) w33.1.1 w33.1.2) d_X14_mainOf_71 ?_
                  refine g_top (v := (σ 18 x3_21.toNatClampNeg)) rfl ?_
                  refine g_iconst hF (v := 1) d_X14_mainOf_72 (by decide) ?_
                  refine g_iadd hF d_X14_mainOf_73 ?_
                  have w35 := w34.2
                  refine g_bald hF arM_20 (s_in (Nat.le_of_ble_eq_true rfl) w34.1.1 w34.1.2) d_X14_mainOf_74 ?_
                  refine g_top (v := (σ 20 ((σ 18 x3_21.toNatClampNeg) + (1 : Int32)).toNatClampNeg)) rfl ?_
                  refine g_bipush hF (v := 97) d_X14_mainOf_75 (by decide) ?_
                  refine g_icmp_ne (yv := 97) hF 120 d_X14_mainOf_77 (by decide) rfl (by decide) (fun c => ?_) (fun c => ?_)
                  · have w36 := w35.1 c
                    exact b120  w36
                  · have w37 := w35.2 c
                    refine g_aload_n hF d_X14_mainOf_80 rfl 0 rfl ?_
                    refine g_get (v := .ref (r 20)) hF 29 obM_0 (by decide) m_1894 rfl d_X14_mainOf_81 ?_
                    refine g_aload_n hF d_X14_mainOf_84 rfl 0 rfl ?_
                    refine g_get (v := .ref (r 18)) hF 27 obM_0 (by decide) m_1892 rfl d_X14_mainOf_85 ?_
                    refine g_iload_n hF d_X14_mainOf_88 rfl 3 rfl ?_
                    have w38 := w37.2
                    refine g_iald hF arM_18 (s_in (Nat.le_of_ble_eq_true rfl) w37.1.1 w37.1.2) d_X14_mainOf_89 ?_
                    refine g_top (v := (σ 18 x3_21.toNatClampNeg)) rfl ?_
                    refine g_iconst hF (v := 2) d_X14_mainOf_90 (by decide) ?_
                    refine g_iadd hF d_X14_mainOf_91 ?_
                    have w39 := w38.2
                    refine g_bald hF arM_20 (s_in (Nat.le_of_ble_eq_true rfl) w38.1.1 w38.1.2) d_X14_mainOf_92 ?_
                    refine g_top (v := (σ 20 ((σ 18 x3_21.toNatClampNeg) + (2 : Int32)).toNatClampNeg)) rfl ?_
                    refine g_bipush hF (v := 105) d_X14_mainOf_93 (by decide) ?_
                    refine g_icmp_ne (yv := 105) hF 120 d_X14_mainOf_95 (by decide) rfl (by decide) (fun c => ?_) (fun c => ?_)
                    · have w40 := w39.1 c
                      exact b120  w40
                    · have w41 := w39.2 c
                      refine g_aload_n hF d_X14_mainOf_98 rfl 0 rfl ?_
                      refine g_get (v := .ref (r 20)) hF 29 obM_0 (by decide) m_1894 rfl d_X14_mainOf_99 ?_
                      refine g_aload_n hF d_X14_mainOf_102 rfl 0 rfl ?_
                      refine g_get (v := .ref (r 18)) hF 27 obM_0 (by decide) m_1892 rfl d_X14_mainOf_103 ?_
                      refine g_iload_n hF d_X14_mainOf_106 rfl 3 rfl ?_
                      have w42 := w41.2
                      refine g_iald hF arM_18 (s_in (Nat.le_of_ble_eq_true rfl) w41.1.1 w41.1.2) d_X14_mainOf_107 ?_
                      refine g_top (v := (σ 18 x3_21.toNatClampNeg)) rfl ?_
                      refine g_iconst hF (v := 3) d_X14_mainOf_108 (by decide) ?_
                      refine g_iadd hF d_X14_mainOf_109 ?_
                      have w43 := w42.2
                      refine g_bald hF arM_20 (s_in (Nat.le_of_ble_eq_true rfl) w42.1.1 w42.1.2) d_X14_mainOf_110 ?_
                      refine g_top (v := (σ 20 ((σ 18 x3_21.toNatClampNeg) + (3 : Int32)).toNatClampNeg)) rfl ?_
                      refine g_bipush hF (v := 110) d_X14_mainOf_111 (by decide) ?_
                      refine g_icmp_ne (yv := 110) hF 120 d_X14_mainOf_113 (by decide) rfl (by decide) (fun c => ?_) (fun c => ?_)
                      · have w44 := w43.1 c
                        exact b120  w44
                      · have w45 := w43.2 c
                        refine g_iconst hF (v := 1) d_X14_mainOf_116 (by decide) ?_
                        refine g_goto hF 121 d_X14_mainOf_117 (by decide) ?_
                        exact b121 (1 : Int32) (Or.inr rfl) w45
        exact g_sub (L' := [(0, .ref (r 0)), (1, .int a1), (2, .int x2_2), (3, .int (σ 22 ((σ 40 x2_2.toNatClampNeg) - (1 : Int32)).toNatClampNeg))]) [1, 2, 3, 0] rfl (b21 i21 (σ 22 ((σ 40 x2_2.toNatClampNeg) - (1 : Int32)).toNatClampNeg) u21)
  exact g_sub (L' := [(0, .ref (r 0)), (1, .int a1), (2, .int 0)]) [1, 2, 0] rfl (b2 i2 (0 : Int32) u2)
def wp_fault (a1 : Int32) (σ τ : St) (vs : List Nat) (Q : Int32 → Prop) : Prop :=
  (a1.toInt ≠ 0 → (a1.toInt ≠ 1 → Q ((-1) : Int32)) ∧ (a1.toInt = 1 → Q (σ 0 72))) ∧ (a1.toInt = 0 → Q (σ 0 71))
set_option maxHeartbeats 4000000 in
set_option maxRecDepth 100000 in
theorem ct_fault (a : Nat → Nat) (r : Nat → Nat) {a1 : Int32} {σ τ : St} {vs : List Nat} {Q : Int32 → Prop} (hcap : vs.length ≤ CAP) (w : wp_fault a1 σ τ vs Q) (l : Launch) (D : va_G) (cy : Nat → ClassId) : Ct l D cy SM r (EM a) y_X14_fault (Cond.code y_X14_fault b_X14_fault 2 (some .int)) 0 [.ref (r 0), .int a1] σ τ vs (QIr σ τ vs Q) QT0 := by
  unfold wp_fault at w
  refine Ct_of (EM_ok a) (by decide) (Nat.le_of_ble_eq_true rfl) hcap (fun X hnn hF => ?_)
  show G SM r X σ τ vs [(0, .ref (r 0)), (1, .int a1)] [] 0
  refine g_iload_n hF d_X14_fault_0 rfl 1 rfl ?_
  refine g_if_ne hF 11 d_X14_fault_1 (by decide) rfl (fun c => ?_) (fun c => ?_)
  · have w1 := w.1 c
    refine g_iload_n hF d_X14_fault_11 rfl 1 rfl ?_
    refine g_iconst hF (v := 1) d_X14_fault_12 (by decide) ?_
    refine g_icmp_ne (yv := 1) hF 23 d_X14_fault_13 (by decide) rfl (by decide) (fun c => ?_) (fun c => ?_)
    · have w2 := w1.1 c
      refine g_iconst hF (v := (-1)) d_X14_fault_23 (by decide) ?_
      exact g_iret hF rfl d_X14_fault_24 ⟨rfl, rfl, rfl, ((-1) : Int32), rfl, w2⟩
    · have w3 := w1.2 c
      refine g_aload_n hF d_X14_fault_16 rfl 0 rfl ?_
      refine g_get (v := .int (σ 0 72)) hF 72 obM_0 (by decide) m_1937 rfl d_X14_fault_17 ?_
      refine g_goto hF 24 d_X14_fault_20 (by decide) ?_
      exact g_iret hF rfl d_X14_fault_24 ⟨rfl, rfl, rfl, (σ 0 72), rfl, w3⟩
  · have w4 := w.2 c
    refine g_aload_n hF d_X14_fault_4 rfl 0 rfl ?_
    refine g_get (v := .int (σ 0 71)) hF 71 obM_0 (by decide) m_1936 rfl d_X14_fault_5 ?_
    refine g_goto hF 24 d_X14_fault_8 (by decide) ?_
    exact g_iret hF rfl d_X14_fault_24 ⟨rfl, rfl, rfl, (σ 0 71), rfl, w4⟩
def wp_isTray (a1 : Int32) (a2 : Int32) (σ τ : St) (vs : List Nat) (Q : Int32 → Prop) : Prop :=
  ((0 ≤ a1.toInt ∧ a1.toInt < 10000) ∧ ((σ 19 a1.toNatClampNeg).toInt = a2.toInt → ∃ L14 : Nat → Int32 → Prop, (∃ n, L14 n (0 : Int32)) ∧ ∀ (n14 : Nat) (x3_14 : Int32), L14 n14 x3_14 → ((a2.toInt ≤ x3_14.toInt → Q (1 : Int32)) ∧ (x3_14.toInt < a2.toInt → ((0 ≤ a1.toInt ∧ a1.toInt < 10000) ∧ ((0 ≤ ((σ 18 a1.toNatClampNeg) + x3_14).toInt ∧ ((σ 18 a1.toNatClampNeg) + x3_14).toInt < 65536) ∧ ((0 ≤ x3_14.toInt ∧ x3_14.toInt < 16000) ∧ ((σ 20 ((σ 18 a1.toNatClampNeg) + x3_14).toNatClampNeg).toInt = (σ 1 x3_14.toNatClampNeg).toInt → ∃ m, m < n14 ∧ L14 m (x3_14 + 1)) ∧ ((σ 20 ((σ 18 a1.toNatClampNeg) + x3_14).toNatClampNeg).toInt ≠ (σ 1 x3_14.toNatClampNeg).toInt → Q (0 : Int32)))))))) ∧ ((σ 19 a1.toNatClampNeg).toInt ≠ a2.toInt → Q (0 : Int32)))
set_option maxHeartbeats 4000000 in
set_option maxRecDepth 100000 in
theorem ct_isTray (a : Nat → Nat) (r : Nat → Nat) {a1 : Int32} {a2 : Int32} {σ τ : St} {vs : List Nat} {Q : Int32 → Prop} (hcap : vs.length ≤ CAP) (w : wp_isTray a1 a2 σ τ vs Q) (l : Launch) (D : va_G) (cy : Nat → ClassId) : Ct l D cy SM r (EM a) y_X14_isTray (Cond.code y_X14_isTray b_X14_isTray 4 (some .boolean)) 0 [.ref (r 0), .int a1, .int a2] σ τ vs (QZr σ τ vs Q) QT0 := by
  unfold wp_isTray at w
  refine Ct_of (EM_ok a) (by decide) (Nat.le_of_ble_eq_true rfl) hcap (fun X hnn hF => ?_)
  show G SM r X σ τ vs [(0, .ref (r 0)), (1, .int a1), (2, .int a2)] [] 0
  refine g_aload_n hF d_X14_isTray_0 rfl 0 rfl ?_
  refine g_get (v := .ref (r 19)) hF 28 obM_0 (by decide) m_1893 rfl d_X14_isTray_1 ?_
  refine g_iload_n hF d_X14_isTray_4 rfl 1 rfl ?_
  have w1 := w.2
  refine g_iald hF arM_19 (s_in (Nat.le_of_ble_eq_true rfl) w.1.1 w.1.2) d_X14_isTray_5 ?_
  refine g_top (v := (σ 19 a1.toNatClampNeg)) rfl ?_
  refine g_iload_n hF d_X14_isTray_6 rfl 2 rfl ?_
  refine g_icmp_eq hF 12 d_X14_isTray_7 (by decide) rfl rfl (fun c => ?_) (fun c => ?_)
  · have w2 := w1.1 c
    refine g_iconst hF (v := 0) d_X14_isTray_12 (by decide) ?_
    refine g_istore_n hF [(3, .int 0), (0, .ref (r 0)), (1, .int a1), (2, .int a2)] d_X14_isTray_13 rfl hnn (by decide) rfl ?_
    obtain ⟨L14, ⟨i14, u14⟩, h14⟩ := w2
    have b14 : ∀ (n14 : Nat) (x3_14 : Int32), L14 n14 x3_14 → G SM r X σ τ vs [(0, .ref (r 0)), (1, .int a1), (2, .int a2), (3, .int x3_14)] [] 14 := by
      intro n14
      induction n14 using Nat.strongRecOn with
      | _ n14 ih14 =>
        intro x3_14  w14_
        have w14_ := h14 n14 x3_14  w14_
        refine g_iload_n hF d_X14_isTray_14 rfl 3 rfl ?_
        refine g_iload_n hF d_X14_isTray_15 rfl 2 rfl ?_
        refine g_icmp_ge hF 49 d_X14_isTray_16 (by decide) rfl rfl (fun c => ?_) (fun c => ?_)
        · have w3 := w14_.1 c
          refine g_iconst hF (v := 1) d_X14_isTray_49 (by decide) ?_
          exact g_zret hF rfl (k_nz (Or.inr rfl)) d_X14_isTray_50 ⟨rfl, rfl, rfl, (1 : Int32), rfl, (Or.inr rfl), w3⟩
        · have w4 := w14_.2 c
          refine g_aload_n hF d_X14_isTray_19 rfl 0 rfl ?_
          refine g_get (v := .ref (r 20)) hF 29 obM_0 (by decide) m_1894 rfl d_X14_isTray_20 ?_
          refine g_aload_n hF d_X14_isTray_23 rfl 0 rfl ?_
          refine g_get (v := .ref (r 18)) hF 27 obM_0 (by decide) m_1892 rfl d_X14_isTray_24 ?_
          refine g_iload_n hF d_X14_isTray_27 rfl 1 rfl ?_
          have w5 := w4.2
          refine g_iald hF arM_18 (s_in (Nat.le_of_ble_eq_true rfl) w4.1.1 w4.1.2) d_X14_isTray_28 ?_
          refine g_top (v := (σ 18 a1.toNatClampNeg)) rfl ?_
          refine g_iload_n hF d_X14_isTray_29 rfl 3 rfl ?_
          refine g_iadd hF d_X14_isTray_30 ?_
          have w6 := w5.2
          refine g_bald hF arM_20 (s_in (Nat.le_of_ble_eq_true rfl) w5.1.1 w5.1.2) d_X14_isTray_31 ?_
          refine g_top (v := (σ 20 ((σ 18 a1.toNatClampNeg) + x3_14).toNatClampNeg)) rfl ?_
          refine g_aload_n hF d_X14_isTray_32 rfl 0 rfl ?_
          refine g_get (v := .ref (r 1)) hF 0 obM_0 (by decide) m_1865 rfl d_X14_isTray_33 ?_
          refine g_iload_n hF d_X14_isTray_36 rfl 3 rfl ?_
          have w7 := w6.2
          refine g_bald hF arM_1 (s_in (Nat.le_of_ble_eq_true rfl) w6.1.1 w6.1.2) d_X14_isTray_37 ?_
          refine g_top (v := (σ 1 x3_14.toNatClampNeg)) rfl ?_
          refine g_icmp_eq hF 43 d_X14_isTray_38 (by decide) rfl rfl (fun c => ?_) (fun c => ?_)
          · have w8 := w7.1 c
            refine g_iinc hF (x3_14 + 1) [(3, .int (x3_14 + 1)), (0, .ref (r 0)), (1, .int a1), (2, .int a2)] d_X14_isTray_43 3 rfl rfl hnn (by decide) rfl ?_
            refine g_goto hF 14 d_X14_isTray_46 (by decide) ?_
            obtain ⟨m14, hm14, w9⟩ := w8
            exact g_sub (L' := [(0, .ref (r 0)), (1, .int a1), (2, .int a2), (3, .int (x3_14 + 1))]) [1, 2, 3, 0] rfl (ih14 m14 hm14 (x3_14 + 1) w9)
          · have w9 := w7.2 c
            refine g_iconst hF (v := 0) d_X14_isTray_41 (by decide) ?_
            exact g_zret hF rfl (k_nz (Or.inl rfl)) d_X14_isTray_42 ⟨rfl, rfl, rfl, (0 : Int32), rfl, (Or.inl rfl), w9⟩
    exact g_sub (L' := [(0, .ref (r 0)), (1, .int a1), (2, .int a2), (3, .int 0)]) [1, 2, 3, 0] rfl (b14 i14 (0 : Int32) u14)
  · have w10 := w1.2 c
    refine g_iconst hF (v := 0) d_X14_isTray_10 (by decide) ?_
    exact g_zret hF rfl (k_nz (Or.inl rfl)) d_X14_isTray_11 ⟨rfl, rfl, rfl, (0 : Int32), rfl, (Or.inl rfl), w10⟩
def wp_input (a1 : Int32) (σ τ : St) (vs : List Nat) (Q : Int32 → St → St → List Nat → Prop) : Prop :=
  ((σ 0 88).toInt ≠ 4096 → ((0 ≤ (σ 0 88).toInt ∧ (σ 0 88).toInt < 4096) ∧ Q ((σ 0 88) + (1 : Int32)) (upC (upC σ 52 (σ 0 88).toNatClampNeg (vp_nar .byte a1.toInt8.toInt32)) 0 88 ((σ 0 88) + (1 : Int32))) τ vs)) ∧ ((σ 0 88).toInt = 4096 → Q ((-1) : Int32) σ τ vs)
set_option maxHeartbeats 4000000 in
set_option maxRecDepth 100000 in
theorem ct_input (a : Nat → Nat) (r : Nat → Nat) {a1 : Int32} {σ τ : St} {vs : List Nat} {Q : Int32 → St → St → List Nat → Prop} (hcap : vs.length ≤ CAP) (w : wp_input a1 σ τ vs Q) (l : Launch) (D : va_G) (cy : Nat → ClassId) : Ct l D cy SM r (EM a) y_X14_input (Cond.code y_X14_input b_X14_input 2 (some .int)) 0 [.ref (r 0), .int a1] σ τ vs (QIs Q) QT0 := by
  unfold wp_input at w
  refine Ct_of (EM_ok a) (by decide) (Nat.le_of_ble_eq_true rfl) hcap (fun X hnn hF => ?_)
  show G SM r X σ τ vs [(0, .ref (r 0)), (1, .int a1)] [] 0
  refine g_aload_n hF d_X14_input_0 rfl 0 rfl ?_
  refine g_get (v := .int (σ 0 88)) hF 88 obM_0 (by decide) m_1953 rfl d_X14_input_1 ?_
  refine g_aload_n hF d_X14_input_4 rfl 0 rfl ?_
  refine g_get (v := .ref (r 52)) hF 87 obM_0 (by decide) m_1952 rfl d_X14_input_5 ?_
  refine g_alen hF arM_52 (fun _ => ⟨0, _, rfl⟩) (v := 4096) (by decide) d_X14_input_8 ?_
  refine g_icmp_ne (yv := 4096) hF 14 d_X14_input_9 (by decide) rfl (by decide) (fun c => ?_) (fun c => ?_)
  · have w1 := w.1 c
    refine g_aload_n hF d_X14_input_14 rfl 0 rfl ?_
    refine g_get (v := .ref (r 52)) hF 87 obM_0 (by decide) m_1952 rfl d_X14_input_15 ?_
    refine g_aload_n hF d_X14_input_18 rfl 0 rfl ?_
    refine g_get (v := .int (σ 0 88)) hF 88 obM_0 (by decide) m_1953 rfl d_X14_input_19 ?_
    refine g_iload_n hF d_X14_input_22 rfl 1 rfl ?_
    refine g_i2b hF d_X14_input_23 ?_
    have w2 := w1.2
    refine g_bast hF arM_52 (s_in (Nat.le_of_ble_eq_true rfl) w1.1.1 w1.1.2) d_X14_input_24 ?_
    refine g_aload_n hF d_X14_input_25 rfl 0 rfl ?_
    refine g_dup hF d_X14_input_26 rfl ?_
    refine g_get (v := .int (σ 0 88)) hF 88 obM_0 (by decide) m_1953 rfl d_X14_input_27 ?_
    refine g_iconst hF (v := 1) d_X14_input_30 (by decide) ?_
    refine g_iadd hF d_X14_input_31 ?_
    refine g_put (v := ((σ 0 88) + (1 : Int32))) hF 88 obM_0 (by decide) m_1953 rfl rfl rfl d_X14_input_32 ?_
    refine g_aload_n hF d_X14_input_35 rfl 0 rfl ?_
    refine g_get (v := .int ((σ 0 88) + (1 : Int32))) hF 88 obM_0 (by decide) m_1953 rfl d_X14_input_36 ?_
    exact g_iret hF rfl d_X14_input_39 ⟨((σ 0 88) + (1 : Int32)), rfl, w2⟩
  · have w3 := w.2 c
    refine g_iconst hF (v := (-1)) d_X14_input_12 (by decide) ?_
    exact g_iret hF rfl d_X14_input_13 ⟨((-1) : Int32), rfl, w3⟩
def wp_ends (a1 : Int32) (a2 : Int32) (a3 : Int32) (σ τ : St) (vs : List Nat) (Q : St → St → List Nat → Prop) : Prop :=
  Q (upC (upC (upC σ 0 97 a1) 0 95 a2) 0 96 a3) τ vs
set_option maxHeartbeats 4000000 in
set_option maxRecDepth 100000 in
theorem ct_ends (a : Nat → Nat) (r : Nat → Nat) {a1 : Int32} {a2 : Int32} {a3 : Int32} {σ τ : St} {vs : List Nat} {Q : St → St → List Nat → Prop} (hcap : vs.length ≤ CAP) (w : wp_ends a1 a2 a3 σ τ vs Q) (l : Launch) (D : va_G) (cy : Nat → ClassId) : Ct l D cy SM r (EM a) y_X14_ends (Cond.code y_X14_ends b_X14_ends 4 none) 0 [.ref (r 0), .int a1, .int a2, .int a3] σ τ vs (QVs Q) QT0 := by
  unfold wp_ends at w
  refine Ct_of (EM_ok a) (by decide) (Nat.le_of_ble_eq_true rfl) hcap (fun X hnn hF => ?_)
  show G SM r X σ τ vs [(0, .ref (r 0)), (1, .int a1), (2, .int a2), (3, .int a3)] [] 0
  refine g_aload_n hF d_X14_ends_0 rfl 0 rfl ?_
  refine g_iload_n hF d_X14_ends_1 rfl 1 rfl ?_
  refine g_put (v := a1) hF 97 obM_0 (by decide) m_1962 rfl rfl rfl d_X14_ends_2 ?_
  refine g_aload_n hF d_X14_ends_5 rfl 0 rfl ?_
  refine g_iload_n hF d_X14_ends_6 rfl 2 rfl ?_
  refine g_put (v := a2) hF 95 obM_0 (by decide) m_1960 rfl rfl rfl d_X14_ends_7 ?_
  refine g_aload_n hF d_X14_ends_10 rfl 0 rfl ?_
  refine g_iload_n hF d_X14_ends_11 rfl 3 rfl ?_
  refine g_put (v := a3) hF 96 obM_0 (by decide) m_1961 rfl rfl rfl d_X14_ends_12 ?_
  exact g_vret hF rfl d_X14_ends_15 ⟨rfl, w⟩
def wp_parametersOf (a1 : Int32) (σ τ : St) (vs : List Nat) (Q : Int32 → Prop) : Prop :=
  ((0 ≤ a1.toInt ∧ a1.toInt < 10000) ∧ Q (σ 54 a1.toNatClampNeg))
set_option maxHeartbeats 4000000 in
set_option maxRecDepth 100000 in
theorem ct_parametersOf (a : Nat → Nat) (r : Nat → Nat) {a1 : Int32} {σ τ : St} {vs : List Nat} {Q : Int32 → Prop} (hcap : vs.length ≤ CAP) (w : wp_parametersOf a1 σ τ vs Q) (l : Launch) (D : va_G) (cy : Nat → ClassId) : Ct l D cy SM r (EM a) y_X14_parametersOf (Cond.code y_X14_parametersOf b_X14_parametersOf 2 (some .int)) 0 [.ref (r 0), .int a1] σ τ vs (QIr σ τ vs Q) QT0 := by
  unfold wp_parametersOf at w
  refine Ct_of (EM_ok a) (by decide) (Nat.le_of_ble_eq_true rfl) hcap (fun X hnn hF => ?_)
  show G SM r X σ τ vs [(0, .ref (r 0)), (1, .int a1)] [] 0
  refine g_aload_n hF d_X14_parametersOf_0 rfl 0 rfl ?_
  refine g_get (v := .ref (r 54)) hF 99 obM_0 (by decide) m_1964 rfl d_X14_parametersOf_1 ?_
  refine g_iload_n hF d_X14_parametersOf_4 rfl 1 rfl ?_
  have w1 := w.2
  refine g_iald hF arM_54 (s_in (Nat.le_of_ble_eq_true rfl) w.1.1 w.1.2) d_X14_parametersOf_5 ?_
  refine g_top (v := (σ 54 a1.toNatClampNeg)) rfl ?_
  exact g_iret hF rfl d_X14_parametersOf_6 ⟨rfl, rfl, rfl, (σ 54 a1.toNatClampNeg), rfl, w1⟩
def wp_rowOf (a1 : Int32) (σ τ : St) (vs : List Nat) (Q : Int32 → Prop) : Prop :=
  ((0 ≤ ((σ 0 86) - (1 : Int32)).toInt ∧ ((σ 0 86) - (1 : Int32)).toInt < 260) ∧ ((0 ≤ (σ 50 ((σ 0 86) - (1 : Int32)).toNatClampNeg).toInt ∧ (σ 50 ((σ 0 86) - (1 : Int32)).toNatClampNeg).toInt < 10000) ∧ Q ((σ 29 (σ 50 ((σ 0 86) - (1 : Int32)).toNatClampNeg).toNatClampNeg) + ((2 : Int32) * a1))))
set_option maxHeartbeats 4000000 in
set_option maxRecDepth 100000 in
theorem ct_rowOf (a : Nat → Nat) (r : Nat → Nat) {a1 : Int32} {σ τ : St} {vs : List Nat} {Q : Int32 → Prop} (hcap : vs.length ≤ CAP) (w : wp_rowOf a1 σ τ vs Q) (l : Launch) (D : va_G) (cy : Nat → ClassId) : Ct l D cy SM r (EM a) y_X14_rowOf (Cond.code y_X14_rowOf b_X14_rowOf 2 (some .int)) 0 [.ref (r 0), .int a1] σ τ vs (QIr σ τ vs Q) QT0 := by
  unfold wp_rowOf at w
  refine Ct_of (EM_ok a) (by decide) (Nat.le_of_ble_eq_true rfl) hcap (fun X hnn hF => ?_)
  show G SM r X σ τ vs [(0, .ref (r 0)), (1, .int a1)] [] 0
  refine g_aload_n hF d_X14_rowOf_0 rfl 0 rfl ?_
  refine g_get (v := .ref (r 29)) hF 43 obM_0 (by decide) m_1908 rfl d_X14_rowOf_1 ?_
  refine g_aload_n hF d_X14_rowOf_4 rfl 0 rfl ?_
  refine g_get (v := .ref (r 50)) hF 84 obM_0 (by decide) m_1949 rfl d_X14_rowOf_5 ?_
  refine g_aload_n hF d_X14_rowOf_8 rfl 0 rfl ?_
  refine g_get (v := .int (σ 0 86)) hF 86 obM_0 (by decide) m_1951 rfl d_X14_rowOf_9 ?_
  refine g_iconst hF (v := 1) d_X14_rowOf_12 (by decide) ?_
  refine g_isub hF d_X14_rowOf_13 ?_
  have w1 := w.2
  refine g_iald hF arM_50 (s_in (Nat.le_of_ble_eq_true rfl) w.1.1 w.1.2) d_X14_rowOf_14 ?_
  refine g_top (v := (σ 50 ((σ 0 86) - (1 : Int32)).toNatClampNeg)) rfl ?_
  have w2 := w1.2
  refine g_iald hF arM_29 (s_in (Nat.le_of_ble_eq_true rfl) w1.1.1 w1.1.2) d_X14_rowOf_15 ?_
  refine g_top (v := (σ 29 (σ 50 ((σ 0 86) - (1 : Int32)).toNatClampNeg).toNatClampNeg)) rfl ?_
  refine g_iconst hF (v := 2) d_X14_rowOf_16 (by decide) ?_
  refine g_iload_n hF d_X14_rowOf_17 rfl 1 rfl ?_
  refine g_imul hF d_X14_rowOf_18 ?_
  refine g_iadd hF d_X14_rowOf_19 ?_
  exact g_iret hF rfl d_X14_rowOf_20 ⟨rfl, rfl, rfl, ((σ 29 (σ 50 ((σ 0 86) - (1 : Int32)).toNatClampNeg).toNatClampNeg) + ((2 : Int32) * a1)), rfl, w2⟩
def wp_push (a1 : Int32) (σ τ : St) (vs : List Nat) (Q : St → St → List Nat → Prop) : Prop :=
  ((0 ≤ (σ 0 81).toInt ∧ (σ 0 81).toInt < 140000) ∧ Q (upC (upC σ 47 (σ 0 81).toNatClampNeg a1) 0 81 ((σ 0 81) + (1 : Int32))) τ vs)
set_option maxHeartbeats 4000000 in
set_option maxRecDepth 100000 in
theorem ct_push (a : Nat → Nat) (r : Nat → Nat) {a1 : Int32} {σ τ : St} {vs : List Nat} {Q : St → St → List Nat → Prop} (hcap : vs.length ≤ CAP) (w : wp_push a1 σ τ vs Q) (l : Launch) (D : va_G) (cy : Nat → ClassId) : Ct l D cy SM r (EM a) y_X14_push (Cond.code y_X14_push b_X14_push 2 none) 0 [.ref (r 0), .int a1] σ τ vs (QVs Q) QT0 := by
  unfold wp_push at w
  refine Ct_of (EM_ok a) (by decide) (Nat.le_of_ble_eq_true rfl) hcap (fun X hnn hF => ?_)
  show G SM r X σ τ vs [(0, .ref (r 0)), (1, .int a1)] [] 0
  refine g_aload_n hF d_X14_push_0 rfl 0 rfl ?_
  refine g_get (v := .ref (r 47)) hF 80 obM_0 (by decide) m_1945 rfl d_X14_push_1 ?_
  refine g_aload_n hF d_X14_push_4 rfl 0 rfl ?_
  refine g_get (v := .int (σ 0 81)) hF 81 obM_0 (by decide) m_1946 rfl d_X14_push_5 ?_
  refine g_iload_n hF d_X14_push_8 rfl 1 rfl ?_
  have w1 := w.2
  refine g_iast hF arM_47 (s_in (Nat.le_of_ble_eq_true rfl) w.1.1 w.1.2) d_X14_push_9 ?_
  refine g_aload_n hF d_X14_push_10 rfl 0 rfl ?_
  refine g_dup hF d_X14_push_11 rfl ?_
  refine g_get (v := .int (σ 0 81)) hF 81 obM_0 (by decide) m_1946 rfl d_X14_push_12 ?_
  refine g_iconst hF (v := 1) d_X14_push_15 (by decide) ?_
  refine g_iadd hF d_X14_push_16 ?_
  refine g_put (v := ((σ 0 81) + (1 : Int32))) hF 81 obM_0 (by decide) m_1946 rfl rfl rfl d_X14_push_17 ?_
  exact g_vret hF rfl d_X14_push_20 ⟨rfl, w1⟩
def wp_getLocal (a1 : Int32) (σ τ : St) (vs : List Nat) (Q : Int32 → Prop) : Prop :=
  wp_rowOf a1 σ τ vs (fun v6 => ((0 ≤ v6.toInt ∧ v6.toInt < 524288) ∧ ((σ 8 v6.toNatClampNeg).toInt < 0 → ((0 ≤ ((((σ 0 86) - (1 : Int32)) * (100 : Int32)) + a1).toInt ∧ ((((σ 0 86) - (1 : Int32)) * (100 : Int32)) + a1).toInt < 26000) ∧ Q (σ 48 ((((σ 0 86) - (1 : Int32)) * (100 : Int32)) + a1).toNatClampNeg))) ∧ (0 ≤ (σ 8 v6.toNatClampNeg).toInt → ((0 ≤ ((σ 0 86) - (1 : Int32)).toInt ∧ ((σ 0 86) - (1 : Int32)).toInt < 260) ∧ ((0 ≤ ((σ 49 ((σ 0 86) - (1 : Int32)).toNatClampNeg) + (σ 8 v6.toNatClampNeg)).toInt ∧ ((σ 49 ((σ 0 86) - (1 : Int32)).toNatClampNeg) + (σ 8 v6.toNatClampNeg)).toInt < 32768) ∧ Q (σ 46 ((σ 49 ((σ 0 86) - (1 : Int32)).toNatClampNeg) + (σ 8 v6.toNatClampNeg)).toNatClampNeg))))))
set_option maxHeartbeats 4000000 in
set_option maxRecDepth 100000 in
theorem ct_getLocal (a : Nat → Nat) (r : Nat → Nat) {a1 : Int32} {σ τ : St} {vs : List Nat} {Q : Int32 → Prop} (hcap : vs.length ≤ CAP) (w : wp_getLocal a1 σ τ vs Q) (l : Launch) (D : va_G) (cy : Nat → ClassId) : Ct l D cy SM r (EM a) y_X14_getLocal (Cond.code y_X14_getLocal b_X14_getLocal 3 (some .int)) 1 [.ref (r 0), .int a1] σ τ vs (QIr σ τ vs Q) QT0 := by
  unfold wp_getLocal at w
  refine Ct_of (EM_ok a) (by decide) (Nat.le_of_ble_eq_true rfl) hcap (fun X hnn hF => ?_)
  show G SM r X σ τ vs [(0, .ref (r 0)), (1, .int a1)] [] 0
  refine g_aload_n hF d_X14_getLocal_0 rfl 0 rfl ?_
  refine g_get (v := .ref (r 8)) hF 16 obM_0 (by decide) m_1881 rfl d_X14_getLocal_1 ?_
  refine g_aload_n hF d_X14_getLocal_4 rfl 0 rfl ?_
  refine g_iload_n hF d_X14_getLocal_5 rfl 1 rfl ?_
  refine g_callV (As := [.int a1]) (rest := [.ref (r 8)]) hF (fun l D cy => (ct_rowOf a r hcap w) l D cy) (Nat.le_of_ble_eq_true rfl) mV_X14_rowOf m_2757 (recv_ob obM_0) rfl rfl (Nat.le_of_ble_eq_true rfl) d_X14_getLocal_6 (krI (fun v6 w1 => ?_)) (fun _ _ _ h => h.elim)
  have w2 := w1.2
  refine g_iald hF arM_8 (s_in (Nat.le_of_ble_eq_true rfl) w1.1.1 w1.1.2) d_X14_getLocal_9 ?_
  refine g_top (v := (σ 8 v6.toNatClampNeg)) rfl ?_
  refine g_istore_n hF [(2, .int (σ 8 v6.toNatClampNeg)), (0, .ref (r 0)), (1, .int a1)] d_X14_getLocal_10 rfl hnn (by decide) rfl ?_
  refine g_iload_n hF d_X14_getLocal_11 rfl 0 rfl ?_
  refine g_if_lt hF 36 d_X14_getLocal_12 (by decide) rfl (fun c => ?_) (fun c => ?_)
  · have w3 := w2.1 c
    refine g_aload_n hF d_X14_getLocal_36 rfl 1 rfl ?_
    refine g_get (v := .ref (r 48)) hF 82 obM_0 (by decide) m_1947 rfl d_X14_getLocal_37 ?_
    refine g_aload_n hF d_X14_getLocal_40 rfl 1 rfl ?_
    refine g_get (v := .int (σ 0 86)) hF 86 obM_0 (by decide) m_1951 rfl d_X14_getLocal_41 ?_
    refine g_iconst hF (v := 1) d_X14_getLocal_44 (by decide) ?_
    refine g_isub hF d_X14_getLocal_45 ?_
    refine g_bipush hF (v := 100) d_X14_getLocal_46 (by decide) ?_
    refine g_imul hF d_X14_getLocal_48 ?_
    refine g_iload_n hF d_X14_getLocal_49 rfl 2 rfl ?_
    refine g_iadd hF d_X14_getLocal_50 ?_
    have w4 := w3.2
    refine g_iald hF arM_48 (s_in (Nat.le_of_ble_eq_true rfl) w3.1.1 w3.1.2) d_X14_getLocal_51 ?_
    refine g_top (v := (σ 48 ((((σ 0 86) - (1 : Int32)) * (100 : Int32)) + a1).toNatClampNeg)) rfl ?_
    exact g_iret hF rfl d_X14_getLocal_52 ⟨rfl, rfl, rfl, (σ 48 ((((σ 0 86) - (1 : Int32)) * (100 : Int32)) + a1).toNatClampNeg), rfl, w4⟩
  · have w5 := w2.2 c
    refine g_aload_n hF d_X14_getLocal_15 rfl 1 rfl ?_
    refine g_get (v := .ref (r 46)) hF 79 obM_0 (by decide) m_1944 rfl d_X14_getLocal_16 ?_
    refine g_aload_n hF d_X14_getLocal_19 rfl 1 rfl ?_
    refine g_get (v := .ref (r 49)) hF 83 obM_0 (by decide) m_1948 rfl d_X14_getLocal_20 ?_
    refine g_aload_n hF d_X14_getLocal_23 rfl 1 rfl ?_
    refine g_get (v := .int (σ 0 86)) hF 86 obM_0 (by decide) m_1951 rfl d_X14_getLocal_24 ?_
    refine g_iconst hF (v := 1) d_X14_getLocal_27 (by decide) ?_
    refine g_isub hF d_X14_getLocal_28 ?_
    have w6 := w5.2
    refine g_iald hF arM_49 (s_in (Nat.le_of_ble_eq_true rfl) w5.1.1 w5.1.2) d_X14_getLocal_29 ?_
    refine g_top (v := (σ 49 ((σ 0 86) - (1 : Int32)).toNatClampNeg)) rfl ?_
    refine g_iload_n hF d_X14_getLocal_30 rfl 0 rfl ?_
    refine g_iadd hF d_X14_getLocal_31 ?_
    have w7 := w6.2
    refine g_iald hF arM_46 (s_in (Nat.le_of_ble_eq_true rfl) w6.1.1 w6.1.2) d_X14_getLocal_32 ?_
    refine g_top (v := (σ 46 ((σ 49 ((σ 0 86) - (1 : Int32)).toNatClampNeg) + (σ 8 v6.toNatClampNeg)).toNatClampNeg)) rfl ?_
    refine g_goto hF 52 d_X14_getLocal_33 (by decide) ?_
    exact g_iret hF rfl d_X14_getLocal_52 ⟨rfl, rfl, rfl, (σ 46 ((σ 49 ((σ 0 86) - (1 : Int32)).toNatClampNeg) + (σ 8 v6.toNatClampNeg)).toNatClampNeg), rfl, w7⟩
def wp_pop (σ τ : St) (vs : List Nat) (Q : Int32 → St → St → List Nat → Prop) : Prop :=
  ((0 ≤ ((σ 0 81) - (1 : Int32)).toInt ∧ ((σ 0 81) - (1 : Int32)).toInt < 140000) ∧ Q (σ 47 ((σ 0 81) - (1 : Int32)).toNatClampNeg) (upC σ 0 81 ((σ 0 81) - (1 : Int32))) τ vs)
set_option maxHeartbeats 4000000 in
set_option maxRecDepth 100000 in
theorem ct_pop (a : Nat → Nat) (r : Nat → Nat) {σ τ : St} {vs : List Nat} {Q : Int32 → St → St → List Nat → Prop} (hcap : vs.length ≤ CAP) (w : wp_pop  σ τ vs Q) (l : Launch) (D : va_G) (cy : Nat → ClassId) : Ct l D cy SM r (EM a) y_X14_pop (Cond.code y_X14_pop b_X14_pop 1 (some .int)) 0 [.ref (r 0)] σ τ vs (QIs Q) QT0 := by
  unfold wp_pop at w
  refine Ct_of (EM_ok a) (by decide) (Nat.le_of_ble_eq_true rfl) hcap (fun X hnn hF => ?_)
  show G SM r X σ τ vs [(0, .ref (r 0))] [] 0
  refine g_aload_n hF d_X14_pop_0 rfl 0 rfl ?_
  refine g_dup hF d_X14_pop_1 rfl ?_
  refine g_get (v := .int (σ 0 81)) hF 81 obM_0 (by decide) m_1946 rfl d_X14_pop_2 ?_
  refine g_iconst hF (v := 1) d_X14_pop_5 (by decide) ?_
  refine g_isub hF d_X14_pop_6 ?_
  refine g_put (v := ((σ 0 81) - (1 : Int32))) hF 81 obM_0 (by decide) m_1946 rfl rfl rfl d_X14_pop_7 ?_
  refine g_aload_n hF d_X14_pop_10 rfl 0 rfl ?_
  refine g_get (v := .ref (r 47)) hF 80 obM_0 (by decide) m_1945 rfl d_X14_pop_11 ?_
  refine g_aload_n hF d_X14_pop_14 rfl 0 rfl ?_
  refine g_get (v := .int ((σ 0 81) - (1 : Int32))) hF 81 obM_0 (by decide) m_1946 rfl d_X14_pop_15 ?_
  have w1 := w.2
  refine g_iald hF arM_47 (s_in (Nat.le_of_ble_eq_true rfl) w.1.1 w.1.2) d_X14_pop_18 ?_
  refine g_top (v := (σ 47 ((σ 0 81) - (1 : Int32)).toNatClampNeg)) rfl ?_
  exact g_iret hF rfl d_X14_pop_19 ⟨(σ 47 ((σ 0 81) - (1 : Int32)).toNatClampNeg), rfl, w1⟩
def wp_trapped (a1 : Int32) (a2 : Int32) (σ τ : St) (vs : List Nat) (Q : St → St → List Nat → Prop) : Prop :=
  ((0 ≤ ((σ 0 86) - (1 : Int32)).toInt ∧ ((σ 0 86) - (1 : Int32)).toInt < 260) ∧ ((0 ≤ (σ 50 ((σ 0 86) - (1 : Int32)).toNatClampNeg).toInt ∧ (σ 50 ((σ 0 86) - (1 : Int32)).toNatClampNeg).toInt < 10000) ∧ wp_ends a1 ((σ 27 (σ 50 ((σ 0 86) - (1 : Int32)).toNatClampNeg).toNatClampNeg) + (1 : Int32)) a2 σ τ vs (fun s21 t21 z21 => Q s21 t21 z21)))
set_option maxHeartbeats 4000000 in
set_option maxRecDepth 100000 in
theorem ct_trapped (a : Nat → Nat) (r : Nat → Nat) {a1 : Int32} {a2 : Int32} {σ τ : St} {vs : List Nat} {Q : St → St → List Nat → Prop} (hcap : vs.length ≤ CAP) (w : wp_trapped a1 a2 σ τ vs Q) (l : Launch) (D : va_G) (cy : Nat → ClassId) : Ct l D cy SM r (EM a) y_X14_trapped (Cond.code y_X14_trapped b_X14_trapped 3 none) 1 [.ref (r 0), .int a1, .int a2] σ τ vs (QVs Q) QT0 := by
  unfold wp_trapped at w
  refine Ct_of (EM_ok a) (by decide) (Nat.le_of_ble_eq_true rfl) hcap (fun X hnn hF => ?_)
  show G SM r X σ τ vs [(0, .ref (r 0)), (1, .int a1), (2, .int a2)] [] 0
  refine g_aload_n hF d_X14_trapped_0 rfl 0 rfl ?_
  refine g_iload_n hF d_X14_trapped_1 rfl 1 rfl ?_
  refine g_aload_n hF d_X14_trapped_2 rfl 0 rfl ?_
  refine g_get (v := .ref (r 27)) hF 41 obM_0 (by decide) m_1906 rfl d_X14_trapped_3 ?_
  refine g_aload_n hF d_X14_trapped_6 rfl 0 rfl ?_
  refine g_get (v := .ref (r 50)) hF 84 obM_0 (by decide) m_1949 rfl d_X14_trapped_7 ?_
  refine g_aload_n hF d_X14_trapped_10 rfl 0 rfl ?_
  refine g_get (v := .int (σ 0 86)) hF 86 obM_0 (by decide) m_1951 rfl d_X14_trapped_11 ?_
  refine g_iconst hF (v := 1) d_X14_trapped_14 (by decide) ?_
  refine g_isub hF d_X14_trapped_15 ?_
  have w1 := w.2
  refine g_iald hF arM_50 (s_in (Nat.le_of_ble_eq_true rfl) w.1.1 w.1.2) d_X14_trapped_16 ?_
  refine g_top (v := (σ 50 ((σ 0 86) - (1 : Int32)).toNatClampNeg)) rfl ?_
  have w2 := w1.2
  refine g_iald hF arM_27 (s_in (Nat.le_of_ble_eq_true rfl) w1.1.1 w1.1.2) d_X14_trapped_17 ?_
  refine g_top (v := (σ 27 (σ 50 ((σ 0 86) - (1 : Int32)).toNatClampNeg).toNatClampNeg)) rfl ?_
  refine g_iconst hF (v := 1) d_X14_trapped_18 (by decide) ?_
  refine g_iadd hF d_X14_trapped_19 ?_
  refine g_iload_n hF d_X14_trapped_20 rfl 2 rfl ?_
  refine g_callV (As := [.int a1, .int ((σ 27 (σ 50 ((σ 0 86) - (1 : Int32)).toNatClampNeg).toNatClampNeg) + (1 : Int32)), .int a2]) (rest := []) hF (fun l D cy => (ct_ends a r hcap w2) l D cy) (Nat.le_of_ble_eq_true rfl) mV_X14_ends m_2745 (recv_ob obM_0) rfl rfl (Nat.le_of_ble_eq_true rfl) d_X14_trapped_21 (kV (fun s21 t21 z21 w3 => ?_)) (fun _ _ _ h => h.elim)
  exact g_vret hF rfl d_X14_trapped_24 ⟨rfl, w3⟩
def wp_isCell (a0 : Int32) (σ τ : St) (vs : List Nat) (Q : Int32 → Prop) : Prop :=
  (a0.toInt < 16 → Q (0 : Int32)) ∧ (16 ≤ a0.toInt → (32768 ≤ a0.toInt → Q (0 : Int32)) ∧ (a0.toInt < 32768 → Q (1 : Int32)))
set_option maxHeartbeats 4000000 in
set_option maxRecDepth 100000 in
theorem ct_isCell (a : Nat → Nat) (r : Nat → Nat) {a0 : Int32} {σ τ : St} {vs : List Nat} {Q : Int32 → Prop} (hcap : vs.length ≤ CAP) (w : wp_isCell a0 σ τ vs Q) (l : Launch) (D : va_G) (cy : Nat → ClassId) : Ct l D cy SM r (EM a) y_X14_isCell (Cond.code y_X14_isCell b_X14_isCell 1 (some .boolean)) 0 [.int a0] σ τ vs (QZr σ τ vs Q) QT0 := by
  unfold wp_isCell at w
  refine Ct_of (EM_ok a) (by decide) (Nat.le_of_ble_eq_true rfl) hcap (fun X hnn hF => ?_)
  show G SM r X σ τ vs [(0, .int a0)] [] 0
  refine g_iload_n hF d_X14_isCell_0 rfl 0 rfl ?_
  refine g_bipush hF (v := 16) d_X14_isCell_1 (by decide) ?_
  refine g_icmp_lt (yv := 16) hF 16 d_X14_isCell_3 (by decide) rfl (by decide) (fun c => ?_) (fun c => ?_)
  · have w1 := w.1 c
    refine g_iconst hF (v := 0) d_X14_isCell_16 (by decide) ?_
    exact g_zret hF rfl (k_nz (Or.inl rfl)) d_X14_isCell_17 ⟨rfl, rfl, rfl, (0 : Int32), rfl, (Or.inl rfl), w1⟩
  · have w2 := w.2 c
    refine g_iload_n hF d_X14_isCell_6 rfl 0 rfl ?_
    refine g_ldc (v := 32768) hF m_1863 d_X14_isCell_7 ?_
    refine g_icmp_ge (yv := 32768) hF 16 d_X14_isCell_9 (by decide) rfl (by decide) (fun c => ?_) (fun c => ?_)
    · have w3 := w2.1 c
      refine g_iconst hF (v := 0) d_X14_isCell_16 (by decide) ?_
      exact g_zret hF rfl (k_nz (Or.inl rfl)) d_X14_isCell_17 ⟨rfl, rfl, rfl, (0 : Int32), rfl, (Or.inl rfl), w3⟩
    · have w4 := w2.2 c
      refine g_iconst hF (v := 1) d_X14_isCell_12 (by decide) ?_
      refine g_goto hF 17 d_X14_isCell_13 (by decide) ?_
      exact g_zret hF rfl (k_nz (Or.inr rfl)) d_X14_isCell_17 ⟨rfl, rfl, rfl, (1 : Int32), rfl, (Or.inr rfl), w4⟩
def wp_emit (a1 : Int32) (a2 : Int32) (σ τ : St) (vs : List Nat) (Q : St → St → List Nat → Prop) : Prop :=
  ((σ 0 91).toInt ≠ 4096 → ((0 ≤ (σ 0 91).toInt ∧ (σ 0 91).toInt < 4096) ∧ Q (upC (upC σ 53 (σ 0 91).toNatClampNeg (vp_nar .byte a1.toInt8.toInt32)) 0 91 ((σ 0 91) + (1 : Int32))) τ vs)) ∧ ((σ 0 91).toInt = 4096 → (0 ≤ (σ 0 97).toInt → Q σ τ vs) ∧ ((σ 0 97).toInt < 0 → wp_trapped (6 : Int32) a2 σ τ vs (fun s21 t21 z21 => Q s21 t21 z21)))
set_option maxHeartbeats 4000000 in
set_option maxRecDepth 100000 in
theorem ct_emit (a : Nat → Nat) (r : Nat → Nat) {a1 : Int32} {a2 : Int32} {σ τ : St} {vs : List Nat} {Q : St → St → List Nat → Prop} (hcap : vs.length ≤ CAP) (w : wp_emit a1 a2 σ τ vs Q) (l : Launch) (D : va_G) (cy : Nat → ClassId) : Ct l D cy SM r (EM a) y_X14_emit (Cond.code y_X14_emit b_X14_emit 3 none) 2 [.ref (r 0), .int a1, .int a2] σ τ vs (QVs Q) QT0 := by
  unfold wp_emit at w
  refine Ct_of (EM_ok a) (by decide) (Nat.le_of_ble_eq_true rfl) hcap (fun X hnn hF => ?_)
  show G SM r X σ τ vs [(0, .ref (r 0)), (1, .int a1), (2, .int a2)] [] 0
  refine g_aload_n hF d_X14_emit_0 rfl 0 rfl ?_
  refine g_get (v := .int (σ 0 91)) hF 91 obM_0 (by decide) m_1956 rfl d_X14_emit_1 ?_
  refine g_sipush hF (v := 4096) d_X14_emit_4 (by decide) ?_
  refine g_icmp_ne (yv := 4096) hF 25 d_X14_emit_7 (by decide) rfl (by decide) (fun c => ?_) (fun c => ?_)
  · have w1 := w.1 c
    refine g_aload_n hF d_X14_emit_25 rfl 0 rfl ?_
    refine g_get (v := .ref (r 53)) hF 90 obM_0 (by decide) m_1955 rfl d_X14_emit_26 ?_
    refine g_aload_n hF d_X14_emit_29 rfl 0 rfl ?_
    refine g_get (v := .int (σ 0 91)) hF 91 obM_0 (by decide) m_1956 rfl d_X14_emit_30 ?_
    refine g_iload_n hF d_X14_emit_33 rfl 1 rfl ?_
    refine g_i2b hF d_X14_emit_34 ?_
    have w2 := w1.2
    refine g_bast hF arM_53 (s_in (Nat.le_of_ble_eq_true rfl) w1.1.1 w1.1.2) d_X14_emit_35 ?_
    refine g_aload_n hF d_X14_emit_36 rfl 0 rfl ?_
    refine g_dup hF d_X14_emit_37 rfl ?_
    refine g_get (v := .int (σ 0 91)) hF 91 obM_0 (by decide) m_1956 rfl d_X14_emit_38 ?_
    refine g_iconst hF (v := 1) d_X14_emit_41 (by decide) ?_
    refine g_iadd hF d_X14_emit_42 ?_
    refine g_put (v := ((σ 0 91) + (1 : Int32))) hF 91 obM_0 (by decide) m_1956 rfl rfl rfl d_X14_emit_43 ?_
    exact g_vret hF rfl d_X14_emit_46 ⟨rfl, w2⟩
  · have w3 := w.2 c
    refine g_aload_n hF d_X14_emit_10 rfl 0 rfl ?_
    refine g_get (v := .int (σ 0 97)) hF 97 obM_0 (by decide) m_1962 rfl d_X14_emit_11 ?_
    refine g_if_ge hF 24 d_X14_emit_14 (by decide) rfl (fun c => ?_) (fun c => ?_)
    · have w4 := w3.1 c
      exact g_vret hF rfl d_X14_emit_24 ⟨rfl, w4⟩
    · have w5 := w3.2 c
      refine g_aload_n hF d_X14_emit_17 rfl 0 rfl ?_
      refine g_bipush hF (v := 6) d_X14_emit_18 (by decide) ?_
      refine g_iload_n hF d_X14_emit_20 rfl 2 rfl ?_
      refine g_callV (As := [.int 6, .int a2]) (rest := []) hF (fun l D cy => (ct_trapped a r hcap w5) l D cy) (Nat.le_of_ble_eq_true rfl) mV_X14_trapped m_2781 (recv_ob obM_0) rfl rfl (Nat.le_of_ble_eq_true rfl) d_X14_emit_21 (kV (fun s21 t21 z21 w6 => ?_)) (fun _ _ _ h => h.elim)
      exact g_vret hF rfl d_X14_emit_24 ⟨rfl, w6⟩
