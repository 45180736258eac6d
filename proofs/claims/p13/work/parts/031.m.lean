def wp_aimOf (a1 : Int32) (a2 : Int32) (a3 : Int32) (σ τ : St) (vs : List Nat) (Q : Int32 → St → St → List Nat → Prop) : Prop :=
  ((0 ≤ a1.toInt ∧ a1.toInt < 10000) ∧ ((σ 13 a1.toNatClampNeg).toInt = 0 → ((0 ≤ a1.toInt ∧ a1.toInt < 10000) ∧ (∃ J60 : Int32 → Prop, (∀ (y0_60 : Int32), J60 y0_60 → ((y0_60.toInt < 0 → ((0 ≤ a1.toInt ∧ a1.toInt < 10000) ∧ ((σ 12 a1.toNatClampNeg).toInt ≠ 0 → Q (0 : Int32) σ τ vs) ∧ ((σ 12 a1.toNatClampNeg).toInt = 0 → wp_find a1 a3 σ τ vs (fun v84 s84 t84 z84 => (v84.toInt ≠ 0 → ((0 ≤ a1.toInt ∧ a1.toInt < 10000) ∧ ((s84 9 a1.toNatClampNeg).toInt ≠ 1 → ((0 ≤ (s84 0 74).toInt ∧ (s84 0 74).toInt < 10000) ∧ Q (s84 17 (s84 0 74).toNatClampNeg) s84 t84 z84)) ∧ ((s84 9 a1.toNatClampNeg).toInt = 1 → ((0 ≤ (s84 0 73).toInt ∧ (s84 0 73).toInt < 100) ∧ ((0 ≤ (s84 0 74).toInt ∧ (s84 0 74).toInt < 10000) ∧ Q ((s84 42 (s84 0 73).toNatClampNeg) + (s84 17 (s84 0 74).toNatClampNeg)) s84 t84 z84))))) ∧ (v84.toInt = 0 → Q (0 : Int32) s84 t84 z84))))) ∧ (0 ≤ y0_60.toInt → Q (((-1) : Int32) - y0_60) σ τ vs))) ∧ ((σ 12 a1.toNatClampNeg).toInt = 0 → wp_library_0 a1 σ τ vs (fun v57 => J60 v57)) ∧ ((σ 12 a1.toNatClampNeg).toInt ≠ 0 → J60 ((-1) : Int32))))) ∧ ((σ 13 a1.toNatClampNeg).toInt ≠ 0 → ((0 ≤ a1.toInt ∧ a1.toInt < 10000) ∧ ((σ 9 a1.toNatClampNeg).toInt ≠ 1 → ((0 ≤ a1.toInt ∧ a1.toInt < 10000) ∧ Q (σ 17 a1.toNatClampNeg) σ τ vs)) ∧ ((σ 9 a1.toNatClampNeg).toInt = 1 → ((0 ≤ a2.toInt ∧ a2.toInt < 100) ∧ ((0 ≤ a1.toInt ∧ a1.toInt < 10000) ∧ Q ((σ 42 a2.toNatClampNeg) + (σ 17 a1.toNatClampNeg)) σ τ vs))))))
set_option maxHeartbeats 4000000 in
set_option maxRecDepth 100000 in
theorem ct_aimOf (a : Nat → Nat) (r : Nat → Nat) {a1 : Int32} {a2 : Int32} {a3 : Int32} {σ τ : St} {vs : List Nat} {Q : Int32 → St → St → List Nat → Prop} (hcap : vs.length ≤ CAP) (w : wp_aimOf a1 a2 a3 σ τ vs Q) (l : Launch) (D : va_G) (cy : Nat → ClassId) : Ct l D cy SM r (EM a) y_X14_aimOf (Cond.code y_X14_aimOf b_X14_aimOf 5 (some .int)) 5 [.ref (r 0), .int a1, .int a2, .int a3] σ τ vs (QIs Q) QT0 := by
  unfold wp_aimOf at w
  refine Ct_of (EM_ok a) (by decide) (Nat.le_of_ble_eq_true rfl) hcap (fun X hnn hF => ?_)
  show G SM r X σ τ vs [(0, .ref (r 0)), (1, .int a1), (2, .int a2), (3, .int a3)] [] 0
  refine g_aload_n hF d_X14_aimOf_0 rfl 0 rfl ?_
  refine g_get (v := .ref (r 13)) hF 22 obM_0 (by decide) m_1887 rfl d_X14_aimOf_1 ?_
  refine g_iload_n hF d_X14_aimOf_4 rfl 1 rfl ?_
  have w1 := w.2
  refine g_zald hF arM_13 (s_in (Nat.le_of_ble_eq_true rfl) w.1.1 w.1.2) d_X14_aimOf_5 ?_
  refine g_top (v := (σ 13 a1.toNatClampNeg)) rfl ?_
  refine g_if_eq hF 42 d_X14_aimOf_6 (by decide) rfl (fun c => ?_) (fun c => ?_)
  · have w2 := w1.1 c
    refine g_aload_n hF d_X14_aimOf_42 rfl 0 rfl ?_
    refine g_get (v := .ref (r 12)) hF 21 obM_0 (by decide) m_1886 rfl d_X14_aimOf_43 ?_
    refine g_iload_n hF d_X14_aimOf_46 rfl 1 rfl ?_
    have w3 := w2.2
    refine g_zald hF arM_12 (s_in (Nat.le_of_ble_eq_true rfl) w2.1.1 w2.1.2) d_X14_aimOf_47 ?_
    refine g_top (v := (σ 12 a1.toNatClampNeg)) rfl ?_
    obtain ⟨J60, h60, w4⟩ := w3
    have b60 : ∀ (y0_60 : Int32), J60 y0_60 → G SM r X σ τ vs [(0, .ref (r 0)), (1, .int a1), (3, .int a3)] [.int y0_60] 60 := by
      intro y0_60  w60_
      have w60_ := h60 y0_60  w60_
      refine g_istore hF [(4, .int y0_60), (0, .ref (r 0)), (1, .int a1), (3, .int a3)] d_X14_aimOf_60 hnn (by decide) rfl ?_
      refine g_iload hF d_X14_aimOf_62 0 rfl ?_
      refine g_if_lt hF 72 d_X14_aimOf_64 (by decide) rfl (fun c => ?_) (fun c => ?_)
      · have w5 := w60_.1 c
        refine g_aload_n hF d_X14_aimOf_72 rfl 1 rfl ?_
        refine g_get (v := .ref (r 12)) hF 21 obM_0 (by decide) m_1886 rfl d_X14_aimOf_73 ?_
        refine g_iload_n hF d_X14_aimOf_76 rfl 2 rfl ?_
        have w6 := w5.2
        refine g_zald hF arM_12 (s_in (Nat.le_of_ble_eq_true rfl) w5.1.1 w5.1.2) d_X14_aimOf_77 ?_
        refine g_top (v := (σ 12 a1.toNatClampNeg)) rfl ?_
        refine g_if_ne hF 90 d_X14_aimOf_78 (by decide) rfl (fun c => ?_) (fun c => ?_)
        · have w7 := w6.1 c
          refine g_iconst hF (v := 0) d_X14_aimOf_90 (by decide) ?_
          exact g_iret hF rfl d_X14_aimOf_91 ⟨(0 : Int32), rfl, w7⟩
        · have w8 := w6.2 c
          refine g_aload_n hF d_X14_aimOf_81 rfl 1 rfl ?_
          refine g_iload_n hF d_X14_aimOf_82 rfl 2 rfl ?_
          refine g_iload_n hF d_X14_aimOf_83 rfl 3 rfl ?_
          refine g_callV (As := [.int a1, .int a3]) (rest := []) hF (fun l D cy => (ct_find a r hcap w8) l D cy) (Nat.le_of_ble_eq_true rfl) mV_X14_find m_2693 (recv_ob obM_0) rfl rfl (Nat.le_of_ble_eq_true rfl) d_X14_aimOf_84 (kZ (fun v84 s84 t84 z84 hz84 w9 => ?_)) (fun _ _ _ h => h.elim)
          refine g_if_ne hF 92 d_X14_aimOf_87 (by decide) rfl (fun c => ?_) (fun c => ?_)
          · have w10 := w9.1 c
            refine g_aload_n hF d_X14_aimOf_92 rfl 1 rfl ?_
            refine g_get (v := .ref (r 9)) hF 18 obM_0 (by decide) m_1883 rfl d_X14_aimOf_93 ?_
            refine g_iload_n hF d_X14_aimOf_96 rfl 2 rfl ?_
            have w11 := w10.2
            refine g_iald hF arM_9 (s_in (Nat.le_of_ble_eq_true rfl) w10.1.1 w10.1.2) d_X14_aimOf_97 ?_
            refine g_top (v := (s84 9 a1.toNatClampNeg)) rfl ?_
            refine g_iconst hF (v := 1) d_X14_aimOf_98 (by decide) ?_
            refine g_icmp_ne (yv := 1) hF 124 d_X14_aimOf_99 (by decide) rfl (by decide) (fun c => ?_) (fun c => ?_)
            · have w12 := w11.1 c
              refine g_aload_n hF d_X14_aimOf_124 rfl 1 rfl ?_
              refine g_get (v := .ref (r 17)) hF 26 obM_0 (by decide) m_1891 rfl d_X14_aimOf_125 ?_
              refine g_aload_n hF d_X14_aimOf_128 rfl 1 rfl ?_
              refine g_get (v := .int (s84 0 74)) hF 74 obM_0 (by decide) m_1939 rfl d_X14_aimOf_129 ?_
              have w13 := w12.2
              refine g_iald hF arM_17 (s_in (Nat.le_of_ble_eq_true rfl) w12.1.1 w12.1.2) d_X14_aimOf_132 ?_
              refine g_top (v := (s84 17 (s84 0 74).toNatClampNeg)) rfl ?_
              exact g_iret hF rfl d_X14_aimOf_133 ⟨(s84 17 (s84 0 74).toNatClampNeg), rfl, w13⟩
            · have w14 := w11.2 c
              refine g_aload_n hF d_X14_aimOf_102 rfl 1 rfl ?_
              refine g_get (v := .ref (r 42)) hF 69 obM_0 (by decide) m_1934 rfl d_X14_aimOf_103 ?_
              refine g_aload_n hF d_X14_aimOf_106 rfl 1 rfl ?_
              refine g_get (v := .int (s84 0 73)) hF 73 obM_0 (by decide) m_1938 rfl d_X14_aimOf_107 ?_
              have w15 := w14.2
              refine g_iald hF arM_42 (s_in (Nat.le_of_ble_eq_true rfl) w14.1.1 w14.1.2) d_X14_aimOf_110 ?_
              refine g_top (v := (s84 42 (s84 0 73).toNatClampNeg)) rfl ?_
              refine g_aload_n hF d_X14_aimOf_111 rfl 1 rfl ?_
              refine g_get (v := .ref (r 17)) hF 26 obM_0 (by decide) m_1891 rfl d_X14_aimOf_112 ?_
              refine g_aload_n hF d_X14_aimOf_115 rfl 1 rfl ?_
              refine g_get (v := .int (s84 0 74)) hF 74 obM_0 (by decide) m_1939 rfl d_X14_aimOf_116 ?_
              have w16 := w15.2
              refine g_iald hF arM_17 (s_in (Nat.le_of_ble_eq_true rfl) w15.1.1 w15.1.2) d_X14_aimOf_119 ?_
              refine g_top (v := (s84 17 (s84 0 74).toNatClampNeg)) rfl ?_
              refine g_iadd hF d_X14_aimOf_120 ?_
              refine g_goto hF 133 d_X14_aimOf_121 (by decide) ?_
              exact g_iret hF rfl d_X14_aimOf_133 ⟨((s84 42 (s84 0 73).toNatClampNeg) + (s84 17 (s84 0 74).toNatClampNeg)), rfl, w16⟩
          · have w17 := w9.2 c
            refine g_iconst hF (v := 0) d_X14_aimOf_90 (by decide) ?_
            exact g_iret hF rfl d_X14_aimOf_91 ⟨(0 : Int32), rfl, w17⟩
      · have w18 := w60_.2 c
        refine g_iconst hF (v := (-1)) d_X14_aimOf_67 (by decide) ?_
        refine g_iload hF d_X14_aimOf_68 0 rfl ?_
        refine g_isub hF d_X14_aimOf_70 ?_
        exact g_iret hF rfl d_X14_aimOf_71 ⟨(((-1) : Int32) - y0_60), rfl, w18⟩
    refine g_if_eq hF 55 d_X14_aimOf_48 (by decide) rfl (fun c => ?_) (fun c => ?_)
    · have w19 := w4.1 c
      refine g_aload_n hF d_X14_aimOf_55 rfl 0 rfl ?_
      refine g_iload_n hF d_X14_aimOf_56 rfl 1 rfl ?_
      refine g_callV (As := [.int a1]) (rest := []) hF (fun l D cy => (ct_library_0 a r hcap w19) l D cy) (Nat.le_of_ble_eq_true rfl) mV_X14_library_0 m_2684 (recv_ob obM_0) rfl rfl (Nat.le_of_ble_eq_true rfl) d_X14_aimOf_57 (krI (fun v57 w20 => ?_)) (fun _ _ _ h => h.elim)
      exact g_sub (L' := [(0, .ref (r 0)), (1, .int a1), (3, .int a3)]) [0, 1, 3] rfl (b60 v57 w20)
    · have w21 := w4.2 c
      refine g_iconst hF (v := (-1)) d_X14_aimOf_51 (by decide) ?_
      refine g_goto hF 60 d_X14_aimOf_52 (by decide) ?_
      exact g_sub (L' := [(0, .ref (r 0)), (1, .int a1), (3, .int a3)]) [0, 1, 3] rfl (b60 ((-1) : Int32) w21)
  · have w22 := w1.2 c
    refine g_aload_n hF d_X14_aimOf_9 rfl 0 rfl ?_
    refine g_get (v := .ref (r 9)) hF 18 obM_0 (by decide) m_1883 rfl d_X14_aimOf_10 ?_
    refine g_iload_n hF d_X14_aimOf_13 rfl 1 rfl ?_
    have w23 := w22.2
    refine g_iald hF arM_9 (s_in (Nat.le_of_ble_eq_true rfl) w22.1.1 w22.1.2) d_X14_aimOf_14 ?_
    refine g_top (v := (σ 9 a1.toNatClampNeg)) rfl ?_
    refine g_iconst hF (v := 1) d_X14_aimOf_15 (by decide) ?_
    refine g_icmp_ne (yv := 1) hF 35 d_X14_aimOf_16 (by decide) rfl (by decide) (fun c => ?_) (fun c => ?_)
    · have w24 := w23.1 c
      refine g_aload_n hF d_X14_aimOf_35 rfl 0 rfl ?_
      refine g_get (v := .ref (r 17)) hF 26 obM_0 (by decide) m_1891 rfl d_X14_aimOf_36 ?_
      refine g_iload_n hF d_X14_aimOf_39 rfl 1 rfl ?_
      have w25 := w24.2
      refine g_iald hF arM_17 (s_in (Nat.le_of_ble_eq_true rfl) w24.1.1 w24.1.2) d_X14_aimOf_40 ?_
      refine g_top (v := (σ 17 a1.toNatClampNeg)) rfl ?_
      exact g_iret hF rfl d_X14_aimOf_41 ⟨(σ 17 a1.toNatClampNeg), rfl, w25⟩
    · have w26 := w23.2 c
      refine g_aload_n hF d_X14_aimOf_19 rfl 0 rfl ?_
      refine g_get (v := .ref (r 42)) hF 69 obM_0 (by decide) m_1934 rfl d_X14_aimOf_20 ?_
      refine g_iload_n hF d_X14_aimOf_23 rfl 2 rfl ?_
      have w27 := w26.2
      refine g_iald hF arM_42 (s_in (Nat.le_of_ble_eq_true rfl) w26.1.1 w26.1.2) d_X14_aimOf_24 ?_
      refine g_top (v := (σ 42 a2.toNatClampNeg)) rfl ?_
      refine g_aload_n hF d_X14_aimOf_25 rfl 0 rfl ?_
      refine g_get (v := .ref (r 17)) hF 26 obM_0 (by decide) m_1891 rfl d_X14_aimOf_26 ?_
      refine g_iload_n hF d_X14_aimOf_29 rfl 1 rfl ?_
      have w28 := w27.2
      refine g_iald hF arM_17 (s_in (Nat.le_of_ble_eq_true rfl) w27.1.1 w27.1.2) d_X14_aimOf_30 ?_
      refine g_top (v := (σ 17 a1.toNatClampNeg)) rfl ?_
      refine g_iadd hF d_X14_aimOf_31 ?_
      refine g_goto hF 41 d_X14_aimOf_32 (by decide) ?_
      exact g_iret hF rfl d_X14_aimOf_41 ⟨((σ 42 a2.toNatClampNeg) + (σ 17 a1.toNatClampNeg)), rfl, w28⟩
def wp_cell (σ τ : St) (vs : List Nat) (Q : Int32 → St → St → List Nat → Prop) : Prop :=
  (0 ≤ (σ 0 70).toInt → ∃ L21 : Nat → Int32 → Prop, (∃ n, L21 n (0 : Int32)) ∧ ∀ (n21 : Nat) (x2_21 : Int32), L21 n21 x2_21 → (((σ 0 70).toInt ≤ x2_21.toInt → ∃ L120 : Nat → Int32 → Int32 → Prop, (∃ n, L120 n (1 : Int32) (0 : Int32)) ∧ ∀ (n120 : Nat) (x2_120 : Int32) (x3_120 : Int32), L120 n120 x2_120 x3_120 → ((4 ≤ x3_120.toInt → Q ((-1) : Int32) (upC σ 0 1 (0 : Int32)) τ vs) ∧ (x3_120.toInt < 4 → ∃ L128 : Nat → Int32 → Prop, (∃ n, L128 n x2_120) ∧ ∀ (n128 : Nat) (x4_128 : Int32), L128 n128 x4_128 → (((0 ≤ x4_128.toInt ∧ x4_128.toInt < SN 2) ∧ ((chI (SF 2 x4_128.toNatClampNeg)).toInt = 32 → (∃ J160 : Int32 → Prop, (∀ (y0_160 : Int32), y0_160 = 0 ∨ y0_160 = 1 → J160 y0_160 → (∃ L165 : Nat → Int32 → Int32 → Prop, (∃ n, L165 n y0_160 (0 : Int32)) ∧ ∀ (n165 : Nat) (x5_165 : Int32) (x6_165 : Int32), x5_165 = 0 ∨ x5_165 = 1 → L165 n165 x5_165 x6_165 → ((∃ J209 : Prop, (J209  → ((x5_165.toInt = 0 → ∃ m, m < n120 ∧ L120 m (x4_128 + (1 : Int32)) (x3_120 + 1)) ∧ (x5_165.toInt ≠ 0 → Q (0 : Int32) (upC σ 0 1 (0 : Int32)) τ vs))) ∧ (x5_165.toInt = 0 → J209) ∧ (x5_165.toInt ≠ 0 → ((σ 0 1).toInt ≤ x6_165.toInt → J209) ∧ (x6_165.toInt < (σ 0 1).toInt → ((0 ≤ (x2_120 + x6_165).toInt ∧ (x2_120 + x6_165).toInt < SN 2) ∧ ((0 ≤ x6_165.toInt ∧ x6_165.toInt < 16000) ∧ (∃ J201 : Int32 → Prop, (∀ (y0_201 : Int32), y0_201 = 0 ∨ y0_201 = 1 → J201 y0_201 → (∃ m, m < n165 ∧ L165 m y0_201 (x6_165 + 1))) ∧ ((chI (SF 2 (x2_120 + x6_165).toNatClampNeg)).toInt ≠ (σ 1 x6_165.toNatClampNeg).toInt → J201 (0 : Int32)) ∧ ((chI (SF 2 (x2_120 + x6_165).toNatClampNeg)).toInt = (σ 1 x6_165.toNatClampNeg).toInt → J201 (1 : Int32))))))))))) ∧ ((x4_128 - x2_120).toInt ≠ (σ 0 1).toInt → J160 (0 : Int32)) ∧ ((x4_128 - x2_120).toInt = (σ 0 1).toInt → J160 (1 : Int32)))) ∧ ((chI (SF 2 x4_128.toNatClampNeg)).toInt ≠ 32 → ∃ m, m < n128 ∧ L128 m (x4_128 + 1))))))) ∧ (x2_21.toInt < (σ 0 70).toInt → ((0 ≤ x2_21.toInt ∧ x2_21.toInt < 100) ∧ ((0 ≤ ((σ 41 x2_21.toNatClampNeg) - (1 : Int32)).toInt ∧ ((σ 41 x2_21.toNatClampNeg) - (1 : Int32)).toInt < 102) ∧ ∃ L43 : Nat → Int32 → Prop, (∃ n, L43 n (σ 22 ((σ 41 x2_21.toNatClampNeg) - (1 : Int32)).toNatClampNeg)) ∧ ∀ (n43 : Nat) (x3_43 : Int32), L43 n43 x3_43 → (((0 ≤ x2_21.toInt ∧ x2_21.toInt < 100) ∧ ((0 ≤ (σ 41 x2_21.toNatClampNeg).toInt ∧ (σ 41 x2_21.toNatClampNeg).toInt < 102) ∧ ((σ 22 (σ 41 x2_21.toNatClampNeg).toNatClampNeg).toInt ≤ x3_43.toInt → ∃ m, m < n21 ∧ L21 m (x2_21 + 1)) ∧ (x3_43.toInt < (σ 22 (σ 41 x2_21.toNatClampNeg).toNatClampNeg).toInt → wp_isSymbol x3_43 (1 : Int32) (upC σ 0 1 (0 : Int32)) τ vs (fun v61 => (∃ J104 : Prop, (J104  → (∃ m, m < n43 ∧ L43 m (x3_43 + 1))) ∧ (v61.toInt = 0 → J104) ∧ (v61.toInt ≠ 0 → wp_isTray x3_43 (σ 0 1) (upC σ 0 1 (0 : Int32)) τ vs (fun v70 => (v70.toInt = 0 → J104) ∧ (v70.toInt ≠ 0 → ((0 ≤ x3_43.toInt ∧ x3_43.toInt < 10000) ∧ ((σ 9 x3_43.toNatClampNeg).toInt ≠ 1 → Q (0 : Int32) (upC σ 0 1 (0 : Int32)) τ vs) ∧ ((σ 9 x3_43.toNatClampNeg).toInt = 1 → ((0 ≤ x2_21.toInt ∧ x2_21.toInt < 100) ∧ ((0 ≤ x3_43.toInt ∧ x3_43.toInt < 10000) ∧ Q ((σ 42 x2_21.toNatClampNeg) + (σ 17 x3_43.toNatClampNeg)) (upC σ 0 1 (0 : Int32)) τ vs)))))))))))))))))) ∧ ((σ 0 70).toInt < 0 → Q ((-1) : Int32) (upC σ 0 1 (0 : Int32)) τ vs)
set_option maxHeartbeats 4000000 in
set_option maxRecDepth 100000 in
theorem ct_cell (a : Nat → Nat) (r : Nat → Nat) {σ τ : St} {vs : List Nat} {Q : Int32 → St → St → List Nat → Prop} (hcap : vs.length ≤ CAP) (w : wp_cell  σ τ vs Q) (l : Launch) (D : va_G) (cy : Nat → ClassId) : Ct l D cy SM r (EM a) y_X14_cell (Cond.code y_X14_cell b_X14_cell 7 (some .int)) 4 [.ref (r 0)] σ τ vs (QIs Q) QT0 := by
  unfold wp_cell at w
  refine Ct_of (EM_ok a) (by decide) (Nat.le_of_ble_eq_true rfl) hcap (fun X hnn hF => ?_)
  show G SM r X σ τ vs [(0, .ref (r 0))] [] 0
  refine g_aload_n hF d_X14_cell_0 rfl 0 rfl ?_
  refine g_get (v := .int (σ 0 1)) hF 1 obM_0 (by decide) m_1866 rfl d_X14_cell_1 ?_
  refine g_istore_n hF [(1, .int (σ 0 1)), (0, .ref (r 0))] d_X14_cell_4 rfl hnn (by decide) rfl ?_
  refine g_aload_n hF d_X14_cell_5 rfl 1 rfl ?_
  refine g_iconst hF (v := 0) d_X14_cell_6 (by decide) ?_
  refine g_put (v := 0) hF 1 obM_0 (by decide) m_1866 rfl rfl rfl d_X14_cell_7 ?_
  refine g_aload_n hF d_X14_cell_10 rfl 1 rfl ?_
  refine g_get (v := .int (σ 0 70)) hF 70 obM_0 (by decide) m_1935 rfl d_X14_cell_11 ?_
  refine g_if_ge hF 19 d_X14_cell_14 (by decide) rfl (fun c => ?_) (fun c => ?_)
  · have w1 := w.1 c
    refine g_iconst hF (v := 0) d_X14_cell_19 (by decide) ?_
    refine g_istore_n hF [(2, .int 0), (1, .int (σ 0 1)), (0, .ref (r 0))] d_X14_cell_20 rfl hnn (by decide) rfl ?_
    obtain ⟨L21, ⟨i21, u21⟩, h21⟩ := w1
    have b21 : ∀ (n21 : Nat) (x2_21 : Int32), L21 n21 x2_21 → G SM r X (upC σ 0 1 (0 : Int32)) τ vs [(0, .ref (r 0)), (1, .int (σ 0 1)), (2, .int x2_21)] [] 21 := by
      intro n21
      induction n21 using Nat.strongRecOn with
      | _ n21 ih21 =>
        intro x2_21  w21_
        have w21_ := h21 n21 x2_21  w21_
        refine g_iload_n hF d_X14_cell_21 rfl 2 rfl ?_
        refine g_aload_n hF d_X14_cell_22 rfl 0 rfl ?_
        refine g_get (v := .int (σ 0 70)) hF 70 obM_0 (by decide) m_1935 rfl d_X14_cell_23 ?_
        refine g_icmp_ge hF 116 d_X14_cell_26 (by decide) rfl rfl (fun c => ?_) (fun c => ?_)
        · have w2 := w21_.1 c
          refine g_iconst hF (v := 1) d_X14_cell_116 (by decide) ?_
          refine g_istore_n hF [(2, .int 1), (0, .ref (r 0)), (1, .int (σ 0 1))] d_X14_cell_117 rfl hnn (by decide) rfl ?_
          refine g_iconst hF (v := 0) d_X14_cell_118 (by decide) ?_
          refine g_istore_n hF [(3, .int 0), (2, .int 1), (0, .ref (r 0)), (1, .int (σ 0 1))] d_X14_cell_119 rfl hnn (by decide) rfl ?_
          obtain ⟨L120, ⟨i120, u120⟩, h120⟩ := w2
          have b120 : ∀ (n120 : Nat) (x2_120 : Int32) (x3_120 : Int32), L120 n120 x2_120 x3_120 → G SM r X (upC σ 0 1 (0 : Int32)) τ vs [(0, .ref (r 0)), (1, .int (σ 0 1)), (2, .int x2_120), (3, .int x3_120)] [] 120 := by
            intro n120
            induction n120 using Nat.strongRecOn with
            | _ n120 ih120 =>
              intro x2_120 x3_120  w120_
              have w120_ := h120 n120 x2_120 x3_120  w120_
              refine g_iload_n hF d_X14_cell_120 rfl 3 rfl ?_
              refine g_iconst hF (v := 4) d_X14_cell_121 (by decide) ?_
              refine g_icmp_ge (yv := 4) hF 227 d_X14_cell_122 (by decide) rfl (by decide) (fun c => ?_) (fun c => ?_)
              · have w3 := w120_.1 c
                refine g_iconst hF (v := (-1)) d_X14_cell_227 (by decide) ?_
                exact g_iret hF rfl d_X14_cell_228 ⟨((-1) : Int32), rfl, w3⟩
              · have w4 := w120_.2 c
                refine g_iload_n hF d_X14_cell_125 rfl 2 rfl ?_
                refine g_istore hF [(4, .int x2_120), (0, .ref (r 0)), (1, .int (σ 0 1)), (2, .int x2_120), (3, .int x3_120)] d_X14_cell_126 hnn (by decide) rfl ?_
                obtain ⟨L128, ⟨i128, u128⟩, h128⟩ := w4
                have b128 : ∀ (n128 : Nat) (x4_128 : Int32), L128 n128 x4_128 → G SM r X (upC σ 0 1 (0 : Int32)) τ vs [(0, .ref (r 0)), (1, .int (σ 0 1)), (2, .int x2_120), (3, .int x3_120), (4, .int x4_128)] [] 128 := by
                  intro n128
                  induction n128 using Nat.strongRecOn with
                  | _ n128 ih128 =>
                    intro x4_128  w128_
                    have w128_ := h128 n128 x4_128  w128_
                    refine g_ldcSw hF (fun A s h => (EM_s (j := 2) h (by decide)).1) d_X14_cell_128 ?_
                    refine g_iload hF d_X14_cell_131 4 rfl ?_
                    have w5 := w128_.2
                    refine g_callV (As := [.int x4_128]) (rest := []) hF (t_ch2 (EM_ok a) (fun A s h => EM_s (j := 2) h (by decide)) hcap (SN_lt (by decide)) x4_128 w128_.1.1 w128_.1.2) (Nat.le_of_ble_eq_true rfl) mV_String_charAt m_2233 (recv_str (fun A s h => EM_s (j := 2) h (by decide))) rfl rfl (Nat.le_of_ble_eq_true rfl) d_X14_cell_133 (k_sv ?_) (fun _ _ _ h => h.elim)
                    refine g_bipush hF (v := 32) d_X14_cell_136 (by decide) ?_
                    refine g_icmp_eq (yv := 32) hF 147 d_X14_cell_138 (by decide) rfl (by decide) (fun c => ?_) (fun c => ?_)
                    · have w6 := w5.1 c
                      refine g_iload hF d_X14_cell_147 4 rfl ?_
                      refine g_iload_n hF d_X14_cell_149 rfl 2 rfl ?_
                      refine g_isub hF d_X14_cell_150 ?_
                      refine g_iload_n hF d_X14_cell_151 rfl 1 rfl ?_
                      obtain ⟨J160, h160, w7⟩ := w6
                      have b160 : ∀ (y0_160 : Int32), y0_160 = 0 ∨ y0_160 = 1 → J160 y0_160 → G SM r X (upC σ 0 1 (0 : Int32)) τ vs [(0, .ref (r 0)), (1, .int (σ 0 1)), (2, .int x2_120), (3, .int x3_120), (4, .int x4_128)] [.int y0_160] 160 := by
                        intro y0_160 hy0_160 w160_
                        have w160_ := h160 y0_160 hy0_160 w160_
                        refine g_istore hF [(5, .int y0_160), (0, .ref (r 0)), (1, .int (σ 0 1)), (2, .int x2_120), (3, .int x3_120), (4, .int x4_128)] d_X14_cell_160 hnn (by decide) rfl ?_
                        refine g_iconst hF (v := 0) d_X14_cell_162 (by decide) ?_
                        refine g_istore hF [(6, .int 0), (5, .int y0_160), (0, .ref (r 0)), (1, .int (σ 0 1)), (2, .int x2_120), (3, .int x3_120), (4, .int x4_128)] d_X14_cell_163 hnn (by decide) rfl ?_
                        obtain ⟨L165, ⟨i165, u165⟩, h165⟩ := w160_
                        have b165 : ∀ (n165 : Nat) (x5_165 : Int32) (x6_165 : Int32), x5_165 = 0 ∨ x5_165 = 1 → L165 n165 x5_165 x6_165 → G SM r X (upC σ 0 1 (0 : Int32)) τ vs [(0, .ref (r 0)), (1, .int (σ 0 1)), (2, .int x2_120), (3, .int x3_120), (4, .int x4_128), (5, .int x5_165), (6, .int x6_165)] [] 165 := by
                          intro n165
                          induction n165 using Nat.strongRecOn with
                          | _ n165 ih165 =>
                            intro x5_165 x6_165 hx5_165 w165_
                            have w165_ := h165 n165 x5_165 x6_165 hx5_165 w165_
                            refine g_iload hF d_X14_cell_165 5 rfl ?_
                            obtain ⟨J209, h209, w8⟩ := w165_
                            have b209 : J209  → G SM r X (upC σ 0 1 (0 : Int32)) τ vs [(0, .ref (r 0)), (1, .int (σ 0 1)), (3, .int x3_120), (4, .int x4_128), (5, .int x5_165)] [] 209 := by
                              intro   w209_
                              have w209_ := h209   w209_
                              refine g_iload hF d_X14_cell_209 4 rfl ?_
                              refine g_if_eq hF 216 d_X14_cell_211 (by decide) rfl (fun c => ?_) (fun c => ?_)
                              · have w9 := w209_.1 c
                                refine g_iload hF d_X14_cell_216 3 rfl ?_
                                refine g_iconst hF (v := 1) d_X14_cell_218 (by decide) ?_
                                refine g_iadd hF d_X14_cell_219 ?_
                                refine g_istore_n hF [(2, .int (x4_128 + (1 : Int32))), (0, .ref (r 0)), (1, .int (σ 0 1)), (3, .int x3_120), (4, .int x4_128), (5, .int x5_165)] d_X14_cell_220 rfl hnn (by decide) rfl ?_
                                refine g_iinc hF (x3_120 + 1) [(3, .int (x3_120 + 1)), (2, .int (x4_128 + (1 : Int32))), (0, .ref (r 0)), (1, .int (σ 0 1)), (4, .int x4_128), (5, .int x5_165)] d_X14_cell_221 3 rfl rfl hnn (by decide) rfl ?_
                                refine g_goto hF 120 d_X14_cell_224 (by decide) ?_
                                obtain ⟨m120, hm120, w9⟩ := w9
                                exact g_sub (L' := [(0, .ref (r 0)), (1, .int (σ 0 1)), (2, .int (x4_128 + (1 : Int32))), (3, .int (x3_120 + 1))]) [2, 3, 1, 0] rfl (ih120 m120 hm120 (x4_128 + (1 : Int32)) (x3_120 + 1) w9)
                              · have w10 := w209_.2 c
                                refine g_iconst hF (v := 0) d_X14_cell_214 (by decide) ?_
                                exact g_iret hF rfl d_X14_cell_215 ⟨(0 : Int32), rfl, w10⟩
                            refine g_if_eq hF 209 d_X14_cell_167 (by decide) rfl (fun c => ?_) (fun c => ?_)
                            · have w11 := w8.1 c
                              exact g_sub (L' := [(0, .ref (r 0)), (1, .int (σ 0 1)), (3, .int x3_120), (4, .int x4_128), (5, .int x5_165)]) [0, 1, 3, 4, 5] rfl (b209  w11)
                            · have w12 := w8.2 c
                              refine g_iload hF d_X14_cell_170 6 rfl ?_
                              refine g_iload_n hF d_X14_cell_172 rfl 1 rfl ?_
                              refine g_icmp_ge hF 209 d_X14_cell_173 (by decide) rfl rfl (fun c => ?_) (fun c => ?_)
                              · have w13 := w12.1 c
                                exact g_sub (L' := [(0, .ref (r 0)), (1, .int (σ 0 1)), (3, .int x3_120), (4, .int x4_128), (5, .int x5_165)]) [0, 1, 3, 4, 5] rfl (b209  w13)
                              · have w14 := w12.2 c
                                refine g_ldcSw hF (fun A s h => (EM_s (j := 2) h (by decide)).1) d_X14_cell_176 ?_
                                refine g_iload_n hF d_X14_cell_179 rfl 2 rfl ?_
                                refine g_iload hF d_X14_cell_180 6 rfl ?_
                                refine g_iadd hF d_X14_cell_182 ?_
                                have w15 := w14.2
                                refine g_callV (As := [.int (x2_120 + x6_165)]) (rest := []) hF (t_ch2 (EM_ok a) (fun A s h => EM_s (j := 2) h (by decide)) hcap (SN_lt (by decide)) (x2_120 + x6_165) w14.1.1 w14.1.2) (Nat.le_of_ble_eq_true rfl) mV_String_charAt m_2233 (recv_str (fun A s h => EM_s (j := 2) h (by decide))) rfl rfl (Nat.le_of_ble_eq_true rfl) d_X14_cell_183 (k_sv ?_) (fun _ _ _ h => h.elim)
                                refine g_aload_n hF d_X14_cell_186 rfl 0 rfl ?_
                                refine g_get (v := .ref (r 1)) hF 0 obM_0 (by decide) m_1865 rfl d_X14_cell_187 ?_
                                refine g_iload hF d_X14_cell_190 6 rfl ?_
                                have w16 := w15.2
                                refine g_bald hF arM_1 (s_in (Nat.le_of_ble_eq_true rfl) w15.1.1 w15.1.2) d_X14_cell_192 ?_
                                refine g_top (v := (σ 1 x6_165.toNatClampNeg)) rfl ?_
                                obtain ⟨J201, h201, w17⟩ := w16
                                have b201 : ∀ (y0_201 : Int32), y0_201 = 0 ∨ y0_201 = 1 → J201 y0_201 → G SM r X (upC σ 0 1 (0 : Int32)) τ vs [(0, .ref (r 0)), (1, .int (σ 0 1)), (2, .int x2_120), (3, .int x3_120), (4, .int x4_128), (6, .int x6_165)] [.int y0_201] 201 := by
                                  intro y0_201 hy0_201 w201_
                                  have w201_ := h201 y0_201 hy0_201 w201_
                                  refine g_istore hF [(5, .int y0_201), (0, .ref (r 0)), (1, .int (σ 0 1)), (2, .int x2_120), (3, .int x3_120), (4, .int x4_128), (6, .int x6_165)] d_X14_cell_201 hnn (by decide) rfl ?_
                                  refine g_iinc hF (x6_165 + 1) [(6, .int (x6_165 + 1)), (5, .int y0_201), (0, .ref (r 0)), (1, .int (σ 0 1)), (2, .int x2_120), (3, .int x3_120), (4, .int x4_128)] d_X14_cell_203 6 rfl rfl hnn (by decide) rfl ?_
                                  refine g_goto hF 165 d_X14_cell_206 (by decide) ?_
                                  obtain ⟨m165, hm165, w9⟩ := w201_
                                  exact g_sub (L' := [(0, .ref (r 0)), (1, .int (σ 0 1)), (2, .int x2_120), (3, .int x3_120), (4, .int x4_128), (5, .int y0_201), (6, .int (x6_165 + 1))]) [2, 3, 4, 5, 6, 1, 0] rfl (ih165 m165 hm165 y0_201 (x6_165 + 1) hy0_201 w9)
                                refine g_icmp_ne hF 200 d_X14_cell_193 (by decide) rfl rfl (fun c => ?_) (fun c => ?_)
                                · have w18 := w17.1 c
                                  refine g_iconst hF (v := 0) d_X14_cell_200 (by decide) ?_
                                  exact g_sub (L' := [(0, .ref (r 0)), (1, .int (σ 0 1)), (2, .int x2_120), (3, .int x3_120), (4, .int x4_128), (6, .int x6_165)]) [0, 1, 2, 3, 4, 6] rfl (b201 (0 : Int32) (Or.inl rfl) w18)
                                · have w19 := w17.2 c
                                  refine g_iconst hF (v := 1) d_X14_cell_196 (by decide) ?_
                                  refine g_goto hF 201 d_X14_cell_197 (by decide) ?_
                                  exact g_sub (L' := [(0, .ref (r 0)), (1, .int (σ 0 1)), (2, .int x2_120), (3, .int x3_120), (4, .int x4_128), (6, .int x6_165)]) [0, 1, 2, 3, 4, 6] rfl (b201 (1 : Int32) (Or.inr rfl) w19)
                        exact g_sub (L' := [(0, .ref (r 0)), (1, .int (σ 0 1)), (2, .int x2_120), (3, .int x3_120), (4, .int x4_128), (5, .int y0_160), (6, .int 0)]) [2, 3, 4, 5, 6, 1, 0] rfl (b165 i165 y0_160 (0 : Int32) hy0_160 u165)
                      refine g_icmp_ne hF 159 d_X14_cell_152 (by decide) rfl rfl (fun c => ?_) (fun c => ?_)
                      · have w20 := w7.1 c
                        refine g_iconst hF (v := 0) d_X14_cell_159 (by decide) ?_
                        exact b160 (0 : Int32) (Or.inl rfl) w20
                      · have w21 := w7.2 c
                        refine g_iconst hF (v := 1) d_X14_cell_155 (by decide) ?_
                        refine g_goto hF 160 d_X14_cell_156 (by decide) ?_
                        exact b160 (1 : Int32) (Or.inr rfl) w21
                    · have w22 := w5.2 c
                      refine g_iinc hF (x4_128 + 1) [(4, .int (x4_128 + 1)), (0, .ref (r 0)), (1, .int (σ 0 1)), (2, .int x2_120), (3, .int x3_120)] d_X14_cell_141 4 rfl rfl hnn (by decide) rfl ?_
                      refine g_goto hF 128 d_X14_cell_144 (by decide) ?_
                      obtain ⟨m128, hm128, w9⟩ := w22
                      exact g_sub (L' := [(0, .ref (r 0)), (1, .int (σ 0 1)), (2, .int x2_120), (3, .int x3_120), (4, .int (x4_128 + 1))]) [1, 2, 3, 4, 0] rfl (ih128 m128 hm128 (x4_128 + 1) w9)
                exact g_sub (L' := [(0, .ref (r 0)), (1, .int (σ 0 1)), (2, .int x2_120), (3, .int x3_120), (4, .int x2_120)]) [1, 2, 3, 4, 0] rfl (b128 i128 x2_120 u128)
          exact g_sub (L' := [(0, .ref (r 0)), (1, .int (σ 0 1)), (2, .int 1), (3, .int 0)]) [2, 3, 1, 0] rfl (b120 i120 (1 : Int32) (0 : Int32) u120)
        · have w23 := w21_.2 c
          refine g_aload_n hF d_X14_cell_29 rfl 0 rfl ?_
          refine g_get (v := .ref (r 22)) hF 32 obM_0 (by decide) m_1897 rfl d_X14_cell_30 ?_
          refine g_aload_n hF d_X14_cell_33 rfl 0 rfl ?_
          refine g_get (v := .ref (r 41)) hF 68 obM_0 (by decide) m_1933 rfl d_X14_cell_34 ?_
          refine g_iload_n hF d_X14_cell_37 rfl 2 rfl ?_
          have w24 := w23.2
          refine g_iald hF arM_41 (s_in (Nat.le_of_ble_eq_true rfl) w23.1.1 w23.1.2) d_X14_cell_38 ?_
          refine g_top (v := (σ 41 x2_21.toNatClampNeg)) rfl ?_
          refine g_iconst hF (v := 1) d_X14_cell_39 (by decide) ?_
          refine g_isub hF d_X14_cell_40 ?_
          have w25 := w24.2
          refine g_iald hF arM_22 (s_in (Nat.le_of_ble_eq_true rfl) w24.1.1 w24.1.2) d_X14_cell_41 ?_
          refine g_top (v := (σ 22 ((σ 41 x2_21.toNatClampNeg) - (1 : Int32)).toNatClampNeg)) rfl ?_
          refine g_istore_n hF [(3, .int (σ 22 ((σ 41 x2_21.toNatClampNeg) - (1 : Int32)).toNatClampNeg)), (0, .ref (r 0)), (1, .int (σ 0 1)), (2, .int x2_21)] d_X14_cell_42 rfl hnn (by decide) rfl ?_
          obtain ⟨L43, ⟨i43, u43⟩, h43⟩ := w25
          have b43 : ∀ (n43 : Nat) (x3_43 : Int32), L43 n43 x3_43 → G SM r X (upC σ 0 1 (0 : Int32)) τ vs [(0, .ref (r 0)), (1, .int (σ 0 1)), (2, .int x2_21), (3, .int x3_43)] [] 43 := by
            intro n43
            induction n43 using Nat.strongRecOn with
            | _ n43 ih43 =>
              intro x3_43  w43_
              have w43_ := h43 n43 x3_43  w43_
              refine g_iload_n hF d_X14_cell_43 rfl 3 rfl ?_
              refine g_aload_n hF d_X14_cell_44 rfl 0 rfl ?_
              refine g_get (v := .ref (r 22)) hF 32 obM_0 (by decide) m_1897 rfl d_X14_cell_45 ?_
              refine g_aload_n hF d_X14_cell_48 rfl 0 rfl ?_
              refine g_get (v := .ref (r 41)) hF 68 obM_0 (by decide) m_1933 rfl d_X14_cell_49 ?_
              refine g_iload_n hF d_X14_cell_52 rfl 2 rfl ?_
              have w26 := w43_.2
              refine g_iald hF arM_41 (s_in (Nat.le_of_ble_eq_true rfl) w43_.1.1 w43_.1.2) d_X14_cell_53 ?_
              refine g_top (v := (σ 41 x2_21.toNatClampNeg)) rfl ?_
              have w27 := w26.2
              refine g_iald hF arM_22 (s_in (Nat.le_of_ble_eq_true rfl) w26.1.1 w26.1.2) d_X14_cell_54 ?_
              refine g_top (v := (σ 22 (σ 41 x2_21.toNatClampNeg).toNatClampNeg)) rfl ?_
              refine g_icmp_ge hF 110 d_X14_cell_55 (by decide) rfl rfl (fun c => ?_) (fun c => ?_)
              · have w28 := w27.1 c
                refine g_iinc hF (x2_21 + 1) [(2, .int (x2_21 + 1)), (0, .ref (r 0)), (1, .int (σ 0 1)), (3, .int x3_43)] d_X14_cell_110 2 rfl rfl hnn (by decide) rfl ?_
                refine g_goto hF 21 d_X14_cell_113 (by decide) ?_
                obtain ⟨m21, hm21, w9⟩ := w28
                exact g_sub (L' := [(0, .ref (r 0)), (1, .int (σ 0 1)), (2, .int (x2_21 + 1))]) [1, 2, 0] rfl (ih21 m21 hm21 (x2_21 + 1) w9)
              · have w29 := w27.2 c
                refine g_aload_n hF d_X14_cell_58 rfl 0 rfl ?_
                refine g_iload_n hF d_X14_cell_59 rfl 3 rfl ?_
                refine g_iconst hF (v := 1) d_X14_cell_60 (by decide) ?_
                refine g_callV (As := [.int x3_43, .int 1]) (rest := []) hF (fun l D cy => (ct_isSymbol a r hcap w29) l D cy) (Nat.le_of_ble_eq_true rfl) mV_X14_isSymbol m_2689 (recv_ob obM_0) rfl rfl (Nat.le_of_ble_eq_true rfl) d_X14_cell_61 (krZ (fun v61 hz61 w30 => ?_)) (fun _ _ _ h => h.elim)
                obtain ⟨J104, h104, w31⟩ := w30
                have b104 : J104  → G SM r X (upC σ 0 1 (0 : Int32)) τ vs [(0, .ref (r 0)), (1, .int (σ 0 1)), (2, .int x2_21), (3, .int x3_43)] [] 104 := by
                  intro   w104_
                  have w104_ := h104   w104_
                  refine g_iinc hF (x3_43 + 1) [(3, .int (x3_43 + 1)), (0, .ref (r 0)), (1, .int (σ 0 1)), (2, .int x2_21)] d_X14_cell_104 3 rfl rfl hnn (by decide) rfl ?_
                  refine g_goto hF 43 d_X14_cell_107 (by decide) ?_
                  obtain ⟨m43, hm43, w9⟩ := w104_
                  exact g_sub (L' := [(0, .ref (r 0)), (1, .int (σ 0 1)), (2, .int x2_21), (3, .int (x3_43 + 1))]) [1, 2, 3, 0] rfl (ih43 m43 hm43 (x3_43 + 1) w9)
                refine g_if_eq hF 104 d_X14_cell_64 (by decide) rfl (fun c => ?_) (fun c => ?_)
                · have w32 := w31.1 c
                  exact b104  w32
                · have w33 := w31.2 c
                  refine g_aload_n hF d_X14_cell_67 rfl 0 rfl ?_
                  refine g_iload_n hF d_X14_cell_68 rfl 3 rfl ?_
                  refine g_iload_n hF d_X14_cell_69 rfl 1 rfl ?_
                  refine g_callV (As := [.int x3_43, .int (σ 0 1)]) (rest := []) hF (fun l D cy => (ct_isTray a r hcap w33) l D cy) (Nat.le_of_ble_eq_true rfl) mV_X14_isTray m_2729 (recv_ob obM_0) rfl rfl (Nat.le_of_ble_eq_true rfl) d_X14_cell_70 (krZ (fun v70 hz70 w34 => ?_)) (fun _ _ _ h => h.elim)
                  refine g_if_eq hF 104 d_X14_cell_73 (by decide) rfl (fun c => ?_) (fun c => ?_)
                  · have w35 := w34.1 c
                    exact b104  w35
                  · have w36 := w34.2 c
                    refine g_aload_n hF d_X14_cell_76 rfl 0 rfl ?_
                    refine g_get (v := .ref (r 9)) hF 18 obM_0 (by decide) m_1883 rfl d_X14_cell_77 ?_
                    refine g_iload_n hF d_X14_cell_80 rfl 3 rfl ?_
                    have w37 := w36.2
                    refine g_iald hF arM_9 (s_in (Nat.le_of_ble_eq_true rfl) w36.1.1 w36.1.2) d_X14_cell_81 ?_
                    refine g_top (v := (σ 9 x3_43.toNatClampNeg)) rfl ?_
                    refine g_iconst hF (v := 1) d_X14_cell_82 (by decide) ?_
                    refine g_icmp_ne (yv := 1) hF 102 d_X14_cell_83 (by decide) rfl (by decide) (fun c => ?_) (fun c => ?_)
                    · have w38 := w37.1 c
                      refine g_iconst hF (v := 0) d_X14_cell_102 (by decide) ?_
                      exact g_iret hF rfl d_X14_cell_103 ⟨(0 : Int32), rfl, w38⟩
                    · have w39 := w37.2 c
                      refine g_aload_n hF d_X14_cell_86 rfl 0 rfl ?_
                      refine g_get (v := .ref (r 42)) hF 69 obM_0 (by decide) m_1934 rfl d_X14_cell_87 ?_
                      refine g_iload_n hF d_X14_cell_90 rfl 2 rfl ?_
                      have w40 := w39.2
                      refine g_iald hF arM_42 (s_in (Nat.le_of_ble_eq_true rfl) w39.1.1 w39.1.2) d_X14_cell_91 ?_
                      refine g_top (v := (σ 42 x2_21.toNatClampNeg)) rfl ?_
                      refine g_aload_n hF d_X14_cell_92 rfl 0 rfl ?_
                      refine g_get (v := .ref (r 17)) hF 26 obM_0 (by decide) m_1891 rfl d_X14_cell_93 ?_
                      refine g_iload_n hF d_X14_cell_96 rfl 3 rfl ?_
                      have w41 := w40.2
                      refine g_iald hF arM_17 (s_in (Nat.le_of_ble_eq_true rfl) w40.1.1 w40.1.2) d_X14_cell_97 ?_
                      refine g_top (v := (σ 17 x3_43.toNatClampNeg)) rfl ?_
                      refine g_iadd hF d_X14_cell_98 ?_
                      refine g_goto hF 103 d_X14_cell_99 (by decide) ?_
                      exact g_iret hF rfl d_X14_cell_103 ⟨((σ 42 x2_21.toNatClampNeg) + (σ 17 x3_43.toNatClampNeg)), rfl, w41⟩
          exact g_sub (L' := [(0, .ref (r 0)), (1, .int (σ 0 1)), (2, .int x2_21), (3, .int (σ 22 ((σ 41 x2_21.toNatClampNeg) - (1 : Int32)).toNatClampNeg))]) [1, 2, 3, 0] rfl (b43 i43 (σ 22 ((σ 41 x2_21.toNatClampNeg) - (1 : Int32)).toNatClampNeg) u43)
    exact g_sub (L' := [(0, .ref (r 0)), (1, .int (σ 0 1)), (2, .int 0)]) [2, 1, 0] rfl (b21 i21 (0 : Int32) u21)
  · have w42 := w.2 c
    refine g_iconst hF (v := (-1)) d_X14_cell_17 (by decide) ?_
    exact g_iret hF rfl d_X14_cell_18 ⟨((-1) : Int32), rfl, w42⟩
def wp_setLocal (a1 : Int32) (a2 : Int32) (σ τ : St) (vs : List Nat) (Q : St → St → List Nat → Prop) : Prop :=
  wp_rowOf a1 σ τ vs (fun v6 => ((0 ≤ v6.toInt ∧ v6.toInt < 524288) ∧ ((σ 8 v6.toNatClampNeg).toInt < 0 → ((0 ≤ ((((σ 0 86) - (1 : Int32)) * (100 : Int32)) + a1).toInt ∧ ((((σ 0 86) - (1 : Int32)) * (100 : Int32)) + a1).toInt < 26000) ∧ Q (upC σ 48 ((((σ 0 86) - (1 : Int32)) * (100 : Int32)) + a1).toNatClampNeg a2) τ vs)) ∧ (0 ≤ (σ 8 v6.toNatClampNeg).toInt → ((0 ≤ ((σ 0 86) - (1 : Int32)).toInt ∧ ((σ 0 86) - (1 : Int32)).toInt < 260) ∧ ((0 ≤ ((σ 49 ((σ 0 86) - (1 : Int32)).toNatClampNeg) + (σ 8 v6.toNatClampNeg)).toInt ∧ ((σ 49 ((σ 0 86) - (1 : Int32)).toNatClampNeg) + (σ 8 v6.toNatClampNeg)).toInt < 32768) ∧ Q (upC σ 46 ((σ 49 ((σ 0 86) - (1 : Int32)).toNatClampNeg) + (σ 8 v6.toNatClampNeg)).toNatClampNeg a2) τ vs)))))
set_option maxHeartbeats 4000000 in
set_option maxRecDepth 100000 in
theorem ct_setLocal (a : Nat → Nat) (r : Nat → Nat) {a1 : Int32} {a2 : Int32} {σ τ : St} {vs : List Nat} {Q : St → St → List Nat → Prop} (hcap : vs.length ≤ CAP) (w : wp_setLocal a1 a2 σ τ vs Q) (l : Launch) (D : va_G) (cy : Nat → ClassId) : Ct l D cy SM r (EM a) y_X14_setLocal (Cond.code y_X14_setLocal b_X14_setLocal 4 none) 1 [.ref (r 0), .int a1, .int a2] σ τ vs (QVs Q) QT0 := by
  unfold wp_setLocal at w
  refine Ct_of (EM_ok a) (by decide) (Nat.le_of_ble_eq_true rfl) hcap (fun X hnn hF => ?_)
  show G SM r X σ τ vs [(0, .ref (r 0)), (1, .int a1), (2, .int a2)] [] 0
  refine g_aload_n hF d_X14_setLocal_0 rfl 0 rfl ?_
  refine g_get (v := .ref (r 8)) hF 16 obM_0 (by decide) m_1881 rfl d_X14_setLocal_1 ?_
  refine g_aload_n hF d_X14_setLocal_4 rfl 0 rfl ?_
  refine g_iload_n hF d_X14_setLocal_5 rfl 1 rfl ?_
  refine g_callV (As := [.int a1]) (rest := [.ref (r 8)]) hF (fun l D cy => (ct_rowOf a r hcap w) l D cy) (Nat.le_of_ble_eq_true rfl) mV_X14_rowOf m_2757 (recv_ob obM_0) rfl rfl (Nat.le_of_ble_eq_true rfl) d_X14_setLocal_6 (krI (fun v6 w1 => ?_)) (fun _ _ _ h => h.elim)
  have w2 := w1.2
  refine g_iald hF arM_8 (s_in (Nat.le_of_ble_eq_true rfl) w1.1.1 w1.1.2) d_X14_setLocal_9 ?_
  refine g_top (v := (σ 8 v6.toNatClampNeg)) rfl ?_
  refine g_istore_n hF [(3, .int (σ 8 v6.toNatClampNeg)), (0, .ref (r 0)), (1, .int a1), (2, .int a2)] d_X14_setLocal_10 rfl hnn (by decide) rfl ?_
  refine g_iload_n hF d_X14_setLocal_11 rfl 0 rfl ?_
  refine g_if_lt hF 37 d_X14_setLocal_12 (by decide) rfl (fun c => ?_) (fun c => ?_)
  · have w3 := w2.1 c
    refine g_aload_n hF d_X14_setLocal_37 rfl 1 rfl ?_
    refine g_get (v := .ref (r 48)) hF 82 obM_0 (by decide) m_1947 rfl d_X14_setLocal_38 ?_
    refine g_aload_n hF d_X14_setLocal_41 rfl 1 rfl ?_
    refine g_get (v := .int (σ 0 86)) hF 86 obM_0 (by decide) m_1951 rfl d_X14_setLocal_42 ?_
    refine g_iconst hF (v := 1) d_X14_setLocal_45 (by decide) ?_
    refine g_isub hF d_X14_setLocal_46 ?_
    refine g_bipush hF (v := 100) d_X14_setLocal_47 (by decide) ?_
    refine g_imul hF d_X14_setLocal_49 ?_
    refine g_iload_n hF d_X14_setLocal_50 rfl 2 rfl ?_
    refine g_iadd hF d_X14_setLocal_51 ?_
    refine g_iload_n hF d_X14_setLocal_52 rfl 3 rfl ?_
    have w4 := w3.2
    refine g_iast hF arM_48 (s_in (Nat.le_of_ble_eq_true rfl) w3.1.1 w3.1.2) d_X14_setLocal_53 ?_
    exact g_vret hF rfl d_X14_setLocal_54 ⟨rfl, w4⟩
  · have w5 := w2.2 c
    refine g_aload_n hF d_X14_setLocal_15 rfl 1 rfl ?_
    refine g_get (v := .ref (r 46)) hF 79 obM_0 (by decide) m_1944 rfl d_X14_setLocal_16 ?_
    refine g_aload_n hF d_X14_setLocal_19 rfl 1 rfl ?_
    refine g_get (v := .ref (r 49)) hF 83 obM_0 (by decide) m_1948 rfl d_X14_setLocal_20 ?_
    refine g_aload_n hF d_X14_setLocal_23 rfl 1 rfl ?_
    refine g_get (v := .int (σ 0 86)) hF 86 obM_0 (by decide) m_1951 rfl d_X14_setLocal_24 ?_
    refine g_iconst hF (v := 1) d_X14_setLocal_27 (by decide) ?_
    refine g_isub hF d_X14_setLocal_28 ?_
    have w6 := w5.2
    refine g_iald hF arM_49 (s_in (Nat.le_of_ble_eq_true rfl) w5.1.1 w5.1.2) d_X14_setLocal_29 ?_
    refine g_top (v := (σ 49 ((σ 0 86) - (1 : Int32)).toNatClampNeg)) rfl ?_
    refine g_iload_n hF d_X14_setLocal_30 rfl 0 rfl ?_
    refine g_iadd hF d_X14_setLocal_31 ?_
    refine g_iload_n hF d_X14_setLocal_32 rfl 3 rfl ?_
    have w7 := w6.2
    refine g_iast hF arM_46 (s_in (Nat.le_of_ble_eq_true rfl) w6.1.1 w6.1.2) d_X14_setLocal_33 ?_
    refine g_goto hF 54 d_X14_setLocal_34 (by decide) ?_
    exact g_vret hF rfl d_X14_setLocal_54 ⟨rfl, w7⟩
def wp_clear (a1 : Int32) (σ τ : St) (vs : List Nat) (Q : St → St → List Nat → Prop) : Prop :=
  wp_rowOf a1 σ τ vs (fun v6 => ((0 ≤ (v6 + (1 : Int32)).toInt ∧ (v6 + (1 : Int32)).toInt < 524288) ∧ ((0 ≤ ((σ 0 86) - (1 : Int32)).toInt ∧ ((σ 0 86) - (1 : Int32)).toInt < 260) ∧ wp_rowOf a1 σ τ vs (fun v30 => ((0 ≤ v30.toInt ∧ v30.toInt < 524288) ∧ ∃ L39 : Nat → Int32 → St → St → List Nat → Prop, (∃ n, L39 n (0 : Int32) σ τ vs) ∧ ∀ (n39 : Nat) (x4_39 : Int32) (s39 t39 : St) (z39 : List Nat), L39 n39 x4_39 s39 t39 z39 → (((σ 8 (v6 + (1 : Int32)).toNatClampNeg).toInt ≤ x4_39.toInt → ((σ 8 (v6 + (1 : Int32)).toNatClampNeg).toInt ≠ 0 → Q s39 t39 z39) ∧ ((σ 8 (v6 + (1 : Int32)).toNatClampNeg).toInt = 0 → wp_setLocal a1 (0 : Int32) s39 t39 z39 (fun s68 t68 z68 => Q s68 t68 z68))) ∧ (x4_39.toInt < (σ 8 (v6 + (1 : Int32)).toNatClampNeg).toInt → ((0 ≤ (((σ 49 ((σ 0 86) - (1 : Int32)).toNatClampNeg) + (σ 8 v30.toNatClampNeg)) + x4_39).toInt ∧ (((σ 49 ((σ 0 86) - (1 : Int32)).toNatClampNeg) + (σ 8 v30.toNatClampNeg)) + x4_39).toInt < 32768) ∧ ∃ m, m < n39 ∧ L39 m (x4_39 + 1) (upC s39 46 (((σ 49 ((σ 0 86) - (1 : Int32)).toNatClampNeg) + (σ 8 v30.toNatClampNeg)) + x4_39).toNatClampNeg (0 : Int32)) t39 z39))))))))
set_option maxHeartbeats 4000000 in
set_option maxRecDepth 100000 in
theorem ct_clear (a : Nat → Nat) (r : Nat → Nat) {a1 : Int32} {σ τ : St} {vs : List Nat} {Q : St → St → List Nat → Prop} (hcap : vs.length ≤ CAP) (w : wp_clear a1 σ τ vs Q) (l : Launch) (D : va_G) (cy : Nat → ClassId) : Ct l D cy SM r (EM a) y_X14_clear (Cond.code y_X14_clear b_X14_clear 5 none) 2 [.ref (r 0), .int a1] σ τ vs (QVs Q) QT0 := by
  unfold wp_clear at w
  refine Ct_of (EM_ok a) (by decide) (Nat.le_of_ble_eq_true rfl) hcap (fun X hnn hF => ?_)
  show G SM r X σ τ vs [(0, .ref (r 0)), (1, .int a1)] [] 0
  refine g_aload_n hF d_X14_clear_0 rfl 0 rfl ?_
  refine g_get (v := .ref (r 8)) hF 16 obM_0 (by decide) m_1881 rfl d_X14_clear_1 ?_
  refine g_aload_n hF d_X14_clear_4 rfl 0 rfl ?_
  refine g_iload_n hF d_X14_clear_5 rfl 1 rfl ?_
  refine g_callV (As := [.int a1]) (rest := [.ref (r 8)]) hF (fun l D cy => (ct_rowOf a r hcap w) l D cy) (Nat.le_of_ble_eq_true rfl) mV_X14_rowOf m_2757 (recv_ob obM_0) rfl rfl (Nat.le_of_ble_eq_true rfl) d_X14_clear_6 (krI (fun v6 w1 => ?_)) (fun _ _ _ h => h.elim)
  refine g_iconst hF (v := 1) d_X14_clear_9 (by decide) ?_
  refine g_iadd hF d_X14_clear_10 ?_
  have w2 := w1.2
  refine g_iald hF arM_8 (s_in (Nat.le_of_ble_eq_true rfl) w1.1.1 w1.1.2) d_X14_clear_11 ?_
  refine g_top (v := (σ 8 (v6 + (1 : Int32)).toNatClampNeg)) rfl ?_
  refine g_istore_n hF [(2, .int (σ 8 (v6 + (1 : Int32)).toNatClampNeg)), (0, .ref (r 0)), (1, .int a1)] d_X14_clear_12 rfl hnn (by decide) rfl ?_
  refine g_aload_n hF d_X14_clear_13 rfl 1 rfl ?_
  refine g_get (v := .ref (r 49)) hF 83 obM_0 (by decide) m_1948 rfl d_X14_clear_14 ?_
  refine g_aload_n hF d_X14_clear_17 rfl 1 rfl ?_
  refine g_get (v := .int (σ 0 86)) hF 86 obM_0 (by decide) m_1951 rfl d_X14_clear_18 ?_
  refine g_iconst hF (v := 1) d_X14_clear_21 (by decide) ?_
  refine g_isub hF d_X14_clear_22 ?_
  have w3 := w2.2
  refine g_iald hF arM_49 (s_in (Nat.le_of_ble_eq_true rfl) w2.1.1 w2.1.2) d_X14_clear_23 ?_
  refine g_top (v := (σ 49 ((σ 0 86) - (1 : Int32)).toNatClampNeg)) rfl ?_
  refine g_aload_n hF d_X14_clear_24 rfl 1 rfl ?_
  refine g_get (v := .ref (r 8)) hF 16 obM_0 (by decide) m_1881 rfl d_X14_clear_25 ?_
  refine g_aload_n hF d_X14_clear_28 rfl 1 rfl ?_
  refine g_iload_n hF d_X14_clear_29 rfl 2 rfl ?_
  refine g_callV (As := [.int a1]) (rest := [.ref (r 8), .int (σ 49 ((σ 0 86) - (1 : Int32)).toNatClampNeg)]) hF (fun l D cy => (ct_rowOf a r hcap w3) l D cy) (Nat.le_of_ble_eq_true rfl) mV_X14_rowOf m_2757 (recv_ob obM_0) rfl rfl (Nat.le_of_ble_eq_true rfl) d_X14_clear_30 (krI (fun v30 w4 => ?_)) (fun _ _ _ h => h.elim)
  have w5 := w4.2
  refine g_iald hF arM_8 (s_in (Nat.le_of_ble_eq_true rfl) w4.1.1 w4.1.2) d_X14_clear_33 ?_
  refine g_top (v := (σ 8 v30.toNatClampNeg)) rfl ?_
  refine g_iadd hF d_X14_clear_34 ?_
  refine g_istore_n hF [(3, .int ((σ 49 ((σ 0 86) - (1 : Int32)).toNatClampNeg) + (σ 8 v30.toNatClampNeg))), (2, .int (σ 8 (v6 + (1 : Int32)).toNatClampNeg)), (0, .ref (r 0)), (1, .int a1)] d_X14_clear_35 rfl hnn (by decide) rfl ?_
  refine g_iconst hF (v := 0) d_X14_clear_36 (by decide) ?_
  refine g_istore hF [(4, .int 0), (3, .int ((σ 49 ((σ 0 86) - (1 : Int32)).toNatClampNeg) + (σ 8 v30.toNatClampNeg))), (2, .int (σ 8 (v6 + (1 : Int32)).toNatClampNeg)), (0, .ref (r 0)), (1, .int a1)] d_X14_clear_37 hnn (by decide) rfl ?_
  obtain ⟨L39, ⟨i39, u39⟩, h39⟩ := w5
  have b39 : ∀ (n39 : Nat) (x4_39 : Int32) (s39 t39 : St) (z39 : List Nat), L39 n39 x4_39 s39 t39 z39 → G SM r X s39 t39 z39 [(0, .ref (r 0)), (1, .int a1), (2, .int (σ 8 (v6 + (1 : Int32)).toNatClampNeg)), (3, .int ((σ 49 ((σ 0 86) - (1 : Int32)).toNatClampNeg) + (σ 8 v30.toNatClampNeg))), (4, .int x4_39)] [] 39 := by
    intro n39
    induction n39 using Nat.strongRecOn with
    | _ n39 ih39 =>
      intro x4_39 s39 t39 z39  w39_
      have w39_ := h39 n39 x4_39 s39 t39 z39  w39_
      refine g_iload hF d_X14_clear_39 4 rfl ?_
      refine g_iload_n hF d_X14_clear_41 rfl 2 rfl ?_
      refine g_icmp_ge hF 61 d_X14_clear_42 (by decide) rfl rfl (fun c => ?_) (fun c => ?_)
      · have w6 := w39_.1 c
        refine g_iload_n hF d_X14_clear_61 rfl 2 rfl ?_
        refine g_if_ne hF 71 d_X14_clear_62 (by decide) rfl (fun c => ?_) (fun c => ?_)
        · have w7 := w6.1 c
          exact g_vret hF rfl d_X14_clear_71 ⟨rfl, w7⟩
        · have w8 := w6.2 c
          refine g_aload_n hF d_X14_clear_65 rfl 0 rfl ?_
          refine g_iload_n hF d_X14_clear_66 rfl 1 rfl ?_
          refine g_iconst hF (v := 0) d_X14_clear_67 (by decide) ?_
          refine g_cap (fun hc8 => ?_)
          refine g_callV (As := [.int a1, .int 0]) (rest := []) hF (fun l D cy => (ct_setLocal a r hc8 w8) l D cy) (Nat.le_of_ble_eq_true rfl) mV_X14_setLocal m_2753 (recv_ob obM_0) rfl rfl (Nat.le_of_ble_eq_true rfl) d_X14_clear_68 (kV (fun s68 t68 z68 w10 => ?_)) (fun _ _ _ h => h.elim)
          exact g_vret hF rfl d_X14_clear_71 ⟨rfl, w10⟩
      · have w11 := w39_.2 c
        refine g_aload_n hF d_X14_clear_45 rfl 0 rfl ?_
        refine g_get (v := .ref (r 46)) hF 79 obM_0 (by decide) m_1944 rfl d_X14_clear_46 ?_
        refine g_iload_n hF d_X14_clear_49 rfl 3 rfl ?_
        refine g_iload hF d_X14_clear_50 4 rfl ?_
        refine g_iadd hF d_X14_clear_52 ?_
        refine g_iconst hF (v := 0) d_X14_clear_53 (by decide) ?_
        have w12 := w11.2
        refine g_iast hF arM_46 (s_in (Nat.le_of_ble_eq_true rfl) w11.1.1 w11.1.2) d_X14_clear_54 ?_
        refine g_iinc hF (x4_39 + 1) [(4, .int (x4_39 + 1)), (0, .ref (r 0)), (1, .int a1), (2, .int (σ 8 (v6 + (1 : Int32)).toNatClampNeg)), (3, .int ((σ 49 ((σ 0 86) - (1 : Int32)).toNatClampNeg) + (σ 8 v30.toNatClampNeg)))] d_X14_clear_55 4 rfl rfl hnn (by decide) rfl ?_
        refine g_goto hF 39 d_X14_clear_58 (by decide) ?_
        obtain ⟨m39, hm39, w9⟩ := w12
        exact g_sub (L' := [(0, .ref (r 0)), (1, .int a1), (2, .int (σ 8 (v6 + (1 : Int32)).toNatClampNeg)), (3, .int ((σ 49 ((σ 0 86) - (1 : Int32)).toNatClampNeg) + (σ 8 v30.toNatClampNeg))), (4, .int (x4_39 + 1))]) [1, 2, 3, 4, 0] rfl (ih39 m39 hm39 (x4_39 + 1) (upC s39 46 (((σ 49 ((σ 0 86) - (1 : Int32)).toNatClampNeg) + (σ 8 v30.toNatClampNeg)) + x4_39).toNatClampNeg (0 : Int32)) t39 z39 w9)
  exact g_sub (L' := [(0, .ref (r 0)), (1, .int a1), (2, .int (σ 8 (v6 + (1 : Int32)).toNatClampNeg)), (3, .int ((σ 49 ((σ 0 86) - (1 : Int32)).toNatClampNeg) + (σ 8 v30.toNatClampNeg))), (4, .int 0)]) [3, 4, 2, 1, 0] rfl (b39 i39 (0 : Int32) σ τ vs u39)
def wp_library_1 (a1 : Int32) (a2 : Int32) (σ τ : St) (vs : List Nat) (Q : St → St → List Nat → Prop) : Prop :=
  (a1.toInt ≠ 0 → wp_pop σ τ vs (fun v59 s59 t59 z59 => (a1.toInt ≠ 1 → (a1.toInt ≠ 2 → Q (upC (upC s59 0 94 v59) 0 97 (5 : Int32)) t59 z59) ∧ (a1.toInt = 2 → wp_print v59 a2 s59 t59 z59 (fun s85 t85 z85 => Q s85 t85 z85))) ∧ (a1.toInt = 1 → wp_emit v59 a2 s59 t59 z59 (fun s71 t71 z71 => Q s71 t71 z71)))) ∧ (a1.toInt = 0 → (∃ J33 : Int32 → Prop, (∀ (y1_33 : Int32), J33 y1_33 → (wp_push y1_33 σ τ vs (fun s33 t33 z33 => ((s33 0 88).toInt ≤ (s33 0 89).toInt → Q s33 t33 z33) ∧ ((s33 0 89).toInt < (s33 0 88).toInt → Q (upC s33 0 89 ((s33 0 89) + (1 : Int32))) t33 z33)))) ∧ ((σ 0 88).toInt ≤ (σ 0 89).toInt → J33 ((-1) : Int32)) ∧ ((σ 0 89).toInt < (σ 0 88).toInt → ((0 ≤ (σ 0 89).toInt ∧ (σ 0 89).toInt < 4096) ∧ J33 ((σ 52 (σ 0 89).toNatClampNeg) &&& (255 : Int32))))))
set_option maxHeartbeats 4000000 in
set_option maxRecDepth 100000 in
theorem ct_library_1 (a : Nat → Nat) (r : Nat → Nat) {a1 : Int32} {a2 : Int32} {σ τ : St} {vs : List Nat} {Q : St → St → List Nat → Prop} (hcap : vs.length ≤ CAP) (w : wp_library_1 a1 a2 σ τ vs Q) (l : Launch) (D : va_G) (cy : Nat → ClassId) : Ct l D cy SM r (EM a) y_X14_library_1 (Cond.code y_X14_library_1 b_X14_library_1 4 none) 4 [.ref (r 0), .int a1, .int a2] σ τ vs (QVs Q) QT0 := by
  unfold wp_library_1 at w
  refine Ct_of (EM_ok a) (by decide) (Nat.le_of_ble_eq_true rfl) hcap (fun X hnn hF => ?_)
  show G SM r X σ τ vs [(0, .ref (r 0)), (1, .int a1), (2, .int a2)] [] 0
  refine g_iload_n hF d_X14_library_1_0 rfl 1 rfl ?_
  refine g_if_ne hF 58 d_X14_library_1_1 (by decide) rfl (fun c => ?_) (fun c => ?_)
  · have w1 := w.1 c
    refine g_aload_n hF d_X14_library_1_58 rfl 0 rfl ?_
    refine g_callV (As := []) (rest := []) hF (fun l D cy => (ct_pop a r hcap w1) l D cy) (Nat.le_of_ble_eq_true rfl) mV_X14_pop m_2777 (recv_ob obM_0) rfl rfl (Nat.le_of_ble_eq_true rfl) d_X14_library_1_59 (kI (fun v59 s59 t59 z59 w2 => ?_)) (fun _ _ _ h => h.elim)
    refine g_istore_n hF [(3, .int v59), (0, .ref (r 0)), (1, .int a1), (2, .int a2)] d_X14_library_1_62 rfl hnn (by decide) rfl ?_
    refine g_iload_n hF d_X14_library_1_63 rfl 2 rfl ?_
    refine g_iconst hF (v := 1) d_X14_library_1_64 (by decide) ?_
    refine g_icmp_ne (yv := 1) hF 77 d_X14_library_1_65 (by decide) rfl (by decide) (fun c => ?_) (fun c => ?_)
    · have w3 := w2.1 c
      refine g_iload_n hF d_X14_library_1_77 rfl 2 rfl ?_
      refine g_iconst hF (v := 2) d_X14_library_1_78 (by decide) ?_
      refine g_icmp_ne (yv := 2) hF 91 d_X14_library_1_79 (by decide) rfl (by decide) (fun c => ?_) (fun c => ?_)
      · have w4 := w3.1 c
        refine g_aload_n hF d_X14_library_1_91 rfl 1 rfl ?_
        refine g_iload_n hF d_X14_library_1_92 rfl 0 rfl ?_
        refine g_put (v := v59) hF 94 obM_0 (by decide) m_1959 rfl rfl rfl d_X14_library_1_93 ?_
        refine g_aload_n hF d_X14_library_1_96 rfl 1 rfl ?_
        refine g_iconst hF (v := 5) d_X14_library_1_97 (by decide) ?_
        refine g_put (v := 5) hF 97 obM_0 (by decide) m_1962 rfl rfl rfl d_X14_library_1_98 ?_
        exact g_vret hF rfl d_X14_library_1_101 ⟨rfl, w4⟩
      · have w5 := w3.2 c
        refine g_aload_n hF d_X14_library_1_82 rfl 1 rfl ?_
        refine g_iload_n hF d_X14_library_1_83 rfl 0 rfl ?_
        refine g_iload_n hF d_X14_library_1_84 rfl 3 rfl ?_
        refine g_cap (fun hc5 => ?_)
        refine g_callV (As := [.int v59, .int a2]) (rest := []) hF (fun l D cy => (ct_print a r hc5 w5) l D cy) (Nat.le_of_ble_eq_true rfl) mV_X14_print m_2804 (recv_ob obM_0) rfl rfl (Nat.le_of_ble_eq_true rfl) d_X14_library_1_85 (kV (fun s85 t85 z85 w7 => ?_)) (fun _ _ _ h => h.elim)
        refine g_goto hF 101 d_X14_library_1_88 (by decide) ?_
        exact g_vret hF rfl d_X14_library_1_101 ⟨rfl, w7⟩
    · have w8 := w2.2 c
      refine g_aload_n hF d_X14_library_1_68 rfl 1 rfl ?_
      refine g_iload_n hF d_X14_library_1_69 rfl 0 rfl ?_
      refine g_iload_n hF d_X14_library_1_70 rfl 3 rfl ?_
      refine g_cap (fun hc8 => ?_)
      refine g_callV (As := [.int v59, .int a2]) (rest := []) hF (fun l D cy => (ct_emit a r hc8 w8) l D cy) (Nat.le_of_ble_eq_true rfl) mV_X14_emit m_2800 (recv_ob obM_0) rfl rfl (Nat.le_of_ble_eq_true rfl) d_X14_library_1_71 (kV (fun s71 t71 z71 w10 => ?_)) (fun _ _ _ h => h.elim)
      refine g_goto hF 101 d_X14_library_1_74 (by decide) ?_
      exact g_vret hF rfl d_X14_library_1_101 ⟨rfl, w10⟩
  · have w11 := w.2 c
    refine g_aload_n hF d_X14_library_1_4 rfl 0 rfl ?_
    refine g_aload_n hF d_X14_library_1_5 rfl 0 rfl ?_
    refine g_get (v := .int (σ 0 89)) hF 89 obM_0 (by decide) m_1954 rfl d_X14_library_1_6 ?_
    refine g_aload_n hF d_X14_library_1_9 rfl 0 rfl ?_
    refine g_get (v := .int (σ 0 88)) hF 88 obM_0 (by decide) m_1953 rfl d_X14_library_1_10 ?_
    obtain ⟨J33, h33, w12⟩ := w11
    have b33 : ∀ (y1_33 : Int32), J33 y1_33 → G SM r X σ τ vs [(0, .ref (r 0))] [.int y1_33, .ref (r 0)] 33 := by
      intro y1_33  w33_
      have w33_ := h33 y1_33  w33_
      refine g_callV (As := [.int y1_33]) (rest := []) hF (fun l D cy => (ct_push a r hcap w33_) l D cy) (Nat.le_of_ble_eq_true rfl) mV_X14_push m_2765 (recv_ob obM_0) rfl rfl (Nat.le_of_ble_eq_true rfl) d_X14_library_1_33 (kV (fun s33 t33 z33 w13 => ?_)) (fun _ _ _ h => h.elim)
      refine g_aload_n hF d_X14_library_1_36 rfl 0 rfl ?_
      refine g_get (v := .int (s33 0 89)) hF 89 obM_0 (by decide) m_1954 rfl d_X14_library_1_37 ?_
      refine g_aload_n hF d_X14_library_1_40 rfl 0 rfl ?_
      refine g_get (v := .int (s33 0 88)) hF 88 obM_0 (by decide) m_1953 rfl d_X14_library_1_41 ?_
      refine g_icmp_ge hF 57 d_X14_library_1_44 (by decide) rfl rfl (fun c => ?_) (fun c => ?_)
      · have w14 := w13.1 c
        exact g_vret hF rfl d_X14_library_1_57 ⟨rfl, w14⟩
      · have w15 := w13.2 c
        refine g_aload_n hF d_X14_library_1_47 rfl 0 rfl ?_
        refine g_dup hF d_X14_library_1_48 rfl ?_
        refine g_get (v := .int (s33 0 89)) hF 89 obM_0 (by decide) m_1954 rfl d_X14_library_1_49 ?_
        refine g_iconst hF (v := 1) d_X14_library_1_52 (by decide) ?_
        refine g_iadd hF d_X14_library_1_53 ?_
        refine g_put (v := ((s33 0 89) + (1 : Int32))) hF 89 obM_0 (by decide) m_1954 rfl rfl rfl d_X14_library_1_54 ?_
        exact g_vret hF rfl d_X14_library_1_57 ⟨rfl, w15⟩
    refine g_icmp_ge hF 32 d_X14_library_1_13 (by decide) rfl rfl (fun c => ?_) (fun c => ?_)
    · have w16 := w12.1 c
      refine g_iconst hF (v := (-1)) d_X14_library_1_32 (by decide) ?_
      exact g_sub (L' := [(0, .ref (r 0))]) [0] rfl (b33 ((-1) : Int32) w16)
    · have w17 := w12.2 c
      refine g_aload_n hF d_X14_library_1_16 rfl 0 rfl ?_
      refine g_get (v := .ref (r 52)) hF 87 obM_0 (by decide) m_1952 rfl d_X14_library_1_17 ?_
      refine g_aload_n hF d_X14_library_1_20 rfl 0 rfl ?_
      refine g_get (v := .int (σ 0 89)) hF 89 obM_0 (by decide) m_1954 rfl d_X14_library_1_21 ?_
      have w18 := w17.2
      refine g_bald hF arM_52 (s_in (Nat.le_of_ble_eq_true rfl) w17.1.1 w17.1.2) d_X14_library_1_24 ?_
      refine g_top (v := (σ 52 (σ 0 89).toNatClampNeg)) rfl ?_
      refine g_sipush hF (v := 255) d_X14_library_1_25 (by decide) ?_
      refine g_iand hF d_X14_library_1_28 ?_
      refine g_goto hF 33 d_X14_library_1_29 (by decide) ?_
      exact g_sub (L' := [(0, .ref (r 0))]) [0] rfl (b33 ((σ 52 (σ 0 89).toNatClampNeg) &&& (255 : Int32)) w18)
def wp_one_0 (a1 : Int32) (a2 : Int32) (σ τ : St) (vs : List Nat) (Q : Int32 → St → St → List Nat → Prop) : Prop :=
  wp_look a1 σ τ vs (fun v2 => wp_isLetter v2 σ τ vs (fun v7 => (v7.toInt = 0 → wp_isDigit v2 σ τ vs (fun v21 => (v21.toInt = 0 → (v2.toInt ≠ 39 → (v2.toInt ≠ 34 → wp_signEnd a1 a2 σ τ vs (fun v63 s63 t63 z63 => Q v63 s63 t63 z63)) ∧ (v2.toInt = 34 → wp_stringEnd a1 a2 σ τ vs (fun v56 s56 t56 z56 => Q v56 s56 t56 z56))) ∧ (v2.toInt = 39 → wp_codeEnd a1 a2 σ τ vs (fun v43 s43 t43 z43 => Q v43 s43 t43 z43))) ∧ (v21.toInt ≠ 0 → wp_numberEnd a1 a2 σ τ vs (fun v30 s30 t30 z30 => Q v30 s30 t30 z30)))) ∧ (v7.toInt ≠ 0 → wp_nameEnd a1 a2 σ τ vs (fun v16 s16 t16 z16 => Q v16 s16 t16 z16))))
set_option maxHeartbeats 4000000 in
set_option maxRecDepth 100000 in
theorem ct_one_0 (a : Nat → Nat) (r : Nat → Nat) {a1 : Int32} {a2 : Int32} {σ τ : St} {vs : List Nat} {Q : Int32 → St → St → List Nat → Prop} (hcap : vs.length ≤ CAP) (w : wp_one_0 a1 a2 σ τ vs Q) (l : Launch) (D : va_G) (cy : Nat → ClassId) : Ct l D cy SM r (EM a) y_X14_one_0 (Cond.code y_X14_one_0 b_X14_one_0 4 (some .int)) 6 [.ref (r 0), .int a1, .int a2] σ τ vs (QIs Q) QT0 := by
  unfold wp_one_0 at w
  refine Ct_of (EM_ok a) (by decide) (Nat.le_of_ble_eq_true rfl) hcap (fun X hnn hF => ?_)
  show G SM r X σ τ vs [(0, .ref (r 0)), (1, .int a1), (2, .int a2)] [] 0
  refine g_aload_n hF d_X14_one_0_0 rfl 0 rfl ?_
  refine g_iload_n hF d_X14_one_0_1 rfl 1 rfl ?_
  refine g_callV (As := [.int a1]) (rest := []) hF (fun l D cy => (ct_look a r hcap w) l D cy) (Nat.le_of_ble_eq_true rfl) mV_X14_look m_2187 (recv_ob obM_0) rfl rfl (Nat.le_of_ble_eq_true rfl) d_X14_one_0_2 (krI (fun v2 w1 => ?_)) (fun _ _ _ h => h.elim)
  refine g_istore_n hF [(3, .int v2), (0, .ref (r 0)), (1, .int a1), (2, .int a2)] d_X14_one_0_5 rfl hnn (by decide) rfl ?_
  refine g_iload_n hF d_X14_one_0_6 rfl 0 rfl ?_
  refine g_callS (As := [.int v2]) (rest := []) hF (fun l D cy => (ct_isLetter a r hcap w1) l D cy) (Nat.le_of_ble_eq_true rfl) mS_X14_isLetter m_2217 rfl rfl (Nat.le_of_ble_eq_true rfl) d_X14_one_0_7 (krZ (fun v7 hz7 w2 => ?_)) (fun _ _ _ h => h.elim)
  refine g_if_eq hF 20 d_X14_one_0_10 (by decide) rfl (fun c => ?_) (fun c => ?_)
  · have w3 := w2.1 c
    refine g_iload_n hF d_X14_one_0_20 rfl 0 rfl ?_
    refine g_callS (As := [.int v2]) (rest := []) hF (fun l D cy => (ct_isDigit a r hcap w3) l D cy) (Nat.le_of_ble_eq_true rfl) mS_X14_isDigit m_2224 rfl rfl (Nat.le_of_ble_eq_true rfl) d_X14_one_0_21 (krZ (fun v21 hz21 w4 => ?_)) (fun _ _ _ h => h.elim)
    refine g_if_eq hF 34 d_X14_one_0_24 (by decide) rfl (fun c => ?_) (fun c => ?_)
    · have w5 := w4.1 c
      refine g_iload_n hF d_X14_one_0_34 rfl 0 rfl ?_
      refine g_bipush hF (v := 39) d_X14_one_0_35 (by decide) ?_
      refine g_icmp_ne (yv := 39) hF 47 d_X14_one_0_37 (by decide) rfl (by decide) (fun c => ?_) (fun c => ?_)
      · have w6 := w5.1 c
        refine g_iload_n hF d_X14_one_0_47 rfl 0 rfl ?_
        refine g_bipush hF (v := 34) d_X14_one_0_48 (by decide) ?_
        refine g_icmp_ne (yv := 34) hF 60 d_X14_one_0_50 (by decide) rfl (by decide) (fun c => ?_) (fun c => ?_)
        · have w7 := w6.1 c
          refine g_aload_n hF d_X14_one_0_60 rfl 1 rfl ?_
          refine g_iload_n hF d_X14_one_0_61 rfl 2 rfl ?_
          refine g_iload_n hF d_X14_one_0_62 rfl 3 rfl ?_
          refine g_callV (As := [.int a1, .int a2]) (rest := []) hF (fun l D cy => (ct_signEnd a r hcap w7) l D cy) (Nat.le_of_ble_eq_true rfl) mV_X14_signEnd m_2256 (recv_ob obM_0) rfl rfl (Nat.le_of_ble_eq_true rfl) d_X14_one_0_63 (kI (fun v63 s63 t63 z63 w8 => ?_)) (fun _ _ _ h => h.elim)
          exact g_iret hF rfl d_X14_one_0_66 ⟨v63, rfl, w8⟩
        · have w9 := w6.2 c
          refine g_aload_n hF d_X14_one_0_53 rfl 1 rfl ?_
          refine g_iload_n hF d_X14_one_0_54 rfl 2 rfl ?_
          refine g_iload_n hF d_X14_one_0_55 rfl 3 rfl ?_
          refine g_callV (As := [.int a1, .int a2]) (rest := []) hF (fun l D cy => (ct_stringEnd a r hcap w9) l D cy) (Nat.le_of_ble_eq_true rfl) mV_X14_stringEnd m_2252 (recv_ob obM_0) rfl rfl (Nat.le_of_ble_eq_true rfl) d_X14_one_0_56 (kI (fun v56 s56 t56 z56 w10 => ?_)) (fun _ _ _ h => h.elim)
          exact g_iret hF rfl d_X14_one_0_59 ⟨v56, rfl, w10⟩
      · have w11 := w5.2 c
        refine g_aload_n hF d_X14_one_0_40 rfl 1 rfl ?_
        refine g_iload_n hF d_X14_one_0_41 rfl 2 rfl ?_
        refine g_iload_n hF d_X14_one_0_42 rfl 3 rfl ?_
        refine g_callV (As := [.int a1, .int a2]) (rest := []) hF (fun l D cy => (ct_codeEnd a r hcap w11) l D cy) (Nat.le_of_ble_eq_true rfl) mV_X14_codeEnd m_2244 (recv_ob obM_0) rfl rfl (Nat.le_of_ble_eq_true rfl) d_X14_one_0_43 (kI (fun v43 s43 t43 z43 w12 => ?_)) (fun _ _ _ h => h.elim)
        exact g_iret hF rfl d_X14_one_0_46 ⟨v43, rfl, w12⟩
    · have w13 := w4.2 c
      refine g_aload_n hF d_X14_one_0_27 rfl 1 rfl ?_
      refine g_iload_n hF d_X14_one_0_28 rfl 2 rfl ?_
      refine g_iload_n hF d_X14_one_0_29 rfl 3 rfl ?_
      refine g_callV (As := [.int a1, .int a2]) (rest := []) hF (fun l D cy => (ct_numberEnd a r hcap w13) l D cy) (Nat.le_of_ble_eq_true rfl) mV_X14_numberEnd m_2234 (recv_ob obM_0) rfl rfl (Nat.le_of_ble_eq_true rfl) d_X14_one_0_30 (kI (fun v30 s30 t30 z30 w14 => ?_)) (fun _ _ _ h => h.elim)
      exact g_iret hF rfl d_X14_one_0_33 ⟨v30, rfl, w14⟩
  · have w15 := w2.2 c
    refine g_aload_n hF d_X14_one_0_13 rfl 1 rfl ?_
    refine g_iload_n hF d_X14_one_0_14 rfl 2 rfl ?_
    refine g_iload_n hF d_X14_one_0_15 rfl 3 rfl ?_
    refine g_callV (As := [.int a1, .int a2]) (rest := []) hF (fun l D cy => (ct_nameEnd a r hcap w15) l D cy) (Nat.le_of_ble_eq_true rfl) mV_X14_nameEnd m_2220 (recv_ob obM_0) rfl rfl (Nat.le_of_ble_eq_true rfl) d_X14_one_0_16 (kI (fun v16 s16 t16 z16 w16 => ?_)) (fun _ _ _ h => h.elim)
    exact g_iret hF rfl d_X14_one_0_19 ⟨v16, rfl, w16⟩
def wp_head (σ τ : St) (vs : List Nat) (Q : St → St → List Nat → Prop) (T : St → St → List Nat → Prop) : Prop :=
  wp_expect (20 : Int32) (upC σ 0 64 (0 : Int32)) τ vs (fun s8 t8 z8 => wp_accept (21 : Int32) s8 t8 z8 (fun v14 s14 t14 z14 => (v14.toInt = 0 → ((0 ≤ (s14 0 10).toInt ∧ (s14 0 10).toInt < 16002) ∧ ((s14 2 (s14 0 10).toNatClampNeg).toInt ≠ 6 → ∃ L52 : Nat → St → St → List Nat → Prop, (∃ n, L52 n s14 t14 z14) ∧ ∀ (n52 : Nat) (s52 t52 : St) (z52 : List Nat), L52 n52 s52 t52 z52 → (((0 ≤ (s52 0 10).toInt ∧ (s52 0 10).toInt < 16002) ∧ (∃ J74 : Prop, (J74  → (wp_wrong s52 t52 z52 (fun s75 t75 z75 => T s75 t75 z75))) ∧ ((s52 2 (s52 0 10).toNatClampNeg).toInt ≠ 5 → J74) ∧ ((s52 2 (s52 0 10).toNatClampNeg).toInt = 5 → ((s52 0 64).toInt ≠ 8 → wp_stars (upC s52 0 10 ((s52 0 10) + (1 : Int32))) t52 z52 (fun v90 s90 t90 z90 => ((0 ≤ (s90 0 10).toInt ∧ (s90 0 10).toInt < 16002) ∧ (∃ J124 : Int32 → St → St → List Nat → Prop, (∀ (x2_124 : Int32) (s124 t124 : St) (z124 : List Nat), J124 x2_124 s124 t124 z124 → (wp_accept (24 : Int32) s124 t124 z124 (fun v127 s127 t127 z127 => (∃ J142 : Int32 → St → St → List Nat → Prop, (∀ (x1_142 : Int32) (s142 t142 : St) (z142 : List Nat), J142 x1_142 s142 t142 z142 → (((0 ≤ (s142 0 64).toInt ∧ (s142 0 64).toInt < 8) ∧ ((0 ≤ (s142 0 64).toInt ∧ (s142 0 64).toInt < 8) ∧ ((0 ≤ (s142 0 64).toInt ∧ (s142 0 64).toInt < 8) ∧ wp_accept (26 : Int32) (upC (upC (upC (upC s142 37 (s142 0 64).toNatClampNeg x1_142) 38 (s142 0 64).toNatClampNeg x2_124) 39 (s142 0 64).toNatClampNeg (s142 0 10)) 0 64 ((s142 0 64) + (1 : Int32))) t142 z142 (fun v188 s188 t188 z188 => (v188.toInt ≠ 0 → ∃ m, m < n52 ∧ L52 m s188 t188 z188) ∧ (v188.toInt = 0 → wp_expect (21 : Int32) s188 t188 z188 (fun s197 t197 z197 => Q s197 t197 z197) T))))))) ∧ (v127.toInt = 0 → J142 v90 s127 t127 z127) ∧ (v127.toInt ≠ 0 → wp_expect (25 : Int32) s127 t127 z127 (fun s136 t136 z136 => J142 (v90 + 1) s136 t136 z136) T))))) ∧ ((s90 2 (s90 0 10).toNatClampNeg).toInt ≠ 2 → J124 ((-1) : Int32) s90 t90 z90) ∧ ((s90 2 (s90 0 10).toNatClampNeg).toInt = 2 → J124 (s90 0 10) (upC s90 0 10 ((s90 0 10) + (1 : Int32))) t90 z90)))) T) ∧ ((s52 0 64).toInt = 8 → J74)))))) ∧ ((s14 2 (s14 0 10).toNatClampNeg).toInt = 6 → wp_expect (21 : Int32) (upC s14 0 10 ((s14 0 10) + (1 : Int32))) t14 z14 (fun s48 t48 z48 => Q s48 t48 z48) T))) ∧ (v14.toInt ≠ 0 → Q s14 t14 z14))) T
set_option maxHeartbeats 4000000 in
set_option maxRecDepth 100000 in
theorem ct_head (a : Nat → Nat) (r : Nat → Nat) {σ τ : St} {vs : List Nat} {Q : St → St → List Nat → Prop} {T : St → St → List Nat → Prop} (hcap : vs.length ≤ CAP) (w : wp_head  σ τ vs Q T) (l : Launch) (D : va_G) (cy : Nat → ClassId) : Ct l D cy SM r (EM a) y_X14_head (Cond.code y_X14_head b_X14_head 3 none) 3 [.ref (r 0)] σ τ vs (QVs Q) T := by
  unfold wp_head at w
  refine Ct_of (EM_ok a) (by decide) (Nat.le_of_ble_eq_true rfl) hcap (fun X hnn hF => ?_)
  show G SM r X σ τ vs [(0, .ref (r 0))] [] 0
  refine g_aload_n hF d_X14_head_0 rfl 0 rfl ?_
  refine g_iconst hF (v := 0) d_X14_head_1 (by decide) ?_
  refine g_put (v := 0) hF 64 obM_0 (by decide) m_1929 rfl rfl rfl d_X14_head_2 ?_
  refine g_aload_n hF d_X14_head_5 rfl 0 rfl ?_
  refine g_bipush hF (v := 20) d_X14_head_6 (by decide) ?_
  refine g_callV (As := [.int 20]) (rest := []) hF (fun l D cy => (ct_expect a r hcap w) l D cy) (Nat.le_of_ble_eq_true rfl) mV_X14_expect m_2285 (recv_ob obM_0) rfl rfl (Nat.le_of_ble_eq_true rfl) d_X14_head_8 (kV (fun s8 t8 z8 w1 => ?_)) (fun σ9 τ9 vs9 h9 => g_out hF stopM rfl h9)
  refine g_aload_n hF d_X14_head_11 rfl 0 rfl ?_
  refine g_bipush hF (v := 21) d_X14_head_12 (by decide) ?_
  refine g_cap (fun hc1 => ?_)
  refine g_callV (As := [.int 21]) (rest := []) hF (fun l D cy => (ct_accept a r hc1 w1) l D cy) (Nat.le_of_ble_eq_true rfl) mV_X14_accept m_2293 (recv_ob obM_0) rfl rfl (Nat.le_of_ble_eq_true rfl) d_X14_head_14 (kZ (fun v14 s14 t14 z14 hz14 w3 => ?_)) (fun _ _ _ h => h.elim)
  refine g_if_eq hF 21 d_X14_head_17 (by decide) rfl (fun c => ?_) (fun c => ?_)
  · have w4 := w3.1 c
    refine g_aload_n hF d_X14_head_21 rfl 0 rfl ?_
    refine g_get (v := .ref (r 2)) hF 3 obM_0 (by decide) m_1868 rfl d_X14_head_22 ?_
    refine g_aload_n hF d_X14_head_25 rfl 0 rfl ?_
    refine g_get (v := .int (s14 0 10)) hF 10 obM_0 (by decide) m_1875 rfl d_X14_head_26 ?_
    have w5 := w4.2
    refine g_iald hF arM_2 (s_in (Nat.le_of_ble_eq_true rfl) w4.1.1 w4.1.2) d_X14_head_29 ?_
    refine g_top (v := (s14 2 (s14 0 10).toNatClampNeg)) rfl ?_
    refine g_bipush hF (v := 6) d_X14_head_30 (by decide) ?_
    refine g_icmp_ne (yv := 6) hF 52 d_X14_head_32 (by decide) rfl (by decide) (fun c => ?_) (fun c => ?_)
    · have w6 := w5.1 c
      obtain ⟨L52, ⟨i52, u52⟩, h52⟩ := w6
      have b52 : ∀ (n52 : Nat) (s52 t52 : St) (z52 : List Nat), L52 n52 s52 t52 z52 → G SM r X s52 t52 z52 [(0, .ref (r 0))] [] 52 := by
        intro n52
        induction n52 using Nat.strongRecOn with
        | _ n52 ih52 =>
          intro s52 t52 z52  w52_
          have w52_ := h52 n52 s52 t52 z52  w52_
          refine g_aload_n hF d_X14_head_52 rfl 0 rfl ?_
          refine g_get (v := .ref (r 2)) hF 3 obM_0 (by decide) m_1868 rfl d_X14_head_53 ?_
          refine g_aload_n hF d_X14_head_56 rfl 0 rfl ?_
          refine g_get (v := .int (s52 0 10)) hF 10 obM_0 (by decide) m_1875 rfl d_X14_head_57 ?_
          have w7 := w52_.2
          refine g_iald hF arM_2 (s_in (Nat.le_of_ble_eq_true rfl) w52_.1.1 w52_.1.2) d_X14_head_60 ?_
          refine g_top (v := (s52 2 (s52 0 10).toNatClampNeg)) rfl ?_
          refine g_iconst hF (v := 5) d_X14_head_61 (by decide) ?_
          obtain ⟨J74, h74, w8⟩ := w7
          have b74 : J74  → G SM r X s52 t52 z52 [(0, .ref (r 0))] [] 74 := by
            intro   w74_
            have w74_ := h74   w74_
            refine g_aload_n hF d_X14_head_74 rfl 0 rfl ?_
            refine g_cap (fun hc8 => ?_)
            refine g_callV (As := []) (rest := []) hF (fun l D cy => (ct_wrong a r hc8 w74_) l D cy) (Nat.le_of_ble_eq_true rfl) mV_X14_wrong m_2261 (recv_ob obM_0) rfl rfl (Nat.le_of_ble_eq_true rfl) d_X14_head_75 (kX (fun s75 t75 z75 w10 => ?_)) (fun _ _ _ h => h.elim)
            exact g_athrow hF d_X14_head_78 (g_out hF stopM rfl w10)
          refine g_icmp_ne (yv := 5) hF 74 d_X14_head_62 (by decide) rfl (by decide) (fun c => ?_) (fun c => ?_)
          · have w11 := w8.1 c
            exact b74  w11
          · have w12 := w8.2 c
            refine g_aload_n hF d_X14_head_65 rfl 0 rfl ?_
            refine g_get (v := .int (s52 0 64)) hF 64 obM_0 (by decide) m_1929 rfl d_X14_head_66 ?_
            refine g_bipush hF (v := 8) d_X14_head_69 (by decide) ?_
            refine g_icmp_ne (yv := 8) hF 79 d_X14_head_71 (by decide) rfl (by decide) (fun c => ?_) (fun c => ?_)
            · have w13 := w12.1 c
              refine g_aload_n hF d_X14_head_79 rfl 0 rfl ?_
              refine g_dup hF d_X14_head_80 rfl ?_
              refine g_get (v := .int (s52 0 10)) hF 10 obM_0 (by decide) m_1875 rfl d_X14_head_81 ?_
              refine g_iconst hF (v := 1) d_X14_head_84 (by decide) ?_
              refine g_iadd hF d_X14_head_85 ?_
              refine g_put (v := ((s52 0 10) + (1 : Int32))) hF 10 obM_0 (by decide) m_1875 rfl rfl rfl d_X14_head_86 ?_
              refine g_aload_n hF d_X14_head_89 rfl 0 rfl ?_
              refine g_cap (fun hc13 => ?_)
              refine g_callV (As := []) (rest := []) hF (fun l D cy => (ct_stars a r hc13 w13) l D cy) (Nat.le_of_ble_eq_true rfl) mV_X14_stars m_2297 (recv_ob obM_0) rfl rfl (Nat.le_of_ble_eq_true rfl) d_X14_head_90 (kI (fun v90 s90 t90 z90 w15 => ?_)) (fun σ9 τ9 vs9 h9 => g_out hF stopM rfl h9)
              refine g_istore_n hF [(1, .int v90), (0, .ref (r 0))] d_X14_head_93 rfl hnn (by decide) rfl ?_
              refine g_iconst hF (v := (-1)) d_X14_head_94 (by decide) ?_
              refine g_istore_n hF [(2, .int (-1)), (1, .int v90), (0, .ref (r 0))] d_X14_head_95 rfl hnn (by decide) rfl ?_
              refine g_aload_n hF d_X14_head_96 rfl 2 rfl ?_
              refine g_get (v := .ref (r 2)) hF 3 obM_0 (by decide) m_1868 rfl d_X14_head_97 ?_
              refine g_aload_n hF d_X14_head_100 rfl 2 rfl ?_
              refine g_get (v := .int (s90 0 10)) hF 10 obM_0 (by decide) m_1875 rfl d_X14_head_101 ?_
              have w16 := w15.2
              refine g_iald hF arM_2 (s_in (Nat.le_of_ble_eq_true rfl) w15.1.1 w15.1.2) d_X14_head_104 ?_
              refine g_top (v := (s90 2 (s90 0 10).toNatClampNeg)) rfl ?_
              refine g_iconst hF (v := 2) d_X14_head_105 (by decide) ?_
              obtain ⟨J124, h124, w17⟩ := w16
              have b124 : ∀ (x2_124 : Int32) (s124 t124 : St) (z124 : List Nat), J124 x2_124 s124 t124 z124 → G SM r X s124 t124 z124 [(0, .ref (r 0)), (1, .int v90), (2, .int x2_124)] [] 124 := by
                intro x2_124 s124 t124 z124  w124_
                have w124_ := h124 x2_124 s124 t124 z124  w124_
                refine g_aload_n hF d_X14_head_124 rfl 0 rfl ?_
                refine g_bipush hF (v := 24) d_X14_head_125 (by decide) ?_
                refine g_cap (fun hc17 => ?_)
                refine g_callV (As := [.int 24]) (rest := []) hF (fun l D cy => (ct_accept a r hc17 w124_) l D cy) (Nat.le_of_ble_eq_true rfl) mV_X14_accept m_2293 (recv_ob obM_0) rfl rfl (Nat.le_of_ble_eq_true rfl) d_X14_head_127 (kZ (fun v127 s127 t127 z127 hz127 w19 => ?_)) (fun _ _ _ h => h.elim)
                obtain ⟨J142, h142, w20⟩ := w19
                have b142 : ∀ (x1_142 : Int32) (s142 t142 : St) (z142 : List Nat), J142 x1_142 s142 t142 z142 → G SM r X s142 t142 z142 [(0, .ref (r 0)), (1, .int x1_142), (2, .int x2_124)] [] 142 := by
                  intro x1_142 s142 t142 z142  w142_
                  have w142_ := h142 x1_142 s142 t142 z142  w142_
                  refine g_aload_n hF d_X14_head_142 rfl 0 rfl ?_
                  refine g_get (v := .ref (r 37)) hF 61 obM_0 (by decide) m_1926 rfl d_X14_head_143 ?_
                  refine g_aload_n hF d_X14_head_146 rfl 0 rfl ?_
                  refine g_get (v := .int (s142 0 64)) hF 64 obM_0 (by decide) m_1929 rfl d_X14_head_147 ?_
                  refine g_iload_n hF d_X14_head_150 rfl 1 rfl ?_
                  have w21 := w142_.2
                  refine g_iast hF arM_37 (s_in (Nat.le_of_ble_eq_true rfl) w142_.1.1 w142_.1.2) d_X14_head_151 ?_
                  refine g_aload_n hF d_X14_head_152 rfl 0 rfl ?_
                  refine g_get (v := .ref (r 38)) hF 62 obM_0 (by decide) m_1927 rfl d_X14_head_153 ?_
                  refine g_aload_n hF d_X14_head_156 rfl 0 rfl ?_
                  refine g_get (v := .int (s142 0 64)) hF 64 obM_0 (by decide) m_1929 rfl d_X14_head_157 ?_
                  refine g_iload_n hF d_X14_head_160 rfl 2 rfl ?_
                  have w22 := w21.2
                  refine g_iast hF arM_38 (s_in (Nat.le_of_ble_eq_true rfl) w21.1.1 w21.1.2) d_X14_head_161 ?_
                  refine g_aload_n hF d_X14_head_162 rfl 0 rfl ?_
                  refine g_get (v := .ref (r 39)) hF 63 obM_0 (by decide) m_1928 rfl d_X14_head_163 ?_
                  refine g_aload_n hF d_X14_head_166 rfl 0 rfl ?_
                  refine g_get (v := .int (s142 0 64)) hF 64 obM_0 (by decide) m_1929 rfl d_X14_head_167 ?_
                  refine g_aload_n hF d_X14_head_170 rfl 0 rfl ?_
                  refine g_get (v := .int (s142 0 10)) hF 10 obM_0 (by decide) m_1875 rfl d_X14_head_171 ?_
                  have w23 := w22.2
                  refine g_iast hF arM_39 (s_in (Nat.le_of_ble_eq_true rfl) w22.1.1 w22.1.2) d_X14_head_174 ?_
                  refine g_aload_n hF d_X14_head_175 rfl 0 rfl ?_
                  refine g_dup hF d_X14_head_176 rfl ?_
                  refine g_get (v := .int (s142 0 64)) hF 64 obM_0 (by decide) m_1929 rfl d_X14_head_177 ?_
                  refine g_iconst hF (v := 1) d_X14_head_180 (by decide) ?_
                  refine g_iadd hF d_X14_head_181 ?_
                  refine g_put (v := ((s142 0 64) + (1 : Int32))) hF 64 obM_0 (by decide) m_1929 rfl rfl rfl d_X14_head_182 ?_
                  refine g_aload_n hF d_X14_head_185 rfl 0 rfl ?_
                  refine g_bipush hF (v := 26) d_X14_head_186 (by decide) ?_
                  refine g_cap (fun hc23 => ?_)
                  refine g_callV (As := [.int 26]) (rest := []) hF (fun l D cy => (ct_accept a r hc23 w23) l D cy) (Nat.le_of_ble_eq_true rfl) mV_X14_accept m_2293 (recv_ob obM_0) rfl rfl (Nat.le_of_ble_eq_true rfl) d_X14_head_188 (kZ (fun v188 s188 t188 z188 hz188 w25 => ?_)) (fun _ _ _ h => h.elim)
                  refine g_if_ne hF 52 d_X14_head_191 (by decide) rfl (fun c => ?_) (fun c => ?_)
                  · have w26 := w25.1 c
                    obtain ⟨m52, hm52, w9⟩ := w26
                    exact g_sub (L' := [(0, .ref (r 0))]) [0] rfl (ih52 m52 hm52 s188 t188 z188 w9)
                  · have w27 := w25.2 c
                    refine g_aload_n hF d_X14_head_194 rfl 0 rfl ?_
                    refine g_bipush hF (v := 21) d_X14_head_195 (by decide) ?_
                    refine g_cap (fun hc27 => ?_)
                    refine g_callV (As := [.int 21]) (rest := []) hF (fun l D cy => (ct_expect a r hc27 w27) l D cy) (Nat.le_of_ble_eq_true rfl) mV_X14_expect m_2285 (recv_ob obM_0) rfl rfl (Nat.le_of_ble_eq_true rfl) d_X14_head_197 (kV (fun s197 t197 z197 w29 => ?_)) (fun σ9 τ9 vs9 h9 => g_out hF stopM rfl h9)
                    exact g_vret hF rfl d_X14_head_200 ⟨rfl, w29⟩
                refine g_if_eq hF 142 d_X14_head_130 (by decide) rfl (fun c => ?_) (fun c => ?_)
                · have w30 := w20.1 c
                  exact b142 v90 s127 t127 z127 w30
                · have w31 := w20.2 c
                  refine g_aload_n hF d_X14_head_133 rfl 0 rfl ?_
                  refine g_bipush hF (v := 25) d_X14_head_134 (by decide) ?_
                  refine g_cap (fun hc31 => ?_)
                  refine g_callV (As := [.int 25]) (rest := []) hF (fun l D cy => (ct_expect a r hc31 w31) l D cy) (Nat.le_of_ble_eq_true rfl) mV_X14_expect m_2285 (recv_ob obM_0) rfl rfl (Nat.le_of_ble_eq_true rfl) d_X14_head_136 (kV (fun s136 t136 z136 w33 => ?_)) (fun σ9 τ9 vs9 h9 => g_out hF stopM rfl h9)
                  refine g_iinc hF (v90 + 1) [(1, .int (v90 + 1)), (0, .ref (r 0)), (2, .int x2_124)] d_X14_head_139 1 rfl rfl hnn (by decide) rfl ?_
                  exact g_sub (L' := [(0, .ref (r 0)), (1, .int (v90 + 1)), (2, .int x2_124)]) [1, 0, 2] rfl (b142 (v90 + 1) s136 t136 z136 w33)
              refine g_icmp_ne (yv := 2) hF 124 d_X14_head_106 (by decide) rfl (by decide) (fun c => ?_) (fun c => ?_)
              · have w34 := w17.1 c
                exact g_sub (L' := [(0, .ref (r 0)), (1, .int v90), (2, .int (-1))]) [2, 1, 0] rfl (b124 ((-1) : Int32) s90 t90 z90 w34)
              · have w35 := w17.2 c
                refine g_aload_n hF d_X14_head_109 rfl 2 rfl ?_
                refine g_get (v := .int (s90 0 10)) hF 10 obM_0 (by decide) m_1875 rfl d_X14_head_110 ?_
                refine g_istore_n hF [(2, .int (s90 0 10)), (1, .int v90), (0, .ref (r 0))] d_X14_head_113 rfl hnn (by decide) rfl ?_
                refine g_aload_n hF d_X14_head_114 rfl 2 rfl ?_
                refine g_dup hF d_X14_head_115 rfl ?_
                refine g_get (v := .int (s90 0 10)) hF 10 obM_0 (by decide) m_1875 rfl d_X14_head_116 ?_
                refine g_iconst hF (v := 1) d_X14_head_119 (by decide) ?_
                refine g_iadd hF d_X14_head_120 ?_
                refine g_put (v := ((s90 0 10) + (1 : Int32))) hF 10 obM_0 (by decide) m_1875 rfl rfl rfl d_X14_head_121 ?_
                exact g_sub (L' := [(0, .ref (r 0)), (1, .int v90), (2, .int (s90 0 10))]) [2, 1, 0] rfl (b124 (s90 0 10) (upC s90 0 10 ((s90 0 10) + (1 : Int32))) t90 z90 w35)
            · have w36 := w12.2 c
              exact b74  w36
      exact b52 i52 s14 t14 z14 u52
    · have w37 := w5.2 c
      refine g_aload_n hF d_X14_head_35 rfl 0 rfl ?_
      refine g_dup hF d_X14_head_36 rfl ?_
      refine g_get (v := .int (s14 0 10)) hF 10 obM_0 (by decide) m_1875 rfl d_X14_head_37 ?_
      refine g_iconst hF (v := 1) d_X14_head_40 (by decide) ?_
      refine g_iadd hF d_X14_head_41 ?_
      refine g_put (v := ((s14 0 10) + (1 : Int32))) hF 10 obM_0 (by decide) m_1875 rfl rfl rfl d_X14_head_42 ?_
      refine g_aload_n hF d_X14_head_45 rfl 0 rfl ?_
      refine g_bipush hF (v := 21) d_X14_head_46 (by decide) ?_
      refine g_cap (fun hc37 => ?_)
      refine g_callV (As := [.int 21]) (rest := []) hF (fun l D cy => (ct_expect a r hc37 w37) l D cy) (Nat.le_of_ble_eq_true rfl) mV_X14_expect m_2285 (recv_ob obM_0) rfl rfl (Nat.le_of_ble_eq_true rfl) d_X14_head_48 (kV (fun s48 t48 z48 w39 => ?_)) (fun σ9 τ9 vs9 h9 => g_out hF stopM rfl h9)
      exact g_vret hF rfl d_X14_head_51 ⟨rfl, w39⟩
  · have w40 := w3.2 c
    exact g_vret hF rfl d_X14_head_20 ⟨rfl, w40⟩
