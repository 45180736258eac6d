def wp_feed (a1 : Int32) (a2 : Int32) (a3 : Int32) (a4 : Int32) (a5 : Int32) (σ τ : St) (vs : List Nat) (Q : Int32 → St → St → List Nat → Prop) : Prop :=
  (16000 < ((σ 0 1) + (20 : Int32)).toInt → Q ((-1) : Int32) σ τ vs) ∧ (((σ 0 1) + (20 : Int32)).toInt ≤ 16000 → (((σ 0 2) + (20 : Int32)).toInt ≤ 65536 → ∃ L30 : Nat → Int32 → St → St → List Nat → Prop, (∃ n, L30 n (0 : Int32) σ τ vs) ∧ ∀ (n30 : Nat) (x6_30 : Int32) (s30 t30 : St) (z30 : List Nat), L30 n30 x6_30 s30 t30 z30 → ((20 ≤ x6_30.toInt → Q ((s30 0 1) + (20 : Int32)) (upC (upC s30 0 1 ((s30 0 1) + (20 : Int32))) 0 2 ((s30 0 2) + (20 : Int32))) t30 z30) ∧ (x6_30.toInt < 20 → (∃ J83 : Int32 → Prop, (∀ (y0_83 : Int32), J83 y0_83 → (((0 ≤ ((s30 0 1) + x6_30).toInt ∧ ((s30 0 1) + x6_30).toInt < 16000) ∧ ∃ m, m < n30 ∧ L30 m (x6_30 + 1) (upC s30 1 ((s30 0 1) + x6_30).toNatClampNeg (vp_nar .byte (y0_83 >>> (((24 : Int32) - ((8 : Int32) * (x6_30 - x6_30 / (4 : Int32) * (4 : Int32)))) &&& 31)).toInt8.toInt32)) t30 z30))) ∧ (4 ≤ x6_30.toInt → (8 ≤ x6_30.toInt → (12 ≤ x6_30.toInt → (16 ≤ x6_30.toInt → J83 a5) ∧ (x6_30.toInt < 16 → J83 a4)) ∧ (x6_30.toInt < 12 → J83 a3)) ∧ (x6_30.toInt < 8 → J83 a2)) ∧ (x6_30.toInt < 4 → J83 a1))))) ∧ (65536 < ((σ 0 2) + (20 : Int32)).toInt → Q ((-1) : Int32) σ τ vs))
set_option maxHeartbeats 4000000 in
set_option maxRecDepth 100000 in
theorem ct_feed (a : Nat → Nat) (r : Nat → Nat) {a1 : Int32} {a2 : Int32} {a3 : Int32} {a4 : Int32} {a5 : Int32} {σ τ : St} {vs : List Nat} {Q : Int32 → St → St → List Nat → Prop} (hcap : vs.length ≤ CAP) (w : wp_feed a1 a2 a3 a4 a5 σ τ vs Q) (l : Launch) (D : va_G) (cy : Nat → ClassId) : Ct l D cy SM r (EM a) y_X14_feed (Cond.code y_X14_feed b_X14_feed 8 (some .int)) 0 [.ref (r 0), .int a1, .int a2, .int a3, .int a4, .int a5] σ τ vs (QIs Q) QT0 := by
  unfold wp_feed at w
  refine Ct_of (EM_ok a) (by decide) (Nat.le_of_ble_eq_true rfl) hcap (fun X hnn hF => ?_)
  show G SM r X σ τ vs [(0, .ref (r 0)), (1, .int a1), (2, .int a2), (3, .int a3), (4, .int a4), (5, .int a5)] [] 0
  refine g_aload_n hF d_X14_feed_0 rfl 0 rfl ?_
  refine g_get (v := .int (σ 0 1)) hF 1 obM_0 (by decide) m_1866 rfl d_X14_feed_1 ?_
  refine g_bipush hF (v := 20) d_X14_feed_4 (by decide) ?_
  refine g_iadd hF d_X14_feed_6 ?_
  refine g_sipush hF (v := 16000) d_X14_feed_7 (by decide) ?_
  refine g_icmp_gt (yv := 16000) hF 25 d_X14_feed_10 (by decide) rfl (by decide) (fun c => ?_) (fun c => ?_)
  · have w1 := w.1 c
    refine g_iconst hF (v := (-1)) d_X14_feed_25 (by decide) ?_
    exact g_iret hF rfl d_X14_feed_26 ⟨((-1) : Int32), rfl, w1⟩
  · have w2 := w.2 c
    refine g_aload_n hF d_X14_feed_13 rfl 0 rfl ?_
    refine g_get (v := .int (σ 0 2)) hF 2 obM_0 (by decide) m_1867 rfl d_X14_feed_14 ?_
    refine g_bipush hF (v := 20) d_X14_feed_17 (by decide) ?_
    refine g_iadd hF d_X14_feed_19 ?_
    refine g_ldc (v := 65536) hF m_1861 d_X14_feed_20 ?_
    refine g_icmp_le (yv := 65536) hF 27 d_X14_feed_22 (by decide) rfl (by decide) (fun c => ?_) (fun c => ?_)
    · have w3 := w2.1 c
      refine g_iconst hF (v := 0) d_X14_feed_27 (by decide) ?_
      refine g_istore hF [(6, .int 0), (0, .ref (r 0)), (1, .int a1), (2, .int a2), (3, .int a3), (4, .int a4), (5, .int a5)] d_X14_feed_28 hnn (by decide) rfl ?_
      obtain ⟨L30, ⟨i30, u30⟩, h30⟩ := w3
      have b30 : ∀ (n30 : Nat) (x6_30 : Int32) (s30 t30 : St) (z30 : List Nat), L30 n30 x6_30 s30 t30 z30 → G SM r X s30 t30 z30 [(0, .ref (r 0)), (1, .int a1), (2, .int a2), (3, .int a3), (4, .int a4), (5, .int a5), (6, .int x6_30)] [] 30 := by
        intro n30
        induction n30 using Nat.strongRecOn with
        | _ n30 ih30 =>
          intro x6_30 s30 t30 z30  w30_
          have w30_ := h30 n30 x6_30 s30 t30 z30  w30_
          refine g_iload hF d_X14_feed_30 6 rfl ?_
          refine g_bipush hF (v := 20) d_X14_feed_32 (by decide) ?_
          refine g_icmp_ge (yv := 20) hF 117 d_X14_feed_34 (by decide) rfl (by decide) (fun c => ?_) (fun c => ?_)
          · have w4 := w30_.1 c
            refine g_aload_n hF d_X14_feed_117 rfl 0 rfl ?_
            refine g_dup hF d_X14_feed_118 rfl ?_
            refine g_get (v := .int (s30 0 1)) hF 1 obM_0 (by decide) m_1866 rfl d_X14_feed_119 ?_
            refine g_bipush hF (v := 20) d_X14_feed_122 (by decide) ?_
            refine g_iadd hF d_X14_feed_124 ?_
            refine g_put (v := ((s30 0 1) + (20 : Int32))) hF 1 obM_0 (by decide) m_1866 rfl rfl rfl d_X14_feed_125 ?_
            refine g_aload_n hF d_X14_feed_128 rfl 0 rfl ?_
            refine g_dup hF d_X14_feed_129 rfl ?_
            refine g_get (v := .int (s30 0 2)) hF 2 obM_0 (by decide) m_1867 rfl d_X14_feed_130 ?_
            refine g_bipush hF (v := 20) d_X14_feed_133 (by decide) ?_
            refine g_iadd hF d_X14_feed_135 ?_
            refine g_put (v := ((s30 0 2) + (20 : Int32))) hF 2 obM_0 (by decide) m_1867 rfl rfl rfl d_X14_feed_136 ?_
            refine g_aload_n hF d_X14_feed_139 rfl 0 rfl ?_
            refine g_get (v := .int ((s30 0 1) + (20 : Int32))) hF 1 obM_0 (by decide) m_1866 rfl d_X14_feed_140 ?_
            exact g_iret hF rfl d_X14_feed_143 ⟨((s30 0 1) + (20 : Int32)), rfl, w4⟩
          · have w5 := w30_.2 c
            refine g_iload hF d_X14_feed_37 6 rfl ?_
            refine g_iconst hF (v := 4) d_X14_feed_39 (by decide) ?_
            obtain ⟨J83, h83, w6⟩ := w5
            have b83 : ∀ (y0_83 : Int32), J83 y0_83 → G SM r X s30 t30 z30 [(0, .ref (r 0)), (1, .int a1), (2, .int a2), (3, .int a3), (4, .int a4), (5, .int a5), (6, .int x6_30)] [.int y0_83] 83 := by
              intro y0_83  w83_
              have w83_ := h83 y0_83  w83_
              refine g_istore hF [(7, .int y0_83), (0, .ref (r 0)), (1, .int a1), (2, .int a2), (3, .int a3), (4, .int a4), (5, .int a5), (6, .int x6_30)] d_X14_feed_83 hnn (by decide) rfl ?_
              refine g_aload_n hF d_X14_feed_85 rfl 1 rfl ?_
              refine g_get (v := .ref (r 1)) hF 0 obM_0 (by decide) m_1865 rfl d_X14_feed_86 ?_
              refine g_aload_n hF d_X14_feed_89 rfl 1 rfl ?_
              refine g_get (v := .int (s30 0 1)) hF 1 obM_0 (by decide) m_1866 rfl d_X14_feed_90 ?_
              refine g_iload hF d_X14_feed_93 7 rfl ?_
              refine g_iadd hF d_X14_feed_95 ?_
              refine g_iload hF d_X14_feed_96 0 rfl ?_
              refine g_bipush hF (v := 24) d_X14_feed_98 (by decide) ?_
              refine g_bipush hF (v := 8) d_X14_feed_100 (by decide) ?_
              refine g_iload hF d_X14_feed_102 7 rfl ?_
              refine g_iconst hF (v := 4) d_X14_feed_104 (by decide) ?_
              refine g_irem hF d_X14_feed_105 (by decide) ?_
              refine g_imul hF d_X14_feed_106 ?_
              refine g_isub hF d_X14_feed_107 ?_
              refine g_ishr hF d_X14_feed_108 ?_
              refine g_i2b hF d_X14_feed_109 ?_
              have w7 := w83_.2
              refine g_bast hF arM_1 (s_in (Nat.le_of_ble_eq_true rfl) w83_.1.1 w83_.1.2) d_X14_feed_110 ?_
              refine g_iinc hF (x6_30 + 1) [(6, .int (x6_30 + 1)), (7, .int y0_83), (0, .ref (r 0)), (1, .int a1), (2, .int a2), (3, .int a3), (4, .int a4), (5, .int a5)] d_X14_feed_111 7 rfl rfl hnn (by decide) rfl ?_
              refine g_goto hF 30 d_X14_feed_114 (by decide) ?_
              obtain ⟨m30, hm30, w9⟩ := w7
              exact g_sub (L' := [(0, .ref (r 0)), (1, .int a1), (2, .int a2), (3, .int a3), (4, .int a4), (5, .int a5), (6, .int (x6_30 + 1))]) [2, 3, 4, 5, 6, 7, 0] rfl (ih30 m30 hm30 (x6_30 + 1) (upC s30 1 ((s30 0 1) + x6_30).toNatClampNeg (vp_nar .byte (y0_83 >>> (((24 : Int32) - ((8 : Int32) * (x6_30 - x6_30 / (4 : Int32) * (4 : Int32)))) &&& 31)).toInt8.toInt32)) t30 z30 w9)
            refine g_icmp_ge (yv := 4) hF 47 d_X14_feed_40 (by decide) rfl (by decide) (fun c => ?_) (fun c => ?_)
            · have w8 := w6.1 c
              refine g_iload hF d_X14_feed_47 6 rfl ?_
              refine g_bipush hF (v := 8) d_X14_feed_49 (by decide) ?_
              refine g_icmp_ge (yv := 8) hF 58 d_X14_feed_51 (by decide) rfl (by decide) (fun c => ?_) (fun c => ?_)
              · have w9 := w8.1 c
                refine g_iload hF d_X14_feed_58 6 rfl ?_
                refine g_bipush hF (v := 12) d_X14_feed_60 (by decide) ?_
                refine g_icmp_ge (yv := 12) hF 69 d_X14_feed_62 (by decide) rfl (by decide) (fun c => ?_) (fun c => ?_)
                · have w10 := w9.1 c
                  refine g_iload hF d_X14_feed_69 6 rfl ?_
                  refine g_bipush hF (v := 16) d_X14_feed_71 (by decide) ?_
                  refine g_icmp_ge (yv := 16) hF 81 d_X14_feed_73 (by decide) rfl (by decide) (fun c => ?_) (fun c => ?_)
                  · have w11 := w10.1 c
                    refine g_iload hF d_X14_feed_81 5 rfl ?_
                    exact b83 a5 w11
                  · have w12 := w10.2 c
                    refine g_iload hF d_X14_feed_76 4 rfl ?_
                    refine g_goto hF 83 d_X14_feed_78 (by decide) ?_
                    exact b83 a4 w12
                · have w13 := w9.2 c
                  refine g_iload_n hF d_X14_feed_65 rfl 3 rfl ?_
                  refine g_goto hF 83 d_X14_feed_66 (by decide) ?_
                  exact b83 a3 w13
              · have w14 := w8.2 c
                refine g_iload_n hF d_X14_feed_54 rfl 2 rfl ?_
                refine g_goto hF 83 d_X14_feed_55 (by decide) ?_
                exact b83 a2 w14
            · have w15 := w6.2 c
              refine g_iload_n hF d_X14_feed_43 rfl 1 rfl ?_
              refine g_goto hF 83 d_X14_feed_44 (by decide) ?_
              exact b83 a1 w15
      exact g_sub (L' := [(0, .ref (r 0)), (1, .int a1), (2, .int a2), (3, .int a3), (4, .int a4), (5, .int a5), (6, .int 0)]) [1, 2, 3, 4, 5, 6, 0] rfl (b30 i30 (0 : Int32) σ τ vs u30)
    · have w16 := w2.2 c
      refine g_iconst hF (v := (-1)) d_X14_feed_25 (by decide) ?_
      exact g_iret hF rfl d_X14_feed_26 ⟨((-1) : Int32), rfl, w16⟩
def wp_end (a1 : Int32) (σ τ : St) (vs : List Nat) (Q : Int32 → St → St → List Nat → Prop) : Prop :=
  (a1.toInt < 0 → Q ((-1) : Int32) σ τ vs) ∧ (0 ≤ a1.toInt → (a1.toInt ≤ (σ 0 1).toInt → Q a1 (upC σ 0 1 a1) τ vs) ∧ ((σ 0 1).toInt < a1.toInt → Q ((-1) : Int32) σ τ vs))
set_option maxHeartbeats 4000000 in
set_option maxRecDepth 100000 in
theorem ct_end (a : Nat → Nat) (r : Nat → Nat) {a1 : Int32} {σ τ : St} {vs : List Nat} {Q : Int32 → St → St → List Nat → Prop} (hcap : vs.length ≤ CAP) (w : wp_end a1 σ τ vs Q) (l : Launch) (D : va_G) (cy : Nat → ClassId) : Ct l D cy SM r (EM a) y_X14_end (Cond.code y_X14_end b_X14_end 2 (some .int)) 0 [.ref (r 0), .int a1] σ τ vs (QIs Q) QT0 := by
  unfold wp_end at w
  refine Ct_of (EM_ok a) (by decide) (Nat.le_of_ble_eq_true rfl) hcap (fun X hnn hF => ?_)
  show G SM r X σ τ vs [(0, .ref (r 0)), (1, .int a1)] [] 0
  refine g_iload_n hF d_X14_end_0 rfl 1 rfl ?_
  refine g_if_lt hF 12 d_X14_end_1 (by decide) rfl (fun c => ?_) (fun c => ?_)
  · have w1 := w.1 c
    refine g_iconst hF (v := (-1)) d_X14_end_12 (by decide) ?_
    exact g_iret hF rfl d_X14_end_13 ⟨((-1) : Int32), rfl, w1⟩
  · have w2 := w.2 c
    refine g_iload_n hF d_X14_end_4 rfl 1 rfl ?_
    refine g_aload_n hF d_X14_end_5 rfl 0 rfl ?_
    refine g_get (v := .int (σ 0 1)) hF 1 obM_0 (by decide) m_1866 rfl d_X14_end_6 ?_
    refine g_icmp_le hF 14 d_X14_end_9 (by decide) rfl rfl (fun c => ?_) (fun c => ?_)
    · have w3 := w2.1 c
      refine g_aload_n hF d_X14_end_14 rfl 0 rfl ?_
      refine g_iload_n hF d_X14_end_15 rfl 1 rfl ?_
      refine g_put (v := a1) hF 1 obM_0 (by decide) m_1866 rfl rfl rfl d_X14_end_16 ?_
      refine g_iload_n hF d_X14_end_19 rfl 1 rfl ?_
      exact g_iret hF rfl d_X14_end_20 ⟨a1, rfl, w3⟩
    · have w4 := w2.2 c
      refine g_iconst hF (v := (-1)) d_X14_end_12 (by decide) ?_
      exact g_iret hF rfl d_X14_end_13 ⟨((-1) : Int32), rfl, w4⟩
def wp_look (a1 : Int32) (σ τ : St) (vs : List Nat) (Q : Int32 → Prop) : Prop :=
  ((σ 0 9).toInt ≤ a1.toInt → Q ((-1) : Int32)) ∧ (a1.toInt < (σ 0 9).toInt → ((0 ≤ a1.toInt ∧ a1.toInt < 16000) ∧ Q ((σ 1 a1.toNatClampNeg) &&& (255 : Int32))))
set_option maxHeartbeats 4000000 in
set_option maxRecDepth 100000 in
theorem ct_look (a : Nat → Nat) (r : Nat → Nat) {a1 : Int32} {σ τ : St} {vs : List Nat} {Q : Int32 → Prop} (hcap : vs.length ≤ CAP) (w : wp_look a1 σ τ vs Q) (l : Launch) (D : va_G) (cy : Nat → ClassId) : Ct l D cy SM r (EM a) y_X14_look (Cond.code y_X14_look b_X14_look 2 (some .int)) 0 [.ref (r 0), .int a1] σ τ vs (QIr σ τ vs Q) QT0 := by
  unfold wp_look at w
  refine Ct_of (EM_ok a) (by decide) (Nat.le_of_ble_eq_true rfl) hcap (fun X hnn hF => ?_)
  show G SM r X σ τ vs [(0, .ref (r 0)), (1, .int a1)] [] 0
  refine g_iload_n hF d_X14_look_0 rfl 1 rfl ?_
  refine g_aload_n hF d_X14_look_1 rfl 0 rfl ?_
  refine g_get (v := .int (σ 0 9)) hF 9 obM_0 (by decide) m_1874 rfl d_X14_look_2 ?_
  refine g_icmp_ge hF 21 d_X14_look_5 (by decide) rfl rfl (fun c => ?_) (fun c => ?_)
  · have w1 := w.1 c
    refine g_iconst hF (v := (-1)) d_X14_look_21 (by decide) ?_
    exact g_iret hF rfl d_X14_look_22 ⟨rfl, rfl, rfl, ((-1) : Int32), rfl, w1⟩
  · have w2 := w.2 c
    refine g_aload_n hF d_X14_look_8 rfl 0 rfl ?_
    refine g_get (v := .ref (r 1)) hF 0 obM_0 (by decide) m_1865 rfl d_X14_look_9 ?_
    refine g_iload_n hF d_X14_look_12 rfl 1 rfl ?_
    have w3 := w2.2
    refine g_bald hF arM_1 (s_in (Nat.le_of_ble_eq_true rfl) w2.1.1 w2.1.2) d_X14_look_13 ?_
    refine g_top (v := (σ 1 a1.toNatClampNeg)) rfl ?_
    refine g_sipush hF (v := 255) d_X14_look_14 (by decide) ?_
    refine g_iand hF d_X14_look_17 ?_
    refine g_goto hF 22 d_X14_look_18 (by decide) ?_
    exact g_iret hF rfl d_X14_look_22 ⟨rfl, rfl, rfl, ((σ 1 a1.toNatClampNeg) &&& (255 : Int32)), rfl, w3⟩
def wp_isAllowed (a0 : Int32) (σ τ : St) (vs : List Nat) (Q : Int32 → Prop) : Prop :=
  (a0.toInt = 9 → Q (1 : Int32)) ∧ (a0.toInt ≠ 9 → (a0.toInt = 10 → Q (1 : Int32)) ∧ (a0.toInt ≠ 10 → (a0.toInt = 13 → Q (1 : Int32)) ∧ (a0.toInt ≠ 13 → (a0.toInt < 32 → Q (0 : Int32)) ∧ (32 ≤ a0.toInt → (126 < a0.toInt → Q (0 : Int32)) ∧ (a0.toInt ≤ 126 → Q (1 : Int32))))))
set_option maxHeartbeats 4000000 in
set_option maxRecDepth 100000 in
theorem ct_isAllowed (a : Nat → Nat) (r : Nat → Nat) {a0 : Int32} {σ τ : St} {vs : List Nat} {Q : Int32 → Prop} (hcap : vs.length ≤ CAP) (w : wp_isAllowed a0 σ τ vs Q) (l : Launch) (D : va_G) (cy : Nat → ClassId) : Ct l D cy SM r (EM a) y_X14_isAllowed (Cond.code y_X14_isAllowed b_X14_isAllowed 1 (some .boolean)) 0 [.int a0] σ τ vs (QZr σ τ vs Q) QT0 := by
  unfold wp_isAllowed at w
  refine Ct_of (EM_ok a) (by decide) (Nat.le_of_ble_eq_true rfl) hcap (fun X hnn hF => ?_)
  show G SM r X σ τ vs [(0, .int a0)] [] 0
  refine g_iload_n hF d_X14_isAllowed_0 rfl 0 rfl ?_
  refine g_bipush hF (v := 9) d_X14_isAllowed_1 (by decide) ?_
  refine g_icmp_eq (yv := 9) hF 30 d_X14_isAllowed_3 (by decide) rfl (by decide) (fun c => ?_) (fun c => ?_)
  · have w1 := w.1 c
    refine g_iconst hF (v := 1) d_X14_isAllowed_30 (by decide) ?_
    refine g_goto hF 35 d_X14_isAllowed_31 (by decide) ?_
    exact g_zret hF rfl (k_nz (Or.inr rfl)) d_X14_isAllowed_35 ⟨rfl, rfl, rfl, (1 : Int32), rfl, (Or.inr rfl), w1⟩
  · have w2 := w.2 c
    refine g_iload_n hF d_X14_isAllowed_6 rfl 0 rfl ?_
    refine g_bipush hF (v := 10) d_X14_isAllowed_7 (by decide) ?_
    refine g_icmp_eq (yv := 10) hF 30 d_X14_isAllowed_9 (by decide) rfl (by decide) (fun c => ?_) (fun c => ?_)
    · have w3 := w2.1 c
      refine g_iconst hF (v := 1) d_X14_isAllowed_30 (by decide) ?_
      refine g_goto hF 35 d_X14_isAllowed_31 (by decide) ?_
      exact g_zret hF rfl (k_nz (Or.inr rfl)) d_X14_isAllowed_35 ⟨rfl, rfl, rfl, (1 : Int32), rfl, (Or.inr rfl), w3⟩
    · have w4 := w2.2 c
      refine g_iload_n hF d_X14_isAllowed_12 rfl 0 rfl ?_
      refine g_bipush hF (v := 13) d_X14_isAllowed_13 (by decide) ?_
      refine g_icmp_eq (yv := 13) hF 30 d_X14_isAllowed_15 (by decide) rfl (by decide) (fun c => ?_) (fun c => ?_)
      · have w5 := w4.1 c
        refine g_iconst hF (v := 1) d_X14_isAllowed_30 (by decide) ?_
        refine g_goto hF 35 d_X14_isAllowed_31 (by decide) ?_
        exact g_zret hF rfl (k_nz (Or.inr rfl)) d_X14_isAllowed_35 ⟨rfl, rfl, rfl, (1 : Int32), rfl, (Or.inr rfl), w5⟩
      · have w6 := w4.2 c
        refine g_iload_n hF d_X14_isAllowed_18 rfl 0 rfl ?_
        refine g_bipush hF (v := 32) d_X14_isAllowed_19 (by decide) ?_
        refine g_icmp_lt (yv := 32) hF 34 d_X14_isAllowed_21 (by decide) rfl (by decide) (fun c => ?_) (fun c => ?_)
        · have w7 := w6.1 c
          refine g_iconst hF (v := 0) d_X14_isAllowed_34 (by decide) ?_
          exact g_zret hF rfl (k_nz (Or.inl rfl)) d_X14_isAllowed_35 ⟨rfl, rfl, rfl, (0 : Int32), rfl, (Or.inl rfl), w7⟩
        · have w8 := w6.2 c
          refine g_iload_n hF d_X14_isAllowed_24 rfl 0 rfl ?_
          refine g_bipush hF (v := 126) d_X14_isAllowed_25 (by decide) ?_
          refine g_icmp_gt (yv := 126) hF 34 d_X14_isAllowed_27 (by decide) rfl (by decide) (fun c => ?_) (fun c => ?_)
          · have w9 := w8.1 c
            refine g_iconst hF (v := 0) d_X14_isAllowed_34 (by decide) ?_
            exact g_zret hF rfl (k_nz (Or.inl rfl)) d_X14_isAllowed_35 ⟨rfl, rfl, rfl, (0 : Int32), rfl, (Or.inl rfl), w9⟩
          · have w10 := w8.2 c
            refine g_iconst hF (v := 1) d_X14_isAllowed_30 (by decide) ?_
            refine g_goto hF 35 d_X14_isAllowed_31 (by decide) ?_
            exact g_zret hF rfl (k_nz (Or.inr rfl)) d_X14_isAllowed_35 ⟨rfl, rfl, rfl, (1 : Int32), rfl, (Or.inr rfl), w10⟩
def wp_token (a1 : Int32) (a2 : Int32) (a3 : Int32) (a4 : Int32) (a5 : Int32) (σ τ : St) (vs : List Nat) (Q : St → St → List Nat → Prop) : Prop :=
  ((0 ≤ (σ 0 8).toInt ∧ (σ 0 8).toInt < 16002) ∧ ((0 ≤ (σ 0 8).toInt ∧ (σ 0 8).toInt < 16002) ∧ ((0 ≤ (σ 0 8).toInt ∧ (σ 0 8).toInt < 16002) ∧ ((0 ≤ (σ 0 8).toInt ∧ (σ 0 8).toInt < 16002) ∧ ((0 ≤ (σ 0 8).toInt ∧ (σ 0 8).toInt < 16002) ∧ Q (upC (upC (upC (upC (upC (upC σ 2 (σ 0 8).toNatClampNeg a1) 3 (σ 0 8).toNatClampNeg a2) 4 (σ 0 8).toNatClampNeg a3) 5 (σ 0 8).toNatClampNeg a4) 6 (σ 0 8).toNatClampNeg a5) 0 8 ((σ 0 8) + (1 : Int32))) τ vs)))))
set_option maxHeartbeats 4000000 in
set_option maxRecDepth 100000 in
theorem ct_token (a : Nat → Nat) (r : Nat → Nat) {a1 : Int32} {a2 : Int32} {a3 : Int32} {a4 : Int32} {a5 : Int32} {σ τ : St} {vs : List Nat} {Q : St → St → List Nat → Prop} (hcap : vs.length ≤ CAP) (w : wp_token a1 a2 a3 a4 a5 σ τ vs Q) (l : Launch) (D : va_G) (cy : Nat → ClassId) : Ct l D cy SM r (EM a) y_X14_token (Cond.code y_X14_token b_X14_token 6 none) 0 [.ref (r 0), .int a1, .int a2, .int a3, .int a4, .int a5] σ τ vs (QVs Q) QT0 := by
  unfold wp_token at w
  refine Ct_of (EM_ok a) (by decide) (Nat.le_of_ble_eq_true rfl) hcap (fun X hnn hF => ?_)
  show G SM r X σ τ vs [(0, .ref (r 0)), (1, .int a1), (2, .int a2), (3, .int a3), (4, .int a4), (5, .int a5)] [] 0
  refine g_aload_n hF d_X14_token_0 rfl 0 rfl ?_
  refine g_get (v := .ref (r 2)) hF 3 obM_0 (by decide) m_1868 rfl d_X14_token_1 ?_
  refine g_aload_n hF d_X14_token_4 rfl 0 rfl ?_
  refine g_get (v := .int (σ 0 8)) hF 8 obM_0 (by decide) m_1873 rfl d_X14_token_5 ?_
  refine g_iload_n hF d_X14_token_8 rfl 1 rfl ?_
  have w1 := w.2
  refine g_iast hF arM_2 (s_in (Nat.le_of_ble_eq_true rfl) w.1.1 w.1.2) d_X14_token_9 ?_
  refine g_aload_n hF d_X14_token_10 rfl 0 rfl ?_
  refine g_get (v := .ref (r 3)) hF 4 obM_0 (by decide) m_1869 rfl d_X14_token_11 ?_
  refine g_aload_n hF d_X14_token_14 rfl 0 rfl ?_
  refine g_get (v := .int (σ 0 8)) hF 8 obM_0 (by decide) m_1873 rfl d_X14_token_15 ?_
  refine g_iload_n hF d_X14_token_18 rfl 2 rfl ?_
  have w2 := w1.2
  refine g_iast hF arM_3 (s_in (Nat.le_of_ble_eq_true rfl) w1.1.1 w1.1.2) d_X14_token_19 ?_
  refine g_aload_n hF d_X14_token_20 rfl 0 rfl ?_
  refine g_get (v := .ref (r 4)) hF 5 obM_0 (by decide) m_1870 rfl d_X14_token_21 ?_
  refine g_aload_n hF d_X14_token_24 rfl 0 rfl ?_
  refine g_get (v := .int (σ 0 8)) hF 8 obM_0 (by decide) m_1873 rfl d_X14_token_25 ?_
  refine g_iload_n hF d_X14_token_28 rfl 3 rfl ?_
  have w3 := w2.2
  refine g_iast hF arM_4 (s_in (Nat.le_of_ble_eq_true rfl) w2.1.1 w2.1.2) d_X14_token_29 ?_
  refine g_aload_n hF d_X14_token_30 rfl 0 rfl ?_
  refine g_get (v := .ref (r 5)) hF 6 obM_0 (by decide) m_1871 rfl d_X14_token_31 ?_
  refine g_aload_n hF d_X14_token_34 rfl 0 rfl ?_
  refine g_get (v := .int (σ 0 8)) hF 8 obM_0 (by decide) m_1873 rfl d_X14_token_35 ?_
  refine g_iload hF d_X14_token_38 4 rfl ?_
  have w4 := w3.2
  refine g_iast hF arM_5 (s_in (Nat.le_of_ble_eq_true rfl) w3.1.1 w3.1.2) d_X14_token_40 ?_
  refine g_aload_n hF d_X14_token_41 rfl 0 rfl ?_
  refine g_get (v := .ref (r 6)) hF 7 obM_0 (by decide) m_1872 rfl d_X14_token_42 ?_
  refine g_aload_n hF d_X14_token_45 rfl 0 rfl ?_
  refine g_get (v := .int (σ 0 8)) hF 8 obM_0 (by decide) m_1873 rfl d_X14_token_46 ?_
  refine g_iload hF d_X14_token_49 5 rfl ?_
  have w5 := w4.2
  refine g_iast hF arM_6 (s_in (Nat.le_of_ble_eq_true rfl) w4.1.1 w4.1.2) d_X14_token_51 ?_
  refine g_aload_n hF d_X14_token_52 rfl 0 rfl ?_
  refine g_dup hF d_X14_token_53 rfl ?_
  refine g_get (v := .int (σ 0 8)) hF 8 obM_0 (by decide) m_1873 rfl d_X14_token_54 ?_
  refine g_iconst hF (v := 1) d_X14_token_57 (by decide) ?_
  refine g_iadd hF d_X14_token_58 ?_
  refine g_put (v := ((σ 0 8) + (1 : Int32))) hF 8 obM_0 (by decide) m_1873 rfl rfl rfl d_X14_token_59 ?_
  exact g_vret hF rfl d_X14_token_62 ⟨rfl, w5⟩
def wp_bad (a1 : Int32) (σ τ : St) (vs : List Nat) (Q : Int32 → St → St → List Nat → Prop) : Prop :=
  wp_token (1 : Int32) a1 a1 (0 : Int32) (0 : Int32) σ τ vs (fun s6 t6 z6 => Q a1 s6 t6 z6)
set_option maxHeartbeats 4000000 in
set_option maxRecDepth 100000 in
theorem ct_bad (a : Nat → Nat) (r : Nat → Nat) {a1 : Int32} {σ τ : St} {vs : List Nat} {Q : Int32 → St → St → List Nat → Prop} (hcap : vs.length ≤ CAP) (w : wp_bad a1 σ τ vs Q) (l : Launch) (D : va_G) (cy : Nat → ClassId) : Ct l D cy SM r (EM a) y_X14_bad (Cond.code y_X14_bad b_X14_bad 2 (some .int)) 1 [.ref (r 0), .int a1] σ τ vs (QIs Q) QT0 := by
  unfold wp_bad at w
  refine Ct_of (EM_ok a) (by decide) (Nat.le_of_ble_eq_true rfl) hcap (fun X hnn hF => ?_)
  show G SM r X σ τ vs [(0, .ref (r 0)), (1, .int a1)] [] 0
  refine g_aload_n hF d_X14_bad_0 rfl 0 rfl ?_
  refine g_iconst hF (v := 1) d_X14_bad_1 (by decide) ?_
  refine g_iload_n hF d_X14_bad_2 rfl 1 rfl ?_
  refine g_iload_n hF d_X14_bad_3 rfl 1 rfl ?_
  refine g_iconst hF (v := 0) d_X14_bad_4 (by decide) ?_
  refine g_iconst hF (v := 0) d_X14_bad_5 (by decide) ?_
  refine g_callV (As := [.int 1, .int a1, .int a1, .int 0, .int 0]) (rest := []) hF (fun l D cy => (ct_token a r hcap w) l D cy) (Nat.le_of_ble_eq_true rfl) mV_X14_token m_2194 (recv_ob obM_0) rfl rfl (Nat.le_of_ble_eq_true rfl) d_X14_bad_6 (kV (fun s6 t6 z6 w1 => ?_)) (fun _ _ _ h => h.elim)
  refine g_iload_n hF d_X14_bad_9 rfl 1 rfl ?_
  exact g_iret hF rfl d_X14_bad_10 ⟨a1, rfl, w1⟩
def wp_remarkEnd (a1 : Int32) (a2 : Int32) (σ τ : St) (vs : List Nat) (Q : Int32 → St → St → List Nat → Prop) : Prop :=
  ∃ L4 : Nat → Int32 → Prop, (∃ n, L4 n (a1 + (2 : Int32))) ∧ ∀ (n4 : Nat) (x3_4 : Int32), L4 n4 x3_4 → ((∃ J57 : Prop, (J57  → (((σ 0 9).toInt ≤ x3_4.toInt → wp_bad a1 σ τ vs (fun v73 s73 t73 z73 => Q v73 s73 t73 z73)) ∧ (x3_4.toInt < (σ 0 9).toInt → Q (x3_4 + (2 : Int32)) σ τ vs))) ∧ ((σ 0 9).toInt ≤ x3_4.toInt → J57) ∧ (x3_4.toInt < (σ 0 9).toInt → wp_look x3_4 σ τ vs (fun v14 => (∃ J34 : Prop, (J34  → (wp_look x3_4 σ τ vs (fun v36 => wp_isAllowed v36 σ τ vs (fun v39 => (v39.toInt ≠ 0 → ∃ m, m < n4 ∧ L4 m (x3_4 + 1)) ∧ (v39.toInt = 0 → wp_bad x3_4 σ τ vs (fun v47 s47 t47 z47 => Q v47 s47 t47 z47)))))) ∧ (v14.toInt ≠ 42 → J34) ∧ (v14.toInt = 42 → wp_look (x3_4 + (1 : Int32)) σ τ vs (fun v26 => (v26.toInt = 47 → J57) ∧ (v26.toInt ≠ 47 → J34))))))))
set_option maxHeartbeats 4000000 in
set_option maxRecDepth 100000 in
theorem ct_remarkEnd (a : Nat → Nat) (r : Nat → Nat) {a1 : Int32} {a2 : Int32} {σ τ : St} {vs : List Nat} {Q : Int32 → St → St → List Nat → Prop} (hcap : vs.length ≤ CAP) (w : wp_remarkEnd a1 a2 σ τ vs Q) (l : Launch) (D : va_G) (cy : Nat → ClassId) : Ct l D cy SM r (EM a) y_X14_remarkEnd (Cond.code y_X14_remarkEnd b_X14_remarkEnd 4 (some .int)) 2 [.ref (r 0), .int a1, .int a2] σ τ vs (QIs Q) QT0 := by
  unfold wp_remarkEnd at w
  refine Ct_of (EM_ok a) (by decide) (Nat.le_of_ble_eq_true rfl) hcap (fun X hnn hF => ?_)
  show G SM r X σ τ vs [(0, .ref (r 0)), (1, .int a1), (2, .int a2)] [] 0
  refine g_iload_n hF d_X14_remarkEnd_0 rfl 1 rfl ?_
  refine g_iconst hF (v := 2) d_X14_remarkEnd_1 (by decide) ?_
  refine g_iadd hF d_X14_remarkEnd_2 ?_
  refine g_istore_n hF [(3, .int (a1 + (2 : Int32))), (0, .ref (r 0)), (1, .int a1), (2, .int a2)] d_X14_remarkEnd_3 rfl hnn (by decide) rfl ?_
  obtain ⟨L4, ⟨i4, u4⟩, h4⟩ := w
  have b4 : ∀ (n4 : Nat) (x3_4 : Int32), L4 n4 x3_4 → G SM r X σ τ vs [(0, .ref (r 0)), (1, .int a1), (3, .int x3_4)] [] 4 := by
    intro n4
    induction n4 using Nat.strongRecOn with
    | _ n4 ih4 =>
      intro x3_4  w4_
      have w4_ := h4 n4 x3_4  w4_
      refine g_iload_n hF d_X14_remarkEnd_4 rfl 2 rfl ?_
      refine g_aload_n hF d_X14_remarkEnd_5 rfl 0 rfl ?_
      refine g_get (v := .int (σ 0 9)) hF 9 obM_0 (by decide) m_1874 rfl d_X14_remarkEnd_6 ?_
      obtain ⟨J57, h57, w1⟩ := w4_
      have b57 : J57  → G SM r X σ τ vs [(0, .ref (r 0)), (1, .int a1), (3, .int x3_4)] [] 57 := by
        intro   w57_
        have w57_ := h57   w57_
        refine g_iload_n hF d_X14_remarkEnd_57 rfl 2 rfl ?_
        refine g_aload_n hF d_X14_remarkEnd_58 rfl 0 rfl ?_
        refine g_get (v := .int (σ 0 9)) hF 9 obM_0 (by decide) m_1874 rfl d_X14_remarkEnd_59 ?_
        refine g_icmp_ge hF 71 d_X14_remarkEnd_62 (by decide) rfl rfl (fun c => ?_) (fun c => ?_)
        · have w2 := w57_.1 c
          refine g_aload_n hF d_X14_remarkEnd_71 rfl 0 rfl ?_
          refine g_iload_n hF d_X14_remarkEnd_72 rfl 1 rfl ?_
          refine g_callV (As := [.int a1]) (rest := []) hF (fun l D cy => (ct_bad a r hcap w2) l D cy) (Nat.le_of_ble_eq_true rfl) mV_X14_bad m_2202 (recv_ob obM_0) rfl rfl (Nat.le_of_ble_eq_true rfl) d_X14_remarkEnd_73 (kI (fun v73 s73 t73 z73 w3 => ?_)) (fun _ _ _ h => h.elim)
          exact g_iret hF rfl d_X14_remarkEnd_76 ⟨v73, rfl, w3⟩
        · have w4 := w57_.2 c
          refine g_iload_n hF d_X14_remarkEnd_65 rfl 2 rfl ?_
          refine g_iconst hF (v := 2) d_X14_remarkEnd_66 (by decide) ?_
          refine g_iadd hF d_X14_remarkEnd_67 ?_
          refine g_goto hF 76 d_X14_remarkEnd_68 (by decide) ?_
          exact g_iret hF rfl d_X14_remarkEnd_76 ⟨(x3_4 + (2 : Int32)), rfl, w4⟩
      refine g_icmp_ge hF 57 d_X14_remarkEnd_9 (by decide) rfl rfl (fun c => ?_) (fun c => ?_)
      · have w5 := w1.1 c
        exact b57  w5
      · have w6 := w1.2 c
        refine g_aload_n hF d_X14_remarkEnd_12 rfl 0 rfl ?_
        refine g_iload_n hF d_X14_remarkEnd_13 rfl 2 rfl ?_
        refine g_callV (As := [.int x3_4]) (rest := []) hF (fun l D cy => (ct_look a r hcap w6) l D cy) (Nat.le_of_ble_eq_true rfl) mV_X14_look m_2187 (recv_ob obM_0) rfl rfl (Nat.le_of_ble_eq_true rfl) d_X14_remarkEnd_14 (krI (fun v14 w7 => ?_)) (fun _ _ _ h => h.elim)
        refine g_bipush hF (v := 42) d_X14_remarkEnd_17 (by decide) ?_
        obtain ⟨J34, h34, w8⟩ := w7
        have b34 : J34  → G SM r X σ τ vs [(0, .ref (r 0)), (1, .int a1), (3, .int x3_4)] [] 34 := by
          intro   w34_
          have w34_ := h34   w34_
          refine g_aload_n hF d_X14_remarkEnd_34 rfl 0 rfl ?_
          refine g_iload_n hF d_X14_remarkEnd_35 rfl 2 rfl ?_
          refine g_callV (As := [.int x3_4]) (rest := []) hF (fun l D cy => (ct_look a r hcap w34_) l D cy) (Nat.le_of_ble_eq_true rfl) mV_X14_look m_2187 (recv_ob obM_0) rfl rfl (Nat.le_of_ble_eq_true rfl) d_X14_remarkEnd_36 (krI (fun v36 w9 => ?_)) (fun _ _ _ h => h.elim)
          refine g_callS (As := [.int v36]) (rest := []) hF (fun l D cy => (ct_isAllowed a r hcap w9) l D cy) (Nat.le_of_ble_eq_true rfl) mS_X14_isAllowed m_2191 rfl rfl (Nat.le_of_ble_eq_true rfl) d_X14_remarkEnd_39 (krZ (fun v39 hz39 w10 => ?_)) (fun _ _ _ h => h.elim)
          refine g_if_ne hF 51 d_X14_remarkEnd_42 (by decide) rfl (fun c => ?_) (fun c => ?_)
          · have w11 := w10.1 c
            refine g_iinc hF (x3_4 + 1) [(3, .int (x3_4 + 1)), (0, .ref (r 0)), (1, .int a1)] d_X14_remarkEnd_51 2 rfl rfl hnn (by decide) rfl ?_
            refine g_goto hF 4 d_X14_remarkEnd_54 (by decide) ?_
            obtain ⟨m4, hm4, w9⟩ := w11
            exact g_sub (L' := [(0, .ref (r 0)), (1, .int a1), (3, .int (x3_4 + 1))]) [1, 2, 0] rfl (ih4 m4 hm4 (x3_4 + 1) w9)
          · have w12 := w10.2 c
            refine g_aload_n hF d_X14_remarkEnd_45 rfl 0 rfl ?_
            refine g_iload_n hF d_X14_remarkEnd_46 rfl 2 rfl ?_
            refine g_callV (As := [.int x3_4]) (rest := []) hF (fun l D cy => (ct_bad a r hcap w12) l D cy) (Nat.le_of_ble_eq_true rfl) mV_X14_bad m_2202 (recv_ob obM_0) rfl rfl (Nat.le_of_ble_eq_true rfl) d_X14_remarkEnd_47 (kI (fun v47 s47 t47 z47 w13 => ?_)) (fun _ _ _ h => h.elim)
            exact g_iret hF rfl d_X14_remarkEnd_50 ⟨v47, rfl, w13⟩
        refine g_icmp_ne (yv := 42) hF 34 d_X14_remarkEnd_19 (by decide) rfl (by decide) (fun c => ?_) (fun c => ?_)
        · have w14 := w8.1 c
          exact b34  w14
        · have w15 := w8.2 c
          refine g_aload_n hF d_X14_remarkEnd_22 rfl 0 rfl ?_
          refine g_iload_n hF d_X14_remarkEnd_23 rfl 2 rfl ?_
          refine g_iconst hF (v := 1) d_X14_remarkEnd_24 (by decide) ?_
          refine g_iadd hF d_X14_remarkEnd_25 ?_
          refine g_callV (As := [.int (x3_4 + (1 : Int32))]) (rest := []) hF (fun l D cy => (ct_look a r hcap w15) l D cy) (Nat.le_of_ble_eq_true rfl) mV_X14_look m_2187 (recv_ob obM_0) rfl rfl (Nat.le_of_ble_eq_true rfl) d_X14_remarkEnd_26 (krI (fun v26 w16 => ?_)) (fun _ _ _ h => h.elim)
          refine g_bipush hF (v := 47) d_X14_remarkEnd_29 (by decide) ?_
          refine g_icmp_eq (yv := 47) hF 57 d_X14_remarkEnd_31 (by decide) rfl (by decide) (fun c => ?_) (fun c => ?_)
          · have w17 := w16.1 c
            exact b57  w17
          · have w18 := w16.2 c
            exact b34  w18
  exact g_sub (L' := [(0, .ref (r 0)), (1, .int a1), (3, .int (a1 + (2 : Int32)))]) [1, 2, 0] rfl (b4 i4 (a1 + (2 : Int32)) u4)
def wp_isBlank (a0 : Int32) (σ τ : St) (vs : List Nat) (Q : Int32 → Prop) : Prop :=
  (a0.toInt = 9 → Q (1 : Int32)) ∧ (a0.toInt ≠ 9 → (a0.toInt = 10 → Q (1 : Int32)) ∧ (a0.toInt ≠ 10 → (a0.toInt = 13 → Q (1 : Int32)) ∧ (a0.toInt ≠ 13 → (a0.toInt ≠ 32 → Q (0 : Int32)) ∧ (a0.toInt = 32 → Q (1 : Int32)))))
set_option maxHeartbeats 4000000 in
set_option maxRecDepth 100000 in
theorem ct_isBlank (a : Nat → Nat) (r : Nat → Nat) {a0 : Int32} {σ τ : St} {vs : List Nat} {Q : Int32 → Prop} (hcap : vs.length ≤ CAP) (w : wp_isBlank a0 σ τ vs Q) (l : Launch) (D : va_G) (cy : Nat → ClassId) : Ct l D cy SM r (EM a) y_X14_isBlank (Cond.code y_X14_isBlank b_X14_isBlank 1 (some .boolean)) 0 [.int a0] σ τ vs (QZr σ τ vs Q) QT0 := by
  unfold wp_isBlank at w
  refine Ct_of (EM_ok a) (by decide) (Nat.le_of_ble_eq_true rfl) hcap (fun X hnn hF => ?_)
  show G SM r X σ τ vs [(0, .int a0)] [] 0
  refine g_iload_n hF d_X14_isBlank_0 rfl 0 rfl ?_
  refine g_bipush hF (v := 9) d_X14_isBlank_1 (by decide) ?_
  refine g_icmp_eq (yv := 9) hF 24 d_X14_isBlank_3 (by decide) rfl (by decide) (fun c => ?_) (fun c => ?_)
  · have w1 := w.1 c
    refine g_iconst hF (v := 1) d_X14_isBlank_24 (by decide) ?_
    refine g_goto hF 29 d_X14_isBlank_25 (by decide) ?_
    exact g_zret hF rfl (k_nz (Or.inr rfl)) d_X14_isBlank_29 ⟨rfl, rfl, rfl, (1 : Int32), rfl, (Or.inr rfl), w1⟩
  · have w2 := w.2 c
    refine g_iload_n hF d_X14_isBlank_6 rfl 0 rfl ?_
    refine g_bipush hF (v := 10) d_X14_isBlank_7 (by decide) ?_
    refine g_icmp_eq (yv := 10) hF 24 d_X14_isBlank_9 (by decide) rfl (by decide) (fun c => ?_) (fun c => ?_)
    · have w3 := w2.1 c
      refine g_iconst hF (v := 1) d_X14_isBlank_24 (by decide) ?_
      refine g_goto hF 29 d_X14_isBlank_25 (by decide) ?_
      exact g_zret hF rfl (k_nz (Or.inr rfl)) d_X14_isBlank_29 ⟨rfl, rfl, rfl, (1 : Int32), rfl, (Or.inr rfl), w3⟩
    · have w4 := w2.2 c
      refine g_iload_n hF d_X14_isBlank_12 rfl 0 rfl ?_
      refine g_bipush hF (v := 13) d_X14_isBlank_13 (by decide) ?_
      refine g_icmp_eq (yv := 13) hF 24 d_X14_isBlank_15 (by decide) rfl (by decide) (fun c => ?_) (fun c => ?_)
      · have w5 := w4.1 c
        refine g_iconst hF (v := 1) d_X14_isBlank_24 (by decide) ?_
        refine g_goto hF 29 d_X14_isBlank_25 (by decide) ?_
        exact g_zret hF rfl (k_nz (Or.inr rfl)) d_X14_isBlank_29 ⟨rfl, rfl, rfl, (1 : Int32), rfl, (Or.inr rfl), w5⟩
      · have w6 := w4.2 c
        refine g_iload_n hF d_X14_isBlank_18 rfl 0 rfl ?_
        refine g_bipush hF (v := 32) d_X14_isBlank_19 (by decide) ?_
        refine g_icmp_ne (yv := 32) hF 28 d_X14_isBlank_21 (by decide) rfl (by decide) (fun c => ?_) (fun c => ?_)
        · have w7 := w6.1 c
          refine g_iconst hF (v := 0) d_X14_isBlank_28 (by decide) ?_
          exact g_zret hF rfl (k_nz (Or.inl rfl)) d_X14_isBlank_29 ⟨rfl, rfl, rfl, (0 : Int32), rfl, (Or.inl rfl), w7⟩
        · have w8 := w6.2 c
          refine g_iconst hF (v := 1) d_X14_isBlank_24 (by decide) ?_
          refine g_goto hF 29 d_X14_isBlank_25 (by decide) ?_
          exact g_zret hF rfl (k_nz (Or.inr rfl)) d_X14_isBlank_29 ⟨rfl, rfl, rfl, (1 : Int32), rfl, (Or.inr rfl), w8⟩
def wp_isLetter (a0 : Int32) (σ τ : St) (vs : List Nat) (Q : Int32 → Prop) : Prop :=
  (∃ J12 : Prop, (J12  → ((∃ J24 : Prop, (J24  → ((a0.toInt ≠ 95 → Q (0 : Int32)) ∧ (a0.toInt = 95 → Q (1 : Int32)))) ∧ (a0.toInt < 65 → J24) ∧ (65 ≤ a0.toInt → (a0.toInt ≤ 90 → Q (1 : Int32)) ∧ (90 < a0.toInt → J24))))) ∧ (a0.toInt < 97 → J12) ∧ (97 ≤ a0.toInt → (a0.toInt ≤ 122 → Q (1 : Int32)) ∧ (122 < a0.toInt → J12)))
set_option maxHeartbeats 4000000 in
set_option maxRecDepth 100000 in
theorem ct_isLetter (a : Nat → Nat) (r : Nat → Nat) {a0 : Int32} {σ τ : St} {vs : List Nat} {Q : Int32 → Prop} (hcap : vs.length ≤ CAP) (w : wp_isLetter a0 σ τ vs Q) (l : Launch) (D : va_G) (cy : Nat → ClassId) : Ct l D cy SM r (EM a) y_X14_isLetter (Cond.code y_X14_isLetter b_X14_isLetter 1 (some .boolean)) 0 [.int a0] σ τ vs (QZr σ τ vs Q) QT0 := by
  unfold wp_isLetter at w
  refine Ct_of (EM_ok a) (by decide) (Nat.le_of_ble_eq_true rfl) hcap (fun X hnn hF => ?_)
  show G SM r X σ τ vs [(0, .int a0)] [] 0
  refine g_iload_n hF d_X14_isLetter_0 rfl 0 rfl ?_
  refine g_bipush hF (v := 97) d_X14_isLetter_1 (by decide) ?_
  obtain ⟨J12, h12, w1⟩ := w
  have b12 : J12  → G SM r X σ τ vs [(0, .int a0)] [] 12 := by
    intro   w12_
    have w12_ := h12   w12_
    refine g_iload_n hF d_X14_isLetter_12 rfl 0 rfl ?_
    refine g_bipush hF (v := 65) d_X14_isLetter_13 (by decide) ?_
    obtain ⟨J24, h24, w2⟩ := w12_
    have b24 : J24  → G SM r X σ τ vs [(0, .int a0)] [] 24 := by
      intro   w24_
      have w24_ := h24   w24_
      refine g_iload_n hF d_X14_isLetter_24 rfl 0 rfl ?_
      refine g_bipush hF (v := 95) d_X14_isLetter_25 (by decide) ?_
      refine g_icmp_ne (yv := 95) hF 34 d_X14_isLetter_27 (by decide) rfl (by decide) (fun c => ?_) (fun c => ?_)
      · have w3 := w24_.1 c
        refine g_iconst hF (v := 0) d_X14_isLetter_34 (by decide) ?_
        exact g_zret hF rfl (k_nz (Or.inl rfl)) d_X14_isLetter_35 ⟨rfl, rfl, rfl, (0 : Int32), rfl, (Or.inl rfl), w3⟩
      · have w4 := w24_.2 c
        refine g_iconst hF (v := 1) d_X14_isLetter_30 (by decide) ?_
        refine g_goto hF 35 d_X14_isLetter_31 (by decide) ?_
        exact g_zret hF rfl (k_nz (Or.inr rfl)) d_X14_isLetter_35 ⟨rfl, rfl, rfl, (1 : Int32), rfl, (Or.inr rfl), w4⟩
    refine g_icmp_lt (yv := 65) hF 24 d_X14_isLetter_15 (by decide) rfl (by decide) (fun c => ?_) (fun c => ?_)
    · have w5 := w2.1 c
      exact b24  w5
    · have w6 := w2.2 c
      refine g_iload_n hF d_X14_isLetter_18 rfl 0 rfl ?_
      refine g_bipush hF (v := 90) d_X14_isLetter_19 (by decide) ?_
      refine g_icmp_le (yv := 90) hF 30 d_X14_isLetter_21 (by decide) rfl (by decide) (fun c => ?_) (fun c => ?_)
      · have w7 := w6.1 c
        refine g_iconst hF (v := 1) d_X14_isLetter_30 (by decide) ?_
        refine g_goto hF 35 d_X14_isLetter_31 (by decide) ?_
        exact g_zret hF rfl (k_nz (Or.inr rfl)) d_X14_isLetter_35 ⟨rfl, rfl, rfl, (1 : Int32), rfl, (Or.inr rfl), w7⟩
      · have w8 := w6.2 c
        exact b24  w8
  refine g_icmp_lt (yv := 97) hF 12 d_X14_isLetter_3 (by decide) rfl (by decide) (fun c => ?_) (fun c => ?_)
  · have w9 := w1.1 c
    exact b12  w9
  · have w10 := w1.2 c
    refine g_iload_n hF d_X14_isLetter_6 rfl 0 rfl ?_
    refine g_bipush hF (v := 122) d_X14_isLetter_7 (by decide) ?_
    refine g_icmp_le (yv := 122) hF 30 d_X14_isLetter_9 (by decide) rfl (by decide) (fun c => ?_) (fun c => ?_)
    · have w11 := w10.1 c
      refine g_iconst hF (v := 1) d_X14_isLetter_30 (by decide) ?_
      refine g_goto hF 35 d_X14_isLetter_31 (by decide) ?_
      exact g_zret hF rfl (k_nz (Or.inr rfl)) d_X14_isLetter_35 ⟨rfl, rfl, rfl, (1 : Int32), rfl, (Or.inr rfl), w11⟩
    · have w12 := w10.2 c
      exact b12  w12
def wp_isDigit (a0 : Int32) (σ τ : St) (vs : List Nat) (Q : Int32 → Prop) : Prop :=
  (a0.toInt < 48 → Q (0 : Int32)) ∧ (48 ≤ a0.toInt → (57 < a0.toInt → Q (0 : Int32)) ∧ (a0.toInt ≤ 57 → Q (1 : Int32)))
set_option maxHeartbeats 4000000 in
set_option maxRecDepth 100000 in
theorem ct_isDigit (a : Nat → Nat) (r : Nat → Nat) {a0 : Int32} {σ τ : St} {vs : List Nat} {Q : Int32 → Prop} (hcap : vs.length ≤ CAP) (w : wp_isDigit a0 σ τ vs Q) (l : Launch) (D : va_G) (cy : Nat → ClassId) : Ct l D cy SM r (EM a) y_X14_isDigit (Cond.code y_X14_isDigit b_X14_isDigit 1 (some .boolean)) 0 [.int a0] σ τ vs (QZr σ τ vs Q) QT0 := by
  unfold wp_isDigit at w
  refine Ct_of (EM_ok a) (by decide) (Nat.le_of_ble_eq_true rfl) hcap (fun X hnn hF => ?_)
  show G SM r X σ τ vs [(0, .int a0)] [] 0
  refine g_iload_n hF d_X14_isDigit_0 rfl 0 rfl ?_
  refine g_bipush hF (v := 48) d_X14_isDigit_1 (by decide) ?_
  refine g_icmp_lt (yv := 48) hF 16 d_X14_isDigit_3 (by decide) rfl (by decide) (fun c => ?_) (fun c => ?_)
  · have w1 := w.1 c
    refine g_iconst hF (v := 0) d_X14_isDigit_16 (by decide) ?_
    exact g_zret hF rfl (k_nz (Or.inl rfl)) d_X14_isDigit_17 ⟨rfl, rfl, rfl, (0 : Int32), rfl, (Or.inl rfl), w1⟩
  · have w2 := w.2 c
    refine g_iload_n hF d_X14_isDigit_6 rfl 0 rfl ?_
    refine g_bipush hF (v := 57) d_X14_isDigit_7 (by decide) ?_
    refine g_icmp_gt (yv := 57) hF 16 d_X14_isDigit_9 (by decide) rfl (by decide) (fun c => ?_) (fun c => ?_)
    · have w3 := w2.1 c
      refine g_iconst hF (v := 0) d_X14_isDigit_16 (by decide) ?_
      exact g_zret hF rfl (k_nz (Or.inl rfl)) d_X14_isDigit_17 ⟨rfl, rfl, rfl, (0 : Int32), rfl, (Or.inl rfl), w3⟩
    · have w4 := w2.2 c
      refine g_iconst hF (v := 1) d_X14_isDigit_12 (by decide) ?_
      refine g_goto hF 17 d_X14_isDigit_13 (by decide) ?_
      exact g_zret hF rfl (k_nz (Or.inr rfl)) d_X14_isDigit_17 ⟨rfl, rfl, rfl, (1 : Int32), rfl, (Or.inr rfl), w4⟩
def wp_among (a1 : Int32) (a2 : Int32) (a3 : Nat) (σ τ : St) (vs : List Nat) (Q : Int32 → Prop) : Prop :=
  ∃ L6 : Nat → Int32 → Int32 → Prop, (∃ n, L6 n (0 : Int32) (1 : Int32)) ∧ ∀ (n6 : Nat) (x4_6 : Int32) (x5_6 : Int32), L6 n6 x4_6 x5_6 → (((nI (SN a3)).toInt ≤ x5_6.toInt → Q ((-1) : Int32)) ∧ (x5_6.toInt < (nI (SN a3)).toInt → ∃ L19 : Nat → Int32 → Prop, (∃ n, L19 n x5_6) ∧ ∀ (n19 : Nat) (x6_19 : Int32), L19 n19 x6_19 → (((0 ≤ x6_19.toInt ∧ x6_19.toInt < SN a3) ∧ ((chI (SF a3 x6_19.toNatClampNeg)).toInt = 32 → (∃ J52 : Int32 → Prop, (∀ (y0_52 : Int32), y0_52 = 0 ∨ y0_52 = 1 → J52 y0_52 → (∃ L57 : Nat → Int32 → Int32 → Prop, (∃ n, L57 n y0_52 (0 : Int32)) ∧ ∀ (n57 : Nat) (x7_57 : Int32) (x8_57 : Int32), x7_57 = 0 ∨ x7_57 = 1 → L57 n57 x7_57 x8_57 → ((∃ J104 : Prop, (J104  → ((x7_57.toInt = 0 → ∃ m, m < n6 ∧ L6 m (x4_6 + 1) (x6_19 + (1 : Int32))) ∧ (x7_57.toInt ≠ 0 → Q x4_6))) ∧ (x7_57.toInt = 0 → J104) ∧ (x7_57.toInt ≠ 0 → ((a2 - a1).toInt ≤ x8_57.toInt → J104) ∧ (x8_57.toInt < (a2 - a1).toInt → ((0 ≤ (a1 + x8_57).toInt ∧ (a1 + x8_57).toInt < 16000) ∧ ((0 ≤ (x5_6 + x8_57).toInt ∧ (x5_6 + x8_57).toInt < SN a3) ∧ (∃ J96 : Int32 → Prop, (∀ (y0_96 : Int32), y0_96 = 0 ∨ y0_96 = 1 → J96 y0_96 → (∃ m, m < n57 ∧ L57 m y0_96 (x8_57 + 1))) ∧ ((σ 1 (a1 + x8_57).toNatClampNeg).toInt ≠ (chI (SF a3 (x5_6 + x8_57).toNatClampNeg)).toInt → J96 (0 : Int32)) ∧ ((σ 1 (a1 + x8_57).toNatClampNeg).toInt = (chI (SF a3 (x5_6 + x8_57).toNatClampNeg)).toInt → J96 (1 : Int32))))))))))) ∧ ((x6_19 - x5_6).toInt ≠ (a2 - a1).toInt → J52 (0 : Int32)) ∧ ((x6_19 - x5_6).toInt = (a2 - a1).toInt → J52 (1 : Int32)))) ∧ ((chI (SF a3 x6_19.toNatClampNeg)).toInt ≠ 32 → ∃ m, m < n19 ∧ L19 m (x6_19 + 1))))))
set_option maxHeartbeats 4000000 in
set_option maxRecDepth 100000 in
theorem ct_among (a : Nat → Nat) (r : Nat → Nat) {a1 : Int32} {a2 : Int32} {a3 : Nat} {σ τ : St} {vs : List Nat} {Q : Int32 → Prop} (hcap : vs.length ≤ CAP) (hj : a3 < 3) (w : wp_among a1 a2 a3 σ τ vs Q) (l : Launch) (D : va_G) (cy : Nat → ClassId) : Ct l D cy SM r (EM a) y_X14_among (Cond.code y_X14_among b_X14_among 9 (some .int)) 4 [.ref (r 0), .int a1, .int a2, .ref (a (2 * a3))] σ τ vs (QIr σ τ vs Q) QT0 := by
  unfold wp_among at w
  refine Ct_of (EM_ok a) (by decide) (Nat.le_of_ble_eq_true rfl) hcap (fun X hnn hF => ?_)
  show G SM r X σ τ vs [(0, .ref (r 0)), (1, .int a1), (2, .int a2), (3, .ref (a (2 * a3)))] [] 0
  refine g_iconst hF (v := 0) d_X14_among_0 (by decide) ?_
  refine g_istore hF [(4, .int 0), (0, .ref (r 0)), (1, .int a1), (2, .int a2), (3, .ref (a (2 * a3)))] d_X14_among_1 hnn (by decide) rfl ?_
  refine g_iconst hF (v := 1) d_X14_among_3 (by decide) ?_
  refine g_istore hF [(5, .int 1), (4, .int 0), (0, .ref (r 0)), (1, .int a1), (2, .int a2), (3, .ref (a (2 * a3)))] d_X14_among_4 hnn (by decide) rfl ?_
  obtain ⟨L6, ⟨i6, u6⟩, h6⟩ := w
  have b6 : ∀ (n6 : Nat) (x4_6 : Int32) (x5_6 : Int32), L6 n6 x4_6 x5_6 → G SM r X σ τ vs [(0, .ref (r 0)), (1, .int a1), (2, .int a2), (3, .ref (a (2 * a3))), (4, .int x4_6), (5, .int x5_6)] [] 6 := by
    intro n6
    induction n6 using Nat.strongRecOn with
    | _ n6 ih6 =>
      intro x4_6 x5_6  w6_
      have w6_ := h6 n6 x4_6 x5_6  w6_
      refine g_iload hF d_X14_among_6 5 rfl ?_
      refine g_aload_n hF d_X14_among_8 rfl 3 rfl ?_
      refine g_callV (As := []) (rest := [.int x5_6]) hF (t_len (EM_ok a) (fun A s h => EM_s (j := a3) h hj) hcap) (Nat.le_of_ble_eq_true rfl) mV_String_length m_2232 (recv_str (fun A s h => EM_s (j := a3) h hj)) rfl rfl (Nat.le_of_ble_eq_true rfl) d_X14_among_9 (k_sv ?_) (fun _ _ _ h => h.elim)
      refine g_icmp_ge hF 124 d_X14_among_12 (by decide) rfl rfl (fun c => ?_) (fun c => ?_)
      · have w1 := w6_.1 c
        refine g_iconst hF (v := (-1)) d_X14_among_124 (by decide) ?_
        exact g_iret hF rfl d_X14_among_125 ⟨rfl, rfl, rfl, ((-1) : Int32), rfl, w1⟩
      · have w2 := w6_.2 c
        refine g_iload hF d_X14_among_15 5 rfl ?_
        refine g_istore hF [(6, .int x5_6), (0, .ref (r 0)), (1, .int a1), (2, .int a2), (3, .ref (a (2 * a3))), (4, .int x4_6), (5, .int x5_6)] d_X14_among_17 hnn (by decide) rfl ?_
        obtain ⟨L19, ⟨i19, u19⟩, h19⟩ := w2
        have b19 : ∀ (n19 : Nat) (x6_19 : Int32), L19 n19 x6_19 → G SM r X σ τ vs [(0, .ref (r 0)), (1, .int a1), (2, .int a2), (3, .ref (a (2 * a3))), (4, .int x4_6), (5, .int x5_6), (6, .int x6_19)] [] 19 := by
          intro n19
          induction n19 using Nat.strongRecOn with
          | _ n19 ih19 =>
            intro x6_19  w19_
            have w19_ := h19 n19 x6_19  w19_
            refine g_aload_n hF d_X14_among_19 rfl 3 rfl ?_
            refine g_iload hF d_X14_among_20 6 rfl ?_
            have w3 := w19_.2
            refine g_callV (As := [.int x6_19]) (rest := []) hF (t_ch2 (EM_ok a) (fun A s h => EM_s (j := a3) h hj) hcap (SN_lt hj) x6_19 w19_.1.1 w19_.1.2) (Nat.le_of_ble_eq_true rfl) mV_String_charAt m_2233 (recv_str (fun A s h => EM_s (j := a3) h hj)) rfl rfl (Nat.le_of_ble_eq_true rfl) d_X14_among_22 (k_sv ?_) (fun _ _ _ h => h.elim)
            refine g_bipush hF (v := 32) d_X14_among_25 (by decide) ?_
            refine g_icmp_eq (yv := 32) hF 36 d_X14_among_27 (by decide) rfl (by decide) (fun c => ?_) (fun c => ?_)
            · have w4 := w3.1 c
              refine g_iload hF d_X14_among_36 6 rfl ?_
              refine g_iload hF d_X14_among_38 5 rfl ?_
              refine g_isub hF d_X14_among_40 ?_
              refine g_iload_n hF d_X14_among_41 rfl 2 rfl ?_
              refine g_iload_n hF d_X14_among_42 rfl 1 rfl ?_
              refine g_isub hF d_X14_among_43 ?_
              obtain ⟨J52, h52, w5⟩ := w4
              have b52 : ∀ (y0_52 : Int32), y0_52 = 0 ∨ y0_52 = 1 → J52 y0_52 → G SM r X σ τ vs [(0, .ref (r 0)), (1, .int a1), (2, .int a2), (3, .ref (a (2 * a3))), (4, .int x4_6), (5, .int x5_6), (6, .int x6_19)] [.int y0_52] 52 := by
                intro y0_52 hy0_52 w52_
                have w52_ := h52 y0_52 hy0_52 w52_
                refine g_istore hF [(7, .int y0_52), (0, .ref (r 0)), (1, .int a1), (2, .int a2), (3, .ref (a (2 * a3))), (4, .int x4_6), (5, .int x5_6), (6, .int x6_19)] d_X14_among_52 hnn (by decide) rfl ?_
                refine g_iconst hF (v := 0) d_X14_among_54 (by decide) ?_
                refine g_istore hF [(8, .int 0), (7, .int y0_52), (0, .ref (r 0)), (1, .int a1), (2, .int a2), (3, .ref (a (2 * a3))), (4, .int x4_6), (5, .int x5_6), (6, .int x6_19)] d_X14_among_55 hnn (by decide) rfl ?_
                obtain ⟨L57, ⟨i57, u57⟩, h57⟩ := w52_
                have b57 : ∀ (n57 : Nat) (x7_57 : Int32) (x8_57 : Int32), x7_57 = 0 ∨ x7_57 = 1 → L57 n57 x7_57 x8_57 → G SM r X σ τ vs [(0, .ref (r 0)), (1, .int a1), (2, .int a2), (3, .ref (a (2 * a3))), (4, .int x4_6), (5, .int x5_6), (6, .int x6_19), (7, .int x7_57), (8, .int x8_57)] [] 57 := by
                  intro n57
                  induction n57 using Nat.strongRecOn with
                  | _ n57 ih57 =>
                    intro x7_57 x8_57 hx7_57 w57_
                    have w57_ := h57 n57 x7_57 x8_57 hx7_57 w57_
                    refine g_iload hF d_X14_among_57 7 rfl ?_
                    obtain ⟨J104, h104, w6⟩ := w57_
                    have b104 : J104  → G SM r X σ τ vs [(0, .ref (r 0)), (1, .int a1), (2, .int a2), (3, .ref (a (2 * a3))), (4, .int x4_6), (6, .int x6_19), (7, .int x7_57)] [] 104 := by
                      intro   w104_
                      have w104_ := h104   w104_
                      refine g_iload hF d_X14_among_104 6 rfl ?_
                      refine g_if_eq hF 112 d_X14_among_106 (by decide) rfl (fun c => ?_) (fun c => ?_)
                      · have w7 := w104_.1 c
                        refine g_iinc hF (x4_6 + 1) [(4, .int (x4_6 + 1)), (0, .ref (r 0)), (1, .int a1), (2, .int a2), (3, .ref (a (2 * a3))), (6, .int x6_19), (7, .int x7_57)] d_X14_among_112 4 rfl rfl hnn (by decide) rfl ?_
                        refine g_iload hF d_X14_among_115 5 rfl ?_
                        refine g_iconst hF (v := 1) d_X14_among_117 (by decide) ?_
                        refine g_iadd hF d_X14_among_118 ?_
                        refine g_istore hF [(5, .int (x6_19 + (1 : Int32))), (4, .int (x4_6 + 1)), (0, .ref (r 0)), (1, .int a1), (2, .int a2), (3, .ref (a (2 * a3))), (6, .int x6_19), (7, .int x7_57)] d_X14_among_119 hnn (by decide) rfl ?_
                        refine g_goto hF 6 d_X14_among_121 (by decide) ?_
                        obtain ⟨m6, hm6, w9⟩ := w7
                        exact g_sub (L' := [(0, .ref (r 0)), (1, .int a1), (2, .int a2), (3, .ref (a (2 * a3))), (4, .int (x4_6 + 1)), (5, .int (x6_19 + (1 : Int32)))]) [2, 3, 4, 5, 1, 0] rfl (ih6 m6 hm6 (x4_6 + 1) (x6_19 + (1 : Int32)) w9)
                      · have w8 := w104_.2 c
                        refine g_iload hF d_X14_among_109 4 rfl ?_
                        exact g_iret hF rfl d_X14_among_111 ⟨rfl, rfl, rfl, x4_6, rfl, w8⟩
                    refine g_if_eq hF 104 d_X14_among_59 (by decide) rfl (fun c => ?_) (fun c => ?_)
                    · have w9 := w6.1 c
                      exact g_sub (L' := [(0, .ref (r 0)), (1, .int a1), (2, .int a2), (3, .ref (a (2 * a3))), (4, .int x4_6), (6, .int x6_19), (7, .int x7_57)]) [0, 1, 2, 3, 4, 6, 7] rfl (b104  w9)
                    · have w10 := w6.2 c
                      refine g_iload hF d_X14_among_62 8 rfl ?_
                      refine g_iload_n hF d_X14_among_64 rfl 2 rfl ?_
                      refine g_iload_n hF d_X14_among_65 rfl 1 rfl ?_
                      refine g_isub hF d_X14_among_66 ?_
                      refine g_icmp_ge hF 104 d_X14_among_67 (by decide) rfl rfl (fun c => ?_) (fun c => ?_)
                      · have w11 := w10.1 c
                        exact g_sub (L' := [(0, .ref (r 0)), (1, .int a1), (2, .int a2), (3, .ref (a (2 * a3))), (4, .int x4_6), (6, .int x6_19), (7, .int x7_57)]) [0, 1, 2, 3, 4, 6, 7] rfl (b104  w11)
                      · have w12 := w10.2 c
                        refine g_aload_n hF d_X14_among_70 rfl 0 rfl ?_
                        refine g_get (v := .ref (r 1)) hF 0 obM_0 (by decide) m_1865 rfl d_X14_among_71 ?_
                        refine g_iload_n hF d_X14_among_74 rfl 1 rfl ?_
                        refine g_iload hF d_X14_among_75 8 rfl ?_
                        refine g_iadd hF d_X14_among_77 ?_
                        have w13 := w12.2
                        refine g_bald hF arM_1 (s_in (Nat.le_of_ble_eq_true rfl) w12.1.1 w12.1.2) d_X14_among_78 ?_
                        refine g_top (v := (σ 1 (a1 + x8_57).toNatClampNeg)) rfl ?_
                        refine g_aload_n hF d_X14_among_79 rfl 3 rfl ?_
                        refine g_iload hF d_X14_among_80 5 rfl ?_
                        refine g_iload hF d_X14_among_82 8 rfl ?_
                        refine g_iadd hF d_X14_among_84 ?_
                        have w14 := w13.2
                        refine g_callV (As := [.int (x5_6 + x8_57)]) (rest := [.int (σ 1 (a1 + x8_57).toNatClampNeg)]) hF (t_ch2 (EM_ok a) (fun A s h => EM_s (j := a3) h hj) hcap (SN_lt hj) (x5_6 + x8_57) w13.1.1 w13.1.2) (Nat.le_of_ble_eq_true rfl) mV_String_charAt m_2233 (recv_str (fun A s h => EM_s (j := a3) h hj)) rfl rfl (Nat.le_of_ble_eq_true rfl) d_X14_among_85 (k_sv ?_) (fun _ _ _ h => h.elim)
                        obtain ⟨J96, h96, w15⟩ := w14
                        have b96 : ∀ (y0_96 : Int32), y0_96 = 0 ∨ y0_96 = 1 → J96 y0_96 → G SM r X σ τ vs [(0, .ref (r 0)), (1, .int a1), (2, .int a2), (3, .ref (a (2 * a3))), (4, .int x4_6), (5, .int x5_6), (6, .int x6_19), (8, .int x8_57)] [.int y0_96] 96 := by
                          intro y0_96 hy0_96 w96_
                          have w96_ := h96 y0_96 hy0_96 w96_
                          refine g_istore hF [(7, .int y0_96), (0, .ref (r 0)), (1, .int a1), (2, .int a2), (3, .ref (a (2 * a3))), (4, .int x4_6), (5, .int x5_6), (6, .int x6_19), (8, .int x8_57)] d_X14_among_96 hnn (by decide) rfl ?_
                          refine g_iinc hF (x8_57 + 1) [(8, .int (x8_57 + 1)), (7, .int y0_96), (0, .ref (r 0)), (1, .int a1), (2, .int a2), (3, .ref (a (2 * a3))), (4, .int x4_6), (5, .int x5_6), (6, .int x6_19)] d_X14_among_98 8 rfl rfl hnn (by decide) rfl ?_
                          refine g_goto hF 57 d_X14_among_101 (by decide) ?_
                          obtain ⟨m57, hm57, w9⟩ := w96_
                          exact g_sub (L' := [(0, .ref (r 0)), (1, .int a1), (2, .int a2), (3, .ref (a (2 * a3))), (4, .int x4_6), (5, .int x5_6), (6, .int x6_19), (7, .int y0_96), (8, .int (x8_57 + 1))]) [2, 3, 4, 5, 6, 7, 8, 1, 0] rfl (ih57 m57 hm57 y0_96 (x8_57 + 1) hy0_96 w9)
                        refine g_icmp_ne hF 95 d_X14_among_88 (by decide) rfl rfl (fun c => ?_) (fun c => ?_)
                        · have w16 := w15.1 c
                          refine g_iconst hF (v := 0) d_X14_among_95 (by decide) ?_
                          exact g_sub (L' := [(0, .ref (r 0)), (1, .int a1), (2, .int a2), (3, .ref (a (2 * a3))), (4, .int x4_6), (5, .int x5_6), (6, .int x6_19), (8, .int x8_57)]) [0, 1, 2, 3, 4, 5, 6, 8] rfl (b96 (0 : Int32) (Or.inl rfl) w16)
                        · have w17 := w15.2 c
                          refine g_iconst hF (v := 1) d_X14_among_91 (by decide) ?_
                          refine g_goto hF 96 d_X14_among_92 (by decide) ?_
                          exact g_sub (L' := [(0, .ref (r 0)), (1, .int a1), (2, .int a2), (3, .ref (a (2 * a3))), (4, .int x4_6), (5, .int x5_6), (6, .int x6_19), (8, .int x8_57)]) [0, 1, 2, 3, 4, 5, 6, 8] rfl (b96 (1 : Int32) (Or.inr rfl) w17)
                exact g_sub (L' := [(0, .ref (r 0)), (1, .int a1), (2, .int a2), (3, .ref (a (2 * a3))), (4, .int x4_6), (5, .int x5_6), (6, .int x6_19), (7, .int y0_52), (8, .int 0)]) [2, 3, 4, 5, 6, 7, 8, 1, 0] rfl (b57 i57 y0_52 (0 : Int32) hy0_52 u57)
              refine g_icmp_ne hF 51 d_X14_among_44 (by decide) rfl rfl (fun c => ?_) (fun c => ?_)
              · have w18 := w5.1 c
                refine g_iconst hF (v := 0) d_X14_among_51 (by decide) ?_
                exact b52 (0 : Int32) (Or.inl rfl) w18
              · have w19 := w5.2 c
                refine g_iconst hF (v := 1) d_X14_among_47 (by decide) ?_
                refine g_goto hF 52 d_X14_among_48 (by decide) ?_
                exact b52 (1 : Int32) (Or.inr rfl) w19
            · have w20 := w3.2 c
              refine g_iinc hF (x6_19 + 1) [(6, .int (x6_19 + 1)), (0, .ref (r 0)), (1, .int a1), (2, .int a2), (3, .ref (a (2 * a3))), (4, .int x4_6), (5, .int x5_6)] d_X14_among_30 6 rfl rfl hnn (by decide) rfl ?_
              refine g_goto hF 19 d_X14_among_33 (by decide) ?_
              obtain ⟨m19, hm19, w9⟩ := w20
              exact g_sub (L' := [(0, .ref (r 0)), (1, .int a1), (2, .int a2), (3, .ref (a (2 * a3))), (4, .int x4_6), (5, .int x5_6), (6, .int (x6_19 + 1))]) [1, 2, 3, 4, 5, 6, 0] rfl (ih19 m19 hm19 (x6_19 + 1) w9)
        exact g_sub (L' := [(0, .ref (r 0)), (1, .int a1), (2, .int a2), (3, .ref (a (2 * a3))), (4, .int x4_6), (5, .int x5_6), (6, .int x5_6)]) [1, 2, 3, 4, 5, 6, 0] rfl (b19 i19 x5_6 u19)
  exact g_sub (L' := [(0, .ref (r 0)), (1, .int a1), (2, .int a2), (3, .ref (a (2 * a3))), (4, .int 0), (5, .int 1)]) [2, 3, 4, 5, 1, 0] rfl (b6 i6 (0 : Int32) (1 : Int32) u6)
def wp_sixteen (a0 : Int32) (σ τ : St) (vs : List Nat) (Q : Int32 → Prop) : Prop :=
  wp_isDigit a0 σ τ vs (fun v1 => (v1.toInt = 0 → (∃ J32 : Prop, (J32  → ((a0.toInt < 65 → Q ((-1) : Int32)) ∧ (65 ≤ a0.toInt → (70 < a0.toInt → Q ((-1) : Int32)) ∧ (a0.toInt ≤ 70 → Q ((a0 - (65 : Int32)) + (10 : Int32)))))) ∧ (a0.toInt < 97 → J32) ∧ (97 ≤ a0.toInt → (102 < a0.toInt → J32) ∧ (a0.toInt ≤ 102 → Q ((a0 - (97 : Int32)) + (10 : Int32)))))) ∧ (v1.toInt ≠ 0 → Q (a0 - (48 : Int32))))
set_option maxHeartbeats 4000000 in
set_option maxRecDepth 100000 in
theorem ct_sixteen (a : Nat → Nat) (r : Nat → Nat) {a0 : Int32} {σ τ : St} {vs : List Nat} {Q : Int32 → Prop} (hcap : vs.length ≤ CAP) (w : wp_sixteen a0 σ τ vs Q) (l : Launch) (D : va_G) (cy : Nat → ClassId) : Ct l D cy SM r (EM a) y_X14_sixteen (Cond.code y_X14_sixteen b_X14_sixteen 1 (some .int)) 1 [.int a0] σ τ vs (QIr σ τ vs Q) QT0 := by
  unfold wp_sixteen at w
  refine Ct_of (EM_ok a) (by decide) (Nat.le_of_ble_eq_true rfl) hcap (fun X hnn hF => ?_)
  show G SM r X σ τ vs [(0, .int a0)] [] 0
  refine g_iload_n hF d_X14_sixteen_0 rfl 0 rfl ?_
  refine g_callS (As := [.int a0]) (rest := []) hF (fun l D cy => (ct_isDigit a r hcap w) l D cy) (Nat.le_of_ble_eq_true rfl) mS_X14_isDigit m_2224 rfl rfl (Nat.le_of_ble_eq_true rfl) d_X14_sixteen_1 (krZ (fun v1 hz1 w1 => ?_)) (fun _ _ _ h => h.elim)
  refine g_if_eq hF 12 d_X14_sixteen_4 (by decide) rfl (fun c => ?_) (fun c => ?_)
  · have w2 := w1.1 c
    refine g_iload_n hF d_X14_sixteen_12 rfl 0 rfl ?_
    refine g_bipush hF (v := 97) d_X14_sixteen_13 (by decide) ?_
    obtain ⟨J32, h32, w3⟩ := w2
    have b32 : J32  → G SM r X σ τ vs [(0, .int a0)] [] 32 := by
      intro   w32_
      have w32_ := h32   w32_
      refine g_iload_n hF d_X14_sixteen_32 rfl 0 rfl ?_
      refine g_bipush hF (v := 65) d_X14_sixteen_33 (by decide) ?_
      refine g_icmp_lt (yv := 65) hF 54 d_X14_sixteen_35 (by decide) rfl (by decide) (fun c => ?_) (fun c => ?_)
      · have w4 := w32_.1 c
        refine g_iconst hF (v := (-1)) d_X14_sixteen_54 (by decide) ?_
        exact g_iret hF rfl d_X14_sixteen_55 ⟨rfl, rfl, rfl, ((-1) : Int32), rfl, w4⟩
      · have w5 := w32_.2 c
        refine g_iload_n hF d_X14_sixteen_38 rfl 0 rfl ?_
        refine g_bipush hF (v := 70) d_X14_sixteen_39 (by decide) ?_
        refine g_icmp_gt (yv := 70) hF 54 d_X14_sixteen_41 (by decide) rfl (by decide) (fun c => ?_) (fun c => ?_)
        · have w6 := w5.1 c
          refine g_iconst hF (v := (-1)) d_X14_sixteen_54 (by decide) ?_
          exact g_iret hF rfl d_X14_sixteen_55 ⟨rfl, rfl, rfl, ((-1) : Int32), rfl, w6⟩
        · have w7 := w5.2 c
          refine g_iload_n hF d_X14_sixteen_44 rfl 0 rfl ?_
          refine g_bipush hF (v := 65) d_X14_sixteen_45 (by decide) ?_
          refine g_isub hF d_X14_sixteen_47 ?_
          refine g_bipush hF (v := 10) d_X14_sixteen_48 (by decide) ?_
          refine g_iadd hF d_X14_sixteen_50 ?_
          refine g_goto hF 55 d_X14_sixteen_51 (by decide) ?_
          exact g_iret hF rfl d_X14_sixteen_55 ⟨rfl, rfl, rfl, ((a0 - (65 : Int32)) + (10 : Int32)), rfl, w7⟩
    refine g_icmp_lt (yv := 97) hF 32 d_X14_sixteen_15 (by decide) rfl (by decide) (fun c => ?_) (fun c => ?_)
    · have w8 := w3.1 c
      exact b32  w8
    · have w9 := w3.2 c
      refine g_iload_n hF d_X14_sixteen_18 rfl 0 rfl ?_
      refine g_bipush hF (v := 102) d_X14_sixteen_19 (by decide) ?_
      refine g_icmp_gt (yv := 102) hF 32 d_X14_sixteen_21 (by decide) rfl (by decide) (fun c => ?_) (fun c => ?_)
      · have w10 := w9.1 c
        exact b32  w10
      · have w11 := w9.2 c
        refine g_iload_n hF d_X14_sixteen_24 rfl 0 rfl ?_
        refine g_bipush hF (v := 97) d_X14_sixteen_25 (by decide) ?_
        refine g_isub hF d_X14_sixteen_27 ?_
        refine g_bipush hF (v := 10) d_X14_sixteen_28 (by decide) ?_
        refine g_iadd hF d_X14_sixteen_30 ?_
        exact g_iret hF rfl d_X14_sixteen_31 ⟨rfl, rfl, rfl, ((a0 - (97 : Int32)) + (10 : Int32)), rfl, w11⟩
  · have w12 := w1.2 c
    refine g_iload_n hF d_X14_sixteen_7 rfl 0 rfl ?_
    refine g_bipush hF (v := 48) d_X14_sixteen_8 (by decide) ?_
    refine g_isub hF d_X14_sixteen_10 ?_
    exact g_iret hF rfl d_X14_sixteen_11 ⟨rfl, rfl, rfl, (a0 - (48 : Int32)), rfl, w12⟩
def wp_code (a1 : Int32) (a2 : Int32) (σ τ : St) (vs : List Nat) (Q : Int32 → Prop) : Prop :=
  wp_look a1 σ τ vs (fun v2 => (v2.toInt ≠ 92 → (v2.toInt < 32 → Q ((-1) : Int32)) ∧ (32 ≤ v2.toInt → (126 < v2.toInt → Q ((-1) : Int32)) ∧ (v2.toInt ≤ 126 → (v2.toInt = a2.toInt → Q ((-1) : Int32)) ∧ (v2.toInt ≠ a2.toInt → Q v2)))) ∧ (v2.toInt = 92 → wp_look (a1 + (1 : Int32)) σ τ vs (fun v16 => (v16.toInt ≠ 110 → (v16.toInt ≠ 48 → (v16.toInt = 92 → Q v16) ∧ (v16.toInt ≠ 92 → (v16.toInt = 39 → Q v16) ∧ (v16.toInt ≠ 39 → (v16.toInt ≠ 34 → Q ((-1) : Int32)) ∧ (v16.toInt = 34 → Q v16)))) ∧ (v16.toInt = 48 → Q (0 : Int32))) ∧ (v16.toInt = 110 → Q (10 : Int32)))))
set_option maxHeartbeats 4000000 in
set_option maxRecDepth 100000 in
theorem ct_code (a : Nat → Nat) (r : Nat → Nat) {a1 : Int32} {a2 : Int32} {σ τ : St} {vs : List Nat} {Q : Int32 → Prop} (hcap : vs.length ≤ CAP) (w : wp_code a1 a2 σ τ vs Q) (l : Launch) (D : va_G) (cy : Nat → ClassId) : Ct l D cy SM r (EM a) y_X14_code (Cond.code y_X14_code b_X14_code 5 (some .int)) 1 [.ref (r 0), .int a1, .int a2] σ τ vs (QIr σ τ vs Q) QT0 := by
  unfold wp_code at w
  refine Ct_of (EM_ok a) (by decide) (Nat.le_of_ble_eq_true rfl) hcap (fun X hnn hF => ?_)
  show G SM r X σ τ vs [(0, .ref (r 0)), (1, .int a1), (2, .int a2)] [] 0
  refine g_aload_n hF d_X14_code_0 rfl 0 rfl ?_
  refine g_iload_n hF d_X14_code_1 rfl 1 rfl ?_
  refine g_callV (As := [.int a1]) (rest := []) hF (fun l D cy => (ct_look a r hcap w) l D cy) (Nat.le_of_ble_eq_true rfl) mV_X14_look m_2187 (recv_ob obM_0) rfl rfl (Nat.le_of_ble_eq_true rfl) d_X14_code_2 (krI (fun v2 w1 => ?_)) (fun _ _ _ h => h.elim)
  refine g_istore_n hF [(3, .int v2), (0, .ref (r 0)), (1, .int a1), (2, .int a2)] d_X14_code_5 rfl hnn (by decide) rfl ?_
  refine g_iload_n hF d_X14_code_6 rfl 0 rfl ?_
  refine g_bipush hF (v := 92) d_X14_code_7 (by decide) ?_
  refine g_icmp_ne (yv := 92) hF 72 d_X14_code_9 (by decide) rfl (by decide) (fun c => ?_) (fun c => ?_)
  · have w2 := w1.1 c
    refine g_iload_n hF d_X14_code_72 rfl 0 rfl ?_
    refine g_bipush hF (v := 32) d_X14_code_73 (by decide) ?_
    refine g_icmp_lt (yv := 32) hF 93 d_X14_code_75 (by decide) rfl (by decide) (fun c => ?_) (fun c => ?_)
    · have w3 := w2.1 c
      refine g_iconst hF (v := (-1)) d_X14_code_93 (by decide) ?_
      exact g_iret hF rfl d_X14_code_94 ⟨rfl, rfl, rfl, ((-1) : Int32), rfl, w3⟩
    · have w4 := w2.2 c
      refine g_iload_n hF d_X14_code_78 rfl 0 rfl ?_
      refine g_bipush hF (v := 126) d_X14_code_79 (by decide) ?_
      refine g_icmp_gt (yv := 126) hF 93 d_X14_code_81 (by decide) rfl (by decide) (fun c => ?_) (fun c => ?_)
      · have w5 := w4.1 c
        refine g_iconst hF (v := (-1)) d_X14_code_93 (by decide) ?_
        exact g_iret hF rfl d_X14_code_94 ⟨rfl, rfl, rfl, ((-1) : Int32), rfl, w5⟩
      · have w6 := w4.2 c
        refine g_iload_n hF d_X14_code_84 rfl 0 rfl ?_
        refine g_iload_n hF d_X14_code_85 rfl 3 rfl ?_
        refine g_icmp_eq hF 93 d_X14_code_86 (by decide) rfl rfl (fun c => ?_) (fun c => ?_)
        · have w7 := w6.1 c
          refine g_iconst hF (v := (-1)) d_X14_code_93 (by decide) ?_
          exact g_iret hF rfl d_X14_code_94 ⟨rfl, rfl, rfl, ((-1) : Int32), rfl, w7⟩
        · have w8 := w6.2 c
          refine g_iload_n hF d_X14_code_89 rfl 0 rfl ?_
          refine g_goto hF 94 d_X14_code_90 (by decide) ?_
          exact g_iret hF rfl d_X14_code_94 ⟨rfl, rfl, rfl, v2, rfl, w8⟩
  · have w9 := w1.2 c
    refine g_aload_n hF d_X14_code_12 rfl 1 rfl ?_
    refine g_iload_n hF d_X14_code_13 rfl 2 rfl ?_
    refine g_iconst hF (v := 1) d_X14_code_14 (by decide) ?_
    refine g_iadd hF d_X14_code_15 ?_
    refine g_callV (As := [.int (a1 + (1 : Int32))]) (rest := []) hF (fun l D cy => (ct_look a r hcap w9) l D cy) (Nat.le_of_ble_eq_true rfl) mV_X14_look m_2187 (recv_ob obM_0) rfl rfl (Nat.le_of_ble_eq_true rfl) d_X14_code_16 (krI (fun v16 w10 => ?_)) (fun _ _ _ h => h.elim)
    refine g_istore hF [(4, .int v16), (3, .int v2), (0, .ref (r 0)), (1, .int a1), (2, .int a2)] d_X14_code_19 hnn (by decide) rfl ?_
    refine g_iload hF d_X14_code_21 0 rfl ?_
    refine g_bipush hF (v := 110) d_X14_code_23 (by decide) ?_
    refine g_icmp_ne (yv := 110) hF 33 d_X14_code_25 (by decide) rfl (by decide) (fun c => ?_) (fun c => ?_)
    · have w11 := w10.1 c
      refine g_iload hF d_X14_code_33 0 rfl ?_
      refine g_bipush hF (v := 48) d_X14_code_35 (by decide) ?_
      refine g_icmp_ne (yv := 48) hF 44 d_X14_code_37 (by decide) rfl (by decide) (fun c => ?_) (fun c => ?_)
      · have w12 := w11.1 c
        refine g_iload hF d_X14_code_44 0 rfl ?_
        refine g_bipush hF (v := 92) d_X14_code_46 (by decide) ?_
        refine g_icmp_eq (yv := 92) hF 65 d_X14_code_48 (by decide) rfl (by decide) (fun c => ?_) (fun c => ?_)
        · have w13 := w12.1 c
          refine g_iload hF d_X14_code_65 0 rfl ?_
          refine g_goto hF 71 d_X14_code_67 (by decide) ?_
          exact g_iret hF rfl d_X14_code_71 ⟨rfl, rfl, rfl, v16, rfl, w13⟩
        · have w14 := w12.2 c
          refine g_iload hF d_X14_code_51 0 rfl ?_
          refine g_bipush hF (v := 39) d_X14_code_53 (by decide) ?_
          refine g_icmp_eq (yv := 39) hF 65 d_X14_code_55 (by decide) rfl (by decide) (fun c => ?_) (fun c => ?_)
          · have w15 := w14.1 c
            refine g_iload hF d_X14_code_65 0 rfl ?_
            refine g_goto hF 71 d_X14_code_67 (by decide) ?_
            exact g_iret hF rfl d_X14_code_71 ⟨rfl, rfl, rfl, v16, rfl, w15⟩
          · have w16 := w14.2 c
            refine g_iload hF d_X14_code_58 0 rfl ?_
            refine g_bipush hF (v := 34) d_X14_code_60 (by decide) ?_
            refine g_icmp_ne (yv := 34) hF 70 d_X14_code_62 (by decide) rfl (by decide) (fun c => ?_) (fun c => ?_)
            · have w17 := w16.1 c
              refine g_iconst hF (v := (-1)) d_X14_code_70 (by decide) ?_
              exact g_iret hF rfl d_X14_code_71 ⟨rfl, rfl, rfl, ((-1) : Int32), rfl, w17⟩
            · have w18 := w16.2 c
              refine g_iload hF d_X14_code_65 0 rfl ?_
              refine g_goto hF 71 d_X14_code_67 (by decide) ?_
              exact g_iret hF rfl d_X14_code_71 ⟨rfl, rfl, rfl, v16, rfl, w18⟩
      · have w19 := w11.2 c
        refine g_iconst hF (v := 0) d_X14_code_40 (by decide) ?_
        refine g_goto hF 71 d_X14_code_41 (by decide) ?_
        exact g_iret hF rfl d_X14_code_71 ⟨rfl, rfl, rfl, (0 : Int32), rfl, w19⟩
    · have w20 := w10.2 c
      refine g_bipush hF (v := 10) d_X14_code_28 (by decide) ?_
      refine g_goto hF 71 d_X14_code_30 (by decide) ?_
      exact g_iret hF rfl d_X14_code_71 ⟨rfl, rfl, rfl, (10 : Int32), rfl, w20⟩
def wp_stringEnd (a1 : Int32) (a2 : Int32) (σ τ : St) (vs : List Nat) (Q : Int32 → St → St → List Nat → Prop) : Prop :=
  ∃ L7 : Nat → Int32 → Int32 → Prop, (∃ n, L7 n (a1 + (1 : Int32)) (0 : Int32)) ∧ ∀ (n7 : Nat) (x3_7 : Int32) (x4_7 : Int32), L7 n7 x3_7 x4_7 → (wp_look x3_7 σ τ vs (fun v9 => (v9.toInt = 34 → wp_token (4 : Int32) a1 (x3_7 + (1 : Int32)) a2 x4_7 σ τ vs (fun s74 t74 z74 => Q (x3_7 + (1 : Int32)) s74 t74 z74)) ∧ (v9.toInt ≠ 34 → wp_code x3_7 (34 : Int32) σ τ vs (fun v21 => (∃ J35 : Prop, (J35  → (wp_bad a1 σ τ vs (fun v37 s37 t37 z37 => Q v37 s37 t37 z37))) ∧ (v21.toInt < 0 → J35) ∧ (0 ≤ v21.toInt → (x4_7.toInt ≠ 200 → wp_look x3_7 σ τ vs (fun v44 => (∃ J57 : Int32 → Prop, (∀ (y1_57 : Int32), J57 y1_57 → (∃ m, m < n7 ∧ L7 m (x3_7 + y1_57) (x4_7 + 1))) ∧ (v44.toInt ≠ 92 → J57 (1 : Int32)) ∧ (v44.toInt = 92 → J57 (2 : Int32))))) ∧ (x4_7.toInt = 200 → J35)))))))
set_option maxHeartbeats 4000000 in
set_option maxRecDepth 100000 in
theorem ct_stringEnd (a : Nat → Nat) (r : Nat → Nat) {a1 : Int32} {a2 : Int32} {σ τ : St} {vs : List Nat} {Q : Int32 → St → St → List Nat → Prop} (hcap : vs.length ≤ CAP) (w : wp_stringEnd a1 a2 σ τ vs Q) (l : Launch) (D : va_G) (cy : Nat → ClassId) : Ct l D cy SM r (EM a) y_X14_stringEnd (Cond.code y_X14_stringEnd b_X14_stringEnd 5 (some .int)) 2 [.ref (r 0), .int a1, .int a2] σ τ vs (QIs Q) QT0 := by
  unfold wp_stringEnd at w
  refine Ct_of (EM_ok a) (by decide) (Nat.le_of_ble_eq_true rfl) hcap (fun X hnn hF => ?_)
  show G SM r X σ τ vs [(0, .ref (r 0)), (1, .int a1), (2, .int a2)] [] 0
  refine g_iload_n hF d_X14_stringEnd_0 rfl 1 rfl ?_
  refine g_iconst hF (v := 1) d_X14_stringEnd_1 (by decide) ?_
  refine g_iadd hF d_X14_stringEnd_2 ?_
  refine g_istore_n hF [(3, .int (a1 + (1 : Int32))), (0, .ref (r 0)), (1, .int a1), (2, .int a2)] d_X14_stringEnd_3 rfl hnn (by decide) rfl ?_
  refine g_iconst hF (v := 0) d_X14_stringEnd_4 (by decide) ?_
  refine g_istore hF [(4, .int 0), (3, .int (a1 + (1 : Int32))), (0, .ref (r 0)), (1, .int a1), (2, .int a2)] d_X14_stringEnd_5 hnn (by decide) rfl ?_
  obtain ⟨L7, ⟨i7, u7⟩, h7⟩ := w
  have b7 : ∀ (n7 : Nat) (x3_7 : Int32) (x4_7 : Int32), L7 n7 x3_7 x4_7 → G SM r X σ τ vs [(0, .ref (r 0)), (1, .int a1), (2, .int a2), (3, .int x3_7), (4, .int x4_7)] [] 7 := by
    intro n7
    induction n7 using Nat.strongRecOn with
    | _ n7 ih7 =>
      intro x3_7 x4_7  w7_
      have w7_ := h7 n7 x3_7 x4_7  w7_
      refine g_aload_n hF d_X14_stringEnd_7 rfl 0 rfl ?_
      refine g_iload_n hF d_X14_stringEnd_8 rfl 3 rfl ?_
      refine g_callV (As := [.int x3_7]) (rest := []) hF (fun l D cy => (ct_look a r hcap w7_) l D cy) (Nat.le_of_ble_eq_true rfl) mV_X14_look m_2187 (recv_ob obM_0) rfl rfl (Nat.le_of_ble_eq_true rfl) d_X14_stringEnd_9 (krI (fun v9 w1 => ?_)) (fun _ _ _ h => h.elim)
      refine g_bipush hF (v := 34) d_X14_stringEnd_12 (by decide) ?_
      refine g_icmp_eq (yv := 34) hF 65 d_X14_stringEnd_14 (by decide) rfl (by decide) (fun c => ?_) (fun c => ?_)
      · have w2 := w1.1 c
        refine g_aload_n hF d_X14_stringEnd_65 rfl 0 rfl ?_
        refine g_iconst hF (v := 4) d_X14_stringEnd_66 (by decide) ?_
        refine g_iload_n hF d_X14_stringEnd_67 rfl 1 rfl ?_
        refine g_iload_n hF d_X14_stringEnd_68 rfl 3 rfl ?_
        refine g_iconst hF (v := 1) d_X14_stringEnd_69 (by decide) ?_
        refine g_iadd hF d_X14_stringEnd_70 ?_
        refine g_iload_n hF d_X14_stringEnd_71 rfl 2 rfl ?_
        refine g_iload hF d_X14_stringEnd_72 4 rfl ?_
        refine g_callV (As := [.int 4, .int a1, .int (x3_7 + (1 : Int32)), .int a2, .int x4_7]) (rest := []) hF (fun l D cy => (ct_token a r hcap w2) l D cy) (Nat.le_of_ble_eq_true rfl) mV_X14_token m_2194 (recv_ob obM_0) rfl rfl (Nat.le_of_ble_eq_true rfl) d_X14_stringEnd_74 (kV (fun s74 t74 z74 w3 => ?_)) (fun _ _ _ h => h.elim)
        refine g_iload_n hF d_X14_stringEnd_77 rfl 3 rfl ?_
        refine g_iconst hF (v := 1) d_X14_stringEnd_78 (by decide) ?_
        refine g_iadd hF d_X14_stringEnd_79 ?_
        exact g_iret hF rfl d_X14_stringEnd_80 ⟨(x3_7 + (1 : Int32)), rfl, w3⟩
      · have w4 := w1.2 c
        refine g_aload_n hF d_X14_stringEnd_17 rfl 0 rfl ?_
        refine g_iload_n hF d_X14_stringEnd_18 rfl 3 rfl ?_
        refine g_bipush hF (v := 34) d_X14_stringEnd_19 (by decide) ?_
        refine g_callV (As := [.int x3_7, .int 34]) (rest := []) hF (fun l D cy => (ct_code a r hcap w4) l D cy) (Nat.le_of_ble_eq_true rfl) mV_X14_code m_2248 (recv_ob obM_0) rfl rfl (Nat.le_of_ble_eq_true rfl) d_X14_stringEnd_21 (krI (fun v21 w5 => ?_)) (fun _ _ _ h => h.elim)
        obtain ⟨J35, h35, w6⟩ := w5
        have b35 : J35  → G SM r X σ τ vs [(0, .ref (r 0)), (1, .int a1)] [] 35 := by
          intro   w35_
          have w35_ := h35   w35_
          refine g_aload_n hF d_X14_stringEnd_35 rfl 0 rfl ?_
          refine g_iload_n hF d_X14_stringEnd_36 rfl 1 rfl ?_
          refine g_callV (As := [.int a1]) (rest := []) hF (fun l D cy => (ct_bad a r hcap w35_) l D cy) (Nat.le_of_ble_eq_true rfl) mV_X14_bad m_2202 (recv_ob obM_0) rfl rfl (Nat.le_of_ble_eq_true rfl) d_X14_stringEnd_37 (kI (fun v37 s37 t37 z37 w7 => ?_)) (fun _ _ _ h => h.elim)
          exact g_iret hF rfl d_X14_stringEnd_40 ⟨v37, rfl, w7⟩
        refine g_if_lt hF 35 d_X14_stringEnd_24 (by decide) rfl (fun c => ?_) (fun c => ?_)
        · have w8 := w6.1 c
          exact g_sub (L' := [(0, .ref (r 0)), (1, .int a1)]) [0, 1] rfl (b35  w8)
        · have w9 := w6.2 c
          refine g_iload hF d_X14_stringEnd_27 4 rfl ?_
          refine g_sipush hF (v := 200) d_X14_stringEnd_29 (by decide) ?_
          refine g_icmp_ne (yv := 200) hF 41 d_X14_stringEnd_32 (by decide) rfl (by decide) (fun c => ?_) (fun c => ?_)
          · have w10 := w9.1 c
            refine g_iload_n hF d_X14_stringEnd_41 rfl 3 rfl ?_
            refine g_aload_n hF d_X14_stringEnd_42 rfl 0 rfl ?_
            refine g_iload_n hF d_X14_stringEnd_43 rfl 3 rfl ?_
            refine g_callV (As := [.int x3_7]) (rest := [.int x3_7]) hF (fun l D cy => (ct_look a r hcap w10) l D cy) (Nat.le_of_ble_eq_true rfl) mV_X14_look m_2187 (recv_ob obM_0) rfl rfl (Nat.le_of_ble_eq_true rfl) d_X14_stringEnd_44 (krI (fun v44 w11 => ?_)) (fun _ _ _ h => h.elim)
            refine g_bipush hF (v := 92) d_X14_stringEnd_47 (by decide) ?_
            obtain ⟨J57, h57, w12⟩ := w11
            have b57 : ∀ (y1_57 : Int32), J57 y1_57 → G SM r X σ τ vs [(0, .ref (r 0)), (1, .int a1), (2, .int a2), (4, .int x4_7)] [.int y1_57, .int x3_7] 57 := by
              intro y1_57  w57_
              have w57_ := h57 y1_57  w57_
              refine g_iadd hF d_X14_stringEnd_57 ?_
              refine g_istore_n hF [(3, .int (x3_7 + y1_57)), (0, .ref (r 0)), (1, .int a1), (2, .int a2), (4, .int x4_7)] d_X14_stringEnd_58 rfl hnn (by decide) rfl ?_
              refine g_iinc hF (x4_7 + 1) [(4, .int (x4_7 + 1)), (3, .int (x3_7 + y1_57)), (0, .ref (r 0)), (1, .int a1), (2, .int a2)] d_X14_stringEnd_59 4 rfl rfl hnn (by decide) rfl ?_
              refine g_goto hF 7 d_X14_stringEnd_62 (by decide) ?_
              obtain ⟨m7, hm7, w9⟩ := w57_
              exact g_sub (L' := [(0, .ref (r 0)), (1, .int a1), (2, .int a2), (3, .int (x3_7 + y1_57)), (4, .int (x4_7 + 1))]) [2, 3, 4, 1, 0] rfl (ih7 m7 hm7 (x3_7 + y1_57) (x4_7 + 1) w9)
            refine g_icmp_ne (yv := 92) hF 56 d_X14_stringEnd_49 (by decide) rfl (by decide) (fun c => ?_) (fun c => ?_)
            · have w13 := w12.1 c
              refine g_iconst hF (v := 1) d_X14_stringEnd_56 (by decide) ?_
              exact g_sub (L' := [(0, .ref (r 0)), (1, .int a1), (2, .int a2), (4, .int x4_7)]) [0, 1, 2, 4] rfl (b57 (1 : Int32) w13)
            · have w14 := w12.2 c
              refine g_iconst hF (v := 2) d_X14_stringEnd_52 (by decide) ?_
              refine g_goto hF 57 d_X14_stringEnd_53 (by decide) ?_
              exact g_sub (L' := [(0, .ref (r 0)), (1, .int a1), (2, .int a2), (4, .int x4_7)]) [0, 1, 2, 4] rfl (b57 (2 : Int32) w14)
          · have w15 := w9.2 c
            exact g_sub (L' := [(0, .ref (r 0)), (1, .int a1)]) [0, 1] rfl (b35  w15)
  exact g_sub (L' := [(0, .ref (r 0)), (1, .int a1), (2, .int a2), (3, .int (a1 + (1 : Int32))), (4, .int 0)]) [2, 3, 4, 1, 0] rfl (b7 i7 (a1 + (1 : Int32)) (0 : Int32) u7)
def wp_signEnd (a1 : Int32) (a2 : Int32) (σ τ : St) (vs : List Nat) (Q : Int32 → St → St → List Nat → Prop) : Prop :=
  ∃ L2 : Nat → Int32 → Prop, (∃ n, L2 n (3 : Int32)) ∧ ∀ (n2 : Nat) (x3_2 : Int32), L2 n2 x3_2 → ((x3_2.toInt ≤ 0 → wp_bad a1 σ τ vs (fun v68 s68 t68 z68 => Q v68 s68 t68 z68)) ∧ (0 < x3_2.toInt → (∃ J31 : Int32 → Prop, (∀ (y0_31 : Int32), J31 y0_31 → ((0 ≤ y0_31.toInt → wp_token ((32 : Int32) + y0_31) a1 (a1 + x3_2) a2 (0 : Int32) σ τ vs (fun s53 t53 z53 => Q (a1 + x3_2) s53 t53 z53)) ∧ (y0_31.toInt < 0 → ∃ m, m < n2 ∧ L2 m (x3_2 + (-1))))) ∧ ((σ 0 9).toInt < (a1 + x3_2).toInt → J31 ((-1) : Int32)) ∧ ((a1 + x3_2).toInt ≤ (σ 0 9).toInt → wp_among a1 (a1 + x3_2) 1 σ τ vs (fun v24 => J31 v24)))))
set_option maxHeartbeats 4000000 in
set_option maxRecDepth 100000 in
theorem ct_signEnd (a : Nat → Nat) (r : Nat → Nat) {a1 : Int32} {a2 : Int32} {σ τ : St} {vs : List Nat} {Q : Int32 → St → St → List Nat → Prop} (hcap : vs.length ≤ CAP) (w : wp_signEnd a1 a2 σ τ vs Q) (l : Launch) (D : va_G) (cy : Nat → ClassId) : Ct l D cy SM r (EM a) y_X14_signEnd (Cond.code y_X14_signEnd b_X14_signEnd 5 (some .int)) 5 [.ref (r 0), .int a1, .int a2] σ τ vs (QIs Q) QT0 := by
  unfold wp_signEnd at w
  refine Ct_of (EM_ok a) (by decide) (Nat.le_of_ble_eq_true rfl) hcap (fun X hnn hF => ?_)
  show G SM r X σ τ vs [(0, .ref (r 0)), (1, .int a1), (2, .int a2)] [] 0
  refine g_iconst hF (v := 3) d_X14_signEnd_0 (by decide) ?_
  refine g_istore_n hF [(3, .int 3), (0, .ref (r 0)), (1, .int a1), (2, .int a2)] d_X14_signEnd_1 rfl hnn (by decide) rfl ?_
  obtain ⟨L2, ⟨i2, u2⟩, h2⟩ := w
  have b2 : ∀ (n2 : Nat) (x3_2 : Int32), L2 n2 x3_2 → G SM r X σ τ vs [(0, .ref (r 0)), (1, .int a1), (2, .int a2), (3, .int x3_2)] [] 2 := by
    intro n2
    induction n2 using Nat.strongRecOn with
    | _ n2 ih2 =>
      intro x3_2  w2_
      have w2_ := h2 n2 x3_2  w2_
      refine g_iload_n hF d_X14_signEnd_2 rfl 3 rfl ?_
      refine g_if_le hF 66 d_X14_signEnd_3 (by decide) rfl (fun c => ?_) (fun c => ?_)
      · have w1 := w2_.1 c
        refine g_aload_n hF d_X14_signEnd_66 rfl 0 rfl ?_
        refine g_iload_n hF d_X14_signEnd_67 rfl 1 rfl ?_
        refine g_callV (As := [.int a1]) (rest := []) hF (fun l D cy => (ct_bad a r hcap w1) l D cy) (Nat.le_of_ble_eq_true rfl) mV_X14_bad m_2202 (recv_ob obM_0) rfl rfl (Nat.le_of_ble_eq_true rfl) d_X14_signEnd_68 (kI (fun v68 s68 t68 z68 w2 => ?_)) (fun _ _ _ h => h.elim)
        exact g_iret hF rfl d_X14_signEnd_71 ⟨v68, rfl, w2⟩
      · have w3 := w2_.2 c
        refine g_iload_n hF d_X14_signEnd_6 rfl 1 rfl ?_
        refine g_iload_n hF d_X14_signEnd_7 rfl 3 rfl ?_
        refine g_iadd hF d_X14_signEnd_8 ?_
        refine g_aload_n hF d_X14_signEnd_9 rfl 0 rfl ?_
        refine g_get (v := .int (σ 0 9)) hF 9 obM_0 (by decide) m_1874 rfl d_X14_signEnd_10 ?_
        obtain ⟨J31, h31, w4⟩ := w3
        have b31 : ∀ (y0_31 : Int32), J31 y0_31 → G SM r X σ τ vs [(0, .ref (r 0)), (1, .int a1), (2, .int a2), (3, .int x3_2)] [.int y0_31] 31 := by
          intro y0_31  w31_
          have w31_ := h31 y0_31  w31_
          refine g_istore hF [(4, .int y0_31), (0, .ref (r 0)), (1, .int a1), (2, .int a2), (3, .int x3_2)] d_X14_signEnd_31 hnn (by decide) rfl ?_
          refine g_iload hF d_X14_signEnd_33 0 rfl ?_
          refine g_if_ge hF 41 d_X14_signEnd_35 (by decide) rfl (fun c => ?_) (fun c => ?_)
          · have w5 := w31_.1 c
            refine g_aload_n hF d_X14_signEnd_41 rfl 1 rfl ?_
            refine g_bipush hF (v := 32) d_X14_signEnd_42 (by decide) ?_
            refine g_iload hF d_X14_signEnd_44 0 rfl ?_
            refine g_iadd hF d_X14_signEnd_46 ?_
            refine g_iload_n hF d_X14_signEnd_47 rfl 2 rfl ?_
            refine g_iload_n hF d_X14_signEnd_48 rfl 2 rfl ?_
            refine g_iload_n hF d_X14_signEnd_49 rfl 4 rfl ?_
            refine g_iadd hF d_X14_signEnd_50 ?_
            refine g_iload_n hF d_X14_signEnd_51 rfl 3 rfl ?_
            refine g_iconst hF (v := 0) d_X14_signEnd_52 (by decide) ?_
            refine g_callV (As := [.int ((32 : Int32) + y0_31), .int a1, .int (a1 + x3_2), .int a2, .int 0]) (rest := []) hF (fun l D cy => (ct_token a r hcap w5) l D cy) (Nat.le_of_ble_eq_true rfl) mV_X14_token m_2194 (recv_ob obM_0) rfl rfl (Nat.le_of_ble_eq_true rfl) d_X14_signEnd_53 (kV (fun s53 t53 z53 w6 => ?_)) (fun _ _ _ h => h.elim)
            refine g_iload_n hF d_X14_signEnd_56 rfl 2 rfl ?_
            refine g_iload_n hF d_X14_signEnd_57 rfl 4 rfl ?_
            refine g_iadd hF d_X14_signEnd_58 ?_
            exact g_iret hF rfl d_X14_signEnd_59 ⟨(a1 + x3_2), rfl, w6⟩
          · have w7 := w31_.2 c
            refine g_goto hF 60 d_X14_signEnd_38 (by decide) ?_
            refine g_iinc hF (x3_2 + (-1)) [(3, .int (x3_2 + (-1))), (4, .int y0_31), (0, .ref (r 0)), (1, .int a1), (2, .int a2)] d_X14_signEnd_60 4 rfl rfl hnn (by decide) rfl ?_
            refine g_goto hF 2 d_X14_signEnd_63 (by decide) ?_
            obtain ⟨m2, hm2, w9⟩ := w7
            exact g_sub (L' := [(0, .ref (r 0)), (1, .int a1), (2, .int a2), (3, .int (x3_2 + (-1)))]) [2, 3, 4, 0] rfl (ih2 m2 hm2 (x3_2 + (-1)) w9)
        refine g_icmp_gt hF 30 d_X14_signEnd_13 (by decide) rfl rfl (fun c => ?_) (fun c => ?_)
        · have w8 := w4.1 c
          refine g_iconst hF (v := (-1)) d_X14_signEnd_30 (by decide) ?_
          exact b31 ((-1) : Int32) w8
        · have w9 := w4.2 c
          refine g_aload_n hF d_X14_signEnd_16 rfl 0 rfl ?_
          refine g_iload_n hF d_X14_signEnd_17 rfl 1 rfl ?_
          refine g_iload_n hF d_X14_signEnd_18 rfl 1 rfl ?_
          refine g_iload_n hF d_X14_signEnd_19 rfl 3 rfl ?_
          refine g_iadd hF d_X14_signEnd_20 ?_
          refine g_ldcSw hF (fun A s h => (EM_s (j := 1) h (by decide)).1) d_X14_signEnd_21 ?_
          refine g_callV (As := [.int a1, .int (a1 + x3_2), .ref (a (2 * 1))]) (rest := []) hF (fun l D cy => (ct_among a r hcap (by decide) w9) l D cy) (Nat.le_of_ble_eq_true rfl) mV_X14_among m_2228 (recv_ob obM_0) rfl rfl (Nat.le_of_ble_eq_true rfl) d_X14_signEnd_24 (krI (fun v24 w10 => ?_)) (fun _ _ _ h => h.elim)
          refine g_goto hF 31 d_X14_signEnd_27 (by decide) ?_
          exact b31 v24 w10
  exact g_sub (L' := [(0, .ref (r 0)), (1, .int a1), (2, .int a2), (3, .int 3)]) [1, 2, 3, 0] rfl (b2 i2 (3 : Int32) u2)
def wp_wrongAt (a1 : Int32) (σ τ : St) (vs : List Nat) (Q : St → St → List Nat → Prop) : Prop :=
  ((0 ≤ a1.toInt ∧ a1.toInt < 16002) ∧ Q (upC σ 0 14 (σ 3 a1.toNatClampNeg)) τ vs)
set_option maxHeartbeats 4000000 in
set_option maxRecDepth 100000 in
theorem ct_wrongAt (a : Nat → Nat) (r : Nat → Nat) {a1 : Int32} {σ τ : St} {vs : List Nat} {Q : St → St → List Nat → Prop} (hcap : vs.length ≤ CAP) (w : wp_wrongAt a1 σ τ vs Q) (l : Launch) (D : va_G) (cy : Nat → ClassId) : Ct l D cy SM r (EM a) y_X14_wrongAt (Cond.code y_X14_wrongAt b_X14_wrongAt 2 (some (.object "java/lang/IllegalStateException"))) 0 [.ref (r 0), .int a1] σ τ vs (QXs r Q) QT0 := by
  unfold wp_wrongAt at w
  refine Ct_of (EM_ok a) (by decide) (Nat.le_of_ble_eq_true rfl) hcap (fun X hnn hF => ?_)
  show G SM r X σ τ vs [(0, .ref (r 0)), (1, .int a1)] [] 0
  refine g_aload_n hF d_X14_wrongAt_0 rfl 0 rfl ?_
  refine g_aload_n hF d_X14_wrongAt_1 rfl 0 rfl ?_
  refine g_get (v := .ref (r 3)) hF 4 obM_0 (by decide) m_1869 rfl d_X14_wrongAt_2 ?_
  refine g_iload_n hF d_X14_wrongAt_5 rfl 1 rfl ?_
  have w1 := w.2
  refine g_iald hF arM_3 (s_in (Nat.le_of_ble_eq_true rfl) w.1.1 w.1.2) d_X14_wrongAt_6 ?_
  refine g_top (v := (σ 3 a1.toNatClampNeg)) rfl ?_
  refine g_put (v := (σ 3 a1.toNatClampNeg)) hF 14 obM_0 (by decide) m_1879 rfl rfl rfl d_X14_wrongAt_7 ?_
  refine g_aload_n hF d_X14_wrongAt_10 rfl 0 rfl ?_
  refine g_get (v := .ref (r 7)) hF 11 obM_0 (by decide) m_1876 rfl d_X14_wrongAt_11 ?_
  exact g_aret hF rfl d_X14_wrongAt_14 ⟨rfl, w1⟩
def wp_isWord (a1 : Int32) (σ τ : St) (vs : List Nat) (Q : Int32 → Prop) : Prop :=
  ((0 ≤ (σ 0 10).toInt ∧ (σ 0 10).toInt < 16002) ∧ ((σ 2 (σ 0 10).toNatClampNeg).toInt ≠ a1.toInt → Q (0 : Int32)) ∧ ((σ 2 (σ 0 10).toNatClampNeg).toInt = a1.toInt → Q (1 : Int32)))
set_option maxHeartbeats 4000000 in
set_option maxRecDepth 100000 in
theorem ct_isWord (a : Nat → Nat) (r : Nat → Nat) {a1 : Int32} {σ τ : St} {vs : List Nat} {Q : Int32 → Prop} (hcap : vs.length ≤ CAP) (w : wp_isWord a1 σ τ vs Q) (l : Launch) (D : va_G) (cy : Nat → ClassId) : Ct l D cy SM r (EM a) y_X14_isWord (Cond.code y_X14_isWord b_X14_isWord 2 (some .boolean)) 0 [.ref (r 0), .int a1] σ τ vs (QZr σ τ vs Q) QT0 := by
  unfold wp_isWord at w
  refine Ct_of (EM_ok a) (by decide) (Nat.le_of_ble_eq_true rfl) hcap (fun X hnn hF => ?_)
  show G SM r X σ τ vs [(0, .ref (r 0)), (1, .int a1)] [] 0
  refine g_aload_n hF d_X14_isWord_0 rfl 0 rfl ?_
  refine g_get (v := .ref (r 2)) hF 3 obM_0 (by decide) m_1868 rfl d_X14_isWord_1 ?_
  refine g_aload_n hF d_X14_isWord_4 rfl 0 rfl ?_
  refine g_get (v := .int (σ 0 10)) hF 10 obM_0 (by decide) m_1875 rfl d_X14_isWord_5 ?_
  have w1 := w.2
  refine g_iald hF arM_2 (s_in (Nat.le_of_ble_eq_true rfl) w.1.1 w.1.2) d_X14_isWord_8 ?_
  refine g_top (v := (σ 2 (σ 0 10).toNatClampNeg)) rfl ?_
  refine g_iload_n hF d_X14_isWord_9 rfl 1 rfl ?_
  refine g_icmp_ne hF 17 d_X14_isWord_10 (by decide) rfl rfl (fun c => ?_) (fun c => ?_)
  · have w2 := w1.1 c
    refine g_iconst hF (v := 0) d_X14_isWord_17 (by decide) ?_
    exact g_zret hF rfl (k_nz (Or.inl rfl)) d_X14_isWord_18 ⟨rfl, rfl, rfl, (0 : Int32), rfl, (Or.inl rfl), w2⟩
  · have w3 := w1.2 c
    refine g_iconst hF (v := 1) d_X14_isWord_13 (by decide) ?_
    refine g_goto hF 18 d_X14_isWord_14 (by decide) ?_
    exact g_zret hF rfl (k_nz (Or.inr rfl)) d_X14_isWord_18 ⟨rfl, rfl, rfl, (1 : Int32), rfl, (Or.inr rfl), w3⟩
def wp_is (a1 : Int32) (σ τ : St) (vs : List Nat) (Q : Int32 → Prop) : Prop :=
  ((0 ≤ (σ 0 10).toInt ∧ (σ 0 10).toInt < 16002) ∧ ((σ 2 (σ 0 10).toNatClampNeg).toInt ≠ ((32 : Int32) + a1).toInt → Q (0 : Int32)) ∧ ((σ 2 (σ 0 10).toNatClampNeg).toInt = ((32 : Int32) + a1).toInt → Q (1 : Int32)))
set_option maxHeartbeats 4000000 in
set_option maxRecDepth 100000 in
theorem ct_is (a : Nat → Nat) (r : Nat → Nat) {a1 : Int32} {σ τ : St} {vs : List Nat} {Q : Int32 → Prop} (hcap : vs.length ≤ CAP) (w : wp_is a1 σ τ vs Q) (l : Launch) (D : va_G) (cy : Nat → ClassId) : Ct l D cy SM r (EM a) y_X14_is (Cond.code y_X14_is b_X14_is 2 (some .boolean)) 0 [.ref (r 0), .int a1] σ τ vs (QZr σ τ vs Q) QT0 := by
  unfold wp_is at w
  refine Ct_of (EM_ok a) (by decide) (Nat.le_of_ble_eq_true rfl) hcap (fun X hnn hF => ?_)
  show G SM r X σ τ vs [(0, .ref (r 0)), (1, .int a1)] [] 0
  refine g_aload_n hF d_X14_is_0 rfl 0 rfl ?_
  refine g_get (v := .ref (r 2)) hF 3 obM_0 (by decide) m_1868 rfl d_X14_is_1 ?_
  refine g_aload_n hF d_X14_is_4 rfl 0 rfl ?_
  refine g_get (v := .int (σ 0 10)) hF 10 obM_0 (by decide) m_1875 rfl d_X14_is_5 ?_
  have w1 := w.2
  refine g_iald hF arM_2 (s_in (Nat.le_of_ble_eq_true rfl) w.1.1 w.1.2) d_X14_is_8 ?_
  refine g_top (v := (σ 2 (σ 0 10).toNatClampNeg)) rfl ?_
  refine g_bipush hF (v := 32) d_X14_is_9 (by decide) ?_
  refine g_iload_n hF d_X14_is_11 rfl 1 rfl ?_
  refine g_iadd hF d_X14_is_12 ?_
  refine g_icmp_ne hF 20 d_X14_is_13 (by decide) rfl rfl (fun c => ?_) (fun c => ?_)
  · have w2 := w1.1 c
    refine g_iconst hF (v := 0) d_X14_is_20 (by decide) ?_
    exact g_zret hF rfl (k_nz (Or.inl rfl)) d_X14_is_21 ⟨rfl, rfl, rfl, (0 : Int32), rfl, (Or.inl rfl), w2⟩
  · have w3 := w1.2 c
    refine g_iconst hF (v := 1) d_X14_is_16 (by decide) ?_
    refine g_goto hF 21 d_X14_is_17 (by decide) ?_
    exact g_zret hF rfl (k_nz (Or.inr rfl)) d_X14_is_21 ⟨rfl, rfl, rfl, (1 : Int32), rfl, (Or.inr rfl), w3⟩
def wp_accept (a1 : Int32) (σ τ : St) (vs : List Nat) (Q : Int32 → St → St → List Nat → Prop) : Prop :=
  wp_is a1 σ τ vs (fun v2 => (v2.toInt ≠ 0 → Q (1 : Int32) (upC σ 0 10 ((σ 0 10) + (1 : Int32))) τ vs) ∧ (v2.toInt = 0 → Q (0 : Int32) σ τ vs))
set_option maxHeartbeats 4000000 in
set_option maxRecDepth 100000 in
theorem ct_accept (a : Nat → Nat) (r : Nat → Nat) {a1 : Int32} {σ τ : St} {vs : List Nat} {Q : Int32 → St → St → List Nat → Prop} (hcap : vs.length ≤ CAP) (w : wp_accept a1 σ τ vs Q) (l : Launch) (D : va_G) (cy : Nat → ClassId) : Ct l D cy SM r (EM a) y_X14_accept (Cond.code y_X14_accept b_X14_accept 2 (some .boolean)) 1 [.ref (r 0), .int a1] σ τ vs (QZs Q) QT0 := by
  unfold wp_accept at w
  refine Ct_of (EM_ok a) (by decide) (Nat.le_of_ble_eq_true rfl) hcap (fun X hnn hF => ?_)
  show G SM r X σ τ vs [(0, .ref (r 0)), (1, .int a1)] [] 0
  refine g_aload_n hF d_X14_accept_0 rfl 0 rfl ?_
  refine g_iload_n hF d_X14_accept_1 rfl 1 rfl ?_
  refine g_callV (As := [.int a1]) (rest := []) hF (fun l D cy => (ct_is a r hcap w) l D cy) (Nat.le_of_ble_eq_true rfl) mV_X14_is m_2289 (recv_ob obM_0) rfl rfl (Nat.le_of_ble_eq_true rfl) d_X14_accept_2 (krZ (fun v2 hz2 w1 => ?_)) (fun _ _ _ h => h.elim)
  refine g_if_ne hF 10 d_X14_accept_5 (by decide) rfl (fun c => ?_) (fun c => ?_)
  · have w2 := w1.1 c
    refine g_aload_n hF d_X14_accept_10 rfl 0 rfl ?_
    refine g_dup hF d_X14_accept_11 rfl ?_
    refine g_get (v := .int (σ 0 10)) hF 10 obM_0 (by decide) m_1875 rfl d_X14_accept_12 ?_
    refine g_iconst hF (v := 1) d_X14_accept_15 (by decide) ?_
    refine g_iadd hF d_X14_accept_16 ?_
    refine g_put (v := ((σ 0 10) + (1 : Int32))) hF 10 obM_0 (by decide) m_1875 rfl rfl rfl d_X14_accept_17 ?_
    refine g_iconst hF (v := 1) d_X14_accept_20 (by decide) ?_
    exact g_zret hF rfl (k_nz (Or.inr rfl)) d_X14_accept_21 ⟨(1 : Int32), rfl, (Or.inr rfl), w2⟩
  · have w3 := w1.2 c
    refine g_iconst hF (v := 0) d_X14_accept_8 (by decide) ?_
    exact g_zret hF rfl (k_nz (Or.inl rfl)) d_X14_accept_9 ⟨(0 : Int32), rfl, (Or.inl rfl), w3⟩
def wp_isNamed (a1 : Int32) (a2 : Int32) (σ τ : St) (vs : List Nat) (Q : Int32 → Prop) : Prop :=
  ((0 ≤ a2.toInt ∧ a2.toInt < 16002) ∧ ((0 ≤ a2.toInt ∧ a2.toInt < 16002) ∧ ((0 ≤ a1.toInt ∧ a1.toInt < 10000) ∧ ((σ 19 a1.toNatClampNeg).toInt = ((σ 4 a2.toNatClampNeg) - (σ 3 a2.toNatClampNeg)).toInt → ∃ L29 : Nat → Int32 → Prop, (∃ n, L29 n (0 : Int32)) ∧ ∀ (n29 : Nat) (x4_29 : Int32), L29 n29 x4_29 → ((((σ 4 a2.toNatClampNeg) - (σ 3 a2.toNatClampNeg)).toInt ≤ x4_29.toInt → Q (1 : Int32)) ∧ (x4_29.toInt < ((σ 4 a2.toNatClampNeg) - (σ 3 a2.toNatClampNeg)).toInt → ((0 ≤ a1.toInt ∧ a1.toInt < 10000) ∧ ((0 ≤ ((σ 18 a1.toNatClampNeg) + x4_29).toInt ∧ ((σ 18 a1.toNatClampNeg) + x4_29).toInt < 65536) ∧ ((0 ≤ a2.toInt ∧ a2.toInt < 16002) ∧ ((0 ≤ ((σ 3 a2.toNatClampNeg) + x4_29).toInt ∧ ((σ 3 a2.toNatClampNeg) + x4_29).toInt < 16000) ∧ ((σ 20 ((σ 18 a1.toNatClampNeg) + x4_29).toNatClampNeg).toInt = (σ 1 ((σ 3 a2.toNatClampNeg) + x4_29).toNatClampNeg).toInt → ∃ m, m < n29 ∧ L29 m (x4_29 + 1)) ∧ ((σ 20 ((σ 18 a1.toNatClampNeg) + x4_29).toNatClampNeg).toInt ≠ (σ 1 ((σ 3 a2.toNatClampNeg) + x4_29).toNatClampNeg).toInt → Q (0 : Int32))))))))) ∧ ((σ 19 a1.toNatClampNeg).toInt ≠ ((σ 4 a2.toNatClampNeg) - (σ 3 a2.toNatClampNeg)).toInt → Q (0 : Int32)))))
set_option maxHeartbeats 4000000 in
set_option maxRecDepth 100000 in
theorem ct_isNamed (a : Nat → Nat) (r : Nat → Nat) {a1 : Int32} {a2 : Int32} {σ τ : St} {vs : List Nat} {Q : Int32 → Prop} (hcap : vs.length ≤ CAP) (w : wp_isNamed a1 a2 σ τ vs Q) (l : Launch) (D : va_G) (cy : Nat → ClassId) : Ct l D cy SM r (EM a) y_X14_isNamed (Cond.code y_X14_isNamed b_X14_isNamed 5 (some .boolean)) 0 [.ref (r 0), .int a1, .int a2] σ τ vs (QZr σ τ vs Q) QT0 := by
  unfold wp_isNamed at w
  refine Ct_of (EM_ok a) (by decide) (Nat.le_of_ble_eq_true rfl) hcap (fun X hnn hF => ?_)
  show G SM r X σ τ vs [(0, .ref (r 0)), (1, .int a1), (2, .int a2)] [] 0
  refine g_aload_n hF d_X14_isNamed_0 rfl 0 rfl ?_
  refine g_get (v := .ref (r 4)) hF 5 obM_0 (by decide) m_1870 rfl d_X14_isNamed_1 ?_
  refine g_iload_n hF d_X14_isNamed_4 rfl 2 rfl ?_
  have w1 := w.2
  refine g_iald hF arM_4 (s_in (Nat.le_of_ble_eq_true rfl) w.1.1 w.1.2) d_X14_isNamed_5 ?_
  refine g_top (v := (σ 4 a2.toNatClampNeg)) rfl ?_
  refine g_aload_n hF d_X14_isNamed_6 rfl 0 rfl ?_
  refine g_get (v := .ref (r 3)) hF 4 obM_0 (by decide) m_1869 rfl d_X14_isNamed_7 ?_
  refine g_iload_n hF d_X14_isNamed_10 rfl 2 rfl ?_
  have w2 := w1.2
  refine g_iald hF arM_3 (s_in (Nat.le_of_ble_eq_true rfl) w1.1.1 w1.1.2) d_X14_isNamed_11 ?_
  refine g_top (v := (σ 3 a2.toNatClampNeg)) rfl ?_
  refine g_isub hF d_X14_isNamed_12 ?_
  refine g_istore_n hF [(3, .int ((σ 4 a2.toNatClampNeg) - (σ 3 a2.toNatClampNeg))), (0, .ref (r 0)), (1, .int a1), (2, .int a2)] d_X14_isNamed_13 rfl hnn (by decide) rfl ?_
  refine g_aload_n hF d_X14_isNamed_14 rfl 1 rfl ?_
  refine g_get (v := .ref (r 19)) hF 28 obM_0 (by decide) m_1893 rfl d_X14_isNamed_15 ?_
  refine g_iload_n hF d_X14_isNamed_18 rfl 2 rfl ?_
  have w3 := w2.2
  refine g_iald hF arM_19 (s_in (Nat.le_of_ble_eq_true rfl) w2.1.1 w2.1.2) d_X14_isNamed_19 ?_
  refine g_top (v := (σ 19 a1.toNatClampNeg)) rfl ?_
  refine g_iload_n hF d_X14_isNamed_20 rfl 0 rfl ?_
  refine g_icmp_eq hF 26 d_X14_isNamed_21 (by decide) rfl rfl (fun c => ?_) (fun c => ?_)
  · have w4 := w3.1 c
    refine g_iconst hF (v := 0) d_X14_isNamed_26 (by decide) ?_
    refine g_istore hF [(4, .int 0), (3, .int ((σ 4 a2.toNatClampNeg) - (σ 3 a2.toNatClampNeg))), (0, .ref (r 0)), (1, .int a1), (2, .int a2)] d_X14_isNamed_27 hnn (by decide) rfl ?_
    obtain ⟨L29, ⟨i29, u29⟩, h29⟩ := w4
    have b29 : ∀ (n29 : Nat) (x4_29 : Int32), L29 n29 x4_29 → G SM r X σ τ vs [(0, .ref (r 0)), (1, .int a1), (2, .int a2), (3, .int ((σ 4 a2.toNatClampNeg) - (σ 3 a2.toNatClampNeg))), (4, .int x4_29)] [] 29 := by
      intro n29
      induction n29 using Nat.strongRecOn with
      | _ n29 ih29 =>
        intro x4_29  w29_
        have w29_ := h29 n29 x4_29  w29_
        refine g_iload hF d_X14_isNamed_29 4 rfl ?_
        refine g_iload_n hF d_X14_isNamed_31 rfl 3 rfl ?_
        refine g_icmp_ge hF 74 d_X14_isNamed_32 (by decide) rfl rfl (fun c => ?_) (fun c => ?_)
        · have w5 := w29_.1 c
          refine g_iconst hF (v := 1) d_X14_isNamed_74 (by decide) ?_
          exact g_zret hF rfl (k_nz (Or.inr rfl)) d_X14_isNamed_75 ⟨rfl, rfl, rfl, (1 : Int32), rfl, (Or.inr rfl), w5⟩
        · have w6 := w29_.2 c
          refine g_aload_n hF d_X14_isNamed_35 rfl 0 rfl ?_
          refine g_get (v := .ref (r 20)) hF 29 obM_0 (by decide) m_1894 rfl d_X14_isNamed_36 ?_
          refine g_aload_n hF d_X14_isNamed_39 rfl 0 rfl ?_
          refine g_get (v := .ref (r 18)) hF 27 obM_0 (by decide) m_1892 rfl d_X14_isNamed_40 ?_
          refine g_iload_n hF d_X14_isNamed_43 rfl 1 rfl ?_
          have w7 := w6.2
          refine g_iald hF arM_18 (s_in (Nat.le_of_ble_eq_true rfl) w6.1.1 w6.1.2) d_X14_isNamed_44 ?_
          refine g_top (v := (σ 18 a1.toNatClampNeg)) rfl ?_
          refine g_iload hF d_X14_isNamed_45 4 rfl ?_
          refine g_iadd hF d_X14_isNamed_47 ?_
          have w8 := w7.2
          refine g_bald hF arM_20 (s_in (Nat.le_of_ble_eq_true rfl) w7.1.1 w7.1.2) d_X14_isNamed_48 ?_
          refine g_top (v := (σ 20 ((σ 18 a1.toNatClampNeg) + x4_29).toNatClampNeg)) rfl ?_
          refine g_aload_n hF d_X14_isNamed_49 rfl 0 rfl ?_
          refine g_get (v := .ref (r 1)) hF 0 obM_0 (by decide) m_1865 rfl d_X14_isNamed_50 ?_
          refine g_aload_n hF d_X14_isNamed_53 rfl 0 rfl ?_
          refine g_get (v := .ref (r 3)) hF 4 obM_0 (by decide) m_1869 rfl d_X14_isNamed_54 ?_
          refine g_iload_n hF d_X14_isNamed_57 rfl 2 rfl ?_
          have w9 := w8.2
          refine g_iald hF arM_3 (s_in (Nat.le_of_ble_eq_true rfl) w8.1.1 w8.1.2) d_X14_isNamed_58 ?_
          refine g_top (v := (σ 3 a2.toNatClampNeg)) rfl ?_
          refine g_iload hF d_X14_isNamed_59 4 rfl ?_
          refine g_iadd hF d_X14_isNamed_61 ?_
          have w10 := w9.2
          refine g_bald hF arM_1 (s_in (Nat.le_of_ble_eq_true rfl) w9.1.1 w9.1.2) d_X14_isNamed_62 ?_
          refine g_top (v := (σ 1 ((σ 3 a2.toNatClampNeg) + x4_29).toNatClampNeg)) rfl ?_
          refine g_icmp_eq hF 68 d_X14_isNamed_63 (by decide) rfl rfl (fun c => ?_) (fun c => ?_)
          · have w11 := w10.1 c
            refine g_iinc hF (x4_29 + 1) [(4, .int (x4_29 + 1)), (0, .ref (r 0)), (1, .int a1), (2, .int a2), (3, .int ((σ 4 a2.toNatClampNeg) - (σ 3 a2.toNatClampNeg)))] d_X14_isNamed_68 4 rfl rfl hnn (by decide) rfl ?_
            refine g_goto hF 29 d_X14_isNamed_71 (by decide) ?_
            obtain ⟨m29, hm29, w9⟩ := w11
            exact g_sub (L' := [(0, .ref (r 0)), (1, .int a1), (2, .int a2), (3, .int ((σ 4 a2.toNatClampNeg) - (σ 3 a2.toNatClampNeg))), (4, .int (x4_29 + 1))]) [1, 2, 3, 4, 0] rfl (ih29 m29 hm29 (x4_29 + 1) w9)
          · have w12 := w10.2 c
            refine g_iconst hF (v := 0) d_X14_isNamed_66 (by decide) ?_
            exact g_zret hF rfl (k_nz (Or.inl rfl)) d_X14_isNamed_67 ⟨rfl, rfl, rfl, (0 : Int32), rfl, (Or.inl rfl), w12⟩
    exact g_sub (L' := [(0, .ref (r 0)), (1, .int a1), (2, .int a2), (3, .int ((σ 4 a2.toNatClampNeg) - (σ 3 a2.toNatClampNeg))), (4, .int 0)]) [2, 3, 4, 1, 0] rfl (b29 i29 (0 : Int32) u29)
  · have w13 := w3.2 c
    refine g_iconst hF (v := 0) d_X14_isNamed_24 (by decide) ?_
    exact g_zret hF rfl (k_nz (Or.inl rfl)) d_X14_isNamed_25 ⟨rfl, rfl, rfl, (0 : Int32), rfl, (Or.inl rfl), w13⟩
