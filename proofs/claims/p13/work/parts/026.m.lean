def wp_compared (a0 : Int32) (a1 : Int32) (a2 : Int32) (σ τ : St) (vs : List Nat) (Q : Int32 → Prop) : Prop :=
  (a0.toInt ≠ 34 → (a0.toInt ≠ 35 → (a0.toInt ≠ 14 → (a1.toInt < a2.toInt → Q (0 : Int32)) ∧ (a2.toInt ≤ a1.toInt → Q (1 : Int32))) ∧ (a0.toInt = 14 → (a2.toInt < a1.toInt → Q (0 : Int32)) ∧ (a1.toInt ≤ a2.toInt → Q (1 : Int32)))) ∧ (a0.toInt = 35 → (a1.toInt ≤ a2.toInt → Q (0 : Int32)) ∧ (a2.toInt < a1.toInt → Q (1 : Int32)))) ∧ (a0.toInt = 34 → (a2.toInt ≤ a1.toInt → Q (0 : Int32)) ∧ (a1.toInt < a2.toInt → Q (1 : Int32)))
set_option maxHeartbeats 4000000 in
set_option maxRecDepth 100000 in
theorem ct_compared (a : Nat → Nat) (r : Nat → Nat) {a0 : Int32} {a1 : Int32} {a2 : Int32} {σ τ : St} {vs : List Nat} {Q : Int32 → Prop} (hcap : vs.length ≤ CAP) (w : wp_compared a0 a1 a2 σ τ vs Q) (l : Launch) (D : va_G) (cy : Nat → ClassId) : Ct l D cy SM r (EM a) y_X14_compared (Cond.code y_X14_compared b_X14_compared 3 (some .boolean)) 0 [.int a0, .int a1, .int a2] σ τ vs (QZr σ τ vs Q) QT0 := by
  unfold wp_compared at w
  refine Ct_of (EM_ok a) (by decide) (Nat.le_of_ble_eq_true rfl) hcap (fun X hnn hF => ?_)
  show G SM r X σ τ vs [(0, .int a0), (1, .int a1), (2, .int a2)] [] 0
  refine g_iload_n hF d_X14_compared_0 rfl 0 rfl ?_
  refine g_bipush hF (v := 34) d_X14_compared_1 (by decide) ?_
  refine g_icmp_ne (yv := 34) hF 19 d_X14_compared_3 (by decide) rfl (by decide) (fun c => ?_) (fun c => ?_)
  · have w1 := w.1 c
    refine g_iload_n hF d_X14_compared_19 rfl 0 rfl ?_
    refine g_bipush hF (v := 35) d_X14_compared_20 (by decide) ?_
    refine g_icmp_ne (yv := 35) hF 38 d_X14_compared_22 (by decide) rfl (by decide) (fun c => ?_) (fun c => ?_)
    · have w2 := w1.1 c
      refine g_iload_n hF d_X14_compared_38 rfl 0 rfl ?_
      refine g_bipush hF (v := 14) d_X14_compared_39 (by decide) ?_
      refine g_icmp_ne (yv := 14) hF 57 d_X14_compared_41 (by decide) rfl (by decide) (fun c => ?_) (fun c => ?_)
      · have w3 := w2.1 c
        refine g_iload_n hF d_X14_compared_57 rfl 1 rfl ?_
        refine g_iload_n hF d_X14_compared_58 rfl 2 rfl ?_
        refine g_icmp_lt hF 66 d_X14_compared_59 (by decide) rfl rfl (fun c => ?_) (fun c => ?_)
        · have w4 := w3.1 c
          refine g_iconst hF (v := 0) d_X14_compared_66 (by decide) ?_
          exact g_zret hF rfl (k_nz (Or.inl rfl)) d_X14_compared_67 ⟨rfl, rfl, rfl, (0 : Int32), rfl, (Or.inl rfl), w4⟩
        · have w5 := w3.2 c
          refine g_iconst hF (v := 1) d_X14_compared_62 (by decide) ?_
          refine g_goto hF 67 d_X14_compared_63 (by decide) ?_
          exact g_zret hF rfl (k_nz (Or.inr rfl)) d_X14_compared_67 ⟨rfl, rfl, rfl, (1 : Int32), rfl, (Or.inr rfl), w5⟩
      · have w6 := w2.2 c
        refine g_iload_n hF d_X14_compared_44 rfl 1 rfl ?_
        refine g_iload_n hF d_X14_compared_45 rfl 2 rfl ?_
        refine g_icmp_gt hF 53 d_X14_compared_46 (by decide) rfl rfl (fun c => ?_) (fun c => ?_)
        · have w7 := w6.1 c
          refine g_iconst hF (v := 0) d_X14_compared_53 (by decide) ?_
          refine g_goto hF 67 d_X14_compared_54 (by decide) ?_
          exact g_zret hF rfl (k_nz (Or.inl rfl)) d_X14_compared_67 ⟨rfl, rfl, rfl, (0 : Int32), rfl, (Or.inl rfl), w7⟩
        · have w8 := w6.2 c
          refine g_iconst hF (v := 1) d_X14_compared_49 (by decide) ?_
          refine g_goto hF 67 d_X14_compared_50 (by decide) ?_
          exact g_zret hF rfl (k_nz (Or.inr rfl)) d_X14_compared_67 ⟨rfl, rfl, rfl, (1 : Int32), rfl, (Or.inr rfl), w8⟩
    · have w9 := w1.2 c
      refine g_iload_n hF d_X14_compared_25 rfl 1 rfl ?_
      refine g_iload_n hF d_X14_compared_26 rfl 2 rfl ?_
      refine g_icmp_le hF 34 d_X14_compared_27 (by decide) rfl rfl (fun c => ?_) (fun c => ?_)
      · have w10 := w9.1 c
        refine g_iconst hF (v := 0) d_X14_compared_34 (by decide) ?_
        refine g_goto hF 67 d_X14_compared_35 (by decide) ?_
        exact g_zret hF rfl (k_nz (Or.inl rfl)) d_X14_compared_67 ⟨rfl, rfl, rfl, (0 : Int32), rfl, (Or.inl rfl), w10⟩
      · have w11 := w9.2 c
        refine g_iconst hF (v := 1) d_X14_compared_30 (by decide) ?_
        refine g_goto hF 67 d_X14_compared_31 (by decide) ?_
        exact g_zret hF rfl (k_nz (Or.inr rfl)) d_X14_compared_67 ⟨rfl, rfl, rfl, (1 : Int32), rfl, (Or.inr rfl), w11⟩
  · have w12 := w.2 c
    refine g_iload_n hF d_X14_compared_6 rfl 1 rfl ?_
    refine g_iload_n hF d_X14_compared_7 rfl 2 rfl ?_
    refine g_icmp_ge hF 15 d_X14_compared_8 (by decide) rfl rfl (fun c => ?_) (fun c => ?_)
    · have w13 := w12.1 c
      refine g_iconst hF (v := 0) d_X14_compared_15 (by decide) ?_
      refine g_goto hF 67 d_X14_compared_16 (by decide) ?_
      exact g_zret hF rfl (k_nz (Or.inl rfl)) d_X14_compared_67 ⟨rfl, rfl, rfl, (0 : Int32), rfl, (Or.inl rfl), w13⟩
    · have w14 := w12.2 c
      refine g_iconst hF (v := 1) d_X14_compared_11 (by decide) ?_
      refine g_goto hF 67 d_X14_compared_12 (by decide) ?_
      exact g_zret hF rfl (k_nz (Or.inr rfl)) d_X14_compared_67 ⟨rfl, rfl, rfl, (1 : Int32), rfl, (Or.inr rfl), w14⟩
def wp_isAssignment (a0 : Int32) (σ τ : St) (vs : List Nat) (Q : Int32 → Prop) : Prop :=
  (∃ J10 : Prop, (J10  → ((a0.toInt ≠ 30 → Q (0 : Int32)) ∧ (a0.toInt = 30 → Q (1 : Int32)))) ∧ (a0.toInt < 0 → J10) ∧ (0 ≤ a0.toInt → (a0.toInt ≤ 9 → Q (1 : Int32)) ∧ (9 < a0.toInt → J10)))
set_option maxHeartbeats 4000000 in
set_option maxRecDepth 100000 in
theorem ct_isAssignment (a : Nat → Nat) (r : Nat → Nat) {a0 : Int32} {σ τ : St} {vs : List Nat} {Q : Int32 → Prop} (hcap : vs.length ≤ CAP) (w : wp_isAssignment a0 σ τ vs Q) (l : Launch) (D : va_G) (cy : Nat → ClassId) : Ct l D cy SM r (EM a) y_X14_isAssignment (Cond.code y_X14_isAssignment b_X14_isAssignment 1 (some .boolean)) 0 [.int a0] σ τ vs (QZr σ τ vs Q) QT0 := by
  unfold wp_isAssignment at w
  refine Ct_of (EM_ok a) (by decide) (Nat.le_of_ble_eq_true rfl) hcap (fun X hnn hF => ?_)
  show G SM r X σ τ vs [(0, .int a0)] [] 0
  refine g_iload_n hF d_X14_isAssignment_0 rfl 0 rfl ?_
  obtain ⟨J10, h10, w1⟩ := w
  have b10 : J10  → G SM r X σ τ vs [(0, .int a0)] [] 10 := by
    intro   w10_
    have w10_ := h10   w10_
    refine g_iload_n hF d_X14_isAssignment_10 rfl 0 rfl ?_
    refine g_bipush hF (v := 30) d_X14_isAssignment_11 (by decide) ?_
    refine g_icmp_ne (yv := 30) hF 20 d_X14_isAssignment_13 (by decide) rfl (by decide) (fun c => ?_) (fun c => ?_)
    · have w2 := w10_.1 c
      refine g_iconst hF (v := 0) d_X14_isAssignment_20 (by decide) ?_
      exact g_zret hF rfl (k_nz (Or.inl rfl)) d_X14_isAssignment_21 ⟨rfl, rfl, rfl, (0 : Int32), rfl, (Or.inl rfl), w2⟩
    · have w3 := w10_.2 c
      refine g_iconst hF (v := 1) d_X14_isAssignment_16 (by decide) ?_
      refine g_goto hF 21 d_X14_isAssignment_17 (by decide) ?_
      exact g_zret hF rfl (k_nz (Or.inr rfl)) d_X14_isAssignment_21 ⟨rfl, rfl, rfl, (1 : Int32), rfl, (Or.inr rfl), w3⟩
  refine g_if_lt hF 10 d_X14_isAssignment_1 (by decide) rfl (fun c => ?_) (fun c => ?_)
  · have w4 := w1.1 c
    exact b10  w4
  · have w5 := w1.2 c
    refine g_iload_n hF d_X14_isAssignment_4 rfl 0 rfl ?_
    refine g_bipush hF (v := 9) d_X14_isAssignment_5 (by decide) ?_
    refine g_icmp_le (yv := 9) hF 16 d_X14_isAssignment_7 (by decide) rfl (by decide) (fun c => ?_) (fun c => ?_)
    · have w6 := w5.1 c
      refine g_iconst hF (v := 1) d_X14_isAssignment_16 (by decide) ?_
      refine g_goto hF 21 d_X14_isAssignment_17 (by decide) ?_
      exact g_zret hF rfl (k_nz (Or.inr rfl)) d_X14_isAssignment_21 ⟨rfl, rfl, rfl, (1 : Int32), rfl, (Or.inr rfl), w6⟩
    · have w7 := w5.2 c
      exact b10  w7
def wp_worked (a0 : Int32) (σ τ : St) (vs : List Nat) (Q : Int32 → Prop) : Prop :=
  (a0.toInt = 0 → Q (16 : Int32)) ∧ (¬ a0.toInt = 0 → (a0.toInt = 1 → Q (17 : Int32)) ∧ (¬ a0.toInt = 1 → (a0.toInt = 2 → Q (36 : Int32)) ∧ (¬ a0.toInt = 2 → (a0.toInt = 3 → Q (37 : Int32)) ∧ (¬ a0.toInt = 3 → (a0.toInt = 4 → Q (38 : Int32)) ∧ (¬ a0.toInt = 4 → (a0.toInt = 5 → Q (39 : Int32)) ∧ (¬ a0.toInt = 5 → (a0.toInt = 6 → Q (40 : Int32)) ∧ (¬ a0.toInt = 6 → (a0.toInt = 7 → Q (33 : Int32)) ∧ (¬ a0.toInt = 7 → (a0.toInt = 8 → Q (31 : Int32)) ∧ (¬ a0.toInt = 8 → (a0.toInt = 9 → Q (32 : Int32)) ∧ (¬ a0.toInt = 9 → Q (30 : Int32)))))))))))
set_option maxHeartbeats 4000000 in
set_option maxRecDepth 100000 in
theorem ct_worked (a : Nat → Nat) (r : Nat → Nat) {a0 : Int32} {σ τ : St} {vs : List Nat} {Q : Int32 → Prop} (hcap : vs.length ≤ CAP) (w : wp_worked a0 σ τ vs Q) (l : Launch) (D : va_G) (cy : Nat → ClassId) : Ct l D cy SM r (EM a) y_X14_worked (Cond.code y_X14_worked b_X14_worked 1 (some .int)) 0 [.int a0] σ τ vs (QIr σ τ vs Q) QT0 := by
  unfold wp_worked at w
  refine Ct_of (EM_ok a) (by decide) (Nat.le_of_ble_eq_true rfl) hcap (fun X hnn hF => ?_)
  show G SM r X σ τ vs [(0, .int a0)] [] 0
  refine g_iload_n hF d_X14_worked_0 rfl 0 rfl ?_
  refine (Decidable.em (a0.toInt = 0)).elim (fun q1_0 => ?_) (fun q1_0 => ?_)
  · have w1 := w.1 q1_0
    refine g_tableIn (off := 55) hF 56 d_X14_worked_1 q1_0 (by decide) (by decide) (by decide +kernel) (by decide) ?_
    refine g_bipush hF (v := 16) d_X14_worked_56 (by decide) ?_
    exact g_iret hF rfl d_X14_worked_58 ⟨rfl, rfl, rfl, (16 : Int32), rfl, w1⟩
  have w2 := w.2 q1_0
  refine (Decidable.em (a0.toInt = 1)).elim (fun q1_1 => ?_) (fun q1_1 => ?_)
  · have w3 := w2.1 q1_1
    refine g_tableIn (off := 58) hF 59 d_X14_worked_1 q1_1 (by decide) (by decide) (by decide +kernel) (by decide) ?_
    refine g_bipush hF (v := 17) d_X14_worked_59 (by decide) ?_
    exact g_iret hF rfl d_X14_worked_61 ⟨rfl, rfl, rfl, (17 : Int32), rfl, w3⟩
  have w4 := w2.2 q1_1
  refine (Decidable.em (a0.toInt = 2)).elim (fun q1_2 => ?_) (fun q1_2 => ?_)
  · have w5 := w4.1 q1_2
    refine g_tableIn (off := 61) hF 62 d_X14_worked_1 q1_2 (by decide) (by decide) (by decide +kernel) (by decide) ?_
    refine g_bipush hF (v := 36) d_X14_worked_62 (by decide) ?_
    exact g_iret hF rfl d_X14_worked_64 ⟨rfl, rfl, rfl, (36 : Int32), rfl, w5⟩
  have w6 := w4.2 q1_2
  refine (Decidable.em (a0.toInt = 3)).elim (fun q1_3 => ?_) (fun q1_3 => ?_)
  · have w7 := w6.1 q1_3
    refine g_tableIn (off := 64) hF 65 d_X14_worked_1 q1_3 (by decide) (by decide) (by decide +kernel) (by decide) ?_
    refine g_bipush hF (v := 37) d_X14_worked_65 (by decide) ?_
    exact g_iret hF rfl d_X14_worked_67 ⟨rfl, rfl, rfl, (37 : Int32), rfl, w7⟩
  have w8 := w6.2 q1_3
  refine (Decidable.em (a0.toInt = 4)).elim (fun q1_4 => ?_) (fun q1_4 => ?_)
  · have w9 := w8.1 q1_4
    refine g_tableIn (off := 67) hF 68 d_X14_worked_1 q1_4 (by decide) (by decide) (by decide +kernel) (by decide) ?_
    refine g_bipush hF (v := 38) d_X14_worked_68 (by decide) ?_
    exact g_iret hF rfl d_X14_worked_70 ⟨rfl, rfl, rfl, (38 : Int32), rfl, w9⟩
  have w10 := w8.2 q1_4
  refine (Decidable.em (a0.toInt = 5)).elim (fun q1_5 => ?_) (fun q1_5 => ?_)
  · have w11 := w10.1 q1_5
    refine g_tableIn (off := 70) hF 71 d_X14_worked_1 q1_5 (by decide) (by decide) (by decide +kernel) (by decide) ?_
    refine g_bipush hF (v := 39) d_X14_worked_71 (by decide) ?_
    exact g_iret hF rfl d_X14_worked_73 ⟨rfl, rfl, rfl, (39 : Int32), rfl, w11⟩
  have w12 := w10.2 q1_5
  refine (Decidable.em (a0.toInt = 6)).elim (fun q1_6 => ?_) (fun q1_6 => ?_)
  · have w13 := w12.1 q1_6
    refine g_tableIn (off := 73) hF 74 d_X14_worked_1 q1_6 (by decide) (by decide) (by decide +kernel) (by decide) ?_
    refine g_bipush hF (v := 40) d_X14_worked_74 (by decide) ?_
    exact g_iret hF rfl d_X14_worked_76 ⟨rfl, rfl, rfl, (40 : Int32), rfl, w13⟩
  have w14 := w12.2 q1_6
  refine (Decidable.em (a0.toInt = 7)).elim (fun q1_7 => ?_) (fun q1_7 => ?_)
  · have w15 := w14.1 q1_7
    refine g_tableIn (off := 76) hF 77 d_X14_worked_1 q1_7 (by decide) (by decide) (by decide +kernel) (by decide) ?_
    refine g_bipush hF (v := 33) d_X14_worked_77 (by decide) ?_
    exact g_iret hF rfl d_X14_worked_79 ⟨rfl, rfl, rfl, (33 : Int32), rfl, w15⟩
  have w16 := w14.2 q1_7
  refine (Decidable.em (a0.toInt = 8)).elim (fun q1_8 => ?_) (fun q1_8 => ?_)
  · have w17 := w16.1 q1_8
    refine g_tableIn (off := 79) hF 80 d_X14_worked_1 q1_8 (by decide) (by decide) (by decide +kernel) (by decide) ?_
    refine g_bipush hF (v := 31) d_X14_worked_80 (by decide) ?_
    exact g_iret hF rfl d_X14_worked_82 ⟨rfl, rfl, rfl, (31 : Int32), rfl, w17⟩
  have w18 := w16.2 q1_8
  refine (Decidable.em (a0.toInt = 9)).elim (fun q1_9 => ?_) (fun q1_9 => ?_)
  · have w19 := w18.1 q1_9
    refine g_tableIn (off := 82) hF 83 d_X14_worked_1 q1_9 (by decide) (by decide) (by decide +kernel) (by decide) ?_
    refine g_bipush hF (v := 32) d_X14_worked_83 (by decide) ?_
    exact g_iret hF rfl d_X14_worked_85 ⟨rfl, rfl, rfl, (32 : Int32), rfl, w19⟩
  have w20 := w18.2 q1_9
  refine g_tableOut hF 86 d_X14_worked_1 rfl (tbo_0_9 q1_0 q1_1 q1_2 q1_3 q1_4 q1_5 q1_6 q1_7 q1_8 q1_9) (by decide) ?_
  refine g_bipush hF (v := 30) d_X14_worked_86 (by decide) ?_
  exact g_iret hF rfl d_X14_worked_88 ⟨rfl, rfl, rfl, (30 : Int32), rfl, w20⟩
def wp_told (σ τ : St) (vs : List Nat) (Q : Int32 → Prop) : Prop :=
  ((0 ≤ (((σ 0 10) + (1 : Int32)) + (1 : Int32)).toInt ∧ (((σ 0 10) + (1 : Int32)) + (1 : Int32)).toInt < 16002) ∧ (∃ J38 : Int32 → Prop, (∀ (y0_38 : Int32), y0_38 = 0 ∨ y0_38 = 1 → J38 y0_38 → (((0 ≤ ((σ 0 10) + (1 : Int32)).toInt ∧ ((σ 0 10) + (1 : Int32)).toInt < 16002) ∧ ((σ 2 ((σ 0 10) + (1 : Int32)).toNatClampNeg).toInt ≠ 4 → ((0 ≤ ((σ 0 10) + (1 : Int32)).toInt ∧ ((σ 0 10) + (1 : Int32)).toInt < 16002) ∧ ((σ 2 ((σ 0 10) + (1 : Int32)).toNatClampNeg).toInt = 54 → ∃ L84 : Nat → Int32 → Int32 → Int32 → Prop, (∃ n, L84 n ((σ 0 10) + (1 : Int32)) (1 : Int32) (0 : Int32)) ∧ ∀ (n84 : Nat) (x1_84 : Int32) (x3_84 : Int32) (x4_84 : Int32), L84 n84 x1_84 x3_84 x4_84 → (((0 ≤ x1_84.toInt ∧ x1_84.toInt < 16002) ∧ ((σ 2 x1_84.toNatClampNeg).toInt = 0 → Q x3_84) ∧ ((σ 2 x1_84.toNatClampNeg).toInt ≠ 0 → ((0 ≤ x1_84.toInt ∧ x1_84.toInt < 16002) ∧ ((σ 2 x1_84.toNatClampNeg).toInt = 1 → Q x3_84) ∧ ((σ 2 x1_84.toNatClampNeg).toInt ≠ 1 → ((0 ≤ x1_84.toInt ∧ x1_84.toInt < 16002) ∧ (∃ J138 : Int32 → Prop, (∀ (x4_138 : Int32), J138 x4_138 → ((∃ J162 : Int32 → Prop, (∀ (x4_162 : Int32), J162 x4_162 → ((x4_162.toInt ≠ 0 → (∃ J185 : Int32 → Prop, (∀ (x3_185 : Int32), J185 x3_185 → (∃ m, m < n84 ∧ L84 m (x1_84 + 1) x3_185 x4_162)) ∧ (((σ 2 x1_84.toNatClampNeg) - (32 : Int32)).toInt ≠ 26 → J185 x3_84) ∧ (((σ 2 x1_84.toNatClampNeg) - (32 : Int32)).toInt = 26 → (x4_162.toInt ≠ 1 → J185 x3_84) ∧ (x4_162.toInt = 1 → J185 (x3_84 + 1))))) ∧ (x4_162.toInt = 0 → Q x3_84))) ∧ (∃ J159 : Prop, (J159  → (J162 (x4_138 + (-1)))) ∧ (((σ 2 x1_84.toNatClampNeg) - (32 : Int32)).toInt = 21 → J159) ∧ (((σ 2 x1_84.toNatClampNeg) - (32 : Int32)).toInt ≠ 21 → (((σ 2 x1_84.toNatClampNeg) - (32 : Int32)).toInt = 23 → J159) ∧ (((σ 2 x1_84.toNatClampNeg) - (32 : Int32)).toInt ≠ 23 → (((σ 2 x1_84.toNatClampNeg) - (32 : Int32)).toInt ≠ 25 → J162 x4_138) ∧ (((σ 2 x1_84.toNatClampNeg) - (32 : Int32)).toInt = 25 → J159))))))) ∧ (∃ J135 : Prop, (J135  → (J138 (x4_84 + 1))) ∧ (((σ 2 x1_84.toNatClampNeg) - (32 : Int32)).toInt = 20 → J135) ∧ (((σ 2 x1_84.toNatClampNeg) - (32 : Int32)).toInt ≠ 20 → (((σ 2 x1_84.toNatClampNeg) - (32 : Int32)).toInt = 22 → J135) ∧ (((σ 2 x1_84.toNatClampNeg) - (32 : Int32)).toInt ≠ 22 → (((σ 2 x1_84.toNatClampNeg) - (32 : Int32)).toInt ≠ 24 → J138 x4_84) ∧ (((σ 2 x1_84.toNatClampNeg) - (32 : Int32)).toInt = 24 → J135)))))))))))) ∧ ((σ 2 ((σ 0 10) + (1 : Int32)).toNatClampNeg).toInt ≠ 54 → Q ((-1) : Int32)))) ∧ ((σ 2 ((σ 0 10) + (1 : Int32)).toNatClampNeg).toInt = 4 → (y0_38.toInt = 0 → Q ((-1) : Int32)) ∧ (y0_38.toInt ≠ 0 → ((0 ≤ ((σ 0 10) + (1 : Int32)).toInt ∧ ((σ 0 10) + (1 : Int32)).toInt < 16002) ∧ Q ((σ 6 ((σ 0 10) + (1 : Int32)).toNatClampNeg) + (1 : Int32)))))))) ∧ (∃ J33 : Prop, (J33  → (J38 (1 : Int32))) ∧ ((σ 2 (((σ 0 10) + (1 : Int32)) + (1 : Int32)).toNatClampNeg).toInt = 58 → J33) ∧ ((σ 2 (((σ 0 10) + (1 : Int32)) + (1 : Int32)).toNatClampNeg).toInt ≠ 58 → ((0 ≤ (((σ 0 10) + (1 : Int32)) + (1 : Int32)).toInt ∧ (((σ 0 10) + (1 : Int32)) + (1 : Int32)).toInt < 16002) ∧ ((σ 2 (((σ 0 10) + (1 : Int32)) + (1 : Int32)).toNatClampNeg).toInt ≠ 59 → J38 (0 : Int32)) ∧ ((σ 2 (((σ 0 10) + (1 : Int32)) + (1 : Int32)).toNatClampNeg).toInt = 59 → J33))))))
set_option maxHeartbeats 4000000 in
set_option maxRecDepth 100000 in
theorem ct_told (a : Nat → Nat) (r : Nat → Nat) {σ τ : St} {vs : List Nat} {Q : Int32 → Prop} (hcap : vs.length ≤ CAP) (w : wp_told  σ τ vs Q) (l : Launch) (D : va_G) (cy : Nat → ClassId) : Ct l D cy SM r (EM a) y_X14_told (Cond.code y_X14_told b_X14_told 6 (some .int)) 0 [.ref (r 0)] σ τ vs (QIr σ τ vs Q) QT0 := by
  unfold wp_told at w
  refine Ct_of (EM_ok a) (by decide) (Nat.le_of_ble_eq_true rfl) hcap (fun X hnn hF => ?_)
  show G SM r X σ τ vs [(0, .ref (r 0))] [] 0
  refine g_aload_n hF d_X14_told_0 rfl 0 rfl ?_
  refine g_get (v := .int (σ 0 10)) hF 10 obM_0 (by decide) m_1875 rfl d_X14_told_1 ?_
  refine g_iconst hF (v := 1) d_X14_told_4 (by decide) ?_
  refine g_iadd hF d_X14_told_5 ?_
  refine g_istore_n hF [(1, .int ((σ 0 10) + (1 : Int32))), (0, .ref (r 0))] d_X14_told_6 rfl hnn (by decide) rfl ?_
  refine g_aload_n hF d_X14_told_7 rfl 1 rfl ?_
  refine g_get (v := .ref (r 2)) hF 3 obM_0 (by decide) m_1868 rfl d_X14_told_8 ?_
  refine g_iload_n hF d_X14_told_11 rfl 0 rfl ?_
  refine g_iconst hF (v := 1) d_X14_told_12 (by decide) ?_
  refine g_iadd hF d_X14_told_13 ?_
  have w1 := w.2
  refine g_iald hF arM_2 (s_in (Nat.le_of_ble_eq_true rfl) w.1.1 w.1.2) d_X14_told_14 ?_
  refine g_top (v := (σ 2 (((σ 0 10) + (1 : Int32)) + (1 : Int32)).toNatClampNeg)) rfl ?_
  refine g_bipush hF (v := 58) d_X14_told_15 (by decide) ?_
  obtain ⟨J38, h38, w2⟩ := w1
  have b38 : ∀ (y0_38 : Int32), y0_38 = 0 ∨ y0_38 = 1 → J38 y0_38 → G SM r X σ τ vs [(0, .ref (r 0)), (1, .int ((σ 0 10) + (1 : Int32)))] [.int y0_38] 38 := by
    intro y0_38 hy0_38 w38_
    have w38_ := h38 y0_38 hy0_38 w38_
    refine g_istore_n hF [(2, .int y0_38), (0, .ref (r 0)), (1, .int ((σ 0 10) + (1 : Int32)))] d_X14_told_38 rfl hnn (by decide) rfl ?_
    refine g_aload_n hF d_X14_told_39 rfl 1 rfl ?_
    refine g_get (v := .ref (r 2)) hF 3 obM_0 (by decide) m_1868 rfl d_X14_told_40 ?_
    refine g_iload_n hF d_X14_told_43 rfl 2 rfl ?_
    have w3 := w38_.2
    refine g_iald hF arM_2 (s_in (Nat.le_of_ble_eq_true rfl) w38_.1.1 w38_.1.2) d_X14_told_44 ?_
    refine g_top (v := (σ 2 ((σ 0 10) + (1 : Int32)).toNatClampNeg)) rfl ?_
    refine g_iconst hF (v := 4) d_X14_told_45 (by decide) ?_
    refine g_icmp_ne (yv := 4) hF 66 d_X14_told_46 (by decide) rfl (by decide) (fun c => ?_) (fun c => ?_)
    · have w4 := w3.1 c
      refine g_aload_n hF d_X14_told_66 rfl 1 rfl ?_
      refine g_get (v := .ref (r 2)) hF 3 obM_0 (by decide) m_1868 rfl d_X14_told_67 ?_
      refine g_iload_n hF d_X14_told_70 rfl 2 rfl ?_
      have w5 := w4.2
      refine g_iald hF arM_2 (s_in (Nat.le_of_ble_eq_true rfl) w4.1.1 w4.1.2) d_X14_told_71 ?_
      refine g_top (v := (σ 2 ((σ 0 10) + (1 : Int32)).toNatClampNeg)) rfl ?_
      refine g_bipush hF (v := 54) d_X14_told_72 (by decide) ?_
      refine g_icmp_eq (yv := 54) hF 79 d_X14_told_74 (by decide) rfl (by decide) (fun c => ?_) (fun c => ?_)
      · have w6 := w5.1 c
        refine g_iconst hF (v := 1) d_X14_told_79 (by decide) ?_
        refine g_istore_n hF [(3, .int 1), (2, .int y0_38), (0, .ref (r 0)), (1, .int ((σ 0 10) + (1 : Int32)))] d_X14_told_80 rfl hnn (by decide) rfl ?_
        refine g_iconst hF (v := 0) d_X14_told_81 (by decide) ?_
        refine g_istore hF [(4, .int 0), (3, .int 1), (2, .int y0_38), (0, .ref (r 0)), (1, .int ((σ 0 10) + (1 : Int32)))] d_X14_told_82 hnn (by decide) rfl ?_
        obtain ⟨L84, ⟨i84, u84⟩, h84⟩ := w6
        have b84 : ∀ (n84 : Nat) (x1_84 : Int32) (x3_84 : Int32) (x4_84 : Int32), L84 n84 x1_84 x3_84 x4_84 → G SM r X σ τ vs [(0, .ref (r 0)), (1, .int x1_84), (3, .int x3_84), (4, .int x4_84)] [] 84 := by
          intro n84
          induction n84 using Nat.strongRecOn with
          | _ n84 ih84 =>
            intro x1_84 x3_84 x4_84  w84_
            have w84_ := h84 n84 x1_84 x3_84 x4_84  w84_
            refine g_aload_n hF d_X14_told_84 rfl 0 rfl ?_
            refine g_get (v := .ref (r 2)) hF 3 obM_0 (by decide) m_1868 rfl d_X14_told_85 ?_
            refine g_iload_n hF d_X14_told_88 rfl 1 rfl ?_
            have w7 := w84_.2
            refine g_iald hF arM_2 (s_in (Nat.le_of_ble_eq_true rfl) w84_.1.1 w84_.1.2) d_X14_told_89 ?_
            refine g_top (v := (σ 2 x1_84.toNatClampNeg)) rfl ?_
            refine g_if_eq hF 191 d_X14_told_90 (by decide) rfl (fun c => ?_) (fun c => ?_)
            · have w8 := w7.1 c
              refine g_iload_n hF d_X14_told_191 rfl 2 rfl ?_
              exact g_iret hF rfl d_X14_told_192 ⟨rfl, rfl, rfl, x3_84, rfl, w8⟩
            · have w9 := w7.2 c
              refine g_aload_n hF d_X14_told_93 rfl 0 rfl ?_
              refine g_get (v := .ref (r 2)) hF 3 obM_0 (by decide) m_1868 rfl d_X14_told_94 ?_
              refine g_iload_n hF d_X14_told_97 rfl 1 rfl ?_
              have w10 := w9.2
              refine g_iald hF arM_2 (s_in (Nat.le_of_ble_eq_true rfl) w9.1.1 w9.1.2) d_X14_told_98 ?_
              refine g_top (v := (σ 2 x1_84.toNatClampNeg)) rfl ?_
              refine g_iconst hF (v := 1) d_X14_told_99 (by decide) ?_
              refine g_icmp_eq (yv := 1) hF 191 d_X14_told_100 (by decide) rfl (by decide) (fun c => ?_) (fun c => ?_)
              · have w11 := w10.1 c
                refine g_iload_n hF d_X14_told_191 rfl 2 rfl ?_
                exact g_iret hF rfl d_X14_told_192 ⟨rfl, rfl, rfl, x3_84, rfl, w11⟩
              · have w12 := w10.2 c
                refine g_aload_n hF d_X14_told_103 rfl 0 rfl ?_
                refine g_get (v := .ref (r 2)) hF 3 obM_0 (by decide) m_1868 rfl d_X14_told_104 ?_
                refine g_iload_n hF d_X14_told_107 rfl 1 rfl ?_
                have w13 := w12.2
                refine g_iald hF arM_2 (s_in (Nat.le_of_ble_eq_true rfl) w12.1.1 w12.1.2) d_X14_told_108 ?_
                refine g_top (v := (σ 2 x1_84.toNatClampNeg)) rfl ?_
                refine g_bipush hF (v := 32) d_X14_told_109 (by decide) ?_
                refine g_isub hF d_X14_told_111 ?_
                refine g_istore hF [(5, .int ((σ 2 x1_84.toNatClampNeg) - (32 : Int32))), (0, .ref (r 0)), (1, .int x1_84), (3, .int x3_84), (4, .int x4_84)] d_X14_told_112 hnn (by decide) rfl ?_
                refine g_iload hF d_X14_told_114 0 rfl ?_
                refine g_bipush hF (v := 20) d_X14_told_116 (by decide) ?_
                obtain ⟨J138, h138, w14⟩ := w13
                have b138 : ∀ (x4_138 : Int32), J138 x4_138 → G SM r X σ τ vs [(0, .ref (r 0)), (1, .int x1_84), (3, .int x3_84), (4, .int x4_138), (5, .int ((σ 2 x1_84.toNatClampNeg) - (32 : Int32)))] [] 138 := by
                  intro x4_138  w138_
                  have w138_ := h138 x4_138  w138_
                  refine g_iload hF d_X14_told_138 4 rfl ?_
                  refine g_bipush hF (v := 21) d_X14_told_140 (by decide) ?_
                  obtain ⟨J162, h162, w15⟩ := w138_
                  have b162 : ∀ (x4_162 : Int32), J162 x4_162 → G SM r X σ τ vs [(0, .ref (r 0)), (1, .int x1_84), (3, .int x3_84), (4, .int x4_162), (5, .int ((σ 2 x1_84.toNatClampNeg) - (32 : Int32)))] [] 162 := by
                    intro x4_162  w162_
                    have w162_ := h162 x4_162  w162_
                    refine g_iload hF d_X14_told_162 3 rfl ?_
                    refine g_if_ne hF 169 d_X14_told_164 (by decide) rfl (fun c => ?_) (fun c => ?_)
                    · have w16 := w162_.1 c
                      refine g_iload hF d_X14_told_169 4 rfl ?_
                      refine g_bipush hF (v := 26) d_X14_told_171 (by decide) ?_
                      obtain ⟨J185, h185, w17⟩ := w16
                      have b185 : ∀ (x3_185 : Int32), J185 x3_185 → G SM r X σ τ vs [(0, .ref (r 0)), (1, .int x1_84), (3, .int x3_185), (4, .int x4_162)] [] 185 := by
                        intro x3_185  w185_
                        have w185_ := h185 x3_185  w185_
                        refine g_iinc hF (x1_84 + 1) [(1, .int (x1_84 + 1)), (0, .ref (r 0)), (3, .int x3_185), (4, .int x4_162)] d_X14_told_185 1 rfl rfl hnn (by decide) rfl ?_
                        refine g_goto hF 84 d_X14_told_188 (by decide) ?_
                        obtain ⟨m84, hm84, w9⟩ := w185_
                        exact g_sub (L' := [(0, .ref (r 0)), (1, .int (x1_84 + 1)), (3, .int x3_185), (4, .int x4_162)]) [1, 0, 2, 3] rfl (ih84 m84 hm84 (x1_84 + 1) x3_185 x4_162 w9)
                      refine g_icmp_ne (yv := 26) hF 185 d_X14_told_173 (by decide) rfl (by decide) (fun c => ?_) (fun c => ?_)
                      · have w18 := w17.1 c
                        exact g_sub (L' := [(0, .ref (r 0)), (1, .int x1_84), (3, .int x3_84), (4, .int x4_162)]) [0, 1, 2, 3] rfl (b185 x3_84 w18)
                      · have w19 := w17.2 c
                        refine g_iload hF d_X14_told_176 3 rfl ?_
                        refine g_iconst hF (v := 1) d_X14_told_178 (by decide) ?_
                        refine g_icmp_ne (yv := 1) hF 185 d_X14_told_179 (by decide) rfl (by decide) (fun c => ?_) (fun c => ?_)
                        · have w20 := w19.1 c
                          exact g_sub (L' := [(0, .ref (r 0)), (1, .int x1_84), (3, .int x3_84), (4, .int x4_162)]) [0, 1, 2, 3] rfl (b185 x3_84 w20)
                        · have w21 := w19.2 c
                          refine g_iinc hF (x3_84 + 1) [(3, .int (x3_84 + 1)), (0, .ref (r 0)), (1, .int x1_84), (4, .int x4_162), (5, .int ((σ 2 x1_84.toNatClampNeg) - (32 : Int32)))] d_X14_told_182 2 rfl rfl hnn (by decide) rfl ?_
                          exact g_sub (L' := [(0, .ref (r 0)), (1, .int x1_84), (3, .int (x3_84 + 1)), (4, .int x4_162)]) [1, 2, 0, 3] rfl (b185 (x3_84 + 1) w21)
                    · have w22 := w162_.2 c
                      refine g_iload_n hF d_X14_told_167 rfl 2 rfl ?_
                      exact g_iret hF rfl d_X14_told_168 ⟨rfl, rfl, rfl, x3_84, rfl, w22⟩
                  obtain ⟨J159, h159, w23⟩ := w15
                  have b159 : J159  → G SM r X σ τ vs [(0, .ref (r 0)), (1, .int x1_84), (3, .int x3_84), (4, .int x4_138), (5, .int ((σ 2 x1_84.toNatClampNeg) - (32 : Int32)))] [] 159 := by
                    intro   w159_
                    have w159_ := h159   w159_
                    refine g_iinc hF (x4_138 + (-1)) [(4, .int (x4_138 + (-1))), (0, .ref (r 0)), (1, .int x1_84), (3, .int x3_84), (5, .int ((σ 2 x1_84.toNatClampNeg) - (32 : Int32)))] d_X14_told_159 3 rfl rfl hnn (by decide) rfl ?_
                    exact g_sub (L' := [(0, .ref (r 0)), (1, .int x1_84), (3, .int x3_84), (4, .int (x4_138 + (-1))), (5, .int ((σ 2 x1_84.toNatClampNeg) - (32 : Int32)))]) [1, 2, 3, 0, 4] rfl (b162 (x4_138 + (-1)) w159_)
                  refine g_icmp_eq (yv := 21) hF 159 d_X14_told_142 (by decide) rfl (by decide) (fun c => ?_) (fun c => ?_)
                  · have w24 := w23.1 c
                    exact b159  w24
                  · have w25 := w23.2 c
                    refine g_iload hF d_X14_told_145 4 rfl ?_
                    refine g_bipush hF (v := 23) d_X14_told_147 (by decide) ?_
                    refine g_icmp_eq (yv := 23) hF 159 d_X14_told_149 (by decide) rfl (by decide) (fun c => ?_) (fun c => ?_)
                    · have w26 := w25.1 c
                      exact b159  w26
                    · have w27 := w25.2 c
                      refine g_iload hF d_X14_told_152 4 rfl ?_
                      refine g_bipush hF (v := 25) d_X14_told_154 (by decide) ?_
                      refine g_icmp_ne (yv := 25) hF 162 d_X14_told_156 (by decide) rfl (by decide) (fun c => ?_) (fun c => ?_)
                      · have w28 := w27.1 c
                        exact b162 x4_138 w28
                      · have w29 := w27.2 c
                        exact b159  w29
                obtain ⟨J135, h135, w30⟩ := w14
                have b135 : J135  → G SM r X σ τ vs [(0, .ref (r 0)), (1, .int x1_84), (3, .int x3_84), (4, .int x4_84), (5, .int ((σ 2 x1_84.toNatClampNeg) - (32 : Int32)))] [] 135 := by
                  intro   w135_
                  have w135_ := h135   w135_
                  refine g_iinc hF (x4_84 + 1) [(4, .int (x4_84 + 1)), (0, .ref (r 0)), (1, .int x1_84), (3, .int x3_84), (5, .int ((σ 2 x1_84.toNatClampNeg) - (32 : Int32)))] d_X14_told_135 3 rfl rfl hnn (by decide) rfl ?_
                  exact g_sub (L' := [(0, .ref (r 0)), (1, .int x1_84), (3, .int x3_84), (4, .int (x4_84 + 1)), (5, .int ((σ 2 x1_84.toNatClampNeg) - (32 : Int32)))]) [1, 2, 3, 0, 4] rfl (b138 (x4_84 + 1) w135_)
                refine g_icmp_eq (yv := 20) hF 135 d_X14_told_118 (by decide) rfl (by decide) (fun c => ?_) (fun c => ?_)
                · have w31 := w30.1 c
                  exact g_sub (L' := [(0, .ref (r 0)), (1, .int x1_84), (3, .int x3_84), (4, .int x4_84), (5, .int ((σ 2 x1_84.toNatClampNeg) - (32 : Int32)))]) [1, 2, 3, 4, 0] rfl (b135  w31)
                · have w32 := w30.2 c
                  refine g_iload hF d_X14_told_121 0 rfl ?_
                  refine g_bipush hF (v := 22) d_X14_told_123 (by decide) ?_
                  refine g_icmp_eq (yv := 22) hF 135 d_X14_told_125 (by decide) rfl (by decide) (fun c => ?_) (fun c => ?_)
                  · have w33 := w32.1 c
                    exact g_sub (L' := [(0, .ref (r 0)), (1, .int x1_84), (3, .int x3_84), (4, .int x4_84), (5, .int ((σ 2 x1_84.toNatClampNeg) - (32 : Int32)))]) [1, 2, 3, 4, 0] rfl (b135  w33)
                  · have w34 := w32.2 c
                    refine g_iload hF d_X14_told_128 0 rfl ?_
                    refine g_bipush hF (v := 24) d_X14_told_130 (by decide) ?_
                    refine g_icmp_ne (yv := 24) hF 138 d_X14_told_132 (by decide) rfl (by decide) (fun c => ?_) (fun c => ?_)
                    · have w35 := w34.1 c
                      exact g_sub (L' := [(0, .ref (r 0)), (1, .int x1_84), (3, .int x3_84), (4, .int x4_84), (5, .int ((σ 2 x1_84.toNatClampNeg) - (32 : Int32)))]) [1, 2, 3, 4, 0] rfl (b138 x4_84 w35)
                    · have w36 := w34.2 c
                      exact g_sub (L' := [(0, .ref (r 0)), (1, .int x1_84), (3, .int x3_84), (4, .int x4_84), (5, .int ((σ 2 x1_84.toNatClampNeg) - (32 : Int32)))]) [1, 2, 3, 4, 0] rfl (b135  w36)
        exact g_sub (L' := [(0, .ref (r 0)), (1, .int ((σ 0 10) + (1 : Int32))), (3, .int 1), (4, .int 0)]) [3, 4, 1, 0] rfl (b84 i84 ((σ 0 10) + (1 : Int32)) (1 : Int32) (0 : Int32) u84)
      · have w37 := w5.2 c
        refine g_iconst hF (v := (-1)) d_X14_told_77 (by decide) ?_
        exact g_iret hF rfl d_X14_told_78 ⟨rfl, rfl, rfl, ((-1) : Int32), rfl, w37⟩
    · have w38 := w3.2 c
      refine g_iload_n hF d_X14_told_49 rfl 0 rfl ?_
      refine g_if_eq hF 64 d_X14_told_50 (by decide) rfl (fun c => ?_) (fun c => ?_)
      · have w39 := w38.1 c
        refine g_iconst hF (v := (-1)) d_X14_told_64 (by decide) ?_
        exact g_iret hF rfl d_X14_told_65 ⟨rfl, rfl, rfl, ((-1) : Int32), rfl, w39⟩
      · have w40 := w38.2 c
        refine g_aload_n hF d_X14_told_53 rfl 1 rfl ?_
        refine g_get (v := .ref (r 6)) hF 7 obM_0 (by decide) m_1872 rfl d_X14_told_54 ?_
        refine g_iload_n hF d_X14_told_57 rfl 2 rfl ?_
        have w41 := w40.2
        refine g_iald hF arM_6 (s_in (Nat.le_of_ble_eq_true rfl) w40.1.1 w40.1.2) d_X14_told_58 ?_
        refine g_top (v := (σ 6 ((σ 0 10) + (1 : Int32)).toNatClampNeg)) rfl ?_
        refine g_iconst hF (v := 1) d_X14_told_59 (by decide) ?_
        refine g_iadd hF d_X14_told_60 ?_
        refine g_goto hF 65 d_X14_told_61 (by decide) ?_
        exact g_iret hF rfl d_X14_told_65 ⟨rfl, rfl, rfl, ((σ 6 ((σ 0 10) + (1 : Int32)).toNatClampNeg) + (1 : Int32)), rfl, w41⟩
  obtain ⟨J33, h33, w42⟩ := w2
  have b33 : J33  → G SM r X σ τ vs [(0, .ref (r 0)), (1, .int ((σ 0 10) + (1 : Int32)))] [] 33 := by
    intro   w33_
    have w33_ := h33   w33_
    refine g_iconst hF (v := 1) d_X14_told_33 (by decide) ?_
    refine g_goto hF 38 d_X14_told_34 (by decide) ?_
    exact b38 (1 : Int32) (Or.inr rfl) w33_
  refine g_icmp_eq (yv := 58) hF 33 d_X14_told_17 (by decide) rfl (by decide) (fun c => ?_) (fun c => ?_)
  · have w43 := w42.1 c
    exact g_sub (L' := [(0, .ref (r 0)), (1, .int ((σ 0 10) + (1 : Int32)))]) [1, 0] rfl (b33  w43)
  · have w44 := w42.2 c
    refine g_aload_n hF d_X14_told_20 rfl 1 rfl ?_
    refine g_get (v := .ref (r 2)) hF 3 obM_0 (by decide) m_1868 rfl d_X14_told_21 ?_
    refine g_iload_n hF d_X14_told_24 rfl 0 rfl ?_
    refine g_iconst hF (v := 1) d_X14_told_25 (by decide) ?_
    refine g_iadd hF d_X14_told_26 ?_
    have w45 := w44.2
    refine g_iald hF arM_2 (s_in (Nat.le_of_ble_eq_true rfl) w44.1.1 w44.1.2) d_X14_told_27 ?_
    refine g_top (v := (σ 2 (((σ 0 10) + (1 : Int32)) + (1 : Int32)).toNatClampNeg)) rfl ?_
    refine g_bipush hF (v := 59) d_X14_told_28 (by decide) ?_
    refine g_icmp_ne (yv := 59) hF 37 d_X14_told_30 (by decide) rfl (by decide) (fun c => ?_) (fun c => ?_)
    · have w46 := w45.1 c
      refine g_iconst hF (v := 0) d_X14_told_37 (by decide) ?_
      exact g_sub (L' := [(0, .ref (r 0)), (1, .int ((σ 0 10) + (1 : Int32)))]) [1, 0] rfl (b38 (0 : Int32) (Or.inl rfl) w46)
    · have w47 := w45.2 c
      exact g_sub (L' := [(0, .ref (r 0)), (1, .int ((σ 0 10) + (1 : Int32)))]) [1, 0] rfl (b33  w47)
def wp_lay (a1 : Int32) (a2 : Int32) (a3 : Int32) (σ τ : St) (vs : List Nat) (Q : St → St → List Nat → Prop) : Prop :=
  ((0 ≤ a1.toInt ∧ a1.toInt < 10000) ∧ ((0 ≤ a1.toInt ∧ a1.toInt < 10000) ∧ (((σ 0 37) + a3).toInt ≤ 16000 → Q (upC (upC (upC σ 13 a1.toNatClampNeg (vp_nar .boolean (1 : Int32))) 17 a1.toNatClampNeg (σ 0 37)) 0 37 ((σ 0 37) + a3)) τ vs) ∧ (16000 < ((σ 0 37) + a3).toInt → wp_tell (4 : Int32) a2 (upC (upC σ 13 a1.toNatClampNeg (vp_nar .boolean (1 : Int32))) 17 a1.toNatClampNeg (σ 0 37)) τ vs (fun s32 t32 z32 => Q s32 t32 z32))))
set_option maxHeartbeats 4000000 in
set_option maxRecDepth 100000 in
theorem ct_lay (a : Nat → Nat) (r : Nat → Nat) {a1 : Int32} {a2 : Int32} {a3 : Int32} {σ τ : St} {vs : List Nat} {Q : St → St → List Nat → Prop} (hcap : vs.length ≤ CAP) (w : wp_lay a1 a2 a3 σ τ vs Q) (l : Launch) (D : va_G) (cy : Nat → ClassId) : Ct l D cy SM r (EM a) y_X14_lay (Cond.code y_X14_lay b_X14_lay 4 none) 1 [.ref (r 0), .int a1, .int a2, .int a3] σ τ vs (QVs Q) QT0 := by
  unfold wp_lay at w
  refine Ct_of (EM_ok a) (by decide) (Nat.le_of_ble_eq_true rfl) hcap (fun X hnn hF => ?_)
  show G SM r X σ τ vs [(0, .ref (r 0)), (1, .int a1), (2, .int a2), (3, .int a3)] [] 0
  refine g_aload_n hF d_X14_lay_0 rfl 0 rfl ?_
  refine g_get (v := .ref (r 13)) hF 22 obM_0 (by decide) m_1887 rfl d_X14_lay_1 ?_
  refine g_iload_n hF d_X14_lay_4 rfl 1 rfl ?_
  refine g_iconst hF (v := 1) d_X14_lay_5 (by decide) ?_
  have w1 := w.2
  refine g_zast hF arM_13 (s_in (Nat.le_of_ble_eq_true rfl) w.1.1 w.1.2) d_X14_lay_6 ?_
  refine g_aload_n hF d_X14_lay_7 rfl 0 rfl ?_
  refine g_get (v := .ref (r 17)) hF 26 obM_0 (by decide) m_1891 rfl d_X14_lay_8 ?_
  refine g_iload_n hF d_X14_lay_11 rfl 1 rfl ?_
  refine g_aload_n hF d_X14_lay_12 rfl 0 rfl ?_
  refine g_get (v := .int (σ 0 37)) hF 37 obM_0 (by decide) m_1902 rfl d_X14_lay_13 ?_
  have w2 := w1.2
  refine g_iast hF arM_17 (s_in (Nat.le_of_ble_eq_true rfl) w1.1.1 w1.1.2) d_X14_lay_16 ?_
  refine g_aload_n hF d_X14_lay_17 rfl 0 rfl ?_
  refine g_get (v := .int (σ 0 37)) hF 37 obM_0 (by decide) m_1902 rfl d_X14_lay_18 ?_
  refine g_iload_n hF d_X14_lay_21 rfl 3 rfl ?_
  refine g_iadd hF d_X14_lay_22 ?_
  refine g_sipush hF (v := 16000) d_X14_lay_23 (by decide) ?_
  refine g_icmp_le (yv := 16000) hF 38 d_X14_lay_26 (by decide) rfl (by decide) (fun c => ?_) (fun c => ?_)
  · have w3 := w2.1 c
    refine g_aload_n hF d_X14_lay_38 rfl 0 rfl ?_
    refine g_dup hF d_X14_lay_39 rfl ?_
    refine g_get (v := .int (σ 0 37)) hF 37 obM_0 (by decide) m_1902 rfl d_X14_lay_40 ?_
    refine g_iload_n hF d_X14_lay_43 rfl 3 rfl ?_
    refine g_iadd hF d_X14_lay_44 ?_
    refine g_put (v := ((σ 0 37) + a3)) hF 37 obM_0 (by decide) m_1902 rfl rfl rfl d_X14_lay_45 ?_
    exact g_vret hF rfl d_X14_lay_48 ⟨rfl, w3⟩
  · have w4 := w2.2 c
    refine g_aload_n hF d_X14_lay_29 rfl 0 rfl ?_
    refine g_iconst hF (v := 4) d_X14_lay_30 (by decide) ?_
    refine g_iload_n hF d_X14_lay_31 rfl 2 rfl ?_
    refine g_callV (As := [.int 4, .int a2]) (rest := []) hF (fun l D cy => (ct_tell a r hcap w4) l D cy) (Nat.le_of_ble_eq_true rfl) mV_X14_tell m_2317 (recv_ob obM_0) rfl rfl (Nat.le_of_ble_eq_true rfl) d_X14_lay_32 (kV (fun s32 t32 z32 w5 => ?_)) (fun _ _ _ h => h.elim)
    refine g_goto hF 48 d_X14_lay_35 (by decide) ?_
    exact g_vret hF rfl d_X14_lay_48 ⟨rfl, w5⟩
def wp_isInitial (a1 : Nat) (a2 : Int32) (σ τ : St) (vs : List Nat) (Q : Int32 → Prop) : Prop :=
  (a2.toInt ≠ 0 → (a1 ∈ vs ∧ ((τ a1 5).toInt ≠ 0 → Q (1 : Int32)) ∧ ((τ a1 5).toInt = 0 → ((τ a1 6).toInt ≠ 2 → Q (0 : Int32)) ∧ ((τ a1 6).toInt = 2 → ((τ a1 0).toInt ≠ a2.toInt → Q (0 : Int32)) ∧ ((τ a1 0).toInt = a2.toInt → Q (1 : Int32)))))) ∧ (a2.toInt = 0 → (a1 ∈ vs ∧ ((τ a1 6).toInt ≠ 1 → Q (0 : Int32)) ∧ ((τ a1 6).toInt = 1 → wp_isInt a1 σ τ vs (fun v13 => (v13.toInt = 0 → Q (0 : Int32)) ∧ (v13.toInt ≠ 0 → Q (1 : Int32))))))
set_option maxHeartbeats 4000000 in
set_option maxRecDepth 100000 in
theorem ct_isInitial (a : Nat → Nat) (r : Nat → Nat) {a1 : Nat} {a2 : Int32} {σ τ : St} {vs : List Nat} {Q : Int32 → Prop} (hcap : vs.length ≤ CAP) (w : wp_isInitial a1 a2 σ τ vs Q) (l : Launch) (D : va_G) (cy : Nat → ClassId) : Ct l D cy SM r (EM a) y_X14_isInitial (Cond.code y_X14_isInitial b_X14_isInitial 3 (some .boolean)) 1 [.ref (r 0), .ref a1, .int a2] σ τ vs (QZr σ τ vs Q) QT0 := by
  unfold wp_isInitial at w
  refine Ct_of (EM_ok a) (by decide) (Nat.le_of_ble_eq_true rfl) hcap (fun X hnn hF => ?_)
  show G SM r X σ τ vs [(0, .ref (r 0)), (1, .ref a1), (2, .int a2)] [] 0
  refine g_iload_n hF d_X14_isInitial_0 rfl 2 rfl ?_
  refine g_if_ne hF 27 d_X14_isInitial_1 (by decide) rfl (fun c => ?_) (fun c => ?_)
  · have w1 := w.1 c
    refine g_aload_n hF d_X14_isInitial_27 rfl 1 rfl ?_
    obtain ⟨hm1, w2⟩ := w1
    refine g_vget hF 5 hm1 clsVC (by decide) m_2406 d_X14_isInitial_28 ?_
    refine g_top (v := (τ a1 5)) rfl ?_
    refine g_if_ne hF 50 d_X14_isInitial_31 (by decide) rfl (fun c => ?_) (fun c => ?_)
    · have w3 := w2.1 c
      refine g_iconst hF (v := 1) d_X14_isInitial_50 (by decide) ?_
      refine g_goto hF 55 d_X14_isInitial_51 (by decide) ?_
      exact g_zret hF rfl (k_nz (Or.inr rfl)) d_X14_isInitial_55 ⟨rfl, rfl, rfl, (1 : Int32), rfl, (Or.inr rfl), w3⟩
    · have w4 := w2.2 c
      refine g_aload_n hF d_X14_isInitial_34 rfl 1 rfl ?_
      refine g_vget hF 6 hm1 clsVC (by decide) m_2408 d_X14_isInitial_35 ?_
      refine g_top (v := (τ a1 6)) rfl ?_
      refine g_iconst hF (v := 2) d_X14_isInitial_38 (by decide) ?_
      refine g_icmp_ne (yv := 2) hF 54 d_X14_isInitial_39 (by decide) rfl (by decide) (fun c => ?_) (fun c => ?_)
      · have w5 := w4.1 c
        refine g_iconst hF (v := 0) d_X14_isInitial_54 (by decide) ?_
        exact g_zret hF rfl (k_nz (Or.inl rfl)) d_X14_isInitial_55 ⟨rfl, rfl, rfl, (0 : Int32), rfl, (Or.inl rfl), w5⟩
      · have w6 := w4.2 c
        refine g_aload_n hF d_X14_isInitial_42 rfl 1 rfl ?_
        refine g_vget hF 0 hm1 clsVC (by decide) m_2400 d_X14_isInitial_43 ?_
        refine g_top (v := (τ a1 0)) rfl ?_
        refine g_iload_n hF d_X14_isInitial_46 rfl 2 rfl ?_
        refine g_icmp_ne hF 54 d_X14_isInitial_47 (by decide) rfl rfl (fun c => ?_) (fun c => ?_)
        · have w7 := w6.1 c
          refine g_iconst hF (v := 0) d_X14_isInitial_54 (by decide) ?_
          exact g_zret hF rfl (k_nz (Or.inl rfl)) d_X14_isInitial_55 ⟨rfl, rfl, rfl, (0 : Int32), rfl, (Or.inl rfl), w7⟩
        · have w8 := w6.2 c
          refine g_iconst hF (v := 1) d_X14_isInitial_50 (by decide) ?_
          refine g_goto hF 55 d_X14_isInitial_51 (by decide) ?_
          exact g_zret hF rfl (k_nz (Or.inr rfl)) d_X14_isInitial_55 ⟨rfl, rfl, rfl, (1 : Int32), rfl, (Or.inr rfl), w8⟩
  · have w9 := w.2 c
    refine g_aload_n hF d_X14_isInitial_4 rfl 1 rfl ?_
    obtain ⟨hm9, w10⟩ := w9
    refine g_vget hF 6 hm9 clsVC (by decide) m_2408 d_X14_isInitial_5 ?_
    refine g_top (v := (τ a1 6)) rfl ?_
    refine g_iconst hF (v := 1) d_X14_isInitial_8 (by decide) ?_
    refine g_icmp_ne (yv := 1) hF 23 d_X14_isInitial_9 (by decide) rfl (by decide) (fun c => ?_) (fun c => ?_)
    · have w11 := w10.1 c
      refine g_iconst hF (v := 0) d_X14_isInitial_23 (by decide) ?_
      refine g_goto hF 55 d_X14_isInitial_24 (by decide) ?_
      exact g_zret hF rfl (k_nz (Or.inl rfl)) d_X14_isInitial_55 ⟨rfl, rfl, rfl, (0 : Int32), rfl, (Or.inl rfl), w11⟩
    · have w12 := w10.2 c
      refine g_aload_n hF d_X14_isInitial_12 rfl 1 rfl ?_
      refine g_callS (As := [.ref a1]) (rest := []) hF (fun l D cy => (ct_isInt a r hcap w12) l D cy) (Nat.le_of_ble_eq_true rfl) mS_X14_isInt m_2471 rfl rfl (Nat.le_of_ble_eq_true rfl) d_X14_isInitial_13 (krZ (fun v13 hz13 w13 => ?_)) (fun _ _ _ h => h.elim)
      refine g_if_eq hF 23 d_X14_isInitial_16 (by decide) rfl (fun c => ?_) (fun c => ?_)
      · have w14 := w13.1 c
        refine g_iconst hF (v := 0) d_X14_isInitial_23 (by decide) ?_
        refine g_goto hF 55 d_X14_isInitial_24 (by decide) ?_
        exact g_zret hF rfl (k_nz (Or.inl rfl)) d_X14_isInitial_55 ⟨rfl, rfl, rfl, (0 : Int32), rfl, (Or.inl rfl), w14⟩
      · have w15 := w13.2 c
        refine g_iconst hF (v := 1) d_X14_isInitial_19 (by decide) ?_
        refine g_goto hF 55 d_X14_isInitial_20 (by decide) ?_
        exact g_zret hF rfl (k_nz (Or.inr rfl)) d_X14_isInitial_55 ⟨rfl, rfl, rfl, (1 : Int32), rfl, (Or.inr rfl), w15⟩
def wp_close (σ τ : St) (vs : List Nat) (Q : St → St → List Nat → Prop) : Prop :=
  ∃ L0 : Nat → St → St → List Nat → Prop, (∃ n, L0 n σ τ vs) ∧ ∀ (n0 : Nat) (s0 t0 : St) (z0 : List Nat), L0 n0 s0 t0 z0 → (((s0 0 53).toInt ≤ 0 → Q (upC s0 0 54 ((s0 0 54) - (1 : Int32))) t0 z0) ∧ (0 < (s0 0 53).toInt → ((0 ≤ ((s0 0 53) - (1 : Int32)).toInt ∧ ((s0 0 53) - (1 : Int32)).toInt < 100) ∧ ((s0 36 ((s0 0 53) - (1 : Int32)).toNatClampNeg).toInt ≠ (s0 0 54).toInt → Q (upC s0 0 54 ((s0 0 54) - (1 : Int32))) t0 z0) ∧ ((s0 36 ((s0 0 53) - (1 : Int32)).toNatClampNeg).toInt = (s0 0 54).toInt → ∃ m, m < n0 ∧ L0 m (upC s0 0 53 ((s0 0 53) - (1 : Int32))) t0 z0))))
set_option maxHeartbeats 4000000 in
set_option maxRecDepth 100000 in
theorem ct_close (a : Nat → Nat) (r : Nat → Nat) {σ τ : St} {vs : List Nat} {Q : St → St → List Nat → Prop} (hcap : vs.length ≤ CAP) (w : wp_close  σ τ vs Q) (l : Launch) (D : va_G) (cy : Nat → ClassId) : Ct l D cy SM r (EM a) y_X14_close (Cond.code y_X14_close b_X14_close 1 none) 0 [.ref (r 0)] σ τ vs (QVs Q) QT0 := by
  unfold wp_close at w
  refine Ct_of (EM_ok a) (by decide) (Nat.le_of_ble_eq_true rfl) hcap (fun X hnn hF => ?_)
  show G SM r X σ τ vs [(0, .ref (r 0))] [] 0
  obtain ⟨L0, ⟨i0, u0⟩, h0⟩ := w
  have b0 : ∀ (n0 : Nat) (s0 t0 : St) (z0 : List Nat), L0 n0 s0 t0 z0 → G SM r X s0 t0 z0 [(0, .ref (r 0))] [] 0 := by
    intro n0
    induction n0 using Nat.strongRecOn with
    | _ n0 ih0 =>
      intro s0 t0 z0  w0_
      have w0_ := h0 n0 s0 t0 z0  w0_
      refine g_aload_n hF d_X14_close_0 rfl 0 rfl ?_
      refine g_get (v := .int (s0 0 53)) hF 53 obM_0 (by decide) m_1918 rfl d_X14_close_1 ?_
      refine g_if_le hF 38 d_X14_close_4 (by decide) rfl (fun c => ?_) (fun c => ?_)
      · have w1 := w0_.1 c
        refine g_aload_n hF d_X14_close_38 rfl 0 rfl ?_
        refine g_dup hF d_X14_close_39 rfl ?_
        refine g_get (v := .int (s0 0 54)) hF 54 obM_0 (by decide) m_1919 rfl d_X14_close_40 ?_
        refine g_iconst hF (v := 1) d_X14_close_43 (by decide) ?_
        refine g_isub hF d_X14_close_44 ?_
        refine g_put (v := ((s0 0 54) - (1 : Int32))) hF 54 obM_0 (by decide) m_1919 rfl rfl rfl d_X14_close_45 ?_
        exact g_vret hF rfl d_X14_close_48 ⟨rfl, w1⟩
      · have w2 := w0_.2 c
        refine g_aload_n hF d_X14_close_7 rfl 0 rfl ?_
        refine g_get (v := .ref (r 36)) hF 52 obM_0 (by decide) m_1917 rfl d_X14_close_8 ?_
        refine g_aload_n hF d_X14_close_11 rfl 0 rfl ?_
        refine g_get (v := .int (s0 0 53)) hF 53 obM_0 (by decide) m_1918 rfl d_X14_close_12 ?_
        refine g_iconst hF (v := 1) d_X14_close_15 (by decide) ?_
        refine g_isub hF d_X14_close_16 ?_
        have w3 := w2.2
        refine g_iald hF arM_36 (s_in (Nat.le_of_ble_eq_true rfl) w2.1.1 w2.1.2) d_X14_close_17 ?_
        refine g_top (v := (s0 36 ((s0 0 53) - (1 : Int32)).toNatClampNeg)) rfl ?_
        refine g_aload_n hF d_X14_close_18 rfl 0 rfl ?_
        refine g_get (v := .int (s0 0 54)) hF 54 obM_0 (by decide) m_1919 rfl d_X14_close_19 ?_
        refine g_icmp_ne hF 38 d_X14_close_22 (by decide) rfl rfl (fun c => ?_) (fun c => ?_)
        · have w4 := w3.1 c
          refine g_aload_n hF d_X14_close_38 rfl 0 rfl ?_
          refine g_dup hF d_X14_close_39 rfl ?_
          refine g_get (v := .int (s0 0 54)) hF 54 obM_0 (by decide) m_1919 rfl d_X14_close_40 ?_
          refine g_iconst hF (v := 1) d_X14_close_43 (by decide) ?_
          refine g_isub hF d_X14_close_44 ?_
          refine g_put (v := ((s0 0 54) - (1 : Int32))) hF 54 obM_0 (by decide) m_1919 rfl rfl rfl d_X14_close_45 ?_
          exact g_vret hF rfl d_X14_close_48 ⟨rfl, w4⟩
        · have w5 := w3.2 c
          refine g_aload_n hF d_X14_close_25 rfl 0 rfl ?_
          refine g_dup hF d_X14_close_26 rfl ?_
          refine g_get (v := .int (s0 0 53)) hF 53 obM_0 (by decide) m_1918 rfl d_X14_close_27 ?_
          refine g_iconst hF (v := 1) d_X14_close_30 (by decide) ?_
          refine g_isub hF d_X14_close_31 ?_
          refine g_put (v := ((s0 0 53) - (1 : Int32))) hF 53 obM_0 (by decide) m_1918 rfl rfl rfl d_X14_close_32 ?_
          refine g_goto hF 0 d_X14_close_35 (by decide) ?_
          obtain ⟨m0, hm0, w9⟩ := w5
          exact ih0 m0 hm0 (upC s0 0 53 ((s0 0 53) - (1 : Int32))) t0 z0 w9
  exact b0 i0 σ τ vs u0
def wp_aimAll (a1 : Int32) (a2 : Int32) (σ τ : St) (vs : List Nat) (Q : St → St → List Nat → Prop) : Prop :=
  ∃ L2 : Nat → Int32 → St → St → List Nat → Prop, (∃ n, L2 n a1 σ τ vs) ∧ ∀ (n2 : Nat) (x3_2 : Int32) (s2 t2 : St) (z2 : List Nat), L2 n2 x3_2 s2 t2 z2 → ((x3_2.toInt < 0 → Q s2 t2 z2) ∧ (0 ≤ x3_2.toInt → ((0 ≤ x3_2.toInt ∧ x3_2.toInt < 524288) ∧ ((0 ≤ x3_2.toInt ∧ x3_2.toInt < 524288) ∧ ∃ m, m < n2 ∧ L2 m (s2 8 x3_2.toNatClampNeg) (upC s2 8 x3_2.toNatClampNeg a2) t2 z2))))
set_option maxHeartbeats 4000000 in
set_option maxRecDepth 100000 in
theorem ct_aimAll (a : Nat → Nat) (r : Nat → Nat) {a1 : Int32} {a2 : Int32} {σ τ : St} {vs : List Nat} {Q : St → St → List Nat → Prop} (hcap : vs.length ≤ CAP) (w : wp_aimAll a1 a2 σ τ vs Q) (l : Launch) (D : va_G) (cy : Nat → ClassId) : Ct l D cy SM r (EM a) y_X14_aimAll (Cond.code y_X14_aimAll b_X14_aimAll 5 none) 0 [.ref (r 0), .int a1, .int a2] σ τ vs (QVs Q) QT0 := by
  unfold wp_aimAll at w
  refine Ct_of (EM_ok a) (by decide) (Nat.le_of_ble_eq_true rfl) hcap (fun X hnn hF => ?_)
  show G SM r X σ τ vs [(0, .ref (r 0)), (1, .int a1), (2, .int a2)] [] 0
  refine g_iload_n hF d_X14_aimAll_0 rfl 1 rfl ?_
  refine g_istore_n hF [(3, .int a1), (0, .ref (r 0)), (1, .int a1), (2, .int a2)] d_X14_aimAll_1 rfl hnn (by decide) rfl ?_
  obtain ⟨L2, ⟨i2, u2⟩, h2⟩ := w
  have b2 : ∀ (n2 : Nat) (x3_2 : Int32) (s2 t2 : St) (z2 : List Nat), L2 n2 x3_2 s2 t2 z2 → G SM r X s2 t2 z2 [(0, .ref (r 0)), (2, .int a2), (3, .int x3_2)] [] 2 := by
    intro n2
    induction n2 using Nat.strongRecOn with
    | _ n2 ih2 =>
      intro x3_2 s2 t2 z2  w2_
      have w2_ := h2 n2 x3_2 s2 t2 z2  w2_
      refine g_iload_n hF d_X14_aimAll_2 rfl 2 rfl ?_
      refine g_if_lt hF 27 d_X14_aimAll_3 (by decide) rfl (fun c => ?_) (fun c => ?_)
      · have w1 := w2_.1 c
        exact g_vret hF rfl d_X14_aimAll_27 ⟨rfl, w1⟩
      · have w2 := w2_.2 c
        refine g_aload_n hF d_X14_aimAll_6 rfl 0 rfl ?_
        refine g_get (v := .ref (r 8)) hF 16 obM_0 (by decide) m_1881 rfl d_X14_aimAll_7 ?_
        refine g_iload_n hF d_X14_aimAll_10 rfl 2 rfl ?_
        have w3 := w2.2
        refine g_iald hF arM_8 (s_in (Nat.le_of_ble_eq_true rfl) w2.1.1 w2.1.2) d_X14_aimAll_11 ?_
        refine g_top (v := (s2 8 x3_2.toNatClampNeg)) rfl ?_
        refine g_istore hF [(4, .int (s2 8 x3_2.toNatClampNeg)), (0, .ref (r 0)), (2, .int a2), (3, .int x3_2)] d_X14_aimAll_12 hnn (by decide) rfl ?_
        refine g_aload_n hF d_X14_aimAll_14 rfl 1 rfl ?_
        refine g_get (v := .ref (r 8)) hF 16 obM_0 (by decide) m_1881 rfl d_X14_aimAll_15 ?_
        refine g_iload_n hF d_X14_aimAll_18 rfl 3 rfl ?_
        refine g_iload_n hF d_X14_aimAll_19 rfl 2 rfl ?_
        have w4 := w3.2
        refine g_iast hF arM_8 (s_in (Nat.le_of_ble_eq_true rfl) w3.1.1 w3.1.2) d_X14_aimAll_20 ?_
        refine g_iload hF d_X14_aimAll_21 0 rfl ?_
        refine g_istore_n hF [(3, .int (s2 8 x3_2.toNatClampNeg)), (4, .int (s2 8 x3_2.toNatClampNeg)), (0, .ref (r 0)), (2, .int a2)] d_X14_aimAll_23 rfl hnn (by decide) rfl ?_
        refine g_goto hF 2 d_X14_aimAll_24 (by decide) ?_
        obtain ⟨m2, hm2, w9⟩ := w4
        exact g_sub (L' := [(0, .ref (r 0)), (2, .int a2), (3, .int (s2 8 x3_2.toNatClampNeg))]) [2, 3, 0] rfl (ih2 m2 hm2 (s2 8 x3_2.toNatClampNeg) (upC s2 8 x3_2.toNatClampNeg a2) t2 z2 w9)
  exact g_sub (L' := [(0, .ref (r 0)), (2, .int a2), (3, .int a1)]) [1, 3, 0] rfl (b2 i2 a1 σ τ vs u2)
def wp_bodiless (σ τ : St) (vs : List Nat) (Q : St → St → List Nat → Prop) : Prop :=
  ((0 ≤ (σ 0 35).toInt ∧ (σ 0 35).toInt < 102) ∧ ∃ L12 : Nat → Int32 → Int32 → Prop, (∃ n, L12 n ((-1) : Int32) (σ 22 (σ 0 35).toNatClampNeg)) ∧ ∀ (n12 : Nat) (x1_12 : Int32) (x2_12 : Int32), L12 n12 x1_12 x2_12 → (((σ 0 36).toInt ≤ x2_12.toInt → (x1_12.toInt < 0 → Q σ τ vs) ∧ (0 ≤ x1_12.toInt → wp_tell (2 : Int32) x1_12 σ τ vs (fun s93 t93 z93 => Q s93 t93 z93))) ∧ (x2_12.toInt < (σ 0 36).toInt → ((0 ≤ (σ 0 35).toInt ∧ (σ 0 35).toInt < 102) ∧ ((0 ≤ (x2_12 - (σ 22 (σ 0 35).toNatClampNeg)).toInt ∧ (x2_12 - (σ 22 (σ 0 35).toNatClampNeg)).toInt < 100) ∧ ((0 ≤ x2_12.toInt ∧ x2_12.toInt < 10000) ∧ (∃ J80 : Int32 → Prop, (∀ (x1_80 : Int32), J80 x1_80 → (∃ m, m < n12 ∧ L12 m x1_80 (x2_12 + 1))) ∧ ((σ 9 x2_12.toNatClampNeg).toInt ≠ 2 → J80 x1_12) ∧ ((σ 9 x2_12.toNatClampNeg).toInt = 2 → ((0 ≤ x2_12.toInt ∧ x2_12.toInt < 10000) ∧ ((σ 12 x2_12.toNatClampNeg).toInt = 0 → J80 x1_12) ∧ ((σ 12 x2_12.toNatClampNeg).toInt ≠ 0 → ((0 ≤ x2_12.toInt ∧ x2_12.toInt < 10000) ∧ ((σ 13 x2_12.toNatClampNeg).toInt ≠ 0 → J80 x1_12) ∧ ((σ 13 x2_12.toNatClampNeg).toInt = 0 → ((σ 21 (x2_12 - (σ 22 (σ 0 35).toNatClampNeg)).toNatClampNeg).toInt < 0 → J80 x1_12) ∧ (0 ≤ (σ 21 (x2_12 - (σ 22 (σ 0 35).toNatClampNeg)).toNatClampNeg).toInt → (∃ J78 : Prop, (J78  → (J80 (σ 21 (x2_12 - (σ 22 (σ 0 35).toNatClampNeg)).toNatClampNeg))) ∧ (x1_12.toInt < 0 → J78) ∧ (0 ≤ x1_12.toInt → (x1_12.toInt ≤ (σ 21 (x2_12 - (σ 22 (σ 0 35).toNatClampNeg)).toNatClampNeg).toInt → J80 x1_12) ∧ ((σ 21 (x2_12 - (σ 22 (σ 0 35).toNatClampNeg)).toNatClampNeg).toInt < x1_12.toInt → J78))))))))))))))))
set_option maxHeartbeats 4000000 in
set_option maxRecDepth 100000 in
theorem ct_bodiless (a : Nat → Nat) (r : Nat → Nat) {σ τ : St} {vs : List Nat} {Q : St → St → List Nat → Prop} (hcap : vs.length ≤ CAP) (w : wp_bodiless  σ τ vs Q) (l : Launch) (D : va_G) (cy : Nat → ClassId) : Ct l D cy SM r (EM a) y_X14_bodiless (Cond.code y_X14_bodiless b_X14_bodiless 4 none) 1 [.ref (r 0)] σ τ vs (QVs Q) QT0 := by
  unfold wp_bodiless at w
  refine Ct_of (EM_ok a) (by decide) (Nat.le_of_ble_eq_true rfl) hcap (fun X hnn hF => ?_)
  show G SM r X σ τ vs [(0, .ref (r 0))] [] 0
  refine g_iconst hF (v := (-1)) d_X14_bodiless_0 (by decide) ?_
  refine g_istore_n hF [(1, .int (-1)), (0, .ref (r 0))] d_X14_bodiless_1 rfl hnn (by decide) rfl ?_
  refine g_aload_n hF d_X14_bodiless_2 rfl 1 rfl ?_
  refine g_get (v := .ref (r 22)) hF 32 obM_0 (by decide) m_1897 rfl d_X14_bodiless_3 ?_
  refine g_aload_n hF d_X14_bodiless_6 rfl 1 rfl ?_
  refine g_get (v := .int (σ 0 35)) hF 35 obM_0 (by decide) m_1900 rfl d_X14_bodiless_7 ?_
  have w1 := w.2
  refine g_iald hF arM_22 (s_in (Nat.le_of_ble_eq_true rfl) w.1.1 w.1.2) d_X14_bodiless_10 ?_
  refine g_top (v := (σ 22 (σ 0 35).toNatClampNeg)) rfl ?_
  refine g_istore_n hF [(2, .int (σ 22 (σ 0 35).toNatClampNeg)), (1, .int (-1)), (0, .ref (r 0))] d_X14_bodiless_11 rfl hnn (by decide) rfl ?_
  obtain ⟨L12, ⟨i12, u12⟩, h12⟩ := w1
  have b12 : ∀ (n12 : Nat) (x1_12 : Int32) (x2_12 : Int32), L12 n12 x1_12 x2_12 → G SM r X σ τ vs [(0, .ref (r 0)), (1, .int x1_12), (2, .int x2_12)] [] 12 := by
    intro n12
    induction n12 using Nat.strongRecOn with
    | _ n12 ih12 =>
      intro x1_12 x2_12  w12_
      have w12_ := h12 n12 x1_12 x2_12  w12_
      refine g_iload_n hF d_X14_bodiless_12 rfl 2 rfl ?_
      refine g_aload_n hF d_X14_bodiless_13 rfl 0 rfl ?_
      refine g_get (v := .int (σ 0 36)) hF 36 obM_0 (by decide) m_1901 rfl d_X14_bodiless_14 ?_
      refine g_icmp_ge hF 86 d_X14_bodiless_17 (by decide) rfl rfl (fun c => ?_) (fun c => ?_)
      · have w2 := w12_.1 c
        refine g_iload_n hF d_X14_bodiless_86 rfl 1 rfl ?_
        refine g_if_lt hF 96 d_X14_bodiless_87 (by decide) rfl (fun c => ?_) (fun c => ?_)
        · have w3 := w2.1 c
          exact g_vret hF rfl d_X14_bodiless_96 ⟨rfl, w3⟩
        · have w4 := w2.2 c
          refine g_aload_n hF d_X14_bodiless_90 rfl 0 rfl ?_
          refine g_iconst hF (v := 2) d_X14_bodiless_91 (by decide) ?_
          refine g_iload_n hF d_X14_bodiless_92 rfl 1 rfl ?_
          refine g_callV (As := [.int 2, .int x1_12]) (rest := []) hF (fun l D cy => (ct_tell a r hcap w4) l D cy) (Nat.le_of_ble_eq_true rfl) mV_X14_tell m_2317 (recv_ob obM_0) rfl rfl (Nat.le_of_ble_eq_true rfl) d_X14_bodiless_93 (kV (fun s93 t93 z93 w5 => ?_)) (fun _ _ _ h => h.elim)
          exact g_vret hF rfl d_X14_bodiless_96 ⟨rfl, w5⟩
      · have w6 := w12_.2 c
        refine g_aload_n hF d_X14_bodiless_20 rfl 0 rfl ?_
        refine g_get (v := .ref (r 21)) hF 30 obM_0 (by decide) m_1895 rfl d_X14_bodiless_21 ?_
        refine g_iload_n hF d_X14_bodiless_24 rfl 2 rfl ?_
        refine g_aload_n hF d_X14_bodiless_25 rfl 0 rfl ?_
        refine g_get (v := .ref (r 22)) hF 32 obM_0 (by decide) m_1897 rfl d_X14_bodiless_26 ?_
        refine g_aload_n hF d_X14_bodiless_29 rfl 0 rfl ?_
        refine g_get (v := .int (σ 0 35)) hF 35 obM_0 (by decide) m_1900 rfl d_X14_bodiless_30 ?_
        have w7 := w6.2
        refine g_iald hF arM_22 (s_in (Nat.le_of_ble_eq_true rfl) w6.1.1 w6.1.2) d_X14_bodiless_33 ?_
        refine g_top (v := (σ 22 (σ 0 35).toNatClampNeg)) rfl ?_
        refine g_isub hF d_X14_bodiless_34 ?_
        have w8 := w7.2
        refine g_iald hF arM_21 (s_in (Nat.le_of_ble_eq_true rfl) w7.1.1 w7.1.2) d_X14_bodiless_35 ?_
        refine g_top (v := (σ 21 (x2_12 - (σ 22 (σ 0 35).toNatClampNeg)).toNatClampNeg)) rfl ?_
        refine g_istore_n hF [(3, .int (σ 21 (x2_12 - (σ 22 (σ 0 35).toNatClampNeg)).toNatClampNeg)), (0, .ref (r 0)), (1, .int x1_12), (2, .int x2_12)] d_X14_bodiless_36 rfl hnn (by decide) rfl ?_
        refine g_aload_n hF d_X14_bodiless_37 rfl 1 rfl ?_
        refine g_get (v := .ref (r 9)) hF 18 obM_0 (by decide) m_1883 rfl d_X14_bodiless_38 ?_
        refine g_iload_n hF d_X14_bodiless_41 rfl 3 rfl ?_
        have w9 := w8.2
        refine g_iald hF arM_9 (s_in (Nat.le_of_ble_eq_true rfl) w8.1.1 w8.1.2) d_X14_bodiless_42 ?_
        refine g_top (v := (σ 9 x2_12.toNatClampNeg)) rfl ?_
        refine g_iconst hF (v := 2) d_X14_bodiless_43 (by decide) ?_
        obtain ⟨J80, h80, w10⟩ := w9
        have b80 : ∀ (x1_80 : Int32), J80 x1_80 → G SM r X σ τ vs [(0, .ref (r 0)), (1, .int x1_80), (2, .int x2_12)] [] 80 := by
          intro x1_80  w80_
          have w80_ := h80 x1_80  w80_
          refine g_iinc hF (x2_12 + 1) [(2, .int (x2_12 + 1)), (0, .ref (r 0)), (1, .int x1_80)] d_X14_bodiless_80 2 rfl rfl hnn (by decide) rfl ?_
          refine g_goto hF 12 d_X14_bodiless_83 (by decide) ?_
          obtain ⟨m12, hm12, w9⟩ := w80_
          exact g_sub (L' := [(0, .ref (r 0)), (1, .int x1_80), (2, .int (x2_12 + 1))]) [1, 2, 0] rfl (ih12 m12 hm12 x1_80 (x2_12 + 1) w9)
        refine g_icmp_ne (yv := 2) hF 80 d_X14_bodiless_44 (by decide) rfl (by decide) (fun c => ?_) (fun c => ?_)
        · have w11 := w10.1 c
          exact g_sub (L' := [(0, .ref (r 0)), (1, .int x1_12), (2, .int x2_12)]) [1, 2, 3] rfl (b80 x1_12 w11)
        · have w12 := w10.2 c
          refine g_aload_n hF d_X14_bodiless_47 rfl 1 rfl ?_
          refine g_get (v := .ref (r 12)) hF 21 obM_0 (by decide) m_1886 rfl d_X14_bodiless_48 ?_
          refine g_iload_n hF d_X14_bodiless_51 rfl 3 rfl ?_
          have w13 := w12.2
          refine g_zald hF arM_12 (s_in (Nat.le_of_ble_eq_true rfl) w12.1.1 w12.1.2) d_X14_bodiless_52 ?_
          refine g_top (v := (σ 12 x2_12.toNatClampNeg)) rfl ?_
          refine g_if_eq hF 80 d_X14_bodiless_53 (by decide) rfl (fun c => ?_) (fun c => ?_)
          · have w14 := w13.1 c
            exact g_sub (L' := [(0, .ref (r 0)), (1, .int x1_12), (2, .int x2_12)]) [1, 2, 3] rfl (b80 x1_12 w14)
          · have w15 := w13.2 c
            refine g_aload_n hF d_X14_bodiless_56 rfl 1 rfl ?_
            refine g_get (v := .ref (r 13)) hF 22 obM_0 (by decide) m_1887 rfl d_X14_bodiless_57 ?_
            refine g_iload_n hF d_X14_bodiless_60 rfl 3 rfl ?_
            have w16 := w15.2
            refine g_zald hF arM_13 (s_in (Nat.le_of_ble_eq_true rfl) w15.1.1 w15.1.2) d_X14_bodiless_61 ?_
            refine g_top (v := (σ 13 x2_12.toNatClampNeg)) rfl ?_
            refine g_if_ne hF 80 d_X14_bodiless_62 (by decide) rfl (fun c => ?_) (fun c => ?_)
            · have w17 := w16.1 c
              exact g_sub (L' := [(0, .ref (r 0)), (1, .int x1_12), (2, .int x2_12)]) [1, 2, 3] rfl (b80 x1_12 w17)
            · have w18 := w16.2 c
              refine g_iload_n hF d_X14_bodiless_65 rfl 0 rfl ?_
              refine g_if_lt hF 80 d_X14_bodiless_66 (by decide) rfl (fun c => ?_) (fun c => ?_)
              · have w19 := w18.1 c
                exact g_sub (L' := [(0, .ref (r 0)), (1, .int x1_12), (2, .int x2_12)]) [1, 2, 3] rfl (b80 x1_12 w19)
              · have w20 := w18.2 c
                refine g_iload_n hF d_X14_bodiless_69 rfl 2 rfl ?_
                obtain ⟨J78, h78, w21⟩ := w20
                have b78 : J78  → G SM r X σ τ vs [(0, .ref (r 0)), (2, .int x2_12), (3, .int (σ 21 (x2_12 - (σ 22 (σ 0 35).toNatClampNeg)).toNatClampNeg))] [] 78 := by
                  intro   w78_
                  have w78_ := h78   w78_
                  refine g_iload_n hF d_X14_bodiless_78 rfl 2 rfl ?_
                  refine g_istore_n hF [(1, .int (σ 21 (x2_12 - (σ 22 (σ 0 35).toNatClampNeg)).toNatClampNeg)), (0, .ref (r 0)), (2, .int x2_12), (3, .int (σ 21 (x2_12 - (σ 22 (σ 0 35).toNatClampNeg)).toNatClampNeg))] d_X14_bodiless_79 rfl hnn (by decide) rfl ?_
                  exact g_sub (L' := [(0, .ref (r 0)), (1, .int (σ 21 (x2_12 - (σ 22 (σ 0 35).toNatClampNeg)).toNatClampNeg)), (2, .int x2_12)]) [1, 0, 2] rfl (b80 (σ 21 (x2_12 - (σ 22 (σ 0 35).toNatClampNeg)).toNatClampNeg) w78_)
                refine g_if_lt hF 78 d_X14_bodiless_70 (by decide) rfl (fun c => ?_) (fun c => ?_)
                · have w22 := w21.1 c
                  exact g_sub (L' := [(0, .ref (r 0)), (2, .int x2_12), (3, .int (σ 21 (x2_12 - (σ 22 (σ 0 35).toNatClampNeg)).toNatClampNeg))]) [1, 3, 0] rfl (b78  w22)
                · have w23 := w21.2 c
                  refine g_iload_n hF d_X14_bodiless_73 rfl 0 rfl ?_
                  refine g_iload_n hF d_X14_bodiless_74 rfl 2 rfl ?_
                  refine g_icmp_ge hF 80 d_X14_bodiless_75 (by decide) rfl rfl (fun c => ?_) (fun c => ?_)
                  · have w24 := w23.1 c
                    exact g_sub (L' := [(0, .ref (r 0)), (1, .int x1_12), (2, .int x2_12)]) [1, 2, 3] rfl (b80 x1_12 w24)
                  · have w25 := w23.2 c
                    exact g_sub (L' := [(0, .ref (r 0)), (2, .int x2_12), (3, .int (σ 21 (x2_12 - (σ 22 (σ 0 35).toNatClampNeg)).toNatClampNeg))]) [1, 3, 0] rfl (b78  w25)
  exact g_sub (L' := [(0, .ref (r 0)), (1, .int (-1)), (2, .int (σ 22 (σ 0 35).toNatClampNeg))]) [2, 1, 0] rfl (b12 i12 ((-1) : Int32) (σ 22 (σ 0 35).toNatClampNeg) u12)
def wp_place (σ τ : St) (vs : List Nat) (Q : Int32 → Prop) : Prop :=
  Q (σ 0 14)
set_option maxHeartbeats 4000000 in
set_option maxRecDepth 100000 in
theorem ct_place (a : Nat → Nat) (r : Nat → Nat) {σ τ : St} {vs : List Nat} {Q : Int32 → Prop} (hcap : vs.length ≤ CAP) (w : wp_place  σ τ vs Q) (l : Launch) (D : va_G) (cy : Nat → ClassId) : Ct l D cy SM r (EM a) y_X14_place (Cond.code y_X14_place b_X14_place 1 (some .int)) 0 [.ref (r 0)] σ τ vs (QIr σ τ vs Q) QT0 := by
  unfold wp_place at w
  refine Ct_of (EM_ok a) (by decide) (Nat.le_of_ble_eq_true rfl) hcap (fun X hnn hF => ?_)
  show G SM r X σ τ vs [(0, .ref (r 0))] [] 0
  refine g_aload_n hF d_X14_place_0 rfl 0 rfl ?_
  refine g_get (v := .int (σ 0 14)) hF 14 obM_0 (by decide) m_1879 rfl d_X14_place_1 ?_
  exact g_iret hF rfl d_X14_place_4 ⟨rfl, rfl, rfl, (σ 0 14), rfl, w⟩
def wp_objects (σ τ : St) (vs : List Nat) (Q : Int32 → Prop) : Prop :=
  Q (σ 0 35)
set_option maxHeartbeats 4000000 in
set_option maxRecDepth 100000 in
theorem ct_objects (a : Nat → Nat) (r : Nat → Nat) {σ τ : St} {vs : List Nat} {Q : Int32 → Prop} (hcap : vs.length ≤ CAP) (w : wp_objects  σ τ vs Q) (l : Launch) (D : va_G) (cy : Nat → ClassId) : Ct l D cy SM r (EM a) y_X14_objects (Cond.code y_X14_objects b_X14_objects 1 (some .int)) 0 [.ref (r 0)] σ τ vs (QIr σ τ vs Q) QT0 := by
  unfold wp_objects at w
  refine Ct_of (EM_ok a) (by decide) (Nat.le_of_ble_eq_true rfl) hcap (fun X hnn hF => ?_)
  show G SM r X σ τ vs [(0, .ref (r 0))] [] 0
  refine g_aload_n hF d_X14_objects_0 rfl 0 rfl ?_
  refine g_get (v := .int (σ 0 35)) hF 35 obM_0 (by decide) m_1900 rfl d_X14_objects_1 ?_
  exact g_iret hF rfl d_X14_objects_4 ⟨rfl, rfl, rfl, (σ 0 35), rfl, w⟩
def wp_isObject (a1 : Int32) (σ τ : St) (vs : List Nat) (Q : Int32 → Prop) : Prop :=
  (a1.toInt < 1 → Q (0 : Int32)) ∧ (1 ≤ a1.toInt → ((σ 0 35).toInt < a1.toInt → Q (0 : Int32)) ∧ (a1.toInt ≤ (σ 0 35).toInt → Q (1 : Int32)))
set_option maxHeartbeats 4000000 in
set_option maxRecDepth 100000 in
theorem ct_isObject (a : Nat → Nat) (r : Nat → Nat) {a1 : Int32} {σ τ : St} {vs : List Nat} {Q : Int32 → Prop} (hcap : vs.length ≤ CAP) (w : wp_isObject a1 σ τ vs Q) (l : Launch) (D : va_G) (cy : Nat → ClassId) : Ct l D cy SM r (EM a) y_X14_isObject (Cond.code y_X14_isObject b_X14_isObject 2 (some .boolean)) 0 [.ref (r 0), .int a1] σ τ vs (QZr σ τ vs Q) QT0 := by
  unfold wp_isObject at w
  refine Ct_of (EM_ok a) (by decide) (Nat.le_of_ble_eq_true rfl) hcap (fun X hnn hF => ?_)
  show G SM r X σ τ vs [(0, .ref (r 0)), (1, .int a1)] [] 0
  refine g_iload_n hF d_X14_isObject_0 rfl 1 rfl ?_
  refine g_iconst hF (v := 1) d_X14_isObject_1 (by decide) ?_
  refine g_icmp_lt (yv := 1) hF 17 d_X14_isObject_2 (by decide) rfl (by decide) (fun c => ?_) (fun c => ?_)
  · have w1 := w.1 c
    refine g_iconst hF (v := 0) d_X14_isObject_17 (by decide) ?_
    exact g_zret hF rfl (k_nz (Or.inl rfl)) d_X14_isObject_18 ⟨rfl, rfl, rfl, (0 : Int32), rfl, (Or.inl rfl), w1⟩
  · have w2 := w.2 c
    refine g_iload_n hF d_X14_isObject_5 rfl 1 rfl ?_
    refine g_aload_n hF d_X14_isObject_6 rfl 0 rfl ?_
    refine g_get (v := .int (σ 0 35)) hF 35 obM_0 (by decide) m_1900 rfl d_X14_isObject_7 ?_
    refine g_icmp_gt hF 17 d_X14_isObject_10 (by decide) rfl rfl (fun c => ?_) (fun c => ?_)
    · have w3 := w2.1 c
      refine g_iconst hF (v := 0) d_X14_isObject_17 (by decide) ?_
      exact g_zret hF rfl (k_nz (Or.inl rfl)) d_X14_isObject_18 ⟨rfl, rfl, rfl, (0 : Int32), rfl, (Or.inl rfl), w3⟩
    · have w4 := w2.2 c
      refine g_iconst hF (v := 1) d_X14_isObject_13 (by decide) ?_
      refine g_goto hF 18 d_X14_isObject_14 (by decide) ?_
      exact g_zret hF rfl (k_nz (Or.inr rfl)) d_X14_isObject_18 ⟨rfl, rfl, rfl, (1 : Int32), rfl, (Or.inr rfl), w4⟩
def wp_symbols (a1 : Int32) (σ τ : St) (vs : List Nat) (Q : Int32 → Prop) : Prop :=
  ((0 ≤ (a1 - (1 : Int32)).toInt ∧ (a1 - (1 : Int32)).toInt < 102) ∧ ∃ L11 : Nat → Int32 → Int32 → Prop, (∃ n, L11 n (0 : Int32) (σ 22 (a1 - (1 : Int32)).toNatClampNeg)) ∧ ∀ (n11 : Nat) (x2_11 : Int32) (x3_11 : Int32), L11 n11 x2_11 x3_11 → (((0 ≤ a1.toInt ∧ a1.toInt < 102) ∧ ((σ 22 a1.toNatClampNeg).toInt ≤ x3_11.toInt → Q x2_11) ∧ (x3_11.toInt < (σ 22 a1.toNatClampNeg).toInt → ((0 ≤ x3_11.toInt ∧ x3_11.toInt < 10000) ∧ (∃ J33 : Int32 → Prop, (∀ (x2_33 : Int32), J33 x2_33 → (∃ m, m < n11 ∧ L11 m x2_33 (x3_11 + 1))) ∧ ((σ 12 x3_11.toNatClampNeg).toInt ≠ 0 → J33 x2_11) ∧ ((σ 12 x3_11.toNatClampNeg).toInt = 0 → J33 (x2_11 + 1))))))))
set_option maxHeartbeats 4000000 in
set_option maxRecDepth 100000 in
theorem ct_symbols (a : Nat → Nat) (r : Nat → Nat) {a1 : Int32} {σ τ : St} {vs : List Nat} {Q : Int32 → Prop} (hcap : vs.length ≤ CAP) (w : wp_symbols a1 σ τ vs Q) (l : Launch) (D : va_G) (cy : Nat → ClassId) : Ct l D cy SM r (EM a) y_X14_symbols (Cond.code y_X14_symbols b_X14_symbols 4 (some .int)) 0 [.ref (r 0), .int a1] σ τ vs (QIr σ τ vs Q) QT0 := by
  unfold wp_symbols at w
  refine Ct_of (EM_ok a) (by decide) (Nat.le_of_ble_eq_true rfl) hcap (fun X hnn hF => ?_)
  show G SM r X σ τ vs [(0, .ref (r 0)), (1, .int a1)] [] 0
  refine g_iconst hF (v := 0) d_X14_symbols_0 (by decide) ?_
  refine g_istore_n hF [(2, .int 0), (0, .ref (r 0)), (1, .int a1)] d_X14_symbols_1 rfl hnn (by decide) rfl ?_
  refine g_aload_n hF d_X14_symbols_2 rfl 1 rfl ?_
  refine g_get (v := .ref (r 22)) hF 32 obM_0 (by decide) m_1897 rfl d_X14_symbols_3 ?_
  refine g_iload_n hF d_X14_symbols_6 rfl 2 rfl ?_
  refine g_iconst hF (v := 1) d_X14_symbols_7 (by decide) ?_
  refine g_isub hF d_X14_symbols_8 ?_
  have w1 := w.2
  refine g_iald hF arM_22 (s_in (Nat.le_of_ble_eq_true rfl) w.1.1 w.1.2) d_X14_symbols_9 ?_
  refine g_top (v := (σ 22 (a1 - (1 : Int32)).toNatClampNeg)) rfl ?_
  refine g_istore_n hF [(3, .int (σ 22 (a1 - (1 : Int32)).toNatClampNeg)), (2, .int 0), (0, .ref (r 0)), (1, .int a1)] d_X14_symbols_10 rfl hnn (by decide) rfl ?_
  obtain ⟨L11, ⟨i11, u11⟩, h11⟩ := w1
  have b11 : ∀ (n11 : Nat) (x2_11 : Int32) (x3_11 : Int32), L11 n11 x2_11 x3_11 → G SM r X σ τ vs [(0, .ref (r 0)), (1, .int a1), (2, .int x2_11), (3, .int x3_11)] [] 11 := by
    intro n11
    induction n11 using Nat.strongRecOn with
    | _ n11 ih11 =>
      intro x2_11 x3_11  w11_
      have w11_ := h11 n11 x2_11 x3_11  w11_
      refine g_iload_n hF d_X14_symbols_11 rfl 3 rfl ?_
      refine g_aload_n hF d_X14_symbols_12 rfl 0 rfl ?_
      refine g_get (v := .ref (r 22)) hF 32 obM_0 (by decide) m_1897 rfl d_X14_symbols_13 ?_
      refine g_iload_n hF d_X14_symbols_16 rfl 1 rfl ?_
      have w2 := w11_.2
      refine g_iald hF arM_22 (s_in (Nat.le_of_ble_eq_true rfl) w11_.1.1 w11_.1.2) d_X14_symbols_17 ?_
      refine g_top (v := (σ 22 a1.toNatClampNeg)) rfl ?_
      refine g_icmp_ge hF 39 d_X14_symbols_18 (by decide) rfl rfl (fun c => ?_) (fun c => ?_)
      · have w3 := w2.1 c
        refine g_iload_n hF d_X14_symbols_39 rfl 2 rfl ?_
        exact g_iret hF rfl d_X14_symbols_40 ⟨rfl, rfl, rfl, x2_11, rfl, w3⟩
      · have w4 := w2.2 c
        refine g_aload_n hF d_X14_symbols_21 rfl 0 rfl ?_
        refine g_get (v := .ref (r 12)) hF 21 obM_0 (by decide) m_1886 rfl d_X14_symbols_22 ?_
        refine g_iload_n hF d_X14_symbols_25 rfl 3 rfl ?_
        have w5 := w4.2
        refine g_zald hF arM_12 (s_in (Nat.le_of_ble_eq_true rfl) w4.1.1 w4.1.2) d_X14_symbols_26 ?_
        refine g_top (v := (σ 12 x3_11.toNatClampNeg)) rfl ?_
        obtain ⟨J33, h33, w6⟩ := w5
        have b33 : ∀ (x2_33 : Int32), J33 x2_33 → G SM r X σ τ vs [(0, .ref (r 0)), (1, .int a1), (2, .int x2_33), (3, .int x3_11)] [] 33 := by
          intro x2_33  w33_
          have w33_ := h33 x2_33  w33_
          refine g_iinc hF (x3_11 + 1) [(3, .int (x3_11 + 1)), (0, .ref (r 0)), (1, .int a1), (2, .int x2_33)] d_X14_symbols_33 3 rfl rfl hnn (by decide) rfl ?_
          refine g_goto hF 11 d_X14_symbols_36 (by decide) ?_
          obtain ⟨m11, hm11, w9⟩ := w33_
          exact g_sub (L' := [(0, .ref (r 0)), (1, .int a1), (2, .int x2_33), (3, .int (x3_11 + 1))]) [1, 2, 3, 0] rfl (ih11 m11 hm11 x2_33 (x3_11 + 1) w9)
        refine g_if_ne hF 33 d_X14_symbols_27 (by decide) rfl (fun c => ?_) (fun c => ?_)
        · have w7 := w6.1 c
          exact b33 x2_11 w7
        · have w8 := w6.2 c
          refine g_iinc hF (x2_11 + 1) [(2, .int (x2_11 + 1)), (0, .ref (r 0)), (1, .int a1), (3, .int x3_11)] d_X14_symbols_30 2 rfl rfl hnn (by decide) rfl ?_
          exact g_sub (L' := [(0, .ref (r 0)), (1, .int a1), (2, .int (x2_11 + 1)), (3, .int x3_11)]) [1, 2, 0, 3] rfl (b33 (x2_11 + 1) w8)
  exact g_sub (L' := [(0, .ref (r 0)), (1, .int a1), (2, .int 0), (3, .int (σ 22 (a1 - (1 : Int32)).toNatClampNeg))]) [2, 3, 1, 0] rfl (b11 i11 (0 : Int32) (σ 22 (a1 - (1 : Int32)).toNatClampNeg) u11)
def wp_symbolAt (a1 : Int32) (a2 : Int32) (σ τ : St) (vs : List Nat) (Q : Int32 → Prop) : Prop :=
  wp_isObject a1 σ τ vs (fun v2 => (v2.toInt = 0 → Q ((-1) : Int32)) ∧ (v2.toInt ≠ 0 → (0 ≤ a2.toInt → ((0 ≤ (a1 - (1 : Int32)).toInt ∧ (a1 - (1 : Int32)).toInt < 102) ∧ ∃ L26 : Nat → Int32 → Int32 → Prop, (∃ n, L26 n a2 (σ 22 (a1 - (1 : Int32)).toNatClampNeg)) ∧ ∀ (n26 : Nat) (x3_26 : Int32) (x4_26 : Int32), L26 n26 x3_26 x4_26 → (((0 ≤ a1.toInt ∧ a1.toInt < 102) ∧ ((σ 22 a1.toNatClampNeg).toInt ≤ x4_26.toInt → Q ((-1) : Int32)) ∧ (x4_26.toInt < (σ 22 a1.toNatClampNeg).toInt → ((0 ≤ x4_26.toInt ∧ x4_26.toInt < 10000) ∧ (∃ J60 : Int32 → Prop, (∀ (x3_60 : Int32), J60 x3_60 → (∃ m, m < n26 ∧ L26 m x3_60 (x4_26 + 1))) ∧ ((σ 12 x4_26.toNatClampNeg).toInt = 0 → (x3_26.toInt ≠ 0 → J60 (x3_26 + (-1))) ∧ (x3_26.toInt = 0 → Q x4_26)) ∧ ((σ 12 x4_26.toNatClampNeg).toInt ≠ 0 → J60 x3_26)))))))) ∧ (a2.toInt < 0 → Q ((-1) : Int32))))
set_option maxHeartbeats 4000000 in
set_option maxRecDepth 100000 in
theorem ct_symbolAt (a : Nat → Nat) (r : Nat → Nat) {a1 : Int32} {a2 : Int32} {σ τ : St} {vs : List Nat} {Q : Int32 → Prop} (hcap : vs.length ≤ CAP) (w : wp_symbolAt a1 a2 σ τ vs Q) (l : Launch) (D : va_G) (cy : Nat → ClassId) : Ct l D cy SM r (EM a) y_X14_symbolAt (Cond.code y_X14_symbolAt b_X14_symbolAt 5 (some .int)) 1 [.ref (r 0), .int a1, .int a2] σ τ vs (QIr σ τ vs Q) QT0 := by
  unfold wp_symbolAt at w
  refine Ct_of (EM_ok a) (by decide) (Nat.le_of_ble_eq_true rfl) hcap (fun X hnn hF => ?_)
  show G SM r X σ τ vs [(0, .ref (r 0)), (1, .int a1), (2, .int a2)] [] 0
  refine g_aload_n hF d_X14_symbolAt_0 rfl 0 rfl ?_
  refine g_iload_n hF d_X14_symbolAt_1 rfl 1 rfl ?_
  refine g_callV (As := [.int a1]) (rest := []) hF (fun l D cy => (ct_isObject a r hcap w) l D cy) (Nat.le_of_ble_eq_true rfl) mV_X14_isObject m_2648 (recv_ob obM_0) rfl rfl (Nat.le_of_ble_eq_true rfl) d_X14_symbolAt_2 (krZ (fun v2 hz2 w1 => ?_)) (fun _ _ _ h => h.elim)
  refine g_if_eq hF 12 d_X14_symbolAt_5 (by decide) rfl (fun c => ?_) (fun c => ?_)
  · have w2 := w1.1 c
    refine g_iconst hF (v := (-1)) d_X14_symbolAt_12 (by decide) ?_
    exact g_iret hF rfl d_X14_symbolAt_13 ⟨rfl, rfl, rfl, ((-1) : Int32), rfl, w2⟩
  · have w3 := w1.2 c
    refine g_iload_n hF d_X14_symbolAt_8 rfl 2 rfl ?_
    refine g_if_ge hF 14 d_X14_symbolAt_9 (by decide) rfl (fun c => ?_) (fun c => ?_)
    · have w4 := w3.1 c
      refine g_iload_n hF d_X14_symbolAt_14 rfl 2 rfl ?_
      refine g_istore_n hF [(3, .int a2), (0, .ref (r 0)), (1, .int a1), (2, .int a2)] d_X14_symbolAt_15 rfl hnn (by decide) rfl ?_
      refine g_aload_n hF d_X14_symbolAt_16 rfl 1 rfl ?_
      refine g_get (v := .ref (r 22)) hF 32 obM_0 (by decide) m_1897 rfl d_X14_symbolAt_17 ?_
      refine g_iload_n hF d_X14_symbolAt_20 rfl 2 rfl ?_
      refine g_iconst hF (v := 1) d_X14_symbolAt_21 (by decide) ?_
      refine g_isub hF d_X14_symbolAt_22 ?_
      have w5 := w4.2
      refine g_iald hF arM_22 (s_in (Nat.le_of_ble_eq_true rfl) w4.1.1 w4.1.2) d_X14_symbolAt_23 ?_
      refine g_top (v := (σ 22 (a1 - (1 : Int32)).toNatClampNeg)) rfl ?_
      refine g_istore hF [(4, .int (σ 22 (a1 - (1 : Int32)).toNatClampNeg)), (3, .int a2), (0, .ref (r 0)), (1, .int a1), (2, .int a2)] d_X14_symbolAt_24 hnn (by decide) rfl ?_
      obtain ⟨L26, ⟨i26, u26⟩, h26⟩ := w5
      have b26 : ∀ (n26 : Nat) (x3_26 : Int32) (x4_26 : Int32), L26 n26 x3_26 x4_26 → G SM r X σ τ vs [(0, .ref (r 0)), (1, .int a1), (3, .int x3_26), (4, .int x4_26)] [] 26 := by
        intro n26
        induction n26 using Nat.strongRecOn with
        | _ n26 ih26 =>
          intro x3_26 x4_26  w26_
          have w26_ := h26 n26 x3_26 x4_26  w26_
          refine g_iload hF d_X14_symbolAt_26 3 rfl ?_
          refine g_aload_n hF d_X14_symbolAt_28 rfl 0 rfl ?_
          refine g_get (v := .ref (r 22)) hF 32 obM_0 (by decide) m_1897 rfl d_X14_symbolAt_29 ?_
          refine g_iload_n hF d_X14_symbolAt_32 rfl 1 rfl ?_
          have w6 := w26_.2
          refine g_iald hF arM_22 (s_in (Nat.le_of_ble_eq_true rfl) w26_.1.1 w26_.1.2) d_X14_symbolAt_33 ?_
          refine g_top (v := (σ 22 a1.toNatClampNeg)) rfl ?_
          refine g_icmp_ge hF 66 d_X14_symbolAt_34 (by decide) rfl rfl (fun c => ?_) (fun c => ?_)
          · have w7 := w6.1 c
            refine g_iconst hF (v := (-1)) d_X14_symbolAt_66 (by decide) ?_
            exact g_iret hF rfl d_X14_symbolAt_67 ⟨rfl, rfl, rfl, ((-1) : Int32), rfl, w7⟩
          · have w8 := w6.2 c
            refine g_aload_n hF d_X14_symbolAt_37 rfl 0 rfl ?_
            refine g_get (v := .ref (r 12)) hF 21 obM_0 (by decide) m_1886 rfl d_X14_symbolAt_38 ?_
            refine g_iload hF d_X14_symbolAt_41 3 rfl ?_
            have w9 := w8.2
            refine g_zald hF arM_12 (s_in (Nat.le_of_ble_eq_true rfl) w8.1.1 w8.1.2) d_X14_symbolAt_43 ?_
            refine g_top (v := (σ 12 x4_26.toNatClampNeg)) rfl ?_
            obtain ⟨J60, h60, w10⟩ := w9
            have b60 : ∀ (x3_60 : Int32), J60 x3_60 → G SM r X σ τ vs [(0, .ref (r 0)), (1, .int a1), (3, .int x3_60), (4, .int x4_26)] [] 60 := by
              intro x3_60  w60_
              have w60_ := h60 x3_60  w60_
              refine g_iinc hF (x4_26 + 1) [(4, .int (x4_26 + 1)), (0, .ref (r 0)), (1, .int a1), (3, .int x3_60)] d_X14_symbolAt_60 3 rfl rfl hnn (by decide) rfl ?_
              refine g_goto hF 26 d_X14_symbolAt_63 (by decide) ?_
              obtain ⟨m26, hm26, w9⟩ := w60_
              exact g_sub (L' := [(0, .ref (r 0)), (1, .int a1), (3, .int x3_60), (4, .int (x4_26 + 1))]) [1, 2, 3, 0] rfl (ih26 m26 hm26 x3_60 (x4_26 + 1) w9)
            refine g_if_eq hF 50 d_X14_symbolAt_44 (by decide) rfl (fun c => ?_) (fun c => ?_)
            · have w11 := w10.1 c
              refine g_iload_n hF d_X14_symbolAt_50 rfl 2 rfl ?_
              refine g_if_ne hF 57 d_X14_symbolAt_51 (by decide) rfl (fun c => ?_) (fun c => ?_)
              · have w12 := w11.1 c
                refine g_iinc hF (x3_26 + (-1)) [(3, .int (x3_26 + (-1))), (0, .ref (r 0)), (1, .int a1), (4, .int x4_26)] d_X14_symbolAt_57 2 rfl rfl hnn (by decide) rfl ?_
                exact g_sub (L' := [(0, .ref (r 0)), (1, .int a1), (3, .int (x3_26 + (-1))), (4, .int x4_26)]) [1, 2, 0, 3] rfl (b60 (x3_26 + (-1)) w12)
              · have w13 := w11.2 c
                refine g_iload hF d_X14_symbolAt_54 3 rfl ?_
                exact g_iret hF rfl d_X14_symbolAt_56 ⟨rfl, rfl, rfl, x4_26, rfl, w13⟩
            · have w14 := w10.2 c
              refine g_goto hF 60 d_X14_symbolAt_47 (by decide) ?_
              exact b60 x3_26 w14
      exact g_sub (L' := [(0, .ref (r 0)), (1, .int a1), (3, .int a2), (4, .int (σ 22 (a1 - (1 : Int32)).toNatClampNeg))]) [2, 3, 1, 0] rfl (b26 i26 a2 (σ 22 (a1 - (1 : Int32)).toNatClampNeg) u26)
    · have w15 := w3.2 c
      refine g_iconst hF (v := (-1)) d_X14_symbolAt_12 (by decide) ?_
      exact g_iret hF rfl d_X14_symbolAt_13 ⟨rfl, rfl, rfl, ((-1) : Int32), rfl, w15⟩
def wp_symbol (a1 : Int32) (a2 : Int32) (σ τ : St) (vs : List Nat) (Q : Int32 → Prop) : Prop :=
  wp_symbolAt a1 a2 σ τ vs (fun v3 => (0 ≤ v3.toInt → ((0 ≤ v3.toInt ∧ v3.toInt < 10000) ∧ ((0 ≤ v3.toInt ∧ v3.toInt < 10000) ∧ (∃ J33 : Int32 → Prop, (∀ (y1_33 : Int32), J33 y1_33 → (((0 ≤ v3.toInt ∧ v3.toInt < 10000) ∧ ((σ 13 v3.toNatClampNeg).toInt ≠ 0 → Q (((σ 9 v3.toNatClampNeg) + y1_33) + (0 : Int32))) ∧ ((σ 13 v3.toNatClampNeg).toInt = 0 → ((0 ≤ v3.toInt ∧ v3.toInt < 10000) ∧ ((σ 14 v3.toNatClampNeg).toInt = 0 → Q (((σ 9 v3.toNatClampNeg) + y1_33) + (0 : Int32))) ∧ ((σ 14 v3.toNatClampNeg).toInt ≠ 0 → Q (((σ 9 v3.toNatClampNeg) + y1_33) + (8 : Int32)))))))) ∧ ((σ 13 v3.toNatClampNeg).toInt = 0 → J33 (0 : Int32)) ∧ ((σ 13 v3.toNatClampNeg).toInt ≠ 0 → J33 (4 : Int32)))))) ∧ (v3.toInt < 0 → Q ((-1) : Int32)))
set_option maxHeartbeats 4000000 in
set_option maxRecDepth 100000 in
theorem ct_symbol (a : Nat → Nat) (r : Nat → Nat) {a1 : Int32} {a2 : Int32} {σ τ : St} {vs : List Nat} {Q : Int32 → Prop} (hcap : vs.length ≤ CAP) (w : wp_symbol a1 a2 σ τ vs Q) (l : Launch) (D : va_G) (cy : Nat → ClassId) : Ct l D cy SM r (EM a) y_X14_symbol (Cond.code y_X14_symbol b_X14_symbol 4 (some .int)) 2 [.ref (r 0), .int a1, .int a2] σ τ vs (QIr σ τ vs Q) QT0 := by
  unfold wp_symbol at w
  refine Ct_of (EM_ok a) (by decide) (Nat.le_of_ble_eq_true rfl) hcap (fun X hnn hF => ?_)
  show G SM r X σ τ vs [(0, .ref (r 0)), (1, .int a1), (2, .int a2)] [] 0
  refine g_aload_n hF d_X14_symbol_0 rfl 0 rfl ?_
  refine g_iload_n hF d_X14_symbol_1 rfl 1 rfl ?_
  refine g_iload_n hF d_X14_symbol_2 rfl 2 rfl ?_
  refine g_callV (As := [.int a1, .int a2]) (rest := []) hF (fun l D cy => (ct_symbolAt a r hcap w) l D cy) (Nat.le_of_ble_eq_true rfl) mV_X14_symbolAt m_2660 (recv_ob obM_0) rfl rfl (Nat.le_of_ble_eq_true rfl) d_X14_symbol_3 (krI (fun v3 w1 => ?_)) (fun _ _ _ h => h.elim)
  refine g_istore_n hF [(3, .int v3), (0, .ref (r 0)), (1, .int a1), (2, .int a2)] d_X14_symbol_6 rfl hnn (by decide) rfl ?_
  refine g_iload_n hF d_X14_symbol_7 rfl 0 rfl ?_
  refine g_if_ge hF 13 d_X14_symbol_8 (by decide) rfl (fun c => ?_) (fun c => ?_)
  · have w2 := w1.1 c
    refine g_aload_n hF d_X14_symbol_13 rfl 1 rfl ?_
    refine g_get (v := .ref (r 9)) hF 18 obM_0 (by decide) m_1883 rfl d_X14_symbol_14 ?_
    refine g_iload_n hF d_X14_symbol_17 rfl 0 rfl ?_
    have w3 := w2.2
    refine g_iald hF arM_9 (s_in (Nat.le_of_ble_eq_true rfl) w2.1.1 w2.1.2) d_X14_symbol_18 ?_
    refine g_top (v := (σ 9 v3.toNatClampNeg)) rfl ?_
    refine g_aload_n hF d_X14_symbol_19 rfl 1 rfl ?_
    refine g_get (v := .ref (r 13)) hF 22 obM_0 (by decide) m_1887 rfl d_X14_symbol_20 ?_
    refine g_iload_n hF d_X14_symbol_23 rfl 0 rfl ?_
    have w4 := w3.2
    refine g_zald hF arM_13 (s_in (Nat.le_of_ble_eq_true rfl) w3.1.1 w3.1.2) d_X14_symbol_24 ?_
    refine g_top (v := (σ 13 v3.toNatClampNeg)) rfl ?_
    obtain ⟨J33, h33, w5⟩ := w4
    have b33 : ∀ (y1_33 : Int32), J33 y1_33 → G SM r X σ τ vs [(0, .ref (r 0)), (3, .int v3)] [.int y1_33, .int (σ 9 v3.toNatClampNeg)] 33 := by
      intro y1_33  w33_
      have w33_ := h33 y1_33  w33_
      refine g_iadd hF d_X14_symbol_33 ?_
      refine g_aload_n hF d_X14_symbol_34 rfl 0 rfl ?_
      refine g_get (v := .ref (r 13)) hF 22 obM_0 (by decide) m_1887 rfl d_X14_symbol_35 ?_
      refine g_iload_n hF d_X14_symbol_38 rfl 1 rfl ?_
      have w6 := w33_.2
      refine g_zald hF arM_13 (s_in (Nat.le_of_ble_eq_true rfl) w33_.1.1 w33_.1.2) d_X14_symbol_39 ?_
      refine g_top (v := (σ 13 v3.toNatClampNeg)) rfl ?_
      refine g_if_ne hF 57 d_X14_symbol_40 (by decide) rfl (fun c => ?_) (fun c => ?_)
      · have w7 := w6.1 c
        refine g_iconst hF (v := 0) d_X14_symbol_57 (by decide) ?_
        refine g_iadd hF d_X14_symbol_58 ?_
        exact g_iret hF rfl d_X14_symbol_59 ⟨rfl, rfl, rfl, (((σ 9 v3.toNatClampNeg) + y1_33) + (0 : Int32)), rfl, w7⟩
      · have w8 := w6.2 c
        refine g_aload_n hF d_X14_symbol_43 rfl 0 rfl ?_
        refine g_get (v := .ref (r 14)) hF 23 obM_0 (by decide) m_1888 rfl d_X14_symbol_44 ?_
        refine g_iload_n hF d_X14_symbol_47 rfl 1 rfl ?_
        have w9 := w8.2
        refine g_zald hF arM_14 (s_in (Nat.le_of_ble_eq_true rfl) w8.1.1 w8.1.2) d_X14_symbol_48 ?_
        refine g_top (v := (σ 14 v3.toNatClampNeg)) rfl ?_
        refine g_if_eq hF 57 d_X14_symbol_49 (by decide) rfl (fun c => ?_) (fun c => ?_)
        · have w10 := w9.1 c
          refine g_iconst hF (v := 0) d_X14_symbol_57 (by decide) ?_
          refine g_iadd hF d_X14_symbol_58 ?_
          exact g_iret hF rfl d_X14_symbol_59 ⟨rfl, rfl, rfl, (((σ 9 v3.toNatClampNeg) + y1_33) + (0 : Int32)), rfl, w10⟩
        · have w11 := w9.2 c
          refine g_bipush hF (v := 8) d_X14_symbol_52 (by decide) ?_
          refine g_goto hF 58 d_X14_symbol_54 (by decide) ?_
          refine g_iadd hF d_X14_symbol_58 ?_
          exact g_iret hF rfl d_X14_symbol_59 ⟨rfl, rfl, rfl, (((σ 9 v3.toNatClampNeg) + y1_33) + (8 : Int32)), rfl, w11⟩
    refine g_if_eq hF 32 d_X14_symbol_25 (by decide) rfl (fun c => ?_) (fun c => ?_)
    · have w12 := w5.1 c
      refine g_iconst hF (v := 0) d_X14_symbol_32 (by decide) ?_
      exact g_sub (L' := [(0, .ref (r 0)), (3, .int v3)]) [1, 0] rfl (b33 (0 : Int32) w12)
    · have w13 := w5.2 c
      refine g_iconst hF (v := 4) d_X14_symbol_28 (by decide) ?_
      refine g_goto hF 33 d_X14_symbol_29 (by decide) ?_
      exact g_sub (L' := [(0, .ref (r 0)), (3, .int v3)]) [1, 0] rfl (b33 (4 : Int32) w13)
  · have w14 := w1.2 c
    refine g_iconst hF (v := (-1)) d_X14_symbol_11 (by decide) ?_
    exact g_iret hF rfl d_X14_symbol_12 ⟨rfl, rfl, rfl, ((-1) : Int32), rfl, w14⟩
def wp_pick (a1 : Int32) (σ τ : St) (vs : List Nat) (Q : Int32 → St → St → List Nat → Prop) : Prop :=
  wp_isObject a1 σ τ vs (fun v2 => (v2.toInt ≠ 0 → ∃ L12 : Nat → Int32 → Prop, (∃ n, L12 n (0 : Int32)) ∧ ∀ (n12 : Nat) (x2_12 : Int32), L12 n12 x2_12 → (((σ 0 67).toInt ≤ x2_12.toInt → ((0 ≤ (σ 0 67).toInt ∧ (σ 0 67).toInt < 100) ∧ Q ((σ 0 67) + (1 : Int32)) (upC (upC σ 40 (σ 0 67).toNatClampNeg a1) 0 67 ((σ 0 67) + (1 : Int32))) τ vs)) ∧ (x2_12.toInt < (σ 0 67).toInt → ((0 ≤ x2_12.toInt ∧ x2_12.toInt < 100) ∧ ((σ 40 x2_12.toNatClampNeg).toInt ≠ a1.toInt → ∃ m, m < n12 ∧ L12 m (x2_12 + 1)) ∧ ((σ 40 x2_12.toNatClampNeg).toInt = a1.toInt → Q ((-1) : Int32) σ τ vs))))) ∧ (v2.toInt = 0 → Q ((-1) : Int32) σ τ vs))
set_option maxHeartbeats 4000000 in
set_option maxRecDepth 100000 in
theorem ct_pick (a : Nat → Nat) (r : Nat → Nat) {a1 : Int32} {σ τ : St} {vs : List Nat} {Q : Int32 → St → St → List Nat → Prop} (hcap : vs.length ≤ CAP) (w : wp_pick a1 σ τ vs Q) (l : Launch) (D : va_G) (cy : Nat → ClassId) : Ct l D cy SM r (EM a) y_X14_pick (Cond.code y_X14_pick b_X14_pick 3 (some .int)) 1 [.ref (r 0), .int a1] σ τ vs (QIs Q) QT0 := by
  unfold wp_pick at w
  refine Ct_of (EM_ok a) (by decide) (Nat.le_of_ble_eq_true rfl) hcap (fun X hnn hF => ?_)
  show G SM r X σ τ vs [(0, .ref (r 0)), (1, .int a1)] [] 0
  refine g_aload_n hF d_X14_pick_0 rfl 0 rfl ?_
  refine g_iload_n hF d_X14_pick_1 rfl 1 rfl ?_
  refine g_callV (As := [.int a1]) (rest := []) hF (fun l D cy => (ct_isObject a r hcap w) l D cy) (Nat.le_of_ble_eq_true rfl) mV_X14_isObject m_2648 (recv_ob obM_0) rfl rfl (Nat.le_of_ble_eq_true rfl) d_X14_pick_2 (krZ (fun v2 hz2 w1 => ?_)) (fun _ _ _ h => h.elim)
  refine g_if_ne hF 10 d_X14_pick_5 (by decide) rfl (fun c => ?_) (fun c => ?_)
  · have w2 := w1.1 c
    refine g_iconst hF (v := 0) d_X14_pick_10 (by decide) ?_
    refine g_istore_n hF [(2, .int 0), (0, .ref (r 0)), (1, .int a1)] d_X14_pick_11 rfl hnn (by decide) rfl ?_
    obtain ⟨L12, ⟨i12, u12⟩, h12⟩ := w2
    have b12 : ∀ (n12 : Nat) (x2_12 : Int32), L12 n12 x2_12 → G SM r X σ τ vs [(0, .ref (r 0)), (1, .int a1), (2, .int x2_12)] [] 12 := by
      intro n12
      induction n12 using Nat.strongRecOn with
      | _ n12 ih12 =>
        intro x2_12  w12_
        have w12_ := h12 n12 x2_12  w12_
        refine g_iload_n hF d_X14_pick_12 rfl 2 rfl ?_
        refine g_aload_n hF d_X14_pick_13 rfl 0 rfl ?_
        refine g_get (v := .int (σ 0 67)) hF 67 obM_0 (by decide) m_1932 rfl d_X14_pick_14 ?_
        refine g_icmp_ge hF 38 d_X14_pick_17 (by decide) rfl rfl (fun c => ?_) (fun c => ?_)
        · have w3 := w12_.1 c
          refine g_aload_n hF d_X14_pick_38 rfl 0 rfl ?_
          refine g_get (v := .ref (r 40)) hF 66 obM_0 (by decide) m_1931 rfl d_X14_pick_39 ?_
          refine g_aload_n hF d_X14_pick_42 rfl 0 rfl ?_
          refine g_get (v := .int (σ 0 67)) hF 67 obM_0 (by decide) m_1932 rfl d_X14_pick_43 ?_
          refine g_iload_n hF d_X14_pick_46 rfl 1 rfl ?_
          have w4 := w3.2
          refine g_iast hF arM_40 (s_in (Nat.le_of_ble_eq_true rfl) w3.1.1 w3.1.2) d_X14_pick_47 ?_
          refine g_aload_n hF d_X14_pick_48 rfl 0 rfl ?_
          refine g_dup hF d_X14_pick_49 rfl ?_
          refine g_get (v := .int (σ 0 67)) hF 67 obM_0 (by decide) m_1932 rfl d_X14_pick_50 ?_
          refine g_iconst hF (v := 1) d_X14_pick_53 (by decide) ?_
          refine g_iadd hF d_X14_pick_54 ?_
          refine g_put (v := ((σ 0 67) + (1 : Int32))) hF 67 obM_0 (by decide) m_1932 rfl rfl rfl d_X14_pick_55 ?_
          refine g_aload_n hF d_X14_pick_58 rfl 0 rfl ?_
          refine g_get (v := .int ((σ 0 67) + (1 : Int32))) hF 67 obM_0 (by decide) m_1932 rfl d_X14_pick_59 ?_
          exact g_iret hF rfl d_X14_pick_62 ⟨((σ 0 67) + (1 : Int32)), rfl, w4⟩
        · have w5 := w12_.2 c
          refine g_aload_n hF d_X14_pick_20 rfl 0 rfl ?_
          refine g_get (v := .ref (r 40)) hF 66 obM_0 (by decide) m_1931 rfl d_X14_pick_21 ?_
          refine g_iload_n hF d_X14_pick_24 rfl 2 rfl ?_
          have w6 := w5.2
          refine g_iald hF arM_40 (s_in (Nat.le_of_ble_eq_true rfl) w5.1.1 w5.1.2) d_X14_pick_25 ?_
          refine g_top (v := (σ 40 x2_12.toNatClampNeg)) rfl ?_
          refine g_iload_n hF d_X14_pick_26 rfl 1 rfl ?_
          refine g_icmp_ne hF 32 d_X14_pick_27 (by decide) rfl rfl (fun c => ?_) (fun c => ?_)
          · have w7 := w6.1 c
            refine g_iinc hF (x2_12 + 1) [(2, .int (x2_12 + 1)), (0, .ref (r 0)), (1, .int a1)] d_X14_pick_32 2 rfl rfl hnn (by decide) rfl ?_
            refine g_goto hF 12 d_X14_pick_35 (by decide) ?_
            obtain ⟨m12, hm12, w9⟩ := w7
            exact g_sub (L' := [(0, .ref (r 0)), (1, .int a1), (2, .int (x2_12 + 1))]) [1, 2, 0] rfl (ih12 m12 hm12 (x2_12 + 1) w9)
          · have w8 := w6.2 c
            refine g_iconst hF (v := (-1)) d_X14_pick_30 (by decide) ?_
            exact g_iret hF rfl d_X14_pick_31 ⟨((-1) : Int32), rfl, w8⟩
    exact g_sub (L' := [(0, .ref (r 0)), (1, .int a1), (2, .int 0)]) [1, 2, 0] rfl (b12 i12 (0 : Int32) u12)
  · have w9 := w1.2 c
    refine g_iconst hF (v := (-1)) d_X14_pick_8 (by decide) ?_
    exact g_iret hF rfl d_X14_pick_9 ⟨((-1) : Int32), rfl, w9⟩
