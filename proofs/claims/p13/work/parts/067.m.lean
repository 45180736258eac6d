set_option maxHeartbeats 4000000 in
set_option maxRecDepth 100000 in
theorem kt_X5_compared (a : Nat → Nat) (r : Nat → Nat) {a0 : Int32} {a1 : Int32} {a2 : Int32} {σ : St} {Q : Int32 → Prop} (w : wk_X5_compared a0 a1 a2 σ Q) (l : Launch) (D : va_G) (cy : Nat → ClassId) : Ct l D cy SC r (EC a gC) y_X5_compared (Cond.code y_X5_compared b_X5_compared 4 (some .boolean)) 0 [.int a0, .int a1, .int a2] σ Z0 [] (QI (fun x σ9 => (x = 0 ∨ x = 1) ∧ σ9 = σ ∧ Q x)) QT0 := by
  unfold wk_X5_compared at w
  refine Ct_of (EC_ok a gC) (by decide) (Nat.le_of_ble_eq_true rfl) (by decide) (fun X hnn hF => ?_)
  show G SC r X σ Z0 [] [(0, .int a0), (1, .int a1), (2, .int a2)] [] 0
  refine g_ldc (v := (-2147483648)) hF m_1232 d_X5_compared_0 ?_
  refine g_istore_n hF [(3, .int (-2147483648)), (0, .int a0), (1, .int a1), (2, .int a2)] d_X5_compared_2 rfl hnn (by decide) rfl ?_
  refine g_iload_n hF d_X5_compared_3 rfl 1 rfl ?_
  refine (Decidable.em (a0.toInt = 51)).elim (fun q4_0 => ?_) (fun q4_0 => ?_)
  · have w1 := w.1 q4_0
    refine g_tableIn (off := 56) hF 60 d_X5_compared_4 q4_0 (by decide) (by decide) (by decide +kernel) (by decide) ?_
    refine g_iload_n hF d_X5_compared_60 rfl 2 rfl ?_
    refine g_iload_n hF d_X5_compared_61 rfl 3 rfl ?_
    refine g_icmp_ne hF 69 d_X5_compared_62 (by decide) rfl rfl (fun c => ?_) (fun c => ?_)
    · have w2 := w1.1 c
      refine g_iconst hF (v := 0) d_X5_compared_69 (by decide) ?_
      exact g_zret hF rfl (k_nz (Or.inl rfl)) d_X5_compared_70 ⟨rfl, rfl, (0 : Int32), rfl, (Or.inl rfl), ⟨rfl, w2⟩⟩
    · have w3 := w1.2 c
      refine g_iconst hF (v := 1) d_X5_compared_65 (by decide) ?_
      refine g_goto hF 70 d_X5_compared_66 (by decide) ?_
      exact g_zret hF rfl (k_nz (Or.inr rfl)) d_X5_compared_70 ⟨rfl, rfl, (1 : Int32), rfl, (Or.inr rfl), ⟨rfl, w3⟩⟩
  have w4 := w.2 q4_0
  refine (Decidable.em (a0.toInt = 52)).elim (fun q4_1 => ?_) (fun q4_1 => ?_)
  · have w5 := w4.1 q4_1
    refine g_tableIn (off := 67) hF 71 d_X5_compared_4 q4_1 (by decide) (by decide) (by decide +kernel) (by decide) ?_
    refine g_iload_n hF d_X5_compared_71 rfl 2 rfl ?_
    refine g_iload_n hF d_X5_compared_72 rfl 3 rfl ?_
    refine g_icmp_eq hF 80 d_X5_compared_73 (by decide) rfl rfl (fun c => ?_) (fun c => ?_)
    · have w6 := w5.1 c
      refine g_iconst hF (v := 0) d_X5_compared_80 (by decide) ?_
      exact g_zret hF rfl (k_nz (Or.inl rfl)) d_X5_compared_81 ⟨rfl, rfl, (0 : Int32), rfl, (Or.inl rfl), ⟨rfl, w6⟩⟩
    · have w7 := w5.2 c
      refine g_iconst hF (v := 1) d_X5_compared_76 (by decide) ?_
      refine g_goto hF 81 d_X5_compared_77 (by decide) ?_
      exact g_zret hF rfl (k_nz (Or.inr rfl)) d_X5_compared_81 ⟨rfl, rfl, (1 : Int32), rfl, (Or.inr rfl), ⟨rfl, w7⟩⟩
  have w8 := w4.2 q4_1
  refine (Decidable.em (a0.toInt = 53)).elim (fun q4_2 => ?_) (fun q4_2 => ?_)
  · have w9 := w8.1 q4_2
    refine g_tableIn (off := 78) hF 82 d_X5_compared_4 q4_2 (by decide) (by decide) (by decide +kernel) (by decide) ?_
    refine g_iload_n hF d_X5_compared_82 rfl 2 rfl ?_
    refine g_iload_n hF d_X5_compared_83 rfl 3 rfl ?_
    refine g_icmp_ge hF 91 d_X5_compared_84 (by decide) rfl rfl (fun c => ?_) (fun c => ?_)
    · have w10 := w9.1 c
      refine g_iconst hF (v := 0) d_X5_compared_91 (by decide) ?_
      exact g_zret hF rfl (k_nz (Or.inl rfl)) d_X5_compared_92 ⟨rfl, rfl, (0 : Int32), rfl, (Or.inl rfl), ⟨rfl, w10⟩⟩
    · have w11 := w9.2 c
      refine g_iconst hF (v := 1) d_X5_compared_87 (by decide) ?_
      refine g_goto hF 92 d_X5_compared_88 (by decide) ?_
      exact g_zret hF rfl (k_nz (Or.inr rfl)) d_X5_compared_92 ⟨rfl, rfl, (1 : Int32), rfl, (Or.inr rfl), ⟨rfl, w11⟩⟩
  have w12 := w8.2 q4_2
  refine (Decidable.em (a0.toInt = 54)).elim (fun q4_3 => ?_) (fun q4_3 => ?_)
  · have w13 := w12.1 q4_3
    refine g_tableIn (off := 89) hF 93 d_X5_compared_4 q4_3 (by decide) (by decide) (by decide +kernel) (by decide) ?_
    refine g_iload_n hF d_X5_compared_93 rfl 2 rfl ?_
    refine g_iload_n hF d_X5_compared_94 rfl 3 rfl ?_
    refine g_icmp_le hF 102 d_X5_compared_95 (by decide) rfl rfl (fun c => ?_) (fun c => ?_)
    · have w14 := w13.1 c
      refine g_iconst hF (v := 0) d_X5_compared_102 (by decide) ?_
      exact g_zret hF rfl (k_nz (Or.inl rfl)) d_X5_compared_103 ⟨rfl, rfl, (0 : Int32), rfl, (Or.inl rfl), ⟨rfl, w14⟩⟩
    · have w15 := w13.2 c
      refine g_iconst hF (v := 1) d_X5_compared_98 (by decide) ?_
      refine g_goto hF 103 d_X5_compared_99 (by decide) ?_
      exact g_zret hF rfl (k_nz (Or.inr rfl)) d_X5_compared_103 ⟨rfl, rfl, (1 : Int32), rfl, (Or.inr rfl), ⟨rfl, w15⟩⟩
  have w16 := w12.2 q4_3
  refine (Decidable.em (a0.toInt = 55)).elim (fun q4_4 => ?_) (fun q4_4 => ?_)
  · have w17 := w16.1 q4_4
    refine g_tableIn (off := 100) hF 104 d_X5_compared_4 q4_4 (by decide) (by decide) (by decide +kernel) (by decide) ?_
    refine g_iload_n hF d_X5_compared_104 rfl 2 rfl ?_
    refine g_iload_n hF d_X5_compared_105 rfl 3 rfl ?_
    refine g_icmp_gt hF 113 d_X5_compared_106 (by decide) rfl rfl (fun c => ?_) (fun c => ?_)
    · have w18 := w17.1 c
      refine g_iconst hF (v := 0) d_X5_compared_113 (by decide) ?_
      exact g_zret hF rfl (k_nz (Or.inl rfl)) d_X5_compared_114 ⟨rfl, rfl, (0 : Int32), rfl, (Or.inl rfl), ⟨rfl, w18⟩⟩
    · have w19 := w17.2 c
      refine g_iconst hF (v := 1) d_X5_compared_109 (by decide) ?_
      refine g_goto hF 114 d_X5_compared_110 (by decide) ?_
      exact g_zret hF rfl (k_nz (Or.inr rfl)) d_X5_compared_114 ⟨rfl, rfl, (1 : Int32), rfl, (Or.inr rfl), ⟨rfl, w19⟩⟩
  have w20 := w16.2 q4_4
  refine (Decidable.em (a0.toInt = 56)).elim (fun q4_5 => ?_) (fun q4_5 => ?_)
  · have w21 := w20.1 q4_5
    refine g_tableIn (off := 111) hF 115 d_X5_compared_4 q4_5 (by decide) (by decide) (by decide +kernel) (by decide) ?_
    refine g_iload_n hF d_X5_compared_115 rfl 2 rfl ?_
    refine g_iload_n hF d_X5_compared_116 rfl 3 rfl ?_
    refine g_icmp_lt hF 124 d_X5_compared_117 (by decide) rfl rfl (fun c => ?_) (fun c => ?_)
    · have w22 := w21.1 c
      refine g_iconst hF (v := 0) d_X5_compared_124 (by decide) ?_
      exact g_zret hF rfl (k_nz (Or.inl rfl)) d_X5_compared_125 ⟨rfl, rfl, (0 : Int32), rfl, (Or.inl rfl), ⟨rfl, w22⟩⟩
    · have w23 := w21.2 c
      refine g_iconst hF (v := 1) d_X5_compared_120 (by decide) ?_
      refine g_goto hF 125 d_X5_compared_121 (by decide) ?_
      exact g_zret hF rfl (k_nz (Or.inr rfl)) d_X5_compared_125 ⟨rfl, rfl, (1 : Int32), rfl, (Or.inr rfl), ⟨rfl, w23⟩⟩
  have w24 := w20.2 q4_5
  refine (Decidable.em (a0.toInt = 57)).elim (fun q4_6 => ?_) (fun q4_6 => ?_)
  · have w25 := w24.1 q4_6
    refine g_tableIn (off := 122) hF 126 d_X5_compared_4 q4_6 (by decide) (by decide) (by decide +kernel) (by decide) ?_
    refine g_iload_n hF d_X5_compared_126 rfl 2 rfl ?_
    refine g_iload_n hF d_X5_compared_127 rfl 0 rfl ?_
    refine g_iadd hF d_X5_compared_128 ?_
    refine g_iload_n hF d_X5_compared_129 rfl 3 rfl ?_
    refine g_iload_n hF d_X5_compared_130 rfl 0 rfl ?_
    refine g_iadd hF d_X5_compared_131 ?_
    refine g_icmp_ge hF 139 d_X5_compared_132 (by decide) rfl rfl (fun c => ?_) (fun c => ?_)
    · have w26 := w25.1 c
      refine g_iconst hF (v := 0) d_X5_compared_139 (by decide) ?_
      exact g_zret hF rfl (k_nz (Or.inl rfl)) d_X5_compared_140 ⟨rfl, rfl, (0 : Int32), rfl, (Or.inl rfl), ⟨rfl, w26⟩⟩
    · have w27 := w25.2 c
      refine g_iconst hF (v := 1) d_X5_compared_135 (by decide) ?_
      refine g_goto hF 140 d_X5_compared_136 (by decide) ?_
      exact g_zret hF rfl (k_nz (Or.inr rfl)) d_X5_compared_140 ⟨rfl, rfl, (1 : Int32), rfl, (Or.inr rfl), ⟨rfl, w27⟩⟩
  have w28 := w24.2 q4_6
  refine (Decidable.em (a0.toInt = 58)).elim (fun q4_7 => ?_) (fun q4_7 => ?_)
  · have w29 := w28.1 q4_7
    refine g_tableIn (off := 137) hF 141 d_X5_compared_4 q4_7 (by decide) (by decide) (by decide +kernel) (by decide) ?_
    refine g_iload_n hF d_X5_compared_141 rfl 2 rfl ?_
    refine g_iload_n hF d_X5_compared_142 rfl 0 rfl ?_
    refine g_iadd hF d_X5_compared_143 ?_
    refine g_iload_n hF d_X5_compared_144 rfl 3 rfl ?_
    refine g_iload_n hF d_X5_compared_145 rfl 0 rfl ?_
    refine g_iadd hF d_X5_compared_146 ?_
    refine g_icmp_le hF 154 d_X5_compared_147 (by decide) rfl rfl (fun c => ?_) (fun c => ?_)
    · have w30 := w29.1 c
      refine g_iconst hF (v := 0) d_X5_compared_154 (by decide) ?_
      exact g_zret hF rfl (k_nz (Or.inl rfl)) d_X5_compared_155 ⟨rfl, rfl, (0 : Int32), rfl, (Or.inl rfl), ⟨rfl, w30⟩⟩
    · have w31 := w29.2 c
      refine g_iconst hF (v := 1) d_X5_compared_150 (by decide) ?_
      refine g_goto hF 155 d_X5_compared_151 (by decide) ?_
      exact g_zret hF rfl (k_nz (Or.inr rfl)) d_X5_compared_155 ⟨rfl, rfl, (1 : Int32), rfl, (Or.inr rfl), ⟨rfl, w31⟩⟩
  have w32 := w28.2 q4_7
  refine (Decidable.em (a0.toInt = 59)).elim (fun q4_8 => ?_) (fun q4_8 => ?_)
  · have w33 := w32.1 q4_8
    refine g_tableIn (off := 152) hF 156 d_X5_compared_4 q4_8 (by decide) (by decide) (by decide +kernel) (by decide) ?_
    refine g_iload_n hF d_X5_compared_156 rfl 2 rfl ?_
    refine g_iload_n hF d_X5_compared_157 rfl 0 rfl ?_
    refine g_iadd hF d_X5_compared_158 ?_
    refine g_iload_n hF d_X5_compared_159 rfl 3 rfl ?_
    refine g_iload_n hF d_X5_compared_160 rfl 0 rfl ?_
    refine g_iadd hF d_X5_compared_161 ?_
    refine g_icmp_gt hF 169 d_X5_compared_162 (by decide) rfl rfl (fun c => ?_) (fun c => ?_)
    · have w34 := w33.1 c
      refine g_iconst hF (v := 0) d_X5_compared_169 (by decide) ?_
      exact g_zret hF rfl (k_nz (Or.inl rfl)) d_X5_compared_170 ⟨rfl, rfl, (0 : Int32), rfl, (Or.inl rfl), ⟨rfl, w34⟩⟩
    · have w35 := w33.2 c
      refine g_iconst hF (v := 1) d_X5_compared_165 (by decide) ?_
      refine g_goto hF 170 d_X5_compared_166 (by decide) ?_
      exact g_zret hF rfl (k_nz (Or.inr rfl)) d_X5_compared_170 ⟨rfl, rfl, (1 : Int32), rfl, (Or.inr rfl), ⟨rfl, w35⟩⟩
  have w36 := w32.2 q4_8
  refine (Decidable.em (a0.toInt = 60)).elim (fun q4_9 => ?_) (fun q4_9 => ?_)
  · have w37 := w36.1 q4_9
    refine g_tableIn (off := 167) hF 171 d_X5_compared_4 q4_9 (by decide) (by decide) (by decide +kernel) (by decide) ?_
    refine g_iload_n hF d_X5_compared_171 rfl 2 rfl ?_
    refine g_iload_n hF d_X5_compared_172 rfl 0 rfl ?_
    refine g_iadd hF d_X5_compared_173 ?_
    refine g_iload_n hF d_X5_compared_174 rfl 3 rfl ?_
    refine g_iload_n hF d_X5_compared_175 rfl 0 rfl ?_
    refine g_iadd hF d_X5_compared_176 ?_
    refine g_icmp_lt hF 184 d_X5_compared_177 (by decide) rfl rfl (fun c => ?_) (fun c => ?_)
    · have w38 := w37.1 c
      refine g_iconst hF (v := 0) d_X5_compared_184 (by decide) ?_
      exact g_zret hF rfl (k_nz (Or.inl rfl)) d_X5_compared_185 ⟨rfl, rfl, (0 : Int32), rfl, (Or.inl rfl), ⟨rfl, w38⟩⟩
    · have w39 := w37.2 c
      refine g_iconst hF (v := 1) d_X5_compared_180 (by decide) ?_
      refine g_goto hF 185 d_X5_compared_181 (by decide) ?_
      exact g_zret hF rfl (k_nz (Or.inr rfl)) d_X5_compared_185 ⟨rfl, rfl, (1 : Int32), rfl, (Or.inr rfl), ⟨rfl, w39⟩⟩
  have w40 := w36.2 q4_9
  refine g_tableOut hF 186 d_X5_compared_4 rfl (tbo_51_60 q4_0 q4_1 q4_2 q4_3 q4_4 q4_5 q4_6 q4_7 q4_8 q4_9) (by decide) ?_
  refine g_iconst hF (v := 0) d_X5_compared_186 (by decide) ?_
  exact g_zret hF rfl (k_nz (Or.inl rfl)) d_X5_compared_187 ⟨rfl, rfl, (0 : Int32), rfl, (Or.inl rfl), ⟨rfl, w40⟩⟩
set_option maxHeartbeats 4000000 in
set_option maxRecDepth 100000 in
theorem kt_X5_worked (a : Nat → Nat) (r : Nat → Nat) {a0 : Int32} {a1 : Int32} {a2 : Int32} {σ : St} {Q : Int32 → Prop} (w : wk_X5_worked a0 a1 a2 σ Q) (l : Launch) (D : va_G) (cy : Nat → ClassId) : Ct l D cy SC r (EC a gC) y_X5_worked (Cond.code y_X5_worked b_X5_worked 3 (some .int)) 1 [.int a0, .int a1, .int a2] σ Z0 [] (QI (fun x σ9 => σ9 = σ ∧ Q x)) QT0 := by
  unfold wk_X5_worked at w
  refine Ct_of (EC_ok a gC) (by decide) (Nat.le_of_ble_eq_true rfl) (by decide) (fun X hnn hF => ?_)
  show G SC r X σ Z0 [] [(0, .int a0), (1, .int a1), (2, .int a2)] [] 0
  refine g_iload_n hF d_X5_worked_0 rfl 0 rfl ?_
  refine (Decidable.em (a0.toInt = 41)).elim (fun q1_0 => ?_) (fun q1_0 => ?_)
  · have w1 := w.1 q1_0
    refine g_tableIn (off := 55) hF 56 d_X5_worked_1 q1_0 (by decide) (by decide) (by decide +kernel) (by decide) ?_
    refine g_iload_n hF d_X5_worked_56 rfl 1 rfl ?_
    refine g_iload_n hF d_X5_worked_57 rfl 2 rfl ?_
    refine g_bipush hF (v := 31) d_X5_worked_58 (by decide) ?_
    refine g_iand hF d_X5_worked_60 ?_
    refine g_ishl hF d_X5_worked_61 ?_
    exact g_iret hF rfl d_X5_worked_62 ⟨rfl, rfl, (a1 <<< ((a2 &&& (31 : Int32)) &&& 31)), rfl, ⟨rfl, w1⟩⟩
  have w2 := w.2 q1_0
  refine (Decidable.em (a0.toInt = 42)).elim (fun q1_1 => ?_) (fun q1_1 => ?_)
  · have w3 := w2.1 q1_1
    refine g_tableIn (off := 62) hF 63 d_X5_worked_1 q1_1 (by decide) (by decide) (by decide +kernel) (by decide) ?_
    refine g_iload_n hF d_X5_worked_63 rfl 1 rfl ?_
    refine g_iload_n hF d_X5_worked_64 rfl 2 rfl ?_
    refine g_bipush hF (v := 31) d_X5_worked_65 (by decide) ?_
    refine g_iand hF d_X5_worked_67 ?_
    refine g_ishr hF d_X5_worked_68 ?_
    exact g_iret hF rfl d_X5_worked_69 ⟨rfl, rfl, (a1 >>> ((a2 &&& (31 : Int32)) &&& 31)), rfl, ⟨rfl, w3⟩⟩
  have w4 := w2.2 q1_1
  refine (Decidable.em (a0.toInt = 43)).elim (fun q1_2 => ?_) (fun q1_2 => ?_)
  · have w5 := w4.1 q1_2
    refine g_tableIn (off := 69) hF 70 d_X5_worked_1 q1_2 (by decide) (by decide) (by decide +kernel) (by decide) ?_
    refine g_iload_n hF d_X5_worked_70 rfl 1 rfl ?_
    refine g_iload_n hF d_X5_worked_71 rfl 2 rfl ?_
    refine g_iadd hF d_X5_worked_72 ?_
    exact g_iret hF rfl d_X5_worked_73 ⟨rfl, rfl, (a1 + a2), rfl, ⟨rfl, w5⟩⟩
  have w6 := w4.2 q1_2
  refine (Decidable.em (a0.toInt = 44)).elim (fun q1_3 => ?_) (fun q1_3 => ?_)
  · have w7 := w6.1 q1_3
    refine g_tableIn (off := 73) hF 74 d_X5_worked_1 q1_3 (by decide) (by decide) (by decide +kernel) (by decide) ?_
    refine g_iload_n hF d_X5_worked_74 rfl 1 rfl ?_
    refine g_iload_n hF d_X5_worked_75 rfl 2 rfl ?_
    refine g_isub hF d_X5_worked_76 ?_
    exact g_iret hF rfl d_X5_worked_77 ⟨rfl, rfl, (a1 - a2), rfl, ⟨rfl, w7⟩⟩
  have w8 := w6.2 q1_3
  refine (Decidable.em (a0.toInt = 45)).elim (fun q1_4 => ?_) (fun q1_4 => ?_)
  · have w9 := w8.1 q1_4
    refine g_tableIn (off := 77) hF 78 d_X5_worked_1 q1_4 (by decide) (by decide) (by decide +kernel) (by decide) ?_
    refine g_iload_n hF d_X5_worked_78 rfl 1 rfl ?_
    refine g_iload_n hF d_X5_worked_79 rfl 2 rfl ?_
    refine g_imul hF d_X5_worked_80 ?_
    exact g_iret hF rfl d_X5_worked_81 ⟨rfl, rfl, (a1 * a2), rfl, ⟨rfl, w9⟩⟩
  have w10 := w8.2 q1_4
  refine (Decidable.em (a0.toInt = 46)).elim (fun q1_5 => ?_) (fun q1_5 => ?_)
  · have w11 := w10.1 q1_5
    refine g_tableIn (off := 81) hF 82 d_X5_worked_1 q1_5 (by decide) (by decide) (by decide +kernel) (by decide) ?_
    refine g_iload_n hF d_X5_worked_82 rfl 2 rfl ?_
    refine g_if_ne hF 90 d_X5_worked_83 (by decide) rfl (fun c => ?_) (fun c => ?_)
    · have w12 := w11.1 c
      refine g_iload_n hF d_X5_worked_90 rfl 1 rfl ?_
      refine g_iload_n hF d_X5_worked_91 rfl 2 rfl ?_
      have w13 := w12.2
      refine g_idiv hF d_X5_worked_92 w12.1 ?_
      exact g_iret hF rfl d_X5_worked_93 ⟨rfl, rfl, (a1 / a2), rfl, ⟨rfl, w13⟩⟩
    · have w14 := w11.2 c
      refine g_iconst hF (v := 0) d_X5_worked_86 (by decide) ?_
      refine g_goto hF 93 d_X5_worked_87 (by decide) ?_
      exact g_iret hF rfl d_X5_worked_93 ⟨rfl, rfl, (0 : Int32), rfl, ⟨rfl, w14⟩⟩
  have w15 := w10.2 q1_5
  refine (Decidable.em (a0.toInt = 47)).elim (fun q1_6 => ?_) (fun q1_6 => ?_)
  · have w16 := w15.1 q1_6
    refine g_tableIn (off := 93) hF 94 d_X5_worked_1 q1_6 (by decide) (by decide) (by decide +kernel) (by decide) ?_
    refine g_iload_n hF d_X5_worked_94 rfl 2 rfl ?_
    refine g_if_ne hF 102 d_X5_worked_95 (by decide) rfl (fun c => ?_) (fun c => ?_)
    · have w17 := w16.1 c
      refine g_iload_n hF d_X5_worked_102 rfl 1 rfl ?_
      refine g_iload_n hF d_X5_worked_103 rfl 2 rfl ?_
      have w18 := w17.2
      refine g_irem hF d_X5_worked_104 w17.1 ?_
      exact g_iret hF rfl d_X5_worked_105 ⟨rfl, rfl, (a1 - a1 / a2 * a2), rfl, ⟨rfl, w18⟩⟩
    · have w19 := w16.2 c
      refine g_iconst hF (v := 0) d_X5_worked_98 (by decide) ?_
      refine g_goto hF 105 d_X5_worked_99 (by decide) ?_
      exact g_iret hF rfl d_X5_worked_105 ⟨rfl, rfl, (0 : Int32), rfl, ⟨rfl, w19⟩⟩
  have w20 := w15.2 q1_6
  refine (Decidable.em (a0.toInt = 48)).elim (fun q1_7 => ?_) (fun q1_7 => ?_)
  · have w21 := w20.1 q1_7
    refine g_tableIn (off := 105) hF 106 d_X5_worked_1 q1_7 (by decide) (by decide) (by decide +kernel) (by decide) ?_
    refine g_iload_n hF d_X5_worked_106 rfl 1 rfl ?_
    refine g_iload_n hF d_X5_worked_107 rfl 2 rfl ?_
    refine g_iand hF d_X5_worked_108 ?_
    exact g_iret hF rfl d_X5_worked_109 ⟨rfl, rfl, (a1 &&& a2), rfl, ⟨rfl, w21⟩⟩
  have w22 := w20.2 q1_7
  refine (Decidable.em (a0.toInt = 49)).elim (fun q1_8 => ?_) (fun q1_8 => ?_)
  · have w23 := w22.1 q1_8
    refine g_tableIn (off := 109) hF 110 d_X5_worked_1 q1_8 (by decide) (by decide) (by decide +kernel) (by decide) ?_
    refine g_iload_n hF d_X5_worked_110 rfl 1 rfl ?_
    refine g_iload_n hF d_X5_worked_111 rfl 2 rfl ?_
    refine g_ior hF d_X5_worked_112 ?_
    exact g_iret hF rfl d_X5_worked_113 ⟨rfl, rfl, (a1 ||| a2), rfl, ⟨rfl, w23⟩⟩
  have w24 := w22.2 q1_8
  refine (Decidable.em (a0.toInt = 50)).elim (fun q1_9 => ?_) (fun q1_9 => ?_)
  · have w25 := w24.1 q1_9
    refine g_tableIn (off := 113) hF 114 d_X5_worked_1 q1_9 (by decide) (by decide) (by decide +kernel) (by decide) ?_
    refine g_iload_n hF d_X5_worked_114 rfl 1 rfl ?_
    refine g_iload_n hF d_X5_worked_115 rfl 2 rfl ?_
    refine g_ixor hF d_X5_worked_116 ?_
    exact g_iret hF rfl d_X5_worked_117 ⟨rfl, rfl, (a1 ^^^ a2), rfl, ⟨rfl, w25⟩⟩
  have w26 := w24.2 q1_9
  refine g_tableOut hF 118 d_X5_worked_1 rfl (tbo_41_50 q1_0 q1_1 q1_2 q1_3 q1_4 q1_5 q1_6 q1_7 q1_8 q1_9) (by decide) ?_
  refine g_iload_n hF d_X5_worked_118 rfl 0 rfl ?_
  refine g_iload_n hF d_X5_worked_119 rfl 1 rfl ?_
  refine g_iload_n hF d_X5_worked_120 rfl 2 rfl ?_
  refine g_callS (As := [.int a0, .int a1, .int a2]) (rest := []) hF (fun l D cy => kt_X5_compared a r w26 l D cy) (Nat.le_of_ble_eq_true rfl) mS_X5_compared m_1229 rfl rfl (Nat.le_of_ble_eq_true rfl) d_X5_worked_121 (qZr (fun v121 hz121 w27 => ?_)) (fun _ _ _ h => h.elim)
  refine g_if_eq hF 131 d_X5_worked_124 (by decide) rfl (fun c => ?_) (fun c => ?_)
  · have w28 := w27.1 c
    refine g_iconst hF (v := 0) d_X5_worked_131 (by decide) ?_
    exact g_iret hF rfl d_X5_worked_132 ⟨rfl, rfl, (0 : Int32), rfl, ⟨rfl, w28⟩⟩
  · have w29 := w27.2 c
    refine g_iconst hF (v := 1) d_X5_worked_127 (by decide) ?_
    refine g_goto hF 132 d_X5_worked_128 (by decide) ?_
    exact g_iret hF rfl d_X5_worked_132 ⟨rfl, rfl, (1 : Int32), rfl, ⟨rfl, w29⟩⟩
set_option maxHeartbeats 4000000 in
set_option maxRecDepth 100000 in
theorem kt_X2_combine (a : Nat → Nat) (r : Nat → Nat) {a0 : Int32} {a1 : Nat} {a2 : Nat} {σ : St} {Q : St → Prop} (ha1 : isOp a1) (ha2 : isOp a2) (w : wk_X2_combine a0 a1 a2 σ Q) (l : Launch) (D : va_G) (cy : Nat → ClassId) : Ct l D cy SC r (EC a gC) y_X2_combine (Cond.code y_X2_combine b_X2_combine 5 none) 2 [.int a0, .ref (r a1), .ref (r a2)] σ Z0 [] (QV Q) QT0 := by
  unfold wk_X2_combine at w
  refine Ct_of (EC_ok a gC) (by decide) (Nat.le_of_ble_eq_true rfl) (by decide) (fun X hnn hF => ?_)
  show G SC r X σ Z0 [] [(0, .int a0), (1, .ref (r a1)), (2, .ref (r a2))] [] 0
  refine g_iload_n hF d_X2_combine_0 rfl 0 rfl ?_
  refine g_bipush hF (v := 46) d_X2_combine_1 (by decide) ?_
  obtain ⟨J24, h24, w1⟩ := w
  have b24 : ∀ (y0_24 : Int32), y0_24 = 0 ∨ y0_24 = 1 → J24 y0_24 → G SC r X σ Z0 [] [(0, .int a0), (1, .ref (r a1)), (2, .ref (r a2))] [.int y0_24] 24 := by
    intro y0_24 hy0_24 w24_
    have w24_ := h24 y0_24 hy0_24 w24_
    refine g_istore_n hF [(3, .int y0_24), (0, .int a0), (1, .ref (r a1)), (2, .ref (r a2))] d_X2_combine_24 rfl hnn (by decide) rfl ?_
    refine g_iload_n hF d_X2_combine_25 rfl 1 rfl ?_
    refine g_bipush hF (v := 43) d_X2_combine_26 (by decide) ?_
    obtain ⟨J42, h42, w2⟩ := w24_
    have b42 : ∀ (y0_42 : Int32), y0_42 = 0 ∨ y0_42 = 1 → J42 y0_42 → G SC r X σ Z0 [] [(0, .int a0), (1, .ref (r a1)), (2, .ref (r a2)), (3, .int y0_24)] [.int y0_42] 42 := by
      intro y0_42 hy0_42 w42_
      have w42_ := h42 y0_42 hy0_42 w42_
      refine g_istore hF [(4, .int y0_42), (0, .int a0), (1, .ref (r a1)), (2, .ref (r a2)), (3, .int y0_24)] d_X2_combine_42 hnn (by decide) rfl ?_
      refine g_aload_n hF d_X2_combine_44 rfl 2 rfl ?_
      refine g_callVN (As := []) (rest := []) hF (fun l D cy => kt_X6_isConstant a r ha1 w42_ l D cy) (Nat.le_of_ble_eq_true rfl) mV_X6_isConstant nm_1222 (recv_ob (obC_op ha1)) rfl rfl (Nat.le_of_ble_eq_true rfl) d_X2_combine_45 (qZr (fun v45 hz45 w3 => ?_))
      obtain ⟨J87, h87, w4⟩ := w3
      have b87 : J87  → G SC r X σ Z0 [] [(0, .int a0), (1, .ref (r a1)), (2, .ref (r a2)), (4, .int y0_42)] [] 87 := by
        intro   w87_
        have w87_ := h87   w87_
        refine g_iload hF d_X2_combine_87 3 rfl ?_
        obtain ⟨J126, h126, w5⟩ := w87_
        have b126 : J126  → G SC r X σ Z0 [] [(0, .int a0), (1, .ref (r a1)), (2, .ref (r a2))] [] 126 := by
          intro   w126_
          have w126_ := h126   w126_
          refine g_iload_n hF d_X2_combine_126 rfl 0 rfl ?_
          refine g_bipush hF (v := 43) d_X2_combine_127 (by decide) ?_
          refine g_icmp_ne (yv := 43) hF 176 d_X2_combine_129 (by decide) rfl (by decide) (fun c => ?_) (fun c => ?_)
          · have w6 := w126_.1 c
            refine g_aload_n hF d_X2_combine_176 rfl 1 rfl ?_
            refine g_iconst hF (v := 0) d_X2_combine_177 (by decide) ?_
            refine g_putN (v := 0) hF 6 (obC_op ha1) (by decide) nm_412 rfl rfl (rf_op ha1) d_X2_combine_178 ?_
            obtain ⟨s6n, es6n⟩ : ∃ z, z = upC σ a1 6 (0 : Int32) := ⟨_, rfl⟩
            rw [← es6n]
            have w8 := w6 s6n es6n
            exact g_vret hF rfl d_X2_combine_181 ⟨rfl, rfl, rfl, w8⟩
          · have w9 := w126_.2 c
            refine g_aload_n hF d_X2_combine_132 rfl 1 rfl ?_
            refine g_callVN (As := []) (rest := []) hF (fun l D cy => kt_X6_isConstant a r ha1 w9 l D cy) (Nat.le_of_ble_eq_true rfl) mV_X6_isConstant nm_1222 (recv_ob (obC_op ha1)) rfl rfl (Nat.le_of_ble_eq_true rfl) d_X2_combine_133 (qZr (fun v133 hz133 w10 => ?_))
            refine g_if_eq hF 176 d_X2_combine_136 (by decide) rfl (fun c => ?_) (fun c => ?_)
            · have w11 := w10.1 c
              refine g_aload_n hF d_X2_combine_176 rfl 1 rfl ?_
              refine g_iconst hF (v := 0) d_X2_combine_177 (by decide) ?_
              refine g_putN (v := 0) hF 6 (obC_op ha1) (by decide) nm_412 rfl rfl (rf_op ha1) d_X2_combine_178 ?_
              obtain ⟨s11n, es11n⟩ : ∃ z, z = upC σ a1 6 (0 : Int32) := ⟨_, rfl⟩
              rw [← es11n]
              have w13 := w11 s11n es11n
              exact g_vret hF rfl d_X2_combine_181 ⟨rfl, rfl, rfl, w13⟩
            · have w14 := w10.2 c
              refine g_aload_n hF d_X2_combine_139 rfl 2 rfl ?_
              refine g_getN (v := .int (σ a2 6)) hF 6 (obC_op ha2) (by decide) nm_412 (fval_op ha2) d_X2_combine_140 ?_
              refine g_iconst hF (v := 2) d_X2_combine_143 (by decide) ?_
              refine g_icmp_ne (yv := 2) hF 176 d_X2_combine_144 (by decide) rfl (by decide) (fun c => ?_) (fun c => ?_)
              · have w15 := w14.1 c
                refine g_aload_n hF d_X2_combine_176 rfl 1 rfl ?_
                refine g_iconst hF (v := 0) d_X2_combine_177 (by decide) ?_
                refine g_putN (v := 0) hF 6 (obC_op ha1) (by decide) nm_412 rfl rfl (rf_op ha1) d_X2_combine_178 ?_
                obtain ⟨s15n, es15n⟩ : ∃ z, z = upC σ a1 6 (0 : Int32) := ⟨_, rfl⟩
                rw [← es15n]
                have w17 := w15 s15n es15n
                exact g_vret hF rfl d_X2_combine_181 ⟨rfl, rfl, rfl, w17⟩
              · have w18 := w14.2 c
                refine g_aload_n hF d_X2_combine_147 rfl 1 rfl ?_
                refine g_iconst hF (v := 2) d_X2_combine_148 (by decide) ?_
                refine g_putN (v := 2) hF 6 (obC_op ha1) (by decide) nm_412 rfl rfl (rf_op ha1) d_X2_combine_149 ?_
                obtain ⟨s18n, es18n⟩ : ∃ z, z = upC σ a1 6 (2 : Int32) := ⟨_, rfl⟩
                rw [← es18n]
                have w20 := w18 s18n es18n
                refine g_aload_n hF d_X2_combine_152 rfl 1 rfl ?_
                refine g_aload_n hF d_X2_combine_153 rfl 2 rfl ?_
                refine g_getN (v := .int (s18n a2 7)) hF 7 (obC_op ha2) (by decide) nm_414 (fval_op ha2) d_X2_combine_154 ?_
                refine g_putN (v := (s18n a2 7)) hF 7 (obC_op ha1) (by decide) nm_414 rfl rfl (rf_op ha1) d_X2_combine_157 ?_
                obtain ⟨s20n, es20n⟩ : ∃ z, z = upC s18n a1 7 (s18n a2 7) := ⟨_, rfl⟩
                rw [← es20n]
                have w22 := w20 s20n es20n
                refine g_aload_n hF d_X2_combine_160 rfl 1 rfl ?_
                refine g_dup hF d_X2_combine_161 rfl ?_
                refine g_getN (v := .int (s20n a1 8)) hF 8 (obC_op ha1) (by decide) nm_418 (fval_op ha1) d_X2_combine_162 ?_
                refine g_aload_n hF d_X2_combine_165 rfl 2 rfl ?_
                refine g_getN (v := .int (s20n a2 8)) hF 8 (obC_op ha2) (by decide) nm_418 (fval_op ha2) d_X2_combine_166 ?_
                refine g_iadd hF d_X2_combine_169 ?_
                refine g_putN (v := ((s20n a1 8) + (s20n a2 8))) hF 8 (obC_op ha1) (by decide) nm_418 rfl rfl (rf_op ha1) d_X2_combine_170 ?_
                obtain ⟨s22n, es22n⟩ : ∃ z, z = upC s20n a1 8 ((s20n a1 8) + (s20n a2 8)) := ⟨_, rfl⟩
                rw [← es22n]
                have w24 := w22 s22n es22n
                refine g_goto hF 181 d_X2_combine_173 (by decide) ?_
                exact g_vret hF rfl d_X2_combine_181 ⟨rfl, rfl, rfl, w24⟩
        refine g_if_eq hF 126 d_X2_combine_89 (by decide) rfl (fun c => ?_) (fun c => ?_)
        · have w25 := w5.1 c
          exact g_sub (L' := [(0, .int a0), (1, .ref (r a1)), (2, .ref (r a2))]) [0, 1, 2] rfl (b126  w25)
        · have w26 := w5.2 c
          refine g_aload_n hF d_X2_combine_92 rfl 1 rfl ?_
          refine g_getN (v := .int (σ a1 6)) hF 6 (obC_op ha1) (by decide) nm_412 (fval_op ha1) d_X2_combine_93 ?_
          refine g_iconst hF (v := 2) d_X2_combine_96 (by decide) ?_
          refine g_icmp_ne (yv := 2) hF 126 d_X2_combine_97 (by decide) rfl (by decide) (fun c => ?_) (fun c => ?_)
          · have w27 := w26.1 c
            exact g_sub (L' := [(0, .int a0), (1, .ref (r a1)), (2, .ref (r a2))]) [0, 1, 2] rfl (b126  w27)
          · have w28 := w26.2 c
            refine g_aload_n hF d_X2_combine_100 rfl 2 rfl ?_
            refine g_callVN (As := []) (rest := []) hF (fun l D cy => kt_X6_isConstant a r ha2 w28 l D cy) (Nat.le_of_ble_eq_true rfl) mV_X6_isConstant nm_1222 (recv_ob (obC_op ha2)) rfl rfl (Nat.le_of_ble_eq_true rfl) d_X2_combine_101 (qZr (fun v101 hz101 w29 => ?_))
            refine g_if_eq hF 126 d_X2_combine_104 (by decide) rfl (fun c => ?_) (fun c => ?_)
            · have w30 := w29.1 c
              exact g_sub (L' := [(0, .int a0), (1, .ref (r a1)), (2, .ref (r a2))]) [0, 1, 2] rfl (b126  w30)
            · have w31 := w29.2 c
              refine g_aload_n hF d_X2_combine_107 rfl 1 rfl ?_
              refine g_iload_n hF d_X2_combine_108 rfl 0 rfl ?_
              refine g_aload_n hF d_X2_combine_109 rfl 1 rfl ?_
              refine g_getN (v := .int (σ a1 8)) hF 8 (obC_op ha1) (by decide) nm_418 (fval_op ha1) d_X2_combine_110 ?_
              refine g_aload_n hF d_X2_combine_113 rfl 2 rfl ?_
              refine g_getN (v := .int (σ a2 8)) hF 8 (obC_op ha2) (by decide) nm_418 (fval_op ha2) d_X2_combine_114 ?_
              refine g_callSN (As := [.int a0, .int (σ a1 8), .int (σ a2 8)]) (rest := [.ref (r a1)]) hF (fun l D cy => kt_X5_worked a r w31 l D cy) (Nat.le_of_ble_eq_true rfl) mS_X5_worked nm_1226 rfl rfl (Nat.le_of_ble_eq_true rfl) d_X2_combine_117 (qIr (fun v117 w32 => ?_))
              refine g_putN (v := v117) hF 8 (obC_op ha1) (by decide) nm_418 rfl rfl (rf_op ha1) d_X2_combine_120 ?_
              obtain ⟨s32n, es32n⟩ : ∃ z, z = upC σ a1 8 v117 := ⟨_, rfl⟩
              rw [← es32n]
              have w34 := w32 s32n es32n
              refine g_goto hF 181 d_X2_combine_123 (by decide) ?_
              exact g_vret hF rfl d_X2_combine_181 ⟨rfl, rfl, rfl, w34⟩
      refine g_if_eq hF 87 d_X2_combine_48 (by decide) rfl (fun c => ?_) (fun c => ?_)
      · have w35 := w4.1 c
        exact g_sub (L' := [(0, .int a0), (1, .ref (r a1)), (2, .ref (r a2)), (4, .int y0_42)]) [1, 2, 3, 0] rfl (b87  w35)
      · have w36 := w4.2 c
        refine g_aload_n hF d_X2_combine_51 rfl 3 rfl ?_
        refine g_callVN (As := []) (rest := []) hF (fun l D cy => kt_X6_isConstant a r ha2 w36 l D cy) (Nat.le_of_ble_eq_true rfl) mV_X6_isConstant nm_1222 (recv_ob (obC_op ha2)) rfl rfl (Nat.le_of_ble_eq_true rfl) d_X2_combine_52 (qZr (fun v52 hz52 w37 => ?_))
        refine g_if_eq hF 87 d_X2_combine_55 (by decide) rfl (fun c => ?_) (fun c => ?_)
        · have w38 := w37.1 c
          exact g_sub (L' := [(0, .int a0), (1, .ref (r a1)), (2, .ref (r a2)), (4, .int y0_42)]) [1, 2, 3, 0] rfl (b87  w38)
        · have w39 := w37.2 c
          refine g_iload_n hF d_X2_combine_58 rfl 1 rfl ?_
          refine g_bipush hF (v := 57) d_X2_combine_59 (by decide) ?_
          refine g_icmp_ge (yv := 57) hF 87 d_X2_combine_61 (by decide) rfl (by decide) (fun c => ?_) (fun c => ?_)
          · have w40 := w39.1 c
            exact g_sub (L' := [(0, .int a0), (1, .ref (r a1)), (2, .ref (r a2)), (4, .int y0_42)]) [1, 2, 3, 0] rfl (b87  w40)
          · have w41 := w39.2 c
            refine g_iload_n hF d_X2_combine_64 rfl 4 rfl ?_
            refine g_if_ne hF 87 d_X2_combine_65 (by decide) rfl (fun c => ?_) (fun c => ?_)
            · have w42 := w41.1 c
              exact g_sub (L' := [(0, .int a0), (1, .ref (r a1)), (2, .ref (r a2)), (4, .int y0_42)]) [1, 2, 3, 0] rfl (b87  w42)
            · have w43 := w41.2 c
              refine g_aload_n hF d_X2_combine_68 rfl 2 rfl ?_
              refine g_iload_n hF d_X2_combine_69 rfl 1 rfl ?_
              refine g_aload_n hF d_X2_combine_70 rfl 2 rfl ?_
              refine g_getN (v := .int (σ a1 8)) hF 8 (obC_op ha1) (by decide) nm_418 (fval_op ha1) d_X2_combine_71 ?_
              refine g_aload_n hF d_X2_combine_74 rfl 3 rfl ?_
              refine g_getN (v := .int (σ a2 8)) hF 8 (obC_op ha2) (by decide) nm_418 (fval_op ha2) d_X2_combine_75 ?_
              refine g_callSN (As := [.int a0, .int (σ a1 8), .int (σ a2 8)]) (rest := [.ref (r a1)]) hF (fun l D cy => kt_X5_worked a r w43 l D cy) (Nat.le_of_ble_eq_true rfl) mS_X5_worked nm_1226 rfl rfl (Nat.le_of_ble_eq_true rfl) d_X2_combine_78 (qIr (fun v78 w44 => ?_))
              refine g_putN (v := v78) hF 8 (obC_op ha1) (by decide) nm_418 rfl rfl (rf_op ha1) d_X2_combine_81 ?_
              obtain ⟨s44n, es44n⟩ : ∃ z, z = upC σ a1 8 v78 := ⟨_, rfl⟩
              rw [← es44n]
              have w46 := w44 s44n es44n
              refine g_goto hF 181 d_X2_combine_84 (by decide) ?_
              exact g_vret hF rfl d_X2_combine_181 ⟨rfl, rfl, rfl, w46⟩
    obtain ⟨J37, h37, w47⟩ := w2
    have b37 : J37  → G SC r X σ Z0 [] [(0, .int a0), (1, .ref (r a1)), (2, .ref (r a2)), (3, .int y0_24)] [] 37 := by
      intro   w37_
      have w37_ := h37   w37_
      refine g_iconst hF (v := 1) d_X2_combine_37 (by decide) ?_
      refine g_goto hF 42 d_X2_combine_38 (by decide) ?_
      exact b42 (1 : Int32) (Or.inr rfl) w37_
    refine g_icmp_eq (yv := 43) hF 37 d_X2_combine_28 (by decide) rfl (by decide) (fun c => ?_) (fun c => ?_)
    · have w48 := w47.1 c
      exact g_sub (L' := [(0, .int a0), (1, .ref (r a1)), (2, .ref (r a2)), (3, .int y0_24)]) [1, 2, 3, 0] rfl (b37  w48)
    · have w49 := w47.2 c
      refine g_iload_n hF d_X2_combine_31 rfl 1 rfl ?_
      refine g_bipush hF (v := 44) d_X2_combine_32 (by decide) ?_
      refine g_icmp_ne (yv := 44) hF 41 d_X2_combine_34 (by decide) rfl (by decide) (fun c => ?_) (fun c => ?_)
      · have w50 := w49.1 c
        refine g_iconst hF (v := 0) d_X2_combine_41 (by decide) ?_
        exact g_sub (L' := [(0, .int a0), (1, .ref (r a1)), (2, .ref (r a2)), (3, .int y0_24)]) [1, 2, 3, 0] rfl (b42 (0 : Int32) (Or.inl rfl) w50)
      · have w51 := w49.2 c
        exact g_sub (L' := [(0, .int a0), (1, .ref (r a1)), (2, .ref (r a2)), (3, .int y0_24)]) [1, 2, 3, 0] rfl (b37  w51)
  obtain ⟨J23, h23, w52⟩ := w1
  have b23 : J23  → G SC r X σ Z0 [] [(0, .int a0), (1, .ref (r a1)), (2, .ref (r a2))] [] 23 := by
    intro   w23_
    have w23_ := h23   w23_
    refine g_iconst hF (v := 0) d_X2_combine_23 (by decide) ?_
    exact b24 (0 : Int32) (Or.inl rfl) w23_
  obtain ⟨J12, h12, w53⟩ := w52
  have b12 : J12  → G SC r X σ Z0 [] [(0, .int a0), (1, .ref (r a1)), (2, .ref (r a2))] [] 12 := by
    intro   w12_
    have w12_ := h12   w12_
    refine g_aload_n hF d_X2_combine_12 rfl 2 rfl ?_
    refine g_getN (v := .int (σ a2 8)) hF 8 (obC_op ha2) (by decide) nm_418 (fval_op ha2) d_X2_combine_13 ?_
    refine g_if_ne hF 23 d_X2_combine_16 (by decide) rfl (fun c => ?_) (fun c => ?_)
    · have w54 := w12_.1 c
      exact b23  w54
    · have w55 := w12_.2 c
      refine g_iconst hF (v := 1) d_X2_combine_19 (by decide) ?_
      refine g_goto hF 24 d_X2_combine_20 (by decide) ?_
      exact b24 (1 : Int32) (Or.inr rfl) w55
  refine g_icmp_eq (yv := 46) hF 12 d_X2_combine_3 (by decide) rfl (by decide) (fun c => ?_) (fun c => ?_)
  · have w56 := w53.1 c
    exact b12  w56
  · have w57 := w53.2 c
    refine g_iload_n hF d_X2_combine_6 rfl 0 rfl ?_
    refine g_bipush hF (v := 47) d_X2_combine_7 (by decide) ?_
    refine g_icmp_ne (yv := 47) hF 23 d_X2_combine_9 (by decide) rfl (by decide) (fun c => ?_) (fun c => ?_)
    · have w58 := w57.1 c
      exact b23  w58
    · have w59 := w57.2 c
      exact b12  w59
set_option maxHeartbeats 4000000 in
set_option maxRecDepth 100000 in
theorem kt_X2_fold (a : Nat → Nat) (r : Nat → Nat) {a1 : Nat} {σ : St} {Q : St → Prop} (ha1 : isOp a1) (w : wk_X2_fold a1 σ Q) (l : Launch) (D : va_G) (cy : Nat → ClassId) : Ct l D cy SC r (EC a gC) y_X2_fold (Cond.code y_X2_fold b_X2_fold 2 none) 2 [.ref (r 7), .ref (r a1)] σ Z0 [] (QV Q) QT0 := by
  unfold wk_X2_fold at w
  refine Ct_of (EC_ok a gC) (by decide) (Nat.le_of_ble_eq_true rfl) (by decide) (fun X hnn hF => ?_)
  show G SC r X σ Z0 [] [(0, .ref (r 7)), (1, .ref (r a1))] [] 0
  refine g_aload_n hF d_X2_fold_0 rfl 0 rfl ?_
  refine g_get (v := .ref (r 6)) hF 2 obC_7 (by decide) m_458 rfl d_X2_fold_1 ?_
  refine g_getN (v := .int (σ 6 2)) hF 2 obC_6 (by decide) nm_313 rfl d_X2_fold_4 ?_
  refine g_if_le hF 43 d_X2_fold_7 (by decide) rfl (fun c => ?_) (fun c => ?_)
  · have w1 := w.1 c
    exact g_vret hF rfl d_X2_fold_43 ⟨rfl, rfl, rfl, w1⟩
  · have w2 := w.2 c
    refine g_aload_n hF d_X2_fold_10 rfl 1 rfl ?_
    refine g_callVN (As := []) (rest := []) hF (fun l D cy => kt_X6_isConstant a r ha1 w2 l D cy) (Nat.le_of_ble_eq_true rfl) mV_X6_isConstant nm_1222 (recv_ob (obC_op ha1)) rfl rfl (Nat.le_of_ble_eq_true rfl) d_X2_fold_11 (qZr (fun v11 hz11 w3 => ?_))
    refine g_if_eq hF 43 d_X2_fold_14 (by decide) rfl (fun c => ?_) (fun c => ?_)
    · have w4 := w3.1 c
      exact g_vret hF rfl d_X2_fold_43 ⟨rfl, rfl, rfl, w4⟩
    · have w5 := w3.2 c
      refine g_aload_n hF d_X2_fold_17 rfl 0 rfl ?_
      refine g_get (v := .ref (r 4)) hF 4 obC_7 (by decide) m_461 rfl d_X2_fold_18 ?_
      refine g_aload_n hF d_X2_fold_21 rfl 1 rfl ?_
      refine g_getN (v := .int (σ a1 9)) hF 9 (obC_op ha1) (by decide) nm_422 (fval_op ha1) d_X2_fold_22 ?_
      refine g_callVN (As := [.int (σ a1 9)]) (rest := []) hF (fun l D cy => kt_X0_cut a r w5 l D cy) (Nat.le_of_ble_eq_true rfl) mV_X0_cut nm_1237 (recv_ob obC_4) rfl rfl (Nat.le_of_ble_eq_true rfl) d_X2_fold_25 (qV (fun s25 w6 => ?_))
      refine g_aload_n hF d_X2_fold_28 rfl 0 rfl ?_
      refine g_get (v := .ref (r 4)) hF 4 obC_7 (by decide) m_461 rfl d_X2_fold_29 ?_
      refine g_iconst hF (v := 1) d_X2_fold_32 (by decide) ?_
      refine g_aload_n hF d_X2_fold_33 rfl 1 rfl ?_
      refine g_getN (v := .int (s25 a1 8)) hF 8 (obC_op ha1) (by decide) nm_418 (fval_op ha1) d_X2_fold_34 ?_
      refine g_iconst hF (v := 0) d_X2_fold_37 (by decide) ?_
      refine g_iconst hF (v := 0) d_X2_fold_38 (by decide) ?_
      refine g_callVN (As := [.int 1, .int (s25 a1 8), .int 0, .int 0]) (rest := []) hF (fun l D cy => kt_X0_emit a r w6 l D cy) (Nat.le_of_ble_eq_true rfl) mV_X0_emit nm_1071 (recv_ob obC_4) rfl rfl (Nat.le_of_ble_eq_true rfl) d_X2_fold_39 (qI (fun v39 s39 w7 => ?_))
      refine g_pop hF d_X2_fold_42 rfl ?_
      exact g_vret hF rfl d_X2_fold_43 ⟨rfl, rfl, rfl, w7⟩
set_option maxHeartbeats 4000000 in
set_option maxRecDepth 100000 in
theorem kt_X0_aim (a : Nat → Nat) (r : Nat → Nat) {a1 : Int32} {a2 : Int32} {σ : St} {Q : St → Prop} (w : wk_X0_aim a1 a2 σ Q) (l : Launch) (D : va_G) (cy : Nat → ClassId) : Ct l D cy SC r (EC a gC) y_X0_aim (Cond.code y_X0_aim b_X0_aim 6 none) 1 [.ref (r 4), .int a1, .int a2] σ Z0 [] (QV Q) QT0 := by
  unfold wk_X0_aim at w
  refine Ct_of (EC_ok a gC) (by decide) (Nat.le_of_ble_eq_true rfl) (by decide) (fun X hnn hF => ?_)
  show G SC r X σ Z0 [] [(0, .ref (r 4)), (1, .int a1), (2, .int a2)] [] 0
  refine g_iload_n hF d_X0_aim_0 rfl 1 rfl ?_
  refine g_istore_n hF [(3, .int a1), (0, .ref (r 4)), (1, .int a1), (2, .int a2)] d_X0_aim_1 rfl hnn (by decide) rfl ?_
  refine g_aload_n hF d_X0_aim_2 rfl 1 rfl ?_
  refine g_get (v := .int (σ 4 1)) hF 1 obC_4 (by decide) m_152 rfl d_X0_aim_3 ?_
  refine g_istore hF [(4, .int (σ 4 1)), (3, .int a1), (0, .ref (r 4)), (1, .int a1), (2, .int a2)] d_X0_aim_6 hnn (by decide) rfl ?_
  obtain ⟨L8, ⟨i8, u8⟩, h8⟩ := w
  have b8 : ∀ (n8 : Nat) (x3_8 : Int32) (x4_8 : Int32) (s8 : St), L8 n8 x3_8 x4_8 s8 → G SC r X s8 Z0 [] [(0, .ref (r 4)), (2, .int a2), (3, .int x3_8), (4, .int x4_8)] [] 8 := by
    intro n8
    induction n8 using Nat.strongRecOn with
    | _ n8 ih8 =>
      intro x3_8 x4_8 s8  w8_
      have w8_ := h8 n8 x3_8 x4_8 s8  w8_
      refine g_iload hF d_X0_aim_8 3 rfl ?_
      refine g_if_le hF 49 d_X0_aim_10 (by decide) rfl (fun c => ?_) (fun c => ?_)
      · have w1 := w8_.1 c
        exact g_vret hF rfl d_X0_aim_49 ⟨rfl, rfl, rfl, w1⟩
      · have w2 := w8_.2 c
        refine g_iload_n hF d_X0_aim_13 rfl 2 rfl ?_
        refine g_if_lt hF 49 d_X0_aim_14 (by decide) rfl (fun c => ?_) (fun c => ?_)
        · have w3 := w2.1 c
          exact g_vret hF rfl d_X0_aim_49 ⟨rfl, rfl, rfl, w3⟩
        · have w4 := w2.2 c
          refine g_aload_n hF d_X0_aim_17 rfl 0 rfl ?_
          refine g_get (v := .ref (r 24)) hF 0 obC_4 (by decide) m_149 rfl d_X0_aim_18 ?_
          refine g_iload_n hF d_X0_aim_21 rfl 2 rfl ?_
          refine g_iconst hF (v := 1) d_X0_aim_22 (by decide) ?_
          refine g_iadd hF d_X0_aim_23 ?_
          refine g_callSN (As := [.ref (r 24), .int (x3_8 + (1 : Int32))]) (rest := []) hF (c_atv a r s8 arC_24 (by decide) (x3_8 + (1 : Int32))) (Nat.le_of_ble_eq_true rfl) mS_X12_at nm_1213 rfl rfl (Nat.le_of_ble_eq_true rfl) d_X0_aim_24 (kQ ?_)
          refine g_top (v := (atv 262208 (s8 24) (x3_8 + (1 : Int32)))) rfl ?_
          refine g_istore hF [(5, .int (atv 262208 (s8 24) (x3_8 + (1 : Int32)))), (0, .ref (r 4)), (2, .int a2), (3, .int x3_8), (4, .int x4_8)] d_X0_aim_27 hnn (by decide) rfl ?_
          refine g_aload_n hF d_X0_aim_29 rfl 1 rfl ?_
          refine g_get (v := .ref (r 24)) hF 0 obC_4 (by decide) m_149 rfl d_X0_aim_30 ?_
          refine g_iload_n hF d_X0_aim_33 rfl 3 rfl ?_
          refine g_iconst hF (v := 1) d_X0_aim_34 (by decide) ?_
          refine g_iadd hF d_X0_aim_35 ?_
          refine g_iload_n hF d_X0_aim_36 rfl 2 rfl ?_
          refine g_callSN (As := [.ref (r 24), .int (x3_8 + (1 : Int32)), .int a2]) (rest := []) hF (c_setv a r s8 arC_24 (by decide) (x3_8 + (1 : Int32)) a2) (Nat.le_of_ble_eq_true rfl) mS_X12_set nm_1214 rfl rfl (Nat.le_of_ble_eq_true rfl) d_X0_aim_37 (kU ?_)
          refine g_iload hF d_X0_aim_40 0 rfl ?_
          refine g_istore_n hF [(3, .int (atv 262208 (s8 24) (x3_8 + (1 : Int32)))), (5, .int (atv 262208 (s8 24) (x3_8 + (1 : Int32)))), (0, .ref (r 4)), (2, .int a2), (4, .int x4_8)] d_X0_aim_42 rfl hnn (by decide) rfl ?_
          refine g_iinc hF (x4_8 + (-1)) [(4, .int (x4_8 + (-1))), (3, .int (atv 262208 (s8 24) (x3_8 + (1 : Int32)))), (5, .int (atv 262208 (s8 24) (x3_8 + (1 : Int32)))), (0, .ref (r 4)), (2, .int a2)] d_X0_aim_43 4 rfl rfl hnn (by decide) rfl ?_
          refine g_goto hF 8 d_X0_aim_46 (by decide) ?_
          obtain ⟨m8, hm8, w9⟩ := w4
          exact g_sub (L' := [(0, .ref (r 4)), (2, .int a2), (3, .int (atv 262208 (s8 24) (x3_8 + (1 : Int32)))), (4, .int (x4_8 + (-1)))]) [3, 4, 1, 0] rfl (ih8 m8 hm8 (atv 262208 (s8 24) (x3_8 + (1 : Int32))) (x4_8 + (-1)) (upF s8 24 (setv 262208 (s8 24) (x3_8 + (1 : Int32)) a2)) w9)
  exact g_sub (L' := [(0, .ref (r 4)), (2, .int a2), (3, .int a1), (4, .int (σ 4 1))]) [2, 4, 1, 0] rfl (b8 i8 a1 (σ 4 1) σ u8)
set_option maxHeartbeats 4000000 in
set_option maxRecDepth 100000 in
theorem kt_X2_operate (a : Nat → Nat) (r : Nat → Nat) {a1 : Int32} {a2 : Int32} {a3 : Int32} {σ : St} {Q : St → Prop} (ha2 : a2 = 0 ∨ a2 = 1) (w : wk_X2_operate a1 a2 a3 σ Q) (l : Launch) (D : va_G) (cy : Nat → ClassId) : Ct l D cy SC r (EC a gC) y_X2_operate (Cond.code y_X2_operate b_X2_operate 5 none) 1 [.ref (r 7), .int a1, .int a2, .int a3] σ Z0 [] (QV Q) QT0 := by
  unfold wk_X2_operate at w
  refine Ct_of (EC_ok a gC) (by decide) (Nat.le_of_ble_eq_true rfl) (by decide) (fun X hnn hF => ?_)
  show G SC r X σ Z0 [] [(0, .ref (r 7)), (1, .int a1), (2, .int a2), (3, .int a3)] [] 0
  refine g_iload_n hF d_X2_operate_0 rfl 2 rfl ?_
  obtain ⟨J21, h21, w1⟩ := w
  have b21 : ∀ (y0_21 : Int32), y0_21 = 0 ∨ y0_21 = 1 → J21 y0_21 → G SC r X σ Z0 [] [(0, .ref (r 7)), (1, .int a1), (3, .int a3)] [.int y0_21] 21 := by
    intro y0_21 hy0_21 w21_
    have w21_ := h21 y0_21 hy0_21 w21_
    refine g_istore hF [(4, .int y0_21), (0, .ref (r 7)), (1, .int a1), (3, .int a3)] d_X2_operate_21 hnn (by decide) rfl ?_
    refine g_aload_n hF d_X2_operate_23 rfl 1 rfl ?_
    refine g_get (v := .ref (r 4)) hF 4 obC_7 (by decide) m_461 rfl d_X2_operate_24 ?_
    refine g_iload hF d_X2_operate_27 0 rfl ?_
    obtain ⟨J39, h39, w2⟩ := w21_
    have b39 : ∀ (y1_39 : Int32), J39 y1_39 → G SC r X σ Z0 [] [(3, .int a3)] [.int y1_39, .ref (r 4)] 39 := by
      intro y1_39  w39_
      have w39_ := h39 y1_39  w39_
      refine g_iload_n hF d_X2_operate_39 rfl 0 rfl ?_
      refine g_iconst hF (v := 0) d_X2_operate_40 (by decide) ?_
      refine g_iconst hF (v := 0) d_X2_operate_41 (by decide) ?_
      refine g_callVN (As := [.int y1_39, .int a3, .int 0, .int 0]) (rest := []) hF (fun l D cy => kt_X0_emit a r w39_ l D cy) (Nat.le_of_ble_eq_true rfl) mV_X0_emit nm_1071 (recv_ob obC_4) rfl rfl (Nat.le_of_ble_eq_true rfl) d_X2_operate_42 (qI (fun v42 s42 w3 => ?_))
      refine g_pop hF d_X2_operate_45 rfl ?_
      exact g_vret hF rfl d_X2_operate_46 ⟨rfl, rfl, rfl, w3⟩
    refine g_if_eq hF 38 d_X2_operate_29 (by decide) rfl (fun c => ?_) (fun c => ?_)
    · have w4 := w2.1 c
      refine g_iload_n hF d_X2_operate_38 rfl 2 rfl ?_
      exact g_sub (L' := [(3, .int a3)]) [3] rfl (b39 a1 w4)
    · have w5 := w2.2 c
      refine g_iload_n hF d_X2_operate_32 rfl 2 rfl ?_
      refine g_iconst hF (v := 4) d_X2_operate_33 (by decide) ?_
      refine g_iadd hF d_X2_operate_34 ?_
      refine g_goto hF 39 d_X2_operate_35 (by decide) ?_
      exact g_sub (L' := [(3, .int a3)]) [3] rfl (b39 (a1 + (4 : Int32)) w5)
  obtain ⟨J20, h20, w6⟩ := w1
  have b20 : J20  → G SC r X σ Z0 [] [(0, .ref (r 7)), (1, .int a1), (3, .int a3)] [] 20 := by
    intro   w20_
    have w20_ := h20   w20_
    refine g_iconst hF (v := 0) d_X2_operate_20 (by decide) ?_
    exact b21 (0 : Int32) (Or.inl rfl) w20_
  refine g_if_eq hF 20 d_X2_operate_1 (by decide) rfl (fun c => ?_) (fun c => ?_)
  · have w7 := w6.1 c
    exact g_sub (L' := [(0, .ref (r 7)), (1, .int a1), (3, .int a3)]) [0, 1, 3] rfl (b20  w7)
  · have w8 := w6.2 c
    refine g_iload_n hF d_X2_operate_4 rfl 1 rfl ?_
    refine g_bipush hF (v := 53) d_X2_operate_5 (by decide) ?_
    refine g_icmp_lt (yv := 53) hF 20 d_X2_operate_7 (by decide) rfl (by decide) (fun c => ?_) (fun c => ?_)
    · have w9 := w8.1 c
      exact g_sub (L' := [(0, .ref (r 7)), (1, .int a1), (3, .int a3)]) [0, 1, 3] rfl (b20  w9)
    · have w10 := w8.2 c
      refine g_iload_n hF d_X2_operate_10 rfl 1 rfl ?_
      refine g_bipush hF (v := 56) d_X2_operate_11 (by decide) ?_
      refine g_icmp_gt (yv := 56) hF 20 d_X2_operate_13 (by decide) rfl (by decide) (fun c => ?_) (fun c => ?_)
      · have w11 := w10.1 c
        exact g_sub (L' := [(0, .ref (r 7)), (1, .int a1), (3, .int a3)]) [0, 1, 3] rfl (b20  w11)
      · have w12 := w10.2 c
        refine g_iconst hF (v := 1) d_X2_operate_16 (by decide) ?_
        refine g_goto hF 21 d_X2_operate_17 (by decide) ?_
        exact g_sub (L' := [(0, .ref (r 7)), (1, .int a1), (3, .int a3)]) [0, 1, 3] rfl (b21 (1 : Int32) (Or.inr rfl) w12)
set_option maxHeartbeats 4000000 in
set_option maxRecDepth 100000 in
theorem kt_X2_binary (a : Nat → Nat) (r : Nat → Nat) {a1 : Int32} {σ : St} {Q : St → Prop} (w : wk_X2_binary a1 σ Q) (l : Launch) (D : va_G) (cy : Nat → ClassId) : Ct l D cy SC r (EC a gC) y_X2_binary (Cond.code y_X2_binary b_X2_binary 6 none) 3 [.ref (r 7), .int a1] σ Z0 [] (QV Q) QT0 := by
  unfold wk_X2_binary at w
  refine Ct_of (EC_ok a gC) (by decide) (Nat.le_of_ble_eq_true rfl) (by decide) (fun X hnn hF => ?_)
  show G SC r X σ Z0 [] [(0, .ref (r 7)), (1, .int a1)] [] 0
  refine g_aload_n hF d_X2_binary_0 rfl 0 rfl ?_
  refine g_iload_n hF d_X2_binary_1 rfl 1 rfl ?_
  refine g_callV (As := [.int a1]) (rest := []) hF (fun l D cy => kt_X2_kindOf a r w l D cy) (Nat.le_of_ble_eq_true rfl) mV_X2_kindOf m_1194 (recv_ob obC_7) rfl rfl (Nat.le_of_ble_eq_true rfl) d_X2_binary_2 (qIr (fun v2 w1 => ?_)) (fun _ _ _ h => h.elim)
  refine g_istore_n hF [(2, .int v2), (0, .ref (r 7)), (1, .int a1)] d_X2_binary_5 rfl hnn (by decide) rfl ?_
  refine g_aload_n hF d_X2_binary_6 rfl 1 rfl ?_
  refine g_callV (As := []) (rest := []) hF (fun l D cy => kt_X2_pop a r w1 l D cy) (Nat.le_of_ble_eq_true rfl) mV_X2_pop m_1156 (recv_ob obC_7) rfl rfl (Nat.le_of_ble_eq_true rfl) d_X2_binary_7 (qA (fun u7 s7 hz7 w2 => ?_)) (fun _ _ _ h => h.elim)
  refine g_astore_n hF [(3, .ref (r u7)), (2, .int v2), (0, .ref (r 7)), (1, .int a1)] d_X2_binary_10 rfl hnn (by decide) rfl ?_
  refine g_aload_n hF d_X2_binary_11 rfl 2 rfl ?_
  refine g_callV (As := []) (rest := []) hF (fun l D cy => kt_X2_top a r w2 l D cy) (Nat.le_of_ble_eq_true rfl) mV_X2_top m_1160 (recv_ob obC_7) rfl rfl (Nat.le_of_ble_eq_true rfl) d_X2_binary_12 (qAr (fun u12 hz12 w3 => ?_)) (fun _ _ _ h => h.elim)
  refine g_astore hF [(4, .ref (r u12)), (3, .ref (r u7)), (2, .int v2), (0, .ref (r 7)), (1, .int a1)] d_X2_binary_15 hnn (by decide) rfl ?_
  refine g_iload_n hF d_X2_binary_17 rfl 2 rfl ?_
  refine g_aload hF d_X2_binary_18 0 rfl ?_
  refine g_aload_n hF d_X2_binary_20 rfl 1 rfl ?_
  refine g_callS (As := [.int v2, .ref (r u12), .ref (r u7)]) (rest := []) hF (fun l D cy => kt_X2_typeOf a r hz12 hz7 w3 l D cy) (Nat.le_of_ble_eq_true rfl) mS_X2_typeOf m_1206 rfl rfl (Nat.le_of_ble_eq_true rfl) d_X2_binary_21 (qIr (fun v21 w4 => ?_)) (fun _ _ _ h => h.elim)
  refine g_istore hF [(5, .int v21), (4, .ref (r u12)), (3, .ref (r u7)), (2, .int v2), (0, .ref (r 7)), (1, .int a1)] d_X2_binary_24 hnn (by decide) rfl ?_
  refine g_iload hF d_X2_binary_26 0 rfl ?_
  refine g_bipush hF (v := (-2)) d_X2_binary_28 (by decide) ?_
  obtain ⟨J38, h38, w5⟩ := w4
  have b38 : ∀ (s38 : St), J38 s38 → G SC r X s38 Z0 [] [(0, .ref (r 7)), (1, .int a1), (2, .int v2), (3, .ref (r u7)), (4, .ref (r u12)), (5, .int v21)] [] 38 := by
    intro s38  w38_
    have w38_ := h38 s38  w38_
    refine g_iload_n hF d_X2_binary_38 rfl 2 rfl ?_
    refine g_bipush hF (v := 58) d_X2_binary_39 (by decide) ?_
    obtain ⟨J108, h108, w6⟩ := w38_
    have b108 : ∀ (s108 : St), J108 s108 → G SC r X s108 Z0 [] [(0, .ref (r 7)), (1, .int a1), (2, .int v2), (3, .ref (r u7)), (4, .ref (r u12)), (5, .int v21)] [] 108 := by
      intro s108  w108_
      have w108_ := h108 s108  w108_
      refine g_iload_n hF d_X2_binary_108 rfl 2 rfl ?_
      refine g_aload hF d_X2_binary_109 4 rfl ?_
      refine g_aload_n hF d_X2_binary_111 rfl 3 rfl ?_
      refine g_callS (As := [.int v2, .ref (r u12), .ref (r u7)]) (rest := []) hF (fun l D cy => kt_X2_combine a r hz12 hz7 w108_ l D cy) (Nat.le_of_ble_eq_true rfl) mS_X2_combine m_1219 rfl rfl (Nat.le_of_ble_eq_true rfl) d_X2_binary_112 (qV (fun s112 w7 => ?_)) (fun _ _ _ h => h.elim)
      refine g_aload hF d_X2_binary_115 4 rfl ?_
      refine g_iload hF d_X2_binary_117 5 rfl ?_
      refine g_aload hF d_X2_binary_119 4 rfl ?_
      refine g_getN (v := .int (s112 u12 6)) hF 6 (obC_op hz12) (by decide) nm_412 (fval_op hz12) d_X2_binary_121 ?_
      refine g_callVN (As := [.int v21, .int (s112 u12 6)]) (rest := []) hF (fun l D cy => kt_X6_become a r hz12 w7 l D cy) (Nat.le_of_ble_eq_true rfl) mV_X6_become nm_1100 (recv_ob (obC_op hz12)) rfl rfl (Nat.le_of_ble_eq_true rfl) d_X2_binary_124 (qV (fun s124 w8 => ?_))
      refine g_aload_n hF d_X2_binary_127 rfl 0 rfl ?_
      refine g_aload hF d_X2_binary_128 4 rfl ?_
      refine g_callV (As := [.ref (r u12)]) (rest := []) hF (fun l D cy => kt_X2_fold a r hz12 w8 l D cy) (Nat.le_of_ble_eq_true rfl) mV_X2_fold m_1233 (recv_ob obC_7) rfl rfl (Nat.le_of_ble_eq_true rfl) d_X2_binary_130 (qV (fun s130 w9 => ?_)) (fun _ _ _ h => h.elim)
      refine g_aload_n hF d_X2_binary_133 rfl 0 rfl ?_
      refine g_aload hF d_X2_binary_134 4 rfl ?_
      refine g_iconst hF (v := 1) d_X2_binary_136 (by decide) ?_
      refine g_aload hF d_X2_binary_137 4 rfl ?_
      refine g_getN (v := .int (s130 u12 2)) hF 2 (obC_op hz12) (by decide) nm_404 (fval_op hz12) d_X2_binary_139 ?_
      refine g_aload_n hF d_X2_binary_142 rfl 3 rfl ?_
      refine g_getN (v := .int (s130 u7 2)) hF 2 (obC_op hz7) (by decide) nm_404 (fval_op hz7) d_X2_binary_143 ?_
      refine g_mmax hF (Nat.le_of_ble_eq_true rfl) m_1130 m_1131 m_23 m_1132 (Nat.le_of_ble_eq_true rfl) d_X2_binary_146 ?_
      refine g_iadd hF d_X2_binary_149 ?_
      refine g_iload_n hF d_X2_binary_150 rfl 1 rfl ?_
      refine g_callV (As := [.ref (r u12), .int ((1 : Int32) + (if (s130 u12 2) < (s130 u7 2) then (s130 u7 2) else (s130 u12 2))), .int a1]) (rest := []) hF (fun l D cy => kt_X2_raise a r hz12 w9 l D cy) (Nat.le_of_ble_eq_true rfl) mV_X2_raise m_1186 (recv_ob obC_7) rfl rfl (Nat.le_of_ble_eq_true rfl) d_X2_binary_151 (qV (fun s151 w10 => ?_)) (fun _ _ _ h => h.elim)
      exact g_vret hF rfl d_X2_binary_154 ⟨rfl, rfl, rfl, w10⟩
    obtain ⟨J50, h50, w11⟩ := w6
    have b50 : J50  → G SC r X s38 Z0 [] [(0, .ref (r 7)), (1, .int a1), (2, .int v2), (3, .ref (r u7)), (4, .ref (r u12)), (5, .int v21)] [] 50 := by
      intro   w50_
      have w50_ := h50   w50_
      refine g_aload_n hF d_X2_binary_50 rfl 0 rfl ?_
      refine g_get (v := .ref (r 4)) hF 4 obC_7 (by decide) m_461 rfl d_X2_binary_51 ?_
      refine g_bipush hF (v := 25) d_X2_binary_54 (by decide) ?_
      refine g_iconst hF (v := 0) d_X2_binary_56 (by decide) ?_
      refine g_iconst hF (v := 0) d_X2_binary_57 (by decide) ?_
      refine g_iconst hF (v := 0) d_X2_binary_58 (by decide) ?_
      refine g_callVN (As := [.int 25, .int 0, .int 0, .int 0]) (rest := []) hF (fun l D cy => kt_X0_emit a r w50_ l D cy) (Nat.le_of_ble_eq_true rfl) mV_X0_emit nm_1071 (recv_ob obC_4) rfl rfl (Nat.le_of_ble_eq_true rfl) d_X2_binary_59 (qI (fun v59 s59 w12 => ?_))
      refine g_pop hF d_X2_binary_62 rfl ?_
      refine g_aload_n hF d_X2_binary_63 rfl 0 rfl ?_
      refine g_get (v := .ref (r 4)) hF 4 obC_7 (by decide) m_461 rfl d_X2_binary_64 ?_
      refine g_aload hF d_X2_binary_67 4 rfl ?_
      refine g_getN (v := .int (s59 u12 10)) hF 10 (obC_op hz12) (by decide) nm_424 (fval_op hz12) d_X2_binary_69 ?_
      refine g_aload_n hF d_X2_binary_72 rfl 0 rfl ?_
      refine g_get (v := .ref (r 4)) hF 4 obC_7 (by decide) m_461 rfl d_X2_binary_73 ?_
      refine g_getN (v := .int (s59 4 1)) hF 1 obC_4 (by decide) nm_155 rfl d_X2_binary_76 ?_
      refine g_callVN (As := [.int (s59 u12 10), .int (s59 4 1)]) (rest := []) hF (fun l D cy => kt_X0_aim a r w12 l D cy) (Nat.le_of_ble_eq_true rfl) mV_X0_aim nm_1209 (recv_ob obC_4) rfl rfl (Nat.le_of_ble_eq_true rfl) d_X2_binary_79 (qV (fun s79 w13 => ?_))
      refine g_goto hF 108 d_X2_binary_82 (by decide) ?_
      exact b108 s79 w13
    refine g_icmp_eq (yv := 58) hF 50 d_X2_binary_41 (by decide) rfl (by decide) (fun c => ?_) (fun c => ?_)
    · have w14 := w11.1 c
      exact b50  w14
    · have w15 := w11.2 c
      refine g_iload_n hF d_X2_binary_44 rfl 2 rfl ?_
      refine g_bipush hF (v := 57) d_X2_binary_45 (by decide) ?_
      refine g_icmp_ne (yv := 57) hF 85 d_X2_binary_47 (by decide) rfl (by decide) (fun c => ?_) (fun c => ?_)
      · have w16 := w15.1 c
        refine g_aload_n hF d_X2_binary_85 rfl 0 rfl ?_
        refine g_iload_n hF d_X2_binary_86 rfl 2 rfl ?_
        refine g_aload hF d_X2_binary_87 4 rfl ?_
        refine g_getN (v := .int (s38 u12 1)) hF 1 (obC_op hz12) (by decide) nm_402 (fval_op hz12) d_X2_binary_89 ?_
        obtain ⟨J100, h100, w17⟩ := w16
        have b100 : ∀ (y2_100 : Int32), y2_100 = 0 ∨ y2_100 = 1 → J100 y2_100 → G SC r X s38 Z0 [] [(0, .ref (r 7)), (1, .int a1), (2, .int v2), (3, .ref (r u7)), (4, .ref (r u12)), (5, .int v21)] [.int y2_100, .int v2, .ref (r 7)] 100 := by
          intro y2_100 hy2_100 w100_
          have w100_ := h100 y2_100 hy2_100 w100_
          refine g_aload_n hF d_X2_binary_100 rfl 0 rfl ?_
          refine g_iload_n hF d_X2_binary_101 rfl 1 rfl ?_
          refine g_callV (As := [.int a1]) (rest := [.int y2_100, .int v2, .ref (r 7)]) hF (fun l D cy => kt_X2_lineOf a r w100_ l D cy) (Nat.le_of_ble_eq_true rfl) mV_X2_lineOf m_1182 (recv_ob obC_7) rfl rfl (Nat.le_of_ble_eq_true rfl) d_X2_binary_102 (qIr (fun v102 w18 => ?_)) (fun _ _ _ h => h.elim)
          refine g_callV (As := [.int v2, .int y2_100, .int v102]) (rest := []) hF (fun l D cy => kt_X2_operate a r hy2_100 w18 l D cy) (Nat.le_of_ble_eq_true rfl) mV_X2_operate m_1215 (recv_ob obC_7) rfl rfl (Nat.le_of_ble_eq_true rfl) d_X2_binary_105 (qV (fun s105 w19 => ?_)) (fun _ _ _ h => h.elim)
          exact b108 s105 w19
        refine g_if_le hF 99 d_X2_binary_92 (by decide) rfl (fun c => ?_) (fun c => ?_)
        · have w20 := w17.1 c
          refine g_iconst hF (v := 0) d_X2_binary_99 (by decide) ?_
          exact b100 (0 : Int32) (Or.inl rfl) w20
        · have w21 := w17.2 c
          refine g_iconst hF (v := 1) d_X2_binary_95 (by decide) ?_
          refine g_goto hF 100 d_X2_binary_96 (by decide) ?_
          exact b100 (1 : Int32) (Or.inr rfl) w21
      · have w22 := w15.2 c
        exact b50  w22
  refine g_icmp_ne (yv := -2) hF 38 d_X2_binary_30 (by decide) rfl (by decide) (fun c => ?_) (fun c => ?_)
  · have w23 := w5.1 c
    exact g_sub (L' := [(0, .ref (r 7)), (1, .int a1), (2, .int v2), (3, .ref (r u7)), (4, .ref (r u12)), (5, .int v21)]) [4, 5, 3, 2, 1, 0] rfl (b38 s7 w23)
  · have w24 := w5.2 c
    refine g_aload_n hF d_X2_binary_33 rfl 4 rfl ?_
    refine g_iload_n hF d_X2_binary_34 rfl 5 rfl ?_
    refine g_callV (As := [.int a1]) (rest := []) hF (fun l D cy => kt_X2_refuse a r w24 l D cy) (Nat.le_of_ble_eq_true rfl) mV_X2_refuse m_1126 (recv_ob obC_7) rfl rfl (Nat.le_of_ble_eq_true rfl) d_X2_binary_35 (qV (fun s35 w25 => ?_)) (fun _ _ _ h => h.elim)
    exact g_sub (L' := [(0, .ref (r 7)), (1, .int a1), (2, .int v2), (3, .ref (r u7)), (4, .ref (r u12)), (5, .int v21)]) [4, 5, 3, 2, 1, 0] rfl (b38 s35 w25)
set_option maxHeartbeats 4000000 in
set_option maxRecDepth 100000 in
theorem kt_X2_assign (a : Nat → Nat) (r : Nat → Nat) {a1 : Int32} {σ : St} {Q : St → Prop} (w : wk_X2_assign a1 σ Q) (l : Launch) (D : va_G) (cy : Nat → ClassId) : Ct l D cy SC r (EC a gC) y_X2_assign (Cond.code y_X2_assign b_X2_assign 7 none) 3 [.ref (r 7), .int a1] σ Z0 [] (QV Q) QT0 := by
  unfold wk_X2_assign at w
  refine Ct_of (EC_ok a gC) (by decide) (Nat.le_of_ble_eq_true rfl) (by decide) (fun X hnn hF => ?_)
  show G SC r X σ Z0 [] [(0, .ref (r 7)), (1, .int a1)] [] 0
  refine g_aload_n hF d_X2_assign_0 rfl 0 rfl ?_
  refine g_iload_n hF d_X2_assign_1 rfl 1 rfl ?_
  refine g_callV (As := [.int a1]) (rest := []) hF (fun l D cy => kt_X2_kindOf a r w l D cy) (Nat.le_of_ble_eq_true rfl) mV_X2_kindOf m_1194 (recv_ob obC_7) rfl rfl (Nat.le_of_ble_eq_true rfl) d_X2_assign_2 (qIr (fun v2 w1 => ?_)) (fun _ _ _ h => h.elim)
  refine g_istore_n hF [(2, .int v2), (0, .ref (r 7)), (1, .int a1)] d_X2_assign_5 rfl hnn (by decide) rfl ?_
  refine g_aload_n hF d_X2_assign_6 rfl 1 rfl ?_
  refine g_callV (As := []) (rest := []) hF (fun l D cy => kt_X2_pop a r w1 l D cy) (Nat.le_of_ble_eq_true rfl) mV_X2_pop m_1156 (recv_ob obC_7) rfl rfl (Nat.le_of_ble_eq_true rfl) d_X2_assign_7 (qA (fun u7 s7 hz7 w2 => ?_)) (fun _ _ _ h => h.elim)
  refine g_astore_n hF [(3, .ref (r u7)), (2, .int v2), (0, .ref (r 7)), (1, .int a1)] d_X2_assign_10 rfl hnn (by decide) rfl ?_
  refine g_aload_n hF d_X2_assign_11 rfl 2 rfl ?_
  refine g_callV (As := []) (rest := []) hF (fun l D cy => kt_X2_top a r w2 l D cy) (Nat.le_of_ble_eq_true rfl) mV_X2_top m_1160 (recv_ob obC_7) rfl rfl (Nat.le_of_ble_eq_true rfl) d_X2_assign_12 (qAr (fun u12 hz12 w3 => ?_)) (fun _ _ _ h => h.elim)
  refine g_astore hF [(4, .ref (r u12)), (3, .ref (r u7)), (2, .int v2), (0, .ref (r 7)), (1, .int a1)] d_X2_assign_15 hnn (by decide) rfl ?_
  refine g_iload_n hF d_X2_assign_17 rfl 2 rfl ?_
  refine g_bipush hF (v := 33) d_X2_assign_18 (by decide) ?_
  obtain ⟨J34, h34, w4⟩ := w3
  have b34 : ∀ (y0_34 : Int32), y0_34 = 0 ∨ y0_34 = 1 → J34 y0_34 → G SC r X s7 Z0 [] [(0, .ref (r 7)), (1, .int a1), (2, .int v2), (3, .ref (r u7)), (4, .ref (r u12))] [.int y0_34] 34 := by
    intro y0_34 hy0_34 w34_
    have w34_ := h34 y0_34 hy0_34 w34_
    refine g_istore hF [(5, .int y0_34), (0, .ref (r 7)), (1, .int a1), (2, .int v2), (3, .ref (r u7)), (4, .ref (r u12))] d_X2_assign_34 hnn (by decide) rfl ?_
    refine g_iload_n hF d_X2_assign_36 rfl 3 rfl ?_
    refine g_bipush hF (v := 30) d_X2_assign_37 (by decide) ?_
    obtain ⟨J79, h79, w5⟩ := w34_
    have b79 : ∀ (y0_79 : Int32), y0_79 = 0 ∨ y0_79 = 1 → J79 y0_79 → G SC r X s7 Z0 [] [(0, .ref (r 7)), (1, .int a1), (2, .int v2), (3, .ref (r u7)), (4, .ref (r u12))] [.int y0_79] 79 := by
      intro y0_79 hy0_79 w79_
      have w79_ := h79 y0_79 hy0_79 w79_
      refine g_istore hF [(6, .int y0_79), (0, .ref (r 7)), (1, .int a1), (2, .int v2), (3, .ref (r u7)), (4, .ref (r u12))] d_X2_assign_79 hnn (by decide) rfl ?_
      refine g_aload hF d_X2_assign_81 5 rfl ?_
      refine g_callVN (As := []) (rest := []) hF (fun l D cy => kt_X6_isPlace a r hz12 w79_ l D cy) (Nat.le_of_ble_eq_true rfl) mV_X6_isPlace nm_1168 (recv_ob (obC_op hz12)) rfl rfl (Nat.le_of_ble_eq_true rfl) d_X2_assign_83 (qZr (fun v83 hz83 w6 => ?_))
      obtain ⟨J99, h99, w7⟩ := w6
      have b99 : ∀ (s99 : St), J99 s99 → G SC r X s99 Z0 [] [(0, .ref (r 7)), (1, .int a1), (2, .int v2), (3, .ref (r u7)), (4, .ref (r u12))] [] 99 := by
        intro s99  w99_
        have w99_ := h99 s99  w99_
        refine g_iload_n hF d_X2_assign_99 rfl 2 rfl ?_
        refine g_bipush hF (v := 30) d_X2_assign_100 (by decide) ?_
        obtain ⟨J119, h119, w8⟩ := w99_
        have b119 : ∀ (s119 : St), J119 s119 → G SC r X s119 Z0 [] [(0, .ref (r 7)), (1, .int a1), (3, .ref (r u7)), (4, .ref (r u12))] [] 119 := by
          intro s119  w119_
          have w119_ := h119 s119  w119_
          refine g_aload hF d_X2_assign_119 3 rfl ?_
          refine g_getN (v := .int (s119 u12 0)) hF 0 (obC_op hz12) (by decide) nm_399 (fval_op hz12) d_X2_assign_121 ?_
          refine g_iconst hF (v := 3) d_X2_assign_124 (by decide) ?_
          obtain ⟨J179, h179, w9⟩ := w119_
          have b179 : ∀ (s179 : St), J179 s179 → G SC r X s179 Z0 [] [(0, .ref (r 7)), (1, .int a1), (3, .ref (r u7)), (4, .ref (r u12))] [] 179 := by
            intro s179  w179_
            have w179_ := h179 s179  w179_
            refine g_aload hF d_X2_assign_179 3 rfl ?_
            refine g_aload hF d_X2_assign_181 3 rfl ?_
            refine g_getN (v := .int (s179 u12 1)) hF 1 (obC_op hz12) (by decide) nm_402 (fval_op hz12) d_X2_assign_183 ?_
            refine g_iconst hF (v := 0) d_X2_assign_186 (by decide) ?_
            refine g_callVN (As := [.int (s179 u12 1), .int 0]) (rest := []) hF (fun l D cy => kt_X6_become a r hz12 w179_ l D cy) (Nat.le_of_ble_eq_true rfl) mV_X6_become nm_1100 (recv_ob (obC_op hz12)) rfl rfl (Nat.le_of_ble_eq_true rfl) d_X2_assign_187 (qV (fun s187 w10 => ?_))
            refine g_aload_n hF d_X2_assign_190 rfl 0 rfl ?_
            refine g_aload hF d_X2_assign_191 3 rfl ?_
            refine g_iconst hF (v := 1) d_X2_assign_193 (by decide) ?_
            refine g_aload hF d_X2_assign_194 3 rfl ?_
            refine g_getN (v := .int (s187 u12 2)) hF 2 (obC_op hz12) (by decide) nm_404 (fval_op hz12) d_X2_assign_196 ?_
            refine g_aload_n hF d_X2_assign_199 rfl 2 rfl ?_
            refine g_getN (v := .int (s187 u7 2)) hF 2 (obC_op hz7) (by decide) nm_404 (fval_op hz7) d_X2_assign_200 ?_
            refine g_mmax hF (Nat.le_of_ble_eq_true rfl) m_1130 m_1131 m_23 m_1132 (Nat.le_of_ble_eq_true rfl) d_X2_assign_203 ?_
            refine g_iadd hF d_X2_assign_206 ?_
            refine g_iload_n hF d_X2_assign_207 rfl 1 rfl ?_
            refine g_callV (As := [.ref (r u12), .int ((1 : Int32) + (if (s187 u12 2) < (s187 u7 2) then (s187 u7 2) else (s187 u12 2))), .int a1]) (rest := []) hF (fun l D cy => kt_X2_raise a r hz12 w10 l D cy) (Nat.le_of_ble_eq_true rfl) mV_X2_raise m_1186 (recv_ob obC_7) rfl rfl (Nat.le_of_ble_eq_true rfl) d_X2_assign_208 (qV (fun s208 w11 => ?_)) (fun _ _ _ h => h.elim)
            exact g_vret hF rfl d_X2_assign_211 ⟨rfl, rfl, rfl, w11⟩
          refine g_icmp_ne (yv := 3) hF 148 d_X2_assign_125 (by decide) rfl (by decide) (fun c => ?_) (fun c => ?_)
          · have w12 := w9.1 c
            refine g_aload_n hF d_X2_assign_148 rfl 0 rfl ?_
            refine g_get (v := .ref (r 4)) hF 4 obC_7 (by decide) m_461 rfl d_X2_assign_149 ?_
            refine g_aload hF d_X2_assign_152 3 rfl ?_
            refine g_getN (v := .int (s119 u12 0)) hF 0 (obC_op hz12) (by decide) nm_399 (fval_op hz12) d_X2_assign_154 ?_
            refine g_iconst hF (v := 1) d_X2_assign_157 (by decide) ?_
            obtain ⟨J168, h168, w13⟩ := w12
            have b168 : ∀ (y1_168 : Int32), J168 y1_168 → G SC r X s119 Z0 [] [(0, .ref (r 7)), (1, .int a1), (3, .ref (r u7)), (4, .ref (r u12))] [.int y1_168, .ref (r 4)] 168 := by
              intro y1_168  w168_
              have w168_ := h168 y1_168  w168_
              refine g_aload hF d_X2_assign_168 3 rfl ?_
              refine g_getN (v := .int (s119 u12 4)) hF 4 (obC_op hz12) (by decide) nm_408 (fval_op hz12) d_X2_assign_170 ?_
              refine g_iconst hF (v := 0) d_X2_assign_173 (by decide) ?_
              refine g_iconst hF (v := 0) d_X2_assign_174 (by decide) ?_
              refine g_callVN (As := [.int y1_168, .int (s119 u12 4), .int 0, .int 0]) (rest := []) hF (fun l D cy => kt_X0_emit a r w168_ l D cy) (Nat.le_of_ble_eq_true rfl) mV_X0_emit nm_1071 (recv_ob obC_4) rfl rfl (Nat.le_of_ble_eq_true rfl) d_X2_assign_175 (qI (fun v175 s175 w14 => ?_))
              refine g_pop hF d_X2_assign_178 rfl ?_
              exact b179 s175 w14
            refine g_icmp_ne (yv := 1) hF 166 d_X2_assign_158 (by decide) rfl (by decide) (fun c => ?_) (fun c => ?_)
            · have w15 := w13.1 c
              refine g_bipush hF (v := 6) d_X2_assign_166 (by decide) ?_
              exact b168 (6 : Int32) w15
            · have w16 := w13.2 c
              refine g_bipush hF (v := 9) d_X2_assign_161 (by decide) ?_
              refine g_goto hF 168 d_X2_assign_163 (by decide) ?_
              exact b168 (9 : Int32) w16
          · have w17 := w9.2 c
            refine g_aload_n hF d_X2_assign_128 rfl 0 rfl ?_
            refine g_get (v := .ref (r 4)) hF 4 obC_7 (by decide) m_461 rfl d_X2_assign_129 ?_
            refine g_bipush hF (v := 19) d_X2_assign_132 (by decide) ?_
            refine g_aload_n hF d_X2_assign_134 rfl 0 rfl ?_
            refine g_iload_n hF d_X2_assign_135 rfl 1 rfl ?_
            refine g_callV (As := [.int a1]) (rest := [.int 19, .ref (r 4)]) hF (fun l D cy => kt_X2_lineOf a r w17 l D cy) (Nat.le_of_ble_eq_true rfl) mV_X2_lineOf m_1182 (recv_ob obC_7) rfl rfl (Nat.le_of_ble_eq_true rfl) d_X2_assign_136 (qIr (fun v136 w18 => ?_)) (fun _ _ _ h => h.elim)
            refine g_iconst hF (v := 0) d_X2_assign_139 (by decide) ?_
            refine g_iconst hF (v := 0) d_X2_assign_140 (by decide) ?_
            refine g_callVN (As := [.int 19, .int v136, .int 0, .int 0]) (rest := []) hF (fun l D cy => kt_X0_emit a r w18 l D cy) (Nat.le_of_ble_eq_true rfl) mV_X0_emit nm_1071 (recv_ob obC_4) rfl rfl (Nat.le_of_ble_eq_true rfl) d_X2_assign_141 (qI (fun v141 s141 w19 => ?_))
            refine g_pop hF d_X2_assign_144 rfl ?_
            refine g_goto hF 179 d_X2_assign_145 (by decide) ?_
            exact b179 s141 w19
        refine g_icmp_eq (yv := 30) hF 119 d_X2_assign_102 (by decide) rfl (by decide) (fun c => ?_) (fun c => ?_)
        · have w20 := w8.1 c
          exact g_sub (L' := [(0, .ref (r 7)), (1, .int a1), (3, .ref (r u7)), (4, .ref (r u12))]) [0, 1, 3, 4] rfl (b119 s99 w20)
        · have w21 := w8.2 c
          refine g_aload_n hF d_X2_assign_105 rfl 0 rfl ?_
          refine g_iload_n hF d_X2_assign_106 rfl 2 rfl ?_
          refine g_bipush hF (v := 10) d_X2_assign_107 (by decide) ?_
          refine g_iadd hF d_X2_assign_109 ?_
          refine g_iconst hF (v := 0) d_X2_assign_110 (by decide) ?_
          refine g_aload_n hF d_X2_assign_111 rfl 0 rfl ?_
          refine g_iload_n hF d_X2_assign_112 rfl 1 rfl ?_
          refine g_callV (As := [.int a1]) (rest := [.int 0, .int (v2 + (10 : Int32)), .ref (r 7)]) hF (fun l D cy => kt_X2_lineOf a r w21 l D cy) (Nat.le_of_ble_eq_true rfl) mV_X2_lineOf m_1182 (recv_ob obC_7) rfl rfl (Nat.le_of_ble_eq_true rfl) d_X2_assign_113 (qIr (fun v113 w22 => ?_)) (fun _ _ _ h => h.elim)
          refine g_callV (As := [.int (v2 + (10 : Int32)), .int 0, .int v113]) (rest := []) hF (fun l D cy => kt_X2_operate a r (Or.inl rfl) w22 l D cy) (Nat.le_of_ble_eq_true rfl) mV_X2_operate m_1215 (recv_ob obC_7) rfl rfl (Nat.le_of_ble_eq_true rfl) d_X2_assign_116 (qV (fun s116 w23 => ?_)) (fun _ _ _ h => h.elim)
          exact g_sub (L' := [(0, .ref (r 7)), (1, .int a1), (3, .ref (r u7)), (4, .ref (r u12))]) [0, 1, 3, 4] rfl (b119 s116 w23)
      obtain ⟨J94, h94, w24⟩ := w7
      have b94 : J94  → G SC r X s7 Z0 [] [(0, .ref (r 7)), (1, .int a1), (2, .int v2), (3, .ref (r u7)), (4, .ref (r u12))] [] 94 := by
        intro   w94_
        have w94_ := h94   w94_
        refine g_aload_n hF d_X2_assign_94 rfl 0 rfl ?_
        refine g_iload_n hF d_X2_assign_95 rfl 1 rfl ?_
        refine g_callV (As := [.int a1]) (rest := []) hF (fun l D cy => kt_X2_refuse a r w94_ l D cy) (Nat.le_of_ble_eq_true rfl) mV_X2_refuse m_1126 (recv_ob obC_7) rfl rfl (Nat.le_of_ble_eq_true rfl) d_X2_assign_96 (qV (fun s96 w25 => ?_)) (fun _ _ _ h => h.elim)
        exact b99 s96 w25
      refine g_if_eq hF 94 d_X2_assign_86 (by decide) rfl (fun c => ?_) (fun c => ?_)
      · have w26 := w24.1 c
        exact g_sub (L' := [(0, .ref (r 7)), (1, .int a1), (2, .int v2), (3, .ref (r u7)), (4, .ref (r u12))]) [1, 2, 3, 4, 5] rfl (b94  w26)
      · have w27 := w24.2 c
        refine g_iload hF d_X2_assign_89 0 rfl ?_
        refine g_if_ne hF 99 d_X2_assign_91 (by decide) rfl (fun c => ?_) (fun c => ?_)
        · have w28 := w27.1 c
          exact g_sub (L' := [(0, .ref (r 7)), (1, .int a1), (2, .int v2), (3, .ref (r u7)), (4, .ref (r u12))]) [1, 2, 3, 4, 5] rfl (b99 s7 w28)
        · have w29 := w27.2 c
          exact g_sub (L' := [(0, .ref (r 7)), (1, .int a1), (2, .int v2), (3, .ref (r u7)), (4, .ref (r u12))]) [1, 2, 3, 4, 5] rfl (b94  w29)
    refine g_icmp_ne (yv := 30) hF 54 d_X2_assign_39 (by decide) rfl (by decide) (fun c => ?_) (fun c => ?_)
    · have w30 := w5.1 c
      refine g_aload_n hF d_X2_assign_54 rfl 4 rfl ?_
      refine g_getN (v := .int (s7 u7 1)) hF 1 (obC_op hz7) (by decide) nm_402 (fval_op hz7) d_X2_assign_55 ?_
      obtain ⟨J78, h78, w31⟩ := w30
      have b78 : J78  → G SC r X s7 Z0 [] [(0, .ref (r 7)), (1, .int a1), (2, .int v2), (3, .ref (r u7)), (4, .ref (r u12))] [] 78 := by
        intro   w78_
        have w78_ := h78   w78_
        refine g_iconst hF (v := 0) d_X2_assign_78 (by decide) ?_
        exact b79 (0 : Int32) (Or.inl rfl) w78_
      refine g_if_ne hF 78 d_X2_assign_58 (by decide) rfl (fun c => ?_) (fun c => ?_)
      · have w32 := w31.1 c
        exact g_sub (L' := [(0, .ref (r 7)), (1, .int a1), (2, .int v2), (3, .ref (r u7)), (4, .ref (r u12))]) [1, 2, 3, 4, 5] rfl (b78  w32)
      · have w33 := w31.2 c
        refine g_iload hF d_X2_assign_61 0 rfl ?_
        obtain ⟨J74, h74, w34⟩ := w33
        have b74 : J74  → G SC r X s7 Z0 [] [(0, .ref (r 7)), (1, .int a1), (2, .int v2), (3, .ref (r u7)), (4, .ref (r u12))] [] 74 := by
          intro   w74_
          have w74_ := h74   w74_
          refine g_iconst hF (v := 1) d_X2_assign_74 (by decide) ?_
          refine g_goto hF 79 d_X2_assign_75 (by decide) ?_
          exact b79 (1 : Int32) (Or.inr rfl) w74_
        refine g_if_ne hF 74 d_X2_assign_63 (by decide) rfl (fun c => ?_) (fun c => ?_)
        · have w35 := w34.1 c
          exact g_sub (L' := [(0, .ref (r 7)), (1, .int a1), (2, .int v2), (3, .ref (r u7)), (4, .ref (r u12))]) [1, 2, 3, 4, 5] rfl (b74  w35)
        · have w36 := w34.2 c
          refine g_aload hF d_X2_assign_66 5 rfl ?_
          refine g_getN (v := .int (s7 u12 1)) hF 1 (obC_op hz12) (by decide) nm_402 (fval_op hz12) d_X2_assign_68 ?_
          refine g_if_ne hF 78 d_X2_assign_71 (by decide) rfl (fun c => ?_) (fun c => ?_)
          · have w37 := w36.1 c
            exact g_sub (L' := [(0, .ref (r 7)), (1, .int a1), (2, .int v2), (3, .ref (r u7)), (4, .ref (r u12))]) [1, 2, 3, 4, 5] rfl (b78  w37)
          · have w38 := w36.2 c
            exact g_sub (L' := [(0, .ref (r 7)), (1, .int a1), (2, .int v2), (3, .ref (r u7)), (4, .ref (r u12))]) [1, 2, 3, 4, 5] rfl (b74  w38)
    · have w39 := w5.2 c
      refine g_aload_n hF d_X2_assign_42 rfl 4 rfl ?_
      refine g_aload hF d_X2_assign_43 5 rfl ?_
      refine g_getN (v := .int (s7 u12 1)) hF 1 (obC_op hz12) (by decide) nm_402 (fval_op hz12) d_X2_assign_45 ?_
      refine g_callVN (As := [.int (s7 u12 1)]) (rest := []) hF (fun l D cy => kt_X6_fits a r hz7 w39 l D cy) (Nat.le_of_ble_eq_true rfl) mV_X6_fits nm_1174 (recv_ob (obC_op hz7)) rfl rfl (Nat.le_of_ble_eq_true rfl) d_X2_assign_48 (qZr (fun v48 hz48 w40 => ?_))
      refine g_goto hF 79 d_X2_assign_51 (by decide) ?_
      exact g_sub (L' := [(0, .ref (r 7)), (1, .int a1), (2, .int v2), (3, .ref (r u7)), (4, .ref (r u12))]) [1, 2, 3, 4, 5] rfl (b79 v48 hz48 w40)
  obtain ⟨J29, h29, w41⟩ := w4
  have b29 : J29  → G SC r X s7 Z0 [] [(0, .ref (r 7)), (1, .int a1), (2, .int v2), (3, .ref (r u7)), (4, .ref (r u12))] [] 29 := by
    intro   w29_
    have w29_ := h29   w29_
    refine g_iconst hF (v := 1) d_X2_assign_29 (by decide) ?_
    refine g_goto hF 34 d_X2_assign_30 (by decide) ?_
    exact b34 (1 : Int32) (Or.inr rfl) w29_
  refine g_icmp_eq (yv := 33) hF 29 d_X2_assign_20 (by decide) rfl (by decide) (fun c => ?_) (fun c => ?_)
  · have w42 := w41.1 c
    exact g_sub (L' := [(0, .ref (r 7)), (1, .int a1), (2, .int v2), (3, .ref (r u7)), (4, .ref (r u12))]) [3, 4, 2, 1, 0] rfl (b29  w42)
  · have w43 := w41.2 c
    refine g_iload_n hF d_X2_assign_23 rfl 2 rfl ?_
    refine g_bipush hF (v := 34) d_X2_assign_24 (by decide) ?_
    refine g_icmp_ne (yv := 34) hF 33 d_X2_assign_26 (by decide) rfl (by decide) (fun c => ?_) (fun c => ?_)
    · have w44 := w43.1 c
      refine g_iconst hF (v := 0) d_X2_assign_33 (by decide) ?_
      exact g_sub (L' := [(0, .ref (r 7)), (1, .int a1), (2, .int v2), (3, .ref (r u7)), (4, .ref (r u12))]) [3, 4, 2, 1, 0] rfl (b34 (0 : Int32) (Or.inl rfl) w44)
    · have w45 := w43.2 c
      exact g_sub (L' := [(0, .ref (r 7)), (1, .int a1), (2, .int v2), (3, .ref (r u7)), (4, .ref (r u12))]) [3, 4, 2, 1, 0] rfl (b29  w45)
