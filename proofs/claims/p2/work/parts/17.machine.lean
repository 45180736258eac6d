set_option maxHeartbeats 4000000 in
set_option maxRecDepth 100000 in
theorem s_X5_compared (l : Launch) (D : va_G) (cy : Nat → ClassId) (sz : Nat) (x0 : Int32) (x1 : Int32) (x2 : Int32) : Met l y_X5_compared (Cond.code y_X5_compared b_X5_compared 4 (some .boolean) :: GW) ({ frames := 0, cells := 0, slots := 0, locals := 0 } : Room) (va_Pc [.int x0, .int x1, .int x2] (kPre D cy sz [])) ((fun A : Nat → Prop => va_Qi (S := Unit) (fun (v9 : Int32) (_ : Unit) => (v9 = 0 ∨ v9 = 1) ∧ True) (fun _ => kPost D cy A []) A) (va_A [] sz)) 0 0 (va_A [] sz) := by
  refine k_ofW (Qc := fun A => va_Qi (S := Unit) (fun (v9 : Int32) (_ : Unit) => (v9 = 0 ∨ v9 = 1) ∧ True) (fun _ => kPost D cy A []) A) (by decide) (Nat.le_of_ble_eq_true rfl) ?_
  intro p e s m below meth c A ls hx hb hr hml hown hlocks hin hg hNW hK hP hD hA hS hl
  have hl : lv_has ls 4 [(0, .int x0), (1, .int x1), (2, .int x2)] := hl
  have hown : s.vm.findClass "LinkedUnits$Machine" = some m.cls := hown
  obtain ⟨H, hH⟩ : ∃ H, H = s.heap := ⟨_, rfl⟩
  rw [← hH] at hP
  have hS : va_S A s.heap H [] := by rw [hH]; exact va_S.rf
  have hgoal : W p l e ({ frames := 0, cells := 0, slots := 0, locals := 0 } : Room) s m (([.int x0, .int x1, .int x2] : List Value).toArray) below meth c H [] 0 0 (MQ below (va_Qi (S := Unit) (fun (v9 : Int32) (_ : Unit) => (v9 = 0 ∨ v9 = 1) ∧ True) (fun _ => kPost D cy A []) A) (([.int x0, .int x1, .int x2] : List Value).toArray) s 0 0 A) (F0 m 0 ls []) := by
    refine lv_ldc (v := (-2147483648)) hx hb hown (hg _ m_1232) d_X5_compared_0 ?_
    refine lv_istore_n (lv' := [(3, .int (-2147483648)), (0, .int x0), (1, .int x1), (2, .int x2)]) hx hb d_X5_compared_2 rfl hl (by decide) rfl (fun ls hl => ?_)
    refine lv_iload_n hx hb d_X5_compared_3 rfl (lv_at hl 1 rfl) ?_
    refine (Decidable.em (x0 = 51)).elim (fun q4_0 => ?_) (fun q4_0 => ?_)
    · refine k_topi 51 q4_0 ?_
      refine lv_tableIn (off := 56) (tgt := 60) hx hb d_X5_compared_4 (by decide +kernel) (by decide +kernel) (by decide +kernel) (by decide) ?_
      refine lv_iload_n hx hb d_X5_compared_60 rfl (lv_at hl 2 rfl) ?_
      refine lv_iload_n hx hb d_X5_compared_61 rfl (lv_at hl 3 rfl) ?_
      refine lv_icmp_ne (tgt := 69) hx hb d_X5_compared_62 (by decide) (fun c_62 => ?_) (fun c_62 => ?_)
      · -- taken at 62
        refine lv_iconst (v := 0) hx hb d_X5_compared_69 (by decide) ?_
        refine W.widen (k := 0) (n := 0) (Nat.le_of_ble_eq_true rfl) (Nat.le_of_ble_eq_true rfl) ?_
        exact k_zret (X := Unit) (w1 := fun _ => []) () hx hb hr (k_nz (Or.inl rfl)) d_X5_compared_70 hlocks hP hK hD hS ⟨(Or.inl rfl), trivial⟩
      · -- not taken at 62
        refine lv_iconst (v := 1) hx hb d_X5_compared_65 (by decide) ?_
        refine lv_goto (tgt := 70) hx hb d_X5_compared_66 (by decide) ?_
        refine W.widen (k := 0) (n := 0) (Nat.le_of_ble_eq_true rfl) (Nat.le_of_ble_eq_true rfl) ?_
        exact k_zret (X := Unit) (w1 := fun _ => []) () hx hb hr (k_nz (Or.inr rfl)) d_X5_compared_70 hlocks hP hK hD hS ⟨(Or.inr rfl), trivial⟩
    refine (Decidable.em (x0 = 52)).elim (fun q4_1 => ?_) (fun q4_1 => ?_)
    · refine k_topi 52 q4_1 ?_
      refine lv_tableIn (off := 67) (tgt := 71) hx hb d_X5_compared_4 (by decide +kernel) (by decide +kernel) (by decide +kernel) (by decide) ?_
      refine lv_iload_n hx hb d_X5_compared_71 rfl (lv_at hl 2 rfl) ?_
      refine lv_iload_n hx hb d_X5_compared_72 rfl (lv_at hl 3 rfl) ?_
      refine lv_icmp_eq (tgt := 80) hx hb d_X5_compared_73 (by decide) (fun c_73 => ?_) (fun c_73 => ?_)
      · -- taken at 73
        refine lv_iconst (v := 0) hx hb d_X5_compared_80 (by decide) ?_
        refine W.widen (k := 0) (n := 0) (Nat.le_of_ble_eq_true rfl) (Nat.le_of_ble_eq_true rfl) ?_
        exact k_zret (X := Unit) (w1 := fun _ => []) () hx hb hr (k_nz (Or.inl rfl)) d_X5_compared_81 hlocks hP hK hD hS ⟨(Or.inl rfl), trivial⟩
      · -- not taken at 73
        refine lv_iconst (v := 1) hx hb d_X5_compared_76 (by decide) ?_
        refine lv_goto (tgt := 81) hx hb d_X5_compared_77 (by decide) ?_
        refine W.widen (k := 0) (n := 0) (Nat.le_of_ble_eq_true rfl) (Nat.le_of_ble_eq_true rfl) ?_
        exact k_zret (X := Unit) (w1 := fun _ => []) () hx hb hr (k_nz (Or.inr rfl)) d_X5_compared_81 hlocks hP hK hD hS ⟨(Or.inr rfl), trivial⟩
    refine (Decidable.em (x0 = 53)).elim (fun q4_2 => ?_) (fun q4_2 => ?_)
    · refine k_topi 53 q4_2 ?_
      refine lv_tableIn (off := 78) (tgt := 82) hx hb d_X5_compared_4 (by decide +kernel) (by decide +kernel) (by decide +kernel) (by decide) ?_
      refine lv_iload_n hx hb d_X5_compared_82 rfl (lv_at hl 2 rfl) ?_
      refine lv_iload_n hx hb d_X5_compared_83 rfl (lv_at hl 3 rfl) ?_
      refine lv_icmp_ge (tgt := 91) hx hb d_X5_compared_84 (by decide) (fun c_84 => ?_) (fun c_84 => ?_)
      · -- taken at 84
        refine lv_iconst (v := 0) hx hb d_X5_compared_91 (by decide) ?_
        refine W.widen (k := 0) (n := 0) (Nat.le_of_ble_eq_true rfl) (Nat.le_of_ble_eq_true rfl) ?_
        exact k_zret (X := Unit) (w1 := fun _ => []) () hx hb hr (k_nz (Or.inl rfl)) d_X5_compared_92 hlocks hP hK hD hS ⟨(Or.inl rfl), trivial⟩
      · -- not taken at 84
        refine lv_iconst (v := 1) hx hb d_X5_compared_87 (by decide) ?_
        refine lv_goto (tgt := 92) hx hb d_X5_compared_88 (by decide) ?_
        refine W.widen (k := 0) (n := 0) (Nat.le_of_ble_eq_true rfl) (Nat.le_of_ble_eq_true rfl) ?_
        exact k_zret (X := Unit) (w1 := fun _ => []) () hx hb hr (k_nz (Or.inr rfl)) d_X5_compared_92 hlocks hP hK hD hS ⟨(Or.inr rfl), trivial⟩
    refine (Decidable.em (x0 = 54)).elim (fun q4_3 => ?_) (fun q4_3 => ?_)
    · refine k_topi 54 q4_3 ?_
      refine lv_tableIn (off := 89) (tgt := 93) hx hb d_X5_compared_4 (by decide +kernel) (by decide +kernel) (by decide +kernel) (by decide) ?_
      refine lv_iload_n hx hb d_X5_compared_93 rfl (lv_at hl 2 rfl) ?_
      refine lv_iload_n hx hb d_X5_compared_94 rfl (lv_at hl 3 rfl) ?_
      refine lv_icmp_le (tgt := 102) hx hb d_X5_compared_95 (by decide) (fun c_95 => ?_) (fun c_95 => ?_)
      · -- taken at 95
        refine lv_iconst (v := 0) hx hb d_X5_compared_102 (by decide) ?_
        refine W.widen (k := 0) (n := 0) (Nat.le_of_ble_eq_true rfl) (Nat.le_of_ble_eq_true rfl) ?_
        exact k_zret (X := Unit) (w1 := fun _ => []) () hx hb hr (k_nz (Or.inl rfl)) d_X5_compared_103 hlocks hP hK hD hS ⟨(Or.inl rfl), trivial⟩
      · -- not taken at 95
        refine lv_iconst (v := 1) hx hb d_X5_compared_98 (by decide) ?_
        refine lv_goto (tgt := 103) hx hb d_X5_compared_99 (by decide) ?_
        refine W.widen (k := 0) (n := 0) (Nat.le_of_ble_eq_true rfl) (Nat.le_of_ble_eq_true rfl) ?_
        exact k_zret (X := Unit) (w1 := fun _ => []) () hx hb hr (k_nz (Or.inr rfl)) d_X5_compared_103 hlocks hP hK hD hS ⟨(Or.inr rfl), trivial⟩
    refine (Decidable.em (x0 = 55)).elim (fun q4_4 => ?_) (fun q4_4 => ?_)
    · refine k_topi 55 q4_4 ?_
      refine lv_tableIn (off := 100) (tgt := 104) hx hb d_X5_compared_4 (by decide +kernel) (by decide +kernel) (by decide +kernel) (by decide) ?_
      refine lv_iload_n hx hb d_X5_compared_104 rfl (lv_at hl 2 rfl) ?_
      refine lv_iload_n hx hb d_X5_compared_105 rfl (lv_at hl 3 rfl) ?_
      refine lv_icmp_gt (tgt := 113) hx hb d_X5_compared_106 (by decide) (fun c_106 => ?_) (fun c_106 => ?_)
      · -- taken at 106
        refine lv_iconst (v := 0) hx hb d_X5_compared_113 (by decide) ?_
        refine W.widen (k := 0) (n := 0) (Nat.le_of_ble_eq_true rfl) (Nat.le_of_ble_eq_true rfl) ?_
        exact k_zret (X := Unit) (w1 := fun _ => []) () hx hb hr (k_nz (Or.inl rfl)) d_X5_compared_114 hlocks hP hK hD hS ⟨(Or.inl rfl), trivial⟩
      · -- not taken at 106
        refine lv_iconst (v := 1) hx hb d_X5_compared_109 (by decide) ?_
        refine lv_goto (tgt := 114) hx hb d_X5_compared_110 (by decide) ?_
        refine W.widen (k := 0) (n := 0) (Nat.le_of_ble_eq_true rfl) (Nat.le_of_ble_eq_true rfl) ?_
        exact k_zret (X := Unit) (w1 := fun _ => []) () hx hb hr (k_nz (Or.inr rfl)) d_X5_compared_114 hlocks hP hK hD hS ⟨(Or.inr rfl), trivial⟩
    refine (Decidable.em (x0 = 56)).elim (fun q4_5 => ?_) (fun q4_5 => ?_)
    · refine k_topi 56 q4_5 ?_
      refine lv_tableIn (off := 111) (tgt := 115) hx hb d_X5_compared_4 (by decide +kernel) (by decide +kernel) (by decide +kernel) (by decide) ?_
      refine lv_iload_n hx hb d_X5_compared_115 rfl (lv_at hl 2 rfl) ?_
      refine lv_iload_n hx hb d_X5_compared_116 rfl (lv_at hl 3 rfl) ?_
      refine lv_icmp_lt (tgt := 124) hx hb d_X5_compared_117 (by decide) (fun c_117 => ?_) (fun c_117 => ?_)
      · -- taken at 117
        refine lv_iconst (v := 0) hx hb d_X5_compared_124 (by decide) ?_
        refine W.widen (k := 0) (n := 0) (Nat.le_of_ble_eq_true rfl) (Nat.le_of_ble_eq_true rfl) ?_
        exact k_zret (X := Unit) (w1 := fun _ => []) () hx hb hr (k_nz (Or.inl rfl)) d_X5_compared_125 hlocks hP hK hD hS ⟨(Or.inl rfl), trivial⟩
      · -- not taken at 117
        refine lv_iconst (v := 1) hx hb d_X5_compared_120 (by decide) ?_
        refine lv_goto (tgt := 125) hx hb d_X5_compared_121 (by decide) ?_
        refine W.widen (k := 0) (n := 0) (Nat.le_of_ble_eq_true rfl) (Nat.le_of_ble_eq_true rfl) ?_
        exact k_zret (X := Unit) (w1 := fun _ => []) () hx hb hr (k_nz (Or.inr rfl)) d_X5_compared_125 hlocks hP hK hD hS ⟨(Or.inr rfl), trivial⟩
    refine (Decidable.em (x0 = 57)).elim (fun q4_6 => ?_) (fun q4_6 => ?_)
    · refine k_topi 57 q4_6 ?_
      refine lv_tableIn (off := 122) (tgt := 126) hx hb d_X5_compared_4 (by decide +kernel) (by decide +kernel) (by decide +kernel) (by decide) ?_
      refine lv_iload_n hx hb d_X5_compared_126 rfl (lv_at hl 2 rfl) ?_
      refine lv_iload_n hx hb d_X5_compared_127 rfl (lv_at hl 0 rfl) ?_
      refine lv_iadd hx hb d_X5_compared_128 ?_
      refine lv_iload_n hx hb d_X5_compared_129 rfl (lv_at hl 3 rfl) ?_
      refine lv_iload_n hx hb d_X5_compared_130 rfl (lv_at hl 0 rfl) ?_
      refine lv_iadd hx hb d_X5_compared_131 ?_
      refine lv_icmp_ge (tgt := 139) hx hb d_X5_compared_132 (by decide) (fun c_132 => ?_) (fun c_132 => ?_)
      · -- taken at 132
        refine lv_iconst (v := 0) hx hb d_X5_compared_139 (by decide) ?_
        refine W.widen (k := 0) (n := 0) (Nat.le_of_ble_eq_true rfl) (Nat.le_of_ble_eq_true rfl) ?_
        exact k_zret (X := Unit) (w1 := fun _ => []) () hx hb hr (k_nz (Or.inl rfl)) d_X5_compared_140 hlocks hP hK hD hS ⟨(Or.inl rfl), trivial⟩
      · -- not taken at 132
        refine lv_iconst (v := 1) hx hb d_X5_compared_135 (by decide) ?_
        refine lv_goto (tgt := 140) hx hb d_X5_compared_136 (by decide) ?_
        refine W.widen (k := 0) (n := 0) (Nat.le_of_ble_eq_true rfl) (Nat.le_of_ble_eq_true rfl) ?_
        exact k_zret (X := Unit) (w1 := fun _ => []) () hx hb hr (k_nz (Or.inr rfl)) d_X5_compared_140 hlocks hP hK hD hS ⟨(Or.inr rfl), trivial⟩
    refine (Decidable.em (x0 = 58)).elim (fun q4_7 => ?_) (fun q4_7 => ?_)
    · refine k_topi 58 q4_7 ?_
      refine lv_tableIn (off := 137) (tgt := 141) hx hb d_X5_compared_4 (by decide +kernel) (by decide +kernel) (by decide +kernel) (by decide) ?_
      refine lv_iload_n hx hb d_X5_compared_141 rfl (lv_at hl 2 rfl) ?_
      refine lv_iload_n hx hb d_X5_compared_142 rfl (lv_at hl 0 rfl) ?_
      refine lv_iadd hx hb d_X5_compared_143 ?_
      refine lv_iload_n hx hb d_X5_compared_144 rfl (lv_at hl 3 rfl) ?_
      refine lv_iload_n hx hb d_X5_compared_145 rfl (lv_at hl 0 rfl) ?_
      refine lv_iadd hx hb d_X5_compared_146 ?_
      refine lv_icmp_le (tgt := 154) hx hb d_X5_compared_147 (by decide) (fun c_147 => ?_) (fun c_147 => ?_)
      · -- taken at 147
        refine lv_iconst (v := 0) hx hb d_X5_compared_154 (by decide) ?_
        refine W.widen (k := 0) (n := 0) (Nat.le_of_ble_eq_true rfl) (Nat.le_of_ble_eq_true rfl) ?_
        exact k_zret (X := Unit) (w1 := fun _ => []) () hx hb hr (k_nz (Or.inl rfl)) d_X5_compared_155 hlocks hP hK hD hS ⟨(Or.inl rfl), trivial⟩
      · -- not taken at 147
        refine lv_iconst (v := 1) hx hb d_X5_compared_150 (by decide) ?_
        refine lv_goto (tgt := 155) hx hb d_X5_compared_151 (by decide) ?_
        refine W.widen (k := 0) (n := 0) (Nat.le_of_ble_eq_true rfl) (Nat.le_of_ble_eq_true rfl) ?_
        exact k_zret (X := Unit) (w1 := fun _ => []) () hx hb hr (k_nz (Or.inr rfl)) d_X5_compared_155 hlocks hP hK hD hS ⟨(Or.inr rfl), trivial⟩
    refine (Decidable.em (x0 = 59)).elim (fun q4_8 => ?_) (fun q4_8 => ?_)
    · refine k_topi 59 q4_8 ?_
      refine lv_tableIn (off := 152) (tgt := 156) hx hb d_X5_compared_4 (by decide +kernel) (by decide +kernel) (by decide +kernel) (by decide) ?_
      refine lv_iload_n hx hb d_X5_compared_156 rfl (lv_at hl 2 rfl) ?_
      refine lv_iload_n hx hb d_X5_compared_157 rfl (lv_at hl 0 rfl) ?_
      refine lv_iadd hx hb d_X5_compared_158 ?_
      refine lv_iload_n hx hb d_X5_compared_159 rfl (lv_at hl 3 rfl) ?_
      refine lv_iload_n hx hb d_X5_compared_160 rfl (lv_at hl 0 rfl) ?_
      refine lv_iadd hx hb d_X5_compared_161 ?_
      refine lv_icmp_gt (tgt := 169) hx hb d_X5_compared_162 (by decide) (fun c_162 => ?_) (fun c_162 => ?_)
      · -- taken at 162
        refine lv_iconst (v := 0) hx hb d_X5_compared_169 (by decide) ?_
        refine W.widen (k := 0) (n := 0) (Nat.le_of_ble_eq_true rfl) (Nat.le_of_ble_eq_true rfl) ?_
        exact k_zret (X := Unit) (w1 := fun _ => []) () hx hb hr (k_nz (Or.inl rfl)) d_X5_compared_170 hlocks hP hK hD hS ⟨(Or.inl rfl), trivial⟩
      · -- not taken at 162
        refine lv_iconst (v := 1) hx hb d_X5_compared_165 (by decide) ?_
        refine lv_goto (tgt := 170) hx hb d_X5_compared_166 (by decide) ?_
        refine W.widen (k := 0) (n := 0) (Nat.le_of_ble_eq_true rfl) (Nat.le_of_ble_eq_true rfl) ?_
        exact k_zret (X := Unit) (w1 := fun _ => []) () hx hb hr (k_nz (Or.inr rfl)) d_X5_compared_170 hlocks hP hK hD hS ⟨(Or.inr rfl), trivial⟩
    refine (Decidable.em (x0 = 60)).elim (fun q4_9 => ?_) (fun q4_9 => ?_)
    · refine k_topi 60 q4_9 ?_
      refine lv_tableIn (off := 167) (tgt := 171) hx hb d_X5_compared_4 (by decide +kernel) (by decide +kernel) (by decide +kernel) (by decide) ?_
      refine lv_iload_n hx hb d_X5_compared_171 rfl (lv_at hl 2 rfl) ?_
      refine lv_iload_n hx hb d_X5_compared_172 rfl (lv_at hl 0 rfl) ?_
      refine lv_iadd hx hb d_X5_compared_173 ?_
      refine lv_iload_n hx hb d_X5_compared_174 rfl (lv_at hl 3 rfl) ?_
      refine lv_iload_n hx hb d_X5_compared_175 rfl (lv_at hl 0 rfl) ?_
      refine lv_iadd hx hb d_X5_compared_176 ?_
      refine lv_icmp_lt (tgt := 184) hx hb d_X5_compared_177 (by decide) (fun c_177 => ?_) (fun c_177 => ?_)
      · -- taken at 177
        refine lv_iconst (v := 0) hx hb d_X5_compared_184 (by decide) ?_
        refine W.widen (k := 0) (n := 0) (Nat.le_of_ble_eq_true rfl) (Nat.le_of_ble_eq_true rfl) ?_
        exact k_zret (X := Unit) (w1 := fun _ => []) () hx hb hr (k_nz (Or.inl rfl)) d_X5_compared_185 hlocks hP hK hD hS ⟨(Or.inl rfl), trivial⟩
      · -- not taken at 177
        refine lv_iconst (v := 1) hx hb d_X5_compared_180 (by decide) ?_
        refine lv_goto (tgt := 185) hx hb d_X5_compared_181 (by decide) ?_
        refine W.widen (k := 0) (n := 0) (Nat.le_of_ble_eq_true rfl) (Nat.le_of_ble_eq_true rfl) ?_
        exact k_zret (X := Unit) (w1 := fun _ => []) () hx hb hr (k_nz (Or.inr rfl)) d_X5_compared_185 hlocks hP hK hD hS ⟨(Or.inr rfl), trivial⟩
    refine lv_tableOut (tgt := 186) hx hb d_X5_compared_4 (by have hq4_0 := lv_neT q4_0 (show (51 : Int32).toInt = 51 by decide); have hq4_1 := lv_neT q4_1 (show (52 : Int32).toInt = 52 by decide); have hq4_2 := lv_neT q4_2 (show (53 : Int32).toInt = 53 by decide); have hq4_3 := lv_neT q4_3 (show (54 : Int32).toInt = 54 by decide); have hq4_4 := lv_neT q4_4 (show (55 : Int32).toInt = 55 by decide); have hq4_5 := lv_neT q4_5 (show (56 : Int32).toInt = 56 by decide); have hq4_6 := lv_neT q4_6 (show (57 : Int32).toInt = 57 by decide); have hq4_7 := lv_neT q4_7 (show (58 : Int32).toInt = 58 by decide); have hq4_8 := lv_neT q4_8 (show (59 : Int32).toInt = 59 by decide); have hq4_9 := lv_neT q4_9 (show (60 : Int32).toInt = 60 by decide); omega) (by decide) ?_
    refine lv_iconst (v := 0) hx hb d_X5_compared_186 (by decide) ?_
    refine W.widen (k := 0) (n := 0) (Nat.le_of_ble_eq_true rfl) (Nat.le_of_ble_eq_true rfl) ?_
    exact k_zret (X := Unit) (w1 := fun _ => []) () hx hb hr (k_nz (Or.inl rfl)) d_X5_compared_187 hlocks hP hK hD hS ⟨(Or.inl rfl), trivial⟩
  rw [hH] at hgoal
  exact hgoal
set_option maxHeartbeats 4000000 in
set_option maxRecDepth 100000 in
theorem s_X5_inverted (l : Launch) (D : va_G) (cy : Nat → ClassId) (sz : Nat) (x0 : Int32) (x1 : Int32) : Met l y_X5_inverted (Cond.code y_X5_inverted b_X5_inverted 2 (some .int) :: GW) ({ frames := 0, cells := 0, slots := 0, locals := 0 } : Room) (va_Pc [.int x0, .int x1] (kPre D cy sz [])) ((fun A : Nat → Prop => va_Qi (S := Unit) (fun (_ : Int32) (_ : Unit) => True) (fun _ => kPost D cy A []) A) (va_A [] sz)) 0 0 (va_A [] sz) := by
  refine k_ofW (Qc := fun A => va_Qi (S := Unit) (fun (_ : Int32) (_ : Unit) => True) (fun _ => kPost D cy A []) A) (by decide) (Nat.le_of_ble_eq_true rfl) ?_
  intro p e s m below meth c A ls hx hb hr hml hown hlocks hin hg hNW hK hP hD hA hS hl
  have hl : lv_has ls 2 [(0, .int x0), (1, .int x1)] := hl
  have hown : s.vm.findClass "LinkedUnits$Machine" = some m.cls := hown
  obtain ⟨H, hH⟩ : ∃ H, H = s.heap := ⟨_, rfl⟩
  rw [← hH] at hP
  have hS : va_S A s.heap H [] := by rw [hH]; exact va_S.rf
  have hgoal : W p l e ({ frames := 0, cells := 0, slots := 0, locals := 0 } : Room) s m (([.int x0, .int x1] : List Value).toArray) below meth c H [] 0 0 (MQ below (va_Qi (S := Unit) (fun (_ : Int32) (_ : Unit) => True) (fun _ => kPost D cy A []) A) (([.int x0, .int x1] : List Value).toArray) s 0 0 A) (F0 m 0 ls []) := by
    refine lv_iload_n hx hb d_X5_inverted_0 rfl (lv_at hl 0 rfl) ?_
    refine (Decidable.em (x0 = 22)).elim (fun q1_0 => ?_) (fun q1_0 => ?_)
    · refine k_topi 22 q1_0 ?_
      refine lv_tableIn (off := 27) (tgt := 28) hx hb d_X5_inverted_1 (by decide +kernel) (by decide +kernel) (by decide +kernel) (by decide) ?_
      refine lv_iload_n hx hb d_X5_inverted_28 rfl (lv_at hl 1 rfl) ?_
      refine lv_ineg hx hb d_X5_inverted_29 ?_
      refine W.widen (k := 0) (n := 0) (Nat.le_of_ble_eq_true rfl) (Nat.le_of_ble_eq_true rfl) ?_
      exact k_iret (X := Unit) (w1 := fun _ => []) () hx hb hr d_X5_inverted_30 hlocks hP hK hD hS trivial
    refine (Decidable.em (x0 = 23)).elim (fun q1_1 => ?_) (fun q1_1 => ?_)
    · refine k_topi 23 q1_1 ?_
      refine lv_tableIn (off := 30) (tgt := 31) hx hb d_X5_inverted_1 (by decide +kernel) (by decide +kernel) (by decide +kernel) (by decide) ?_
      refine lv_iload_n hx hb d_X5_inverted_31 rfl (lv_at hl 1 rfl) ?_
      refine lv_iconst (v := (-1)) hx hb d_X5_inverted_32 (by decide) ?_
      refine lv_ixor hx hb d_X5_inverted_33 ?_
      refine W.widen (k := 0) (n := 0) (Nat.le_of_ble_eq_true rfl) (Nat.le_of_ble_eq_true rfl) ?_
      exact k_iret (X := Unit) (w1 := fun _ => []) () hx hb hr d_X5_inverted_34 hlocks hP hK hD hS trivial
    refine (Decidable.em (x0 = 24)).elim (fun q1_2 => ?_) (fun q1_2 => ?_)
    · refine k_topi 24 q1_2 ?_
      refine lv_tableIn (off := 34) (tgt := 35) hx hb d_X5_inverted_1 (by decide +kernel) (by decide +kernel) (by decide +kernel) (by decide) ?_
      refine lv_iload_n hx hb d_X5_inverted_35 rfl (lv_at hl 1 rfl) ?_
      refine lv_if_ne (tgt := 43) hx hb d_X5_inverted_36 (by decide) (fun c_36 => ?_) (fun c_36 => ?_)
      · -- taken at 36
        refine lv_iconst (v := 0) hx hb d_X5_inverted_43 (by decide) ?_
        refine W.widen (k := 0) (n := 0) (Nat.le_of_ble_eq_true rfl) (Nat.le_of_ble_eq_true rfl) ?_
        exact k_iret (X := Unit) (w1 := fun _ => []) () hx hb hr d_X5_inverted_44 hlocks hP hK hD hS trivial
      · -- not taken at 36
        refine lv_iconst (v := 1) hx hb d_X5_inverted_39 (by decide) ?_
        refine lv_goto (tgt := 44) hx hb d_X5_inverted_40 (by decide) ?_
        refine W.widen (k := 0) (n := 0) (Nat.le_of_ble_eq_true rfl) (Nat.le_of_ble_eq_true rfl) ?_
        exact k_iret (X := Unit) (w1 := fun _ => []) () hx hb hr d_X5_inverted_44 hlocks hP hK hD hS trivial
    refine lv_tableOut (tgt := 45) hx hb d_X5_inverted_1 (by have hq1_0 := lv_neT q1_0 (show (22 : Int32).toInt = 22 by decide); have hq1_1 := lv_neT q1_1 (show (23 : Int32).toInt = 23 by decide); have hq1_2 := lv_neT q1_2 (show (24 : Int32).toInt = 24 by decide); omega) (by decide) ?_
    refine lv_iload_n hx hb d_X5_inverted_45 rfl (lv_at hl 1 rfl) ?_
    refine lv_if_eq (tgt := 53) hx hb d_X5_inverted_46 (by decide) (fun c_46 => ?_) (fun c_46 => ?_)
    · -- taken at 46
      refine lv_iconst (v := 0) hx hb d_X5_inverted_53 (by decide) ?_
      refine W.widen (k := 0) (n := 0) (Nat.le_of_ble_eq_true rfl) (Nat.le_of_ble_eq_true rfl) ?_
      exact k_iret (X := Unit) (w1 := fun _ => []) () hx hb hr d_X5_inverted_54 hlocks hP hK hD hS trivial
    · -- not taken at 46
      refine lv_iconst (v := 1) hx hb d_X5_inverted_49 (by decide) ?_
      refine lv_goto (tgt := 54) hx hb d_X5_inverted_50 (by decide) ?_
      refine W.widen (k := 0) (n := 0) (Nat.le_of_ble_eq_true rfl) (Nat.le_of_ble_eq_true rfl) ?_
      exact k_iret (X := Unit) (w1 := fun _ => []) () hx hb hr d_X5_inverted_54 hlocks hP hK hD hS trivial
  rw [hH] at hgoal
  exact hgoal
set_option maxHeartbeats 4000000 in
set_option maxRecDepth 100000 in
theorem s_X5_fail (l : Launch) (D : va_G) (cy : Nat → ClassId) (sz : Nat) (r : Nat → Nat) (σ : St) (x1 : Int32) (x2 : Int32) (inv : Inv σ) : Met l y_X5_fail (Cond.code y_X5_fail b_X5_fail 3 none :: GW) ({ frames := 0, cells := 0, slots := 0, locals := 0 } : Room) (va_Pc [.ref (r 12), .int x1, .int x2] (kPre D cy sz (wB cy r σ))) ((fun A : Nat → Prop => va_Qv (S := St) (fun (τ : St) => Inv τ) (fun τ => kPost D cy A (wB cy r τ)) A) (va_A (wB cy r σ) sz)) 0 0 (va_A (wB cy r σ) sz) := by
  refine k_ofW (Qc := fun A => va_Qv (S := St) (fun (τ : St) => Inv τ) (fun τ => kPost D cy A (wB cy r τ)) A) (by decide) (Nat.le_of_ble_eq_true rfl) ?_
  intro p e s m below meth c A ls hx hb hr hml hown hlocks hin hg hNW hK hP hD hA hS hl
  have hl : lv_has ls 3 [(0, .ref (r 12)), (1, .int x1), (2, .int x2)] := hl
  have hown : s.vm.findClass "LinkedUnits$Machine" = some m.cls := hown
  obtain ⟨H, hH⟩ : ∃ H, H = s.heap := ⟨_, rfl⟩
  rw [← hH] at hP
  have hS : va_S A s.heap H [] := by rw [hH]; exact va_S.rf
  have hgoal : W p l e ({ frames := 0, cells := 0, slots := 0, locals := 0 } : Room) s m (([.ref (r 12), .int x1, .int x2] : List Value).toArray) below meth c H [] 0 0 (MQ below (va_Qv (S := St) (fun (τ : St) => Inv τ) (fun τ => kPost D cy A (wB cy r τ)) A) (([.ref (r 12), .int x1, .int x2] : List Value).toArray) s 0 0 A) (F0 m 0 ls []) := by
    refine lv_aload_n hx hb d_X5_fail_0 rfl (lv_at hl 0 rfl) ?_
    refine lv_iload_n hx hb d_X5_fail_1 rfl (lv_at hl 1 rfl) ?_
    refine va_put (D := D) (ci := 5) (v := .int x1) (ty := .int) (C := "LinkedUnits$Machine") (T := TX5) (N := 19) hx hb hg iwX5 tyX5 tyX5_ok nmX5 hown hK hP hD hS 11 rfl rfl 13 (by decide) (hg _ m_685) (fun _ h9 => h9) rfl (by decide +kernel) rfl rfl (Nat.le_of_ble_eq_true rfl) d_X5_fail_2 (fun H locs hP hD hS => ?_)
    have hP : va_P D vwCl (wB cy r (upC σ 12 13 x1)) H := hP
    have hD : va_D A (wB cy r (upC σ 12 13 x1)) := hD
    refine lv_aload_n hx hb d_X5_fail_5 rfl (lv_at hl 0 rfl) ?_
    refine lv_aload_n hx hb d_X5_fail_6 rfl (lv_at hl 0 rfl) ?_
    refine va_get (D := D) (ci := 5) (v := .int (σ 12 8)) (C := "LinkedUnits$Machine") (T := TX5) (N := 19) hx hb hg iwX5 hown hK hP 11 rfl rfl 8 (by decide) (hg _ m_680) (fun _ h9 => h9) rfl d_X5_fail_7 ?_
    refine lv_iconst (v := 1) hx hb d_X5_fail_10 (by decide) ?_
    refine lv_isub hx hb d_X5_fail_11 ?_
    refine va_put (D := D) (ci := 5) (v := .int ((σ 12 8) - 1)) (ty := .int) (C := "LinkedUnits$Machine") (T := TX5) (N := 19) hx hb hg iwX5 tyX5 tyX5_ok nmX5 hown hK hP hD hS 11 rfl rfl 16 (by decide) (hg _ m_690) (fun _ h9 => h9) rfl (by decide +kernel) rfl rfl (Nat.le_of_ble_eq_true rfl) d_X5_fail_12 (fun H locs hP hD hS => ?_)
    have hP : va_P D vwCl (wB cy r (upC (upC σ 12 13 x1) 12 16 ((σ 12 8) - 1))) H := hP
    have hD : va_D A (wB cy r (upC (upC σ 12 13 x1) 12 16 ((σ 12 8) - 1))) := hD
    refine lv_aload_n hx hb d_X5_fail_15 rfl (lv_at hl 0 rfl) ?_
    refine lv_iload_n hx hb d_X5_fail_16 rfl (lv_at hl 2 rfl) ?_
    refine va_put (D := D) (ci := 5) (v := .int x2) (ty := .int) (C := "LinkedUnits$Machine") (T := TX5) (N := 19) hx hb hg iwX5 tyX5 tyX5_ok nmX5 hown hK hP hD hS 11 rfl rfl 17 (by decide) (hg _ m_692) (fun _ h9 => h9) rfl (by decide +kernel) rfl rfl (Nat.le_of_ble_eq_true rfl) d_X5_fail_17 (fun H locs hP hD hS => ?_)
    have hP : va_P D vwCl (wB cy r (upC (upC (upC σ 12 13 x1) 12 16 ((σ 12 8) - 1)) 12 17 x2)) H := hP
    have hD : va_D A (wB cy r (upC (upC (upC σ 12 13 x1) 12 16 ((σ 12 8) - 1)) 12 17 x2)) := hD
    refine W.widen (k := 0) (n := 0) (Nat.le_of_ble_eq_true rfl) (Nat.le_of_ble_eq_true rfl) ?_
    exact k_vret (X := St) (w1 := fun τ => wB cy r τ) (upC (upC (upC σ 12 13 x1) 12 16 ((σ 12 8) - 1)) 12 17 x2) hx hb hr d_X5_fail_20 hlocks hP hK hD hS inv
  rw [hH] at hgoal
  exact hgoal
set_option maxHeartbeats 4000000 in
set_option maxRecDepth 100000 in
theorem s_X5_copyParameters (l : Launch) (D : va_G) (cy : Nat → ClassId) (sz : Nat) (r : Nat → Nat) (σ : St) (x1 : Int32) (x2 : Int32) (inv : Inv σ) : Met l y_X5_copyParameters (Cond.code y_X5_copyParameters b_X5_copyParameters 5 none :: GW) ({ frames := 1, cells := 0, slots := 0, locals := 22 } : Room) (va_Pc [.ref (r 12), .int x1, .int x2] (kPre D cy sz (wB cy r σ))) ((fun A : Nat → Prop => va_Qv (S := St) (fun (τ : St) => Inv τ) (fun τ => kPost D cy A (wB cy r τ)) A) (va_A (wB cy r σ) sz)) 0 0 (va_A (wB cy r σ) sz) := by
  refine k_ofW (Qc := fun A => va_Qv (S := St) (fun (τ : St) => Inv τ) (fun τ => kPost D cy A (wB cy r τ)) A) (by decide) (Nat.le_of_ble_eq_true rfl) ?_
  intro p e s m below meth c A ls hx hb hr hml hown hlocks hin hg hNW hK hP hD hA hS hl
  have hl : lv_has ls 5 [(0, .ref (r 12)), (1, .int x1), (2, .int x2)] := hl
  have hown : s.vm.findClass "LinkedUnits$Machine" = some m.cls := hown
  have b8 : ∀ (N : Nat) (σ : St) (x1 : Int32) (x2 : Int32) (x3 : Int32) (x4 : Int32) (H : Heap) (locs : List Loc) (ls : Array Slot), upm x4 = N → Inv σ → va_P D vwCl (wB cy r σ) H → va_D A (wB cy r σ) → va_S A s.heap H locs → lv_has ls 5 [(0, .ref (r 12)), (1, .int x1), (2, .int x2), (3, .int x3), (4, .int x4)] → W p l e ({ frames := 1, cells := 0, slots := 0, locals := 22 } : Room) s m (([.ref (r 12), .int x1, .int x2] : List Value).toArray) below meth c H locs 0 0 (MQ below (va_Qv (S := St) (fun (τ : St) => Inv τ) (fun τ => kPost D cy A (wB cy r τ)) A) (([.ref (r 12), .int x1, .int x2] : List Value).toArray) s 0 0 A) (F0 m 8 ls []) := by
    intro N
    induction N using Nat.strongRecOn with
    | _ N ih8 =>
      intro σ x1 x2 x3 x4 H locs ls N8 inv hP hD hS hl
      refine lv_iload hx hb d_X5_copyParameters_8 (lv_at hl 4 rfl) ?_
      refine lv_iload_n hx hb d_X5_copyParameters_10 rfl (lv_at hl 1 rfl) ?_
      refine lv_icmp_ge (tgt := 54) hx hb d_X5_copyParameters_11 (by decide) (fun c_11 => ?_) (fun c_11 => ?_)
      · -- taken at 11
        refine W.widen (k := 0) (n := 0) (Nat.le_of_ble_eq_true rfl) (Nat.le_of_ble_eq_true rfl) ?_
        exact k_vret (X := St) (w1 := fun τ => wB cy r τ) σ hx hb hr d_X5_copyParameters_54 hlocks hP hK hD hS inv
      · -- not taken at 11
        refine lv_iload_n hx hb d_X5_copyParameters_14 rfl (lv_at hl 2 rfl) ?_
        refine lv_iload hx hb d_X5_copyParameters_15 (lv_at hl 4 rfl) ?_
        refine lv_ishr hx hb d_X5_copyParameters_17 ?_
        refine lv_iconst (v := 1) hx hb d_X5_copyParameters_18 (by decide) ?_
        refine lv_iand hx hb d_X5_copyParameters_19 ?_
        refine lv_if_eq (tgt := 48) hx hb d_X5_copyParameters_20 (by decide) (fun c_20 => ?_) (fun c_20 => ?_)
        · -- taken at 20
          refine lv_iinc (v := (x4 + 1)) (lv' := [(4, .int (x4 + 1)), (0, .ref (r 12)), (1, .int x1), (2, .int x2), (3, .int x3)]) hx hb d_X5_copyParameters_48 hl (k := 4) rfl rfl (by decide) rfl (fun ls hl => ?_)
          refine lv_goto (tgt := 8) hx hb d_X5_copyParameters_51 (by decide) ?_
          exact ih8 _ (N8 ▸ upm_lt c_11) σ x1 x2 x3 (x4 + 1) _ _ _ rfl inv hP hD hS (lv_sub hl [1, 2, 3, 4, 0] rfl)
        · -- not taken at 20
          refine lv_aload_n hx hb d_X5_copyParameters_23 rfl (lv_at hl 0 rfl) ?_
          refine va_get (D := D) (ci := 5) (v := .ref (r 62)) (C := "LinkedUnits$Machine") (T := TX5) (N := 19) hx hb hg iwX5 hown hK hP 11 rfl rfl 4 (by decide) (hg _ m_675) (fun _ h9 => h9) rfl d_X5_copyParameters_24 ?_
          refine lv_iload_n hx hb d_X5_copyParameters_27 rfl (lv_at hl 3 rfl) ?_
          refine lv_aload_n hx hb d_X5_copyParameters_28 rfl (lv_at hl 0 rfl) ?_
          refine va_get (D := D) (ci := 5) (v := .ref (r 63)) (C := "LinkedUnits$Machine") (T := TX5) (N := 19) hx hb hg iwX5 hown hK hP 11 rfl rfl 5 (by decide) (hg _ m_677) (fun _ h9 => h9) rfl d_X5_copyParameters_29 ?_
          refine lv_aload_n hx hb d_X5_copyParameters_32 rfl (lv_at hl 0 rfl) ?_
          refine va_get (D := D) (ci := 5) (v := .int (σ 12 10)) (C := "LinkedUnits$Machine") (T := TX5) (N := 19) hx hb hg iwX5 hown hK hP 11 rfl rfl 10 (by decide) (hg _ m_682) (fun _ h9 => h9) rfl d_X5_copyParameters_33 ?_
          refine lv_iload hx hb d_X5_copyParameters_36 (lv_at hl 4 rfl) ?_
          refine lv_iadd hx hb d_X5_copyParameters_38 ?_
          refine s_call1 (x := ((r 63), .inl (cy 1, 148496, .inl (σ 63)))) 60 rfl (va_runSN (As := [.ref (r 63), .int ((σ 12 10) + x4)]) (rest := [.int x3, .ref (r 62)]) ⟨hx, hb, hml, hown, hg⟩ (c_at_any l D cy H.size (r 63) 148496 (σ 63) ((σ 12 10) + x4) (Nat.le_of_ble_eq_true rfl)) ⟨(va_cnB 2 hg (gw_c m_949) rfl rfl rfl (hNW.1 _ nm_1660) (hg _ m_1) (by decide +kernel) ⟨(Nat.le_of_ble_eq_true rfl), (Nat.le_of_ble_eq_true rfl)⟩), hg _ m_948, trivial⟩ (s_pre (ws := [((r 63), .inl (cy 1, 148496, .inl (σ 63)))]) (s_sub1 60 hP rfl) (s_subD 60 hD rfl) hK hNW) rfl rfl hl.1 rfl (lv_room (Nat.le_of_ble_eq_true rfl)) d_X5_copyParameters_39 ⟨(Nat.le_of_ble_eq_true rfl), (Nat.le_of_ble_eq_true rfl)⟩) hP hD hS hA (fun r1 u1 H locs hw hP hD hS => ?_)
          have hP : va_P D vwCl (wB cy r σ) H := hP
          have hD : va_D A (wB cy r σ) := hD
          refine s_set1 (X := Nat → Int32) (w := fun g => .inl (cy 1, 32768, .inl g)) 59 rfl (va_runSN (As := [.ref (r 62), .int x3, .int r1]) (rest := []) ⟨hx, hb, hml, hown, hg⟩ (c_set_any l D cy H.size (r 62) 32768 (σ 62) x3 r1 (Nat.le_of_ble_eq_true rfl)) ⟨(va_cnB 3 hg (gw_c m_981) rfl rfl rfl (hNW.1 _ nm_1661) (hg _ m_1) (by decide +kernel) ⟨(Nat.le_of_ble_eq_true rfl), (Nat.le_of_ble_eq_true rfl)⟩), hg _ m_980, trivial⟩ (s_pre (ws := [((r 62), .inl (cy 1, 32768, .inl (σ 62)))]) (s_sub1 59 hP rfl) (s_subD 59 hD rfl) hK hNW) rfl rfl hl.1 rfl (lv_room (Nat.le_of_ble_eq_true rfl)) d_X5_copyParameters_42 ⟨(Nat.le_of_ble_eq_true rfl), (Nat.le_of_ble_eq_true rfl)⟩) hP hD hS hA (fun g2 H locs hw hP hD hS => ?_)
          have hP : va_P D vwCl (wB cy r (upF σ 62 g2)) H := hP
          have hD : va_D A (wB cy r (upF σ 62 g2)) := hD
          refine lv_iinc (v := (x3 + 1)) (lv' := [(3, .int (x3 + 1)), (0, .ref (r 12)), (1, .int x1), (2, .int x2), (4, .int x4)]) hx hb d_X5_copyParameters_45 hl (k := 3) rfl rfl (by decide) rfl (fun ls hl => ?_)
          refine lv_iinc (v := (x4 + 1)) (lv' := [(4, .int (x4 + 1)), (3, .int (x3 + 1)), (0, .ref (r 12)), (1, .int x1), (2, .int x2)]) hx hb d_X5_copyParameters_48 hl (k := 4) rfl rfl (by decide) rfl (fun ls hl => ?_)
          refine lv_goto (tgt := 8) hx hb d_X5_copyParameters_51 (by decide) ?_
          exact ih8 _ (N8 ▸ upm_lt c_11) (upF σ 62 g2) x1 x2 (x3 + 1) (x4 + 1) _ _ _ rfl inv hP hD hS (lv_sub hl [2, 3, 4, 1, 0] rfl)
  obtain ⟨H, hH⟩ : ∃ H, H = s.heap := ⟨_, rfl⟩
  rw [← hH] at hP
  have hS : va_S A s.heap H [] := by rw [hH]; exact va_S.rf
  have hgoal : W p l e ({ frames := 1, cells := 0, slots := 0, locals := 22 } : Room) s m (([.ref (r 12), .int x1, .int x2] : List Value).toArray) below meth c H [] 0 0 (MQ below (va_Qv (S := St) (fun (τ : St) => Inv τ) (fun τ => kPost D cy A (wB cy r τ)) A) (([.ref (r 12), .int x1, .int x2] : List Value).toArray) s 0 0 A) (F0 m 0 ls []) := by
    refine lv_aload_n hx hb d_X5_copyParameters_0 rfl (lv_at hl 0 rfl) ?_
    refine va_get (D := D) (ci := 5) (v := .int (σ 12 11)) (C := "LinkedUnits$Machine") (T := TX5) (N := 19) hx hb hg iwX5 hown hK hP 11 rfl rfl 11 (by decide) (hg _ m_683) (fun _ h9 => h9) rfl d_X5_copyParameters_1 ?_
    refine lv_istore_n (lv' := [(3, .int (σ 12 11)), (0, .ref (r 12)), (1, .int x1), (2, .int x2)]) hx hb d_X5_copyParameters_4 rfl hl (by decide) rfl (fun ls hl => ?_)
    refine lv_iconst (v := 0) hx hb d_X5_copyParameters_5 (by decide) ?_
    refine lv_istore (lv' := [(4, .int 0), (3, .int (σ 12 11)), (0, .ref (r 12)), (1, .int x1), (2, .int x2)]) hx hb d_X5_copyParameters_6 hl (by decide) rfl (fun ls hl => ?_)
    exact b8 _ σ x1 x2 (σ 12 11) (0 : Int32) _ _ _ rfl inv hP hD hS (lv_sub hl [2, 3, 4, 1, 0] rfl)
  rw [hH] at hgoal
  exact hgoal
set_option maxHeartbeats 4000000 in
set_option maxRecDepth 100000 in
theorem s_X5_stray (l : Launch) (D : va_G) (cy : Nat → ClassId) (sz : Nat) (r : Nat → Nat) (σ : St) (inv : Inv σ) : Met l y_X5_stray (Cond.code y_X5_stray b_X5_stray 1 none :: GW) ({ frames := 0, cells := 0, slots := 0, locals := 0 } : Room) (va_Pc [.ref (r 12)] (kPre D cy sz (wB cy r σ))) ((fun A : Nat → Prop => va_Qv (S := St) (fun (τ : St) => Inv τ) (fun τ => kPost D cy A (wB cy r τ)) A) (va_A (wB cy r σ) sz)) 0 0 (va_A (wB cy r σ) sz) := by
  refine k_ofW (Qc := fun A => va_Qv (S := St) (fun (τ : St) => Inv τ) (fun τ => kPost D cy A (wB cy r τ)) A) (by decide) (Nat.le_of_ble_eq_true rfl) ?_
  intro p e s m below meth c A ls hx hb hr hml hown hlocks hin hg hNW hK hP hD hA hS hl
  have hl : lv_has ls 1 [(0, .ref (r 12))] := hl
  have hown : s.vm.findClass "LinkedUnits$Machine" = some m.cls := hown
  obtain ⟨H, hH⟩ : ∃ H, H = s.heap := ⟨_, rfl⟩
  rw [← hH] at hP
  have hS : va_S A s.heap H [] := by rw [hH]; exact va_S.rf
  have hgoal : W p l e ({ frames := 0, cells := 0, slots := 0, locals := 0 } : Room) s m (([.ref (r 12)] : List Value).toArray) below meth c H [] 0 0 (MQ below (va_Qv (S := St) (fun (τ : St) => Inv τ) (fun τ => kPost D cy A (wB cy r τ)) A) (([.ref (r 12)] : List Value).toArray) s 0 0 A) (F0 m 0 ls []) := by
    refine lv_aload_n hx hb d_X5_stray_0 rfl (lv_at hl 0 rfl) ?_
    refine lv_dup hx hb d_X5_stray_1 rfl ?_
    refine va_get (D := D) (ci := 5) (v := .int (σ 12 18)) (C := "LinkedUnits$Machine") (T := TX5) (N := 19) hx hb hg iwX5 hown hK hP 11 rfl rfl 18 (by decide) (hg _ m_694) (fun _ h9 => h9) rfl d_X5_stray_2 ?_
    refine lv_iconst (v := 1) hx hb d_X5_stray_5 (by decide) ?_
    refine lv_iadd hx hb d_X5_stray_6 ?_
    refine va_put (D := D) (ci := 5) (v := .int ((σ 12 18) + 1)) (ty := .int) (C := "LinkedUnits$Machine") (T := TX5) (N := 19) hx hb hg iwX5 tyX5 tyX5_ok nmX5 hown hK hP hD hS 11 rfl rfl 18 (by decide) (hg _ m_694) (fun _ h9 => h9) rfl (by decide +kernel) rfl rfl (Nat.le_of_ble_eq_true rfl) d_X5_stray_7 (fun H locs hP hD hS => ?_)
    have hP : va_P D vwCl (wB cy r (upC σ 12 18 ((σ 12 18) + 1))) H := hP
    have hD : va_D A (wB cy r (upC σ 12 18 ((σ 12 18) + 1))) := hD
    refine lv_aload_n hx hb d_X5_stray_10 rfl (lv_at hl 0 rfl) ?_
    refine lv_iconst (v := 0) hx hb d_X5_stray_11 (by decide) ?_
    refine va_put (D := D) (ci := 5) (v := .int 0) (ty := .int) (C := "LinkedUnits$Machine") (T := TX5) (N := 19) hx hb hg iwX5 tyX5 tyX5_ok nmX5 hown hK hP hD hS 11 rfl rfl 13 (by decide) (hg _ m_685) (fun _ h9 => h9) rfl (by decide +kernel) rfl rfl (Nat.le_of_ble_eq_true rfl) d_X5_stray_12 (fun H locs hP hD hS => ?_)
    have hP : va_P D vwCl (wB cy r (upC (upC σ 12 18 ((σ 12 18) + 1)) 12 13 0)) H := hP
    have hD : va_D A (wB cy r (upC (upC σ 12 18 ((σ 12 18) + 1)) 12 13 0)) := hD
    refine W.widen (k := 0) (n := 0) (Nat.le_of_ble_eq_true rfl) (Nat.le_of_ble_eq_true rfl) ?_
    exact k_vret (X := St) (w1 := fun τ => wB cy r τ) (upC (upC σ 12 18 ((σ 12 18) + 1)) 12 13 0) hx hb hr d_X5_stray_15 hlocks hP hK hD hS inv
  rw [hH] at hgoal
  exact hgoal
set_option maxHeartbeats 4000000 in
set_option maxRecDepth 100000 in
theorem s_X5_pop (l : Launch) (D : va_G) (cy : Nat → ClassId) (sz : Nat) (r : Nat → Nat) (σ : St) (inv : Inv σ) : Met l y_X5_pop (Cond.code y_X5_pop b_X5_pop 1 (some .int) :: GW) ({ frames := 1, cells := 0, slots := 0, locals := 21 } : Room) (va_Pc [.ref (r 12)] (kPre D cy sz (wB cy r σ))) ((fun A : Nat → Prop => va_Qi (S := St) (fun (_ : Int32) (τ : St) => Inv τ) (fun τ => kPost D cy A (wB cy r τ)) A) (va_A (wB cy r σ) sz)) 0 0 (va_A (wB cy r σ) sz) := by
  refine k_ofW (Qc := fun A => va_Qi (S := St) (fun (_ : Int32) (τ : St) => Inv τ) (fun τ => kPost D cy A (wB cy r τ)) A) (by decide) (Nat.le_of_ble_eq_true rfl) ?_
  intro p e s m below meth c A ls hx hb hr hml hown hlocks hin hg hNW hK hP hD hA hS hl
  have hl : lv_has ls 1 [(0, .ref (r 12))] := hl
  have hown : s.vm.findClass "LinkedUnits$Machine" = some m.cls := hown
  obtain ⟨H, hH⟩ : ∃ H, H = s.heap := ⟨_, rfl⟩
  rw [← hH] at hP
  have hS : va_S A s.heap H [] := by rw [hH]; exact va_S.rf
  have hgoal : W p l e ({ frames := 1, cells := 0, slots := 0, locals := 21 } : Room) s m (([.ref (r 12)] : List Value).toArray) below meth c H [] 0 0 (MQ below (va_Qi (S := St) (fun (_ : Int32) (τ : St) => Inv τ) (fun τ => kPost D cy A (wB cy r τ)) A) (([.ref (r 12)] : List Value).toArray) s 0 0 A) (F0 m 0 ls []) := by
    refine lv_aload_n hx hb d_X5_pop_0 rfl (lv_at hl 0 rfl) ?_
    refine lv_dup hx hb d_X5_pop_1 rfl ?_
    refine va_get (D := D) (ci := 5) (v := .int (σ 12 9)) (C := "LinkedUnits$Machine") (T := TX5) (N := 19) hx hb hg iwX5 hown hK hP 11 rfl rfl 9 (by decide) (hg _ m_681) (fun _ h9 => h9) rfl d_X5_pop_2 ?_
    refine lv_iconst (v := 1) hx hb d_X5_pop_5 (by decide) ?_
    refine lv_isub hx hb d_X5_pop_6 ?_
    refine va_put (D := D) (ci := 5) (v := .int ((σ 12 9) - 1)) (ty := .int) (C := "LinkedUnits$Machine") (T := TX5) (N := 19) hx hb hg iwX5 tyX5 tyX5_ok nmX5 hown hK hP hD hS 11 rfl rfl 9 (by decide) (hg _ m_681) (fun _ h9 => h9) rfl (by decide +kernel) rfl rfl (Nat.le_of_ble_eq_true rfl) d_X5_pop_7 (fun H locs hP hD hS => ?_)
    have hP : va_P D vwCl (wB cy r (upC σ 12 9 ((σ 12 9) - 1))) H := hP
    have hD : va_D A (wB cy r (upC σ 12 9 ((σ 12 9) - 1))) := hD
    refine lv_aload_n hx hb d_X5_pop_10 rfl (lv_at hl 0 rfl) ?_
    refine va_get (D := D) (ci := 5) (v := .ref (r 63)) (C := "LinkedUnits$Machine") (T := TX5) (N := 19) hx hb hg iwX5 hown hK hP 11 rfl rfl 5 (by decide) (hg _ m_677) (fun _ h9 => h9) rfl d_X5_pop_11 ?_
    refine lv_aload_n hx hb d_X5_pop_14 rfl (lv_at hl 0 rfl) ?_
    refine va_get (D := D) (ci := 5) (v := .int ((σ 12 9) - 1)) (C := "LinkedUnits$Machine") (T := TX5) (N := 19) hx hb hg iwX5 hown hK hP 11 rfl rfl 9 (by decide) (hg _ m_681) (fun _ h9 => h9) rfl d_X5_pop_15 ?_
    refine s_call1 (x := ((r 63), .inl (cy 1, 148496, .inl ((upC σ 12 9 ((σ 12 9) - 1)) 63)))) 60 rfl (va_runSN (As := [.ref (r 63), .int ((σ 12 9) - 1)]) (rest := []) ⟨hx, hb, hml, hown, hg⟩ (c_at_any l D cy H.size (r 63) 148496 ((upC σ 12 9 ((σ 12 9) - 1)) 63) ((σ 12 9) - 1) (Nat.le_of_ble_eq_true rfl)) ⟨(va_cnB 2 hg (gw_c m_949) rfl rfl rfl (hNW.1 _ nm_1660) (hg _ m_1) (by decide +kernel) ⟨(Nat.le_of_ble_eq_true rfl), (Nat.le_of_ble_eq_true rfl)⟩), hg _ m_948, trivial⟩ (s_pre (ws := [((r 63), .inl (cy 1, 148496, .inl ((upC σ 12 9 ((σ 12 9) - 1)) 63)))]) (s_sub1 60 hP rfl) (s_subD 60 hD rfl) hK hNW) rfl rfl hl.1 rfl (lv_room (Nat.le_of_ble_eq_true rfl)) d_X5_pop_18 ⟨(Nat.le_of_ble_eq_true rfl), (Nat.le_of_ble_eq_true rfl)⟩) hP hD hS hA (fun r1 u1 H locs hw hP hD hS => ?_)
    have hP : va_P D vwCl (wB cy r (upC σ 12 9 ((σ 12 9) - 1))) H := hP
    have hD : va_D A (wB cy r (upC σ 12 9 ((σ 12 9) - 1))) := hD
    refine W.widen (k := 0) (n := 0) (Nat.le_of_ble_eq_true rfl) (Nat.le_of_ble_eq_true rfl) ?_
    exact k_iret (X := St) (w1 := fun τ => wB cy r τ) (upC σ 12 9 ((σ 12 9) - 1)) hx hb hr d_X5_pop_21 hlocks hP hK hD hS inv
  rw [hH] at hgoal
  exact hgoal
set_option maxHeartbeats 4000000 in
set_option maxRecDepth 100000 in
theorem s_X5_push (l : Launch) (D : va_G) (cy : Nat → ClassId) (sz : Nat) (r : Nat → Nat) (σ : St) (x1 : Int32) (inv : Inv σ) : Met l y_X5_push (Cond.code y_X5_push b_X5_push 2 none :: GW) ({ frames := 1, cells := 0, slots := 0, locals := 22 } : Room) (va_Pc [.ref (r 12), .int x1] (kPre D cy sz (wB cy r σ))) ((fun A : Nat → Prop => va_Qv (S := St) (fun (τ : St) => Inv τ) (fun τ => kPost D cy A (wB cy r τ)) A) (va_A (wB cy r σ) sz)) 0 0 (va_A (wB cy r σ) sz) := by
  refine k_ofW (Qc := fun A => va_Qv (S := St) (fun (τ : St) => Inv τ) (fun τ => kPost D cy A (wB cy r τ)) A) (by decide) (Nat.le_of_ble_eq_true rfl) ?_
  intro p e s m below meth c A ls hx hb hr hml hown hlocks hin hg hNW hK hP hD hA hS hl
  have hl : lv_has ls 2 [(0, .ref (r 12)), (1, .int x1)] := hl
  have hown : s.vm.findClass "LinkedUnits$Machine" = some m.cls := hown
  obtain ⟨H, hH⟩ : ∃ H, H = s.heap := ⟨_, rfl⟩
  rw [← hH] at hP
  have hS : va_S A s.heap H [] := by rw [hH]; exact va_S.rf
  have hgoal : W p l e ({ frames := 1, cells := 0, slots := 0, locals := 22 } : Room) s m (([.ref (r 12), .int x1] : List Value).toArray) below meth c H [] 0 0 (MQ below (va_Qv (S := St) (fun (τ : St) => Inv τ) (fun τ => kPost D cy A (wB cy r τ)) A) (([.ref (r 12), .int x1] : List Value).toArray) s 0 0 A) (F0 m 0 ls []) := by
    refine lv_aload_n hx hb d_X5_push_0 rfl (lv_at hl 0 rfl) ?_
    refine va_get (D := D) (ci := 5) (v := .ref (r 63)) (C := "LinkedUnits$Machine") (T := TX5) (N := 19) hx hb hg iwX5 hown hK hP 11 rfl rfl 5 (by decide) (hg _ m_677) (fun _ h9 => h9) rfl d_X5_push_1 ?_
    refine lv_aload_n hx hb d_X5_push_4 rfl (lv_at hl 0 rfl) ?_
    refine va_get (D := D) (ci := 5) (v := .int (σ 12 9)) (C := "LinkedUnits$Machine") (T := TX5) (N := 19) hx hb hg iwX5 hown hK hP 11 rfl rfl 9 (by decide) (hg _ m_681) (fun _ h9 => h9) rfl d_X5_push_5 ?_
    refine lv_iload_n hx hb d_X5_push_8 rfl (lv_at hl 1 rfl) ?_
    refine s_set1 (X := Nat → Int32) (w := fun g => .inl (cy 1, 148496, .inl g)) 60 rfl (va_runSN (As := [.ref (r 63), .int (σ 12 9), .int x1]) (rest := []) ⟨hx, hb, hml, hown, hg⟩ (c_set_any l D cy H.size (r 63) 148496 (σ 63) (σ 12 9) x1 (Nat.le_of_ble_eq_true rfl)) ⟨(va_cnB 3 hg (gw_c m_981) rfl rfl rfl (hNW.1 _ nm_1661) (hg _ m_1) (by decide +kernel) ⟨(Nat.le_of_ble_eq_true rfl), (Nat.le_of_ble_eq_true rfl)⟩), hg _ m_980, trivial⟩ (s_pre (ws := [((r 63), .inl (cy 1, 148496, .inl (σ 63)))]) (s_sub1 60 hP rfl) (s_subD 60 hD rfl) hK hNW) rfl rfl hl.1 rfl (lv_room (Nat.le_of_ble_eq_true rfl)) d_X5_push_9 ⟨(Nat.le_of_ble_eq_true rfl), (Nat.le_of_ble_eq_true rfl)⟩) hP hD hS hA (fun g1 H locs hw hP hD hS => ?_)
    have hP : va_P D vwCl (wB cy r (upF σ 63 g1)) H := hP
    have hD : va_D A (wB cy r (upF σ 63 g1)) := hD
    refine lv_aload_n hx hb d_X5_push_12 rfl (lv_at hl 0 rfl) ?_
    refine lv_dup hx hb d_X5_push_13 rfl ?_
    refine va_get (D := D) (ci := 5) (v := .int (σ 12 9)) (C := "LinkedUnits$Machine") (T := TX5) (N := 19) hx hb hg iwX5 hown hK hP 11 rfl rfl 9 (by decide) (hg _ m_681) (fun _ h9 => h9) rfl d_X5_push_14 ?_
    refine lv_iconst (v := 1) hx hb d_X5_push_17 (by decide) ?_
    refine lv_iadd hx hb d_X5_push_18 ?_
    refine va_put (D := D) (ci := 5) (v := .int ((σ 12 9) + 1)) (ty := .int) (C := "LinkedUnits$Machine") (T := TX5) (N := 19) hx hb hg iwX5 tyX5 tyX5_ok nmX5 hown hK hP hD hS 11 rfl rfl 9 (by decide) (hg _ m_681) (fun _ h9 => h9) rfl (by decide +kernel) rfl rfl (Nat.le_of_ble_eq_true rfl) d_X5_push_19 (fun H locs hP hD hS => ?_)
    have hP : va_P D vwCl (wB cy r (upC (upF σ 63 g1) 12 9 ((σ 12 9) + 1))) H := hP
    have hD : va_D A (wB cy r (upC (upF σ 63 g1) 12 9 ((σ 12 9) + 1))) := hD
    refine W.widen (k := 0) (n := 0) (Nat.le_of_ble_eq_true rfl) (Nat.le_of_ble_eq_true rfl) ?_
    exact k_vret (X := St) (w1 := fun τ => wB cy r τ) (upC (upF σ 63 g1) 12 9 ((σ 12 9) + 1)) hx hb hr d_X5_push_22 hlocks hP hK hD hS inv
  rw [hH] at hgoal
  exact hgoal
set_option maxHeartbeats 4000000 in
set_option maxRecDepth 100000 in
theorem s_X5_decide (l : Launch) (D : va_G) (cy : Nat → ClassId) (sz : Nat) (r : Nat → Nat) (σ : St) (x1 : Int32) (x2 : Int32) (inv : Inv σ) (z_x1 : x1 = 0 ∨ x1 = 1) : Met l y_X5_decide (Cond.code y_X5_decide b_X5_decide 3 none :: GW) ({ frames := 2, cells := 0, slots := 0, locals := 43 } : Room) (va_Pc [.ref (r 12), .int x1, .int x2] (kPre D cy sz (wB cy r σ))) ((fun A : Nat → Prop => va_Qv (S := St) (fun (τ : St) => Inv τ) (fun τ => kPost D cy A (wB cy r τ)) A) (va_A (wB cy r σ) sz)) 0 0 (va_A (wB cy r σ) sz) := by
  refine k_ofW (Qc := fun A => va_Qv (S := St) (fun (τ : St) => Inv τ) (fun τ => kPost D cy A (wB cy r τ)) A) (by decide) (Nat.le_of_ble_eq_true rfl) ?_
  intro p e s m below meth c A ls hx hb hr hml hown hlocks hin hg hNW hK hP hD hA hS hl
  have hl : lv_has ls 3 [(0, .ref (r 12)), (1, .int x1), (2, .int x2)] := hl
  have hown : s.vm.findClass "LinkedUnits$Machine" = some m.cls := hown
  obtain ⟨H, hH⟩ : ∃ H, H = s.heap := ⟨_, rfl⟩
  rw [← hH] at hP
  have hS : va_S A s.heap H [] := by rw [hH]; exact va_S.rf
  have hgoal : W p l e ({ frames := 2, cells := 0, slots := 0, locals := 43 } : Room) s m (([.ref (r 12), .int x1, .int x2] : List Value).toArray) below meth c H [] 0 0 (MQ below (va_Qv (S := St) (fun (τ : St) => Inv τ) (fun τ => kPost D cy A (wB cy r τ)) A) (([.ref (r 12), .int x1, .int x2] : List Value).toArray) s 0 0 A) (F0 m 0 ls []) := by
    refine lv_aload_n hx hb d_X5_decide_0 rfl (lv_at hl 0 rfl) ?_
    refine s_calli (X := St) (w1 := fun τ => wB cy r τ) (va_runV (As := []) (rest := []) ⟨hx, hb, hml, hown, hg⟩ (s_X5_pop l D cy H.size r σ  inv ) (cwV 0 hg (gw_V m_1681 m_1683 ms_X5_pop m_17 m_1684) rfl rfl rfl (by decide +kernel) ⟨(Nat.le_of_ble_eq_true rfl), (Nat.le_of_ble_eq_true rfl)⟩) (s_preV (As := []) hP hD hK hNW 11 rfl rfl) rfl rfl hl.1 rfl (lv_room (Nat.le_of_ble_eq_true rfl)) d_X5_decide_1 ⟨(Nat.le_of_ble_eq_true rfl), (Nat.le_of_ble_eq_true rfl)⟩) hP hD hS hA (fun r1 σ1 H locs hw hP hD hS => ?_)
    have hP : va_P D vwCl (wB cy r σ1) H := hP
    have hD : va_D A (wB cy r σ1) := hD
    have i1 : Inv σ1 := hw
    refine lv_if_eq (tgt := 11) hx hb d_X5_decide_4 (by decide) (fun c_4 => ?_) (fun c_4 => ?_)
    · -- taken at 4
      refine lv_iconst (v := 0) hx hb d_X5_decide_11 (by decide) ?_
      refine lv_iload_n hx hb d_X5_decide_12 rfl (lv_at hl 1 rfl) ?_
      refine lv_icmp_ne (tgt := 34) hx hb d_X5_decide_13 (by decide) (fun c_13 => ?_) (fun c_13 => ?_)
      · -- taken at 13
        refine W.widen (k := 0) (n := 0) (Nat.le_of_ble_eq_true rfl) (Nat.le_of_ble_eq_true rfl) ?_
        exact k_vret (X := St) (w1 := fun τ => wB cy r τ) σ1 hx hb hr d_X5_decide_34 hlocks hP hK hD hS i1
      · -- not taken at 13
        refine lv_aload_n hx hb d_X5_decide_16 rfl (lv_at hl 0 rfl) ?_
        refine lv_iload_n hx hb d_X5_decide_17 rfl (lv_at hl 1 rfl) ?_
        refine lv_if_eq (tgt := 25) hx hb d_X5_decide_18 (by decide) (fun c_18 => ?_) (fun c_18 => ?_)
        · -- taken at 18
          refine lv_iconst (v := 0) hx hb d_X5_decide_25 (by decide) ?_
          refine s_callv (X := St) (w1 := fun τ => wB cy r τ) (va_runV (As := [.int 0]) (rest := []) ⟨hx, hb, hml, hown, hg⟩ (s_X5_push l D cy H.size r σ1 (0 : Int32) i1 ) (cwV 1 hg (gw_V m_1686 m_1688 ms_X5_push m_17 m_1689) rfl rfl rfl (by decide +kernel) ⟨(Nat.le_of_ble_eq_true rfl), (Nat.le_of_ble_eq_true rfl)⟩) (s_preV (As := [.int 0]) hP hD hK hNW 11 rfl rfl) rfl rfl hl.1 rfl (lv_room (Nat.le_of_ble_eq_true rfl)) d_X5_decide_26 ⟨(Nat.le_of_ble_eq_true rfl), (Nat.le_of_ble_eq_true rfl)⟩) hP hD hS hA (fun σ2 H locs hw hP hD hS => ?_)
          have hP : va_P D vwCl (wB cy r σ2) H := hP
          have hD : va_D A (wB cy r σ2) := hD
          have i2 : Inv σ2 := hw
          refine lv_aload_n hx hb d_X5_decide_29 rfl (lv_at hl 0 rfl) ?_
          refine lv_iload_n hx hb d_X5_decide_30 rfl (lv_at hl 2 rfl) ?_
          refine va_put (D := D) (ci := 5) (v := .int x2) (ty := .int) (C := "LinkedUnits$Machine") (T := TX5) (N := 19) hx hb hg iwX5 tyX5 tyX5_ok nmX5 hown hK hP hD hS 11 rfl rfl 8 (by decide) (hg _ m_680) (fun _ h9 => h9) rfl (by decide +kernel) rfl rfl (Nat.le_of_ble_eq_true rfl) d_X5_decide_31 (fun H locs hP hD hS => ?_)
          have hP : va_P D vwCl (wB cy r (upC σ2 12 8 x2)) H := hP
          have hD : va_D A (wB cy r (upC σ2 12 8 x2)) := hD
          refine W.widen (k := 0) (n := 0) (Nat.le_of_ble_eq_true rfl) (Nat.le_of_ble_eq_true rfl) ?_
          exact k_vret (X := St) (w1 := fun τ => wB cy r τ) (upC σ2 12 8 x2) hx hb hr d_X5_decide_34 hlocks hP hK hD hS i2
        · -- not taken at 18
          refine lv_iconst (v := 1) hx hb d_X5_decide_21 (by decide) ?_
          refine lv_goto (tgt := 26) hx hb d_X5_decide_22 (by decide) ?_
          refine s_callv (X := St) (w1 := fun τ => wB cy r τ) (va_runV (As := [.int 1]) (rest := []) ⟨hx, hb, hml, hown, hg⟩ (s_X5_push l D cy H.size r σ1 (1 : Int32) i1 ) (cwV 1 hg (gw_V m_1686 m_1688 ms_X5_push m_17 m_1689) rfl rfl rfl (by decide +kernel) ⟨(Nat.le_of_ble_eq_true rfl), (Nat.le_of_ble_eq_true rfl)⟩) (s_preV (As := [.int 1]) hP hD hK hNW 11 rfl rfl) rfl rfl hl.1 rfl (lv_room (Nat.le_of_ble_eq_true rfl)) d_X5_decide_26 ⟨(Nat.le_of_ble_eq_true rfl), (Nat.le_of_ble_eq_true rfl)⟩) hP hD hS hA (fun σ3 H locs hw hP hD hS => ?_)
          have hP : va_P D vwCl (wB cy r σ3) H := hP
          have hD : va_D A (wB cy r σ3) := hD
          have i3 : Inv σ3 := hw
          refine lv_aload_n hx hb d_X5_decide_29 rfl (lv_at hl 0 rfl) ?_
          refine lv_iload_n hx hb d_X5_decide_30 rfl (lv_at hl 2 rfl) ?_
          refine va_put (D := D) (ci := 5) (v := .int x2) (ty := .int) (C := "LinkedUnits$Machine") (T := TX5) (N := 19) hx hb hg iwX5 tyX5 tyX5_ok nmX5 hown hK hP hD hS 11 rfl rfl 8 (by decide) (hg _ m_680) (fun _ h9 => h9) rfl (by decide +kernel) rfl rfl (Nat.le_of_ble_eq_true rfl) d_X5_decide_31 (fun H locs hP hD hS => ?_)
          have hP : va_P D vwCl (wB cy r (upC σ3 12 8 x2)) H := hP
          have hD : va_D A (wB cy r (upC σ3 12 8 x2)) := hD
          refine W.widen (k := 0) (n := 0) (Nat.le_of_ble_eq_true rfl) (Nat.le_of_ble_eq_true rfl) ?_
          exact k_vret (X := St) (w1 := fun τ => wB cy r τ) (upC σ3 12 8 x2) hx hb hr d_X5_decide_34 hlocks hP hK hD hS i3
    · -- not taken at 4
      refine lv_iconst (v := 1) hx hb d_X5_decide_7 (by decide) ?_
      refine lv_goto (tgt := 12) hx hb d_X5_decide_8 (by decide) ?_
      refine lv_iload_n hx hb d_X5_decide_12 rfl (lv_at hl 1 rfl) ?_
      refine lv_icmp_ne (tgt := 34) hx hb d_X5_decide_13 (by decide) (fun c_13 => ?_) (fun c_13 => ?_)
      · -- taken at 13
        refine W.widen (k := 0) (n := 0) (Nat.le_of_ble_eq_true rfl) (Nat.le_of_ble_eq_true rfl) ?_
        exact k_vret (X := St) (w1 := fun τ => wB cy r τ) σ1 hx hb hr d_X5_decide_34 hlocks hP hK hD hS i1
      · -- not taken at 13
        refine lv_aload_n hx hb d_X5_decide_16 rfl (lv_at hl 0 rfl) ?_
        refine lv_iload_n hx hb d_X5_decide_17 rfl (lv_at hl 1 rfl) ?_
        refine lv_if_eq (tgt := 25) hx hb d_X5_decide_18 (by decide) (fun c_18 => ?_) (fun c_18 => ?_)
        · -- taken at 18
          refine lv_iconst (v := 0) hx hb d_X5_decide_25 (by decide) ?_
          refine s_callv (X := St) (w1 := fun τ => wB cy r τ) (va_runV (As := [.int 0]) (rest := []) ⟨hx, hb, hml, hown, hg⟩ (s_X5_push l D cy H.size r σ1 (0 : Int32) i1 ) (cwV 1 hg (gw_V m_1686 m_1688 ms_X5_push m_17 m_1689) rfl rfl rfl (by decide +kernel) ⟨(Nat.le_of_ble_eq_true rfl), (Nat.le_of_ble_eq_true rfl)⟩) (s_preV (As := [.int 0]) hP hD hK hNW 11 rfl rfl) rfl rfl hl.1 rfl (lv_room (Nat.le_of_ble_eq_true rfl)) d_X5_decide_26 ⟨(Nat.le_of_ble_eq_true rfl), (Nat.le_of_ble_eq_true rfl)⟩) hP hD hS hA (fun σ4 H locs hw hP hD hS => ?_)
          have hP : va_P D vwCl (wB cy r σ4) H := hP
          have hD : va_D A (wB cy r σ4) := hD
          have i4 : Inv σ4 := hw
          refine lv_aload_n hx hb d_X5_decide_29 rfl (lv_at hl 0 rfl) ?_
          refine lv_iload_n hx hb d_X5_decide_30 rfl (lv_at hl 2 rfl) ?_
          refine va_put (D := D) (ci := 5) (v := .int x2) (ty := .int) (C := "LinkedUnits$Machine") (T := TX5) (N := 19) hx hb hg iwX5 tyX5 tyX5_ok nmX5 hown hK hP hD hS 11 rfl rfl 8 (by decide) (hg _ m_680) (fun _ h9 => h9) rfl (by decide +kernel) rfl rfl (Nat.le_of_ble_eq_true rfl) d_X5_decide_31 (fun H locs hP hD hS => ?_)
          have hP : va_P D vwCl (wB cy r (upC σ4 12 8 x2)) H := hP
          have hD : va_D A (wB cy r (upC σ4 12 8 x2)) := hD
          refine W.widen (k := 0) (n := 0) (Nat.le_of_ble_eq_true rfl) (Nat.le_of_ble_eq_true rfl) ?_
          exact k_vret (X := St) (w1 := fun τ => wB cy r τ) (upC σ4 12 8 x2) hx hb hr d_X5_decide_34 hlocks hP hK hD hS i4
        · -- not taken at 18
          refine lv_iconst (v := 1) hx hb d_X5_decide_21 (by decide) ?_
          refine lv_goto (tgt := 26) hx hb d_X5_decide_22 (by decide) ?_
          refine s_callv (X := St) (w1 := fun τ => wB cy r τ) (va_runV (As := [.int 1]) (rest := []) ⟨hx, hb, hml, hown, hg⟩ (s_X5_push l D cy H.size r σ1 (1 : Int32) i1 ) (cwV 1 hg (gw_V m_1686 m_1688 ms_X5_push m_17 m_1689) rfl rfl rfl (by decide +kernel) ⟨(Nat.le_of_ble_eq_true rfl), (Nat.le_of_ble_eq_true rfl)⟩) (s_preV (As := [.int 1]) hP hD hK hNW 11 rfl rfl) rfl rfl hl.1 rfl (lv_room (Nat.le_of_ble_eq_true rfl)) d_X5_decide_26 ⟨(Nat.le_of_ble_eq_true rfl), (Nat.le_of_ble_eq_true rfl)⟩) hP hD hS hA (fun σ5 H locs hw hP hD hS => ?_)
          have hP : va_P D vwCl (wB cy r σ5) H := hP
          have hD : va_D A (wB cy r σ5) := hD
          have i5 : Inv σ5 := hw
          refine lv_aload_n hx hb d_X5_decide_29 rfl (lv_at hl 0 rfl) ?_
          refine lv_iload_n hx hb d_X5_decide_30 rfl (lv_at hl 2 rfl) ?_
          refine va_put (D := D) (ci := 5) (v := .int x2) (ty := .int) (C := "LinkedUnits$Machine") (T := TX5) (N := 19) hx hb hg iwX5 tyX5 tyX5_ok nmX5 hown hK hP hD hS 11 rfl rfl 8 (by decide) (hg _ m_680) (fun _ h9 => h9) rfl (by decide +kernel) rfl rfl (Nat.le_of_ble_eq_true rfl) d_X5_decide_31 (fun H locs hP hD hS => ?_)
          have hP : va_P D vwCl (wB cy r (upC σ5 12 8 x2)) H := hP
          have hD : va_D A (wB cy r (upC σ5 12 8 x2)) := hD
          refine W.widen (k := 0) (n := 0) (Nat.le_of_ble_eq_true rfl) (Nat.le_of_ble_eq_true rfl) ?_
          exact k_vret (X := St) (w1 := fun τ => wB cy r τ) (upC σ5 12 8 x2) hx hb hr d_X5_decide_34 hlocks hP hK hD hS i5
  rw [hH] at hgoal
  exact hgoal
set_option maxHeartbeats 4000000 in
set_option maxRecDepth 100000 in
theorem s_X5_giveBack (l : Launch) (D : va_G) (cy : Nat → ClassId) (sz : Nat) (r : Nat → Nat) (σ : St) (inv : Inv σ) : Met l y_X5_giveBack (Cond.code y_X5_giveBack b_X5_giveBack 2 none :: GW) ({ frames := 2, cells := 0, slots := 0, locals := 43 } : Room) (va_Pc [.ref (r 12)] (kPre D cy sz (wB cy r σ))) ((fun A : Nat → Prop => va_Qv (S := St) (fun (τ : St) => Inv τ) (fun τ => kPost D cy A (wB cy r τ)) A) (va_A (wB cy r σ) sz)) 0 0 (va_A (wB cy r σ) sz) := by
  refine k_ofW (Qc := fun A => va_Qv (S := St) (fun (τ : St) => Inv τ) (fun τ => kPost D cy A (wB cy r τ)) A) (by decide) (Nat.le_of_ble_eq_true rfl) ?_
  intro p e s m below meth c A ls hx hb hr hml hown hlocks hin hg hNW hK hP hD hA hS hl
  have hl : lv_has ls 2 [(0, .ref (r 12))] := hl
  have hown : s.vm.findClass "LinkedUnits$Machine" = some m.cls := hown
  obtain ⟨H, hH⟩ : ∃ H, H = s.heap := ⟨_, rfl⟩
  rw [← hH] at hP
  have hS : va_S A s.heap H [] := by rw [hH]; exact va_S.rf
  have hgoal : W p l e ({ frames := 2, cells := 0, slots := 0, locals := 43 } : Room) s m (([.ref (r 12)] : List Value).toArray) below meth c H [] 0 0 (MQ below (va_Qv (S := St) (fun (τ : St) => Inv τ) (fun τ => kPost D cy A (wB cy r τ)) A) (([.ref (r 12)] : List Value).toArray) s 0 0 A) (F0 m 0 ls []) := by
    refine lv_aload_n hx hb d_X5_giveBack_0 rfl (lv_at hl 0 rfl) ?_
    refine s_calli (X := St) (w1 := fun τ => wB cy r τ) (va_runV (As := []) (rest := []) ⟨hx, hb, hml, hown, hg⟩ (s_X5_pop l D cy H.size r σ  inv ) (cwV 0 hg (gw_V m_1681 m_1683 ms_X5_pop m_17 m_1684) rfl rfl rfl (by decide +kernel) ⟨(Nat.le_of_ble_eq_true rfl), (Nat.le_of_ble_eq_true rfl)⟩) (s_preV (As := []) hP hD hK hNW 11 rfl rfl) rfl rfl hl.1 rfl (lv_room (Nat.le_of_ble_eq_true rfl)) d_X5_giveBack_1 ⟨(Nat.le_of_ble_eq_true rfl), (Nat.le_of_ble_eq_true rfl)⟩) hP hD hS hA (fun r1 σ1 H locs hw hP hD hS => ?_)
    have hP : va_P D vwCl (wB cy r σ1) H := hP
    have hD : va_D A (wB cy r σ1) := hD
    have i1 : Inv σ1 := hw
    refine lv_istore_n (lv' := [(1, .int r1), (0, .ref (r 12))]) hx hb d_X5_giveBack_4 rfl hl (by decide) rfl (fun ls hl => ?_)
    refine lv_aload_n hx hb d_X5_giveBack_5 rfl (lv_at hl 1 rfl) ?_
    refine lv_dup hx hb d_X5_giveBack_6 rfl ?_
    refine va_get (D := D) (ci := 5) (v := .int (σ1 12 7)) (C := "LinkedUnits$Machine") (T := TX5) (N := 19) hx hb hg iwX5 hown hK hP 11 rfl rfl 7 (by decide) (hg _ m_679) (fun _ h9 => h9) rfl d_X5_giveBack_7 ?_
    refine lv_iconst (v := 1) hx hb d_X5_giveBack_10 (by decide) ?_
    refine lv_isub hx hb d_X5_giveBack_11 ?_
    refine va_put (D := D) (ci := 5) (v := .int ((σ1 12 7) - 1)) (ty := .int) (C := "LinkedUnits$Machine") (T := TX5) (N := 19) hx hb hg iwX5 tyX5 tyX5_ok nmX5 hown hK hP hD hS 11 rfl rfl 7 (by decide) (hg _ m_679) (fun _ h9 => h9) rfl (by decide +kernel) rfl rfl (Nat.le_of_ble_eq_true rfl) d_X5_giveBack_12 (fun H locs hP hD hS => ?_)
    have hP : va_P D vwCl (wB cy r (upC σ1 12 7 ((σ1 12 7) - 1))) H := hP
    have hD : va_D A (wB cy r (upC σ1 12 7 ((σ1 12 7) - 1))) := hD
    refine lv_aload_n hx hb d_X5_giveBack_15 rfl (lv_at hl 1 rfl) ?_
    refine lv_aload_n hx hb d_X5_giveBack_16 rfl (lv_at hl 1 rfl) ?_
    refine va_get (D := D) (ci := 5) (v := .int (σ1 12 10)) (C := "LinkedUnits$Machine") (T := TX5) (N := 19) hx hb hg iwX5 hown hK hP 11 rfl rfl 10 (by decide) (hg _ m_682) (fun _ h9 => h9) rfl d_X5_giveBack_17 ?_
    refine va_put (D := D) (ci := 5) (v := .int (σ1 12 10)) (ty := .int) (C := "LinkedUnits$Machine") (T := TX5) (N := 19) hx hb hg iwX5 tyX5 tyX5_ok nmX5 hown hK hP hD hS 11 rfl rfl 9 (by decide) (hg _ m_681) (fun _ h9 => h9) rfl (by decide +kernel) rfl rfl (Nat.le_of_ble_eq_true rfl) d_X5_giveBack_20 (fun H locs hP hD hS => ?_)
    have hP : va_P D vwCl (wB cy r (upC (upC σ1 12 7 ((σ1 12 7) - 1)) 12 9 (σ1 12 10))) H := hP
    have hD : va_D A (wB cy r (upC (upC σ1 12 7 ((σ1 12 7) - 1)) 12 9 (σ1 12 10))) := hD
    refine lv_aload_n hx hb d_X5_giveBack_23 rfl (lv_at hl 1 rfl) ?_
    refine lv_aload_n hx hb d_X5_giveBack_24 rfl (lv_at hl 1 rfl) ?_
    refine va_get (D := D) (ci := 5) (v := .ref (r 64)) (C := "LinkedUnits$Machine") (T := TX5) (N := 19) hx hb hg iwX5 hown hK hP 11 rfl rfl 6 (by decide) (hg _ m_678) (fun _ h9 => h9) rfl d_X5_giveBack_25 ?_
    refine lv_iconst (v := 3) hx hb d_X5_giveBack_28 (by decide) ?_
    refine lv_aload_n hx hb d_X5_giveBack_29 rfl (lv_at hl 1 rfl) ?_
    refine va_get (D := D) (ci := 5) (v := .int ((σ1 12 7) - 1)) (C := "LinkedUnits$Machine") (T := TX5) (N := 19) hx hb hg iwX5 hown hK hP 11 rfl rfl 7 (by decide) (hg _ m_679) (fun _ h9 => h9) rfl d_X5_giveBack_30 ?_
    refine lv_imul hx hb d_X5_giveBack_33 ?_
    refine s_call1 (x := ((r 64), .inl (cy 1, 771, .inl ((upC (upC σ1 12 7 ((σ1 12 7) - 1)) 12 9 (σ1 12 10)) 64)))) 61 rfl (va_runSN (As := [.ref (r 64), .int (3 * ((σ1 12 7) - 1))]) (rest := [.ref (r 12)]) ⟨hx, hb, hml, hown, hg⟩ (c_at_any l D cy H.size (r 64) 771 ((upC (upC σ1 12 7 ((σ1 12 7) - 1)) 12 9 (σ1 12 10)) 64) (3 * ((σ1 12 7) - 1)) (Nat.le_of_ble_eq_true rfl)) ⟨(va_cnB 2 hg (gw_c m_949) rfl rfl rfl (hNW.1 _ nm_1660) (hg _ m_1) (by decide +kernel) ⟨(Nat.le_of_ble_eq_true rfl), (Nat.le_of_ble_eq_true rfl)⟩), hg _ m_948, trivial⟩ (s_pre (ws := [((r 64), .inl (cy 1, 771, .inl ((upC (upC σ1 12 7 ((σ1 12 7) - 1)) 12 9 (σ1 12 10)) 64)))]) (s_sub1 61 hP rfl) (s_subD 61 hD rfl) hK hNW) rfl rfl hl.1 rfl (lv_room (Nat.le_of_ble_eq_true rfl)) d_X5_giveBack_34 ⟨(Nat.le_of_ble_eq_true rfl), (Nat.le_of_ble_eq_true rfl)⟩) hP hD hS hA (fun r2 u2 H locs hw hP hD hS => ?_)
    have hP : va_P D vwCl (wB cy r (upC (upC σ1 12 7 ((σ1 12 7) - 1)) 12 9 (σ1 12 10))) H := hP
    have hD : va_D A (wB cy r (upC (upC σ1 12 7 ((σ1 12 7) - 1)) 12 9 (σ1 12 10))) := hD
    refine va_put (D := D) (ci := 5) (v := .int r2) (ty := .int) (C := "LinkedUnits$Machine") (T := TX5) (N := 19) hx hb hg iwX5 tyX5 tyX5_ok nmX5 hown hK hP hD hS 11 rfl rfl 8 (by decide) (hg _ m_680) (fun _ h9 => h9) rfl (by decide +kernel) rfl rfl (Nat.le_of_ble_eq_true rfl) d_X5_giveBack_37 (fun H locs hP hD hS => ?_)
    have hP : va_P D vwCl (wB cy r (upC (upC (upC σ1 12 7 ((σ1 12 7) - 1)) 12 9 (σ1 12 10)) 12 8 r2)) H := hP
    have hD : va_D A (wB cy r (upC (upC (upC σ1 12 7 ((σ1 12 7) - 1)) 12 9 (σ1 12 10)) 12 8 r2)) := hD
    refine lv_aload_n hx hb d_X5_giveBack_40 rfl (lv_at hl 1 rfl) ?_
    refine lv_aload_n hx hb d_X5_giveBack_41 rfl (lv_at hl 1 rfl) ?_
    refine va_get (D := D) (ci := 5) (v := .ref (r 64)) (C := "LinkedUnits$Machine") (T := TX5) (N := 19) hx hb hg iwX5 hown hK hP 11 rfl rfl 6 (by decide) (hg _ m_678) (fun _ h9 => h9) rfl d_X5_giveBack_42 ?_
    refine lv_iconst (v := 3) hx hb d_X5_giveBack_45 (by decide) ?_
    refine lv_aload_n hx hb d_X5_giveBack_46 rfl (lv_at hl 1 rfl) ?_
    refine va_get (D := D) (ci := 5) (v := .int ((σ1 12 7) - 1)) (C := "LinkedUnits$Machine") (T := TX5) (N := 19) hx hb hg iwX5 hown hK hP 11 rfl rfl 7 (by decide) (hg _ m_679) (fun _ h9 => h9) rfl d_X5_giveBack_47 ?_
    refine lv_imul hx hb d_X5_giveBack_50 ?_
    refine lv_iconst (v := 1) hx hb d_X5_giveBack_51 (by decide) ?_
    refine lv_iadd hx hb d_X5_giveBack_52 ?_
    refine s_call1 (x := ((r 64), .inl (cy 1, 771, .inl ((upC (upC (upC σ1 12 7 ((σ1 12 7) - 1)) 12 9 (σ1 12 10)) 12 8 r2) 64)))) 61 rfl (va_runSN (As := [.ref (r 64), .int ((3 * ((σ1 12 7) - 1)) + 1)]) (rest := [.ref (r 12)]) ⟨hx, hb, hml, hown, hg⟩ (c_at_any l D cy H.size (r 64) 771 ((upC (upC (upC σ1 12 7 ((σ1 12 7) - 1)) 12 9 (σ1 12 10)) 12 8 r2) 64) ((3 * ((σ1 12 7) - 1)) + 1) (Nat.le_of_ble_eq_true rfl)) ⟨(va_cnB 2 hg (gw_c m_949) rfl rfl rfl (hNW.1 _ nm_1660) (hg _ m_1) (by decide +kernel) ⟨(Nat.le_of_ble_eq_true rfl), (Nat.le_of_ble_eq_true rfl)⟩), hg _ m_948, trivial⟩ (s_pre (ws := [((r 64), .inl (cy 1, 771, .inl ((upC (upC (upC σ1 12 7 ((σ1 12 7) - 1)) 12 9 (σ1 12 10)) 12 8 r2) 64)))]) (s_sub1 61 hP rfl) (s_subD 61 hD rfl) hK hNW) rfl rfl hl.1 rfl (lv_room (Nat.le_of_ble_eq_true rfl)) d_X5_giveBack_53 ⟨(Nat.le_of_ble_eq_true rfl), (Nat.le_of_ble_eq_true rfl)⟩) hP hD hS hA (fun r3 u3 H locs hw hP hD hS => ?_)
    have hP : va_P D vwCl (wB cy r (upC (upC (upC σ1 12 7 ((σ1 12 7) - 1)) 12 9 (σ1 12 10)) 12 8 r2)) H := hP
    have hD : va_D A (wB cy r (upC (upC (upC σ1 12 7 ((σ1 12 7) - 1)) 12 9 (σ1 12 10)) 12 8 r2)) := hD
    refine va_put (D := D) (ci := 5) (v := .int r3) (ty := .int) (C := "LinkedUnits$Machine") (T := TX5) (N := 19) hx hb hg iwX5 tyX5 tyX5_ok nmX5 hown hK hP hD hS 11 rfl rfl 10 (by decide) (hg _ m_682) (fun _ h9 => h9) rfl (by decide +kernel) rfl rfl (Nat.le_of_ble_eq_true rfl) d_X5_giveBack_56 (fun H locs hP hD hS => ?_)
    have hP : va_P D vwCl (wB cy r (upC (upC (upC (upC σ1 12 7 ((σ1 12 7) - 1)) 12 9 (σ1 12 10)) 12 8 r2) 12 10 r3)) H := hP
    have hD : va_D A (wB cy r (upC (upC (upC (upC σ1 12 7 ((σ1 12 7) - 1)) 12 9 (σ1 12 10)) 12 8 r2) 12 10 r3)) := hD
    refine lv_aload_n hx hb d_X5_giveBack_59 rfl (lv_at hl 1 rfl) ?_
    refine lv_aload_n hx hb d_X5_giveBack_60 rfl (lv_at hl 1 rfl) ?_
    refine va_get (D := D) (ci := 5) (v := .ref (r 64)) (C := "LinkedUnits$Machine") (T := TX5) (N := 19) hx hb hg iwX5 hown hK hP 11 rfl rfl 6 (by decide) (hg _ m_678) (fun _ h9 => h9) rfl d_X5_giveBack_61 ?_
    refine lv_iconst (v := 3) hx hb d_X5_giveBack_64 (by decide) ?_
    refine lv_aload_n hx hb d_X5_giveBack_65 rfl (lv_at hl 1 rfl) ?_
    refine va_get (D := D) (ci := 5) (v := .int ((σ1 12 7) - 1)) (C := "LinkedUnits$Machine") (T := TX5) (N := 19) hx hb hg iwX5 hown hK hP 11 rfl rfl 7 (by decide) (hg _ m_679) (fun _ h9 => h9) rfl d_X5_giveBack_66 ?_
    refine lv_imul hx hb d_X5_giveBack_69 ?_
    refine lv_iconst (v := 2) hx hb d_X5_giveBack_70 (by decide) ?_
    refine lv_iadd hx hb d_X5_giveBack_71 ?_
    refine s_call1 (x := ((r 64), .inl (cy 1, 771, .inl ((upC (upC (upC (upC σ1 12 7 ((σ1 12 7) - 1)) 12 9 (σ1 12 10)) 12 8 r2) 12 10 r3) 64)))) 61 rfl (va_runSN (As := [.ref (r 64), .int ((3 * ((σ1 12 7) - 1)) + 2)]) (rest := [.ref (r 12)]) ⟨hx, hb, hml, hown, hg⟩ (c_at_any l D cy H.size (r 64) 771 ((upC (upC (upC (upC σ1 12 7 ((σ1 12 7) - 1)) 12 9 (σ1 12 10)) 12 8 r2) 12 10 r3) 64) ((3 * ((σ1 12 7) - 1)) + 2) (Nat.le_of_ble_eq_true rfl)) ⟨(va_cnB 2 hg (gw_c m_949) rfl rfl rfl (hNW.1 _ nm_1660) (hg _ m_1) (by decide +kernel) ⟨(Nat.le_of_ble_eq_true rfl), (Nat.le_of_ble_eq_true rfl)⟩), hg _ m_948, trivial⟩ (s_pre (ws := [((r 64), .inl (cy 1, 771, .inl ((upC (upC (upC (upC σ1 12 7 ((σ1 12 7) - 1)) 12 9 (σ1 12 10)) 12 8 r2) 12 10 r3) 64)))]) (s_sub1 61 hP rfl) (s_subD 61 hD rfl) hK hNW) rfl rfl hl.1 rfl (lv_room (Nat.le_of_ble_eq_true rfl)) d_X5_giveBack_72 ⟨(Nat.le_of_ble_eq_true rfl), (Nat.le_of_ble_eq_true rfl)⟩) hP hD hS hA (fun r4 u4 H locs hw hP hD hS => ?_)
    have hP : va_P D vwCl (wB cy r (upC (upC (upC (upC σ1 12 7 ((σ1 12 7) - 1)) 12 9 (σ1 12 10)) 12 8 r2) 12 10 r3)) H := hP
    have hD : va_D A (wB cy r (upC (upC (upC (upC σ1 12 7 ((σ1 12 7) - 1)) 12 9 (σ1 12 10)) 12 8 r2) 12 10 r3)) := hD
    refine va_put (D := D) (ci := 5) (v := .int r4) (ty := .int) (C := "LinkedUnits$Machine") (T := TX5) (N := 19) hx hb hg iwX5 tyX5 tyX5_ok nmX5 hown hK hP hD hS 11 rfl rfl 11 (by decide) (hg _ m_683) (fun _ h9 => h9) rfl (by decide +kernel) rfl rfl (Nat.le_of_ble_eq_true rfl) d_X5_giveBack_75 (fun H locs hP hD hS => ?_)
    have hP : va_P D vwCl (wB cy r (upC (upC (upC (upC (upC σ1 12 7 ((σ1 12 7) - 1)) 12 9 (σ1 12 10)) 12 8 r2) 12 10 r3) 12 11 r4)) H := hP
    have hD : va_D A (wB cy r (upC (upC (upC (upC (upC σ1 12 7 ((σ1 12 7) - 1)) 12 9 (σ1 12 10)) 12 8 r2) 12 10 r3) 12 11 r4)) := hD
    refine lv_aload_n hx hb d_X5_giveBack_78 rfl (lv_at hl 1 rfl) ?_
    refine va_get (D := D) (ci := 5) (v := .int ((σ1 12 7) - 1)) (C := "LinkedUnits$Machine") (T := TX5) (N := 19) hx hb hg iwX5 hown hK hP 11 rfl rfl 7 (by decide) (hg _ m_679) (fun _ h9 => h9) rfl d_X5_giveBack_79 ?_
    refine lv_if_gt (tgt := 98) hx hb d_X5_giveBack_82 (by decide) (fun c_82 => ?_) (fun c_82 => ?_)
    · -- taken at 82
      refine lv_aload_n hx hb d_X5_giveBack_98 rfl (lv_at hl 1 rfl) ?_
      refine lv_iload_n hx hb d_X5_giveBack_99 rfl (lv_at hl 0 rfl) ?_
      refine s_callv (X := St) (w1 := fun τ => wB cy r τ) (va_runV (As := [.int r1]) (rest := []) ⟨hx, hb, hml, hown, hg⟩ (s_X5_push l D cy H.size r (upC (upC (upC (upC (upC σ1 12 7 ((σ1 12 7) - 1)) 12 9 (σ1 12 10)) 12 8 r2) 12 10 r3) 12 11 r4) r1 i1 ) (cwV 1 hg (gw_V m_1686 m_1688 ms_X5_push m_17 m_1689) rfl rfl rfl (by decide +kernel) ⟨(Nat.le_of_ble_eq_true rfl), (Nat.le_of_ble_eq_true rfl)⟩) (s_preV (As := [.int r1]) hP hD hK hNW 11 rfl rfl) rfl rfl hl.1 rfl (lv_room (Nat.le_of_ble_eq_true rfl)) d_X5_giveBack_100 ⟨(Nat.le_of_ble_eq_true rfl), (Nat.le_of_ble_eq_true rfl)⟩) hP hD hS hA (fun σ5 H locs hw hP hD hS => ?_)
      have hP : va_P D vwCl (wB cy r σ5) H := hP
      have hD : va_D A (wB cy r σ5) := hD
      have i5 : Inv σ5 := hw
      refine W.widen (k := 0) (n := 0) (Nat.le_of_ble_eq_true rfl) (Nat.le_of_ble_eq_true rfl) ?_
      exact k_vret (X := St) (w1 := fun τ => wB cy r τ) σ5 hx hb hr d_X5_giveBack_103 hlocks hP hK hD hS i5
    · -- not taken at 82
      refine lv_aload_n hx hb d_X5_giveBack_85 rfl (lv_at hl 1 rfl) ?_
      refine lv_iload_n hx hb d_X5_giveBack_86 rfl (lv_at hl 0 rfl) ?_
      refine va_put (D := D) (ci := 5) (v := .int r1) (ty := .int) (C := "LinkedUnits$Machine") (T := TX5) (N := 19) hx hb hg iwX5 tyX5 tyX5_ok nmX5 hown hK hP hD hS 11 rfl rfl 15 (by decide) (hg _ m_688) (fun _ h9 => h9) rfl (by decide +kernel) rfl rfl (Nat.le_of_ble_eq_true rfl) d_X5_giveBack_87 (fun H locs hP hD hS => ?_)
      have hP : va_P D vwCl (wB cy r (upC (upC (upC (upC (upC (upC σ1 12 7 ((σ1 12 7) - 1)) 12 9 (σ1 12 10)) 12 8 r2) 12 10 r3) 12 11 r4) 12 15 r1)) H := hP
      have hD : va_D A (wB cy r (upC (upC (upC (upC (upC (upC σ1 12 7 ((σ1 12 7) - 1)) 12 9 (σ1 12 10)) 12 8 r2) 12 10 r3) 12 11 r4) 12 15 r1)) := hD
      refine lv_aload_n hx hb d_X5_giveBack_90 rfl (lv_at hl 1 rfl) ?_
      refine lv_iconst (v := 0) hx hb d_X5_giveBack_91 (by decide) ?_
      refine va_put (D := D) (ci := 5) (v := .int 0) (ty := .int) (C := "LinkedUnits$Machine") (T := TX5) (N := 19) hx hb hg iwX5 tyX5 tyX5_ok nmX5 hown hK hP hD hS 11 rfl rfl 13 (by decide) (hg _ m_685) (fun _ h9 => h9) rfl (by decide +kernel) rfl rfl (Nat.le_of_ble_eq_true rfl) d_X5_giveBack_92 (fun H locs hP hD hS => ?_)
      have hP : va_P D vwCl (wB cy r (upC (upC (upC (upC (upC (upC (upC σ1 12 7 ((σ1 12 7) - 1)) 12 9 (σ1 12 10)) 12 8 r2) 12 10 r3) 12 11 r4) 12 15 r1) 12 13 0)) H := hP
      have hD : va_D A (wB cy r (upC (upC (upC (upC (upC (upC (upC σ1 12 7 ((σ1 12 7) - 1)) 12 9 (σ1 12 10)) 12 8 r2) 12 10 r3) 12 11 r4) 12 15 r1) 12 13 0)) := hD
      refine lv_goto (tgt := 103) hx hb d_X5_giveBack_95 (by decide) ?_
      refine W.widen (k := 0) (n := 0) (Nat.le_of_ble_eq_true rfl) (Nat.le_of_ble_eq_true rfl) ?_
      exact k_vret (X := St) (w1 := fun τ => wB cy r τ) (upC (upC (upC (upC (upC (upC (upC σ1 12 7 ((σ1 12 7) - 1)) 12 9 (σ1 12 10)) 12 8 r2) 12 10 r3) 12 11 r4) 12 15 r1) 12 13 0) hx hb hr d_X5_giveBack_103 hlocks hP hK hD hS i1
  rw [hH] at hgoal
  exact hgoal
set_option maxHeartbeats 4000000 in
set_option maxRecDepth 100000 in
theorem s_X5_isCell (l : Launch) (D : va_G) (cy : Nat → ClassId) (sz : Nat) (x0 : Int32) : Met l y_X5_isCell (Cond.code y_X5_isCell b_X5_isCell 1 (some .boolean) :: GW) ({ frames := 0, cells := 0, slots := 0, locals := 0 } : Room) (va_Pc [.int x0] (kPre D cy sz [])) ((fun A : Nat → Prop => va_Qi (S := Unit) (fun (v9 : Int32) (_ : Unit) => (v9 = 0 ∨ v9 = 1) ∧ True) (fun _ => kPost D cy A []) A) (va_A [] sz)) 0 0 (va_A [] sz) := by
  refine k_ofW (Qc := fun A => va_Qi (S := Unit) (fun (v9 : Int32) (_ : Unit) => (v9 = 0 ∨ v9 = 1) ∧ True) (fun _ => kPost D cy A []) A) (by decide) (Nat.le_of_ble_eq_true rfl) ?_
  intro p e s m below meth c A ls hx hb hr hml hown hlocks hin hg hNW hK hP hD hA hS hl
  have hl : lv_has ls 1 [(0, .int x0)] := hl
  have hown : s.vm.findClass "LinkedUnits$Machine" = some m.cls := hown
  obtain ⟨H, hH⟩ : ∃ H, H = s.heap := ⟨_, rfl⟩
  rw [← hH] at hP
  have hS : va_S A s.heap H [] := by rw [hH]; exact va_S.rf
  have hgoal : W p l e ({ frames := 0, cells := 0, slots := 0, locals := 0 } : Room) s m (([.int x0] : List Value).toArray) below meth c H [] 0 0 (MQ below (va_Qi (S := Unit) (fun (v9 : Int32) (_ : Unit) => (v9 = 0 ∨ v9 = 1) ∧ True) (fun _ => kPost D cy A []) A) (([.int x0] : List Value).toArray) s 0 0 A) (F0 m 0 ls []) := by
    refine lv_iload_n hx hb d_X5_isCell_0 rfl (lv_at hl 0 rfl) ?_
    refine lv_bipush (v := 16) hx hb d_X5_isCell_1 (by decide) ?_
    refine lv_icmp_lt (tgt := 16) hx hb d_X5_isCell_3 (by decide) (fun c_3 => ?_) (fun c_3 => ?_)
    · -- taken at 3
      refine lv_iconst (v := 0) hx hb d_X5_isCell_16 (by decide) ?_
      refine W.widen (k := 0) (n := 0) (Nat.le_of_ble_eq_true rfl) (Nat.le_of_ble_eq_true rfl) ?_
      exact k_zret (X := Unit) (w1 := fun _ => []) () hx hb hr (k_nz (Or.inl rfl)) d_X5_isCell_17 hlocks hP hK hD hS ⟨(Or.inl rfl), trivial⟩
    · -- not taken at 3
      refine lv_iload_n hx hb d_X5_isCell_6 rfl (lv_at hl 0 rfl) ?_
      refine lv_ldc (v := 32768) hx hb hown (hg _ m_669) d_X5_isCell_7 ?_
      refine lv_icmp_ge (tgt := 16) hx hb d_X5_isCell_9 (by decide) (fun c_9 => ?_) (fun c_9 => ?_)
      · -- taken at 9
        refine lv_iconst (v := 0) hx hb d_X5_isCell_16 (by decide) ?_
        refine W.widen (k := 0) (n := 0) (Nat.le_of_ble_eq_true rfl) (Nat.le_of_ble_eq_true rfl) ?_
        exact k_zret (X := Unit) (w1 := fun _ => []) () hx hb hr (k_nz (Or.inl rfl)) d_X5_isCell_17 hlocks hP hK hD hS ⟨(Or.inl rfl), trivial⟩
      · -- not taken at 9
        refine lv_iconst (v := 1) hx hb d_X5_isCell_12 (by decide) ?_
        refine lv_goto (tgt := 17) hx hb d_X5_isCell_13 (by decide) ?_
        refine W.widen (k := 0) (n := 0) (Nat.le_of_ble_eq_true rfl) (Nat.le_of_ble_eq_true rfl) ?_
        exact k_zret (X := Unit) (w1 := fun _ => []) () hx hb hr (k_nz (Or.inr rfl)) d_X5_isCell_17 hlocks hP hK hD hS ⟨(Or.inr rfl), trivial⟩
  rw [hH] at hgoal
  exact hgoal
set_option maxHeartbeats 4000000 in
set_option maxRecDepth 100000 in
theorem s_X5_peeked (l : Launch) (D : va_G) (cy : Nat → ClassId) (sz : Nat) (r : Nat → Nat) (σ : St) (inv : Inv σ) : Met l y_X5_peeked (Cond.code y_X5_peeked b_X5_peeked 1 (some .int) :: GW) ({ frames := 1, cells := 0, slots := 0, locals := 21 } : Room) (va_Pc [.ref (r 12)] (kPre D cy sz (wB cy r σ))) ((fun A : Nat → Prop => va_Qi (S := Unit) (fun (_ : Int32) (_ : Unit) => True) (fun _ => kPost D cy A (wB cy r σ)) A) (va_A (wB cy r σ) sz)) 0 0 (va_A (wB cy r σ) sz) := by
  refine k_ofW (Qc := fun A => va_Qi (S := Unit) (fun (_ : Int32) (_ : Unit) => True) (fun _ => kPost D cy A (wB cy r σ)) A) (by decide) (Nat.le_of_ble_eq_true rfl) ?_
  intro p e s m below meth c A ls hx hb hr hml hown hlocks hin hg hNW hK hP hD hA hS hl
  have hl : lv_has ls 1 [(0, .ref (r 12))] := hl
  have hown : s.vm.findClass "LinkedUnits$Machine" = some m.cls := hown
  obtain ⟨H, hH⟩ : ∃ H, H = s.heap := ⟨_, rfl⟩
  rw [← hH] at hP
  have hS : va_S A s.heap H [] := by rw [hH]; exact va_S.rf
  have hgoal : W p l e ({ frames := 1, cells := 0, slots := 0, locals := 21 } : Room) s m (([.ref (r 12)] : List Value).toArray) below meth c H [] 0 0 (MQ below (va_Qi (S := Unit) (fun (_ : Int32) (_ : Unit) => True) (fun _ => kPost D cy A (wB cy r σ)) A) (([.ref (r 12)] : List Value).toArray) s 0 0 A) (F0 m 0 ls []) := by
    refine lv_aload_n hx hb d_X5_peeked_0 rfl (lv_at hl 0 rfl) ?_
    refine va_get (D := D) (ci := 5) (v := .ref (r 63)) (C := "LinkedUnits$Machine") (T := TX5) (N := 19) hx hb hg iwX5 hown hK hP 11 rfl rfl 5 (by decide) (hg _ m_677) (fun _ h9 => h9) rfl d_X5_peeked_1 ?_
    refine lv_aload_n hx hb d_X5_peeked_4 rfl (lv_at hl 0 rfl) ?_
    refine va_get (D := D) (ci := 5) (v := .int (σ 12 9)) (C := "LinkedUnits$Machine") (T := TX5) (N := 19) hx hb hg iwX5 hown hK hP 11 rfl rfl 9 (by decide) (hg _ m_681) (fun _ h9 => h9) rfl d_X5_peeked_5 ?_
    refine lv_iconst (v := 1) hx hb d_X5_peeked_8 (by decide) ?_
    refine lv_isub hx hb d_X5_peeked_9 ?_
    refine s_call1 (x := ((r 63), .inl (cy 1, 148496, .inl (σ 63)))) 60 rfl (va_runSN (As := [.ref (r 63), .int ((σ 12 9) - 1)]) (rest := []) ⟨hx, hb, hml, hown, hg⟩ (c_at_any l D cy H.size (r 63) 148496 (σ 63) ((σ 12 9) - 1) (Nat.le_of_ble_eq_true rfl)) ⟨(va_cnB 2 hg (gw_c m_949) rfl rfl rfl (hNW.1 _ nm_1660) (hg _ m_1) (by decide +kernel) ⟨(Nat.le_of_ble_eq_true rfl), (Nat.le_of_ble_eq_true rfl)⟩), hg _ m_948, trivial⟩ (s_pre (ws := [((r 63), .inl (cy 1, 148496, .inl (σ 63)))]) (s_sub1 60 hP rfl) (s_subD 60 hD rfl) hK hNW) rfl rfl hl.1 rfl (lv_room (Nat.le_of_ble_eq_true rfl)) d_X5_peeked_10 ⟨(Nat.le_of_ble_eq_true rfl), (Nat.le_of_ble_eq_true rfl)⟩) hP hD hS hA (fun r1 u1 H locs hw hP hD hS => ?_)
    have hP : va_P D vwCl (wB cy r σ) H := hP
    have hD : va_D A (wB cy r σ) := hD
    refine W.widen (k := 0) (n := 0) (Nat.le_of_ble_eq_true rfl) (Nat.le_of_ble_eq_true rfl) ?_
    exact k_iret (X := Unit) (w1 := fun _ => wB cy r σ) () hx hb hr d_X5_peeked_13 hlocks hP hK hD hS trivial
  rw [hH] at hgoal
  exact hgoal
set_option maxHeartbeats 4000000 in
set_option maxRecDepth 100000 in
theorem s_X5_turn (l : Launch) (D : va_G) (cy : Nat → ClassId) (sz : Nat) (r : Nat → Nat) (σ : St) (x1 : Int32) (inv : Inv σ) : Met l y_X5_turn (Cond.code y_X5_turn b_X5_turn 2 (some .boolean) :: GW) ({ frames := 1, cells := 0, slots := 0, locals := 22 } : Room) (va_Pc [.ref (r 12), .int x1] (kPre D cy sz (wB cy r σ))) ((fun A : Nat → Prop => va_Qi (S := St) (fun (v9 : Int32) (τ : St) => (v9 = 0 ∨ v9 = 1) ∧ Inv τ) (fun τ => kPost D cy A (wB cy r τ)) A) (va_A (wB cy r σ) sz)) 0 0 (va_A (wB cy r σ) sz) := by
  refine k_ofW (Qc := fun A => va_Qi (S := St) (fun (v9 : Int32) (τ : St) => (v9 = 0 ∨ v9 = 1) ∧ Inv τ) (fun τ => kPost D cy A (wB cy r τ)) A) (by decide) (Nat.le_of_ble_eq_true rfl) ?_
  intro p e s m below meth c A ls hx hb hr hml hown hlocks hin hg hNW hK hP hD hA hS hl
  have hl : lv_has ls 2 [(0, .ref (r 12)), (1, .int x1)] := hl
  have hown : s.vm.findClass "LinkedUnits$Machine" = some m.cls := hown
  obtain ⟨H, hH⟩ : ∃ H, H = s.heap := ⟨_, rfl⟩
  rw [← hH] at hP
  have hS : va_S A s.heap H [] := by rw [hH]; exact va_S.rf
  have hgoal : W p l e ({ frames := 1, cells := 0, slots := 0, locals := 22 } : Room) s m (([.ref (r 12), .int x1] : List Value).toArray) below meth c H [] 0 0 (MQ below (va_Qi (S := St) (fun (v9 : Int32) (τ : St) => (v9 = 0 ∨ v9 = 1) ∧ Inv τ) (fun τ => kPost D cy A (wB cy r τ)) A) (([.ref (r 12), .int x1] : List Value).toArray) s 0 0 A) (F0 m 0 ls []) := by
    refine lv_aload_n hx hb d_X5_turn_0 rfl (lv_at hl 0 rfl) ?_
    refine va_get (D := D) (ci := 5) (v := .int (σ 12 14)) (C := "LinkedUnits$Machine") (T := TX5) (N := 19) hx hb hg iwX5 hown hK hP 11 rfl rfl 14 (by decide) (hg _ m_686) (fun _ h9 => h9) rfl d_X5_turn_1 ?_
    refine lv_aload_n hx hb d_X5_turn_4 rfl (lv_at hl 0 rfl) ?_
    refine va_get (D := D) (ci := 5) (v := .int (σ 12 12)) (C := "LinkedUnits$Machine") (T := TX5) (N := 19) hx hb hg iwX5 hown hK hP 11 rfl rfl 12 (by decide) (hg _ m_684) (fun _ h9 => h9) rfl d_X5_turn_5 ?_
    refine lv_icmp_lt (tgt := 19) hx hb d_X5_turn_8 (by decide) (fun c_8 => ?_) (fun c_8 => ?_)
    · -- taken at 8
      refine lv_aload_n hx hb d_X5_turn_19 rfl (lv_at hl 0 rfl) ?_
      refine lv_dup hx hb d_X5_turn_20 rfl ?_
      refine va_get (D := D) (ci := 5) (v := .int (σ 12 14)) (C := "LinkedUnits$Machine") (T := TX5) (N := 19) hx hb hg iwX5 hown hK hP 11 rfl rfl 14 (by decide) (hg _ m_686) (fun _ h9 => h9) rfl d_X5_turn_21 ?_
      refine lv_iconst (v := 1) hx hb d_X5_turn_24 (by decide) ?_
      refine lv_iadd hx hb d_X5_turn_25 ?_
      refine va_put (D := D) (ci := 5) (v := .int ((σ 12 14) + 1)) (ty := .int) (C := "LinkedUnits$Machine") (T := TX5) (N := 19) hx hb hg iwX5 tyX5 tyX5_ok nmX5 hown hK hP hD hS 11 rfl rfl 14 (by decide) (hg _ m_686) (fun _ h9 => h9) rfl (by decide +kernel) rfl rfl (Nat.le_of_ble_eq_true rfl) d_X5_turn_26 (fun H locs hP hD hS => ?_)
      have hP : va_P D vwCl (wB cy r (upC σ 12 14 ((σ 12 14) + 1))) H := hP
      have hD : va_D A (wB cy r (upC σ 12 14 ((σ 12 14) + 1))) := hD
      refine lv_iconst (v := 1) hx hb d_X5_turn_29 (by decide) ?_
      refine W.widen (k := 0) (n := 0) (Nat.le_of_ble_eq_true rfl) (Nat.le_of_ble_eq_true rfl) ?_
      exact k_zret (X := St) (w1 := fun τ => wB cy r τ) (upC σ 12 14 ((σ 12 14) + 1)) hx hb hr (k_nz (Or.inr rfl)) d_X5_turn_30 hlocks hP hK hD hS ⟨(Or.inr rfl), inv⟩
    · -- not taken at 8
      refine lv_aload_n hx hb d_X5_turn_11 rfl (lv_at hl 0 rfl) ?_
      refine lv_iconst (v := 4) hx hb d_X5_turn_12 (by decide) ?_
      refine lv_iload_n hx hb d_X5_turn_13 rfl (lv_at hl 1 rfl) ?_
      refine s_callv (X := St) (w1 := fun τ => wB cy r τ) (va_runV (As := [.int 4, .int x1]) (rest := []) ⟨hx, hb, hml, hown, hg⟩ (s_X5_fail l D cy H.size r σ (4 : Int32) x1 inv ) (cwV 2 hg (gw_V m_1656 m_1658 ms_X5_fail m_17 m_1659) rfl rfl rfl (by decide +kernel) ⟨(Nat.le_of_ble_eq_true rfl), (Nat.le_of_ble_eq_true rfl)⟩) (s_preV (As := [.int 4, .int x1]) hP hD hK hNW 11 rfl rfl) rfl rfl hl.1 rfl (lv_room (Nat.le_of_ble_eq_true rfl)) d_X5_turn_14 ⟨(Nat.le_of_ble_eq_true rfl), (Nat.le_of_ble_eq_true rfl)⟩) hP hD hS hA (fun σ1 H locs hw hP hD hS => ?_)
      have hP : va_P D vwCl (wB cy r σ1) H := hP
      have hD : va_D A (wB cy r σ1) := hD
      have i1 : Inv σ1 := hw
      refine lv_iconst (v := 0) hx hb d_X5_turn_17 (by decide) ?_
      refine W.widen (k := 0) (n := 0) (Nat.le_of_ble_eq_true rfl) (Nat.le_of_ble_eq_true rfl) ?_
      exact k_zret (X := St) (w1 := fun τ => wB cy r τ) σ1 hx hb hr (k_nz (Or.inl rfl)) d_X5_turn_18 hlocks hP hK hD hS ⟨(Or.inl rfl), i1⟩
  rw [hH] at hgoal
  exact hgoal
set_option maxHeartbeats 4000000 in
set_option maxRecDepth 100000 in
theorem s_X5_enter (l : Launch) (D : va_G) (cy : Nat → ClassId) (sz : Nat) (r : Nat → Nat) (σ : St) (x1 : Int32) (x2 : Int32) (inv : Inv σ) : Met l y_X5_enter (Cond.code y_X5_enter b_X5_enter 4 none :: GW) ({ frames := 2, cells := 0, slots := 0, locals := 46 } : Room) (va_Pc [.ref (r 12), .int x1, .int x2] (kPre D cy sz (wB cy r σ))) ((fun A : Nat → Prop => va_Qv (S := St) (fun (τ : St) => Inv τ) (fun τ => kPost D cy A (wB cy r τ)) A) (va_A (wB cy r σ) sz)) 0 0 (va_A (wB cy r σ) sz) := by
  refine k_ofW (Qc := fun A => va_Qv (S := St) (fun (τ : St) => Inv τ) (fun τ => kPost D cy A (wB cy r τ)) A) (by decide) (Nat.le_of_ble_eq_true rfl) ?_
  intro p e s m below meth c A ls hx hb hr hml hown hlocks hin hg hNW hK hP hD hA hS hl
  have hl : lv_has ls 4 [(0, .ref (r 12)), (1, .int x1), (2, .int x2)] := hl
  have hown : s.vm.findClass "LinkedUnits$Machine" = some m.cls := hown
  obtain ⟨H, hH⟩ : ∃ H, H = s.heap := ⟨_, rfl⟩
  rw [← hH] at hP
  have hS : va_S A s.heap H [] := by rw [hH]; exact va_S.rf
  have hgoal : W p l e ({ frames := 2, cells := 0, slots := 0, locals := 46 } : Room) s m (([.ref (r 12), .int x1, .int x2] : List Value).toArray) below meth c H [] 0 0 (MQ below (va_Qv (S := St) (fun (τ : St) => Inv τ) (fun τ => kPost D cy A (wB cy r τ)) A) (([.ref (r 12), .int x1, .int x2] : List Value).toArray) s 0 0 A) (F0 m 0 ls []) := by
    refine lv_aload_n hx hb d_X5_enter_0 rfl (lv_at hl 0 rfl) ?_
    refine lv_iload_n hx hb d_X5_enter_1 rfl (lv_at hl 2 rfl) ?_
    refine s_calli (X := St) (w1 := fun τ => wB cy r τ) (va_runV (As := [.int x2]) (rest := []) ⟨hx, hb, hml, hown, hg⟩ (s_X5_turn l D cy H.size r σ x2 inv ) (cwV 1 hg (gw_V m_1652 m_1654 ms_X5_turn m_17 m_1655) rfl rfl rfl (by decide +kernel) ⟨(Nat.le_of_ble_eq_true rfl), (Nat.le_of_ble_eq_true rfl)⟩) (s_preV (As := [.int x2]) hP hD hK hNW 11 rfl rfl) rfl rfl hl.1 rfl (lv_room (Nat.le_of_ble_eq_true rfl)) d_X5_enter_2 ⟨(Nat.le_of_ble_eq_true rfl), (Nat.le_of_ble_eq_true rfl)⟩) hP hD hS hA (fun r1 σ1 H locs hw hP hD hS => ?_)
    have hP : va_P D vwCl (wB cy r σ1) H := hP
    have hD : va_D A (wB cy r σ1) := hD
    have i1 : Inv σ1 := hw.2
    have hz1 : r1 = 0 ∨ r1 = 1 := hw.1
    refine lv_if_ne (tgt := 9) hx hb d_X5_enter_5 (by decide) (fun c_5 => ?_) (fun c_5 => ?_)
    · -- taken at 5
      refine lv_aload_n hx hb d_X5_enter_9 rfl (lv_at hl 0 rfl) ?_
      refine va_get (D := D) (ci := 5) (v := .int (σ1 12 11)) (C := "LinkedUnits$Machine") (T := TX5) (N := 19) hx hb hg iwX5 hown hK hP 11 rfl rfl 11 (by decide) (hg _ m_683) (fun _ h9 => h9) rfl d_X5_enter_10 ?_
      refine lv_bipush (v := 32) hx hb d_X5_enter_13 (by decide) ?_
      refine lv_isub hx hb d_X5_enter_15 ?_
      refine lv_aload_n hx hb d_X5_enter_16 rfl (lv_at hl 0 rfl) ?_
      refine va_get (D := D) (ci := 5) (v := .ref (r 24)) (C := "LinkedUnits$Machine") (T := TX5) (N := 19) hx hb hg iwX5 hown hK hP 11 rfl rfl 3 (by decide) (hg _ m_674) (fun _ h9 => h9) rfl d_X5_enter_17 ?_
      refine lv_iload_n hx hb d_X5_enter_20 rfl (lv_at hl 1 rfl) ?_
      refine s_call1 (x := ((r 24), .inl (cy 1, 262208, .inl (σ1 24)))) 23 rfl (va_runSN (As := [.ref (r 24), .int x1]) (rest := [.int ((σ1 12 11) - 32)]) ⟨hx, hb, hml, hown, hg⟩ (c_at_any l D cy H.size (r 24) 262208 (σ1 24) x1 (Nat.le_of_ble_eq_true rfl)) ⟨(va_cnB 2 hg (gw_c m_949) rfl rfl rfl (hNW.1 _ nm_1660) (hg _ m_1) (by decide +kernel) ⟨(Nat.le_of_ble_eq_true rfl), (Nat.le_of_ble_eq_true rfl)⟩), hg _ m_948, trivial⟩ (s_pre (ws := [((r 24), .inl (cy 1, 262208, .inl (σ1 24)))]) (s_sub1 23 hP rfl) (s_subD 23 hD rfl) hK hNW) rfl rfl hl.1 rfl (lv_room (Nat.le_of_ble_eq_true rfl)) d_X5_enter_21 ⟨(Nat.le_of_ble_eq_true rfl), (Nat.le_of_ble_eq_true rfl)⟩) hP hD hS hA (fun r2 u2 H locs hw hP hD hS => ?_)
      have hP : va_P D vwCl (wB cy r σ1) H := hP
      have hD : va_D A (wB cy r σ1) := hD
      refine lv_isub hx hb d_X5_enter_24 ?_
      refine lv_istore_n (lv' := [(3, .int (((σ1 12 11) - 32) - r2)), (0, .ref (r 12)), (1, .int x1), (2, .int x2)]) hx hb d_X5_enter_25 rfl hl (by decide) rfl (fun ls hl => ?_)
      refine lv_iload_n hx hb d_X5_enter_26 rfl (lv_at hl 0 rfl) ?_
      refine lv_sipush (v := 24576) hx hb d_X5_enter_27 (by decide) ?_
      refine lv_icmp_ge (tgt := 40) hx hb d_X5_enter_30 (by decide) (fun c_30 => ?_) (fun c_30 => ?_)
      · -- taken at 30
        refine lv_aload_n hx hb d_X5_enter_40 rfl (lv_at hl 1 rfl) ?_
        refine va_get (D := D) (ci := 5) (v := .ref (r 64)) (C := "LinkedUnits$Machine") (T := TX5) (N := 19) hx hb hg iwX5 hown hK hP 11 rfl rfl 6 (by decide) (hg _ m_678) (fun _ h9 => h9) rfl d_X5_enter_41 ?_
        refine lv_iconst (v := 3) hx hb d_X5_enter_44 (by decide) ?_
        refine lv_aload_n hx hb d_X5_enter_45 rfl (lv_at hl 1 rfl) ?_
        refine va_get (D := D) (ci := 5) (v := .int (σ1 12 7)) (C := "LinkedUnits$Machine") (T := TX5) (N := 19) hx hb hg iwX5 hown hK hP 11 rfl rfl 7 (by decide) (hg _ m_679) (fun _ h9 => h9) rfl d_X5_enter_46 ?_
        refine lv_imul hx hb d_X5_enter_49 ?_
        refine lv_aload_n hx hb d_X5_enter_50 rfl (lv_at hl 1 rfl) ?_
        refine va_get (D := D) (ci := 5) (v := .int (σ1 12 8)) (C := "LinkedUnits$Machine") (T := TX5) (N := 19) hx hb hg iwX5 hown hK hP 11 rfl rfl 8 (by decide) (hg _ m_680) (fun _ h9 => h9) rfl d_X5_enter_51 ?_
        refine s_set1 (X := Nat → Int32) (w := fun g => .inl (cy 1, 771, .inl g)) 61 rfl (va_runSN (As := [.ref (r 64), .int (3 * (σ1 12 7)), .int (σ1 12 8)]) (rest := []) ⟨hx, hb, hml, hown, hg⟩ (c_set_any l D cy H.size (r 64) 771 (σ1 64) (3 * (σ1 12 7)) (σ1 12 8) (Nat.le_of_ble_eq_true rfl)) ⟨(va_cnB 3 hg (gw_c m_981) rfl rfl rfl (hNW.1 _ nm_1661) (hg _ m_1) (by decide +kernel) ⟨(Nat.le_of_ble_eq_true rfl), (Nat.le_of_ble_eq_true rfl)⟩), hg _ m_980, trivial⟩ (s_pre (ws := [((r 64), .inl (cy 1, 771, .inl (σ1 64)))]) (s_sub1 61 hP rfl) (s_subD 61 hD rfl) hK hNW) rfl rfl hl.1 rfl (lv_room (Nat.le_of_ble_eq_true rfl)) d_X5_enter_54 ⟨(Nat.le_of_ble_eq_true rfl), (Nat.le_of_ble_eq_true rfl)⟩) hP hD hS hA (fun g3 H locs hw hP hD hS => ?_)
        have hP : va_P D vwCl (wB cy r (upF σ1 64 g3)) H := hP
        have hD : va_D A (wB cy r (upF σ1 64 g3)) := hD
        refine lv_aload_n hx hb d_X5_enter_57 rfl (lv_at hl 1 rfl) ?_
        refine va_get (D := D) (ci := 5) (v := .ref (r 64)) (C := "LinkedUnits$Machine") (T := TX5) (N := 19) hx hb hg iwX5 hown hK hP 11 rfl rfl 6 (by decide) (hg _ m_678) (fun _ h9 => h9) rfl d_X5_enter_58 ?_
        refine lv_iconst (v := 3) hx hb d_X5_enter_61 (by decide) ?_
        refine lv_aload_n hx hb d_X5_enter_62 rfl (lv_at hl 1 rfl) ?_
        refine va_get (D := D) (ci := 5) (v := .int (σ1 12 7)) (C := "LinkedUnits$Machine") (T := TX5) (N := 19) hx hb hg iwX5 hown hK hP 11 rfl rfl 7 (by decide) (hg _ m_679) (fun _ h9 => h9) rfl d_X5_enter_63 ?_
        refine lv_imul hx hb d_X5_enter_66 ?_
        refine lv_iconst (v := 1) hx hb d_X5_enter_67 (by decide) ?_
        refine lv_iadd hx hb d_X5_enter_68 ?_
        refine lv_aload_n hx hb d_X5_enter_69 rfl (lv_at hl 1 rfl) ?_
        refine va_get (D := D) (ci := 5) (v := .int (σ1 12 10)) (C := "LinkedUnits$Machine") (T := TX5) (N := 19) hx hb hg iwX5 hown hK hP 11 rfl rfl 10 (by decide) (hg _ m_682) (fun _ h9 => h9) rfl d_X5_enter_70 ?_
        refine s_set1 (X := Nat → Int32) (w := fun g => .inl (cy 1, 771, .inl g)) 61 rfl (va_runSN (As := [.ref (r 64), .int ((3 * (σ1 12 7)) + 1), .int (σ1 12 10)]) (rest := []) ⟨hx, hb, hml, hown, hg⟩ (c_set_any l D cy H.size (r 64) 771 ((upF σ1 64 g3) 64) ((3 * (σ1 12 7)) + 1) (σ1 12 10) (Nat.le_of_ble_eq_true rfl)) ⟨(va_cnB 3 hg (gw_c m_981) rfl rfl rfl (hNW.1 _ nm_1661) (hg _ m_1) (by decide +kernel) ⟨(Nat.le_of_ble_eq_true rfl), (Nat.le_of_ble_eq_true rfl)⟩), hg _ m_980, trivial⟩ (s_pre (ws := [((r 64), .inl (cy 1, 771, .inl ((upF σ1 64 g3) 64)))]) (s_sub1 61 hP rfl) (s_subD 61 hD rfl) hK hNW) rfl rfl hl.1 rfl (lv_room (Nat.le_of_ble_eq_true rfl)) d_X5_enter_73 ⟨(Nat.le_of_ble_eq_true rfl), (Nat.le_of_ble_eq_true rfl)⟩) hP hD hS hA (fun g4 H locs hw hP hD hS => ?_)
        have hP : va_P D vwCl (wB cy r (upF (upF σ1 64 g3) 64 g4)) H := hP
        have hD : va_D A (wB cy r (upF (upF σ1 64 g3) 64 g4)) := hD
        refine lv_aload_n hx hb d_X5_enter_76 rfl (lv_at hl 1 rfl) ?_
        refine va_get (D := D) (ci := 5) (v := .ref (r 64)) (C := "LinkedUnits$Machine") (T := TX5) (N := 19) hx hb hg iwX5 hown hK hP 11 rfl rfl 6 (by decide) (hg _ m_678) (fun _ h9 => h9) rfl d_X5_enter_77 ?_
        refine lv_iconst (v := 3) hx hb d_X5_enter_80 (by decide) ?_
        refine lv_aload_n hx hb d_X5_enter_81 rfl (lv_at hl 1 rfl) ?_
        refine va_get (D := D) (ci := 5) (v := .int (σ1 12 7)) (C := "LinkedUnits$Machine") (T := TX5) (N := 19) hx hb hg iwX5 hown hK hP 11 rfl rfl 7 (by decide) (hg _ m_679) (fun _ h9 => h9) rfl d_X5_enter_82 ?_
        refine lv_imul hx hb d_X5_enter_85 ?_
        refine lv_iconst (v := 2) hx hb d_X5_enter_86 (by decide) ?_
        refine lv_iadd hx hb d_X5_enter_87 ?_
        refine lv_aload_n hx hb d_X5_enter_88 rfl (lv_at hl 1 rfl) ?_
        refine va_get (D := D) (ci := 5) (v := .int (σ1 12 11)) (C := "LinkedUnits$Machine") (T := TX5) (N := 19) hx hb hg iwX5 hown hK hP 11 rfl rfl 11 (by decide) (hg _ m_683) (fun _ h9 => h9) rfl d_X5_enter_89 ?_
        refine s_set1 (X := Nat → Int32) (w := fun g => .inl (cy 1, 771, .inl g)) 61 rfl (va_runSN (As := [.ref (r 64), .int ((3 * (σ1 12 7)) + 2), .int (σ1 12 11)]) (rest := []) ⟨hx, hb, hml, hown, hg⟩ (c_set_any l D cy H.size (r 64) 771 ((upF (upF σ1 64 g3) 64 g4) 64) ((3 * (σ1 12 7)) + 2) (σ1 12 11) (Nat.le_of_ble_eq_true rfl)) ⟨(va_cnB 3 hg (gw_c m_981) rfl rfl rfl (hNW.1 _ nm_1661) (hg _ m_1) (by decide +kernel) ⟨(Nat.le_of_ble_eq_true rfl), (Nat.le_of_ble_eq_true rfl)⟩), hg _ m_980, trivial⟩ (s_pre (ws := [((r 64), .inl (cy 1, 771, .inl ((upF (upF σ1 64 g3) 64 g4) 64)))]) (s_sub1 61 hP rfl) (s_subD 61 hD rfl) hK hNW) rfl rfl hl.1 rfl (lv_room (Nat.le_of_ble_eq_true rfl)) d_X5_enter_92 ⟨(Nat.le_of_ble_eq_true rfl), (Nat.le_of_ble_eq_true rfl)⟩) hP hD hS hA (fun g5 H locs hw hP hD hS => ?_)
        have hP : va_P D vwCl (wB cy r (upF (upF (upF σ1 64 g3) 64 g4) 64 g5)) H := hP
        have hD : va_D A (wB cy r (upF (upF (upF σ1 64 g3) 64 g4) 64 g5)) := hD
        refine lv_aload_n hx hb d_X5_enter_95 rfl (lv_at hl 1 rfl) ?_
        refine lv_dup hx hb d_X5_enter_96 rfl ?_
        refine va_get (D := D) (ci := 5) (v := .int (σ1 12 7)) (C := "LinkedUnits$Machine") (T := TX5) (N := 19) hx hb hg iwX5 hown hK hP 11 rfl rfl 7 (by decide) (hg _ m_679) (fun _ h9 => h9) rfl d_X5_enter_97 ?_
        refine lv_iconst (v := 1) hx hb d_X5_enter_100 (by decide) ?_
        refine lv_iadd hx hb d_X5_enter_101 ?_
        refine va_put (D := D) (ci := 5) (v := .int ((σ1 12 7) + 1)) (ty := .int) (C := "LinkedUnits$Machine") (T := TX5) (N := 19) hx hb hg iwX5 tyX5 tyX5_ok nmX5 hown hK hP hD hS 11 rfl rfl 7 (by decide) (hg _ m_679) (fun _ h9 => h9) rfl (by decide +kernel) rfl rfl (Nat.le_of_ble_eq_true rfl) d_X5_enter_102 (fun H locs hP hD hS => ?_)
        have hP : va_P D vwCl (wB cy r (upC (upF (upF (upF σ1 64 g3) 64 g4) 64 g5) 12 7 ((σ1 12 7) + 1))) H := hP
        have hD : va_D A (wB cy r (upC (upF (upF (upF σ1 64 g3) 64 g4) 64 g5) 12 7 ((σ1 12 7) + 1))) := hD
        refine lv_aload_n hx hb d_X5_enter_105 rfl (lv_at hl 1 rfl) ?_
        refine lv_aload_n hx hb d_X5_enter_106 rfl (lv_at hl 1 rfl) ?_
        refine va_get (D := D) (ci := 5) (v := .int (σ1 12 9)) (C := "LinkedUnits$Machine") (T := TX5) (N := 19) hx hb hg iwX5 hown hK hP 11 rfl rfl 9 (by decide) (hg _ m_681) (fun _ h9 => h9) rfl d_X5_enter_107 ?_
        refine lv_aload_n hx hb d_X5_enter_110 rfl (lv_at hl 1 rfl) ?_
        refine va_get (D := D) (ci := 5) (v := .ref (r 24)) (C := "LinkedUnits$Machine") (T := TX5) (N := 19) hx hb hg iwX5 hown hK hP 11 rfl rfl 3 (by decide) (hg _ m_674) (fun _ h9 => h9) rfl d_X5_enter_111 ?_
        refine lv_iload_n hx hb d_X5_enter_114 rfl (lv_at hl 2 rfl) ?_
        refine lv_iconst (v := 2) hx hb d_X5_enter_115 (by decide) ?_
        refine lv_iadd hx hb d_X5_enter_116 ?_
        refine s_call1 (x := ((r 24), .inl (cy 1, 262208, .inl ((upC (upF (upF (upF σ1 64 g3) 64 g4) 64 g5) 12 7 ((σ1 12 7) + 1)) 24)))) 23 rfl (va_runSN (As := [.ref (r 24), .int (x1 + 2)]) (rest := [.int (σ1 12 9), .ref (r 12)]) ⟨hx, hb, hml, hown, hg⟩ (c_at_any l D cy H.size (r 24) 262208 ((upC (upF (upF (upF σ1 64 g3) 64 g4) 64 g5) 12 7 ((σ1 12 7) + 1)) 24) (x1 + 2) (Nat.le_of_ble_eq_true rfl)) ⟨(va_cnB 2 hg (gw_c m_949) rfl rfl rfl (hNW.1 _ nm_1660) (hg _ m_1) (by decide +kernel) ⟨(Nat.le_of_ble_eq_true rfl), (Nat.le_of_ble_eq_true rfl)⟩), hg _ m_948, trivial⟩ (s_pre (ws := [((r 24), .inl (cy 1, 262208, .inl ((upC (upF (upF (upF σ1 64 g3) 64 g4) 64 g5) 12 7 ((σ1 12 7) + 1)) 24)))]) (s_sub1 23 hP rfl) (s_subD 23 hD rfl) hK hNW) rfl rfl hl.1 rfl (lv_room (Nat.le_of_ble_eq_true rfl)) d_X5_enter_117 ⟨(Nat.le_of_ble_eq_true rfl), (Nat.le_of_ble_eq_true rfl)⟩) hP hD hS hA (fun r6 u6 H locs hw hP hD hS => ?_)
        have hP : va_P D vwCl (wB cy r (upC (upF (upF (upF σ1 64 g3) 64 g4) 64 g5) 12 7 ((σ1 12 7) + 1))) H := hP
        have hD : va_D A (wB cy r (upC (upF (upF (upF σ1 64 g3) 64 g4) 64 g5) 12 7 ((σ1 12 7) + 1))) := hD
        refine lv_isub hx hb d_X5_enter_120 ?_
        refine va_put (D := D) (ci := 5) (v := .int ((σ1 12 9) - r6)) (ty := .int) (C := "LinkedUnits$Machine") (T := TX5) (N := 19) hx hb hg iwX5 tyX5 tyX5_ok nmX5 hown hK hP hD hS 11 rfl rfl 10 (by decide) (hg _ m_682) (fun _ h9 => h9) rfl (by decide +kernel) rfl rfl (Nat.le_of_ble_eq_true rfl) d_X5_enter_121 (fun H locs hP hD hS => ?_)
        have hP : va_P D vwCl (wB cy r (upC (upC (upF (upF (upF σ1 64 g3) 64 g4) 64 g5) 12 7 ((σ1 12 7) + 1)) 12 10 ((σ1 12 9) - r6))) H := hP
        have hD : va_D A (wB cy r (upC (upC (upF (upF (upF σ1 64 g3) 64 g4) 64 g5) 12 7 ((σ1 12 7) + 1)) 12 10 ((σ1 12 9) - r6))) := hD
        refine lv_aload_n hx hb d_X5_enter_124 rfl (lv_at hl 1 rfl) ?_
        refine lv_aload_n hx hb d_X5_enter_125 rfl (lv_at hl 1 rfl) ?_
        refine va_get (D := D) (ci := 5) (v := .int ((σ1 12 9) - r6)) (C := "LinkedUnits$Machine") (T := TX5) (N := 19) hx hb hg iwX5 hown hK hP 11 rfl rfl 10 (by decide) (hg _ m_682) (fun _ h9 => h9) rfl d_X5_enter_126 ?_
        refine lv_aload_n hx hb d_X5_enter_129 rfl (lv_at hl 1 rfl) ?_
        refine va_get (D := D) (ci := 5) (v := .ref (r 24)) (C := "LinkedUnits$Machine") (T := TX5) (N := 19) hx hb hg iwX5 hown hK hP 11 rfl rfl 3 (by decide) (hg _ m_674) (fun _ h9 => h9) rfl d_X5_enter_130 ?_
        refine lv_iload_n hx hb d_X5_enter_133 rfl (lv_at hl 2 rfl) ?_
        refine lv_iconst (v := 1) hx hb d_X5_enter_134 (by decide) ?_
        refine lv_iadd hx hb d_X5_enter_135 ?_
        refine s_call1 (x := ((r 24), .inl (cy 1, 262208, .inl ((upC (upC (upF (upF (upF σ1 64 g3) 64 g4) 64 g5) 12 7 ((σ1 12 7) + 1)) 12 10 ((σ1 12 9) - r6)) 24)))) 23 rfl (va_runSN (As := [.ref (r 24), .int (x1 + 1)]) (rest := [.int ((σ1 12 9) - r6), .ref (r 12)]) ⟨hx, hb, hml, hown, hg⟩ (c_at_any l D cy H.size (r 24) 262208 ((upC (upC (upF (upF (upF σ1 64 g3) 64 g4) 64 g5) 12 7 ((σ1 12 7) + 1)) 12 10 ((σ1 12 9) - r6)) 24) (x1 + 1) (Nat.le_of_ble_eq_true rfl)) ⟨(va_cnB 2 hg (gw_c m_949) rfl rfl rfl (hNW.1 _ nm_1660) (hg _ m_1) (by decide +kernel) ⟨(Nat.le_of_ble_eq_true rfl), (Nat.le_of_ble_eq_true rfl)⟩), hg _ m_948, trivial⟩ (s_pre (ws := [((r 24), .inl (cy 1, 262208, .inl ((upC (upC (upF (upF (upF σ1 64 g3) 64 g4) 64 g5) 12 7 ((σ1 12 7) + 1)) 12 10 ((σ1 12 9) - r6)) 24)))]) (s_sub1 23 hP rfl) (s_subD 23 hD rfl) hK hNW) rfl rfl hl.1 rfl (lv_room (Nat.le_of_ble_eq_true rfl)) d_X5_enter_136 ⟨(Nat.le_of_ble_eq_true rfl), (Nat.le_of_ble_eq_true rfl)⟩) hP hD hS hA (fun r7 u7 H locs hw hP hD hS => ?_)
        have hP : va_P D vwCl (wB cy r (upC (upC (upF (upF (upF σ1 64 g3) 64 g4) 64 g5) 12 7 ((σ1 12 7) + 1)) 12 10 ((σ1 12 9) - r6))) H := hP
        have hD : va_D A (wB cy r (upC (upC (upF (upF (upF σ1 64 g3) 64 g4) 64 g5) 12 7 ((σ1 12 7) + 1)) 12 10 ((σ1 12 9) - r6))) := hD
        refine lv_iadd hx hb d_X5_enter_139 ?_
        refine va_put (D := D) (ci := 5) (v := .int (((σ1 12 9) - r6) + r7)) (ty := .int) (C := "LinkedUnits$Machine") (T := TX5) (N := 19) hx hb hg iwX5 tyX5 tyX5_ok nmX5 hown hK hP hD hS 11 rfl rfl 9 (by decide) (hg _ m_681) (fun _ h9 => h9) rfl (by decide +kernel) rfl rfl (Nat.le_of_ble_eq_true rfl) d_X5_enter_140 (fun H locs hP hD hS => ?_)
        have hP : va_P D vwCl (wB cy r (upC (upC (upC (upF (upF (upF σ1 64 g3) 64 g4) 64 g5) 12 7 ((σ1 12 7) + 1)) 12 10 ((σ1 12 9) - r6)) 12 9 (((σ1 12 9) - r6) + r7))) H := hP
        have hD : va_D A (wB cy r (upC (upC (upC (upF (upF (upF σ1 64 g3) 64 g4) 64 g5) 12 7 ((σ1 12 7) + 1)) 12 10 ((σ1 12 9) - r6)) 12 9 (((σ1 12 9) - r6) + r7))) := hD
        refine lv_aload_n hx hb d_X5_enter_143 rfl (lv_at hl 1 rfl) ?_
        refine lv_iload_n hx hb d_X5_enter_144 rfl (lv_at hl 0 rfl) ?_
        refine va_put (D := D) (ci := 5) (v := .int (((σ1 12 11) - 32) - r2)) (ty := .int) (C := "LinkedUnits$Machine") (T := TX5) (N := 19) hx hb hg iwX5 tyX5 tyX5_ok nmX5 hown hK hP hD hS 11 rfl rfl 11 (by decide) (hg _ m_683) (fun _ h9 => h9) rfl (by decide +kernel) rfl rfl (Nat.le_of_ble_eq_true rfl) d_X5_enter_145 (fun H locs hP hD hS => ?_)
        have hP : va_P D vwCl (wB cy r (upC (upC (upC (upC (upF (upF (upF σ1 64 g3) 64 g4) 64 g5) 12 7 ((σ1 12 7) + 1)) 12 10 ((σ1 12 9) - r6)) 12 9 (((σ1 12 9) - r6) + r7)) 12 11 (((σ1 12 11) - 32) - r2))) H := hP
        have hD : va_D A (wB cy r (upC (upC (upC (upC (upF (upF (upF σ1 64 g3) 64 g4) 64 g5) 12 7 ((σ1 12 7) + 1)) 12 10 ((σ1 12 9) - r6)) 12 9 (((σ1 12 9) - r6) + r7)) 12 11 (((σ1 12 11) - 32) - r2))) := hD
        refine lv_aload_n hx hb d_X5_enter_148 rfl (lv_at hl 1 rfl) ?_
        refine lv_iload_n hx hb d_X5_enter_149 rfl (lv_at hl 2 rfl) ?_
        refine lv_iconst (v := 4) hx hb d_X5_enter_150 (by decide) ?_
        refine lv_iadd hx hb d_X5_enter_151 ?_
        refine va_put (D := D) (ci := 5) (v := .int (x1 + 4)) (ty := .int) (C := "LinkedUnits$Machine") (T := TX5) (N := 19) hx hb hg iwX5 tyX5 tyX5_ok nmX5 hown hK hP hD hS 11 rfl rfl 8 (by decide) (hg _ m_680) (fun _ h9 => h9) rfl (by decide +kernel) rfl rfl (Nat.le_of_ble_eq_true rfl) d_X5_enter_152 (fun H locs hP hD hS => ?_)
        have hP : va_P D vwCl (wB cy r (upC (upC (upC (upC (upC (upF (upF (upF σ1 64 g3) 64 g4) 64 g5) 12 7 ((σ1 12 7) + 1)) 12 10 ((σ1 12 9) - r6)) 12 9 (((σ1 12 9) - r6) + r7)) 12 11 (((σ1 12 11) - 32) - r2)) 12 8 (x1 + 4))) H := hP
        have hD : va_D A (wB cy r (upC (upC (upC (upC (upC (upF (upF (upF σ1 64 g3) 64 g4) 64 g5) 12 7 ((σ1 12 7) + 1)) 12 10 ((σ1 12 9) - r6)) 12 9 (((σ1 12 9) - r6) + r7)) 12 11 (((σ1 12 11) - 32) - r2)) 12 8 (x1 + 4))) := hD
        refine lv_aload_n hx hb d_X5_enter_155 rfl (lv_at hl 1 rfl) ?_
        refine lv_aload_n hx hb d_X5_enter_156 rfl (lv_at hl 1 rfl) ?_
        refine va_get (D := D) (ci := 5) (v := .ref (r 24)) (C := "LinkedUnits$Machine") (T := TX5) (N := 19) hx hb hg iwX5 hown hK hP 11 rfl rfl 3 (by decide) (hg _ m_674) (fun _ h9 => h9) rfl d_X5_enter_157 ?_
        refine lv_iload_n hx hb d_X5_enter_160 rfl (lv_at hl 2 rfl) ?_
        refine lv_iconst (v := 2) hx hb d_X5_enter_161 (by decide) ?_
        refine lv_iadd hx hb d_X5_enter_162 ?_
        refine s_call1 (x := ((r 24), .inl (cy 1, 262208, .inl ((upC (upC (upC (upC (upC (upF (upF (upF σ1 64 g3) 64 g4) 64 g5) 12 7 ((σ1 12 7) + 1)) 12 10 ((σ1 12 9) - r6)) 12 9 (((σ1 12 9) - r6) + r7)) 12 11 (((σ1 12 11) - 32) - r2)) 12 8 (x1 + 4)) 24)))) 23 rfl (va_runSN (As := [.ref (r 24), .int (x1 + 2)]) (rest := [.ref (r 12)]) ⟨hx, hb, hml, hown, hg⟩ (c_at_any l D cy H.size (r 24) 262208 ((upC (upC (upC (upC (upC (upF (upF (upF σ1 64 g3) 64 g4) 64 g5) 12 7 ((σ1 12 7) + 1)) 12 10 ((σ1 12 9) - r6)) 12 9 (((σ1 12 9) - r6) + r7)) 12 11 (((σ1 12 11) - 32) - r2)) 12 8 (x1 + 4)) 24) (x1 + 2) (Nat.le_of_ble_eq_true rfl)) ⟨(va_cnB 2 hg (gw_c m_949) rfl rfl rfl (hNW.1 _ nm_1660) (hg _ m_1) (by decide +kernel) ⟨(Nat.le_of_ble_eq_true rfl), (Nat.le_of_ble_eq_true rfl)⟩), hg _ m_948, trivial⟩ (s_pre (ws := [((r 24), .inl (cy 1, 262208, .inl ((upC (upC (upC (upC (upC (upF (upF (upF σ1 64 g3) 64 g4) 64 g5) 12 7 ((σ1 12 7) + 1)) 12 10 ((σ1 12 9) - r6)) 12 9 (((σ1 12 9) - r6) + r7)) 12 11 (((σ1 12 11) - 32) - r2)) 12 8 (x1 + 4)) 24)))]) (s_sub1 23 hP rfl) (s_subD 23 hD rfl) hK hNW) rfl rfl hl.1 rfl (lv_room (Nat.le_of_ble_eq_true rfl)) d_X5_enter_163 ⟨(Nat.le_of_ble_eq_true rfl), (Nat.le_of_ble_eq_true rfl)⟩) hP hD hS hA (fun r8 u8 H locs hw hP hD hS => ?_)
        have hP : va_P D vwCl (wB cy r (upC (upC (upC (upC (upC (upF (upF (upF σ1 64 g3) 64 g4) 64 g5) 12 7 ((σ1 12 7) + 1)) 12 10 ((σ1 12 9) - r6)) 12 9 (((σ1 12 9) - r6) + r7)) 12 11 (((σ1 12 11) - 32) - r2)) 12 8 (x1 + 4))) H := hP
        have hD : va_D A (wB cy r (upC (upC (upC (upC (upC (upF (upF (upF σ1 64 g3) 64 g4) 64 g5) 12 7 ((σ1 12 7) + 1)) 12 10 ((σ1 12 9) - r6)) 12 9 (((σ1 12 9) - r6) + r7)) 12 11 (((σ1 12 11) - 32) - r2)) 12 8 (x1 + 4))) := hD
        refine lv_aload_n hx hb d_X5_enter_166 rfl (lv_at hl 1 rfl) ?_
        refine va_get (D := D) (ci := 5) (v := .ref (r 24)) (C := "LinkedUnits$Machine") (T := TX5) (N := 19) hx hb hg iwX5 hown hK hP 11 rfl rfl 3 (by decide) (hg _ m_674) (fun _ h9 => h9) rfl d_X5_enter_167 ?_
        refine lv_iload_n hx hb d_X5_enter_170 rfl (lv_at hl 2 rfl) ?_
        refine lv_iconst (v := 3) hx hb d_X5_enter_171 (by decide) ?_
        refine lv_iadd hx hb d_X5_enter_172 ?_
        refine s_call1 (x := ((r 24), .inl (cy 1, 262208, .inl ((upC (upC (upC (upC (upC (upF (upF (upF σ1 64 g3) 64 g4) 64 g5) 12 7 ((σ1 12 7) + 1)) 12 10 ((σ1 12 9) - r6)) 12 9 (((σ1 12 9) - r6) + r7)) 12 11 (((σ1 12 11) - 32) - r2)) 12 8 (x1 + 4)) 24)))) 23 rfl (va_runSN (As := [.ref (r 24), .int (x1 + 3)]) (rest := [.int r8, .ref (r 12)]) ⟨hx, hb, hml, hown, hg⟩ (c_at_any l D cy H.size (r 24) 262208 ((upC (upC (upC (upC (upC (upF (upF (upF σ1 64 g3) 64 g4) 64 g5) 12 7 ((σ1 12 7) + 1)) 12 10 ((σ1 12 9) - r6)) 12 9 (((σ1 12 9) - r6) + r7)) 12 11 (((σ1 12 11) - 32) - r2)) 12 8 (x1 + 4)) 24) (x1 + 3) (Nat.le_of_ble_eq_true rfl)) ⟨(va_cnB 2 hg (gw_c m_949) rfl rfl rfl (hNW.1 _ nm_1660) (hg _ m_1) (by decide +kernel) ⟨(Nat.le_of_ble_eq_true rfl), (Nat.le_of_ble_eq_true rfl)⟩), hg _ m_948, trivial⟩ (s_pre (ws := [((r 24), .inl (cy 1, 262208, .inl ((upC (upC (upC (upC (upC (upF (upF (upF σ1 64 g3) 64 g4) 64 g5) 12 7 ((σ1 12 7) + 1)) 12 10 ((σ1 12 9) - r6)) 12 9 (((σ1 12 9) - r6) + r7)) 12 11 (((σ1 12 11) - 32) - r2)) 12 8 (x1 + 4)) 24)))]) (s_sub1 23 hP rfl) (s_subD 23 hD rfl) hK hNW) rfl rfl hl.1 rfl (lv_room (Nat.le_of_ble_eq_true rfl)) d_X5_enter_173 ⟨(Nat.le_of_ble_eq_true rfl), (Nat.le_of_ble_eq_true rfl)⟩) hP hD hS hA (fun r9 u9 H locs hw hP hD hS => ?_)
        have hP : va_P D vwCl (wB cy r (upC (upC (upC (upC (upC (upF (upF (upF σ1 64 g3) 64 g4) 64 g5) 12 7 ((σ1 12 7) + 1)) 12 10 ((σ1 12 9) - r6)) 12 9 (((σ1 12 9) - r6) + r7)) 12 11 (((σ1 12 11) - 32) - r2)) 12 8 (x1 + 4))) H := hP
        have hD : va_D A (wB cy r (upC (upC (upC (upC (upC (upF (upF (upF σ1 64 g3) 64 g4) 64 g5) 12 7 ((σ1 12 7) + 1)) 12 10 ((σ1 12 9) - r6)) 12 9 (((σ1 12 9) - r6) + r7)) 12 11 (((σ1 12 11) - 32) - r2)) 12 8 (x1 + 4))) := hD
        refine s_callv (X := St) (w1 := fun τ => wB cy r τ) (va_runV (As := [.int r8, .int r9]) (rest := []) ⟨hx, hb, hml, hown, hg⟩ (s_X5_copyParameters l D cy H.size r (upC (upC (upC (upC (upC (upF (upF (upF σ1 64 g3) 64 g4) 64 g5) 12 7 ((σ1 12 7) + 1)) 12 10 ((σ1 12 9) - r6)) 12 9 (((σ1 12 9) - r6) + r7)) 12 11 (((σ1 12 11) - 32) - r2)) 12 8 (x1 + 4)) r8 r9 i1 ) (cwV 2 hg (gw_V m_1662 m_1664 ms_X5_copyParameters m_17 m_1665) rfl rfl rfl (by decide +kernel) ⟨(Nat.le_of_ble_eq_true rfl), (Nat.le_of_ble_eq_true rfl)⟩) (s_preV (As := [.int r8, .int r9]) hP hD hK hNW 11 rfl rfl) rfl rfl hl.1 rfl (lv_room (Nat.le_of_ble_eq_true rfl)) d_X5_enter_176 ⟨(Nat.le_of_ble_eq_true rfl), (Nat.le_of_ble_eq_true rfl)⟩) hP hD hS hA (fun σ10 H locs hw hP hD hS => ?_)
        have hP : va_P D vwCl (wB cy r σ10) H := hP
        have hD : va_D A (wB cy r σ10) := hD
        have i10 : Inv σ10 := hw
        refine W.widen (k := 0) (n := 0) (Nat.le_of_ble_eq_true rfl) (Nat.le_of_ble_eq_true rfl) ?_
        exact k_vret (X := St) (w1 := fun τ => wB cy r τ) σ10 hx hb hr d_X5_enter_179 hlocks hP hK hD hS i10
      · -- not taken at 30
        refine lv_aload_n hx hb d_X5_enter_33 rfl (lv_at hl 1 rfl) ?_
        refine lv_iconst (v := 3) hx hb d_X5_enter_34 (by decide) ?_
        refine lv_iload_n hx hb d_X5_enter_35 rfl (lv_at hl 3 rfl) ?_
        refine s_callv (X := St) (w1 := fun τ => wB cy r τ) (va_runV (As := [.int 3, .int x2]) (rest := []) ⟨hx, hb, hml, hown, hg⟩ (s_X5_fail l D cy H.size r σ1 (3 : Int32) x2 i1 ) (cwV 2 hg (gw_V m_1656 m_1658 ms_X5_fail m_17 m_1659) rfl rfl rfl (by decide +kernel) ⟨(Nat.le_of_ble_eq_true rfl), (Nat.le_of_ble_eq_true rfl)⟩) (s_preV (As := [.int 3, .int x2]) hP hD hK hNW 11 rfl rfl) rfl rfl hl.1 rfl (lv_room (Nat.le_of_ble_eq_true rfl)) d_X5_enter_36 ⟨(Nat.le_of_ble_eq_true rfl), (Nat.le_of_ble_eq_true rfl)⟩) hP hD hS hA (fun σ11 H locs hw hP hD hS => ?_)
        have hP : va_P D vwCl (wB cy r σ11) H := hP
        have hD : va_D A (wB cy r σ11) := hD
        have i11 : Inv σ11 := hw
        refine W.widen (k := 0) (n := 0) (Nat.le_of_ble_eq_true rfl) (Nat.le_of_ble_eq_true rfl) ?_
        exact k_vret (X := St) (w1 := fun τ => wB cy r τ) σ11 hx hb hr d_X5_enter_39 hlocks hP hK hD hS i11
    · -- not taken at 5
      refine W.widen (k := 0) (n := 0) (Nat.le_of_ble_eq_true rfl) (Nat.le_of_ble_eq_true rfl) ?_
      exact k_vret (X := St) (w1 := fun τ => wB cy r τ) σ1 hx hb hr d_X5_enter_8 hlocks hP hK hD hS i1
  rw [hH] at hgoal
  exact hgoal
