set_option maxHeartbeats 4000000 in
set_option maxRecDepth 100000 in
theorem kt_X3_initial (a : Nat → Nat) (r : Nat → Nat) {a1 : Int32} {a2 : Int32} {σ : St} {Q : St → Prop} (w : wk_X3_initial a1 a2 σ Q) (l : Launch) (D : va_G) (cy : Nat → ClassId) : Ct l D cy SC r (EC a gC) y_X3_initial (Cond.code y_X3_initial b_X3_initial 8 none) 243 [.ref (r 3), .int a1, .int a2] σ Z0 [] (QV Q) QT0 := by
  unfold wk_X3_initial at w
  refine Ct_of (EC_ok a gC) (by decide) (Nat.le_of_ble_eq_true rfl) (by decide) (fun X hnn hF => ?_)
  show G SC r X σ Z0 [] [(0, .ref (r 3)), (1, .int a1), (2, .int a2)] [] 0
  refine g_aload_n hF d_X3_initial_0 rfl 0 rfl ?_
  refine g_get (v := .int (σ 3 1)) hF 1 obC_3 (by decide) m_95 rfl d_X3_initial_1 ?_
  refine g_istore_n hF [(3, .int (σ 3 1)), (0, .ref (r 3)), (1, .int a1), (2, .int a2)] d_X3_initial_4 rfl hnn (by decide) rfl ?_
  refine g_aload_n hF d_X3_initial_5 rfl 1 rfl ?_
  refine g_callV (As := []) (rest := []) hF (fun l D cy => kt_X3_advance a r w l D cy) (Nat.le_of_ble_eq_true rfl) mV_X3_advance m_899 (recv_ob obC_3) rfl rfl (Nat.le_of_ble_eq_true rfl) d_X3_initial_6 (qV (fun s6 w1 => ?_)) (fun _ _ _ h => h.elim)
  refine g_aload_n hF d_X3_initial_9 rfl 1 rfl ?_
  refine g_get (v := .ref (r 2)) hF 0 obC_3 (by decide) m_94 rfl d_X3_initial_10 ?_
  refine g_getN (v := .ref (r 13)) hF 5 obC_2 (by decide) nm_50 rfl d_X3_initial_13 ?_
  refine g_aload_n hF d_X3_initial_16 rfl 1 rfl ?_
  refine g_get (v := .int (s6 3 1)) hF 1 obC_3 (by decide) m_95 rfl d_X3_initial_17 ?_
  refine g_iconst hF (v := 1) d_X3_initial_20 (by decide) ?_
  refine g_iadd hF d_X3_initial_21 ?_
  refine g_callSN (As := [.ref (r 13), .int ((s6 3 1) + (1 : Int32))]) (rest := []) hF (c_atv a r s6 arC_13 (by decide) ((s6 3 1) + (1 : Int32))) (Nat.le_of_ble_eq_true rfl) mS_X12_at nm_947 rfl rfl (Nat.le_of_ble_eq_true rfl) d_X3_initial_22 (kQ ?_)
  refine g_top (v := (atv 16002 (s6 13) ((s6 3 1) + (1 : Int32)))) rfl ?_
  refine g_istore hF [(4, .int (atv 16002 (s6 13) ((s6 3 1) + (1 : Int32)))), (3, .int (σ 3 1)), (0, .ref (r 3)), (1, .int a1), (2, .int a2)] d_X3_initial_25 hnn (by decide) rfl ?_
  refine g_iload_n hF d_X3_initial_27 rfl 3 rfl ?_
  obtain ⟨J58, h58, w2⟩ := w1
  have b58 : ∀ (y0_58 : Int32), y0_58 = 0 ∨ y0_58 = 1 → J58 y0_58 → G SC r X s6 Z0 [] [(0, .ref (r 3)), (1, .int a1), (2, .int a2), (3, .int (σ 3 1))] [.int y0_58] 58 := by
    intro y0_58 hy0_58 w58_
    have w58_ := h58 y0_58 hy0_58 w58_
    refine g_istore hF [(5, .int y0_58), (0, .ref (r 3)), (1, .int a1), (2, .int a2), (3, .int (σ 3 1))] d_X3_initial_58 hnn (by decide) rfl ?_
    refine g_iload hF d_X3_initial_60 0 rfl ?_
    obtain ⟨J89, h89, w3⟩ := w58_
    have b89 : ∀ (s89 : St), J89 s89 → G SC r X s89 Z0 [] [(0, .ref (r 3)), (1, .int a1), (2, .int a2), (3, .int (σ 3 1)), (5, .int y0_58)] [] 89 := by
      intro s89  w89_
      have w89_ := h89 s89  w89_
      refine g_aload_n hF d_X3_initial_89 rfl 0 rfl ?_
      refine g_get (v := .int (s89 3 2)) hF 2 obC_3 (by decide) m_96 rfl d_X3_initial_90 ?_
      refine g_bipush hF (v := 22) d_X3_initial_93 (by decide) ?_
      refine g_icmp_ne (yv := 22) hF 186 d_X3_initial_95 (by decide) rfl (by decide) (fun c => ?_) (fun c => ?_)
      · have w4 := w89_.1 c
        refine g_iload hF d_X3_initial_186 4 rfl ?_
        obtain ⟨J225, h225, w5⟩ := w4
        have b225 : J225  → G SC r X s89 Z0 [] [(0, .ref (r 3)), (3, .int (σ 3 1))] [] 225 := by
          intro   w225_
          have w225_ := h225   w225_
          refine g_aload_n hF d_X3_initial_225 rfl 0 rfl ?_
          refine g_iconst hF (v := 1) d_X3_initial_226 (by decide) ?_
          refine g_callV (As := [.int 1]) (rest := []) hF (fun l D cy => ktG_expression a r w225_ l D cy) (Nat.le_of_ble_eq_true rfl) mV_X3_expression m_927 (recv_ob obC_3) rfl rfl (Nat.le_of_ble_eq_true rfl) d_X3_initial_227 (qV (fun s227 w6 => ?_)) (fun _ _ _ h => h.elim)
          refine g_aload_n hF d_X3_initial_230 rfl 0 rfl ?_
          refine g_bipush hF (v := 46) d_X3_initial_231 (by decide) ?_
          refine g_iload_n hF d_X3_initial_233 rfl 1 rfl ?_
          refine g_iconst hF (v := 0) d_X3_initial_234 (by decide) ?_
          refine g_iconst hF (v := 0) d_X3_initial_235 (by decide) ?_
          refine g_callV (As := [.int 46, .int (σ 3 1), .int 0, .int 0]) (rest := []) hF (fun l D cy => kt_X3_add a r w6 l D cy) (Nat.le_of_ble_eq_true rfl) mV_X3_add m_923 (recv_ob obC_3) rfl rfl (Nat.le_of_ble_eq_true rfl) d_X3_initial_236 (qI (fun v236 s236 w7 => ?_)) (fun _ _ _ h => h.elim)
          refine g_pop hF d_X3_initial_239 rfl ?_
          exact g_vret hF rfl d_X3_initial_240 ⟨rfl, rfl, rfl, w7⟩
        refine g_if_eq hF 225 d_X3_initial_188 (by decide) rfl (fun c => ?_) (fun c => ?_)
        · have w8 := w5.1 c
          exact g_sub (L' := [(0, .ref (r 3)), (3, .int (σ 3 1))]) [0, 3] rfl (b225  w8)
        · have w9 := w5.2 c
          refine g_iload_n hF d_X3_initial_191 rfl 2 rfl ?_
          refine g_if_ne hF 225 d_X3_initial_192 (by decide) rfl (fun c => ?_) (fun c => ?_)
          · have w10 := w9.1 c
            exact g_sub (L' := [(0, .ref (r 3)), (3, .int (σ 3 1))]) [0, 3] rfl (b225  w10)
          · have w11 := w9.2 c
            refine g_aload_n hF d_X3_initial_195 rfl 0 rfl ?_
            refine g_bipush hF (v := 45) d_X3_initial_196 (by decide) ?_
            refine g_aload_n hF d_X3_initial_198 rfl 0 rfl ?_
            refine g_get (v := .int (s89 3 1)) hF 1 obC_3 (by decide) m_95 rfl d_X3_initial_199 ?_
            refine g_iconst hF (v := 0) d_X3_initial_202 (by decide) ?_
            refine g_iconst hF (v := 0) d_X3_initial_203 (by decide) ?_
            refine g_callV (As := [.int 45, .int (s89 3 1), .int 0, .int 0]) (rest := []) hF (fun l D cy => kt_X3_add a r w11 l D cy) (Nat.le_of_ble_eq_true rfl) mV_X3_add m_923 (recv_ob obC_3) rfl rfl (Nat.le_of_ble_eq_true rfl) d_X3_initial_204 (qI (fun v204 s204 w12 => ?_)) (fun _ _ _ h => h.elim)
            refine g_pop hF d_X3_initial_207 rfl ?_
            refine g_aload_n hF d_X3_initial_208 rfl 0 rfl ?_
            refine g_callV (As := []) (rest := []) hF (fun l D cy => kt_X3_advance a r w12 l D cy) (Nat.le_of_ble_eq_true rfl) mV_X3_advance m_899 (recv_ob obC_3) rfl rfl (Nat.le_of_ble_eq_true rfl) d_X3_initial_209 (qV (fun s209 w13 => ?_)) (fun _ _ _ h => h.elim)
            refine g_aload_n hF d_X3_initial_212 rfl 0 rfl ?_
            refine g_bipush hF (v := 46) d_X3_initial_213 (by decide) ?_
            refine g_iload_n hF d_X3_initial_215 rfl 3 rfl ?_
            refine g_iconst hF (v := 2) d_X3_initial_216 (by decide) ?_
            refine g_iconst hF (v := 0) d_X3_initial_217 (by decide) ?_
            refine g_callV (As := [.int 46, .int (σ 3 1), .int 2, .int 0]) (rest := []) hF (fun l D cy => kt_X3_add a r w13 l D cy) (Nat.le_of_ble_eq_true rfl) mV_X3_add m_923 (recv_ob obC_3) rfl rfl (Nat.le_of_ble_eq_true rfl) d_X3_initial_218 (qI (fun v218 s218 w14 => ?_)) (fun _ _ _ h => h.elim)
            refine g_pop hF d_X3_initial_221 rfl ?_
            refine g_goto hF 240 d_X3_initial_222 (by decide) ?_
            exact g_vret hF rfl d_X3_initial_240 ⟨rfl, rfl, rfl, w14⟩
      · have w15 := w89_.2 c
        refine g_aload_n hF d_X3_initial_98 rfl 0 rfl ?_
        refine g_callV (As := []) (rest := []) hF (fun l D cy => kt_X3_advance a r w15 l D cy) (Nat.le_of_ble_eq_true rfl) mV_X3_advance m_899 (recv_ob obC_3) rfl rfl (Nat.le_of_ble_eq_true rfl) d_X3_initial_99 (qV (fun s99 w16 => ?_)) (fun _ _ _ h => h.elim)
        refine g_iconst hF (v := 0) d_X3_initial_102 (by decide) ?_
        refine g_istore hF [(6, .int 0), (0, .ref (r 3)), (1, .int a1), (2, .int a2), (3, .int (σ 3 1)), (5, .int y0_58)] d_X3_initial_103 hnn (by decide) rfl ?_
        refine g_iconst hF (v := 1) d_X3_initial_105 (by decide) ?_
        refine g_istore hF [(7, .int 1), (6, .int 0), (0, .ref (r 3)), (1, .int a1), (2, .int a2), (3, .int (σ 3 1)), (5, .int y0_58)] d_X3_initial_106 hnn (by decide) rfl ?_
        obtain ⟨L108, ⟨i108, u108⟩, h108⟩ := w16
        have b108 : ∀ (n108 : Nat) (x6_108 : Int32) (x7_108 : Int32) (s108 : St), x7_108 = 0 ∨ x7_108 = 1 → L108 n108 x6_108 x7_108 s108 → G SC r X s108 Z0 [] [(0, .ref (r 3)), (1, .int a1), (3, .int (σ 3 1)), (6, .int x6_108), (7, .int x7_108)] [] 108 := by
          intro n108
          induction n108 using Nat.strongRecOn with
          | _ n108 ih108 =>
            intro x6_108 x7_108 s108 hx7_108 w108_
            have w108_ := h108 n108 x6_108 x7_108 s108 hx7_108 w108_
            refine g_iload hF d_X3_initial_108 3 rfl ?_
            refine g_aload_n hF d_X3_initial_110 rfl 0 rfl ?_
            refine g_get (v := .ref (r 2)) hF 0 obC_3 (by decide) m_94 rfl d_X3_initial_111 ?_
            refine g_getN (v := .int (s108 2 4)) hF 4 obC_2 (by decide) nm_47 rfl d_X3_initial_114 ?_
            obtain ⟨J157, h157, w17⟩ := w108_
            have b157 : J157  → G SC r X s108 Z0 [] [(0, .ref (r 3)), (1, .int a1), (3, .int (σ 3 1)), (6, .int x6_108)] [] 157 := by
              intro   w157_
              have w157_ := h157   w157_
              refine g_aload_n hF d_X3_initial_157 rfl 0 rfl ?_
              refine g_bipush hF (v := 23) d_X3_initial_158 (by decide) ?_
              refine g_callV (As := [.int 23]) (rest := []) hF (fun l D cy => kt_X3_expect a r w157_ l D cy) (Nat.le_of_ble_eq_true rfl) mV_X3_expect m_903 (recv_ob obC_3) rfl rfl (Nat.le_of_ble_eq_true rfl) d_X3_initial_160 (qV (fun s160 w18 => ?_)) (fun _ _ _ h => h.elim)
              refine g_aload_n hF d_X3_initial_163 rfl 0 rfl ?_
              refine g_get (v := .ref (r 21)) hF 8 obC_3 (by decide) m_112 rfl d_X3_initial_164 ?_
              refine g_iload_n hF d_X3_initial_167 rfl 1 rfl ?_
              refine g_iload hF d_X3_initial_168 3 rfl ?_
              refine g_callSN (As := [.ref (r 21), .int a1, .int x6_108]) (rest := []) hF (c_setv a r s160 arC_21 (by decide) a1 x6_108) (Nat.le_of_ble_eq_true rfl) mS_X12_set nm_979 rfl rfl (Nat.le_of_ble_eq_true rfl) d_X3_initial_170 (kU ?_)
              refine g_aload_n hF d_X3_initial_173 rfl 0 rfl ?_
              refine g_bipush hF (v := 46) d_X3_initial_174 (by decide) ?_
              refine g_iload_n hF d_X3_initial_176 rfl 2 rfl ?_
              refine g_iconst hF (v := 1) d_X3_initial_177 (by decide) ?_
              refine g_iconst hF (v := 0) d_X3_initial_178 (by decide) ?_
              refine g_callV (As := [.int 46, .int (σ 3 1), .int 1, .int 0]) (rest := []) hF (fun l D cy => kt_X3_add a r w18 l D cy) (Nat.le_of_ble_eq_true rfl) mV_X3_add m_923 (recv_ob obC_3) rfl rfl (Nat.le_of_ble_eq_true rfl) d_X3_initial_179 (qI (fun v179 s179 w19 => ?_)) (fun _ _ _ h => h.elim)
              refine g_pop hF d_X3_initial_182 rfl ?_
              refine g_goto hF 240 d_X3_initial_183 (by decide) ?_
              exact g_vret hF rfl d_X3_initial_240 ⟨rfl, rfl, rfl, w19⟩
            refine g_icmp_ge hF 157 d_X3_initial_117 (by decide) rfl rfl (fun c => ?_) (fun c => ?_)
            · have w20 := w17.1 c
              exact g_sub (L' := [(0, .ref (r 3)), (1, .int a1), (3, .int (σ 3 1)), (6, .int x6_108)]) [0, 1, 2, 3] rfl (b157  w20)
            · have w21 := w17.2 c
              refine g_iload hF d_X3_initial_120 4 rfl ?_
              refine g_if_eq hF 157 d_X3_initial_122 (by decide) rfl (fun c => ?_) (fun c => ?_)
              · have w22 := w21.1 c
                exact g_sub (L' := [(0, .ref (r 3)), (1, .int a1), (3, .int (σ 3 1)), (6, .int x6_108)]) [0, 1, 2, 3] rfl (b157  w22)
              · have w23 := w21.2 c
                refine g_aload_n hF d_X3_initial_125 rfl 0 rfl ?_
                refine g_iconst hF (v := 1) d_X3_initial_126 (by decide) ?_
                refine g_callV (As := [.int 1]) (rest := []) hF (fun l D cy => ktG_expression a r w23 l D cy) (Nat.le_of_ble_eq_true rfl) mV_X3_expression m_927 (recv_ob obC_3) rfl rfl (Nat.le_of_ble_eq_true rfl) d_X3_initial_127 (qV (fun s127 w24 => ?_)) (fun _ _ _ h => h.elim)
                refine g_aload_n hF d_X3_initial_130 rfl 0 rfl ?_
                refine g_bipush hF (v := 44) d_X3_initial_131 (by decide) ?_
                refine g_aload_n hF d_X3_initial_133 rfl 0 rfl ?_
                refine g_get (v := .int (s127 3 1)) hF 1 obC_3 (by decide) m_95 rfl d_X3_initial_134 ?_
                refine g_iconst hF (v := 0) d_X3_initial_137 (by decide) ?_
                refine g_iconst hF (v := 0) d_X3_initial_138 (by decide) ?_
                refine g_callV (As := [.int 44, .int (s127 3 1), .int 0, .int 0]) (rest := []) hF (fun l D cy => kt_X3_add a r w24 l D cy) (Nat.le_of_ble_eq_true rfl) mV_X3_add m_923 (recv_ob obC_3) rfl rfl (Nat.le_of_ble_eq_true rfl) d_X3_initial_139 (qI (fun v139 s139 w25 => ?_)) (fun _ _ _ h => h.elim)
                refine g_pop hF d_X3_initial_142 rfl ?_
                refine g_aload_n hF d_X3_initial_143 rfl 0 rfl ?_
                refine g_bipush hF (v := 26) d_X3_initial_144 (by decide) ?_
                refine g_callV (As := [.int 26]) (rest := []) hF (fun l D cy => kt_X3_accept a r w25 l D cy) (Nat.le_of_ble_eq_true rfl) mV_X3_accept m_966 (recv_ob obC_3) rfl rfl (Nat.le_of_ble_eq_true rfl) d_X3_initial_146 (qZ (fun v146 s146 hz146 w26 => ?_)) (fun _ _ _ h => h.elim)
                refine g_istore hF [(7, .int v146), (0, .ref (r 3)), (1, .int a1), (3, .int (σ 3 1)), (6, .int x6_108)] d_X3_initial_149 hnn (by decide) rfl ?_
                refine g_iinc hF (x6_108 + 1) [(6, .int (x6_108 + 1)), (7, .int v146), (0, .ref (r 3)), (1, .int a1), (3, .int (σ 3 1))] d_X3_initial_151 4 rfl rfl hnn (by decide) rfl ?_
                refine g_goto hF 108 d_X3_initial_154 (by decide) ?_
                obtain ⟨m108, hm108, w9⟩ := w26
                exact g_sub (L' := [(0, .ref (r 3)), (1, .int a1), (3, .int (σ 3 1)), (6, .int (x6_108 + 1)), (7, .int v146)]) [2, 3, 4, 0, 1] rfl (ih108 m108 hm108 (x6_108 + 1) v146 s146 hz146 w9)
        exact g_sub (L' := [(0, .ref (r 3)), (1, .int a1), (3, .int (σ 3 1)), (6, .int 0), (7, .int 1)]) [2, 3, 5, 1, 0] rfl (b108 i108 (0 : Int32) (1 : Int32) s99 (Or.inr rfl) u108)
    refine g_if_eq hF 89 d_X3_initial_62 (by decide) rfl (fun c => ?_) (fun c => ?_)
    · have w27 := w3.1 c
      exact g_sub (L' := [(0, .ref (r 3)), (1, .int a1), (2, .int a2), (3, .int (σ 3 1)), (5, .int y0_58)]) [1, 2, 3, 4, 0] rfl (b89 s6 w27)
    · have w28 := w3.2 c
      refine g_aload_n hF d_X3_initial_65 rfl 1 rfl ?_
      refine g_get (v := .ref (r 21)) hF 8 obC_3 (by decide) m_112 rfl d_X3_initial_66 ?_
      refine g_iload_n hF d_X3_initial_69 rfl 2 rfl ?_
      refine g_aload_n hF d_X3_initial_70 rfl 1 rfl ?_
      refine g_get (v := .ref (r 2)) hF 0 obC_3 (by decide) m_94 rfl d_X3_initial_71 ?_
      refine g_getN (v := .ref (r 14)) hF 6 obC_2 (by decide) nm_55 rfl d_X3_initial_74 ?_
      refine g_aload_n hF d_X3_initial_77 rfl 1 rfl ?_
      refine g_get (v := .int (s6 3 1)) hF 1 obC_3 (by decide) m_95 rfl d_X3_initial_78 ?_
      refine g_callSN (As := [.ref (r 14), .int (s6 3 1)]) (rest := [.int a1, .ref (r 21)]) hF (c_atv a r s6 arC_14 (by decide) (s6 3 1)) (Nat.le_of_ble_eq_true rfl) mS_X12_at nm_947 rfl rfl (Nat.le_of_ble_eq_true rfl) d_X3_initial_81 (kQ ?_)
      refine g_top (v := (atv 16002 (s6 14) (s6 3 1))) rfl ?_
      refine g_iconst hF (v := 1) d_X3_initial_84 (by decide) ?_
      refine g_iadd hF d_X3_initial_85 ?_
      refine g_callSN (As := [.ref (r 21), .int a1, .int ((atv 16002 (s6 14) (s6 3 1)) + (1 : Int32))]) (rest := []) hF (c_setv a r s6 arC_21 (by decide) a1 ((atv 16002 (s6 14) (s6 3 1)) + (1 : Int32))) (Nat.le_of_ble_eq_true rfl) mS_X12_set nm_979 rfl rfl (Nat.le_of_ble_eq_true rfl) d_X3_initial_86 (kU ?_)
      exact g_sub (L' := [(0, .ref (r 3)), (1, .int a1), (2, .int a2), (3, .int (σ 3 1)), (5, .int y0_58)]) [1, 2, 3, 4, 0] rfl (b89 (upF s6 21 (setv 32100 (s6 21) a1 ((atv 16002 (s6 14) (s6 3 1)) + (1 : Int32)))) w28)
  obtain ⟨J57, h57, w29⟩ := w2
  have b57 : J57  → G SC r X s6 Z0 [] [(0, .ref (r 3)), (1, .int a1), (2, .int a2), (3, .int (σ 3 1))] [] 57 := by
    intro   w57_
    have w57_ := h57   w57_
    refine g_iconst hF (v := 0) d_X3_initial_57 (by decide) ?_
    exact b58 (0 : Int32) (Or.inl rfl) w57_
  refine g_if_lt hF 57 d_X3_initial_28 (by decide) rfl (fun c => ?_) (fun c => ?_)
  · have w30 := w29.1 c
    exact g_sub (L' := [(0, .ref (r 3)), (1, .int a1), (2, .int a2), (3, .int (σ 3 1))]) [2, 3, 4, 1] rfl (b57  w30)
  · have w31 := w29.2 c
    refine g_aload_n hF d_X3_initial_31 rfl 2 rfl ?_
    refine g_get (v := .int (s6 3 2)) hF 2 obC_3 (by decide) m_96 rfl d_X3_initial_32 ?_
    refine g_iconst hF (v := 4) d_X3_initial_35 (by decide) ?_
    refine g_icmp_ne (yv := 4) hF 57 d_X3_initial_36 (by decide) rfl (by decide) (fun c => ?_) (fun c => ?_)
    · have w32 := w31.1 c
      exact g_sub (L' := [(0, .ref (r 3)), (1, .int a1), (2, .int a2), (3, .int (σ 3 1))]) [2, 3, 4, 1] rfl (b57  w32)
    · have w33 := w31.2 c
      refine g_iload hF d_X3_initial_39 0 rfl ?_
      refine g_bipush hF (v := 26) d_X3_initial_41 (by decide) ?_
      obtain ⟨J53, h53, w34⟩ := w33
      have b53 : J53  → G SC r X s6 Z0 [] [(0, .ref (r 3)), (1, .int a1), (2, .int a2), (3, .int (σ 3 1))] [] 53 := by
        intro   w53_
        have w53_ := h53   w53_
        refine g_iconst hF (v := 1) d_X3_initial_53 (by decide) ?_
        refine g_goto hF 58 d_X3_initial_54 (by decide) ?_
        exact b58 (1 : Int32) (Or.inr rfl) w53_
      refine g_icmp_eq (yv := 26) hF 53 d_X3_initial_43 (by decide) rfl (by decide) (fun c => ?_) (fun c => ?_)
      · have w35 := w34.1 c
        exact g_sub (L' := [(0, .ref (r 3)), (1, .int a1), (2, .int a2), (3, .int (σ 3 1))]) [2, 3, 4, 1] rfl (b53  w35)
      · have w36 := w34.2 c
        refine g_iload hF d_X3_initial_46 0 rfl ?_
        refine g_bipush hF (v := 27) d_X3_initial_48 (by decide) ?_
        refine g_icmp_ne (yv := 27) hF 57 d_X3_initial_50 (by decide) rfl (by decide) (fun c => ?_) (fun c => ?_)
        · have w37 := w36.1 c
          exact g_sub (L' := [(0, .ref (r 3)), (1, .int a1), (2, .int a2), (3, .int (σ 3 1))]) [2, 3, 4, 1] rfl (b57  w37)
        · have w38 := w36.2 c
          exact g_sub (L' := [(0, .ref (r 3)), (1, .int a1), (2, .int a2), (3, .int (σ 3 1))]) [2, 3, 4, 1] rfl (b53  w38)
set_option maxHeartbeats 4000000 in
set_option maxRecDepth 100000 in
theorem kt_X3_bracket (a : Nat → Nat) (r : Nat → Nat) {σ : St} {Q : Int32 → St → Prop} (w : wk_X3_bracket  σ Q) (l : Launch) (D : va_G) (cy : Nat → ClassId) : Ct l D cy SC r (EC a gC) y_X3_bracket (Cond.code y_X3_bracket b_X3_bracket 4 (some .int)) 243 [.ref (r 3)] σ Z0 [] (QI Q) QT0 := by
  unfold wk_X3_bracket at w
  refine Ct_of (EC_ok a gC) (by decide) (Nat.le_of_ble_eq_true rfl) (by decide) (fun X hnn hF => ?_)
  show G SC r X σ Z0 [] [(0, .ref (r 3))] [] 0
  refine g_aload_n hF d_X3_bracket_0 rfl 0 rfl ?_
  refine g_get (v := .int (σ 3 1)) hF 1 obC_3 (by decide) m_95 rfl d_X3_bracket_1 ?_
  refine g_istore_n hF [(1, .int (σ 3 1)), (0, .ref (r 3))] d_X3_bracket_4 rfl hnn (by decide) rfl ?_
  refine g_aload_n hF d_X3_bracket_5 rfl 1 rfl ?_
  refine g_callV (As := []) (rest := []) hF (fun l D cy => kt_X3_advance a r w l D cy) (Nat.le_of_ble_eq_true rfl) mV_X3_advance m_899 (recv_ob obC_3) rfl rfl (Nat.le_of_ble_eq_true rfl) d_X3_bracket_6 (qV (fun s6 w1 => ?_)) (fun _ _ _ h => h.elim)
  refine g_aload_n hF d_X3_bracket_9 rfl 1 rfl ?_
  refine g_get (v := .int (s6 3 2)) hF 2 obC_3 (by decide) m_96 rfl d_X3_bracket_10 ?_
  refine g_bipush hF (v := 25) d_X3_bracket_13 (by decide) ?_
  obtain ⟨J23, h23, w2⟩ := w1
  have b23 : ∀ (y0_23 : Int32), y0_23 = 0 ∨ y0_23 = 1 → J23 y0_23 → G SC r X s6 Z0 [] [(0, .ref (r 3)), (1, .int (σ 3 1))] [.int y0_23] 23 := by
    intro y0_23 hy0_23 w23_
    have w23_ := h23 y0_23 hy0_23 w23_
    refine g_istore_n hF [(2, .int y0_23), (0, .ref (r 3)), (1, .int (σ 3 1))] d_X3_bracket_23 rfl hnn (by decide) rfl ?_
    refine g_iload_n hF d_X3_bracket_24 rfl 0 rfl ?_
    obtain ⟨J60, h60, w3⟩ := w23_
    have b60 : ∀ (s60 : St), J60 s60 → G SC r X s60 Z0 [] [(0, .ref (r 3)), (1, .int (σ 3 1)), (2, .int y0_23)] [] 60 := by
      intro s60  w60_
      have w60_ := h60 s60  w60_
      refine g_aload_n hF d_X3_bracket_60 rfl 0 rfl ?_
      refine g_bipush hF (v := 25) d_X3_bracket_61 (by decide) ?_
      refine g_callV (As := [.int 25]) (rest := []) hF (fun l D cy => kt_X3_expect a r w60_ l D cy) (Nat.le_of_ble_eq_true rfl) mV_X3_expect m_903 (recv_ob obC_3) rfl rfl (Nat.le_of_ble_eq_true rfl) d_X3_bracket_63 (qV (fun s63 w4 => ?_)) (fun _ _ _ h => h.elim)
      refine g_aload_n hF d_X3_bracket_66 rfl 0 rfl ?_
      refine g_bipush hF (v := 42) d_X3_bracket_67 (by decide) ?_
      refine g_iload_n hF d_X3_bracket_69 rfl 1 rfl ?_
      refine g_iload_n hF d_X3_bracket_70 rfl 2 rfl ?_
      obtain ⟨J79, h79, w5⟩ := w4
      have b79 : ∀ (y3_79 : Int32), y3_79 = 0 ∨ y3_79 = 1 → J79 y3_79 → G SC r X s63 Z0 [] [] [.int y3_79, .int (σ 3 1), .int 42, .ref (r 3)] 79 := by
        intro y3_79 hy3_79 w79_
        have w79_ := h79 y3_79 hy3_79 w79_
        refine g_iconst hF (v := 0) d_X3_bracket_79 (by decide) ?_
        refine g_callV (As := [.int 42, .int (σ 3 1), .int y3_79, .int 0]) (rest := []) hF (fun l D cy => kt_X3_add a r w79_ l D cy) (Nat.le_of_ble_eq_true rfl) mV_X3_add m_923 (recv_ob obC_3) rfl rfl (Nat.le_of_ble_eq_true rfl) d_X3_bracket_80 (qI (fun v80 s80 w6 => ?_)) (fun _ _ _ h => h.elim)
        exact g_iret hF rfl d_X3_bracket_83 ⟨rfl, rfl, v80, rfl, w6⟩
      refine g_if_eq hF 78 d_X3_bracket_71 (by decide) rfl (fun c => ?_) (fun c => ?_)
      · have w7 := w5.1 c
        refine g_iconst hF (v := 0) d_X3_bracket_78 (by decide) ?_
        exact g_sub (L' := []) [] rfl (b79 (0 : Int32) (Or.inl rfl) w7)
      · have w8 := w5.2 c
        refine g_iconst hF (v := 1) d_X3_bracket_74 (by decide) ?_
        refine g_goto hF 79 d_X3_bracket_75 (by decide) ?_
        exact g_sub (L' := []) [] rfl (b79 (1 : Int32) (Or.inr rfl) w8)
    refine g_if_eq hF 60 d_X3_bracket_25 (by decide) rfl (fun c => ?_) (fun c => ?_)
    · have w9 := w3.1 c
      exact g_sub (L' := [(0, .ref (r 3)), (1, .int (σ 3 1)), (2, .int y0_23)]) [1, 2, 0] rfl (b60 s6 w9)
    · have w10 := w3.2 c
      refine g_aload_n hF d_X3_bracket_28 rfl 1 rfl ?_
      refine g_bipush hF (v := 40) d_X3_bracket_29 (by decide) ?_
      refine g_iload_n hF d_X3_bracket_31 rfl 2 rfl ?_
      refine g_iconst hF (v := 0) d_X3_bracket_32 (by decide) ?_
      refine g_iconst hF (v := 0) d_X3_bracket_33 (by decide) ?_
      refine g_callV (As := [.int 40, .int (σ 3 1), .int 0, .int 0]) (rest := []) hF (fun l D cy => kt_X3_add a r w10 l D cy) (Nat.le_of_ble_eq_true rfl) mV_X3_add m_923 (recv_ob obC_3) rfl rfl (Nat.le_of_ble_eq_true rfl) d_X3_bracket_34 (qI (fun v34 s34 w11 => ?_)) (fun _ _ _ h => h.elim)
      refine g_istore_n hF [(3, .int v34), (2, .int y0_23), (0, .ref (r 3)), (1, .int (σ 3 1))] d_X3_bracket_37 rfl hnn (by decide) rfl ?_
      refine g_aload_n hF d_X3_bracket_38 rfl 2 rfl ?_
      refine g_iconst hF (v := 1) d_X3_bracket_39 (by decide) ?_
      refine g_callV (As := [.int 1]) (rest := []) hF (fun l D cy => ktG_expression a r w11 l D cy) (Nat.le_of_ble_eq_true rfl) mV_X3_expression m_927 (recv_ob obC_3) rfl rfl (Nat.le_of_ble_eq_true rfl) d_X3_bracket_40 (qV (fun s40 w12 => ?_)) (fun _ _ _ h => h.elim)
      refine g_aload_n hF d_X3_bracket_43 rfl 2 rfl ?_
      refine g_get (v := .ref (r 20)) hF 7 obC_3 (by decide) m_108 rfl d_X3_bracket_44 ?_
      refine g_iload_n hF d_X3_bracket_47 rfl 0 rfl ?_
      refine g_aload_n hF d_X3_bracket_48 rfl 2 rfl ?_
      refine g_bipush hF (v := 41) d_X3_bracket_49 (by decide) ?_
      refine g_iload_n hF d_X3_bracket_51 rfl 3 rfl ?_
      refine g_iconst hF (v := 0) d_X3_bracket_52 (by decide) ?_
      refine g_iconst hF (v := 0) d_X3_bracket_53 (by decide) ?_
      refine g_callV (As := [.int 41, .int (σ 3 1), .int 0, .int 0]) (rest := [.int v34, .ref (r 20)]) hF (fun l D cy => kt_X3_add a r w12 l D cy) (Nat.le_of_ble_eq_true rfl) mV_X3_add m_923 (recv_ob obC_3) rfl rfl (Nat.le_of_ble_eq_true rfl) d_X3_bracket_54 (qI (fun v54 s54 w13 => ?_)) (fun _ _ _ h => h.elim)
      refine g_callSN (As := [.ref (r 20), .int v34, .int v54]) (rest := []) hF (c_setv a r s54 arC_20 (by decide) v34 v54) (Nat.le_of_ble_eq_true rfl) mS_X12_set nm_979 rfl rfl (Nat.le_of_ble_eq_true rfl) d_X3_bracket_57 (kU ?_)
      exact g_sub (L' := [(0, .ref (r 3)), (1, .int (σ 3 1)), (2, .int y0_23)]) [2, 3, 1] rfl (b60 (upF s54 20 (setv 32100 (s54 20) v34 v54)) w13)
  refine g_icmp_eq (yv := 25) hF 22 d_X3_bracket_15 (by decide) rfl (by decide) (fun c => ?_) (fun c => ?_)
  · have w14 := w2.1 c
    refine g_iconst hF (v := 0) d_X3_bracket_22 (by decide) ?_
    exact g_sub (L' := [(0, .ref (r 3)), (1, .int (σ 3 1))]) [1, 0] rfl (b23 (0 : Int32) (Or.inl rfl) w14)
  · have w15 := w2.2 c
    refine g_iconst hF (v := 1) d_X3_bracket_18 (by decide) ?_
    refine g_goto hF 23 d_X3_bracket_19 (by decide) ?_
    exact g_sub (L' := [(0, .ref (r 3)), (1, .int (σ 3 1))]) [1, 0] rfl (b23 (1 : Int32) (Or.inr rfl) w15)
set_option maxHeartbeats 4000000 in
set_option maxRecDepth 100000 in
theorem kt_X3_variables (a : Nat → Nat) (r : Nat → Nat) {a1 : Int32} {a2 : Int32} {a3 : Int32} {σ : St} {Q : St → Prop} (w : wk_X3_variables a1 a2 a3 σ Q) (l : Launch) (D : va_G) (cy : Nat → ClassId) : Ct l D cy SC r (EC a gC) y_X3_variables (Cond.code y_X3_variables b_X3_variables 10 none) 244 [.ref (r 3), .int a1, .int a2, .int a3] σ Z0 [] (QV Q) QT0 := by
  unfold wk_X3_variables at w
  refine Ct_of (EC_ok a gC) (by decide) (Nat.le_of_ble_eq_true rfl) (by decide) (fun X hnn hF => ?_)
  show G SC r X σ Z0 [] [(0, .ref (r 3)), (1, .int a1), (2, .int a2), (3, .int a3)] [] 0
  refine g_iload_n hF d_X3_variables_0 rfl 1 rfl ?_
  refine g_istore hF [(4, .int a1), (0, .ref (r 3)), (1, .int a1), (2, .int a2), (3, .int a3)] d_X3_variables_1 hnn (by decide) rfl ?_
  refine g_iload_n hF d_X3_variables_3 rfl 3 rfl ?_
  refine g_istore hF [(5, .int a2), (4, .int a1), (0, .ref (r 3)), (1, .int a1), (2, .int a2), (3, .int a3)] d_X3_variables_4 hnn (by decide) rfl ?_
  refine g_iconst hF (v := 1) d_X3_variables_6 (by decide) ?_
  refine g_istore hF [(6, .int 1), (5, .int a2), (4, .int a1), (0, .ref (r 3)), (1, .int a1), (2, .int a2), (3, .int a3)] d_X3_variables_7 hnn (by decide) rfl ?_
  refine g_aload_n hF d_X3_variables_9 rfl 3 rfl ?_
  refine g_get (v := .ref (r 2)) hF 0 obC_3 (by decide) m_94 rfl d_X3_variables_10 ?_
  refine g_getN (v := .int (σ 2 4)) hF 4 obC_2 (by decide) nm_47 rfl d_X3_variables_13 ?_
  refine g_istore hF [(7, .int (σ 2 4)), (6, .int 1), (5, .int a2), (4, .int a1), (0, .ref (r 3)), (1, .int a1), (2, .int a2), (3, .int a3)] d_X3_variables_16 hnn (by decide) rfl ?_
  obtain ⟨L18, ⟨i18, u18⟩, h18⟩ := w
  have b18 : ∀ (n18 : Nat) (x4_18 : Int32) (x5_18 : Int32) (x6_18 : Int32) (x7_18 : Int32) (s18 : St), x6_18 = 0 ∨ x6_18 = 1 → L18 n18 x4_18 x5_18 x6_18 x7_18 s18 → G SC r X s18 Z0 [] [(0, .ref (r 3)), (3, .int a3), (4, .int x4_18), (5, .int x5_18), (6, .int x6_18), (7, .int x7_18)] [] 18 := by
    intro n18
    induction n18 using Nat.strongRecOn with
    | _ n18 ih18 =>
      intro x4_18 x5_18 x6_18 x7_18 s18 hx6_18 w18_
      have w18_ := h18 n18 x4_18 x5_18 x6_18 x7_18 s18 hx6_18 w18_
      refine g_iload hF d_X3_variables_18 5 rfl ?_
      obtain ⟨J135, h135, w1⟩ := w18_
      have b135 : J135  → G SC r X s18 Z0 [] [(0, .ref (r 3))] [] 135 := by
        intro   w135_
        have w135_ := h135   w135_
        refine g_aload_n hF d_X3_variables_135 rfl 0 rfl ?_
        refine g_bipush hF (v := 27) d_X3_variables_136 (by decide) ?_
        refine g_callV (As := [.int 27]) (rest := []) hF (fun l D cy => kt_X3_expect a r w135_ l D cy) (Nat.le_of_ble_eq_true rfl) mV_X3_expect m_903 (recv_ob obC_3) rfl rfl (Nat.le_of_ble_eq_true rfl) d_X3_variables_138 (qV (fun s138 w2 => ?_)) (fun _ _ _ h => h.elim)
        exact g_vret hF rfl d_X3_variables_141 ⟨rfl, rfl, rfl, w2⟩
      refine g_if_le hF 135 d_X3_variables_20 (by decide) rfl (fun c => ?_) (fun c => ?_)
      · have w3 := w1.1 c
        exact g_sub (L' := [(0, .ref (r 3))]) [0] rfl (b135  w3)
      · have w4 := w1.2 c
        refine g_iload hF d_X3_variables_23 4 rfl ?_
        refine g_if_eq hF 135 d_X3_variables_25 (by decide) rfl (fun c => ?_) (fun c => ?_)
        · have w5 := w4.1 c
          exact g_sub (L' := [(0, .ref (r 3))]) [0] rfl (b135  w5)
        · have w6 := w4.2 c
          refine g_aload_n hF d_X3_variables_28 rfl 0 rfl ?_
          refine g_get (v := .int (s18 3 2)) hF 2 obC_3 (by decide) m_96 rfl d_X3_variables_29 ?_
          refine g_bipush hF (v := 24) d_X3_variables_32 (by decide) ?_
          obtain ⟨J45, h45, w7⟩ := w6
          have b45 : ∀ (y0_45 : Int32) (s45 : St), J45 y0_45 s45 → G SC r X s45 Z0 [] [(0, .ref (r 3)), (3, .int a3), (4, .int x4_18), (5, .int x5_18), (7, .int x7_18)] [.int y0_45] 45 := by
            intro y0_45 s45  w45_
            have w45_ := h45 y0_45 s45  w45_
            refine g_istore hF [(8, .int y0_45), (0, .ref (r 3)), (3, .int a3), (4, .int x4_18), (5, .int x5_18), (7, .int x7_18)] d_X3_variables_45 hnn (by decide) rfl ?_
            refine g_aload_n hF d_X3_variables_47 rfl 1 rfl ?_
            refine g_get (v := .int (s45 3 2)) hF 2 obC_3 (by decide) m_96 rfl d_X3_variables_48 ?_
            refine g_bipush hF (v := 30) d_X3_variables_51 (by decide) ?_
            obtain ⟨J61, h61, w8⟩ := w45_
            have b61 : ∀ (y0_61 : Int32), y0_61 = 0 ∨ y0_61 = 1 → J61 y0_61 → G SC r X s45 Z0 [] [(0, .ref (r 3)), (3, .int a3), (4, .int x4_18), (5, .int x5_18), (7, .int x7_18), (8, .int y0_45)] [.int y0_61] 61 := by
              intro y0_61 hy0_61 w61_
              have w61_ := h61 y0_61 hy0_61 w61_
              refine g_istore hF [(9, .int y0_61), (0, .ref (r 3)), (3, .int a3), (4, .int x4_18), (5, .int x5_18), (7, .int x7_18), (8, .int y0_45)] d_X3_variables_61 hnn (by decide) rfl ?_
              refine g_aload_n hF d_X3_variables_63 rfl 1 rfl ?_
              refine g_bipush hF (v := 43) d_X3_variables_64 (by decide) ?_
              refine g_iload hF d_X3_variables_66 3 rfl ?_
              refine g_iload hF d_X3_variables_68 4 rfl ?_
              refine g_iload hF d_X3_variables_70 0 rfl ?_
              obtain ⟨J82, h82, w9⟩ := w61_
              have b82 : ∀ (y4_82 : Int32), J82 y4_82 → G SC r X s45 Z0 [] [(0, .ref (r 3)), (3, .int a3), (4, .int x4_18), (5, .int x5_18), (7, .int x7_18), (8, .int y0_45), (9, .int y0_61)] [.int y4_82, .int x5_18, .int x4_18, .int 43, .ref (r 3)] 82 := by
                intro y4_82  w82_
                have w82_ := h82 y4_82  w82_
                refine g_callV (As := [.int 43, .int x4_18, .int x5_18, .int y4_82]) (rest := []) hF (fun l D cy => kt_X3_add a r w82_ l D cy) (Nat.le_of_ble_eq_true rfl) mV_X3_add m_923 (recv_ob obC_3) rfl rfl (Nat.le_of_ble_eq_true rfl) d_X3_variables_82 (qI (fun v82 s82 w10 => ?_)) (fun _ _ _ h => h.elim)
                refine g_pop hF d_X3_variables_85 rfl ?_
                refine g_iload hF d_X3_variables_86 6 rfl ?_
                obtain ⟨J99, h99, w11⟩ := w10
                have b99 : ∀ (s99 : St), J99 s99 → G SC r X s99 Z0 [] [(0, .ref (r 3)), (3, .int a3), (4, .int x4_18), (5, .int x5_18), (7, .int x7_18)] [] 99 := by
                  intro s99  w99_
                  have w99_ := h99 s99  w99_
                  refine g_aload_n hF d_X3_variables_99 rfl 0 rfl ?_
                  refine g_bipush hF (v := 26) d_X3_variables_100 (by decide) ?_
                  refine g_callV (As := [.int 26]) (rest := []) hF (fun l D cy => kt_X3_accept a r w99_ l D cy) (Nat.le_of_ble_eq_true rfl) mV_X3_accept m_966 (recv_ob obC_3) rfl rfl (Nat.le_of_ble_eq_true rfl) d_X3_variables_102 (qZ (fun v102 s102 hz102 w12 => ?_)) (fun _ _ _ h => h.elim)
                  refine g_istore hF [(6, .int v102), (0, .ref (r 3)), (3, .int a3), (4, .int x4_18), (5, .int x5_18), (7, .int x7_18)] d_X3_variables_105 hnn (by decide) rfl ?_
                  refine g_iload hF d_X3_variables_107 0 rfl ?_
                  obtain ⟨J129, h129, w13⟩ := w12
                  have b129 : ∀ (x4_129 : Int32) (x5_129 : Int32) (s129 : St), J129 x4_129 x5_129 s129 → G SC r X s129 Z0 [] [(0, .ref (r 3)), (3, .int a3), (4, .int x4_129), (5, .int x5_129), (6, .int v102), (7, .int x7_18)] [] 129 := by
                    intro x4_129 x5_129 s129  w129_
                    have w129_ := h129 x4_129 x5_129 s129  w129_
                    refine g_iinc hF (x7_18 + (-1)) [(7, .int (x7_18 + (-1))), (0, .ref (r 3)), (3, .int a3), (4, .int x4_129), (5, .int x5_129), (6, .int v102)] d_X3_variables_129 5 rfl rfl hnn (by decide) rfl ?_
                    refine g_goto hF 18 d_X3_variables_132 (by decide) ?_
                    obtain ⟨m18, hm18, w9⟩ := w129_
                    exact g_sub (L' := [(0, .ref (r 3)), (3, .int a3), (4, .int x4_129), (5, .int x5_129), (6, .int v102), (7, .int (x7_18 + (-1)))]) [1, 2, 3, 4, 5, 0] rfl (ih18 m18 hm18 x4_129 x5_129 v102 (x7_18 + (-1)) s129 hz102 w9)
                  refine g_if_eq hF 129 d_X3_variables_109 (by decide) rfl (fun c => ?_) (fun c => ?_)
                  · have w14 := w13.1 c
                    exact g_sub (L' := [(0, .ref (r 3)), (3, .int a3), (4, .int x4_18), (5, .int x5_18), (6, .int v102), (7, .int x7_18)]) [1, 2, 3, 4, 0, 5] rfl (b129 x4_18 x5_18 s102 w14)
                  · have w15 := w13.2 c
                    refine g_aload_n hF d_X3_variables_112 rfl 1 rfl ?_
                    refine g_callV (As := []) (rest := []) hF (fun l D cy => kt_X3_stars a r w15 l D cy) (Nat.le_of_ble_eq_true rfl) mV_X3_stars m_911 (recv_ob obC_3) rfl rfl (Nat.le_of_ble_eq_true rfl) d_X3_variables_113 (qI (fun v113 s113 w16 => ?_)) (fun _ _ _ h => h.elim)
                    refine g_istore hF [(5, .int v113), (6, .int v102), (0, .ref (r 3)), (3, .int a3), (4, .int x4_18), (7, .int x7_18)] d_X3_variables_116 hnn (by decide) rfl ?_
                    refine g_aload_n hF d_X3_variables_118 rfl 2 rfl ?_
                    refine g_get (v := .int (s113 3 1)) hF 1 obC_3 (by decide) m_95 rfl d_X3_variables_119 ?_
                    refine g_istore hF [(4, .int (s113 3 1)), (5, .int v113), (6, .int v102), (0, .ref (r 3)), (3, .int a3), (7, .int x7_18)] d_X3_variables_122 hnn (by decide) rfl ?_
                    refine g_aload_n hF d_X3_variables_124 rfl 3 rfl ?_
                    refine g_iconst hF (v := 2) d_X3_variables_125 (by decide) ?_
                    refine g_callV (As := [.int 2]) (rest := []) hF (fun l D cy => kt_X3_expect a r w16 l D cy) (Nat.le_of_ble_eq_true rfl) mV_X3_expect m_903 (recv_ob obC_3) rfl rfl (Nat.le_of_ble_eq_true rfl) d_X3_variables_126 (qV (fun s126 w17 => ?_)) (fun _ _ _ h => h.elim)
                    exact g_sub (L' := [(0, .ref (r 3)), (3, .int a3), (4, .int (s113 3 1)), (5, .int v113), (6, .int v102), (7, .int x7_18)]) [3, 4, 0, 1, 2, 5] rfl (b129 (s113 3 1) v113 s126 w17)
                refine g_if_eq hF 99 d_X3_variables_88 (by decide) rfl (fun c => ?_) (fun c => ?_)
                · have w18 := w11.1 c
                  exact g_sub (L' := [(0, .ref (r 3)), (3, .int a3), (4, .int x4_18), (5, .int x5_18), (7, .int x7_18)]) [0, 1, 2, 3, 4] rfl (b99 s82 w18)
                · have w19 := w11.2 c
                  refine g_aload_n hF d_X3_variables_91 rfl 0 rfl ?_
                  refine g_iload hF d_X3_variables_92 5 rfl ?_
                  refine g_iload hF d_X3_variables_94 3 rfl ?_
                  refine g_callV (As := [.int y0_45, .int x5_18]) (rest := []) hF (fun l D cy => kt_X3_initial a r w19 l D cy) (Nat.le_of_ble_eq_true rfl) mV_X3_initial m_982 (recv_ob obC_3) rfl rfl (Nat.le_of_ble_eq_true rfl) d_X3_variables_96 (qV (fun s96 w20 => ?_)) (fun _ _ _ h => h.elim)
                  exact g_sub (L' := [(0, .ref (r 3)), (3, .int a3), (4, .int x4_18), (5, .int x5_18), (7, .int x7_18)]) [0, 1, 2, 3, 4] rfl (b99 s96 w20)
              refine g_if_eq hF 81 d_X3_variables_72 (by decide) rfl (fun c => ?_) (fun c => ?_)
              · have w21 := w9.1 c
                refine g_iload_n hF d_X3_variables_81 rfl 2 rfl ?_
                exact g_sub (L' := [(0, .ref (r 3)), (3, .int a3), (4, .int x4_18), (5, .int x5_18), (7, .int x7_18), (8, .int y0_45), (9, .int y0_61)]) [1, 2, 3, 4, 5, 6, 0] rfl (b82 a3 w21)
              · have w22 := w9.2 c
                refine g_iload_n hF d_X3_variables_75 rfl 2 rfl ?_
                refine g_iconst hF (v := 4) d_X3_variables_76 (by decide) ?_
                refine g_iadd hF d_X3_variables_77 ?_
                refine g_goto hF 82 d_X3_variables_78 (by decide) ?_
                exact g_sub (L' := [(0, .ref (r 3)), (3, .int a3), (4, .int x4_18), (5, .int x5_18), (7, .int x7_18), (8, .int y0_45), (9, .int y0_61)]) [1, 2, 3, 4, 5, 6, 0] rfl (b82 (a3 + (4 : Int32)) w22)
            refine g_icmp_ne (yv := 30) hF 60 d_X3_variables_53 (by decide) rfl (by decide) (fun c => ?_) (fun c => ?_)
            · have w23 := w8.1 c
              refine g_iconst hF (v := 0) d_X3_variables_60 (by decide) ?_
              exact g_sub (L' := [(0, .ref (r 3)), (3, .int a3), (4, .int x4_18), (5, .int x5_18), (7, .int x7_18), (8, .int y0_45)]) [1, 2, 3, 4, 5, 0] rfl (b61 (0 : Int32) (Or.inl rfl) w23)
            · have w24 := w8.2 c
              refine g_iconst hF (v := 1) d_X3_variables_56 (by decide) ?_
              refine g_goto hF 61 d_X3_variables_57 (by decide) ?_
              exact g_sub (L' := [(0, .ref (r 3)), (3, .int a3), (4, .int x4_18), (5, .int x5_18), (7, .int x7_18), (8, .int y0_45)]) [1, 2, 3, 4, 5, 0] rfl (b61 (1 : Int32) (Or.inr rfl) w24)
          refine g_icmp_ne (yv := 24) hF 44 d_X3_variables_34 (by decide) rfl (by decide) (fun c => ?_) (fun c => ?_)
          · have w25 := w7.1 c
            refine g_iconst hF (v := (-1)) d_X3_variables_44 (by decide) ?_
            exact g_sub (L' := [(0, .ref (r 3)), (3, .int a3), (4, .int x4_18), (5, .int x5_18), (7, .int x7_18)]) [0, 1, 2, 3, 5] rfl (b45 ((-1) : Int32) s18 w25)
          · have w26 := w7.2 c
            refine g_aload_n hF d_X3_variables_37 rfl 0 rfl ?_
            refine g_callV (As := []) (rest := []) hF (fun l D cy => kt_X3_bracket a r w26 l D cy) (Nat.le_of_ble_eq_true rfl) mV_X3_bracket m_919 (recv_ob obC_3) rfl rfl (Nat.le_of_ble_eq_true rfl) d_X3_variables_38 (qI (fun v38 s38 w27 => ?_)) (fun _ _ _ h => h.elim)
            refine g_goto hF 45 d_X3_variables_41 (by decide) ?_
            exact g_sub (L' := [(0, .ref (r 3)), (3, .int a3), (4, .int x4_18), (5, .int x5_18), (7, .int x7_18)]) [0, 1, 2, 3, 5] rfl (b45 v38 s38 w27)
  exact g_sub (L' := [(0, .ref (r 3)), (3, .int a3), (4, .int a1), (5, .int a2), (6, .int 1), (7, .int (σ 2 4))]) [4, 7, 3, 2, 1, 0] rfl (b18 i18 a1 a2 (1 : Int32) (σ 2 4) σ (Or.inr rfl) u18)
set_option maxHeartbeats 4000000 in
set_option maxRecDepth 100000 in
theorem kt_X3_statement (a : Nat → Nat) (r : Nat → Nat) (dK : Nat) (hdK : 245 ≤ dK) (Kbody : Int32 → St → (St → Prop) → Prop) (Kconditional : Int32 → St → (St → Prop) → Prop) (Kloop : Int32 → St → (St → Prop) → Prop) (Kstatement : Int32 → St → (St → Prop) → Prop) (Kstatements : Int32 → St → (St → Prop) → Prop) (hKconditional : ∀ {a1 : Int32} {σ : St} {Q : St → Prop}, Kconditional a1 σ Q → ∀ (l : Launch) (D : va_G) (cy : Nat → ClassId), Ct l D cy SC r (EC a gC) y_X3_conditional (Cond.code y_X3_conditional b_X3_conditional 3 none) dK [.ref (r 3), .int a1] σ Z0 [] (QV Q) QT0) (hKloop : ∀ {a1 : Int32} {σ : St} {Q : St → Prop}, Kloop a1 σ Q → ∀ (l : Launch) (D : va_G) (cy : Nat → ClassId), Ct l D cy SC r (EC a gC) y_X3_loop (Cond.code y_X3_loop b_X3_loop 5 none) dK [.ref (r 3), .int a1] σ Z0 [] (QV Q) QT0) (hKstatements : ∀ {a1 : Int32} {σ : St} {Q : St → Prop}, Kstatements a1 σ Q → ∀ (l : Launch) (D : va_G) (cy : Nat → ClassId), Ct l D cy SC r (EC a gC) y_X3_statements (Cond.code y_X3_statements b_X3_statements 3 none) dK [.ref (r 3), .int a1] σ Z0 [] (QV Q) QT0) {a1 : Int32} {σ : St} {Q : St → Prop} (w : wk_X3_statement Kbody Kconditional Kloop Kstatement Kstatements a1 σ Q) (l : Launch) (D : va_G) (cy : Nat → ClassId) : Ct l D cy SC r (EC a gC) y_X3_statement (Cond.code y_X3_statement b_X3_statement 5 none) (dK + 1) [.ref (r 3), .int a1] σ Z0 [] (QV Q) QT0 := by
  unfold wk_X3_statement at w
  refine Ct_of (EC_ok a gC) (by decide) (Nat.le_of_ble_eq_true rfl) (by decide) (fun X hnn hF => ?_)
  show G SC r X σ Z0 [] [(0, .ref (r 3)), (1, .int a1)] [] 0
  refine g_iload_n hF d_X3_statement_0 rfl 1 rfl ?_
  refine g_bipush hF (v := 25) d_X3_statement_1 (by decide) ?_
  refine g_icmp_le (yv := 25) hF 11 d_X3_statement_3 (by decide) rfl (by decide) (fun c => ?_) (fun c => ?_)
  · have w1 := w.1 c
    refine g_aload_n hF d_X3_statement_11 rfl 0 rfl ?_
    refine g_get (v := .int (σ 3 1)) hF 1 obC_3 (by decide) m_95 rfl d_X3_statement_12 ?_
    refine g_istore_n hF [(2, .int (σ 3 1)), (0, .ref (r 3)), (1, .int a1)] d_X3_statement_15 rfl hnn (by decide) rfl ?_
    refine g_aload_n hF d_X3_statement_16 rfl 1 rfl ?_
    refine g_get (v := .int (σ 3 2)) hF 2 obC_3 (by decide) m_96 rfl d_X3_statement_17 ?_
    obtain ⟨J212, h212, w2⟩ := w1
    have b212 : J212  → G SC r X σ Z0 [] [(0, .ref (r 3))] [] 212 := by
      intro   w212_
      have w212_ := h212   w212_
      refine g_aload_n hF d_X3_statement_212 rfl 0 rfl ?_
      refine g_callV (As := []) (rest := []) hF (fun l D cy => kt_X3_simple a r w212_ l D cy) (Nat.add_le_add_right (Nat.le_trans (Nat.le_of_ble_eq_true rfl) hdK) 1) mV_X3_simple m_1032 (recv_ob obC_3) rfl rfl (Nat.le_of_ble_eq_true rfl) d_X3_statement_213 (qV (fun s213 w3 => ?_)) (fun _ _ _ h => h.elim)
      exact g_vret hF rfl d_X3_statement_216 ⟨rfl, rfl, rfl, w3⟩
    obtain ⟨J204, h204, w4⟩ := w2
    have b204 : J204  → G SC r X σ Z0 [] [(0, .ref (r 3)), (1, .int a1)] [] 204 := by
      intro   w204_
      have w204_ := h204   w204_
      refine g_aload_n hF d_X3_statement_204 rfl 0 rfl ?_
      refine g_iload_n hF d_X3_statement_205 rfl 1 rfl ?_
      refine g_callV (As := [.int a1]) (rest := []) hF (fun l D cy => hKloop w204_ l D cy) (Nat.le_refl _) mV_X3_loop m_1024 (recv_ob obC_3) rfl rfl (Nat.le_of_ble_eq_true rfl) d_X3_statement_206 (qV (fun s206 w5 => ?_)) (fun _ _ _ h => h.elim)
      refine g_goto hF 216 d_X3_statement_209 (by decide) ?_
      exact g_vret hF rfl d_X3_statement_216 ⟨rfl, rfl, rfl, w5⟩
    refine (Decidable.em ((σ 3 2).toInt = 5)).elim (fun q20_0 => ?_) (fun q20_0 => ?_)
    · have w6 := w4.1 q20_0
      refine g_tableIn (off := 145) hF 165 d_X3_statement_20 q20_0 (by decide) (by decide) (by decide +kernel) (by decide) ?_
      refine g_aload_n hF d_X3_statement_165 rfl 1 rfl ?_
      refine g_callV (As := []) (rest := []) hF (fun l D cy => kt_X3_advance a r w6 l D cy) (Nat.add_le_add_right (Nat.le_trans (Nat.le_of_ble_eq_true rfl) hdK) 1) mV_X3_advance m_899 (recv_ob obC_3) rfl rfl (Nat.le_of_ble_eq_true rfl) d_X3_statement_166 (qV (fun s166 w7 => ?_)) (fun _ _ _ h => h.elim)
      refine g_aload_n hF d_X3_statement_169 rfl 1 rfl ?_
      refine g_callV (As := []) (rest := []) hF (fun l D cy => kt_X3_stars a r w7 l D cy) (Nat.add_le_add_right (Nat.le_trans (Nat.le_of_ble_eq_true rfl) hdK) 1) mV_X3_stars m_911 (recv_ob obC_3) rfl rfl (Nat.le_of_ble_eq_true rfl) d_X3_statement_170 (qI (fun v170 s170 w8 => ?_)) (fun _ _ _ h => h.elim)
      refine g_istore_n hF [(3, .int v170), (2, .int (σ 3 1)), (0, .ref (r 3)), (1, .int a1)] d_X3_statement_173 rfl hnn (by decide) rfl ?_
      refine g_aload_n hF d_X3_statement_174 rfl 2 rfl ?_
      refine g_get (v := .int (s170 3 1)) hF 1 obC_3 (by decide) m_95 rfl d_X3_statement_175 ?_
      refine g_istore hF [(4, .int (s170 3 1)), (3, .int v170), (2, .int (σ 3 1)), (0, .ref (r 3)), (1, .int a1)] d_X3_statement_178 hnn (by decide) rfl ?_
      refine g_aload_n hF d_X3_statement_180 rfl 3 rfl ?_
      refine g_iconst hF (v := 2) d_X3_statement_181 (by decide) ?_
      refine g_callV (As := [.int 2]) (rest := []) hF (fun l D cy => kt_X3_expect a r w8 l D cy) (Nat.add_le_add_right (Nat.le_trans (Nat.le_of_ble_eq_true rfl) hdK) 1) mV_X3_expect m_903 (recv_ob obC_3) rfl rfl (Nat.le_of_ble_eq_true rfl) d_X3_statement_182 (qV (fun s182 w9 => ?_)) (fun _ _ _ h => h.elim)
      refine g_aload_n hF d_X3_statement_185 rfl 3 rfl ?_
      refine g_iload hF d_X3_statement_186 0 rfl ?_
      refine g_iload_n hF d_X3_statement_188 rfl 1 rfl ?_
      refine g_iconst hF (v := 0) d_X3_statement_189 (by decide) ?_
      refine g_callV (As := [.int (s170 3 1), .int v170, .int 0]) (rest := []) hF (fun l D cy => kt_X3_variables a r w9 l D cy) (Nat.add_le_add_right (Nat.le_trans (Nat.le_of_ble_eq_true rfl) hdK) 1) mV_X3_variables m_915 (recv_ob obC_3) rfl rfl (Nat.le_of_ble_eq_true rfl) d_X3_statement_190 (qV (fun s190 w10 => ?_)) (fun _ _ _ h => h.elim)
      refine g_goto hF 216 d_X3_statement_193 (by decide) ?_
      exact g_vret hF rfl d_X3_statement_216 ⟨rfl, rfl, rfl, w10⟩
    have w11 := w4.2 q20_0
    refine (Decidable.em ((σ 3 2).toInt = 6)).elim (fun q20_1 => ?_) (fun q20_1 => ?_)
    · have w12 := w11.1 q20_1
      refine g_tableIn (off := 192) hF 212 d_X3_statement_20 q20_1 (by decide) (by decide) (by decide +kernel) (by decide) ?_
      exact g_sub (L' := [(0, .ref (r 3))]) [1] rfl (b212  w12)
    have w13 := w11.2 q20_1
    refine (Decidable.em ((σ 3 2).toInt = 7)).elim (fun q20_2 => ?_) (fun q20_2 => ?_)
    · have w14 := w13.1 q20_2
      refine g_tableIn (off := 192) hF 212 d_X3_statement_20 q20_2 (by decide) (by decide) (by decide +kernel) (by decide) ?_
      exact g_sub (L' := [(0, .ref (r 3))]) [1] rfl (b212  w14)
    have w15 := w13.2 q20_2
    refine (Decidable.em ((σ 3 2).toInt = 8)).elim (fun q20_3 => ?_) (fun q20_3 => ?_)
    · have w16 := w15.1 q20_3
      refine g_tableIn (off := 192) hF 212 d_X3_statement_20 q20_3 (by decide) (by decide) (by decide +kernel) (by decide) ?_
      exact g_sub (L' := [(0, .ref (r 3))]) [1] rfl (b212  w16)
    have w17 := w15.2 q20_3
    refine (Decidable.em ((σ 3 2).toInt = 9)).elim (fun q20_4 => ?_) (fun q20_4 => ?_)
    · have w18 := w17.1 q20_4
      refine g_tableIn (off := 176) hF 196 d_X3_statement_20 q20_4 (by decide) (by decide) (by decide +kernel) (by decide) ?_
      refine g_aload_n hF d_X3_statement_196 rfl 1 rfl ?_
      refine g_iload_n hF d_X3_statement_197 rfl 2 rfl ?_
      refine g_callV (As := [.int a1]) (rest := []) hF (fun l D cy => hKconditional w18 l D cy) (Nat.le_refl _) mV_X3_conditional m_1012 (recv_ob obC_3) rfl rfl (Nat.le_of_ble_eq_true rfl) d_X3_statement_198 (qV (fun s198 w19 => ?_)) (fun _ _ _ h => h.elim)
      refine g_goto hF 216 d_X3_statement_201 (by decide) ?_
      exact g_vret hF rfl d_X3_statement_216 ⟨rfl, rfl, rfl, w19⟩
    have w20 := w17.2 q20_4
    refine (Decidable.em ((σ 3 2).toInt = 10)).elim (fun q20_5 => ?_) (fun q20_5 => ?_)
    · have w21 := w20.1 q20_5
      refine g_tableIn (off := 192) hF 212 d_X3_statement_20 q20_5 (by decide) (by decide) (by decide +kernel) (by decide) ?_
      exact g_sub (L' := [(0, .ref (r 3))]) [1] rfl (b212  w21)
    have w22 := w20.2 q20_5
    refine (Decidable.em ((σ 3 2).toInt = 11)).elim (fun q20_6 => ?_) (fun q20_6 => ?_)
    · have w23 := w22.1 q20_6
      refine g_tableIn (off := 184) hF 204 d_X3_statement_20 q20_6 (by decide) (by decide) (by decide +kernel) (by decide) ?_
      exact g_sub (L' := [(0, .ref (r 3)), (1, .int a1)]) [1, 2] rfl (b204  w23)
    have w24 := w22.2 q20_6
    refine (Decidable.em ((σ 3 2).toInt = 12)).elim (fun q20_7 => ?_) (fun q20_7 => ?_)
    · have w25 := w24.1 q20_7
      refine g_tableIn (off := 184) hF 204 d_X3_statement_20 q20_7 (by decide) (by decide) (by decide +kernel) (by decide) ?_
      exact g_sub (L' := [(0, .ref (r 3)), (1, .int a1)]) [1, 2] rfl (b204  w25)
    have w26 := w24.2 q20_7
    refine (Decidable.em ((σ 3 2).toInt = 13)).elim (fun q20_8 => ?_) (fun q20_8 => ?_)
    · have w27 := w26.1 q20_8
      refine g_tableIn (off := 184) hF 204 d_X3_statement_20 q20_8 (by decide) (by decide) (by decide +kernel) (by decide) ?_
      exact g_sub (L' := [(0, .ref (r 3)), (1, .int a1)]) [1, 2] rfl (b204  w27)
    have w28 := w26.2 q20_8
    refine (Decidable.em ((σ 3 2).toInt = 14)).elim (fun q20_9 => ?_) (fun q20_9 => ?_)
    · have w29 := w28.1 q20_9
      refine g_tableIn (off := 192) hF 212 d_X3_statement_20 q20_9 (by decide) (by decide) (by decide +kernel) (by decide) ?_
      exact g_sub (L' := [(0, .ref (r 3))]) [1] rfl (b212  w29)
    have w30 := w28.2 q20_9
    refine (Decidable.em ((σ 3 2).toInt = 15)).elim (fun q20_10 => ?_) (fun q20_10 => ?_)
    · have w31 := w30.1 q20_10
      refine g_tableIn (off := 192) hF 212 d_X3_statement_20 q20_10 (by decide) (by decide) (by decide +kernel) (by decide) ?_
      exact g_sub (L' := [(0, .ref (r 3))]) [1] rfl (b212  w31)
    have w32 := w30.2 q20_10
    refine (Decidable.em ((σ 3 2).toInt = 16)).elim (fun q20_11 => ?_) (fun q20_11 => ?_)
    · have w33 := w32.1 q20_11
      refine g_tableIn (off := 192) hF 212 d_X3_statement_20 q20_11 (by decide) (by decide) (by decide +kernel) (by decide) ?_
      exact g_sub (L' := [(0, .ref (r 3))]) [1] rfl (b212  w33)
    have w34 := w32.2 q20_11
    refine (Decidable.em ((σ 3 2).toInt = 17)).elim (fun q20_12 => ?_) (fun q20_12 => ?_)
    · have w35 := w34.1 q20_12
      refine g_tableIn (off := 192) hF 212 d_X3_statement_20 q20_12 (by decide) (by decide) (by decide +kernel) (by decide) ?_
      exact g_sub (L' := [(0, .ref (r 3))]) [1] rfl (b212  w35)
    have w36 := w34.2 q20_12
    refine (Decidable.em ((σ 3 2).toInt = 18)).elim (fun q20_13 => ?_) (fun q20_13 => ?_)
    · have w37 := w36.1 q20_13
      refine g_tableIn (off := 192) hF 212 d_X3_statement_20 q20_13 (by decide) (by decide) (by decide +kernel) (by decide) ?_
      exact g_sub (L' := [(0, .ref (r 3))]) [1] rfl (b212  w37)
    have w38 := w36.2 q20_13
    refine (Decidable.em ((σ 3 2).toInt = 19)).elim (fun q20_14 => ?_) (fun q20_14 => ?_)
    · have w39 := w38.1 q20_14
      refine g_tableIn (off := 192) hF 212 d_X3_statement_20 q20_14 (by decide) (by decide) (by decide +kernel) (by decide) ?_
      exact g_sub (L' := [(0, .ref (r 3))]) [1] rfl (b212  w39)
    have w40 := w38.2 q20_14
    refine (Decidable.em ((σ 3 2).toInt = 20)).elim (fun q20_15 => ?_) (fun q20_15 => ?_)
    · have w41 := w40.1 q20_15
      refine g_tableIn (off := 192) hF 212 d_X3_statement_20 q20_15 (by decide) (by decide) (by decide +kernel) (by decide) ?_
      exact g_sub (L' := [(0, .ref (r 3))]) [1] rfl (b212  w41)
    have w42 := w40.2 q20_15
    refine (Decidable.em ((σ 3 2).toInt = 21)).elim (fun q20_16 => ?_) (fun q20_16 => ?_)
    · have w43 := w42.1 q20_16
      refine g_tableIn (off := 192) hF 212 d_X3_statement_20 q20_16 (by decide) (by decide) (by decide +kernel) (by decide) ?_
      exact g_sub (L' := [(0, .ref (r 3))]) [1] rfl (b212  w43)
    have w44 := w42.2 q20_16
    refine (Decidable.em ((σ 3 2).toInt = 22)).elim (fun q20_17 => ?_) (fun q20_17 => ?_)
    · have w45 := w44.1 q20_17
      refine g_tableIn (off := 108) hF 128 d_X3_statement_20 q20_17 (by decide) (by decide) (by decide +kernel) (by decide) ?_
      refine g_aload_n hF d_X3_statement_128 rfl 1 rfl ?_
      refine g_bipush hF (v := 20) d_X3_statement_129 (by decide) ?_
      refine g_iload_n hF d_X3_statement_131 rfl 0 rfl ?_
      refine g_iconst hF (v := 0) d_X3_statement_132 (by decide) ?_
      refine g_iconst hF (v := 0) d_X3_statement_133 (by decide) ?_
      refine g_callV (As := [.int 20, .int (σ 3 1), .int 0, .int 0]) (rest := []) hF (fun l D cy => kt_X3_add a r w45 l D cy) (Nat.add_le_add_right (Nat.le_trans (Nat.le_of_ble_eq_true rfl) hdK) 1) mV_X3_add m_923 (recv_ob obC_3) rfl rfl (Nat.le_of_ble_eq_true rfl) d_X3_statement_134 (qI (fun v134 s134 w46 => ?_)) (fun _ _ _ h => h.elim)
      refine g_pop hF d_X3_statement_137 rfl ?_
      refine g_aload_n hF d_X3_statement_138 rfl 1 rfl ?_
      refine g_iload_n hF d_X3_statement_139 rfl 2 rfl ?_
      refine g_iconst hF (v := 1) d_X3_statement_140 (by decide) ?_
      refine g_iadd hF d_X3_statement_141 ?_
      refine g_callV (As := [.int (a1 + (1 : Int32))]) (rest := []) hF (fun l D cy => hKstatements w46 l D cy) (Nat.le_refl _) mV_X3_statements m_1004 (recv_ob obC_3) rfl rfl (Nat.le_of_ble_eq_true rfl) d_X3_statement_142 (qV (fun s142 w47 => ?_)) (fun _ _ _ h => h.elim)
      refine g_aload_n hF d_X3_statement_145 rfl 1 rfl ?_
      refine g_bipush hF (v := 21) d_X3_statement_146 (by decide) ?_
      refine g_iload_n hF d_X3_statement_148 rfl 0 rfl ?_
      refine g_iconst hF (v := 0) d_X3_statement_149 (by decide) ?_
      refine g_iconst hF (v := 0) d_X3_statement_150 (by decide) ?_
      refine g_callV (As := [.int 21, .int (σ 3 1), .int 0, .int 0]) (rest := []) hF (fun l D cy => kt_X3_add a r w47 l D cy) (Nat.add_le_add_right (Nat.le_trans (Nat.le_of_ble_eq_true rfl) hdK) 1) mV_X3_add m_923 (recv_ob obC_3) rfl rfl (Nat.le_of_ble_eq_true rfl) d_X3_statement_151 (qI (fun v151 s151 w48 => ?_)) (fun _ _ _ h => h.elim)
      refine g_pop hF d_X3_statement_154 rfl ?_
      refine g_goto hF 216 d_X3_statement_155 (by decide) ?_
      exact g_vret hF rfl d_X3_statement_216 ⟨rfl, rfl, rfl, w48⟩
    have w49 := w44.2 q20_17
    refine (Decidable.em ((σ 3 2).toInt = 23)).elim (fun q20_18 => ?_) (fun q20_18 => ?_)
    · have w50 := w49.1 q20_18
      refine g_tableIn (off := 192) hF 212 d_X3_statement_20 q20_18 (by decide) (by decide) (by decide +kernel) (by decide) ?_
      exact g_sub (L' := [(0, .ref (r 3))]) [1] rfl (b212  w50)
    have w51 := w49.2 q20_18
    refine (Decidable.em ((σ 3 2).toInt = 24)).elim (fun q20_19 => ?_) (fun q20_19 => ?_)
    · have w52 := w51.1 q20_19
      refine g_tableIn (off := 192) hF 212 d_X3_statement_20 q20_19 (by decide) (by decide) (by decide +kernel) (by decide) ?_
      exact g_sub (L' := [(0, .ref (r 3))]) [1] rfl (b212  w52)
    have w53 := w51.2 q20_19
    refine (Decidable.em ((σ 3 2).toInt = 25)).elim (fun q20_20 => ?_) (fun q20_20 => ?_)
    · have w54 := w53.1 q20_20
      refine g_tableIn (off := 192) hF 212 d_X3_statement_20 q20_20 (by decide) (by decide) (by decide +kernel) (by decide) ?_
      exact g_sub (L' := [(0, .ref (r 3))]) [1] rfl (b212  w54)
    have w55 := w53.2 q20_20
    refine (Decidable.em ((σ 3 2).toInt = 26)).elim (fun q20_21 => ?_) (fun q20_21 => ?_)
    · have w56 := w55.1 q20_21
      refine g_tableIn (off := 192) hF 212 d_X3_statement_20 q20_21 (by decide) (by decide) (by decide +kernel) (by decide) ?_
      exact g_sub (L' := [(0, .ref (r 3))]) [1] rfl (b212  w56)
    have w57 := w55.2 q20_21
    refine (Decidable.em ((σ 3 2).toInt = 27)).elim (fun q20_22 => ?_) (fun q20_22 => ?_)
    · have w58 := w57.1 q20_22
      refine g_tableIn (off := 138) hF 158 d_X3_statement_20 q20_22 (by decide) (by decide) (by decide +kernel) (by decide) ?_
      refine g_aload_n hF d_X3_statement_158 rfl 1 rfl ?_
      refine g_callV (As := []) (rest := []) hF (fun l D cy => kt_X3_advance a r w58 l D cy) (Nat.add_le_add_right (Nat.le_trans (Nat.le_of_ble_eq_true rfl) hdK) 1) mV_X3_advance m_899 (recv_ob obC_3) rfl rfl (Nat.le_of_ble_eq_true rfl) d_X3_statement_159 (qV (fun s159 w59 => ?_)) (fun _ _ _ h => h.elim)
      refine g_goto hF 216 d_X3_statement_162 (by decide) ?_
      exact g_vret hF rfl d_X3_statement_216 ⟨rfl, rfl, rfl, w59⟩
    have w60 := w57.2 q20_22
    refine g_tableOut hF 212 d_X3_statement_20 rfl (tbo_5_27 q20_0 q20_1 q20_2 q20_3 q20_4 q20_5 q20_6 q20_7 q20_8 q20_9 q20_10 q20_11 q20_12 q20_13 q20_14 q20_15 q20_16 q20_17 q20_18 q20_19 q20_20 q20_21 q20_22) (by decide) ?_
    exact g_sub (L' := [(0, .ref (r 3))]) [1] rfl (b212  w60)
  · have w61 := w.2 c
    refine g_aload_n hF d_X3_statement_6 rfl 0 rfl ?_
    refine g_callV (As := []) (rest := []) hF (fun l D cy => kt_X3_fail a r w61 l D cy) (Nat.add_le_add_right (Nat.le_trans (Nat.le_of_ble_eq_true rfl) hdK) 1) mV_X3_fail m_907 (recv_ob obC_3) rfl rfl (Nat.le_of_ble_eq_true rfl) d_X3_statement_7 (qV (fun s7 w62 => ?_)) (fun _ _ _ h => h.elim)
    exact g_vret hF rfl d_X3_statement_10 ⟨rfl, rfl, rfl, w62⟩
set_option maxHeartbeats 4000000 in
set_option maxRecDepth 100000 in
theorem kt_X3_statements (a : Nat → Nat) (r : Nat → Nat) (dK : Nat) (hdK : 2 ≤ dK) (Kbody : Int32 → St → (St → Prop) → Prop) (Kconditional : Int32 → St → (St → Prop) → Prop) (Kloop : Int32 → St → (St → Prop) → Prop) (Kstatement : Int32 → St → (St → Prop) → Prop) (Kstatements : Int32 → St → (St → Prop) → Prop) (hKstatement : ∀ {a1 : Int32} {σ : St} {Q : St → Prop}, Kstatement a1 σ Q → ∀ (l : Launch) (D : va_G) (cy : Nat → ClassId), Ct l D cy SC r (EC a gC) y_X3_statement (Cond.code y_X3_statement b_X3_statement 5 none) dK [.ref (r 3), .int a1] σ Z0 [] (QV Q) QT0) {a1 : Int32} {σ : St} {Q : St → Prop} (w : wk_X3_statements Kbody Kconditional Kloop Kstatement Kstatements a1 σ Q) (l : Launch) (D : va_G) (cy : Nat → ClassId) : Ct l D cy SC r (EC a gC) y_X3_statements (Cond.code y_X3_statements b_X3_statements 3 none) (dK + 1) [.ref (r 3), .int a1] σ Z0 [] (QV Q) QT0 := by
  unfold wk_X3_statements at w
  refine Ct_of (EC_ok a gC) (by decide) (Nat.le_of_ble_eq_true rfl) (by decide) (fun X hnn hF => ?_)
  show G SC r X σ Z0 [] [(0, .ref (r 3)), (1, .int a1)] [] 0
  refine g_aload_n hF d_X3_statements_0 rfl 0 rfl ?_
  refine g_bipush hF (v := 22) d_X3_statements_1 (by decide) ?_
  refine g_callV (As := [.int 22]) (rest := []) hF (fun l D cy => kt_X3_expect a r w l D cy) (Nat.add_le_add_right (Nat.le_trans (Nat.le_of_ble_eq_true rfl) hdK) 1) mV_X3_expect m_903 (recv_ob obC_3) rfl rfl (Nat.le_of_ble_eq_true rfl) d_X3_statements_3 (qV (fun s3 w1 => ?_)) (fun _ _ _ h => h.elim)
  refine g_aload_n hF d_X3_statements_6 rfl 0 rfl ?_
  refine g_get (v := .ref (r 2)) hF 0 obC_3 (by decide) m_94 rfl d_X3_statements_7 ?_
  refine g_getN (v := .int (s3 2 4)) hF 4 obC_2 (by decide) nm_47 rfl d_X3_statements_10 ?_
  refine g_istore_n hF [(2, .int (s3 2 4)), (0, .ref (r 3)), (1, .int a1)] d_X3_statements_13 rfl hnn (by decide) rfl ?_
  obtain ⟨L14, ⟨i14, u14⟩, h14⟩ := w1
  have b14 : ∀ (n14 : Nat) (x2_14 : Int32) (s14 : St), L14 n14 x2_14 s14 → G SC r X s14 Z0 [] [(0, .ref (r 3)), (1, .int a1), (2, .int x2_14)] [] 14 := by
    intro n14
    induction n14 using Nat.strongRecOn with
    | _ n14 ih14 =>
      intro x2_14 s14  w14_
      have w14_ := h14 n14 x2_14 s14  w14_
      refine g_iload_n hF d_X3_statements_14 rfl 2 rfl ?_
      obtain ⟨J45, h45, w2⟩ := w14_
      have b45 : J45  → G SC r X s14 Z0 [] [(0, .ref (r 3))] [] 45 := by
        intro   w45_
        have w45_ := h45   w45_
        refine g_aload_n hF d_X3_statements_45 rfl 0 rfl ?_
        refine g_bipush hF (v := 23) d_X3_statements_46 (by decide) ?_
        refine g_callV (As := [.int 23]) (rest := []) hF (fun l D cy => kt_X3_expect a r w45_ l D cy) (Nat.add_le_add_right (Nat.le_trans (Nat.le_of_ble_eq_true rfl) hdK) 1) mV_X3_expect m_903 (recv_ob obC_3) rfl rfl (Nat.le_of_ble_eq_true rfl) d_X3_statements_48 (qV (fun s48 w3 => ?_)) (fun _ _ _ h => h.elim)
        exact g_vret hF rfl d_X3_statements_51 ⟨rfl, rfl, rfl, w3⟩
      refine g_if_le hF 45 d_X3_statements_15 (by decide) rfl (fun c => ?_) (fun c => ?_)
      · have w4 := w2.1 c
        exact g_sub (L' := [(0, .ref (r 3))]) [0] rfl (b45  w4)
      · have w5 := w2.2 c
        refine g_aload_n hF d_X3_statements_18 rfl 0 rfl ?_
        refine g_get (v := .int (s14 3 3)) hF 3 obC_3 (by decide) m_97 rfl d_X3_statements_19 ?_
        refine g_if_ge hF 45 d_X3_statements_22 (by decide) rfl (fun c => ?_) (fun c => ?_)
        · have w6 := w5.1 c
          exact g_sub (L' := [(0, .ref (r 3))]) [0] rfl (b45  w6)
        · have w7 := w5.2 c
          refine g_aload_n hF d_X3_statements_25 rfl 0 rfl ?_
          refine g_get (v := .int (s14 3 2)) hF 2 obC_3 (by decide) m_96 rfl d_X3_statements_26 ?_
          refine g_bipush hF (v := 23) d_X3_statements_29 (by decide) ?_
          refine g_icmp_eq (yv := 23) hF 45 d_X3_statements_31 (by decide) rfl (by decide) (fun c => ?_) (fun c => ?_)
          · have w8 := w7.1 c
            exact g_sub (L' := [(0, .ref (r 3))]) [0] rfl (b45  w8)
          · have w9 := w7.2 c
            refine g_aload_n hF d_X3_statements_34 rfl 0 rfl ?_
            refine g_iload_n hF d_X3_statements_35 rfl 1 rfl ?_
            refine g_callV (As := [.int a1]) (rest := []) hF (fun l D cy => hKstatement w9 l D cy) (Nat.le_refl _) mV_X3_statement m_1008 (recv_ob obC_3) rfl rfl (Nat.le_of_ble_eq_true rfl) d_X3_statements_36 (qV (fun s36 w10 => ?_)) (fun _ _ _ h => h.elim)
            refine g_iinc hF (x2_14 + (-1)) [(2, .int (x2_14 + (-1))), (0, .ref (r 3)), (1, .int a1)] d_X3_statements_39 2 rfl rfl hnn (by decide) rfl ?_
            refine g_goto hF 14 d_X3_statements_42 (by decide) ?_
            obtain ⟨m14, hm14, w9⟩ := w10
            exact g_sub (L' := [(0, .ref (r 3)), (1, .int a1), (2, .int (x2_14 + (-1)))]) [1, 2, 0] rfl (ih14 m14 hm14 (x2_14 + (-1)) s36 w9)
  exact g_sub (L' := [(0, .ref (r 3)), (1, .int a1), (2, .int (s3 2 4))]) [1, 2, 0] rfl (b14 i14 (s3 2 4) s3 u14)
