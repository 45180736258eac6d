set_option maxHeartbeats 4000000 in
set_option maxRecDepth 100000 in
theorem kt_X11_enter (a : Nat → Nat) (r : Nat → Nat) {a1 : Int32} {σ : St} {Q : St → Prop} (w : wk_X11_enter a1 σ Q) (l : Launch) (D : va_G) (cy : Nat → ClassId) : Ct l D cy SC r (EC a gC) y_X11_enter (Cond.code y_X11_enter b_X11_enter 2 none) 2 [.ref (r 6), .int a1] σ Z0 [] (QV Q) QT0 := by
  unfold wk_X11_enter at w
  refine Ct_of (EC_ok a gC) (by decide) (Nat.le_of_ble_eq_true rfl) (by decide) (fun X hnn hF => ?_)
  show G SC r X σ Z0 [] [(0, .ref (r 6)), (1, .int a1)] [] 0
  refine g_aload_n hF d_X11_enter_0 rfl 0 rfl ?_
  refine g_callV (As := []) (rest := []) hF (fun l D cy => kt_X11_leave a r w l D cy) (Nat.le_of_ble_eq_true rfl) mV_X11_leave m_1045 (recv_ob obC_6) rfl rfl (Nat.le_of_ble_eq_true rfl) d_X11_enter_1 (qV (fun s1 w1 => ?_)) (fun _ _ _ h => h.elim)
  refine g_aload_n hF d_X11_enter_4 rfl 0 rfl ?_
  refine g_iload_n hF d_X11_enter_5 rfl 1 rfl ?_
  refine g_put (v := a1) hF 6 obC_6 (by decide) m_324 rfl rfl rfl d_X11_enter_6 ?_
  refine g_aload_n hF d_X11_enter_9 rfl 0 rfl ?_
  refine g_callV (As := []) (rest := []) hF (fun l D cy => kt_X11_open a r w1 l D cy) (Nat.le_of_ble_eq_true rfl) mV_X11_open m_1453 (recv_ob obC_6) rfl rfl (Nat.le_of_ble_eq_true rfl) d_X11_enter_10 (qV (fun s10 w2 => ?_)) (fun _ _ _ h => h.elim)
  exact g_vret hF rfl d_X11_enter_13 ⟨rfl, rfl, rfl, w2⟩
set_option maxHeartbeats 4000000 in
set_option maxRecDepth 100000 in
theorem kt_X1_function (a : Nat → Nat) (r : Nat → Nat) {a1 : Int32} {a2 : Int32} {a3 : Int32} {σ : St} {Q : St → Prop} (w : wk_X1_function a1 a2 a3 σ Q) (l : Launch) (D : va_G) (cy : Nat → ClassId) : Ct l D cy SC r (EC a gC) y_X1_function (Cond.code y_X1_function b_X1_function 10 none) 3 [.ref (r 8), .int a1, .int a2, .int a3] σ Z0 [] (QV Q) QT0 := by
  unfold wk_X1_function at w
  refine Ct_of (EC_ok a gC) (by decide) (Nat.le_of_ble_eq_true rfl) (by decide) (fun X hnn hF => ?_)
  show G SC r X σ Z0 [] [(0, .ref (r 8)), (1, .int a1), (2, .int a2), (3, .int a3)] [] 0
  refine g_iload_n hF d_X1_function_0 rfl 3 rfl ?_
  refine g_bipush hF (v := 8) d_X1_function_1 (by decide) ?_
  refine g_idiv hF d_X1_function_3 (by decide) ?_
  refine g_iconst hF (v := 1) d_X1_function_4 (by decide) ?_
  refine g_isub hF d_X1_function_5 ?_
  refine g_istore hF [(4, .int ((a3 / (8 : Int32)) - (1 : Int32))), (0, .ref (r 8)), (1, .int a1), (2, .int a2), (3, .int a3)] d_X1_function_6 hnn (by decide) rfl ?_
  refine g_iload_n hF d_X1_function_8 rfl 4 rfl ?_
  refine g_iconst hF (v := 3) d_X1_function_9 (by decide) ?_
  refine g_iand hF d_X1_function_10 ?_
  refine g_iconst hF (v := 1) d_X1_function_11 (by decide) ?_
  obtain ⟨J20, h20, w1⟩ := w
  have b20 : ∀ (y0_20 : Int32), y0_20 = 0 ∨ y0_20 = 1 → J20 y0_20 → G SC r X σ Z0 [] [(0, .ref (r 8)), (1, .int a1), (2, .int a2), (3, .int a3), (4, .int ((a3 / (8 : Int32)) - (1 : Int32)))] [.int y0_20] 20 := by
    intro y0_20 hy0_20 w20_
    have w20_ := h20 y0_20 hy0_20 w20_
    refine g_istore hF [(5, .int y0_20), (0, .ref (r 8)), (1, .int a1), (2, .int a2), (3, .int a3), (4, .int ((a3 / (8 : Int32)) - (1 : Int32)))] d_X1_function_20 hnn (by decide) rfl ?_
    refine g_iload_n hF d_X1_function_22 rfl 4 rfl ?_
    refine g_iconst hF (v := 4) d_X1_function_23 (by decide) ?_
    refine g_iand hF d_X1_function_24 ?_
    obtain ⟨J33, h33, w2⟩ := w20_
    have b33 : ∀ (y0_33 : Int32), y0_33 = 0 ∨ y0_33 = 1 → J33 y0_33 → G SC r X σ Z0 [] [(0, .ref (r 8)), (1, .int a1), (2, .int a2), (4, .int ((a3 / (8 : Int32)) - (1 : Int32))), (5, .int y0_20)] [.int y0_33] 33 := by
      intro y0_33 hy0_33 w33_
      have w33_ := h33 y0_33 hy0_33 w33_
      refine g_istore hF [(6, .int y0_33), (0, .ref (r 8)), (1, .int a1), (2, .int a2), (4, .int ((a3 / (8 : Int32)) - (1 : Int32))), (5, .int y0_20)] d_X1_function_33 hnn (by decide) rfl ?_
      refine g_aload_n hF d_X1_function_35 rfl 1 rfl ?_
      refine g_get (v := .ref (r 6)) hF 2 obC_8 (by decide) m_491 rfl d_X1_function_36 ?_
      refine g_iload_n hF d_X1_function_39 rfl 2 rfl ?_
      refine g_callVN (As := [.int a1]) (rest := []) hF (fun l D cy => kt_X11_outerOf a r w33_ l D cy) (Nat.le_of_ble_eq_true rfl) mV_X11_outerOf nm_1388 (recv_ob obC_6) rfl rfl (Nat.le_of_ble_eq_true rfl) d_X1_function_40 (qIr (fun v40 w3 => ?_))
      refine g_istore hF [(7, .int v40), (6, .int y0_33), (0, .ref (r 8)), (1, .int a1), (2, .int a2), (4, .int ((a3 / (8 : Int32)) - (1 : Int32))), (5, .int y0_20)] d_X1_function_43 hnn (by decide) rfl ?_
      refine g_iload hF d_X1_function_45 0 rfl ?_
      obtain ⟨J134, h134, w4⟩ := w3
      have b134 : ∀ (y0_134 : Int32), y0_134 = 0 ∨ y0_134 = 1 → J134 y0_134 → G SC r X σ Z0 [] [(0, .ref (r 8)), (1, .int a1), (2, .int a2), (4, .int ((a3 / (8 : Int32)) - (1 : Int32))), (5, .int y0_20), (6, .int y0_33), (7, .int v40)] [.int y0_134] 134 := by
        intro y0_134 hy0_134 w134_
        have w134_ := h134 y0_134 hy0_134 w134_
        refine g_istore hF [(8, .int y0_134), (0, .ref (r 8)), (1, .int a1), (2, .int a2), (4, .int ((a3 / (8 : Int32)) - (1 : Int32))), (5, .int y0_20), (6, .int y0_33), (7, .int v40)] d_X1_function_134 hnn (by decide) rfl ?_
        refine g_aload_n hF d_X1_function_136 rfl 1 rfl ?_
        refine g_iload_n hF d_X1_function_137 rfl 2 rfl ?_
        refine g_iload hF d_X1_function_138 7 rfl ?_
        refine g_iload hF d_X1_function_140 0 rfl ?_
        refine g_callV (As := [.int a1, .int v40, .int y0_134]) (rest := []) hF (fun l D cy => kt_X1_checkOuter a r hy0_134 w134_ l D cy) (Nat.le_of_ble_eq_true rfl) mV_X1_checkOuter m_1394 (recv_ob obC_8) rfl rfl (Nat.le_of_ble_eq_true rfl) d_X1_function_142 (qV (fun s142 w5 => ?_)) (fun _ _ _ h => h.elim)
        refine g_aload_n hF d_X1_function_145 rfl 1 rfl ?_
        refine g_get (v := .ref (r 6)) hF 2 obC_8 (by decide) m_491 rfl d_X1_function_146 ?_
        refine g_getN (v := .int (s142 6 3)) hF 3 obC_6 (by decide) nm_317 rfl d_X1_function_149 ?_
        refine g_if_eq hF 156 d_X1_function_152 (by decide) rfl (fun c => ?_) (fun c => ?_)
        · have w6 := w5.1 c
          refine g_iload hF d_X1_function_156 7 rfl ?_
          obtain ⟨J174, h174, w7⟩ := w6
          have b174 : ∀ (y0_174 : Int32) (s174 : St), J174 y0_174 s174 → G SC r X s174 Z0 [] [(0, .ref (r 8)), (2, .int a2), (4, .int ((a3 / (8 : Int32)) - (1 : Int32))), (5, .int y0_20), (6, .int y0_33)] [.int y0_174] 174 := by
            intro y0_174 s174  w174_
            have w174_ := h174 y0_174 s174  w174_
            refine g_istore hF [(9, .int y0_174), (0, .ref (r 8)), (2, .int a2), (4, .int ((a3 / (8 : Int32)) - (1 : Int32))), (5, .int y0_20), (6, .int y0_33)] d_X1_function_174 hnn (by decide) rfl ?_
            refine g_aload_n hF d_X1_function_176 rfl 1 rfl ?_
            refine g_get (v := .ref (r 5)) hF 3 obC_8 (by decide) m_492 rfl d_X1_function_177 ?_
            refine g_iload hF d_X1_function_180 0 rfl ?_
            refine g_iload hF d_X1_function_182 4 rfl ?_
            obtain ⟨J192, h192, w8⟩ := w174_
            have b192 : ∀ (y2_192 : Int32), J192 y2_192 → G SC r X s174 Z0 [] [(0, .ref (r 8)), (2, .int a2), (4, .int ((a3 / (8 : Int32)) - (1 : Int32))), (6, .int y0_33), (9, .int y0_174)] [.int y2_192, .int y0_174, .ref (r 5)] 192 := by
              intro y2_192  w192_
              have w192_ := h192 y2_192  w192_
              refine g_callVN (As := [.int y0_174, .int y2_192]) (rest := []) hF (fun l D cy => kt_X8_mark a r w192_ l D cy) (Nat.le_of_ble_eq_true rfl) mV_X8_mark nm_1410 (recv_ob obC_5) rfl rfl (Nat.le_of_ble_eq_true rfl) d_X1_function_192 (qV (fun s192 w9 => ?_))
              refine g_aload_n hF d_X1_function_195 rfl 0 rfl ?_
              refine g_get (v := .ref (r 5)) hF 3 obC_8 (by decide) m_492 rfl d_X1_function_196 ?_
              refine g_getN (v := .ref (r 26)) hF 3 obC_5 (by decide) nm_227 rfl d_X1_function_199 ?_
              refine g_iload hF d_X1_function_202 4 rfl ?_
              refine g_iload hF d_X1_function_204 2 rfl ?_
              refine g_callSN (As := [.ref (r 26), .int y0_174, .int ((a3 / (8 : Int32)) - (1 : Int32))]) (rest := []) hF (c_setv a r s192 arC_26 (by decide) y0_174 ((a3 / (8 : Int32)) - (1 : Int32))) (Nat.le_of_ble_eq_true rfl) mS_X12_set nm_1409 rfl rfl (Nat.le_of_ble_eq_true rfl) d_X1_function_206 (kU ?_)
              refine g_aload_n hF d_X1_function_209 rfl 0 rfl ?_
              refine g_get (v := .ref (r 5)) hF 3 obC_8 (by decide) m_492 rfl d_X1_function_210 ?_
              refine g_getN (v := .ref (r 27)) hF 4 obC_5 (by decide) nm_232 rfl d_X1_function_213 ?_
              refine g_iload hF d_X1_function_216 4 rfl ?_
              refine g_iload_n hF d_X1_function_218 rfl 1 rfl ?_
              refine g_callSN (As := [.ref (r 27), .int y0_174, .int a2]) (rest := []) hF (c_setv a r (upF s192 26 (setv 10100 (s192 26) y0_174 ((a3 / (8 : Int32)) - (1 : Int32)))) arC_27 (by decide) y0_174 a2) (Nat.le_of_ble_eq_true rfl) mS_X12_set nm_1409 rfl rfl (Nat.le_of_ble_eq_true rfl) d_X1_function_219 (kU ?_)
              refine g_iload hF d_X1_function_222 3 rfl ?_
              refine g_if_eq hF 265 d_X1_function_224 (by decide) rfl (fun c => ?_) (fun c => ?_)
              · have w10 := w9.1 c
                exact g_vret hF rfl d_X1_function_265 ⟨rfl, rfl, rfl, w10⟩
              · have w11 := w9.2 c
                refine g_aload_n hF d_X1_function_227 rfl 0 rfl ?_
                refine g_get (v := .ref (r 5)) hF 3 obC_8 (by decide) m_492 rfl d_X1_function_228 ?_
                refine g_iload hF d_X1_function_231 4 rfl ?_
                refine g_iconst hF (v := 4) d_X1_function_233 (by decide) ?_
                refine g_callVN (As := [.int y0_174, .int 4]) (rest := []) hF (fun l D cy => kt_X8_mark a r w11 l D cy) (Nat.le_of_ble_eq_true rfl) mV_X8_mark nm_1410 (recv_ob obC_5) rfl rfl (Nat.le_of_ble_eq_true rfl) d_X1_function_234 (qV (fun s234 w12 => ?_))
                refine g_aload_n hF d_X1_function_237 rfl 0 rfl ?_
                refine g_get (v := .ref (r 5)) hF 3 obC_8 (by decide) m_492 rfl d_X1_function_238 ?_
                refine g_getN (v := .ref (r 28)) hF 5 obC_5 (by decide) nm_235 rfl d_X1_function_241 ?_
                refine g_iload hF d_X1_function_244 4 rfl ?_
                refine g_aload_n hF d_X1_function_246 rfl 0 rfl ?_
                refine g_get (v := .ref (r 4)) hF 4 obC_8 (by decide) m_493 rfl d_X1_function_247 ?_
                refine g_callVN (As := []) (rest := [.int y0_174, .ref (r 28)]) hF (fun l D cy => kt_X0_header a r w12 l D cy) (Nat.le_of_ble_eq_true rfl) mV_X0_header nm_1445 (recv_ob obC_4) rfl rfl (Nat.le_of_ble_eq_true rfl) d_X1_function_250 (qI (fun v250 s250 w13 => ?_))
                refine g_callSN (As := [.ref (r 28), .int y0_174, .int v250]) (rest := []) hF (c_setv a r s250 arC_28 (by decide) y0_174 v250) (Nat.le_of_ble_eq_true rfl) mS_X12_set nm_1409 rfl rfl (Nat.le_of_ble_eq_true rfl) d_X1_function_253 (kU ?_)
                refine g_aload_n hF d_X1_function_256 rfl 0 rfl ?_
                refine g_get (v := .ref (r 6)) hF 2 obC_8 (by decide) m_491 rfl d_X1_function_257 ?_
                refine g_iload hF d_X1_function_260 4 rfl ?_
                refine g_callVN (As := [.int y0_174]) (rest := []) hF (fun l D cy => kt_X11_enter a r w13 l D cy) (Nat.le_of_ble_eq_true rfl) mV_X11_enter nm_1449 (recv_ob obC_6) rfl rfl (Nat.le_of_ble_eq_true rfl) d_X1_function_262 (qV (fun s262 w14 => ?_))
                exact g_vret hF rfl d_X1_function_265 ⟨rfl, rfl, rfl, w14⟩
            refine g_if_eq hF 191 d_X1_function_184 (by decide) rfl (fun c => ?_) (fun c => ?_)
            · have w15 := w8.1 c
              refine g_iconst hF (v := 1) d_X1_function_191 (by decide) ?_
              exact g_sub (L' := [(0, .ref (r 8)), (2, .int a2), (4, .int ((a3 / (8 : Int32)) - (1 : Int32))), (6, .int y0_33), (9, .int y0_174)]) [1, 2, 3, 5, 0] rfl (b192 (1 : Int32) w15)
            · have w16 := w8.2 c
              refine g_iconst hF (v := 3) d_X1_function_187 (by decide) ?_
              refine g_goto hF 192 d_X1_function_188 (by decide) ?_
              exact g_sub (L' := [(0, .ref (r 8)), (2, .int a2), (4, .int ((a3 / (8 : Int32)) - (1 : Int32))), (6, .int y0_33), (9, .int y0_174)]) [1, 2, 3, 5, 0] rfl (b192 (3 : Int32) w16)
          refine g_if_ge hF 172 d_X1_function_158 (by decide) rfl (fun c => ?_) (fun c => ?_)
          · have w17 := w7.1 c
            refine g_iload hF d_X1_function_172 7 rfl ?_
            exact g_sub (L' := [(0, .ref (r 8)), (2, .int a2), (4, .int ((a3 / (8 : Int32)) - (1 : Int32))), (5, .int y0_20), (6, .int y0_33)]) [1, 3, 4, 5, 6] rfl (b174 v40 s142 w17)
          · have w18 := w7.2 c
            refine g_aload_n hF d_X1_function_161 rfl 1 rfl ?_
            refine g_get (v := .ref (r 6)) hF 2 obC_8 (by decide) m_491 rfl d_X1_function_162 ?_
            refine g_iload_n hF d_X1_function_165 rfl 2 rfl ?_
            refine g_callVN (As := [.int a1]) (rest := []) hF (fun l D cy => kt_X11_declareOuter a r w18 l D cy) (Nat.le_of_ble_eq_true rfl) mV_X11_declareOuter nm_1398 (recv_ob obC_6) rfl rfl (Nat.le_of_ble_eq_true rfl) d_X1_function_166 (qI (fun v166 s166 w19 => ?_))
            refine g_goto hF 174 d_X1_function_169 (by decide) ?_
            exact g_sub (L' := [(0, .ref (r 8)), (2, .int a2), (4, .int ((a3 / (8 : Int32)) - (1 : Int32))), (5, .int y0_20), (6, .int y0_33)]) [1, 3, 4, 5, 6] rfl (b174 v166 s166 w19)
        · have w20 := w5.2 c
          exact g_vret hF rfl d_X1_function_155 ⟨rfl, rfl, rfl, w20⟩
      obtain ⟨J129, h129, w21⟩ := w4
      have b129 : J129  → G SC r X σ Z0 [] [(0, .ref (r 8)), (1, .int a1), (2, .int a2), (4, .int ((a3 / (8 : Int32)) - (1 : Int32))), (5, .int y0_20), (6, .int y0_33), (7, .int v40)] [] 129 := by
        intro   w129_
        have w129_ := h129   w129_
        refine g_iconst hF (v := 1) d_X1_function_129 (by decide) ?_
        refine g_goto hF 134 d_X1_function_130 (by decide) ?_
        exact b134 (1 : Int32) (Or.inr rfl) w129_
      refine g_if_lt hF 129 d_X1_function_47 (by decide) rfl (fun c => ?_) (fun c => ?_)
      · have w22 := w21.1 c
        exact g_sub (L' := [(0, .ref (r 8)), (1, .int a1), (2, .int a2), (4, .int ((a3 / (8 : Int32)) - (1 : Int32))), (5, .int y0_20), (6, .int y0_33), (7, .int v40)]) [2, 3, 4, 5, 6, 1, 0] rfl (b129  w22)
      · have w23 := w21.2 c
        refine g_aload_n hF d_X1_function_50 rfl 2 rfl ?_
        refine g_get (v := .ref (r 5)) hF 3 obC_8 (by decide) m_492 rfl d_X1_function_51 ?_
        refine g_iload hF d_X1_function_54 0 rfl ?_
        refine g_iconst hF (v := 1) d_X1_function_56 (by decide) ?_
        refine g_callVN (As := [.int v40, .int 1]) (rest := []) hF (fun l D cy => kt_X8_is a r w23 l D cy) (Nat.le_of_ble_eq_true rfl) mV_X8_is nm_1393 (recv_ob obC_5) rfl rfl (Nat.le_of_ble_eq_true rfl) d_X1_function_57 (qZr (fun v57 hz57 w24 => ?_))
        obtain ⟨J133, h133, w25⟩ := w24
        have b133 : J133  → G SC r X σ Z0 [] [(0, .ref (r 8)), (1, .int a1), (2, .int a2), (4, .int ((a3 / (8 : Int32)) - (1 : Int32))), (5, .int y0_20), (6, .int y0_33), (7, .int v40)] [] 133 := by
          intro   w133_
          have w133_ := h133   w133_
          refine g_iconst hF (v := 0) d_X1_function_133 (by decide) ?_
          exact b134 (0 : Int32) (Or.inl rfl) w133_
        refine g_if_eq hF 133 d_X1_function_60 (by decide) rfl (fun c => ?_) (fun c => ?_)
        · have w26 := w25.1 c
          exact g_sub (L' := [(0, .ref (r 8)), (1, .int a1), (2, .int a2), (4, .int ((a3 / (8 : Int32)) - (1 : Int32))), (5, .int y0_20), (6, .int y0_33), (7, .int v40)]) [2, 3, 4, 5, 6, 1, 0] rfl (b133  w26)
        · have w27 := w25.2 c
          refine g_aload_n hF d_X1_function_63 rfl 2 rfl ?_
          refine g_get (v := .ref (r 5)) hF 3 obC_8 (by decide) m_492 rfl d_X1_function_64 ?_
          refine g_getN (v := .ref (r 26)) hF 3 obC_5 (by decide) nm_227 rfl d_X1_function_67 ?_
          refine g_iload hF d_X1_function_70 0 rfl ?_
          refine g_callSN (As := [.ref (r 26), .int v40]) (rest := []) hF (c_atv a r σ arC_26 (by decide) v40) (Nat.le_of_ble_eq_true rfl) mS_X12_at nm_1356 rfl rfl (Nat.le_of_ble_eq_true rfl) d_X1_function_72 (kQ ?_)
          refine g_top (v := (atv 10100 (σ 26) v40)) rfl ?_
          refine g_iload hF d_X1_function_75 5 rfl ?_
          refine g_icmp_ne hF 133 d_X1_function_77 (by decide) rfl rfl (fun c => ?_) (fun c => ?_)
          · have w28 := w27.1 c
            exact g_sub (L' := [(0, .ref (r 8)), (1, .int a1), (2, .int a2), (4, .int ((a3 / (8 : Int32)) - (1 : Int32))), (5, .int y0_20), (6, .int y0_33), (7, .int v40)]) [2, 3, 4, 5, 6, 1, 0] rfl (b133  w28)
          · have w29 := w27.2 c
            refine g_aload_n hF d_X1_function_80 rfl 2 rfl ?_
            refine g_get (v := .ref (r 5)) hF 3 obC_8 (by decide) m_492 rfl d_X1_function_81 ?_
            refine g_getN (v := .ref (r 27)) hF 4 obC_5 (by decide) nm_232 rfl d_X1_function_84 ?_
            refine g_iload hF d_X1_function_87 0 rfl ?_
            refine g_callSN (As := [.ref (r 27), .int v40]) (rest := []) hF (c_atv a r σ arC_27 (by decide) v40) (Nat.le_of_ble_eq_true rfl) mS_X12_at nm_1356 rfl rfl (Nat.le_of_ble_eq_true rfl) d_X1_function_89 (kQ ?_)
            refine g_top (v := (atv 10100 (σ 27) v40)) rfl ?_
            refine g_iload_n hF d_X1_function_92 rfl 4 rfl ?_
            refine g_icmp_ne hF 133 d_X1_function_93 (by decide) rfl rfl (fun c => ?_) (fun c => ?_)
            · have w30 := w29.1 c
              exact g_sub (L' := [(0, .ref (r 8)), (1, .int a1), (2, .int a2), (4, .int ((a3 / (8 : Int32)) - (1 : Int32))), (5, .int y0_20), (6, .int y0_33), (7, .int v40)]) [2, 3, 4, 5, 6, 1, 0] rfl (b133  w30)
            · have w31 := w29.2 c
              refine g_aload_n hF d_X1_function_96 rfl 2 rfl ?_
              refine g_get (v := .ref (r 5)) hF 3 obC_8 (by decide) m_492 rfl d_X1_function_97 ?_
              refine g_iload hF d_X1_function_100 0 rfl ?_
              refine g_iconst hF (v := 2) d_X1_function_102 (by decide) ?_
              refine g_callVN (As := [.int v40, .int 2]) (rest := []) hF (fun l D cy => kt_X8_is a r w31 l D cy) (Nat.le_of_ble_eq_true rfl) mV_X8_is nm_1393 (recv_ob obC_5) rfl rfl (Nat.le_of_ble_eq_true rfl) d_X1_function_103 (qZr (fun v103 hz103 w32 => ?_))
              refine g_iload hF d_X1_function_106 6 rfl ?_
              refine g_icmp_ne hF 133 d_X1_function_108 (by decide) rfl rfl (fun c => ?_) (fun c => ?_)
              · have w33 := w32.1 c
                exact g_sub (L' := [(0, .ref (r 8)), (1, .int a1), (2, .int a2), (4, .int ((a3 / (8 : Int32)) - (1 : Int32))), (5, .int y0_20), (6, .int y0_33), (7, .int v40)]) [2, 3, 4, 5, 6, 1, 0] rfl (b133  w33)
              · have w34 := w32.2 c
                refine g_iload hF d_X1_function_111 1 rfl ?_
                refine g_if_eq hF 129 d_X1_function_113 (by decide) rfl (fun c => ?_) (fun c => ?_)
                · have w35 := w34.1 c
                  exact g_sub (L' := [(0, .ref (r 8)), (1, .int a1), (2, .int a2), (4, .int ((a3 / (8 : Int32)) - (1 : Int32))), (5, .int y0_20), (6, .int y0_33), (7, .int v40)]) [2, 3, 4, 5, 6, 1, 0] rfl (b129  w35)
                · have w36 := w34.2 c
                  refine g_aload_n hF d_X1_function_116 rfl 2 rfl ?_
                  refine g_get (v := .ref (r 5)) hF 3 obC_8 (by decide) m_492 rfl d_X1_function_117 ?_
                  refine g_iload hF d_X1_function_120 0 rfl ?_
                  refine g_iconst hF (v := 4) d_X1_function_122 (by decide) ?_
                  refine g_callVN (As := [.int v40, .int 4]) (rest := []) hF (fun l D cy => kt_X8_is a r w36 l D cy) (Nat.le_of_ble_eq_true rfl) mV_X8_is nm_1393 (recv_ob obC_5) rfl rfl (Nat.le_of_ble_eq_true rfl) d_X1_function_123 (qZr (fun v123 hz123 w37 => ?_))
                  refine g_if_ne hF 133 d_X1_function_126 (by decide) rfl (fun c => ?_) (fun c => ?_)
                  · have w38 := w37.1 c
                    exact g_sub (L' := [(0, .ref (r 8)), (1, .int a1), (2, .int a2), (4, .int ((a3 / (8 : Int32)) - (1 : Int32))), (5, .int y0_20), (6, .int y0_33), (7, .int v40)]) [2, 3, 4, 5, 6, 1, 0] rfl (b133  w38)
                  · have w39 := w37.2 c
                    exact g_sub (L' := [(0, .ref (r 8)), (1, .int a1), (2, .int a2), (4, .int ((a3 / (8 : Int32)) - (1 : Int32))), (5, .int y0_20), (6, .int y0_33), (7, .int v40)]) [2, 3, 4, 5, 6, 1, 0] rfl (b129  w39)
    refine g_if_eq hF 32 d_X1_function_25 (by decide) rfl (fun c => ?_) (fun c => ?_)
    · have w40 := w2.1 c
      refine g_iconst hF (v := 0) d_X1_function_32 (by decide) ?_
      exact g_sub (L' := [(0, .ref (r 8)), (1, .int a1), (2, .int a2), (4, .int ((a3 / (8 : Int32)) - (1 : Int32))), (5, .int y0_20)]) [1, 2, 3, 5, 0] rfl (b33 (0 : Int32) (Or.inl rfl) w40)
    · have w41 := w2.2 c
      refine g_iconst hF (v := 1) d_X1_function_28 (by decide) ?_
      refine g_goto hF 33 d_X1_function_29 (by decide) ?_
      exact g_sub (L' := [(0, .ref (r 8)), (1, .int a1), (2, .int a2), (4, .int ((a3 / (8 : Int32)) - (1 : Int32))), (5, .int y0_20)]) [1, 2, 3, 5, 0] rfl (b33 (1 : Int32) (Or.inr rfl) w41)
  refine g_icmp_ne (yv := 1) hF 19 d_X1_function_12 (by decide) rfl (by decide) (fun c => ?_) (fun c => ?_)
  · have w42 := w1.1 c
    refine g_iconst hF (v := 0) d_X1_function_19 (by decide) ?_
    exact g_sub (L' := [(0, .ref (r 8)), (1, .int a1), (2, .int a2), (3, .int a3), (4, .int ((a3 / (8 : Int32)) - (1 : Int32)))]) [1, 2, 3, 4, 0] rfl (b20 (0 : Int32) (Or.inl rfl) w42)
  · have w43 := w1.2 c
    refine g_iconst hF (v := 1) d_X1_function_15 (by decide) ?_
    refine g_goto hF 20 d_X1_function_16 (by decide) ?_
    exact g_sub (L' := [(0, .ref (r 8)), (1, .int a1), (2, .int a2), (3, .int a3), (4, .int ((a3 / (8 : Int32)) - (1 : Int32)))]) [1, 2, 3, 4, 0] rfl (b20 (1 : Int32) (Or.inr rfl) w43)
set_option maxHeartbeats 4000000 in
set_option maxRecDepth 100000 in
theorem kt_X1_parameter (a : Nat → Nat) (r : Nat → Nat) {a1 : Int32} {a2 : Int32} {σ : St} {Q : St → Prop} (w : wk_X1_parameter a1 a2 σ Q) (l : Launch) (D : va_G) (cy : Nat → ClassId) : Ct l D cy SC r (EC a gC) y_X1_parameter (Cond.code y_X1_parameter b_X1_parameter 3 none) 3 [.ref (r 8), .int a1, .int a2] σ Z0 [] (QV Q) QT0 := by
  unfold wk_X1_parameter at w
  refine Ct_of (EC_ok a gC) (by decide) (Nat.le_of_ble_eq_true rfl) (by decide) (fun X hnn hF => ?_)
  show G SC r X σ Z0 [] [(0, .ref (r 8)), (1, .int a1), (2, .int a2)] [] 0
  refine g_aload_n hF d_X1_parameter_0 rfl 0 rfl ?_
  refine g_get (v := .ref (r 2)) hF 1 obC_8 (by decide) m_490 rfl d_X1_parameter_1 ?_
  refine g_getN (v := .ref (r 13)) hF 5 obC_2 (by decide) nm_51 rfl d_X1_parameter_4 ?_
  refine g_iload_n hF d_X1_parameter_7 rfl 1 rfl ?_
  refine g_callSN (As := [.ref (r 13), .int a1]) (rest := []) hF (c_atv a r σ arC_13 (by decide) a1) (Nat.le_of_ble_eq_true rfl) mS_X12_at nm_1356 rfl rfl (Nat.le_of_ble_eq_true rfl) d_X1_parameter_8 (kQ ?_)
  refine g_top (v := (atv 16002 (σ 13) a1)) rfl ?_
  refine g_iconst hF (v := 2) d_X1_parameter_11 (by decide) ?_
  obtain ⟨J27, h27, w1⟩ := w
  have b27 : J27  → G SC r X σ Z0 [] [(0, .ref (r 8)), (1, .int a1)] [] 27 := by
    intro   w27_
    have w27_ := h27   w27_
    refine g_aload_n hF d_X1_parameter_27 rfl 0 rfl ?_
    refine g_get (v := .ref (r 6)) hF 2 obC_8 (by decide) m_491 rfl d_X1_parameter_28 ?_
    refine g_iconst hF (v := 2) d_X1_parameter_31 (by decide) ?_
    refine g_iload_n hF d_X1_parameter_32 rfl 1 rfl ?_
    refine g_callVN (As := [.int 2, .int a1]) (rest := []) hF (fun l D cy => kt_X11_fail a r w27_ l D cy) (Nat.le_of_ble_eq_true rfl) mV_X11_fail nm_1370 (recv_ob obC_6) rfl rfl (Nat.le_of_ble_eq_true rfl) d_X1_parameter_33 (qV (fun s33 w2 => ?_))
    refine g_goto hF 49 d_X1_parameter_36 (by decide) ?_
    exact g_vret hF rfl d_X1_parameter_49 ⟨rfl, rfl, rfl, w2⟩
  refine g_icmp_ne (yv := 2) hF 27 d_X1_parameter_12 (by decide) rfl (by decide) (fun c => ?_) (fun c => ?_)
  · have w3 := w1.1 c
    exact g_sub (L' := [(0, .ref (r 8)), (1, .int a1)]) [0, 1] rfl (b27  w3)
  · have w4 := w1.2 c
    refine g_aload_n hF d_X1_parameter_15 rfl 0 rfl ?_
    refine g_get (v := .ref (r 6)) hF 2 obC_8 (by decide) m_491 rfl d_X1_parameter_16 ?_
    refine g_iconst hF (v := 0) d_X1_parameter_19 (by decide) ?_
    refine g_iload_n hF d_X1_parameter_20 rfl 1 rfl ?_
    refine g_callVN (As := [.int 0, .int a1]) (rest := []) hF (fun l D cy => kt_X11_localFrom a r w4 l D cy) (Nat.le_of_ble_eq_true rfl) mV_X11_localFrom nm_1369 (recv_ob obC_6) rfl rfl (Nat.le_of_ble_eq_true rfl) d_X1_parameter_21 (qIr (fun v21 w5 => ?_))
    refine g_if_lt hF 39 d_X1_parameter_24 (by decide) rfl (fun c => ?_) (fun c => ?_)
    · have w6 := w5.1 c
      refine g_aload_n hF d_X1_parameter_39 rfl 0 rfl ?_
      refine g_get (v := .ref (r 6)) hF 2 obC_8 (by decide) m_491 rfl d_X1_parameter_40 ?_
      refine g_iload_n hF d_X1_parameter_43 rfl 1 rfl ?_
      refine g_iload_n hF d_X1_parameter_44 rfl 2 rfl ?_
      refine g_iconst hF (v := (-1)) d_X1_parameter_45 (by decide) ?_
      refine g_callVN (As := [.int a1, .int a2, .int (-1)]) (rest := []) hF (fun l D cy => kt_X11_declareLocal a r w6 l D cy) (Nat.le_of_ble_eq_true rfl) mV_X11_declareLocal nm_1375 (recv_ob obC_6) rfl rfl (Nat.le_of_ble_eq_true rfl) d_X1_parameter_46 (qV (fun s46 w7 => ?_))
      exact g_vret hF rfl d_X1_parameter_49 ⟨rfl, rfl, rfl, w7⟩
    · have w8 := w5.2 c
      exact g_sub (L' := [(0, .ref (r 8)), (1, .int a1)]) [0, 1] rfl (b27  w8)
set_option maxHeartbeats 4000000 in
set_option maxRecDepth 100000 in
theorem kt_X0_settle_r48 (a : Nat → Nat) (r : Nat → Nat) {a1 : Int32} {σ : St} {Q : St → Prop} (w : wk_X0_settle_r48 a1 σ Q) (l : Launch) (D : va_G) (cy : Nat → ClassId) : Ct l D cy SC r (EC a gC) y_X0_settle (Cond.code y_X0_settle b_X0_settle 7 none) 1 [.ref (r 4), .int a1, .ref (r 48)] σ Z0 [] (QV Q) QT0 := by
  unfold wk_X0_settle_r48 at w
  refine Ct_of (EC_ok a gC) (by decide) (Nat.le_of_ble_eq_true rfl) (by decide) (fun X hnn hF => ?_)
  show G SC r X σ Z0 [] [(0, .ref (r 4)), (1, .int a1), (2, .ref (r 48))] [] 0
  refine g_iload_n hF d_X0_settle_0 rfl 1 rfl ?_
  refine g_istore_n hF [(3, .int a1), (0, .ref (r 4)), (1, .int a1), (2, .ref (r 48))] d_X0_settle_1 rfl hnn (by decide) rfl ?_
  refine g_aload_n hF d_X0_settle_2 rfl 1 rfl ?_
  refine g_get (v := .int (σ 4 1)) hF 1 obC_4 (by decide) m_152 rfl d_X0_settle_3 ?_
  refine g_istore hF [(4, .int (σ 4 1)), (3, .int a1), (0, .ref (r 4)), (1, .int a1), (2, .ref (r 48))] d_X0_settle_6 hnn (by decide) rfl ?_
  obtain ⟨L8, ⟨i8, u8⟩, h8⟩ := w
  have b8 : ∀ (n8 : Nat) (x3_8 : Int32) (x4_8 : Int32) (s8 : St), L8 n8 x3_8 x4_8 s8 → G SC r X s8 Z0 [] [(0, .ref (r 4)), (2, .ref (r 48)), (3, .int x3_8), (4, .int x4_8)] [] 8 := by
    intro n8
    induction n8 using Nat.strongRecOn with
    | _ n8 ih8 =>
      intro x3_8 x4_8 s8  w8_
      have w8_ := h8 n8 x3_8 x4_8 s8  w8_
      refine g_iload hF d_X0_settle_8 3 rfl ?_
      refine g_if_le hF 140 d_X0_settle_10 (by decide) rfl (fun c => ?_) (fun c => ?_)
      · have w1 := w8_.1 c
        exact g_vret hF rfl d_X0_settle_140 ⟨rfl, rfl, rfl, w1⟩
      · have w2 := w8_.2 c
        refine g_iload_n hF d_X0_settle_13 rfl 2 rfl ?_
        refine g_aload_n hF d_X0_settle_14 rfl 0 rfl ?_
        refine g_get (v := .int (s8 4 1)) hF 1 obC_4 (by decide) m_152 rfl d_X0_settle_15 ?_
        refine g_icmp_ge hF 140 d_X0_settle_18 (by decide) rfl rfl (fun c => ?_) (fun c => ?_)
        · have w3 := w2.1 c
          exact g_vret hF rfl d_X0_settle_140 ⟨rfl, rfl, rfl, w3⟩
        · have w4 := w2.2 c
          refine g_aload_n hF d_X0_settle_21 rfl 0 rfl ?_
          refine g_get (v := .ref (r 24)) hF 0 obC_4 (by decide) m_149 rfl d_X0_settle_22 ?_
          refine g_iload_n hF d_X0_settle_25 rfl 2 rfl ?_
          refine g_callSN (As := [.ref (r 24), .int x3_8]) (rest := []) hF (c_atv a r s8 arC_24 (by decide) x3_8) (Nat.le_of_ble_eq_true rfl) mS_X12_at nm_1213 rfl rfl (Nat.le_of_ble_eq_true rfl) d_X0_settle_26 (kQ ?_)
          refine g_top (v := (atv 262208 (s8 24) x3_8)) rfl ?_
          refine g_istore hF [(5, .int (atv 262208 (s8 24) x3_8)), (0, .ref (r 4)), (2, .ref (r 48)), (3, .int x3_8), (4, .int x4_8)] d_X0_settle_29 hnn (by decide) rfl ?_
          refine g_aload_n hF d_X0_settle_31 rfl 2 rfl ?_
          refine g_aload_n hF d_X0_settle_32 rfl 1 rfl ?_
          refine g_get (v := .ref (r 24)) hF 0 obC_4 (by decide) m_149 rfl d_X0_settle_33 ?_
          refine g_iload_n hF d_X0_settle_36 rfl 3 rfl ?_
          refine g_iconst hF (v := 1) d_X0_settle_37 (by decide) ?_
          refine g_iadd hF d_X0_settle_38 ?_
          refine g_callSN (As := [.ref (r 24), .int (x3_8 + (1 : Int32))]) (rest := [.ref (r 48)]) hF (c_atv a r s8 arC_24 (by decide) (x3_8 + (1 : Int32))) (Nat.le_of_ble_eq_true rfl) mS_X12_at nm_1213 rfl rfl (Nat.le_of_ble_eq_true rfl) d_X0_settle_39 (kQ ?_)
          refine g_top (v := (atv 262208 (s8 24) (x3_8 + (1 : Int32)))) rfl ?_
          refine g_callSN (As := [.ref (r 48), .int (atv 262208 (s8 24) (x3_8 + (1 : Int32)))]) (rest := []) hF (c_atv a r s8 arC_48 (by decide) (atv 262208 (s8 24) (x3_8 + (1 : Int32)))) (Nat.le_of_ble_eq_true rfl) mS_X12_at nm_1213 rfl rfl (Nat.le_of_ble_eq_true rfl) d_X0_settle_42 (kQ ?_)
          refine g_top (v := (atv 100 (s8 48) (atv 262208 (s8 24) (x3_8 + (1 : Int32))))) rfl ?_
          refine g_istore hF [(6, .int (atv 100 (s8 48) (atv 262208 (s8 24) (x3_8 + (1 : Int32))))), (5, .int (atv 262208 (s8 24) x3_8)), (0, .ref (r 4)), (2, .ref (r 48)), (3, .int x3_8), (4, .int x4_8)] d_X0_settle_45 hnn (by decide) rfl ?_
          refine g_iload hF d_X0_settle_47 1 rfl ?_
          refine g_bipush hF (v := 8) d_X0_settle_49 (by decide) ?_
          obtain ⟨J119, h119, w5⟩ := w4
          have b119 : ∀ (s119 : St), J119 s119 → G SC r X s119 Z0 [] [(0, .ref (r 4)), (2, .ref (r 48)), (3, .int x3_8), (4, .int x4_8), (5, .int (atv 262208 (s8 24) x3_8))] [] 119 := by
            intro s119  w119_
            have w119_ := h119 s119  w119_
            refine g_iload_n hF d_X0_settle_119 rfl 2 rfl ?_
            refine g_gets hF (fun A s h => EC_z1 h) m_1075 d_X0_settle_120 ?_
            refine g_iload hF d_X0_settle_123 4 rfl ?_
            refine g_callSN (As := [.ref (a 1), .int (atv 262208 (s8 24) x3_8)]) (rest := [.int x3_8]) hF (c_atT1 a r s119 (atv 262208 (s8 24) x3_8)) (Nat.le_of_ble_eq_true rfl) mS_X12_at nm_1213 rfl rfl (Nat.le_of_ble_eq_true rfl) d_X0_settle_125 (kQ ?_)
            refine g_iconst hF (v := 1) d_X0_settle_128 (by decide) ?_
            refine g_mmax hF (Nat.le_of_ble_eq_true rfl) m_1468 m_1131 m_23 m_1132 (Nat.le_of_ble_eq_true rfl) d_X0_settle_129 ?_
            refine g_iadd hF d_X0_settle_132 ?_
            refine g_istore_n hF [(3, .int (x3_8 + (if (atv 61 (gC 1) (atv 262208 (s8 24) x3_8)) < (1 : Int32) then (1 : Int32) else (atv 61 (gC 1) (atv 262208 (s8 24) x3_8))))), (0, .ref (r 4)), (2, .ref (r 48)), (4, .int x4_8), (5, .int (atv 262208 (s8 24) x3_8))] d_X0_settle_133 rfl hnn (by decide) rfl ?_
            refine g_iinc hF (x4_8 + (-1)) [(4, .int (x4_8 + (-1))), (3, .int (x3_8 + (if (atv 61 (gC 1) (atv 262208 (s8 24) x3_8)) < (1 : Int32) then (1 : Int32) else (atv 61 (gC 1) (atv 262208 (s8 24) x3_8))))), (0, .ref (r 4)), (2, .ref (r 48)), (5, .int (atv 262208 (s8 24) x3_8))] d_X0_settle_134 3 rfl rfl hnn (by decide) rfl ?_
            refine g_goto hF 8 d_X0_settle_137 (by decide) ?_
            obtain ⟨m8, hm8, w9⟩ := w119_
            exact g_sub (L' := [(0, .ref (r 4)), (2, .ref (r 48)), (3, .int (x3_8 + (if (atv 61 (gC 1) (atv 262208 (s8 24) x3_8)) < (1 : Int32) then (1 : Int32) else (atv 61 (gC 1) (atv 262208 (s8 24) x3_8))))), (4, .int (x4_8 + (-1)))]) [2, 3, 1, 0] rfl (ih8 m8 hm8 (x3_8 + (if (atv 61 (gC 1) (atv 262208 (s8 24) x3_8)) < (1 : Int32) then (1 : Int32) else (atv 61 (gC 1) (atv 262208 (s8 24) x3_8)))) (x4_8 + (-1)) s119 w9)
          obtain ⟨J93, h93, w6⟩ := w5
          have b93 : J93  → G SC r X s8 Z0 [] [(0, .ref (r 4)), (2, .ref (r 48)), (3, .int x3_8), (4, .int x4_8), (5, .int (atv 262208 (s8 24) x3_8)), (6, .int (atv 100 (s8 48) (atv 262208 (s8 24) (x3_8 + (1 : Int32)))))] [] 93 := by
            intro   w93_
            have w93_ := h93   w93_
            refine g_iload hF d_X0_settle_93 4 rfl ?_
            refine g_bipush hF (v := 14) d_X0_settle_95 (by decide) ?_
            refine g_icmp_lt (yv := 14) hF 119 d_X0_settle_97 (by decide) rfl (by decide) (fun c => ?_) (fun c => ?_)
            · have w7 := w93_.1 c
              exact g_sub (L' := [(0, .ref (r 4)), (2, .ref (r 48)), (3, .int x3_8), (4, .int x4_8), (5, .int (atv 262208 (s8 24) x3_8))]) [0, 1, 2, 3, 4] rfl (b119 s8 w7)
            · have w8 := w93_.2 c
              refine g_iload hF d_X0_settle_100 4 rfl ?_
              refine g_bipush hF (v := 17) d_X0_settle_102 (by decide) ?_
              refine g_icmp_gt (yv := 17) hF 119 d_X0_settle_104 (by decide) rfl (by decide) (fun c => ?_) (fun c => ?_)
              · have w9 := w8.1 c
                exact g_sub (L' := [(0, .ref (r 4)), (2, .ref (r 48)), (3, .int x3_8), (4, .int x4_8), (5, .int (atv 262208 (s8 24) x3_8))]) [0, 1, 2, 3, 4] rfl (b119 s8 w9)
              · have w10 := w8.2 c
                refine g_aload_n hF d_X0_settle_107 rfl 0 rfl ?_
                refine g_get (v := .ref (r 24)) hF 0 obC_4 (by decide) m_149 rfl d_X0_settle_108 ?_
                refine g_iload_n hF d_X0_settle_111 rfl 2 rfl ?_
                refine g_iconst hF (v := 1) d_X0_settle_112 (by decide) ?_
                refine g_iadd hF d_X0_settle_113 ?_
                refine g_iload hF d_X0_settle_114 5 rfl ?_
                refine g_callSN (As := [.ref (r 24), .int (x3_8 + (1 : Int32)), .int (atv 100 (s8 48) (atv 262208 (s8 24) (x3_8 + (1 : Int32))))]) (rest := []) hF (c_setv a r s8 arC_24 (by decide) (x3_8 + (1 : Int32)) (atv 100 (s8 48) (atv 262208 (s8 24) (x3_8 + (1 : Int32))))) (Nat.le_of_ble_eq_true rfl) mS_X12_set nm_1214 rfl rfl (Nat.le_of_ble_eq_true rfl) d_X0_settle_116 (kU ?_)
                exact g_sub (L' := [(0, .ref (r 4)), (2, .ref (r 48)), (3, .int x3_8), (4, .int x4_8), (5, .int (atv 262208 (s8 24) x3_8))]) [0, 1, 2, 3, 4] rfl (b119 (upF s8 24 (setv 262208 (s8 24) (x3_8 + (1 : Int32)) (atv 100 (s8 48) (atv 262208 (s8 24) (x3_8 + (1 : Int32)))))) w10)
          refine g_icmp_lt (yv := 8) hF 93 d_X0_settle_51 (by decide) rfl (by decide) (fun c => ?_) (fun c => ?_)
          · have w11 := w6.1 c
            exact g_sub (L' := [(0, .ref (r 4)), (2, .ref (r 48)), (3, .int x3_8), (4, .int x4_8), (5, .int (atv 262208 (s8 24) x3_8)), (6, .int (atv 100 (s8 48) (atv 262208 (s8 24) (x3_8 + (1 : Int32)))))]) [2, 3, 4, 5, 1, 0] rfl (b93  w11)
          · have w12 := w6.2 c
            refine g_iload hF d_X0_settle_54 1 rfl ?_
            refine g_bipush hF (v := 10) d_X0_settle_56 (by decide) ?_
            refine g_icmp_gt (yv := 10) hF 93 d_X0_settle_58 (by decide) rfl (by decide) (fun c => ?_) (fun c => ?_)
            · have w13 := w12.1 c
              exact g_sub (L' := [(0, .ref (r 4)), (2, .ref (r 48)), (3, .int x3_8), (4, .int x4_8), (5, .int (atv 262208 (s8 24) x3_8)), (6, .int (atv 100 (s8 48) (atv 262208 (s8 24) (x3_8 + (1 : Int32)))))]) [2, 3, 4, 5, 1, 0] rfl (b93  w13)
            · have w14 := w12.2 c
              refine g_iload hF d_X0_settle_61 0 rfl ?_
              refine g_if_lt hF 93 d_X0_settle_63 (by decide) rfl (fun c => ?_) (fun c => ?_)
              · have w15 := w14.1 c
                exact g_sub (L' := [(0, .ref (r 4)), (2, .ref (r 48)), (3, .int x3_8), (4, .int x4_8), (5, .int (atv 262208 (s8 24) x3_8)), (6, .int (atv 100 (s8 48) (atv 262208 (s8 24) (x3_8 + (1 : Int32)))))]) [2, 3, 4, 5, 1, 0] rfl (b93  w15)
              · have w16 := w14.2 c
                refine g_aload_n hF d_X0_settle_66 rfl 2 rfl ?_
                refine g_get (v := .ref (r 24)) hF 0 obC_4 (by decide) m_149 rfl d_X0_settle_67 ?_
                refine g_iload_n hF d_X0_settle_70 rfl 4 rfl ?_
                refine g_iload hF d_X0_settle_71 1 rfl ?_
                refine g_iconst hF (v := 3) d_X0_settle_73 (by decide) ?_
                refine g_iadd hF d_X0_settle_74 ?_
                refine g_callSN (As := [.ref (r 24), .int x3_8, .int ((atv 262208 (s8 24) x3_8) + (3 : Int32))]) (rest := []) hF (c_setv a r s8 arC_24 (by decide) x3_8 ((atv 262208 (s8 24) x3_8) + (3 : Int32))) (Nat.le_of_ble_eq_true rfl) mS_X12_set nm_1214 rfl rfl (Nat.le_of_ble_eq_true rfl) d_X0_settle_75 (kU ?_)
                refine g_aload_n hF d_X0_settle_78 rfl 2 rfl ?_
                refine g_get (v := .ref (r 24)) hF 0 obC_4 (by decide) m_149 rfl d_X0_settle_79 ?_
                refine g_iload_n hF d_X0_settle_82 rfl 4 rfl ?_
                refine g_iconst hF (v := 1) d_X0_settle_83 (by decide) ?_
                refine g_iadd hF d_X0_settle_84 ?_
                refine g_iload hF d_X0_settle_85 0 rfl ?_
                refine g_callSN (As := [.ref (r 24), .int (x3_8 + (1 : Int32)), .int (atv 100 (s8 48) (atv 262208 (s8 24) (x3_8 + (1 : Int32))))]) (rest := []) hF (c_setv a r (upF s8 24 (setv 262208 (s8 24) x3_8 ((atv 262208 (s8 24) x3_8) + (3 : Int32)))) arC_24 (by decide) (x3_8 + (1 : Int32)) (atv 100 (s8 48) (atv 262208 (s8 24) (x3_8 + (1 : Int32))))) (Nat.le_of_ble_eq_true rfl) mS_X12_set nm_1214 rfl rfl (Nat.le_of_ble_eq_true rfl) d_X0_settle_87 (kU ?_)
                refine g_goto hF 119 d_X0_settle_90 (by decide) ?_
                exact g_sub (L' := [(0, .ref (r 4)), (2, .ref (r 48)), (3, .int x3_8), (4, .int x4_8), (5, .int (atv 262208 (s8 24) x3_8))]) [2, 3, 4, 5, 1] rfl (b119 (upF (upF s8 24 (setv 262208 (s8 24) x3_8 ((atv 262208 (s8 24) x3_8) + (3 : Int32)))) 24 (setv 262208 ((upF s8 24 (setv 262208 (s8 24) x3_8 ((atv 262208 (s8 24) x3_8) + (3 : Int32)))) 24) (x3_8 + (1 : Int32)) (atv 100 (s8 48) (atv 262208 (s8 24) (x3_8 + (1 : Int32)))))) w16)
  exact g_sub (L' := [(0, .ref (r 4)), (2, .ref (r 48)), (3, .int a1), (4, .int (σ 4 1))]) [2, 4, 1, 0] rfl (b8 i8 a1 (σ 4 1) σ u8)
set_option maxHeartbeats 4000000 in
set_option maxRecDepth 100000 in
theorem kt_X0_thread (a : Nat → Nat) (r : Nat → Nat) {a1 : Int32} {σ : St} {Q : St → Prop} (w : wk_X0_thread a1 σ Q) (l : Launch) (D : va_G) (cy : Nat → ClassId) : Ct l D cy SC r (EC a gC) y_X0_thread (Cond.code y_X0_thread b_X0_thread 7 none) 1 [.ref (r 4), .int a1] σ Z0 [] (QV Q) QT0 := by
  unfold wk_X0_thread at w
  refine Ct_of (EC_ok a gC) (by decide) (Nat.le_of_ble_eq_true rfl) (by decide) (fun X hnn hF => ?_)
  show G SC r X σ Z0 [] [(0, .ref (r 4)), (1, .int a1)] [] 0
  refine g_iload_n hF d_X0_thread_0 rfl 1 rfl ?_
  refine g_istore_n hF [(2, .int a1), (0, .ref (r 4)), (1, .int a1)] d_X0_thread_1 rfl hnn (by decide) rfl ?_
  refine g_aload_n hF d_X0_thread_2 rfl 1 rfl ?_
  refine g_get (v := .int (σ 4 1)) hF 1 obC_4 (by decide) m_152 rfl d_X0_thread_3 ?_
  refine g_istore_n hF [(3, .int (σ 4 1)), (2, .int a1), (0, .ref (r 4)), (1, .int a1)] d_X0_thread_6 rfl hnn (by decide) rfl ?_
  obtain ⟨L7, ⟨i7, u7⟩, h7⟩ := w
  have b7 : ∀ (n7 : Nat) (x2_7 : Int32) (x3_7 : Int32) (s7 : St), L7 n7 x2_7 x3_7 s7 → G SC r X s7 Z0 [] [(0, .ref (r 4)), (2, .int x2_7), (3, .int x3_7)] [] 7 := by
    intro n7
    induction n7 using Nat.strongRecOn with
    | _ n7 ih7 =>
      intro x2_7 x3_7 s7  w7_
      have w7_ := h7 n7 x2_7 x3_7 s7  w7_
      refine g_iload_n hF d_X0_thread_7 rfl 2 rfl ?_
      refine g_if_le hF 131 d_X0_thread_8 (by decide) rfl (fun c => ?_) (fun c => ?_)
      · have w1 := w7_.1 c
        exact g_vret hF rfl d_X0_thread_131 ⟨rfl, rfl, rfl, w1⟩
      · have w2 := w7_.2 c
        refine g_iload_n hF d_X0_thread_11 rfl 1 rfl ?_
        refine g_aload_n hF d_X0_thread_12 rfl 0 rfl ?_
        refine g_get (v := .int (s7 4 1)) hF 1 obC_4 (by decide) m_152 rfl d_X0_thread_13 ?_
        refine g_icmp_ge hF 131 d_X0_thread_16 (by decide) rfl rfl (fun c => ?_) (fun c => ?_)
        · have w3 := w2.1 c
          exact g_vret hF rfl d_X0_thread_131 ⟨rfl, rfl, rfl, w3⟩
        · have w4 := w2.2 c
          refine g_aload_n hF d_X0_thread_19 rfl 0 rfl ?_
          refine g_get (v := .ref (r 24)) hF 0 obC_4 (by decide) m_149 rfl d_X0_thread_20 ?_
          refine g_iload_n hF d_X0_thread_23 rfl 1 rfl ?_
          refine g_callSN (As := [.ref (r 24), .int x2_7]) (rest := []) hF (c_atv a r s7 arC_24 (by decide) x2_7) (Nat.le_of_ble_eq_true rfl) mS_X12_at nm_1213 rfl rfl (Nat.le_of_ble_eq_true rfl) d_X0_thread_24 (kQ ?_)
          refine g_top (v := (atv 262208 (s7 24) x2_7)) rfl ?_
          refine g_istore hF [(4, .int (atv 262208 (s7 24) x2_7)), (0, .ref (r 4)), (2, .int x2_7), (3, .int x3_7)] d_X0_thread_27 hnn (by decide) rfl ?_
          refine g_iload hF d_X0_thread_29 0 rfl ?_
          refine g_bipush hF (v := 26) d_X0_thread_31 (by decide) ?_
          obtain ⟨J110, h110, w5⟩ := w4
          have b110 : ∀ (s110 : St), J110 s110 → G SC r X s110 Z0 [] [(0, .ref (r 4)), (2, .int x2_7), (3, .int x3_7), (4, .int (atv 262208 (s7 24) x2_7))] [] 110 := by
            intro s110  w110_
            have w110_ := h110 s110  w110_
            refine g_iload_n hF d_X0_thread_110 rfl 1 rfl ?_
            refine g_gets hF (fun A s h => EC_z1 h) m_1075 d_X0_thread_111 ?_
            refine g_iload hF d_X0_thread_114 3 rfl ?_
            refine g_callSN (As := [.ref (a 1), .int (atv 262208 (s7 24) x2_7)]) (rest := [.int x2_7]) hF (c_atT1 a r s110 (atv 262208 (s7 24) x2_7)) (Nat.le_of_ble_eq_true rfl) mS_X12_at nm_1213 rfl rfl (Nat.le_of_ble_eq_true rfl) d_X0_thread_116 (kQ ?_)
            refine g_iconst hF (v := 1) d_X0_thread_119 (by decide) ?_
            refine g_mmax hF (Nat.le_of_ble_eq_true rfl) m_1468 m_1131 m_23 m_1132 (Nat.le_of_ble_eq_true rfl) d_X0_thread_120 ?_
            refine g_iadd hF d_X0_thread_123 ?_
            refine g_istore_n hF [(2, .int (x2_7 + (if (atv 61 (gC 1) (atv 262208 (s7 24) x2_7)) < (1 : Int32) then (1 : Int32) else (atv 61 (gC 1) (atv 262208 (s7 24) x2_7))))), (0, .ref (r 4)), (3, .int x3_7), (4, .int (atv 262208 (s7 24) x2_7))] d_X0_thread_124 rfl hnn (by decide) rfl ?_
            refine g_iinc hF (x3_7 + (-1)) [(3, .int (x3_7 + (-1))), (2, .int (x2_7 + (if (atv 61 (gC 1) (atv 262208 (s7 24) x2_7)) < (1 : Int32) then (1 : Int32) else (atv 61 (gC 1) (atv 262208 (s7 24) x2_7))))), (0, .ref (r 4)), (4, .int (atv 262208 (s7 24) x2_7))] d_X0_thread_125 2 rfl rfl hnn (by decide) rfl ?_
            refine g_goto hF 7 d_X0_thread_128 (by decide) ?_
            obtain ⟨m7, hm7, w9⟩ := w110_
            exact g_sub (L' := [(0, .ref (r 4)), (2, .int (x2_7 + (if (atv 61 (gC 1) (atv 262208 (s7 24) x2_7)) < (1 : Int32) then (1 : Int32) else (atv 61 (gC 1) (atv 262208 (s7 24) x2_7))))), (3, .int (x3_7 + (-1)))]) [2, 1, 0] rfl (ih7 m7 hm7 (x2_7 + (if (atv 61 (gC 1) (atv 262208 (s7 24) x2_7)) < (1 : Int32) then (1 : Int32) else (atv 61 (gC 1) (atv 262208 (s7 24) x2_7)))) (x3_7 + (-1)) s110 w9)
          refine g_icmp_lt (yv := 26) hF 110 d_X0_thread_33 (by decide) rfl (by decide) (fun c => ?_) (fun c => ?_)
          · have w6 := w5.1 c
            exact g_sub (L' := [(0, .ref (r 4)), (2, .int x2_7), (3, .int x3_7), (4, .int (atv 262208 (s7 24) x2_7))]) [1, 2, 3, 0] rfl (b110 s7 w6)
          · have w7 := w5.2 c
            refine g_iload hF d_X0_thread_36 0 rfl ?_
            refine g_bipush hF (v := 28) d_X0_thread_38 (by decide) ?_
            refine g_icmp_gt (yv := 28) hF 110 d_X0_thread_40 (by decide) rfl (by decide) (fun c => ?_) (fun c => ?_)
            · have w8 := w7.1 c
              exact g_sub (L' := [(0, .ref (r 4)), (2, .int x2_7), (3, .int x3_7), (4, .int (atv 262208 (s7 24) x2_7))]) [1, 2, 3, 0] rfl (b110 s7 w8)
            · have w9 := w7.2 c
              refine g_aload_n hF d_X0_thread_43 rfl 1 rfl ?_
              refine g_get (v := .ref (r 24)) hF 0 obC_4 (by decide) m_149 rfl d_X0_thread_44 ?_
              refine g_iload_n hF d_X0_thread_47 rfl 2 rfl ?_
              refine g_iconst hF (v := 1) d_X0_thread_48 (by decide) ?_
              refine g_iadd hF d_X0_thread_49 ?_
              refine g_callSN (As := [.ref (r 24), .int (x2_7 + (1 : Int32))]) (rest := []) hF (c_atv a r s7 arC_24 (by decide) (x2_7 + (1 : Int32))) (Nat.le_of_ble_eq_true rfl) mS_X12_at nm_1213 rfl rfl (Nat.le_of_ble_eq_true rfl) d_X0_thread_50 (kQ ?_)
              refine g_top (v := (atv 262208 (s7 24) (x2_7 + (1 : Int32)))) rfl ?_
              refine g_istore hF [(5, .int (atv 262208 (s7 24) (x2_7 + (1 : Int32)))), (4, .int (atv 262208 (s7 24) x2_7)), (0, .ref (r 4)), (2, .int x2_7), (3, .int x3_7)] d_X0_thread_53 hnn (by decide) rfl ?_
              refine g_iconst hF (v := 0) d_X0_thread_55 (by decide) ?_
              refine g_istore hF [(6, .int 0), (5, .int (atv 262208 (s7 24) (x2_7 + (1 : Int32)))), (4, .int (atv 262208 (s7 24) x2_7)), (0, .ref (r 4)), (2, .int x2_7), (3, .int x3_7)] d_X0_thread_56 hnn (by decide) rfl ?_
              obtain ⟨L58, ⟨i58, u58⟩, h58⟩ := w9
              have b58 : ∀ (n58 : Nat) (x5_58 : Int32) (x6_58 : Int32), L58 n58 x5_58 x6_58 → G SC r X s7 Z0 [] [(0, .ref (r 4)), (2, .int x2_7), (3, .int x3_7), (4, .int (atv 262208 (s7 24) x2_7)), (5, .int x5_58), (6, .int x6_58)] [] 58 := by
                intro n58
                induction n58 using Nat.strongRecOn with
                | _ n58 ih58 =>
                  intro x5_58 x6_58  w58_
                  have w58_ := h58 n58 x5_58 x6_58  w58_
                  refine g_iload hF d_X0_thread_58 5 rfl ?_
                  refine g_bipush hF (v := 100) d_X0_thread_60 (by decide) ?_
                  obtain ⟨J98, h98, w10⟩ := w58_
                  have b98 : J98  → G SC r X s7 Z0 [] [(0, .ref (r 4)), (2, .int x2_7), (3, .int x3_7), (4, .int (atv 262208 (s7 24) x2_7)), (5, .int x5_58)] [] 98 := by
                    intro   w98_
                    have w98_ := h98   w98_
                    refine g_aload_n hF d_X0_thread_98 rfl 0 rfl ?_
                    refine g_get (v := .ref (r 24)) hF 0 obC_4 (by decide) m_149 rfl d_X0_thread_99 ?_
                    refine g_iload_n hF d_X0_thread_102 rfl 1 rfl ?_
                    refine g_iconst hF (v := 1) d_X0_thread_103 (by decide) ?_
                    refine g_iadd hF d_X0_thread_104 ?_
                    refine g_iload hF d_X0_thread_105 4 rfl ?_
                    refine g_callSN (As := [.ref (r 24), .int (x2_7 + (1 : Int32)), .int x5_58]) (rest := []) hF (c_setv a r s7 arC_24 (by decide) (x2_7 + (1 : Int32)) x5_58) (Nat.le_of_ble_eq_true rfl) mS_X12_set nm_1214 rfl rfl (Nat.le_of_ble_eq_true rfl) d_X0_thread_107 (kU ?_)
                    exact g_sub (L' := [(0, .ref (r 4)), (2, .int x2_7), (3, .int x3_7), (4, .int (atv 262208 (s7 24) x2_7))]) [0, 1, 2, 3] rfl (b110 (upF s7 24 (setv 262208 (s7 24) (x2_7 + (1 : Int32)) x5_58)) w98_)
                  refine g_icmp_ge (yv := 100) hF 98 d_X0_thread_62 (by decide) rfl (by decide) (fun c => ?_) (fun c => ?_)
                  · have w11 := w10.1 c
                    exact g_sub (L' := [(0, .ref (r 4)), (2, .int x2_7), (3, .int x3_7), (4, .int (atv 262208 (s7 24) x2_7)), (5, .int x5_58)]) [0, 1, 2, 3, 4] rfl (b98  w11)
                  · have w12 := w10.2 c
                    refine g_aload_n hF d_X0_thread_65 rfl 0 rfl ?_
                    refine g_get (v := .ref (r 24)) hF 0 obC_4 (by decide) m_149 rfl d_X0_thread_66 ?_
                    refine g_iload hF d_X0_thread_69 4 rfl ?_
                    refine g_callSN (As := [.ref (r 24), .int x5_58]) (rest := []) hF (c_atv a r s7 arC_24 (by decide) x5_58) (Nat.le_of_ble_eq_true rfl) mS_X12_at nm_1213 rfl rfl (Nat.le_of_ble_eq_true rfl) d_X0_thread_71 (kQ ?_)
                    refine g_top (v := (atv 262208 (s7 24) x5_58)) rfl ?_
                    refine g_bipush hF (v := 26) d_X0_thread_74 (by decide) ?_
                    refine g_icmp_ne (yv := 26) hF 98 d_X0_thread_76 (by decide) rfl (by decide) (fun c => ?_) (fun c => ?_)
                    · have w13 := w12.1 c
                      exact g_sub (L' := [(0, .ref (r 4)), (2, .int x2_7), (3, .int x3_7), (4, .int (atv 262208 (s7 24) x2_7)), (5, .int x5_58)]) [0, 1, 2, 3, 4] rfl (b98  w13)
                    · have w14 := w12.2 c
                      refine g_aload_n hF d_X0_thread_79 rfl 0 rfl ?_
                      refine g_get (v := .ref (r 24)) hF 0 obC_4 (by decide) m_149 rfl d_X0_thread_80 ?_
                      refine g_iload hF d_X0_thread_83 4 rfl ?_
                      refine g_iconst hF (v := 1) d_X0_thread_85 (by decide) ?_
                      refine g_iadd hF d_X0_thread_86 ?_
                      refine g_callSN (As := [.ref (r 24), .int (x5_58 + (1 : Int32))]) (rest := []) hF (c_atv a r s7 arC_24 (by decide) (x5_58 + (1 : Int32))) (Nat.le_of_ble_eq_true rfl) mS_X12_at nm_1213 rfl rfl (Nat.le_of_ble_eq_true rfl) d_X0_thread_87 (kQ ?_)
                      refine g_top (v := (atv 262208 (s7 24) (x5_58 + (1 : Int32)))) rfl ?_
                      refine g_istore hF [(5, .int (atv 262208 (s7 24) (x5_58 + (1 : Int32)))), (0, .ref (r 4)), (2, .int x2_7), (3, .int x3_7), (4, .int (atv 262208 (s7 24) x2_7)), (6, .int x6_58)] d_X0_thread_90 hnn (by decide) rfl ?_
                      refine g_iinc hF (x6_58 + 1) [(6, .int (x6_58 + 1)), (5, .int (atv 262208 (s7 24) (x5_58 + (1 : Int32)))), (0, .ref (r 4)), (2, .int x2_7), (3, .int x3_7), (4, .int (atv 262208 (s7 24) x2_7))] d_X0_thread_92 5 rfl rfl hnn (by decide) rfl ?_
                      refine g_goto hF 58 d_X0_thread_95 (by decide) ?_
                      obtain ⟨m58, hm58, w9⟩ := w14
                      exact g_sub (L' := [(0, .ref (r 4)), (2, .int x2_7), (3, .int x3_7), (4, .int (atv 262208 (s7 24) x2_7)), (5, .int (atv 262208 (s7 24) (x5_58 + (1 : Int32)))), (6, .int (x6_58 + 1))]) [2, 3, 4, 5, 1, 0] rfl (ih58 m58 hm58 (atv 262208 (s7 24) (x5_58 + (1 : Int32))) (x6_58 + 1) w9)
              exact g_sub (L' := [(0, .ref (r 4)), (2, .int x2_7), (3, .int x3_7), (4, .int (atv 262208 (s7 24) x2_7)), (5, .int (atv 262208 (s7 24) (x2_7 + (1 : Int32)))), (6, .int 0)]) [3, 4, 5, 2, 1, 0] rfl (b58 i58 (atv 262208 (s7 24) (x2_7 + (1 : Int32))) (0 : Int32) u58)
  exact g_sub (L' := [(0, .ref (r 4)), (2, .int a1), (3, .int (σ 4 1))]) [2, 1, 0] rfl (b7 i7 a1 (σ 4 1) σ u7)
set_option maxHeartbeats 4000000 in
set_option maxRecDepth 100000 in
theorem kt_X1_functionEnd (a : Nat → Nat) (r : Nat → Nat) {σ : St} {Q : St → Prop} (w : wk_X1_functionEnd  σ Q) (l : Launch) (D : va_G) (cy : Nat → ClassId) : Ct l D cy SC r (EC a gC) y_X1_functionEnd (Cond.code y_X1_functionEnd b_X1_functionEnd 7 none) 2 [.ref (r 8)] σ Z0 [] (QV Q) QT0 := by
  unfold wk_X1_functionEnd at w
  refine Ct_of (EC_ok a gC) (by decide) (Nat.le_of_ble_eq_true rfl) (by decide) (fun X hnn hF => ?_)
  show G SC r X σ Z0 [] [(0, .ref (r 8))] [] 0
  refine g_aload_n hF d_X1_functionEnd_0 rfl 0 rfl ?_
  refine g_get (v := .ref (r 4)) hF 4 obC_8 (by decide) m_493 rfl d_X1_functionEnd_1 ?_
  refine g_iconst hF (v := 1) d_X1_functionEnd_4 (by decide) ?_
  refine g_iconst hF (v := 0) d_X1_functionEnd_5 (by decide) ?_
  refine g_iconst hF (v := 0) d_X1_functionEnd_6 (by decide) ?_
  refine g_iconst hF (v := 0) d_X1_functionEnd_7 (by decide) ?_
  refine g_callVN (As := [.int 1, .int 0, .int 0, .int 0]) (rest := []) hF (fun l D cy => kt_X0_emit a r w l D cy) (Nat.le_of_ble_eq_true rfl) mV_X0_emit nm_1379 (recv_ob obC_4) rfl rfl (Nat.le_of_ble_eq_true rfl) d_X1_functionEnd_8 (qI (fun v8 s8 w1 => ?_))
  refine g_pop hF d_X1_functionEnd_11 rfl ?_
  refine g_aload_n hF d_X1_functionEnd_12 rfl 0 rfl ?_
  refine g_get (v := .ref (r 4)) hF 4 obC_8 (by decide) m_493 rfl d_X1_functionEnd_13 ?_
  refine g_bipush hF (v := 33) d_X1_functionEnd_16 (by decide) ?_
  refine g_iconst hF (v := 0) d_X1_functionEnd_18 (by decide) ?_
  refine g_iconst hF (v := 0) d_X1_functionEnd_19 (by decide) ?_
  refine g_iconst hF (v := 0) d_X1_functionEnd_20 (by decide) ?_
  refine g_callVN (As := [.int 33, .int 0, .int 0, .int 0]) (rest := []) hF (fun l D cy => kt_X0_emit a r w1 l D cy) (Nat.le_of_ble_eq_true rfl) mV_X0_emit nm_1379 (recv_ob obC_4) rfl rfl (Nat.le_of_ble_eq_true rfl) d_X1_functionEnd_21 (qI (fun v21 s21 w2 => ?_))
  refine g_pop hF d_X1_functionEnd_24 rfl ?_
  refine g_aload_n hF d_X1_functionEnd_25 rfl 0 rfl ?_
  refine g_get (v := .ref (r 5)) hF 3 obC_8 (by decide) m_492 rfl d_X1_functionEnd_26 ?_
  refine g_getN (v := .ref (r 28)) hF 5 obC_5 (by decide) nm_235 rfl d_X1_functionEnd_29 ?_
  refine g_aload_n hF d_X1_functionEnd_32 rfl 0 rfl ?_
  refine g_get (v := .ref (r 6)) hF 2 obC_8 (by decide) m_491 rfl d_X1_functionEnd_33 ?_
  refine g_getN (v := .int (s21 6 6)) hF 6 obC_6 (by decide) nm_325 rfl d_X1_functionEnd_36 ?_
  refine g_callSN (As := [.ref (r 28), .int (s21 6 6)]) (rest := []) hF (c_atv a r s21 arC_28 (by decide) (s21 6 6)) (Nat.le_of_ble_eq_true rfl) mS_X12_at nm_1356 rfl rfl (Nat.le_of_ble_eq_true rfl) d_X1_functionEnd_39 (kQ ?_)
  refine g_top (v := (atv 10100 (s21 28) (s21 6 6))) rfl ?_
  refine g_istore_n hF [(1, .int (atv 10100 (s21 28) (s21 6 6))), (0, .ref (r 8))] d_X1_functionEnd_42 rfl hnn (by decide) rfl ?_
  refine g_aload_n hF d_X1_functionEnd_43 rfl 1 rfl ?_
  refine g_get (v := .ref (r 5)) hF 3 obC_8 (by decide) m_492 rfl d_X1_functionEnd_44 ?_
  refine g_getN (v := .ref (r 27)) hF 4 obC_5 (by decide) nm_232 rfl d_X1_functionEnd_47 ?_
  refine g_aload_n hF d_X1_functionEnd_50 rfl 1 rfl ?_
  refine g_get (v := .ref (r 6)) hF 2 obC_8 (by decide) m_491 rfl d_X1_functionEnd_51 ?_
  refine g_getN (v := .int (s21 6 6)) hF 6 obC_6 (by decide) nm_325 rfl d_X1_functionEnd_54 ?_
  refine g_callSN (As := [.ref (r 27), .int (s21 6 6)]) (rest := []) hF (c_atv a r s21 arC_27 (by decide) (s21 6 6)) (Nat.le_of_ble_eq_true rfl) mS_X12_at nm_1356 rfl rfl (Nat.le_of_ble_eq_true rfl) d_X1_functionEnd_57 (kQ ?_)
  refine g_top (v := (atv 10100 (s21 27) (s21 6 6))) rfl ?_
  refine g_callSN (As := [.int (atv 10100 (s21 27) (s21 6 6))]) (rest := []) hF (fun l D cy => kt_X8_parameters a r w2 l D cy) (Nat.le_of_ble_eq_true rfl) mS_X8_parameters nm_1462 rfl rfl (Nat.le_of_ble_eq_true rfl) d_X1_functionEnd_60 (qIr (fun v60 w3 => ?_))
  refine g_istore_n hF [(2, .int v60), (1, .int (atv 10100 (s21 28) (s21 6 6))), (0, .ref (r 8))] d_X1_functionEnd_63 rfl hnn (by decide) rfl ?_
  refine g_iconst hF (v := 0) d_X1_functionEnd_64 (by decide) ?_
  refine g_istore_n hF [(3, .int 0), (2, .int v60), (1, .int (atv 10100 (s21 28) (s21 6 6))), (0, .ref (r 8))] d_X1_functionEnd_65 rfl hnn (by decide) rfl ?_
  refine g_iconst hF (v := 0) d_X1_functionEnd_66 (by decide) ?_
  refine g_istore hF [(4, .int 0), (3, .int 0), (2, .int v60), (1, .int (atv 10100 (s21 28) (s21 6 6))), (0, .ref (r 8))] d_X1_functionEnd_67 hnn (by decide) rfl ?_
  refine g_iconst hF (v := 0) d_X1_functionEnd_69 (by decide) ?_
  refine g_istore hF [(5, .int 0), (4, .int 0), (3, .int 0), (2, .int v60), (1, .int (atv 10100 (s21 28) (s21 6 6))), (0, .ref (r 8))] d_X1_functionEnd_70 hnn (by decide) rfl ?_
  obtain ⟨L72, ⟨i72, u72⟩, h72⟩ := w3
  have b72 : ∀ (n72 : Nat) (x3_72 : Int32) (x4_72 : Int32) (x5_72 : Int32) (s72 : St), L72 n72 x3_72 x4_72 x5_72 s72 → G SC r X s72 Z0 [] [(0, .ref (r 8)), (1, .int (atv 10100 (s21 28) (s21 6 6))), (2, .int v60), (3, .int x3_72), (4, .int x4_72), (5, .int x5_72)] [] 72 := by
    intro n72
    induction n72 using Nat.strongRecOn with
    | _ n72 ih72 =>
      intro x3_72 x4_72 x5_72 s72  w72_
      have w72_ := h72 n72 x3_72 x4_72 x5_72 s72  w72_
      refine g_iload hF d_X1_functionEnd_72 5 rfl ?_
      refine g_aload_n hF d_X1_functionEnd_74 rfl 0 rfl ?_
      refine g_get (v := .ref (r 6)) hF 2 obC_8 (by decide) m_491 rfl d_X1_functionEnd_75 ?_
      refine g_getN (v := .int (s72 6 10)) hF 10 obC_6 (by decide) nm_332 rfl d_X1_functionEnd_78 ?_
      refine g_icmp_ge hF 183 d_X1_functionEnd_81 (by decide) rfl rfl (fun c => ?_) (fun c => ?_)
      · have w4 := w72_.1 c
        refine g_aload_n hF d_X1_functionEnd_183 rfl 0 rfl ?_
        refine g_get (v := .ref (r 4)) hF 4 obC_8 (by decide) m_493 rfl d_X1_functionEnd_184 ?_
        refine g_getN (v := .ref (r 24)) hF 0 obC_4 (by decide) nm_151 rfl d_X1_functionEnd_187 ?_
        refine g_iload_n hF d_X1_functionEnd_190 rfl 1 rfl ?_
        refine g_iload_n hF d_X1_functionEnd_191 rfl 3 rfl ?_
        refine g_callSN (As := [.ref (r 24), .int (atv 10100 (s21 28) (s21 6 6)), .int x3_72]) (rest := []) hF (c_setv a r s72 arC_24 (by decide) (atv 10100 (s21 28) (s21 6 6)) x3_72) (Nat.le_of_ble_eq_true rfl) mS_X12_set nm_1409 rfl rfl (Nat.le_of_ble_eq_true rfl) d_X1_functionEnd_192 (kU ?_)
        refine g_aload_n hF d_X1_functionEnd_195 rfl 0 rfl ?_
        refine g_get (v := .ref (r 4)) hF 4 obC_8 (by decide) m_493 rfl d_X1_functionEnd_196 ?_
        refine g_getN (v := .ref (r 24)) hF 0 obC_4 (by decide) nm_151 rfl d_X1_functionEnd_199 ?_
        refine g_iload_n hF d_X1_functionEnd_202 rfl 1 rfl ?_
        refine g_iconst hF (v := 1) d_X1_functionEnd_203 (by decide) ?_
        refine g_iadd hF d_X1_functionEnd_204 ?_
        refine g_aload_n hF d_X1_functionEnd_205 rfl 0 rfl ?_
        refine g_get (v := .ref (r 6)) hF 2 obC_8 (by decide) m_491 rfl d_X1_functionEnd_206 ?_
        refine g_getN (v := .int (s72 6 10)) hF 10 obC_6 (by decide) nm_332 rfl d_X1_functionEnd_209 ?_
        refine g_callSN (As := [.ref (r 24), .int ((atv 10100 (s21 28) (s21 6 6)) + (1 : Int32)), .int (s72 6 10)]) (rest := []) hF (c_setv a r (upF s72 24 (setv 262208 (s72 24) (atv 10100 (s21 28) (s21 6 6)) x3_72)) arC_24 (by decide) ((atv 10100 (s21 28) (s21 6 6)) + (1 : Int32)) (s72 6 10)) (Nat.le_of_ble_eq_true rfl) mS_X12_set nm_1409 rfl rfl (Nat.le_of_ble_eq_true rfl) d_X1_functionEnd_212 (kU ?_)
        refine g_aload_n hF d_X1_functionEnd_215 rfl 0 rfl ?_
        refine g_get (v := .ref (r 4)) hF 4 obC_8 (by decide) m_493 rfl d_X1_functionEnd_216 ?_
        refine g_getN (v := .ref (r 24)) hF 0 obC_4 (by decide) nm_151 rfl d_X1_functionEnd_219 ?_
        refine g_iload_n hF d_X1_functionEnd_222 rfl 1 rfl ?_
        refine g_iconst hF (v := 2) d_X1_functionEnd_223 (by decide) ?_
        refine g_iadd hF d_X1_functionEnd_224 ?_
        refine g_iload_n hF d_X1_functionEnd_225 rfl 2 rfl ?_
        refine g_callSN (As := [.ref (r 24), .int ((atv 10100 (s21 28) (s21 6 6)) + (2 : Int32)), .int v60]) (rest := []) hF (c_setv a r (upF (upF s72 24 (setv 262208 (s72 24) (atv 10100 (s21 28) (s21 6 6)) x3_72)) 24 (setv 262208 ((upF s72 24 (setv 262208 (s72 24) (atv 10100 (s21 28) (s21 6 6)) x3_72)) 24) ((atv 10100 (s21 28) (s21 6 6)) + (1 : Int32)) (s72 6 10))) arC_24 (by decide) ((atv 10100 (s21 28) (s21 6 6)) + (2 : Int32)) v60) (Nat.le_of_ble_eq_true rfl) mS_X12_set nm_1409 rfl rfl (Nat.le_of_ble_eq_true rfl) d_X1_functionEnd_226 (kU ?_)
        refine g_aload_n hF d_X1_functionEnd_229 rfl 0 rfl ?_
        refine g_get (v := .ref (r 4)) hF 4 obC_8 (by decide) m_493 rfl d_X1_functionEnd_230 ?_
        refine g_getN (v := .ref (r 24)) hF 0 obC_4 (by decide) nm_151 rfl d_X1_functionEnd_233 ?_
        refine g_iload_n hF d_X1_functionEnd_236 rfl 1 rfl ?_
        refine g_iconst hF (v := 3) d_X1_functionEnd_237 (by decide) ?_
        refine g_iadd hF d_X1_functionEnd_238 ?_
        refine g_iload hF d_X1_functionEnd_239 4 rfl ?_
        refine g_callSN (As := [.ref (r 24), .int ((atv 10100 (s21 28) (s21 6 6)) + (3 : Int32)), .int x4_72]) (rest := []) hF (c_setv a r (upF (upF (upF s72 24 (setv 262208 (s72 24) (atv 10100 (s21 28) (s21 6 6)) x3_72)) 24 (setv 262208 ((upF s72 24 (setv 262208 (s72 24) (atv 10100 (s21 28) (s21 6 6)) x3_72)) 24) ((atv 10100 (s21 28) (s21 6 6)) + (1 : Int32)) (s72 6 10))) 24 (setv 262208 ((upF (upF s72 24 (setv 262208 (s72 24) (atv 10100 (s21 28) (s21 6 6)) x3_72)) 24 (setv 262208 ((upF s72 24 (setv 262208 (s72 24) (atv 10100 (s21 28) (s21 6 6)) x3_72)) 24) ((atv 10100 (s21 28) (s21 6 6)) + (1 : Int32)) (s72 6 10))) 24) ((atv 10100 (s21 28) (s21 6 6)) + (2 : Int32)) v60)) arC_24 (by decide) ((atv 10100 (s21 28) (s21 6 6)) + (3 : Int32)) x4_72) (Nat.le_of_ble_eq_true rfl) mS_X12_set nm_1409 rfl rfl (Nat.le_of_ble_eq_true rfl) d_X1_functionEnd_241 (kU ?_)
        refine g_aload_n hF d_X1_functionEnd_244 rfl 0 rfl ?_
        refine g_get (v := .ref (r 4)) hF 4 obC_8 (by decide) m_493 rfl d_X1_functionEnd_245 ?_
        refine g_iload_n hF d_X1_functionEnd_248 rfl 1 rfl ?_
        refine g_iconst hF (v := 4) d_X1_functionEnd_249 (by decide) ?_
        refine g_iadd hF d_X1_functionEnd_250 ?_
        refine g_aload_n hF d_X1_functionEnd_251 rfl 0 rfl ?_
        refine g_get (v := .ref (r 48)) hF 17 obC_8 (by decide) m_509 rfl d_X1_functionEnd_252 ?_
        refine g_callVN (As := [.int ((atv 10100 (s21 28) (s21 6 6)) + (4 : Int32)), .ref (r 48)]) (rest := []) hF (fun l D cy => kt_X0_settle_r48 a r w4 l D cy) (Nat.le_of_ble_eq_true rfl) mV_X0_settle nm_1464 (recv_ob obC_4) rfl rfl (Nat.le_of_ble_eq_true rfl) d_X1_functionEnd_255 (qV (fun s255 w5 => ?_))
        refine g_aload_n hF d_X1_functionEnd_258 rfl 0 rfl ?_
        refine g_get (v := .ref (r 6)) hF 2 obC_8 (by decide) m_491 rfl d_X1_functionEnd_259 ?_
        refine g_getN (v := .int (s255 6 2)) hF 2 obC_6 (by decide) nm_312 rfl d_X1_functionEnd_262 ?_
        refine g_iconst hF (v := 1) d_X1_functionEnd_265 (by decide) ?_
        obtain ⟨J279, h279, w6⟩ := w5
        have b279 : ∀ (s279 : St), J279 s279 → G SC r X s279 Z0 [] [(0, .ref (r 8))] [] 279 := by
          intro s279  w279_
          have w279_ := h279 s279  w279_
          refine g_aload_n hF d_X1_functionEnd_279 rfl 0 rfl ?_
          refine g_get (v := .ref (r 6)) hF 2 obC_8 (by decide) m_491 rfl d_X1_functionEnd_280 ?_
          refine g_callVN (As := []) (rest := []) hF (fun l D cy => kt_X11_leave a r w279_ l D cy) (Nat.le_of_ble_eq_true rfl) mV_X11_leave nm_1473 (recv_ob obC_6) rfl rfl (Nat.le_of_ble_eq_true rfl) d_X1_functionEnd_283 (qV (fun s283 w7 => ?_))
          exact g_vret hF rfl d_X1_functionEnd_286 ⟨rfl, rfl, rfl, w7⟩
        refine g_icmp_le (yv := 1) hF 279 d_X1_functionEnd_266 (by decide) rfl (by decide) (fun c => ?_) (fun c => ?_)
        · have w8 := w6.1 c
          exact g_sub (L' := [(0, .ref (r 8))]) [0] rfl (b279 s255 w8)
        · have w9 := w6.2 c
          refine g_aload_n hF d_X1_functionEnd_269 rfl 0 rfl ?_
          refine g_get (v := .ref (r 4)) hF 4 obC_8 (by decide) m_493 rfl d_X1_functionEnd_270 ?_
          refine g_iload_n hF d_X1_functionEnd_273 rfl 1 rfl ?_
          refine g_iconst hF (v := 4) d_X1_functionEnd_274 (by decide) ?_
          refine g_iadd hF d_X1_functionEnd_275 ?_
          refine g_callVN (As := [.int ((atv 10100 (s21 28) (s21 6 6)) + (4 : Int32))]) (rest := []) hF (fun l D cy => kt_X0_thread a r w9 l D cy) (Nat.le_of_ble_eq_true rfl) mV_X0_thread nm_1469 (recv_ob obC_4) rfl rfl (Nat.le_of_ble_eq_true rfl) d_X1_functionEnd_276 (qV (fun s276 w10 => ?_))
          exact g_sub (L' := [(0, .ref (r 8))]) [0] rfl (b279 s276 w10)
      · have w11 := w72_.2 c
        refine g_aload_n hF d_X1_functionEnd_84 rfl 0 rfl ?_
        refine g_get (v := .ref (r 6)) hF 2 obC_8 (by decide) m_491 rfl d_X1_functionEnd_85 ?_
        refine g_getN (v := .ref (r 43)) hF 14 obC_6 (by decide) nm_341 rfl d_X1_functionEnd_88 ?_
        refine g_iload hF d_X1_functionEnd_91 5 rfl ?_
        refine g_callSN (As := [.ref (r 43), .int x5_72]) (rest := []) hF (c_atv a r s72 arC_43 (by decide) x5_72) (Nat.le_of_ble_eq_true rfl) mS_X12_at nm_1356 rfl rfl (Nat.le_of_ble_eq_true rfl) d_X1_functionEnd_93 (kQ ?_)
        refine g_top (v := (atv 100 (s72 43) x5_72)) rfl ?_
        obtain ⟨J104, h104, w12⟩ := w11
        have b104 : ∀ (y0_104 : Int32), y0_104 = 0 ∨ y0_104 = 1 → J104 y0_104 → G SC r X s72 Z0 [] [(0, .ref (r 8)), (1, .int (atv 10100 (s21 28) (s21 6 6))), (2, .int v60), (3, .int x3_72), (4, .int x4_72), (5, .int x5_72)] [.int y0_104] 104 := by
          intro y0_104 hy0_104 w104_
          have w104_ := h104 y0_104 hy0_104 w104_
          refine g_istore hF [(6, .int y0_104), (0, .ref (r 8)), (1, .int (atv 10100 (s21 28) (s21 6 6))), (2, .int v60), (3, .int x3_72), (4, .int x4_72), (5, .int x5_72)] d_X1_functionEnd_104 hnn (by decide) rfl ?_
          refine g_aload_n hF d_X1_functionEnd_106 rfl 1 rfl ?_
          refine g_get (v := .ref (r 48)) hF 17 obC_8 (by decide) m_509 rfl d_X1_functionEnd_107 ?_
          refine g_iload hF d_X1_functionEnd_110 6 rfl ?_
          refine g_iload hF d_X1_functionEnd_112 0 rfl ?_
          obtain ⟨J122, h122, w13⟩ := w104_
          have b122 : ∀ (y2_122 : Int32), J122 y2_122 → G SC r X s72 Z0 [] [(0, .ref (r 8)), (1, .int (atv 10100 (s21 28) (s21 6 6))), (2, .int v60), (3, .int x3_72), (4, .int x4_72), (5, .int x5_72), (6, .int y0_104)] [.int y2_122, .int x5_72, .ref (r 48)] 122 := by
            intro y2_122  w122_
            have w122_ := h122 y2_122  w122_
            refine g_callSN (As := [.ref (r 48), .int x5_72, .int y2_122]) (rest := []) hF (c_setv a r s72 arC_48 (by decide) x5_72 y2_122) (Nat.le_of_ble_eq_true rfl) mS_X12_set nm_1409 rfl rfl (Nat.le_of_ble_eq_true rfl) d_X1_functionEnd_122 (kU ?_)
            refine g_iload hF d_X1_functionEnd_125 4 rfl ?_
            refine g_iload hF d_X1_functionEnd_127 6 rfl ?_
            obtain ⟨J146, h146, w14⟩ := w122_
            have b146 : ∀ (y1_146 : Int32), J146 y1_146 → G SC r X (upF s72 48 (setv 100 (s72 48) x5_72 y2_122)) Z0 [] [(0, .ref (r 8)), (1, .int (atv 10100 (s21 28) (s21 6 6))), (2, .int v60), (3, .int x3_72), (5, .int x5_72), (6, .int y0_104)] [.int y1_146, .int x4_72] 146 := by
              intro y1_146  w146_
              have w146_ := h146 y1_146  w146_
              refine g_ior hF d_X1_functionEnd_146 ?_
              refine g_istore hF [(4, .int (x4_72 ||| y1_146)), (0, .ref (r 8)), (1, .int (atv 10100 (s21 28) (s21 6 6))), (2, .int v60), (3, .int x3_72), (5, .int x5_72), (6, .int y0_104)] d_X1_functionEnd_147 hnn (by decide) rfl ?_
              refine g_iload_n hF d_X1_functionEnd_149 rfl 4 rfl ?_
              refine g_iload hF d_X1_functionEnd_150 6 rfl ?_
              obtain ⟨J175, h175, w15⟩ := w146_
              have b175 : ∀ (y1_175 : Int32), J175 y1_175 → G SC r X (upF s72 48 (setv 100 (s72 48) x5_72 y2_122)) Z0 [] [(0, .ref (r 8)), (1, .int (atv 10100 (s21 28) (s21 6 6))), (2, .int v60), (4, .int (x4_72 ||| y1_146)), (5, .int x5_72)] [.int y1_175, .int x3_72] 175 := by
                intro y1_175  w175_
                have w175_ := h175 y1_175  w175_
                refine g_iadd hF d_X1_functionEnd_175 ?_
                refine g_istore_n hF [(3, .int (x3_72 + y1_175)), (0, .ref (r 8)), (1, .int (atv 10100 (s21 28) (s21 6 6))), (2, .int v60), (4, .int (x4_72 ||| y1_146)), (5, .int x5_72)] d_X1_functionEnd_176 rfl hnn (by decide) rfl ?_
                refine g_iinc hF (x5_72 + 1) [(5, .int (x5_72 + 1)), (3, .int (x3_72 + y1_175)), (0, .ref (r 8)), (1, .int (atv 10100 (s21 28) (s21 6 6))), (2, .int v60), (4, .int (x4_72 ||| y1_146))] d_X1_functionEnd_177 5 rfl rfl hnn (by decide) rfl ?_
                refine g_goto hF 72 d_X1_functionEnd_180 (by decide) ?_
                obtain ⟨m72, hm72, w9⟩ := w175_
                exact g_sub (L' := [(0, .ref (r 8)), (1, .int (atv 10100 (s21 28) (s21 6 6))), (2, .int v60), (3, .int (x3_72 + y1_175)), (4, .int (x4_72 ||| y1_146)), (5, .int (x5_72 + 1))]) [2, 3, 4, 1, 5, 0] rfl (ih72 m72 hm72 (x3_72 + y1_175) (x4_72 ||| y1_146) (x5_72 + 1) (upF s72 48 (setv 100 (s72 48) x5_72 y2_122)) w9)
              refine g_if_eq hF 174 d_X1_functionEnd_152 (by decide) rfl (fun c => ?_) (fun c => ?_)
              · have w16 := w15.1 c
                refine g_iconst hF (v := 0) d_X1_functionEnd_174 (by decide) ?_
                exact g_sub (L' := [(0, .ref (r 8)), (1, .int (atv 10100 (s21 28) (s21 6 6))), (2, .int v60), (4, .int (x4_72 ||| y1_146)), (5, .int x5_72)]) [1, 2, 3, 0, 5] rfl (b175 (0 : Int32) w16)
              · have w17 := w15.2 c
                refine g_aload_n hF d_X1_functionEnd_155 rfl 1 rfl ?_
                refine g_get (v := .ref (r 6)) hF 2 obC_8 (by decide) m_491 rfl d_X1_functionEnd_156 ?_
                refine g_getN (v := .ref (r 42)) hF 13 obC_6 (by decide) nm_338 rfl d_X1_functionEnd_159 ?_
                refine g_iload hF d_X1_functionEnd_162 5 rfl ?_
                refine g_callSN (As := [.ref (r 42), .int x5_72]) (rest := [.int x3_72]) hF (c_atv a r (upF s72 48 (setv 100 (s72 48) x5_72 y2_122)) arC_42 (by decide) x5_72) (Nat.le_of_ble_eq_true rfl) mS_X12_at nm_1356 rfl rfl (Nat.le_of_ble_eq_true rfl) d_X1_functionEnd_164 (kQ ?_)
                refine g_top (v := (atv 100 (s72 42) x5_72)) rfl ?_
                refine g_iconst hF (v := 1) d_X1_functionEnd_167 (by decide) ?_
                refine g_mmax hF (Nat.le_of_ble_eq_true rfl) m_1463 m_1131 m_23 m_1132 (Nat.le_of_ble_eq_true rfl) d_X1_functionEnd_168 ?_
                refine g_goto hF 175 d_X1_functionEnd_171 (by decide) ?_
                exact g_sub (L' := [(0, .ref (r 8)), (1, .int (atv 10100 (s21 28) (s21 6 6))), (2, .int v60), (4, .int (x4_72 ||| y1_146)), (5, .int x5_72)]) [1, 2, 3, 0, 5] rfl (b175 (if (atv 100 (s72 42) x5_72) < (1 : Int32) then (1 : Int32) else (atv 100 (s72 42) x5_72)) w17)
            obtain ⟨J145, h145, w18⟩ := w14
            have b145 : J145  → G SC r X (upF s72 48 (setv 100 (s72 48) x5_72 y2_122)) Z0 [] [(0, .ref (r 8)), (1, .int (atv 10100 (s21 28) (s21 6 6))), (2, .int v60), (3, .int x3_72), (5, .int x5_72), (6, .int y0_104)] [.int x4_72] 145 := by
              intro   w145_
              have w145_ := h145   w145_
              refine g_iconst hF (v := 0) d_X1_functionEnd_145 (by decide) ?_
              exact b146 (0 : Int32) w145_
            refine g_if_eq hF 145 d_X1_functionEnd_129 (by decide) rfl (fun c => ?_) (fun c => ?_)
            · have w19 := w18.1 c
              exact g_sub (L' := [(0, .ref (r 8)), (1, .int (atv 10100 (s21 28) (s21 6 6))), (2, .int v60), (3, .int x3_72), (5, .int x5_72), (6, .int y0_104)]) [0, 1, 2, 3, 5, 6] rfl (b145  w19)
            · have w20 := w18.2 c
              refine g_iload hF d_X1_functionEnd_132 5 rfl ?_
              refine g_iload_n hF d_X1_functionEnd_134 rfl 2 rfl ?_
              refine g_icmp_ge hF 145 d_X1_functionEnd_135 (by decide) rfl rfl (fun c => ?_) (fun c => ?_)
              · have w21 := w20.1 c
                exact g_sub (L' := [(0, .ref (r 8)), (1, .int (atv 10100 (s21 28) (s21 6 6))), (2, .int v60), (3, .int x3_72), (5, .int x5_72), (6, .int y0_104)]) [0, 1, 2, 3, 5, 6] rfl (b145  w21)
              · have w22 := w20.2 c
                refine g_iconst hF (v := 1) d_X1_functionEnd_138 (by decide) ?_
                refine g_iload hF d_X1_functionEnd_139 5 rfl ?_
                refine g_ishl hF d_X1_functionEnd_141 ?_
                refine g_goto hF 146 d_X1_functionEnd_142 (by decide) ?_
                exact g_sub (L' := [(0, .ref (r 8)), (1, .int (atv 10100 (s21 28) (s21 6 6))), (2, .int v60), (3, .int x3_72), (5, .int x5_72), (6, .int y0_104)]) [0, 1, 2, 3, 5, 6] rfl (b146 ((1 : Int32) <<< (x5_72 &&& 31)) w22)
          refine g_if_eq hF 121 d_X1_functionEnd_114 (by decide) rfl (fun c => ?_) (fun c => ?_)
          · have w23 := w13.1 c
            refine g_iconst hF (v := (-1)) d_X1_functionEnd_121 (by decide) ?_
            exact g_sub (L' := [(0, .ref (r 8)), (1, .int (atv 10100 (s21 28) (s21 6 6))), (2, .int v60), (3, .int x3_72), (4, .int x4_72), (5, .int x5_72), (6, .int y0_104)]) [1, 2, 3, 4, 5, 6, 0] rfl (b122 ((-1) : Int32) w23)
          · have w24 := w13.2 c
            refine g_iload_n hF d_X1_functionEnd_117 rfl 4 rfl ?_
            refine g_goto hF 122 d_X1_functionEnd_118 (by decide) ?_
            exact g_sub (L' := [(0, .ref (r 8)), (1, .int (atv 10100 (s21 28) (s21 6 6))), (2, .int v60), (3, .int x3_72), (4, .int x4_72), (5, .int x5_72), (6, .int y0_104)]) [1, 2, 3, 4, 5, 6, 0] rfl (b122 x3_72 w24)
        refine g_if_eq hF 103 d_X1_functionEnd_96 (by decide) rfl (fun c => ?_) (fun c => ?_)
        · have w25 := w12.1 c
          refine g_iconst hF (v := 0) d_X1_functionEnd_103 (by decide) ?_
          exact b104 (0 : Int32) (Or.inl rfl) w25
        · have w26 := w12.2 c
          refine g_iconst hF (v := 1) d_X1_functionEnd_99 (by decide) ?_
          refine g_goto hF 104 d_X1_functionEnd_100 (by decide) ?_
          exact b104 (1 : Int32) (Or.inr rfl) w26
  exact g_sub (L' := [(0, .ref (r 8)), (1, .int (atv 10100 (s21 28) (s21 6 6))), (2, .int v60), (3, .int 0), (4, .int 0), (5, .int 0)]) [5, 4, 3, 2, 1, 0] rfl (b72 i72 (0 : Int32) (0 : Int32) (0 : Int32) s21 u72)
