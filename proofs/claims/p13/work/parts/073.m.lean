set_option maxHeartbeats 4000000 in
set_option maxRecDepth 100000 in
theorem kt_X11_close (a : Nat → Nat) (r : Nat → Nat) {σ : St} {Q : St → Prop} (w : wk_X11_close  σ Q) (l : Launch) (D : va_G) (cy : Nat → ClassId) : Ct l D cy SC r (EC a gC) y_X11_close (Cond.code y_X11_close b_X11_close 1 none) 1 [.ref (r 6)] σ Z0 [] (QV Q) QT0 := by
  unfold wk_X11_close at w
  refine Ct_of (EC_ok a gC) (by decide) (Nat.le_of_ble_eq_true rfl) (by decide) (fun X hnn hF => ?_)
  show G SC r X σ Z0 [] [(0, .ref (r 6))] [] 0
  refine g_aload_n hF d_X11_close_0 rfl 0 rfl ?_
  refine g_dup hF d_X11_close_1 rfl ?_
  refine g_get (v := .int (σ 6 17)) hF 17 obC_6 (by decide) m_344 rfl d_X11_close_2 ?_
  refine g_iconst hF (v := 1) d_X11_close_5 (by decide) ?_
  refine g_isub hF d_X11_close_6 ?_
  refine g_put (v := ((σ 6 17) - (1 : Int32))) hF 17 obC_6 (by decide) m_344 rfl rfl rfl d_X11_close_7 ?_
  refine g_aload_n hF d_X11_close_10 rfl 0 rfl ?_
  refine g_aload_n hF d_X11_close_11 rfl 0 rfl ?_
  refine g_get (v := .ref (r 45)) hF 18 obC_6 (by decide) m_345 rfl d_X11_close_12 ?_
  refine g_aload_n hF d_X11_close_15 rfl 0 rfl ?_
  refine g_get (v := .int ((σ 6 17) - (1 : Int32))) hF 17 obC_6 (by decide) m_344 rfl d_X11_close_16 ?_
  refine g_callSN (As := [.ref (r 45), .int ((σ 6 17) - (1 : Int32))]) (rest := [.ref (r 6)]) hF (c_atv a r (upC σ 6 17 ((σ 6 17) - (1 : Int32))) arC_45 (by decide) ((σ 6 17) - (1 : Int32))) (Nat.le_of_ble_eq_true rfl) mS_X12_at nm_1112 rfl rfl (Nat.le_of_ble_eq_true rfl) d_X11_close_19 (kQ ?_)
  refine g_top (v := (atv 52 (σ 45) ((σ 6 17) - (1 : Int32)))) rfl ?_
  refine g_put (v := (atv 52 (σ 45) ((σ 6 17) - (1 : Int32)))) hF 15 obC_6 (by decide) m_342 rfl rfl rfl d_X11_close_22 ?_
  exact g_vret hF rfl d_X11_close_25 ⟨rfl, rfl, rfl, w⟩
set_option maxHeartbeats 4000000 in
set_option maxRecDepth 100000 in
theorem kt_X7_giveBack (a : Nat → Nat) (r : Nat → Nat) {a1 : Int32} {a2 : Int32} {σ : St} {Q : St → Prop} (ha2 : a2 = 0 ∨ a2 = 1) (w : wk_X7_giveBack a1 a2 σ Q) (l : Launch) (D : va_G) (cy : Nat → ClassId) : Ct l D cy SC r (EC a gC) y_X7_giveBack (Cond.code y_X7_giveBack b_X7_giveBack 5 none) 3 [.ref (r 9), .int a1, .int a2] σ Z0 [] (QV Q) QT0 := by
  unfold wk_X7_giveBack at w
  refine Ct_of (EC_ok a gC) (by decide) (Nat.le_of_ble_eq_true rfl) (by decide) (fun X hnn hF => ?_)
  show G SC r X σ Z0 [] [(0, .ref (r 9)), (1, .int a1), (2, .int a2)] [] 0
  refine g_aload_n hF d_X7_giveBack_0 rfl 0 rfl ?_
  refine g_get (v := .ref (r 6)) hF 1 obC_9 (by decide) m_554 rfl d_X7_giveBack_1 ?_
  refine g_getN (v := .ref (r 5)) hF 1 obC_6 (by decide) nm_310 rfl d_X7_giveBack_4 ?_
  refine g_getN (v := .ref (r 26)) hF 3 obC_5 (by decide) nm_228 rfl d_X7_giveBack_7 ?_
  refine g_aload_n hF d_X7_giveBack_10 rfl 0 rfl ?_
  refine g_get (v := .ref (r 6)) hF 1 obC_9 (by decide) m_554 rfl d_X7_giveBack_11 ?_
  refine g_getN (v := .int (σ 6 6)) hF 6 obC_6 (by decide) nm_326 rfl d_X7_giveBack_14 ?_
  refine g_callSN (As := [.ref (r 26), .int (σ 6 6)]) (rest := []) hF (c_atv a r σ arC_26 (by decide) (σ 6 6)) (Nat.le_of_ble_eq_true rfl) mS_X12_at nm_1053 rfl rfl (Nat.le_of_ble_eq_true rfl) d_X7_giveBack_17 (kQ ?_)
  refine g_top (v := (atv 10100 (σ 26) (σ 6 6))) rfl ?_
  refine g_istore_n hF [(3, .int (atv 10100 (σ 26) (σ 6 6))), (0, .ref (r 9)), (1, .int a1), (2, .int a2)] d_X7_giveBack_20 rfl hnn (by decide) rfl ?_
  refine g_iload_n hF d_X7_giveBack_21 rfl 0 rfl ?_
  refine g_iconst hF (v := (-1)) d_X7_giveBack_22 (by decide) ?_
  obtain ⟨J31, h31, w1⟩ := w
  have b31 : ∀ (y0_31 : Int32), y0_31 = 0 ∨ y0_31 = 1 → J31 y0_31 → G SC r X σ Z0 [] [(0, .ref (r 9)), (1, .int a1), (2, .int a2), (3, .int (atv 10100 (σ 26) (σ 6 6)))] [.int y0_31] 31 := by
    intro y0_31 hy0_31 w31_
    have w31_ := h31 y0_31 hy0_31 w31_
    refine g_istore hF [(4, .int y0_31), (0, .ref (r 9)), (1, .int a1), (2, .int a2), (3, .int (atv 10100 (σ 26) (σ 6 6)))] d_X7_giveBack_31 hnn (by decide) rfl ?_
    refine g_iload_n hF d_X7_giveBack_33 rfl 3 rfl ?_
    obtain ⟨J65, h65, w2⟩ := w31_
    have b65 : ∀ (x4_65 : Int32) (s65 : St), x4_65 = 0 ∨ x4_65 = 1 → J65 x4_65 s65 → G SC r X s65 Z0 [] [(0, .ref (r 9)), (1, .int a1), (4, .int x4_65)] [] 65 := by
      intro x4_65 s65 hx4_65 w65_
      have w65_ := h65 x4_65 s65 hx4_65 w65_
      refine g_aload_n hF d_X7_giveBack_65 rfl 0 rfl ?_
      refine g_get (v := .ref (r 4)) hF 2 obC_9 (by decide) m_555 rfl d_X7_giveBack_66 ?_
      refine g_bipush hF (v := 33) d_X7_giveBack_69 (by decide) ?_
      refine g_iconst hF (v := 0) d_X7_giveBack_71 (by decide) ?_
      refine g_iconst hF (v := 0) d_X7_giveBack_72 (by decide) ?_
      refine g_iconst hF (v := 0) d_X7_giveBack_73 (by decide) ?_
      refine g_callVN (As := [.int 33, .int 0, .int 0, .int 0]) (rest := []) hF (fun l D cy => kt_X0_emit a r w65_ l D cy) (Nat.le_of_ble_eq_true rfl) mV_X0_emit nm_1298 (recv_ob obC_4) rfl rfl (Nat.le_of_ble_eq_true rfl) d_X7_giveBack_74 (qI (fun v74 s74 w3 => ?_))
      refine g_pop hF d_X7_giveBack_77 rfl ?_
      refine g_iload hF d_X7_giveBack_78 2 rfl ?_
      refine g_if_ne hF 92 d_X7_giveBack_80 (by decide) rfl (fun c => ?_) (fun c => ?_)
      · have w4 := w3.1 c
        exact g_vret hF rfl d_X7_giveBack_92 ⟨rfl, rfl, rfl, w4⟩
      · have w5 := w3.2 c
        refine g_aload_n hF d_X7_giveBack_83 rfl 0 rfl ?_
        refine g_get (v := .ref (r 6)) hF 1 obC_9 (by decide) m_554 rfl d_X7_giveBack_84 ?_
        refine g_iconst hF (v := 2) d_X7_giveBack_87 (by decide) ?_
        refine g_iload_n hF d_X7_giveBack_88 rfl 1 rfl ?_
        refine g_callVN (As := [.int 2, .int a1]) (rest := []) hF (fun l D cy => kt_X11_fail a r w5 l D cy) (Nat.le_of_ble_eq_true rfl) mV_X11_fail nm_1307 (recv_ob obC_6) rfl rfl (Nat.le_of_ble_eq_true rfl) d_X7_giveBack_89 (qV (fun s89 w6 => ?_))
        exact g_vret hF rfl d_X7_giveBack_92 ⟨rfl, rfl, rfl, w6⟩
    refine g_if_eq hF 53 d_X7_giveBack_34 (by decide) rfl (fun c => ?_) (fun c => ?_)
    · have w7 := w2.1 c
      refine g_aload_n hF d_X7_giveBack_53 rfl 1 rfl ?_
      refine g_get (v := .ref (r 4)) hF 2 obC_9 (by decide) m_555 rfl d_X7_giveBack_54 ?_
      refine g_iconst hF (v := 1) d_X7_giveBack_57 (by decide) ?_
      refine g_iconst hF (v := 0) d_X7_giveBack_58 (by decide) ?_
      refine g_iconst hF (v := 0) d_X7_giveBack_59 (by decide) ?_
      refine g_iconst hF (v := 0) d_X7_giveBack_60 (by decide) ?_
      refine g_callVN (As := [.int 1, .int 0, .int 0, .int 0]) (rest := []) hF (fun l D cy => kt_X0_emit a r w7 l D cy) (Nat.le_of_ble_eq_true rfl) mV_X0_emit nm_1298 (recv_ob obC_4) rfl rfl (Nat.le_of_ble_eq_true rfl) d_X7_giveBack_61 (qI (fun v61 s61 w8 => ?_))
      refine g_pop hF d_X7_giveBack_64 rfl ?_
      exact g_sub (L' := [(0, .ref (r 9)), (1, .int a1), (4, .int y0_31)]) [1, 2, 0] rfl (b65 y0_31 s61 hy0_31 w8)
    · have w9 := w2.2 c
      refine g_aload_n hF d_X7_giveBack_37 rfl 1 rfl ?_
      refine g_get (v := .ref (r 7)) hF 3 obC_9 (by decide) m_556 rfl d_X7_giveBack_38 ?_
      refine g_callVN (As := []) (rest := []) hF (fun l D cy => kt_X2_pop a r w9 l D cy) (Nat.le_of_ble_eq_true rfl) mV_X2_pop nm_1297 (recv_ob obC_7) rfl rfl (Nat.le_of_ble_eq_true rfl) d_X7_giveBack_41 (qA (fun u41 s41 hz41 w10 => ?_))
      refine g_iload_n hF d_X7_giveBack_44 rfl 4 rfl ?_
      refine g_callVN (As := [.int (atv 10100 (σ 26) (σ 6 6))]) (rest := []) hF (fun l D cy => kt_X6_fits a r hz41 w10 l D cy) (Nat.le_of_ble_eq_true rfl) mV_X6_fits nm_1331 (recv_ob (obC_op hz41)) rfl rfl (Nat.le_of_ble_eq_true rfl) d_X7_giveBack_45 (qZr (fun v45 hz45 w11 => ?_))
      refine g_istore hF [(4, .int v45), (0, .ref (r 9)), (1, .int a1), (2, .int a2), (3, .int (atv 10100 (σ 26) (σ 6 6)))] d_X7_giveBack_48 hnn (by decide) rfl ?_
      refine g_goto hF 65 d_X7_giveBack_50 (by decide) ?_
      exact g_sub (L' := [(0, .ref (r 9)), (1, .int a1), (4, .int v45)]) [1, 2, 0] rfl (b65 v45 s41 hz45 w11)
  refine g_icmp_ne (yv := -1) hF 30 d_X7_giveBack_23 (by decide) rfl (by decide) (fun c => ?_) (fun c => ?_)
  · have w12 := w1.1 c
    refine g_iconst hF (v := 0) d_X7_giveBack_30 (by decide) ?_
    exact g_sub (L' := [(0, .ref (r 9)), (1, .int a1), (2, .int a2), (3, .int (atv 10100 (σ 26) (σ 6 6)))]) [1, 2, 3, 0] rfl (b31 (0 : Int32) (Or.inl rfl) w12)
  · have w13 := w1.2 c
    refine g_iconst hF (v := 1) d_X7_giveBack_26 (by decide) ?_
    refine g_goto hF 31 d_X7_giveBack_27 (by decide) ?_
    exact g_sub (L' := [(0, .ref (r 9)), (1, .int a1), (2, .int a2), (3, .int (atv 10100 (σ 26) (σ 6 6)))]) [1, 2, 3, 0] rfl (b31 (1 : Int32) (Or.inr rfl) w13)
set_option maxHeartbeats 4000000 in
set_option maxRecDepth 100000 in
theorem kt_X7_take (a : Nat → Nat) (r : Nat → Nat) {a1 : Int32} {a2 : Int32} {σ : St} {Q : St → Prop} (w : wk_X7_take a1 a2 σ Q) (l : Launch) (D : va_G) (cy : Nat → ClassId) : Ct l D cy SC r (EC a gC) y_X7_take (Cond.code y_X7_take b_X7_take 5 none) 5 [.ref (r 9), .int a1, .int a2] σ Z0 [] (QV Q) QT0 := by
  unfold wk_X7_take at w
  refine Ct_of (EC_ok a gC) (by decide) (Nat.le_of_ble_eq_true rfl) (by decide) (fun X hnn hF => ?_)
  show G SC r X σ Z0 [] [(0, .ref (r 9)), (1, .int a1), (2, .int a2)] [] 0
  refine g_aload_n hF d_X7_take_0 rfl 0 rfl ?_
  refine g_get (v := .ref (r 3)) hF 0 obC_9 (by decide) m_553 rfl d_X7_take_1 ?_
  refine g_getN (v := .ref (r 19)) hF 6 obC_3 (by decide) nm_107 rfl d_X7_take_4 ?_
  refine g_iload_n hF d_X7_take_7 rfl 2 rfl ?_
  refine g_callSN (As := [.ref (r 19), .int a2]) (rest := []) hF (c_atv a r σ arC_19 (by decide) a2) (Nat.le_of_ble_eq_true rfl) mS_X12_at nm_1053 rfl rfl (Nat.le_of_ble_eq_true rfl) d_X7_take_8 (kQ ?_)
  refine g_top (v := (atv 32100 (σ 19) a2)) rfl ?_
  refine g_istore_n hF [(3, .int (atv 32100 (σ 19) a2)), (0, .ref (r 9)), (1, .int a1), (2, .int a2)] d_X7_take_11 rfl hnn (by decide) rfl ?_
  refine g_aload_n hF d_X7_take_12 rfl 1 rfl ?_
  refine g_get (v := .ref (r 3)) hF 0 obC_9 (by decide) m_553 rfl d_X7_take_13 ?_
  refine g_getN (v := .ref (r 20)) hF 7 obC_3 (by decide) nm_109 rfl d_X7_take_16 ?_
  refine g_iload_n hF d_X7_take_19 rfl 3 rfl ?_
  refine g_callSN (As := [.ref (r 20), .int a2]) (rest := []) hF (c_atv a r σ arC_20 (by decide) a2) (Nat.le_of_ble_eq_true rfl) mS_X12_at nm_1053 rfl rfl (Nat.le_of_ble_eq_true rfl) d_X7_take_20 (kQ ?_)
  refine g_top (v := (atv 32100 (σ 20) a2)) rfl ?_
  obtain ⟨J31, h31, w1⟩ := w
  have b31 : ∀ (y0_31 : Int32), y0_31 = 0 ∨ y0_31 = 1 → J31 y0_31 → G SC r X σ Z0 [] [(0, .ref (r 9)), (1, .int a1), (3, .int (atv 32100 (σ 19) a2))] [.int y0_31] 31 := by
    intro y0_31 hy0_31 w31_
    have w31_ := h31 y0_31 hy0_31 w31_
    refine g_istore hF [(4, .int y0_31), (0, .ref (r 9)), (1, .int a1), (3, .int (atv 32100 (σ 19) a2))] d_X7_take_31 hnn (by decide) rfl ?_
    refine g_iload_n hF d_X7_take_33 rfl 2 rfl ?_
    obtain ⟨J229, h229, w2⟩ := w31_
    have b229 : J229  → G SC r X σ Z0 [] [(0, .ref (r 9)), (1, .int a1), (3, .int (atv 32100 (σ 19) a2)), (4, .int y0_31)] [] 229 := by
      intro   w229_
      have w229_ := h229   w229_
      refine g_aload_n hF d_X7_take_229 rfl 0 rfl ?_
      refine g_iload_n hF d_X7_take_230 rfl 1 rfl ?_
      refine g_iload_n hF d_X7_take_231 rfl 2 rfl ?_
      refine g_iload hF d_X7_take_232 3 rfl ?_
      refine g_callV (As := [.int a1, .int (atv 32100 (σ 19) a2), .int y0_31]) (rest := []) hF (fun l D cy => kt_X7_forLoop a r hy0_31 w229_ l D cy) (Nat.le_of_ble_eq_true rfl) mV_X7_forLoop m_1348 (recv_ob obC_9) rfl rfl (Nat.le_of_ble_eq_true rfl) d_X7_take_234 (qV (fun s234 w3 => ?_)) (fun _ _ _ h => h.elim)
      exact g_vret hF rfl d_X7_take_237 ⟨rfl, rfl, rfl, w3⟩
    obtain ⟨J220, h220, w4⟩ := w2
    have b220 : J220  → G SC r X σ Z0 [] [(0, .ref (r 9)), (1, .int a1), (3, .int (atv 32100 (σ 19) a2))] [] 220 := by
      intro   w220_
      have w220_ := h220   w220_
      refine g_aload_n hF d_X7_take_220 rfl 0 rfl ?_
      refine g_iload_n hF d_X7_take_221 rfl 1 rfl ?_
      refine g_iload_n hF d_X7_take_222 rfl 2 rfl ?_
      refine g_callV (As := [.int a1, .int (atv 32100 (σ 19) a2)]) (rest := []) hF (fun l D cy => kt_X7_doLoop a r w220_ l D cy) (Nat.le_of_ble_eq_true rfl) mV_X7_doLoop m_1344 (recv_ob obC_9) rfl rfl (Nat.le_of_ble_eq_true rfl) d_X7_take_223 (qV (fun s223 w5 => ?_)) (fun _ _ _ h => h.elim)
      refine g_goto hF 237 d_X7_take_226 (by decide) ?_
      exact g_vret hF rfl d_X7_take_237 ⟨rfl, rfl, rfl, w5⟩
    obtain ⟨J211, h211, w6⟩ := w4
    have b211 : J211  → G SC r X σ Z0 [] [(0, .ref (r 9)), (1, .int a1), (3, .int (atv 32100 (σ 19) a2))] [] 211 := by
      intro   w211_
      have w211_ := h211   w211_
      refine g_aload_n hF d_X7_take_211 rfl 0 rfl ?_
      refine g_iload_n hF d_X7_take_212 rfl 1 rfl ?_
      refine g_iload_n hF d_X7_take_213 rfl 2 rfl ?_
      refine g_callV (As := [.int a1, .int (atv 32100 (σ 19) a2)]) (rest := []) hF (fun l D cy => kt_X7_whileLoop a r w211_ l D cy) (Nat.le_of_ble_eq_true rfl) mV_X7_whileLoop m_1332 (recv_ob obC_9) rfl rfl (Nat.le_of_ble_eq_true rfl) d_X7_take_214 (qV (fun s214 w7 => ?_)) (fun _ _ _ h => h.elim)
      refine g_goto hF 237 d_X7_take_217 (by decide) ?_
      exact g_vret hF rfl d_X7_take_237 ⟨rfl, rfl, rfl, w7⟩
    obtain ⟨J176, h176, w8⟩ := w6
    have b176 : J176  → G SC r X σ Z0 [] [(0, .ref (r 9)), (1, .int a1), (3, .int (atv 32100 (σ 19) a2))] [] 176 := by
      intro   w176_
      have w176_ := h176   w176_
      refine g_aload_n hF d_X7_take_176 rfl 0 rfl ?_
      refine g_iload_n hF d_X7_take_177 rfl 2 rfl ?_
      refine g_iload_n hF d_X7_take_178 rfl 1 rfl ?_
      refine g_bipush hF (v := 36) d_X7_take_179 (by decide) ?_
      refine g_icmp_ne (yv := 36) hF 191 d_X7_take_181 (by decide) rfl (by decide) (fun c => ?_) (fun c => ?_)
      · have w9 := w176_.1 c
        refine g_aload_n hF d_X7_take_191 rfl 0 rfl ?_
        refine g_get (v := .ref (r 52)) hF 9 obC_9 (by decide) m_562 rfl d_X7_take_192 ?_
        refine g_callV (As := [.int (atv 32100 (σ 19) a2), .ref (r 52)]) (rest := []) hF (fun l D cy => kt_X7_leave_r52 a r w9 l D cy) (Nat.le_of_ble_eq_true rfl) mV_X7_leave m_1323 (recv_ob obC_9) rfl rfl (Nat.le_of_ble_eq_true rfl) d_X7_take_195 (qV (fun s195 w10 => ?_)) (fun _ _ _ h => h.elim)
        refine g_goto hF 237 d_X7_take_198 (by decide) ?_
        exact g_vret hF rfl d_X7_take_237 ⟨rfl, rfl, rfl, w10⟩
      · have w11 := w176_.2 c
        refine g_aload_n hF d_X7_take_184 rfl 0 rfl ?_
        refine g_get (v := .ref (r 51)) hF 8 obC_9 (by decide) m_561 rfl d_X7_take_185 ?_
        refine g_goto hF 195 d_X7_take_188 (by decide) ?_
        refine g_callV (As := [.int (atv 32100 (σ 19) a2), .ref (r 51)]) (rest := []) hF (fun l D cy => kt_X7_leave_r51 a r w11 l D cy) (Nat.le_of_ble_eq_true rfl) mV_X7_leave m_1323 (recv_ob obC_9) rfl rfl (Nat.le_of_ble_eq_true rfl) d_X7_take_195 (qV (fun s195 w12 => ?_)) (fun _ _ _ h => h.elim)
        refine g_goto hF 237 d_X7_take_198 (by decide) ?_
        exact g_vret hF rfl d_X7_take_237 ⟨rfl, rfl, rfl, w12⟩
    obtain ⟨J167, h167, w13⟩ := w8
    have b167 : J167  → G SC r X σ Z0 [] [(0, .ref (r 9)), (1, .int a1), (3, .int (atv 32100 (σ 19) a2))] [] 167 := by
      intro   w167_
      have w167_ := h167   w167_
      refine g_aload_n hF d_X7_take_167 rfl 0 rfl ?_
      refine g_iload_n hF d_X7_take_168 rfl 1 rfl ?_
      refine g_iload_n hF d_X7_take_169 rfl 2 rfl ?_
      refine g_callV (As := [.int a1, .int (atv 32100 (σ 19) a2)]) (rest := []) hF (fun l D cy => kt_X7_conditional a r w167_ l D cy) (Nat.le_of_ble_eq_true rfl) mV_X7_conditional m_1299 (recv_ob obC_9) rfl rfl (Nat.le_of_ble_eq_true rfl) d_X7_take_170 (qV (fun s170 w14 => ?_)) (fun _ _ _ h => h.elim)
      refine g_goto hF 237 d_X7_take_173 (by decide) ?_
      exact g_vret hF rfl d_X7_take_237 ⟨rfl, rfl, rfl, w14⟩
    refine (Decidable.em (a1.toInt = 20)).elim (fun q34_0 => ?_) (fun q34_0 => ?_)
    · have w15 := w13.1 q34_0
      refine g_tableIn (off := 90) hF 124 d_X7_take_34 q34_0 (by decide) (by decide) (by decide +kernel) (by decide) ?_
      refine g_aload_n hF d_X7_take_124 rfl 1 rfl ?_
      refine g_get (v := .ref (r 6)) hF 1 obC_9 (by decide) m_554 rfl d_X7_take_125 ?_
      refine g_callVN (As := []) (rest := []) hF (fun l D cy => kt_X11_open a r w15 l D cy) (Nat.le_of_ble_eq_true rfl) mV_X11_open nm_1289 (recv_ob obC_6) rfl rfl (Nat.le_of_ble_eq_true rfl) d_X7_take_128 (qV (fun s128 w16 => ?_))
      refine g_goto hF 237 d_X7_take_131 (by decide) ?_
      exact g_vret hF rfl d_X7_take_237 ⟨rfl, rfl, rfl, w16⟩
    have w17 := w13.2 q34_0
    refine (Decidable.em (a1.toInt = 21)).elim (fun q34_1 => ?_) (fun q34_1 => ?_)
    · have w18 := w17.1 q34_1
      refine g_tableIn (off := 100) hF 134 d_X7_take_34 q34_1 (by decide) (by decide) (by decide +kernel) (by decide) ?_
      refine g_aload_n hF d_X7_take_134 rfl 1 rfl ?_
      refine g_get (v := .ref (r 6)) hF 1 obC_9 (by decide) m_554 rfl d_X7_take_135 ?_
      refine g_callVN (As := []) (rest := []) hF (fun l D cy => kt_X11_close a r w18 l D cy) (Nat.le_of_ble_eq_true rfl) mV_X11_close nm_1293 (recv_ob obC_6) rfl rfl (Nat.le_of_ble_eq_true rfl) d_X7_take_138 (qV (fun s138 w19 => ?_))
      refine g_goto hF 237 d_X7_take_141 (by decide) ?_
      exact g_vret hF rfl d_X7_take_237 ⟨rfl, rfl, rfl, w19⟩
    have w20 := w17.2 q34_1
    refine (Decidable.em (a1.toInt = 22)).elim (fun q34_2 => ?_) (fun q34_2 => ?_)
    · have w21 := w20.1 q34_2
      refine g_tableIn (off := 110) hF 144 d_X7_take_34 q34_2 (by decide) (by decide) (by decide +kernel) (by decide) ?_
      refine g_aload_n hF d_X7_take_144 rfl 1 rfl ?_
      refine g_get (v := .ref (r 7)) hF 3 obC_9 (by decide) m_556 rfl d_X7_take_145 ?_
      refine g_callVN (As := []) (rest := []) hF (fun l D cy => kt_X2_pop a r w21 l D cy) (Nat.le_of_ble_eq_true rfl) mV_X2_pop nm_1297 (recv_ob obC_7) rfl rfl (Nat.le_of_ble_eq_true rfl) d_X7_take_148 (qA (fun u148 s148 hz148 w22 => ?_))
      refine g_pop hF d_X7_take_151 rfl ?_
      refine g_aload_n hF d_X7_take_152 rfl 1 rfl ?_
      refine g_get (v := .ref (r 4)) hF 2 obC_9 (by decide) m_555 rfl d_X7_take_153 ?_
      refine g_iconst hF (v := 2) d_X7_take_156 (by decide) ?_
      refine g_iconst hF (v := 0) d_X7_take_157 (by decide) ?_
      refine g_iconst hF (v := 0) d_X7_take_158 (by decide) ?_
      refine g_iconst hF (v := 0) d_X7_take_159 (by decide) ?_
      refine g_callVN (As := [.int 2, .int 0, .int 0, .int 0]) (rest := []) hF (fun l D cy => kt_X0_emit a r w22 l D cy) (Nat.le_of_ble_eq_true rfl) mV_X0_emit nm_1298 (recv_ob obC_4) rfl rfl (Nat.le_of_ble_eq_true rfl) d_X7_take_160 (qI (fun v160 s160 w23 => ?_))
      refine g_pop hF d_X7_take_163 rfl ?_
      refine g_goto hF 237 d_X7_take_164 (by decide) ?_
      exact g_vret hF rfl d_X7_take_237 ⟨rfl, rfl, rfl, w23⟩
    have w24 := w20.2 q34_2
    refine (Decidable.em (a1.toInt = 23)).elim (fun q34_3 => ?_) (fun q34_3 => ?_)
    · have w25 := w24.1 q34_3
      refine g_tableIn (off := 133) hF 167 d_X7_take_34 q34_3 (by decide) (by decide) (by decide +kernel) (by decide) ?_
      exact g_sub (L' := [(0, .ref (r 9)), (1, .int a1), (3, .int (atv 32100 (σ 19) a2))]) [1, 2, 3] rfl (b167  w25)
    have w26 := w24.2 q34_3
    refine (Decidable.em (a1.toInt = 24)).elim (fun q34_4 => ?_) (fun q34_4 => ?_)
    · have w27 := w26.1 q34_4
      refine g_tableIn (off := 133) hF 167 d_X7_take_34 q34_4 (by decide) (by decide) (by decide +kernel) (by decide) ?_
      exact g_sub (L' := [(0, .ref (r 9)), (1, .int a1), (3, .int (atv 32100 (σ 19) a2))]) [1, 2, 3] rfl (b167  w27)
    have w28 := w26.2 q34_4
    refine (Decidable.em (a1.toInt = 25)).elim (fun q34_5 => ?_) (fun q34_5 => ?_)
    · have w29 := w28.1 q34_5
      refine g_tableIn (off := 133) hF 167 d_X7_take_34 q34_5 (by decide) (by decide) (by decide +kernel) (by decide) ?_
      exact g_sub (L' := [(0, .ref (r 9)), (1, .int a1), (3, .int (atv 32100 (σ 19) a2))]) [1, 2, 3] rfl (b167  w29)
    have w30 := w28.2 q34_5
    refine (Decidable.em (a1.toInt = 26)).elim (fun q34_6 => ?_) (fun q34_6 => ?_)
    · have w31 := w30.1 q34_6
      refine g_tableIn (off := 177) hF 211 d_X7_take_34 q34_6 (by decide) (by decide) (by decide +kernel) (by decide) ?_
      exact g_sub (L' := [(0, .ref (r 9)), (1, .int a1), (3, .int (atv 32100 (σ 19) a2))]) [1, 2, 3] rfl (b211  w31)
    have w32 := w30.2 q34_6
    refine (Decidable.em (a1.toInt = 27)).elim (fun q34_7 => ?_) (fun q34_7 => ?_)
    · have w33 := w32.1 q34_7
      refine g_tableIn (off := 177) hF 211 d_X7_take_34 q34_7 (by decide) (by decide) (by decide +kernel) (by decide) ?_
      exact g_sub (L' := [(0, .ref (r 9)), (1, .int a1), (3, .int (atv 32100 (σ 19) a2))]) [1, 2, 3] rfl (b211  w33)
    have w34 := w32.2 q34_7
    refine (Decidable.em (a1.toInt = 28)).elim (fun q34_8 => ?_) (fun q34_8 => ?_)
    · have w35 := w34.1 q34_8
      refine g_tableIn (off := 177) hF 211 d_X7_take_34 q34_8 (by decide) (by decide) (by decide +kernel) (by decide) ?_
      exact g_sub (L' := [(0, .ref (r 9)), (1, .int a1), (3, .int (atv 32100 (σ 19) a2))]) [1, 2, 3] rfl (b211  w35)
    have w36 := w34.2 q34_8
    refine (Decidable.em (a1.toInt = 29)).elim (fun q34_9 => ?_) (fun q34_9 => ?_)
    · have w37 := w36.1 q34_9
      refine g_tableIn (off := 186) hF 220 d_X7_take_34 q34_9 (by decide) (by decide) (by decide +kernel) (by decide) ?_
      exact g_sub (L' := [(0, .ref (r 9)), (1, .int a1), (3, .int (atv 32100 (σ 19) a2))]) [1, 2, 3] rfl (b220  w37)
    have w38 := w36.2 q34_9
    refine (Decidable.em (a1.toInt = 30)).elim (fun q34_10 => ?_) (fun q34_10 => ?_)
    · have w39 := w38.1 q34_10
      refine g_tableIn (off := 186) hF 220 d_X7_take_34 q34_10 (by decide) (by decide) (by decide +kernel) (by decide) ?_
      exact g_sub (L' := [(0, .ref (r 9)), (1, .int a1), (3, .int (atv 32100 (σ 19) a2))]) [1, 2, 3] rfl (b220  w39)
    have w40 := w38.2 q34_10
    refine (Decidable.em (a1.toInt = 31)).elim (fun q34_11 => ?_) (fun q34_11 => ?_)
    · have w41 := w40.1 q34_11
      refine g_tableIn (off := 186) hF 220 d_X7_take_34 q34_11 (by decide) (by decide) (by decide +kernel) (by decide) ?_
      exact g_sub (L' := [(0, .ref (r 9)), (1, .int a1), (3, .int (atv 32100 (σ 19) a2))]) [1, 2, 3] rfl (b220  w41)
    have w42 := w40.2 q34_11
    refine (Decidable.em (a1.toInt = 32)).elim (fun q34_12 => ?_) (fun q34_12 => ?_)
    · have w43 := w42.1 q34_12
      refine g_tableIn (off := 195) hF 229 d_X7_take_34 q34_12 (by decide) (by decide) (by decide +kernel) (by decide) ?_
      exact g_sub (L' := [(0, .ref (r 9)), (1, .int a1), (3, .int (atv 32100 (σ 19) a2)), (4, .int y0_31)]) [1, 2, 3, 0] rfl (b229  w43)
    have w44 := w42.2 q34_12
    refine (Decidable.em (a1.toInt = 33)).elim (fun q34_13 => ?_) (fun q34_13 => ?_)
    · have w45 := w44.1 q34_13
      refine g_tableIn (off := 195) hF 229 d_X7_take_34 q34_13 (by decide) (by decide) (by decide +kernel) (by decide) ?_
      exact g_sub (L' := [(0, .ref (r 9)), (1, .int a1), (3, .int (atv 32100 (σ 19) a2)), (4, .int y0_31)]) [1, 2, 3, 0] rfl (b229  w45)
    have w46 := w44.2 q34_13
    refine (Decidable.em (a1.toInt = 34)).elim (fun q34_14 => ?_) (fun q34_14 => ?_)
    · have w47 := w46.1 q34_14
      refine g_tableIn (off := 195) hF 229 d_X7_take_34 q34_14 (by decide) (by decide) (by decide +kernel) (by decide) ?_
      exact g_sub (L' := [(0, .ref (r 9)), (1, .int a1), (3, .int (atv 32100 (σ 19) a2)), (4, .int y0_31)]) [1, 2, 3, 0] rfl (b229  w47)
    have w48 := w46.2 q34_14
    refine (Decidable.em (a1.toInt = 35)).elim (fun q34_15 => ?_) (fun q34_15 => ?_)
    · have w49 := w48.1 q34_15
      refine g_tableIn (off := 195) hF 229 d_X7_take_34 q34_15 (by decide) (by decide) (by decide +kernel) (by decide) ?_
      exact g_sub (L' := [(0, .ref (r 9)), (1, .int a1), (3, .int (atv 32100 (σ 19) a2)), (4, .int y0_31)]) [1, 2, 3, 0] rfl (b229  w49)
    have w50 := w48.2 q34_15
    refine (Decidable.em (a1.toInt = 36)).elim (fun q34_16 => ?_) (fun q34_16 => ?_)
    · have w51 := w50.1 q34_16
      refine g_tableIn (off := 142) hF 176 d_X7_take_34 q34_16 (by decide) (by decide) (by decide +kernel) (by decide) ?_
      exact g_sub (L' := [(0, .ref (r 9)), (1, .int a1), (3, .int (atv 32100 (σ 19) a2))]) [1, 2, 3] rfl (b176  w51)
    have w52 := w50.2 q34_16
    refine (Decidable.em (a1.toInt = 37)).elim (fun q34_17 => ?_) (fun q34_17 => ?_)
    · have w53 := w52.1 q34_17
      refine g_tableIn (off := 142) hF 176 d_X7_take_34 q34_17 (by decide) (by decide) (by decide +kernel) (by decide) ?_
      exact g_sub (L' := [(0, .ref (r 9)), (1, .int a1), (3, .int (atv 32100 (σ 19) a2))]) [1, 2, 3] rfl (b176  w53)
    have w54 := w52.2 q34_17
    refine (Decidable.em (a1.toInt = 38)).elim (fun q34_18 => ?_) (fun q34_18 => ?_)
    · have w55 := w54.1 q34_18
      refine g_tableIn (off := 167) hF 201 d_X7_take_34 q34_18 (by decide) (by decide) (by decide +kernel) (by decide) ?_
      refine g_aload_n hF d_X7_take_201 rfl 1 rfl ?_
      refine g_iload_n hF d_X7_take_202 rfl 3 rfl ?_
      refine g_iload hF d_X7_take_203 0 rfl ?_
      refine g_callV (As := [.int (atv 32100 (σ 19) a2), .int y0_31]) (rest := []) hF (fun l D cy => kt_X7_giveBack a r hy0_31 w55 l D cy) (Nat.le_of_ble_eq_true rfl) mV_X7_giveBack m_1327 (recv_ob obC_9) rfl rfl (Nat.le_of_ble_eq_true rfl) d_X7_take_205 (qV (fun s205 w56 => ?_)) (fun _ _ _ h => h.elim)
      refine g_goto hF 237 d_X7_take_208 (by decide) ?_
      exact g_vret hF rfl d_X7_take_237 ⟨rfl, rfl, rfl, w56⟩
    have w57 := w54.2 q34_18
    refine g_tableOut hF 229 d_X7_take_34 rfl (tbo_20_38 q34_0 q34_1 q34_2 q34_3 q34_4 q34_5 q34_6 q34_7 q34_8 q34_9 q34_10 q34_11 q34_12 q34_13 q34_14 q34_15 q34_16 q34_17 q34_18) (by decide) ?_
    exact g_sub (L' := [(0, .ref (r 9)), (1, .int a1), (3, .int (atv 32100 (σ 19) a2)), (4, .int y0_31)]) [1, 2, 3, 0] rfl (b229  w57)
  refine g_if_eq hF 30 d_X7_take_23 (by decide) rfl (fun c => ?_) (fun c => ?_)
  · have w58 := w1.1 c
    refine g_iconst hF (v := 0) d_X7_take_30 (by decide) ?_
    exact g_sub (L' := [(0, .ref (r 9)), (1, .int a1), (3, .int (atv 32100 (σ 19) a2))]) [1, 2, 0] rfl (b31 (0 : Int32) (Or.inl rfl) w58)
  · have w59 := w1.2 c
    refine g_iconst hF (v := 1) d_X7_take_26 (by decide) ?_
    refine g_goto hF 31 d_X7_take_27 (by decide) ?_
    exact g_sub (L' := [(0, .ref (r 9)), (1, .int a1), (3, .int (atv 32100 (σ 19) a2))]) [1, 2, 0] rfl (b31 (1 : Int32) (Or.inr rfl) w59)
set_option maxHeartbeats 4000000 in
set_option maxRecDepth 100000 in
theorem kt_X7_walk (a : Nat → Nat) (r : Nat → Nat) {a1 : Int32} {σ : St} {Q : St → Prop} (w : wk_X7_walk a1 σ Q) (l : Launch) (D : va_G) (cy : Nat → ClassId) : Ct l D cy SC r (EC a gC) y_X7_walk (Cond.code y_X7_walk b_X7_walk 6 none) 7 [.ref (r 9), .int a1] σ Z0 [] (QV Q) QT0 := by
  unfold wk_X7_walk at w
  refine Ct_of (EC_ok a gC) (by decide) (Nat.le_of_ble_eq_true rfl) (by decide) (fun X hnn hF => ?_)
  show G SC r X σ Z0 [] [(0, .ref (r 9)), (1, .int a1)] [] 0
  refine g_aload_n hF d_X7_walk_0 rfl 0 rfl ?_
  refine g_get (v := .ref (r 6)) hF 1 obC_9 (by decide) m_554 rfl d_X7_walk_1 ?_
  refine g_iload_n hF d_X7_walk_4 rfl 1 rfl ?_
  refine g_callVN (As := [.int a1]) (rest := []) hF (fun l D cy => kt_X11_begin a r w l D cy) (Nat.le_of_ble_eq_true rfl) mV_X11_begin nm_1041 (recv_ob obC_6) rfl rfl (Nat.le_of_ble_eq_true rfl) d_X7_walk_5 (qV (fun s5 w1 => ?_))
  refine g_aload_n hF d_X7_walk_8 rfl 0 rfl ?_
  refine g_get (v := .ref (r 8)) hF 4 obC_9 (by decide) m_557 rfl d_X7_walk_9 ?_
  refine g_callVN (As := []) (rest := []) hF (fun l D cy => kt_X1_begin a r w1 l D cy) (Nat.le_of_ble_eq_true rfl) mV_X1_begin nm_1049 (recv_ob obC_8) rfl rfl (Nat.le_of_ble_eq_true rfl) d_X7_walk_12 (qV (fun s12 w2 => ?_))
  refine g_aload_n hF d_X7_walk_15 rfl 0 rfl ?_
  refine g_get (v := .ref (r 7)) hF 3 obC_9 (by decide) m_556 rfl d_X7_walk_16 ?_
  refine g_iconst hF (v := 0) d_X7_walk_19 (by decide) ?_
  refine g_putN (v := 0) hF 7 obC_7 (by decide) nm_465 rfl rfl rfl d_X7_walk_20 ?_
  refine g_aload_n hF d_X7_walk_23 rfl 0 rfl ?_
  refine g_iconst hF (v := 0) d_X7_walk_24 (by decide) ?_
  refine g_put (v := 0) hF 5 obC_9 (by decide) m_558 rfl rfl rfl d_X7_walk_25 ?_
  refine g_iconst hF (v := 0) d_X7_walk_28 (by decide) ?_
  refine g_istore_n hF [(2, .int 0), (0, .ref (r 9)), (1, .int a1)] d_X7_walk_29 rfl hnn (by decide) rfl ?_
  refine g_aload_n hF d_X7_walk_30 rfl 1 rfl ?_
  refine g_get (v := .ref (r 3)) hF 0 obC_9 (by decide) m_553 rfl d_X7_walk_31 ?_
  refine g_getN (v := .int (s12 3 4)) hF 4 obC_3 (by decide) nm_100 rfl d_X7_walk_34 ?_
  refine g_istore_n hF [(3, .int (s12 3 4)), (2, .int 0), (0, .ref (r 9)), (1, .int a1)] d_X7_walk_37 rfl hnn (by decide) rfl ?_
  obtain ⟨L38, ⟨i38, u38⟩, h38⟩ := w2
  have b38 : ∀ (n38 : Nat) (x2_38 : Int32) (x3_38 : Int32) (s38 : St), L38 n38 x2_38 x3_38 s38 → G SC r X s38 Z0 [] [(0, .ref (r 9)), (2, .int x2_38), (3, .int x3_38)] [] 38 := by
    intro n38
    induction n38 using Nat.strongRecOn with
    | _ n38 ih38 =>
      intro x2_38 x3_38 s38  w38_
      have w38_ := h38 n38 x2_38 x3_38 s38  w38_
      refine g_iload_n hF d_X7_walk_38 rfl 2 rfl ?_
      obtain ⟨J176, h176, w3⟩ := w38_
      have b176 : J176  → G SC r X s38 Z0 [] [(0, .ref (r 9))] [] 176 := by
        intro   w176_
        have w176_ := h176   w176_
        refine g_aload_n hF d_X7_walk_176 rfl 0 rfl ?_
        refine g_get (v := .ref (r 6)) hF 1 obC_9 (by decide) m_554 rfl d_X7_walk_177 ?_
        refine g_callVN (As := []) (rest := []) hF (fun l D cy => kt_X11_finish a r w176_ l D cy) (Nat.le_of_ble_eq_true rfl) mV_X11_finish nm_1482 (recv_ob obC_6) rfl rfl (Nat.le_of_ble_eq_true rfl) d_X7_walk_180 (qV (fun s180 w4 => ?_))
        exact g_vret hF rfl d_X7_walk_183 ⟨rfl, rfl, rfl, w4⟩
      refine g_if_le hF 176 d_X7_walk_39 (by decide) rfl (fun c => ?_) (fun c => ?_)
      · have w5 := w3.1 c
        exact g_sub (L' := [(0, .ref (r 9))]) [0] rfl (b176  w5)
      · have w6 := w3.2 c
        refine g_iload_n hF d_X7_walk_42 rfl 1 rfl ?_
        refine g_aload_n hF d_X7_walk_43 rfl 0 rfl ?_
        refine g_get (v := .ref (r 3)) hF 0 obC_9 (by decide) m_553 rfl d_X7_walk_44 ?_
        refine g_getN (v := .int (s38 3 4)) hF 4 obC_3 (by decide) nm_100 rfl d_X7_walk_47 ?_
        refine g_icmp_ge hF 176 d_X7_walk_50 (by decide) rfl rfl (fun c => ?_) (fun c => ?_)
        · have w7 := w6.1 c
          exact g_sub (L' := [(0, .ref (r 9))]) [0] rfl (b176  w7)
        · have w8 := w6.2 c
          refine g_aload_n hF d_X7_walk_53 rfl 0 rfl ?_
          refine g_get (v := .ref (r 6)) hF 1 obC_9 (by decide) m_554 rfl d_X7_walk_54 ?_
          refine g_getN (v := .int (s38 6 3)) hF 3 obC_6 (by decide) nm_315 rfl d_X7_walk_57 ?_
          refine g_if_ne hF 176 d_X7_walk_60 (by decide) rfl (fun c => ?_) (fun c => ?_)
          · have w9 := w8.1 c
            exact g_sub (L' := [(0, .ref (r 9))]) [0] rfl (b176  w9)
          · have w10 := w8.2 c
            refine g_aload_n hF d_X7_walk_63 rfl 0 rfl ?_
            refine g_get (v := .ref (r 3)) hF 0 obC_9 (by decide) m_553 rfl d_X7_walk_64 ?_
            refine g_getN (v := .ref (r 18)) hF 5 obC_3 (by decide) nm_103 rfl d_X7_walk_67 ?_
            refine g_iload_n hF d_X7_walk_70 rfl 1 rfl ?_
            refine g_callSN (As := [.ref (r 18), .int x2_38]) (rest := []) hF (c_atv a r s38 arC_18 (by decide) x2_38) (Nat.le_of_ble_eq_true rfl) mS_X12_at nm_1053 rfl rfl (Nat.le_of_ble_eq_true rfl) d_X7_walk_71 (kQ ?_)
            refine g_top (v := (atv 32100 (s38 18) x2_38)) rfl ?_
            refine g_istore hF [(4, .int (atv 32100 (s38 18) x2_38)), (0, .ref (r 9)), (2, .int x2_38), (3, .int x3_38)] d_X7_walk_74 hnn (by decide) rfl ?_
            refine g_iload hF d_X7_walk_76 0 rfl ?_
            refine g_bipush hF (v := 20) d_X7_walk_78 (by decide) ?_
            obtain ⟨J167, h167, w11⟩ := w10
            have b167 : ∀ (x2_167 : Int32) (s167 : St), J167 x2_167 s167 → G SC r X s167 Z0 [] [(0, .ref (r 9)), (2, .int x2_167), (3, .int x3_38)] [] 167 := by
              intro x2_167 s167  w167_
              have w167_ := h167 x2_167 s167  w167_
              refine g_iinc hF (x2_167 + 1) [(2, .int (x2_167 + 1)), (0, .ref (r 9)), (3, .int x3_38)] d_X7_walk_167 1 rfl rfl hnn (by decide) rfl ?_
              refine g_iinc hF (x3_38 + (-1)) [(3, .int (x3_38 + (-1))), (2, .int (x2_167 + 1)), (0, .ref (r 9))] d_X7_walk_170 2 rfl rfl hnn (by decide) rfl ?_
              refine g_goto hF 38 d_X7_walk_173 (by decide) ?_
              obtain ⟨m38, hm38, w9⟩ := w167_
              exact g_sub (L' := [(0, .ref (r 9)), (2, .int (x2_167 + 1)), (3, .int (x3_38 + (-1)))]) [2, 1, 0] rfl (ih38 m38 hm38 (x2_167 + 1) (x3_38 + (-1)) s167 w9)
            refine g_icmp_ge (yv := 20) hF 94 d_X7_walk_80 (by decide) rfl (by decide) (fun c => ?_) (fun c => ?_)
            · have w12 := w11.1 c
              refine g_iload hF d_X7_walk_94 0 rfl ?_
              refine g_bipush hF (v := 40) d_X7_walk_96 (by decide) ?_
              refine g_icmp_ge (yv := 40) hF 111 d_X7_walk_98 (by decide) rfl (by decide) (fun c => ?_) (fun c => ?_)
              · have w13 := w12.1 c
                refine g_iload hF d_X7_walk_111 0 rfl ?_
                refine g_bipush hF (v := 40) d_X7_walk_113 (by decide) ?_
                refine g_icmp_eq (yv := 40) hF 131 d_X7_walk_115 (by decide) rfl (by decide) (fun c => ?_) (fun c => ?_)
                · have w14 := w13.1 c
                  refine g_aload_n hF d_X7_walk_131 rfl 1 rfl ?_
                  refine g_get (v := .ref (r 3)) hF 0 obC_9 (by decide) m_553 rfl d_X7_walk_132 ?_
                  refine g_getN (v := .ref (r 20)) hF 7 obC_3 (by decide) nm_109 rfl d_X7_walk_135 ?_
                  refine g_iload_n hF d_X7_walk_138 rfl 2 rfl ?_
                  refine g_callSN (As := [.ref (r 20), .int x2_38]) (rest := []) hF (c_atv a r s38 arC_20 (by decide) x2_38) (Nat.le_of_ble_eq_true rfl) mS_X12_at nm_1053 rfl rfl (Nat.le_of_ble_eq_true rfl) d_X7_walk_139 (kQ ?_)
                  refine g_top (v := (atv 32100 (s38 20) x2_38)) rfl ?_
                  refine g_istore hF [(5, .int (atv 32100 (s38 20) x2_38)), (4, .int (atv 32100 (s38 18) x2_38)), (0, .ref (r 9)), (2, .int x2_38), (3, .int x3_38)] d_X7_walk_142 hnn (by decide) rfl ?_
                  refine g_aload_n hF d_X7_walk_144 rfl 2 rfl ?_
                  refine g_get (v := .ref (r 8)) hF 4 obC_9 (by decide) m_557 rfl d_X7_walk_145 ?_
                  refine g_aload_n hF d_X7_walk_148 rfl 2 rfl ?_
                  refine g_iload_n hF d_X7_walk_149 rfl 3 rfl ?_
                  refine g_iconst hF (v := 1) d_X7_walk_150 (by decide) ?_
                  refine g_iadd hF d_X7_walk_151 ?_
                  refine g_iload hF d_X7_walk_152 0 rfl ?_
                  refine g_callV (As := [.int (x2_38 + (1 : Int32)), .int (atv 32100 (s38 20) x2_38)]) (rest := [.ref (r 8)]) hF (fun l D cy => kt_X7_constant a r w14 l D cy) (Nat.le_of_ble_eq_true rfl) mV_X7_constant m_1474 (recv_ob obC_9) rfl rfl (Nat.le_of_ble_eq_true rfl) d_X7_walk_154 (qI (fun v154 s154 w15 => ?_)) (fun _ _ _ h => h.elim)
                  refine g_putN (v := v154) hF 8 obC_8 (by decide) nm_500 rfl rfl rfl d_X7_walk_157 ?_
                  refine g_iload_n hF d_X7_walk_160 rfl 3 rfl ?_
                  refine g_iload hF d_X7_walk_161 0 rfl ?_
                  refine g_mmax hF (Nat.le_of_ble_eq_true rfl) m_1481 m_1131 m_23 m_1132 (Nat.le_of_ble_eq_true rfl) d_X7_walk_163 ?_
                  refine g_istore_n hF [(2, .int (if x2_38 < (atv 32100 (s38 20) x2_38) then (atv 32100 (s38 20) x2_38) else x2_38)), (5, .int (atv 32100 (s38 20) x2_38)), (4, .int (atv 32100 (s38 18) x2_38)), (0, .ref (r 9)), (3, .int x3_38)] d_X7_walk_166 rfl hnn (by decide) rfl ?_
                  exact g_sub (L' := [(0, .ref (r 9)), (2, .int (if x2_38 < (atv 32100 (s38 20) x2_38) then (atv 32100 (s38 20) x2_38) else x2_38)), (3, .int x3_38)]) [3, 0, 4] rfl (b167 (if x2_38 < (atv 32100 (s38 20) x2_38) then (atv 32100 (s38 20) x2_38) else x2_38) (upC s154 8 8 v154) w15)
                · have w16 := w13.2 c
                  refine g_aload_n hF d_X7_walk_118 rfl 1 rfl ?_
                  refine g_get (v := .ref (r 8)) hF 4 obC_9 (by decide) m_557 rfl d_X7_walk_119 ?_
                  refine g_iload hF d_X7_walk_122 0 rfl ?_
                  refine g_iload_n hF d_X7_walk_124 rfl 2 rfl ?_
                  refine g_callVN (As := [.int (atv 32100 (s38 18) x2_38), .int x2_38]) (rest := []) hF (fun l D cy => kt_X1_take a r w16 l D cy) (Nat.le_of_ble_eq_true rfl) mV_X1_take nm_1352 (recv_ob obC_8) rfl rfl (Nat.le_of_ble_eq_true rfl) d_X7_walk_125 (qV (fun s125 w17 => ?_))
                  refine g_goto hF 167 d_X7_walk_128 (by decide) ?_
                  exact g_sub (L' := [(0, .ref (r 9)), (2, .int x2_38), (3, .int x3_38)]) [1, 2, 3] rfl (b167 x2_38 s125 w17)
              · have w18 := w12.2 c
                refine g_aload_n hF d_X7_walk_101 rfl 1 rfl ?_
                refine g_iload hF d_X7_walk_102 0 rfl ?_
                refine g_iload_n hF d_X7_walk_104 rfl 2 rfl ?_
                refine g_callV (As := [.int (atv 32100 (s38 18) x2_38), .int x2_38]) (rest := []) hF (fun l D cy => kt_X7_take a r w18 l D cy) (Nat.le_of_ble_eq_true rfl) mV_X7_take m_1285 (recv_ob obC_9) rfl rfl (Nat.le_of_ble_eq_true rfl) d_X7_walk_105 (qV (fun s105 w19 => ?_)) (fun _ _ _ h => h.elim)
                refine g_goto hF 167 d_X7_walk_108 (by decide) ?_
                exact g_sub (L' := [(0, .ref (r 9)), (2, .int x2_38), (3, .int x3_38)]) [1, 2, 3] rfl (b167 x2_38 s105 w19)
            · have w20 := w11.2 c
              refine g_aload_n hF d_X7_walk_83 rfl 1 rfl ?_
              refine g_get (v := .ref (r 7)) hF 3 obC_9 (by decide) m_556 rfl d_X7_walk_84 ?_
              refine g_iload_n hF d_X7_walk_87 rfl 2 rfl ?_
              refine g_callVN (As := [.int x2_38]) (rest := []) hF (fun l D cy => kt_X2_take a r w20 l D cy) (Nat.le_of_ble_eq_true rfl) mV_X2_take nm_1054 (recv_ob obC_7) rfl rfl (Nat.le_of_ble_eq_true rfl) d_X7_walk_88 (qV (fun s88 w21 => ?_))
              refine g_goto hF 167 d_X7_walk_91 (by decide) ?_
              exact g_sub (L' := [(0, .ref (r 9)), (2, .int x2_38), (3, .int x3_38)]) [1, 2, 3] rfl (b167 x2_38 s88 w21)
  exact g_sub (L' := [(0, .ref (r 9)), (2, .int 0), (3, .int (s12 3 4))]) [2, 1, 0] rfl (b38 i38 (0 : Int32) (s12 3 4) (upC (upC s12 7 7 (0 : Int32)) 9 5 (0 : Int32)) u38)
set_option maxHeartbeats 4000000 in
set_option maxRecDepth 100000 in
theorem kt_X8_keep (a : Nat → Nat) (r : Nat → Nat) {a1 : Int32} {σ : St} {Q : Int32 → St → Prop} (w : wk_X8_keep a1 σ Q) (l : Launch) (D : va_G) (cy : Nat → ClassId) : Ct l D cy SC r (EC a gC) y_X8_keep (Cond.code y_X8_keep b_X8_keep 2 (some .int)) 1 [.ref (r 5), .int a1] σ Z0 [] (QI Q) QT0 := by
  unfold wk_X8_keep at w
  refine Ct_of (EC_ok a gC) (by decide) (Nat.le_of_ble_eq_true rfl) (by decide) (fun X hnn hF => ?_)
  show G SC r X σ Z0 [] [(0, .ref (r 5)), (1, .int a1)] [] 0
  refine g_aload_n hF d_X8_keep_0 rfl 0 rfl ?_
  refine g_dup hF d_X8_keep_1 rfl ?_
  refine g_get (v := .int (σ 5 13)) hF 13 obC_5 (by decide) m_249 rfl d_X8_keep_2 ?_
  refine g_iconst hF (v := 1) d_X8_keep_5 (by decide) ?_
  refine g_iadd hF d_X8_keep_6 ?_
  refine g_put (v := ((σ 5 13) + (1 : Int32))) hF 13 obC_5 (by decide) m_249 rfl rfl rfl d_X8_keep_7 ?_
  refine g_aload_n hF d_X8_keep_10 rfl 0 rfl ?_
  refine g_get (v := .ref (r 34)) hF 14 obC_5 (by decide) m_252 rfl d_X8_keep_11 ?_
  refine g_aload_n hF d_X8_keep_14 rfl 0 rfl ?_
  refine g_get (v := .int ((σ 5 13) + (1 : Int32))) hF 13 obC_5 (by decide) m_249 rfl d_X8_keep_15 ?_
  refine g_aload_n hF d_X8_keep_18 rfl 0 rfl ?_
  refine g_get (v := .int (σ 5 1)) hF 1 obC_5 (by decide) m_222 rfl d_X8_keep_19 ?_
  refine g_callSN (As := [.ref (r 34), .int ((σ 5 13) + (1 : Int32)), .int (σ 5 1)]) (rest := []) hF (c_setv a r (upC σ 5 13 ((σ 5 13) + (1 : Int32))) arC_34 (by decide) ((σ 5 13) + (1 : Int32)) (σ 5 1)) (Nat.le_of_ble_eq_true rfl) mS_X12_set nm_1098 rfl rfl (Nat.le_of_ble_eq_true rfl) d_X8_keep_22 (kU ?_)
  refine g_aload_n hF d_X8_keep_25 rfl 0 rfl ?_
  refine g_get (v := .ref (r 35)) hF 15 obC_5 (by decide) m_254 rfl d_X8_keep_26 ?_
  refine g_aload_n hF d_X8_keep_29 rfl 0 rfl ?_
  refine g_get (v := .int ((σ 5 13) + (1 : Int32))) hF 13 obC_5 (by decide) m_249 rfl d_X8_keep_30 ?_
  refine g_aload_n hF d_X8_keep_33 rfl 0 rfl ?_
  refine g_get (v := .int (σ 5 9)) hF 9 obC_5 (by decide) m_242 rfl d_X8_keep_34 ?_
  refine g_callSN (As := [.ref (r 35), .int ((σ 5 13) + (1 : Int32)), .int (σ 5 9)]) (rest := []) hF (c_setv a r (upF (upC σ 5 13 ((σ 5 13) + (1 : Int32))) 34 (setv 101 ((upC σ 5 13 ((σ 5 13) + (1 : Int32))) 34) ((σ 5 13) + (1 : Int32)) (σ 5 1))) arC_35 (by decide) ((σ 5 13) + (1 : Int32)) (σ 5 9)) (Nat.le_of_ble_eq_true rfl) mS_X12_set nm_1098 rfl rfl (Nat.le_of_ble_eq_true rfl) d_X8_keep_37 (kU ?_)
  refine g_aload_n hF d_X8_keep_40 rfl 0 rfl ?_
  refine g_get (v := .ref (r 36)) hF 16 obC_5 (by decide) m_256 rfl d_X8_keep_41 ?_
  refine g_aload_n hF d_X8_keep_44 rfl 0 rfl ?_
  refine g_get (v := .int ((σ 5 13) + (1 : Int32))) hF 13 obC_5 (by decide) m_249 rfl d_X8_keep_45 ?_
  refine g_aload_n hF d_X8_keep_48 rfl 0 rfl ?_
  refine g_get (v := .ref (r 4)) hF 0 obC_5 (by decide) m_221 rfl d_X8_keep_49 ?_
  refine g_getN (v := .int (σ 4 1)) hF 1 obC_4 (by decide) nm_156 rfl d_X8_keep_52 ?_
  refine g_callSN (As := [.ref (r 36), .int ((σ 5 13) + (1 : Int32)), .int (σ 4 1)]) (rest := []) hF (c_setv a r (upF (upF (upC σ 5 13 ((σ 5 13) + (1 : Int32))) 34 (setv 101 ((upC σ 5 13 ((σ 5 13) + (1 : Int32))) 34) ((σ 5 13) + (1 : Int32)) (σ 5 1))) 35 (setv 101 ((upF (upC σ 5 13 ((σ 5 13) + (1 : Int32))) 34 (setv 101 ((upC σ 5 13 ((σ 5 13) + (1 : Int32))) 34) ((σ 5 13) + (1 : Int32)) (σ 5 1))) 35) ((σ 5 13) + (1 : Int32)) (σ 5 9))) arC_36 (by decide) ((σ 5 13) + (1 : Int32)) (σ 4 1)) (Nat.le_of_ble_eq_true rfl) mS_X12_set nm_1098 rfl rfl (Nat.le_of_ble_eq_true rfl) d_X8_keep_55 (kU ?_)
  refine g_aload_n hF d_X8_keep_58 rfl 0 rfl ?_
  refine g_get (v := .ref (r 37)) hF 17 obC_5 (by decide) m_257 rfl d_X8_keep_59 ?_
  refine g_aload_n hF d_X8_keep_62 rfl 0 rfl ?_
  refine g_get (v := .int ((σ 5 13) + (1 : Int32))) hF 13 obC_5 (by decide) m_249 rfl d_X8_keep_63 ?_
  refine g_iload_n hF d_X8_keep_66 rfl 1 rfl ?_
  refine g_callSN (As := [.ref (r 37), .int ((σ 5 13) + (1 : Int32)), .int a1]) (rest := []) hF (c_setv a r (upF (upF (upF (upC σ 5 13 ((σ 5 13) + (1 : Int32))) 34 (setv 101 ((upC σ 5 13 ((σ 5 13) + (1 : Int32))) 34) ((σ 5 13) + (1 : Int32)) (σ 5 1))) 35 (setv 101 ((upF (upC σ 5 13 ((σ 5 13) + (1 : Int32))) 34 (setv 101 ((upC σ 5 13 ((σ 5 13) + (1 : Int32))) 34) ((σ 5 13) + (1 : Int32)) (σ 5 1))) 35) ((σ 5 13) + (1 : Int32)) (σ 5 9))) 36 (setv 101 ((upF (upF (upC σ 5 13 ((σ 5 13) + (1 : Int32))) 34 (setv 101 ((upC σ 5 13 ((σ 5 13) + (1 : Int32))) 34) ((σ 5 13) + (1 : Int32)) (σ 5 1))) 35 (setv 101 ((upF (upC σ 5 13 ((σ 5 13) + (1 : Int32))) 34 (setv 101 ((upC σ 5 13 ((σ 5 13) + (1 : Int32))) 34) ((σ 5 13) + (1 : Int32)) (σ 5 1))) 35) ((σ 5 13) + (1 : Int32)) (σ 5 9))) 36) ((σ 5 13) + (1 : Int32)) (σ 4 1))) arC_37 (by decide) ((σ 5 13) + (1 : Int32)) a1) (Nat.le_of_ble_eq_true rfl) mS_X12_set nm_1098 rfl rfl (Nat.le_of_ble_eq_true rfl) d_X8_keep_67 (kU ?_)
  refine g_aload_n hF d_X8_keep_70 rfl 0 rfl ?_
  refine g_get (v := .int ((σ 5 13) + (1 : Int32))) hF 13 obC_5 (by decide) m_249 rfl d_X8_keep_71 ?_
  exact g_iret hF rfl d_X8_keep_74 ⟨rfl, rfl, ((σ 5 13) + (1 : Int32)), rfl, w⟩
set_option maxHeartbeats 4000000 in
set_option maxRecDepth 100000 in
theorem kt_X8_nameStart (a : Nat → Nat) (r : Nat → Nat) {a1 : Int32} {σ : St} {Q : Int32 → Prop} (w : wk_X8_nameStart a1 σ Q) (l : Launch) (D : va_G) (cy : Nat → ClassId) : Ct l D cy SC r (EC a gC) y_X8_nameStart (Cond.code y_X8_nameStart b_X8_nameStart 2 (some .int)) 1 [.ref (r 5), .int a1] σ Z0 [] (QI (fun x σ9 => σ9 = σ ∧ Q x)) QT0 := by
  unfold wk_X8_nameStart at w
  refine Ct_of (EC_ok a gC) (by decide) (Nat.le_of_ble_eq_true rfl) (by decide) (fun X hnn hF => ?_)
  show G SC r X σ Z0 [] [(0, .ref (r 5)), (1, .int a1)] [] 0
  refine g_aload_n hF d_X8_nameStart_0 rfl 0 rfl ?_
  refine g_get (v := .ref (r 29)) hF 6 obC_5 (by decide) m_237 rfl d_X8_nameStart_1 ?_
  refine g_iload_n hF d_X8_nameStart_4 rfl 1 rfl ?_
  refine g_iconst hF (v := 1) d_X8_nameStart_5 (by decide) ?_
  refine g_isub hF d_X8_nameStart_6 ?_
  refine g_callSN (As := [.ref (r 29), .int (a1 - (1 : Int32))]) (rest := []) hF (c_atv a r σ arC_29 (by decide) (a1 - (1 : Int32))) (Nat.le_of_ble_eq_true rfl) mS_X12_at nm_1125 rfl rfl (Nat.le_of_ble_eq_true rfl) d_X8_nameStart_7 (kQ ?_)
  refine g_top (v := (atv 10100 (σ 29) (a1 - (1 : Int32)))) rfl ?_
  exact g_iret hF rfl d_X8_nameStart_10 ⟨rfl, rfl, (atv 10100 (σ 29) (a1 - (1 : Int32))), rfl, ⟨rfl, w⟩⟩
set_option maxHeartbeats 4000000 in
set_option maxRecDepth 100000 in
theorem kt_X8_forget (a : Nat → Nat) (r : Nat → Nat) {σ : St} {Q : St → Prop} (w : wk_X8_forget  σ Q) (l : Launch) (D : va_G) (cy : Nat → ClassId) : Ct l D cy SC r (EC a gC) y_X8_forget (Cond.code y_X8_forget b_X8_forget 1 none) 2 [.ref (r 5)] σ Z0 [] (QV Q) QT0 := by
  unfold wk_X8_forget at w
  refine Ct_of (EC_ok a gC) (by decide) (Nat.le_of_ble_eq_true rfl) (by decide) (fun X hnn hF => ?_)
  show G SC r X σ Z0 [] [(0, .ref (r 5))] [] 0
  refine g_aload_n hF d_X8_forget_0 rfl 0 rfl ?_
  refine g_aload_n hF d_X8_forget_1 rfl 0 rfl ?_
  refine g_get (v := .ref (r 34)) hF 14 obC_5 (by decide) m_252 rfl d_X8_forget_2 ?_
  refine g_aload_n hF d_X8_forget_5 rfl 0 rfl ?_
  refine g_get (v := .int (σ 5 13)) hF 13 obC_5 (by decide) m_249 rfl d_X8_forget_6 ?_
  refine g_callSN (As := [.ref (r 34), .int (σ 5 13)]) (rest := [.ref (r 5)]) hF (c_atv a r σ arC_34 (by decide) (σ 5 13)) (Nat.le_of_ble_eq_true rfl) mS_X12_at nm_1125 rfl rfl (Nat.le_of_ble_eq_true rfl) d_X8_forget_9 (kQ ?_)
  refine g_top (v := (atv 101 (σ 34) (σ 5 13))) rfl ?_
  refine g_put (v := (atv 101 (σ 34) (σ 5 13))) hF 1 obC_5 (by decide) m_222 rfl rfl rfl d_X8_forget_12 ?_
  refine g_aload_n hF d_X8_forget_15 rfl 0 rfl ?_
  refine g_aload_n hF d_X8_forget_16 rfl 0 rfl ?_
  refine g_aload_n hF d_X8_forget_17 rfl 0 rfl ?_
  refine g_get (v := .int (atv 101 (σ 34) (σ 5 13))) hF 1 obC_5 (by decide) m_222 rfl d_X8_forget_18 ?_
  refine g_callV (As := [.int (atv 101 (σ 34) (σ 5 13))]) (rest := [.ref (r 5)]) hF (fun l D cy => kt_X8_nameStart a r w l D cy) (Nat.le_of_ble_eq_true rfl) mV_X8_nameStart m_1492 (recv_ob obC_5) rfl rfl (Nat.le_of_ble_eq_true rfl) d_X8_forget_21 (qIr (fun v21 w1 => ?_)) (fun _ _ _ h => h.elim)
  refine g_put (v := v21) hF 7 obC_5 (by decide) m_239 rfl rfl rfl d_X8_forget_24 ?_
  refine g_aload_n hF d_X8_forget_27 rfl 0 rfl ?_
  refine g_aload_n hF d_X8_forget_28 rfl 0 rfl ?_
  refine g_get (v := .ref (r 35)) hF 15 obC_5 (by decide) m_254 rfl d_X8_forget_29 ?_
  refine g_aload_n hF d_X8_forget_32 rfl 0 rfl ?_
  refine g_get (v := .int (σ 5 13)) hF 13 obC_5 (by decide) m_249 rfl d_X8_forget_33 ?_
  refine g_callSN (As := [.ref (r 35), .int (σ 5 13)]) (rest := [.ref (r 5)]) hF (c_atv a r (upC (upC σ 5 1 (atv 101 (σ 34) (σ 5 13))) 5 7 v21) arC_35 (by decide) (σ 5 13)) (Nat.le_of_ble_eq_true rfl) mS_X12_at nm_1125 rfl rfl (Nat.le_of_ble_eq_true rfl) d_X8_forget_36 (kQ ?_)
  refine g_top (v := (atv 101 (σ 35) (σ 5 13))) rfl ?_
  refine g_put (v := (atv 101 (σ 35) (σ 5 13))) hF 9 obC_5 (by decide) m_242 rfl rfl rfl d_X8_forget_39 ?_
  refine g_aload_n hF d_X8_forget_42 rfl 0 rfl ?_
  refine g_get (v := .ref (r 4)) hF 0 obC_5 (by decide) m_221 rfl d_X8_forget_43 ?_
  refine g_aload_n hF d_X8_forget_46 rfl 0 rfl ?_
  refine g_get (v := .ref (r 36)) hF 16 obC_5 (by decide) m_256 rfl d_X8_forget_47 ?_
  refine g_aload_n hF d_X8_forget_50 rfl 0 rfl ?_
  refine g_get (v := .int (σ 5 13)) hF 13 obC_5 (by decide) m_249 rfl d_X8_forget_51 ?_
  refine g_callSN (As := [.ref (r 36), .int (σ 5 13)]) (rest := [.ref (r 4)]) hF (c_atv a r (upC (upC (upC σ 5 1 (atv 101 (σ 34) (σ 5 13))) 5 7 v21) 5 9 (atv 101 (σ 35) (σ 5 13))) arC_36 (by decide) (σ 5 13)) (Nat.le_of_ble_eq_true rfl) mS_X12_at nm_1125 rfl rfl (Nat.le_of_ble_eq_true rfl) d_X8_forget_54 (kQ ?_)
  refine g_top (v := (atv 101 (σ 36) (σ 5 13))) rfl ?_
  refine g_callVN (As := [.int (atv 101 (σ 36) (σ 5 13))]) (rest := []) hF (fun l D cy => kt_X0_cut a r w1 l D cy) (Nat.le_of_ble_eq_true rfl) mV_X0_cut nm_1496 (recv_ob obC_4) rfl rfl (Nat.le_of_ble_eq_true rfl) d_X8_forget_57 (qV (fun s57 w2 => ?_))
  exact g_vret hF rfl d_X8_forget_60 ⟨rfl, rfl, rfl, w2⟩
set_option maxHeartbeats 4000000 in
set_option maxRecDepth 100000 in
theorem kt_X12_compile (a : Nat → Nat) (r : Nat → Nat) {a1 : Int32} {σ : St} {Q : Int32 → St → Prop} (w : wk_X12_compile a1 σ Q) (l : Launch) (D : va_G) (cy : Nat → ClassId) : Ct l D cy SC r (EC a gC) y_X12_compile (Cond.code y_X12_compile b_X12_compile 3 (some .int)) 407 [.ref (r 0), .int a1] σ Z0 [] (QI Q) QT0 := by
  unfold wk_X12_compile at w
  refine Ct_of (EC_ok a gC) (by decide) (Nat.le_of_ble_eq_true rfl) (by decide) (fun X hnn hF => ?_)
  show G SC r X σ Z0 [] [(0, .ref (r 0)), (1, .int a1)] [] 0
  refine g_aload_n hF d_X12_compile_0 rfl 0 rfl ?_
  refine g_get (v := .int (σ 0 1)) hF 1 obC_0 (by decide) m_736 rfl d_X12_compile_1 ?_
  refine g_istore_n hF [(2, .int (σ 0 1)), (0, .ref (r 0)), (1, .int a1)] d_X12_compile_4 rfl hnn (by decide) rfl ?_
  refine g_aload_n hF d_X12_compile_5 rfl 1 rfl ?_
  refine g_iconst hF (v := 0) d_X12_compile_6 (by decide) ?_
  refine g_put (v := 0) hF 1 obC_0 (by decide) m_736 rfl rfl rfl d_X12_compile_7 ?_
  refine g_aload_n hF d_X12_compile_10 rfl 1 rfl ?_
  refine g_iconst hF (v := (-1)) d_X12_compile_11 (by decide) ?_
  refine g_put (v := (-1)) hF 3 obC_0 (by decide) m_738 rfl rfl rfl d_X12_compile_12 ?_
  refine g_iload_n hF d_X12_compile_15 rfl 2 rfl ?_
  refine g_if_lt hF 36 d_X12_compile_16 (by decide) rfl (fun c => ?_) (fun c => ?_)
  · have w1 := w.1 c
    refine g_bipush hF (v := (-14)) d_X12_compile_36 (by decide) ?_
    exact g_iret hF rfl d_X12_compile_38 ⟨rfl, rfl, ((-14) : Int32), rfl, w1⟩
  · have w2 := w.2 c
    refine g_iload_n hF d_X12_compile_19 rfl 2 rfl ?_
    refine g_iconst hF (v := 3) d_X12_compile_20 (by decide) ?_
    refine g_icmp_gt (yv := 3) hF 36 d_X12_compile_21 (by decide) rfl (by decide) (fun c => ?_) (fun c => ?_)
    · have w3 := w2.1 c
      refine g_bipush hF (v := (-14)) d_X12_compile_36 (by decide) ?_
      exact g_iret hF rfl d_X12_compile_38 ⟨rfl, rfl, ((-14) : Int32), rfl, w3⟩
    · have w4 := w2.2 c
      refine g_aload_n hF d_X12_compile_24 rfl 1 rfl ?_
      refine g_get (v := .ref (r 5)) hF 7 obC_0 (by decide) m_742 rfl d_X12_compile_25 ?_
      refine g_getN (v := .int (σ 5 13)) hF 13 obC_5 (by decide) nm_250 rfl d_X12_compile_28 ?_
      refine g_bipush hF (v := 100) d_X12_compile_31 (by decide) ?_
      refine g_icmp_lt (yv := 100) hF 39 d_X12_compile_33 (by decide) rfl (by decide) (fun c => ?_) (fun c => ?_)
      · have w5 := w4.1 c
        refine g_aload_n hF d_X12_compile_39 rfl 1 rfl ?_
        refine g_get (v := .ref (r 2)) hF 4 obC_0 (by decide) m_739 rfl d_X12_compile_40 ?_
        refine g_iload_n hF d_X12_compile_43 rfl 0 rfl ?_
        refine g_callVN (As := [.int (σ 0 1)]) (rest := []) hF (fun l D cy => kt_X10_scan a r w5 l D cy) (Nat.le_of_ble_eq_true rfl) mV_X10_scan nm_798 (recv_ob obC_2) rfl rfl (Nat.le_of_ble_eq_true rfl) d_X12_compile_44 (qV (fun s44 w6 => ?_))
        refine g_aload_n hF d_X12_compile_47 rfl 1 rfl ?_
        refine g_get (v := .ref (r 3)) hF 5 obC_0 (by decide) m_740 rfl d_X12_compile_48 ?_
        refine g_callVN (As := []) (rest := []) hF (fun l D cy => kt_X3_read a r w6 l D cy) (Nat.le_of_ble_eq_true rfl) mV_X3_read nm_895 (recv_ob obC_3) rfl rfl (Nat.le_of_ble_eq_true rfl) d_X12_compile_51 (qZ (fun v51 s51 hz51 w7 => ?_))
        refine g_if_ne hF 81 d_X12_compile_54 (by decide) rfl (fun c => ?_) (fun c => ?_)
        · have w8 := w7.1 c
          refine g_aload_n hF d_X12_compile_81 rfl 1 rfl ?_
          refine g_get (v := .ref (r 9)) hF 11 obC_0 (by decide) m_746 rfl d_X12_compile_82 ?_
          refine g_iload_n hF d_X12_compile_85 rfl 2 rfl ?_
          refine g_callVN (As := [.int a1]) (rest := []) hF (fun l D cy => kt_X7_walk a r w8 l D cy) (Nat.le_of_ble_eq_true rfl) mV_X7_walk nm_1037 (recv_ob obC_9) rfl rfl (Nat.le_of_ble_eq_true rfl) d_X12_compile_86 (qV (fun s86 w9 => ?_))
          refine g_aload_n hF d_X12_compile_89 rfl 1 rfl ?_
          refine g_get (v := .ref (r 6)) hF 8 obC_0 (by decide) m_743 rfl d_X12_compile_90 ?_
          refine g_getN (v := .int (s86 6 3)) hF 3 obC_6 (by decide) nm_316 rfl d_X12_compile_93 ?_
          refine g_if_eq hF 138 d_X12_compile_96 (by decide) rfl (fun c => ?_) (fun c => ?_)
          · have w10 := w9.1 c
            refine g_aload_n hF d_X12_compile_138 rfl 1 rfl ?_
            refine g_get (v := .ref (r 5)) hF 7 obC_0 (by decide) m_742 rfl d_X12_compile_139 ?_
            refine g_aload_n hF d_X12_compile_142 rfl 1 rfl ?_
            refine g_get (v := .ref (r 6)) hF 8 obC_0 (by decide) m_743 rfl d_X12_compile_143 ?_
            refine g_getN (v := .int (s86 6 5)) hF 5 obC_6 (by decide) nm_321 rfl d_X12_compile_146 ?_
            refine g_callVN (As := [.int (s86 6 5)]) (rest := []) hF (fun l D cy => kt_X8_keep a r w10 l D cy) (Nat.le_of_ble_eq_true rfl) mV_X8_keep nm_1497 (recv_ob obC_5) rfl rfl (Nat.le_of_ble_eq_true rfl) d_X12_compile_149 (qI (fun v149 s149 w11 => ?_))
            exact g_iret hF rfl d_X12_compile_152 ⟨rfl, rfl, v149, rfl, w11⟩
          · have w12 := w9.2 c
            refine g_aload_n hF d_X12_compile_99 rfl 1 rfl ?_
            refine g_get (v := .ref (r 5)) hF 7 obC_0 (by decide) m_742 rfl d_X12_compile_100 ?_
            refine g_callVN (As := []) (rest := []) hF (fun l D cy => kt_X8_forget a r w12 l D cy) (Nat.le_of_ble_eq_true rfl) mV_X8_forget nm_1488 (recv_ob obC_5) rfl rfl (Nat.le_of_ble_eq_true rfl) d_X12_compile_103 (qV (fun s103 w13 => ?_))
            refine g_aload_n hF d_X12_compile_106 rfl 1 rfl ?_
            refine g_aload_n hF d_X12_compile_107 rfl 1 rfl ?_
            refine g_get (v := .ref (r 2)) hF 4 obC_0 (by decide) m_739 rfl d_X12_compile_108 ?_
            refine g_getN (v := .ref (r 15)) hF 7 obC_2 (by decide) nm_57 rfl d_X12_compile_111 ?_
            refine g_aload_n hF d_X12_compile_114 rfl 1 rfl ?_
            refine g_get (v := .ref (r 6)) hF 8 obC_0 (by decide) m_743 rfl d_X12_compile_115 ?_
            refine g_getN (v := .int (s103 6 4)) hF 4 obC_6 (by decide) nm_319 rfl d_X12_compile_118 ?_
            refine g_callS (As := [.ref (r 15), .int (s103 6 4)]) (rest := [.ref (r 0)]) hF (c_atv a r s103 arC_15 (by decide) (s103 6 4)) (Nat.le_of_ble_eq_true rfl) mS_X12_at m_1036 rfl rfl (Nat.le_of_ble_eq_true rfl) d_X12_compile_121 (kQ ?_) (fun _ _ _ h => h.elim)
            refine g_top (v := (atv 16002 (s103 15) (s103 6 4))) rfl ?_
            refine g_put (v := (atv 16002 (s103 15) (s103 6 4))) hF 3 obC_0 (by decide) m_738 rfl rfl rfl d_X12_compile_124 ?_
            refine g_bipush hF (v := (-20)) d_X12_compile_127 (by decide) ?_
            refine g_aload_n hF d_X12_compile_129 rfl 1 rfl ?_
            refine g_get (v := .ref (r 6)) hF 8 obC_0 (by decide) m_743 rfl d_X12_compile_130 ?_
            refine g_getN (v := .int (s103 6 3)) hF 3 obC_6 (by decide) nm_316 rfl d_X12_compile_133 ?_
            refine g_isub hF d_X12_compile_136 ?_
            exact g_iret hF rfl d_X12_compile_137 ⟨rfl, rfl, (((-20) : Int32) - (s103 6 3)), rfl, w13⟩
        · have w14 := w7.2 c
          refine g_aload_n hF d_X12_compile_57 rfl 1 rfl ?_
          refine g_aload_n hF d_X12_compile_58 rfl 1 rfl ?_
          refine g_get (v := .ref (r 2)) hF 4 obC_0 (by decide) m_739 rfl d_X12_compile_59 ?_
          refine g_getN (v := .ref (r 15)) hF 7 obC_2 (by decide) nm_57 rfl d_X12_compile_62 ?_
          refine g_aload_n hF d_X12_compile_65 rfl 1 rfl ?_
          refine g_get (v := .ref (r 3)) hF 5 obC_0 (by decide) m_740 rfl d_X12_compile_66 ?_
          refine g_getN (v := .int (s51 3 3)) hF 3 obC_3 (by decide) nm_98 rfl d_X12_compile_69 ?_
          refine g_callS (As := [.ref (r 15), .int (s51 3 3)]) (rest := [.ref (r 0)]) hF (c_atv a r s51 arC_15 (by decide) (s51 3 3)) (Nat.le_of_ble_eq_true rfl) mS_X12_at m_1036 rfl rfl (Nat.le_of_ble_eq_true rfl) d_X12_compile_72 (kQ ?_) (fun _ _ _ h => h.elim)
          refine g_top (v := (atv 16002 (s51 15) (s51 3 3))) rfl ?_
          refine g_put (v := (atv 16002 (s51 15) (s51 3 3))) hF 3 obC_0 (by decide) m_738 rfl rfl rfl d_X12_compile_75 ?_
          refine g_bipush hF (v := (-21)) d_X12_compile_78 (by decide) ?_
          exact g_iret hF rfl d_X12_compile_80 ⟨rfl, rfl, ((-21) : Int32), rfl, w14⟩
      · have w15 := w4.2 c
        refine g_bipush hF (v := (-14)) d_X12_compile_36 (by decide) ?_
        exact g_iret hF rfl d_X12_compile_38 ⟨rfl, rfl, ((-14) : Int32), rfl, w15⟩
set_option maxHeartbeats 4000000 in
set_option maxRecDepth 100000 in
theorem kt_X12_place (a : Nat → Nat) (r : Nat → Nat) {σ : St} {Q : Int32 → Prop} (w : wk_X12_place  σ Q) (l : Launch) (D : va_G) (cy : Nat → ClassId) : Ct l D cy SC r (EC a gC) y_X12_place (Cond.code y_X12_place b_X12_place 1 (some .int)) 0 [.ref (r 0)] σ Z0 [] (QI (fun x σ9 => σ9 = σ ∧ Q x)) QT0 := by
  unfold wk_X12_place at w
  refine Ct_of (EC_ok a gC) (by decide) (Nat.le_of_ble_eq_true rfl) (by decide) (fun X hnn hF => ?_)
  show G SC r X σ Z0 [] [(0, .ref (r 0))] [] 0
  refine g_aload_n hF d_X12_place_0 rfl 0 rfl ?_
  refine g_get (v := .int (σ 0 3)) hF 3 obC_0 (by decide) m_738 rfl d_X12_place_1 ?_
  exact g_iret hF rfl d_X12_place_4 ⟨rfl, rfl, (σ 0 3), rfl, ⟨rfl, w⟩⟩
set_option maxHeartbeats 4000000 in
set_option maxRecDepth 100000 in
theorem kt_X12_objects (a : Nat → Nat) (r : Nat → Nat) {σ : St} {Q : Int32 → Prop} (w : wk_X12_objects  σ Q) (l : Launch) (D : va_G) (cy : Nat → ClassId) : Ct l D cy SC r (EC a gC) y_X12_objects (Cond.code y_X12_objects b_X12_objects 1 (some .int)) 0 [.ref (r 0)] σ Z0 [] (QI (fun x σ9 => σ9 = σ ∧ Q x)) QT0 := by
  unfold wk_X12_objects at w
  refine Ct_of (EC_ok a gC) (by decide) (Nat.le_of_ble_eq_true rfl) (by decide) (fun X hnn hF => ?_)
  show G SC r X σ Z0 [] [(0, .ref (r 0))] [] 0
  refine g_aload_n hF d_X12_objects_0 rfl 0 rfl ?_
  refine g_get (v := .ref (r 5)) hF 7 obC_0 (by decide) m_742 rfl d_X12_objects_1 ?_
  refine g_getN (v := .int (σ 5 13)) hF 13 obC_5 (by decide) nm_250 rfl d_X12_objects_4 ?_
  exact g_iret hF rfl d_X12_objects_7 ⟨rfl, rfl, (σ 5 13), rfl, ⟨rfl, w⟩⟩
set_option maxHeartbeats 4000000 in
set_option maxRecDepth 100000 in
theorem kt_X8_has (a : Nat → Nat) (r : Nat → Nat) {a1 : Int32} {σ : St} {Q : Int32 → Prop} (w : wk_X8_has a1 σ Q) (l : Launch) (D : va_G) (cy : Nat → ClassId) : Ct l D cy SC r (EC a gC) y_X8_has (Cond.code y_X8_has b_X8_has 2 (some .boolean)) 0 [.ref (r 5), .int a1] σ Z0 [] (QI (fun x σ9 => (x = 0 ∨ x = 1) ∧ σ9 = σ ∧ Q x)) QT0 := by
  unfold wk_X8_has at w
  refine Ct_of (EC_ok a gC) (by decide) (Nat.le_of_ble_eq_true rfl) (by decide) (fun X hnn hF => ?_)
  show G SC r X σ Z0 [] [(0, .ref (r 5)), (1, .int a1)] [] 0
  refine g_iload_n hF d_X8_has_0 rfl 1 rfl ?_
  refine g_iconst hF (v := 1) d_X8_has_1 (by decide) ?_
  refine g_icmp_lt (yv := 1) hF 17 d_X8_has_2 (by decide) rfl (by decide) (fun c => ?_) (fun c => ?_)
  · have w1 := w.1 c
    refine g_iconst hF (v := 0) d_X8_has_17 (by decide) ?_
    exact g_zret hF rfl (k_nz (Or.inl rfl)) d_X8_has_18 ⟨rfl, rfl, (0 : Int32), rfl, (Or.inl rfl), ⟨rfl, w1⟩⟩
  · have w2 := w.2 c
    refine g_iload_n hF d_X8_has_5 rfl 1 rfl ?_
    refine g_aload_n hF d_X8_has_6 rfl 0 rfl ?_
    refine g_get (v := .int (σ 5 13)) hF 13 obC_5 (by decide) m_249 rfl d_X8_has_7 ?_
    refine g_icmp_gt hF 17 d_X8_has_10 (by decide) rfl rfl (fun c => ?_) (fun c => ?_)
    · have w3 := w2.1 c
      refine g_iconst hF (v := 0) d_X8_has_17 (by decide) ?_
      exact g_zret hF rfl (k_nz (Or.inl rfl)) d_X8_has_18 ⟨rfl, rfl, (0 : Int32), rfl, (Or.inl rfl), ⟨rfl, w3⟩⟩
    · have w4 := w2.2 c
      refine g_iconst hF (v := 1) d_X8_has_13 (by decide) ?_
      refine g_goto hF 18 d_X8_has_14 (by decide) ?_
      exact g_zret hF rfl (k_nz (Or.inr rfl)) d_X8_has_18 ⟨rfl, rfl, (1 : Int32), rfl, (Or.inr rfl), ⟨rfl, w4⟩⟩
set_option maxHeartbeats 4000000 in
set_option maxRecDepth 100000 in
theorem kt_X8_firstOf (a : Nat → Nat) (r : Nat → Nat) {a1 : Int32} {σ : St} {Q : Int32 → Prop} (w : wk_X8_firstOf a1 σ Q) (l : Launch) (D : va_G) (cy : Nat → ClassId) : Ct l D cy SC r (EC a gC) y_X8_firstOf (Cond.code y_X8_firstOf b_X8_firstOf 2 (some .int)) 1 [.ref (r 5), .int a1] σ Z0 [] (QI (fun x σ9 => σ9 = σ ∧ Q x)) QT0 := by
  unfold wk_X8_firstOf at w
  refine Ct_of (EC_ok a gC) (by decide) (Nat.le_of_ble_eq_true rfl) (by decide) (fun X hnn hF => ?_)
  show G SC r X σ Z0 [] [(0, .ref (r 5)), (1, .int a1)] [] 0
  refine g_iload_n hF d_X8_firstOf_0 rfl 1 rfl ?_
  refine g_if_gt hF 8 d_X8_firstOf_1 (by decide) rfl (fun c => ?_) (fun c => ?_)
  · have w1 := w.1 c
    refine g_aload_n hF d_X8_firstOf_8 rfl 0 rfl ?_
    refine g_get (v := .ref (r 34)) hF 14 obC_5 (by decide) m_252 rfl d_X8_firstOf_9 ?_
    refine g_iload_n hF d_X8_firstOf_12 rfl 1 rfl ?_
    refine g_iconst hF (v := 1) d_X8_firstOf_13 (by decide) ?_
    refine g_isub hF d_X8_firstOf_14 ?_
    refine g_callSN (As := [.ref (r 34), .int (a1 - (1 : Int32))]) (rest := []) hF (c_atv a r σ arC_34 (by decide) (a1 - (1 : Int32))) (Nat.le_of_ble_eq_true rfl) mS_X12_at nm_1125 rfl rfl (Nat.le_of_ble_eq_true rfl) d_X8_firstOf_15 (kQ ?_)
    refine g_top (v := (atv 101 (σ 34) (a1 - (1 : Int32)))) rfl ?_
    exact g_iret hF rfl d_X8_firstOf_18 ⟨rfl, rfl, (atv 101 (σ 34) (a1 - (1 : Int32))), rfl, ⟨rfl, w1⟩⟩
  · have w2 := w.2 c
    refine g_iconst hF (v := 0) d_X8_firstOf_4 (by decide) ?_
    refine g_goto hF 18 d_X8_firstOf_5 (by decide) ?_
    exact g_iret hF rfl d_X8_firstOf_18 ⟨rfl, rfl, (0 : Int32), rfl, ⟨rfl, w2⟩⟩
