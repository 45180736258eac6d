def wp_work (a0 : Int32) (a1 : Int32) (a2 : Int32) (σ τ : St) (vs : List Nat) (Q : Int32 → Prop) : Prop :=
  (∃ J219 : Prop, (J219  → ((∃ J233 : Int32 → Prop, (∀ (y0_233 : Int32), J233 y0_233 → ((∃ J248 : Int32 → Prop, (∀ (y1_248 : Int32), J248 y1_248 → ((∃ J263 : Int32 → Prop, (∀ (y2_263 : Int32), J263 y2_263 → (wp_compared y0_233 y1_248 y2_263 σ τ vs (fun v263 => (v263.toInt = 0 → Q (0 : Int32)) ∧ (v263.toInt ≠ 0 → Q (1 : Int32))))) ∧ (100 ≤ a0.toInt → J263 (a2 + ((-2147483648) : Int32))) ∧ (a0.toInt < 100 → J263 a2)))) ∧ (100 ≤ a0.toInt → J248 (a1 + ((-2147483648) : Int32))) ∧ (a0.toInt < 100 → J248 a1)))) ∧ (100 ≤ a0.toInt → J233 (a0 - (100 : Int32))) ∧ (a0.toInt < 100 → J233 a0)))) ∧ (a0.toInt = 12 → (a1.toInt ≠ a2.toInt → Q (0 : Int32)) ∧ (a1.toInt = a2.toInt → Q (1 : Int32))) ∧ (¬ a0.toInt = 12 → (a0.toInt = 13 → (a1.toInt = a2.toInt → Q (0 : Int32)) ∧ (a1.toInt ≠ a2.toInt → Q (1 : Int32))) ∧ (¬ a0.toInt = 13 → (a0.toInt = 14 → J219) ∧ (¬ a0.toInt = 14 → (a0.toInt = 15 → J219) ∧ (¬ a0.toInt = 15 → (a0.toInt = 16 → Q (a1 <<< ((a2 &&& (31 : Int32)) &&& 31))) ∧ (¬ a0.toInt = 16 → (a0.toInt = 17 → Q (a1 >>> ((a2 &&& (31 : Int32)) &&& 31))) ∧ (¬ a0.toInt = 17 → (a0.toInt = 18 → J219) ∧ (¬ a0.toInt = 18 → (a0.toInt = 19 → J219) ∧ (¬ a0.toInt = 19 → (a0.toInt = 20 → J219) ∧ (¬ a0.toInt = 20 → (a0.toInt = 21 → J219) ∧ (¬ a0.toInt = 21 → (a0.toInt = 22 → J219) ∧ (¬ a0.toInt = 22 → (a0.toInt = 23 → J219) ∧ (¬ a0.toInt = 23 → (a0.toInt = 24 → J219) ∧ (¬ a0.toInt = 24 → (a0.toInt = 25 → J219) ∧ (¬ a0.toInt = 25 → (a0.toInt = 26 → J219) ∧ (¬ a0.toInt = 26 → (a0.toInt = 27 → J219) ∧ (¬ a0.toInt = 27 → (a0.toInt = 28 → J219) ∧ (¬ a0.toInt = 28 → (a0.toInt = 29 → J219) ∧ (¬ a0.toInt = 29 → (a0.toInt = 30 → J219) ∧ (¬ a0.toInt = 30 → (a0.toInt = 31 → Q (a1 ||| a2)) ∧ (¬ a0.toInt = 31 → (a0.toInt = 32 → Q (a1 ^^^ a2)) ∧ (¬ a0.toInt = 32 → (a0.toInt = 33 → Q (a1 &&& a2)) ∧ (¬ a0.toInt = 33 → (a0.toInt = 34 → J219) ∧ (¬ a0.toInt = 34 → (a0.toInt = 35 → J219) ∧ (¬ a0.toInt = 35 → (a0.toInt = 36 → Q (a1 + a2)) ∧ (¬ a0.toInt = 36 → (a0.toInt = 37 → Q (a1 - a2)) ∧ (¬ a0.toInt = 37 → (a0.toInt = 38 → Q (a1 * a2)) ∧ (¬ a0.toInt = 38 → (a0.toInt = 39 → (a2.toInt ≠ -1 → (¬ a2 = 0 ∧ Q (a1 / a2))) ∧ (a2.toInt = -1 → Q (-a1))) ∧ (¬ a0.toInt = 39 → (a0.toInt = 40 → (a2.toInt ≠ -1 → (¬ a2 = 0 ∧ Q (a1 - a1 / a2 * a2))) ∧ (a2.toInt = -1 → Q (0 : Int32))) ∧ (¬ a0.toInt = 40 → J219))))))))))))))))))))))))))))))
set_option maxHeartbeats 4000000 in
set_option maxRecDepth 100000 in
theorem ct_work (a : Nat → Nat) (r : Nat → Nat) {a0 : Int32} {a1 : Int32} {a2 : Int32} {σ τ : St} {vs : List Nat} {Q : Int32 → Prop} (hcap : vs.length ≤ CAP) (w : wp_work a0 a1 a2 σ τ vs Q) (l : Launch) (D : va_G) (cy : Nat → ClassId) : Ct l D cy SM r (EM a) y_X14_work (Cond.code y_X14_work b_X14_work 3 (some .int)) 1 [.int a0, .int a1, .int a2] σ τ vs (QIr σ τ vs Q) QT0 := by
  unfold wp_work at w
  refine Ct_of (EM_ok a) (by decide) (Nat.le_of_ble_eq_true rfl) hcap (fun X hnn hF => ?_)
  show G SM r X σ τ vs [(0, .int a0), (1, .int a1), (2, .int a2)] [] 0
  refine g_iload_n hF d_X14_work_0 rfl 0 rfl ?_
  obtain ⟨J219, h219, w1⟩ := w
  have b219 : J219  → G SM r X σ τ vs [(0, .int a0), (1, .int a1), (2, .int a2)] [] 219 := by
    intro   w219_
    have w219_ := h219   w219_
    refine g_iload_n hF d_X14_work_219 rfl 0 rfl ?_
    refine g_bipush hF (v := 100) d_X14_work_220 (by decide) ?_
    obtain ⟨J233, h233, w2⟩ := w219_
    have b233 : ∀ (y0_233 : Int32), J233 y0_233 → G SM r X σ τ vs [(0, .int a0), (1, .int a1), (2, .int a2)] [.int y0_233] 233 := by
      intro y0_233  w233_
      have w233_ := h233 y0_233  w233_
      refine g_iload_n hF d_X14_work_233 rfl 0 rfl ?_
      refine g_bipush hF (v := 100) d_X14_work_234 (by decide) ?_
      obtain ⟨J248, h248, w3⟩ := w233_
      have b248 : ∀ (y1_248 : Int32), J248 y1_248 → G SM r X σ τ vs [(0, .int a0), (2, .int a2)] [.int y1_248, .int y0_233] 248 := by
        intro y1_248  w248_
        have w248_ := h248 y1_248  w248_
        refine g_iload_n hF d_X14_work_248 rfl 0 rfl ?_
        refine g_bipush hF (v := 100) d_X14_work_249 (by decide) ?_
        obtain ⟨J263, h263, w4⟩ := w248_
        have b263 : ∀ (y2_263 : Int32), J263 y2_263 → G SM r X σ τ vs [] [.int y2_263, .int y1_248, .int y0_233] 263 := by
          intro y2_263  w263_
          have w263_ := h263 y2_263  w263_
          refine g_callS (As := [.int y0_233, .int y1_248, .int y2_263]) (rest := []) hF (fun l D cy => (ct_compared a r hcap w263_) l D cy) (Nat.le_of_ble_eq_true rfl) mS_X14_compared m_2539 rfl rfl (Nat.le_of_ble_eq_true rfl) d_X14_work_263 (krZ (fun v263 hz263 w5 => ?_)) (fun _ _ _ h => h.elim)
          refine g_if_eq hF 273 d_X14_work_266 (by decide) rfl (fun c => ?_) (fun c => ?_)
          · have w6 := w5.1 c
            refine g_iconst hF (v := 0) d_X14_work_273 (by decide) ?_
            exact g_iret hF rfl d_X14_work_274 ⟨rfl, rfl, rfl, (0 : Int32), rfl, w6⟩
          · have w7 := w5.2 c
            refine g_iconst hF (v := 1) d_X14_work_269 (by decide) ?_
            refine g_goto hF 274 d_X14_work_270 (by decide) ?_
            exact g_iret hF rfl d_X14_work_274 ⟨rfl, rfl, rfl, (1 : Int32), rfl, w7⟩
        refine g_icmp_ge (yv := 100) hF 258 d_X14_work_251 (by decide) rfl (by decide) (fun c => ?_) (fun c => ?_)
        · have w8 := w4.1 c
          refine g_iload_n hF d_X14_work_258 rfl 1 rfl ?_
          refine g_ldc_w (v := (-2147483648)) hF m_2538 d_X14_work_259 ?_
          refine g_iadd hF d_X14_work_262 ?_
          exact g_sub (L' := []) [] rfl (b263 (a2 + ((-2147483648) : Int32)) w8)
        · have w9 := w4.2 c
          refine g_iload_n hF d_X14_work_254 rfl 1 rfl ?_
          refine g_goto hF 263 d_X14_work_255 (by decide) ?_
          exact g_sub (L' := []) [] rfl (b263 a2 w9)
      refine g_icmp_ge (yv := 100) hF 243 d_X14_work_236 (by decide) rfl (by decide) (fun c => ?_) (fun c => ?_)
      · have w10 := w3.1 c
        refine g_iload_n hF d_X14_work_243 rfl 1 rfl ?_
        refine g_ldc_w (v := (-2147483648)) hF m_2538 d_X14_work_244 ?_
        refine g_iadd hF d_X14_work_247 ?_
        exact g_sub (L' := [(0, .int a0), (2, .int a2)]) [0, 2] rfl (b248 (a1 + ((-2147483648) : Int32)) w10)
      · have w11 := w3.2 c
        refine g_iload_n hF d_X14_work_239 rfl 1 rfl ?_
        refine g_goto hF 248 d_X14_work_240 (by decide) ?_
        exact g_sub (L' := [(0, .int a0), (2, .int a2)]) [0, 2] rfl (b248 a1 w11)
    refine g_icmp_ge (yv := 100) hF 229 d_X14_work_222 (by decide) rfl (by decide) (fun c => ?_) (fun c => ?_)
    · have w12 := w2.1 c
      refine g_iload_n hF d_X14_work_229 rfl 0 rfl ?_
      refine g_bipush hF (v := 100) d_X14_work_230 (by decide) ?_
      refine g_isub hF d_X14_work_232 ?_
      exact b233 (a0 - (100 : Int32)) w12
    · have w13 := w2.2 c
      refine g_iload_n hF d_X14_work_225 rfl 0 rfl ?_
      refine g_goto hF 233 d_X14_work_226 (by decide) ?_
      exact b233 a0 w13
  refine (Decidable.em (a0.toInt = 12)).elim (fun q1_0 => ?_) (fun q1_0 => ?_)
  · have w14 := w1.1 q1_0
    refine g_tableIn (off := 196) hF 197 d_X14_work_1 q1_0 (by decide) (by decide) (by decide +kernel) (by decide) ?_
    refine g_iload_n hF d_X14_work_197 rfl 1 rfl ?_
    refine g_iload_n hF d_X14_work_198 rfl 2 rfl ?_
    refine g_icmp_ne hF 206 d_X14_work_199 (by decide) rfl rfl (fun c => ?_) (fun c => ?_)
    · have w15 := w14.1 c
      refine g_iconst hF (v := 0) d_X14_work_206 (by decide) ?_
      exact g_iret hF rfl d_X14_work_207 ⟨rfl, rfl, rfl, (0 : Int32), rfl, w15⟩
    · have w16 := w14.2 c
      refine g_iconst hF (v := 1) d_X14_work_202 (by decide) ?_
      refine g_goto hF 207 d_X14_work_203 (by decide) ?_
      exact g_iret hF rfl d_X14_work_207 ⟨rfl, rfl, rfl, (1 : Int32), rfl, w16⟩
  have w17 := w1.2 q1_0
  refine (Decidable.em (a0.toInt = 13)).elim (fun q1_1 => ?_) (fun q1_1 => ?_)
  · have w18 := w17.1 q1_1
    refine g_tableIn (off := 207) hF 208 d_X14_work_1 q1_1 (by decide) (by decide) (by decide +kernel) (by decide) ?_
    refine g_iload_n hF d_X14_work_208 rfl 1 rfl ?_
    refine g_iload_n hF d_X14_work_209 rfl 2 rfl ?_
    refine g_icmp_eq hF 217 d_X14_work_210 (by decide) rfl rfl (fun c => ?_) (fun c => ?_)
    · have w19 := w18.1 c
      refine g_iconst hF (v := 0) d_X14_work_217 (by decide) ?_
      exact g_iret hF rfl d_X14_work_218 ⟨rfl, rfl, rfl, (0 : Int32), rfl, w19⟩
    · have w20 := w18.2 c
      refine g_iconst hF (v := 1) d_X14_work_213 (by decide) ?_
      refine g_goto hF 218 d_X14_work_214 (by decide) ?_
      exact g_iret hF rfl d_X14_work_218 ⟨rfl, rfl, rfl, (1 : Int32), rfl, w20⟩
  have w21 := w17.2 q1_1
  refine (Decidable.em (a0.toInt = 14)).elim (fun q1_2 => ?_) (fun q1_2 => ?_)
  · have w22 := w21.1 q1_2
    refine g_tableIn (off := 218) hF 219 d_X14_work_1 q1_2 (by decide) (by decide) (by decide +kernel) (by decide) ?_
    exact b219  w22
  have w23 := w21.2 q1_2
  refine (Decidable.em (a0.toInt = 15)).elim (fun q1_3 => ?_) (fun q1_3 => ?_)
  · have w24 := w23.1 q1_3
    refine g_tableIn (off := 218) hF 219 d_X14_work_1 q1_3 (by decide) (by decide) (by decide +kernel) (by decide) ?_
    exact b219  w24
  have w25 := w23.2 q1_3
  refine (Decidable.em (a0.toInt = 16)).elim (fun q1_4 => ?_) (fun q1_4 => ?_)
  · have w26 := w25.1 q1_4
    refine g_tableIn (off := 170) hF 171 d_X14_work_1 q1_4 (by decide) (by decide) (by decide +kernel) (by decide) ?_
    refine g_iload_n hF d_X14_work_171 rfl 1 rfl ?_
    refine g_iload_n hF d_X14_work_172 rfl 2 rfl ?_
    refine g_bipush hF (v := 31) d_X14_work_173 (by decide) ?_
    refine g_iand hF d_X14_work_175 ?_
    refine g_ishl hF d_X14_work_176 ?_
    exact g_iret hF rfl d_X14_work_177 ⟨rfl, rfl, rfl, (a1 <<< ((a2 &&& (31 : Int32)) &&& 31)), rfl, w26⟩
  have w27 := w25.2 q1_4
  refine (Decidable.em (a0.toInt = 17)).elim (fun q1_5 => ?_) (fun q1_5 => ?_)
  · have w28 := w27.1 q1_5
    refine g_tableIn (off := 177) hF 178 d_X14_work_1 q1_5 (by decide) (by decide) (by decide +kernel) (by decide) ?_
    refine g_iload_n hF d_X14_work_178 rfl 1 rfl ?_
    refine g_iload_n hF d_X14_work_179 rfl 2 rfl ?_
    refine g_bipush hF (v := 31) d_X14_work_180 (by decide) ?_
    refine g_iand hF d_X14_work_182 ?_
    refine g_ishr hF d_X14_work_183 ?_
    exact g_iret hF rfl d_X14_work_184 ⟨rfl, rfl, rfl, (a1 >>> ((a2 &&& (31 : Int32)) &&& 31)), rfl, w28⟩
  have w29 := w27.2 q1_5
  refine (Decidable.em (a0.toInt = 18)).elim (fun q1_6 => ?_) (fun q1_6 => ?_)
  · have w30 := w29.1 q1_6
    refine g_tableIn (off := 218) hF 219 d_X14_work_1 q1_6 (by decide) (by decide) (by decide +kernel) (by decide) ?_
    exact b219  w30
  have w31 := w29.2 q1_6
  refine (Decidable.em (a0.toInt = 19)).elim (fun q1_7 => ?_) (fun q1_7 => ?_)
  · have w32 := w31.1 q1_7
    refine g_tableIn (off := 218) hF 219 d_X14_work_1 q1_7 (by decide) (by decide) (by decide +kernel) (by decide) ?_
    exact b219  w32
  have w33 := w31.2 q1_7
  refine (Decidable.em (a0.toInt = 20)).elim (fun q1_8 => ?_) (fun q1_8 => ?_)
  · have w34 := w33.1 q1_8
    refine g_tableIn (off := 218) hF 219 d_X14_work_1 q1_8 (by decide) (by decide) (by decide +kernel) (by decide) ?_
    exact b219  w34
  have w35 := w33.2 q1_8
  refine (Decidable.em (a0.toInt = 21)).elim (fun q1_9 => ?_) (fun q1_9 => ?_)
  · have w36 := w35.1 q1_9
    refine g_tableIn (off := 218) hF 219 d_X14_work_1 q1_9 (by decide) (by decide) (by decide +kernel) (by decide) ?_
    exact b219  w36
  have w37 := w35.2 q1_9
  refine (Decidable.em (a0.toInt = 22)).elim (fun q1_10 => ?_) (fun q1_10 => ?_)
  · have w38 := w37.1 q1_10
    refine g_tableIn (off := 218) hF 219 d_X14_work_1 q1_10 (by decide) (by decide) (by decide +kernel) (by decide) ?_
    exact b219  w38
  have w39 := w37.2 q1_10
  refine (Decidable.em (a0.toInt = 23)).elim (fun q1_11 => ?_) (fun q1_11 => ?_)
  · have w40 := w39.1 q1_11
    refine g_tableIn (off := 218) hF 219 d_X14_work_1 q1_11 (by decide) (by decide) (by decide +kernel) (by decide) ?_
    exact b219  w40
  have w41 := w39.2 q1_11
  refine (Decidable.em (a0.toInt = 24)).elim (fun q1_12 => ?_) (fun q1_12 => ?_)
  · have w42 := w41.1 q1_12
    refine g_tableIn (off := 218) hF 219 d_X14_work_1 q1_12 (by decide) (by decide) (by decide +kernel) (by decide) ?_
    exact b219  w42
  have w43 := w41.2 q1_12
  refine (Decidable.em (a0.toInt = 25)).elim (fun q1_13 => ?_) (fun q1_13 => ?_)
  · have w44 := w43.1 q1_13
    refine g_tableIn (off := 218) hF 219 d_X14_work_1 q1_13 (by decide) (by decide) (by decide +kernel) (by decide) ?_
    exact b219  w44
  have w45 := w43.2 q1_13
  refine (Decidable.em (a0.toInt = 26)).elim (fun q1_14 => ?_) (fun q1_14 => ?_)
  · have w46 := w45.1 q1_14
    refine g_tableIn (off := 218) hF 219 d_X14_work_1 q1_14 (by decide) (by decide) (by decide +kernel) (by decide) ?_
    exact b219  w46
  have w47 := w45.2 q1_14
  refine (Decidable.em (a0.toInt = 27)).elim (fun q1_15 => ?_) (fun q1_15 => ?_)
  · have w48 := w47.1 q1_15
    refine g_tableIn (off := 218) hF 219 d_X14_work_1 q1_15 (by decide) (by decide) (by decide +kernel) (by decide) ?_
    exact b219  w48
  have w49 := w47.2 q1_15
  refine (Decidable.em (a0.toInt = 28)).elim (fun q1_16 => ?_) (fun q1_16 => ?_)
  · have w50 := w49.1 q1_16
    refine g_tableIn (off := 218) hF 219 d_X14_work_1 q1_16 (by decide) (by decide) (by decide +kernel) (by decide) ?_
    exact b219  w50
  have w51 := w49.2 q1_16
  refine (Decidable.em (a0.toInt = 29)).elim (fun q1_17 => ?_) (fun q1_17 => ?_)
  · have w52 := w51.1 q1_17
    refine g_tableIn (off := 218) hF 219 d_X14_work_1 q1_17 (by decide) (by decide) (by decide +kernel) (by decide) ?_
    exact b219  w52
  have w53 := w51.2 q1_17
  refine (Decidable.em (a0.toInt = 30)).elim (fun q1_18 => ?_) (fun q1_18 => ?_)
  · have w54 := w53.1 q1_18
    refine g_tableIn (off := 218) hF 219 d_X14_work_1 q1_18 (by decide) (by decide) (by decide +kernel) (by decide) ?_
    exact b219  w54
  have w55 := w53.2 q1_18
  refine (Decidable.em (a0.toInt = 31)).elim (fun q1_19 => ?_) (fun q1_19 => ?_)
  · have w56 := w55.1 q1_19
    refine g_tableIn (off := 188) hF 189 d_X14_work_1 q1_19 (by decide) (by decide) (by decide +kernel) (by decide) ?_
    refine g_iload_n hF d_X14_work_189 rfl 1 rfl ?_
    refine g_iload_n hF d_X14_work_190 rfl 2 rfl ?_
    refine g_ior hF d_X14_work_191 ?_
    exact g_iret hF rfl d_X14_work_192 ⟨rfl, rfl, rfl, (a1 ||| a2), rfl, w56⟩
  have w57 := w55.2 q1_19
  refine (Decidable.em (a0.toInt = 32)).elim (fun q1_20 => ?_) (fun q1_20 => ?_)
  · have w58 := w57.1 q1_20
    refine g_tableIn (off := 192) hF 193 d_X14_work_1 q1_20 (by decide) (by decide) (by decide +kernel) (by decide) ?_
    refine g_iload_n hF d_X14_work_193 rfl 1 rfl ?_
    refine g_iload_n hF d_X14_work_194 rfl 2 rfl ?_
    refine g_ixor hF d_X14_work_195 ?_
    exact g_iret hF rfl d_X14_work_196 ⟨rfl, rfl, rfl, (a1 ^^^ a2), rfl, w58⟩
  have w59 := w57.2 q1_20
  refine (Decidable.em (a0.toInt = 33)).elim (fun q1_21 => ?_) (fun q1_21 => ?_)
  · have w60 := w59.1 q1_21
    refine g_tableIn (off := 184) hF 185 d_X14_work_1 q1_21 (by decide) (by decide) (by decide +kernel) (by decide) ?_
    refine g_iload_n hF d_X14_work_185 rfl 1 rfl ?_
    refine g_iload_n hF d_X14_work_186 rfl 2 rfl ?_
    refine g_iand hF d_X14_work_187 ?_
    exact g_iret hF rfl d_X14_work_188 ⟨rfl, rfl, rfl, (a1 &&& a2), rfl, w60⟩
  have w61 := w59.2 q1_21
  refine (Decidable.em (a0.toInt = 34)).elim (fun q1_22 => ?_) (fun q1_22 => ?_)
  · have w62 := w61.1 q1_22
    refine g_tableIn (off := 218) hF 219 d_X14_work_1 q1_22 (by decide) (by decide) (by decide +kernel) (by decide) ?_
    exact b219  w62
  have w63 := w61.2 q1_22
  refine (Decidable.em (a0.toInt = 35)).elim (fun q1_23 => ?_) (fun q1_23 => ?_)
  · have w64 := w63.1 q1_23
    refine g_tableIn (off := 218) hF 219 d_X14_work_1 q1_23 (by decide) (by decide) (by decide +kernel) (by decide) ?_
    exact b219  w64
  have w65 := w63.2 q1_23
  refine (Decidable.em (a0.toInt = 36)).elim (fun q1_24 => ?_) (fun q1_24 => ?_)
  · have w66 := w65.1 q1_24
    refine g_tableIn (off := 131) hF 132 d_X14_work_1 q1_24 (by decide) (by decide) (by decide +kernel) (by decide) ?_
    refine g_iload_n hF d_X14_work_132 rfl 1 rfl ?_
    refine g_iload_n hF d_X14_work_133 rfl 2 rfl ?_
    refine g_iadd hF d_X14_work_134 ?_
    exact g_iret hF rfl d_X14_work_135 ⟨rfl, rfl, rfl, (a1 + a2), rfl, w66⟩
  have w67 := w65.2 q1_24
  refine (Decidable.em (a0.toInt = 37)).elim (fun q1_25 => ?_) (fun q1_25 => ?_)
  · have w68 := w67.1 q1_25
    refine g_tableIn (off := 135) hF 136 d_X14_work_1 q1_25 (by decide) (by decide) (by decide +kernel) (by decide) ?_
    refine g_iload_n hF d_X14_work_136 rfl 1 rfl ?_
    refine g_iload_n hF d_X14_work_137 rfl 2 rfl ?_
    refine g_isub hF d_X14_work_138 ?_
    exact g_iret hF rfl d_X14_work_139 ⟨rfl, rfl, rfl, (a1 - a2), rfl, w68⟩
  have w69 := w67.2 q1_25
  refine (Decidable.em (a0.toInt = 38)).elim (fun q1_26 => ?_) (fun q1_26 => ?_)
  · have w70 := w69.1 q1_26
    refine g_tableIn (off := 139) hF 140 d_X14_work_1 q1_26 (by decide) (by decide) (by decide +kernel) (by decide) ?_
    refine g_iload_n hF d_X14_work_140 rfl 1 rfl ?_
    refine g_iload_n hF d_X14_work_141 rfl 2 rfl ?_
    refine g_imul hF d_X14_work_142 ?_
    exact g_iret hF rfl d_X14_work_143 ⟨rfl, rfl, rfl, (a1 * a2), rfl, w70⟩
  have w71 := w69.2 q1_26
  refine (Decidable.em (a0.toInt = 39)).elim (fun q1_27 => ?_) (fun q1_27 => ?_)
  · have w72 := w71.1 q1_27
    refine g_tableIn (off := 143) hF 144 d_X14_work_1 q1_27 (by decide) (by decide) (by decide +kernel) (by decide) ?_
    refine g_iload_n hF d_X14_work_144 rfl 2 rfl ?_
    refine g_iconst hF (v := (-1)) d_X14_work_145 (by decide) ?_
    refine g_icmp_ne (yv := -1) hF 154 d_X14_work_146 (by decide) rfl (by decide) (fun c => ?_) (fun c => ?_)
    · have w73 := w72.1 c
      refine g_iload_n hF d_X14_work_154 rfl 1 rfl ?_
      refine g_iload_n hF d_X14_work_155 rfl 2 rfl ?_
      have w74 := w73.2
      refine g_idiv hF d_X14_work_156 w73.1 ?_
      exact g_iret hF rfl d_X14_work_157 ⟨rfl, rfl, rfl, (a1 / a2), rfl, w74⟩
    · have w75 := w72.2 c
      refine g_iload_n hF d_X14_work_149 rfl 1 rfl ?_
      refine g_ineg hF d_X14_work_150 ?_
      refine g_goto hF 157 d_X14_work_151 (by decide) ?_
      exact g_iret hF rfl d_X14_work_157 ⟨rfl, rfl, rfl, (-a1), rfl, w75⟩
  have w76 := w71.2 q1_27
  refine (Decidable.em (a0.toInt = 40)).elim (fun q1_28 => ?_) (fun q1_28 => ?_)
  · have w77 := w76.1 q1_28
    refine g_tableIn (off := 157) hF 158 d_X14_work_1 q1_28 (by decide) (by decide) (by decide +kernel) (by decide) ?_
    refine g_iload_n hF d_X14_work_158 rfl 2 rfl ?_
    refine g_iconst hF (v := (-1)) d_X14_work_159 (by decide) ?_
    refine g_icmp_ne (yv := -1) hF 167 d_X14_work_160 (by decide) rfl (by decide) (fun c => ?_) (fun c => ?_)
    · have w78 := w77.1 c
      refine g_iload_n hF d_X14_work_167 rfl 1 rfl ?_
      refine g_iload_n hF d_X14_work_168 rfl 2 rfl ?_
      have w79 := w78.2
      refine g_irem hF d_X14_work_169 w78.1 ?_
      exact g_iret hF rfl d_X14_work_170 ⟨rfl, rfl, rfl, (a1 - a1 / a2 * a2), rfl, w79⟩
    · have w80 := w77.2 c
      refine g_iconst hF (v := 0) d_X14_work_163 (by decide) ?_
      refine g_goto hF 170 d_X14_work_164 (by decide) ?_
      exact g_iret hF rfl d_X14_work_170 ⟨rfl, rfl, rfl, (0 : Int32), rfl, w80⟩
  have w81 := w76.2 q1_28
  refine g_tableOut hF 219 d_X14_work_1 rfl (tbo_12_40 q1_0 q1_1 q1_2 q1_3 q1_4 q1_5 q1_6 q1_7 q1_8 q1_9 q1_10 q1_11 q1_12 q1_13 q1_14 q1_15 q1_16 q1_17 q1_18 q1_19 q1_20 q1_21 q1_22 q1_23 q1_24 q1_25 q1_26 q1_27 q1_28) (by decide) ?_
  exact b219  w81
def wp_localName (a1 : Int32) (a2 : Int32) (a3 : Int32) (σ τ : St) (vs : List Nat) (Q : Int32 → St → St → List Nat → Prop) : Prop :=
  wp_isHeldHere a1 σ τ vs (fun v3 => (∃ J14 : Int32 → Prop, (∀ (y1_14 : Int32), y1_14 = 0 ∨ y1_14 = 1 → J14 y1_14 → (wp_must y1_14 a1 σ τ vs (fun s15 t15 z15 => wp_declareLocal a1 a2 s15 t15 z15 (fun v21 s21 t21 z21 => (v21.toInt < 0 → Q v21 s21 t21 z21) ∧ (0 ≤ v21.toInt → (0 ≤ a3.toInt → ((0 ≤ v21.toInt ∧ v21.toInt < 100) ∧ Q v21 (upC s21 32 v21.toNatClampNeg (if a3 < (1 : Int32) then (1 : Int32) else a3)) t21 z21)) ∧ (a3.toInt < 0 → ((0 ≤ v21.toInt ∧ v21.toInt < 100) ∧ Q v21 (upC s21 32 v21.toNatClampNeg ((-1) : Int32)) t21 z21))))))) ∧ (v3.toInt ≠ 0 → J14 (0 : Int32)) ∧ (v3.toInt = 0 → J14 (1 : Int32))))
set_option maxHeartbeats 4000000 in
set_option maxRecDepth 100000 in
theorem ct_localName (a : Nat → Nat) (r : Nat → Nat) {a1 : Int32} {a2 : Int32} {a3 : Int32} {σ τ : St} {vs : List Nat} {Q : Int32 → St → St → List Nat → Prop} (hcap : vs.length ≤ CAP) (w : wp_localName a1 a2 a3 σ τ vs Q) (l : Launch) (D : va_G) (cy : Nat → ClassId) : Ct l D cy SM r (EM a) y_X14_localName (Cond.code y_X14_localName b_X14_localName 5 (some .int)) 2 [.ref (r 0), .int a1, .int a2, .int a3] σ τ vs (QIs Q) QT0 := by
  unfold wp_localName at w
  refine Ct_of (EM_ok a) (by decide) (Nat.le_of_ble_eq_true rfl) hcap (fun X hnn hF => ?_)
  show G SM r X σ τ vs [(0, .ref (r 0)), (1, .int a1), (2, .int a2), (3, .int a3)] [] 0
  refine g_aload_n hF d_X14_localName_0 rfl 0 rfl ?_
  refine g_aload_n hF d_X14_localName_1 rfl 0 rfl ?_
  refine g_iload_n hF d_X14_localName_2 rfl 1 rfl ?_
  refine g_callV (As := [.int a1]) (rest := [.ref (r 0)]) hF (fun l D cy => (ct_isHeldHere a r hcap w) l D cy) (Nat.le_of_ble_eq_true rfl) mV_X14_isHeldHere m_2329 (recv_ob obM_0) rfl rfl (Nat.le_of_ble_eq_true rfl) d_X14_localName_3 (krZ (fun v3 hz3 w1 => ?_)) (fun _ _ _ h => h.elim)
  obtain ⟨J14, h14, w2⟩ := w1
  have b14 : ∀ (y1_14 : Int32), y1_14 = 0 ∨ y1_14 = 1 → J14 y1_14 → G SM r X σ τ vs [(0, .ref (r 0)), (1, .int a1), (2, .int a2), (3, .int a3)] [.int y1_14, .ref (r 0)] 14 := by
    intro y1_14 hy1_14 w14_
    have w14_ := h14 y1_14 hy1_14 w14_
    refine g_iload_n hF d_X14_localName_14 rfl 1 rfl ?_
    refine g_callV (As := [.int y1_14, .int a1]) (rest := []) hF (fun l D cy => (ct_must a r hcap w14_) l D cy) (Nat.le_of_ble_eq_true rfl) mV_X14_must m_2313 (recv_ob obM_0) rfl rfl (Nat.le_of_ble_eq_true rfl) d_X14_localName_15 (kV (fun s15 t15 z15 w3 => ?_)) (fun _ _ _ h => h.elim)
    refine g_aload_n hF d_X14_localName_18 rfl 0 rfl ?_
    refine g_iload_n hF d_X14_localName_19 rfl 1 rfl ?_
    refine g_iload_n hF d_X14_localName_20 rfl 2 rfl ?_
    refine g_cap (fun hc3 => ?_)
    refine g_callV (As := [.int a1, .int a2]) (rest := []) hF (fun l D cy => (ct_declareLocal a r hc3 w3) l D cy) (Nat.le_of_ble_eq_true rfl) mV_X14_declareLocal m_2325 (recv_ob obM_0) rfl rfl (Nat.le_of_ble_eq_true rfl) d_X14_localName_21 (kI (fun v21 s21 t21 z21 w5 => ?_)) (fun _ _ _ h => h.elim)
    refine g_istore hF [(4, .int v21), (0, .ref (r 0)), (1, .int a1), (2, .int a2), (3, .int a3)] d_X14_localName_24 hnn (by decide) rfl ?_
    refine g_iload hF d_X14_localName_26 0 rfl ?_
    refine g_if_lt hF 51 d_X14_localName_28 (by decide) rfl (fun c => ?_) (fun c => ?_)
    · have w6 := w5.1 c
      refine g_iload hF d_X14_localName_51 0 rfl ?_
      exact g_iret hF rfl d_X14_localName_53 ⟨v21, rfl, w6⟩
    · have w7 := w5.2 c
      refine g_aload_n hF d_X14_localName_31 rfl 1 rfl ?_
      refine g_get (v := .ref (r 32)) hF 47 obM_0 (by decide) m_1912 rfl d_X14_localName_32 ?_
      refine g_iload hF d_X14_localName_35 0 rfl ?_
      refine g_iload_n hF d_X14_localName_37 rfl 4 rfl ?_
      refine g_if_ge hF 45 d_X14_localName_38 (by decide) rfl (fun c => ?_) (fun c => ?_)
      · have w8 := w7.1 c
        refine g_iload_n hF d_X14_localName_45 rfl 4 rfl ?_
        refine g_iconst hF (v := 1) d_X14_localName_46 (by decide) ?_
        refine g_mmax hF (Nat.le_of_ble_eq_true rfl) m_2432 m_1131 m_23 m_1132 (Nat.le_of_ble_eq_true rfl) d_X14_localName_47 ?_
        have w9 := w8.2
        refine g_iast hF arM_32 (s_in (Nat.le_of_ble_eq_true rfl) w8.1.1 w8.1.2) d_X14_localName_50 ?_
        refine g_iload hF d_X14_localName_51 0 rfl ?_
        exact g_iret hF rfl d_X14_localName_53 ⟨v21, rfl, w9⟩
      · have w10 := w7.2 c
        refine g_iconst hF (v := (-1)) d_X14_localName_41 (by decide) ?_
        refine g_goto hF 50 d_X14_localName_42 (by decide) ?_
        have w11 := w10.2
        refine g_iast hF arM_32 (s_in (Nat.le_of_ble_eq_true rfl) w10.1.1 w10.1.2) d_X14_localName_50 ?_
        refine g_iload hF d_X14_localName_51 0 rfl ?_
        exact g_iret hF rfl d_X14_localName_53 ⟨v21, rfl, w11⟩
  refine g_if_ne hF 13 d_X14_localName_6 (by decide) rfl (fun c => ?_) (fun c => ?_)
  · have w12 := w2.1 c
    refine g_iconst hF (v := 0) d_X14_localName_13 (by decide) ?_
    exact b14 (0 : Int32) (Or.inl rfl) w12
  · have w13 := w2.2 c
    refine g_iconst hF (v := 1) d_X14_localName_9 (by decide) ?_
    refine g_goto hF 14 d_X14_localName_10 (by decide) ?_
    exact b14 (1 : Int32) (Or.inr rfl) w13
def wp_globalName (a1 : Int32) (a2 : Int32) (a3 : Int32) (a4 : Int32) (a5 : Int32) (σ τ : St) (vs : List Nat) (Q : Int32 → St → St → List Nat → Prop) : Prop :=
  wp_entity a1 σ τ vs (fun v2 => (0 ≤ v2.toInt → ((0 ≤ v2.toInt ∧ v2.toInt < 10000) ∧ (∃ J134 : Int32 → Prop, (∀ (y0_134 : Int32), y0_134 = 0 ∨ y0_134 = 1 → J134 y0_134 → ((∃ J177 : Int32 → Prop, (∀ (y1_177 : Int32), y1_177 = 0 ∨ y1_177 = 1 → J177 y1_177 → (wp_must y1_177 a1 σ τ vs (fun s178 t178 z178 => (∃ J198 : St → St → List Nat → Prop, (∀ (s198 t198 : St) (z198 : List Nat), J198 s198 t198 z198 → (((0 ≤ v2.toInt ∧ v2.toInt < 10000) ∧ ((s198 9 v2.toNatClampNeg).toInt ≠ 1 → Q ((-1) : Int32) s198 t198 z198) ∧ ((s198 9 v2.toNatClampNeg).toInt = 1 → Q v2 s198 t198 z198)))) ∧ (y0_134.toInt = 0 → J198 s178 t178 z178) ∧ (y0_134.toInt ≠ 0 → (a3.toInt ≤ 0 → J198 s178 t178 z178) ∧ (0 < a3.toInt → ((0 ≤ v2.toInt ∧ v2.toInt < 10000) ∧ J198 (upC s178 11 v2.toNatClampNeg a3) t178 z178))))))) ∧ (∃ J176 : Prop, (J176  → (J177 (0 : Int32))) ∧ (y0_134.toInt = 0 → J176) ∧ (y0_134.toInt ≠ 0 → ((0 ≤ v2.toInt ∧ v2.toInt < 10000) ∧ ((σ 12 v2.toNatClampNeg).toInt ≠ 0 → J176) ∧ ((σ 12 v2.toNatClampNeg).toInt = 0 → (a4.toInt ≠ 0 → J176) ∧ (a4.toInt = 0 → (∃ J172 : Prop, (J172  → (J177 (1 : Int32))) ∧ (a5.toInt ≠ 0 → J172) ∧ (a5.toInt = 0 → ((0 ≤ v2.toInt ∧ v2.toInt < 10000) ∧ ((σ 13 v2.toNatClampNeg).toInt ≠ 0 → J176) ∧ ((σ 13 v2.toNatClampNeg).toInt = 0 → J172)))))))))))) ∧ (∃ J133 : Prop, (J133  → (J134 (0 : Int32))) ∧ ((σ 9 v2.toNatClampNeg).toInt ≠ 1 → J133) ∧ ((σ 9 v2.toNatClampNeg).toInt = 1 → ((0 ≤ v2.toInt ∧ v2.toInt < 10000) ∧ ((σ 10 v2.toNatClampNeg).toInt ≠ a2.toInt → J133) ∧ ((σ 10 v2.toNatClampNeg).toInt = a2.toInt → ((0 ≤ v2.toInt ∧ v2.toInt < 10000) ∧ (∃ J92 : Int32 → Prop, (∀ (y0_92 : Int32), y0_92 = 0 ∨ y0_92 = 1 → J92 y0_92 → ((∃ J101 : Int32 → Prop, (∀ (y1_101 : Int32), y1_101 = 0 ∨ y1_101 = 1 → J101 y1_101 → ((y0_92.toInt ≠ y1_101.toInt → J133) ∧ (y0_92.toInt = y1_101.toInt → (∃ J129 : Prop, (J129  → (J134 (1 : Int32))) ∧ (a3.toInt ≤ 0 → J129) ∧ (0 < a3.toInt → ((0 ≤ v2.toInt ∧ v2.toInt < 10000) ∧ ((σ 11 v2.toNatClampNeg).toInt = 0 → J129) ∧ ((σ 11 v2.toNatClampNeg).toInt ≠ 0 → ((0 ≤ v2.toInt ∧ v2.toInt < 10000) ∧ ((σ 11 v2.toNatClampNeg).toInt ≠ a3.toInt → J133) ∧ ((σ 11 v2.toNatClampNeg).toInt = a3.toInt → J129))))))))) ∧ (0 ≤ a3.toInt → J101 (0 : Int32)) ∧ (a3.toInt < 0 → J101 (1 : Int32))))) ∧ (0 ≤ (σ 11 v2.toNatClampNeg).toInt → J92 (0 : Int32)) ∧ ((σ 11 v2.toNatClampNeg).toInt < 0 → J92 (1 : Int32))))))))))) ∧ (v2.toInt < 0 → wp_declare a1 (1 : Int32) σ τ vs (fun v15 s15 t15 z15 => (0 ≤ v15.toInt → ((0 ≤ v15.toInt ∧ v15.toInt < 10000) ∧ ((0 ≤ v15.toInt ∧ v15.toInt < 10000) ∧ ((0 ≤ v15.toInt ∧ v15.toInt < 10000) ∧ Q v15 (upC (upC (upC s15 10 v15.toNatClampNeg a2) 11 v15.toNatClampNeg a3) 12 v15.toNatClampNeg (vp_nar .boolean a4)) t15 z15)))) ∧ (v15.toInt < 0 → Q ((-1) : Int32) s15 t15 z15))))
set_option maxHeartbeats 4000000 in
set_option maxRecDepth 100000 in
theorem ct_globalName (a : Nat → Nat) (r : Nat → Nat) {a1 : Int32} {a2 : Int32} {a3 : Int32} {a4 : Int32} {a5 : Int32} {σ τ : St} {vs : List Nat} {Q : Int32 → St → St → List Nat → Prop} (hcap : vs.length ≤ CAP) (w : wp_globalName a1 a2 a3 a4 a5 σ τ vs Q) (l : Launch) (D : va_G) (cy : Nat → ClassId) : Ct l D cy SM r (EM a) y_X14_globalName (Cond.code y_X14_globalName b_X14_globalName 8 (some .int)) 2 [.ref (r 0), .int a1, .int a2, .int a3, .int a4, .int a5] σ τ vs (QIs Q) QT0 := by
  unfold wp_globalName at w
  refine Ct_of (EM_ok a) (by decide) (Nat.le_of_ble_eq_true rfl) hcap (fun X hnn hF => ?_)
  show G SM r X σ τ vs [(0, .ref (r 0)), (1, .int a1), (2, .int a2), (3, .int a3), (4, .int a4), (5, .int a5)] [] 0
  refine g_aload_n hF d_X14_globalName_0 rfl 0 rfl ?_
  refine g_iload_n hF d_X14_globalName_1 rfl 1 rfl ?_
  refine g_callV (As := [.int a1]) (rest := []) hF (fun l D cy => (ct_entity a r hcap w) l D cy) (Nat.le_of_ble_eq_true rfl) mV_X14_entity m_2301 (recv_ob obM_0) rfl rfl (Nat.le_of_ble_eq_true rfl) d_X14_globalName_2 (krI (fun v2 w1 => ?_)) (fun _ _ _ h => h.elim)
  refine g_istore hF [(6, .int v2), (0, .ref (r 0)), (1, .int a1), (2, .int a2), (3, .int a3), (4, .int a4), (5, .int a5)] d_X14_globalName_5 hnn (by decide) rfl ?_
  refine g_iload hF d_X14_globalName_7 0 rfl ?_
  refine g_if_ge hF 55 d_X14_globalName_9 (by decide) rfl (fun c => ?_) (fun c => ?_)
  · have w2 := w1.1 c
    refine g_aload_n hF d_X14_globalName_55 rfl 1 rfl ?_
    refine g_get (v := .ref (r 9)) hF 18 obM_0 (by decide) m_1883 rfl d_X14_globalName_56 ?_
    refine g_iload hF d_X14_globalName_59 0 rfl ?_
    have w3 := w2.2
    refine g_iald hF arM_9 (s_in (Nat.le_of_ble_eq_true rfl) w2.1.1 w2.1.2) d_X14_globalName_61 ?_
    refine g_top (v := (σ 9 v2.toNatClampNeg)) rfl ?_
    refine g_iconst hF (v := 1) d_X14_globalName_62 (by decide) ?_
    obtain ⟨J134, h134, w4⟩ := w3
    have b134 : ∀ (y0_134 : Int32), y0_134 = 0 ∨ y0_134 = 1 → J134 y0_134 → G SM r X σ τ vs [(0, .ref (r 0)), (1, .int a1), (3, .int a3), (4, .int a4), (5, .int a5), (6, .int v2)] [.int y0_134] 134 := by
      intro y0_134 hy0_134 w134_
      have w134_ := h134 y0_134 hy0_134 w134_
      refine g_istore hF [(7, .int y0_134), (0, .ref (r 0)), (1, .int a1), (3, .int a3), (4, .int a4), (5, .int a5), (6, .int v2)] d_X14_globalName_134 hnn (by decide) rfl ?_
      refine g_aload_n hF d_X14_globalName_136 rfl 1 rfl ?_
      refine g_iload hF d_X14_globalName_137 0 rfl ?_
      obtain ⟨J177, h177, w5⟩ := w134_
      have b177 : ∀ (y1_177 : Int32), y1_177 = 0 ∨ y1_177 = 1 → J177 y1_177 → G SM r X σ τ vs [(0, .ref (r 0)), (1, .int a1), (3, .int a3), (6, .int v2), (7, .int y0_134)] [.int y1_177, .ref (r 0)] 177 := by
        intro y1_177 hy1_177 w177_
        have w177_ := h177 y1_177 hy1_177 w177_
        refine g_iload_n hF d_X14_globalName_177 rfl 1 rfl ?_
        refine g_callV (As := [.int y1_177, .int a1]) (rest := []) hF (fun l D cy => (ct_must a r hcap w177_) l D cy) (Nat.le_of_ble_eq_true rfl) mV_X14_must m_2313 (recv_ob obM_0) rfl rfl (Nat.le_of_ble_eq_true rfl) d_X14_globalName_178 (kV (fun s178 t178 z178 w6 => ?_)) (fun _ _ _ h => h.elim)
        refine g_iload hF d_X14_globalName_181 4 rfl ?_
        obtain ⟨J198, h198, w7⟩ := w6
        have b198 : ∀ (s198 t198 : St) (z198 : List Nat), J198 s198 t198 z198 → G SM r X s198 t198 z198 [(0, .ref (r 0)), (6, .int v2)] [] 198 := by
          intro s198 t198 z198  w198_
          have w198_ := h198 s198 t198 z198  w198_
          refine g_aload_n hF d_X14_globalName_198 rfl 0 rfl ?_
          refine g_get (v := .ref (r 9)) hF 18 obM_0 (by decide) m_1883 rfl d_X14_globalName_199 ?_
          refine g_iload hF d_X14_globalName_202 1 rfl ?_
          have w8 := w198_.2
          refine g_iald hF arM_9 (s_in (Nat.le_of_ble_eq_true rfl) w198_.1.1 w198_.1.2) d_X14_globalName_204 ?_
          refine g_top (v := (s198 9 v2.toNatClampNeg)) rfl ?_
          refine g_iconst hF (v := 1) d_X14_globalName_205 (by decide) ?_
          refine g_icmp_ne (yv := 1) hF 214 d_X14_globalName_206 (by decide) rfl (by decide) (fun c => ?_) (fun c => ?_)
          · have w9 := w8.1 c
            refine g_iconst hF (v := (-1)) d_X14_globalName_214 (by decide) ?_
            exact g_iret hF rfl d_X14_globalName_215 ⟨((-1) : Int32), rfl, w9⟩
          · have w10 := w8.2 c
            refine g_iload hF d_X14_globalName_209 1 rfl ?_
            refine g_goto hF 215 d_X14_globalName_211 (by decide) ?_
            exact g_iret hF rfl d_X14_globalName_215 ⟨v2, rfl, w10⟩
        refine g_if_eq hF 198 d_X14_globalName_183 (by decide) rfl (fun c => ?_) (fun c => ?_)
        · have w11 := w7.1 c
          exact g_sub (L' := [(0, .ref (r 0)), (6, .int v2)]) [0, 3] rfl (b198 s178 t178 z178 w11)
        · have w12 := w7.2 c
          refine g_iload_n hF d_X14_globalName_186 rfl 2 rfl ?_
          refine g_if_le hF 198 d_X14_globalName_187 (by decide) rfl (fun c => ?_) (fun c => ?_)
          · have w13 := w12.1 c
            exact g_sub (L' := [(0, .ref (r 0)), (6, .int v2)]) [0, 3] rfl (b198 s178 t178 z178 w13)
          · have w14 := w12.2 c
            refine g_aload_n hF d_X14_globalName_190 rfl 0 rfl ?_
            refine g_get (v := .ref (r 11)) hF 20 obM_0 (by decide) m_1885 rfl d_X14_globalName_191 ?_
            refine g_iload hF d_X14_globalName_194 3 rfl ?_
            refine g_iload_n hF d_X14_globalName_196 rfl 2 rfl ?_
            have w15 := w14.2
            refine g_iast hF arM_11 (s_in (Nat.le_of_ble_eq_true rfl) w14.1.1 w14.1.2) d_X14_globalName_197 ?_
            exact g_sub (L' := [(0, .ref (r 0)), (6, .int v2)]) [0, 3] rfl (b198 (upC s178 11 v2.toNatClampNeg a3) t178 z178 w15)
      obtain ⟨J176, h176, w16⟩ := w5
      have b176 : J176  → G SM r X σ τ vs [(0, .ref (r 0)), (1, .int a1), (3, .int a3), (6, .int v2), (7, .int y0_134)] [.ref (r 0)] 176 := by
        intro   w176_
        have w176_ := h176   w176_
        refine g_iconst hF (v := 0) d_X14_globalName_176 (by decide) ?_
        exact b177 (0 : Int32) (Or.inl rfl) w176_
      refine g_if_eq hF 176 d_X14_globalName_139 (by decide) rfl (fun c => ?_) (fun c => ?_)
      · have w17 := w16.1 c
        exact g_sub (L' := [(0, .ref (r 0)), (1, .int a1), (3, .int a3), (6, .int v2), (7, .int y0_134)]) [1, 2, 3, 6, 0] rfl (b176  w17)
      · have w18 := w16.2 c
        refine g_aload_n hF d_X14_globalName_142 rfl 1 rfl ?_
        refine g_get (v := .ref (r 12)) hF 21 obM_0 (by decide) m_1886 rfl d_X14_globalName_143 ?_
        refine g_iload hF d_X14_globalName_146 6 rfl ?_
        have w19 := w18.2
        refine g_zald hF arM_12 (s_in (Nat.le_of_ble_eq_true rfl) w18.1.1 w18.1.2) d_X14_globalName_148 ?_
        refine g_top (v := (σ 12 v2.toNatClampNeg)) rfl ?_
        refine g_if_ne hF 176 d_X14_globalName_149 (by decide) rfl (fun c => ?_) (fun c => ?_)
        · have w20 := w19.1 c
          exact g_sub (L' := [(0, .ref (r 0)), (1, .int a1), (3, .int a3), (6, .int v2), (7, .int y0_134)]) [1, 2, 3, 6, 0] rfl (b176  w20)
        · have w21 := w19.2 c
          refine g_iload hF d_X14_globalName_152 4 rfl ?_
          refine g_if_ne hF 176 d_X14_globalName_154 (by decide) rfl (fun c => ?_) (fun c => ?_)
          · have w22 := w21.1 c
            exact g_sub (L' := [(0, .ref (r 0)), (1, .int a1), (3, .int a3), (6, .int v2), (7, .int y0_134)]) [1, 2, 3, 6, 0] rfl (b176  w22)
          · have w23 := w21.2 c
            refine g_iload hF d_X14_globalName_157 5 rfl ?_
            obtain ⟨J172, h172, w24⟩ := w23
            have b172 : J172  → G SM r X σ τ vs [(0, .ref (r 0)), (1, .int a1), (3, .int a3), (6, .int v2), (7, .int y0_134)] [.ref (r 0)] 172 := by
              intro   w172_
              have w172_ := h172   w172_
              refine g_iconst hF (v := 1) d_X14_globalName_172 (by decide) ?_
              refine g_goto hF 177 d_X14_globalName_173 (by decide) ?_
              exact b177 (1 : Int32) (Or.inr rfl) w172_
            refine g_if_ne hF 172 d_X14_globalName_159 (by decide) rfl (fun c => ?_) (fun c => ?_)
            · have w25 := w24.1 c
              exact g_sub (L' := [(0, .ref (r 0)), (1, .int a1), (3, .int a3), (6, .int v2), (7, .int y0_134)]) [1, 2, 3, 6, 0] rfl (b172  w25)
            · have w26 := w24.2 c
              refine g_aload_n hF d_X14_globalName_162 rfl 1 rfl ?_
              refine g_get (v := .ref (r 13)) hF 22 obM_0 (by decide) m_1887 rfl d_X14_globalName_163 ?_
              refine g_iload hF d_X14_globalName_166 6 rfl ?_
              have w27 := w26.2
              refine g_zald hF arM_13 (s_in (Nat.le_of_ble_eq_true rfl) w26.1.1 w26.1.2) d_X14_globalName_168 ?_
              refine g_top (v := (σ 13 v2.toNatClampNeg)) rfl ?_
              refine g_if_ne hF 176 d_X14_globalName_169 (by decide) rfl (fun c => ?_) (fun c => ?_)
              · have w28 := w27.1 c
                exact g_sub (L' := [(0, .ref (r 0)), (1, .int a1), (3, .int a3), (6, .int v2), (7, .int y0_134)]) [1, 2, 3, 6, 0] rfl (b176  w28)
              · have w29 := w27.2 c
                exact g_sub (L' := [(0, .ref (r 0)), (1, .int a1), (3, .int a3), (6, .int v2), (7, .int y0_134)]) [1, 2, 3, 6, 0] rfl (b172  w29)
    obtain ⟨J133, h133, w30⟩ := w4
    have b133 : J133  → G SM r X σ τ vs [(0, .ref (r 0)), (1, .int a1), (3, .int a3), (4, .int a4), (5, .int a5), (6, .int v2)] [] 133 := by
      intro   w133_
      have w133_ := h133   w133_
      refine g_iconst hF (v := 0) d_X14_globalName_133 (by decide) ?_
      exact b134 (0 : Int32) (Or.inl rfl) w133_
    refine g_icmp_ne (yv := 1) hF 133 d_X14_globalName_63 (by decide) rfl (by decide) (fun c => ?_) (fun c => ?_)
    · have w31 := w30.1 c
      exact g_sub (L' := [(0, .ref (r 0)), (1, .int a1), (3, .int a3), (4, .int a4), (5, .int a5), (6, .int v2)]) [1, 2, 4, 5, 6, 0] rfl (b133  w31)
    · have w32 := w30.2 c
      refine g_aload_n hF d_X14_globalName_66 rfl 1 rfl ?_
      refine g_get (v := .ref (r 10)) hF 19 obM_0 (by decide) m_1884 rfl d_X14_globalName_67 ?_
      refine g_iload hF d_X14_globalName_70 0 rfl ?_
      have w33 := w32.2
      refine g_iald hF arM_10 (s_in (Nat.le_of_ble_eq_true rfl) w32.1.1 w32.1.2) d_X14_globalName_72 ?_
      refine g_top (v := (σ 10 v2.toNatClampNeg)) rfl ?_
      refine g_iload_n hF d_X14_globalName_73 rfl 3 rfl ?_
      refine g_icmp_ne hF 133 d_X14_globalName_74 (by decide) rfl rfl (fun c => ?_) (fun c => ?_)
      · have w34 := w33.1 c
        exact g_sub (L' := [(0, .ref (r 0)), (1, .int a1), (3, .int a3), (4, .int a4), (5, .int a5), (6, .int v2)]) [1, 2, 4, 5, 6, 0] rfl (b133  w34)
      · have w35 := w33.2 c
        refine g_aload_n hF d_X14_globalName_77 rfl 1 rfl ?_
        refine g_get (v := .ref (r 11)) hF 20 obM_0 (by decide) m_1885 rfl d_X14_globalName_78 ?_
        refine g_iload hF d_X14_globalName_81 0 rfl ?_
        have w36 := w35.2
        refine g_iald hF arM_11 (s_in (Nat.le_of_ble_eq_true rfl) w35.1.1 w35.1.2) d_X14_globalName_83 ?_
        refine g_top (v := (σ 11 v2.toNatClampNeg)) rfl ?_
        obtain ⟨J92, h92, w37⟩ := w36
        have b92 : ∀ (y0_92 : Int32), y0_92 = 0 ∨ y0_92 = 1 → J92 y0_92 → G SM r X σ τ vs [(0, .ref (r 0)), (1, .int a1), (3, .int a3), (4, .int a4), (5, .int a5), (6, .int v2)] [.int y0_92] 92 := by
          intro y0_92 hy0_92 w92_
          have w92_ := h92 y0_92 hy0_92 w92_
          refine g_iload_n hF d_X14_globalName_92 rfl 2 rfl ?_
          obtain ⟨J101, h101, w38⟩ := w92_
          have b101 : ∀ (y1_101 : Int32), y1_101 = 0 ∨ y1_101 = 1 → J101 y1_101 → G SM r X σ τ vs [(0, .ref (r 0)), (1, .int a1), (3, .int a3), (4, .int a4), (5, .int a5), (6, .int v2)] [.int y1_101, .int y0_92] 101 := by
            intro y1_101 hy1_101 w101_
            have w101_ := h101 y1_101 hy1_101 w101_
            refine g_icmp_ne hF 133 d_X14_globalName_101 (by decide) rfl rfl (fun c => ?_) (fun c => ?_)
            · have w39 := w101_.1 c
              exact b133  w39
            · have w40 := w101_.2 c
              refine g_iload_n hF d_X14_globalName_104 rfl 2 rfl ?_
              obtain ⟨J129, h129, w41⟩ := w40
              have b129 : J129  → G SM r X σ τ vs [(0, .ref (r 0)), (1, .int a1), (3, .int a3), (4, .int a4), (5, .int a5), (6, .int v2)] [] 129 := by
                intro   w129_
                have w129_ := h129   w129_
                refine g_iconst hF (v := 1) d_X14_globalName_129 (by decide) ?_
                refine g_goto hF 134 d_X14_globalName_130 (by decide) ?_
                exact b134 (1 : Int32) (Or.inr rfl) w129_
              refine g_if_le hF 129 d_X14_globalName_105 (by decide) rfl (fun c => ?_) (fun c => ?_)
              · have w42 := w41.1 c
                exact b129  w42
              · have w43 := w41.2 c
                refine g_aload_n hF d_X14_globalName_108 rfl 0 rfl ?_
                refine g_get (v := .ref (r 11)) hF 20 obM_0 (by decide) m_1885 rfl d_X14_globalName_109 ?_
                refine g_iload hF d_X14_globalName_112 5 rfl ?_
                have w44 := w43.2
                refine g_iald hF arM_11 (s_in (Nat.le_of_ble_eq_true rfl) w43.1.1 w43.1.2) d_X14_globalName_114 ?_
                refine g_top (v := (σ 11 v2.toNatClampNeg)) rfl ?_
                refine g_if_eq hF 129 d_X14_globalName_115 (by decide) rfl (fun c => ?_) (fun c => ?_)
                · have w45 := w44.1 c
                  exact b129  w45
                · have w46 := w44.2 c
                  refine g_aload_n hF d_X14_globalName_118 rfl 0 rfl ?_
                  refine g_get (v := .ref (r 11)) hF 20 obM_0 (by decide) m_1885 rfl d_X14_globalName_119 ?_
                  refine g_iload hF d_X14_globalName_122 5 rfl ?_
                  have w47 := w46.2
                  refine g_iald hF arM_11 (s_in (Nat.le_of_ble_eq_true rfl) w46.1.1 w46.1.2) d_X14_globalName_124 ?_
                  refine g_top (v := (σ 11 v2.toNatClampNeg)) rfl ?_
                  refine g_iload_n hF d_X14_globalName_125 rfl 2 rfl ?_
                  refine g_icmp_ne hF 133 d_X14_globalName_126 (by decide) rfl rfl (fun c => ?_) (fun c => ?_)
                  · have w48 := w47.1 c
                    exact b133  w48
                  · have w49 := w47.2 c
                    exact b129  w49
          refine g_if_ge hF 100 d_X14_globalName_93 (by decide) rfl (fun c => ?_) (fun c => ?_)
          · have w50 := w38.1 c
            refine g_iconst hF (v := 0) d_X14_globalName_100 (by decide) ?_
            exact b101 (0 : Int32) (Or.inl rfl) w50
          · have w51 := w38.2 c
            refine g_iconst hF (v := 1) d_X14_globalName_96 (by decide) ?_
            refine g_goto hF 101 d_X14_globalName_97 (by decide) ?_
            exact b101 (1 : Int32) (Or.inr rfl) w51
        refine g_if_ge hF 91 d_X14_globalName_84 (by decide) rfl (fun c => ?_) (fun c => ?_)
        · have w52 := w37.1 c
          refine g_iconst hF (v := 0) d_X14_globalName_91 (by decide) ?_
          exact g_sub (L' := [(0, .ref (r 0)), (1, .int a1), (3, .int a3), (4, .int a4), (5, .int a5), (6, .int v2)]) [1, 2, 4, 5, 6, 0] rfl (b92 (0 : Int32) (Or.inl rfl) w52)
        · have w53 := w37.2 c
          refine g_iconst hF (v := 1) d_X14_globalName_87 (by decide) ?_
          refine g_goto hF 92 d_X14_globalName_88 (by decide) ?_
          exact g_sub (L' := [(0, .ref (r 0)), (1, .int a1), (3, .int a3), (4, .int a4), (5, .int a5), (6, .int v2)]) [1, 2, 4, 5, 6, 0] rfl (b92 (1 : Int32) (Or.inr rfl) w53)
  · have w54 := w1.2 c
    refine g_aload_n hF d_X14_globalName_12 rfl 1 rfl ?_
    refine g_iload_n hF d_X14_globalName_13 rfl 2 rfl ?_
    refine g_iconst hF (v := 1) d_X14_globalName_14 (by decide) ?_
    refine g_callV (As := [.int a1, .int 1]) (rest := []) hF (fun l D cy => (ct_declare a r hcap w54) l D cy) (Nat.le_of_ble_eq_true rfl) mV_X14_declare m_2321 (recv_ob obM_0) rfl rfl (Nat.le_of_ble_eq_true rfl) d_X14_globalName_15 (kI (fun v15 s15 t15 z15 w55 => ?_)) (fun _ _ _ h => h.elim)
    refine g_istore hF [(6, .int v15), (0, .ref (r 0)), (1, .int a1), (2, .int a2), (3, .int a3), (4, .int a4), (5, .int a5)] d_X14_globalName_18 hnn (by decide) rfl ?_
    refine g_iload hF d_X14_globalName_20 0 rfl ?_
    refine g_if_ge hF 27 d_X14_globalName_22 (by decide) rfl (fun c => ?_) (fun c => ?_)
    · have w56 := w55.1 c
      refine g_aload_n hF d_X14_globalName_27 rfl 1 rfl ?_
      refine g_get (v := .ref (r 10)) hF 19 obM_0 (by decide) m_1884 rfl d_X14_globalName_28 ?_
      refine g_iload hF d_X14_globalName_31 0 rfl ?_
      refine g_iload_n hF d_X14_globalName_33 rfl 3 rfl ?_
      have w57 := w56.2
      refine g_iast hF arM_10 (s_in (Nat.le_of_ble_eq_true rfl) w56.1.1 w56.1.2) d_X14_globalName_34 ?_
      refine g_aload_n hF d_X14_globalName_35 rfl 1 rfl ?_
      refine g_get (v := .ref (r 11)) hF 20 obM_0 (by decide) m_1885 rfl d_X14_globalName_36 ?_
      refine g_iload hF d_X14_globalName_39 0 rfl ?_
      refine g_iload_n hF d_X14_globalName_41 rfl 4 rfl ?_
      have w58 := w57.2
      refine g_iast hF arM_11 (s_in (Nat.le_of_ble_eq_true rfl) w57.1.1 w57.1.2) d_X14_globalName_42 ?_
      refine g_aload_n hF d_X14_globalName_43 rfl 1 rfl ?_
      refine g_get (v := .ref (r 12)) hF 21 obM_0 (by decide) m_1886 rfl d_X14_globalName_44 ?_
      refine g_iload hF d_X14_globalName_47 0 rfl ?_
      refine g_iload hF d_X14_globalName_49 5 rfl ?_
      have w59 := w58.2
      refine g_zast hF arM_12 (s_in (Nat.le_of_ble_eq_true rfl) w58.1.1 w58.1.2) d_X14_globalName_51 ?_
      refine g_iload hF d_X14_globalName_52 0 rfl ?_
      exact g_iret hF rfl d_X14_globalName_54 ⟨v15, rfl, w59⟩
    · have w60 := w55.2 c
      refine g_iconst hF (v := (-1)) d_X14_globalName_25 (by decide) ?_
      exact g_iret hF rfl d_X14_globalName_26 ⟨((-1) : Int32), rfl, w60⟩
def wp_fill (a1 : Int32) (a2 : Int32) (a3 : Int32) (a4 : Int32) (σ τ : St) (vs : List Nat) (Q : St → St → List Nat → Prop) : Prop :=
  (0 ≤ a3.toInt → (a4.toInt ≠ 0 → ((0 ≤ a1.toInt ∧ a1.toInt < 16002) ∧ ∃ L45 : Nat → Int32 → Int32 → St → St → List Nat → Prop, (∃ n, L45 n ((σ 3 a1.toNatClampNeg) + (1 : Int32)) (0 : Int32) σ τ vs) ∧ ∀ (n45 : Nat) (x5_45 : Int32) (x6_45 : Int32) (s45 t45 : St) (z45 : List Nat), L45 n45 x5_45 x6_45 s45 t45 z45 → (((0 ≤ a1.toInt ∧ a1.toInt < 16002) ∧ ((s45 6 a1.toNatClampNeg).toInt ≤ x6_45.toInt → Q s45 t45 z45) ∧ (x6_45.toInt < (s45 6 a1.toNatClampNeg).toInt → wp_put_1 (4 : Int32) a3 s45 t45 z45 (fun s59 t59 z59 => wp_put_1 (0 : Int32) x6_45 s59 t59 z59 (fun s66 t66 z66 => wp_put_2 (11 : Int32) (36 : Int32) (0 : Int32) s66 t66 z66 (fun s75 t75 z75 => wp_code x5_45 (34 : Int32) s75 t75 z75 (fun v85 => wp_put_1 (0 : Int32) v85 s75 t75 z75 (fun s88 t88 z88 => wp_put_1 (6 : Int32) (0 : Int32) s88 t88 z88 (fun s95 t95 z95 => wp_put_0 (10 : Int32) s95 t95 z95 (fun s101 t101 z101 => wp_look x5_45 s101 t101 z101 (fun v109 => (∃ J122 : Int32 → Prop, (∀ (y1_122 : Int32), J122 y1_122 → (∃ m, m < n45 ∧ L45 m (x5_45 + y1_122) (x6_45 + 1) s101 t101 z101)) ∧ (v109.toInt ≠ 92 → J122 (1 : Int32)) ∧ (v109.toInt = 92 → J122 (2 : Int32)))))))))))))))) ∧ (a4.toInt = 0 → ((0 ≤ a1.toInt ∧ a1.toInt < 16002) ∧ (a2.toInt < (σ 6 a1.toNatClampNeg).toInt → Q σ τ vs) ∧ ((σ 6 a1.toNatClampNeg).toInt ≤ a2.toInt → ((0 ≤ a3.toInt ∧ a3.toInt < 10000) ∧ wp_codes a1 (σ 17 a3.toNatClampNeg) σ τ vs (fun s28 t28 z28 => Q s28 t28 z28)))))) ∧ (a3.toInt < 0 → Q σ τ vs)
set_option maxHeartbeats 4000000 in
set_option maxRecDepth 100000 in
theorem ct_fill (a : Nat → Nat) (r : Nat → Nat) {a1 : Int32} {a2 : Int32} {a3 : Int32} {a4 : Int32} {σ τ : St} {vs : List Nat} {Q : St → St → List Nat → Prop} (hcap : vs.length ≤ CAP) (w : wp_fill a1 a2 a3 a4 σ τ vs Q) (l : Launch) (D : va_G) (cy : Nat → ClassId) : Ct l D cy SM r (EM a) y_X14_fill (Cond.code y_X14_fill b_X14_fill 7 none) 3 [.ref (r 0), .int a1, .int a2, .int a3, .int a4] σ τ vs (QVs Q) QT0 := by
  unfold wp_fill at w
  refine Ct_of (EM_ok a) (by decide) (Nat.le_of_ble_eq_true rfl) hcap (fun X hnn hF => ?_)
  show G SM r X σ τ vs [(0, .ref (r 0)), (1, .int a1), (2, .int a2), (3, .int a3), (4, .int a4)] [] 0
  refine g_iload_n hF d_X14_fill_0 rfl 3 rfl ?_
  refine g_if_ge hF 5 d_X14_fill_1 (by decide) rfl (fun c => ?_) (fun c => ?_)
  · have w1 := w.1 c
    refine g_iload hF d_X14_fill_5 4 rfl ?_
    refine g_if_ne hF 32 d_X14_fill_7 (by decide) rfl (fun c => ?_) (fun c => ?_)
    · have w2 := w1.1 c
      refine g_aload_n hF d_X14_fill_32 rfl 0 rfl ?_
      refine g_get (v := .ref (r 3)) hF 4 obM_0 (by decide) m_1869 rfl d_X14_fill_33 ?_
      refine g_iload_n hF d_X14_fill_36 rfl 1 rfl ?_
      have w3 := w2.2
      refine g_iald hF arM_3 (s_in (Nat.le_of_ble_eq_true rfl) w2.1.1 w2.1.2) d_X14_fill_37 ?_
      refine g_top (v := (σ 3 a1.toNatClampNeg)) rfl ?_
      refine g_iconst hF (v := 1) d_X14_fill_38 (by decide) ?_
      refine g_iadd hF d_X14_fill_39 ?_
      refine g_istore hF [(5, .int ((σ 3 a1.toNatClampNeg) + (1 : Int32))), (0, .ref (r 0)), (1, .int a1), (2, .int a2), (3, .int a3), (4, .int a4)] d_X14_fill_40 hnn (by decide) rfl ?_
      refine g_iconst hF (v := 0) d_X14_fill_42 (by decide) ?_
      refine g_istore hF [(6, .int 0), (5, .int ((σ 3 a1.toNatClampNeg) + (1 : Int32))), (0, .ref (r 0)), (1, .int a1), (2, .int a2), (3, .int a3), (4, .int a4)] d_X14_fill_43 hnn (by decide) rfl ?_
      obtain ⟨L45, ⟨i45, u45⟩, h45⟩ := w3
      have b45 : ∀ (n45 : Nat) (x5_45 : Int32) (x6_45 : Int32) (s45 t45 : St) (z45 : List Nat), L45 n45 x5_45 x6_45 s45 t45 z45 → G SM r X s45 t45 z45 [(0, .ref (r 0)), (1, .int a1), (3, .int a3), (5, .int x5_45), (6, .int x6_45)] [] 45 := by
        intro n45
        induction n45 using Nat.strongRecOn with
        | _ n45 ih45 =>
          intro x5_45 x6_45 s45 t45 z45  w45_
          have w45_ := h45 n45 x5_45 x6_45 s45 t45 z45  w45_
          refine g_iload hF d_X14_fill_45 4 rfl ?_
          refine g_aload_n hF d_X14_fill_47 rfl 0 rfl ?_
          refine g_get (v := .ref (r 6)) hF 7 obM_0 (by decide) m_1872 rfl d_X14_fill_48 ?_
          refine g_iload_n hF d_X14_fill_51 rfl 1 rfl ?_
          have w4 := w45_.2
          refine g_iald hF arM_6 (s_in (Nat.le_of_ble_eq_true rfl) w45_.1.1 w45_.1.2) d_X14_fill_52 ?_
          refine g_top (v := (s45 6 a1.toNatClampNeg)) rfl ?_
          refine g_icmp_ge hF 131 d_X14_fill_53 (by decide) rfl rfl (fun c => ?_) (fun c => ?_)
          · have w5 := w4.1 c
            exact g_vret hF rfl d_X14_fill_131 ⟨rfl, w5⟩
          · have w6 := w4.2 c
            refine g_aload_n hF d_X14_fill_56 rfl 0 rfl ?_
            refine g_iconst hF (v := 4) d_X14_fill_57 (by decide) ?_
            refine g_iload_n hF d_X14_fill_58 rfl 2 rfl ?_
            refine g_cap (fun hc6 => ?_)
            refine g_callV (As := [.int 4, .int a3]) (rest := []) hF (fun l D cy => (ct_put_1 a r hc6 w6) l D cy) (Nat.le_of_ble_eq_true rfl) mV_X14_put_1 m_2433 (recv_ob obM_0) rfl rfl (Nat.le_of_ble_eq_true rfl) d_X14_fill_59 (kV (fun s59 t59 z59 w8 => ?_)) (fun _ _ _ h => h.elim)
            refine g_aload_n hF d_X14_fill_62 rfl 0 rfl ?_
            refine g_iconst hF (v := 0) d_X14_fill_63 (by decide) ?_
            refine g_iload hF d_X14_fill_64 4 rfl ?_
            refine g_cap (fun hc8 => ?_)
            refine g_callV (As := [.int 0, .int x6_45]) (rest := []) hF (fun l D cy => (ct_put_1 a r hc8 w8) l D cy) (Nat.le_of_ble_eq_true rfl) mV_X14_put_1 m_2433 (recv_ob obM_0) rfl rfl (Nat.le_of_ble_eq_true rfl) d_X14_fill_66 (kV (fun s66 t66 z66 w10 => ?_)) (fun _ _ _ h => h.elim)
            refine g_aload_n hF d_X14_fill_69 rfl 0 rfl ?_
            refine g_bipush hF (v := 11) d_X14_fill_70 (by decide) ?_
            refine g_bipush hF (v := 36) d_X14_fill_72 (by decide) ?_
            refine g_iconst hF (v := 0) d_X14_fill_74 (by decide) ?_
            refine g_cap (fun hc10 => ?_)
            refine g_callV (As := [.int 11, .int 36, .int 0]) (rest := []) hF (fun l D cy => (ct_put_2 a r hc10 w10) l D cy) (Nat.le_of_ble_eq_true rfl) mV_X14_put_2 m_2449 (recv_ob obM_0) rfl rfl (Nat.le_of_ble_eq_true rfl) d_X14_fill_75 (kV (fun s75 t75 z75 w12 => ?_)) (fun _ _ _ h => h.elim)
            refine g_aload_n hF d_X14_fill_78 rfl 0 rfl ?_
            refine g_iconst hF (v := 0) d_X14_fill_79 (by decide) ?_
            refine g_aload_n hF d_X14_fill_80 rfl 0 rfl ?_
            refine g_iload hF d_X14_fill_81 3 rfl ?_
            refine g_bipush hF (v := 34) d_X14_fill_83 (by decide) ?_
            refine g_cap (fun hc12 => ?_)
            refine g_callV (As := [.int x5_45, .int 34]) (rest := [.int 0, .ref (r 0)]) hF (fun l D cy => (ct_code a r hc12 w12) l D cy) (Nat.le_of_ble_eq_true rfl) mV_X14_code m_2248 (recv_ob obM_0) rfl rfl (Nat.le_of_ble_eq_true rfl) d_X14_fill_85 (krI (fun v85 w14 => ?_)) (fun _ _ _ h => h.elim)
            refine g_callV (As := [.int 0, .int v85]) (rest := []) hF (fun l D cy => (ct_put_1 a r hc12 w14) l D cy) (Nat.le_of_ble_eq_true rfl) mV_X14_put_1 m_2433 (recv_ob obM_0) rfl rfl (Nat.le_of_ble_eq_true rfl) d_X14_fill_88 (kV (fun s88 t88 z88 w15 => ?_)) (fun _ _ _ h => h.elim)
            refine g_aload_n hF d_X14_fill_91 rfl 0 rfl ?_
            refine g_bipush hF (v := 6) d_X14_fill_92 (by decide) ?_
            refine g_iconst hF (v := 0) d_X14_fill_94 (by decide) ?_
            refine g_cap (fun hc15 => ?_)
            refine g_callV (As := [.int 6, .int 0]) (rest := []) hF (fun l D cy => (ct_put_1 a r hc15 w15) l D cy) (Nat.le_of_ble_eq_true rfl) mV_X14_put_1 m_2433 (recv_ob obM_0) rfl rfl (Nat.le_of_ble_eq_true rfl) d_X14_fill_95 (kV (fun s95 t95 z95 w17 => ?_)) (fun _ _ _ h => h.elim)
            refine g_aload_n hF d_X14_fill_98 rfl 0 rfl ?_
            refine g_bipush hF (v := 10) d_X14_fill_99 (by decide) ?_
            refine g_cap (fun hc17 => ?_)
            refine g_callV (As := [.int 10]) (rest := []) hF (fun l D cy => (ct_put_0 a r hc17 w17) l D cy) (Nat.le_of_ble_eq_true rfl) mV_X14_put_0 m_2437 (recv_ob obM_0) rfl rfl (Nat.le_of_ble_eq_true rfl) d_X14_fill_101 (kV (fun s101 t101 z101 w19 => ?_)) (fun _ _ _ h => h.elim)
            refine g_iload hF d_X14_fill_104 3 rfl ?_
            refine g_aload_n hF d_X14_fill_106 rfl 0 rfl ?_
            refine g_iload hF d_X14_fill_107 3 rfl ?_
            refine g_cap (fun hc19 => ?_)
            refine g_callV (As := [.int x5_45]) (rest := [.int x5_45]) hF (fun l D cy => (ct_look a r hc19 w19) l D cy) (Nat.le_of_ble_eq_true rfl) mV_X14_look m_2187 (recv_ob obM_0) rfl rfl (Nat.le_of_ble_eq_true rfl) d_X14_fill_109 (krI (fun v109 w21 => ?_)) (fun _ _ _ h => h.elim)
            refine g_bipush hF (v := 92) d_X14_fill_112 (by decide) ?_
            obtain ⟨J122, h122, w22⟩ := w21
            have b122 : ∀ (y1_122 : Int32), J122 y1_122 → G SM r X s101 t101 z101 [(0, .ref (r 0)), (1, .int a1), (3, .int a3), (6, .int x6_45)] [.int y1_122, .int x5_45] 122 := by
              intro y1_122  w122_
              have w122_ := h122 y1_122  w122_
              refine g_iadd hF d_X14_fill_122 ?_
              refine g_istore hF [(5, .int (x5_45 + y1_122)), (0, .ref (r 0)), (1, .int a1), (3, .int a3), (6, .int x6_45)] d_X14_fill_123 hnn (by decide) rfl ?_
              refine g_iinc hF (x6_45 + 1) [(6, .int (x6_45 + 1)), (5, .int (x5_45 + y1_122)), (0, .ref (r 0)), (1, .int a1), (3, .int a3)] d_X14_fill_125 4 rfl rfl hnn (by decide) rfl ?_
              refine g_goto hF 45 d_X14_fill_128 (by decide) ?_
              obtain ⟨m45, hm45, w9⟩ := w122_
              exact g_sub (L' := [(0, .ref (r 0)), (1, .int a1), (3, .int a3), (5, .int (x5_45 + y1_122)), (6, .int (x6_45 + 1))]) [2, 3, 4, 1, 0] rfl (ih45 m45 hm45 (x5_45 + y1_122) (x6_45 + 1) s101 t101 z101 w9)
            refine g_icmp_ne (yv := 92) hF 121 d_X14_fill_114 (by decide) rfl (by decide) (fun c => ?_) (fun c => ?_)
            · have w23 := w22.1 c
              refine g_iconst hF (v := 1) d_X14_fill_121 (by decide) ?_
              exact g_sub (L' := [(0, .ref (r 0)), (1, .int a1), (3, .int a3), (6, .int x6_45)]) [0, 1, 2, 4] rfl (b122 (1 : Int32) w23)
            · have w24 := w22.2 c
              refine g_iconst hF (v := 2) d_X14_fill_117 (by decide) ?_
              refine g_goto hF 122 d_X14_fill_118 (by decide) ?_
              exact g_sub (L' := [(0, .ref (r 0)), (1, .int a1), (3, .int a3), (6, .int x6_45)]) [0, 1, 2, 4] rfl (b122 (2 : Int32) w24)
      exact g_sub (L' := [(0, .ref (r 0)), (1, .int a1), (3, .int a3), (5, .int ((σ 3 a1.toNatClampNeg) + (1 : Int32))), (6, .int 0)]) [2, 3, 5, 1, 0] rfl (b45 i45 ((σ 3 a1.toNatClampNeg) + (1 : Int32)) (0 : Int32) σ τ vs u45)
    · have w25 := w1.2 c
      refine g_aload_n hF d_X14_fill_10 rfl 0 rfl ?_
      refine g_get (v := .ref (r 6)) hF 7 obM_0 (by decide) m_1872 rfl d_X14_fill_11 ?_
      refine g_iload_n hF d_X14_fill_14 rfl 1 rfl ?_
      have w26 := w25.2
      refine g_iald hF arM_6 (s_in (Nat.le_of_ble_eq_true rfl) w25.1.1 w25.1.2) d_X14_fill_15 ?_
      refine g_top (v := (σ 6 a1.toNatClampNeg)) rfl ?_
      refine g_iload_n hF d_X14_fill_16 rfl 2 rfl ?_
      refine g_icmp_gt hF 31 d_X14_fill_17 (by decide) rfl rfl (fun c => ?_) (fun c => ?_)
      · have w27 := w26.1 c
        exact g_vret hF rfl d_X14_fill_31 ⟨rfl, w27⟩
      · have w28 := w26.2 c
        refine g_aload_n hF d_X14_fill_20 rfl 0 rfl ?_
        refine g_iload_n hF d_X14_fill_21 rfl 1 rfl ?_
        refine g_aload_n hF d_X14_fill_22 rfl 0 rfl ?_
        refine g_get (v := .ref (r 17)) hF 26 obM_0 (by decide) m_1891 rfl d_X14_fill_23 ?_
        refine g_iload_n hF d_X14_fill_26 rfl 3 rfl ?_
        have w29 := w28.2
        refine g_iald hF arM_17 (s_in (Nat.le_of_ble_eq_true rfl) w28.1.1 w28.1.2) d_X14_fill_27 ?_
        refine g_top (v := (σ 17 a3.toNatClampNeg)) rfl ?_
        refine g_callV (As := [.int a1, .int (σ 17 a3.toNatClampNeg)]) (rest := []) hF (fun l D cy => (ct_codes a r hcap w29) l D cy) (Nat.le_of_ble_eq_true rfl) mV_X14_codes m_2490 (recv_ob obM_0) rfl rfl (Nat.le_of_ble_eq_true rfl) d_X14_fill_28 (kV (fun s28 t28 z28 w30 => ?_)) (fun _ _ _ h => h.elim)
        exact g_vret hF rfl d_X14_fill_31 ⟨rfl, w30⟩
  · have w31 := w.2 c
    exact g_vret hF rfl d_X14_fill_4 ⟨rfl, w31⟩
def wp_inner (Kstatement : Int32 → St → St → List Nat → (St → St → List Nat → Prop) → (St → St → List Nat → Prop) → Prop) (Kinner : Int32 → St → St → List Nat → (St → St → List Nat → Prop) → (St → St → List Nat → Prop) → Prop) (Kblock : Int32 → St → St → List Nat → (St → St → List Nat → Prop) → (St → St → List Nat → Prop) → Prop) (Kloop : Int32 → Int32 → Int32 → St → St → List Nat → (St → St → List Nat → Prop) → (St → St → List Nat → Prop) → Prop) (KdoStatement : Int32 → Int32 → St → St → List Nat → (St → St → List Nat → Prop) → (St → St → List Nat → Prop) → Prop) (KforStatement : Int32 → Int32 → St → St → List Nat → (St → St → List Nat → Prop) → (St → St → List Nat → Prop) → Prop) (a1 : Int32) (σ τ : St) (vs : List Nat) (Q : St → St → List Nat → Prop) (T : St → St → List Nat → Prop) : Prop :=
  Kstatement (a1 + (1 : Int32)) (upC σ 0 54 ((σ 0 54) + (1 : Int32))) τ vs (fun s14 t14 z14 => wp_close s14 t14 z14 (fun s18 t18 z18 => Q s18 t18 z18)) T
set_option maxHeartbeats 4000000 in
set_option maxRecDepth 100000 in
theorem ct_inner (a : Nat → Nat) (r : Nat → Nat) (dK : Nat) (hdK : 1 ≤ dK) (Kstatement : Int32 → St → St → List Nat → (St → St → List Nat → Prop) → (St → St → List Nat → Prop) → Prop) (Kinner : Int32 → St → St → List Nat → (St → St → List Nat → Prop) → (St → St → List Nat → Prop) → Prop) (Kblock : Int32 → St → St → List Nat → (St → St → List Nat → Prop) → (St → St → List Nat → Prop) → Prop) (Kloop : Int32 → Int32 → Int32 → St → St → List Nat → (St → St → List Nat → Prop) → (St → St → List Nat → Prop) → Prop) (KdoStatement : Int32 → Int32 → St → St → List Nat → (St → St → List Nat → Prop) → (St → St → List Nat → Prop) → Prop) (KforStatement : Int32 → Int32 → St → St → List Nat → (St → St → List Nat → Prop) → (St → St → List Nat → Prop) → Prop) (hKstatement : ∀ {a1 : Int32} {σ τ : St} {vs : List Nat} {Q : St → St → List Nat → Prop} {T : St → St → List Nat → Prop}, vs.length ≤ CAP → Kstatement a1 σ τ vs Q T → ∀ (l : Launch) (D : va_G) (cy : Nat → ClassId), Ct l D cy SM r (EM a) y_X14_statement (Cond.code y_X14_statement b_X14_statement 6 none) dK [.ref (r 0), .int a1] σ τ vs (QVs Q) T) {a1 : Int32} {σ τ : St} {vs : List Nat} {Q : St → St → List Nat → Prop} {T : St → St → List Nat → Prop} (hcap : vs.length ≤ CAP) (w : wp_inner Kstatement Kinner Kblock Kloop KdoStatement KforStatement a1 σ τ vs Q T) (l : Launch) (D : va_G) (cy : Nat → ClassId) : Ct l D cy SM r (EM a) y_X14_inner (Cond.code y_X14_inner b_X14_inner 2 none) (dK + 1) [.ref (r 0), .int a1] σ τ vs (QVs Q) T := by
  unfold wp_inner at w
  refine Ct_of (EM_ok a) (by decide) (Nat.le_of_ble_eq_true rfl) hcap (fun X hnn hF => ?_)
  show G SM r X σ τ vs [(0, .ref (r 0)), (1, .int a1)] [] 0
  refine g_aload_n hF d_X14_inner_0 rfl 0 rfl ?_
  refine g_dup hF d_X14_inner_1 rfl ?_
  refine g_get (v := .int (σ 0 54)) hF 54 obM_0 (by decide) m_1919 rfl d_X14_inner_2 ?_
  refine g_iconst hF (v := 1) d_X14_inner_5 (by decide) ?_
  refine g_iadd hF d_X14_inner_6 ?_
  refine g_put (v := ((σ 0 54) + (1 : Int32))) hF 54 obM_0 (by decide) m_1919 rfl rfl rfl d_X14_inner_7 ?_
  refine g_aload_n hF d_X14_inner_10 rfl 0 rfl ?_
  refine g_iload_n hF d_X14_inner_11 rfl 1 rfl ?_
  refine g_iconst hF (v := 1) d_X14_inner_12 (by decide) ?_
  refine g_iadd hF d_X14_inner_13 ?_
  refine g_callV (As := [.int (a1 + (1 : Int32))]) (rest := []) hF (fun l D cy => (hKstatement hcap w) l D cy) (Nat.le_refl _) mV_X14_statement m_2345 (recv_ob obM_0) rfl rfl (Nat.le_of_ble_eq_true rfl) d_X14_inner_14 (kV (fun s14 t14 z14 w1 => ?_)) (fun σ9 τ9 vs9 h9 => g_out hF stopM rfl h9)
  refine g_aload_n hF d_X14_inner_17 rfl 0 rfl ?_
  refine g_cap (fun hc1 => ?_)
  refine g_callV (As := []) (rest := []) hF (fun l D cy => (ct_close a r hc1 w1) l D cy) (Nat.add_le_add_right (Nat.le_trans (Nat.le_of_ble_eq_true rfl) hdK) 1) mV_X14_close m_2596 (recv_ob obM_0) rfl rfl (Nat.le_of_ble_eq_true rfl) d_X14_inner_18 (kV (fun s18 t18 z18 w3 => ?_)) (fun _ _ _ h => h.elim)
  exact g_vret hF rfl d_X14_inner_21 ⟨rfl, w3⟩
def wp_loop (Kstatement : Int32 → St → St → List Nat → (St → St → List Nat → Prop) → (St → St → List Nat → Prop) → Prop) (Kinner : Int32 → St → St → List Nat → (St → St → List Nat → Prop) → (St → St → List Nat → Prop) → Prop) (Kblock : Int32 → St → St → List Nat → (St → St → List Nat → Prop) → (St → St → List Nat → Prop) → Prop) (Kloop : Int32 → Int32 → Int32 → St → St → List Nat → (St → St → List Nat → Prop) → (St → St → List Nat → Prop) → Prop) (KdoStatement : Int32 → Int32 → St → St → List Nat → (St → St → List Nat → Prop) → (St → St → List Nat → Prop) → Prop) (KforStatement : Int32 → Int32 → St → St → List Nat → (St → St → List Nat → Prop) → (St → St → List Nat → Prop) → Prop) (a1 : Int32) (a2 : Int32) (a3 : Int32) (σ τ : St) (vs : List Nat) (Q : St → St → List Nat → Prop) (T : St → St → List Nat → Prop) : Prop :=
  ((0 ≤ a2.toInt ∧ a2.toInt < 16002) ∧ wp_put_1 (18 : Int32) (σ 5 a2.toNatClampNeg) (upC (upC (upC σ 0 58 ((-1) : Int32)) 0 59 ((-1) : Int32)) 0 57 ((σ 0 57) + (1 : Int32))) τ vs (fun s41 t41 z41 => Kinner a1 s41 t41 z41 (fun s46 t46 z46 => (∃ J76 : Int32 → Prop, (∀ (y2_76 : Int32), J76 y2_76 → (wp_aimAll (s46 0 59) y2_76 (upC s46 0 57 ((s46 0 57) - (1 : Int32))) t46 z46 (fun s76 t76 z76 => Q (upC (upC s76 0 59 (σ 0 59)) 0 60 (σ 0 58)) t76 z76))) ∧ (a3.toInt < 0 → J76 (s46 0 17)) ∧ (0 ≤ a3.toInt → J76 a3))) T))
set_option maxHeartbeats 4000000 in
set_option maxRecDepth 100000 in
theorem ct_loop (a : Nat → Nat) (r : Nat → Nat) (dK : Nat) (hdK : 2 ≤ dK) (Kstatement : Int32 → St → St → List Nat → (St → St → List Nat → Prop) → (St → St → List Nat → Prop) → Prop) (Kinner : Int32 → St → St → List Nat → (St → St → List Nat → Prop) → (St → St → List Nat → Prop) → Prop) (Kblock : Int32 → St → St → List Nat → (St → St → List Nat → Prop) → (St → St → List Nat → Prop) → Prop) (Kloop : Int32 → Int32 → Int32 → St → St → List Nat → (St → St → List Nat → Prop) → (St → St → List Nat → Prop) → Prop) (KdoStatement : Int32 → Int32 → St → St → List Nat → (St → St → List Nat → Prop) → (St → St → List Nat → Prop) → Prop) (KforStatement : Int32 → Int32 → St → St → List Nat → (St → St → List Nat → Prop) → (St → St → List Nat → Prop) → Prop) (hKinner : ∀ {a1 : Int32} {σ τ : St} {vs : List Nat} {Q : St → St → List Nat → Prop} {T : St → St → List Nat → Prop}, vs.length ≤ CAP → Kinner a1 σ τ vs Q T → ∀ (l : Launch) (D : va_G) (cy : Nat → ClassId), Ct l D cy SM r (EM a) y_X14_inner (Cond.code y_X14_inner b_X14_inner 2 none) dK [.ref (r 0), .int a1] σ τ vs (QVs Q) T) {a1 : Int32} {a2 : Int32} {a3 : Int32} {σ τ : St} {vs : List Nat} {Q : St → St → List Nat → Prop} {T : St → St → List Nat → Prop} (hcap : vs.length ≤ CAP) (w : wp_loop Kstatement Kinner Kblock Kloop KdoStatement KforStatement a1 a2 a3 σ τ vs Q T) (l : Launch) (D : va_G) (cy : Nat → ClassId) : Ct l D cy SM r (EM a) y_X14_loop (Cond.code y_X14_loop b_X14_loop 6 none) (dK + 1) [.ref (r 0), .int a1, .int a2, .int a3] σ τ vs (QVs Q) T := by
  unfold wp_loop at w
  refine Ct_of (EM_ok a) (by decide) (Nat.le_of_ble_eq_true rfl) hcap (fun X hnn hF => ?_)
  show G SM r X σ τ vs [(0, .ref (r 0)), (1, .int a1), (2, .int a2), (3, .int a3)] [] 0
  refine g_aload_n hF d_X14_loop_0 rfl 0 rfl ?_
  refine g_get (v := .int (σ 0 58)) hF 58 obM_0 (by decide) m_1923 rfl d_X14_loop_1 ?_
  refine g_istore hF [(4, .int (σ 0 58)), (0, .ref (r 0)), (1, .int a1), (2, .int a2), (3, .int a3)] d_X14_loop_4 hnn (by decide) rfl ?_
  refine g_aload_n hF d_X14_loop_6 rfl 1 rfl ?_
  refine g_get (v := .int (σ 0 59)) hF 59 obM_0 (by decide) m_1924 rfl d_X14_loop_7 ?_
  refine g_istore hF [(5, .int (σ 0 59)), (4, .int (σ 0 58)), (0, .ref (r 0)), (1, .int a1), (2, .int a2), (3, .int a3)] d_X14_loop_10 hnn (by decide) rfl ?_
  refine g_aload_n hF d_X14_loop_12 rfl 2 rfl ?_
  refine g_iconst hF (v := (-1)) d_X14_loop_13 (by decide) ?_
  refine g_put (v := (-1)) hF 58 obM_0 (by decide) m_1923 rfl rfl rfl d_X14_loop_14 ?_
  refine g_aload_n hF d_X14_loop_17 rfl 2 rfl ?_
  refine g_iconst hF (v := (-1)) d_X14_loop_18 (by decide) ?_
  refine g_put (v := (-1)) hF 59 obM_0 (by decide) m_1924 rfl rfl rfl d_X14_loop_19 ?_
  refine g_aload_n hF d_X14_loop_22 rfl 2 rfl ?_
  refine g_dup hF d_X14_loop_23 rfl ?_
  refine g_get (v := .int (σ 0 57)) hF 57 obM_0 (by decide) m_1922 rfl d_X14_loop_24 ?_
  refine g_iconst hF (v := 1) d_X14_loop_27 (by decide) ?_
  refine g_iadd hF d_X14_loop_28 ?_
  refine g_put (v := ((σ 0 57) + (1 : Int32))) hF 57 obM_0 (by decide) m_1922 rfl rfl rfl d_X14_loop_29 ?_
  refine g_aload_n hF d_X14_loop_32 rfl 2 rfl ?_
  refine g_bipush hF (v := 18) d_X14_loop_33 (by decide) ?_
  refine g_aload_n hF d_X14_loop_35 rfl 2 rfl ?_
  refine g_get (v := .ref (r 5)) hF 6 obM_0 (by decide) m_1871 rfl d_X14_loop_36 ?_
  refine g_iload_n hF d_X14_loop_39 rfl 4 rfl ?_
  have w1 := w.2
  refine g_iald hF arM_5 (s_in (Nat.le_of_ble_eq_true rfl) w.1.1 w.1.2) d_X14_loop_40 ?_
  refine g_top (v := (σ 5 a2.toNatClampNeg)) rfl ?_
  refine g_callV (As := [.int 18, .int (σ 5 a2.toNatClampNeg)]) (rest := []) hF (fun l D cy => (ct_put_1 a r hcap w1) l D cy) (Nat.add_le_add_right (Nat.le_trans (Nat.le_of_ble_eq_true rfl) hdK) 1) mV_X14_put_1 m_2433 (recv_ob obM_0) rfl rfl (Nat.le_of_ble_eq_true rfl) d_X14_loop_41 (kV (fun s41 t41 z41 w2 => ?_)) (fun _ _ _ h => h.elim)
  refine g_aload_n hF d_X14_loop_44 rfl 2 rfl ?_
  refine g_iload_n hF d_X14_loop_45 rfl 3 rfl ?_
  refine g_cap (fun hc2 => ?_)
  refine g_callV (As := [.int a1]) (rest := []) hF (fun l D cy => (hKinner hc2 w2) l D cy) (Nat.le_refl _) mV_X14_inner m_2592 (recv_ob obM_0) rfl rfl (Nat.le_of_ble_eq_true rfl) d_X14_loop_46 (kV (fun s46 t46 z46 w4 => ?_)) (fun σ9 τ9 vs9 h9 => g_out hF stopM rfl h9)
  refine g_aload_n hF d_X14_loop_49 rfl 2 rfl ?_
  refine g_dup hF d_X14_loop_50 rfl ?_
  refine g_get (v := .int (s46 0 57)) hF 57 obM_0 (by decide) m_1922 rfl d_X14_loop_51 ?_
  refine g_iconst hF (v := 1) d_X14_loop_54 (by decide) ?_
  refine g_isub hF d_X14_loop_55 ?_
  refine g_put (v := ((s46 0 57) - (1 : Int32))) hF 57 obM_0 (by decide) m_1922 rfl rfl rfl d_X14_loop_56 ?_
  refine g_aload_n hF d_X14_loop_59 rfl 2 rfl ?_
  refine g_aload_n hF d_X14_loop_60 rfl 2 rfl ?_
  refine g_get (v := .int (s46 0 59)) hF 59 obM_0 (by decide) m_1924 rfl d_X14_loop_61 ?_
  refine g_iload_n hF d_X14_loop_64 rfl 5 rfl ?_
  obtain ⟨J76, h76, w5⟩ := w4
  have b76 : ∀ (y2_76 : Int32), J76 y2_76 → G SM r X (upC s46 0 57 ((s46 0 57) - (1 : Int32))) t46 z46 [(0, .ref (r 0)), (4, .int (σ 0 58)), (5, .int (σ 0 59))] [.int y2_76, .int (s46 0 59), .ref (r 0)] 76 := by
    intro y2_76  w76_
    have w76_ := h76 y2_76  w76_
    refine g_cap (fun hc5 => ?_)
    refine g_callV (As := [.int (s46 0 59), .int y2_76]) (rest := []) hF (fun l D cy => (ct_aimAll a r hc5 w76_) l D cy) (Nat.add_le_add_right (Nat.le_trans (Nat.le_of_ble_eq_true rfl) hdK) 1) mV_X14_aimAll m_2604 (recv_ob obM_0) rfl rfl (Nat.le_of_ble_eq_true rfl) d_X14_loop_76 (kV (fun s76 t76 z76 w7 => ?_)) (fun _ _ _ h => h.elim)
    refine g_aload_n hF d_X14_loop_79 rfl 0 rfl ?_
    refine g_iload hF d_X14_loop_80 2 rfl ?_
    refine g_put (v := (σ 0 59)) hF 59 obM_0 (by decide) m_1924 rfl rfl rfl d_X14_loop_82 ?_
    refine g_aload_n hF d_X14_loop_85 rfl 0 rfl ?_
    refine g_iload hF d_X14_loop_86 1 rfl ?_
    refine g_put (v := (σ 0 58)) hF 60 obM_0 (by decide) m_1925 rfl rfl rfl d_X14_loop_88 ?_
    exact g_vret hF rfl d_X14_loop_91 ⟨rfl, w7⟩
  refine g_if_lt hF 72 d_X14_loop_65 (by decide) rfl (fun c => ?_) (fun c => ?_)
  · have w8 := w5.1 c
    refine g_aload_n hF d_X14_loop_72 rfl 2 rfl ?_
    refine g_get (v := .int (s46 0 17)) hF 17 obM_0 (by decide) m_1882 rfl d_X14_loop_73 ?_
    exact g_sub (L' := [(0, .ref (r 0)), (4, .int (σ 0 58)), (5, .int (σ 0 59))]) [2, 1, 0] rfl (b76 (s46 0 17) w8)
  · have w9 := w5.2 c
    refine g_iload_n hF d_X14_loop_68 rfl 5 rfl ?_
    refine g_goto hF 76 d_X14_loop_69 (by decide) ?_
    exact g_sub (L' := [(0, .ref (r 0)), (4, .int (σ 0 58)), (5, .int (σ 0 59))]) [2, 1, 0] rfl (b76 a3 w9)
def wp_read_2 (a1 : Nat) (a2 : Int32) (σ τ : St) (vs : List Nat) (Q : St → St → List Nat → Prop) : Prop :=
  (a1 ∈ vs ∧ ((τ a1 0).toInt ≠ -1 → wp_read_1 a1 σ τ vs (fun s11 t11 z11 => (a2.toInt ≠ 0 → Q s11 t11 z11) ∧ (a2.toInt = 0 → wp_put_0 (10 : Int32) s11 t11 z11 (fun s21 t21 z21 => Q s21 t21 z21)))) ∧ ((τ a1 0).toInt = -1 → Q σ τ vs))
set_option maxHeartbeats 4000000 in
set_option maxRecDepth 100000 in
theorem ct_read_2 (a : Nat → Nat) (r : Nat → Nat) {a1 : Nat} {a2 : Int32} {σ τ : St} {vs : List Nat} {Q : St → St → List Nat → Prop} (hcap : vs.length ≤ CAP) (w : wp_read_2 a1 a2 σ τ vs Q) (l : Launch) (D : va_G) (cy : Nat → ClassId) : Ct l D cy SM r (EM a) y_X14_read_2 (Cond.code y_X14_read_2 b_X14_read_2 3 none) 3 [.ref (r 0), .ref a1, .int a2] σ τ vs (QVs Q) QT0 := by
  unfold wp_read_2 at w
  refine Ct_of (EM_ok a) (by decide) (Nat.le_of_ble_eq_true rfl) hcap (fun X hnn hF => ?_)
  show G SM r X σ τ vs [(0, .ref (r 0)), (1, .ref a1), (2, .int a2)] [] 0
  refine g_aload_n hF d_X14_read_2_0 rfl 1 rfl ?_
  obtain ⟨hm0, w1⟩ := w
  refine g_vget hF 0 hm0 clsVC (by decide) m_2400 d_X14_read_2_1 ?_
  refine g_top (v := (τ a1 0)) rfl ?_
  refine g_iconst hF (v := (-1)) d_X14_read_2_4 (by decide) ?_
  refine g_icmp_ne (yv := -1) hF 9 d_X14_read_2_5 (by decide) rfl (by decide) (fun c => ?_) (fun c => ?_)
  · have w2 := w1.1 c
    refine g_aload_n hF d_X14_read_2_9 rfl 0 rfl ?_
    refine g_aload_n hF d_X14_read_2_10 rfl 1 rfl ?_
    refine g_callV (As := [.ref a1]) (rest := []) hF (fun l D cy => (ct_read_1 a r hcap w2) l D cy) (Nat.le_of_ble_eq_true rfl) mV_X14_read_1 m_2453 (recv_ob obM_0) rfl rfl (Nat.le_of_ble_eq_true rfl) d_X14_read_2_11 (kV (fun s11 t11 z11 w3 => ?_)) (fun _ _ _ h => h.elim)
    refine g_iload_n hF d_X14_read_2_14 rfl 2 rfl ?_
    refine g_if_ne hF 24 d_X14_read_2_15 (by decide) rfl (fun c => ?_) (fun c => ?_)
    · have w4 := w3.1 c
      exact g_vret hF rfl d_X14_read_2_24 ⟨rfl, w4⟩
    · have w5 := w3.2 c
      refine g_aload_n hF d_X14_read_2_18 rfl 0 rfl ?_
      refine g_bipush hF (v := 10) d_X14_read_2_19 (by decide) ?_
      refine g_cap (fun hc5 => ?_)
      refine g_callV (As := [.int 10]) (rest := []) hF (fun l D cy => (ct_put_0 a r hc5 w5) l D cy) (Nat.le_of_ble_eq_true rfl) mV_X14_put_0 m_2437 (recv_ob obM_0) rfl rfl (Nat.le_of_ble_eq_true rfl) d_X14_read_2_21 (kV (fun s21 t21 z21 w7 => ?_)) (fun _ _ _ h => h.elim)
      exact g_vret hF rfl d_X14_read_2_24 ⟨rfl, w7⟩
  · have w8 := w1.2 c
    exact g_vret hF rfl d_X14_read_2_8 ⟨rfl, w8⟩
def wp_block (Kstatement : Int32 → St → St → List Nat → (St → St → List Nat → Prop) → (St → St → List Nat → Prop) → Prop) (Kinner : Int32 → St → St → List Nat → (St → St → List Nat → Prop) → (St → St → List Nat → Prop) → Prop) (Kblock : Int32 → St → St → List Nat → (St → St → List Nat → Prop) → (St → St → List Nat → Prop) → Prop) (Kloop : Int32 → Int32 → Int32 → St → St → List Nat → (St → St → List Nat → Prop) → (St → St → List Nat → Prop) → Prop) (KdoStatement : Int32 → Int32 → St → St → List Nat → (St → St → List Nat → Prop) → (St → St → List Nat → Prop) → Prop) (KforStatement : Int32 → Int32 → St → St → List Nat → (St → St → List Nat → Prop) → (St → St → List Nat → Prop) → Prop) (a1 : Int32) (σ τ : St) (vs : List Nat) (Q : St → St → List Nat → Prop) (T : St → St → List Nat → Prop) : Prop :=
  wp_expect (22 : Int32) σ τ vs (fun s3 t3 z3 => ∃ L16 : Nat → St → St → List Nat → Prop, (∃ n, L16 n (upC s3 0 54 ((s3 0 54) + (1 : Int32))) t3 z3) ∧ ∀ (n16 : Nat) (s16 t16 : St) (z16 : List Nat), L16 n16 s16 t16 z16 → (wp_is (23 : Int32) s16 t16 z16 (fun v19 => (v19.toInt ≠ 0 → wp_close (upC s16 0 10 ((s16 0 10) + (1 : Int32))) t16 z16 (fun s46 t46 z46 => Q s46 t46 z46)) ∧ (v19.toInt = 0 → Kstatement (a1 + (1 : Int32)) s16 t16 z16 (fun s29 t29 z29 => ∃ m, m < n16 ∧ L16 m s29 t29 z29) T)))) T
set_option maxHeartbeats 4000000 in
set_option maxRecDepth 100000 in
theorem ct_block (a : Nat → Nat) (r : Nat → Nat) (dK : Nat) (hdK : 3 ≤ dK) (Kstatement : Int32 → St → St → List Nat → (St → St → List Nat → Prop) → (St → St → List Nat → Prop) → Prop) (Kinner : Int32 → St → St → List Nat → (St → St → List Nat → Prop) → (St → St → List Nat → Prop) → Prop) (Kblock : Int32 → St → St → List Nat → (St → St → List Nat → Prop) → (St → St → List Nat → Prop) → Prop) (Kloop : Int32 → Int32 → Int32 → St → St → List Nat → (St → St → List Nat → Prop) → (St → St → List Nat → Prop) → Prop) (KdoStatement : Int32 → Int32 → St → St → List Nat → (St → St → List Nat → Prop) → (St → St → List Nat → Prop) → Prop) (KforStatement : Int32 → Int32 → St → St → List Nat → (St → St → List Nat → Prop) → (St → St → List Nat → Prop) → Prop) (hKstatement : ∀ {a1 : Int32} {σ τ : St} {vs : List Nat} {Q : St → St → List Nat → Prop} {T : St → St → List Nat → Prop}, vs.length ≤ CAP → Kstatement a1 σ τ vs Q T → ∀ (l : Launch) (D : va_G) (cy : Nat → ClassId), Ct l D cy SM r (EM a) y_X14_statement (Cond.code y_X14_statement b_X14_statement 6 none) dK [.ref (r 0), .int a1] σ τ vs (QVs Q) T) {a1 : Int32} {σ τ : St} {vs : List Nat} {Q : St → St → List Nat → Prop} {T : St → St → List Nat → Prop} (hcap : vs.length ≤ CAP) (w : wp_block Kstatement Kinner Kblock Kloop KdoStatement KforStatement a1 σ τ vs Q T) (l : Launch) (D : va_G) (cy : Nat → ClassId) : Ct l D cy SM r (EM a) y_X14_block (Cond.code y_X14_block b_X14_block 2 none) (dK + 1) [.ref (r 0), .int a1] σ τ vs (QVs Q) T := by
  unfold wp_block at w
  refine Ct_of (EM_ok a) (by decide) (Nat.le_of_ble_eq_true rfl) hcap (fun X hnn hF => ?_)
  show G SM r X σ τ vs [(0, .ref (r 0)), (1, .int a1)] [] 0
  refine g_aload_n hF d_X14_block_0 rfl 0 rfl ?_
  refine g_bipush hF (v := 22) d_X14_block_1 (by decide) ?_
  refine g_callV (As := [.int 22]) (rest := []) hF (fun l D cy => (ct_expect a r hcap w) l D cy) (Nat.add_le_add_right (Nat.le_trans (Nat.le_of_ble_eq_true rfl) hdK) 1) mV_X14_expect m_2285 (recv_ob obM_0) rfl rfl (Nat.le_of_ble_eq_true rfl) d_X14_block_3 (kV (fun s3 t3 z3 w1 => ?_)) (fun σ9 τ9 vs9 h9 => g_out hF stopM rfl h9)
  refine g_aload_n hF d_X14_block_6 rfl 0 rfl ?_
  refine g_dup hF d_X14_block_7 rfl ?_
  refine g_get (v := .int (s3 0 54)) hF 54 obM_0 (by decide) m_1919 rfl d_X14_block_8 ?_
  refine g_iconst hF (v := 1) d_X14_block_11 (by decide) ?_
  refine g_iadd hF d_X14_block_12 ?_
  refine g_put (v := ((s3 0 54) + (1 : Int32))) hF 54 obM_0 (by decide) m_1919 rfl rfl rfl d_X14_block_13 ?_
  obtain ⟨L16, ⟨i16, u16⟩, h16⟩ := w1
  have b16 : ∀ (n16 : Nat) (s16 t16 : St) (z16 : List Nat), L16 n16 s16 t16 z16 → G SM r X s16 t16 z16 [(0, .ref (r 0)), (1, .int a1)] [] 16 := by
    intro n16
    induction n16 using Nat.strongRecOn with
    | _ n16 ih16 =>
      intro s16 t16 z16  w16_
      have w16_ := h16 n16 s16 t16 z16  w16_
      refine g_aload_n hF d_X14_block_16 rfl 0 rfl ?_
      refine g_bipush hF (v := 23) d_X14_block_17 (by decide) ?_
      refine g_cap (fun hc1 => ?_)
      refine g_callV (As := [.int 23]) (rest := []) hF (fun l D cy => (ct_is a r hc1 w16_) l D cy) (Nat.add_le_add_right (Nat.le_trans (Nat.le_of_ble_eq_true rfl) hdK) 1) mV_X14_is m_2289 (recv_ob obM_0) rfl rfl (Nat.le_of_ble_eq_true rfl) d_X14_block_19 (krZ (fun v19 hz19 w3 => ?_)) (fun _ _ _ h => h.elim)
      refine g_if_ne hF 35 d_X14_block_22 (by decide) rfl (fun c => ?_) (fun c => ?_)
      · have w4 := w3.1 c
        refine g_aload_n hF d_X14_block_35 rfl 0 rfl ?_
        refine g_dup hF d_X14_block_36 rfl ?_
        refine g_get (v := .int (s16 0 10)) hF 10 obM_0 (by decide) m_1875 rfl d_X14_block_37 ?_
        refine g_iconst hF (v := 1) d_X14_block_40 (by decide) ?_
        refine g_iadd hF d_X14_block_41 ?_
        refine g_put (v := ((s16 0 10) + (1 : Int32))) hF 10 obM_0 (by decide) m_1875 rfl rfl rfl d_X14_block_42 ?_
        refine g_aload_n hF d_X14_block_45 rfl 0 rfl ?_
        refine g_callV (As := []) (rest := []) hF (fun l D cy => (ct_close a r hc1 w4) l D cy) (Nat.add_le_add_right (Nat.le_trans (Nat.le_of_ble_eq_true rfl) hdK) 1) mV_X14_close m_2596 (recv_ob obM_0) rfl rfl (Nat.le_of_ble_eq_true rfl) d_X14_block_46 (kV (fun s46 t46 z46 w5 => ?_)) (fun _ _ _ h => h.elim)
        exact g_vret hF rfl d_X14_block_49 ⟨rfl, w5⟩
      · have w6 := w3.2 c
        refine g_aload_n hF d_X14_block_25 rfl 0 rfl ?_
        refine g_iload_n hF d_X14_block_26 rfl 1 rfl ?_
        refine g_iconst hF (v := 1) d_X14_block_27 (by decide) ?_
        refine g_iadd hF d_X14_block_28 ?_
        refine g_callV (As := [.int (a1 + (1 : Int32))]) (rest := []) hF (fun l D cy => (hKstatement hc1 w6) l D cy) (Nat.le_refl _) mV_X14_statement m_2345 (recv_ob obM_0) rfl rfl (Nat.le_of_ble_eq_true rfl) d_X14_block_29 (kV (fun s29 t29 z29 w7 => ?_)) (fun σ9 τ9 vs9 h9 => g_out hF stopM rfl h9)
        refine g_goto hF 16 d_X14_block_32 (by decide) ?_
        obtain ⟨m16, hm16, w9⟩ := w7
        exact ih16 m16 hm16 s29 t29 z29 w9
  exact b16 i16 (upC s3 0 54 ((s3 0 54) + (1 : Int32))) t3 z3 u16
def wp_count (a1 : Int32) (a2 : Int32) (σ τ : St) (vs : List Nat) (Q : Int32 → Prop) : Prop :=
  wp_isObject a1 σ τ vs (fun v2 => (v2.toInt ≠ 0 → (a2.toInt ≠ 0 → (a2.toInt ≠ 1 → Q ((-1) : Int32)) ∧ (a2.toInt = 1 → ((0 ≤ (a1 - (1 : Int32)).toInt ∧ (a1 - (1 : Int32)).toInt < 102) ∧ Q (σ 23 (a1 - (1 : Int32)).toNatClampNeg)))) ∧ (a2.toInt = 0 → wp_symbols a1 σ τ vs (fun v18 => Q v18))) ∧ (v2.toInt = 0 → Q ((-1) : Int32)))
set_option maxHeartbeats 4000000 in
set_option maxRecDepth 100000 in
theorem ct_count (a : Nat → Nat) (r : Nat → Nat) {a1 : Int32} {a2 : Int32} {σ τ : St} {vs : List Nat} {Q : Int32 → Prop} (hcap : vs.length ≤ CAP) (w : wp_count a1 a2 σ τ vs Q) (l : Launch) (D : va_G) (cy : Nat → ClassId) : Ct l D cy SM r (EM a) y_X14_count (Cond.code y_X14_count b_X14_count 3 (some .int)) 1 [.ref (r 0), .int a1, .int a2] σ τ vs (QIr σ τ vs Q) QT0 := by
  unfold wp_count at w
  refine Ct_of (EM_ok a) (by decide) (Nat.le_of_ble_eq_true rfl) hcap (fun X hnn hF => ?_)
  show G SM r X σ τ vs [(0, .ref (r 0)), (1, .int a1), (2, .int a2)] [] 0
  refine g_aload_n hF d_X14_count_0 rfl 0 rfl ?_
  refine g_iload_n hF d_X14_count_1 rfl 1 rfl ?_
  refine g_callV (As := [.int a1]) (rest := []) hF (fun l D cy => (ct_isObject a r hcap w) l D cy) (Nat.le_of_ble_eq_true rfl) mV_X14_isObject m_2648 (recv_ob obM_0) rfl rfl (Nat.le_of_ble_eq_true rfl) d_X14_count_2 (krZ (fun v2 hz2 w1 => ?_)) (fun _ _ _ h => h.elim)
  refine g_if_ne hF 12 d_X14_count_5 (by decide) rfl (fun c => ?_) (fun c => ?_)
  · have w2 := w1.1 c
    refine g_iload_n hF d_X14_count_12 rfl 2 rfl ?_
    refine g_if_ne hF 24 d_X14_count_13 (by decide) rfl (fun c => ?_) (fun c => ?_)
    · have w3 := w2.1 c
      refine g_iload_n hF d_X14_count_24 rfl 2 rfl ?_
      refine g_iconst hF (v := 1) d_X14_count_25 (by decide) ?_
      refine g_icmp_ne (yv := 1) hF 40 d_X14_count_26 (by decide) rfl (by decide) (fun c => ?_) (fun c => ?_)
      · have w4 := w3.1 c
        refine g_iconst hF (v := (-1)) d_X14_count_40 (by decide) ?_
        exact g_iret hF rfl d_X14_count_41 ⟨rfl, rfl, rfl, ((-1) : Int32), rfl, w4⟩
      · have w5 := w3.2 c
        refine g_aload_n hF d_X14_count_29 rfl 0 rfl ?_
        refine g_get (v := .ref (r 23)) hF 33 obM_0 (by decide) m_1898 rfl d_X14_count_30 ?_
        refine g_iload_n hF d_X14_count_33 rfl 1 rfl ?_
        refine g_iconst hF (v := 1) d_X14_count_34 (by decide) ?_
        refine g_isub hF d_X14_count_35 ?_
        have w6 := w5.2
        refine g_iald hF arM_23 (s_in (Nat.le_of_ble_eq_true rfl) w5.1.1 w5.1.2) d_X14_count_36 ?_
        refine g_top (v := (σ 23 (a1 - (1 : Int32)).toNatClampNeg)) rfl ?_
        refine g_goto hF 41 d_X14_count_37 (by decide) ?_
        exact g_iret hF rfl d_X14_count_41 ⟨rfl, rfl, rfl, (σ 23 (a1 - (1 : Int32)).toNatClampNeg), rfl, w6⟩
    · have w7 := w2.2 c
      refine g_aload_n hF d_X14_count_16 rfl 0 rfl ?_
      refine g_iload_n hF d_X14_count_17 rfl 1 rfl ?_
      refine g_callV (As := [.int a1]) (rest := []) hF (fun l D cy => (ct_symbols a r hcap w7) l D cy) (Nat.le_of_ble_eq_true rfl) mV_X14_symbols m_2652 (recv_ob obM_0) rfl rfl (Nat.le_of_ble_eq_true rfl) d_X14_count_18 (krI (fun v18 w8 => ?_)) (fun _ _ _ h => h.elim)
      refine g_goto hF 41 d_X14_count_21 (by decide) ?_
      exact g_iret hF rfl d_X14_count_41 ⟨rfl, rfl, rfl, v18, rfl, w8⟩
  · have w9 := w1.2 c
    refine g_iconst hF (v := (-1)) d_X14_count_8 (by decide) ?_
    refine g_goto hF 41 d_X14_count_9 (by decide) ?_
    exact g_iret hF rfl d_X14_count_41 ⟨rfl, rfl, rfl, ((-1) : Int32), rfl, w9⟩
def wp_name (a1 : Int32) (a2 : Int32) (a3 : Int32) (σ τ : St) (vs : List Nat) (Q : Int32 → Prop) : Prop :=
  wp_symbolAt a1 a2 σ τ vs (fun v3 => (v3.toInt < 0 → Q ((-1) : Int32)) ∧ (0 ≤ v3.toInt → (a3.toInt < 0 → Q ((-1) : Int32)) ∧ (0 ≤ a3.toInt → ((0 ≤ v3.toInt ∧ v3.toInt < 10000) ∧ ((σ 19 v3.toNatClampNeg).toInt ≤ a3.toInt → Q ((-1) : Int32)) ∧ (a3.toInt < (σ 19 v3.toNatClampNeg).toInt → ((0 ≤ v3.toInt ∧ v3.toInt < 10000) ∧ ((0 ≤ ((σ 18 v3.toNatClampNeg) + a3).toInt ∧ ((σ 18 v3.toNatClampNeg) + a3).toInt < 65536) ∧ Q (σ 20 ((σ 18 v3.toNatClampNeg) + a3).toNatClampNeg))))))))
set_option maxHeartbeats 4000000 in
set_option maxRecDepth 100000 in
theorem ct_name (a : Nat → Nat) (r : Nat → Nat) {a1 : Int32} {a2 : Int32} {a3 : Int32} {σ τ : St} {vs : List Nat} {Q : Int32 → Prop} (hcap : vs.length ≤ CAP) (w : wp_name a1 a2 a3 σ τ vs Q) (l : Launch) (D : va_G) (cy : Nat → ClassId) : Ct l D cy SM r (EM a) y_X14_name (Cond.code y_X14_name b_X14_name 5 (some .int)) 2 [.ref (r 0), .int a1, .int a2, .int a3] σ τ vs (QIr σ τ vs Q) QT0 := by
  unfold wp_name at w
  refine Ct_of (EM_ok a) (by decide) (Nat.le_of_ble_eq_true rfl) hcap (fun X hnn hF => ?_)
  show G SM r X σ τ vs [(0, .ref (r 0)), (1, .int a1), (2, .int a2), (3, .int a3)] [] 0
  refine g_aload_n hF d_X14_name_0 rfl 0 rfl ?_
  refine g_iload_n hF d_X14_name_1 rfl 1 rfl ?_
  refine g_iload_n hF d_X14_name_2 rfl 2 rfl ?_
  refine g_callV (As := [.int a1, .int a2]) (rest := []) hF (fun l D cy => (ct_symbolAt a r hcap w) l D cy) (Nat.le_of_ble_eq_true rfl) mV_X14_symbolAt m_2660 (recv_ob obM_0) rfl rfl (Nat.le_of_ble_eq_true rfl) d_X14_name_3 (krI (fun v3 w1 => ?_)) (fun _ _ _ h => h.elim)
  refine g_istore hF [(4, .int v3), (0, .ref (r 0)), (1, .int a1), (2, .int a2), (3, .int a3)] d_X14_name_6 hnn (by decide) rfl ?_
  refine g_iload hF d_X14_name_8 0 rfl ?_
  refine g_if_lt hF 45 d_X14_name_10 (by decide) rfl (fun c => ?_) (fun c => ?_)
  · have w2 := w1.1 c
    refine g_iconst hF (v := (-1)) d_X14_name_45 (by decide) ?_
    exact g_iret hF rfl d_X14_name_46 ⟨rfl, rfl, rfl, ((-1) : Int32), rfl, w2⟩
  · have w3 := w1.2 c
    refine g_iload_n hF d_X14_name_13 rfl 4 rfl ?_
    refine g_if_lt hF 45 d_X14_name_14 (by decide) rfl (fun c => ?_) (fun c => ?_)
    · have w4 := w3.1 c
      refine g_iconst hF (v := (-1)) d_X14_name_45 (by decide) ?_
      exact g_iret hF rfl d_X14_name_46 ⟨rfl, rfl, rfl, ((-1) : Int32), rfl, w4⟩
    · have w5 := w3.2 c
      refine g_iload_n hF d_X14_name_17 rfl 4 rfl ?_
      refine g_aload_n hF d_X14_name_18 rfl 1 rfl ?_
      refine g_get (v := .ref (r 19)) hF 28 obM_0 (by decide) m_1893 rfl d_X14_name_19 ?_
      refine g_iload hF d_X14_name_22 0 rfl ?_
      have w6 := w5.2
      refine g_iald hF arM_19 (s_in (Nat.le_of_ble_eq_true rfl) w5.1.1 w5.1.2) d_X14_name_24 ?_
      refine g_top (v := (σ 19 v3.toNatClampNeg)) rfl ?_
      refine g_icmp_ge hF 45 d_X14_name_25 (by decide) rfl rfl (fun c => ?_) (fun c => ?_)
      · have w7 := w6.1 c
        refine g_iconst hF (v := (-1)) d_X14_name_45 (by decide) ?_
        exact g_iret hF rfl d_X14_name_46 ⟨rfl, rfl, rfl, ((-1) : Int32), rfl, w7⟩
      · have w8 := w6.2 c
        refine g_aload_n hF d_X14_name_28 rfl 1 rfl ?_
        refine g_get (v := .ref (r 20)) hF 29 obM_0 (by decide) m_1894 rfl d_X14_name_29 ?_
        refine g_aload_n hF d_X14_name_32 rfl 1 rfl ?_
        refine g_get (v := .ref (r 18)) hF 27 obM_0 (by decide) m_1892 rfl d_X14_name_33 ?_
        refine g_iload hF d_X14_name_36 0 rfl ?_
        have w9 := w8.2
        refine g_iald hF arM_18 (s_in (Nat.le_of_ble_eq_true rfl) w8.1.1 w8.1.2) d_X14_name_38 ?_
        refine g_top (v := (σ 18 v3.toNatClampNeg)) rfl ?_
        refine g_iload_n hF d_X14_name_39 rfl 4 rfl ?_
        refine g_iadd hF d_X14_name_40 ?_
        have w10 := w9.2
        refine g_bald hF arM_20 (s_in (Nat.le_of_ble_eq_true rfl) w9.1.1 w9.1.2) d_X14_name_41 ?_
        refine g_top (v := (σ 20 ((σ 18 v3.toNatClampNeg) + a3).toNatClampNeg)) rfl ?_
        refine g_goto hF 46 d_X14_name_42 (by decide) ?_
        exact g_iret hF rfl d_X14_name_46 ⟨rfl, rfl, rfl, (σ 20 ((σ 18 v3.toNatClampNeg) + a3).toNatClampNeg), rfl, w10⟩
def wp_find (a1 : Int32) (a2 : Int32) (σ τ : St) (vs : List Nat) (Q : Int32 → St → St → List Nat → Prop) : Prop :=
  ∃ L2 : Nat → Int32 → Prop, (∃ n, L2 n (0 : Int32)) ∧ ∀ (n2 : Nat) (x3_2 : Int32), L2 n2 x3_2 → ((a2.toInt ≤ x3_2.toInt → Q (0 : Int32) σ τ vs) ∧ (x3_2.toInt < a2.toInt → ((0 ≤ x3_2.toInt ∧ x3_2.toInt < 100) ∧ ((0 ≤ ((σ 40 x3_2.toNatClampNeg) - (1 : Int32)).toInt ∧ ((σ 40 x3_2.toNatClampNeg) - (1 : Int32)).toInt < 102) ∧ ∃ L22 : Nat → Int32 → Prop, (∃ n, L22 n (σ 22 ((σ 40 x3_2.toNatClampNeg) - (1 : Int32)).toNatClampNeg)) ∧ ∀ (n22 : Nat) (x4_22 : Int32), L22 n22 x4_22 → (((0 ≤ x3_2.toInt ∧ x3_2.toInt < 100) ∧ ((0 ≤ (σ 40 x3_2.toNatClampNeg).toInt ∧ (σ 40 x3_2.toNatClampNeg).toInt < 102) ∧ ((σ 22 (σ 40 x3_2.toNatClampNeg).toNatClampNeg).toInt ≤ x4_22.toInt → ∃ m, m < n2 ∧ L2 m (x3_2 + 1)) ∧ (x4_22.toInt < (σ 22 (σ 40 x3_2.toNatClampNeg).toNatClampNeg).toInt → wp_isSymbol x4_22 (1 : Int32) σ τ vs (fun v42 => (∃ J74 : Prop, (J74  → (∃ m, m < n22 ∧ L22 m (x4_22 + 1))) ∧ (v42.toInt = 0 → J74) ∧ (v42.toInt ≠ 0 → wp_isAlike a1 x4_22 σ τ vs (fun v52 => (v52.toInt ≠ 0 → Q (1 : Int32) (upC (upC σ 0 73 x3_2) 0 74 x4_22) τ vs) ∧ (v52.toInt = 0 → J74)))))))))))))
set_option maxHeartbeats 4000000 in
set_option maxRecDepth 100000 in
theorem ct_find (a : Nat → Nat) (r : Nat → Nat) {a1 : Int32} {a2 : Int32} {σ τ : St} {vs : List Nat} {Q : Int32 → St → St → List Nat → Prop} (hcap : vs.length ≤ CAP) (w : wp_find a1 a2 σ τ vs Q) (l : Launch) (D : va_G) (cy : Nat → ClassId) : Ct l D cy SM r (EM a) y_X14_find (Cond.code y_X14_find b_X14_find 5 (some .boolean)) 1 [.ref (r 0), .int a1, .int a2] σ τ vs (QZs Q) QT0 := by
  unfold wp_find at w
  refine Ct_of (EM_ok a) (by decide) (Nat.le_of_ble_eq_true rfl) hcap (fun X hnn hF => ?_)
  show G SM r X σ τ vs [(0, .ref (r 0)), (1, .int a1), (2, .int a2)] [] 0
  refine g_iconst hF (v := 0) d_X14_find_0 (by decide) ?_
  refine g_istore_n hF [(3, .int 0), (0, .ref (r 0)), (1, .int a1), (2, .int a2)] d_X14_find_1 rfl hnn (by decide) rfl ?_
  obtain ⟨L2, ⟨i2, u2⟩, h2⟩ := w
  have b2 : ∀ (n2 : Nat) (x3_2 : Int32), L2 n2 x3_2 → G SM r X σ τ vs [(0, .ref (r 0)), (1, .int a1), (2, .int a2), (3, .int x3_2)] [] 2 := by
    intro n2
    induction n2 using Nat.strongRecOn with
    | _ n2 ih2 =>
      intro x3_2  w2_
      have w2_ := h2 n2 x3_2  w2_
      refine g_iload_n hF d_X14_find_2 rfl 3 rfl ?_
      refine g_iload_n hF d_X14_find_3 rfl 2 rfl ?_
      refine g_icmp_ge hF 86 d_X14_find_4 (by decide) rfl rfl (fun c => ?_) (fun c => ?_)
      · have w1 := w2_.1 c
        refine g_iconst hF (v := 0) d_X14_find_86 (by decide) ?_
        exact g_zret hF rfl (k_nz (Or.inl rfl)) d_X14_find_87 ⟨(0 : Int32), rfl, (Or.inl rfl), w1⟩
      · have w2 := w2_.2 c
        refine g_aload_n hF d_X14_find_7 rfl 0 rfl ?_
        refine g_get (v := .ref (r 22)) hF 32 obM_0 (by decide) m_1897 rfl d_X14_find_8 ?_
        refine g_aload_n hF d_X14_find_11 rfl 0 rfl ?_
        refine g_get (v := .ref (r 40)) hF 66 obM_0 (by decide) m_1931 rfl d_X14_find_12 ?_
        refine g_iload_n hF d_X14_find_15 rfl 3 rfl ?_
        have w3 := w2.2
        refine g_iald hF arM_40 (s_in (Nat.le_of_ble_eq_true rfl) w2.1.1 w2.1.2) d_X14_find_16 ?_
        refine g_top (v := (σ 40 x3_2.toNatClampNeg)) rfl ?_
        refine g_iconst hF (v := 1) d_X14_find_17 (by decide) ?_
        refine g_isub hF d_X14_find_18 ?_
        have w4 := w3.2
        refine g_iald hF arM_22 (s_in (Nat.le_of_ble_eq_true rfl) w3.1.1 w3.1.2) d_X14_find_19 ?_
        refine g_top (v := (σ 22 ((σ 40 x3_2.toNatClampNeg) - (1 : Int32)).toNatClampNeg)) rfl ?_
        refine g_istore hF [(4, .int (σ 22 ((σ 40 x3_2.toNatClampNeg) - (1 : Int32)).toNatClampNeg)), (0, .ref (r 0)), (1, .int a1), (2, .int a2), (3, .int x3_2)] d_X14_find_20 hnn (by decide) rfl ?_
        obtain ⟨L22, ⟨i22, u22⟩, h22⟩ := w4
        have b22 : ∀ (n22 : Nat) (x4_22 : Int32), L22 n22 x4_22 → G SM r X σ τ vs [(0, .ref (r 0)), (1, .int a1), (2, .int a2), (3, .int x3_2), (4, .int x4_22)] [] 22 := by
          intro n22
          induction n22 using Nat.strongRecOn with
          | _ n22 ih22 =>
            intro x4_22  w22_
            have w22_ := h22 n22 x4_22  w22_
            refine g_iload hF d_X14_find_22 4 rfl ?_
            refine g_aload_n hF d_X14_find_24 rfl 0 rfl ?_
            refine g_get (v := .ref (r 22)) hF 32 obM_0 (by decide) m_1897 rfl d_X14_find_25 ?_
            refine g_aload_n hF d_X14_find_28 rfl 0 rfl ?_
            refine g_get (v := .ref (r 40)) hF 66 obM_0 (by decide) m_1931 rfl d_X14_find_29 ?_
            refine g_iload_n hF d_X14_find_32 rfl 3 rfl ?_
            have w5 := w22_.2
            refine g_iald hF arM_40 (s_in (Nat.le_of_ble_eq_true rfl) w22_.1.1 w22_.1.2) d_X14_find_33 ?_
            refine g_top (v := (σ 40 x3_2.toNatClampNeg)) rfl ?_
            have w6 := w5.2
            refine g_iald hF arM_22 (s_in (Nat.le_of_ble_eq_true rfl) w5.1.1 w5.1.2) d_X14_find_34 ?_
            refine g_top (v := (σ 22 (σ 40 x3_2.toNatClampNeg).toNatClampNeg)) rfl ?_
            refine g_icmp_ge hF 80 d_X14_find_35 (by decide) rfl rfl (fun c => ?_) (fun c => ?_)
            · have w7 := w6.1 c
              refine g_iinc hF (x3_2 + 1) [(3, .int (x3_2 + 1)), (0, .ref (r 0)), (1, .int a1), (2, .int a2), (4, .int x4_22)] d_X14_find_80 3 rfl rfl hnn (by decide) rfl ?_
              refine g_goto hF 2 d_X14_find_83 (by decide) ?_
              obtain ⟨m2, hm2, w9⟩ := w7
              exact g_sub (L' := [(0, .ref (r 0)), (1, .int a1), (2, .int a2), (3, .int (x3_2 + 1))]) [1, 2, 3, 0] rfl (ih2 m2 hm2 (x3_2 + 1) w9)
            · have w8 := w6.2 c
              refine g_aload_n hF d_X14_find_38 rfl 0 rfl ?_
              refine g_iload hF d_X14_find_39 4 rfl ?_
              refine g_iconst hF (v := 1) d_X14_find_41 (by decide) ?_
              refine g_callV (As := [.int x4_22, .int 1]) (rest := []) hF (fun l D cy => (ct_isSymbol a r hcap w8) l D cy) (Nat.le_of_ble_eq_true rfl) mV_X14_isSymbol m_2689 (recv_ob obM_0) rfl rfl (Nat.le_of_ble_eq_true rfl) d_X14_find_42 (krZ (fun v42 hz42 w9 => ?_)) (fun _ _ _ h => h.elim)
              obtain ⟨J74, h74, w10⟩ := w9
              have b74 : J74  → G SM r X σ τ vs [(0, .ref (r 0)), (1, .int a1), (2, .int a2), (3, .int x3_2), (4, .int x4_22)] [] 74 := by
                intro   w74_
                have w74_ := h74   w74_
                refine g_iinc hF (x4_22 + 1) [(4, .int (x4_22 + 1)), (0, .ref (r 0)), (1, .int a1), (2, .int a2), (3, .int x3_2)] d_X14_find_74 4 rfl rfl hnn (by decide) rfl ?_
                refine g_goto hF 22 d_X14_find_77 (by decide) ?_
                obtain ⟨m22, hm22, w9⟩ := w74_
                exact g_sub (L' := [(0, .ref (r 0)), (1, .int a1), (2, .int a2), (3, .int x3_2), (4, .int (x4_22 + 1))]) [1, 2, 3, 4, 0] rfl (ih22 m22 hm22 (x4_22 + 1) w9)
              refine g_if_eq hF 74 d_X14_find_45 (by decide) rfl (fun c => ?_) (fun c => ?_)
              · have w11 := w10.1 c
                exact b74  w11
              · have w12 := w10.2 c
                refine g_aload_n hF d_X14_find_48 rfl 0 rfl ?_
                refine g_iload_n hF d_X14_find_49 rfl 1 rfl ?_
                refine g_iload hF d_X14_find_50 4 rfl ?_
                refine g_callV (As := [.int a1, .int x4_22]) (rest := []) hF (fun l D cy => (ct_isAlike a r hcap w12) l D cy) (Nat.le_of_ble_eq_true rfl) mV_X14_isAlike m_2697 (recv_ob obM_0) rfl rfl (Nat.le_of_ble_eq_true rfl) d_X14_find_52 (krZ (fun v52 hz52 w13 => ?_)) (fun _ _ _ h => h.elim)
                refine g_if_ne hF 61 d_X14_find_55 (by decide) rfl (fun c => ?_) (fun c => ?_)
                · have w14 := w13.1 c
                  refine g_aload_n hF d_X14_find_61 rfl 0 rfl ?_
                  refine g_iload_n hF d_X14_find_62 rfl 3 rfl ?_
                  refine g_put (v := x3_2) hF 73 obM_0 (by decide) m_1938 rfl rfl rfl d_X14_find_63 ?_
                  refine g_aload_n hF d_X14_find_66 rfl 0 rfl ?_
                  refine g_iload hF d_X14_find_67 4 rfl ?_
                  refine g_put (v := x4_22) hF 74 obM_0 (by decide) m_1939 rfl rfl rfl d_X14_find_69 ?_
                  refine g_iconst hF (v := 1) d_X14_find_72 (by decide) ?_
                  exact g_zret hF rfl (k_nz (Or.inr rfl)) d_X14_find_73 ⟨(1 : Int32), rfl, (Or.inr rfl), w14⟩
                · have w15 := w13.2 c
                  refine g_goto hF 74 d_X14_find_58 (by decide) ?_
                  exact b74  w15
        exact g_sub (L' := [(0, .ref (r 0)), (1, .int a1), (2, .int a2), (3, .int x3_2), (4, .int (σ 22 ((σ 40 x3_2.toNatClampNeg) - (1 : Int32)).toNatClampNeg))]) [1, 2, 3, 4, 0] rfl (b22 i22 (σ 22 ((σ 40 x3_2.toNatClampNeg) - (1 : Int32)).toNatClampNeg) u22)
  exact g_sub (L' := [(0, .ref (r 0)), (1, .int a1), (2, .int a2), (3, .int 0)]) [1, 2, 3, 0] rfl (b2 i2 (0 : Int32) u2)
