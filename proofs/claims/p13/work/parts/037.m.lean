def wp_step (a1 : Int32) (σ τ : St) (vs : List Nat) (Q : Int32 → St → St → List Nat → Prop) : Prop :=
  ((0 ≤ (a1 + (1 : Int32)).toInt ∧ (a1 + (1 : Int32)).toInt < 524288) ∧ ((0 ≤ a1.toInt ∧ a1.toInt < 524288) ∧ (∃ J442 : Prop, (J442  → (wp_stepMore a1 (σ 8 (a1 + (1 : Int32)).toNatClampNeg) σ τ vs (fun v445 s445 t445 z445 => Q v445 s445 t445 z445))) ∧ ((σ 8 a1.toNatClampNeg).toInt = 0 → wp_push (σ 8 (a1 + (1 : Int32)).toNatClampNeg) σ τ vs (fun s130 t130 z130 => Q (a1 + (2 : Int32)) s130 t130 z130)) ∧ (¬ (σ 8 a1.toNatClampNeg).toInt = 0 → ((σ 8 a1.toNatClampNeg).toInt = 1 → ((0 ≤ ((σ 0 86) - (1 : Int32)).toInt ∧ ((σ 0 86) - (1 : Int32)).toInt < 260) ∧ ((0 ≤ (σ 50 ((σ 0 86) - (1 : Int32)).toNatClampNeg).toInt ∧ (σ 50 ((σ 0 86) - (1 : Int32)).toNatClampNeg).toInt < 10000) ∧ ((0 ≤ (σ 27 (σ 50 ((σ 0 86) - (1 : Int32)).toNatClampNeg).toNatClampNeg).toInt ∧ (σ 27 (σ 50 ((σ 0 86) - (1 : Int32)).toNatClampNeg).toNatClampNeg).toInt < 102) ∧ ((0 ≤ ((σ 22 (σ 27 (σ 50 ((σ 0 86) - (1 : Int32)).toNatClampNeg).toNatClampNeg).toNatClampNeg) + (σ 8 (a1 + (1 : Int32)).toNatClampNeg)).toInt ∧ ((σ 22 (σ 27 (σ 50 ((σ 0 86) - (1 : Int32)).toNatClampNeg).toNatClampNeg).toNatClampNeg) + (σ 8 (a1 + (1 : Int32)).toNatClampNeg)).toInt < 10000) ∧ wp_push (σ 43 ((σ 22 (σ 27 (σ 50 ((σ 0 86) - (1 : Int32)).toNatClampNeg).toNatClampNeg).toNatClampNeg) + (σ 8 (a1 + (1 : Int32)).toNatClampNeg)).toNatClampNeg) σ τ vs (fun s166 t166 z166 => Q (a1 + (2 : Int32)) s166 t166 z166)))))) ∧ (¬ (σ 8 a1.toNatClampNeg).toInt = 1 → ((σ 8 a1.toNatClampNeg).toInt = 2 → ((0 ≤ ((σ 0 86) - (1 : Int32)).toInt ∧ ((σ 0 86) - (1 : Int32)).toInt < 260) ∧ ((0 ≤ (σ 50 ((σ 0 86) - (1 : Int32)).toNatClampNeg).toInt ∧ (σ 50 ((σ 0 86) - (1 : Int32)).toNatClampNeg).toInt < 10000) ∧ ((0 ≤ (σ 27 (σ 50 ((σ 0 86) - (1 : Int32)).toNatClampNeg).toNatClampNeg).toInt ∧ (σ 27 (σ 50 ((σ 0 86) - (1 : Int32)).toNatClampNeg).toNatClampNeg).toInt < 100) ∧ wp_push ((σ 44 (σ 27 (σ 50 ((σ 0 86) - (1 : Int32)).toNatClampNeg).toNatClampNeg).toNatClampNeg) + (σ 8 (a1 + (1 : Int32)).toNatClampNeg)) σ τ vs (fun s197 t197 z197 => Q (a1 + (2 : Int32)) s197 t197 z197))))) ∧ (¬ (σ 8 a1.toNatClampNeg).toInt = 2 → ((σ 8 a1.toNatClampNeg).toInt = 3 → wp_getLocal (σ 8 (a1 + (1 : Int32)).toNatClampNeg) σ τ vs (fun v207 => wp_push v207 σ τ vs (fun s210 t210 z210 => Q (a1 + (2 : Int32)) s210 t210 z210))) ∧ (¬ (σ 8 a1.toNatClampNeg).toInt = 3 → ((σ 8 a1.toNatClampNeg).toInt = 4 → ((0 ≤ ((σ 0 86) - (1 : Int32)).toInt ∧ ((σ 0 86) - (1 : Int32)).toInt < 260) ∧ wp_rowOf (σ 8 (a1 + (1 : Int32)).toNatClampNeg) σ τ vs (fun v235 => ((0 ≤ v235.toInt ∧ v235.toInt < 524288) ∧ wp_push ((σ 49 ((σ 0 86) - (1 : Int32)).toNatClampNeg) + (σ 8 v235.toNatClampNeg)) σ τ vs (fun s240 t240 z240 => Q (a1 + (2 : Int32)) s240 t240 z240))))) ∧ (¬ (σ 8 a1.toNatClampNeg).toInt = 4 → ((σ 8 a1.toNatClampNeg).toInt = 5 → J442) ∧ (¬ (σ 8 a1.toNatClampNeg).toInt = 5 → ((σ 8 a1.toNatClampNeg).toInt = 6 → J442) ∧ (¬ (σ 8 a1.toNatClampNeg).toInt = 6 → ((σ 8 a1.toNatClampNeg).toInt = 7 → ((0 ≤ ((σ 0 81) - (1 : Int32)).toInt ∧ ((σ 0 81) - (1 : Int32)).toInt < 140000) ∧ wp_setLocal (σ 8 (a1 + (1 : Int32)).toNatClampNeg) (σ 47 ((σ 0 81) - (1 : Int32)).toNatClampNeg) σ τ vs (fun s260 t260 z260 => Q (a1 + (2 : Int32)) s260 t260 z260))) ∧ (¬ (σ 8 a1.toNatClampNeg).toInt = 7 → ((σ 8 a1.toNatClampNeg).toInt = 8 → wp_clear (σ 8 (a1 + (1 : Int32)).toNatClampNeg) σ τ vs (fun s269 t269 z269 => Q (a1 + (2 : Int32)) s269 t269 z269)) ∧ (¬ (σ 8 a1.toNatClampNeg).toInt = 8 → ((σ 8 a1.toNatClampNeg).toInt = 9 → ((0 ≤ ((σ 0 81) - (1 : Int32)).toInt ∧ ((σ 0 81) - (1 : Int32)).toInt < 140000) ∧ wp_push (σ 47 ((σ 0 81) - (1 : Int32)).toNatClampNeg) σ τ vs (fun s288 t288 z288 => Q (a1 + (1 : Int32)) s288 t288 z288))) ∧ (¬ (σ 8 a1.toNatClampNeg).toInt = 9 → ((σ 8 a1.toNatClampNeg).toInt = 10 → Q (a1 + (1 : Int32)) (upC σ 0 81 ((σ 0 81) - (1 : Int32))) τ vs) ∧ (¬ (σ 8 a1.toNatClampNeg).toInt = 10 → ((σ 8 a1.toNatClampNeg).toInt = 11 → J442) ∧ (¬ (σ 8 a1.toNatClampNeg).toInt = 11 → ((σ 8 a1.toNatClampNeg).toInt = 12 → wp_pop σ τ vs (fun v311 s311 t311 z311 => wp_push (-v311) s311 t311 z311 (fun s315 t315 z315 => Q (a1 + (1 : Int32)) s315 t315 z315))) ∧ (¬ (σ 8 a1.toNatClampNeg).toInt = 12 → ((σ 8 a1.toNatClampNeg).toInt = 13 → wp_pop σ τ vs (fun v324 s324 t324 z324 => wp_push (v324 ^^^ ((-1) : Int32)) s324 t324 z324 (fun s329 t329 z329 => Q (a1 + (1 : Int32)) s329 t329 z329))) ∧ (¬ (σ 8 a1.toNatClampNeg).toInt = 13 → ((σ 8 a1.toNatClampNeg).toInt = 14 → wp_pop σ τ vs (fun v338 s338 t338 z338 => (∃ J349 : Int32 → Prop, (∀ (y1_349 : Int32), y1_349 = 0 ∨ y1_349 = 1 → J349 y1_349 → (wp_push y1_349 s338 t338 z338 (fun s349 t349 z349 => Q (a1 + (1 : Int32)) s349 t349 z349))) ∧ (v338.toInt ≠ 0 → J349 (0 : Int32)) ∧ (v338.toInt = 0 → J349 (1 : Int32))))) ∧ (¬ (σ 8 a1.toNatClampNeg).toInt = 14 → ((σ 8 a1.toNatClampNeg).toInt = 15 → Q (σ 8 (a1 + (1 : Int32)).toNatClampNeg) σ τ vs) ∧ (¬ (σ 8 a1.toNatClampNeg).toInt = 15 → ((σ 8 a1.toNatClampNeg).toInt = 16 → wp_pop σ τ vs (fun v379 s379 t379 z379 => (v379.toInt ≠ 0 → Q (a1 + (2 : Int32)) s379 t379 z379) ∧ (v379.toInt = 0 → Q (σ 8 (a1 + (1 : Int32)).toNatClampNeg) s379 t379 z379))) ∧ (¬ (σ 8 a1.toNatClampNeg).toInt = 16 → ((σ 8 a1.toNatClampNeg).toInt = 17 → wp_pop σ τ vs (fun v394 s394 t394 z394 => (v394.toInt = 0 → Q (a1 + (2 : Int32)) s394 t394 z394) ∧ (v394.toInt ≠ 0 → Q (σ 8 (a1 + (1 : Int32)).toNatClampNeg) s394 t394 z394))) ∧ (¬ (σ 8 a1.toNatClampNeg).toInt = 17 → ((σ 8 a1.toNatClampNeg).toInt = 18 → ((σ 0 92).toInt ≠ (σ 0 93).toInt → Q (a1 + (2 : Int32)) (upC σ 0 92 ((σ 0 92) + (1 : Int32))) τ vs) ∧ ((σ 0 92).toInt = (σ 0 93).toInt → wp_trapped (4 : Int32) (σ 8 (a1 + (1 : Int32)).toNatClampNeg) σ τ vs (fun s422 t422 z422 => Q (a1 + (2 : Int32)) s422 t422 z422))) ∧ (¬ (σ 8 a1.toNatClampNeg).toInt = 18 → ((σ 8 a1.toNatClampNeg).toInt = 19 → J442) ∧ (¬ (σ 8 a1.toNatClampNeg).toInt = 19 → ((σ 8 a1.toNatClampNeg).toInt = 20 → J442) ∧ (¬ (σ 8 a1.toNatClampNeg).toInt = 20 → ((σ 8 a1.toNatClampNeg).toInt = 21 → J442) ∧ (¬ (σ 8 a1.toNatClampNeg).toInt = 21 → ((σ 8 a1.toNatClampNeg).toInt = 22 → J442) ∧ (¬ (σ 8 a1.toNatClampNeg).toInt = 22 → ((σ 8 a1.toNatClampNeg).toInt = 23 → J442) ∧ (¬ (σ 8 a1.toNatClampNeg).toInt = 23 → ((σ 8 a1.toNatClampNeg).toInt = 24 → wp_pop σ τ vs (fun v358 s358 t358 z358 => (∃ J369 : Int32 → Prop, (∀ (y1_369 : Int32), y1_369 = 0 ∨ y1_369 = 1 → J369 y1_369 → (wp_push y1_369 s358 t358 z358 (fun s369 t369 z369 => Q (a1 + (1 : Int32)) s369 t369 z369))) ∧ (v358.toInt ≠ 0 → J369 (1 : Int32)) ∧ (v358.toInt = 0 → J369 (0 : Int32))))) ∧ (¬ (σ 8 a1.toNatClampNeg).toInt = 24 → J442))))))))))))))))))))))))))))
set_option maxHeartbeats 4000000 in
set_option maxRecDepth 100000 in
theorem ct_step (a : Nat → Nat) (r : Nat → Nat) {a1 : Int32} {σ τ : St} {vs : List Nat} {Q : Int32 → St → St → List Nat → Prop} (hcap : vs.length ≤ CAP) (w : wp_step a1 σ τ vs Q) (l : Launch) (D : va_G) (cy : Nat → ClassId) : Ct l D cy SM r (EM a) y_X14_step (Cond.code y_X14_step b_X14_step 3 (some .int)) 7 [.ref (r 0), .int a1] σ τ vs (QIs Q) QT0 := by
  unfold wp_step at w
  refine Ct_of (EM_ok a) (by decide) (Nat.le_of_ble_eq_true rfl) hcap (fun X hnn hF => ?_)
  show G SM r X σ τ vs [(0, .ref (r 0)), (1, .int a1)] [] 0
  refine g_aload_n hF d_X14_step_0 rfl 0 rfl ?_
  refine g_get (v := .ref (r 8)) hF 16 obM_0 (by decide) m_1881 rfl d_X14_step_1 ?_
  refine g_iload_n hF d_X14_step_4 rfl 1 rfl ?_
  refine g_iconst hF (v := 1) d_X14_step_5 (by decide) ?_
  refine g_iadd hF d_X14_step_6 ?_
  have w1 := w.2
  refine g_iald hF arM_8 (s_in (Nat.le_of_ble_eq_true rfl) w.1.1 w.1.2) d_X14_step_7 ?_
  refine g_top (v := (σ 8 (a1 + (1 : Int32)).toNatClampNeg)) rfl ?_
  refine g_istore_n hF [(2, .int (σ 8 (a1 + (1 : Int32)).toNatClampNeg)), (0, .ref (r 0)), (1, .int a1)] d_X14_step_8 rfl hnn (by decide) rfl ?_
  refine g_aload_n hF d_X14_step_9 rfl 1 rfl ?_
  refine g_get (v := .ref (r 8)) hF 16 obM_0 (by decide) m_1881 rfl d_X14_step_10 ?_
  refine g_iload_n hF d_X14_step_13 rfl 2 rfl ?_
  have w2 := w1.2
  refine g_iald hF arM_8 (s_in (Nat.le_of_ble_eq_true rfl) w1.1.1 w1.1.2) d_X14_step_14 ?_
  refine g_top (v := (σ 8 a1.toNatClampNeg)) rfl ?_
  obtain ⟨J442, h442, w3⟩ := w2
  have b442 : J442  → G SM r X σ τ vs [(0, .ref (r 0)), (1, .int a1), (2, .int (σ 8 (a1 + (1 : Int32)).toNatClampNeg))] [] 442 := by
    intro   w442_
    have w442_ := h442   w442_
    refine g_aload_n hF d_X14_step_442 rfl 0 rfl ?_
    refine g_iload_n hF d_X14_step_443 rfl 1 rfl ?_
    refine g_iload_n hF d_X14_step_444 rfl 2 rfl ?_
    refine g_callV (As := [.int a1, .int (σ 8 (a1 + (1 : Int32)).toNatClampNeg)]) (rest := []) hF (fun l D cy => (ct_stepMore a r hcap w442_) l D cy) (Nat.le_of_ble_eq_true rfl) mV_X14_stepMore m_2785 (recv_ob obM_0) rfl rfl (Nat.le_of_ble_eq_true rfl) d_X14_step_445 (kI (fun v445 s445 t445 z445 w4 => ?_)) (fun _ _ _ h => h.elim)
    exact g_iret hF rfl d_X14_step_448 ⟨v445, rfl, w4⟩
  refine (Decidable.em ((σ 8 a1.toNatClampNeg).toInt = 0)).elim (fun q15_0 => ?_) (fun q15_0 => ?_)
  · have w5 := w3.1 q15_0
    refine g_tableIn (off := 113) hF 128 d_X14_step_15 q15_0 (by decide) (by decide) (by decide +kernel) (by decide) ?_
    refine g_aload_n hF d_X14_step_128 rfl 1 rfl ?_
    refine g_iload_n hF d_X14_step_129 rfl 0 rfl ?_
    refine g_callV (As := [.int (σ 8 (a1 + (1 : Int32)).toNatClampNeg)]) (rest := []) hF (fun l D cy => (ct_push a r hcap w5) l D cy) (Nat.le_of_ble_eq_true rfl) mV_X14_push m_2765 (recv_ob obM_0) rfl rfl (Nat.le_of_ble_eq_true rfl) d_X14_step_130 (kV (fun s130 t130 z130 w6 => ?_)) (fun _ _ _ h => h.elim)
    refine g_iload_n hF d_X14_step_133 rfl 2 rfl ?_
    refine g_iconst hF (v := 2) d_X14_step_134 (by decide) ?_
    refine g_iadd hF d_X14_step_135 ?_
    exact g_iret hF rfl d_X14_step_136 ⟨(a1 + (2 : Int32)), rfl, w6⟩
  have w7 := w3.2 q15_0
  refine (Decidable.em ((σ 8 a1.toNatClampNeg).toInt = 1)).elim (fun q15_1 => ?_) (fun q15_1 => ?_)
  · have w8 := w7.1 q15_1
    refine g_tableIn (off := 122) hF 137 d_X14_step_15 q15_1 (by decide) (by decide) (by decide +kernel) (by decide) ?_
    refine g_aload_n hF d_X14_step_137 rfl 1 rfl ?_
    refine g_aload_n hF d_X14_step_138 rfl 1 rfl ?_
    refine g_get (v := .ref (r 43)) hF 75 obM_0 (by decide) m_1940 rfl d_X14_step_139 ?_
    refine g_aload_n hF d_X14_step_142 rfl 1 rfl ?_
    refine g_get (v := .ref (r 22)) hF 32 obM_0 (by decide) m_1897 rfl d_X14_step_143 ?_
    refine g_aload_n hF d_X14_step_146 rfl 1 rfl ?_
    refine g_get (v := .ref (r 27)) hF 41 obM_0 (by decide) m_1906 rfl d_X14_step_147 ?_
    refine g_aload_n hF d_X14_step_150 rfl 1 rfl ?_
    refine g_get (v := .ref (r 50)) hF 84 obM_0 (by decide) m_1949 rfl d_X14_step_151 ?_
    refine g_aload_n hF d_X14_step_154 rfl 1 rfl ?_
    refine g_get (v := .int (σ 0 86)) hF 86 obM_0 (by decide) m_1951 rfl d_X14_step_155 ?_
    refine g_iconst hF (v := 1) d_X14_step_158 (by decide) ?_
    refine g_isub hF d_X14_step_159 ?_
    have w9 := w8.2
    refine g_iald hF arM_50 (s_in (Nat.le_of_ble_eq_true rfl) w8.1.1 w8.1.2) d_X14_step_160 ?_
    refine g_top (v := (σ 50 ((σ 0 86) - (1 : Int32)).toNatClampNeg)) rfl ?_
    have w10 := w9.2
    refine g_iald hF arM_27 (s_in (Nat.le_of_ble_eq_true rfl) w9.1.1 w9.1.2) d_X14_step_161 ?_
    refine g_top (v := (σ 27 (σ 50 ((σ 0 86) - (1 : Int32)).toNatClampNeg).toNatClampNeg)) rfl ?_
    have w11 := w10.2
    refine g_iald hF arM_22 (s_in (Nat.le_of_ble_eq_true rfl) w10.1.1 w10.1.2) d_X14_step_162 ?_
    refine g_top (v := (σ 22 (σ 27 (σ 50 ((σ 0 86) - (1 : Int32)).toNatClampNeg).toNatClampNeg).toNatClampNeg)) rfl ?_
    refine g_iload_n hF d_X14_step_163 rfl 0 rfl ?_
    refine g_iadd hF d_X14_step_164 ?_
    have w12 := w11.2
    refine g_iald hF arM_43 (s_in (Nat.le_of_ble_eq_true rfl) w11.1.1 w11.1.2) d_X14_step_165 ?_
    refine g_top (v := (σ 43 ((σ 22 (σ 27 (σ 50 ((σ 0 86) - (1 : Int32)).toNatClampNeg).toNatClampNeg).toNatClampNeg) + (σ 8 (a1 + (1 : Int32)).toNatClampNeg)).toNatClampNeg)) rfl ?_
    refine g_callV (As := [.int (σ 43 ((σ 22 (σ 27 (σ 50 ((σ 0 86) - (1 : Int32)).toNatClampNeg).toNatClampNeg).toNatClampNeg) + (σ 8 (a1 + (1 : Int32)).toNatClampNeg)).toNatClampNeg)]) (rest := []) hF (fun l D cy => (ct_push a r hcap w12) l D cy) (Nat.le_of_ble_eq_true rfl) mV_X14_push m_2765 (recv_ob obM_0) rfl rfl (Nat.le_of_ble_eq_true rfl) d_X14_step_166 (kV (fun s166 t166 z166 w13 => ?_)) (fun _ _ _ h => h.elim)
    refine g_iload_n hF d_X14_step_169 rfl 2 rfl ?_
    refine g_iconst hF (v := 2) d_X14_step_170 (by decide) ?_
    refine g_iadd hF d_X14_step_171 ?_
    exact g_iret hF rfl d_X14_step_172 ⟨(a1 + (2 : Int32)), rfl, w13⟩
  have w14 := w7.2 q15_1
  refine (Decidable.em ((σ 8 a1.toNatClampNeg).toInt = 2)).elim (fun q15_2 => ?_) (fun q15_2 => ?_)
  · have w15 := w14.1 q15_2
    refine g_tableIn (off := 158) hF 173 d_X14_step_15 q15_2 (by decide) (by decide) (by decide +kernel) (by decide) ?_
    refine g_aload_n hF d_X14_step_173 rfl 1 rfl ?_
    refine g_aload_n hF d_X14_step_174 rfl 1 rfl ?_
    refine g_get (v := .ref (r 44)) hF 76 obM_0 (by decide) m_1941 rfl d_X14_step_175 ?_
    refine g_aload_n hF d_X14_step_178 rfl 1 rfl ?_
    refine g_get (v := .ref (r 27)) hF 41 obM_0 (by decide) m_1906 rfl d_X14_step_179 ?_
    refine g_aload_n hF d_X14_step_182 rfl 1 rfl ?_
    refine g_get (v := .ref (r 50)) hF 84 obM_0 (by decide) m_1949 rfl d_X14_step_183 ?_
    refine g_aload_n hF d_X14_step_186 rfl 1 rfl ?_
    refine g_get (v := .int (σ 0 86)) hF 86 obM_0 (by decide) m_1951 rfl d_X14_step_187 ?_
    refine g_iconst hF (v := 1) d_X14_step_190 (by decide) ?_
    refine g_isub hF d_X14_step_191 ?_
    have w16 := w15.2
    refine g_iald hF arM_50 (s_in (Nat.le_of_ble_eq_true rfl) w15.1.1 w15.1.2) d_X14_step_192 ?_
    refine g_top (v := (σ 50 ((σ 0 86) - (1 : Int32)).toNatClampNeg)) rfl ?_
    have w17 := w16.2
    refine g_iald hF arM_27 (s_in (Nat.le_of_ble_eq_true rfl) w16.1.1 w16.1.2) d_X14_step_193 ?_
    refine g_top (v := (σ 27 (σ 50 ((σ 0 86) - (1 : Int32)).toNatClampNeg).toNatClampNeg)) rfl ?_
    have w18 := w17.2
    refine g_iald hF arM_44 (s_in (Nat.le_of_ble_eq_true rfl) w17.1.1 w17.1.2) d_X14_step_194 ?_
    refine g_top (v := (σ 44 (σ 27 (σ 50 ((σ 0 86) - (1 : Int32)).toNatClampNeg).toNatClampNeg).toNatClampNeg)) rfl ?_
    refine g_iload_n hF d_X14_step_195 rfl 0 rfl ?_
    refine g_iadd hF d_X14_step_196 ?_
    refine g_callV (As := [.int ((σ 44 (σ 27 (σ 50 ((σ 0 86) - (1 : Int32)).toNatClampNeg).toNatClampNeg).toNatClampNeg) + (σ 8 (a1 + (1 : Int32)).toNatClampNeg))]) (rest := []) hF (fun l D cy => (ct_push a r hcap w18) l D cy) (Nat.le_of_ble_eq_true rfl) mV_X14_push m_2765 (recv_ob obM_0) rfl rfl (Nat.le_of_ble_eq_true rfl) d_X14_step_197 (kV (fun s197 t197 z197 w19 => ?_)) (fun _ _ _ h => h.elim)
    refine g_iload_n hF d_X14_step_200 rfl 2 rfl ?_
    refine g_iconst hF (v := 2) d_X14_step_201 (by decide) ?_
    refine g_iadd hF d_X14_step_202 ?_
    exact g_iret hF rfl d_X14_step_203 ⟨(a1 + (2 : Int32)), rfl, w19⟩
  have w20 := w14.2 q15_2
  refine (Decidable.em ((σ 8 a1.toNatClampNeg).toInt = 3)).elim (fun q15_3 => ?_) (fun q15_3 => ?_)
  · have w21 := w20.1 q15_3
    refine g_tableIn (off := 189) hF 204 d_X14_step_15 q15_3 (by decide) (by decide) (by decide +kernel) (by decide) ?_
    refine g_aload_n hF d_X14_step_204 rfl 1 rfl ?_
    refine g_aload_n hF d_X14_step_205 rfl 1 rfl ?_
    refine g_iload_n hF d_X14_step_206 rfl 0 rfl ?_
    refine g_callV (As := [.int (σ 8 (a1 + (1 : Int32)).toNatClampNeg)]) (rest := [.ref (r 0)]) hF (fun l D cy => (ct_getLocal a r hcap w21) l D cy) (Nat.le_of_ble_eq_true rfl) mV_X14_getLocal m_2769 (recv_ob obM_0) rfl rfl (Nat.le_of_ble_eq_true rfl) d_X14_step_207 (krI (fun v207 w22 => ?_)) (fun _ _ _ h => h.elim)
    refine g_callV (As := [.int v207]) (rest := []) hF (fun l D cy => (ct_push a r hcap w22) l D cy) (Nat.le_of_ble_eq_true rfl) mV_X14_push m_2765 (recv_ob obM_0) rfl rfl (Nat.le_of_ble_eq_true rfl) d_X14_step_210 (kV (fun s210 t210 z210 w23 => ?_)) (fun _ _ _ h => h.elim)
    refine g_iload_n hF d_X14_step_213 rfl 2 rfl ?_
    refine g_iconst hF (v := 2) d_X14_step_214 (by decide) ?_
    refine g_iadd hF d_X14_step_215 ?_
    exact g_iret hF rfl d_X14_step_216 ⟨(a1 + (2 : Int32)), rfl, w23⟩
  have w24 := w20.2 q15_3
  refine (Decidable.em ((σ 8 a1.toNatClampNeg).toInt = 4)).elim (fun q15_4 => ?_) (fun q15_4 => ?_)
  · have w25 := w24.1 q15_4
    refine g_tableIn (off := 202) hF 217 d_X14_step_15 q15_4 (by decide) (by decide) (by decide +kernel) (by decide) ?_
    refine g_aload_n hF d_X14_step_217 rfl 1 rfl ?_
    refine g_aload_n hF d_X14_step_218 rfl 1 rfl ?_
    refine g_get (v := .ref (r 49)) hF 83 obM_0 (by decide) m_1948 rfl d_X14_step_219 ?_
    refine g_aload_n hF d_X14_step_222 rfl 1 rfl ?_
    refine g_get (v := .int (σ 0 86)) hF 86 obM_0 (by decide) m_1951 rfl d_X14_step_223 ?_
    refine g_iconst hF (v := 1) d_X14_step_226 (by decide) ?_
    refine g_isub hF d_X14_step_227 ?_
    have w26 := w25.2
    refine g_iald hF arM_49 (s_in (Nat.le_of_ble_eq_true rfl) w25.1.1 w25.1.2) d_X14_step_228 ?_
    refine g_top (v := (σ 49 ((σ 0 86) - (1 : Int32)).toNatClampNeg)) rfl ?_
    refine g_aload_n hF d_X14_step_229 rfl 1 rfl ?_
    refine g_get (v := .ref (r 8)) hF 16 obM_0 (by decide) m_1881 rfl d_X14_step_230 ?_
    refine g_aload_n hF d_X14_step_233 rfl 1 rfl ?_
    refine g_iload_n hF d_X14_step_234 rfl 0 rfl ?_
    refine g_callV (As := [.int (σ 8 (a1 + (1 : Int32)).toNatClampNeg)]) (rest := [.ref (r 8), .int (σ 49 ((σ 0 86) - (1 : Int32)).toNatClampNeg), .ref (r 0)]) hF (fun l D cy => (ct_rowOf a r hcap w26) l D cy) (Nat.le_of_ble_eq_true rfl) mV_X14_rowOf m_2757 (recv_ob obM_0) rfl rfl (Nat.le_of_ble_eq_true rfl) d_X14_step_235 (krI (fun v235 w27 => ?_)) (fun _ _ _ h => h.elim)
    have w28 := w27.2
    refine g_iald hF arM_8 (s_in (Nat.le_of_ble_eq_true rfl) w27.1.1 w27.1.2) d_X14_step_238 ?_
    refine g_top (v := (σ 8 v235.toNatClampNeg)) rfl ?_
    refine g_iadd hF d_X14_step_239 ?_
    refine g_callV (As := [.int ((σ 49 ((σ 0 86) - (1 : Int32)).toNatClampNeg) + (σ 8 v235.toNatClampNeg))]) (rest := []) hF (fun l D cy => (ct_push a r hcap w28) l D cy) (Nat.le_of_ble_eq_true rfl) mV_X14_push m_2765 (recv_ob obM_0) rfl rfl (Nat.le_of_ble_eq_true rfl) d_X14_step_240 (kV (fun s240 t240 z240 w29 => ?_)) (fun _ _ _ h => h.elim)
    refine g_iload_n hF d_X14_step_243 rfl 2 rfl ?_
    refine g_iconst hF (v := 2) d_X14_step_244 (by decide) ?_
    refine g_iadd hF d_X14_step_245 ?_
    exact g_iret hF rfl d_X14_step_246 ⟨(a1 + (2 : Int32)), rfl, w29⟩
  have w30 := w24.2 q15_4
  refine (Decidable.em ((σ 8 a1.toNatClampNeg).toInt = 5)).elim (fun q15_5 => ?_) (fun q15_5 => ?_)
  · have w31 := w30.1 q15_5
    refine g_tableIn (off := 427) hF 442 d_X14_step_15 q15_5 (by decide) (by decide) (by decide +kernel) (by decide) ?_
    exact g_sub (L' := [(0, .ref (r 0)), (1, .int a1), (2, .int (σ 8 (a1 + (1 : Int32)).toNatClampNeg))]) [1, 2, 0] rfl (b442  w31)
  have w32 := w30.2 q15_5
  refine (Decidable.em ((σ 8 a1.toNatClampNeg).toInt = 6)).elim (fun q15_6 => ?_) (fun q15_6 => ?_)
  · have w33 := w32.1 q15_6
    refine g_tableIn (off := 427) hF 442 d_X14_step_15 q15_6 (by decide) (by decide) (by decide +kernel) (by decide) ?_
    exact g_sub (L' := [(0, .ref (r 0)), (1, .int a1), (2, .int (σ 8 (a1 + (1 : Int32)).toNatClampNeg))]) [1, 2, 0] rfl (b442  w33)
  have w34 := w32.2 q15_6
  refine (Decidable.em ((σ 8 a1.toNatClampNeg).toInt = 7)).elim (fun q15_7 => ?_) (fun q15_7 => ?_)
  · have w35 := w34.1 q15_7
    refine g_tableIn (off := 232) hF 247 d_X14_step_15 q15_7 (by decide) (by decide) (by decide +kernel) (by decide) ?_
    refine g_aload_n hF d_X14_step_247 rfl 1 rfl ?_
    refine g_iload_n hF d_X14_step_248 rfl 0 rfl ?_
    refine g_aload_n hF d_X14_step_249 rfl 1 rfl ?_
    refine g_get (v := .ref (r 47)) hF 80 obM_0 (by decide) m_1945 rfl d_X14_step_250 ?_
    refine g_aload_n hF d_X14_step_253 rfl 1 rfl ?_
    refine g_get (v := .int (σ 0 81)) hF 81 obM_0 (by decide) m_1946 rfl d_X14_step_254 ?_
    refine g_iconst hF (v := 1) d_X14_step_257 (by decide) ?_
    refine g_isub hF d_X14_step_258 ?_
    have w36 := w35.2
    refine g_iald hF arM_47 (s_in (Nat.le_of_ble_eq_true rfl) w35.1.1 w35.1.2) d_X14_step_259 ?_
    refine g_top (v := (σ 47 ((σ 0 81) - (1 : Int32)).toNatClampNeg)) rfl ?_
    refine g_callV (As := [.int (σ 8 (a1 + (1 : Int32)).toNatClampNeg), .int (σ 47 ((σ 0 81) - (1 : Int32)).toNatClampNeg)]) (rest := []) hF (fun l D cy => (ct_setLocal a r hcap w36) l D cy) (Nat.le_of_ble_eq_true rfl) mV_X14_setLocal m_2753 (recv_ob obM_0) rfl rfl (Nat.le_of_ble_eq_true rfl) d_X14_step_260 (kV (fun s260 t260 z260 w37 => ?_)) (fun _ _ _ h => h.elim)
    refine g_iload_n hF d_X14_step_263 rfl 2 rfl ?_
    refine g_iconst hF (v := 2) d_X14_step_264 (by decide) ?_
    refine g_iadd hF d_X14_step_265 ?_
    exact g_iret hF rfl d_X14_step_266 ⟨(a1 + (2 : Int32)), rfl, w37⟩
  have w38 := w34.2 q15_7
  refine (Decidable.em ((σ 8 a1.toNatClampNeg).toInt = 8)).elim (fun q15_8 => ?_) (fun q15_8 => ?_)
  · have w39 := w38.1 q15_8
    refine g_tableIn (off := 252) hF 267 d_X14_step_15 q15_8 (by decide) (by decide) (by decide +kernel) (by decide) ?_
    refine g_aload_n hF d_X14_step_267 rfl 1 rfl ?_
    refine g_iload_n hF d_X14_step_268 rfl 0 rfl ?_
    refine g_callV (As := [.int (σ 8 (a1 + (1 : Int32)).toNatClampNeg)]) (rest := []) hF (fun l D cy => (ct_clear a r hcap w39) l D cy) (Nat.le_of_ble_eq_true rfl) mV_X14_clear m_2773 (recv_ob obM_0) rfl rfl (Nat.le_of_ble_eq_true rfl) d_X14_step_269 (kV (fun s269 t269 z269 w40 => ?_)) (fun _ _ _ h => h.elim)
    refine g_iload_n hF d_X14_step_272 rfl 2 rfl ?_
    refine g_iconst hF (v := 2) d_X14_step_273 (by decide) ?_
    refine g_iadd hF d_X14_step_274 ?_
    exact g_iret hF rfl d_X14_step_275 ⟨(a1 + (2 : Int32)), rfl, w40⟩
  have w41 := w38.2 q15_8
  refine (Decidable.em ((σ 8 a1.toNatClampNeg).toInt = 9)).elim (fun q15_9 => ?_) (fun q15_9 => ?_)
  · have w42 := w41.1 q15_9
    refine g_tableIn (off := 261) hF 276 d_X14_step_15 q15_9 (by decide) (by decide) (by decide +kernel) (by decide) ?_
    refine g_aload_n hF d_X14_step_276 rfl 1 rfl ?_
    refine g_aload_n hF d_X14_step_277 rfl 1 rfl ?_
    refine g_get (v := .ref (r 47)) hF 80 obM_0 (by decide) m_1945 rfl d_X14_step_278 ?_
    refine g_aload_n hF d_X14_step_281 rfl 1 rfl ?_
    refine g_get (v := .int (σ 0 81)) hF 81 obM_0 (by decide) m_1946 rfl d_X14_step_282 ?_
    refine g_iconst hF (v := 1) d_X14_step_285 (by decide) ?_
    refine g_isub hF d_X14_step_286 ?_
    have w43 := w42.2
    refine g_iald hF arM_47 (s_in (Nat.le_of_ble_eq_true rfl) w42.1.1 w42.1.2) d_X14_step_287 ?_
    refine g_top (v := (σ 47 ((σ 0 81) - (1 : Int32)).toNatClampNeg)) rfl ?_
    refine g_callV (As := [.int (σ 47 ((σ 0 81) - (1 : Int32)).toNatClampNeg)]) (rest := []) hF (fun l D cy => (ct_push a r hcap w43) l D cy) (Nat.le_of_ble_eq_true rfl) mV_X14_push m_2765 (recv_ob obM_0) rfl rfl (Nat.le_of_ble_eq_true rfl) d_X14_step_288 (kV (fun s288 t288 z288 w44 => ?_)) (fun _ _ _ h => h.elim)
    refine g_iload_n hF d_X14_step_291 rfl 2 rfl ?_
    refine g_iconst hF (v := 1) d_X14_step_292 (by decide) ?_
    refine g_iadd hF d_X14_step_293 ?_
    exact g_iret hF rfl d_X14_step_294 ⟨(a1 + (1 : Int32)), rfl, w44⟩
  have w45 := w41.2 q15_9
  refine (Decidable.em ((σ 8 a1.toNatClampNeg).toInt = 10)).elim (fun q15_10 => ?_) (fun q15_10 => ?_)
  · have w46 := w45.1 q15_10
    refine g_tableIn (off := 280) hF 295 d_X14_step_15 q15_10 (by decide) (by decide) (by decide +kernel) (by decide) ?_
    refine g_aload_n hF d_X14_step_295 rfl 1 rfl ?_
    refine g_dup hF d_X14_step_296 rfl ?_
    refine g_get (v := .int (σ 0 81)) hF 81 obM_0 (by decide) m_1946 rfl d_X14_step_297 ?_
    refine g_iconst hF (v := 1) d_X14_step_300 (by decide) ?_
    refine g_isub hF d_X14_step_301 ?_
    refine g_put (v := ((σ 0 81) - (1 : Int32))) hF 81 obM_0 (by decide) m_1946 rfl rfl rfl d_X14_step_302 ?_
    refine g_iload_n hF d_X14_step_305 rfl 2 rfl ?_
    refine g_iconst hF (v := 1) d_X14_step_306 (by decide) ?_
    refine g_iadd hF d_X14_step_307 ?_
    exact g_iret hF rfl d_X14_step_308 ⟨(a1 + (1 : Int32)), rfl, w46⟩
  have w47 := w45.2 q15_10
  refine (Decidable.em ((σ 8 a1.toNatClampNeg).toInt = 11)).elim (fun q15_11 => ?_) (fun q15_11 => ?_)
  · have w48 := w47.1 q15_11
    refine g_tableIn (off := 427) hF 442 d_X14_step_15 q15_11 (by decide) (by decide) (by decide +kernel) (by decide) ?_
    exact g_sub (L' := [(0, .ref (r 0)), (1, .int a1), (2, .int (σ 8 (a1 + (1 : Int32)).toNatClampNeg))]) [1, 2, 0] rfl (b442  w48)
  have w49 := w47.2 q15_11
  refine (Decidable.em ((σ 8 a1.toNatClampNeg).toInt = 12)).elim (fun q15_12 => ?_) (fun q15_12 => ?_)
  · have w50 := w49.1 q15_12
    refine g_tableIn (off := 294) hF 309 d_X14_step_15 q15_12 (by decide) (by decide) (by decide +kernel) (by decide) ?_
    refine g_aload_n hF d_X14_step_309 rfl 1 rfl ?_
    refine g_aload_n hF d_X14_step_310 rfl 1 rfl ?_
    refine g_callV (As := []) (rest := [.ref (r 0)]) hF (fun l D cy => (ct_pop a r hcap w50) l D cy) (Nat.le_of_ble_eq_true rfl) mV_X14_pop m_2777 (recv_ob obM_0) rfl rfl (Nat.le_of_ble_eq_true rfl) d_X14_step_311 (kI (fun v311 s311 t311 z311 w51 => ?_)) (fun _ _ _ h => h.elim)
    refine g_ineg hF d_X14_step_314 ?_
    refine g_cap (fun hc51 => ?_)
    refine g_callV (As := [.int (-v311)]) (rest := []) hF (fun l D cy => (ct_push a r hc51 w51) l D cy) (Nat.le_of_ble_eq_true rfl) mV_X14_push m_2765 (recv_ob obM_0) rfl rfl (Nat.le_of_ble_eq_true rfl) d_X14_step_315 (kV (fun s315 t315 z315 w53 => ?_)) (fun _ _ _ h => h.elim)
    refine g_iload_n hF d_X14_step_318 rfl 2 rfl ?_
    refine g_iconst hF (v := 1) d_X14_step_319 (by decide) ?_
    refine g_iadd hF d_X14_step_320 ?_
    exact g_iret hF rfl d_X14_step_321 ⟨(a1 + (1 : Int32)), rfl, w53⟩
  have w54 := w49.2 q15_12
  refine (Decidable.em ((σ 8 a1.toNatClampNeg).toInt = 13)).elim (fun q15_13 => ?_) (fun q15_13 => ?_)
  · have w55 := w54.1 q15_13
    refine g_tableIn (off := 307) hF 322 d_X14_step_15 q15_13 (by decide) (by decide) (by decide +kernel) (by decide) ?_
    refine g_aload_n hF d_X14_step_322 rfl 1 rfl ?_
    refine g_aload_n hF d_X14_step_323 rfl 1 rfl ?_
    refine g_callV (As := []) (rest := [.ref (r 0)]) hF (fun l D cy => (ct_pop a r hcap w55) l D cy) (Nat.le_of_ble_eq_true rfl) mV_X14_pop m_2777 (recv_ob obM_0) rfl rfl (Nat.le_of_ble_eq_true rfl) d_X14_step_324 (kI (fun v324 s324 t324 z324 w56 => ?_)) (fun _ _ _ h => h.elim)
    refine g_iconst hF (v := (-1)) d_X14_step_327 (by decide) ?_
    refine g_ixor hF d_X14_step_328 ?_
    refine g_cap (fun hc56 => ?_)
    refine g_callV (As := [.int (v324 ^^^ ((-1) : Int32))]) (rest := []) hF (fun l D cy => (ct_push a r hc56 w56) l D cy) (Nat.le_of_ble_eq_true rfl) mV_X14_push m_2765 (recv_ob obM_0) rfl rfl (Nat.le_of_ble_eq_true rfl) d_X14_step_329 (kV (fun s329 t329 z329 w58 => ?_)) (fun _ _ _ h => h.elim)
    refine g_iload_n hF d_X14_step_332 rfl 2 rfl ?_
    refine g_iconst hF (v := 1) d_X14_step_333 (by decide) ?_
    refine g_iadd hF d_X14_step_334 ?_
    exact g_iret hF rfl d_X14_step_335 ⟨(a1 + (1 : Int32)), rfl, w58⟩
  have w59 := w54.2 q15_13
  refine (Decidable.em ((σ 8 a1.toNatClampNeg).toInt = 14)).elim (fun q15_14 => ?_) (fun q15_14 => ?_)
  · have w60 := w59.1 q15_14
    refine g_tableIn (off := 321) hF 336 d_X14_step_15 q15_14 (by decide) (by decide) (by decide +kernel) (by decide) ?_
    refine g_aload_n hF d_X14_step_336 rfl 1 rfl ?_
    refine g_aload_n hF d_X14_step_337 rfl 1 rfl ?_
    refine g_callV (As := []) (rest := [.ref (r 0)]) hF (fun l D cy => (ct_pop a r hcap w60) l D cy) (Nat.le_of_ble_eq_true rfl) mV_X14_pop m_2777 (recv_ob obM_0) rfl rfl (Nat.le_of_ble_eq_true rfl) d_X14_step_338 (kI (fun v338 s338 t338 z338 w61 => ?_)) (fun _ _ _ h => h.elim)
    obtain ⟨J349, h349, w62⟩ := w61
    have b349 : ∀ (y1_349 : Int32), y1_349 = 0 ∨ y1_349 = 1 → J349 y1_349 → G SM r X s338 t338 z338 [(1, .int a1)] [.int y1_349, .ref (r 0)] 349 := by
      intro y1_349 hy1_349 w349_
      have w349_ := h349 y1_349 hy1_349 w349_
      refine g_cap (fun hc62 => ?_)
      refine g_callV (As := [.int y1_349]) (rest := []) hF (fun l D cy => (ct_push a r hc62 w349_) l D cy) (Nat.le_of_ble_eq_true rfl) mV_X14_push m_2765 (recv_ob obM_0) rfl rfl (Nat.le_of_ble_eq_true rfl) d_X14_step_349 (kV (fun s349 t349 z349 w64 => ?_)) (fun _ _ _ h => h.elim)
      refine g_iload_n hF d_X14_step_352 rfl 0 rfl ?_
      refine g_iconst hF (v := 1) d_X14_step_353 (by decide) ?_
      refine g_iadd hF d_X14_step_354 ?_
      exact g_iret hF rfl d_X14_step_355 ⟨(a1 + (1 : Int32)), rfl, w64⟩
    refine g_if_ne hF 348 d_X14_step_341 (by decide) rfl (fun c => ?_) (fun c => ?_)
    · have w65 := w62.1 c
      refine g_iconst hF (v := 0) d_X14_step_348 (by decide) ?_
      exact g_sub (L' := [(1, .int a1)]) [2] rfl (b349 (0 : Int32) (Or.inl rfl) w65)
    · have w66 := w62.2 c
      refine g_iconst hF (v := 1) d_X14_step_344 (by decide) ?_
      refine g_goto hF 349 d_X14_step_345 (by decide) ?_
      exact g_sub (L' := [(1, .int a1)]) [2] rfl (b349 (1 : Int32) (Or.inr rfl) w66)
  have w67 := w59.2 q15_14
  refine (Decidable.em ((σ 8 a1.toNatClampNeg).toInt = 15)).elim (fun q15_15 => ?_) (fun q15_15 => ?_)
  · have w68 := w67.1 q15_15
    refine g_tableIn (off := 361) hF 376 d_X14_step_15 q15_15 (by decide) (by decide) (by decide +kernel) (by decide) ?_
    refine g_iload_n hF d_X14_step_376 rfl 0 rfl ?_
    exact g_iret hF rfl d_X14_step_377 ⟨(σ 8 (a1 + (1 : Int32)).toNatClampNeg), rfl, w68⟩
  have w69 := w67.2 q15_15
  refine (Decidable.em ((σ 8 a1.toNatClampNeg).toInt = 16)).elim (fun q15_16 => ?_) (fun q15_16 => ?_)
  · have w70 := w69.1 q15_16
    refine g_tableIn (off := 363) hF 378 d_X14_step_15 q15_16 (by decide) (by decide) (by decide +kernel) (by decide) ?_
    refine g_aload_n hF d_X14_step_378 rfl 1 rfl ?_
    refine g_callV (As := []) (rest := []) hF (fun l D cy => (ct_pop a r hcap w70) l D cy) (Nat.le_of_ble_eq_true rfl) mV_X14_pop m_2777 (recv_ob obM_0) rfl rfl (Nat.le_of_ble_eq_true rfl) d_X14_step_379 (kI (fun v379 s379 t379 z379 w71 => ?_)) (fun _ _ _ h => h.elim)
    refine g_if_ne hF 389 d_X14_step_382 (by decide) rfl (fun c => ?_) (fun c => ?_)
    · have w72 := w71.1 c
      refine g_iload_n hF d_X14_step_389 rfl 2 rfl ?_
      refine g_iconst hF (v := 2) d_X14_step_390 (by decide) ?_
      refine g_iadd hF d_X14_step_391 ?_
      exact g_iret hF rfl d_X14_step_392 ⟨(a1 + (2 : Int32)), rfl, w72⟩
    · have w73 := w71.2 c
      refine g_iload_n hF d_X14_step_385 rfl 0 rfl ?_
      refine g_goto hF 392 d_X14_step_386 (by decide) ?_
      exact g_iret hF rfl d_X14_step_392 ⟨(σ 8 (a1 + (1 : Int32)).toNatClampNeg), rfl, w73⟩
  have w74 := w69.2 q15_16
  refine (Decidable.em ((σ 8 a1.toNatClampNeg).toInt = 17)).elim (fun q15_17 => ?_) (fun q15_17 => ?_)
  · have w75 := w74.1 q15_17
    refine g_tableIn (off := 378) hF 393 d_X14_step_15 q15_17 (by decide) (by decide) (by decide +kernel) (by decide) ?_
    refine g_aload_n hF d_X14_step_393 rfl 1 rfl ?_
    refine g_callV (As := []) (rest := []) hF (fun l D cy => (ct_pop a r hcap w75) l D cy) (Nat.le_of_ble_eq_true rfl) mV_X14_pop m_2777 (recv_ob obM_0) rfl rfl (Nat.le_of_ble_eq_true rfl) d_X14_step_394 (kI (fun v394 s394 t394 z394 w76 => ?_)) (fun _ _ _ h => h.elim)
    refine g_if_eq hF 404 d_X14_step_397 (by decide) rfl (fun c => ?_) (fun c => ?_)
    · have w77 := w76.1 c
      refine g_iload_n hF d_X14_step_404 rfl 2 rfl ?_
      refine g_iconst hF (v := 2) d_X14_step_405 (by decide) ?_
      refine g_iadd hF d_X14_step_406 ?_
      exact g_iret hF rfl d_X14_step_407 ⟨(a1 + (2 : Int32)), rfl, w77⟩
    · have w78 := w76.2 c
      refine g_iload_n hF d_X14_step_400 rfl 0 rfl ?_
      refine g_goto hF 407 d_X14_step_401 (by decide) ?_
      exact g_iret hF rfl d_X14_step_407 ⟨(σ 8 (a1 + (1 : Int32)).toNatClampNeg), rfl, w78⟩
  have w79 := w74.2 q15_17
  refine (Decidable.em ((σ 8 a1.toNatClampNeg).toInt = 18)).elim (fun q15_18 => ?_) (fun q15_18 => ?_)
  · have w80 := w79.1 q15_18
    refine g_tableIn (off := 393) hF 408 d_X14_step_15 q15_18 (by decide) (by decide) (by decide +kernel) (by decide) ?_
    refine g_aload_n hF d_X14_step_408 rfl 1 rfl ?_
    refine g_get (v := .int (σ 0 92)) hF 92 obM_0 (by decide) m_1957 rfl d_X14_step_409 ?_
    refine g_aload_n hF d_X14_step_412 rfl 1 rfl ?_
    refine g_get (v := .int (σ 0 93)) hF 93 obM_0 (by decide) m_1958 rfl d_X14_step_413 ?_
    refine g_icmp_ne hF 428 d_X14_step_416 (by decide) rfl rfl (fun c => ?_) (fun c => ?_)
    · have w81 := w80.1 c
      refine g_aload_n hF d_X14_step_428 rfl 1 rfl ?_
      refine g_dup hF d_X14_step_429 rfl ?_
      refine g_get (v := .int (σ 0 92)) hF 92 obM_0 (by decide) m_1957 rfl d_X14_step_430 ?_
      refine g_iconst hF (v := 1) d_X14_step_433 (by decide) ?_
      refine g_iadd hF d_X14_step_434 ?_
      refine g_put (v := ((σ 0 92) + (1 : Int32))) hF 92 obM_0 (by decide) m_1957 rfl rfl rfl d_X14_step_435 ?_
      refine g_iload_n hF d_X14_step_438 rfl 2 rfl ?_
      refine g_iconst hF (v := 2) d_X14_step_439 (by decide) ?_
      refine g_iadd hF d_X14_step_440 ?_
      exact g_iret hF rfl d_X14_step_441 ⟨(a1 + (2 : Int32)), rfl, w81⟩
    · have w82 := w80.2 c
      refine g_aload_n hF d_X14_step_419 rfl 1 rfl ?_
      refine g_iconst hF (v := 4) d_X14_step_420 (by decide) ?_
      refine g_iload_n hF d_X14_step_421 rfl 0 rfl ?_
      refine g_callV (As := [.int 4, .int (σ 8 (a1 + (1 : Int32)).toNatClampNeg)]) (rest := []) hF (fun l D cy => (ct_trapped a r hcap w82) l D cy) (Nat.le_of_ble_eq_true rfl) mV_X14_trapped m_2781 (recv_ob obM_0) rfl rfl (Nat.le_of_ble_eq_true rfl) d_X14_step_422 (kV (fun s422 t422 z422 w83 => ?_)) (fun _ _ _ h => h.elim)
      refine g_goto hF 438 d_X14_step_425 (by decide) ?_
      refine g_iload_n hF d_X14_step_438 rfl 2 rfl ?_
      refine g_iconst hF (v := 2) d_X14_step_439 (by decide) ?_
      refine g_iadd hF d_X14_step_440 ?_
      exact g_iret hF rfl d_X14_step_441 ⟨(a1 + (2 : Int32)), rfl, w83⟩
  have w84 := w79.2 q15_18
  refine (Decidable.em ((σ 8 a1.toNatClampNeg).toInt = 19)).elim (fun q15_19 => ?_) (fun q15_19 => ?_)
  · have w85 := w84.1 q15_19
    refine g_tableIn (off := 427) hF 442 d_X14_step_15 q15_19 (by decide) (by decide) (by decide +kernel) (by decide) ?_
    exact g_sub (L' := [(0, .ref (r 0)), (1, .int a1), (2, .int (σ 8 (a1 + (1 : Int32)).toNatClampNeg))]) [1, 2, 0] rfl (b442  w85)
  have w86 := w84.2 q15_19
  refine (Decidable.em ((σ 8 a1.toNatClampNeg).toInt = 20)).elim (fun q15_20 => ?_) (fun q15_20 => ?_)
  · have w87 := w86.1 q15_20
    refine g_tableIn (off := 427) hF 442 d_X14_step_15 q15_20 (by decide) (by decide) (by decide +kernel) (by decide) ?_
    exact g_sub (L' := [(0, .ref (r 0)), (1, .int a1), (2, .int (σ 8 (a1 + (1 : Int32)).toNatClampNeg))]) [1, 2, 0] rfl (b442  w87)
  have w88 := w86.2 q15_20
  refine (Decidable.em ((σ 8 a1.toNatClampNeg).toInt = 21)).elim (fun q15_21 => ?_) (fun q15_21 => ?_)
  · have w89 := w88.1 q15_21
    refine g_tableIn (off := 427) hF 442 d_X14_step_15 q15_21 (by decide) (by decide) (by decide +kernel) (by decide) ?_
    exact g_sub (L' := [(0, .ref (r 0)), (1, .int a1), (2, .int (σ 8 (a1 + (1 : Int32)).toNatClampNeg))]) [1, 2, 0] rfl (b442  w89)
  have w90 := w88.2 q15_21
  refine (Decidable.em ((σ 8 a1.toNatClampNeg).toInt = 22)).elim (fun q15_22 => ?_) (fun q15_22 => ?_)
  · have w91 := w90.1 q15_22
    refine g_tableIn (off := 427) hF 442 d_X14_step_15 q15_22 (by decide) (by decide) (by decide +kernel) (by decide) ?_
    exact g_sub (L' := [(0, .ref (r 0)), (1, .int a1), (2, .int (σ 8 (a1 + (1 : Int32)).toNatClampNeg))]) [1, 2, 0] rfl (b442  w91)
  have w92 := w90.2 q15_22
  refine (Decidable.em ((σ 8 a1.toNatClampNeg).toInt = 23)).elim (fun q15_23 => ?_) (fun q15_23 => ?_)
  · have w93 := w92.1 q15_23
    refine g_tableIn (off := 427) hF 442 d_X14_step_15 q15_23 (by decide) (by decide) (by decide +kernel) (by decide) ?_
    exact g_sub (L' := [(0, .ref (r 0)), (1, .int a1), (2, .int (σ 8 (a1 + (1 : Int32)).toNatClampNeg))]) [1, 2, 0] rfl (b442  w93)
  have w94 := w92.2 q15_23
  refine (Decidable.em ((σ 8 a1.toNatClampNeg).toInt = 24)).elim (fun q15_24 => ?_) (fun q15_24 => ?_)
  · have w95 := w94.1 q15_24
    refine g_tableIn (off := 341) hF 356 d_X14_step_15 q15_24 (by decide) (by decide) (by decide +kernel) (by decide) ?_
    refine g_aload_n hF d_X14_step_356 rfl 1 rfl ?_
    refine g_aload_n hF d_X14_step_357 rfl 1 rfl ?_
    refine g_callV (As := []) (rest := [.ref (r 0)]) hF (fun l D cy => (ct_pop a r hcap w95) l D cy) (Nat.le_of_ble_eq_true rfl) mV_X14_pop m_2777 (recv_ob obM_0) rfl rfl (Nat.le_of_ble_eq_true rfl) d_X14_step_358 (kI (fun v358 s358 t358 z358 w96 => ?_)) (fun _ _ _ h => h.elim)
    obtain ⟨J369, h369, w97⟩ := w96
    have b369 : ∀ (y1_369 : Int32), y1_369 = 0 ∨ y1_369 = 1 → J369 y1_369 → G SM r X s358 t358 z358 [(1, .int a1)] [.int y1_369, .ref (r 0)] 369 := by
      intro y1_369 hy1_369 w369_
      have w369_ := h369 y1_369 hy1_369 w369_
      refine g_cap (fun hc97 => ?_)
      refine g_callV (As := [.int y1_369]) (rest := []) hF (fun l D cy => (ct_push a r hc97 w369_) l D cy) (Nat.le_of_ble_eq_true rfl) mV_X14_push m_2765 (recv_ob obM_0) rfl rfl (Nat.le_of_ble_eq_true rfl) d_X14_step_369 (kV (fun s369 t369 z369 w99 => ?_)) (fun _ _ _ h => h.elim)
      refine g_iload_n hF d_X14_step_372 rfl 0 rfl ?_
      refine g_iconst hF (v := 1) d_X14_step_373 (by decide) ?_
      refine g_iadd hF d_X14_step_374 ?_
      exact g_iret hF rfl d_X14_step_375 ⟨(a1 + (1 : Int32)), rfl, w99⟩
    refine g_if_ne hF 368 d_X14_step_361 (by decide) rfl (fun c => ?_) (fun c => ?_)
    · have w100 := w97.1 c
      refine g_iconst hF (v := 1) d_X14_step_368 (by decide) ?_
      exact g_sub (L' := [(1, .int a1)]) [2] rfl (b369 (1 : Int32) (Or.inr rfl) w100)
    · have w101 := w97.2 c
      refine g_iconst hF (v := 0) d_X14_step_364 (by decide) ?_
      refine g_goto hF 369 d_X14_step_365 (by decide) ?_
      exact g_sub (L' := [(1, .int a1)]) [2] rfl (b369 (0 : Int32) (Or.inl rfl) w101)
  have w102 := w94.2 q15_24
  refine g_tableOut hF 442 d_X14_step_15 rfl (tbo_0_24 q15_0 q15_1 q15_2 q15_3 q15_4 q15_5 q15_6 q15_7 q15_8 q15_9 q15_10 q15_11 q15_12 q15_13 q15_14 q15_15 q15_16 q15_17 q15_18 q15_19 q15_20 q15_21 q15_22 q15_23 q15_24) (by decide) ?_
  exact g_sub (L' := [(0, .ref (r 0)), (1, .int a1), (2, .int (σ 8 (a1 + (1 : Int32)).toNatClampNeg))]) [1, 2, 0] rfl (b442  w102)
def wp_braces (a1 : Int32) (a2 : Int32) (a3 : Int32) (a4 : Int32) (a5 : Int32) (σ τ : St) (vs : List Nat) (Q : Int32 → St → St → List Nat → Prop) (T : St → St → List Nat → Prop) : Prop :=
  wp_expect (22 : Int32) σ τ vs (fun s3 t3 z3 => ∃ L12 : Nat → Int32 → Int32 → St → St → List Nat → Prop, (∃ n, L12 n (1 : Int32) a3 s3 t3 z3) ∧ ∀ (n12 : Nat) (x6_12 : Int32) (x7_12 : Int32) (s12 t12 : St) (z12 : List Nat), x6_12 = 0 ∨ x6_12 = 1 → L12 n12 x6_12 x7_12 s12 t12 z12 → ((∃ J139 : Int32 → St → St → List Nat → Prop, (∀ (x6_139 : Int32) (s139 t139 : St) (z139 : List Nat), x6_139 = 0 ∨ x6_139 = 1 → J139 x6_139 s139 t139 z139 → (wp_accept (26 : Int32) s139 t139 z139 (fun v145 s145 t145 z145 => (v145.toInt ≠ 0 → ∃ m, m < n12 ∧ L12 m x6_139 (x7_12 + 1) s145 t145 z145) ∧ (v145.toInt = 0 → wp_expect (23 : Int32) s145 t145 z145 (fun s154 t154 z154 => (x6_139.toInt = 0 → Q (0 : Int32) s154 t154 z154) ∧ (x6_139.toInt ≠ 0 → (a1.toInt < (x7_12 + 1).toInt → Q (0 : Int32) s154 t154 z154) ∧ ((x7_12 + 1).toInt ≤ a1.toInt → Q (1 : Int32) s154 t154 z154))) T)))) ∧ (a5.toInt = 0 → (∃ J114 : Int32 → Prop, (∀ (y2_114 : Int32), J114 y2_114 → (wp_one_1 a2 y2_114 a4 (0 : Int32) s12 t12 z12 (fun v117 s117 t117 z117 => (∃ J137 : Int32 → Prop, (∀ (y0_137 : Int32), y0_137 = 0 ∨ y0_137 = 1 → J137 y0_137 → (J139 y0_137 s117 t117 z117)) ∧ (∃ J136 : Prop, (J136  → (J137 (0 : Int32))) ∧ (x6_12.toInt = 0 → J136) ∧ (x6_12.toInt ≠ 0 → (v117.toInt = 0 → J136) ∧ (v117.toInt ≠ 0 → J137 (1 : Int32)))))) T)) ∧ (0 ≤ a4.toInt → ((0 ≤ a4.toInt ∧ a4.toInt < 10000) ∧ J114 ((s12 17 a4.toNatClampNeg) + x7_12))) ∧ (a4.toInt < 0 → J114 (0 : Int32)))) ∧ (a5.toInt ≠ 0 → (∃ J45 : St → St → List Nat → Prop, (∀ (s45 t45 : St) (z45 : List Nat), J45 s45 t45 z45 → (wp_one_1 a2 ((-1) : Int32) ((-1) : Int32) (1 : Int32) s45 t45 z45 (fun v50 s50 t50 z50 => (∃ J70 : Int32 → Prop, (∀ (y0_70 : Int32), y0_70 = 0 ∨ y0_70 = 1 → J70 y0_70 → ((∃ J90 : St → St → List Nat → Prop, (∀ (s90 t90 : St) (z90 : List Nat), J90 s90 t90 z90 → (J139 y0_70 s90 t90 z90)) ∧ (a4.toInt < 0 → J90 s50 t50 z50) ∧ (0 ≤ a4.toInt → wp_put_1 (6 : Int32) (0 : Int32) s50 t50 z50 (fun s81 t81 z81 => wp_put_0 (10 : Int32) s81 t81 z81 (fun s87 t87 z87 => J90 s87 t87 z87)))))) ∧ (∃ J69 : Prop, (J69  → (J70 (0 : Int32))) ∧ (x6_12.toInt = 0 → J69) ∧ (x6_12.toInt ≠ 0 → (v50.toInt = 0 → J69) ∧ (v50.toInt ≠ 0 → J70 (1 : Int32)))))) T)) ∧ (a4.toInt < 0 → J45 s12 t12 z12) ∧ (0 ≤ a4.toInt → wp_put_1 (4 : Int32) a4 s12 t12 z12 (fun s26 t26 z26 => wp_put_1 (0 : Int32) x7_12 s26 t26 z26 (fun s33 t33 z33 => wp_put_2 (11 : Int32) (36 : Int32) (0 : Int32) s33 t33 z33 (fun s42 t42 z42 => J45 s42 t42 z42))))))))) T
set_option maxHeartbeats 4000000 in
set_option maxRecDepth 100000 in
theorem ct_braces (a : Nat → Nat) (r : Nat → Nat) {a1 : Int32} {a2 : Int32} {a3 : Int32} {a4 : Int32} {a5 : Int32} {σ τ : St} {vs : List Nat} {Q : Int32 → St → St → List Nat → Prop} {T : St → St → List Nat → Prop} (hcap : vs.length ≤ CAP) (w : wp_braces a1 a2 a3 a4 a5 σ τ vs Q T) (l : Launch) (D : va_G) (cy : Nat → ClassId) : Ct l D cy SM r (EM a) y_X14_braces (Cond.code y_X14_braces b_X14_braces 9 (some .boolean)) 1106 [.ref (r 0), .int a1, .int a2, .int a3, .int a4, .int a5] σ τ vs (QZs Q) T := by
  unfold wp_braces at w
  refine Ct_of (EM_ok a) (by decide) (Nat.le_of_ble_eq_true rfl) hcap (fun X hnn hF => ?_)
  show G SM r X σ τ vs [(0, .ref (r 0)), (1, .int a1), (2, .int a2), (3, .int a3), (4, .int a4), (5, .int a5)] [] 0
  refine g_aload_n hF d_X14_braces_0 rfl 0 rfl ?_
  refine g_bipush hF (v := 22) d_X14_braces_1 (by decide) ?_
  refine g_callV (As := [.int 22]) (rest := []) hF (fun l D cy => (ct_expect a r hcap w) l D cy) (Nat.le_of_ble_eq_true rfl) mV_X14_expect m_2285 (recv_ob obM_0) rfl rfl (Nat.le_of_ble_eq_true rfl) d_X14_braces_3 (kV (fun s3 t3 z3 w1 => ?_)) (fun σ9 τ9 vs9 h9 => g_out hF stopM rfl h9)
  refine g_iconst hF (v := 1) d_X14_braces_6 (by decide) ?_
  refine g_istore hF [(6, .int 1), (0, .ref (r 0)), (1, .int a1), (2, .int a2), (3, .int a3), (4, .int a4), (5, .int a5)] d_X14_braces_7 hnn (by decide) rfl ?_
  refine g_iload_n hF d_X14_braces_9 rfl 4 rfl ?_
  refine g_istore hF [(7, .int a3), (6, .int 1), (0, .ref (r 0)), (1, .int a1), (2, .int a2), (3, .int a3), (4, .int a4), (5, .int a5)] d_X14_braces_10 hnn (by decide) rfl ?_
  obtain ⟨L12, ⟨i12, u12⟩, h12⟩ := w1
  have b12 : ∀ (n12 : Nat) (x6_12 : Int32) (x7_12 : Int32) (s12 t12 : St) (z12 : List Nat), x6_12 = 0 ∨ x6_12 = 1 → L12 n12 x6_12 x7_12 s12 t12 z12 → G SM r X s12 t12 z12 [(0, .ref (r 0)), (1, .int a1), (2, .int a2), (4, .int a4), (5, .int a5), (6, .int x6_12), (7, .int x7_12)] [] 12 := by
    intro n12
    induction n12 using Nat.strongRecOn with
    | _ n12 ih12 =>
      intro x6_12 x7_12 s12 t12 z12 hx6_12 w12_
      have w12_ := h12 n12 x6_12 x7_12 s12 t12 z12 hx6_12 w12_
      refine g_iload hF d_X14_braces_12 4 rfl ?_
      obtain ⟨J139, h139, w2⟩ := w12_
      have b139 : ∀ (x6_139 : Int32) (s139 t139 : St) (z139 : List Nat), x6_139 = 0 ∨ x6_139 = 1 → J139 x6_139 s139 t139 z139 → G SM r X s139 t139 z139 [(0, .ref (r 0)), (1, .int a1), (2, .int a2), (4, .int a4), (5, .int a5), (6, .int x6_139), (7, .int x7_12)] [] 139 := by
        intro x6_139 s139 t139 z139 hx6_139 w139_
        have w139_ := h139 x6_139 s139 t139 z139 hx6_139 w139_
        refine g_iinc hF (x7_12 + 1) [(7, .int (x7_12 + 1)), (0, .ref (r 0)), (1, .int a1), (2, .int a2), (4, .int a4), (5, .int a5), (6, .int x6_139)] d_X14_braces_139 6 rfl rfl hnn (by decide) rfl ?_
        refine g_aload_n hF d_X14_braces_142 rfl 1 rfl ?_
        refine g_bipush hF (v := 26) d_X14_braces_143 (by decide) ?_
        refine g_cap (fun hc2 => ?_)
        refine g_callV (As := [.int 26]) (rest := []) hF (fun l D cy => (ct_accept a r hc2 w139_) l D cy) (Nat.le_of_ble_eq_true rfl) mV_X14_accept m_2293 (recv_ob obM_0) rfl rfl (Nat.le_of_ble_eq_true rfl) d_X14_braces_145 (kZ (fun v145 s145 t145 z145 hz145 w4 => ?_)) (fun _ _ _ h => h.elim)
        refine g_if_ne hF 12 d_X14_braces_148 (by decide) rfl (fun c => ?_) (fun c => ?_)
        · have w5 := w4.1 c
          obtain ⟨m12, hm12, w9⟩ := w5
          exact g_sub (L' := [(0, .ref (r 0)), (1, .int a1), (2, .int a2), (4, .int a4), (5, .int a5), (6, .int x6_139), (7, .int (x7_12 + 1))]) [1, 2, 3, 4, 5, 6, 0] rfl (ih12 m12 hm12 x6_139 (x7_12 + 1) s145 t145 z145 hx6_139 w9)
        · have w6 := w4.2 c
          refine g_aload_n hF d_X14_braces_151 rfl 1 rfl ?_
          refine g_bipush hF (v := 23) d_X14_braces_152 (by decide) ?_
          refine g_cap (fun hc6 => ?_)
          refine g_callV (As := [.int 23]) (rest := []) hF (fun l D cy => (ct_expect a r hc6 w6) l D cy) (Nat.le_of_ble_eq_true rfl) mV_X14_expect m_2285 (recv_ob obM_0) rfl rfl (Nat.le_of_ble_eq_true rfl) d_X14_braces_154 (kV (fun s154 t154 z154 w8 => ?_)) (fun σ9 τ9 vs9 h9 => g_out hF stopM rfl h9)
          refine g_iload hF d_X14_braces_157 6 rfl ?_
          refine g_if_eq hF 172 d_X14_braces_159 (by decide) rfl (fun c => ?_) (fun c => ?_)
          · have w9 := w8.1 c
            refine g_iconst hF (v := 0) d_X14_braces_172 (by decide) ?_
            exact g_zret hF rfl (k_nz (Or.inl rfl)) d_X14_braces_173 ⟨(0 : Int32), rfl, (Or.inl rfl), w9⟩
          · have w10 := w8.2 c
            refine g_iload hF d_X14_braces_162 0 rfl ?_
            refine g_iload_n hF d_X14_braces_164 rfl 2 rfl ?_
            refine g_icmp_gt hF 172 d_X14_braces_165 (by decide) rfl rfl (fun c => ?_) (fun c => ?_)
            · have w11 := w10.1 c
              refine g_iconst hF (v := 0) d_X14_braces_172 (by decide) ?_
              exact g_zret hF rfl (k_nz (Or.inl rfl)) d_X14_braces_173 ⟨(0 : Int32), rfl, (Or.inl rfl), w11⟩
            · have w12 := w10.2 c
              refine g_iconst hF (v := 1) d_X14_braces_168 (by decide) ?_
              refine g_goto hF 173 d_X14_braces_169 (by decide) ?_
              exact g_zret hF rfl (k_nz (Or.inr rfl)) d_X14_braces_173 ⟨(1 : Int32), rfl, (Or.inr rfl), w12⟩
      refine g_if_eq hF 93 d_X14_braces_14 (by decide) rfl (fun c => ?_) (fun c => ?_)
      · have w13 := w2.1 c
        refine g_aload_n hF d_X14_braces_93 rfl 0 rfl ?_
        refine g_iload_n hF d_X14_braces_94 rfl 2 rfl ?_
        refine g_iload hF d_X14_braces_95 3 rfl ?_
        obtain ⟨J114, h114, w14⟩ := w13
        have b114 : ∀ (y2_114 : Int32), J114 y2_114 → G SM r X s12 t12 z12 [(0, .ref (r 0)), (1, .int a1), (2, .int a2), (4, .int a4), (5, .int a5), (6, .int x6_12), (7, .int x7_12)] [.int y2_114, .int a2, .ref (r 0)] 114 := by
          intro y2_114  w114_
          have w114_ := h114 y2_114  w114_
          refine g_iload hF d_X14_braces_114 3 rfl ?_
          refine g_iconst hF (v := 0) d_X14_braces_116 (by decide) ?_
          refine g_cap (fun hc14 => ?_)
          refine g_callV (As := [.int a2, .int y2_114, .int a4, .int 0]) (rest := []) hF (fun l D cy => (ct_one_1 a r hc14 w114_) l D cy) (Nat.le_of_ble_eq_true rfl) mV_X14_one_1 m_2576 (recv_ob obM_0) rfl rfl (Nat.le_of_ble_eq_true rfl) d_X14_braces_117 (kZ (fun v117 s117 t117 z117 hz117 w16 => ?_)) (fun σ9 τ9 vs9 h9 => g_out hF stopM rfl h9)
          refine g_istore hF [(8, .int v117), (0, .ref (r 0)), (1, .int a1), (2, .int a2), (4, .int a4), (5, .int a5), (6, .int x6_12), (7, .int x7_12)] d_X14_braces_120 hnn (by decide) rfl ?_
          refine g_iload hF d_X14_braces_122 6 rfl ?_
          obtain ⟨J137, h137, w17⟩ := w16
          have b137 : ∀ (y0_137 : Int32), y0_137 = 0 ∨ y0_137 = 1 → J137 y0_137 → G SM r X s117 t117 z117 [(0, .ref (r 0)), (1, .int a1), (2, .int a2), (4, .int a4), (5, .int a5), (7, .int x7_12)] [.int y0_137] 137 := by
            intro y0_137 hy0_137 w137_
            have w137_ := h137 y0_137 hy0_137 w137_
            refine g_istore hF [(6, .int y0_137), (0, .ref (r 0)), (1, .int a1), (2, .int a2), (4, .int a4), (5, .int a5), (7, .int x7_12)] d_X14_braces_137 hnn (by decide) rfl ?_
            exact g_sub (L' := [(0, .ref (r 0)), (1, .int a1), (2, .int a2), (4, .int a4), (5, .int a5), (6, .int y0_137), (7, .int x7_12)]) [1, 2, 3, 4, 5, 0, 6] rfl (b139 y0_137 s117 t117 z117 hy0_137 w137_)
          obtain ⟨J136, h136, w18⟩ := w17
          have b136 : J136  → G SM r X s117 t117 z117 [(0, .ref (r 0)), (1, .int a1), (2, .int a2), (4, .int a4), (5, .int a5), (7, .int x7_12)] [] 136 := by
            intro   w136_
            have w136_ := h136   w136_
            refine g_iconst hF (v := 0) d_X14_braces_136 (by decide) ?_
            exact b137 (0 : Int32) (Or.inl rfl) w136_
          refine g_if_eq hF 136 d_X14_braces_124 (by decide) rfl (fun c => ?_) (fun c => ?_)
          · have w19 := w18.1 c
            exact g_sub (L' := [(0, .ref (r 0)), (1, .int a1), (2, .int a2), (4, .int a4), (5, .int a5), (7, .int x7_12)]) [1, 2, 3, 4, 5, 7] rfl (b136  w19)
          · have w20 := w18.2 c
            refine g_iload hF d_X14_braces_127 0 rfl ?_
            refine g_if_eq hF 136 d_X14_braces_129 (by decide) rfl (fun c => ?_) (fun c => ?_)
            · have w21 := w20.1 c
              exact g_sub (L' := [(0, .ref (r 0)), (1, .int a1), (2, .int a2), (4, .int a4), (5, .int a5), (7, .int x7_12)]) [1, 2, 3, 4, 5, 7] rfl (b136  w21)
            · have w22 := w20.2 c
              refine g_iconst hF (v := 1) d_X14_braces_132 (by decide) ?_
              refine g_goto hF 137 d_X14_braces_133 (by decide) ?_
              exact g_sub (L' := [(0, .ref (r 0)), (1, .int a1), (2, .int a2), (4, .int a4), (5, .int a5), (7, .int x7_12)]) [1, 2, 3, 4, 5, 7] rfl (b137 (1 : Int32) (Or.inr rfl) w22)
        refine g_if_ge hF 104 d_X14_braces_97 (by decide) rfl (fun c => ?_) (fun c => ?_)
        · have w23 := w14.1 c
          refine g_aload_n hF d_X14_braces_104 rfl 0 rfl ?_
          refine g_get (v := .ref (r 17)) hF 26 obM_0 (by decide) m_1891 rfl d_X14_braces_105 ?_
          refine g_iload hF d_X14_braces_108 3 rfl ?_
          have w24 := w23.2
          refine g_iald hF arM_17 (s_in (Nat.le_of_ble_eq_true rfl) w23.1.1 w23.1.2) d_X14_braces_110 ?_
          refine g_top (v := (s12 17 a4.toNatClampNeg)) rfl ?_
          refine g_iload hF d_X14_braces_111 6 rfl ?_
          refine g_iadd hF d_X14_braces_113 ?_
          exact b114 ((s12 17 a4.toNatClampNeg) + x7_12) w24
        · have w25 := w14.2 c
          refine g_iconst hF (v := 0) d_X14_braces_100 (by decide) ?_
          refine g_goto hF 114 d_X14_braces_101 (by decide) ?_
          exact b114 (0 : Int32) w25
      · have w26 := w2.2 c
        refine g_iload hF d_X14_braces_17 3 rfl ?_
        obtain ⟨J45, h45, w27⟩ := w26
        have b45 : ∀ (s45 t45 : St) (z45 : List Nat), J45 s45 t45 z45 → G SM r X s45 t45 z45 [(0, .ref (r 0)), (1, .int a1), (2, .int a2), (4, .int a4), (5, .int a5), (6, .int x6_12), (7, .int x7_12)] [] 45 := by
          intro s45 t45 z45  w45_
          have w45_ := h45 s45 t45 z45  w45_
          refine g_aload_n hF d_X14_braces_45 rfl 0 rfl ?_
          refine g_iload_n hF d_X14_braces_46 rfl 2 rfl ?_
          refine g_iconst hF (v := (-1)) d_X14_braces_47 (by decide) ?_
          refine g_iconst hF (v := (-1)) d_X14_braces_48 (by decide) ?_
          refine g_iconst hF (v := 1) d_X14_braces_49 (by decide) ?_
          refine g_cap (fun hc27 => ?_)
          refine g_callV (As := [.int a2, .int (-1), .int (-1), .int 1]) (rest := []) hF (fun l D cy => (ct_one_1 a r hc27 w45_) l D cy) (Nat.le_of_ble_eq_true rfl) mV_X14_one_1 m_2576 (recv_ob obM_0) rfl rfl (Nat.le_of_ble_eq_true rfl) d_X14_braces_50 (kZ (fun v50 s50 t50 z50 hz50 w29 => ?_)) (fun σ9 τ9 vs9 h9 => g_out hF stopM rfl h9)
          refine g_istore hF [(8, .int v50), (0, .ref (r 0)), (1, .int a1), (2, .int a2), (4, .int a4), (5, .int a5), (6, .int x6_12), (7, .int x7_12)] d_X14_braces_53 hnn (by decide) rfl ?_
          refine g_iload hF d_X14_braces_55 6 rfl ?_
          obtain ⟨J70, h70, w30⟩ := w29
          have b70 : ∀ (y0_70 : Int32), y0_70 = 0 ∨ y0_70 = 1 → J70 y0_70 → G SM r X s50 t50 z50 [(0, .ref (r 0)), (1, .int a1), (2, .int a2), (4, .int a4), (5, .int a5), (7, .int x7_12)] [.int y0_70] 70 := by
            intro y0_70 hy0_70 w70_
            have w70_ := h70 y0_70 hy0_70 w70_
            refine g_istore hF [(6, .int y0_70), (0, .ref (r 0)), (1, .int a1), (2, .int a2), (4, .int a4), (5, .int a5), (7, .int x7_12)] d_X14_braces_70 hnn (by decide) rfl ?_
            refine g_iload hF d_X14_braces_72 4 rfl ?_
            obtain ⟨J90, h90, w31⟩ := w70_
            have b90 : ∀ (s90 t90 : St) (z90 : List Nat), J90 s90 t90 z90 → G SM r X s90 t90 z90 [(0, .ref (r 0)), (1, .int a1), (2, .int a2), (4, .int a4), (5, .int a5), (6, .int y0_70), (7, .int x7_12)] [] 90 := by
              intro s90 t90 z90  w90_
              have w90_ := h90 s90 t90 z90  w90_
              refine g_goto hF 139 d_X14_braces_90 (by decide) ?_
              exact b139 y0_70 s90 t90 z90 hy0_70 w90_
            refine g_if_lt hF 90 d_X14_braces_74 (by decide) rfl (fun c => ?_) (fun c => ?_)
            · have w32 := w31.1 c
              exact g_sub (L' := [(0, .ref (r 0)), (1, .int a1), (2, .int a2), (4, .int a4), (5, .int a5), (6, .int y0_70), (7, .int x7_12)]) [1, 2, 3, 4, 5, 0, 6] rfl (b90 s50 t50 z50 w32)
            · have w33 := w31.2 c
              refine g_aload_n hF d_X14_braces_77 rfl 1 rfl ?_
              refine g_bipush hF (v := 6) d_X14_braces_78 (by decide) ?_
              refine g_iconst hF (v := 0) d_X14_braces_80 (by decide) ?_
              refine g_cap (fun hc33 => ?_)
              refine g_callV (As := [.int 6, .int 0]) (rest := []) hF (fun l D cy => (ct_put_1 a r hc33 w33) l D cy) (Nat.le_of_ble_eq_true rfl) mV_X14_put_1 m_2433 (recv_ob obM_0) rfl rfl (Nat.le_of_ble_eq_true rfl) d_X14_braces_81 (kV (fun s81 t81 z81 w35 => ?_)) (fun _ _ _ h => h.elim)
              refine g_aload_n hF d_X14_braces_84 rfl 1 rfl ?_
              refine g_bipush hF (v := 10) d_X14_braces_85 (by decide) ?_
              refine g_cap (fun hc35 => ?_)
              refine g_callV (As := [.int 10]) (rest := []) hF (fun l D cy => (ct_put_0 a r hc35 w35) l D cy) (Nat.le_of_ble_eq_true rfl) mV_X14_put_0 m_2437 (recv_ob obM_0) rfl rfl (Nat.le_of_ble_eq_true rfl) d_X14_braces_87 (kV (fun s87 t87 z87 w37 => ?_)) (fun _ _ _ h => h.elim)
              exact g_sub (L' := [(0, .ref (r 0)), (1, .int a1), (2, .int a2), (4, .int a4), (5, .int a5), (6, .int y0_70), (7, .int x7_12)]) [1, 2, 3, 4, 5, 0, 6] rfl (b90 s87 t87 z87 w37)
          obtain ⟨J69, h69, w38⟩ := w30
          have b69 : J69  → G SM r X s50 t50 z50 [(0, .ref (r 0)), (1, .int a1), (2, .int a2), (4, .int a4), (5, .int a5), (7, .int x7_12)] [] 69 := by
            intro   w69_
            have w69_ := h69   w69_
            refine g_iconst hF (v := 0) d_X14_braces_69 (by decide) ?_
            exact b70 (0 : Int32) (Or.inl rfl) w69_
          refine g_if_eq hF 69 d_X14_braces_57 (by decide) rfl (fun c => ?_) (fun c => ?_)
          · have w39 := w38.1 c
            exact g_sub (L' := [(0, .ref (r 0)), (1, .int a1), (2, .int a2), (4, .int a4), (5, .int a5), (7, .int x7_12)]) [1, 2, 3, 4, 5, 7] rfl (b69  w39)
          · have w40 := w38.2 c
            refine g_iload hF d_X14_braces_60 0 rfl ?_
            refine g_if_eq hF 69 d_X14_braces_62 (by decide) rfl (fun c => ?_) (fun c => ?_)
            · have w41 := w40.1 c
              exact g_sub (L' := [(0, .ref (r 0)), (1, .int a1), (2, .int a2), (4, .int a4), (5, .int a5), (7, .int x7_12)]) [1, 2, 3, 4, 5, 7] rfl (b69  w41)
            · have w42 := w40.2 c
              refine g_iconst hF (v := 1) d_X14_braces_65 (by decide) ?_
              refine g_goto hF 70 d_X14_braces_66 (by decide) ?_
              exact g_sub (L' := [(0, .ref (r 0)), (1, .int a1), (2, .int a2), (4, .int a4), (5, .int a5), (7, .int x7_12)]) [1, 2, 3, 4, 5, 7] rfl (b70 (1 : Int32) (Or.inr rfl) w42)
        refine g_if_lt hF 45 d_X14_braces_19 (by decide) rfl (fun c => ?_) (fun c => ?_)
        · have w43 := w27.1 c
          exact b45 s12 t12 z12 w43
        · have w44 := w27.2 c
          refine g_aload_n hF d_X14_braces_22 rfl 0 rfl ?_
          refine g_iconst hF (v := 4) d_X14_braces_23 (by decide) ?_
          refine g_iload hF d_X14_braces_24 3 rfl ?_
          refine g_cap (fun hc44 => ?_)
          refine g_callV (As := [.int 4, .int a4]) (rest := []) hF (fun l D cy => (ct_put_1 a r hc44 w44) l D cy) (Nat.le_of_ble_eq_true rfl) mV_X14_put_1 m_2433 (recv_ob obM_0) rfl rfl (Nat.le_of_ble_eq_true rfl) d_X14_braces_26 (kV (fun s26 t26 z26 w46 => ?_)) (fun _ _ _ h => h.elim)
          refine g_aload_n hF d_X14_braces_29 rfl 0 rfl ?_
          refine g_iconst hF (v := 0) d_X14_braces_30 (by decide) ?_
          refine g_iload hF d_X14_braces_31 6 rfl ?_
          refine g_cap (fun hc46 => ?_)
          refine g_callV (As := [.int 0, .int x7_12]) (rest := []) hF (fun l D cy => (ct_put_1 a r hc46 w46) l D cy) (Nat.le_of_ble_eq_true rfl) mV_X14_put_1 m_2433 (recv_ob obM_0) rfl rfl (Nat.le_of_ble_eq_true rfl) d_X14_braces_33 (kV (fun s33 t33 z33 w48 => ?_)) (fun _ _ _ h => h.elim)
          refine g_aload_n hF d_X14_braces_36 rfl 0 rfl ?_
          refine g_bipush hF (v := 11) d_X14_braces_37 (by decide) ?_
          refine g_bipush hF (v := 36) d_X14_braces_39 (by decide) ?_
          refine g_iconst hF (v := 0) d_X14_braces_41 (by decide) ?_
          refine g_cap (fun hc48 => ?_)
          refine g_callV (As := [.int 11, .int 36, .int 0]) (rest := []) hF (fun l D cy => (ct_put_2 a r hc48 w48) l D cy) (Nat.le_of_ble_eq_true rfl) mV_X14_put_2 m_2449 (recv_ob obM_0) rfl rfl (Nat.le_of_ble_eq_true rfl) d_X14_braces_42 (kV (fun s42 t42 z42 w50 => ?_)) (fun _ _ _ h => h.elim)
          exact b45 s42 t42 z42 w50
  exact g_sub (L' := [(0, .ref (r 0)), (1, .int a1), (2, .int a2), (4, .int a4), (5, .int a5), (6, .int 1), (7, .int a3)]) [2, 3, 4, 6, 7, 1, 0] rfl (b12 i12 (1 : Int32) a3 s3 t3 z3 (Or.inr rfl) u12)
def wp_oneInitial (a1 : Int32) (a2 : Int32) (a3 : Int32) (σ τ : St) (vs : List Nat) (Q : Int32 → St → St → List Nat → Prop) (T : St → St → List Nat → Prop) : Prop :=
  wp_is (22 : Int32) σ τ vs (fun v3 => (v3.toInt = 0 → (∃ J41 : Int32 → Prop, (∀ (y2_41 : Int32), J41 y2_41 → (wp_one_1 a1 y2_41 a2 a3 σ τ vs (fun v43 s43 t43 z43 => Q v43 s43 t43 z43) T)) ∧ (∃ J31 : Prop, (J31  → (J41 ((-1) : Int32))) ∧ (a3.toInt ≠ 0 → J31) ∧ (a3.toInt = 0 → (0 ≤ a2.toInt → ((0 ≤ a2.toInt ∧ a2.toInt < 10000) ∧ J41 (σ 17 a2.toNatClampNeg))) ∧ (a2.toInt < 0 → J31))))) ∧ (v3.toInt ≠ 0 → wp_braces ((-1) : Int32) a1 (0 : Int32) a2 a3 σ τ vs (fun v15 s15 t15 z15 => Q (0 : Int32) s15 t15 z15) T))
set_option maxHeartbeats 4000000 in
set_option maxRecDepth 100000 in
theorem ct_oneInitial (a : Nat → Nat) (r : Nat → Nat) {a1 : Int32} {a2 : Int32} {a3 : Int32} {σ τ : St} {vs : List Nat} {Q : Int32 → St → St → List Nat → Prop} {T : St → St → List Nat → Prop} (hcap : vs.length ≤ CAP) (w : wp_oneInitial a1 a2 a3 σ τ vs Q T) (l : Launch) (D : va_G) (cy : Nat → ClassId) : Ct l D cy SM r (EM a) y_X14_oneInitial (Cond.code y_X14_oneInitial b_X14_oneInitial 4 (some .boolean)) 1107 [.ref (r 0), .int a1, .int a2, .int a3] σ τ vs (QZs Q) T := by
  unfold wp_oneInitial at w
  refine Ct_of (EM_ok a) (by decide) (Nat.le_of_ble_eq_true rfl) hcap (fun X hnn hF => ?_)
  show G SM r X σ τ vs [(0, .ref (r 0)), (1, .int a1), (2, .int a2), (3, .int a3)] [] 0
  refine g_aload_n hF d_X14_oneInitial_0 rfl 0 rfl ?_
  refine g_bipush hF (v := 22) d_X14_oneInitial_1 (by decide) ?_
  refine g_callV (As := [.int 22]) (rest := []) hF (fun l D cy => (ct_is a r hcap w) l D cy) (Nat.le_of_ble_eq_true rfl) mV_X14_is m_2289 (recv_ob obM_0) rfl rfl (Nat.le_of_ble_eq_true rfl) d_X14_oneInitial_3 (krZ (fun v3 hz3 w1 => ?_)) (fun _ _ _ h => h.elim)
  refine g_if_eq hF 21 d_X14_oneInitial_6 (by decide) rfl (fun c => ?_) (fun c => ?_)
  · have w2 := w1.1 c
    refine g_aload_n hF d_X14_oneInitial_21 rfl 0 rfl ?_
    refine g_iload_n hF d_X14_oneInitial_22 rfl 1 rfl ?_
    refine g_iload_n hF d_X14_oneInitial_23 rfl 3 rfl ?_
    obtain ⟨J41, h41, w3⟩ := w2
    have b41 : ∀ (y2_41 : Int32), J41 y2_41 → G SM r X σ τ vs [(2, .int a2), (3, .int a3)] [.int y2_41, .int a1, .ref (r 0)] 41 := by
      intro y2_41  w41_
      have w41_ := h41 y2_41  w41_
      refine g_iload_n hF d_X14_oneInitial_41 rfl 0 rfl ?_
      refine g_iload_n hF d_X14_oneInitial_42 rfl 1 rfl ?_
      refine g_callV (As := [.int a1, .int y2_41, .int a2, .int a3]) (rest := []) hF (fun l D cy => (ct_one_1 a r hcap w41_) l D cy) (Nat.le_of_ble_eq_true rfl) mV_X14_one_1 m_2576 (recv_ob obM_0) rfl rfl (Nat.le_of_ble_eq_true rfl) d_X14_oneInitial_43 (kZ (fun v43 s43 t43 z43 hz43 w4 => ?_)) (fun σ9 τ9 vs9 h9 => g_out hF stopM rfl h9)
      exact g_zret hF rfl (k_nz hz43) d_X14_oneInitial_46 ⟨v43, rfl, hz43, w4⟩
    obtain ⟨J31, h31, w5⟩ := w3
    have b31 : J31  → G SM r X σ τ vs [(2, .int a2), (3, .int a3)] [.int a1, .ref (r 0)] 31 := by
      intro   w31_
      have w31_ := h31   w31_
      refine g_iconst hF (v := (-1)) d_X14_oneInitial_31 (by decide) ?_
      refine g_goto hF 41 d_X14_oneInitial_32 (by decide) ?_
      exact b41 ((-1) : Int32) w31_
    refine g_if_ne hF 31 d_X14_oneInitial_24 (by decide) rfl (fun c => ?_) (fun c => ?_)
    · have w6 := w5.1 c
      exact g_sub (L' := [(2, .int a2), (3, .int a3)]) [2, 3] rfl (b31  w6)
    · have w7 := w5.2 c
      refine g_iload_n hF d_X14_oneInitial_27 rfl 2 rfl ?_
      refine g_if_ge hF 35 d_X14_oneInitial_28 (by decide) rfl (fun c => ?_) (fun c => ?_)
      · have w8 := w7.1 c
        refine g_aload_n hF d_X14_oneInitial_35 rfl 0 rfl ?_
        refine g_get (v := .ref (r 17)) hF 26 obM_0 (by decide) m_1891 rfl d_X14_oneInitial_36 ?_
        refine g_iload_n hF d_X14_oneInitial_39 rfl 2 rfl ?_
        have w9 := w8.2
        refine g_iald hF arM_17 (s_in (Nat.le_of_ble_eq_true rfl) w8.1.1 w8.1.2) d_X14_oneInitial_40 ?_
        refine g_top (v := (σ 17 a2.toNatClampNeg)) rfl ?_
        exact g_sub (L' := [(2, .int a2), (3, .int a3)]) [2, 3] rfl (b41 (σ 17 a2.toNatClampNeg) w9)
      · have w10 := w7.2 c
        exact g_sub (L' := [(2, .int a2), (3, .int a3)]) [2, 3] rfl (b31  w10)
  · have w11 := w1.2 c
    refine g_aload_n hF d_X14_oneInitial_9 rfl 0 rfl ?_
    refine g_iconst hF (v := (-1)) d_X14_oneInitial_10 (by decide) ?_
    refine g_iload_n hF d_X14_oneInitial_11 rfl 1 rfl ?_
    refine g_iconst hF (v := 0) d_X14_oneInitial_12 (by decide) ?_
    refine g_iload_n hF d_X14_oneInitial_13 rfl 2 rfl ?_
    refine g_iload_n hF d_X14_oneInitial_14 rfl 3 rfl ?_
    refine g_callV (As := [.int (-1), .int a1, .int 0, .int a2, .int a3]) (rest := []) hF (fun l D cy => (ct_braces a r hcap w11) l D cy) (Nat.le_of_ble_eq_true rfl) mV_X14_braces m_2572 (recv_ob obM_0) rfl rfl (Nat.le_of_ble_eq_true rfl) d_X14_oneInitial_15 (kZ (fun v15 s15 t15 z15 hz15 w12 => ?_)) (fun σ9 τ9 vs9 h9 => g_out hF stopM rfl h9)
    refine g_pop hF d_X14_oneInitial_18 rfl ?_
    refine g_iconst hF (v := 0) d_X14_oneInitial_19 (by decide) ?_
    exact g_zret hF rfl (k_nz (Or.inl rfl)) d_X14_oneInitial_20 ⟨(0 : Int32), rfl, (Or.inl rfl), w12⟩
def wp_forStatement (Kstatement : Int32 → St → St → List Nat → (St → St → List Nat → Prop) → (St → St → List Nat → Prop) → Prop) (Kinner : Int32 → St → St → List Nat → (St → St → List Nat → Prop) → (St → St → List Nat → Prop) → Prop) (Kblock : Int32 → St → St → List Nat → (St → St → List Nat → Prop) → (St → St → List Nat → Prop) → Prop) (Kloop : Int32 → Int32 → Int32 → St → St → List Nat → (St → St → List Nat → Prop) → (St → St → List Nat → Prop) → Prop) (KdoStatement : Int32 → Int32 → St → St → List Nat → (St → St → List Nat → Prop) → (St → St → List Nat → Prop) → Prop) (KforStatement : Int32 → Int32 → St → St → List Nat → (St → St → List Nat → Prop) → (St → St → List Nat → Prop) → Prop) (a1 : Int32) (a2 : Int32) (σ τ : St) (vs : List Nat) (Q : St → St → List Nat → Prop) (T : St → St → List Nat → Prop) : Prop :=
  wp_expect (20 : Int32) (upC σ 0 10 ((σ 0 10) + (1 : Int32))) τ vs (fun s13 t13 z13 => wp_is (27 : Int32) s13 t13 z13 (fun v19 => (∃ J29 : St → St → List Nat → Prop, (∀ (s29 t29 : St) (z29 : List Nat), J29 s29 t29 z29 → (wp_expect (27 : Int32) s29 t29 z29 (fun s32 t32 z32 => wp_is (27 : Int32) s32 t32 z32 (fun v46 => (∃ J83 : Int32 → St → St → List Nat → Prop, (∀ (x4_83 : Int32) (s83 t83 : St) (z83 : List Nat), J83 x4_83 s83 t83 z83 → (wp_expect (27 : Int32) s83 t83 z83 (fun s86 t86 z86 => wp_open (15 : Int32) s86 t86 z86 (fun v92 s92 t92 z92 => wp_is (21 : Int32) s92 t92 z92 (fun v106 => (∃ J116 : St → St → List Nat → Prop, (∀ (s116 t116 : St) (z116 : List Nat), J116 s116 t116 z116 → (wp_put_1 (15 : Int32) (s32 0 17) s116 t116 z116 (fun s120 t120 z120 => wp_expect (21 : Int32) s120 t120 z120 (fun s126 t126 z126 => wp_aim v92 s126 t126 z126 (fun s132 t132 z132 => Kloop a1 a2 (s92 0 17) s132 t132 z132 (fun s140 t140 z140 => wp_put_1 (15 : Int32) (s92 0 17) (upC s140 0 58 (s140 0 60)) t140 z140 (fun s162 t162 z162 => (∃ J176 : St → St → List Nat → Prop, (∀ (s176 t176 : St) (z176 : List Nat), J176 s176 t176 z176 → (wp_aimAll (s140 0 58) (s176 0 17) s176 t176 z176 (fun s183 t183 z183 => Q s183 t183 z183))) ∧ (x4_83.toInt < 0 → J176 s162 t162 z162) ∧ (0 ≤ x4_83.toInt → wp_aim x4_83 s162 t162 z162 (fun s173 t173 z173 => J176 s173 t173 z173))))) T)) T))) ∧ (v106.toInt ≠ 0 → J116 s92 t92 z92) ∧ (v106.toInt = 0 → wp_plain s92 t92 z92 (fun s113 t113 z113 => J116 s113 t113 z113) T))))) T)) ∧ (v46.toInt ≠ 0 → J83 ((-1) : Int32) s32 t32 z32) ∧ (v46.toInt = 0 → wpE_expression (1 : Int32) s32 t32 z32 (fun u54 s54 t54 z54 => wp_read_1 u54 s54 t54 z54 (fun s62 t62 z62 => wp_isAny u54 s62 t62 z62 (fun v68 => wp_must v68 a2 s62 t62 z62 (fun s72 t72 z72 => wp_open (16 : Int32) s72 t72 z72 (fun v78 s78 t78 z78 => J83 v78 s78 t78 z78))))) T)))) T)) ∧ (v19.toInt ≠ 0 → J29 s13 t13 z13) ∧ (v19.toInt = 0 → wp_plain s13 t13 z13 (fun s26 t26 z26 => J29 s26 t26 z26) T)))) T
set_option maxHeartbeats 4000000 in
set_option maxRecDepth 100000 in
theorem ct_forStatement (a : Nat → Nat) (r : Nat → Nat) (dK : Nat) (hdK : 1106 ≤ dK) (Kstatement : Int32 → St → St → List Nat → (St → St → List Nat → Prop) → (St → St → List Nat → Prop) → Prop) (Kinner : Int32 → St → St → List Nat → (St → St → List Nat → Prop) → (St → St → List Nat → Prop) → Prop) (Kblock : Int32 → St → St → List Nat → (St → St → List Nat → Prop) → (St → St → List Nat → Prop) → Prop) (Kloop : Int32 → Int32 → Int32 → St → St → List Nat → (St → St → List Nat → Prop) → (St → St → List Nat → Prop) → Prop) (KdoStatement : Int32 → Int32 → St → St → List Nat → (St → St → List Nat → Prop) → (St → St → List Nat → Prop) → Prop) (KforStatement : Int32 → Int32 → St → St → List Nat → (St → St → List Nat → Prop) → (St → St → List Nat → Prop) → Prop) (hKloop : ∀ {a1 : Int32} {a2 : Int32} {a3 : Int32} {σ τ : St} {vs : List Nat} {Q : St → St → List Nat → Prop} {T : St → St → List Nat → Prop}, vs.length ≤ CAP → Kloop a1 a2 a3 σ τ vs Q T → ∀ (l : Launch) (D : va_G) (cy : Nat → ClassId), Ct l D cy SM r (EM a) y_X14_loop (Cond.code y_X14_loop b_X14_loop 6 none) dK [.ref (r 0), .int a1, .int a2, .int a3] σ τ vs (QVs Q) T) {a1 : Int32} {a2 : Int32} {σ τ : St} {vs : List Nat} {Q : St → St → List Nat → Prop} {T : St → St → List Nat → Prop} (hcap : vs.length ≤ CAP) (w : wp_forStatement Kstatement Kinner Kblock Kloop KdoStatement KforStatement a1 a2 σ τ vs Q T) (l : Launch) (D : va_G) (cy : Nat → ClassId) : Ct l D cy SM r (EM a) y_X14_forStatement (Cond.code y_X14_forStatement b_X14_forStatement 8 none) (dK + 1) [.ref (r 0), .int a1, .int a2] σ τ vs (QVs Q) T := by
  unfold wp_forStatement at w
  refine Ct_of (EM_ok a) (by decide) (Nat.le_of_ble_eq_true rfl) hcap (fun X hnn hF => ?_)
  show G SM r X σ τ vs [(0, .ref (r 0)), (1, .int a1), (2, .int a2)] [] 0
  refine g_aload_n hF d_X14_forStatement_0 rfl 0 rfl ?_
  refine g_dup hF d_X14_forStatement_1 rfl ?_
  refine g_get (v := .int (σ 0 10)) hF 10 obM_0 (by decide) m_1875 rfl d_X14_forStatement_2 ?_
  refine g_iconst hF (v := 1) d_X14_forStatement_5 (by decide) ?_
  refine g_iadd hF d_X14_forStatement_6 ?_
  refine g_put (v := ((σ 0 10) + (1 : Int32))) hF 10 obM_0 (by decide) m_1875 rfl rfl rfl d_X14_forStatement_7 ?_
  refine g_aload_n hF d_X14_forStatement_10 rfl 0 rfl ?_
  refine g_bipush hF (v := 20) d_X14_forStatement_11 (by decide) ?_
  refine g_callV (As := [.int 20]) (rest := []) hF (fun l D cy => (ct_expect a r hcap w) l D cy) (Nat.add_le_add_right (Nat.le_trans (Nat.le_of_ble_eq_true rfl) hdK) 1) mV_X14_expect m_2285 (recv_ob obM_0) rfl rfl (Nat.le_of_ble_eq_true rfl) d_X14_forStatement_13 (kV (fun s13 t13 z13 w1 => ?_)) (fun σ9 τ9 vs9 h9 => g_out hF stopM rfl h9)
  refine g_aload_n hF d_X14_forStatement_16 rfl 0 rfl ?_
  refine g_bipush hF (v := 27) d_X14_forStatement_17 (by decide) ?_
  refine g_cap (fun hc1 => ?_)
  refine g_callV (As := [.int 27]) (rest := []) hF (fun l D cy => (ct_is a r hc1 w1) l D cy) (Nat.add_le_add_right (Nat.le_trans (Nat.le_of_ble_eq_true rfl) hdK) 1) mV_X14_is m_2289 (recv_ob obM_0) rfl rfl (Nat.le_of_ble_eq_true rfl) d_X14_forStatement_19 (krZ (fun v19 hz19 w3 => ?_)) (fun _ _ _ h => h.elim)
  obtain ⟨J29, h29, w4⟩ := w3
  have b29 : ∀ (s29 t29 : St) (z29 : List Nat), J29 s29 t29 z29 → G SM r X s29 t29 z29 [(0, .ref (r 0)), (1, .int a1), (2, .int a2)] [] 29 := by
    intro s29 t29 z29  w29_
    have w29_ := h29 s29 t29 z29  w29_
    refine g_aload_n hF d_X14_forStatement_29 rfl 0 rfl ?_
    refine g_bipush hF (v := 27) d_X14_forStatement_30 (by decide) ?_
    refine g_cap (fun hc4 => ?_)
    refine g_callV (As := [.int 27]) (rest := []) hF (fun l D cy => (ct_expect a r hc4 w29_) l D cy) (Nat.add_le_add_right (Nat.le_trans (Nat.le_of_ble_eq_true rfl) hdK) 1) mV_X14_expect m_2285 (recv_ob obM_0) rfl rfl (Nat.le_of_ble_eq_true rfl) d_X14_forStatement_32 (kV (fun s32 t32 z32 w6 => ?_)) (fun σ9 τ9 vs9 h9 => g_out hF stopM rfl h9)
    refine g_aload_n hF d_X14_forStatement_35 rfl 0 rfl ?_
    refine g_get (v := .int (s32 0 17)) hF 17 obM_0 (by decide) m_1882 rfl d_X14_forStatement_36 ?_
    refine g_istore_n hF [(3, .int (s32 0 17)), (0, .ref (r 0)), (1, .int a1), (2, .int a2)] d_X14_forStatement_39 rfl hnn (by decide) rfl ?_
    refine g_iconst hF (v := (-1)) d_X14_forStatement_40 (by decide) ?_
    refine g_istore hF [(4, .int (-1)), (3, .int (s32 0 17)), (0, .ref (r 0)), (1, .int a1), (2, .int a2)] d_X14_forStatement_41 hnn (by decide) rfl ?_
    refine g_aload_n hF d_X14_forStatement_43 rfl 2 rfl ?_
    refine g_bipush hF (v := 27) d_X14_forStatement_44 (by decide) ?_
    refine g_cap (fun hc6 => ?_)
    refine g_callV (As := [.int 27]) (rest := []) hF (fun l D cy => (ct_is a r hc6 w6) l D cy) (Nat.add_le_add_right (Nat.le_trans (Nat.le_of_ble_eq_true rfl) hdK) 1) mV_X14_is m_2289 (recv_ob obM_0) rfl rfl (Nat.le_of_ble_eq_true rfl) d_X14_forStatement_46 (krZ (fun v46 hz46 w8 => ?_)) (fun _ _ _ h => h.elim)
    obtain ⟨J83, h83, w9⟩ := w8
    have b83 : ∀ (x4_83 : Int32) (s83 t83 : St) (z83 : List Nat), J83 x4_83 s83 t83 z83 → G SM r X s83 t83 z83 [(0, .ref (r 0)), (1, .int a1), (2, .int a2), (3, .int (s32 0 17)), (4, .int x4_83)] [] 83 := by
      intro x4_83 s83 t83 z83  w83_
      have w83_ := h83 x4_83 s83 t83 z83  w83_
      refine g_aload_n hF d_X14_forStatement_83 rfl 0 rfl ?_
      refine g_bipush hF (v := 27) d_X14_forStatement_84 (by decide) ?_
      refine g_cap (fun hc9 => ?_)
      refine g_callV (As := [.int 27]) (rest := []) hF (fun l D cy => (ct_expect a r hc9 w83_) l D cy) (Nat.add_le_add_right (Nat.le_trans (Nat.le_of_ble_eq_true rfl) hdK) 1) mV_X14_expect m_2285 (recv_ob obM_0) rfl rfl (Nat.le_of_ble_eq_true rfl) d_X14_forStatement_86 (kV (fun s86 t86 z86 w11 => ?_)) (fun σ9 τ9 vs9 h9 => g_out hF stopM rfl h9)
      refine g_aload_n hF d_X14_forStatement_89 rfl 0 rfl ?_
      refine g_bipush hF (v := 15) d_X14_forStatement_90 (by decide) ?_
      refine g_cap (fun hc11 => ?_)
      refine g_callV (As := [.int 15]) (rest := []) hF (fun l D cy => (ct_open a r hc11 w11) l D cy) (Nat.add_le_add_right (Nat.le_trans (Nat.le_of_ble_eq_true rfl) hdK) 1) mV_X14_open m_2520 (recv_ob obM_0) rfl rfl (Nat.le_of_ble_eq_true rfl) d_X14_forStatement_92 (kI (fun v92 s92 t92 z92 w13 => ?_)) (fun _ _ _ h => h.elim)
      refine g_istore hF [(5, .int v92), (0, .ref (r 0)), (1, .int a1), (2, .int a2), (3, .int (s32 0 17)), (4, .int x4_83)] d_X14_forStatement_95 hnn (by decide) rfl ?_
      refine g_aload_n hF d_X14_forStatement_97 rfl 1 rfl ?_
      refine g_get (v := .int (s92 0 17)) hF 17 obM_0 (by decide) m_1882 rfl d_X14_forStatement_98 ?_
      refine g_istore hF [(6, .int (s92 0 17)), (5, .int v92), (0, .ref (r 0)), (1, .int a1), (2, .int a2), (3, .int (s32 0 17)), (4, .int x4_83)] d_X14_forStatement_101 hnn (by decide) rfl ?_
      refine g_aload_n hF d_X14_forStatement_103 rfl 2 rfl ?_
      refine g_bipush hF (v := 21) d_X14_forStatement_104 (by decide) ?_
      refine g_cap (fun hc13 => ?_)
      refine g_callV (As := [.int 21]) (rest := []) hF (fun l D cy => (ct_is a r hc13 w13) l D cy) (Nat.add_le_add_right (Nat.le_trans (Nat.le_of_ble_eq_true rfl) hdK) 1) mV_X14_is m_2289 (recv_ob obM_0) rfl rfl (Nat.le_of_ble_eq_true rfl) d_X14_forStatement_106 (krZ (fun v106 hz106 w15 => ?_)) (fun _ _ _ h => h.elim)
      obtain ⟨J116, h116, w16⟩ := w15
      have b116 : ∀ (s116 t116 : St) (z116 : List Nat), J116 s116 t116 z116 → G SM r X s116 t116 z116 [(0, .ref (r 0)), (1, .int a1), (2, .int a2), (3, .int (s32 0 17)), (4, .int x4_83), (5, .int v92), (6, .int (s92 0 17))] [] 116 := by
        intro s116 t116 z116  w116_
        have w116_ := h116 s116 t116 z116  w116_
        refine g_aload_n hF d_X14_forStatement_116 rfl 0 rfl ?_
        refine g_bipush hF (v := 15) d_X14_forStatement_117 (by decide) ?_
        refine g_iload_n hF d_X14_forStatement_119 rfl 3 rfl ?_
        refine g_cap (fun hc16 => ?_)
        refine g_callV (As := [.int 15, .int (s32 0 17)]) (rest := []) hF (fun l D cy => (ct_put_1 a r hc16 w116_) l D cy) (Nat.add_le_add_right (Nat.le_trans (Nat.le_of_ble_eq_true rfl) hdK) 1) mV_X14_put_1 m_2433 (recv_ob obM_0) rfl rfl (Nat.le_of_ble_eq_true rfl) d_X14_forStatement_120 (kV (fun s120 t120 z120 w18 => ?_)) (fun _ _ _ h => h.elim)
        refine g_aload_n hF d_X14_forStatement_123 rfl 0 rfl ?_
        refine g_bipush hF (v := 21) d_X14_forStatement_124 (by decide) ?_
        refine g_cap (fun hc18 => ?_)
        refine g_callV (As := [.int 21]) (rest := []) hF (fun l D cy => (ct_expect a r hc18 w18) l D cy) (Nat.add_le_add_right (Nat.le_trans (Nat.le_of_ble_eq_true rfl) hdK) 1) mV_X14_expect m_2285 (recv_ob obM_0) rfl rfl (Nat.le_of_ble_eq_true rfl) d_X14_forStatement_126 (kV (fun s126 t126 z126 w20 => ?_)) (fun σ9 τ9 vs9 h9 => g_out hF stopM rfl h9)
        refine g_aload_n hF d_X14_forStatement_129 rfl 0 rfl ?_
        refine g_iload hF d_X14_forStatement_130 5 rfl ?_
        refine g_cap (fun hc20 => ?_)
        refine g_callV (As := [.int v92]) (rest := []) hF (fun l D cy => (ct_aim a r hc20 w20) l D cy) (Nat.add_le_add_right (Nat.le_trans (Nat.le_of_ble_eq_true rfl) hdK) 1) mV_X14_aim m_2524 (recv_ob obM_0) rfl rfl (Nat.le_of_ble_eq_true rfl) d_X14_forStatement_132 (kV (fun s132 t132 z132 w22 => ?_)) (fun _ _ _ h => h.elim)
        refine g_aload_n hF d_X14_forStatement_135 rfl 0 rfl ?_
        refine g_iload_n hF d_X14_forStatement_136 rfl 1 rfl ?_
        refine g_iload_n hF d_X14_forStatement_137 rfl 2 rfl ?_
        refine g_iload hF d_X14_forStatement_138 6 rfl ?_
        refine g_cap (fun hc22 => ?_)
        refine g_callV (As := [.int a1, .int a2, .int (s92 0 17)]) (rest := []) hF (fun l D cy => (hKloop hc22 w22) l D cy) (Nat.le_refl _) mV_X14_loop m_2600 (recv_ob obM_0) rfl rfl (Nat.le_of_ble_eq_true rfl) d_X14_forStatement_140 (kV (fun s140 t140 z140 w24 => ?_)) (fun σ9 τ9 vs9 h9 => g_out hF stopM rfl h9)
        refine g_aload_n hF d_X14_forStatement_143 rfl 0 rfl ?_
        refine g_get (v := .int (s140 0 58)) hF 58 obM_0 (by decide) m_1923 rfl d_X14_forStatement_144 ?_
        refine g_istore hF [(7, .int (s140 0 58)), (0, .ref (r 0)), (1, .int a1), (2, .int a2), (3, .int (s32 0 17)), (4, .int x4_83), (5, .int v92), (6, .int (s92 0 17))] d_X14_forStatement_147 hnn (by decide) rfl ?_
        refine g_aload_n hF d_X14_forStatement_149 rfl 1 rfl ?_
        refine g_aload_n hF d_X14_forStatement_150 rfl 1 rfl ?_
        refine g_get (v := .int (s140 0 60)) hF 60 obM_0 (by decide) m_1925 rfl d_X14_forStatement_151 ?_
        refine g_put (v := (s140 0 60)) hF 58 obM_0 (by decide) m_1923 rfl rfl rfl d_X14_forStatement_154 ?_
        refine g_aload_n hF d_X14_forStatement_157 rfl 1 rfl ?_
        refine g_bipush hF (v := 15) d_X14_forStatement_158 (by decide) ?_
        refine g_iload hF d_X14_forStatement_160 7 rfl ?_
        refine g_cap (fun hc24 => ?_)
        refine g_callV (As := [.int 15, .int (s92 0 17)]) (rest := []) hF (fun l D cy => (ct_put_1 a r hc24 w24) l D cy) (Nat.add_le_add_right (Nat.le_trans (Nat.le_of_ble_eq_true rfl) hdK) 1) mV_X14_put_1 m_2433 (recv_ob obM_0) rfl rfl (Nat.le_of_ble_eq_true rfl) d_X14_forStatement_162 (kV (fun s162 t162 z162 w26 => ?_)) (fun _ _ _ h => h.elim)
        refine g_iload hF d_X14_forStatement_165 5 rfl ?_
        obtain ⟨J176, h176, w27⟩ := w26
        have b176 : ∀ (s176 t176 : St) (z176 : List Nat), J176 s176 t176 z176 → G SM r X s176 t176 z176 [(0, .ref (r 0)), (7, .int (s140 0 58))] [] 176 := by
          intro s176 t176 z176  w176_
          have w176_ := h176 s176 t176 z176  w176_
          refine g_aload_n hF d_X14_forStatement_176 rfl 0 rfl ?_
          refine g_iload hF d_X14_forStatement_177 1 rfl ?_
          refine g_aload_n hF d_X14_forStatement_179 rfl 0 rfl ?_
          refine g_get (v := .int (s176 0 17)) hF 17 obM_0 (by decide) m_1882 rfl d_X14_forStatement_180 ?_
          refine g_cap (fun hc27 => ?_)
          refine g_callV (As := [.int (s140 0 58), .int (s176 0 17)]) (rest := []) hF (fun l D cy => (ct_aimAll a r hc27 w176_) l D cy) (Nat.add_le_add_right (Nat.le_trans (Nat.le_of_ble_eq_true rfl) hdK) 1) mV_X14_aimAll m_2604 (recv_ob obM_0) rfl rfl (Nat.le_of_ble_eq_true rfl) d_X14_forStatement_183 (kV (fun s183 t183 z183 w29 => ?_)) (fun _ _ _ h => h.elim)
          exact g_vret hF rfl d_X14_forStatement_186 ⟨rfl, w29⟩
        refine g_if_lt hF 176 d_X14_forStatement_167 (by decide) rfl (fun c => ?_) (fun c => ?_)
        · have w30 := w27.1 c
          exact g_sub (L' := [(0, .ref (r 0)), (7, .int (s140 0 58))]) [1, 0] rfl (b176 s162 t162 z162 w30)
        · have w31 := w27.2 c
          refine g_aload_n hF d_X14_forStatement_170 rfl 1 rfl ?_
          refine g_iload hF d_X14_forStatement_171 5 rfl ?_
          refine g_cap (fun hc31 => ?_)
          refine g_callV (As := [.int x4_83]) (rest := []) hF (fun l D cy => (ct_aim a r hc31 w31) l D cy) (Nat.add_le_add_right (Nat.le_trans (Nat.le_of_ble_eq_true rfl) hdK) 1) mV_X14_aim m_2524 (recv_ob obM_0) rfl rfl (Nat.le_of_ble_eq_true rfl) d_X14_forStatement_173 (kV (fun s173 t173 z173 w33 => ?_)) (fun _ _ _ h => h.elim)
          exact g_sub (L' := [(0, .ref (r 0)), (7, .int (s140 0 58))]) [1, 0] rfl (b176 s173 t173 z173 w33)
      refine g_if_ne hF 116 d_X14_forStatement_109 (by decide) rfl (fun c => ?_) (fun c => ?_)
      · have w34 := w16.1 c
        exact g_sub (L' := [(0, .ref (r 0)), (1, .int a1), (2, .int a2), (3, .int (s32 0 17)), (4, .int x4_83), (5, .int v92), (6, .int (s92 0 17))]) [2, 3, 4, 5, 6, 1, 0] rfl (b116 s92 t92 z92 w34)
      · have w35 := w16.2 c
        refine g_aload_n hF d_X14_forStatement_112 rfl 2 rfl ?_
        refine g_callV (As := []) (rest := []) hF (fun l D cy => (ct_plain a r hc13 w35) l D cy) (Nat.add_le_add_right (Nat.le_trans (Nat.le_of_ble_eq_true rfl) hdK) 1) mV_X14_plain m_2616 (recv_ob obM_0) rfl rfl (Nat.le_of_ble_eq_true rfl) d_X14_forStatement_113 (kV (fun s113 t113 z113 w36 => ?_)) (fun σ9 τ9 vs9 h9 => g_out hF stopM rfl h9)
        exact g_sub (L' := [(0, .ref (r 0)), (1, .int a1), (2, .int a2), (3, .int (s32 0 17)), (4, .int x4_83), (5, .int v92), (6, .int (s92 0 17))]) [2, 3, 4, 5, 6, 1, 0] rfl (b116 s113 t113 z113 w36)
    refine g_if_ne hF 83 d_X14_forStatement_49 (by decide) rfl (fun c => ?_) (fun c => ?_)
    · have w37 := w9.1 c
      exact g_sub (L' := [(0, .ref (r 0)), (1, .int a1), (2, .int a2), (3, .int (s32 0 17)), (4, .int (-1))]) [2, 3, 4, 1, 0] rfl (b83 ((-1) : Int32) s32 t32 z32 w37)
    · have w38 := w9.2 c
      refine g_aload_n hF d_X14_forStatement_52 rfl 2 rfl ?_
      refine g_iconst hF (v := 1) d_X14_forStatement_53 (by decide) ?_
      refine g_callV (As := [.int 1]) (rest := []) hF (fun l D cy => (ctE_expression a r hc6 w38) l D cy) (Nat.add_le_add_right (Nat.le_trans (Nat.le_of_ble_eq_true rfl) hdK) 1) mV_X14_expression m_2361 (recv_ob obM_0) rfl rfl (Nat.le_of_ble_eq_true rfl) d_X14_forStatement_54 (kA (fun u54 s54 t54 z54 w39 => ?_)) (fun σ9 τ9 vs9 h9 => g_out hF stopM rfl h9)
      refine g_astore hF [(5, .ref u54), (4, .int (-1)), (3, .int (s32 0 17)), (0, .ref (r 0)), (1, .int a1), (2, .int a2)] d_X14_forStatement_57 hnn (by decide) rfl ?_
      refine g_aload_n hF d_X14_forStatement_59 rfl 3 rfl ?_
      refine g_aload hF d_X14_forStatement_60 0 rfl ?_
      refine g_cap (fun hc39 => ?_)
      refine g_callV (As := [.ref u54]) (rest := []) hF (fun l D cy => (ct_read_1 a r hc39 w39) l D cy) (Nat.add_le_add_right (Nat.le_trans (Nat.le_of_ble_eq_true rfl) hdK) 1) mV_X14_read_1 m_2453 (recv_ob obM_0) rfl rfl (Nat.le_of_ble_eq_true rfl) d_X14_forStatement_62 (kV (fun s62 t62 z62 w41 => ?_)) (fun _ _ _ h => h.elim)
      refine g_aload_n hF d_X14_forStatement_65 rfl 3 rfl ?_
      refine g_aload hF d_X14_forStatement_66 0 rfl ?_
      refine g_cap (fun hc41 => ?_)
      refine g_callS (As := [.ref u54]) (rest := [.ref (r 0)]) hF (fun l D cy => (ct_isAny a r hc41 w41) l D cy) (Nat.add_le_add_right (Nat.le_trans (Nat.le_of_ble_eq_true rfl) hdK) 1) mS_X14_isAny m_2468 rfl rfl (Nat.le_of_ble_eq_true rfl) d_X14_forStatement_68 (krZ (fun v68 hz68 w43 => ?_)) (fun _ _ _ h => h.elim)
      refine g_iload_n hF d_X14_forStatement_71 rfl 5 rfl ?_
      refine g_callV (As := [.int v68, .int a2]) (rest := []) hF (fun l D cy => (ct_must a r hc41 w43) l D cy) (Nat.add_le_add_right (Nat.le_trans (Nat.le_of_ble_eq_true rfl) hdK) 1) mV_X14_must m_2313 (recv_ob obM_0) rfl rfl (Nat.le_of_ble_eq_true rfl) d_X14_forStatement_72 (kV (fun s72 t72 z72 w44 => ?_)) (fun _ _ _ h => h.elim)
      refine g_aload_n hF d_X14_forStatement_75 rfl 3 rfl ?_
      refine g_bipush hF (v := 16) d_X14_forStatement_76 (by decide) ?_
      refine g_cap (fun hc44 => ?_)
      refine g_callV (As := [.int 16]) (rest := []) hF (fun l D cy => (ct_open a r hc44 w44) l D cy) (Nat.add_le_add_right (Nat.le_trans (Nat.le_of_ble_eq_true rfl) hdK) 1) mV_X14_open m_2520 (recv_ob obM_0) rfl rfl (Nat.le_of_ble_eq_true rfl) d_X14_forStatement_78 (kI (fun v78 s78 t78 z78 w46 => ?_)) (fun _ _ _ h => h.elim)
      refine g_istore hF [(4, .int v78), (5, .ref u54), (3, .int (s32 0 17)), (0, .ref (r 0)), (1, .int a1), (2, .int a2)] d_X14_forStatement_81 hnn (by decide) rfl ?_
      exact g_sub (L' := [(0, .ref (r 0)), (1, .int a1), (2, .int a2), (3, .int (s32 0 17)), (4, .int v78)]) [3, 4, 5, 2, 0] rfl (b83 v78 s78 t78 z78 w46)
  refine g_if_ne hF 29 d_X14_forStatement_22 (by decide) rfl (fun c => ?_) (fun c => ?_)
  · have w47 := w4.1 c
    exact b29 s13 t13 z13 w47
  · have w48 := w4.2 c
    refine g_aload_n hF d_X14_forStatement_25 rfl 0 rfl ?_
    refine g_callV (As := []) (rest := []) hF (fun l D cy => (ct_plain a r hc1 w48) l D cy) (Nat.add_le_add_right (Nat.le_trans (Nat.le_of_ble_eq_true rfl) hdK) 1) mV_X14_plain m_2616 (recv_ob obM_0) rfl rfl (Nat.le_of_ble_eq_true rfl) d_X14_forStatement_26 (kV (fun s26 t26 z26 w49 => ?_)) (fun σ9 τ9 vs9 h9 => g_out hF stopM rfl h9)
    exact b29 s26 t26 z26 w49
def wp_run (a1 : Int32) (σ τ : St) (vs : List Nat) (Q : Int32 → St → St → List Nat → Prop) : Prop :=
  (0 ≤ (σ 0 70).toInt → (a1.toInt < 0 → Q ((-2) : Int32) σ τ vs) ∧ (0 ≤ a1.toInt → (a1.toInt ≤ 20000 → ∃ L25 : Nat → Int32 → St → St → List Nat → Prop, (∃ n, L25 n (0 : Int32) σ τ vs) ∧ ∀ (n25 : Nat) (x2_25 : Int32) (s25 t25 : St) (z25 : List Nat), L25 n25 x2_25 s25 t25 z25 → ((32768 ≤ x2_25.toInt → wp_enter (s25 0 78) (0 : Int32) (0 : Int32) (0 : Int32) (upC (upC (upC (upC (upC (upC (upC (upC (upC (upC (upC s25 0 98 (1 : Int32)) 0 93 a1) 0 89 (0 : Int32)) 0 91 (0 : Int32)) 0 92 (0 : Int32)) 0 94 (0 : Int32)) 0 95 (0 : Int32)) 0 96 (0 : Int32)) 0 81 (0 : Int32)) 0 86 (0 : Int32)) 0 97 ((-1) : Int32)) t25 z25 (fun s125 t125 z125 => (∃ J148 : Int32 → Prop, (∀ (y0_148 : Int32), J148 y0_148 → (∃ L149 : Nat → Int32 → St → St → List Nat → Prop, (∃ n, L149 n y0_148 s125 t125 z125) ∧ ∀ (n149 : Nat) (x2_149 : Int32) (s149 t149 : St) (z149 : List Nat), L149 n149 x2_149 s149 t149 z149 → ((0 ≤ (s149 0 97).toInt → Q (s149 0 97) (upC s149 0 88 (0 : Int32)) t149 z149) ∧ ((s149 0 97).toInt < 0 → wp_step x2_149 s149 t149 z149 (fun v158 s158 t158 z158 => ∃ m, m < n149 ∧ L149 m v158 s158 t158 z158))))) ∧ (0 ≤ (s125 0 97).toInt → J148 (0 : Int32)) ∧ ((s125 0 97).toInt < 0 → ((0 ≤ (s125 0 78).toInt ∧ (s125 0 78).toInt < 10000) ∧ J148 (s125 26 (s125 0 78).toNatClampNeg)))))) ∧ (x2_25.toInt < 32768 → (∃ J55 : Int32 → Prop, (∀ (y2_55 : Int32), J55 y2_55 → (((0 ≤ x2_25.toInt ∧ x2_25.toInt < 32768) ∧ ∃ m, m < n25 ∧ L25 m (x2_25 + 1) (upC s25 46 x2_25.toNatClampNeg y2_55) t25 z25))) ∧ (16016 ≤ x2_25.toInt → J55 (0 : Int32)) ∧ (x2_25.toInt < 16016 → ((0 ≤ x2_25.toInt ∧ x2_25.toInt < 16016) ∧ J55 (s25 45 x2_25.toNatClampNeg))))))) ∧ (20000 < a1.toInt → Q ((-2) : Int32) σ τ vs))) ∧ ((σ 0 70).toInt < 0 → Q ((-1) : Int32) σ τ vs)
set_option maxHeartbeats 4000000 in
set_option maxRecDepth 100000 in
theorem ct_run (a : Nat → Nat) (r : Nat → Nat) {a1 : Int32} {σ τ : St} {vs : List Nat} {Q : Int32 → St → St → List Nat → Prop} (hcap : vs.length ≤ CAP) (w : wp_run a1 σ τ vs Q) (l : Launch) (D : va_G) (cy : Nat → ClassId) : Ct l D cy SM r (EM a) y_X14_run (Cond.code y_X14_run b_X14_run 3 (some .int)) 8 [.ref (r 0), .int a1] σ τ vs (QIs Q) QT0 := by
  unfold wp_run at w
  refine Ct_of (EM_ok a) (by decide) (Nat.le_of_ble_eq_true rfl) hcap (fun X hnn hF => ?_)
  show G SM r X σ τ vs [(0, .ref (r 0)), (1, .int a1)] [] 0
  refine g_aload_n hF d_X14_run_0 rfl 0 rfl ?_
  refine g_get (v := .int (σ 0 70)) hF 70 obM_0 (by decide) m_1935 rfl d_X14_run_1 ?_
  refine g_if_ge hF 9 d_X14_run_4 (by decide) rfl (fun c => ?_) (fun c => ?_)
  · have w1 := w.1 c
    refine g_iload_n hF d_X14_run_9 rfl 1 rfl ?_
    refine g_if_lt hF 20 d_X14_run_10 (by decide) rfl (fun c => ?_) (fun c => ?_)
    · have w2 := w1.1 c
      refine g_bipush hF (v := (-2)) d_X14_run_20 (by decide) ?_
      exact g_iret hF rfl d_X14_run_22 ⟨((-2) : Int32), rfl, w2⟩
    · have w3 := w1.2 c
      refine g_iload_n hF d_X14_run_13 rfl 1 rfl ?_
      refine g_sipush hF (v := 20000) d_X14_run_14 (by decide) ?_
      refine g_icmp_le (yv := 20000) hF 23 d_X14_run_17 (by decide) rfl (by decide) (fun c => ?_) (fun c => ?_)
      · have w4 := w3.1 c
        refine g_iconst hF (v := 0) d_X14_run_23 (by decide) ?_
        refine g_istore_n hF [(2, .int 0), (0, .ref (r 0)), (1, .int a1)] d_X14_run_24 rfl hnn (by decide) rfl ?_
        obtain ⟨L25, ⟨i25, u25⟩, h25⟩ := w4
        have b25 : ∀ (n25 : Nat) (x2_25 : Int32) (s25 t25 : St) (z25 : List Nat), L25 n25 x2_25 s25 t25 z25 → G SM r X s25 t25 z25 [(0, .ref (r 0)), (1, .int a1), (2, .int x2_25)] [] 25 := by
          intro n25
          induction n25 using Nat.strongRecOn with
          | _ n25 ih25 =>
            intro x2_25 s25 t25 z25  w25_
            have w25_ := h25 n25 x2_25 s25 t25 z25  w25_
            refine g_iload_n hF d_X14_run_25 rfl 2 rfl ?_
            refine g_ldc (v := 32768) hF m_1863 d_X14_run_26 ?_
            refine g_icmp_ge (yv := 32768) hF 62 d_X14_run_28 (by decide) rfl (by decide) (fun c => ?_) (fun c => ?_)
            · have w5 := w25_.1 c
              refine g_aload_n hF d_X14_run_62 rfl 0 rfl ?_
              refine g_iconst hF (v := 1) d_X14_run_63 (by decide) ?_
              refine g_putZ (v := 1) hF 98 obM_0 (by decide) m_1963 rfl rfl rfl (Or.inr rfl) d_X14_run_64 ?_
              refine g_aload_n hF d_X14_run_67 rfl 0 rfl ?_
              refine g_iload_n hF d_X14_run_68 rfl 1 rfl ?_
              refine g_put (v := a1) hF 93 obM_0 (by decide) m_1958 rfl rfl rfl d_X14_run_69 ?_
              refine g_aload_n hF d_X14_run_72 rfl 0 rfl ?_
              refine g_iconst hF (v := 0) d_X14_run_73 (by decide) ?_
              refine g_put (v := 0) hF 89 obM_0 (by decide) m_1954 rfl rfl rfl d_X14_run_74 ?_
              refine g_aload_n hF d_X14_run_77 rfl 0 rfl ?_
              refine g_iconst hF (v := 0) d_X14_run_78 (by decide) ?_
              refine g_put (v := 0) hF 91 obM_0 (by decide) m_1956 rfl rfl rfl d_X14_run_79 ?_
              refine g_aload_n hF d_X14_run_82 rfl 0 rfl ?_
              refine g_iconst hF (v := 0) d_X14_run_83 (by decide) ?_
              refine g_put (v := 0) hF 92 obM_0 (by decide) m_1957 rfl rfl rfl d_X14_run_84 ?_
              refine g_aload_n hF d_X14_run_87 rfl 0 rfl ?_
              refine g_iconst hF (v := 0) d_X14_run_88 (by decide) ?_
              refine g_put (v := 0) hF 94 obM_0 (by decide) m_1959 rfl rfl rfl d_X14_run_89 ?_
              refine g_aload_n hF d_X14_run_92 rfl 0 rfl ?_
              refine g_iconst hF (v := 0) d_X14_run_93 (by decide) ?_
              refine g_put (v := 0) hF 95 obM_0 (by decide) m_1960 rfl rfl rfl d_X14_run_94 ?_
              refine g_aload_n hF d_X14_run_97 rfl 0 rfl ?_
              refine g_iconst hF (v := 0) d_X14_run_98 (by decide) ?_
              refine g_put (v := 0) hF 96 obM_0 (by decide) m_1961 rfl rfl rfl d_X14_run_99 ?_
              refine g_aload_n hF d_X14_run_102 rfl 0 rfl ?_
              refine g_iconst hF (v := 0) d_X14_run_103 (by decide) ?_
              refine g_put (v := 0) hF 81 obM_0 (by decide) m_1946 rfl rfl rfl d_X14_run_104 ?_
              refine g_aload_n hF d_X14_run_107 rfl 0 rfl ?_
              refine g_iconst hF (v := 0) d_X14_run_108 (by decide) ?_
              refine g_put (v := 0) hF 86 obM_0 (by decide) m_1951 rfl rfl rfl d_X14_run_109 ?_
              refine g_aload_n hF d_X14_run_112 rfl 0 rfl ?_
              refine g_iconst hF (v := (-1)) d_X14_run_113 (by decide) ?_
              refine g_put (v := (-1)) hF 97 obM_0 (by decide) m_1962 rfl rfl rfl d_X14_run_114 ?_
              refine g_aload_n hF d_X14_run_117 rfl 0 rfl ?_
              refine g_aload_n hF d_X14_run_118 rfl 0 rfl ?_
              refine g_get (v := .int (s25 0 78)) hF 78 obM_0 (by decide) m_1943 rfl d_X14_run_119 ?_
              refine g_iconst hF (v := 0) d_X14_run_122 (by decide) ?_
              refine g_iconst hF (v := 0) d_X14_run_123 (by decide) ?_
              refine g_iconst hF (v := 0) d_X14_run_124 (by decide) ?_
              refine g_cap (fun hc5 => ?_)
              refine g_callV (As := [.int (s25 0 78), .int 0, .int 0, .int 0]) (rest := []) hF (fun l D cy => (ct_enter a r hc5 w5) l D cy) (Nat.le_of_ble_eq_true rfl) mV_X14_enter m_2741 (recv_ob obM_0) rfl rfl (Nat.le_of_ble_eq_true rfl) d_X14_run_125 (kV (fun s125 t125 z125 w7 => ?_)) (fun _ _ _ h => h.elim)
              refine g_aload_n hF d_X14_run_128 rfl 0 rfl ?_
              refine g_get (v := .int (s125 0 97)) hF 97 obM_0 (by decide) m_1962 rfl d_X14_run_129 ?_
              obtain ⟨J148, h148, w8⟩ := w7
              have b148 : ∀ (y0_148 : Int32), J148 y0_148 → G SM r X s125 t125 z125 [(0, .ref (r 0))] [.int y0_148] 148 := by
                intro y0_148  w148_
                have w148_ := h148 y0_148  w148_
                refine g_istore_n hF [(2, .int y0_148), (0, .ref (r 0))] d_X14_run_148 rfl hnn (by decide) rfl ?_
                obtain ⟨L149, ⟨i149, u149⟩, h149⟩ := w148_
                have b149 : ∀ (n149 : Nat) (x2_149 : Int32) (s149 t149 : St) (z149 : List Nat), L149 n149 x2_149 s149 t149 z149 → G SM r X s149 t149 z149 [(0, .ref (r 0)), (2, .int x2_149)] [] 149 := by
                  intro n149
                  induction n149 using Nat.strongRecOn with
                  | _ n149 ih149 =>
                    intro x2_149 s149 t149 z149  w149_
                    have w149_ := h149 n149 x2_149 s149 t149 z149  w149_
                    refine g_aload_n hF d_X14_run_149 rfl 0 rfl ?_
                    refine g_get (v := .int (s149 0 97)) hF 97 obM_0 (by decide) m_1962 rfl d_X14_run_150 ?_
                    refine g_if_ge hF 165 d_X14_run_153 (by decide) rfl (fun c => ?_) (fun c => ?_)
                    · have w9 := w149_.1 c
                      refine g_aload_n hF d_X14_run_165 rfl 0 rfl ?_
                      refine g_iconst hF (v := 0) d_X14_run_166 (by decide) ?_
                      refine g_put (v := 0) hF 88 obM_0 (by decide) m_1953 rfl rfl rfl d_X14_run_167 ?_
                      refine g_aload_n hF d_X14_run_170 rfl 0 rfl ?_
                      refine g_get (v := .int (s149 0 97)) hF 97 obM_0 (by decide) m_1962 rfl d_X14_run_171 ?_
                      exact g_iret hF rfl d_X14_run_174 ⟨(s149 0 97), rfl, w9⟩
                    · have w10 := w149_.2 c
                      refine g_aload_n hF d_X14_run_156 rfl 0 rfl ?_
                      refine g_iload_n hF d_X14_run_157 rfl 1 rfl ?_
                      refine g_cap (fun hc10 => ?_)
                      refine g_callV (As := [.int x2_149]) (rest := []) hF (fun l D cy => (ct_step a r hc10 w10) l D cy) (Nat.le_of_ble_eq_true rfl) mV_X14_step m_2761 (recv_ob obM_0) rfl rfl (Nat.le_of_ble_eq_true rfl) d_X14_run_158 (kI (fun v158 s158 t158 z158 w12 => ?_)) (fun _ _ _ h => h.elim)
                      refine g_istore_n hF [(2, .int v158), (0, .ref (r 0))] d_X14_run_161 rfl hnn (by decide) rfl ?_
                      refine g_goto hF 149 d_X14_run_162 (by decide) ?_
                      obtain ⟨m149, hm149, w9⟩ := w12
                      exact g_sub (L' := [(0, .ref (r 0)), (2, .int v158)]) [1, 0] rfl (ih149 m149 hm149 v158 s158 t158 z158 w9)
                exact g_sub (L' := [(0, .ref (r 0)), (2, .int y0_148)]) [1, 0] rfl (b149 i149 y0_148 s125 t125 z125 u149)
              refine g_if_ge hF 147 d_X14_run_132 (by decide) rfl (fun c => ?_) (fun c => ?_)
              · have w13 := w8.1 c
                refine g_iconst hF (v := 0) d_X14_run_147 (by decide) ?_
                exact g_sub (L' := [(0, .ref (r 0))]) [0] rfl (b148 (0 : Int32) w13)
              · have w14 := w8.2 c
                refine g_aload_n hF d_X14_run_135 rfl 0 rfl ?_
                refine g_get (v := .ref (r 26)) hF 40 obM_0 (by decide) m_1905 rfl d_X14_run_136 ?_
                refine g_aload_n hF d_X14_run_139 rfl 0 rfl ?_
                refine g_get (v := .int (s125 0 78)) hF 78 obM_0 (by decide) m_1943 rfl d_X14_run_140 ?_
                have w15 := w14.2
                refine g_iald hF arM_26 (s_in (Nat.le_of_ble_eq_true rfl) w14.1.1 w14.1.2) d_X14_run_143 ?_
                refine g_top (v := (s125 26 (s125 0 78).toNatClampNeg)) rfl ?_
                refine g_goto hF 148 d_X14_run_144 (by decide) ?_
                exact g_sub (L' := [(0, .ref (r 0))]) [0] rfl (b148 (s125 26 (s125 0 78).toNatClampNeg) w15)
            · have w16 := w25_.2 c
              refine g_aload_n hF d_X14_run_31 rfl 0 rfl ?_
              refine g_get (v := .ref (r 46)) hF 79 obM_0 (by decide) m_1944 rfl d_X14_run_32 ?_
              refine g_iload_n hF d_X14_run_35 rfl 2 rfl ?_
              refine g_iload_n hF d_X14_run_36 rfl 2 rfl ?_
              refine g_aload_n hF d_X14_run_37 rfl 0 rfl ?_
              refine g_get (v := .ref (r 45)) hF 77 obM_0 (by decide) m_1942 rfl d_X14_run_38 ?_
              refine g_alen hF arM_45 (fun _ => ⟨1, _, rfl⟩) (v := 16016) (by decide) d_X14_run_41 ?_
              obtain ⟨J55, h55, w17⟩ := w16
              have b55 : ∀ (y2_55 : Int32), J55 y2_55 → G SM r X s25 t25 z25 [(0, .ref (r 0)), (1, .int a1), (2, .int x2_25)] [.int y2_55, .int x2_25, .ref (r 46)] 55 := by
                intro y2_55  w55_
                have w55_ := h55 y2_55  w55_
                have w18 := w55_.2
                refine g_iast hF arM_46 (s_in (Nat.le_of_ble_eq_true rfl) w55_.1.1 w55_.1.2) d_X14_run_55 ?_
                refine g_iinc hF (x2_25 + 1) [(2, .int (x2_25 + 1)), (0, .ref (r 0)), (1, .int a1)] d_X14_run_56 2 rfl rfl hnn (by decide) rfl ?_
                refine g_goto hF 25 d_X14_run_59 (by decide) ?_
                obtain ⟨m25, hm25, w9⟩ := w18
                exact g_sub (L' := [(0, .ref (r 0)), (1, .int a1), (2, .int (x2_25 + 1))]) [1, 2, 0] rfl (ih25 m25 hm25 (x2_25 + 1) (upC s25 46 x2_25.toNatClampNeg y2_55) t25 z25 w9)
              refine g_icmp_ge (yv := 16016) hF 54 d_X14_run_42 (by decide) rfl (by decide) (fun c => ?_) (fun c => ?_)
              · have w19 := w17.1 c
                refine g_iconst hF (v := 0) d_X14_run_54 (by decide) ?_
                exact b55 (0 : Int32) w19
              · have w20 := w17.2 c
                refine g_aload_n hF d_X14_run_45 rfl 0 rfl ?_
                refine g_get (v := .ref (r 45)) hF 77 obM_0 (by decide) m_1942 rfl d_X14_run_46 ?_
                refine g_iload_n hF d_X14_run_49 rfl 2 rfl ?_
                have w21 := w20.2
                refine g_iald hF arM_45 (s_in (Nat.le_of_ble_eq_true rfl) w20.1.1 w20.1.2) d_X14_run_50 ?_
                refine g_top (v := (s25 45 x2_25.toNatClampNeg)) rfl ?_
                refine g_goto hF 55 d_X14_run_51 (by decide) ?_
                exact b55 (s25 45 x2_25.toNatClampNeg) w21
        exact g_sub (L' := [(0, .ref (r 0)), (1, .int a1), (2, .int 0)]) [1, 2, 0] rfl (b25 i25 (0 : Int32) σ τ vs u25)
      · have w22 := w3.2 c
        refine g_bipush hF (v := (-2)) d_X14_run_20 (by decide) ?_
        exact g_iret hF rfl d_X14_run_22 ⟨((-2) : Int32), rfl, w22⟩
  · have w23 := w.2 c
    refine g_iconst hF (v := (-1)) d_X14_run_7 (by decide) ?_
    exact g_iret hF rfl d_X14_run_8 ⟨((-1) : Int32), rfl, w23⟩
