def wp_stepMore (a1 : Int32) (a2 : Int32) (σ τ : St) (vs : List Nat) (Q : Int32 → St → St → List Nat → Prop) : Prop :=
  ((0 ≤ a1.toInt ∧ a1.toInt < 524288) ∧ ((σ 8 a1.toNatClampNeg).toInt = 5 → wp_pop σ τ vs (fun v97 s97 t97 z97 => wp_isCell v97 s97 t97 z97 (fun v102 => (v102.toInt = 0 → wp_trapped (2 : Int32) a2 s97 t97 z97 (fun s124 t124 z124 => Q (a1 + (2 : Int32)) s124 t124 z124)) ∧ (v102.toInt ≠ 0 → ((0 ≤ v97.toInt ∧ v97.toInt < 32768) ∧ wp_push (s97 46 v97.toNatClampNeg) s97 t97 z97 (fun s115 t115 z115 => Q (a1 + (2 : Int32)) s115 t115 z115)))))) ∧ (¬ (σ 8 a1.toNatClampNeg).toInt = 5 → ((σ 8 a1.toNatClampNeg).toInt = 6 → wp_pop σ τ vs (fun v132 s132 t132 z132 => wp_pop s132 t132 z132 (fun v137 s137 t137 z137 => wp_isCell v137 s137 t137 z137 (fun v144 => (∃ J167 : St → St → List Nat → Prop, (∀ (s167 t167 : St) (z167 : List Nat), J167 s167 t167 z167 → (wp_push v132 s167 t167 z167 (fun s169 t169 z169 => Q (a1 + (2 : Int32)) s169 t169 z169))) ∧ (v144.toInt = 0 → wp_trapped (2 : Int32) a2 s137 t137 z137 (fun s164 t164 z164 => J167 s164 t164 z164)) ∧ (v144.toInt ≠ 0 → ((0 ≤ v137.toInt ∧ v137.toInt < 32768) ∧ J167 (upC s137 46 v137.toNatClampNeg v132) t137 z137))))))) ∧ (¬ (σ 8 a1.toNatClampNeg).toInt = 6 → ((σ 8 a1.toNatClampNeg).toInt = 7 → ((0 ≤ a1.toInt ∧ a1.toInt < 524288) ∧ (∃ J401 : Int32 → Prop, (∀ (y1_401 : Int32), y1_401 = 0 ∨ y1_401 = 1 → J401 y1_401 → (wp_leave y1_401 σ τ vs (fun v401 s401 t401 z401 => Q v401 s401 t401 z401))) ∧ ((σ 8 a1.toNatClampNeg).toInt ≠ 21 → J401 (0 : Int32)) ∧ ((σ 8 a1.toNatClampNeg).toInt = 21 → J401 (1 : Int32))))) ∧ (¬ (σ 8 a1.toNatClampNeg).toInt = 7 → ((σ 8 a1.toNatClampNeg).toInt = 8 → ((0 ≤ a1.toInt ∧ a1.toInt < 524288) ∧ ((σ 8 a1.toNatClampNeg).toInt ≠ 21 → J401 (0 : Int32)) ∧ ((σ 8 a1.toNatClampNeg).toInt = 21 → J401 (1 : Int32)))) ∧ (¬ (σ 8 a1.toNatClampNeg).toInt = 8 → ((σ 8 a1.toNatClampNeg).toInt = 9 → ((0 ≤ a1.toInt ∧ a1.toInt < 524288) ∧ ((σ 8 a1.toNatClampNeg).toInt ≠ 21 → J401 (0 : Int32)) ∧ ((σ 8 a1.toNatClampNeg).toInt = 21 → J401 (1 : Int32)))) ∧ (¬ (σ 8 a1.toNatClampNeg).toInt = 9 → ((σ 8 a1.toNatClampNeg).toInt = 10 → ((0 ≤ a1.toInt ∧ a1.toInt < 524288) ∧ ((σ 8 a1.toNatClampNeg).toInt ≠ 21 → J401 (0 : Int32)) ∧ ((σ 8 a1.toNatClampNeg).toInt = 21 → J401 (1 : Int32)))) ∧ (¬ (σ 8 a1.toNatClampNeg).toInt = 10 → ((σ 8 a1.toNatClampNeg).toInt = 11 → wp_pop σ τ vs (fun v177 s177 t177 z177 => wp_pop s177 t177 z177 (fun v182 s182 t182 z182 => (∃ J219 : Prop, (J219  → (wp_work a2 v182 v177 s182 t182 z182 (fun v224 => wp_push v224 s182 t182 z182 (fun s227 t227 z227 => Q (a1 + (3 : Int32)) s227 t227 z227)))) ∧ (∃ J199 : Prop, (J199  → ((v177.toInt ≠ 0 → J219) ∧ (v177.toInt = 0 → ((0 ≤ (a1 + (2 : Int32)).toInt ∧ (a1 + (2 : Int32)).toInt < 524288) ∧ wp_trapped (1 : Int32) (s182 8 (a1 + (2 : Int32)).toNatClampNeg) s182 t182 z182 (fun s213 t213 z213 => Q (a1 + (3 : Int32)) s213 t213 z213))))) ∧ (a2.toInt = 39 → J199) ∧ (a2.toInt ≠ 39 → (a2.toInt ≠ 40 → J219) ∧ (a2.toInt = 40 → J199))))))) ∧ (¬ (σ 8 a1.toNatClampNeg).toInt = 11 → ((σ 8 a1.toNatClampNeg).toInt = 12 → ((0 ≤ a1.toInt ∧ a1.toInt < 524288) ∧ ((σ 8 a1.toNatClampNeg).toInt ≠ 21 → J401 (0 : Int32)) ∧ ((σ 8 a1.toNatClampNeg).toInt = 21 → J401 (1 : Int32)))) ∧ (¬ (σ 8 a1.toNatClampNeg).toInt = 12 → ((σ 8 a1.toNatClampNeg).toInt = 13 → ((0 ≤ a1.toInt ∧ a1.toInt < 524288) ∧ ((σ 8 a1.toNatClampNeg).toInt ≠ 21 → J401 (0 : Int32)) ∧ ((σ 8 a1.toNatClampNeg).toInt = 21 → J401 (1 : Int32)))) ∧ (¬ (σ 8 a1.toNatClampNeg).toInt = 13 → ((σ 8 a1.toNatClampNeg).toInt = 14 → ((0 ≤ a1.toInt ∧ a1.toInt < 524288) ∧ ((σ 8 a1.toNatClampNeg).toInt ≠ 21 → J401 (0 : Int32)) ∧ ((σ 8 a1.toNatClampNeg).toInt = 21 → J401 (1 : Int32)))) ∧ (¬ (σ 8 a1.toNatClampNeg).toInt = 14 → ((σ 8 a1.toNatClampNeg).toInt = 15 → ((0 ≤ a1.toInt ∧ a1.toInt < 524288) ∧ ((σ 8 a1.toNatClampNeg).toInt ≠ 21 → J401 (0 : Int32)) ∧ ((σ 8 a1.toNatClampNeg).toInt = 21 → J401 (1 : Int32)))) ∧ (¬ (σ 8 a1.toNatClampNeg).toInt = 15 → ((σ 8 a1.toNatClampNeg).toInt = 16 → ((0 ≤ a1.toInt ∧ a1.toInt < 524288) ∧ ((σ 8 a1.toNatClampNeg).toInt ≠ 21 → J401 (0 : Int32)) ∧ ((σ 8 a1.toNatClampNeg).toInt = 21 → J401 (1 : Int32)))) ∧ (¬ (σ 8 a1.toNatClampNeg).toInt = 16 → ((σ 8 a1.toNatClampNeg).toInt = 17 → ((0 ≤ a1.toInt ∧ a1.toInt < 524288) ∧ ((σ 8 a1.toNatClampNeg).toInt ≠ 21 → J401 (0 : Int32)) ∧ ((σ 8 a1.toNatClampNeg).toInt = 21 → J401 (1 : Int32)))) ∧ (¬ (σ 8 a1.toNatClampNeg).toInt = 17 → ((σ 8 a1.toNatClampNeg).toInt = 18 → ((0 ≤ a1.toInt ∧ a1.toInt < 524288) ∧ ((σ 8 a1.toNatClampNeg).toInt ≠ 21 → J401 (0 : Int32)) ∧ ((σ 8 a1.toNatClampNeg).toInt = 21 → J401 (1 : Int32)))) ∧ (¬ (σ 8 a1.toNatClampNeg).toInt = 18 → ((σ 8 a1.toNatClampNeg).toInt = 19 → ((0 ≤ (a1 + (2 : Int32)).toInt ∧ (a1 + (2 : Int32)).toInt < 524288) ∧ wp_call_1 a1 a2 (σ 8 (a1 + (2 : Int32)).toNatClampNeg) σ τ vs (fun v380 s380 t380 z380 => Q v380 s380 t380 z380))) ∧ (¬ (σ 8 a1.toNatClampNeg).toInt = 19 → ((σ 8 a1.toNatClampNeg).toInt = 20 → ((0 ≤ a1.toInt ∧ a1.toInt < 524288) ∧ ((σ 8 a1.toNatClampNeg).toInt ≠ 21 → J401 (0 : Int32)) ∧ ((σ 8 a1.toNatClampNeg).toInt = 21 → J401 (1 : Int32)))) ∧ (¬ (σ 8 a1.toNatClampNeg).toInt = 20 → ((σ 8 a1.toNatClampNeg).toInt = 21 → ((0 ≤ a1.toInt ∧ a1.toInt < 524288) ∧ ((σ 8 a1.toNatClampNeg).toInt ≠ 21 → J401 (0 : Int32)) ∧ ((σ 8 a1.toNatClampNeg).toInt = 21 → J401 (1 : Int32)))) ∧ (¬ (σ 8 a1.toNatClampNeg).toInt = 21 → ((σ 8 a1.toNatClampNeg).toInt = 22 → wp_pop σ τ vs (fun v235 s235 t235 z235 => wp_isCell v235 s235 t235 z235 (fun v240 => (v240.toInt ≠ 0 → ((0 ≤ v235.toInt ∧ v235.toInt < 32768) ∧ ((0 ≤ (a1 + (2 : Int32)).toInt ∧ (a1 + (2 : Int32)).toInt < 524288) ∧ ((0 ≤ v235.toInt ∧ v235.toInt < 32768) ∧ ((0 ≤ (a1 + (3 : Int32)).toInt ∧ (a1 + (3 : Int32)).toInt < 524288) ∧ (∃ J308 : Int32 → Prop, (∀ (y1_308 : Int32), J308 y1_308 → (wp_push y1_308 (upC s235 46 v235.toNatClampNeg ((s235 46 v235.toNatClampNeg) + (s235 8 (a1 + (2 : Int32)).toNatClampNeg))) t235 z235 (fun s308 t308 z308 => Q (a1 + (4 : Int32)) s308 t308 z308))) ∧ ((s235 8 (a1 + (3 : Int32)).toNatClampNeg).toInt ≠ 0 → ((0 ≤ v235.toInt ∧ v235.toInt < 32768) ∧ ((0 ≤ (a1 + (2 : Int32)).toInt ∧ (a1 + (2 : Int32)).toInt < 524288) ∧ J308 (((upC s235 46 v235.toNatClampNeg ((s235 46 v235.toNatClampNeg) + (s235 8 (a1 + (2 : Int32)).toNatClampNeg))) 46 v235.toNatClampNeg) - (s235 8 (a1 + (2 : Int32)).toNatClampNeg))))) ∧ ((s235 8 (a1 + (3 : Int32)).toNatClampNeg).toInt = 0 → ((0 ≤ v235.toInt ∧ v235.toInt < 32768) ∧ J308 ((upC s235 46 v235.toNatClampNeg ((s235 46 v235.toNatClampNeg) + (s235 8 (a1 + (2 : Int32)).toNatClampNeg))) 46 v235.toNatClampNeg))))))))) ∧ (v240.toInt = 0 → wp_trapped (2 : Int32) a2 s235 t235 z235 (fun s249 t249 z249 => Q (a1 + (4 : Int32)) s249 t249 z249))))) ∧ (¬ (σ 8 a1.toNatClampNeg).toInt = 22 → ((σ 8 a1.toNatClampNeg).toInt = 23 → wp_getLocal a2 σ τ vs (fun v317 => ((0 ≤ (a1 + (2 : Int32)).toInt ∧ (a1 + (2 : Int32)).toInt < 524288) ∧ wp_setLocal a2 (v317 + (σ 8 (a1 + (2 : Int32)).toNatClampNeg)) σ τ vs (fun s333 t333 z333 => ((0 ≤ (a1 + (3 : Int32)).toInt ∧ (a1 + (3 : Int32)).toInt < 524288) ∧ (∃ J362 : Int32 → Prop, (∀ (y1_362 : Int32), J362 y1_362 → (wp_push y1_362 s333 t333 z333 (fun s362 t362 z362 => Q (a1 + (4 : Int32)) s362 t362 z362))) ∧ ((s333 8 (a1 + (3 : Int32)).toNatClampNeg).toInt ≠ 0 → ((0 ≤ (a1 + (2 : Int32)).toInt ∧ (a1 + (2 : Int32)).toInt < 524288) ∧ J362 ((v317 + (σ 8 (a1 + (2 : Int32)).toNatClampNeg)) - (s333 8 (a1 + (2 : Int32)).toNatClampNeg)))) ∧ ((s333 8 (a1 + (3 : Int32)).toNatClampNeg).toInt = 0 → J362 (v317 + (σ 8 (a1 + (2 : Int32)).toNatClampNeg))))))))) ∧ (¬ (σ 8 a1.toNatClampNeg).toInt = 23 → ((0 ≤ a1.toInt ∧ a1.toInt < 524288) ∧ ((σ 8 a1.toNatClampNeg).toInt ≠ 21 → J401 (0 : Int32)) ∧ ((σ 8 a1.toNatClampNeg).toInt = 21 → J401 (1 : Int32)))))))))))))))))))))))
set_option maxHeartbeats 4000000 in
set_option maxRecDepth 100000 in
theorem ct_stepMore (a : Nat → Nat) (r : Nat → Nat) {a1 : Int32} {a2 : Int32} {σ τ : St} {vs : List Nat} {Q : Int32 → St → St → List Nat → Prop} (hcap : vs.length ≤ CAP) (w : wp_stepMore a1 a2 σ τ vs Q) (l : Launch) (D : va_G) (cy : Nat → ClassId) : Ct l D cy SM r (EM a) y_X14_stepMore (Cond.code y_X14_stepMore b_X14_stepMore 5 (some .int)) 6 [.ref (r 0), .int a1, .int a2] σ τ vs (QIs Q) QT0 := by
  unfold wp_stepMore at w
  refine Ct_of (EM_ok a) (by decide) (Nat.le_of_ble_eq_true rfl) hcap (fun X hnn hF => ?_)
  show G SM r X σ τ vs [(0, .ref (r 0)), (1, .int a1), (2, .int a2)] [] 0
  refine g_aload_n hF d_X14_stepMore_0 rfl 0 rfl ?_
  refine g_get (v := .ref (r 8)) hF 16 obM_0 (by decide) m_1881 rfl d_X14_stepMore_1 ?_
  refine g_iload_n hF d_X14_stepMore_4 rfl 1 rfl ?_
  have w1 := w.2
  refine g_iald hF arM_8 (s_in (Nat.le_of_ble_eq_true rfl) w.1.1 w.1.2) d_X14_stepMore_5 ?_
  refine g_top (v := (σ 8 a1.toNatClampNeg)) rfl ?_
  refine (Decidable.em ((σ 8 a1.toNatClampNeg).toInt = 5)).elim (fun q6_0 => ?_) (fun q6_0 => ?_)
  · have w2 := w1.1 q6_0
    refine g_tableIn (off := 90) hF 96 d_X14_stepMore_6 q6_0 (by decide) (by decide) (by decide +kernel) (by decide) ?_
    refine g_aload_n hF d_X14_stepMore_96 rfl 0 rfl ?_
    refine g_callV (As := []) (rest := []) hF (fun l D cy => (ct_pop a r hcap w2) l D cy) (Nat.le_of_ble_eq_true rfl) mV_X14_pop m_2777 (recv_ob obM_0) rfl rfl (Nat.le_of_ble_eq_true rfl) d_X14_stepMore_97 (kI (fun v97 s97 t97 z97 w3 => ?_)) (fun _ _ _ h => h.elim)
    refine g_istore_n hF [(3, .int v97), (0, .ref (r 0)), (1, .int a1), (2, .int a2)] d_X14_stepMore_100 rfl hnn (by decide) rfl ?_
    refine g_iload_n hF d_X14_stepMore_101 rfl 0 rfl ?_
    refine g_cap (fun hc3 => ?_)
    refine g_callS (As := [.int v97]) (rest := []) hF (fun l D cy => (ct_isCell a r hc3 w3) l D cy) (Nat.le_of_ble_eq_true rfl) mS_X14_isCell m_2789 rfl rfl (Nat.le_of_ble_eq_true rfl) d_X14_stepMore_102 (krZ (fun v102 hz102 w5 => ?_)) (fun _ _ _ h => h.elim)
    refine g_if_eq hF 121 d_X14_stepMore_105 (by decide) rfl (fun c => ?_) (fun c => ?_)
    · have w6 := w5.1 c
      refine g_aload_n hF d_X14_stepMore_121 rfl 1 rfl ?_
      refine g_iconst hF (v := 2) d_X14_stepMore_122 (by decide) ?_
      refine g_iload_n hF d_X14_stepMore_123 rfl 3 rfl ?_
      refine g_callV (As := [.int 2, .int a2]) (rest := []) hF (fun l D cy => (ct_trapped a r hc3 w6) l D cy) (Nat.le_of_ble_eq_true rfl) mV_X14_trapped m_2781 (recv_ob obM_0) rfl rfl (Nat.le_of_ble_eq_true rfl) d_X14_stepMore_124 (kV (fun s124 t124 z124 w7 => ?_)) (fun _ _ _ h => h.elim)
      refine g_iload_n hF d_X14_stepMore_127 rfl 2 rfl ?_
      refine g_iconst hF (v := 2) d_X14_stepMore_128 (by decide) ?_
      refine g_iadd hF d_X14_stepMore_129 ?_
      exact g_iret hF rfl d_X14_stepMore_130 ⟨(a1 + (2 : Int32)), rfl, w7⟩
    · have w8 := w5.2 c
      refine g_aload_n hF d_X14_stepMore_108 rfl 1 rfl ?_
      refine g_aload_n hF d_X14_stepMore_109 rfl 1 rfl ?_
      refine g_get (v := .ref (r 46)) hF 79 obM_0 (by decide) m_1944 rfl d_X14_stepMore_110 ?_
      refine g_iload_n hF d_X14_stepMore_113 rfl 0 rfl ?_
      have w9 := w8.2
      refine g_iald hF arM_46 (s_in (Nat.le_of_ble_eq_true rfl) w8.1.1 w8.1.2) d_X14_stepMore_114 ?_
      refine g_top (v := (s97 46 v97.toNatClampNeg)) rfl ?_
      refine g_callV (As := [.int (s97 46 v97.toNatClampNeg)]) (rest := []) hF (fun l D cy => (ct_push a r hc3 w9) l D cy) (Nat.le_of_ble_eq_true rfl) mV_X14_push m_2765 (recv_ob obM_0) rfl rfl (Nat.le_of_ble_eq_true rfl) d_X14_stepMore_115 (kV (fun s115 t115 z115 w10 => ?_)) (fun _ _ _ h => h.elim)
      refine g_goto hF 127 d_X14_stepMore_118 (by decide) ?_
      refine g_iload_n hF d_X14_stepMore_127 rfl 2 rfl ?_
      refine g_iconst hF (v := 2) d_X14_stepMore_128 (by decide) ?_
      refine g_iadd hF d_X14_stepMore_129 ?_
      exact g_iret hF rfl d_X14_stepMore_130 ⟨(a1 + (2 : Int32)), rfl, w10⟩
  have w11 := w1.2 q6_0
  refine (Decidable.em ((σ 8 a1.toNatClampNeg).toInt = 6)).elim (fun q6_1 => ?_) (fun q6_1 => ?_)
  · have w12 := w11.1 q6_1
    refine g_tableIn (off := 125) hF 131 d_X14_stepMore_6 q6_1 (by decide) (by decide) (by decide +kernel) (by decide) ?_
    refine g_aload_n hF d_X14_stepMore_131 rfl 0 rfl ?_
    refine g_callV (As := []) (rest := []) hF (fun l D cy => (ct_pop a r hcap w12) l D cy) (Nat.le_of_ble_eq_true rfl) mV_X14_pop m_2777 (recv_ob obM_0) rfl rfl (Nat.le_of_ble_eq_true rfl) d_X14_stepMore_132 (kI (fun v132 s132 t132 z132 w13 => ?_)) (fun _ _ _ h => h.elim)
    refine g_istore_n hF [(3, .int v132), (0, .ref (r 0)), (1, .int a1), (2, .int a2)] d_X14_stepMore_135 rfl hnn (by decide) rfl ?_
    refine g_aload_n hF d_X14_stepMore_136 rfl 1 rfl ?_
    refine g_cap (fun hc13 => ?_)
    refine g_callV (As := []) (rest := []) hF (fun l D cy => (ct_pop a r hc13 w13) l D cy) (Nat.le_of_ble_eq_true rfl) mV_X14_pop m_2777 (recv_ob obM_0) rfl rfl (Nat.le_of_ble_eq_true rfl) d_X14_stepMore_137 (kI (fun v137 s137 t137 z137 w15 => ?_)) (fun _ _ _ h => h.elim)
    refine g_istore hF [(4, .int v137), (3, .int v132), (0, .ref (r 0)), (1, .int a1), (2, .int a2)] d_X14_stepMore_140 hnn (by decide) rfl ?_
    refine g_iload hF d_X14_stepMore_142 0 rfl ?_
    refine g_cap (fun hc15 => ?_)
    refine g_callS (As := [.int v137]) (rest := []) hF (fun l D cy => (ct_isCell a r hc15 w15) l D cy) (Nat.le_of_ble_eq_true rfl) mS_X14_isCell m_2789 rfl rfl (Nat.le_of_ble_eq_true rfl) d_X14_stepMore_144 (krZ (fun v144 hz144 w17 => ?_)) (fun _ _ _ h => h.elim)
    obtain ⟨J167, h167, w18⟩ := w17
    have b167 : ∀ (s167 t167 : St) (z167 : List Nat), J167 s167 t167 z167 → G SM r X s167 t167 z167 [(0, .ref (r 0)), (1, .int a1), (3, .int v132)] [] 167 := by
      intro s167 t167 z167  w167_
      have w167_ := h167 s167 t167 z167  w167_
      refine g_aload_n hF d_X14_stepMore_167 rfl 0 rfl ?_
      refine g_iload_n hF d_X14_stepMore_168 rfl 2 rfl ?_
      refine g_cap (fun hc18 => ?_)
      refine g_callV (As := [.int v132]) (rest := []) hF (fun l D cy => (ct_push a r hc18 w167_) l D cy) (Nat.le_of_ble_eq_true rfl) mV_X14_push m_2765 (recv_ob obM_0) rfl rfl (Nat.le_of_ble_eq_true rfl) d_X14_stepMore_169 (kV (fun s169 t169 z169 w20 => ?_)) (fun _ _ _ h => h.elim)
      refine g_iload_n hF d_X14_stepMore_172 rfl 1 rfl ?_
      refine g_iconst hF (v := 2) d_X14_stepMore_173 (by decide) ?_
      refine g_iadd hF d_X14_stepMore_174 ?_
      exact g_iret hF rfl d_X14_stepMore_175 ⟨(a1 + (2 : Int32)), rfl, w20⟩
    refine g_if_eq hF 161 d_X14_stepMore_147 (by decide) rfl (fun c => ?_) (fun c => ?_)
    · have w21 := w18.1 c
      refine g_aload_n hF d_X14_stepMore_161 rfl 2 rfl ?_
      refine g_iconst hF (v := 2) d_X14_stepMore_162 (by decide) ?_
      refine g_iload_n hF d_X14_stepMore_163 rfl 4 rfl ?_
      refine g_callV (As := [.int 2, .int a2]) (rest := []) hF (fun l D cy => (ct_trapped a r hc15 w21) l D cy) (Nat.le_of_ble_eq_true rfl) mV_X14_trapped m_2781 (recv_ob obM_0) rfl rfl (Nat.le_of_ble_eq_true rfl) d_X14_stepMore_164 (kV (fun s164 t164 z164 w22 => ?_)) (fun _ _ _ h => h.elim)
      exact g_sub (L' := [(0, .ref (r 0)), (1, .int a1), (3, .int v132)]) [2, 3, 1] rfl (b167 s164 t164 z164 w22)
    · have w23 := w18.2 c
      refine g_aload_n hF d_X14_stepMore_150 rfl 2 rfl ?_
      refine g_get (v := .ref (r 46)) hF 79 obM_0 (by decide) m_1944 rfl d_X14_stepMore_151 ?_
      refine g_iload hF d_X14_stepMore_154 0 rfl ?_
      refine g_iload_n hF d_X14_stepMore_156 rfl 1 rfl ?_
      have w24 := w23.2
      refine g_iast hF arM_46 (s_in (Nat.le_of_ble_eq_true rfl) w23.1.1 w23.1.2) d_X14_stepMore_157 ?_
      refine g_goto hF 167 d_X14_stepMore_158 (by decide) ?_
      exact g_sub (L' := [(0, .ref (r 0)), (1, .int a1), (3, .int v132)]) [2, 3, 1] rfl (b167 (upC s137 46 v137.toNatClampNeg v132) t137 z137 w24)
  have w25 := w11.2 q6_1
  refine (Decidable.em ((σ 8 a1.toNatClampNeg).toInt = 7)).elim (fun q6_2 => ?_) (fun q6_2 => ?_)
  · have w26 := w25.1 q6_2
    refine g_tableIn (off := 378) hF 384 d_X14_stepMore_6 q6_2 (by decide) (by decide) (by decide +kernel) (by decide) ?_
    refine g_aload_n hF d_X14_stepMore_384 rfl 0 rfl ?_
    refine g_aload_n hF d_X14_stepMore_385 rfl 0 rfl ?_
    refine g_get (v := .ref (r 8)) hF 16 obM_0 (by decide) m_1881 rfl d_X14_stepMore_386 ?_
    refine g_iload_n hF d_X14_stepMore_389 rfl 1 rfl ?_
    have w27 := w26.2
    refine g_iald hF arM_8 (s_in (Nat.le_of_ble_eq_true rfl) w26.1.1 w26.1.2) d_X14_stepMore_390 ?_
    refine g_top (v := (σ 8 a1.toNatClampNeg)) rfl ?_
    refine g_bipush hF (v := 21) d_X14_stepMore_391 (by decide) ?_
    obtain ⟨J401, h401, w28⟩ := w27
    have b401 : ∀ (y1_401 : Int32), y1_401 = 0 ∨ y1_401 = 1 → J401 y1_401 → G SM r X σ τ vs [] [.int y1_401, .ref (r 0)] 401 := by
      intro y1_401 hy1_401 w401_
      have w401_ := h401 y1_401 hy1_401 w401_
      refine g_callV (As := [.int y1_401]) (rest := []) hF (fun l D cy => (ct_leave a r hcap w401_) l D cy) (Nat.le_of_ble_eq_true rfl) mV_X14_leave m_2808 (recv_ob obM_0) rfl rfl (Nat.le_of_ble_eq_true rfl) d_X14_stepMore_401 (kI (fun v401 s401 t401 z401 w29 => ?_)) (fun _ _ _ h => h.elim)
      exact g_iret hF rfl d_X14_stepMore_404 ⟨v401, rfl, w29⟩
    refine g_icmp_ne (yv := 21) hF 400 d_X14_stepMore_393 (by decide) rfl (by decide) (fun c => ?_) (fun c => ?_)
    · have w30 := w28.1 c
      refine g_iconst hF (v := 0) d_X14_stepMore_400 (by decide) ?_
      exact g_sub (L' := []) [] rfl (b401 (0 : Int32) (Or.inl rfl) w30)
    · have w31 := w28.2 c
      refine g_iconst hF (v := 1) d_X14_stepMore_396 (by decide) ?_
      refine g_goto hF 401 d_X14_stepMore_397 (by decide) ?_
      exact g_sub (L' := []) [] rfl (b401 (1 : Int32) (Or.inr rfl) w31)
  have w32 := w25.2 q6_2
  refine (Decidable.em ((σ 8 a1.toNatClampNeg).toInt = 8)).elim (fun q6_3 => ?_) (fun q6_3 => ?_)
  · have w33 := w32.1 q6_3
    refine g_tableIn (off := 378) hF 384 d_X14_stepMore_6 q6_3 (by decide) (by decide) (by decide +kernel) (by decide) ?_
    refine g_aload_n hF d_X14_stepMore_384 rfl 0 rfl ?_
    refine g_aload_n hF d_X14_stepMore_385 rfl 0 rfl ?_
    refine g_get (v := .ref (r 8)) hF 16 obM_0 (by decide) m_1881 rfl d_X14_stepMore_386 ?_
    refine g_iload_n hF d_X14_stepMore_389 rfl 1 rfl ?_
    have w34 := w33.2
    refine g_iald hF arM_8 (s_in (Nat.le_of_ble_eq_true rfl) w33.1.1 w33.1.2) d_X14_stepMore_390 ?_
    refine g_top (v := (σ 8 a1.toNatClampNeg)) rfl ?_
    refine g_bipush hF (v := 21) d_X14_stepMore_391 (by decide) ?_
    refine g_icmp_ne (yv := 21) hF 400 d_X14_stepMore_393 (by decide) rfl (by decide) (fun c => ?_) (fun c => ?_)
    · have w35 := w34.1 c
      refine g_iconst hF (v := 0) d_X14_stepMore_400 (by decide) ?_
      exact g_sub (L' := []) [] rfl (b401 (0 : Int32) (Or.inl rfl) w35)
    · have w36 := w34.2 c
      refine g_iconst hF (v := 1) d_X14_stepMore_396 (by decide) ?_
      refine g_goto hF 401 d_X14_stepMore_397 (by decide) ?_
      exact g_sub (L' := []) [] rfl (b401 (1 : Int32) (Or.inr rfl) w36)
  have w37 := w32.2 q6_3
  refine (Decidable.em ((σ 8 a1.toNatClampNeg).toInt = 9)).elim (fun q6_4 => ?_) (fun q6_4 => ?_)
  · have w38 := w37.1 q6_4
    refine g_tableIn (off := 378) hF 384 d_X14_stepMore_6 q6_4 (by decide) (by decide) (by decide +kernel) (by decide) ?_
    refine g_aload_n hF d_X14_stepMore_384 rfl 0 rfl ?_
    refine g_aload_n hF d_X14_stepMore_385 rfl 0 rfl ?_
    refine g_get (v := .ref (r 8)) hF 16 obM_0 (by decide) m_1881 rfl d_X14_stepMore_386 ?_
    refine g_iload_n hF d_X14_stepMore_389 rfl 1 rfl ?_
    have w39 := w38.2
    refine g_iald hF arM_8 (s_in (Nat.le_of_ble_eq_true rfl) w38.1.1 w38.1.2) d_X14_stepMore_390 ?_
    refine g_top (v := (σ 8 a1.toNatClampNeg)) rfl ?_
    refine g_bipush hF (v := 21) d_X14_stepMore_391 (by decide) ?_
    refine g_icmp_ne (yv := 21) hF 400 d_X14_stepMore_393 (by decide) rfl (by decide) (fun c => ?_) (fun c => ?_)
    · have w40 := w39.1 c
      refine g_iconst hF (v := 0) d_X14_stepMore_400 (by decide) ?_
      exact g_sub (L' := []) [] rfl (b401 (0 : Int32) (Or.inl rfl) w40)
    · have w41 := w39.2 c
      refine g_iconst hF (v := 1) d_X14_stepMore_396 (by decide) ?_
      refine g_goto hF 401 d_X14_stepMore_397 (by decide) ?_
      exact g_sub (L' := []) [] rfl (b401 (1 : Int32) (Or.inr rfl) w41)
  have w42 := w37.2 q6_4
  refine (Decidable.em ((σ 8 a1.toNatClampNeg).toInt = 10)).elim (fun q6_5 => ?_) (fun q6_5 => ?_)
  · have w43 := w42.1 q6_5
    refine g_tableIn (off := 378) hF 384 d_X14_stepMore_6 q6_5 (by decide) (by decide) (by decide +kernel) (by decide) ?_
    refine g_aload_n hF d_X14_stepMore_384 rfl 0 rfl ?_
    refine g_aload_n hF d_X14_stepMore_385 rfl 0 rfl ?_
    refine g_get (v := .ref (r 8)) hF 16 obM_0 (by decide) m_1881 rfl d_X14_stepMore_386 ?_
    refine g_iload_n hF d_X14_stepMore_389 rfl 1 rfl ?_
    have w44 := w43.2
    refine g_iald hF arM_8 (s_in (Nat.le_of_ble_eq_true rfl) w43.1.1 w43.1.2) d_X14_stepMore_390 ?_
    refine g_top (v := (σ 8 a1.toNatClampNeg)) rfl ?_
    refine g_bipush hF (v := 21) d_X14_stepMore_391 (by decide) ?_
    refine g_icmp_ne (yv := 21) hF 400 d_X14_stepMore_393 (by decide) rfl (by decide) (fun c => ?_) (fun c => ?_)
    · have w45 := w44.1 c
      refine g_iconst hF (v := 0) d_X14_stepMore_400 (by decide) ?_
      exact g_sub (L' := []) [] rfl (b401 (0 : Int32) (Or.inl rfl) w45)
    · have w46 := w44.2 c
      refine g_iconst hF (v := 1) d_X14_stepMore_396 (by decide) ?_
      refine g_goto hF 401 d_X14_stepMore_397 (by decide) ?_
      exact g_sub (L' := []) [] rfl (b401 (1 : Int32) (Or.inr rfl) w46)
  have w47 := w42.2 q6_5
  refine (Decidable.em ((σ 8 a1.toNatClampNeg).toInt = 11)).elim (fun q6_6 => ?_) (fun q6_6 => ?_)
  · have w48 := w47.1 q6_6
    refine g_tableIn (off := 170) hF 176 d_X14_stepMore_6 q6_6 (by decide) (by decide) (by decide +kernel) (by decide) ?_
    refine g_aload_n hF d_X14_stepMore_176 rfl 0 rfl ?_
    refine g_callV (As := []) (rest := []) hF (fun l D cy => (ct_pop a r hcap w48) l D cy) (Nat.le_of_ble_eq_true rfl) mV_X14_pop m_2777 (recv_ob obM_0) rfl rfl (Nat.le_of_ble_eq_true rfl) d_X14_stepMore_177 (kI (fun v177 s177 t177 z177 w49 => ?_)) (fun _ _ _ h => h.elim)
    refine g_istore_n hF [(3, .int v177), (0, .ref (r 0)), (1, .int a1), (2, .int a2)] d_X14_stepMore_180 rfl hnn (by decide) rfl ?_
    refine g_aload_n hF d_X14_stepMore_181 rfl 1 rfl ?_
    refine g_cap (fun hc49 => ?_)
    refine g_callV (As := []) (rest := []) hF (fun l D cy => (ct_pop a r hc49 w49) l D cy) (Nat.le_of_ble_eq_true rfl) mV_X14_pop m_2777 (recv_ob obM_0) rfl rfl (Nat.le_of_ble_eq_true rfl) d_X14_stepMore_182 (kI (fun v182 s182 t182 z182 w51 => ?_)) (fun _ _ _ h => h.elim)
    refine g_istore hF [(4, .int v182), (3, .int v177), (0, .ref (r 0)), (1, .int a1), (2, .int a2)] d_X14_stepMore_185 hnn (by decide) rfl ?_
    refine g_iload_n hF d_X14_stepMore_187 rfl 4 rfl ?_
    refine g_bipush hF (v := 39) d_X14_stepMore_188 (by decide) ?_
    obtain ⟨J219, h219, w52⟩ := w51
    have b219 : J219  → G SM r X s182 t182 z182 [(0, .ref (r 0)), (1, .int a1), (2, .int a2), (3, .int v177), (4, .int v182)] [] 219 := by
      intro   w219_
      have w219_ := h219   w219_
      refine g_aload_n hF d_X14_stepMore_219 rfl 0 rfl ?_
      refine g_iload_n hF d_X14_stepMore_220 rfl 2 rfl ?_
      refine g_iload hF d_X14_stepMore_221 4 rfl ?_
      refine g_iload_n hF d_X14_stepMore_223 rfl 3 rfl ?_
      refine g_cap (fun hc52 => ?_)
      refine g_callS (As := [.int a2, .int v182, .int v177]) (rest := [.ref (r 0)]) hF (fun l D cy => (ct_work a r hc52 w219_) l D cy) (Nat.le_of_ble_eq_true rfl) mS_X14_work m_2535 rfl rfl (Nat.le_of_ble_eq_true rfl) d_X14_stepMore_224 (krI (fun v224 w54 => ?_)) (fun _ _ _ h => h.elim)
      refine g_callV (As := [.int v224]) (rest := []) hF (fun l D cy => (ct_push a r hc52 w54) l D cy) (Nat.le_of_ble_eq_true rfl) mV_X14_push m_2765 (recv_ob obM_0) rfl rfl (Nat.le_of_ble_eq_true rfl) d_X14_stepMore_227 (kV (fun s227 t227 z227 w55 => ?_)) (fun _ _ _ h => h.elim)
      refine g_iload_n hF d_X14_stepMore_230 rfl 1 rfl ?_
      refine g_iconst hF (v := 3) d_X14_stepMore_231 (by decide) ?_
      refine g_iadd hF d_X14_stepMore_232 ?_
      exact g_iret hF rfl d_X14_stepMore_233 ⟨(a1 + (3 : Int32)), rfl, w55⟩
    obtain ⟨J199, h199, w56⟩ := w52
    have b199 : J199  → G SM r X s182 t182 z182 [(0, .ref (r 0)), (1, .int a1), (2, .int a2), (3, .int v177), (4, .int v182)] [] 199 := by
      intro   w199_
      have w199_ := h199   w199_
      refine g_iload_n hF d_X14_stepMore_199 rfl 3 rfl ?_
      refine g_if_ne hF 219 d_X14_stepMore_200 (by decide) rfl (fun c => ?_) (fun c => ?_)
      · have w57 := w199_.1 c
        exact b219  w57
      · have w58 := w199_.2 c
        refine g_aload_n hF d_X14_stepMore_203 rfl 0 rfl ?_
        refine g_iconst hF (v := 1) d_X14_stepMore_204 (by decide) ?_
        refine g_aload_n hF d_X14_stepMore_205 rfl 0 rfl ?_
        refine g_get (v := .ref (r 8)) hF 16 obM_0 (by decide) m_1881 rfl d_X14_stepMore_206 ?_
        refine g_iload_n hF d_X14_stepMore_209 rfl 1 rfl ?_
        refine g_iconst hF (v := 2) d_X14_stepMore_210 (by decide) ?_
        refine g_iadd hF d_X14_stepMore_211 ?_
        have w59 := w58.2
        refine g_iald hF arM_8 (s_in (Nat.le_of_ble_eq_true rfl) w58.1.1 w58.1.2) d_X14_stepMore_212 ?_
        refine g_top (v := (s182 8 (a1 + (2 : Int32)).toNatClampNeg)) rfl ?_
        refine g_cap (fun hc59 => ?_)
        refine g_callV (As := [.int 1, .int (s182 8 (a1 + (2 : Int32)).toNatClampNeg)]) (rest := []) hF (fun l D cy => (ct_trapped a r hc59 w59) l D cy) (Nat.le_of_ble_eq_true rfl) mV_X14_trapped m_2781 (recv_ob obM_0) rfl rfl (Nat.le_of_ble_eq_true rfl) d_X14_stepMore_213 (kV (fun s213 t213 z213 w61 => ?_)) (fun _ _ _ h => h.elim)
        refine g_goto hF 230 d_X14_stepMore_216 (by decide) ?_
        refine g_iload_n hF d_X14_stepMore_230 rfl 1 rfl ?_
        refine g_iconst hF (v := 3) d_X14_stepMore_231 (by decide) ?_
        refine g_iadd hF d_X14_stepMore_232 ?_
        exact g_iret hF rfl d_X14_stepMore_233 ⟨(a1 + (3 : Int32)), rfl, w61⟩
    refine g_icmp_eq (yv := 39) hF 199 d_X14_stepMore_190 (by decide) rfl (by decide) (fun c => ?_) (fun c => ?_)
    · have w62 := w56.1 c
      exact g_sub (L' := [(0, .ref (r 0)), (1, .int a1), (2, .int a2), (3, .int v177), (4, .int v182)]) [2, 3, 4, 1, 0] rfl (b199  w62)
    · have w63 := w56.2 c
      refine g_iload_n hF d_X14_stepMore_193 rfl 4 rfl ?_
      refine g_bipush hF (v := 40) d_X14_stepMore_194 (by decide) ?_
      refine g_icmp_ne (yv := 40) hF 219 d_X14_stepMore_196 (by decide) rfl (by decide) (fun c => ?_) (fun c => ?_)
      · have w64 := w63.1 c
        exact g_sub (L' := [(0, .ref (r 0)), (1, .int a1), (2, .int a2), (3, .int v177), (4, .int v182)]) [2, 3, 4, 1, 0] rfl (b219  w64)
      · have w65 := w63.2 c
        exact g_sub (L' := [(0, .ref (r 0)), (1, .int a1), (2, .int a2), (3, .int v177), (4, .int v182)]) [2, 3, 4, 1, 0] rfl (b199  w65)
  have w66 := w47.2 q6_6
  refine (Decidable.em ((σ 8 a1.toNatClampNeg).toInt = 12)).elim (fun q6_7 => ?_) (fun q6_7 => ?_)
  · have w67 := w66.1 q6_7
    refine g_tableIn (off := 378) hF 384 d_X14_stepMore_6 q6_7 (by decide) (by decide) (by decide +kernel) (by decide) ?_
    refine g_aload_n hF d_X14_stepMore_384 rfl 0 rfl ?_
    refine g_aload_n hF d_X14_stepMore_385 rfl 0 rfl ?_
    refine g_get (v := .ref (r 8)) hF 16 obM_0 (by decide) m_1881 rfl d_X14_stepMore_386 ?_
    refine g_iload_n hF d_X14_stepMore_389 rfl 1 rfl ?_
    have w68 := w67.2
    refine g_iald hF arM_8 (s_in (Nat.le_of_ble_eq_true rfl) w67.1.1 w67.1.2) d_X14_stepMore_390 ?_
    refine g_top (v := (σ 8 a1.toNatClampNeg)) rfl ?_
    refine g_bipush hF (v := 21) d_X14_stepMore_391 (by decide) ?_
    refine g_icmp_ne (yv := 21) hF 400 d_X14_stepMore_393 (by decide) rfl (by decide) (fun c => ?_) (fun c => ?_)
    · have w69 := w68.1 c
      refine g_iconst hF (v := 0) d_X14_stepMore_400 (by decide) ?_
      exact g_sub (L' := []) [] rfl (b401 (0 : Int32) (Or.inl rfl) w69)
    · have w70 := w68.2 c
      refine g_iconst hF (v := 1) d_X14_stepMore_396 (by decide) ?_
      refine g_goto hF 401 d_X14_stepMore_397 (by decide) ?_
      exact g_sub (L' := []) [] rfl (b401 (1 : Int32) (Or.inr rfl) w70)
  have w71 := w66.2 q6_7
  refine (Decidable.em ((σ 8 a1.toNatClampNeg).toInt = 13)).elim (fun q6_8 => ?_) (fun q6_8 => ?_)
  · have w72 := w71.1 q6_8
    refine g_tableIn (off := 378) hF 384 d_X14_stepMore_6 q6_8 (by decide) (by decide) (by decide +kernel) (by decide) ?_
    refine g_aload_n hF d_X14_stepMore_384 rfl 0 rfl ?_
    refine g_aload_n hF d_X14_stepMore_385 rfl 0 rfl ?_
    refine g_get (v := .ref (r 8)) hF 16 obM_0 (by decide) m_1881 rfl d_X14_stepMore_386 ?_
    refine g_iload_n hF d_X14_stepMore_389 rfl 1 rfl ?_
    have w73 := w72.2
    refine g_iald hF arM_8 (s_in (Nat.le_of_ble_eq_true rfl) w72.1.1 w72.1.2) d_X14_stepMore_390 ?_
    refine g_top (v := (σ 8 a1.toNatClampNeg)) rfl ?_
    refine g_bipush hF (v := 21) d_X14_stepMore_391 (by decide) ?_
    refine g_icmp_ne (yv := 21) hF 400 d_X14_stepMore_393 (by decide) rfl (by decide) (fun c => ?_) (fun c => ?_)
    · have w74 := w73.1 c
      refine g_iconst hF (v := 0) d_X14_stepMore_400 (by decide) ?_
      exact g_sub (L' := []) [] rfl (b401 (0 : Int32) (Or.inl rfl) w74)
    · have w75 := w73.2 c
      refine g_iconst hF (v := 1) d_X14_stepMore_396 (by decide) ?_
      refine g_goto hF 401 d_X14_stepMore_397 (by decide) ?_
      exact g_sub (L' := []) [] rfl (b401 (1 : Int32) (Or.inr rfl) w75)
  have w76 := w71.2 q6_8
  refine (Decidable.em ((σ 8 a1.toNatClampNeg).toInt = 14)).elim (fun q6_9 => ?_) (fun q6_9 => ?_)
  · have w77 := w76.1 q6_9
    refine g_tableIn (off := 378) hF 384 d_X14_stepMore_6 q6_9 (by decide) (by decide) (by decide +kernel) (by decide) ?_
    refine g_aload_n hF d_X14_stepMore_384 rfl 0 rfl ?_
    refine g_aload_n hF d_X14_stepMore_385 rfl 0 rfl ?_
    refine g_get (v := .ref (r 8)) hF 16 obM_0 (by decide) m_1881 rfl d_X14_stepMore_386 ?_
    refine g_iload_n hF d_X14_stepMore_389 rfl 1 rfl ?_
    have w78 := w77.2
    refine g_iald hF arM_8 (s_in (Nat.le_of_ble_eq_true rfl) w77.1.1 w77.1.2) d_X14_stepMore_390 ?_
    refine g_top (v := (σ 8 a1.toNatClampNeg)) rfl ?_
    refine g_bipush hF (v := 21) d_X14_stepMore_391 (by decide) ?_
    refine g_icmp_ne (yv := 21) hF 400 d_X14_stepMore_393 (by decide) rfl (by decide) (fun c => ?_) (fun c => ?_)
    · have w79 := w78.1 c
      refine g_iconst hF (v := 0) d_X14_stepMore_400 (by decide) ?_
      exact g_sub (L' := []) [] rfl (b401 (0 : Int32) (Or.inl rfl) w79)
    · have w80 := w78.2 c
      refine g_iconst hF (v := 1) d_X14_stepMore_396 (by decide) ?_
      refine g_goto hF 401 d_X14_stepMore_397 (by decide) ?_
      exact g_sub (L' := []) [] rfl (b401 (1 : Int32) (Or.inr rfl) w80)
  have w81 := w76.2 q6_9
  refine (Decidable.em ((σ 8 a1.toNatClampNeg).toInt = 15)).elim (fun q6_10 => ?_) (fun q6_10 => ?_)
  · have w82 := w81.1 q6_10
    refine g_tableIn (off := 378) hF 384 d_X14_stepMore_6 q6_10 (by decide) (by decide) (by decide +kernel) (by decide) ?_
    refine g_aload_n hF d_X14_stepMore_384 rfl 0 rfl ?_
    refine g_aload_n hF d_X14_stepMore_385 rfl 0 rfl ?_
    refine g_get (v := .ref (r 8)) hF 16 obM_0 (by decide) m_1881 rfl d_X14_stepMore_386 ?_
    refine g_iload_n hF d_X14_stepMore_389 rfl 1 rfl ?_
    have w83 := w82.2
    refine g_iald hF arM_8 (s_in (Nat.le_of_ble_eq_true rfl) w82.1.1 w82.1.2) d_X14_stepMore_390 ?_
    refine g_top (v := (σ 8 a1.toNatClampNeg)) rfl ?_
    refine g_bipush hF (v := 21) d_X14_stepMore_391 (by decide) ?_
    refine g_icmp_ne (yv := 21) hF 400 d_X14_stepMore_393 (by decide) rfl (by decide) (fun c => ?_) (fun c => ?_)
    · have w84 := w83.1 c
      refine g_iconst hF (v := 0) d_X14_stepMore_400 (by decide) ?_
      exact g_sub (L' := []) [] rfl (b401 (0 : Int32) (Or.inl rfl) w84)
    · have w85 := w83.2 c
      refine g_iconst hF (v := 1) d_X14_stepMore_396 (by decide) ?_
      refine g_goto hF 401 d_X14_stepMore_397 (by decide) ?_
      exact g_sub (L' := []) [] rfl (b401 (1 : Int32) (Or.inr rfl) w85)
  have w86 := w81.2 q6_10
  refine (Decidable.em ((σ 8 a1.toNatClampNeg).toInt = 16)).elim (fun q6_11 => ?_) (fun q6_11 => ?_)
  · have w87 := w86.1 q6_11
    refine g_tableIn (off := 378) hF 384 d_X14_stepMore_6 q6_11 (by decide) (by decide) (by decide +kernel) (by decide) ?_
    refine g_aload_n hF d_X14_stepMore_384 rfl 0 rfl ?_
    refine g_aload_n hF d_X14_stepMore_385 rfl 0 rfl ?_
    refine g_get (v := .ref (r 8)) hF 16 obM_0 (by decide) m_1881 rfl d_X14_stepMore_386 ?_
    refine g_iload_n hF d_X14_stepMore_389 rfl 1 rfl ?_
    have w88 := w87.2
    refine g_iald hF arM_8 (s_in (Nat.le_of_ble_eq_true rfl) w87.1.1 w87.1.2) d_X14_stepMore_390 ?_
    refine g_top (v := (σ 8 a1.toNatClampNeg)) rfl ?_
    refine g_bipush hF (v := 21) d_X14_stepMore_391 (by decide) ?_
    refine g_icmp_ne (yv := 21) hF 400 d_X14_stepMore_393 (by decide) rfl (by decide) (fun c => ?_) (fun c => ?_)
    · have w89 := w88.1 c
      refine g_iconst hF (v := 0) d_X14_stepMore_400 (by decide) ?_
      exact g_sub (L' := []) [] rfl (b401 (0 : Int32) (Or.inl rfl) w89)
    · have w90 := w88.2 c
      refine g_iconst hF (v := 1) d_X14_stepMore_396 (by decide) ?_
      refine g_goto hF 401 d_X14_stepMore_397 (by decide) ?_
      exact g_sub (L' := []) [] rfl (b401 (1 : Int32) (Or.inr rfl) w90)
  have w91 := w86.2 q6_11
  refine (Decidable.em ((σ 8 a1.toNatClampNeg).toInt = 17)).elim (fun q6_12 => ?_) (fun q6_12 => ?_)
  · have w92 := w91.1 q6_12
    refine g_tableIn (off := 378) hF 384 d_X14_stepMore_6 q6_12 (by decide) (by decide) (by decide +kernel) (by decide) ?_
    refine g_aload_n hF d_X14_stepMore_384 rfl 0 rfl ?_
    refine g_aload_n hF d_X14_stepMore_385 rfl 0 rfl ?_
    refine g_get (v := .ref (r 8)) hF 16 obM_0 (by decide) m_1881 rfl d_X14_stepMore_386 ?_
    refine g_iload_n hF d_X14_stepMore_389 rfl 1 rfl ?_
    have w93 := w92.2
    refine g_iald hF arM_8 (s_in (Nat.le_of_ble_eq_true rfl) w92.1.1 w92.1.2) d_X14_stepMore_390 ?_
    refine g_top (v := (σ 8 a1.toNatClampNeg)) rfl ?_
    refine g_bipush hF (v := 21) d_X14_stepMore_391 (by decide) ?_
    refine g_icmp_ne (yv := 21) hF 400 d_X14_stepMore_393 (by decide) rfl (by decide) (fun c => ?_) (fun c => ?_)
    · have w94 := w93.1 c
      refine g_iconst hF (v := 0) d_X14_stepMore_400 (by decide) ?_
      exact g_sub (L' := []) [] rfl (b401 (0 : Int32) (Or.inl rfl) w94)
    · have w95 := w93.2 c
      refine g_iconst hF (v := 1) d_X14_stepMore_396 (by decide) ?_
      refine g_goto hF 401 d_X14_stepMore_397 (by decide) ?_
      exact g_sub (L' := []) [] rfl (b401 (1 : Int32) (Or.inr rfl) w95)
  have w96 := w91.2 q6_12
  refine (Decidable.em ((σ 8 a1.toNatClampNeg).toInt = 18)).elim (fun q6_13 => ?_) (fun q6_13 => ?_)
  · have w97 := w96.1 q6_13
    refine g_tableIn (off := 378) hF 384 d_X14_stepMore_6 q6_13 (by decide) (by decide) (by decide +kernel) (by decide) ?_
    refine g_aload_n hF d_X14_stepMore_384 rfl 0 rfl ?_
    refine g_aload_n hF d_X14_stepMore_385 rfl 0 rfl ?_
    refine g_get (v := .ref (r 8)) hF 16 obM_0 (by decide) m_1881 rfl d_X14_stepMore_386 ?_
    refine g_iload_n hF d_X14_stepMore_389 rfl 1 rfl ?_
    have w98 := w97.2
    refine g_iald hF arM_8 (s_in (Nat.le_of_ble_eq_true rfl) w97.1.1 w97.1.2) d_X14_stepMore_390 ?_
    refine g_top (v := (σ 8 a1.toNatClampNeg)) rfl ?_
    refine g_bipush hF (v := 21) d_X14_stepMore_391 (by decide) ?_
    refine g_icmp_ne (yv := 21) hF 400 d_X14_stepMore_393 (by decide) rfl (by decide) (fun c => ?_) (fun c => ?_)
    · have w99 := w98.1 c
      refine g_iconst hF (v := 0) d_X14_stepMore_400 (by decide) ?_
      exact g_sub (L' := []) [] rfl (b401 (0 : Int32) (Or.inl rfl) w99)
    · have w100 := w98.2 c
      refine g_iconst hF (v := 1) d_X14_stepMore_396 (by decide) ?_
      refine g_goto hF 401 d_X14_stepMore_397 (by decide) ?_
      exact g_sub (L' := []) [] rfl (b401 (1 : Int32) (Or.inr rfl) w100)
  have w101 := w96.2 q6_13
  refine (Decidable.em ((σ 8 a1.toNatClampNeg).toInt = 19)).elim (fun q6_14 => ?_) (fun q6_14 => ?_)
  · have w102 := w101.1 q6_14
    refine g_tableIn (off := 363) hF 369 d_X14_stepMore_6 q6_14 (by decide) (by decide) (by decide +kernel) (by decide) ?_
    refine g_aload_n hF d_X14_stepMore_369 rfl 0 rfl ?_
    refine g_iload_n hF d_X14_stepMore_370 rfl 1 rfl ?_
    refine g_iload_n hF d_X14_stepMore_371 rfl 2 rfl ?_
    refine g_aload_n hF d_X14_stepMore_372 rfl 0 rfl ?_
    refine g_get (v := .ref (r 8)) hF 16 obM_0 (by decide) m_1881 rfl d_X14_stepMore_373 ?_
    refine g_iload_n hF d_X14_stepMore_376 rfl 1 rfl ?_
    refine g_iconst hF (v := 2) d_X14_stepMore_377 (by decide) ?_
    refine g_iadd hF d_X14_stepMore_378 ?_
    have w103 := w102.2
    refine g_iald hF arM_8 (s_in (Nat.le_of_ble_eq_true rfl) w102.1.1 w102.1.2) d_X14_stepMore_379 ?_
    refine g_top (v := (σ 8 (a1 + (2 : Int32)).toNatClampNeg)) rfl ?_
    refine g_callV (As := [.int a1, .int a2, .int (σ 8 (a1 + (2 : Int32)).toNatClampNeg)]) (rest := []) hF (fun l D cy => (ct_call_1 a r hcap w103) l D cy) (Nat.le_of_ble_eq_true rfl) mV_X14_call_1 m_2792 (recv_ob obM_0) rfl rfl (Nat.le_of_ble_eq_true rfl) d_X14_stepMore_380 (kI (fun v380 s380 t380 z380 w104 => ?_)) (fun _ _ _ h => h.elim)
    exact g_iret hF rfl d_X14_stepMore_383 ⟨v380, rfl, w104⟩
  have w105 := w101.2 q6_14
  refine (Decidable.em ((σ 8 a1.toNatClampNeg).toInt = 20)).elim (fun q6_15 => ?_) (fun q6_15 => ?_)
  · have w106 := w105.1 q6_15
    refine g_tableIn (off := 378) hF 384 d_X14_stepMore_6 q6_15 (by decide) (by decide) (by decide +kernel) (by decide) ?_
    refine g_aload_n hF d_X14_stepMore_384 rfl 0 rfl ?_
    refine g_aload_n hF d_X14_stepMore_385 rfl 0 rfl ?_
    refine g_get (v := .ref (r 8)) hF 16 obM_0 (by decide) m_1881 rfl d_X14_stepMore_386 ?_
    refine g_iload_n hF d_X14_stepMore_389 rfl 1 rfl ?_
    have w107 := w106.2
    refine g_iald hF arM_8 (s_in (Nat.le_of_ble_eq_true rfl) w106.1.1 w106.1.2) d_X14_stepMore_390 ?_
    refine g_top (v := (σ 8 a1.toNatClampNeg)) rfl ?_
    refine g_bipush hF (v := 21) d_X14_stepMore_391 (by decide) ?_
    refine g_icmp_ne (yv := 21) hF 400 d_X14_stepMore_393 (by decide) rfl (by decide) (fun c => ?_) (fun c => ?_)
    · have w108 := w107.1 c
      refine g_iconst hF (v := 0) d_X14_stepMore_400 (by decide) ?_
      exact g_sub (L' := []) [] rfl (b401 (0 : Int32) (Or.inl rfl) w108)
    · have w109 := w107.2 c
      refine g_iconst hF (v := 1) d_X14_stepMore_396 (by decide) ?_
      refine g_goto hF 401 d_X14_stepMore_397 (by decide) ?_
      exact g_sub (L' := []) [] rfl (b401 (1 : Int32) (Or.inr rfl) w109)
  have w110 := w105.2 q6_15
  refine (Decidable.em ((σ 8 a1.toNatClampNeg).toInt = 21)).elim (fun q6_16 => ?_) (fun q6_16 => ?_)
  · have w111 := w110.1 q6_16
    refine g_tableIn (off := 378) hF 384 d_X14_stepMore_6 q6_16 (by decide) (by decide) (by decide +kernel) (by decide) ?_
    refine g_aload_n hF d_X14_stepMore_384 rfl 0 rfl ?_
    refine g_aload_n hF d_X14_stepMore_385 rfl 0 rfl ?_
    refine g_get (v := .ref (r 8)) hF 16 obM_0 (by decide) m_1881 rfl d_X14_stepMore_386 ?_
    refine g_iload_n hF d_X14_stepMore_389 rfl 1 rfl ?_
    have w112 := w111.2
    refine g_iald hF arM_8 (s_in (Nat.le_of_ble_eq_true rfl) w111.1.1 w111.1.2) d_X14_stepMore_390 ?_
    refine g_top (v := (σ 8 a1.toNatClampNeg)) rfl ?_
    refine g_bipush hF (v := 21) d_X14_stepMore_391 (by decide) ?_
    refine g_icmp_ne (yv := 21) hF 400 d_X14_stepMore_393 (by decide) rfl (by decide) (fun c => ?_) (fun c => ?_)
    · have w113 := w112.1 c
      refine g_iconst hF (v := 0) d_X14_stepMore_400 (by decide) ?_
      exact g_sub (L' := []) [] rfl (b401 (0 : Int32) (Or.inl rfl) w113)
    · have w114 := w112.2 c
      refine g_iconst hF (v := 1) d_X14_stepMore_396 (by decide) ?_
      refine g_goto hF 401 d_X14_stepMore_397 (by decide) ?_
      exact g_sub (L' := []) [] rfl (b401 (1 : Int32) (Or.inr rfl) w114)
  have w115 := w110.2 q6_16
  refine (Decidable.em ((σ 8 a1.toNatClampNeg).toInt = 22)).elim (fun q6_17 => ?_) (fun q6_17 => ?_)
  · have w116 := w115.1 q6_17
    refine g_tableIn (off := 228) hF 234 d_X14_stepMore_6 q6_17 (by decide) (by decide) (by decide +kernel) (by decide) ?_
    refine g_aload_n hF d_X14_stepMore_234 rfl 0 rfl ?_
    refine g_callV (As := []) (rest := []) hF (fun l D cy => (ct_pop a r hcap w116) l D cy) (Nat.le_of_ble_eq_true rfl) mV_X14_pop m_2777 (recv_ob obM_0) rfl rfl (Nat.le_of_ble_eq_true rfl) d_X14_stepMore_235 (kI (fun v235 s235 t235 z235 w117 => ?_)) (fun _ _ _ h => h.elim)
    refine g_istore_n hF [(3, .int v235), (0, .ref (r 0)), (1, .int a1), (2, .int a2)] d_X14_stepMore_238 rfl hnn (by decide) rfl ?_
    refine g_iload_n hF d_X14_stepMore_239 rfl 0 rfl ?_
    refine g_cap (fun hc117 => ?_)
    refine g_callS (As := [.int v235]) (rest := []) hF (fun l D cy => (ct_isCell a r hc117 w117) l D cy) (Nat.le_of_ble_eq_true rfl) mS_X14_isCell m_2789 rfl rfl (Nat.le_of_ble_eq_true rfl) d_X14_stepMore_240 (krZ (fun v240 hz240 w119 => ?_)) (fun _ _ _ h => h.elim)
    refine g_if_ne hF 255 d_X14_stepMore_243 (by decide) rfl (fun c => ?_) (fun c => ?_)
    · have w120 := w119.1 c
      refine g_aload_n hF d_X14_stepMore_255 rfl 1 rfl ?_
      refine g_get (v := .ref (r 46)) hF 79 obM_0 (by decide) m_1944 rfl d_X14_stepMore_256 ?_
      refine g_iload_n hF d_X14_stepMore_259 rfl 0 rfl ?_
      refine g_dup2 hF d_X14_stepMore_260 rfl rfl ?_
      have w121 := w120.2
      refine g_iald hF arM_46 (s_in (Nat.le_of_ble_eq_true rfl) w120.1.1 w120.1.2) d_X14_stepMore_261 ?_
      refine g_top (v := (s235 46 v235.toNatClampNeg)) rfl ?_
      refine g_aload_n hF d_X14_stepMore_262 rfl 1 rfl ?_
      refine g_get (v := .ref (r 8)) hF 16 obM_0 (by decide) m_1881 rfl d_X14_stepMore_263 ?_
      refine g_iload_n hF d_X14_stepMore_266 rfl 2 rfl ?_
      refine g_iconst hF (v := 2) d_X14_stepMore_267 (by decide) ?_
      refine g_iadd hF d_X14_stepMore_268 ?_
      have w122 := w121.2
      refine g_iald hF arM_8 (s_in (Nat.le_of_ble_eq_true rfl) w121.1.1 w121.1.2) d_X14_stepMore_269 ?_
      refine g_top (v := (s235 8 (a1 + (2 : Int32)).toNatClampNeg)) rfl ?_
      refine g_iadd hF d_X14_stepMore_270 ?_
      have w123 := w122.2
      refine g_iast hF arM_46 (s_in (Nat.le_of_ble_eq_true rfl) w122.1.1 w122.1.2) d_X14_stepMore_271 ?_
      refine g_aload_n hF d_X14_stepMore_272 rfl 1 rfl ?_
      refine g_aload_n hF d_X14_stepMore_273 rfl 1 rfl ?_
      refine g_get (v := .ref (r 8)) hF 16 obM_0 (by decide) m_1881 rfl d_X14_stepMore_274 ?_
      refine g_iload_n hF d_X14_stepMore_277 rfl 2 rfl ?_
      refine g_iconst hF (v := 3) d_X14_stepMore_278 (by decide) ?_
      refine g_iadd hF d_X14_stepMore_279 ?_
      have w124 := w123.2
      refine g_iald hF arM_8 (s_in (Nat.le_of_ble_eq_true rfl) w123.1.1 w123.1.2) d_X14_stepMore_280 ?_
      refine g_top (v := (s235 8 (a1 + (3 : Int32)).toNatClampNeg)) rfl ?_
      obtain ⟨J308, h308, w125⟩ := w124
      have b308 : ∀ (y1_308 : Int32), J308 y1_308 → G SM r X (upC s235 46 v235.toNatClampNeg ((s235 46 v235.toNatClampNeg) + (s235 8 (a1 + (2 : Int32)).toNatClampNeg))) t235 z235 [(1, .int a1)] [.int y1_308, .ref (r 0)] 308 := by
        intro y1_308  w308_
        have w308_ := h308 y1_308  w308_
        refine g_callV (As := [.int y1_308]) (rest := []) hF (fun l D cy => (ct_push a r hc117 w308_) l D cy) (Nat.le_of_ble_eq_true rfl) mV_X14_push m_2765 (recv_ob obM_0) rfl rfl (Nat.le_of_ble_eq_true rfl) d_X14_stepMore_308 (kV (fun s308 t308 z308 w126 => ?_)) (fun _ _ _ h => h.elim)
        refine g_iload_n hF d_X14_stepMore_311 rfl 0 rfl ?_
        refine g_iconst hF (v := 4) d_X14_stepMore_312 (by decide) ?_
        refine g_iadd hF d_X14_stepMore_313 ?_
        exact g_iret hF rfl d_X14_stepMore_314 ⟨(a1 + (4 : Int32)), rfl, w126⟩
      refine g_if_ne hF 293 d_X14_stepMore_281 (by decide) rfl (fun c => ?_) (fun c => ?_)
      · have w127 := w125.1 c
        refine g_aload_n hF d_X14_stepMore_293 rfl 1 rfl ?_
        refine g_get (v := .ref (r 46)) hF 79 obM_0 (by decide) m_1944 rfl d_X14_stepMore_294 ?_
        refine g_iload_n hF d_X14_stepMore_297 rfl 0 rfl ?_
        have w128 := w127.2
        refine g_iald hF arM_46 (s_in (Nat.le_of_ble_eq_true rfl) w127.1.1 w127.1.2) d_X14_stepMore_298 ?_
        refine g_top (v := ((upC s235 46 v235.toNatClampNeg ((s235 46 v235.toNatClampNeg) + (s235 8 (a1 + (2 : Int32)).toNatClampNeg))) 46 v235.toNatClampNeg)) rfl ?_
        refine g_aload_n hF d_X14_stepMore_299 rfl 1 rfl ?_
        refine g_get (v := .ref (r 8)) hF 16 obM_0 (by decide) m_1881 rfl d_X14_stepMore_300 ?_
        refine g_iload_n hF d_X14_stepMore_303 rfl 2 rfl ?_
        refine g_iconst hF (v := 2) d_X14_stepMore_304 (by decide) ?_
        refine g_iadd hF d_X14_stepMore_305 ?_
        have w129 := w128.2
        refine g_iald hF arM_8 (s_in (Nat.le_of_ble_eq_true rfl) w128.1.1 w128.1.2) d_X14_stepMore_306 ?_
        refine g_top (v := (s235 8 (a1 + (2 : Int32)).toNatClampNeg)) rfl ?_
        refine g_isub hF d_X14_stepMore_307 ?_
        exact g_sub (L' := [(1, .int a1)]) [2] rfl (b308 (((upC s235 46 v235.toNatClampNeg ((s235 46 v235.toNatClampNeg) + (s235 8 (a1 + (2 : Int32)).toNatClampNeg))) 46 v235.toNatClampNeg) - (s235 8 (a1 + (2 : Int32)).toNatClampNeg)) w129)
      · have w130 := w125.2 c
        refine g_aload_n hF d_X14_stepMore_284 rfl 1 rfl ?_
        refine g_get (v := .ref (r 46)) hF 79 obM_0 (by decide) m_1944 rfl d_X14_stepMore_285 ?_
        refine g_iload_n hF d_X14_stepMore_288 rfl 0 rfl ?_
        have w131 := w130.2
        refine g_iald hF arM_46 (s_in (Nat.le_of_ble_eq_true rfl) w130.1.1 w130.1.2) d_X14_stepMore_289 ?_
        refine g_top (v := ((upC s235 46 v235.toNatClampNeg ((s235 46 v235.toNatClampNeg) + (s235 8 (a1 + (2 : Int32)).toNatClampNeg))) 46 v235.toNatClampNeg)) rfl ?_
        refine g_goto hF 308 d_X14_stepMore_290 (by decide) ?_
        exact g_sub (L' := [(1, .int a1)]) [2] rfl (b308 ((upC s235 46 v235.toNatClampNeg ((s235 46 v235.toNatClampNeg) + (s235 8 (a1 + (2 : Int32)).toNatClampNeg))) 46 v235.toNatClampNeg) w131)
    · have w132 := w119.2 c
      refine g_aload_n hF d_X14_stepMore_246 rfl 1 rfl ?_
      refine g_iconst hF (v := 2) d_X14_stepMore_247 (by decide) ?_
      refine g_iload_n hF d_X14_stepMore_248 rfl 3 rfl ?_
      refine g_callV (As := [.int 2, .int a2]) (rest := []) hF (fun l D cy => (ct_trapped a r hc117 w132) l D cy) (Nat.le_of_ble_eq_true rfl) mV_X14_trapped m_2781 (recv_ob obM_0) rfl rfl (Nat.le_of_ble_eq_true rfl) d_X14_stepMore_249 (kV (fun s249 t249 z249 w133 => ?_)) (fun _ _ _ h => h.elim)
      refine g_goto hF 311 d_X14_stepMore_252 (by decide) ?_
      refine g_iload_n hF d_X14_stepMore_311 rfl 2 rfl ?_
      refine g_iconst hF (v := 4) d_X14_stepMore_312 (by decide) ?_
      refine g_iadd hF d_X14_stepMore_313 ?_
      exact g_iret hF rfl d_X14_stepMore_314 ⟨(a1 + (4 : Int32)), rfl, w133⟩
  have w134 := w115.2 q6_17
  refine (Decidable.em ((σ 8 a1.toNatClampNeg).toInt = 23)).elim (fun q6_18 => ?_) (fun q6_18 => ?_)
  · have w135 := w134.1 q6_18
    refine g_tableIn (off := 309) hF 315 d_X14_stepMore_6 q6_18 (by decide) (by decide) (by decide +kernel) (by decide) ?_
    refine g_aload_n hF d_X14_stepMore_315 rfl 0 rfl ?_
    refine g_iload_n hF d_X14_stepMore_316 rfl 2 rfl ?_
    refine g_callV (As := [.int a2]) (rest := []) hF (fun l D cy => (ct_getLocal a r hcap w135) l D cy) (Nat.le_of_ble_eq_true rfl) mV_X14_getLocal m_2769 (recv_ob obM_0) rfl rfl (Nat.le_of_ble_eq_true rfl) d_X14_stepMore_317 (krI (fun v317 w136 => ?_)) (fun _ _ _ h => h.elim)
    refine g_aload_n hF d_X14_stepMore_320 rfl 0 rfl ?_
    refine g_get (v := .ref (r 8)) hF 16 obM_0 (by decide) m_1881 rfl d_X14_stepMore_321 ?_
    refine g_iload_n hF d_X14_stepMore_324 rfl 1 rfl ?_
    refine g_iconst hF (v := 2) d_X14_stepMore_325 (by decide) ?_
    refine g_iadd hF d_X14_stepMore_326 ?_
    have w137 := w136.2
    refine g_iald hF arM_8 (s_in (Nat.le_of_ble_eq_true rfl) w136.1.1 w136.1.2) d_X14_stepMore_327 ?_
    refine g_top (v := (σ 8 (a1 + (2 : Int32)).toNatClampNeg)) rfl ?_
    refine g_iadd hF d_X14_stepMore_328 ?_
    refine g_istore_n hF [(3, .int (v317 + (σ 8 (a1 + (2 : Int32)).toNatClampNeg))), (0, .ref (r 0)), (1, .int a1), (2, .int a2)] d_X14_stepMore_329 rfl hnn (by decide) rfl ?_
    refine g_aload_n hF d_X14_stepMore_330 rfl 1 rfl ?_
    refine g_iload_n hF d_X14_stepMore_331 rfl 3 rfl ?_
    refine g_iload_n hF d_X14_stepMore_332 rfl 0 rfl ?_
    refine g_callV (As := [.int a2, .int (v317 + (σ 8 (a1 + (2 : Int32)).toNatClampNeg))]) (rest := []) hF (fun l D cy => (ct_setLocal a r hcap w137) l D cy) (Nat.le_of_ble_eq_true rfl) mV_X14_setLocal m_2753 (recv_ob obM_0) rfl rfl (Nat.le_of_ble_eq_true rfl) d_X14_stepMore_333 (kV (fun s333 t333 z333 w138 => ?_)) (fun _ _ _ h => h.elim)
    refine g_aload_n hF d_X14_stepMore_336 rfl 1 rfl ?_
    refine g_aload_n hF d_X14_stepMore_337 rfl 1 rfl ?_
    refine g_get (v := .ref (r 8)) hF 16 obM_0 (by decide) m_1881 rfl d_X14_stepMore_338 ?_
    refine g_iload_n hF d_X14_stepMore_341 rfl 2 rfl ?_
    refine g_iconst hF (v := 3) d_X14_stepMore_342 (by decide) ?_
    refine g_iadd hF d_X14_stepMore_343 ?_
    have w139 := w138.2
    refine g_iald hF arM_8 (s_in (Nat.le_of_ble_eq_true rfl) w138.1.1 w138.1.2) d_X14_stepMore_344 ?_
    refine g_top (v := (s333 8 (a1 + (3 : Int32)).toNatClampNeg)) rfl ?_
    obtain ⟨J362, h362, w140⟩ := w139
    have b362 : ∀ (y1_362 : Int32), J362 y1_362 → G SM r X s333 t333 z333 [(1, .int a1)] [.int y1_362, .ref (r 0)] 362 := by
      intro y1_362  w362_
      have w362_ := h362 y1_362  w362_
      refine g_cap (fun hc140 => ?_)
      refine g_callV (As := [.int y1_362]) (rest := []) hF (fun l D cy => (ct_push a r hc140 w362_) l D cy) (Nat.le_of_ble_eq_true rfl) mV_X14_push m_2765 (recv_ob obM_0) rfl rfl (Nat.le_of_ble_eq_true rfl) d_X14_stepMore_362 (kV (fun s362 t362 z362 w142 => ?_)) (fun _ _ _ h => h.elim)
      refine g_iload_n hF d_X14_stepMore_365 rfl 0 rfl ?_
      refine g_iconst hF (v := 4) d_X14_stepMore_366 (by decide) ?_
      refine g_iadd hF d_X14_stepMore_367 ?_
      exact g_iret hF rfl d_X14_stepMore_368 ⟨(a1 + (4 : Int32)), rfl, w142⟩
    refine g_if_ne hF 352 d_X14_stepMore_345 (by decide) rfl (fun c => ?_) (fun c => ?_)
    · have w143 := w140.1 c
      refine g_iload_n hF d_X14_stepMore_352 rfl 0 rfl ?_
      refine g_aload_n hF d_X14_stepMore_353 rfl 1 rfl ?_
      refine g_get (v := .ref (r 8)) hF 16 obM_0 (by decide) m_1881 rfl d_X14_stepMore_354 ?_
      refine g_iload_n hF d_X14_stepMore_357 rfl 2 rfl ?_
      refine g_iconst hF (v := 2) d_X14_stepMore_358 (by decide) ?_
      refine g_iadd hF d_X14_stepMore_359 ?_
      have w144 := w143.2
      refine g_iald hF arM_8 (s_in (Nat.le_of_ble_eq_true rfl) w143.1.1 w143.1.2) d_X14_stepMore_360 ?_
      refine g_top (v := (s333 8 (a1 + (2 : Int32)).toNatClampNeg)) rfl ?_
      refine g_isub hF d_X14_stepMore_361 ?_
      exact g_sub (L' := [(1, .int a1)]) [2] rfl (b362 ((v317 + (σ 8 (a1 + (2 : Int32)).toNatClampNeg)) - (s333 8 (a1 + (2 : Int32)).toNatClampNeg)) w144)
    · have w145 := w140.2 c
      refine g_iload_n hF d_X14_stepMore_348 rfl 0 rfl ?_
      refine g_goto hF 362 d_X14_stepMore_349 (by decide) ?_
      exact g_sub (L' := [(1, .int a1)]) [2] rfl (b362 (v317 + (σ 8 (a1 + (2 : Int32)).toNatClampNeg)) w145)
  have w146 := w134.2 q6_18
  refine g_tableOut hF 384 d_X14_stepMore_6 rfl (tbo_5_23 q6_0 q6_1 q6_2 q6_3 q6_4 q6_5 q6_6 q6_7 q6_8 q6_9 q6_10 q6_11 q6_12 q6_13 q6_14 q6_15 q6_16 q6_17 q6_18) (by decide) ?_
  refine g_aload_n hF d_X14_stepMore_384 rfl 0 rfl ?_
  refine g_aload_n hF d_X14_stepMore_385 rfl 0 rfl ?_
  refine g_get (v := .ref (r 8)) hF 16 obM_0 (by decide) m_1881 rfl d_X14_stepMore_386 ?_
  refine g_iload_n hF d_X14_stepMore_389 rfl 1 rfl ?_
  have w147 := w146.2
  refine g_iald hF arM_8 (s_in (Nat.le_of_ble_eq_true rfl) w146.1.1 w146.1.2) d_X14_stepMore_390 ?_
  refine g_top (v := (σ 8 a1.toNatClampNeg)) rfl ?_
  refine g_bipush hF (v := 21) d_X14_stepMore_391 (by decide) ?_
  refine g_icmp_ne (yv := 21) hF 400 d_X14_stepMore_393 (by decide) rfl (by decide) (fun c => ?_) (fun c => ?_)
  · have w148 := w147.1 c
    refine g_iconst hF (v := 0) d_X14_stepMore_400 (by decide) ?_
    exact g_sub (L' := []) [] rfl (b401 (0 : Int32) (Or.inl rfl) w148)
  · have w149 := w147.2 c
    refine g_iconst hF (v := 1) d_X14_stepMore_396 (by decide) ?_
    refine g_goto hF 401 d_X14_stepMore_397 (by decide) ?_
    exact g_sub (L' := []) [] rfl (b401 (1 : Int32) (Or.inr rfl) w149)
abbrev KTE : Type := (Int32 → St → St → List Nat → (Nat → St → St → List Nat → Prop) → (St → St → List Nat → Prop) → Prop) × (Int32 → St → St → List Nat → (Nat → St → St → List Nat → Prop) → (St → St → List Nat → Prop) → Prop) × (Int32 → Int32 → St → St → List Nat → (Nat → St → St → List Nat → Prop) → (St → St → List Nat → Prop) → Prop) × (Int32 → Nat → Int32 → Int32 → St → St → List Nat → (Nat → St → St → List Nat → Prop) → (St → St → List Nat → Prop) → Prop) × (Int32 → St → St → List Nat → (Nat → St → St → List Nat → Prop) → (St → St → List Nat → Prop) → Prop) × (Int32 → St → St → List Nat → (Nat → St → St → List Nat → Prop) → (St → St → List Nat → Prop) → Prop) × (Int32 → St → St → List Nat → (Nat → St → St → List Nat → Prop) → (St → St → List Nat → Prop) → Prop) × (Int32 → Int32 → St → St → List Nat → (Nat → St → St → List Nat → Prop) → (St → St → List Nat → Prop) → Prop)
def KKE : Nat → KTE
  | 0 => (fun _ _ _ _ _ _ => False, fun _ _ _ _ _ _ => False, fun _ _ _ _ _ _ _ => False, fun _ _ _ _ _ _ _ _ _ => False, fun _ _ _ _ _ _ => False, fun _ _ _ _ _ _ => False, fun _ _ _ _ _ _ => False, fun _ _ _ _ _ _ _ => False)
  | n + 1 => (wp_expression ((KKE n).1) ((KKE n).2.1) ((KKE n).2.2.1) ((KKE n).2.2.2.1) ((KKE n).2.2.2.2.1) ((KKE n).2.2.2.2.2.1) ((KKE n).2.2.2.2.2.2.1) ((KKE n).2.2.2.2.2.2.2), wp_choice ((KKE n).1) ((KKE n).2.1) ((KKE n).2.2.1) ((KKE n).2.2.2.1) ((KKE n).2.2.2.2.1) ((KKE n).2.2.2.2.2.1) ((KKE n).2.2.2.2.2.2.1) ((KKE n).2.2.2.2.2.2.2), wp_binary ((KKE n).1) ((KKE n).2.1) ((KKE n).2.2.1) ((KKE n).2.2.2.1) ((KKE n).2.2.2.2.1) ((KKE n).2.2.2.2.2.1) ((KKE n).2.2.2.2.2.2.1) ((KKE n).2.2.2.2.2.2.2), wp_decided ((KKE n).1) ((KKE n).2.1) ((KKE n).2.2.1) ((KKE n).2.2.2.1) ((KKE n).2.2.2.2.1) ((KKE n).2.2.2.2.2.1) ((KKE n).2.2.2.2.2.2.1) ((KKE n).2.2.2.2.2.2.2), wp_unary ((KKE n).1) ((KKE n).2.1) ((KKE n).2.2.1) ((KKE n).2.2.2.1) ((KKE n).2.2.2.2.1) ((KKE n).2.2.2.2.2.1) ((KKE n).2.2.2.2.2.2.1) ((KKE n).2.2.2.2.2.2.2), wp_behind ((KKE n).1) ((KKE n).2.1) ((KKE n).2.2.1) ((KKE n).2.2.2.1) ((KKE n).2.2.2.2.1) ((KKE n).2.2.2.2.2.1) ((KKE n).2.2.2.2.2.2.1) ((KKE n).2.2.2.2.2.2.2), wp_primary ((KKE n).1) ((KKE n).2.1) ((KKE n).2.2.1) ((KKE n).2.2.2.1) ((KKE n).2.2.2.2.1) ((KKE n).2.2.2.2.2.1) ((KKE n).2.2.2.2.2.2.1) ((KKE n).2.2.2.2.2.2.2), wp_call_0 ((KKE n).1) ((KKE n).2.1) ((KKE n).2.2.1) ((KKE n).2.2.2.1) ((KKE n).2.2.2.2.1) ((KKE n).2.2.2.2.2.1) ((KKE n).2.2.2.2.2.2.1) ((KKE n).2.2.2.2.2.2.2))
set_option maxHeartbeats 4000000 in
theorem ckE (a : Nat → Nat) (r : Nat → Nat) (n : Nat) : (∀ {a1 : Int32} {σ τ : St} {vs : List Nat} {Q : Nat → St → St → List Nat → Prop} {T : St → St → List Nat → Prop}, vs.length ≤ CAP → (KKE n).1 a1 σ τ vs Q T → ∀ (l : Launch) (D : va_G) (cy : Nat → ClassId), Ct l D cy SM r (EM a) y_X14_expression (Cond.code y_X14_expression b_X14_expression 12 (some (.object "LinkedUnitsModel$Value"))) (4 + n) [.ref (r 0), .int a1] σ τ vs (QAs Q) T) ∧ (∀ {a1 : Int32} {σ τ : St} {vs : List Nat} {Q : Nat → St → St → List Nat → Prop} {T : St → St → List Nat → Prop}, vs.length ≤ CAP → (KKE n).2.1 a1 σ τ vs Q T → ∀ (l : Launch) (D : va_G) (cy : Nat → ClassId), Ct l D cy SM r (EM a) y_X14_choice (Cond.code y_X14_choice b_X14_choice 12 (some (.object "LinkedUnitsModel$Value"))) (4 + n) [.ref (r 0), .int a1] σ τ vs (QAs Q) T) ∧ (∀ {a1 : Int32} {a2 : Int32} {σ τ : St} {vs : List Nat} {Q : Nat → St → St → List Nat → Prop} {T : St → St → List Nat → Prop}, vs.length ≤ CAP → (KKE n).2.2.1 a1 a2 σ τ vs Q T → ∀ (l : Launch) (D : va_G) (cy : Nat → ClassId), Ct l D cy SM r (EM a) y_X14_binary (Cond.code y_X14_binary b_X14_binary 7 (some (.object "LinkedUnitsModel$Value"))) (4 + n) [.ref (r 0), .int a1, .int a2] σ τ vs (QAs Q) T) ∧ (∀ {a1 : Int32} {a2 : Nat} {a3 : Int32} {a4 : Int32} {σ τ : St} {vs : List Nat} {Q : Nat → St → St → List Nat → Prop} {T : St → St → List Nat → Prop}, vs.length ≤ CAP → (KKE n).2.2.2.1 a1 a2 a3 a4 σ τ vs Q T → ∀ (l : Launch) (D : va_G) (cy : Nat → ClassId), Ct l D cy SM r (EM a) y_X14_decided (Cond.code y_X14_decided b_X14_decided 8 (some (.object "LinkedUnitsModel$Value"))) (4 + n) [.ref (r 0), .int a1, .ref a2, .int a3, .int a4] σ τ vs (QAs Q) T) ∧ (∀ {a1 : Int32} {σ τ : St} {vs : List Nat} {Q : Nat → St → St → List Nat → Prop} {T : St → St → List Nat → Prop}, vs.length ≤ CAP → (KKE n).2.2.2.2.1 a1 σ τ vs Q T → ∀ (l : Launch) (D : va_G) (cy : Nat → ClassId), Ct l D cy SM r (EM a) y_X14_unary (Cond.code y_X14_unary b_X14_unary 7 (some (.object "LinkedUnitsModel$Value"))) (4 + n) [.ref (r 0), .int a1] σ τ vs (QAs Q) T) ∧ (∀ {a1 : Int32} {σ τ : St} {vs : List Nat} {Q : Nat → St → St → List Nat → Prop} {T : St → St → List Nat → Prop}, vs.length ≤ CAP → (KKE n).2.2.2.2.2.1 a1 σ τ vs Q T → ∀ (l : Launch) (D : va_G) (cy : Nat → ClassId), Ct l D cy SM r (EM a) y_X14_behind (Cond.code y_X14_behind b_X14_behind 7 (some (.object "LinkedUnitsModel$Value"))) (4 + n) [.ref (r 0), .int a1] σ τ vs (QAs Q) T) ∧ (∀ {a1 : Int32} {σ τ : St} {vs : List Nat} {Q : Nat → St → St → List Nat → Prop} {T : St → St → List Nat → Prop}, vs.length ≤ CAP → (KKE n).2.2.2.2.2.2.1 a1 σ τ vs Q T → ∀ (l : Launch) (D : va_G) (cy : Nat → ClassId), Ct l D cy SM r (EM a) y_X14_primary (Cond.code y_X14_primary b_X14_primary 5 (some (.object "LinkedUnitsModel$Value"))) (4 + n) [.ref (r 0), .int a1] σ τ vs (QAs Q) T) ∧ (∀ {a1 : Int32} {a2 : Int32} {σ τ : St} {vs : List Nat} {Q : Nat → St → St → List Nat → Prop} {T : St → St → List Nat → Prop}, vs.length ≤ CAP → (KKE n).2.2.2.2.2.2.2 a1 a2 σ τ vs Q T → ∀ (l : Launch) (D : va_G) (cy : Nat → ClassId), Ct l D cy SM r (EM a) y_X14_call_0 (Cond.code y_X14_call_0 b_X14_call_0 10 (some (.object "LinkedUnitsModel$Value"))) (4 + n) [.ref (r 0), .int a1, .int a2] σ τ vs (QAs Q) T) := by
  induction n with
  | zero => exact ⟨fun _ h => h.elim, fun _ h => h.elim, fun _ h => h.elim, fun _ h => h.elim, fun _ h => h.elim, fun _ h => h.elim, fun _ h => h.elim, fun _ h => h.elim⟩
  | succ n ih =>
    obtain ⟨hexpression, hchoice, hbinary, hdecided, hunary, hbehind, hprimary, hcall_0⟩ := ih
    exact ⟨fun hc w => ct_expression a r (4 + n) (by omega) _ _ _ _ _ _ _ _ hexpression hchoice hc w, fun hc w => ct_choice a r (4 + n) (by omega) _ _ _ _ _ _ _ _ hexpression hchoice hbinary hc w, fun hc w => ct_binary a r (4 + n) (by omega) _ _ _ _ _ _ _ _ hbinary hdecided hunary hc w, fun hc w => ct_decided a r (4 + n) (by omega) _ _ _ _ _ _ _ _ hbinary hc w, fun hc w => ct_unary a r (4 + n) (by omega) _ _ _ _ _ _ _ _ hunary hbehind hc w, fun hc w => ct_behind a r (4 + n) (by omega) _ _ _ _ _ _ _ _ hexpression hprimary hc w, fun hc w => ct_primary a r (4 + n) (by omega) _ _ _ _ _ _ _ _ hexpression hcall_0 hc w, fun hc w => ct_call_0 a r (4 + n) (by omega) _ _ _ _ _ _ _ _ hexpression hc w⟩
def wpE_expression : Int32 → St → St → List Nat → (Nat → St → St → List Nat → Prop) → (St → St → List Nat → Prop) → Prop := (KKE 600).1
theorem ctE_expression (a : Nat → Nat) (r : Nat → Nat) {a1 : Int32} {σ τ : St} {vs : List Nat} {Q : Nat → St → St → List Nat → Prop} {T : St → St → List Nat → Prop} (hcap : vs.length ≤ CAP) (w : wpE_expression a1 σ τ vs Q T) (l : Launch) (D : va_G) (cy : Nat → ClassId) : Ct l D cy SM r (EM a) y_X14_expression (Cond.code y_X14_expression b_X14_expression 12 (some (.object "LinkedUnitsModel$Value"))) 604 [.ref (r 0), .int a1] σ τ vs (QAs Q) T := (ckE a r 600).1 hcap w l D cy
def wpE_choice : Int32 → St → St → List Nat → (Nat → St → St → List Nat → Prop) → (St → St → List Nat → Prop) → Prop := (KKE 600).2.1
theorem ctE_choice (a : Nat → Nat) (r : Nat → Nat) {a1 : Int32} {σ τ : St} {vs : List Nat} {Q : Nat → St → St → List Nat → Prop} {T : St → St → List Nat → Prop} (hcap : vs.length ≤ CAP) (w : wpE_choice a1 σ τ vs Q T) (l : Launch) (D : va_G) (cy : Nat → ClassId) : Ct l D cy SM r (EM a) y_X14_choice (Cond.code y_X14_choice b_X14_choice 12 (some (.object "LinkedUnitsModel$Value"))) 604 [.ref (r 0), .int a1] σ τ vs (QAs Q) T := (ckE a r 600).2.1 hcap w l D cy
def wpE_binary : Int32 → Int32 → St → St → List Nat → (Nat → St → St → List Nat → Prop) → (St → St → List Nat → Prop) → Prop := (KKE 600).2.2.1
theorem ctE_binary (a : Nat → Nat) (r : Nat → Nat) {a1 : Int32} {a2 : Int32} {σ τ : St} {vs : List Nat} {Q : Nat → St → St → List Nat → Prop} {T : St → St → List Nat → Prop} (hcap : vs.length ≤ CAP) (w : wpE_binary a1 a2 σ τ vs Q T) (l : Launch) (D : va_G) (cy : Nat → ClassId) : Ct l D cy SM r (EM a) y_X14_binary (Cond.code y_X14_binary b_X14_binary 7 (some (.object "LinkedUnitsModel$Value"))) 604 [.ref (r 0), .int a1, .int a2] σ τ vs (QAs Q) T := (ckE a r 600).2.2.1 hcap w l D cy
def wpE_decided : Int32 → Nat → Int32 → Int32 → St → St → List Nat → (Nat → St → St → List Nat → Prop) → (St → St → List Nat → Prop) → Prop := (KKE 600).2.2.2.1
theorem ctE_decided (a : Nat → Nat) (r : Nat → Nat) {a1 : Int32} {a2 : Nat} {a3 : Int32} {a4 : Int32} {σ τ : St} {vs : List Nat} {Q : Nat → St → St → List Nat → Prop} {T : St → St → List Nat → Prop} (hcap : vs.length ≤ CAP) (w : wpE_decided a1 a2 a3 a4 σ τ vs Q T) (l : Launch) (D : va_G) (cy : Nat → ClassId) : Ct l D cy SM r (EM a) y_X14_decided (Cond.code y_X14_decided b_X14_decided 8 (some (.object "LinkedUnitsModel$Value"))) 604 [.ref (r 0), .int a1, .ref a2, .int a3, .int a4] σ τ vs (QAs Q) T := (ckE a r 600).2.2.2.1 hcap w l D cy
def wpE_unary : Int32 → St → St → List Nat → (Nat → St → St → List Nat → Prop) → (St → St → List Nat → Prop) → Prop := (KKE 600).2.2.2.2.1
theorem ctE_unary (a : Nat → Nat) (r : Nat → Nat) {a1 : Int32} {σ τ : St} {vs : List Nat} {Q : Nat → St → St → List Nat → Prop} {T : St → St → List Nat → Prop} (hcap : vs.length ≤ CAP) (w : wpE_unary a1 σ τ vs Q T) (l : Launch) (D : va_G) (cy : Nat → ClassId) : Ct l D cy SM r (EM a) y_X14_unary (Cond.code y_X14_unary b_X14_unary 7 (some (.object "LinkedUnitsModel$Value"))) 604 [.ref (r 0), .int a1] σ τ vs (QAs Q) T := (ckE a r 600).2.2.2.2.1 hcap w l D cy
def wpE_behind : Int32 → St → St → List Nat → (Nat → St → St → List Nat → Prop) → (St → St → List Nat → Prop) → Prop := (KKE 600).2.2.2.2.2.1
theorem ctE_behind (a : Nat → Nat) (r : Nat → Nat) {a1 : Int32} {σ τ : St} {vs : List Nat} {Q : Nat → St → St → List Nat → Prop} {T : St → St → List Nat → Prop} (hcap : vs.length ≤ CAP) (w : wpE_behind a1 σ τ vs Q T) (l : Launch) (D : va_G) (cy : Nat → ClassId) : Ct l D cy SM r (EM a) y_X14_behind (Cond.code y_X14_behind b_X14_behind 7 (some (.object "LinkedUnitsModel$Value"))) 604 [.ref (r 0), .int a1] σ τ vs (QAs Q) T := (ckE a r 600).2.2.2.2.2.1 hcap w l D cy
def wpE_primary : Int32 → St → St → List Nat → (Nat → St → St → List Nat → Prop) → (St → St → List Nat → Prop) → Prop := (KKE 600).2.2.2.2.2.2.1
theorem ctE_primary (a : Nat → Nat) (r : Nat → Nat) {a1 : Int32} {σ τ : St} {vs : List Nat} {Q : Nat → St → St → List Nat → Prop} {T : St → St → List Nat → Prop} (hcap : vs.length ≤ CAP) (w : wpE_primary a1 σ τ vs Q T) (l : Launch) (D : va_G) (cy : Nat → ClassId) : Ct l D cy SM r (EM a) y_X14_primary (Cond.code y_X14_primary b_X14_primary 5 (some (.object "LinkedUnitsModel$Value"))) 604 [.ref (r 0), .int a1] σ τ vs (QAs Q) T := (ckE a r 600).2.2.2.2.2.2.1 hcap w l D cy
def wpE_call_0 : Int32 → Int32 → St → St → List Nat → (Nat → St → St → List Nat → Prop) → (St → St → List Nat → Prop) → Prop := (KKE 600).2.2.2.2.2.2.2
theorem ctE_call_0 (a : Nat → Nat) (r : Nat → Nat) {a1 : Int32} {a2 : Int32} {σ τ : St} {vs : List Nat} {Q : Nat → St → St → List Nat → Prop} {T : St → St → List Nat → Prop} (hcap : vs.length ≤ CAP) (w : wpE_call_0 a1 a2 σ τ vs Q T) (l : Launch) (D : va_G) (cy : Nat → ClassId) : Ct l D cy SM r (EM a) y_X14_call_0 (Cond.code y_X14_call_0 b_X14_call_0 10 (some (.object "LinkedUnitsModel$Value"))) 604 [.ref (r 0), .int a1, .int a2] σ τ vs (QAs Q) T := (ckE a r 600).2.2.2.2.2.2.2 hcap w l D cy
def wp_sizeAt (σ τ : St) (vs : List Nat) (Q : Int32 → St → St → List Nat → Prop) (T : St → St → List Nat → Prop) : Prop :=
  wpE_expression (1 : Int32) (upC σ 0 15 ((σ 0 15) + (1 : Int32))) τ vs (fun u17 s17 t17 z17 => (u17 ∈ z17 ∧ ((t17 u17 6).toInt ≠ 1 → Q ((-1) : Int32) (upC (upC s17 0 15 ((s17 0 15) - (1 : Int32))) 0 17 (σ 0 17)) t17 z17) ∧ ((t17 u17 6).toInt = 1 → wp_isInt u17 (upC (upC s17 0 15 ((s17 0 15) - (1 : Int32))) 0 17 (σ 0 17)) t17 z17 (fun v45 => (v45.toInt = 0 → Q ((-1) : Int32) (upC (upC s17 0 15 ((s17 0 15) - (1 : Int32))) 0 17 (σ 0 17)) t17 z17) ∧ (v45.toInt ≠ 0 → ((t17 u17 7).toInt < 1 → Q ((-1) : Int32) (upC (upC s17 0 15 ((s17 0 15) - (1 : Int32))) 0 17 (σ 0 17)) t17 z17) ∧ (1 ≤ (t17 u17 7).toInt → Q (t17 u17 7) (upC (upC s17 0 15 ((s17 0 15) - (1 : Int32))) 0 17 (σ 0 17)) t17 z17)))))) T
set_option maxHeartbeats 4000000 in
set_option maxRecDepth 100000 in
theorem ct_sizeAt (a : Nat → Nat) (r : Nat → Nat) {σ τ : St} {vs : List Nat} {Q : Int32 → St → St → List Nat → Prop} {T : St → St → List Nat → Prop} (hcap : vs.length ≤ CAP) (w : wp_sizeAt  σ τ vs Q T) (l : Launch) (D : va_G) (cy : Nat → ClassId) : Ct l D cy SM r (EM a) y_X14_sizeAt (Cond.code y_X14_sizeAt b_X14_sizeAt 3 (some .int)) 605 [.ref (r 0)] σ τ vs (QIs Q) T := by
  unfold wp_sizeAt at w
  refine Ct_of (EM_ok a) (by decide) (Nat.le_of_ble_eq_true rfl) hcap (fun X hnn hF => ?_)
  show G SM r X σ τ vs [(0, .ref (r 0))] [] 0
  refine g_aload_n hF d_X14_sizeAt_0 rfl 0 rfl ?_
  refine g_dup hF d_X14_sizeAt_1 rfl ?_
  refine g_get (v := .int (σ 0 15)) hF 15 obM_0 (by decide) m_1880 rfl d_X14_sizeAt_2 ?_
  refine g_iconst hF (v := 1) d_X14_sizeAt_5 (by decide) ?_
  refine g_iadd hF d_X14_sizeAt_6 ?_
  refine g_put (v := ((σ 0 15) + (1 : Int32))) hF 15 obM_0 (by decide) m_1880 rfl rfl rfl d_X14_sizeAt_7 ?_
  refine g_aload_n hF d_X14_sizeAt_10 rfl 0 rfl ?_
  refine g_get (v := .int (σ 0 17)) hF 17 obM_0 (by decide) m_1882 rfl d_X14_sizeAt_11 ?_
  refine g_istore_n hF [(1, .int (σ 0 17)), (0, .ref (r 0))] d_X14_sizeAt_14 rfl hnn (by decide) rfl ?_
  refine g_aload_n hF d_X14_sizeAt_15 rfl 1 rfl ?_
  refine g_iconst hF (v := 1) d_X14_sizeAt_16 (by decide) ?_
  refine g_callV (As := [.int 1]) (rest := []) hF (fun l D cy => (ctE_expression a r hcap w) l D cy) (Nat.le_of_ble_eq_true rfl) mV_X14_expression m_2361 (recv_ob obM_0) rfl rfl (Nat.le_of_ble_eq_true rfl) d_X14_sizeAt_17 (kA (fun u17 s17 t17 z17 w1 => ?_)) (fun σ9 τ9 vs9 h9 => g_out hF stopM rfl h9)
  refine g_astore_n hF [(2, .ref u17), (1, .int (σ 0 17)), (0, .ref (r 0))] d_X14_sizeAt_20 rfl hnn (by decide) rfl ?_
  refine g_aload_n hF d_X14_sizeAt_21 rfl 2 rfl ?_
  refine g_dup hF d_X14_sizeAt_22 rfl ?_
  refine g_get (v := .int (s17 0 15)) hF 15 obM_0 (by decide) m_1880 rfl d_X14_sizeAt_23 ?_
  refine g_iconst hF (v := 1) d_X14_sizeAt_26 (by decide) ?_
  refine g_isub hF d_X14_sizeAt_27 ?_
  refine g_put (v := ((s17 0 15) - (1 : Int32))) hF 15 obM_0 (by decide) m_1880 rfl rfl rfl d_X14_sizeAt_28 ?_
  refine g_aload_n hF d_X14_sizeAt_31 rfl 2 rfl ?_
  refine g_iload_n hF d_X14_sizeAt_32 rfl 1 rfl ?_
  refine g_put (v := (σ 0 17)) hF 17 obM_0 (by decide) m_1882 rfl rfl rfl d_X14_sizeAt_33 ?_
  refine g_aload_n hF d_X14_sizeAt_36 rfl 0 rfl ?_
  obtain ⟨hm1, w2⟩ := w1
  refine g_vget hF 6 hm1 clsVC (by decide) m_2408 d_X14_sizeAt_37 ?_
  refine g_top (v := (t17 u17 6)) rfl ?_
  refine g_iconst hF (v := 1) d_X14_sizeAt_40 (by decide) ?_
  refine g_icmp_ne (yv := 1) hF 66 d_X14_sizeAt_41 (by decide) rfl (by decide) (fun c => ?_) (fun c => ?_)
  · have w3 := w2.1 c
    refine g_iconst hF (v := (-1)) d_X14_sizeAt_66 (by decide) ?_
    exact g_iret hF rfl d_X14_sizeAt_67 ⟨((-1) : Int32), rfl, w3⟩
  · have w4 := w2.2 c
    refine g_aload_n hF d_X14_sizeAt_44 rfl 0 rfl ?_
    refine g_cap (fun hc4 => ?_)
    refine g_callS (As := [.ref u17]) (rest := []) hF (fun l D cy => (ct_isInt a r hc4 w4) l D cy) (Nat.le_of_ble_eq_true rfl) mS_X14_isInt m_2471 rfl rfl (Nat.le_of_ble_eq_true rfl) d_X14_sizeAt_45 (krZ (fun v45 hz45 w6 => ?_)) (fun _ _ _ h => h.elim)
    refine g_if_eq hF 66 d_X14_sizeAt_48 (by decide) rfl (fun c => ?_) (fun c => ?_)
    · have w7 := w6.1 c
      refine g_iconst hF (v := (-1)) d_X14_sizeAt_66 (by decide) ?_
      exact g_iret hF rfl d_X14_sizeAt_67 ⟨((-1) : Int32), rfl, w7⟩
    · have w8 := w6.2 c
      refine g_aload_n hF d_X14_sizeAt_51 rfl 0 rfl ?_
      refine g_vget hF 7 hm1 clsVC (by decide) m_2410 d_X14_sizeAt_52 ?_
      refine g_top (v := (t17 u17 7)) rfl ?_
      refine g_iconst hF (v := 1) d_X14_sizeAt_55 (by decide) ?_
      refine g_icmp_lt (yv := 1) hF 66 d_X14_sizeAt_56 (by decide) rfl (by decide) (fun c => ?_) (fun c => ?_)
      · have w9 := w8.1 c
        refine g_iconst hF (v := (-1)) d_X14_sizeAt_66 (by decide) ?_
        exact g_iret hF rfl d_X14_sizeAt_67 ⟨((-1) : Int32), rfl, w9⟩
      · have w10 := w8.2 c
        refine g_aload_n hF d_X14_sizeAt_59 rfl 0 rfl ?_
        refine g_vget hF 7 hm1 clsVC (by decide) m_2410 d_X14_sizeAt_60 ?_
        refine g_top (v := (t17 u17 7)) rfl ?_
        refine g_goto hF 67 d_X14_sizeAt_63 (by decide) ?_
        exact g_iret hF rfl d_X14_sizeAt_67 ⟨(t17 u17 7), rfl, w10⟩
def wp_one_1 (a1 : Int32) (a2 : Int32) (a3 : Int32) (a4 : Int32) (σ τ : St) (vs : List Nat) (Q : Int32 → St → St → List Nat → Prop) (T : St → St → List Nat → Prop) : Prop :=
  wpE_expression (1 : Int32) σ τ vs (fun u8 s8 t8 z8 => wp_read_1 u8 s8 t8 z8 (fun s16 t16 z16 => (a4.toInt ≠ 0 → (∃ J108 : St → St → List Nat → Prop, (∀ (s108 t108 : St) (z108 : List Nat), J108 s108 t108 z108 → ((∃ J127 : St → St → List Nat → Prop, (∀ (s127 t127 : St) (z127 : List Nat), J127 s127 t127 z127 → (wp_fits u8 a1 s127 t127 z127 (fun v130 => Q v130 s127 t127 z127))) ∧ (a3.toInt < 0 → J127 s108 t108 z108) ∧ (0 ≤ a3.toInt → ((0 ≤ a3.toInt ∧ a3.toInt < 100) ∧ (0 ≤ (s108 32 a3.toNatClampNeg).toInt → J127 s108 t108 z108) ∧ ((s108 32 a3.toNatClampNeg).toInt < 0 → wp_put_0 (10 : Int32) s108 t108 z108 (fun s124 t124 z124 => J127 s124 t124 z124))))))) ∧ (a3.toInt < 0 → J108 s16 t16 z16) ∧ (0 ≤ a3.toInt → ((0 ≤ a3.toInt ∧ a3.toInt < 100) ∧ (0 ≤ (s16 32 a3.toNatClampNeg).toInt → J108 s16 t16 z16) ∧ ((s16 32 a3.toNatClampNeg).toInt < 0 → wp_put_1 (7 : Int32) a3 s16 t16 z16 (fun s105 t105 z105 => J108 s105 t105 z105)))))) ∧ (a4.toInt = 0 → wp_isInitial u8 a1 (upC s16 0 17 (σ 0 17)) t16 z16 (fun v34 => (∃ J80 : St → St → List Nat → Prop, (∀ (s80 t80 : St) (z80 : List Nat), J80 s80 t80 z80 → (wp_isInitial u8 a1 s80 t80 z80 (fun v84 => Q v84 s80 t80 z80))) ∧ (v34.toInt = 0 → J80 (upC s16 0 17 (σ 0 17)) t16 z16) ∧ (v34.toInt ≠ 0 → (u8 ∈ z16 ∧ (∃ J59 : Int32 → Prop, (∀ (y2_59 : Int32), J59 y2_59 → ((∃ J77 : Int32 → Prop, (∀ (y3_77 : Int32), J77 y3_77 → (wp_init a2 y2_59 y3_77 (upC s16 0 17 (σ 0 17)) t16 z16 (fun s77 t77 z77 => J80 s77 t77 z77))) ∧ ((t16 u8 6).toInt ≠ 2 → J77 (0 : Int32)) ∧ ((t16 u8 6).toInt = 2 → J77 (t16 u8 8))))) ∧ ((t16 u8 5).toInt = 0 → J59 (t16 u8 7)) ∧ ((t16 u8 5).toInt ≠ 0 → J59 (0 : Int32)))))))))) T
set_option maxHeartbeats 4000000 in
set_option maxRecDepth 100000 in
theorem ct_one_1 (a : Nat → Nat) (r : Nat → Nat) {a1 : Int32} {a2 : Int32} {a3 : Int32} {a4 : Int32} {σ τ : St} {vs : List Nat} {Q : Int32 → St → St → List Nat → Prop} {T : St → St → List Nat → Prop} (hcap : vs.length ≤ CAP) (w : wp_one_1 a1 a2 a3 a4 σ τ vs Q T) (l : Launch) (D : va_G) (cy : Nat → ClassId) : Ct l D cy SM r (EM a) y_X14_one_1 (Cond.code y_X14_one_1 b_X14_one_1 7 (some .boolean)) 605 [.ref (r 0), .int a1, .int a2, .int a3, .int a4] σ τ vs (QZs Q) T := by
  unfold wp_one_1 at w
  refine Ct_of (EM_ok a) (by decide) (Nat.le_of_ble_eq_true rfl) hcap (fun X hnn hF => ?_)
  show G SM r X σ τ vs [(0, .ref (r 0)), (1, .int a1), (2, .int a2), (3, .int a3), (4, .int a4)] [] 0
  refine g_aload_n hF d_X14_one_1_0 rfl 0 rfl ?_
  refine g_get (v := .int (σ 0 17)) hF 17 obM_0 (by decide) m_1882 rfl d_X14_one_1_1 ?_
  refine g_istore hF [(5, .int (σ 0 17)), (0, .ref (r 0)), (1, .int a1), (2, .int a2), (3, .int a3), (4, .int a4)] d_X14_one_1_4 hnn (by decide) rfl ?_
  refine g_aload_n hF d_X14_one_1_6 rfl 1 rfl ?_
  refine g_iconst hF (v := 1) d_X14_one_1_7 (by decide) ?_
  refine g_callV (As := [.int 1]) (rest := []) hF (fun l D cy => (ctE_expression a r hcap w) l D cy) (Nat.le_of_ble_eq_true rfl) mV_X14_expression m_2361 (recv_ob obM_0) rfl rfl (Nat.le_of_ble_eq_true rfl) d_X14_one_1_8 (kA (fun u8 s8 t8 z8 w1 => ?_)) (fun σ9 τ9 vs9 h9 => g_out hF stopM rfl h9)
  refine g_astore hF [(6, .ref u8), (5, .int (σ 0 17)), (0, .ref (r 0)), (1, .int a1), (2, .int a2), (3, .int a3), (4, .int a4)] d_X14_one_1_11 hnn (by decide) rfl ?_
  refine g_aload_n hF d_X14_one_1_13 rfl 2 rfl ?_
  refine g_aload hF d_X14_one_1_14 0 rfl ?_
  refine g_cap (fun hc1 => ?_)
  refine g_callV (As := [.ref u8]) (rest := []) hF (fun l D cy => (ct_read_1 a r hc1 w1) l D cy) (Nat.le_of_ble_eq_true rfl) mV_X14_read_1 m_2453 (recv_ob obM_0) rfl rfl (Nat.le_of_ble_eq_true rfl) d_X14_one_1_16 (kV (fun s16 t16 z16 w3 => ?_)) (fun _ _ _ h => h.elim)
  refine g_iload hF d_X14_one_1_19 6 rfl ?_
  refine g_if_ne hF 88 d_X14_one_1_21 (by decide) rfl (fun c => ?_) (fun c => ?_)
  · have w4 := w3.1 c
    refine g_iload_n hF d_X14_one_1_88 rfl 5 rfl ?_
    obtain ⟨J108, h108, w5⟩ := w4
    have b108 : ∀ (s108 t108 : St) (z108 : List Nat), J108 s108 t108 z108 → G SM r X s108 t108 z108 [(0, .ref (r 0)), (1, .int a1), (3, .int a3), (6, .ref u8)] [] 108 := by
      intro s108 t108 z108  w108_
      have w108_ := h108 s108 t108 z108  w108_
      refine g_iload_n hF d_X14_one_1_108 rfl 2 rfl ?_
      obtain ⟨J127, h127, w6⟩ := w108_
      have b127 : ∀ (s127 t127 : St) (z127 : List Nat), J127 s127 t127 z127 → G SM r X s127 t127 z127 [(1, .int a1), (6, .ref u8)] [] 127 := by
        intro s127 t127 z127  w127_
        have w127_ := h127 s127 t127 z127  w127_
        refine g_aload hF d_X14_one_1_127 1 rfl ?_
        refine g_iload_n hF d_X14_one_1_129 rfl 0 rfl ?_
        refine g_cap (fun hc6 => ?_)
        refine g_callS (As := [.ref u8, .int a1]) (rest := []) hF (fun l D cy => (ct_fits a r hc6 w127_) l D cy) (Nat.le_of_ble_eq_true rfl) mS_X14_fits m_2506 rfl rfl (Nat.le_of_ble_eq_true rfl) d_X14_one_1_130 (krZ (fun v130 hz130 w8 => ?_)) (fun _ _ _ h => h.elim)
        exact g_zret hF rfl (k_nz hz130) d_X14_one_1_133 ⟨v130, rfl, hz130, w8⟩
      refine g_if_lt hF 127 d_X14_one_1_109 (by decide) rfl (fun c => ?_) (fun c => ?_)
      · have w9 := w6.1 c
        exact g_sub (L' := [(1, .int a1), (6, .ref u8)]) [1, 3] rfl (b127 s108 t108 z108 w9)
      · have w10 := w6.2 c
        refine g_aload_n hF d_X14_one_1_112 rfl 0 rfl ?_
        refine g_get (v := .ref (r 32)) hF 47 obM_0 (by decide) m_1912 rfl d_X14_one_1_113 ?_
        refine g_iload_n hF d_X14_one_1_116 rfl 2 rfl ?_
        have w11 := w10.2
        refine g_iald hF arM_32 (s_in (Nat.le_of_ble_eq_true rfl) w10.1.1 w10.1.2) d_X14_one_1_117 ?_
        refine g_top (v := (s108 32 a3.toNatClampNeg)) rfl ?_
        refine g_if_ge hF 127 d_X14_one_1_118 (by decide) rfl (fun c => ?_) (fun c => ?_)
        · have w12 := w11.1 c
          exact g_sub (L' := [(1, .int a1), (6, .ref u8)]) [1, 3] rfl (b127 s108 t108 z108 w12)
        · have w13 := w11.2 c
          refine g_aload_n hF d_X14_one_1_121 rfl 0 rfl ?_
          refine g_bipush hF (v := 10) d_X14_one_1_122 (by decide) ?_
          refine g_cap (fun hc13 => ?_)
          refine g_callV (As := [.int 10]) (rest := []) hF (fun l D cy => (ct_put_0 a r hc13 w13) l D cy) (Nat.le_of_ble_eq_true rfl) mV_X14_put_0 m_2437 (recv_ob obM_0) rfl rfl (Nat.le_of_ble_eq_true rfl) d_X14_one_1_124 (kV (fun s124 t124 z124 w15 => ?_)) (fun _ _ _ h => h.elim)
          exact g_sub (L' := [(1, .int a1), (6, .ref u8)]) [1, 3] rfl (b127 s124 t124 z124 w15)
    refine g_if_lt hF 108 d_X14_one_1_89 (by decide) rfl (fun c => ?_) (fun c => ?_)
    · have w16 := w5.1 c
      exact g_sub (L' := [(0, .ref (r 0)), (1, .int a1), (3, .int a3), (6, .ref u8)]) [2, 3, 5, 0] rfl (b108 s16 t16 z16 w16)
    · have w17 := w5.2 c
      refine g_aload_n hF d_X14_one_1_92 rfl 2 rfl ?_
      refine g_get (v := .ref (r 32)) hF 47 obM_0 (by decide) m_1912 rfl d_X14_one_1_93 ?_
      refine g_iload_n hF d_X14_one_1_96 rfl 5 rfl ?_
      have w18 := w17.2
      refine g_iald hF arM_32 (s_in (Nat.le_of_ble_eq_true rfl) w17.1.1 w17.1.2) d_X14_one_1_97 ?_
      refine g_top (v := (s16 32 a3.toNatClampNeg)) rfl ?_
      refine g_if_ge hF 108 d_X14_one_1_98 (by decide) rfl (fun c => ?_) (fun c => ?_)
      · have w19 := w18.1 c
        exact g_sub (L' := [(0, .ref (r 0)), (1, .int a1), (3, .int a3), (6, .ref u8)]) [2, 3, 5, 0] rfl (b108 s16 t16 z16 w19)
      · have w20 := w18.2 c
        refine g_aload_n hF d_X14_one_1_101 rfl 2 rfl ?_
        refine g_bipush hF (v := 7) d_X14_one_1_102 (by decide) ?_
        refine g_iload_n hF d_X14_one_1_104 rfl 5 rfl ?_
        refine g_cap (fun hc20 => ?_)
        refine g_callV (As := [.int 7, .int a3]) (rest := []) hF (fun l D cy => (ct_put_1 a r hc20 w20) l D cy) (Nat.le_of_ble_eq_true rfl) mV_X14_put_1 m_2433 (recv_ob obM_0) rfl rfl (Nat.le_of_ble_eq_true rfl) d_X14_one_1_105 (kV (fun s105 t105 z105 w22 => ?_)) (fun _ _ _ h => h.elim)
        exact g_sub (L' := [(0, .ref (r 0)), (1, .int a1), (3, .int a3), (6, .ref u8)]) [2, 3, 5, 0] rfl (b108 s105 t105 z105 w22)
  · have w23 := w3.2 c
    refine g_aload_n hF d_X14_one_1_24 rfl 2 rfl ?_
    refine g_iload hF d_X14_one_1_25 1 rfl ?_
    refine g_put (v := (σ 0 17)) hF 17 obM_0 (by decide) m_1882 rfl rfl rfl d_X14_one_1_27 ?_
    refine g_aload_n hF d_X14_one_1_30 rfl 2 rfl ?_
    refine g_aload hF d_X14_one_1_31 0 rfl ?_
    refine g_iload_n hF d_X14_one_1_33 rfl 3 rfl ?_
    refine g_cap (fun hc23 => ?_)
    refine g_callV (As := [.ref u8, .int a1]) (rest := []) hF (fun l D cy => (ct_isInitial a r hc23 w23) l D cy) (Nat.le_of_ble_eq_true rfl) mV_X14_isInitial m_2580 (recv_ob obM_0) rfl rfl (Nat.le_of_ble_eq_true rfl) d_X14_one_1_34 (krZ (fun v34 hz34 w25 => ?_)) (fun _ _ _ h => h.elim)
    obtain ⟨J80, h80, w26⟩ := w25
    have b80 : ∀ (s80 t80 : St) (z80 : List Nat), J80 s80 t80 z80 → G SM r X s80 t80 z80 [(0, .ref (r 0)), (1, .int a1), (6, .ref u8)] [] 80 := by
      intro s80 t80 z80  w80_
      have w80_ := h80 s80 t80 z80  w80_
      refine g_aload_n hF d_X14_one_1_80 rfl 0 rfl ?_
      refine g_aload hF d_X14_one_1_81 2 rfl ?_
      refine g_iload_n hF d_X14_one_1_83 rfl 1 rfl ?_
      refine g_cap (fun hc26 => ?_)
      refine g_callV (As := [.ref u8, .int a1]) (rest := []) hF (fun l D cy => (ct_isInitial a r hc26 w80_) l D cy) (Nat.le_of_ble_eq_true rfl) mV_X14_isInitial m_2580 (recv_ob obM_0) rfl rfl (Nat.le_of_ble_eq_true rfl) d_X14_one_1_84 (krZ (fun v84 hz84 w28 => ?_)) (fun _ _ _ h => h.elim)
      exact g_zret hF rfl (k_nz hz84) d_X14_one_1_87 ⟨v84, rfl, hz84, w28⟩
    refine g_if_eq hF 80 d_X14_one_1_37 (by decide) rfl (fun c => ?_) (fun c => ?_)
    · have w29 := w26.1 c
      exact g_sub (L' := [(0, .ref (r 0)), (1, .int a1), (6, .ref u8)]) [2, 3, 0] rfl (b80 (upC s16 0 17 (σ 0 17)) t16 z16 w29)
    · have w30 := w26.2 c
      refine g_aload_n hF d_X14_one_1_40 rfl 2 rfl ?_
      refine g_iload_n hF d_X14_one_1_41 rfl 4 rfl ?_
      refine g_aload hF d_X14_one_1_42 0 rfl ?_
      obtain ⟨hm30, w31⟩ := w30
      refine g_vget hF 5 hm30 clsVC (by decide) m_2406 d_X14_one_1_44 ?_
      refine g_top (v := (t16 u8 5)) rfl ?_
      obtain ⟨J59, h59, w32⟩ := w31
      have b59 : ∀ (y2_59 : Int32), J59 y2_59 → G SM r X (upC s16 0 17 (σ 0 17)) t16 z16 [(0, .ref (r 0)), (1, .int a1), (6, .ref u8)] [.int y2_59, .int a2, .ref (r 0)] 59 := by
        intro y2_59  w59_
        have w59_ := h59 y2_59  w59_
        refine g_aload hF d_X14_one_1_59 2 rfl ?_
        refine g_vget hF 6 hm30 clsVC (by decide) m_2408 d_X14_one_1_61 ?_
        refine g_top (v := (t16 u8 6)) rfl ?_
        refine g_iconst hF (v := 2) d_X14_one_1_64 (by decide) ?_
        obtain ⟨J77, h77, w33⟩ := w59_
        have b77 : ∀ (y3_77 : Int32), J77 y3_77 → G SM r X (upC s16 0 17 (σ 0 17)) t16 z16 [(0, .ref (r 0)), (1, .int a1), (6, .ref u8)] [.int y3_77, .int y2_59, .int a2, .ref (r 0)] 77 := by
          intro y3_77  w77_
          have w77_ := h77 y3_77  w77_
          refine g_callV (As := [.int a2, .int y2_59, .int y3_77]) (rest := []) hF (fun l D cy => (ct_init a r hc23 w77_) l D cy) (Nat.le_of_ble_eq_true rfl) mV_X14_init m_2494 (recv_ob obM_0) rfl rfl (Nat.le_of_ble_eq_true rfl) d_X14_one_1_77 (kV (fun s77 t77 z77 w34 => ?_)) (fun _ _ _ h => h.elim)
          exact b80 s77 t77 z77 w34
        refine g_icmp_ne (yv := 2) hF 76 d_X14_one_1_65 (by decide) rfl (by decide) (fun c => ?_) (fun c => ?_)
        · have w35 := w33.1 c
          refine g_iconst hF (v := 0) d_X14_one_1_76 (by decide) ?_
          exact b77 (0 : Int32) w35
        · have w36 := w33.2 c
          refine g_aload hF d_X14_one_1_68 2 rfl ?_
          refine g_vget hF 8 hm30 clsVC (by decide) m_2412 d_X14_one_1_70 ?_
          refine g_top (v := (t16 u8 8)) rfl ?_
          refine g_goto hF 77 d_X14_one_1_73 (by decide) ?_
          exact b77 (t16 u8 8) w36
      refine g_if_eq hF 54 d_X14_one_1_47 (by decide) rfl (fun c => ?_) (fun c => ?_)
      · have w37 := w32.1 c
        refine g_aload hF d_X14_one_1_54 0 rfl ?_
        refine g_vget hF 7 hm30 clsVC (by decide) m_2410 d_X14_one_1_56 ?_
        refine g_top (v := (t16 u8 7)) rfl ?_
        exact g_sub (L' := [(0, .ref (r 0)), (1, .int a1), (6, .ref u8)]) [2, 3, 0] rfl (b59 (t16 u8 7) w37)
      · have w38 := w32.2 c
        refine g_iconst hF (v := 0) d_X14_one_1_50 (by decide) ?_
        refine g_goto hF 59 d_X14_one_1_51 (by decide) ?_
        exact g_sub (L' := [(0, .ref (r 0)), (1, .int a1), (6, .ref u8)]) [2, 3, 0] rfl (b59 (0 : Int32) w38)
def wp_condition (a1 : Int32) (σ τ : St) (vs : List Nat) (Q : St → St → List Nat → Prop) (T : St → St → List Nat → Prop) : Prop :=
  wp_expect (20 : Int32) σ τ vs (fun s3 t3 z3 => wpE_expression (1 : Int32) s3 t3 z3 (fun u8 s8 t8 z8 => wp_read_1 u8 s8 t8 z8 (fun s14 t14 z14 => wp_expect (21 : Int32) s14 t14 z14 (fun s20 t20 z20 => wp_isAny u8 s20 t20 z20 (fun v25 => wp_must v25 a1 s20 t20 z20 (fun s29 t29 z29 => Q s29 t29 z29))) T)) T) T
set_option maxHeartbeats 4000000 in
set_option maxRecDepth 100000 in
theorem ct_condition (a : Nat → Nat) (r : Nat → Nat) {a1 : Int32} {σ τ : St} {vs : List Nat} {Q : St → St → List Nat → Prop} {T : St → St → List Nat → Prop} (hcap : vs.length ≤ CAP) (w : wp_condition a1 σ τ vs Q T) (l : Launch) (D : va_G) (cy : Nat → ClassId) : Ct l D cy SM r (EM a) y_X14_condition (Cond.code y_X14_condition b_X14_condition 3 none) 605 [.ref (r 0), .int a1] σ τ vs (QVs Q) T := by
  unfold wp_condition at w
  refine Ct_of (EM_ok a) (by decide) (Nat.le_of_ble_eq_true rfl) hcap (fun X hnn hF => ?_)
  show G SM r X σ τ vs [(0, .ref (r 0)), (1, .int a1)] [] 0
  refine g_aload_n hF d_X14_condition_0 rfl 0 rfl ?_
  refine g_bipush hF (v := 20) d_X14_condition_1 (by decide) ?_
  refine g_callV (As := [.int 20]) (rest := []) hF (fun l D cy => (ct_expect a r hcap w) l D cy) (Nat.le_of_ble_eq_true rfl) mV_X14_expect m_2285 (recv_ob obM_0) rfl rfl (Nat.le_of_ble_eq_true rfl) d_X14_condition_3 (kV (fun s3 t3 z3 w1 => ?_)) (fun σ9 τ9 vs9 h9 => g_out hF stopM rfl h9)
  refine g_aload_n hF d_X14_condition_6 rfl 0 rfl ?_
  refine g_iconst hF (v := 1) d_X14_condition_7 (by decide) ?_
  refine g_cap (fun hc1 => ?_)
  refine g_callV (As := [.int 1]) (rest := []) hF (fun l D cy => (ctE_expression a r hc1 w1) l D cy) (Nat.le_of_ble_eq_true rfl) mV_X14_expression m_2361 (recv_ob obM_0) rfl rfl (Nat.le_of_ble_eq_true rfl) d_X14_condition_8 (kA (fun u8 s8 t8 z8 w3 => ?_)) (fun σ9 τ9 vs9 h9 => g_out hF stopM rfl h9)
  refine g_astore_n hF [(2, .ref u8), (0, .ref (r 0)), (1, .int a1)] d_X14_condition_11 rfl hnn (by decide) rfl ?_
  refine g_aload_n hF d_X14_condition_12 rfl 1 rfl ?_
  refine g_aload_n hF d_X14_condition_13 rfl 0 rfl ?_
  refine g_cap (fun hc3 => ?_)
  refine g_callV (As := [.ref u8]) (rest := []) hF (fun l D cy => (ct_read_1 a r hc3 w3) l D cy) (Nat.le_of_ble_eq_true rfl) mV_X14_read_1 m_2453 (recv_ob obM_0) rfl rfl (Nat.le_of_ble_eq_true rfl) d_X14_condition_14 (kV (fun s14 t14 z14 w5 => ?_)) (fun _ _ _ h => h.elim)
  refine g_aload_n hF d_X14_condition_17 rfl 1 rfl ?_
  refine g_bipush hF (v := 21) d_X14_condition_18 (by decide) ?_
  refine g_cap (fun hc5 => ?_)
  refine g_callV (As := [.int 21]) (rest := []) hF (fun l D cy => (ct_expect a r hc5 w5) l D cy) (Nat.le_of_ble_eq_true rfl) mV_X14_expect m_2285 (recv_ob obM_0) rfl rfl (Nat.le_of_ble_eq_true rfl) d_X14_condition_20 (kV (fun s20 t20 z20 w7 => ?_)) (fun σ9 τ9 vs9 h9 => g_out hF stopM rfl h9)
  refine g_aload_n hF d_X14_condition_23 rfl 1 rfl ?_
  refine g_aload_n hF d_X14_condition_24 rfl 0 rfl ?_
  refine g_cap (fun hc7 => ?_)
  refine g_callS (As := [.ref u8]) (rest := [.ref (r 0)]) hF (fun l D cy => (ct_isAny a r hc7 w7) l D cy) (Nat.le_of_ble_eq_true rfl) mS_X14_isAny m_2468 rfl rfl (Nat.le_of_ble_eq_true rfl) d_X14_condition_25 (krZ (fun v25 hz25 w9 => ?_)) (fun _ _ _ h => h.elim)
  refine g_iload_n hF d_X14_condition_28 rfl 2 rfl ?_
  refine g_callV (As := [.int v25, .int a1]) (rest := []) hF (fun l D cy => (ct_must a r hc7 w9) l D cy) (Nat.le_of_ble_eq_true rfl) mV_X14_must m_2313 (recv_ob obM_0) rfl rfl (Nat.le_of_ble_eq_true rfl) d_X14_condition_29 (kV (fun s29 t29 z29 w10 => ?_)) (fun _ _ _ h => h.elim)
  exact g_vret hF rfl d_X14_condition_32 ⟨rfl, w10⟩
def wp_doStatement (Kstatement : Int32 → St → St → List Nat → (St → St → List Nat → Prop) → (St → St → List Nat → Prop) → Prop) (Kinner : Int32 → St → St → List Nat → (St → St → List Nat → Prop) → (St → St → List Nat → Prop) → Prop) (Kblock : Int32 → St → St → List Nat → (St → St → List Nat → Prop) → (St → St → List Nat → Prop) → Prop) (Kloop : Int32 → Int32 → Int32 → St → St → List Nat → (St → St → List Nat → Prop) → (St → St → List Nat → Prop) → Prop) (KdoStatement : Int32 → Int32 → St → St → List Nat → (St → St → List Nat → Prop) → (St → St → List Nat → Prop) → Prop) (KforStatement : Int32 → Int32 → St → St → List Nat → (St → St → List Nat → Prop) → (St → St → List Nat → Prop) → Prop) (a1 : Int32) (a2 : Int32) (σ τ : St) (vs : List Nat) (Q : St → St → List Nat → Prop) (T : St → St → List Nat → Prop) : Prop :=
  Kloop a1 a2 ((-1) : Int32) (upC σ 0 10 ((σ 0 10) + (1 : Int32))) τ vs (fun s19 t19 z19 => wp_isWord (11 : Int32) (upC s19 0 58 (s19 0 60)) t19 z19 (fun v39 => (v39.toInt ≠ 0 → wp_condition (s19 0 10) (upC (upC s19 0 58 (s19 0 60)) 0 10 ((s19 0 10) + (1 : Int32))) t19 z19 (fun s69 t69 z69 => wp_expect (27 : Int32) s69 t69 z69 (fun s75 t75 z75 => wp_put_1 (17 : Int32) (σ 0 17) s75 t75 z75 (fun s82 t82 z82 => wp_aimAll (s19 0 58) (s82 0 17) s82 t82 z82 (fun s92 t92 z92 => Q s92 t92 z92))) T) T) ∧ (v39.toInt = 0 → wp_wrong (upC s19 0 58 (s19 0 60)) t19 z19 (fun s46 t46 z46 => T s46 t46 z46)))) T
set_option maxHeartbeats 4000000 in
set_option maxRecDepth 100000 in
theorem ct_doStatement (a : Nat → Nat) (r : Nat → Nat) (dK : Nat) (hdK : 606 ≤ dK) (Kstatement : Int32 → St → St → List Nat → (St → St → List Nat → Prop) → (St → St → List Nat → Prop) → Prop) (Kinner : Int32 → St → St → List Nat → (St → St → List Nat → Prop) → (St → St → List Nat → Prop) → Prop) (Kblock : Int32 → St → St → List Nat → (St → St → List Nat → Prop) → (St → St → List Nat → Prop) → Prop) (Kloop : Int32 → Int32 → Int32 → St → St → List Nat → (St → St → List Nat → Prop) → (St → St → List Nat → Prop) → Prop) (KdoStatement : Int32 → Int32 → St → St → List Nat → (St → St → List Nat → Prop) → (St → St → List Nat → Prop) → Prop) (KforStatement : Int32 → Int32 → St → St → List Nat → (St → St → List Nat → Prop) → (St → St → List Nat → Prop) → Prop) (hKloop : ∀ {a1 : Int32} {a2 : Int32} {a3 : Int32} {σ τ : St} {vs : List Nat} {Q : St → St → List Nat → Prop} {T : St → St → List Nat → Prop}, vs.length ≤ CAP → Kloop a1 a2 a3 σ τ vs Q T → ∀ (l : Launch) (D : va_G) (cy : Nat → ClassId), Ct l D cy SM r (EM a) y_X14_loop (Cond.code y_X14_loop b_X14_loop 6 none) dK [.ref (r 0), .int a1, .int a2, .int a3] σ τ vs (QVs Q) T) {a1 : Int32} {a2 : Int32} {σ τ : St} {vs : List Nat} {Q : St → St → List Nat → Prop} {T : St → St → List Nat → Prop} (hcap : vs.length ≤ CAP) (w : wp_doStatement Kstatement Kinner Kblock Kloop KdoStatement KforStatement a1 a2 σ τ vs Q T) (l : Launch) (D : va_G) (cy : Nat → ClassId) : Ct l D cy SM r (EM a) y_X14_doStatement (Cond.code y_X14_doStatement b_X14_doStatement 6 none) (dK + 1) [.ref (r 0), .int a1, .int a2] σ τ vs (QVs Q) T := by
  unfold wp_doStatement at w
  refine Ct_of (EM_ok a) (by decide) (Nat.le_of_ble_eq_true rfl) hcap (fun X hnn hF => ?_)
  show G SM r X σ τ vs [(0, .ref (r 0)), (1, .int a1), (2, .int a2)] [] 0
  refine g_aload_n hF d_X14_doStatement_0 rfl 0 rfl ?_
  refine g_dup hF d_X14_doStatement_1 rfl ?_
  refine g_get (v := .int (σ 0 10)) hF 10 obM_0 (by decide) m_1875 rfl d_X14_doStatement_2 ?_
  refine g_iconst hF (v := 1) d_X14_doStatement_5 (by decide) ?_
  refine g_iadd hF d_X14_doStatement_6 ?_
  refine g_put (v := ((σ 0 10) + (1 : Int32))) hF 10 obM_0 (by decide) m_1875 rfl rfl rfl d_X14_doStatement_7 ?_
  refine g_aload_n hF d_X14_doStatement_10 rfl 0 rfl ?_
  refine g_get (v := .int (σ 0 17)) hF 17 obM_0 (by decide) m_1882 rfl d_X14_doStatement_11 ?_
  refine g_istore_n hF [(3, .int (σ 0 17)), (0, .ref (r 0)), (1, .int a1), (2, .int a2)] d_X14_doStatement_14 rfl hnn (by decide) rfl ?_
  refine g_aload_n hF d_X14_doStatement_15 rfl 1 rfl ?_
  refine g_iload_n hF d_X14_doStatement_16 rfl 2 rfl ?_
  refine g_iload_n hF d_X14_doStatement_17 rfl 3 rfl ?_
  refine g_iconst hF (v := (-1)) d_X14_doStatement_18 (by decide) ?_
  refine g_callV (As := [.int a1, .int a2, .int (-1)]) (rest := []) hF (fun l D cy => (hKloop hcap w) l D cy) (Nat.le_refl _) mV_X14_loop m_2600 (recv_ob obM_0) rfl rfl (Nat.le_of_ble_eq_true rfl) d_X14_doStatement_19 (kV (fun s19 t19 z19 w1 => ?_)) (fun σ9 τ9 vs9 h9 => g_out hF stopM rfl h9)
  refine g_aload_n hF d_X14_doStatement_22 rfl 1 rfl ?_
  refine g_get (v := .int (s19 0 58)) hF 58 obM_0 (by decide) m_1923 rfl d_X14_doStatement_23 ?_
  refine g_istore hF [(4, .int (s19 0 58)), (3, .int (σ 0 17)), (0, .ref (r 0)), (1, .int a1), (2, .int a2)] d_X14_doStatement_26 hnn (by decide) rfl ?_
  refine g_aload_n hF d_X14_doStatement_28 rfl 2 rfl ?_
  refine g_aload_n hF d_X14_doStatement_29 rfl 2 rfl ?_
  refine g_get (v := .int (s19 0 60)) hF 60 obM_0 (by decide) m_1925 rfl d_X14_doStatement_30 ?_
  refine g_put (v := (s19 0 60)) hF 58 obM_0 (by decide) m_1923 rfl rfl rfl d_X14_doStatement_33 ?_
  refine g_aload_n hF d_X14_doStatement_36 rfl 2 rfl ?_
  refine g_bipush hF (v := 11) d_X14_doStatement_37 (by decide) ?_
  refine g_cap (fun hc1 => ?_)
  refine g_callV (As := [.int 11]) (rest := []) hF (fun l D cy => (ct_isWord a r hc1 w1) l D cy) (Nat.add_le_add_right (Nat.le_trans (Nat.le_of_ble_eq_true rfl) hdK) 1) mV_X14_isWord m_2273 (recv_ob obM_0) rfl rfl (Nat.le_of_ble_eq_true rfl) d_X14_doStatement_39 (krZ (fun v39 hz39 w3 => ?_)) (fun _ _ _ h => h.elim)
  refine g_if_ne hF 50 d_X14_doStatement_42 (by decide) rfl (fun c => ?_) (fun c => ?_)
  · have w4 := w3.1 c
    refine g_aload_n hF d_X14_doStatement_50 rfl 2 rfl ?_
    refine g_get (v := .int (s19 0 10)) hF 10 obM_0 (by decide) m_1875 rfl d_X14_doStatement_51 ?_
    refine g_istore hF [(5, .int (s19 0 10)), (4, .int (s19 0 58)), (3, .int (σ 0 17)), (0, .ref (r 0)), (1, .int a1), (2, .int a2)] d_X14_doStatement_54 hnn (by decide) rfl ?_
    refine g_aload_n hF d_X14_doStatement_56 rfl 3 rfl ?_
    refine g_dup hF d_X14_doStatement_57 rfl ?_
    refine g_get (v := .int (s19 0 10)) hF 10 obM_0 (by decide) m_1875 rfl d_X14_doStatement_58 ?_
    refine g_iconst hF (v := 1) d_X14_doStatement_61 (by decide) ?_
    refine g_iadd hF d_X14_doStatement_62 ?_
    refine g_put (v := ((s19 0 10) + (1 : Int32))) hF 10 obM_0 (by decide) m_1875 rfl rfl rfl d_X14_doStatement_63 ?_
    refine g_aload_n hF d_X14_doStatement_66 rfl 3 rfl ?_
    refine g_iload hF d_X14_doStatement_67 0 rfl ?_
    refine g_callV (As := [.int (s19 0 10)]) (rest := []) hF (fun l D cy => (ct_condition a r hc1 w4) l D cy) (Nat.add_le_add_right (Nat.le_trans (Nat.le_of_ble_eq_true rfl) hdK) 1) mV_X14_condition m_2588 (recv_ob obM_0) rfl rfl (Nat.le_of_ble_eq_true rfl) d_X14_doStatement_69 (kV (fun s69 t69 z69 w5 => ?_)) (fun σ9 τ9 vs9 h9 => g_out hF stopM rfl h9)
    refine g_aload_n hF d_X14_doStatement_72 rfl 3 rfl ?_
    refine g_bipush hF (v := 27) d_X14_doStatement_73 (by decide) ?_
    refine g_cap (fun hc5 => ?_)
    refine g_callV (As := [.int 27]) (rest := []) hF (fun l D cy => (ct_expect a r hc5 w5) l D cy) (Nat.add_le_add_right (Nat.le_trans (Nat.le_of_ble_eq_true rfl) hdK) 1) mV_X14_expect m_2285 (recv_ob obM_0) rfl rfl (Nat.le_of_ble_eq_true rfl) d_X14_doStatement_75 (kV (fun s75 t75 z75 w7 => ?_)) (fun σ9 τ9 vs9 h9 => g_out hF stopM rfl h9)
    refine g_aload_n hF d_X14_doStatement_78 rfl 3 rfl ?_
    refine g_bipush hF (v := 17) d_X14_doStatement_79 (by decide) ?_
    refine g_iload_n hF d_X14_doStatement_81 rfl 2 rfl ?_
    refine g_cap (fun hc7 => ?_)
    refine g_callV (As := [.int 17, .int (σ 0 17)]) (rest := []) hF (fun l D cy => (ct_put_1 a r hc7 w7) l D cy) (Nat.add_le_add_right (Nat.le_trans (Nat.le_of_ble_eq_true rfl) hdK) 1) mV_X14_put_1 m_2433 (recv_ob obM_0) rfl rfl (Nat.le_of_ble_eq_true rfl) d_X14_doStatement_82 (kV (fun s82 t82 z82 w9 => ?_)) (fun _ _ _ h => h.elim)
    refine g_aload_n hF d_X14_doStatement_85 rfl 3 rfl ?_
    refine g_iload hF d_X14_doStatement_86 1 rfl ?_
    refine g_aload_n hF d_X14_doStatement_88 rfl 3 rfl ?_
    refine g_get (v := .int (s82 0 17)) hF 17 obM_0 (by decide) m_1882 rfl d_X14_doStatement_89 ?_
    refine g_cap (fun hc9 => ?_)
    refine g_callV (As := [.int (s19 0 58), .int (s82 0 17)]) (rest := []) hF (fun l D cy => (ct_aimAll a r hc9 w9) l D cy) (Nat.add_le_add_right (Nat.le_trans (Nat.le_of_ble_eq_true rfl) hdK) 1) mV_X14_aimAll m_2604 (recv_ob obM_0) rfl rfl (Nat.le_of_ble_eq_true rfl) d_X14_doStatement_92 (kV (fun s92 t92 z92 w11 => ?_)) (fun _ _ _ h => h.elim)
    exact g_vret hF rfl d_X14_doStatement_95 ⟨rfl, w11⟩
  · have w12 := w3.2 c
    refine g_aload_n hF d_X14_doStatement_45 rfl 2 rfl ?_
    refine g_callV (As := []) (rest := []) hF (fun l D cy => (ct_wrong a r hc1 w12) l D cy) (Nat.add_le_add_right (Nat.le_trans (Nat.le_of_ble_eq_true rfl) hdK) 1) mV_X14_wrong m_2261 (recv_ob obM_0) rfl rfl (Nat.le_of_ble_eq_true rfl) d_X14_doStatement_46 (kX (fun s46 t46 z46 w13 => ?_)) (fun _ _ _ h => h.elim)
    exact g_athrow hF d_X14_doStatement_49 (g_out hF stopM rfl w13)
def wp_plain (σ τ : St) (vs : List Nat) (Q : St → St → List Nat → Prop) (T : St → St → List Nat → Prop) : Prop :=
  wpE_expression (1 : Int32) σ τ vs (fun u2 s2 t2 z2 => wp_read_2 u2 (0 : Int32) s2 t2 z2 (fun s9 t9 z9 => Q s9 t9 z9)) T
set_option maxHeartbeats 4000000 in
set_option maxRecDepth 100000 in
theorem ct_plain (a : Nat → Nat) (r : Nat → Nat) {σ τ : St} {vs : List Nat} {Q : St → St → List Nat → Prop} {T : St → St → List Nat → Prop} (hcap : vs.length ≤ CAP) (w : wp_plain  σ τ vs Q T) (l : Launch) (D : va_G) (cy : Nat → ClassId) : Ct l D cy SM r (EM a) y_X14_plain (Cond.code y_X14_plain b_X14_plain 2 none) 605 [.ref (r 0)] σ τ vs (QVs Q) T := by
  unfold wp_plain at w
  refine Ct_of (EM_ok a) (by decide) (Nat.le_of_ble_eq_true rfl) hcap (fun X hnn hF => ?_)
  show G SM r X σ τ vs [(0, .ref (r 0))] [] 0
  refine g_aload_n hF d_X14_plain_0 rfl 0 rfl ?_
  refine g_iconst hF (v := 1) d_X14_plain_1 (by decide) ?_
  refine g_callV (As := [.int 1]) (rest := []) hF (fun l D cy => (ctE_expression a r hcap w) l D cy) (Nat.le_of_ble_eq_true rfl) mV_X14_expression m_2361 (recv_ob obM_0) rfl rfl (Nat.le_of_ble_eq_true rfl) d_X14_plain_2 (kA (fun u2 s2 t2 z2 w1 => ?_)) (fun σ9 τ9 vs9 h9 => g_out hF stopM rfl h9)
  refine g_astore_n hF [(1, .ref u2), (0, .ref (r 0))] d_X14_plain_5 rfl hnn (by decide) rfl ?_
  refine g_aload_n hF d_X14_plain_6 rfl 1 rfl ?_
  refine g_aload_n hF d_X14_plain_7 rfl 0 rfl ?_
  refine g_iconst hF (v := 0) d_X14_plain_8 (by decide) ?_
  refine g_cap (fun hc1 => ?_)
  refine g_callV (As := [.ref u2, .int 0]) (rest := []) hF (fun l D cy => (ct_read_2 a r hc1 w1) l D cy) (Nat.le_of_ble_eq_true rfl) mV_X14_read_2 m_2620 (recv_ob obM_0) rfl rfl (Nat.le_of_ble_eq_true rfl) d_X14_plain_9 (kV (fun s9 t9 z9 w3 => ?_)) (fun _ _ _ h => h.elim)
  exact g_vret hF rfl d_X14_plain_12 ⟨rfl, w3⟩
