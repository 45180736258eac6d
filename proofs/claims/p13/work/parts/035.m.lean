def wp_unary (Kexpression : Int32 → St → St → List Nat → (Nat → St → St → List Nat → Prop) → (St → St → List Nat → Prop) → Prop) (Kchoice : Int32 → St → St → List Nat → (Nat → St → St → List Nat → Prop) → (St → St → List Nat → Prop) → Prop) (Kbinary : Int32 → Int32 → St → St → List Nat → (Nat → St → St → List Nat → Prop) → (St → St → List Nat → Prop) → Prop) (Kdecided : Int32 → Nat → Int32 → Int32 → St → St → List Nat → (Nat → St → St → List Nat → Prop) → (St → St → List Nat → Prop) → Prop) (Kunary : Int32 → St → St → List Nat → (Nat → St → St → List Nat → Prop) → (St → St → List Nat → Prop) → Prop) (Kbehind : Int32 → St → St → List Nat → (Nat → St → St → List Nat → Prop) → (St → St → List Nat → Prop) → Prop) (Kprimary : Int32 → St → St → List Nat → (Nat → St → St → List Nat → Prop) → (St → St → List Nat → Prop) → Prop) (Kcall_0 : Int32 → Int32 → St → St → List Nat → (Nat → St → St → List Nat → Prop) → (St → St → List Nat → Prop) → Prop) (a1 : Int32) (σ τ : St) (vs : List Nat) (Q : Nat → St → St → List Nat → Prop) (T : St → St → List Nat → Prop) : Prop :=
  wp_sign σ τ vs (fun v6 => (∃ J52 : Prop, (J52  → (wp_deeper a1 σ τ vs (fun v54 s54 t54 z54 => Kunary v54 (upC s54 0 10 ((s54 0 10) + (1 : Int32))) t54 z54 (fun u72 s72 t72 z72 => (v6.toInt ≠ 33 → (∃ J103 : Prop, (J103  → (wp_stepped u72 v6 (0 : Int32) (σ 0 10) s72 t72 z72 (fun u109 s109 t109 z109 => Q u109 s109 t109 z109))) ∧ (v6.toInt = 18 → J103) ∧ (v6.toInt ≠ 18 → (v6.toInt ≠ 19 → wp_read_1 u72 s72 t72 z72 (fun s116 t116 z116 => (v6.toInt ≠ 38 → wp_one_2 v6 u72 (σ 0 10) s116 t116 z116 (fun u140 s140 t140 z140 => Q u140 s140 t140 z140)) ∧ (v6.toInt = 38 → wp_pointedTo u72 (σ 0 10) s116 t116 z116 (fun u129 s129 t129 z129 => Q u129 s129 t129 z129)))) ∧ (v6.toInt = 19 → J103)))) ∧ (v6.toInt = 33 → wp_pointed u72 (σ 0 10) s72 t72 z72 (fun u87 s87 t87 z87 => Q u87 s87 t87 z87))) T) T)) ∧ (v6.toInt = 37 → J52) ∧ (v6.toInt ≠ 37 → (v6.toInt = 41 → J52) ∧ (v6.toInt ≠ 41 → (v6.toInt = 42 → J52) ∧ (v6.toInt ≠ 42 → (v6.toInt = 38 → J52) ∧ (v6.toInt ≠ 38 → (v6.toInt = 33 → J52) ∧ (v6.toInt ≠ 33 → (v6.toInt = 18 → J52) ∧ (v6.toInt ≠ 18 → (v6.toInt ≠ 19 → (∃ J230 : Prop, (J230  → (Kbehind a1 σ τ vs (fun u232 s232 t232 z232 => Q u232 s232 t232 z232) T)) ∧ (v6.toInt ≠ 20 → J230) ∧ (v6.toInt = 20 → ((0 ≤ ((σ 0 10) + (1 : Int32)).toInt ∧ ((σ 0 10) + (1 : Int32)).toInt < 16002) ∧ ((σ 2 ((σ 0 10) + (1 : Int32)).toNatClampNeg).toInt ≠ 5 → J230) ∧ ((σ 2 ((σ 0 10) + (1 : Int32)).toNatClampNeg).toInt = 5 → wp_deeper a1 σ τ vs (fun v167 s167 t167 z167 => wp_stars (upC s167 0 10 ((s167 0 10) + (2 : Int32))) t167 z167 (fun v183 s183 t183 z183 => wp_expect (21 : Int32) s183 t183 z183 (fun s191 t191 z191 => Kunary v167 s191 t191 z191 (fun u197 s197 t197 z197 => wp_read_1 u197 s197 t197 z197 (fun s205 t205 z205 => wp_isAny u197 s205 t205 z205 (fun v211 => wp_must v211 (σ 0 10) s205 t205 z205 (fun s215 t215 z215 => wp_made v183 u197 u197 (σ 0 10) s215 t215 z215 (fun u226 s226 t226 z226 => Q u226 s226 t226 z226))))) T) T) T) T))))) ∧ (v6.toInt = 19 → J52)))))))))
set_option maxHeartbeats 4000000 in
set_option maxRecDepth 100000 in
theorem ct_unary (a : Nat → Nat) (r : Nat → Nat) (dK : Nat) (hdK : 4 ≤ dK) (Kexpression : Int32 → St → St → List Nat → (Nat → St → St → List Nat → Prop) → (St → St → List Nat → Prop) → Prop) (Kchoice : Int32 → St → St → List Nat → (Nat → St → St → List Nat → Prop) → (St → St → List Nat → Prop) → Prop) (Kbinary : Int32 → Int32 → St → St → List Nat → (Nat → St → St → List Nat → Prop) → (St → St → List Nat → Prop) → Prop) (Kdecided : Int32 → Nat → Int32 → Int32 → St → St → List Nat → (Nat → St → St → List Nat → Prop) → (St → St → List Nat → Prop) → Prop) (Kunary : Int32 → St → St → List Nat → (Nat → St → St → List Nat → Prop) → (St → St → List Nat → Prop) → Prop) (Kbehind : Int32 → St → St → List Nat → (Nat → St → St → List Nat → Prop) → (St → St → List Nat → Prop) → Prop) (Kprimary : Int32 → St → St → List Nat → (Nat → St → St → List Nat → Prop) → (St → St → List Nat → Prop) → Prop) (Kcall_0 : Int32 → Int32 → St → St → List Nat → (Nat → St → St → List Nat → Prop) → (St → St → List Nat → Prop) → Prop) (hKunary : ∀ {a1 : Int32} {σ τ : St} {vs : List Nat} {Q : Nat → St → St → List Nat → Prop} {T : St → St → List Nat → Prop}, vs.length ≤ CAP → Kunary a1 σ τ vs Q T → ∀ (l : Launch) (D : va_G) (cy : Nat → ClassId), Ct l D cy SM r (EM a) y_X14_unary (Cond.code y_X14_unary b_X14_unary 7 (some (.object "LinkedUnitsModel$Value"))) dK [.ref (r 0), .int a1] σ τ vs (QAs Q) T) (hKbehind : ∀ {a1 : Int32} {σ τ : St} {vs : List Nat} {Q : Nat → St → St → List Nat → Prop} {T : St → St → List Nat → Prop}, vs.length ≤ CAP → Kbehind a1 σ τ vs Q T → ∀ (l : Launch) (D : va_G) (cy : Nat → ClassId), Ct l D cy SM r (EM a) y_X14_behind (Cond.code y_X14_behind b_X14_behind 7 (some (.object "LinkedUnitsModel$Value"))) dK [.ref (r 0), .int a1] σ τ vs (QAs Q) T) {a1 : Int32} {σ τ : St} {vs : List Nat} {Q : Nat → St → St → List Nat → Prop} {T : St → St → List Nat → Prop} (hcap : vs.length ≤ CAP) (w : wp_unary Kexpression Kchoice Kbinary Kdecided Kunary Kbehind Kprimary Kcall_0 a1 σ τ vs Q T) (l : Launch) (D : va_G) (cy : Nat → ClassId) : Ct l D cy SM r (EM a) y_X14_unary (Cond.code y_X14_unary b_X14_unary 7 (some (.object "LinkedUnitsModel$Value"))) (dK + 1) [.ref (r 0), .int a1] σ τ vs (QAs Q) T := by
  unfold wp_unary at w
  refine Ct_of (EM_ok a) (by decide) (Nat.le_of_ble_eq_true rfl) hcap (fun X hnn hF => ?_)
  show G SM r X σ τ vs [(0, .ref (r 0)), (1, .int a1)] [] 0
  refine g_aload_n hF d_X14_unary_0 rfl 0 rfl ?_
  refine g_get (v := .int (σ 0 10)) hF 10 obM_0 (by decide) m_1875 rfl d_X14_unary_1 ?_
  refine g_istore_n hF [(2, .int (σ 0 10)), (0, .ref (r 0)), (1, .int a1)] d_X14_unary_4 rfl hnn (by decide) rfl ?_
  refine g_aload_n hF d_X14_unary_5 rfl 1 rfl ?_
  refine g_callV (As := []) (rest := []) hF (fun l D cy => (ct_sign a r hcap w) l D cy) (Nat.add_le_add_right (Nat.le_trans (Nat.le_of_ble_eq_true rfl) hdK) 1) mV_X14_sign m_2377 (recv_ob obM_0) rfl rfl (Nat.le_of_ble_eq_true rfl) d_X14_unary_6 (krI (fun v6 w1 => ?_)) (fun _ _ _ h => h.elim)
  refine g_istore_n hF [(3, .int v6), (2, .int (σ 0 10)), (0, .ref (r 0)), (1, .int a1)] d_X14_unary_9 rfl hnn (by decide) rfl ?_
  refine g_iload_n hF d_X14_unary_10 rfl 0 rfl ?_
  refine g_bipush hF (v := 37) d_X14_unary_11 (by decide) ?_
  obtain ⟨J52, h52, w2⟩ := w1
  have b52 : J52  → G SM r X σ τ vs [(0, .ref (r 0)), (1, .int a1), (2, .int (σ 0 10)), (3, .int v6)] [] 52 := by
    intro   w52_
    have w52_ := h52   w52_
    refine g_aload_n hF d_X14_unary_52 rfl 0 rfl ?_
    refine g_iload_n hF d_X14_unary_53 rfl 1 rfl ?_
    refine g_callV (As := [.int a1]) (rest := []) hF (fun l D cy => (ct_deeper a r hcap w52_) l D cy) (Nat.add_le_add_right (Nat.le_trans (Nat.le_of_ble_eq_true rfl) hdK) 1) mV_X14_deeper m_2381 (recv_ob obM_0) rfl rfl (Nat.le_of_ble_eq_true rfl) d_X14_unary_54 (kI (fun v54 s54 t54 z54 w3 => ?_)) (fun σ9 τ9 vs9 h9 => g_out hF stopM rfl h9)
    refine g_istore hF [(4, .int v54), (0, .ref (r 0)), (1, .int a1), (2, .int (σ 0 10)), (3, .int v6)] d_X14_unary_57 hnn (by decide) rfl ?_
    refine g_aload_n hF d_X14_unary_59 rfl 1 rfl ?_
    refine g_dup hF d_X14_unary_60 rfl ?_
    refine g_get (v := .int (s54 0 10)) hF 10 obM_0 (by decide) m_1875 rfl d_X14_unary_61 ?_
    refine g_iconst hF (v := 1) d_X14_unary_64 (by decide) ?_
    refine g_iadd hF d_X14_unary_65 ?_
    refine g_put (v := ((s54 0 10) + (1 : Int32))) hF 10 obM_0 (by decide) m_1875 rfl rfl rfl d_X14_unary_66 ?_
    refine g_aload_n hF d_X14_unary_69 rfl 1 rfl ?_
    refine g_iload hF d_X14_unary_70 0 rfl ?_
    refine g_cap (fun hc3 => ?_)
    refine g_callV (As := [.int v54]) (rest := []) hF (fun l D cy => (hKunary hc3 w3) l D cy) (Nat.le_refl _) mV_X14_unary m_2373 (recv_ob obM_0) rfl rfl (Nat.le_of_ble_eq_true rfl) d_X14_unary_72 (kA (fun u72 s72 t72 z72 w5 => ?_)) (fun σ9 τ9 vs9 h9 => g_out hF stopM rfl h9)
    refine g_astore hF [(5, .ref u72), (4, .int v54), (0, .ref (r 0)), (1, .int a1), (2, .int (σ 0 10)), (3, .int v6)] d_X14_unary_75 hnn (by decide) rfl ?_
    refine g_iload_n hF d_X14_unary_77 rfl 5 rfl ?_
    refine g_bipush hF (v := 33) d_X14_unary_78 (by decide) ?_
    refine g_icmp_ne (yv := 33) hF 91 d_X14_unary_80 (by decide) rfl (by decide) (fun c => ?_) (fun c => ?_)
    · have w6 := w5.1 c
      refine g_iload_n hF d_X14_unary_91 rfl 5 rfl ?_
      refine g_bipush hF (v := 18) d_X14_unary_92 (by decide) ?_
      obtain ⟨J103, h103, w7⟩ := w6
      have b103 : J103  → G SM r X s72 t72 z72 [(0, .ref (r 0)), (2, .int (σ 0 10)), (3, .int v6), (5, .ref u72)] [] 103 := by
        intro   w103_
        have w103_ := h103   w103_
        refine g_aload_n hF d_X14_unary_103 rfl 0 rfl ?_
        refine g_aload hF d_X14_unary_104 3 rfl ?_
        refine g_iload_n hF d_X14_unary_106 rfl 2 rfl ?_
        refine g_iconst hF (v := 0) d_X14_unary_107 (by decide) ?_
        refine g_iload_n hF d_X14_unary_108 rfl 1 rfl ?_
        refine g_cap (fun hc7 => ?_)
        refine g_callV (As := [.ref u72, .int v6, .int 0, .int (σ 0 10)]) (rest := []) hF (fun l D cy => (ct_stepped a r hc7 w103_) l D cy) (Nat.add_le_add_right (Nat.le_trans (Nat.le_of_ble_eq_true rfl) hdK) 1) mV_X14_stepped m_2445 (recv_ob obM_0) rfl rfl (Nat.le_of_ble_eq_true rfl) d_X14_unary_109 (kA (fun u109 s109 t109 z109 w9 => ?_)) (fun _ _ _ h => h.elim)
        exact g_aret hF rfl d_X14_unary_112 ⟨u109, rfl, w9⟩
      refine g_icmp_eq (yv := 18) hF 103 d_X14_unary_94 (by decide) rfl (by decide) (fun c => ?_) (fun c => ?_)
      · have w10 := w7.1 c
        exact g_sub (L' := [(0, .ref (r 0)), (2, .int (σ 0 10)), (3, .int v6), (5, .ref u72)]) [2, 4, 5, 0] rfl (b103  w10)
      · have w11 := w7.2 c
        refine g_iload_n hF d_X14_unary_97 rfl 5 rfl ?_
        refine g_bipush hF (v := 19) d_X14_unary_98 (by decide) ?_
        refine g_icmp_ne (yv := 19) hF 113 d_X14_unary_100 (by decide) rfl (by decide) (fun c => ?_) (fun c => ?_)
        · have w12 := w11.1 c
          refine g_aload_n hF d_X14_unary_113 rfl 2 rfl ?_
          refine g_aload hF d_X14_unary_114 0 rfl ?_
          refine g_cap (fun hc12 => ?_)
          refine g_callV (As := [.ref u72]) (rest := []) hF (fun l D cy => (ct_read_1 a r hc12 w12) l D cy) (Nat.add_le_add_right (Nat.le_trans (Nat.le_of_ble_eq_true rfl) hdK) 1) mV_X14_read_1 m_2453 (recv_ob obM_0) rfl rfl (Nat.le_of_ble_eq_true rfl) d_X14_unary_116 (kV (fun s116 t116 z116 w14 => ?_)) (fun _ _ _ h => h.elim)
          refine g_iload_n hF d_X14_unary_119 rfl 5 rfl ?_
          refine g_bipush hF (v := 38) d_X14_unary_120 (by decide) ?_
          refine g_icmp_ne (yv := 38) hF 135 d_X14_unary_122 (by decide) rfl (by decide) (fun c => ?_) (fun c => ?_)
          · have w15 := w14.1 c
            refine g_aload_n hF d_X14_unary_135 rfl 2 rfl ?_
            refine g_iload_n hF d_X14_unary_136 rfl 5 rfl ?_
            refine g_aload hF d_X14_unary_137 0 rfl ?_
            refine g_iload_n hF d_X14_unary_139 rfl 4 rfl ?_
            refine g_cap (fun hc15 => ?_)
            refine g_callV (As := [.int v6, .ref u72, .int (σ 0 10)]) (rest := []) hF (fun l D cy => (ct_one_2 a r hc15 w15) l D cy) (Nat.add_le_add_right (Nat.le_trans (Nat.le_of_ble_eq_true rfl) hdK) 1) mV_X14_one_2 m_2464 (recv_ob obM_0) rfl rfl (Nat.le_of_ble_eq_true rfl) d_X14_unary_140 (kA (fun u140 s140 t140 z140 w17 => ?_)) (fun _ _ _ h => h.elim)
            exact g_aret hF rfl d_X14_unary_143 ⟨u140, rfl, w17⟩
          · have w18 := w14.2 c
            refine g_aload_n hF d_X14_unary_125 rfl 2 rfl ?_
            refine g_aload hF d_X14_unary_126 0 rfl ?_
            refine g_iload_n hF d_X14_unary_128 rfl 4 rfl ?_
            refine g_cap (fun hc18 => ?_)
            refine g_callV (As := [.ref u72, .int (σ 0 10)]) (rest := []) hF (fun l D cy => (ct_pointedTo a r hc18 w18) l D cy) (Nat.add_le_add_right (Nat.le_trans (Nat.le_of_ble_eq_true rfl) hdK) 1) mV_X14_pointedTo m_2457 (recv_ob obM_0) rfl rfl (Nat.le_of_ble_eq_true rfl) d_X14_unary_129 (kA (fun u129 s129 t129 z129 w20 => ?_)) (fun _ _ _ h => h.elim)
            refine g_goto hF 143 d_X14_unary_132 (by decide) ?_
            exact g_aret hF rfl d_X14_unary_143 ⟨u129, rfl, w20⟩
        · have w21 := w11.2 c
          exact g_sub (L' := [(0, .ref (r 0)), (2, .int (σ 0 10)), (3, .int v6), (5, .ref u72)]) [2, 4, 5, 0] rfl (b103  w21)
    · have w22 := w5.2 c
      refine g_aload_n hF d_X14_unary_83 rfl 2 rfl ?_
      refine g_aload hF d_X14_unary_84 0 rfl ?_
      refine g_iload_n hF d_X14_unary_86 rfl 4 rfl ?_
      refine g_cap (fun hc22 => ?_)
      refine g_callV (As := [.ref u72, .int (σ 0 10)]) (rest := []) hF (fun l D cy => (ct_pointed a r hc22 w22) l D cy) (Nat.add_le_add_right (Nat.le_trans (Nat.le_of_ble_eq_true rfl) hdK) 1) mV_X14_pointed m_2385 (recv_ob obM_0) rfl rfl (Nat.le_of_ble_eq_true rfl) d_X14_unary_87 (kA (fun u87 s87 t87 z87 w24 => ?_)) (fun _ _ _ h => h.elim)
      exact g_aret hF rfl d_X14_unary_90 ⟨u87, rfl, w24⟩
  refine g_icmp_eq (yv := 37) hF 52 d_X14_unary_13 (by decide) rfl (by decide) (fun c => ?_) (fun c => ?_)
  · have w25 := w2.1 c
    exact g_sub (L' := [(0, .ref (r 0)), (1, .int a1), (2, .int (σ 0 10)), (3, .int v6)]) [2, 3, 1, 0] rfl (b52  w25)
  · have w26 := w2.2 c
    refine g_iload_n hF d_X14_unary_16 rfl 0 rfl ?_
    refine g_bipush hF (v := 41) d_X14_unary_17 (by decide) ?_
    refine g_icmp_eq (yv := 41) hF 52 d_X14_unary_19 (by decide) rfl (by decide) (fun c => ?_) (fun c => ?_)
    · have w27 := w26.1 c
      exact g_sub (L' := [(0, .ref (r 0)), (1, .int a1), (2, .int (σ 0 10)), (3, .int v6)]) [2, 3, 1, 0] rfl (b52  w27)
    · have w28 := w26.2 c
      refine g_iload_n hF d_X14_unary_22 rfl 0 rfl ?_
      refine g_bipush hF (v := 42) d_X14_unary_23 (by decide) ?_
      refine g_icmp_eq (yv := 42) hF 52 d_X14_unary_25 (by decide) rfl (by decide) (fun c => ?_) (fun c => ?_)
      · have w29 := w28.1 c
        exact g_sub (L' := [(0, .ref (r 0)), (1, .int a1), (2, .int (σ 0 10)), (3, .int v6)]) [2, 3, 1, 0] rfl (b52  w29)
      · have w30 := w28.2 c
        refine g_iload_n hF d_X14_unary_28 rfl 0 rfl ?_
        refine g_bipush hF (v := 38) d_X14_unary_29 (by decide) ?_
        refine g_icmp_eq (yv := 38) hF 52 d_X14_unary_31 (by decide) rfl (by decide) (fun c => ?_) (fun c => ?_)
        · have w31 := w30.1 c
          exact g_sub (L' := [(0, .ref (r 0)), (1, .int a1), (2, .int (σ 0 10)), (3, .int v6)]) [2, 3, 1, 0] rfl (b52  w31)
        · have w32 := w30.2 c
          refine g_iload_n hF d_X14_unary_34 rfl 0 rfl ?_
          refine g_bipush hF (v := 33) d_X14_unary_35 (by decide) ?_
          refine g_icmp_eq (yv := 33) hF 52 d_X14_unary_37 (by decide) rfl (by decide) (fun c => ?_) (fun c => ?_)
          · have w33 := w32.1 c
            exact g_sub (L' := [(0, .ref (r 0)), (1, .int a1), (2, .int (σ 0 10)), (3, .int v6)]) [2, 3, 1, 0] rfl (b52  w33)
          · have w34 := w32.2 c
            refine g_iload_n hF d_X14_unary_40 rfl 0 rfl ?_
            refine g_bipush hF (v := 18) d_X14_unary_41 (by decide) ?_
            refine g_icmp_eq (yv := 18) hF 52 d_X14_unary_43 (by decide) rfl (by decide) (fun c => ?_) (fun c => ?_)
            · have w35 := w34.1 c
              exact g_sub (L' := [(0, .ref (r 0)), (1, .int a1), (2, .int (σ 0 10)), (3, .int v6)]) [2, 3, 1, 0] rfl (b52  w35)
            · have w36 := w34.2 c
              refine g_iload_n hF d_X14_unary_46 rfl 0 rfl ?_
              refine g_bipush hF (v := 19) d_X14_unary_47 (by decide) ?_
              refine g_icmp_ne (yv := 19) hF 144 d_X14_unary_49 (by decide) rfl (by decide) (fun c => ?_) (fun c => ?_)
              · have w37 := w36.1 c
                refine g_iload_n hF d_X14_unary_144 rfl 0 rfl ?_
                refine g_bipush hF (v := 20) d_X14_unary_145 (by decide) ?_
                obtain ⟨J230, h230, w38⟩ := w37
                have b230 : J230  → G SM r X σ τ vs [(0, .ref (r 0)), (1, .int a1)] [] 230 := by
                  intro   w230_
                  have w230_ := h230   w230_
                  refine g_aload_n hF d_X14_unary_230 rfl 0 rfl ?_
                  refine g_iload_n hF d_X14_unary_231 rfl 1 rfl ?_
                  refine g_callV (As := [.int a1]) (rest := []) hF (fun l D cy => (hKbehind hcap w230_) l D cy) (Nat.le_refl _) mV_X14_behind m_2478 (recv_ob obM_0) rfl rfl (Nat.le_of_ble_eq_true rfl) d_X14_unary_232 (kA (fun u232 s232 t232 z232 w39 => ?_)) (fun σ9 τ9 vs9 h9 => g_out hF stopM rfl h9)
                  exact g_aret hF rfl d_X14_unary_235 ⟨u232, rfl, w39⟩
                refine g_icmp_ne (yv := 20) hF 230 d_X14_unary_147 (by decide) rfl (by decide) (fun c => ?_) (fun c => ?_)
                · have w40 := w38.1 c
                  exact g_sub (L' := [(0, .ref (r 0)), (1, .int a1)]) [2, 3] rfl (b230  w40)
                · have w41 := w38.2 c
                  refine g_aload_n hF d_X14_unary_150 rfl 2 rfl ?_
                  refine g_get (v := .ref (r 2)) hF 3 obM_0 (by decide) m_1868 rfl d_X14_unary_151 ?_
                  refine g_aload_n hF d_X14_unary_154 rfl 2 rfl ?_
                  refine g_get (v := .int (σ 0 10)) hF 10 obM_0 (by decide) m_1875 rfl d_X14_unary_155 ?_
                  refine g_iconst hF (v := 1) d_X14_unary_158 (by decide) ?_
                  refine g_iadd hF d_X14_unary_159 ?_
                  have w42 := w41.2
                  refine g_iald hF arM_2 (s_in (Nat.le_of_ble_eq_true rfl) w41.1.1 w41.1.2) d_X14_unary_160 ?_
                  refine g_top (v := (σ 2 ((σ 0 10) + (1 : Int32)).toNatClampNeg)) rfl ?_
                  refine g_iconst hF (v := 5) d_X14_unary_161 (by decide) ?_
                  refine g_icmp_ne (yv := 5) hF 230 d_X14_unary_162 (by decide) rfl (by decide) (fun c => ?_) (fun c => ?_)
                  · have w43 := w42.1 c
                    exact g_sub (L' := [(0, .ref (r 0)), (1, .int a1)]) [2, 3] rfl (b230  w43)
                  · have w44 := w42.2 c
                    refine g_aload_n hF d_X14_unary_165 rfl 2 rfl ?_
                    refine g_iload_n hF d_X14_unary_166 rfl 3 rfl ?_
                    refine g_callV (As := [.int a1]) (rest := []) hF (fun l D cy => (ct_deeper a r hcap w44) l D cy) (Nat.add_le_add_right (Nat.le_trans (Nat.le_of_ble_eq_true rfl) hdK) 1) mV_X14_deeper m_2381 (recv_ob obM_0) rfl rfl (Nat.le_of_ble_eq_true rfl) d_X14_unary_167 (kI (fun v167 s167 t167 z167 w45 => ?_)) (fun σ9 τ9 vs9 h9 => g_out hF stopM rfl h9)
                    refine g_istore hF [(4, .int v167), (3, .int v6), (2, .int (σ 0 10)), (0, .ref (r 0)), (1, .int a1)] d_X14_unary_170 hnn (by decide) rfl ?_
                    refine g_aload_n hF d_X14_unary_172 rfl 3 rfl ?_
                    refine g_dup hF d_X14_unary_173 rfl ?_
                    refine g_get (v := .int (s167 0 10)) hF 10 obM_0 (by decide) m_1875 rfl d_X14_unary_174 ?_
                    refine g_iconst hF (v := 2) d_X14_unary_177 (by decide) ?_
                    refine g_iadd hF d_X14_unary_178 ?_
                    refine g_put (v := ((s167 0 10) + (2 : Int32))) hF 10 obM_0 (by decide) m_1875 rfl rfl rfl d_X14_unary_179 ?_
                    refine g_aload_n hF d_X14_unary_182 rfl 3 rfl ?_
                    refine g_cap (fun hc45 => ?_)
                    refine g_callV (As := []) (rest := []) hF (fun l D cy => (ct_stars a r hc45 w45) l D cy) (Nat.add_le_add_right (Nat.le_trans (Nat.le_of_ble_eq_true rfl) hdK) 1) mV_X14_stars m_2297 (recv_ob obM_0) rfl rfl (Nat.le_of_ble_eq_true rfl) d_X14_unary_183 (kI (fun v183 s183 t183 z183 w47 => ?_)) (fun σ9 τ9 vs9 h9 => g_out hF stopM rfl h9)
                    refine g_istore hF [(5, .int v183), (4, .int v167), (3, .int v6), (2, .int (σ 0 10)), (0, .ref (r 0)), (1, .int a1)] d_X14_unary_186 hnn (by decide) rfl ?_
                    refine g_aload_n hF d_X14_unary_188 rfl 4 rfl ?_
                    refine g_bipush hF (v := 21) d_X14_unary_189 (by decide) ?_
                    refine g_cap (fun hc47 => ?_)
                    refine g_callV (As := [.int 21]) (rest := []) hF (fun l D cy => (ct_expect a r hc47 w47) l D cy) (Nat.add_le_add_right (Nat.le_trans (Nat.le_of_ble_eq_true rfl) hdK) 1) mV_X14_expect m_2285 (recv_ob obM_0) rfl rfl (Nat.le_of_ble_eq_true rfl) d_X14_unary_191 (kV (fun s191 t191 z191 w49 => ?_)) (fun σ9 τ9 vs9 h9 => g_out hF stopM rfl h9)
                    refine g_aload_n hF d_X14_unary_194 rfl 4 rfl ?_
                    refine g_iload hF d_X14_unary_195 1 rfl ?_
                    refine g_cap (fun hc49 => ?_)
                    refine g_callV (As := [.int v167]) (rest := []) hF (fun l D cy => (hKunary hc49 w49) l D cy) (Nat.le_refl _) mV_X14_unary m_2373 (recv_ob obM_0) rfl rfl (Nat.le_of_ble_eq_true rfl) d_X14_unary_197 (kA (fun u197 s197 t197 z197 w51 => ?_)) (fun σ9 τ9 vs9 h9 => g_out hF stopM rfl h9)
                    refine g_astore hF [(6, .ref u197), (5, .int v183), (4, .int v167), (3, .int v6), (2, .int (σ 0 10)), (0, .ref (r 0)), (1, .int a1)] d_X14_unary_200 hnn (by decide) rfl ?_
                    refine g_aload_n hF d_X14_unary_202 rfl 5 rfl ?_
                    refine g_aload hF d_X14_unary_203 0 rfl ?_
                    refine g_cap (fun hc51 => ?_)
                    refine g_callV (As := [.ref u197]) (rest := []) hF (fun l D cy => (ct_read_1 a r hc51 w51) l D cy) (Nat.add_le_add_right (Nat.le_trans (Nat.le_of_ble_eq_true rfl) hdK) 1) mV_X14_read_1 m_2453 (recv_ob obM_0) rfl rfl (Nat.le_of_ble_eq_true rfl) d_X14_unary_205 (kV (fun s205 t205 z205 w53 => ?_)) (fun _ _ _ h => h.elim)
                    refine g_aload_n hF d_X14_unary_208 rfl 5 rfl ?_
                    refine g_aload hF d_X14_unary_209 0 rfl ?_
                    refine g_cap (fun hc53 => ?_)
                    refine g_callS (As := [.ref u197]) (rest := [.ref (r 0)]) hF (fun l D cy => (ct_isAny a r hc53 w53) l D cy) (Nat.add_le_add_right (Nat.le_trans (Nat.le_of_ble_eq_true rfl) hdK) 1) mS_X14_isAny m_2468 rfl rfl (Nat.le_of_ble_eq_true rfl) d_X14_unary_211 (krZ (fun v211 hz211 w55 => ?_)) (fun _ _ _ h => h.elim)
                    refine g_iload_n hF d_X14_unary_214 rfl 4 rfl ?_
                    refine g_callV (As := [.int v211, .int (σ 0 10)]) (rest := []) hF (fun l D cy => (ct_must a r hc53 w55) l D cy) (Nat.add_le_add_right (Nat.le_trans (Nat.le_of_ble_eq_true rfl) hdK) 1) mV_X14_must m_2313 (recv_ob obM_0) rfl rfl (Nat.le_of_ble_eq_true rfl) d_X14_unary_215 (kV (fun s215 t215 z215 w56 => ?_)) (fun _ _ _ h => h.elim)
                    refine g_aload_n hF d_X14_unary_218 rfl 5 rfl ?_
                    refine g_iload hF d_X14_unary_219 1 rfl ?_
                    refine g_aload hF d_X14_unary_221 0 rfl ?_
                    refine g_aload hF d_X14_unary_223 0 rfl ?_
                    refine g_iload_n hF d_X14_unary_225 rfl 4 rfl ?_
                    refine g_cap (fun hc56 => ?_)
                    refine g_callV (As := [.int v183, .ref u197, .ref u197, .int (σ 0 10)]) (rest := []) hF (fun l D cy => (ct_made a r hc56 w56) l D cy) (Nat.add_le_add_right (Nat.le_trans (Nat.le_of_ble_eq_true rfl) hdK) 1) mV_X14_made m_2389 (recv_ob obM_0) rfl rfl (Nat.le_of_ble_eq_true rfl) d_X14_unary_226 (kA (fun u226 s226 t226 z226 w58 => ?_)) (fun _ _ _ h => h.elim)
                    exact g_aret hF rfl d_X14_unary_229 ⟨u226, rfl, w58⟩
              · have w59 := w36.2 c
                exact g_sub (L' := [(0, .ref (r 0)), (1, .int a1), (2, .int (σ 0 10)), (3, .int v6)]) [2, 3, 1, 0] rfl (b52  w59)
def wp_primary (Kexpression : Int32 → St → St → List Nat → (Nat → St → St → List Nat → Prop) → (St → St → List Nat → Prop) → Prop) (Kchoice : Int32 → St → St → List Nat → (Nat → St → St → List Nat → Prop) → (St → St → List Nat → Prop) → Prop) (Kbinary : Int32 → Int32 → St → St → List Nat → (Nat → St → St → List Nat → Prop) → (St → St → List Nat → Prop) → Prop) (Kdecided : Int32 → Nat → Int32 → Int32 → St → St → List Nat → (Nat → St → St → List Nat → Prop) → (St → St → List Nat → Prop) → Prop) (Kunary : Int32 → St → St → List Nat → (Nat → St → St → List Nat → Prop) → (St → St → List Nat → Prop) → Prop) (Kbehind : Int32 → St → St → List Nat → (Nat → St → St → List Nat → Prop) → (St → St → List Nat → Prop) → Prop) (Kprimary : Int32 → St → St → List Nat → (Nat → St → St → List Nat → Prop) → (St → St → List Nat → Prop) → Prop) (Kcall_0 : Int32 → Int32 → St → St → List Nat → (Nat → St → St → List Nat → Prop) → (St → St → List Nat → Prop) → Prop) (a1 : Int32) (σ τ : St) (vs : List Nat) (Q : Nat → St → St → List Nat → Prop) (T : St → St → List Nat → Prop) : Prop :=
  ((0 ≤ (σ 0 10).toInt ∧ (σ 0 10).toInt < 16002) ∧ ((σ 2 (σ 0 10).toNatClampNeg).toInt ≠ 3 → ((0 ≤ (σ 0 10).toInt ∧ (σ 0 10).toInt < 16002) ∧ ((σ 2 (σ 0 10).toNatClampNeg).toInt ≠ 4 → ((0 ≤ (σ 0 10).toInt ∧ (σ 0 10).toInt < 16002) ∧ ((σ 2 (σ 0 10).toNatClampNeg).toInt ≠ 2 → wp_is (20 : Int32) σ τ vs (fun v156 => (v156.toInt ≠ 0 → wp_deeper a1 σ τ vs (fun v169 s169 t169 z169 => Kexpression v169 (upC s169 0 10 ((s169 0 10) + (1 : Int32))) t169 z169 (fun u185 s185 t185 z185 => wp_expect (21 : Int32) s185 t185 z185 (fun s193 t193 z193 => Q u185 s193 t193 z193) T) T) T) ∧ (v156.toInt = 0 → wp_wrong σ τ vs (fun s163 t163 z163 => T s163 t163 z163)))) ∧ ((σ 2 (σ 0 10).toNatClampNeg).toInt = 2 → wp_is (20 : Int32) (upC σ 0 10 ((σ 0 10) + (1 : Int32))) τ vs (fun v132 => (v132.toInt = 0 → wp_named (σ 0 10) (upC σ 0 10 ((σ 0 10) + (1 : Int32))) τ vs (fun u149 s149 t149 z149 => Q u149 s149 t149 z149)) ∧ (v132.toInt ≠ 0 → Kcall_0 (σ 0 10) a1 (upC σ 0 10 ((σ 0 10) + (1 : Int32))) τ vs (fun u141 s141 t141 z141 => Q u141 s141 t141 z141) T))))) ∧ ((σ 2 (σ 0 10).toNatClampNeg).toInt = 4 → wp_text (σ 0 10) (upC σ 0 10 ((σ 0 10) + (1 : Int32))) τ vs (fun u102 s102 t102 z102 => Q u102 s102 t102 z102)))) ∧ ((σ 2 (σ 0 10).toNatClampNeg).toInt = 3 → ((0 ≤ (σ 0 10).toInt ∧ (σ 0 10).toInt < 16002) ∧ wp_put_1 (0 : Int32) (σ 6 (σ 0 10).toNatClampNeg) (upC σ 0 10 ((σ 0 10) + (1 : Int32))) τ vs (fun s36 t36 z36 => ((z36).length < CAP ∧ ∀ q39 : Nat, q39 ∉ z36 → wp_Vinit q39 (0 : Int32) s36 (upF t36 q39 (fun _ => 0)) (z36 ++ [q39]) (fun s44 t44 z44 => ((0 ≤ (σ 0 10).toInt ∧ (σ 0 10).toInt < 16002) ∧ (q39 ∈ z44 ∧ wp_Vconstant q39 (s44 6 (σ 0 10).toNatClampNeg) s44 t44 z44 (fun u53 s53 t53 z53 => ((0 ≤ (σ 0 10).toInt ∧ (σ 0 10).toInt < 16002) ∧ ((s53 6 (σ 0 10).toNatClampNeg).toInt ≠ 0 → (u53 ∈ z53 ∧ Q u53 s53 (upC t53 u53 5 (0 : Int32)) z53)) ∧ ((s53 6 (σ 0 10).toNatClampNeg).toInt = 0 → (u53 ∈ z53 ∧ Q u53 s53 (upC t53 u53 5 (1 : Int32)) z53))))))))))))
set_option maxHeartbeats 4000000 in
set_option maxRecDepth 100000 in
theorem ct_primary (a : Nat → Nat) (r : Nat → Nat) (dK : Nat) (hdK : 4 ≤ dK) (Kexpression : Int32 → St → St → List Nat → (Nat → St → St → List Nat → Prop) → (St → St → List Nat → Prop) → Prop) (Kchoice : Int32 → St → St → List Nat → (Nat → St → St → List Nat → Prop) → (St → St → List Nat → Prop) → Prop) (Kbinary : Int32 → Int32 → St → St → List Nat → (Nat → St → St → List Nat → Prop) → (St → St → List Nat → Prop) → Prop) (Kdecided : Int32 → Nat → Int32 → Int32 → St → St → List Nat → (Nat → St → St → List Nat → Prop) → (St → St → List Nat → Prop) → Prop) (Kunary : Int32 → St → St → List Nat → (Nat → St → St → List Nat → Prop) → (St → St → List Nat → Prop) → Prop) (Kbehind : Int32 → St → St → List Nat → (Nat → St → St → List Nat → Prop) → (St → St → List Nat → Prop) → Prop) (Kprimary : Int32 → St → St → List Nat → (Nat → St → St → List Nat → Prop) → (St → St → List Nat → Prop) → Prop) (Kcall_0 : Int32 → Int32 → St → St → List Nat → (Nat → St → St → List Nat → Prop) → (St → St → List Nat → Prop) → Prop) (hKexpression : ∀ {a1 : Int32} {σ τ : St} {vs : List Nat} {Q : Nat → St → St → List Nat → Prop} {T : St → St → List Nat → Prop}, vs.length ≤ CAP → Kexpression a1 σ τ vs Q T → ∀ (l : Launch) (D : va_G) (cy : Nat → ClassId), Ct l D cy SM r (EM a) y_X14_expression (Cond.code y_X14_expression b_X14_expression 12 (some (.object "LinkedUnitsModel$Value"))) dK [.ref (r 0), .int a1] σ τ vs (QAs Q) T) (hKcall_0 : ∀ {a1 : Int32} {a2 : Int32} {σ τ : St} {vs : List Nat} {Q : Nat → St → St → List Nat → Prop} {T : St → St → List Nat → Prop}, vs.length ≤ CAP → Kcall_0 a1 a2 σ τ vs Q T → ∀ (l : Launch) (D : va_G) (cy : Nat → ClassId), Ct l D cy SM r (EM a) y_X14_call_0 (Cond.code y_X14_call_0 b_X14_call_0 10 (some (.object "LinkedUnitsModel$Value"))) dK [.ref (r 0), .int a1, .int a2] σ τ vs (QAs Q) T) {a1 : Int32} {σ τ : St} {vs : List Nat} {Q : Nat → St → St → List Nat → Prop} {T : St → St → List Nat → Prop} (hcap : vs.length ≤ CAP) (w : wp_primary Kexpression Kchoice Kbinary Kdecided Kunary Kbehind Kprimary Kcall_0 a1 σ τ vs Q T) (l : Launch) (D : va_G) (cy : Nat → ClassId) : Ct l D cy SM r (EM a) y_X14_primary (Cond.code y_X14_primary b_X14_primary 5 (some (.object "LinkedUnitsModel$Value"))) (dK + 1) [.ref (r 0), .int a1] σ τ vs (QAs Q) T := by
  unfold wp_primary at w
  refine Ct_of (EM_ok a) (by decide) (Nat.le_of_ble_eq_true rfl) hcap (fun X hnn hF => ?_)
  show G SM r X σ τ vs [(0, .ref (r 0)), (1, .int a1)] [] 0
  refine g_aload_n hF d_X14_primary_0 rfl 0 rfl ?_
  refine g_get (v := .int (σ 0 10)) hF 10 obM_0 (by decide) m_1875 rfl d_X14_primary_1 ?_
  refine g_istore_n hF [(2, .int (σ 0 10)), (0, .ref (r 0)), (1, .int a1)] d_X14_primary_4 rfl hnn (by decide) rfl ?_
  refine g_aload_n hF d_X14_primary_5 rfl 1 rfl ?_
  refine g_get (v := .ref (r 2)) hF 3 obM_0 (by decide) m_1868 rfl d_X14_primary_6 ?_
  refine g_aload_n hF d_X14_primary_9 rfl 1 rfl ?_
  refine g_get (v := .int (σ 0 10)) hF 10 obM_0 (by decide) m_1875 rfl d_X14_primary_10 ?_
  have w1 := w.2
  refine g_iald hF arM_2 (s_in (Nat.le_of_ble_eq_true rfl) w.1.1 w.1.2) d_X14_primary_13 ?_
  refine g_top (v := (σ 2 (σ 0 10).toNatClampNeg)) rfl ?_
  refine g_iconst hF (v := 3) d_X14_primary_14 (by decide) ?_
  refine g_icmp_ne (yv := 3) hF 77 d_X14_primary_15 (by decide) rfl (by decide) (fun c => ?_) (fun c => ?_)
  · have w2 := w1.1 c
    refine g_aload_n hF d_X14_primary_77 rfl 1 rfl ?_
    refine g_get (v := .ref (r 2)) hF 3 obM_0 (by decide) m_1868 rfl d_X14_primary_78 ?_
    refine g_aload_n hF d_X14_primary_81 rfl 1 rfl ?_
    refine g_get (v := .int (σ 0 10)) hF 10 obM_0 (by decide) m_1875 rfl d_X14_primary_82 ?_
    have w3 := w2.2
    refine g_iald hF arM_2 (s_in (Nat.le_of_ble_eq_true rfl) w2.1.1 w2.1.2) d_X14_primary_85 ?_
    refine g_top (v := (σ 2 (σ 0 10).toNatClampNeg)) rfl ?_
    refine g_iconst hF (v := 4) d_X14_primary_86 (by decide) ?_
    refine g_icmp_ne (yv := 4) hF 106 d_X14_primary_87 (by decide) rfl (by decide) (fun c => ?_) (fun c => ?_)
    · have w4 := w3.1 c
      refine g_aload_n hF d_X14_primary_106 rfl 1 rfl ?_
      refine g_get (v := .ref (r 2)) hF 3 obM_0 (by decide) m_1868 rfl d_X14_primary_107 ?_
      refine g_aload_n hF d_X14_primary_110 rfl 1 rfl ?_
      refine g_get (v := .int (σ 0 10)) hF 10 obM_0 (by decide) m_1875 rfl d_X14_primary_111 ?_
      have w5 := w4.2
      refine g_iald hF arM_2 (s_in (Nat.le_of_ble_eq_true rfl) w4.1.1 w4.1.2) d_X14_primary_114 ?_
      refine g_top (v := (σ 2 (σ 0 10).toNatClampNeg)) rfl ?_
      refine g_iconst hF (v := 2) d_X14_primary_115 (by decide) ?_
      refine g_icmp_ne (yv := 2) hF 153 d_X14_primary_116 (by decide) rfl (by decide) (fun c => ?_) (fun c => ?_)
      · have w6 := w5.1 c
        refine g_aload_n hF d_X14_primary_153 rfl 1 rfl ?_
        refine g_bipush hF (v := 20) d_X14_primary_154 (by decide) ?_
        refine g_callV (As := [.int 20]) (rest := []) hF (fun l D cy => (ct_is a r hcap w6) l D cy) (Nat.add_le_add_right (Nat.le_trans (Nat.le_of_ble_eq_true rfl) hdK) 1) mV_X14_is m_2289 (recv_ob obM_0) rfl rfl (Nat.le_of_ble_eq_true rfl) d_X14_primary_156 (krZ (fun v156 hz156 w7 => ?_)) (fun _ _ _ h => h.elim)
        refine g_if_ne hF 167 d_X14_primary_159 (by decide) rfl (fun c => ?_) (fun c => ?_)
        · have w8 := w7.1 c
          refine g_aload_n hF d_X14_primary_167 rfl 1 rfl ?_
          refine g_iload_n hF d_X14_primary_168 rfl 2 rfl ?_
          refine g_callV (As := [.int a1]) (rest := []) hF (fun l D cy => (ct_deeper a r hcap w8) l D cy) (Nat.add_le_add_right (Nat.le_trans (Nat.le_of_ble_eq_true rfl) hdK) 1) mV_X14_deeper m_2381 (recv_ob obM_0) rfl rfl (Nat.le_of_ble_eq_true rfl) d_X14_primary_169 (kI (fun v169 s169 t169 z169 w9 => ?_)) (fun σ9 τ9 vs9 h9 => g_out hF stopM rfl h9)
          refine g_istore_n hF [(3, .int v169), (2, .int (σ 0 10)), (0, .ref (r 0)), (1, .int a1)] d_X14_primary_172 rfl hnn (by decide) rfl ?_
          refine g_aload_n hF d_X14_primary_173 rfl 2 rfl ?_
          refine g_dup hF d_X14_primary_174 rfl ?_
          refine g_get (v := .int (s169 0 10)) hF 10 obM_0 (by decide) m_1875 rfl d_X14_primary_175 ?_
          refine g_iconst hF (v := 1) d_X14_primary_178 (by decide) ?_
          refine g_iadd hF d_X14_primary_179 ?_
          refine g_put (v := ((s169 0 10) + (1 : Int32))) hF 10 obM_0 (by decide) m_1875 rfl rfl rfl d_X14_primary_180 ?_
          refine g_aload_n hF d_X14_primary_183 rfl 2 rfl ?_
          refine g_iload_n hF d_X14_primary_184 rfl 0 rfl ?_
          refine g_cap (fun hc9 => ?_)
          refine g_callV (As := [.int v169]) (rest := []) hF (fun l D cy => (hKexpression hc9 w9) l D cy) (Nat.le_refl _) mV_X14_expression m_2361 (recv_ob obM_0) rfl rfl (Nat.le_of_ble_eq_true rfl) d_X14_primary_185 (kA (fun u185 s185 t185 z185 w11 => ?_)) (fun σ9 τ9 vs9 h9 => g_out hF stopM rfl h9)
          refine g_astore hF [(4, .ref u185), (3, .int v169), (2, .int (σ 0 10)), (0, .ref (r 0)), (1, .int a1)] d_X14_primary_188 hnn (by decide) rfl ?_
          refine g_aload_n hF d_X14_primary_190 rfl 3 rfl ?_
          refine g_bipush hF (v := 21) d_X14_primary_191 (by decide) ?_
          refine g_cap (fun hc11 => ?_)
          refine g_callV (As := [.int 21]) (rest := []) hF (fun l D cy => (ct_expect a r hc11 w11) l D cy) (Nat.add_le_add_right (Nat.le_trans (Nat.le_of_ble_eq_true rfl) hdK) 1) mV_X14_expect m_2285 (recv_ob obM_0) rfl rfl (Nat.le_of_ble_eq_true rfl) d_X14_primary_193 (kV (fun s193 t193 z193 w13 => ?_)) (fun σ9 τ9 vs9 h9 => g_out hF stopM rfl h9)
          refine g_aload hF d_X14_primary_196 0 rfl ?_
          exact g_aret hF rfl d_X14_primary_198 ⟨u185, rfl, w13⟩
        · have w14 := w7.2 c
          refine g_aload_n hF d_X14_primary_162 rfl 1 rfl ?_
          refine g_callV (As := []) (rest := []) hF (fun l D cy => (ct_wrong a r hcap w14) l D cy) (Nat.add_le_add_right (Nat.le_trans (Nat.le_of_ble_eq_true rfl) hdK) 1) mV_X14_wrong m_2261 (recv_ob obM_0) rfl rfl (Nat.le_of_ble_eq_true rfl) d_X14_primary_163 (kX (fun s163 t163 z163 w15 => ?_)) (fun _ _ _ h => h.elim)
          exact g_athrow hF d_X14_primary_166 (g_out hF stopM rfl w15)
      · have w16 := w5.2 c
        refine g_aload_n hF d_X14_primary_119 rfl 1 rfl ?_
        refine g_dup hF d_X14_primary_120 rfl ?_
        refine g_get (v := .int (σ 0 10)) hF 10 obM_0 (by decide) m_1875 rfl d_X14_primary_121 ?_
        refine g_iconst hF (v := 1) d_X14_primary_124 (by decide) ?_
        refine g_iadd hF d_X14_primary_125 ?_
        refine g_put (v := ((σ 0 10) + (1 : Int32))) hF 10 obM_0 (by decide) m_1875 rfl rfl rfl d_X14_primary_126 ?_
        refine g_aload_n hF d_X14_primary_129 rfl 1 rfl ?_
        refine g_bipush hF (v := 20) d_X14_primary_130 (by decide) ?_
        refine g_callV (As := [.int 20]) (rest := []) hF (fun l D cy => (ct_is a r hcap w16) l D cy) (Nat.add_le_add_right (Nat.le_trans (Nat.le_of_ble_eq_true rfl) hdK) 1) mV_X14_is m_2289 (recv_ob obM_0) rfl rfl (Nat.le_of_ble_eq_true rfl) d_X14_primary_132 (krZ (fun v132 hz132 w17 => ?_)) (fun _ _ _ h => h.elim)
        refine g_if_eq hF 147 d_X14_primary_135 (by decide) rfl (fun c => ?_) (fun c => ?_)
        · have w18 := w17.1 c
          refine g_aload_n hF d_X14_primary_147 rfl 1 rfl ?_
          refine g_iload_n hF d_X14_primary_148 rfl 0 rfl ?_
          refine g_callV (As := [.int (σ 0 10)]) (rest := []) hF (fun l D cy => (ct_named a r hcap w18) l D cy) (Nat.add_le_add_right (Nat.le_trans (Nat.le_of_ble_eq_true rfl) hdK) 1) mV_X14_named m_2509 (recv_ob obM_0) rfl rfl (Nat.le_of_ble_eq_true rfl) d_X14_primary_149 (kA (fun u149 s149 t149 z149 w19 => ?_)) (fun _ _ _ h => h.elim)
          exact g_aret hF rfl d_X14_primary_152 ⟨u149, rfl, w19⟩
        · have w20 := w17.2 c
          refine g_aload_n hF d_X14_primary_138 rfl 1 rfl ?_
          refine g_iload_n hF d_X14_primary_139 rfl 0 rfl ?_
          refine g_iload_n hF d_X14_primary_140 rfl 2 rfl ?_
          refine g_callV (As := [.int (σ 0 10), .int a1]) (rest := []) hF (fun l D cy => (hKcall_0 hcap w20) l D cy) (Nat.le_refl _) mV_X14_call_0 m_2498 (recv_ob obM_0) rfl rfl (Nat.le_of_ble_eq_true rfl) d_X14_primary_141 (kA (fun u141 s141 t141 z141 w21 => ?_)) (fun σ9 τ9 vs9 h9 => g_out hF stopM rfl h9)
          refine g_goto hF 152 d_X14_primary_144 (by decide) ?_
          exact g_aret hF rfl d_X14_primary_152 ⟨u141, rfl, w21⟩
    · have w22 := w3.2 c
      refine g_aload_n hF d_X14_primary_90 rfl 1 rfl ?_
      refine g_dup hF d_X14_primary_91 rfl ?_
      refine g_get (v := .int (σ 0 10)) hF 10 obM_0 (by decide) m_1875 rfl d_X14_primary_92 ?_
      refine g_iconst hF (v := 1) d_X14_primary_95 (by decide) ?_
      refine g_iadd hF d_X14_primary_96 ?_
      refine g_put (v := ((σ 0 10) + (1 : Int32))) hF 10 obM_0 (by decide) m_1875 rfl rfl rfl d_X14_primary_97 ?_
      refine g_aload_n hF d_X14_primary_100 rfl 1 rfl ?_
      refine g_iload_n hF d_X14_primary_101 rfl 0 rfl ?_
      refine g_callV (As := [.int (σ 0 10)]) (rest := []) hF (fun l D cy => (ct_text a r hcap w22) l D cy) (Nat.add_le_add_right (Nat.le_trans (Nat.le_of_ble_eq_true rfl) hdK) 1) mV_X14_text m_2486 (recv_ob obM_0) rfl rfl (Nat.le_of_ble_eq_true rfl) d_X14_primary_102 (kA (fun u102 s102 t102 z102 w23 => ?_)) (fun _ _ _ h => h.elim)
      exact g_aret hF rfl d_X14_primary_105 ⟨u102, rfl, w23⟩
  · have w24 := w1.2 c
    refine g_aload_n hF d_X14_primary_18 rfl 1 rfl ?_
    refine g_dup hF d_X14_primary_19 rfl ?_
    refine g_get (v := .int (σ 0 10)) hF 10 obM_0 (by decide) m_1875 rfl d_X14_primary_20 ?_
    refine g_iconst hF (v := 1) d_X14_primary_23 (by decide) ?_
    refine g_iadd hF d_X14_primary_24 ?_
    refine g_put (v := ((σ 0 10) + (1 : Int32))) hF 10 obM_0 (by decide) m_1875 rfl rfl rfl d_X14_primary_25 ?_
    refine g_aload_n hF d_X14_primary_28 rfl 1 rfl ?_
    refine g_iconst hF (v := 0) d_X14_primary_29 (by decide) ?_
    refine g_aload_n hF d_X14_primary_30 rfl 1 rfl ?_
    refine g_get (v := .ref (r 6)) hF 7 obM_0 (by decide) m_1872 rfl d_X14_primary_31 ?_
    refine g_iload_n hF d_X14_primary_34 rfl 0 rfl ?_
    have w25 := w24.2
    refine g_iald hF arM_6 (s_in (Nat.le_of_ble_eq_true rfl) w24.1.1 w24.1.2) d_X14_primary_35 ?_
    refine g_top (v := (σ 6 (σ 0 10).toNatClampNeg)) rfl ?_
    refine g_callV (As := [.int 0, .int (σ 6 (σ 0 10).toNatClampNeg)]) (rest := []) hF (fun l D cy => (ct_put_1 a r hcap w25) l D cy) (Nat.add_le_add_right (Nat.le_trans (Nat.le_of_ble_eq_true rfl) hdK) 1) mV_X14_put_1 m_2433 (recv_ob obM_0) rfl rfl (Nat.le_of_ble_eq_true rfl) d_X14_primary_36 (kV (fun s36 t36 z36 w26 => ?_)) (fun _ _ _ h => h.elim)
    refine g_new hF clsVC VC_ty m_2393 m_2394 m_25 w26.1 d_X14_primary_39 (fun q39 hq39 => ?_)
    have w27 := w26.2 q39 hq39
    refine g_dup hF d_X14_primary_42 rfl ?_
    refine g_iconst hF (v := 0) d_X14_primary_43 (by decide) ?_
    refine g_cap (fun hc27 => ?_)
    refine g_callI (As := [.int 0]) (rest := [.ref q39]) hF (fun l D cy => (ct_Vinit a r hc27 w27) l D cy) (Nat.add_le_add_right (Nat.le_trans (Nat.le_of_ble_eq_true rfl) hdK) 1) mI_X13_init m_2395 rfl rfl (Nat.le_of_ble_eq_true rfl) d_X14_primary_44 (kV (fun s44 t44 z44 w29 => ?_))
    refine g_aload_n hF d_X14_primary_47 rfl 1 rfl ?_
    refine g_get (v := .ref (r 6)) hF 7 obM_0 (by decide) m_1872 rfl d_X14_primary_48 ?_
    refine g_iload_n hF d_X14_primary_51 rfl 0 rfl ?_
    have w30 := w29.2
    refine g_iald hF arM_6 (s_in (Nat.le_of_ble_eq_true rfl) w29.1.1 w29.1.2) d_X14_primary_52 ?_
    refine g_top (v := (s44 6 (σ 0 10).toNatClampNeg)) rfl ?_
    obtain ⟨hm30, w31⟩ := w30
    refine g_cap (fun hc31 => ?_)
    refine g_callV (As := [.int (s44 6 (σ 0 10).toNatClampNeg)]) (rest := []) hF (fun l D cy => (ct_Vconstant a r hc31 w31) l D cy) (Nat.add_le_add_right (Nat.le_trans (Nat.le_of_ble_eq_true rfl) hdK) 1) mV_X13_constant m_2474 (recv_v hm30 clsVC) rfl rfl (Nat.le_of_ble_eq_true rfl) d_X14_primary_53 (kA (fun u53 s53 t53 z53 w33 => ?_)) (fun _ _ _ h => h.elim)
    refine g_astore_n hF [(3, .ref u53), (2, .int (σ 0 10)), (0, .ref (r 0)), (1, .int a1)] d_X14_primary_56 rfl hnn (by decide) rfl ?_
    refine g_aload_n hF d_X14_primary_57 rfl 0 rfl ?_
    refine g_aload_n hF d_X14_primary_58 rfl 2 rfl ?_
    refine g_get (v := .ref (r 6)) hF 7 obM_0 (by decide) m_1872 rfl d_X14_primary_59 ?_
    refine g_iload_n hF d_X14_primary_62 rfl 1 rfl ?_
    have w34 := w33.2
    refine g_iald hF arM_6 (s_in (Nat.le_of_ble_eq_true rfl) w33.1.1 w33.1.2) d_X14_primary_63 ?_
    refine g_top (v := (s53 6 (σ 0 10).toNatClampNeg)) rfl ?_
    refine g_if_ne hF 71 d_X14_primary_64 (by decide) rfl (fun c => ?_) (fun c => ?_)
    · have w35 := w34.1 c
      refine g_iconst hF (v := 0) d_X14_primary_71 (by decide) ?_
      obtain ⟨hm35, w36⟩ := w35
      refine g_vputZ hF 5 hm35 clsVC (by decide) m_2406 rfl rfl (Or.inl rfl) d_X14_primary_72 ?_
      refine g_aload_n hF d_X14_primary_75 rfl 0 rfl ?_
      exact g_aret hF rfl d_X14_primary_76 ⟨u53, rfl, w36⟩
    · have w37 := w34.2 c
      refine g_iconst hF (v := 1) d_X14_primary_67 (by decide) ?_
      refine g_goto hF 72 d_X14_primary_68 (by decide) ?_
      obtain ⟨hm37, w38⟩ := w37
      refine g_vputZ hF 5 hm37 clsVC (by decide) m_2406 rfl rfl (Or.inr rfl) d_X14_primary_72 ?_
      refine g_aload_n hF d_X14_primary_75 rfl 0 rfl ?_
      exact g_aret hF rfl d_X14_primary_76 ⟨u53, rfl, w38⟩
def wp_isFault (a1 : Int32) (a2 : Int32) (σ τ : St) (vs : List Nat) (Q : Int32 → St → St → List Nat → Prop) : Prop :=
  ∃ L2 : Nat → Int32 → St → St → List Nat → Prop, (∃ n, L2 n (0 : Int32) σ τ vs) ∧ ∀ (n2 : Nat) (x3_2 : Int32) (s2 t2 : St) (z2 : List Nat), L2 n2 x3_2 s2 t2 z2 → ((a2.toInt ≤ x3_2.toInt → Q (0 : Int32) s2 t2 z2) ∧ (x3_2.toInt < a2.toInt → ((0 ≤ x3_2.toInt ∧ x3_2.toInt < 100) ∧ ((0 ≤ ((s2 40 x3_2.toNatClampNeg) - (1 : Int32)).toInt ∧ ((s2 40 x3_2.toNatClampNeg) - (1 : Int32)).toInt < 102) ∧ ∃ L25 : Nat → Int32 → Int32 → St → St → List Nat → Prop, (∃ n, L25 n (0 : Int32) (s2 22 ((s2 40 x3_2.toNatClampNeg) - (1 : Int32)).toNatClampNeg) s2 t2 z2) ∧ ∀ (n25 : Nat) (x4_25 : Int32) (x5_25 : Int32) (s25 t25 : St) (z25 : List Nat), L25 n25 x4_25 x5_25 s25 t25 z25 → (((0 ≤ x3_2.toInt ∧ x3_2.toInt < 100) ∧ ((0 ≤ (s25 40 x3_2.toNatClampNeg).toInt ∧ (s25 40 x3_2.toNatClampNeg).toInt < 102) ∧ ((s25 22 (s25 40 x3_2.toNatClampNeg).toNatClampNeg).toInt ≤ x5_25.toInt → ∃ m, m < n2 ∧ L2 m (x3_2 + 1) s25 t25 z25) ∧ (x5_25.toInt < (s25 22 (s25 40 x3_2.toNatClampNeg).toNatClampNeg).toInt → ((0 ≤ x5_25.toInt ∧ x5_25.toInt < 10000) ∧ (∃ J82 : Int32 → St → St → List Nat → Prop, (∀ (x4_82 : Int32) (s82 t82 : St) (z82 : List Nat), J82 x4_82 s82 t82 z82 → (∃ m, m < n25 ∧ L25 m x4_82 (x5_25 + 1) s82 t82 z82)) ∧ ((s25 12 x5_25.toNatClampNeg).toInt = 0 → wp_holds a1 x3_2 x5_25 a2 s25 t25 z25 (fun v60 s60 t60 z60 => (v60.toInt = 0 → J82 (x4_25 + 1) s60 t60 z60) ∧ (v60.toInt ≠ 0 → Q (1 : Int32) (upC (upC s60 0 71 x3_2) 0 72 x4_25) t60 z60))) ∧ ((s25 12 x5_25.toNatClampNeg).toInt ≠ 0 → J82 x4_25 s25 t25 z25)))))))))))
set_option maxHeartbeats 4000000 in
set_option maxRecDepth 100000 in
theorem ct_isFault (a : Nat → Nat) (r : Nat → Nat) {a1 : Int32} {a2 : Int32} {σ τ : St} {vs : List Nat} {Q : Int32 → St → St → List Nat → Prop} (hcap : vs.length ≤ CAP) (w : wp_isFault a1 a2 σ τ vs Q) (l : Launch) (D : va_G) (cy : Nat → ClassId) : Ct l D cy SM r (EM a) y_X14_isFault (Cond.code y_X14_isFault b_X14_isFault 6 (some .boolean)) 6 [.ref (r 0), .int a1, .int a2] σ τ vs (QZs Q) QT0 := by
  unfold wp_isFault at w
  refine Ct_of (EM_ok a) (by decide) (Nat.le_of_ble_eq_true rfl) hcap (fun X hnn hF => ?_)
  show G SM r X σ τ vs [(0, .ref (r 0)), (1, .int a1), (2, .int a2)] [] 0
  refine g_iconst hF (v := 0) d_X14_isFault_0 (by decide) ?_
  refine g_istore_n hF [(3, .int 0), (0, .ref (r 0)), (1, .int a1), (2, .int a2)] d_X14_isFault_1 rfl hnn (by decide) rfl ?_
  obtain ⟨L2, ⟨i2, u2⟩, h2⟩ := w
  have b2 : ∀ (n2 : Nat) (x3_2 : Int32) (s2 t2 : St) (z2 : List Nat), L2 n2 x3_2 s2 t2 z2 → G SM r X s2 t2 z2 [(0, .ref (r 0)), (1, .int a1), (2, .int a2), (3, .int x3_2)] [] 2 := by
    intro n2
    induction n2 using Nat.strongRecOn with
    | _ n2 ih2 =>
      intro x3_2 s2 t2 z2  w2_
      have w2_ := h2 n2 x3_2 s2 t2 z2  w2_
      refine g_iload_n hF d_X14_isFault_2 rfl 3 rfl ?_
      refine g_iload_n hF d_X14_isFault_3 rfl 2 rfl ?_
      refine g_icmp_ge hF 94 d_X14_isFault_4 (by decide) rfl rfl (fun c => ?_) (fun c => ?_)
      · have w1 := w2_.1 c
        refine g_iconst hF (v := 0) d_X14_isFault_94 (by decide) ?_
        exact g_zret hF rfl (k_nz (Or.inl rfl)) d_X14_isFault_95 ⟨(0 : Int32), rfl, (Or.inl rfl), w1⟩
      · have w2 := w2_.2 c
        refine g_iconst hF (v := 0) d_X14_isFault_7 (by decide) ?_
        refine g_istore hF [(4, .int 0), (0, .ref (r 0)), (1, .int a1), (2, .int a2), (3, .int x3_2)] d_X14_isFault_8 hnn (by decide) rfl ?_
        refine g_aload_n hF d_X14_isFault_10 rfl 1 rfl ?_
        refine g_get (v := .ref (r 22)) hF 32 obM_0 (by decide) m_1897 rfl d_X14_isFault_11 ?_
        refine g_aload_n hF d_X14_isFault_14 rfl 1 rfl ?_
        refine g_get (v := .ref (r 40)) hF 66 obM_0 (by decide) m_1931 rfl d_X14_isFault_15 ?_
        refine g_iload_n hF d_X14_isFault_18 rfl 4 rfl ?_
        have w3 := w2.2
        refine g_iald hF arM_40 (s_in (Nat.le_of_ble_eq_true rfl) w2.1.1 w2.1.2) d_X14_isFault_19 ?_
        refine g_top (v := (s2 40 x3_2.toNatClampNeg)) rfl ?_
        refine g_iconst hF (v := 1) d_X14_isFault_20 (by decide) ?_
        refine g_isub hF d_X14_isFault_21 ?_
        have w4 := w3.2
        refine g_iald hF arM_22 (s_in (Nat.le_of_ble_eq_true rfl) w3.1.1 w3.1.2) d_X14_isFault_22 ?_
        refine g_top (v := (s2 22 ((s2 40 x3_2.toNatClampNeg) - (1 : Int32)).toNatClampNeg)) rfl ?_
        refine g_istore hF [(5, .int (s2 22 ((s2 40 x3_2.toNatClampNeg) - (1 : Int32)).toNatClampNeg)), (4, .int 0), (0, .ref (r 0)), (1, .int a1), (2, .int a2), (3, .int x3_2)] d_X14_isFault_23 hnn (by decide) rfl ?_
        obtain ⟨L25, ⟨i25, u25⟩, h25⟩ := w4
        have b25 : ∀ (n25 : Nat) (x4_25 : Int32) (x5_25 : Int32) (s25 t25 : St) (z25 : List Nat), L25 n25 x4_25 x5_25 s25 t25 z25 → G SM r X s25 t25 z25 [(0, .ref (r 0)), (1, .int a1), (2, .int a2), (3, .int x3_2), (4, .int x4_25), (5, .int x5_25)] [] 25 := by
          intro n25
          induction n25 using Nat.strongRecOn with
          | _ n25 ih25 =>
            intro x4_25 x5_25 s25 t25 z25  w25_
            have w25_ := h25 n25 x4_25 x5_25 s25 t25 z25  w25_
            refine g_iload hF d_X14_isFault_25 5 rfl ?_
            refine g_aload_n hF d_X14_isFault_27 rfl 0 rfl ?_
            refine g_get (v := .ref (r 22)) hF 32 obM_0 (by decide) m_1897 rfl d_X14_isFault_28 ?_
            refine g_aload_n hF d_X14_isFault_31 rfl 0 rfl ?_
            refine g_get (v := .ref (r 40)) hF 66 obM_0 (by decide) m_1931 rfl d_X14_isFault_32 ?_
            refine g_iload_n hF d_X14_isFault_35 rfl 3 rfl ?_
            have w5 := w25_.2
            refine g_iald hF arM_40 (s_in (Nat.le_of_ble_eq_true rfl) w25_.1.1 w25_.1.2) d_X14_isFault_36 ?_
            refine g_top (v := (s25 40 x3_2.toNatClampNeg)) rfl ?_
            have w6 := w5.2
            refine g_iald hF arM_22 (s_in (Nat.le_of_ble_eq_true rfl) w5.1.1 w5.1.2) d_X14_isFault_37 ?_
            refine g_top (v := (s25 22 (s25 40 x3_2.toNatClampNeg).toNatClampNeg)) rfl ?_
            refine g_icmp_ge hF 88 d_X14_isFault_38 (by decide) rfl rfl (fun c => ?_) (fun c => ?_)
            · have w7 := w6.1 c
              refine g_iinc hF (x3_2 + 1) [(3, .int (x3_2 + 1)), (0, .ref (r 0)), (1, .int a1), (2, .int a2), (4, .int x4_25), (5, .int x5_25)] d_X14_isFault_88 3 rfl rfl hnn (by decide) rfl ?_
              refine g_goto hF 2 d_X14_isFault_91 (by decide) ?_
              obtain ⟨m2, hm2, w9⟩ := w7
              exact g_sub (L' := [(0, .ref (r 0)), (1, .int a1), (2, .int a2), (3, .int (x3_2 + 1))]) [1, 2, 3, 0] rfl (ih2 m2 hm2 (x3_2 + 1) s25 t25 z25 w9)
            · have w8 := w6.2 c
              refine g_aload_n hF d_X14_isFault_41 rfl 0 rfl ?_
              refine g_get (v := .ref (r 12)) hF 21 obM_0 (by decide) m_1886 rfl d_X14_isFault_42 ?_
              refine g_iload hF d_X14_isFault_45 5 rfl ?_
              have w9 := w8.2
              refine g_zald hF arM_12 (s_in (Nat.le_of_ble_eq_true rfl) w8.1.1 w8.1.2) d_X14_isFault_47 ?_
              refine g_top (v := (s25 12 x5_25.toNatClampNeg)) rfl ?_
              obtain ⟨J82, h82, w10⟩ := w9
              have b82 : ∀ (x4_82 : Int32) (s82 t82 : St) (z82 : List Nat), J82 x4_82 s82 t82 z82 → G SM r X s82 t82 z82 [(0, .ref (r 0)), (1, .int a1), (2, .int a2), (3, .int x3_2), (4, .int x4_82), (5, .int x5_25)] [] 82 := by
                intro x4_82 s82 t82 z82  w82_
                have w82_ := h82 x4_82 s82 t82 z82  w82_
                refine g_iinc hF (x5_25 + 1) [(5, .int (x5_25 + 1)), (0, .ref (r 0)), (1, .int a1), (2, .int a2), (3, .int x3_2), (4, .int x4_82)] d_X14_isFault_82 5 rfl rfl hnn (by decide) rfl ?_
                refine g_goto hF 25 d_X14_isFault_85 (by decide) ?_
                obtain ⟨m25, hm25, w9⟩ := w82_
                exact g_sub (L' := [(0, .ref (r 0)), (1, .int a1), (2, .int a2), (3, .int x3_2), (4, .int x4_82), (5, .int (x5_25 + 1))]) [1, 2, 3, 4, 5, 0] rfl (ih25 m25 hm25 x4_82 (x5_25 + 1) s82 t82 z82 w9)
              refine g_if_eq hF 54 d_X14_isFault_48 (by decide) rfl (fun c => ?_) (fun c => ?_)
              · have w11 := w10.1 c
                refine g_aload_n hF d_X14_isFault_54 rfl 0 rfl ?_
                refine g_iload_n hF d_X14_isFault_55 rfl 1 rfl ?_
                refine g_iload_n hF d_X14_isFault_56 rfl 3 rfl ?_
                refine g_iload hF d_X14_isFault_57 5 rfl ?_
                refine g_iload_n hF d_X14_isFault_59 rfl 2 rfl ?_
                refine g_cap (fun hc11 => ?_)
                refine g_callV (As := [.int a1, .int x3_2, .int x5_25, .int a2]) (rest := []) hF (fun l D cy => (ct_holds a r hc11 w11) l D cy) (Nat.le_of_ble_eq_true rfl) mV_X14_holds m_2680 (recv_ob obM_0) rfl rfl (Nat.le_of_ble_eq_true rfl) d_X14_isFault_60 (kZ (fun v60 s60 t60 z60 hz60 w13 => ?_)) (fun _ _ _ h => h.elim)
                refine g_if_eq hF 79 d_X14_isFault_63 (by decide) rfl (fun c => ?_) (fun c => ?_)
                · have w14 := w13.1 c
                  refine g_iinc hF (x4_25 + 1) [(4, .int (x4_25 + 1)), (0, .ref (r 0)), (1, .int a1), (2, .int a2), (3, .int x3_2), (5, .int x5_25)] d_X14_isFault_79 4 rfl rfl hnn (by decide) rfl ?_
                  exact g_sub (L' := [(0, .ref (r 0)), (1, .int a1), (2, .int a2), (3, .int x3_2), (4, .int (x4_25 + 1)), (5, .int x5_25)]) [1, 2, 3, 4, 0, 5] rfl (b82 (x4_25 + 1) s60 t60 z60 w14)
                · have w15 := w13.2 c
                  refine g_aload_n hF d_X14_isFault_66 rfl 0 rfl ?_
                  refine g_iload_n hF d_X14_isFault_67 rfl 3 rfl ?_
                  refine g_put (v := x3_2) hF 71 obM_0 (by decide) m_1936 rfl rfl rfl d_X14_isFault_68 ?_
                  refine g_aload_n hF d_X14_isFault_71 rfl 0 rfl ?_
                  refine g_iload hF d_X14_isFault_72 4 rfl ?_
                  refine g_put (v := x4_25) hF 72 obM_0 (by decide) m_1937 rfl rfl rfl d_X14_isFault_74 ?_
                  refine g_iconst hF (v := 1) d_X14_isFault_77 (by decide) ?_
                  exact g_zret hF rfl (k_nz (Or.inr rfl)) d_X14_isFault_78 ⟨(1 : Int32), rfl, (Or.inr rfl), w15⟩
              · have w16 := w10.2 c
                refine g_goto hF 82 d_X14_isFault_51 (by decide) ?_
                exact b82 x4_25 s25 t25 z25 w16
        exact g_sub (L' := [(0, .ref (r 0)), (1, .int a1), (2, .int a2), (3, .int x3_2), (4, .int 0), (5, .int (s2 22 ((s2 40 x3_2.toNatClampNeg) - (1 : Int32)).toNatClampNeg))]) [2, 3, 4, 5, 1, 0] rfl (b25 i25 (0 : Int32) (s2 22 ((s2 40 x3_2.toNatClampNeg) - (1 : Int32)).toNatClampNeg) s2 t2 z2 u25)
  exact g_sub (L' := [(0, .ref (r 0)), (1, .int a1), (2, .int a2), (3, .int 0)]) [1, 2, 3, 0] rfl (b2 i2 (0 : Int32) σ τ vs u2)
def wp_stepMore (a1 : Int32) (a2 : Int32) (σ τ : St) (vs : List Nat) (Q : Int32 → St → St → List Nat → Prop) : Prop :=
  ((0 ≤ a1.toInt ∧ a1.toInt < 524288) ∧ (∃ J384 : Prop, (J384  → (((0 ≤ a1.toInt ∧ a1.toInt < 524288) ∧ (∃ J401 : Int32 → Prop, (∀ (y1_401 : Int32), y1_401 = 0 ∨ y1_401 = 1 → J401 y1_401 → (wp_leave y1_401 σ τ vs (fun v401 s401 t401 z401 => Q v401 s401 t401 z401))) ∧ ((σ 8 a1.toNatClampNeg).toInt ≠ 21 → J401 (0 : Int32)) ∧ ((σ 8 a1.toNatClampNeg).toInt = 21 → J401 (1 : Int32)))))) ∧ ((σ 8 a1.toNatClampNeg).toInt = 5 → wp_pop σ τ vs (fun v97 s97 t97 z97 => wp_isCell v97 s97 t97 z97 (fun v102 => (v102.toInt = 0 → wp_trapped (2 : Int32) a2 s97 t97 z97 (fun s124 t124 z124 => Q (a1 + (2 : Int32)) s124 t124 z124)) ∧ (v102.toInt ≠ 0 → ((0 ≤ v97.toInt ∧ v97.toInt < 32768) ∧ wp_push (s97 46 v97.toNatClampNeg) s97 t97 z97 (fun s115 t115 z115 => Q (a1 + (2 : Int32)) s115 t115 z115)))))) ∧ (¬ (σ 8 a1.toNatClampNeg).toInt = 5 → ((σ 8 a1.toNatClampNeg).toInt = 6 → wp_pop σ τ vs (fun v132 s132 t132 z132 => wp_pop s132 t132 z132 (fun v137 s137 t137 z137 => wp_isCell v137 s137 t137 z137 (fun v144 => (∃ J167 : St → St → List Nat → Prop, (∀ (s167 t167 : St) (z167 : List Nat), J167 s167 t167 z167 → (wp_push v132 s167 t167 z167 (fun s169 t169 z169 => Q (a1 + (2 : Int32)) s169 t169 z169))) ∧ (v144.toInt = 0 → wp_trapped (2 : Int32) a2 s137 t137 z137 (fun s164 t164 z164 => J167 s164 t164 z164)) ∧ (v144.toInt ≠ 0 → ((0 ≤ v137.toInt ∧ v137.toInt < 32768) ∧ J167 (upC s137 46 v137.toNatClampNeg v132) t137 z137))))))) ∧ (¬ (σ 8 a1.toNatClampNeg).toInt = 6 → ((σ 8 a1.toNatClampNeg).toInt = 7 → J384) ∧ (¬ (σ 8 a1.toNatClampNeg).toInt = 7 → ((σ 8 a1.toNatClampNeg).toInt = 8 → J384) ∧ (¬ (σ 8 a1.toNatClampNeg).toInt = 8 → ((σ 8 a1.toNatClampNeg).toInt = 9 → J384) ∧ (¬ (σ 8 a1.toNatClampNeg).toInt = 9 → ((σ 8 a1.toNatClampNeg).toInt = 10 → J384) ∧ (¬ (σ 8 a1.toNatClampNeg).toInt = 10 → ((σ 8 a1.toNatClampNeg).toInt = 11 → wp_pop σ τ vs (fun v177 s177 t177 z177 => wp_pop s177 t177 z177 (fun v182 s182 t182 z182 => (∃ J219 : Prop, (J219  → (wp_work a2 v182 v177 s182 t182 z182 (fun v224 => wp_push v224 s182 t182 z182 (fun s227 t227 z227 => Q (a1 + (3 : Int32)) s227 t227 z227)))) ∧ (∃ J199 : Prop, (J199  → ((v177.toInt ≠ 0 → J219) ∧ (v177.toInt = 0 → ((0 ≤ (a1 + (2 : Int32)).toInt ∧ (a1 + (2 : Int32)).toInt < 524288) ∧ wp_trapped (1 : Int32) (s182 8 (a1 + (2 : Int32)).toNatClampNeg) s182 t182 z182 (fun s213 t213 z213 => Q (a1 + (3 : Int32)) s213 t213 z213))))) ∧ (a2.toInt = 39 → J199) ∧ (a2.toInt ≠ 39 → (a2.toInt ≠ 40 → J219) ∧ (a2.toInt = 40 → J199))))))) ∧ (¬ (σ 8 a1.toNatClampNeg).toInt = 11 → ((σ 8 a1.toNatClampNeg).toInt = 12 → J384) ∧ (¬ (σ 8 a1.toNatClampNeg).toInt = 12 → ((σ 8 a1.toNatClampNeg).toInt = 13 → J384) ∧ (¬ (σ 8 a1.toNatClampNeg).toInt = 13 → ((σ 8 a1.toNatClampNeg).toInt = 14 → J384) ∧ (¬ (σ 8 a1.toNatClampNeg).toInt = 14 → ((σ 8 a1.toNatClampNeg).toInt = 15 → J384) ∧ (¬ (σ 8 a1.toNatClampNeg).toInt = 15 → ((σ 8 a1.toNatClampNeg).toInt = 16 → J384) ∧ (¬ (σ 8 a1.toNatClampNeg).toInt = 16 → ((σ 8 a1.toNatClampNeg).toInt = 17 → J384) ∧ (¬ (σ 8 a1.toNatClampNeg).toInt = 17 → ((σ 8 a1.toNatClampNeg).toInt = 18 → J384) ∧ (¬ (σ 8 a1.toNatClampNeg).toInt = 18 → ((σ 8 a1.toNatClampNeg).toInt = 19 → ((0 ≤ (a1 + (2 : Int32)).toInt ∧ (a1 + (2 : Int32)).toInt < 524288) ∧ wp_call_1 a1 a2 (σ 8 (a1 + (2 : Int32)).toNatClampNeg) σ τ vs (fun v380 s380 t380 z380 => Q v380 s380 t380 z380))) ∧ (¬ (σ 8 a1.toNatClampNeg).toInt = 19 → ((σ 8 a1.toNatClampNeg).toInt = 20 → J384) ∧ (¬ (σ 8 a1.toNatClampNeg).toInt = 20 → ((σ 8 a1.toNatClampNeg).toInt = 21 → J384) ∧ (¬ (σ 8 a1.toNatClampNeg).toInt = 21 → ((σ 8 a1.toNatClampNeg).toInt = 22 → wp_pop σ τ vs (fun v235 s235 t235 z235 => wp_isCell v235 s235 t235 z235 (fun v240 => (v240.toInt ≠ 0 → ((0 ≤ v235.toInt ∧ v235.toInt < 32768) ∧ ((0 ≤ (a1 + (2 : Int32)).toInt ∧ (a1 + (2 : Int32)).toInt < 524288) ∧ ((0 ≤ v235.toInt ∧ v235.toInt < 32768) ∧ ((0 ≤ (a1 + (3 : Int32)).toInt ∧ (a1 + (3 : Int32)).toInt < 524288) ∧ (∃ J308 : Int32 → Prop, (∀ (y1_308 : Int32), J308 y1_308 → (wp_push y1_308 (upC s235 46 v235.toNatClampNeg ((s235 46 v235.toNatClampNeg) + (s235 8 (a1 + (2 : Int32)).toNatClampNeg))) t235 z235 (fun s308 t308 z308 => Q (a1 + (4 : Int32)) s308 t308 z308))) ∧ ((s235 8 (a1 + (3 : Int32)).toNatClampNeg).toInt ≠ 0 → ((0 ≤ v235.toInt ∧ v235.toInt < 32768) ∧ ((0 ≤ (a1 + (2 : Int32)).toInt ∧ (a1 + (2 : Int32)).toInt < 524288) ∧ J308 (((upC s235 46 v235.toNatClampNeg ((s235 46 v235.toNatClampNeg) + (s235 8 (a1 + (2 : Int32)).toNatClampNeg))) 46 v235.toNatClampNeg) - (s235 8 (a1 + (2 : Int32)).toNatClampNeg))))) ∧ ((s235 8 (a1 + (3 : Int32)).toNatClampNeg).toInt = 0 → ((0 ≤ v235.toInt ∧ v235.toInt < 32768) ∧ J308 ((upC s235 46 v235.toNatClampNeg ((s235 46 v235.toNatClampNeg) + (s235 8 (a1 + (2 : Int32)).toNatClampNeg))) 46 v235.toNatClampNeg))))))))) ∧ (v240.toInt = 0 → wp_trapped (2 : Int32) a2 s235 t235 z235 (fun s249 t249 z249 => Q (a1 + (4 : Int32)) s249 t249 z249))))) ∧ (¬ (σ 8 a1.toNatClampNeg).toInt = 22 → ((σ 8 a1.toNatClampNeg).toInt = 23 → wp_getLocal a2 σ τ vs (fun v317 => ((0 ≤ (a1 + (2 : Int32)).toInt ∧ (a1 + (2 : Int32)).toInt < 524288) ∧ wp_setLocal a2 (v317 + (σ 8 (a1 + (2 : Int32)).toNatClampNeg)) σ τ vs (fun s333 t333 z333 => ((0 ≤ (a1 + (3 : Int32)).toInt ∧ (a1 + (3 : Int32)).toInt < 524288) ∧ (∃ J362 : Int32 → Prop, (∀ (y1_362 : Int32), J362 y1_362 → (wp_push y1_362 s333 t333 z333 (fun s362 t362 z362 => Q (a1 + (4 : Int32)) s362 t362 z362))) ∧ ((s333 8 (a1 + (3 : Int32)).toNatClampNeg).toInt ≠ 0 → ((0 ≤ (a1 + (2 : Int32)).toInt ∧ (a1 + (2 : Int32)).toInt < 524288) ∧ J362 ((v317 + (σ 8 (a1 + (2 : Int32)).toNatClampNeg)) - (s333 8 (a1 + (2 : Int32)).toNatClampNeg)))) ∧ ((s333 8 (a1 + (3 : Int32)).toNatClampNeg).toInt = 0 → J362 (v317 + (σ 8 (a1 + (2 : Int32)).toNatClampNeg))))))))) ∧ (¬ (σ 8 a1.toNatClampNeg).toInt = 23 → J384)))))))))))))))))))))
set_option maxHeartbeats 4000000 in
set_option maxRecDepth 100000 in
theorem ct_stepMore (a : Nat → Nat) (r : Nat → Nat) {a1 : Int32} {a2 : Int32} {σ τ : St} {vs : List Nat} {Q : Int32 → St → St → List Nat → Prop} (hcap : vs.length ≤ CAP) (w : wp_stepMore a1 a2 σ τ vs Q) (l : Launch) (D : va_G) (cy : Nat → ClassId) : Ct l D cy SM r (EM a) y_X14_stepMore (Cond.code y_X14_stepMore b_X14_stepMore 5 (some .int)) 6 [.ref (r 0), .int a1, .int a2] σ τ vs (QIs Q) QT0 := by
  unfold wp_stepMore at w
  refine Ct_of (EM_ok a) (by decide) (Nat.le_of_ble_eq_true rfl) hcap (fun X hnn hF => ?_)
  show G SM r X σ τ vs [(0, .ref (r 0)), (1, .int a1), (2, .int a2)] [] 0
  refine g_aload_n hF d_X14_stepMore_0 rfl 0 rfl ?_
  refine g_get (v := .ref (r 8)) hF 16 obM_0 (by decide) m_1881 rfl d_X14_stepMore_1 ?_
  refine g_iload_n hF d_X14_stepMore_4 rfl 1 rfl ?_
  have w1 := w.2
  refine g_iald hF arM_8 (s_in (Nat.le_of_ble_eq_true rfl) w.1.1 w.1.2) d_X14_stepMore_5 ?_
  refine g_top (v := (σ 8 a1.toNatClampNeg)) rfl ?_
  obtain ⟨J384, h384, w2⟩ := w1
  have b384 : J384  → G SM r X σ τ vs [(0, .ref (r 0)), (1, .int a1)] [] 384 := by
    intro   w384_
    have w384_ := h384   w384_
    refine g_aload_n hF d_X14_stepMore_384 rfl 0 rfl ?_
    refine g_aload_n hF d_X14_stepMore_385 rfl 0 rfl ?_
    refine g_get (v := .ref (r 8)) hF 16 obM_0 (by decide) m_1881 rfl d_X14_stepMore_386 ?_
    refine g_iload_n hF d_X14_stepMore_389 rfl 1 rfl ?_
    have w3 := w384_.2
    refine g_iald hF arM_8 (s_in (Nat.le_of_ble_eq_true rfl) w384_.1.1 w384_.1.2) d_X14_stepMore_390 ?_
    refine g_top (v := (σ 8 a1.toNatClampNeg)) rfl ?_
    refine g_bipush hF (v := 21) d_X14_stepMore_391 (by decide) ?_
    obtain ⟨J401, h401, w4⟩ := w3
    have b401 : ∀ (y1_401 : Int32), y1_401 = 0 ∨ y1_401 = 1 → J401 y1_401 → G SM r X σ τ vs [] [.int y1_401, .ref (r 0)] 401 := by
      intro y1_401 hy1_401 w401_
      have w401_ := h401 y1_401 hy1_401 w401_
      refine g_callV (As := [.int y1_401]) (rest := []) hF (fun l D cy => (ct_leave a r hcap w401_) l D cy) (Nat.le_of_ble_eq_true rfl) mV_X14_leave m_2808 (recv_ob obM_0) rfl rfl (Nat.le_of_ble_eq_true rfl) d_X14_stepMore_401 (kI (fun v401 s401 t401 z401 w5 => ?_)) (fun _ _ _ h => h.elim)
      exact g_iret hF rfl d_X14_stepMore_404 ⟨v401, rfl, w5⟩
    refine g_icmp_ne (yv := 21) hF 400 d_X14_stepMore_393 (by decide) rfl (by decide) (fun c => ?_) (fun c => ?_)
    · have w6 := w4.1 c
      refine g_iconst hF (v := 0) d_X14_stepMore_400 (by decide) ?_
      exact g_sub (L' := []) [] rfl (b401 (0 : Int32) (Or.inl rfl) w6)
    · have w7 := w4.2 c
      refine g_iconst hF (v := 1) d_X14_stepMore_396 (by decide) ?_
      refine g_goto hF 401 d_X14_stepMore_397 (by decide) ?_
      exact g_sub (L' := []) [] rfl (b401 (1 : Int32) (Or.inr rfl) w7)
  refine (Decidable.em ((σ 8 a1.toNatClampNeg).toInt = 5)).elim (fun q6_0 => ?_) (fun q6_0 => ?_)
  · have w8 := w2.1 q6_0
    refine g_tableIn (off := 90) hF 96 d_X14_stepMore_6 q6_0 (by decide) (by decide) (by decide +kernel) (by decide) ?_
    refine g_aload_n hF d_X14_stepMore_96 rfl 0 rfl ?_
    refine g_callV (As := []) (rest := []) hF (fun l D cy => (ct_pop a r hcap w8) l D cy) (Nat.le_of_ble_eq_true rfl) mV_X14_pop m_2777 (recv_ob obM_0) rfl rfl (Nat.le_of_ble_eq_true rfl) d_X14_stepMore_97 (kI (fun v97 s97 t97 z97 w9 => ?_)) (fun _ _ _ h => h.elim)
    refine g_istore_n hF [(3, .int v97), (0, .ref (r 0)), (1, .int a1), (2, .int a2)] d_X14_stepMore_100 rfl hnn (by decide) rfl ?_
    refine g_iload_n hF d_X14_stepMore_101 rfl 0 rfl ?_
    refine g_cap (fun hc9 => ?_)
    refine g_callS (As := [.int v97]) (rest := []) hF (fun l D cy => (ct_isCell a r hc9 w9) l D cy) (Nat.le_of_ble_eq_true rfl) mS_X14_isCell m_2789 rfl rfl (Nat.le_of_ble_eq_true rfl) d_X14_stepMore_102 (krZ (fun v102 hz102 w11 => ?_)) (fun _ _ _ h => h.elim)
    refine g_if_eq hF 121 d_X14_stepMore_105 (by decide) rfl (fun c => ?_) (fun c => ?_)
    · have w12 := w11.1 c
      refine g_aload_n hF d_X14_stepMore_121 rfl 1 rfl ?_
      refine g_iconst hF (v := 2) d_X14_stepMore_122 (by decide) ?_
      refine g_iload_n hF d_X14_stepMore_123 rfl 3 rfl ?_
      refine g_callV (As := [.int 2, .int a2]) (rest := []) hF (fun l D cy => (ct_trapped a r hc9 w12) l D cy) (Nat.le_of_ble_eq_true rfl) mV_X14_trapped m_2781 (recv_ob obM_0) rfl rfl (Nat.le_of_ble_eq_true rfl) d_X14_stepMore_124 (kV (fun s124 t124 z124 w13 => ?_)) (fun _ _ _ h => h.elim)
      refine g_iload_n hF d_X14_stepMore_127 rfl 2 rfl ?_
      refine g_iconst hF (v := 2) d_X14_stepMore_128 (by decide) ?_
      refine g_iadd hF d_X14_stepMore_129 ?_
      exact g_iret hF rfl d_X14_stepMore_130 ⟨(a1 + (2 : Int32)), rfl, w13⟩
    · have w14 := w11.2 c
      refine g_aload_n hF d_X14_stepMore_108 rfl 1 rfl ?_
      refine g_aload_n hF d_X14_stepMore_109 rfl 1 rfl ?_
      refine g_get (v := .ref (r 46)) hF 79 obM_0 (by decide) m_1944 rfl d_X14_stepMore_110 ?_
      refine g_iload_n hF d_X14_stepMore_113 rfl 0 rfl ?_
      have w15 := w14.2
      refine g_iald hF arM_46 (s_in (Nat.le_of_ble_eq_true rfl) w14.1.1 w14.1.2) d_X14_stepMore_114 ?_
      refine g_top (v := (s97 46 v97.toNatClampNeg)) rfl ?_
      refine g_callV (As := [.int (s97 46 v97.toNatClampNeg)]) (rest := []) hF (fun l D cy => (ct_push a r hc9 w15) l D cy) (Nat.le_of_ble_eq_true rfl) mV_X14_push m_2765 (recv_ob obM_0) rfl rfl (Nat.le_of_ble_eq_true rfl) d_X14_stepMore_115 (kV (fun s115 t115 z115 w16 => ?_)) (fun _ _ _ h => h.elim)
      refine g_goto hF 127 d_X14_stepMore_118 (by decide) ?_
      refine g_iload_n hF d_X14_stepMore_127 rfl 2 rfl ?_
      refine g_iconst hF (v := 2) d_X14_stepMore_128 (by decide) ?_
      refine g_iadd hF d_X14_stepMore_129 ?_
      exact g_iret hF rfl d_X14_stepMore_130 ⟨(a1 + (2 : Int32)), rfl, w16⟩
  have w17 := w2.2 q6_0
  refine (Decidable.em ((σ 8 a1.toNatClampNeg).toInt = 6)).elim (fun q6_1 => ?_) (fun q6_1 => ?_)
  · have w18 := w17.1 q6_1
    refine g_tableIn (off := 125) hF 131 d_X14_stepMore_6 q6_1 (by decide) (by decide) (by decide +kernel) (by decide) ?_
    refine g_aload_n hF d_X14_stepMore_131 rfl 0 rfl ?_
    refine g_callV (As := []) (rest := []) hF (fun l D cy => (ct_pop a r hcap w18) l D cy) (Nat.le_of_ble_eq_true rfl) mV_X14_pop m_2777 (recv_ob obM_0) rfl rfl (Nat.le_of_ble_eq_true rfl) d_X14_stepMore_132 (kI (fun v132 s132 t132 z132 w19 => ?_)) (fun _ _ _ h => h.elim)
    refine g_istore_n hF [(3, .int v132), (0, .ref (r 0)), (1, .int a1), (2, .int a2)] d_X14_stepMore_135 rfl hnn (by decide) rfl ?_
    refine g_aload_n hF d_X14_stepMore_136 rfl 1 rfl ?_
    refine g_cap (fun hc19 => ?_)
    refine g_callV (As := []) (rest := []) hF (fun l D cy => (ct_pop a r hc19 w19) l D cy) (Nat.le_of_ble_eq_true rfl) mV_X14_pop m_2777 (recv_ob obM_0) rfl rfl (Nat.le_of_ble_eq_true rfl) d_X14_stepMore_137 (kI (fun v137 s137 t137 z137 w21 => ?_)) (fun _ _ _ h => h.elim)
    refine g_istore hF [(4, .int v137), (3, .int v132), (0, .ref (r 0)), (1, .int a1), (2, .int a2)] d_X14_stepMore_140 hnn (by decide) rfl ?_
    refine g_iload hF d_X14_stepMore_142 0 rfl ?_
    refine g_cap (fun hc21 => ?_)
    refine g_callS (As := [.int v137]) (rest := []) hF (fun l D cy => (ct_isCell a r hc21 w21) l D cy) (Nat.le_of_ble_eq_true rfl) mS_X14_isCell m_2789 rfl rfl (Nat.le_of_ble_eq_true rfl) d_X14_stepMore_144 (krZ (fun v144 hz144 w23 => ?_)) (fun _ _ _ h => h.elim)
    obtain ⟨J167, h167, w24⟩ := w23
    have b167 : ∀ (s167 t167 : St) (z167 : List Nat), J167 s167 t167 z167 → G SM r X s167 t167 z167 [(0, .ref (r 0)), (1, .int a1), (3, .int v132)] [] 167 := by
      intro s167 t167 z167  w167_
      have w167_ := h167 s167 t167 z167  w167_
      refine g_aload_n hF d_X14_stepMore_167 rfl 0 rfl ?_
      refine g_iload_n hF d_X14_stepMore_168 rfl 2 rfl ?_
      refine g_cap (fun hc24 => ?_)
      refine g_callV (As := [.int v132]) (rest := []) hF (fun l D cy => (ct_push a r hc24 w167_) l D cy) (Nat.le_of_ble_eq_true rfl) mV_X14_push m_2765 (recv_ob obM_0) rfl rfl (Nat.le_of_ble_eq_true rfl) d_X14_stepMore_169 (kV (fun s169 t169 z169 w26 => ?_)) (fun _ _ _ h => h.elim)
      refine g_iload_n hF d_X14_stepMore_172 rfl 1 rfl ?_
      refine g_iconst hF (v := 2) d_X14_stepMore_173 (by decide) ?_
      refine g_iadd hF d_X14_stepMore_174 ?_
      exact g_iret hF rfl d_X14_stepMore_175 ⟨(a1 + (2 : Int32)), rfl, w26⟩
    refine g_if_eq hF 161 d_X14_stepMore_147 (by decide) rfl (fun c => ?_) (fun c => ?_)
    · have w27 := w24.1 c
      refine g_aload_n hF d_X14_stepMore_161 rfl 2 rfl ?_
      refine g_iconst hF (v := 2) d_X14_stepMore_162 (by decide) ?_
      refine g_iload_n hF d_X14_stepMore_163 rfl 4 rfl ?_
      refine g_callV (As := [.int 2, .int a2]) (rest := []) hF (fun l D cy => (ct_trapped a r hc21 w27) l D cy) (Nat.le_of_ble_eq_true rfl) mV_X14_trapped m_2781 (recv_ob obM_0) rfl rfl (Nat.le_of_ble_eq_true rfl) d_X14_stepMore_164 (kV (fun s164 t164 z164 w28 => ?_)) (fun _ _ _ h => h.elim)
      exact g_sub (L' := [(0, .ref (r 0)), (1, .int a1), (3, .int v132)]) [2, 3, 1] rfl (b167 s164 t164 z164 w28)
    · have w29 := w24.2 c
      refine g_aload_n hF d_X14_stepMore_150 rfl 2 rfl ?_
      refine g_get (v := .ref (r 46)) hF 79 obM_0 (by decide) m_1944 rfl d_X14_stepMore_151 ?_
      refine g_iload hF d_X14_stepMore_154 0 rfl ?_
      refine g_iload_n hF d_X14_stepMore_156 rfl 1 rfl ?_
      have w30 := w29.2
      refine g_iast hF arM_46 (s_in (Nat.le_of_ble_eq_true rfl) w29.1.1 w29.1.2) d_X14_stepMore_157 ?_
      refine g_goto hF 167 d_X14_stepMore_158 (by decide) ?_
      exact g_sub (L' := [(0, .ref (r 0)), (1, .int a1), (3, .int v132)]) [2, 3, 1] rfl (b167 (upC s137 46 v137.toNatClampNeg v132) t137 z137 w30)
  have w31 := w17.2 q6_1
  refine (Decidable.em ((σ 8 a1.toNatClampNeg).toInt = 7)).elim (fun q6_2 => ?_) (fun q6_2 => ?_)
  · have w32 := w31.1 q6_2
    refine g_tableIn (off := 378) hF 384 d_X14_stepMore_6 q6_2 (by decide) (by decide) (by decide +kernel) (by decide) ?_
    exact g_sub (L' := [(0, .ref (r 0)), (1, .int a1)]) [0, 1] rfl (b384  w32)
  have w33 := w31.2 q6_2
  refine (Decidable.em ((σ 8 a1.toNatClampNeg).toInt = 8)).elim (fun q6_3 => ?_) (fun q6_3 => ?_)
  · have w34 := w33.1 q6_3
    refine g_tableIn (off := 378) hF 384 d_X14_stepMore_6 q6_3 (by decide) (by decide) (by decide +kernel) (by decide) ?_
    exact g_sub (L' := [(0, .ref (r 0)), (1, .int a1)]) [0, 1] rfl (b384  w34)
  have w35 := w33.2 q6_3
  refine (Decidable.em ((σ 8 a1.toNatClampNeg).toInt = 9)).elim (fun q6_4 => ?_) (fun q6_4 => ?_)
  · have w36 := w35.1 q6_4
    refine g_tableIn (off := 378) hF 384 d_X14_stepMore_6 q6_4 (by decide) (by decide) (by decide +kernel) (by decide) ?_
    exact g_sub (L' := [(0, .ref (r 0)), (1, .int a1)]) [0, 1] rfl (b384  w36)
  have w37 := w35.2 q6_4
  refine (Decidable.em ((σ 8 a1.toNatClampNeg).toInt = 10)).elim (fun q6_5 => ?_) (fun q6_5 => ?_)
  · have w38 := w37.1 q6_5
    refine g_tableIn (off := 378) hF 384 d_X14_stepMore_6 q6_5 (by decide) (by decide) (by decide +kernel) (by decide) ?_
    exact g_sub (L' := [(0, .ref (r 0)), (1, .int a1)]) [0, 1] rfl (b384  w38)
  have w39 := w37.2 q6_5
  refine (Decidable.em ((σ 8 a1.toNatClampNeg).toInt = 11)).elim (fun q6_6 => ?_) (fun q6_6 => ?_)
  · have w40 := w39.1 q6_6
    refine g_tableIn (off := 170) hF 176 d_X14_stepMore_6 q6_6 (by decide) (by decide) (by decide +kernel) (by decide) ?_
    refine g_aload_n hF d_X14_stepMore_176 rfl 0 rfl ?_
    refine g_callV (As := []) (rest := []) hF (fun l D cy => (ct_pop a r hcap w40) l D cy) (Nat.le_of_ble_eq_true rfl) mV_X14_pop m_2777 (recv_ob obM_0) rfl rfl (Nat.le_of_ble_eq_true rfl) d_X14_stepMore_177 (kI (fun v177 s177 t177 z177 w41 => ?_)) (fun _ _ _ h => h.elim)
    refine g_istore_n hF [(3, .int v177), (0, .ref (r 0)), (1, .int a1), (2, .int a2)] d_X14_stepMore_180 rfl hnn (by decide) rfl ?_
    refine g_aload_n hF d_X14_stepMore_181 rfl 1 rfl ?_
    refine g_cap (fun hc41 => ?_)
    refine g_callV (As := []) (rest := []) hF (fun l D cy => (ct_pop a r hc41 w41) l D cy) (Nat.le_of_ble_eq_true rfl) mV_X14_pop m_2777 (recv_ob obM_0) rfl rfl (Nat.le_of_ble_eq_true rfl) d_X14_stepMore_182 (kI (fun v182 s182 t182 z182 w43 => ?_)) (fun _ _ _ h => h.elim)
    refine g_istore hF [(4, .int v182), (3, .int v177), (0, .ref (r 0)), (1, .int a1), (2, .int a2)] d_X14_stepMore_185 hnn (by decide) rfl ?_
    refine g_iload_n hF d_X14_stepMore_187 rfl 4 rfl ?_
    refine g_bipush hF (v := 39) d_X14_stepMore_188 (by decide) ?_
    obtain ⟨J219, h219, w44⟩ := w43
    have b219 : J219  → G SM r X s182 t182 z182 [(0, .ref (r 0)), (1, .int a1), (2, .int a2), (3, .int v177), (4, .int v182)] [] 219 := by
      intro   w219_
      have w219_ := h219   w219_
      refine g_aload_n hF d_X14_stepMore_219 rfl 0 rfl ?_
      refine g_iload_n hF d_X14_stepMore_220 rfl 2 rfl ?_
      refine g_iload hF d_X14_stepMore_221 4 rfl ?_
      refine g_iload_n hF d_X14_stepMore_223 rfl 3 rfl ?_
      refine g_cap (fun hc44 => ?_)
      refine g_callS (As := [.int a2, .int v182, .int v177]) (rest := [.ref (r 0)]) hF (fun l D cy => (ct_work a r hc44 w219_) l D cy) (Nat.le_of_ble_eq_true rfl) mS_X14_work m_2535 rfl rfl (Nat.le_of_ble_eq_true rfl) d_X14_stepMore_224 (krI (fun v224 w46 => ?_)) (fun _ _ _ h => h.elim)
      refine g_callV (As := [.int v224]) (rest := []) hF (fun l D cy => (ct_push a r hc44 w46) l D cy) (Nat.le_of_ble_eq_true rfl) mV_X14_push m_2765 (recv_ob obM_0) rfl rfl (Nat.le_of_ble_eq_true rfl) d_X14_stepMore_227 (kV (fun s227 t227 z227 w47 => ?_)) (fun _ _ _ h => h.elim)
      refine g_iload_n hF d_X14_stepMore_230 rfl 1 rfl ?_
      refine g_iconst hF (v := 3) d_X14_stepMore_231 (by decide) ?_
      refine g_iadd hF d_X14_stepMore_232 ?_
      exact g_iret hF rfl d_X14_stepMore_233 ⟨(a1 + (3 : Int32)), rfl, w47⟩
    obtain ⟨J199, h199, w48⟩ := w44
    have b199 : J199  → G SM r X s182 t182 z182 [(0, .ref (r 0)), (1, .int a1), (2, .int a2), (3, .int v177), (4, .int v182)] [] 199 := by
      intro   w199_
      have w199_ := h199   w199_
      refine g_iload_n hF d_X14_stepMore_199 rfl 3 rfl ?_
      refine g_if_ne hF 219 d_X14_stepMore_200 (by decide) rfl (fun c => ?_) (fun c => ?_)
      · have w49 := w199_.1 c
        exact b219  w49
      · have w50 := w199_.2 c
        refine g_aload_n hF d_X14_stepMore_203 rfl 0 rfl ?_
        refine g_iconst hF (v := 1) d_X14_stepMore_204 (by decide) ?_
        refine g_aload_n hF d_X14_stepMore_205 rfl 0 rfl ?_
        refine g_get (v := .ref (r 8)) hF 16 obM_0 (by decide) m_1881 rfl d_X14_stepMore_206 ?_
        refine g_iload_n hF d_X14_stepMore_209 rfl 1 rfl ?_
        refine g_iconst hF (v := 2) d_X14_stepMore_210 (by decide) ?_
        refine g_iadd hF d_X14_stepMore_211 ?_
        have w51 := w50.2
        refine g_iald hF arM_8 (s_in (Nat.le_of_ble_eq_true rfl) w50.1.1 w50.1.2) d_X14_stepMore_212 ?_
        refine g_top (v := (s182 8 (a1 + (2 : Int32)).toNatClampNeg)) rfl ?_
        refine g_cap (fun hc51 => ?_)
        refine g_callV (As := [.int 1, .int (s182 8 (a1 + (2 : Int32)).toNatClampNeg)]) (rest := []) hF (fun l D cy => (ct_trapped a r hc51 w51) l D cy) (Nat.le_of_ble_eq_true rfl) mV_X14_trapped m_2781 (recv_ob obM_0) rfl rfl (Nat.le_of_ble_eq_true rfl) d_X14_stepMore_213 (kV (fun s213 t213 z213 w53 => ?_)) (fun _ _ _ h => h.elim)
        refine g_goto hF 230 d_X14_stepMore_216 (by decide) ?_
        refine g_iload_n hF d_X14_stepMore_230 rfl 1 rfl ?_
        refine g_iconst hF (v := 3) d_X14_stepMore_231 (by decide) ?_
        refine g_iadd hF d_X14_stepMore_232 ?_
        exact g_iret hF rfl d_X14_stepMore_233 ⟨(a1 + (3 : Int32)), rfl, w53⟩
    refine g_icmp_eq (yv := 39) hF 199 d_X14_stepMore_190 (by decide) rfl (by decide) (fun c => ?_) (fun c => ?_)
    · have w54 := w48.1 c
      exact g_sub (L' := [(0, .ref (r 0)), (1, .int a1), (2, .int a2), (3, .int v177), (4, .int v182)]) [2, 3, 4, 1, 0] rfl (b199  w54)
    · have w55 := w48.2 c
      refine g_iload_n hF d_X14_stepMore_193 rfl 4 rfl ?_
      refine g_bipush hF (v := 40) d_X14_stepMore_194 (by decide) ?_
      refine g_icmp_ne (yv := 40) hF 219 d_X14_stepMore_196 (by decide) rfl (by decide) (fun c => ?_) (fun c => ?_)
      · have w56 := w55.1 c
        exact g_sub (L' := [(0, .ref (r 0)), (1, .int a1), (2, .int a2), (3, .int v177), (4, .int v182)]) [2, 3, 4, 1, 0] rfl (b219  w56)
      · have w57 := w55.2 c
        exact g_sub (L' := [(0, .ref (r 0)), (1, .int a1), (2, .int a2), (3, .int v177), (4, .int v182)]) [2, 3, 4, 1, 0] rfl (b199  w57)
  have w58 := w39.2 q6_6
  refine (Decidable.em ((σ 8 a1.toNatClampNeg).toInt = 12)).elim (fun q6_7 => ?_) (fun q6_7 => ?_)
  · have w59 := w58.1 q6_7
    refine g_tableIn (off := 378) hF 384 d_X14_stepMore_6 q6_7 (by decide) (by decide) (by decide +kernel) (by decide) ?_
    exact g_sub (L' := [(0, .ref (r 0)), (1, .int a1)]) [0, 1] rfl (b384  w59)
  have w60 := w58.2 q6_7
  refine (Decidable.em ((σ 8 a1.toNatClampNeg).toInt = 13)).elim (fun q6_8 => ?_) (fun q6_8 => ?_)
  · have w61 := w60.1 q6_8
    refine g_tableIn (off := 378) hF 384 d_X14_stepMore_6 q6_8 (by decide) (by decide) (by decide +kernel) (by decide) ?_
    exact g_sub (L' := [(0, .ref (r 0)), (1, .int a1)]) [0, 1] rfl (b384  w61)
  have w62 := w60.2 q6_8
  refine (Decidable.em ((σ 8 a1.toNatClampNeg).toInt = 14)).elim (fun q6_9 => ?_) (fun q6_9 => ?_)
  · have w63 := w62.1 q6_9
    refine g_tableIn (off := 378) hF 384 d_X14_stepMore_6 q6_9 (by decide) (by decide) (by decide +kernel) (by decide) ?_
    exact g_sub (L' := [(0, .ref (r 0)), (1, .int a1)]) [0, 1] rfl (b384  w63)
  have w64 := w62.2 q6_9
  refine (Decidable.em ((σ 8 a1.toNatClampNeg).toInt = 15)).elim (fun q6_10 => ?_) (fun q6_10 => ?_)
  · have w65 := w64.1 q6_10
    refine g_tableIn (off := 378) hF 384 d_X14_stepMore_6 q6_10 (by decide) (by decide) (by decide +kernel) (by decide) ?_
    exact g_sub (L' := [(0, .ref (r 0)), (1, .int a1)]) [0, 1] rfl (b384  w65)
  have w66 := w64.2 q6_10
  refine (Decidable.em ((σ 8 a1.toNatClampNeg).toInt = 16)).elim (fun q6_11 => ?_) (fun q6_11 => ?_)
  · have w67 := w66.1 q6_11
    refine g_tableIn (off := 378) hF 384 d_X14_stepMore_6 q6_11 (by decide) (by decide) (by decide +kernel) (by decide) ?_
    exact g_sub (L' := [(0, .ref (r 0)), (1, .int a1)]) [0, 1] rfl (b384  w67)
  have w68 := w66.2 q6_11
  refine (Decidable.em ((σ 8 a1.toNatClampNeg).toInt = 17)).elim (fun q6_12 => ?_) (fun q6_12 => ?_)
  · have w69 := w68.1 q6_12
    refine g_tableIn (off := 378) hF 384 d_X14_stepMore_6 q6_12 (by decide) (by decide) (by decide +kernel) (by decide) ?_
    exact g_sub (L' := [(0, .ref (r 0)), (1, .int a1)]) [0, 1] rfl (b384  w69)
  have w70 := w68.2 q6_12
  refine (Decidable.em ((σ 8 a1.toNatClampNeg).toInt = 18)).elim (fun q6_13 => ?_) (fun q6_13 => ?_)
  · have w71 := w70.1 q6_13
    refine g_tableIn (off := 378) hF 384 d_X14_stepMore_6 q6_13 (by decide) (by decide) (by decide +kernel) (by decide) ?_
    exact g_sub (L' := [(0, .ref (r 0)), (1, .int a1)]) [0, 1] rfl (b384  w71)
  have w72 := w70.2 q6_13
  refine (Decidable.em ((σ 8 a1.toNatClampNeg).toInt = 19)).elim (fun q6_14 => ?_) (fun q6_14 => ?_)
  · have w73 := w72.1 q6_14
    refine g_tableIn (off := 363) hF 369 d_X14_stepMore_6 q6_14 (by decide) (by decide) (by decide +kernel) (by decide) ?_
    refine g_aload_n hF d_X14_stepMore_369 rfl 0 rfl ?_
    refine g_iload_n hF d_X14_stepMore_370 rfl 1 rfl ?_
    refine g_iload_n hF d_X14_stepMore_371 rfl 2 rfl ?_
    refine g_aload_n hF d_X14_stepMore_372 rfl 0 rfl ?_
    refine g_get (v := .ref (r 8)) hF 16 obM_0 (by decide) m_1881 rfl d_X14_stepMore_373 ?_
    refine g_iload_n hF d_X14_stepMore_376 rfl 1 rfl ?_
    refine g_iconst hF (v := 2) d_X14_stepMore_377 (by decide) ?_
    refine g_iadd hF d_X14_stepMore_378 ?_
    have w74 := w73.2
    refine g_iald hF arM_8 (s_in (Nat.le_of_ble_eq_true rfl) w73.1.1 w73.1.2) d_X14_stepMore_379 ?_
    refine g_top (v := (σ 8 (a1 + (2 : Int32)).toNatClampNeg)) rfl ?_
    refine g_callV (As := [.int a1, .int a2, .int (σ 8 (a1 + (2 : Int32)).toNatClampNeg)]) (rest := []) hF (fun l D cy => (ct_call_1 a r hcap w74) l D cy) (Nat.le_of_ble_eq_true rfl) mV_X14_call_1 m_2792 (recv_ob obM_0) rfl rfl (Nat.le_of_ble_eq_true rfl) d_X14_stepMore_380 (kI (fun v380 s380 t380 z380 w75 => ?_)) (fun _ _ _ h => h.elim)
    exact g_iret hF rfl d_X14_stepMore_383 ⟨v380, rfl, w75⟩
  have w76 := w72.2 q6_14
  refine (Decidable.em ((σ 8 a1.toNatClampNeg).toInt = 20)).elim (fun q6_15 => ?_) (fun q6_15 => ?_)
  · have w77 := w76.1 q6_15
    refine g_tableIn (off := 378) hF 384 d_X14_stepMore_6 q6_15 (by decide) (by decide) (by decide +kernel) (by decide) ?_
    exact g_sub (L' := [(0, .ref (r 0)), (1, .int a1)]) [0, 1] rfl (b384  w77)
  have w78 := w76.2 q6_15
  refine (Decidable.em ((σ 8 a1.toNatClampNeg).toInt = 21)).elim (fun q6_16 => ?_) (fun q6_16 => ?_)
  · have w79 := w78.1 q6_16
    refine g_tableIn (off := 378) hF 384 d_X14_stepMore_6 q6_16 (by decide) (by decide) (by decide +kernel) (by decide) ?_
    exact g_sub (L' := [(0, .ref (r 0)), (1, .int a1)]) [0, 1] rfl (b384  w79)
  have w80 := w78.2 q6_16
  refine (Decidable.em ((σ 8 a1.toNatClampNeg).toInt = 22)).elim (fun q6_17 => ?_) (fun q6_17 => ?_)
  · have w81 := w80.1 q6_17
    refine g_tableIn (off := 228) hF 234 d_X14_stepMore_6 q6_17 (by decide) (by decide) (by decide +kernel) (by decide) ?_
    refine g_aload_n hF d_X14_stepMore_234 rfl 0 rfl ?_
    refine g_callV (As := []) (rest := []) hF (fun l D cy => (ct_pop a r hcap w81) l D cy) (Nat.le_of_ble_eq_true rfl) mV_X14_pop m_2777 (recv_ob obM_0) rfl rfl (Nat.le_of_ble_eq_true rfl) d_X14_stepMore_235 (kI (fun v235 s235 t235 z235 w82 => ?_)) (fun _ _ _ h => h.elim)
    refine g_istore_n hF [(3, .int v235), (0, .ref (r 0)), (1, .int a1), (2, .int a2)] d_X14_stepMore_238 rfl hnn (by decide) rfl ?_
    refine g_iload_n hF d_X14_stepMore_239 rfl 0 rfl ?_
    refine g_cap (fun hc82 => ?_)
    refine g_callS (As := [.int v235]) (rest := []) hF (fun l D cy => (ct_isCell a r hc82 w82) l D cy) (Nat.le_of_ble_eq_true rfl) mS_X14_isCell m_2789 rfl rfl (Nat.le_of_ble_eq_true rfl) d_X14_stepMore_240 (krZ (fun v240 hz240 w84 => ?_)) (fun _ _ _ h => h.elim)
    refine g_if_ne hF 255 d_X14_stepMore_243 (by decide) rfl (fun c => ?_) (fun c => ?_)
    · have w85 := w84.1 c
      refine g_aload_n hF d_X14_stepMore_255 rfl 1 rfl ?_
      refine g_get (v := .ref (r 46)) hF 79 obM_0 (by decide) m_1944 rfl d_X14_stepMore_256 ?_
      refine g_iload_n hF d_X14_stepMore_259 rfl 0 rfl ?_
      refine g_dup2 hF d_X14_stepMore_260 rfl rfl ?_
      have w86 := w85.2
      refine g_iald hF arM_46 (s_in (Nat.le_of_ble_eq_true rfl) w85.1.1 w85.1.2) d_X14_stepMore_261 ?_
      refine g_top (v := (s235 46 v235.toNatClampNeg)) rfl ?_
      refine g_aload_n hF d_X14_stepMore_262 rfl 1 rfl ?_
      refine g_get (v := .ref (r 8)) hF 16 obM_0 (by decide) m_1881 rfl d_X14_stepMore_263 ?_
      refine g_iload_n hF d_X14_stepMore_266 rfl 2 rfl ?_
      refine g_iconst hF (v := 2) d_X14_stepMore_267 (by decide) ?_
      refine g_iadd hF d_X14_stepMore_268 ?_
      have w87 := w86.2
      refine g_iald hF arM_8 (s_in (Nat.le_of_ble_eq_true rfl) w86.1.1 w86.1.2) d_X14_stepMore_269 ?_
      refine g_top (v := (s235 8 (a1 + (2 : Int32)).toNatClampNeg)) rfl ?_
      refine g_iadd hF d_X14_stepMore_270 ?_
      have w88 := w87.2
      refine g_iast hF arM_46 (s_in (Nat.le_of_ble_eq_true rfl) w87.1.1 w87.1.2) d_X14_stepMore_271 ?_
      refine g_aload_n hF d_X14_stepMore_272 rfl 1 rfl ?_
      refine g_aload_n hF d_X14_stepMore_273 rfl 1 rfl ?_
      refine g_get (v := .ref (r 8)) hF 16 obM_0 (by decide) m_1881 rfl d_X14_stepMore_274 ?_
      refine g_iload_n hF d_X14_stepMore_277 rfl 2 rfl ?_
      refine g_iconst hF (v := 3) d_X14_stepMore_278 (by decide) ?_
      refine g_iadd hF d_X14_stepMore_279 ?_
      have w89 := w88.2
      refine g_iald hF arM_8 (s_in (Nat.le_of_ble_eq_true rfl) w88.1.1 w88.1.2) d_X14_stepMore_280 ?_
      refine g_top (v := (s235 8 (a1 + (3 : Int32)).toNatClampNeg)) rfl ?_
      obtain ⟨J308, h308, w90⟩ := w89
      have b308 : ∀ (y1_308 : Int32), J308 y1_308 → G SM r X (upC s235 46 v235.toNatClampNeg ((s235 46 v235.toNatClampNeg) + (s235 8 (a1 + (2 : Int32)).toNatClampNeg))) t235 z235 [(1, .int a1)] [.int y1_308, .ref (r 0)] 308 := by
        intro y1_308  w308_
        have w308_ := h308 y1_308  w308_
        refine g_callV (As := [.int y1_308]) (rest := []) hF (fun l D cy => (ct_push a r hc82 w308_) l D cy) (Nat.le_of_ble_eq_true rfl) mV_X14_push m_2765 (recv_ob obM_0) rfl rfl (Nat.le_of_ble_eq_true rfl) d_X14_stepMore_308 (kV (fun s308 t308 z308 w91 => ?_)) (fun _ _ _ h => h.elim)
        refine g_iload_n hF d_X14_stepMore_311 rfl 0 rfl ?_
        refine g_iconst hF (v := 4) d_X14_stepMore_312 (by decide) ?_
        refine g_iadd hF d_X14_stepMore_313 ?_
        exact g_iret hF rfl d_X14_stepMore_314 ⟨(a1 + (4 : Int32)), rfl, w91⟩
      refine g_if_ne hF 293 d_X14_stepMore_281 (by decide) rfl (fun c => ?_) (fun c => ?_)
      · have w92 := w90.1 c
        refine g_aload_n hF d_X14_stepMore_293 rfl 1 rfl ?_
        refine g_get (v := .ref (r 46)) hF 79 obM_0 (by decide) m_1944 rfl d_X14_stepMore_294 ?_
        refine g_iload_n hF d_X14_stepMore_297 rfl 0 rfl ?_
        have w93 := w92.2
        refine g_iald hF arM_46 (s_in (Nat.le_of_ble_eq_true rfl) w92.1.1 w92.1.2) d_X14_stepMore_298 ?_
        refine g_top (v := ((upC s235 46 v235.toNatClampNeg ((s235 46 v235.toNatClampNeg) + (s235 8 (a1 + (2 : Int32)).toNatClampNeg))) 46 v235.toNatClampNeg)) rfl ?_
        refine g_aload_n hF d_X14_stepMore_299 rfl 1 rfl ?_
        refine g_get (v := .ref (r 8)) hF 16 obM_0 (by decide) m_1881 rfl d_X14_stepMore_300 ?_
        refine g_iload_n hF d_X14_stepMore_303 rfl 2 rfl ?_
        refine g_iconst hF (v := 2) d_X14_stepMore_304 (by decide) ?_
        refine g_iadd hF d_X14_stepMore_305 ?_
        have w94 := w93.2
        refine g_iald hF arM_8 (s_in (Nat.le_of_ble_eq_true rfl) w93.1.1 w93.1.2) d_X14_stepMore_306 ?_
        refine g_top (v := (s235 8 (a1 + (2 : Int32)).toNatClampNeg)) rfl ?_
        refine g_isub hF d_X14_stepMore_307 ?_
        exact g_sub (L' := [(1, .int a1)]) [2] rfl (b308 (((upC s235 46 v235.toNatClampNeg ((s235 46 v235.toNatClampNeg) + (s235 8 (a1 + (2 : Int32)).toNatClampNeg))) 46 v235.toNatClampNeg) - (s235 8 (a1 + (2 : Int32)).toNatClampNeg)) w94)
      · have w95 := w90.2 c
        refine g_aload_n hF d_X14_stepMore_284 rfl 1 rfl ?_
        refine g_get (v := .ref (r 46)) hF 79 obM_0 (by decide) m_1944 rfl d_X14_stepMore_285 ?_
        refine g_iload_n hF d_X14_stepMore_288 rfl 0 rfl ?_
        have w96 := w95.2
        refine g_iald hF arM_46 (s_in (Nat.le_of_ble_eq_true rfl) w95.1.1 w95.1.2) d_X14_stepMore_289 ?_
        refine g_top (v := ((upC s235 46 v235.toNatClampNeg ((s235 46 v235.toNatClampNeg) + (s235 8 (a1 + (2 : Int32)).toNatClampNeg))) 46 v235.toNatClampNeg)) rfl ?_
        refine g_goto hF 308 d_X14_stepMore_290 (by decide) ?_
        exact g_sub (L' := [(1, .int a1)]) [2] rfl (b308 ((upC s235 46 v235.toNatClampNeg ((s235 46 v235.toNatClampNeg) + (s235 8 (a1 + (2 : Int32)).toNatClampNeg))) 46 v235.toNatClampNeg) w96)
    · have w97 := w84.2 c
      refine g_aload_n hF d_X14_stepMore_246 rfl 1 rfl ?_
      refine g_iconst hF (v := 2) d_X14_stepMore_247 (by decide) ?_
      refine g_iload_n hF d_X14_stepMore_248 rfl 3 rfl ?_
      refine g_callV (As := [.int 2, .int a2]) (rest := []) hF (fun l D cy => (ct_trapped a r hc82 w97) l D cy) (Nat.le_of_ble_eq_true rfl) mV_X14_trapped m_2781 (recv_ob obM_0) rfl rfl (Nat.le_of_ble_eq_true rfl) d_X14_stepMore_249 (kV (fun s249 t249 z249 w98 => ?_)) (fun _ _ _ h => h.elim)
      refine g_goto hF 311 d_X14_stepMore_252 (by decide) ?_
      refine g_iload_n hF d_X14_stepMore_311 rfl 2 rfl ?_
      refine g_iconst hF (v := 4) d_X14_stepMore_312 (by decide) ?_
      refine g_iadd hF d_X14_stepMore_313 ?_
      exact g_iret hF rfl d_X14_stepMore_314 ⟨(a1 + (4 : Int32)), rfl, w98⟩
  have w99 := w80.2 q6_17
  refine (Decidable.em ((σ 8 a1.toNatClampNeg).toInt = 23)).elim (fun q6_18 => ?_) (fun q6_18 => ?_)
  · have w100 := w99.1 q6_18
    refine g_tableIn (off := 309) hF 315 d_X14_stepMore_6 q6_18 (by decide) (by decide) (by decide +kernel) (by decide) ?_
    refine g_aload_n hF d_X14_stepMore_315 rfl 0 rfl ?_
    refine g_iload_n hF d_X14_stepMore_316 rfl 2 rfl ?_
    refine g_callV (As := [.int a2]) (rest := []) hF (fun l D cy => (ct_getLocal a r hcap w100) l D cy) (Nat.le_of_ble_eq_true rfl) mV_X14_getLocal m_2769 (recv_ob obM_0) rfl rfl (Nat.le_of_ble_eq_true rfl) d_X14_stepMore_317 (krI (fun v317 w101 => ?_)) (fun _ _ _ h => h.elim)
    refine g_aload_n hF d_X14_stepMore_320 rfl 0 rfl ?_
    refine g_get (v := .ref (r 8)) hF 16 obM_0 (by decide) m_1881 rfl d_X14_stepMore_321 ?_
    refine g_iload_n hF d_X14_stepMore_324 rfl 1 rfl ?_
    refine g_iconst hF (v := 2) d_X14_stepMore_325 (by decide) ?_
    refine g_iadd hF d_X14_stepMore_326 ?_
    have w102 := w101.2
    refine g_iald hF arM_8 (s_in (Nat.le_of_ble_eq_true rfl) w101.1.1 w101.1.2) d_X14_stepMore_327 ?_
    refine g_top (v := (σ 8 (a1 + (2 : Int32)).toNatClampNeg)) rfl ?_
    refine g_iadd hF d_X14_stepMore_328 ?_
    refine g_istore_n hF [(3, .int (v317 + (σ 8 (a1 + (2 : Int32)).toNatClampNeg))), (0, .ref (r 0)), (1, .int a1), (2, .int a2)] d_X14_stepMore_329 rfl hnn (by decide) rfl ?_
    refine g_aload_n hF d_X14_stepMore_330 rfl 1 rfl ?_
    refine g_iload_n hF d_X14_stepMore_331 rfl 3 rfl ?_
    refine g_iload_n hF d_X14_stepMore_332 rfl 0 rfl ?_
    refine g_callV (As := [.int a2, .int (v317 + (σ 8 (a1 + (2 : Int32)).toNatClampNeg))]) (rest := []) hF (fun l D cy => (ct_setLocal a r hcap w102) l D cy) (Nat.le_of_ble_eq_true rfl) mV_X14_setLocal m_2753 (recv_ob obM_0) rfl rfl (Nat.le_of_ble_eq_true rfl) d_X14_stepMore_333 (kV (fun s333 t333 z333 w103 => ?_)) (fun _ _ _ h => h.elim)
    refine g_aload_n hF d_X14_stepMore_336 rfl 1 rfl ?_
    refine g_aload_n hF d_X14_stepMore_337 rfl 1 rfl ?_
    refine g_get (v := .ref (r 8)) hF 16 obM_0 (by decide) m_1881 rfl d_X14_stepMore_338 ?_
    refine g_iload_n hF d_X14_stepMore_341 rfl 2 rfl ?_
    refine g_iconst hF (v := 3) d_X14_stepMore_342 (by decide) ?_
    refine g_iadd hF d_X14_stepMore_343 ?_
    have w104 := w103.2
    refine g_iald hF arM_8 (s_in (Nat.le_of_ble_eq_true rfl) w103.1.1 w103.1.2) d_X14_stepMore_344 ?_
    refine g_top (v := (s333 8 (a1 + (3 : Int32)).toNatClampNeg)) rfl ?_
    obtain ⟨J362, h362, w105⟩ := w104
    have b362 : ∀ (y1_362 : Int32), J362 y1_362 → G SM r X s333 t333 z333 [(1, .int a1)] [.int y1_362, .ref (r 0)] 362 := by
      intro y1_362  w362_
      have w362_ := h362 y1_362  w362_
      refine g_cap (fun hc105 => ?_)
      refine g_callV (As := [.int y1_362]) (rest := []) hF (fun l D cy => (ct_push a r hc105 w362_) l D cy) (Nat.le_of_ble_eq_true rfl) mV_X14_push m_2765 (recv_ob obM_0) rfl rfl (Nat.le_of_ble_eq_true rfl) d_X14_stepMore_362 (kV (fun s362 t362 z362 w107 => ?_)) (fun _ _ _ h => h.elim)
      refine g_iload_n hF d_X14_stepMore_365 rfl 0 rfl ?_
      refine g_iconst hF (v := 4) d_X14_stepMore_366 (by decide) ?_
      refine g_iadd hF d_X14_stepMore_367 ?_
      exact g_iret hF rfl d_X14_stepMore_368 ⟨(a1 + (4 : Int32)), rfl, w107⟩
    refine g_if_ne hF 352 d_X14_stepMore_345 (by decide) rfl (fun c => ?_) (fun c => ?_)
    · have w108 := w105.1 c
      refine g_iload_n hF d_X14_stepMore_352 rfl 0 rfl ?_
      refine g_aload_n hF d_X14_stepMore_353 rfl 1 rfl ?_
      refine g_get (v := .ref (r 8)) hF 16 obM_0 (by decide) m_1881 rfl d_X14_stepMore_354 ?_
      refine g_iload_n hF d_X14_stepMore_357 rfl 2 rfl ?_
      refine g_iconst hF (v := 2) d_X14_stepMore_358 (by decide) ?_
      refine g_iadd hF d_X14_stepMore_359 ?_
      have w109 := w108.2
      refine g_iald hF arM_8 (s_in (Nat.le_of_ble_eq_true rfl) w108.1.1 w108.1.2) d_X14_stepMore_360 ?_
      refine g_top (v := (s333 8 (a1 + (2 : Int32)).toNatClampNeg)) rfl ?_
      refine g_isub hF d_X14_stepMore_361 ?_
      exact g_sub (L' := [(1, .int a1)]) [2] rfl (b362 ((v317 + (σ 8 (a1 + (2 : Int32)).toNatClampNeg)) - (s333 8 (a1 + (2 : Int32)).toNatClampNeg)) w109)
    · have w110 := w105.2 c
      refine g_iload_n hF d_X14_stepMore_348 rfl 0 rfl ?_
      refine g_goto hF 362 d_X14_stepMore_349 (by decide) ?_
      exact g_sub (L' := [(1, .int a1)]) [2] rfl (b362 (v317 + (σ 8 (a1 + (2 : Int32)).toNatClampNeg)) w110)
  have w111 := w99.2 q6_18
  refine g_tableOut hF 384 d_X14_stepMore_6 rfl (tbo_5_23 q6_0 q6_1 q6_2 q6_3 q6_4 q6_5 q6_6 q6_7 q6_8 q6_9 q6_10 q6_11 q6_12 q6_13 q6_14 q6_15 q6_16 q6_17 q6_18) (by decide) ?_
  exact g_sub (L' := [(0, .ref (r 0)), (1, .int a1)]) [0, 1] rfl (b384  w111)
