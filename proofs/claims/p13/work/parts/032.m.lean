def wp_expression (Kexpression : Int32 → St → St → List Nat → (Nat → St → St → List Nat → Prop) → (St → St → List Nat → Prop) → Prop) (Kchoice : Int32 → St → St → List Nat → (Nat → St → St → List Nat → Prop) → (St → St → List Nat → Prop) → Prop) (Kbinary : Int32 → Int32 → St → St → List Nat → (Nat → St → St → List Nat → Prop) → (St → St → List Nat → Prop) → Prop) (Kdecided : Int32 → Nat → Int32 → Int32 → St → St → List Nat → (Nat → St → St → List Nat → Prop) → (St → St → List Nat → Prop) → Prop) (Kunary : Int32 → St → St → List Nat → (Nat → St → St → List Nat → Prop) → (St → St → List Nat → Prop) → Prop) (Kbehind : Int32 → St → St → List Nat → (Nat → St → St → List Nat → Prop) → (St → St → List Nat → Prop) → Prop) (Kprimary : Int32 → St → St → List Nat → (Nat → St → St → List Nat → Prop) → (St → St → List Nat → Prop) → Prop) (Kcall_0 : Int32 → Int32 → St → St → List Nat → (Nat → St → St → List Nat → Prop) → (St → St → List Nat → Prop) → Prop) (a1 : Int32) (σ τ : St) (vs : List Nat) (Q : Nat → St → St → List Nat → Prop) (T : St → St → List Nat → Prop) : Prop :=
  Kchoice a1 σ τ vs (fun u2 s2 t2 z2 => wp_sign s2 t2 z2 (fun v7 => wp_isAssignment v7 s2 t2 z2 (fun v12 => (v12.toInt ≠ 0 → wp_deeper a1 s2 t2 z2 (fun v28 s28 t28 z28 => (u2 ∈ z28 ∧ (∃ J55 : Int32 → Prop, (∀ (y0_55 : Int32), y0_55 = 0 ∨ y0_55 = 1 → J55 y0_55 → ((∃ J70 : Int32 → Prop, (∀ (y0_70 : Int32), y0_70 = 0 ∨ y0_70 = 1 → J70 y0_70 → ((∃ J89 : St → St → List Nat → Prop, (∀ (s89 t89 : St) (z89 : List Nat), J89 s89 t89 z89 → (wp_worked v7 s89 t89 z89 (fun v90 => (∃ J125 : St → St → List Nat → Prop, (∀ (s125 t125 : St) (z125 : List Nat), J125 s125 t125 z125 → ((∃ J149 : St → St → List Nat → Prop, (∀ (s149 t149 : St) (z149 : List Nat), J149 s149 t149 z149 → (Kexpression v28 s149 t149 z149 (fun u152 s152 t152 z152 => wp_read_1 u152 s152 t152 z152 (fun s160 t160 z160 => (∃ J242 : Int32 → Prop, (∀ (y0_242 : Int32), y0_242 = 0 ∨ y0_242 = 1 → J242 y0_242 → (wp_must y0_242 (s2 0 10) s160 t160 z160 (fun s249 t249 z249 => (∃ J267 : Int32 → Prop, (∀ (y1_267 : Int32), J267 y1_267 → (wp_made y1_267 u2 u152 (s2 0 10) s249 t249 z249 (fun u272 s272 t272 z272 => (∃ J299 : St → St → List Nat → Prop, (∀ (s299 t299 : St) (z299 : List Nat), J299 s299 t299 z299 → ((y0_70.toInt = 0 → (u2 ∈ z299 ∧ wp_put_1 (7 : Int32) (t299 u2 2) s299 t299 z299 (fun s327 t327 z327 => Q u272 s327 t327 z327))) ∧ (y0_70.toInt ≠ 0 → ((0 ≤ (s2 0 10).toInt ∧ (s2 0 10).toInt < 16002) ∧ wp_put_1 (6 : Int32) (s299 5 (s2 0 10).toNatClampNeg) s299 t299 z299 (fun s314 t314 z314 => Q u272 s314 t314 z314))))) ∧ (v90.toInt = 30 → J299 s272 t272 z272) ∧ (v90.toInt ≠ 30 → ((0 ≤ (s2 0 10).toInt ∧ (s2 0 10).toInt < 16002) ∧ wp_put_2 (11 : Int32) v90 (s272 5 (s2 0 10).toNatClampNeg) s272 t272 z272 (fun s296 t296 z296 => J299 s296 t296 z296))))))) ∧ (y0_242.toInt = 0 → J267 ((-2) : Int32)) ∧ (y0_242.toInt ≠ 0 → (u2 ∈ z249 ∧ J267 (t249 u2 0))))))) ∧ (∃ J241 : Prop, (J241  → (J242 (0 : Int32))) ∧ (y0_55.toInt = 0 → J241) ∧ (y0_55.toInt ≠ 0 → (∃ J237 : Prop, (J237  → (J242 (1 : Int32))) ∧ (v90.toInt ≠ 30 → (∃ J204 : Prop, (J204  → ((u2 ∈ z160 ∧ ((t160 u2 0).toInt < 0 → J241) ∧ (0 ≤ (t160 u2 0).toInt → wp_isInt u152 s160 t160 z160 (fun v213 => (v213.toInt = 0 → J241) ∧ (v213.toInt ≠ 0 → J237)))))) ∧ (v90.toInt = 36 → J204) ∧ (v90.toInt ≠ 36 → (v90.toInt ≠ 37 → wp_isInt u2 s160 t160 z160 (fun v223 => (v223.toInt = 0 → J241) ∧ (v223.toInt ≠ 0 → wp_isInt u152 s160 t160 z160 (fun v231 => (v231.toInt = 0 → J241) ∧ (v231.toInt ≠ 0 → J237))))) ∧ (v90.toInt = 37 → J204)))) ∧ (v90.toInt = 30 → (u2 ∈ z160 ∧ wp_fits u152 (t160 u2 0) s160 t160 z160 (fun v181 => (v181.toInt = 0 → J241) ∧ (v181.toInt ≠ 0 → J237)))))))))) T)) ∧ (v90.toInt = 30 → J149 s125 t125 z125) ∧ (v90.toInt ≠ 30 → (u2 ∈ z125 ∧ ((t125 u2 1).toInt ≠ 1 → J149 s125 t125 z125) ∧ ((t125 u2 1).toInt = 1 → wp_put_1 (3 : Int32) (t125 u2 2) s125 t125 z125 (fun s146 t146 z146 => J149 s146 t146 z146))))))) ∧ (v90.toInt = 30 → J125 s89 t89 z89) ∧ (v90.toInt ≠ 30 → (y0_70.toInt = 0 → J125 s89 t89 z89) ∧ (y0_70.toInt ≠ 0 → wp_put_0 (9 : Int32) s89 t89 z89 (fun s110 t110 z110 => ((0 ≤ (s2 0 10).toInt ∧ (s2 0 10).toInt < 16002) ∧ wp_put_1 (5 : Int32) (s110 5 (s2 0 10).toNatClampNeg) s110 t110 z110 (fun s122 t122 z122 => J125 s122 t122 z122))))))))) ∧ ((t28 u2 1).toInt ≠ 2 → J89 (upC s28 0 10 ((s28 0 10) + (1 : Int32))) t28 z28) ∧ ((t28 u2 1).toInt = 2 → wp_put_1 (1 : Int32) (t28 u2 2) (upC s28 0 10 ((s28 0 10) + (1 : Int32))) t28 z28 (fun s86 t86 z86 => J89 s86 t86 z86))))) ∧ ((t28 u2 1).toInt < 2 → J70 (0 : Int32)) ∧ (2 ≤ (t28 u2 1).toInt → J70 (1 : Int32))))) ∧ ((t28 u2 1).toInt = 0 → J55 (0 : Int32)) ∧ ((t28 u2 1).toInt ≠ 0 → J55 (1 : Int32))))) T) ∧ (v12.toInt = 0 → Q u2 s2 t2 z2)))) T
set_option maxHeartbeats 4000000 in
set_option maxRecDepth 100000 in
theorem ct_expression (a : Nat → Nat) (r : Nat → Nat) (dK : Nat) (hdK : 3 ≤ dK) (Kexpression : Int32 → St → St → List Nat → (Nat → St → St → List Nat → Prop) → (St → St → List Nat → Prop) → Prop) (Kchoice : Int32 → St → St → List Nat → (Nat → St → St → List Nat → Prop) → (St → St → List Nat → Prop) → Prop) (Kbinary : Int32 → Int32 → St → St → List Nat → (Nat → St → St → List Nat → Prop) → (St → St → List Nat → Prop) → Prop) (Kdecided : Int32 → Nat → Int32 → Int32 → St → St → List Nat → (Nat → St → St → List Nat → Prop) → (St → St → List Nat → Prop) → Prop) (Kunary : Int32 → St → St → List Nat → (Nat → St → St → List Nat → Prop) → (St → St → List Nat → Prop) → Prop) (Kbehind : Int32 → St → St → List Nat → (Nat → St → St → List Nat → Prop) → (St → St → List Nat → Prop) → Prop) (Kprimary : Int32 → St → St → List Nat → (Nat → St → St → List Nat → Prop) → (St → St → List Nat → Prop) → Prop) (Kcall_0 : Int32 → Int32 → St → St → List Nat → (Nat → St → St → List Nat → Prop) → (St → St → List Nat → Prop) → Prop) (hKexpression : ∀ {a1 : Int32} {σ τ : St} {vs : List Nat} {Q : Nat → St → St → List Nat → Prop} {T : St → St → List Nat → Prop}, vs.length ≤ CAP → Kexpression a1 σ τ vs Q T → ∀ (l : Launch) (D : va_G) (cy : Nat → ClassId), Ct l D cy SM r (EM a) y_X14_expression (Cond.code y_X14_expression b_X14_expression 12 (some (.object "LinkedUnitsModel$Value"))) dK [.ref (r 0), .int a1] σ τ vs (QAs Q) T) (hKchoice : ∀ {a1 : Int32} {σ τ : St} {vs : List Nat} {Q : Nat → St → St → List Nat → Prop} {T : St → St → List Nat → Prop}, vs.length ≤ CAP → Kchoice a1 σ τ vs Q T → ∀ (l : Launch) (D : va_G) (cy : Nat → ClassId), Ct l D cy SM r (EM a) y_X14_choice (Cond.code y_X14_choice b_X14_choice 12 (some (.object "LinkedUnitsModel$Value"))) dK [.ref (r 0), .int a1] σ τ vs (QAs Q) T) {a1 : Int32} {σ τ : St} {vs : List Nat} {Q : Nat → St → St → List Nat → Prop} {T : St → St → List Nat → Prop} (hcap : vs.length ≤ CAP) (w : wp_expression Kexpression Kchoice Kbinary Kdecided Kunary Kbehind Kprimary Kcall_0 a1 σ τ vs Q T) (l : Launch) (D : va_G) (cy : Nat → ClassId) : Ct l D cy SM r (EM a) y_X14_expression (Cond.code y_X14_expression b_X14_expression 12 (some (.object "LinkedUnitsModel$Value"))) (dK + 1) [.ref (r 0), .int a1] σ τ vs (QAs Q) T := by
  unfold wp_expression at w
  refine Ct_of (EM_ok a) (by decide) (Nat.le_of_ble_eq_true rfl) hcap (fun X hnn hF => ?_)
  show G SM r X σ τ vs [(0, .ref (r 0)), (1, .int a1)] [] 0
  refine g_aload_n hF d_X14_expression_0 rfl 0 rfl ?_
  refine g_iload_n hF d_X14_expression_1 rfl 1 rfl ?_
  refine g_callV (As := [.int a1]) (rest := []) hF (fun l D cy => (hKchoice hcap w) l D cy) (Nat.le_refl _) mV_X14_choice m_2365 (recv_ob obM_0) rfl rfl (Nat.le_of_ble_eq_true rfl) d_X14_expression_2 (kA (fun u2 s2 t2 z2 w1 => ?_)) (fun σ9 τ9 vs9 h9 => g_out hF stopM rfl h9)
  refine g_astore_n hF [(2, .ref u2), (0, .ref (r 0)), (1, .int a1)] d_X14_expression_5 rfl hnn (by decide) rfl ?_
  refine g_aload_n hF d_X14_expression_6 rfl 1 rfl ?_
  refine g_cap (fun hc1 => ?_)
  refine g_callV (As := []) (rest := []) hF (fun l D cy => (ct_sign a r hc1 w1) l D cy) (Nat.add_le_add_right (Nat.le_trans (Nat.le_of_ble_eq_true rfl) hdK) 1) mV_X14_sign m_2377 (recv_ob obM_0) rfl rfl (Nat.le_of_ble_eq_true rfl) d_X14_expression_7 (krI (fun v7 w3 => ?_)) (fun _ _ _ h => h.elim)
  refine g_istore_n hF [(3, .int v7), (2, .ref u2), (0, .ref (r 0)), (1, .int a1)] d_X14_expression_10 rfl hnn (by decide) rfl ?_
  refine g_iload_n hF d_X14_expression_11 rfl 0 rfl ?_
  refine g_callS (As := [.int v7]) (rest := []) hF (fun l D cy => (ct_isAssignment a r hc1 w3) l D cy) (Nat.add_le_add_right (Nat.le_trans (Nat.le_of_ble_eq_true rfl) hdK) 1) mS_X14_isAssignment m_2542 rfl rfl (Nat.le_of_ble_eq_true rfl) d_X14_expression_12 (krZ (fun v12 hz12 w4 => ?_)) (fun _ _ _ h => h.elim)
  refine g_if_ne hF 20 d_X14_expression_15 (by decide) rfl (fun c => ?_) (fun c => ?_)
  · have w5 := w4.1 c
    refine g_aload_n hF d_X14_expression_20 rfl 2 rfl ?_
    refine g_get (v := .int (s2 0 10)) hF 10 obM_0 (by decide) m_1875 rfl d_X14_expression_21 ?_
    refine g_istore hF [(4, .int (s2 0 10)), (3, .int v7), (2, .ref u2), (0, .ref (r 0)), (1, .int a1)] d_X14_expression_24 hnn (by decide) rfl ?_
    refine g_aload_n hF d_X14_expression_26 rfl 3 rfl ?_
    refine g_iload_n hF d_X14_expression_27 rfl 4 rfl ?_
    refine g_callV (As := [.int a1]) (rest := []) hF (fun l D cy => (ct_deeper a r hc1 w5) l D cy) (Nat.add_le_add_right (Nat.le_trans (Nat.le_of_ble_eq_true rfl) hdK) 1) mV_X14_deeper m_2381 (recv_ob obM_0) rfl rfl (Nat.le_of_ble_eq_true rfl) d_X14_expression_28 (kI (fun v28 s28 t28 z28 w6 => ?_)) (fun σ9 τ9 vs9 h9 => g_out hF stopM rfl h9)
    refine g_istore hF [(5, .int v28), (4, .int (s2 0 10)), (3, .int v7), (2, .ref u2), (0, .ref (r 0)), (1, .int a1)] d_X14_expression_31 hnn (by decide) rfl ?_
    refine g_aload_n hF d_X14_expression_33 rfl 4 rfl ?_
    refine g_dup hF d_X14_expression_34 rfl ?_
    refine g_get (v := .int (s28 0 10)) hF 10 obM_0 (by decide) m_1875 rfl d_X14_expression_35 ?_
    refine g_iconst hF (v := 1) d_X14_expression_38 (by decide) ?_
    refine g_iadd hF d_X14_expression_39 ?_
    refine g_put (v := ((s28 0 10) + (1 : Int32))) hF 10 obM_0 (by decide) m_1875 rfl rfl rfl d_X14_expression_40 ?_
    refine g_aload_n hF d_X14_expression_43 rfl 3 rfl ?_
    obtain ⟨hm6, w7⟩ := w6
    refine g_vget hF 1 hm6 clsVC (by decide) m_2401 d_X14_expression_44 ?_
    refine g_top (v := (t28 u2 1)) rfl ?_
    obtain ⟨J55, h55, w8⟩ := w7
    have b55 : ∀ (y0_55 : Int32), y0_55 = 0 ∨ y0_55 = 1 → J55 y0_55 → G SM r X (upC s28 0 10 ((s28 0 10) + (1 : Int32))) t28 z28 [(0, .ref (r 0)), (2, .ref u2), (3, .int v7), (4, .int (s2 0 10)), (5, .int v28)] [.int y0_55] 55 := by
      intro y0_55 hy0_55 w55_
      have w55_ := h55 y0_55 hy0_55 w55_
      refine g_istore hF [(6, .int y0_55), (0, .ref (r 0)), (2, .ref u2), (3, .int v7), (4, .int (s2 0 10)), (5, .int v28)] d_X14_expression_55 hnn (by decide) rfl ?_
      refine g_aload_n hF d_X14_expression_57 rfl 2 rfl ?_
      refine g_vget hF 1 hm6 clsVC (by decide) m_2401 d_X14_expression_58 ?_
      refine g_top (v := (t28 u2 1)) rfl ?_
      refine g_iconst hF (v := 2) d_X14_expression_61 (by decide) ?_
      obtain ⟨J70, h70, w9⟩ := w55_
      have b70 : ∀ (y0_70 : Int32), y0_70 = 0 ∨ y0_70 = 1 → J70 y0_70 → G SM r X (upC s28 0 10 ((s28 0 10) + (1 : Int32))) t28 z28 [(0, .ref (r 0)), (2, .ref u2), (3, .int v7), (4, .int (s2 0 10)), (5, .int v28), (6, .int y0_55)] [.int y0_70] 70 := by
        intro y0_70 hy0_70 w70_
        have w70_ := h70 y0_70 hy0_70 w70_
        refine g_istore hF [(7, .int y0_70), (0, .ref (r 0)), (2, .ref u2), (3, .int v7), (4, .int (s2 0 10)), (5, .int v28), (6, .int y0_55)] d_X14_expression_70 hnn (by decide) rfl ?_
        refine g_aload_n hF d_X14_expression_72 rfl 2 rfl ?_
        refine g_vget hF 1 hm6 clsVC (by decide) m_2401 d_X14_expression_73 ?_
        refine g_top (v := (t28 u2 1)) rfl ?_
        refine g_iconst hF (v := 2) d_X14_expression_76 (by decide) ?_
        obtain ⟨J89, h89, w10⟩ := w70_
        have b89 : ∀ (s89 t89 : St) (z89 : List Nat), J89 s89 t89 z89 → G SM r X s89 t89 z89 [(0, .ref (r 0)), (2, .ref u2), (3, .int v7), (4, .int (s2 0 10)), (5, .int v28), (6, .int y0_55), (7, .int y0_70)] [] 89 := by
          intro s89 t89 z89  w89_
          have w89_ := h89 s89 t89 z89  w89_
          refine g_iload_n hF d_X14_expression_89 rfl 2 rfl ?_
          refine g_cap (fun hc10 => ?_)
          refine g_callS (As := [.int v7]) (rest := []) hF (fun l D cy => (ct_worked a r hc10 w89_) l D cy) (Nat.add_le_add_right (Nat.le_trans (Nat.le_of_ble_eq_true rfl) hdK) 1) mS_X14_worked m_2545 rfl rfl (Nat.le_of_ble_eq_true rfl) d_X14_expression_90 (krI (fun v90 w12 => ?_)) (fun _ _ _ h => h.elim)
          refine g_istore hF [(8, .int v90), (0, .ref (r 0)), (2, .ref u2), (3, .int v7), (4, .int (s2 0 10)), (5, .int v28), (6, .int y0_55), (7, .int y0_70)] d_X14_expression_93 hnn (by decide) rfl ?_
          refine g_iload hF d_X14_expression_95 0 rfl ?_
          refine g_bipush hF (v := 30) d_X14_expression_97 (by decide) ?_
          obtain ⟨J125, h125, w13⟩ := w12
          have b125 : ∀ (s125 t125 : St) (z125 : List Nat), J125 s125 t125 z125 → G SM r X s125 t125 z125 [(0, .ref (r 0)), (2, .ref u2), (4, .int (s2 0 10)), (5, .int v28), (6, .int y0_55), (7, .int y0_70), (8, .int v90)] [] 125 := by
            intro s125 t125 z125  w125_
            have w125_ := h125 s125 t125 z125  w125_
            refine g_iload hF d_X14_expression_125 6 rfl ?_
            refine g_bipush hF (v := 30) d_X14_expression_127 (by decide) ?_
            obtain ⟨J149, h149, w14⟩ := w125_
            have b149 : ∀ (s149 t149 : St) (z149 : List Nat), J149 s149 t149 z149 → G SM r X s149 t149 z149 [(0, .ref (r 0)), (2, .ref u2), (4, .int (s2 0 10)), (5, .int v28), (6, .int y0_55), (7, .int y0_70), (8, .int v90)] [] 149 := by
              intro s149 t149 z149  w149_
              have w149_ := h149 s149 t149 z149  w149_
              refine g_aload_n hF d_X14_expression_149 rfl 0 rfl ?_
              refine g_iload hF d_X14_expression_150 3 rfl ?_
              refine g_cap (fun hc14 => ?_)
              refine g_callV (As := [.int v28]) (rest := []) hF (fun l D cy => (hKexpression hc14 w149_) l D cy) (Nat.le_refl _) mV_X14_expression m_2361 (recv_ob obM_0) rfl rfl (Nat.le_of_ble_eq_true rfl) d_X14_expression_152 (kA (fun u152 s152 t152 z152 w16 => ?_)) (fun σ9 τ9 vs9 h9 => g_out hF stopM rfl h9)
              refine g_astore hF [(9, .ref u152), (0, .ref (r 0)), (2, .ref u2), (4, .int (s2 0 10)), (5, .int v28), (6, .int y0_55), (7, .int y0_70), (8, .int v90)] d_X14_expression_155 hnn (by decide) rfl ?_
              refine g_aload_n hF d_X14_expression_157 rfl 1 rfl ?_
              refine g_aload hF d_X14_expression_158 0 rfl ?_
              refine g_cap (fun hc16 => ?_)
              refine g_callV (As := [.ref u152]) (rest := []) hF (fun l D cy => (ct_read_1 a r hc16 w16) l D cy) (Nat.add_le_add_right (Nat.le_trans (Nat.le_of_ble_eq_true rfl) hdK) 1) mV_X14_read_1 m_2453 (recv_ob obM_0) rfl rfl (Nat.le_of_ble_eq_true rfl) d_X14_expression_160 (kV (fun s160 t160 z160 w18 => ?_)) (fun _ _ _ h => h.elim)
              refine g_iload hF d_X14_expression_163 5 rfl ?_
              obtain ⟨J242, h242, w19⟩ := w18
              have b242 : ∀ (y0_242 : Int32), y0_242 = 0 ∨ y0_242 = 1 → J242 y0_242 → G SM r X s160 t160 z160 [(0, .ref (r 0)), (2, .ref u2), (4, .int (s2 0 10)), (7, .int y0_70), (8, .int v90), (9, .ref u152)] [.int y0_242] 242 := by
                intro y0_242 hy0_242 w242_
                have w242_ := h242 y0_242 hy0_242 w242_
                refine g_istore hF [(10, .int y0_242), (0, .ref (r 0)), (2, .ref u2), (4, .int (s2 0 10)), (7, .int y0_70), (8, .int v90), (9, .ref u152)] d_X14_expression_242 hnn (by decide) rfl ?_
                refine g_aload_n hF d_X14_expression_244 rfl 1 rfl ?_
                refine g_iload hF d_X14_expression_245 0 rfl ?_
                refine g_iload hF d_X14_expression_247 3 rfl ?_
                refine g_cap (fun hc19 => ?_)
                refine g_callV (As := [.int y0_242, .int (s2 0 10)]) (rest := []) hF (fun l D cy => (ct_must a r hc19 w242_) l D cy) (Nat.add_le_add_right (Nat.le_trans (Nat.le_of_ble_eq_true rfl) hdK) 1) mV_X14_must m_2313 (recv_ob obM_0) rfl rfl (Nat.le_of_ble_eq_true rfl) d_X14_expression_249 (kV (fun s249 t249 z249 w21 => ?_)) (fun _ _ _ h => h.elim)
                refine g_aload_n hF d_X14_expression_252 rfl 1 rfl ?_
                refine g_iload hF d_X14_expression_253 0 rfl ?_
                obtain ⟨J267, h267, w22⟩ := w21
                have b267 : ∀ (y1_267 : Int32), J267 y1_267 → G SM r X s249 t249 z249 [(0, .ref (r 0)), (2, .ref u2), (4, .int (s2 0 10)), (7, .int y0_70), (8, .int v90), (9, .ref u152)] [.int y1_267, .ref (r 0)] 267 := by
                  intro y1_267  w267_
                  have w267_ := h267 y1_267  w267_
                  refine g_aload_n hF d_X14_expression_267 rfl 1 rfl ?_
                  refine g_aload hF d_X14_expression_268 5 rfl ?_
                  refine g_iload hF d_X14_expression_270 2 rfl ?_
                  refine g_cap (fun hc22 => ?_)
                  refine g_callV (As := [.int y1_267, .ref u2, .ref u152, .int (s2 0 10)]) (rest := []) hF (fun l D cy => (ct_made a r hc22 w267_) l D cy) (Nat.add_le_add_right (Nat.le_trans (Nat.le_of_ble_eq_true rfl) hdK) 1) mV_X14_made m_2389 (recv_ob obM_0) rfl rfl (Nat.le_of_ble_eq_true rfl) d_X14_expression_272 (kA (fun u272 s272 t272 z272 w24 => ?_)) (fun _ _ _ h => h.elim)
                  refine g_astore hF [(11, .ref u272), (0, .ref (r 0)), (2, .ref u2), (4, .int (s2 0 10)), (7, .int y0_70), (8, .int v90), (9, .ref u152)] d_X14_expression_275 hnn (by decide) rfl ?_
                  refine g_iload hF d_X14_expression_277 5 rfl ?_
                  refine g_bipush hF (v := 30) d_X14_expression_279 (by decide) ?_
                  obtain ⟨J299, h299, w25⟩ := w24
                  have b299 : ∀ (s299 t299 : St) (z299 : List Nat), J299 s299 t299 z299 → G SM r X s299 t299 z299 [(0, .ref (r 0)), (2, .ref u2), (4, .int (s2 0 10)), (7, .int y0_70), (11, .ref u272)] [] 299 := by
                    intro s299 t299 z299  w299_
                    have w299_ := h299 s299 t299 z299  w299_
                    refine g_iload hF d_X14_expression_299 3 rfl ?_
                    refine g_if_eq hF 320 d_X14_expression_301 (by decide) rfl (fun c => ?_) (fun c => ?_)
                    · have w26 := w299_.1 c
                      refine g_aload_n hF d_X14_expression_320 rfl 0 rfl ?_
                      refine g_bipush hF (v := 7) d_X14_expression_321 (by decide) ?_
                      refine g_aload_n hF d_X14_expression_323 rfl 1 rfl ?_
                      obtain ⟨hm26, w27⟩ := w26
                      refine g_vget hF 2 hm26 clsVC (by decide) m_2402 d_X14_expression_324 ?_
                      refine g_top (v := (t299 u2 2)) rfl ?_
                      refine g_cap (fun hc27 => ?_)
                      refine g_callV (As := [.int 7, .int (t299 u2 2)]) (rest := []) hF (fun l D cy => (ct_put_1 a r hc27 w27) l D cy) (Nat.add_le_add_right (Nat.le_trans (Nat.le_of_ble_eq_true rfl) hdK) 1) mV_X14_put_1 m_2433 (recv_ob obM_0) rfl rfl (Nat.le_of_ble_eq_true rfl) d_X14_expression_327 (kV (fun s327 t327 z327 w29 => ?_)) (fun _ _ _ h => h.elim)
                      refine g_aload hF d_X14_expression_330 4 rfl ?_
                      exact g_aret hF rfl d_X14_expression_332 ⟨u272, rfl, w29⟩
                    · have w30 := w299_.2 c
                      refine g_aload_n hF d_X14_expression_304 rfl 0 rfl ?_
                      refine g_bipush hF (v := 6) d_X14_expression_305 (by decide) ?_
                      refine g_aload_n hF d_X14_expression_307 rfl 0 rfl ?_
                      refine g_get (v := .ref (r 5)) hF 6 obM_0 (by decide) m_1871 rfl d_X14_expression_308 ?_
                      refine g_iload hF d_X14_expression_311 2 rfl ?_
                      have w31 := w30.2
                      refine g_iald hF arM_5 (s_in (Nat.le_of_ble_eq_true rfl) w30.1.1 w30.1.2) d_X14_expression_313 ?_
                      refine g_top (v := (s299 5 (s2 0 10).toNatClampNeg)) rfl ?_
                      refine g_cap (fun hc31 => ?_)
                      refine g_callV (As := [.int 6, .int (s299 5 (s2 0 10).toNatClampNeg)]) (rest := []) hF (fun l D cy => (ct_put_1 a r hc31 w31) l D cy) (Nat.add_le_add_right (Nat.le_trans (Nat.le_of_ble_eq_true rfl) hdK) 1) mV_X14_put_1 m_2433 (recv_ob obM_0) rfl rfl (Nat.le_of_ble_eq_true rfl) d_X14_expression_314 (kV (fun s314 t314 z314 w33 => ?_)) (fun _ _ _ h => h.elim)
                      refine g_goto hF 330 d_X14_expression_317 (by decide) ?_
                      refine g_aload hF d_X14_expression_330 4 rfl ?_
                      exact g_aret hF rfl d_X14_expression_332 ⟨u272, rfl, w33⟩
                  refine g_icmp_eq (yv := 30) hF 299 d_X14_expression_281 (by decide) rfl (by decide) (fun c => ?_) (fun c => ?_)
                  · have w34 := w25.1 c
                    exact g_sub (L' := [(0, .ref (r 0)), (2, .ref u2), (4, .int (s2 0 10)), (7, .int y0_70), (11, .ref u272)]) [1, 2, 3, 4, 0] rfl (b299 s272 t272 z272 w34)
                  · have w35 := w25.2 c
                    refine g_aload_n hF d_X14_expression_284 rfl 1 rfl ?_
                    refine g_bipush hF (v := 11) d_X14_expression_285 (by decide) ?_
                    refine g_iload hF d_X14_expression_287 5 rfl ?_
                    refine g_aload_n hF d_X14_expression_289 rfl 1 rfl ?_
                    refine g_get (v := .ref (r 5)) hF 6 obM_0 (by decide) m_1871 rfl d_X14_expression_290 ?_
                    refine g_iload hF d_X14_expression_293 3 rfl ?_
                    have w36 := w35.2
                    refine g_iald hF arM_5 (s_in (Nat.le_of_ble_eq_true rfl) w35.1.1 w35.1.2) d_X14_expression_295 ?_
                    refine g_top (v := (s272 5 (s2 0 10).toNatClampNeg)) rfl ?_
                    refine g_cap (fun hc36 => ?_)
                    refine g_callV (As := [.int 11, .int v90, .int (s272 5 (s2 0 10).toNatClampNeg)]) (rest := []) hF (fun l D cy => (ct_put_2 a r hc36 w36) l D cy) (Nat.add_le_add_right (Nat.le_trans (Nat.le_of_ble_eq_true rfl) hdK) 1) mV_X14_put_2 m_2449 (recv_ob obM_0) rfl rfl (Nat.le_of_ble_eq_true rfl) d_X14_expression_296 (kV (fun s296 t296 z296 w38 => ?_)) (fun _ _ _ h => h.elim)
                    exact g_sub (L' := [(0, .ref (r 0)), (2, .ref u2), (4, .int (s2 0 10)), (7, .int y0_70), (11, .ref u272)]) [1, 2, 3, 4, 0] rfl (b299 s296 t296 z296 w38)
                refine g_if_eq hF 265 d_X14_expression_255 (by decide) rfl (fun c => ?_) (fun c => ?_)
                · have w39 := w22.1 c
                  refine g_bipush hF (v := (-2)) d_X14_expression_265 (by decide) ?_
                  exact g_sub (L' := [(0, .ref (r 0)), (2, .ref u2), (4, .int (s2 0 10)), (7, .int y0_70), (8, .int v90), (9, .ref u152)]) [1, 2, 3, 4, 5, 6] rfl (b267 ((-2) : Int32) w39)
                · have w40 := w22.2 c
                  refine g_aload_n hF d_X14_expression_258 rfl 2 rfl ?_
                  obtain ⟨hm40, w41⟩ := w40
                  refine g_vget hF 0 hm40 clsVC (by decide) m_2400 d_X14_expression_259 ?_
                  refine g_top (v := (t249 u2 0)) rfl ?_
                  refine g_goto hF 267 d_X14_expression_262 (by decide) ?_
                  exact g_sub (L' := [(0, .ref (r 0)), (2, .ref u2), (4, .int (s2 0 10)), (7, .int y0_70), (8, .int v90), (9, .ref u152)]) [1, 2, 3, 4, 5, 6] rfl (b267 (t249 u2 0) w41)
              obtain ⟨J241, h241, w42⟩ := w19
              have b241 : J241  → G SM r X s160 t160 z160 [(0, .ref (r 0)), (2, .ref u2), (4, .int (s2 0 10)), (7, .int y0_70), (8, .int v90), (9, .ref u152)] [] 241 := by
                intro   w241_
                have w241_ := h241   w241_
                refine g_iconst hF (v := 0) d_X14_expression_241 (by decide) ?_
                exact b242 (0 : Int32) (Or.inl rfl) w241_
              refine g_if_eq hF 241 d_X14_expression_165 (by decide) rfl (fun c => ?_) (fun c => ?_)
              · have w43 := w42.1 c
                exact g_sub (L' := [(0, .ref (r 0)), (2, .ref u2), (4, .int (s2 0 10)), (7, .int y0_70), (8, .int v90), (9, .ref u152)]) [1, 2, 3, 6, 7, 0] rfl (b241  w43)
              · have w44 := w42.2 c
                refine g_iload hF d_X14_expression_168 7 rfl ?_
                refine g_bipush hF (v := 30) d_X14_expression_170 (by decide) ?_
                obtain ⟨J237, h237, w45⟩ := w44
                have b237 : J237  → G SM r X s160 t160 z160 [(0, .ref (r 0)), (2, .ref u2), (4, .int (s2 0 10)), (7, .int y0_70), (8, .int v90), (9, .ref u152)] [] 237 := by
                  intro   w237_
                  have w237_ := h237   w237_
                  refine g_iconst hF (v := 1) d_X14_expression_237 (by decide) ?_
                  refine g_goto hF 242 d_X14_expression_238 (by decide) ?_
                  exact b242 (1 : Int32) (Or.inr rfl) w237_
                refine g_icmp_ne (yv := 30) hF 190 d_X14_expression_172 (by decide) rfl (by decide) (fun c => ?_) (fun c => ?_)
                · have w46 := w45.1 c
                  refine g_iload hF d_X14_expression_190 7 rfl ?_
                  refine g_bipush hF (v := 36) d_X14_expression_192 (by decide) ?_
                  obtain ⟨J204, h204, w47⟩ := w46
                  have b204 : J204  → G SM r X s160 t160 z160 [(0, .ref (r 0)), (2, .ref u2), (4, .int (s2 0 10)), (7, .int y0_70), (8, .int v90), (9, .ref u152)] [] 204 := by
                    intro   w204_
                    have w204_ := h204   w204_
                    refine g_aload_n hF d_X14_expression_204 rfl 1 rfl ?_
                    obtain ⟨hm47, w48⟩ := w204_
                    refine g_vget hF 0 hm47 clsVC (by decide) m_2400 d_X14_expression_205 ?_
                    refine g_top (v := (t160 u2 0)) rfl ?_
                    refine g_if_lt hF 241 d_X14_expression_208 (by decide) rfl (fun c => ?_) (fun c => ?_)
                    · have w49 := w48.1 c
                      exact b241  w49
                    · have w50 := w48.2 c
                      refine g_aload hF d_X14_expression_211 5 rfl ?_
                      refine g_cap (fun hc50 => ?_)
                      refine g_callS (As := [.ref u152]) (rest := []) hF (fun l D cy => (ct_isInt a r hc50 w50) l D cy) (Nat.add_le_add_right (Nat.le_trans (Nat.le_of_ble_eq_true rfl) hdK) 1) mS_X14_isInt m_2471 rfl rfl (Nat.le_of_ble_eq_true rfl) d_X14_expression_213 (krZ (fun v213 hz213 w52 => ?_)) (fun _ _ _ h => h.elim)
                      refine g_if_eq hF 241 d_X14_expression_216 (by decide) rfl (fun c => ?_) (fun c => ?_)
                      · have w53 := w52.1 c
                        exact b241  w53
                      · have w54 := w52.2 c
                        refine g_goto hF 237 d_X14_expression_219 (by decide) ?_
                        exact b237  w54
                  refine g_icmp_eq (yv := 36) hF 204 d_X14_expression_194 (by decide) rfl (by decide) (fun c => ?_) (fun c => ?_)
                  · have w55 := w47.1 c
                    exact g_sub (L' := [(0, .ref (r 0)), (2, .ref u2), (4, .int (s2 0 10)), (7, .int y0_70), (8, .int v90), (9, .ref u152)]) [1, 2, 3, 6, 7, 0] rfl (b204  w55)
                  · have w56 := w47.2 c
                    refine g_iload hF d_X14_expression_197 7 rfl ?_
                    refine g_bipush hF (v := 37) d_X14_expression_199 (by decide) ?_
                    refine g_icmp_ne (yv := 37) hF 222 d_X14_expression_201 (by decide) rfl (by decide) (fun c => ?_) (fun c => ?_)
                    · have w57 := w56.1 c
                      refine g_aload_n hF d_X14_expression_222 rfl 2 rfl ?_
                      refine g_cap (fun hc57 => ?_)
                      refine g_callS (As := [.ref u2]) (rest := []) hF (fun l D cy => (ct_isInt a r hc57 w57) l D cy) (Nat.add_le_add_right (Nat.le_trans (Nat.le_of_ble_eq_true rfl) hdK) 1) mS_X14_isInt m_2471 rfl rfl (Nat.le_of_ble_eq_true rfl) d_X14_expression_223 (krZ (fun v223 hz223 w59 => ?_)) (fun _ _ _ h => h.elim)
                      refine g_if_eq hF 241 d_X14_expression_226 (by decide) rfl (fun c => ?_) (fun c => ?_)
                      · have w60 := w59.1 c
                        exact g_sub (L' := [(0, .ref (r 0)), (2, .ref u2), (4, .int (s2 0 10)), (7, .int y0_70), (8, .int v90), (9, .ref u152)]) [1, 2, 3, 6, 7, 0] rfl (b241  w60)
                      · have w61 := w59.2 c
                        refine g_aload hF d_X14_expression_229 0 rfl ?_
                        refine g_callS (As := [.ref u152]) (rest := []) hF (fun l D cy => (ct_isInt a r hc57 w61) l D cy) (Nat.add_le_add_right (Nat.le_trans (Nat.le_of_ble_eq_true rfl) hdK) 1) mS_X14_isInt m_2471 rfl rfl (Nat.le_of_ble_eq_true rfl) d_X14_expression_231 (krZ (fun v231 hz231 w62 => ?_)) (fun _ _ _ h => h.elim)
                        refine g_if_eq hF 241 d_X14_expression_234 (by decide) rfl (fun c => ?_) (fun c => ?_)
                        · have w63 := w62.1 c
                          exact g_sub (L' := [(0, .ref (r 0)), (2, .ref u2), (4, .int (s2 0 10)), (7, .int y0_70), (8, .int v90), (9, .ref u152)]) [1, 2, 3, 6, 7, 0] rfl (b241  w63)
                        · have w64 := w62.2 c
                          exact g_sub (L' := [(0, .ref (r 0)), (2, .ref u2), (4, .int (s2 0 10)), (7, .int y0_70), (8, .int v90), (9, .ref u152)]) [1, 2, 3, 6, 7, 0] rfl (b237  w64)
                    · have w65 := w56.2 c
                      exact g_sub (L' := [(0, .ref (r 0)), (2, .ref u2), (4, .int (s2 0 10)), (7, .int y0_70), (8, .int v90), (9, .ref u152)]) [1, 2, 3, 6, 7, 0] rfl (b204  w65)
                · have w66 := w45.2 c
                  refine g_aload hF d_X14_expression_175 0 rfl ?_
                  refine g_aload_n hF d_X14_expression_177 rfl 2 rfl ?_
                  obtain ⟨hm66, w67⟩ := w66
                  refine g_vget hF 0 hm66 clsVC (by decide) m_2400 d_X14_expression_178 ?_
                  refine g_top (v := (t160 u2 0)) rfl ?_
                  refine g_cap (fun hc67 => ?_)
                  refine g_callS (As := [.ref u152, .int (t160 u2 0)]) (rest := []) hF (fun l D cy => (ct_fits a r hc67 w67) l D cy) (Nat.add_le_add_right (Nat.le_trans (Nat.le_of_ble_eq_true rfl) hdK) 1) mS_X14_fits m_2506 rfl rfl (Nat.le_of_ble_eq_true rfl) d_X14_expression_181 (krZ (fun v181 hz181 w69 => ?_)) (fun _ _ _ h => h.elim)
                  refine g_if_eq hF 241 d_X14_expression_184 (by decide) rfl (fun c => ?_) (fun c => ?_)
                  · have w70 := w69.1 c
                    exact g_sub (L' := [(0, .ref (r 0)), (2, .ref u2), (4, .int (s2 0 10)), (7, .int y0_70), (8, .int v90), (9, .ref u152)]) [1, 2, 3, 6, 7, 0] rfl (b241  w70)
                  · have w71 := w69.2 c
                    refine g_goto hF 237 d_X14_expression_187 (by decide) ?_
                    exact g_sub (L' := [(0, .ref (r 0)), (2, .ref u2), (4, .int (s2 0 10)), (7, .int y0_70), (8, .int v90), (9, .ref u152)]) [1, 2, 3, 6, 7, 0] rfl (b237  w71)
            refine g_icmp_eq (yv := 30) hF 149 d_X14_expression_129 (by decide) rfl (by decide) (fun c => ?_) (fun c => ?_)
            · have w72 := w14.1 c
              exact b149 s125 t125 z125 w72
            · have w73 := w14.2 c
              refine g_aload_n hF d_X14_expression_132 rfl 1 rfl ?_
              obtain ⟨hm73, w74⟩ := w73
              refine g_vget hF 1 hm73 clsVC (by decide) m_2401 d_X14_expression_133 ?_
              refine g_top (v := (t125 u2 1)) rfl ?_
              refine g_iconst hF (v := 1) d_X14_expression_136 (by decide) ?_
              refine g_icmp_ne (yv := 1) hF 149 d_X14_expression_137 (by decide) rfl (by decide) (fun c => ?_) (fun c => ?_)
              · have w75 := w74.1 c
                exact b149 s125 t125 z125 w75
              · have w76 := w74.2 c
                refine g_aload_n hF d_X14_expression_140 rfl 0 rfl ?_
                refine g_iconst hF (v := 3) d_X14_expression_141 (by decide) ?_
                refine g_aload_n hF d_X14_expression_142 rfl 1 rfl ?_
                refine g_vget hF 2 hm73 clsVC (by decide) m_2402 d_X14_expression_143 ?_
                refine g_top (v := (t125 u2 2)) rfl ?_
                refine g_cap (fun hc76 => ?_)
                refine g_callV (As := [.int 3, .int (t125 u2 2)]) (rest := []) hF (fun l D cy => (ct_put_1 a r hc76 w76) l D cy) (Nat.add_le_add_right (Nat.le_trans (Nat.le_of_ble_eq_true rfl) hdK) 1) mV_X14_put_1 m_2433 (recv_ob obM_0) rfl rfl (Nat.le_of_ble_eq_true rfl) d_X14_expression_146 (kV (fun s146 t146 z146 w78 => ?_)) (fun _ _ _ h => h.elim)
                exact b149 s146 t146 z146 w78
          refine g_icmp_eq (yv := 30) hF 125 d_X14_expression_99 (by decide) rfl (by decide) (fun c => ?_) (fun c => ?_)
          · have w79 := w13.1 c
            exact g_sub (L' := [(0, .ref (r 0)), (2, .ref u2), (4, .int (s2 0 10)), (5, .int v28), (6, .int y0_55), (7, .int y0_70), (8, .int v90)]) [1, 2, 4, 5, 6, 7, 0] rfl (b125 s89 t89 z89 w79)
          · have w80 := w13.2 c
            refine g_iload hF d_X14_expression_102 7 rfl ?_
            refine g_if_eq hF 125 d_X14_expression_104 (by decide) rfl (fun c => ?_) (fun c => ?_)
            · have w81 := w80.1 c
              exact g_sub (L' := [(0, .ref (r 0)), (2, .ref u2), (4, .int (s2 0 10)), (5, .int v28), (6, .int y0_55), (7, .int y0_70), (8, .int v90)]) [1, 2, 4, 5, 6, 7, 0] rfl (b125 s89 t89 z89 w81)
            · have w82 := w80.2 c
              refine g_aload_n hF d_X14_expression_107 rfl 1 rfl ?_
              refine g_bipush hF (v := 9) d_X14_expression_108 (by decide) ?_
              refine g_callV (As := [.int 9]) (rest := []) hF (fun l D cy => (ct_put_0 a r hc10 w82) l D cy) (Nat.add_le_add_right (Nat.le_trans (Nat.le_of_ble_eq_true rfl) hdK) 1) mV_X14_put_0 m_2437 (recv_ob obM_0) rfl rfl (Nat.le_of_ble_eq_true rfl) d_X14_expression_110 (kV (fun s110 t110 z110 w83 => ?_)) (fun _ _ _ h => h.elim)
              refine g_aload_n hF d_X14_expression_113 rfl 1 rfl ?_
              refine g_iconst hF (v := 5) d_X14_expression_114 (by decide) ?_
              refine g_aload_n hF d_X14_expression_115 rfl 1 rfl ?_
              refine g_get (v := .ref (r 5)) hF 6 obM_0 (by decide) m_1871 rfl d_X14_expression_116 ?_
              refine g_iload hF d_X14_expression_119 4 rfl ?_
              have w84 := w83.2
              refine g_iald hF arM_5 (s_in (Nat.le_of_ble_eq_true rfl) w83.1.1 w83.1.2) d_X14_expression_121 ?_
              refine g_top (v := (s110 5 (s2 0 10).toNatClampNeg)) rfl ?_
              refine g_cap (fun hc84 => ?_)
              refine g_callV (As := [.int 5, .int (s110 5 (s2 0 10).toNatClampNeg)]) (rest := []) hF (fun l D cy => (ct_put_1 a r hc84 w84) l D cy) (Nat.add_le_add_right (Nat.le_trans (Nat.le_of_ble_eq_true rfl) hdK) 1) mV_X14_put_1 m_2433 (recv_ob obM_0) rfl rfl (Nat.le_of_ble_eq_true rfl) d_X14_expression_122 (kV (fun s122 t122 z122 w86 => ?_)) (fun _ _ _ h => h.elim)
              exact g_sub (L' := [(0, .ref (r 0)), (2, .ref u2), (4, .int (s2 0 10)), (5, .int v28), (6, .int y0_55), (7, .int y0_70), (8, .int v90)]) [1, 2, 4, 5, 6, 7, 0] rfl (b125 s122 t122 z122 w86)
        refine g_icmp_ne (yv := 2) hF 89 d_X14_expression_77 (by decide) rfl (by decide) (fun c => ?_) (fun c => ?_)
        · have w87 := w10.1 c
          exact g_sub (L' := [(0, .ref (r 0)), (2, .ref u2), (3, .int v7), (4, .int (s2 0 10)), (5, .int v28), (6, .int y0_55), (7, .int y0_70)]) [1, 2, 3, 4, 5, 6, 0] rfl (b89 (upC s28 0 10 ((s28 0 10) + (1 : Int32))) t28 z28 w87)
        · have w88 := w10.2 c
          refine g_aload_n hF d_X14_expression_80 rfl 1 rfl ?_
          refine g_iconst hF (v := 1) d_X14_expression_81 (by decide) ?_
          refine g_aload_n hF d_X14_expression_82 rfl 2 rfl ?_
          refine g_vget hF 2 hm6 clsVC (by decide) m_2402 d_X14_expression_83 ?_
          refine g_top (v := (t28 u2 2)) rfl ?_
          refine g_cap (fun hc88 => ?_)
          refine g_callV (As := [.int 1, .int (t28 u2 2)]) (rest := []) hF (fun l D cy => (ct_put_1 a r hc88 w88) l D cy) (Nat.add_le_add_right (Nat.le_trans (Nat.le_of_ble_eq_true rfl) hdK) 1) mV_X14_put_1 m_2433 (recv_ob obM_0) rfl rfl (Nat.le_of_ble_eq_true rfl) d_X14_expression_86 (kV (fun s86 t86 z86 w90 => ?_)) (fun _ _ _ h => h.elim)
          exact g_sub (L' := [(0, .ref (r 0)), (2, .ref u2), (3, .int v7), (4, .int (s2 0 10)), (5, .int v28), (6, .int y0_55), (7, .int y0_70)]) [1, 2, 3, 4, 5, 6, 0] rfl (b89 s86 t86 z86 w90)
      refine g_icmp_lt (yv := 2) hF 69 d_X14_expression_62 (by decide) rfl (by decide) (fun c => ?_) (fun c => ?_)
      · have w91 := w9.1 c
        refine g_iconst hF (v := 0) d_X14_expression_69 (by decide) ?_
        exact g_sub (L' := [(0, .ref (r 0)), (2, .ref u2), (3, .int v7), (4, .int (s2 0 10)), (5, .int v28), (6, .int y0_55)]) [1, 2, 3, 4, 5, 0] rfl (b70 (0 : Int32) (Or.inl rfl) w91)
      · have w92 := w9.2 c
        refine g_iconst hF (v := 1) d_X14_expression_65 (by decide) ?_
        refine g_goto hF 70 d_X14_expression_66 (by decide) ?_
        exact g_sub (L' := [(0, .ref (r 0)), (2, .ref u2), (3, .int v7), (4, .int (s2 0 10)), (5, .int v28), (6, .int y0_55)]) [1, 2, 3, 4, 5, 0] rfl (b70 (1 : Int32) (Or.inr rfl) w92)
    refine g_if_eq hF 54 d_X14_expression_47 (by decide) rfl (fun c => ?_) (fun c => ?_)
    · have w93 := w8.1 c
      refine g_iconst hF (v := 0) d_X14_expression_54 (by decide) ?_
      exact g_sub (L' := [(0, .ref (r 0)), (2, .ref u2), (3, .int v7), (4, .int (s2 0 10)), (5, .int v28)]) [4, 3, 2, 1, 0] rfl (b55 (0 : Int32) (Or.inl rfl) w93)
    · have w94 := w8.2 c
      refine g_iconst hF (v := 1) d_X14_expression_50 (by decide) ?_
      refine g_goto hF 55 d_X14_expression_51 (by decide) ?_
      exact g_sub (L' := [(0, .ref (r 0)), (2, .ref u2), (3, .int v7), (4, .int (s2 0 10)), (5, .int v28)]) [4, 3, 2, 1, 0] rfl (b55 (1 : Int32) (Or.inr rfl) w94)
  · have w95 := w4.2 c
    refine g_aload_n hF d_X14_expression_18 rfl 1 rfl ?_
    exact g_aret hF rfl d_X14_expression_19 ⟨u2, rfl, w95⟩
def wp_choice (Kexpression : Int32 → St → St → List Nat → (Nat → St → St → List Nat → Prop) → (St → St → List Nat → Prop) → Prop) (Kchoice : Int32 → St → St → List Nat → (Nat → St → St → List Nat → Prop) → (St → St → List Nat → Prop) → Prop) (Kbinary : Int32 → Int32 → St → St → List Nat → (Nat → St → St → List Nat → Prop) → (St → St → List Nat → Prop) → Prop) (Kdecided : Int32 → Nat → Int32 → Int32 → St → St → List Nat → (Nat → St → St → List Nat → Prop) → (St → St → List Nat → Prop) → Prop) (Kunary : Int32 → St → St → List Nat → (Nat → St → St → List Nat → Prop) → (St → St → List Nat → Prop) → Prop) (Kbehind : Int32 → St → St → List Nat → (Nat → St → St → List Nat → Prop) → (St → St → List Nat → Prop) → Prop) (Kprimary : Int32 → St → St → List Nat → (Nat → St → St → List Nat → Prop) → (St → St → List Nat → Prop) → Prop) (Kcall_0 : Int32 → Int32 → St → St → List Nat → (Nat → St → St → List Nat → Prop) → (St → St → List Nat → Prop) → Prop) (a1 : Int32) (σ τ : St) (vs : List Nat) (Q : Nat → St → St → List Nat → Prop) (T : St → St → List Nat → Prop) : Prop :=
  Kbinary (1 : Int32) a1 σ τ vs (fun u3 s3 t3 z3 => wp_is (28 : Int32) s3 t3 z3 (fun v10 => (v10.toInt ≠ 0 → wp_read_1 u3 s3 t3 z3 (fun s25 t25 z25 => wp_deeper a1 s25 t25 z25 (fun v30 s30 t30 z30 => wp_open (16 : Int32) (upC s30 0 10 ((s30 0 10) + (1 : Int32))) t30 z30 (fun v48 s48 t48 z48 => Kexpression v30 s48 t48 z48 (fun u56 s56 t56 z56 => wp_read_1 u56 s56 t56 z56 (fun s64 t64 z64 => wp_open (15 : Int32) s64 t64 z64 (fun v70 s70 t70 z70 => wp_aim v48 s70 t70 z70 (fun s78 t78 z78 => wp_is (29 : Int32) s78 t78 z78 (fun v84 => (v84.toInt ≠ 0 → wp_deeper a1 s78 t78 z78 (fun v97 s97 t97 z97 => Kchoice v97 (upC s97 0 10 ((s97 0 10) + (1 : Int32))) t97 z97 (fun u115 s115 t115 z115 => wp_read_1 u115 s115 t115 z115 (fun s123 t123 z123 => wp_aim v70 s123 t123 z123 (fun s129 t129 z129 => (u56 ∈ z129 ∧ (u115 ∈ z129 ∧ (∃ J190 : Int32 → Prop, (∀ (y0_190 : Int32), y0_190 = 0 ∨ y0_190 = 1 → J190 y0_190 → (wp_isAny u3 s129 t129 z129 (fun v194 => (∃ J210 : Int32 → Prop, (∀ (y1_210 : Int32), y1_210 = 0 ∨ y1_210 = 1 → J210 y1_210 → (wp_must y1_210 (s3 0 10) s129 t129 z129 (fun s211 t211 z211 => (∃ J238 : Int32 → Prop, (∀ (y1_238 : Int32), J238 y1_238 → (wp_made y1_238 u56 u115 (s3 0 10) s211 t211 z211 (fun u243 s243 t243 z243 => (u3 ∈ z243 ∧ (u243 ∈ z243 ∧ (((t243 u3 3) + (1 : Int32)).toInt ≤ (t243 u243 3).toInt → Q u243 s243 t243 z243) ∧ ((t243 u243 3).toInt < ((t243 u3 3) + (1 : Int32)).toInt → (((t243 u3 3) + (1 : Int32)).toInt ≤ 60 → Q u243 s243 (upC t243 u243 3 ((t243 u3 3) + (1 : Int32))) z243) ∧ (60 < ((t243 u3 3) + (1 : Int32)).toInt → wp_tell (4 : Int32) (s3 0 10) s243 (upC t243 u243 3 ((t243 u3 3) + (1 : Int32))) z243 (fun s286 t286 z286 => Q u243 s286 t286 z286)))))))) ∧ (y0_190.toInt = 0 → J238 ((-2) : Int32)) ∧ (y0_190.toInt ≠ 0 → (u56 ∈ z211 ∧ (u115 ∈ z211 ∧ J238 (if (t211 u56 0) < (t211 u115 0) then (t211 u115 0) else (t211 u56 0))))))))) ∧ (∃ J209 : Prop, (J209  → (J210 (0 : Int32))) ∧ (v194.toInt = 0 → J209) ∧ (v194.toInt ≠ 0 → (y0_190.toInt = 0 → J209) ∧ (y0_190.toInt ≠ 0 → J210 (1 : Int32)))))))) ∧ (∃ J185 : Prop, (J185  → (J190 (1 : Int32))) ∧ (∃ J153 : Prop, (J153  → (wp_isPointer u56 s129 t129 z129 (fun v155 => (∃ J169 : Prop, (J169  → (wp_isPointer u115 s129 t129 z129 (fun v171 => (∃ J189 : Prop, (J189  → (J190 (0 : Int32))) ∧ (v171.toInt = 0 → J189) ∧ (v171.toInt ≠ 0 → ((t129 u56 5).toInt = 0 → J189) ∧ ((t129 u56 5).toInt ≠ 0 → J185)))))) ∧ (v155.toInt = 0 → J169) ∧ (v155.toInt ≠ 0 → ((t129 u115 5).toInt ≠ 0 → J185) ∧ ((t129 u115 5).toInt = 0 → J169)))))) ∧ ((t129 u56 0).toInt ≠ (t129 u115 0).toInt → J153) ∧ ((t129 u56 0).toInt = (t129 u115 0).toInt → wp_isAny u56 s129 t129 z129 (fun v147 => (v147.toInt ≠ 0 → J185) ∧ (v147.toInt = 0 → J153))))))))))) T) T) ∧ (v84.toInt = 0 → wp_wrong s78 t78 z78 (fun s91 t91 z91 => T s91 t91 z91))))))) T)) T)) ∧ (v10.toInt = 0 → Q u3 s3 t3 z3))) T
set_option maxHeartbeats 4000000 in
set_option maxRecDepth 100000 in
theorem ct_choice (a : Nat → Nat) (r : Nat → Nat) (dK : Nat) (hdK : 3 ≤ dK) (Kexpression : Int32 → St → St → List Nat → (Nat → St → St → List Nat → Prop) → (St → St → List Nat → Prop) → Prop) (Kchoice : Int32 → St → St → List Nat → (Nat → St → St → List Nat → Prop) → (St → St → List Nat → Prop) → Prop) (Kbinary : Int32 → Int32 → St → St → List Nat → (Nat → St → St → List Nat → Prop) → (St → St → List Nat → Prop) → Prop) (Kdecided : Int32 → Nat → Int32 → Int32 → St → St → List Nat → (Nat → St → St → List Nat → Prop) → (St → St → List Nat → Prop) → Prop) (Kunary : Int32 → St → St → List Nat → (Nat → St → St → List Nat → Prop) → (St → St → List Nat → Prop) → Prop) (Kbehind : Int32 → St → St → List Nat → (Nat → St → St → List Nat → Prop) → (St → St → List Nat → Prop) → Prop) (Kprimary : Int32 → St → St → List Nat → (Nat → St → St → List Nat → Prop) → (St → St → List Nat → Prop) → Prop) (Kcall_0 : Int32 → Int32 → St → St → List Nat → (Nat → St → St → List Nat → Prop) → (St → St → List Nat → Prop) → Prop) (hKexpression : ∀ {a1 : Int32} {σ τ : St} {vs : List Nat} {Q : Nat → St → St → List Nat → Prop} {T : St → St → List Nat → Prop}, vs.length ≤ CAP → Kexpression a1 σ τ vs Q T → ∀ (l : Launch) (D : va_G) (cy : Nat → ClassId), Ct l D cy SM r (EM a) y_X14_expression (Cond.code y_X14_expression b_X14_expression 12 (some (.object "LinkedUnitsModel$Value"))) dK [.ref (r 0), .int a1] σ τ vs (QAs Q) T) (hKchoice : ∀ {a1 : Int32} {σ τ : St} {vs : List Nat} {Q : Nat → St → St → List Nat → Prop} {T : St → St → List Nat → Prop}, vs.length ≤ CAP → Kchoice a1 σ τ vs Q T → ∀ (l : Launch) (D : va_G) (cy : Nat → ClassId), Ct l D cy SM r (EM a) y_X14_choice (Cond.code y_X14_choice b_X14_choice 12 (some (.object "LinkedUnitsModel$Value"))) dK [.ref (r 0), .int a1] σ τ vs (QAs Q) T) (hKbinary : ∀ {a1 : Int32} {a2 : Int32} {σ τ : St} {vs : List Nat} {Q : Nat → St → St → List Nat → Prop} {T : St → St → List Nat → Prop}, vs.length ≤ CAP → Kbinary a1 a2 σ τ vs Q T → ∀ (l : Launch) (D : va_G) (cy : Nat → ClassId), Ct l D cy SM r (EM a) y_X14_binary (Cond.code y_X14_binary b_X14_binary 7 (some (.object "LinkedUnitsModel$Value"))) dK [.ref (r 0), .int a1, .int a2] σ τ vs (QAs Q) T) {a1 : Int32} {σ τ : St} {vs : List Nat} {Q : Nat → St → St → List Nat → Prop} {T : St → St → List Nat → Prop} (hcap : vs.length ≤ CAP) (w : wp_choice Kexpression Kchoice Kbinary Kdecided Kunary Kbehind Kprimary Kcall_0 a1 σ τ vs Q T) (l : Launch) (D : va_G) (cy : Nat → ClassId) : Ct l D cy SM r (EM a) y_X14_choice (Cond.code y_X14_choice b_X14_choice 12 (some (.object "LinkedUnitsModel$Value"))) (dK + 1) [.ref (r 0), .int a1] σ τ vs (QAs Q) T := by
  unfold wp_choice at w
  refine Ct_of (EM_ok a) (by decide) (Nat.le_of_ble_eq_true rfl) hcap (fun X hnn hF => ?_)
  show G SM r X σ τ vs [(0, .ref (r 0)), (1, .int a1)] [] 0
  refine g_aload_n hF d_X14_choice_0 rfl 0 rfl ?_
  refine g_iconst hF (v := 1) d_X14_choice_1 (by decide) ?_
  refine g_iload_n hF d_X14_choice_2 rfl 1 rfl ?_
  refine g_callV (As := [.int 1, .int a1]) (rest := []) hF (fun l D cy => (hKbinary hcap w) l D cy) (Nat.le_refl _) mV_X14_binary m_2369 (recv_ob obM_0) rfl rfl (Nat.le_of_ble_eq_true rfl) d_X14_choice_3 (kA (fun u3 s3 t3 z3 w1 => ?_)) (fun σ9 τ9 vs9 h9 => g_out hF stopM rfl h9)
  refine g_astore_n hF [(2, .ref u3), (0, .ref (r 0)), (1, .int a1)] d_X14_choice_6 rfl hnn (by decide) rfl ?_
  refine g_aload_n hF d_X14_choice_7 rfl 1 rfl ?_
  refine g_bipush hF (v := 28) d_X14_choice_8 (by decide) ?_
  refine g_cap (fun hc1 => ?_)
  refine g_callV (As := [.int 28]) (rest := []) hF (fun l D cy => (ct_is a r hc1 w1) l D cy) (Nat.add_le_add_right (Nat.le_trans (Nat.le_of_ble_eq_true rfl) hdK) 1) mV_X14_is m_2289 (recv_ob obM_0) rfl rfl (Nat.le_of_ble_eq_true rfl) d_X14_choice_10 (krZ (fun v10 hz10 w3 => ?_)) (fun _ _ _ h => h.elim)
  refine g_if_ne hF 18 d_X14_choice_13 (by decide) rfl (fun c => ?_) (fun c => ?_)
  · have w4 := w3.1 c
    refine g_aload_n hF d_X14_choice_18 rfl 1 rfl ?_
    refine g_get (v := .int (s3 0 10)) hF 10 obM_0 (by decide) m_1875 rfl d_X14_choice_19 ?_
    refine g_istore_n hF [(3, .int (s3 0 10)), (2, .ref u3), (0, .ref (r 0)), (1, .int a1)] d_X14_choice_22 rfl hnn (by decide) rfl ?_
    refine g_aload_n hF d_X14_choice_23 rfl 2 rfl ?_
    refine g_aload_n hF d_X14_choice_24 rfl 1 rfl ?_
    refine g_callV (As := [.ref u3]) (rest := []) hF (fun l D cy => (ct_read_1 a r hc1 w4) l D cy) (Nat.add_le_add_right (Nat.le_trans (Nat.le_of_ble_eq_true rfl) hdK) 1) mV_X14_read_1 m_2453 (recv_ob obM_0) rfl rfl (Nat.le_of_ble_eq_true rfl) d_X14_choice_25 (kV (fun s25 t25 z25 w5 => ?_)) (fun _ _ _ h => h.elim)
    refine g_aload_n hF d_X14_choice_28 rfl 2 rfl ?_
    refine g_iload_n hF d_X14_choice_29 rfl 3 rfl ?_
    refine g_cap (fun hc5 => ?_)
    refine g_callV (As := [.int a1]) (rest := []) hF (fun l D cy => (ct_deeper a r hc5 w5) l D cy) (Nat.add_le_add_right (Nat.le_trans (Nat.le_of_ble_eq_true rfl) hdK) 1) mV_X14_deeper m_2381 (recv_ob obM_0) rfl rfl (Nat.le_of_ble_eq_true rfl) d_X14_choice_30 (kI (fun v30 s30 t30 z30 w7 => ?_)) (fun σ9 τ9 vs9 h9 => g_out hF stopM rfl h9)
    refine g_istore hF [(4, .int v30), (3, .int (s3 0 10)), (2, .ref u3), (0, .ref (r 0)), (1, .int a1)] d_X14_choice_33 hnn (by decide) rfl ?_
    refine g_aload_n hF d_X14_choice_35 rfl 3 rfl ?_
    refine g_dup hF d_X14_choice_36 rfl ?_
    refine g_get (v := .int (s30 0 10)) hF 10 obM_0 (by decide) m_1875 rfl d_X14_choice_37 ?_
    refine g_iconst hF (v := 1) d_X14_choice_40 (by decide) ?_
    refine g_iadd hF d_X14_choice_41 ?_
    refine g_put (v := ((s30 0 10) + (1 : Int32))) hF 10 obM_0 (by decide) m_1875 rfl rfl rfl d_X14_choice_42 ?_
    refine g_aload_n hF d_X14_choice_45 rfl 3 rfl ?_
    refine g_bipush hF (v := 16) d_X14_choice_46 (by decide) ?_
    refine g_cap (fun hc7 => ?_)
    refine g_callV (As := [.int 16]) (rest := []) hF (fun l D cy => (ct_open a r hc7 w7) l D cy) (Nat.add_le_add_right (Nat.le_trans (Nat.le_of_ble_eq_true rfl) hdK) 1) mV_X14_open m_2520 (recv_ob obM_0) rfl rfl (Nat.le_of_ble_eq_true rfl) d_X14_choice_48 (kI (fun v48 s48 t48 z48 w9 => ?_)) (fun _ _ _ h => h.elim)
    refine g_istore hF [(5, .int v48), (4, .int v30), (3, .int (s3 0 10)), (2, .ref u3), (0, .ref (r 0)), (1, .int a1)] d_X14_choice_51 hnn (by decide) rfl ?_
    refine g_aload_n hF d_X14_choice_53 rfl 4 rfl ?_
    refine g_iload hF d_X14_choice_54 1 rfl ?_
    refine g_cap (fun hc9 => ?_)
    refine g_callV (As := [.int v30]) (rest := []) hF (fun l D cy => (hKexpression hc9 w9) l D cy) (Nat.le_refl _) mV_X14_expression m_2361 (recv_ob obM_0) rfl rfl (Nat.le_of_ble_eq_true rfl) d_X14_choice_56 (kA (fun u56 s56 t56 z56 w11 => ?_)) (fun σ9 τ9 vs9 h9 => g_out hF stopM rfl h9)
    refine g_astore hF [(6, .ref u56), (5, .int v48), (4, .int v30), (3, .int (s3 0 10)), (2, .ref u3), (0, .ref (r 0)), (1, .int a1)] d_X14_choice_59 hnn (by decide) rfl ?_
    refine g_aload_n hF d_X14_choice_61 rfl 5 rfl ?_
    refine g_aload hF d_X14_choice_62 0 rfl ?_
    refine g_cap (fun hc11 => ?_)
    refine g_callV (As := [.ref u56]) (rest := []) hF (fun l D cy => (ct_read_1 a r hc11 w11) l D cy) (Nat.add_le_add_right (Nat.le_trans (Nat.le_of_ble_eq_true rfl) hdK) 1) mV_X14_read_1 m_2453 (recv_ob obM_0) rfl rfl (Nat.le_of_ble_eq_true rfl) d_X14_choice_64 (kV (fun s64 t64 z64 w13 => ?_)) (fun _ _ _ h => h.elim)
    refine g_aload_n hF d_X14_choice_67 rfl 5 rfl ?_
    refine g_bipush hF (v := 15) d_X14_choice_68 (by decide) ?_
    refine g_cap (fun hc13 => ?_)
    refine g_callV (As := [.int 15]) (rest := []) hF (fun l D cy => (ct_open a r hc13 w13) l D cy) (Nat.add_le_add_right (Nat.le_trans (Nat.le_of_ble_eq_true rfl) hdK) 1) mV_X14_open m_2520 (recv_ob obM_0) rfl rfl (Nat.le_of_ble_eq_true rfl) d_X14_choice_70 (kI (fun v70 s70 t70 z70 w15 => ?_)) (fun _ _ _ h => h.elim)
    refine g_istore hF [(7, .int v70), (6, .ref u56), (5, .int v48), (4, .int v30), (3, .int (s3 0 10)), (2, .ref u3), (0, .ref (r 0)), (1, .int a1)] d_X14_choice_73 hnn (by decide) rfl ?_
    refine g_aload_n hF d_X14_choice_75 rfl 6 rfl ?_
    refine g_iload hF d_X14_choice_76 2 rfl ?_
    refine g_cap (fun hc15 => ?_)
    refine g_callV (As := [.int v48]) (rest := []) hF (fun l D cy => (ct_aim a r hc15 w15) l D cy) (Nat.add_le_add_right (Nat.le_trans (Nat.le_of_ble_eq_true rfl) hdK) 1) mV_X14_aim m_2524 (recv_ob obM_0) rfl rfl (Nat.le_of_ble_eq_true rfl) d_X14_choice_78 (kV (fun s78 t78 z78 w17 => ?_)) (fun _ _ _ h => h.elim)
    refine g_aload_n hF d_X14_choice_81 rfl 6 rfl ?_
    refine g_bipush hF (v := 29) d_X14_choice_82 (by decide) ?_
    refine g_cap (fun hc17 => ?_)
    refine g_callV (As := [.int 29]) (rest := []) hF (fun l D cy => (ct_is a r hc17 w17) l D cy) (Nat.add_le_add_right (Nat.le_trans (Nat.le_of_ble_eq_true rfl) hdK) 1) mV_X14_is m_2289 (recv_ob obM_0) rfl rfl (Nat.le_of_ble_eq_true rfl) d_X14_choice_84 (krZ (fun v84 hz84 w19 => ?_)) (fun _ _ _ h => h.elim)
    refine g_if_ne hF 95 d_X14_choice_87 (by decide) rfl (fun c => ?_) (fun c => ?_)
    · have w20 := w19.1 c
      refine g_aload_n hF d_X14_choice_95 rfl 6 rfl ?_
      refine g_iload_n hF d_X14_choice_96 rfl 7 rfl ?_
      refine g_callV (As := [.int a1]) (rest := []) hF (fun l D cy => (ct_deeper a r hc17 w20) l D cy) (Nat.add_le_add_right (Nat.le_trans (Nat.le_of_ble_eq_true rfl) hdK) 1) mV_X14_deeper m_2381 (recv_ob obM_0) rfl rfl (Nat.le_of_ble_eq_true rfl) d_X14_choice_97 (kI (fun v97 s97 t97 z97 w21 => ?_)) (fun σ9 τ9 vs9 h9 => g_out hF stopM rfl h9)
      refine g_istore hF [(8, .int v97), (7, .int v70), (6, .ref u56), (5, .int v48), (4, .int v30), (3, .int (s3 0 10)), (2, .ref u3), (0, .ref (r 0)), (1, .int a1)] d_X14_choice_100 hnn (by decide) rfl ?_
      refine g_aload_n hF d_X14_choice_102 rfl 7 rfl ?_
      refine g_dup hF d_X14_choice_103 rfl ?_
      refine g_get (v := .int (s97 0 10)) hF 10 obM_0 (by decide) m_1875 rfl d_X14_choice_104 ?_
      refine g_iconst hF (v := 1) d_X14_choice_107 (by decide) ?_
      refine g_iadd hF d_X14_choice_108 ?_
      refine g_put (v := ((s97 0 10) + (1 : Int32))) hF 10 obM_0 (by decide) m_1875 rfl rfl rfl d_X14_choice_109 ?_
      refine g_aload_n hF d_X14_choice_112 rfl 7 rfl ?_
      refine g_iload hF d_X14_choice_113 0 rfl ?_
      refine g_cap (fun hc21 => ?_)
      refine g_callV (As := [.int v97]) (rest := []) hF (fun l D cy => (hKchoice hc21 w21) l D cy) (Nat.le_refl _) mV_X14_choice m_2365 (recv_ob obM_0) rfl rfl (Nat.le_of_ble_eq_true rfl) d_X14_choice_115 (kA (fun u115 s115 t115 z115 w23 => ?_)) (fun σ9 τ9 vs9 h9 => g_out hF stopM rfl h9)
      refine g_astore hF [(9, .ref u115), (8, .int v97), (7, .int v70), (6, .ref u56), (5, .int v48), (4, .int v30), (3, .int (s3 0 10)), (2, .ref u3), (0, .ref (r 0)), (1, .int a1)] d_X14_choice_118 hnn (by decide) rfl ?_
      refine g_aload_n hF d_X14_choice_120 rfl 8 rfl ?_
      refine g_aload hF d_X14_choice_121 0 rfl ?_
      refine g_cap (fun hc23 => ?_)
      refine g_callV (As := [.ref u115]) (rest := []) hF (fun l D cy => (ct_read_1 a r hc23 w23) l D cy) (Nat.add_le_add_right (Nat.le_trans (Nat.le_of_ble_eq_true rfl) hdK) 1) mV_X14_read_1 m_2453 (recv_ob obM_0) rfl rfl (Nat.le_of_ble_eq_true rfl) d_X14_choice_123 (kV (fun s123 t123 z123 w25 => ?_)) (fun _ _ _ h => h.elim)
      refine g_aload_n hF d_X14_choice_126 rfl 8 rfl ?_
      refine g_iload hF d_X14_choice_127 2 rfl ?_
      refine g_cap (fun hc25 => ?_)
      refine g_callV (As := [.int v70]) (rest := []) hF (fun l D cy => (ct_aim a r hc25 w25) l D cy) (Nat.add_le_add_right (Nat.le_trans (Nat.le_of_ble_eq_true rfl) hdK) 1) mV_X14_aim m_2524 (recv_ob obM_0) rfl rfl (Nat.le_of_ble_eq_true rfl) d_X14_choice_129 (kV (fun s129 t129 z129 w27 => ?_)) (fun _ _ _ h => h.elim)
      refine g_aload hF d_X14_choice_132 3 rfl ?_
      obtain ⟨hm27, w28⟩ := w27
      refine g_vget hF 0 hm27 clsVC (by decide) m_2400 d_X14_choice_134 ?_
      refine g_top (v := (t129 u56 0)) rfl ?_
      refine g_aload hF d_X14_choice_137 0 rfl ?_
      obtain ⟨hm28, w29⟩ := w28
      refine g_vget hF 0 hm28 clsVC (by decide) m_2400 d_X14_choice_139 ?_
      refine g_top (v := (t129 u115 0)) rfl ?_
      obtain ⟨J190, h190, w30⟩ := w29
      have b190 : ∀ (y0_190 : Int32), y0_190 = 0 ∨ y0_190 = 1 → J190 y0_190 → G SM r X s129 t129 z129 [(0, .ref (r 0)), (2, .ref u3), (3, .int (s3 0 10)), (6, .ref u56), (9, .ref u115)] [.int y0_190] 190 := by
        intro y0_190 hy0_190 w190_
        have w190_ := h190 y0_190 hy0_190 w190_
        refine g_istore hF [(10, .int y0_190), (0, .ref (r 0)), (2, .ref u3), (3, .int (s3 0 10)), (6, .ref u56), (9, .ref u115)] d_X14_choice_190 hnn (by decide) rfl ?_
        refine g_aload_n hF d_X14_choice_192 rfl 1 rfl ?_
        refine g_aload_n hF d_X14_choice_193 rfl 2 rfl ?_
        refine g_cap (fun hc30 => ?_)
        refine g_callS (As := [.ref u3]) (rest := [.ref (r 0)]) hF (fun l D cy => (ct_isAny a r hc30 w190_) l D cy) (Nat.add_le_add_right (Nat.le_trans (Nat.le_of_ble_eq_true rfl) hdK) 1) mS_X14_isAny m_2468 rfl rfl (Nat.le_of_ble_eq_true rfl) d_X14_choice_194 (krZ (fun v194 hz194 w32 => ?_)) (fun _ _ _ h => h.elim)
        obtain ⟨J210, h210, w33⟩ := w32
        have b210 : ∀ (y1_210 : Int32), y1_210 = 0 ∨ y1_210 = 1 → J210 y1_210 → G SM r X s129 t129 z129 [(0, .ref (r 0)), (2, .ref u3), (3, .int (s3 0 10)), (6, .ref u56), (9, .ref u115), (10, .int y0_190)] [.int y1_210, .ref (r 0)] 210 := by
          intro y1_210 hy1_210 w210_
          have w210_ := h210 y1_210 hy1_210 w210_
          refine g_iload_n hF d_X14_choice_210 rfl 2 rfl ?_
          refine g_callV (As := [.int y1_210, .int (s3 0 10)]) (rest := []) hF (fun l D cy => (ct_must a r hc30 w210_) l D cy) (Nat.add_le_add_right (Nat.le_trans (Nat.le_of_ble_eq_true rfl) hdK) 1) mV_X14_must m_2313 (recv_ob obM_0) rfl rfl (Nat.le_of_ble_eq_true rfl) d_X14_choice_211 (kV (fun s211 t211 z211 w34 => ?_)) (fun _ _ _ h => h.elim)
          refine g_aload_n hF d_X14_choice_214 rfl 0 rfl ?_
          refine g_iload hF d_X14_choice_215 5 rfl ?_
          obtain ⟨J238, h238, w35⟩ := w34
          have b238 : ∀ (y1_238 : Int32), J238 y1_238 → G SM r X s211 t211 z211 [(0, .ref (r 0)), (2, .ref u3), (3, .int (s3 0 10)), (6, .ref u56), (9, .ref u115)] [.int y1_238, .ref (r 0)] 238 := by
            intro y1_238  w238_
            have w238_ := h238 y1_238  w238_
            refine g_aload hF d_X14_choice_238 3 rfl ?_
            refine g_aload hF d_X14_choice_240 4 rfl ?_
            refine g_iload_n hF d_X14_choice_242 rfl 2 rfl ?_
            refine g_cap (fun hc35 => ?_)
            refine g_callV (As := [.int y1_238, .ref u56, .ref u115, .int (s3 0 10)]) (rest := []) hF (fun l D cy => (ct_made a r hc35 w238_) l D cy) (Nat.add_le_add_right (Nat.le_trans (Nat.le_of_ble_eq_true rfl) hdK) 1) mV_X14_made m_2389 (recv_ob obM_0) rfl rfl (Nat.le_of_ble_eq_true rfl) d_X14_choice_243 (kA (fun u243 s243 t243 z243 w37 => ?_)) (fun _ _ _ h => h.elim)
            refine g_astore hF [(11, .ref u243), (0, .ref (r 0)), (2, .ref u3), (3, .int (s3 0 10)), (6, .ref u56), (9, .ref u115)] d_X14_choice_246 hnn (by decide) rfl ?_
            refine g_aload_n hF d_X14_choice_248 rfl 2 rfl ?_
            obtain ⟨hm37, w38⟩ := w37
            refine g_vget hF 3 hm37 clsVC (by decide) m_2404 d_X14_choice_249 ?_
            refine g_top (v := (t243 u3 3)) rfl ?_
            refine g_iconst hF (v := 1) d_X14_choice_252 (by decide) ?_
            refine g_iadd hF d_X14_choice_253 ?_
            refine g_aload hF d_X14_choice_254 0 rfl ?_
            obtain ⟨hm38, w39⟩ := w38
            refine g_vget hF 3 hm38 clsVC (by decide) m_2404 d_X14_choice_256 ?_
            refine g_top (v := (t243 u243 3)) rfl ?_
            refine g_icmp_le hF 289 d_X14_choice_259 (by decide) rfl rfl (fun c => ?_) (fun c => ?_)
            · have w40 := w39.1 c
              refine g_aload hF d_X14_choice_289 0 rfl ?_
              exact g_aret hF rfl d_X14_choice_291 ⟨u243, rfl, w40⟩
            · have w41 := w39.2 c
              refine g_aload hF d_X14_choice_262 0 rfl ?_
              refine g_aload_n hF d_X14_choice_264 rfl 2 rfl ?_
              refine g_vget hF 3 hm37 clsVC (by decide) m_2404 d_X14_choice_265 ?_
              refine g_top (v := (t243 u3 3)) rfl ?_
              refine g_iconst hF (v := 1) d_X14_choice_268 (by decide) ?_
              refine g_iadd hF d_X14_choice_269 ?_
              refine g_vput hF 3 hm38 clsVC (by decide) m_2404 rfl rfl d_X14_choice_270 ?_
              refine g_aload hF d_X14_choice_273 0 rfl ?_
              refine g_vget hF 3 hm38 clsVC (by decide) m_2404 d_X14_choice_275 ?_
              refine g_top (v := ((t243 u3 3) + (1 : Int32))) upC_same ?_
              refine g_bipush hF (v := 60) d_X14_choice_278 (by decide) ?_
              refine g_icmp_le (yv := 60) hF 289 d_X14_choice_280 (by decide) rfl (by decide) (fun c => ?_) (fun c => ?_)
              · have w42 := w41.1 c
                refine g_aload hF d_X14_choice_289 0 rfl ?_
                exact g_aret hF rfl d_X14_choice_291 ⟨u243, rfl, w42⟩
              · have w43 := w41.2 c
                refine g_aload_n hF d_X14_choice_283 rfl 1 rfl ?_
                refine g_iconst hF (v := 4) d_X14_choice_284 (by decide) ?_
                refine g_iload_n hF d_X14_choice_285 rfl 3 rfl ?_
                refine g_cap (fun hc43 => ?_)
                refine g_callV (As := [.int 4, .int (s3 0 10)]) (rest := []) hF (fun l D cy => (ct_tell a r hc43 w43) l D cy) (Nat.add_le_add_right (Nat.le_trans (Nat.le_of_ble_eq_true rfl) hdK) 1) mV_X14_tell m_2317 (recv_ob obM_0) rfl rfl (Nat.le_of_ble_eq_true rfl) d_X14_choice_286 (kV (fun s286 t286 z286 w45 => ?_)) (fun _ _ _ h => h.elim)
                refine g_aload hF d_X14_choice_289 0 rfl ?_
                exact g_aret hF rfl d_X14_choice_291 ⟨u243, rfl, w45⟩
          refine g_if_eq hF 236 d_X14_choice_217 (by decide) rfl (fun c => ?_) (fun c => ?_)
          · have w46 := w35.1 c
            refine g_bipush hF (v := (-2)) d_X14_choice_236 (by decide) ?_
            exact g_sub (L' := [(0, .ref (r 0)), (2, .ref u3), (3, .int (s3 0 10)), (6, .ref u56), (9, .ref u115)]) [0, 1, 2, 3, 4] rfl (b238 ((-2) : Int32) w46)
          · have w47 := w35.2 c
            refine g_aload hF d_X14_choice_220 3 rfl ?_
            obtain ⟨hm47, w48⟩ := w47
            refine g_vget hF 0 hm47 clsVC (by decide) m_2400 d_X14_choice_222 ?_
            refine g_top (v := (t211 u56 0)) rfl ?_
            refine g_aload hF d_X14_choice_225 4 rfl ?_
            obtain ⟨hm48, w49⟩ := w48
            refine g_vget hF 0 hm48 clsVC (by decide) m_2400 d_X14_choice_227 ?_
            refine g_top (v := (t211 u115 0)) rfl ?_
            refine g_mmax hF (Nat.add_le_add_right (Nat.le_trans (Nat.le_of_ble_eq_true rfl) hdK) 1) m_2432 m_1131 m_23 m_1132 (Nat.le_of_ble_eq_true rfl) d_X14_choice_230 ?_
            refine g_goto hF 238 d_X14_choice_233 (by decide) ?_
            exact g_sub (L' := [(0, .ref (r 0)), (2, .ref u3), (3, .int (s3 0 10)), (6, .ref u56), (9, .ref u115)]) [0, 1, 2, 3, 4] rfl (b238 (if (t211 u56 0) < (t211 u115 0) then (t211 u115 0) else (t211 u56 0)) w49)
        obtain ⟨J209, h209, w50⟩ := w33
        have b209 : J209  → G SM r X s129 t129 z129 [(0, .ref (r 0)), (2, .ref u3), (3, .int (s3 0 10)), (6, .ref u56), (9, .ref u115), (10, .int y0_190)] [.ref (r 0)] 209 := by
          intro   w209_
          have w209_ := h209   w209_
          refine g_iconst hF (v := 0) d_X14_choice_209 (by decide) ?_
          exact b210 (0 : Int32) (Or.inl rfl) w209_
        refine g_if_eq hF 209 d_X14_choice_197 (by decide) rfl (fun c => ?_) (fun c => ?_)
        · have w51 := w50.1 c
          exact g_sub (L' := [(0, .ref (r 0)), (2, .ref u3), (3, .int (s3 0 10)), (6, .ref u56), (9, .ref u115), (10, .int y0_190)]) [1, 2, 3, 4, 5, 0] rfl (b209  w51)
        · have w52 := w50.2 c
          refine g_iload hF d_X14_choice_200 0 rfl ?_
          refine g_if_eq hF 209 d_X14_choice_202 (by decide) rfl (fun c => ?_) (fun c => ?_)
          · have w53 := w52.1 c
            exact g_sub (L' := [(0, .ref (r 0)), (2, .ref u3), (3, .int (s3 0 10)), (6, .ref u56), (9, .ref u115), (10, .int y0_190)]) [1, 2, 3, 4, 5, 0] rfl (b209  w53)
          · have w54 := w52.2 c
            refine g_iconst hF (v := 1) d_X14_choice_205 (by decide) ?_
            refine g_goto hF 210 d_X14_choice_206 (by decide) ?_
            exact g_sub (L' := [(0, .ref (r 0)), (2, .ref u3), (3, .int (s3 0 10)), (6, .ref u56), (9, .ref u115), (10, .int y0_190)]) [1, 2, 3, 4, 5, 0] rfl (b210 (1 : Int32) (Or.inr rfl) w54)
      obtain ⟨J185, h185, w55⟩ := w30
      have b185 : J185  → G SM r X s129 t129 z129 [(0, .ref (r 0)), (2, .ref u3), (3, .int (s3 0 10)), (6, .ref u56), (9, .ref u115)] [] 185 := by
        intro   w185_
        have w185_ := h185   w185_
        refine g_iconst hF (v := 1) d_X14_choice_185 (by decide) ?_
        refine g_goto hF 190 d_X14_choice_186 (by decide) ?_
        exact b190 (1 : Int32) (Or.inr rfl) w185_
      obtain ⟨J153, h153, w56⟩ := w55
      have b153 : J153  → G SM r X s129 t129 z129 [(0, .ref (r 0)), (2, .ref u3), (3, .int (s3 0 10)), (6, .ref u56), (9, .ref u115)] [] 153 := by
        intro   w153_
        have w153_ := h153   w153_
        refine g_aload hF d_X14_choice_153 3 rfl ?_
        refine g_cap (fun hc56 => ?_)
        refine g_callS (As := [.ref u56]) (rest := []) hF (fun l D cy => (ct_isPointer a r hc56 w153_) l D cy) (Nat.add_le_add_right (Nat.le_trans (Nat.le_of_ble_eq_true rfl) hdK) 1) mS_X14_isPointer m_2461 rfl rfl (Nat.le_of_ble_eq_true rfl) d_X14_choice_155 (krZ (fun v155 hz155 w58 => ?_)) (fun _ _ _ h => h.elim)
        obtain ⟨J169, h169, w59⟩ := w58
        have b169 : J169  → G SM r X s129 t129 z129 [(0, .ref (r 0)), (2, .ref u3), (3, .int (s3 0 10)), (6, .ref u56), (9, .ref u115)] [] 169 := by
          intro   w169_
          have w169_ := h169   w169_
          refine g_aload hF d_X14_choice_169 4 rfl ?_
          refine g_callS (As := [.ref u115]) (rest := []) hF (fun l D cy => (ct_isPointer a r hc56 w169_) l D cy) (Nat.add_le_add_right (Nat.le_trans (Nat.le_of_ble_eq_true rfl) hdK) 1) mS_X14_isPointer m_2461 rfl rfl (Nat.le_of_ble_eq_true rfl) d_X14_choice_171 (krZ (fun v171 hz171 w60 => ?_)) (fun _ _ _ h => h.elim)
          obtain ⟨J189, h189, w61⟩ := w60
          have b189 : J189  → G SM r X s129 t129 z129 [(0, .ref (r 0)), (2, .ref u3), (3, .int (s3 0 10)), (6, .ref u56), (9, .ref u115)] [] 189 := by
            intro   w189_
            have w189_ := h189   w189_
            refine g_iconst hF (v := 0) d_X14_choice_189 (by decide) ?_
            exact b190 (0 : Int32) (Or.inl rfl) w189_
          refine g_if_eq hF 189 d_X14_choice_174 (by decide) rfl (fun c => ?_) (fun c => ?_)
          · have w62 := w61.1 c
            exact b189  w62
          · have w63 := w61.2 c
            refine g_aload hF d_X14_choice_177 3 rfl ?_
            refine g_vget hF 5 hm27 clsVC (by decide) m_2406 d_X14_choice_179 ?_
            refine g_top (v := (t129 u56 5)) rfl ?_
            refine g_if_eq hF 189 d_X14_choice_182 (by decide) rfl (fun c => ?_) (fun c => ?_)
            · have w64 := w63.1 c
              exact b189  w64
            · have w65 := w63.2 c
              exact b185  w65
        refine g_if_eq hF 169 d_X14_choice_158 (by decide) rfl (fun c => ?_) (fun c => ?_)
        · have w66 := w59.1 c
          exact b169  w66
        · have w67 := w59.2 c
          refine g_aload hF d_X14_choice_161 4 rfl ?_
          refine g_vget hF 5 hm28 clsVC (by decide) m_2406 d_X14_choice_163 ?_
          refine g_top (v := (t129 u115 5)) rfl ?_
          refine g_if_ne hF 185 d_X14_choice_166 (by decide) rfl (fun c => ?_) (fun c => ?_)
          · have w68 := w67.1 c
            exact b185  w68
          · have w69 := w67.2 c
            exact b169  w69
      refine g_icmp_ne hF 153 d_X14_choice_142 (by decide) rfl rfl (fun c => ?_) (fun c => ?_)
      · have w70 := w56.1 c
        exact g_sub (L' := [(0, .ref (r 0)), (2, .ref u3), (3, .int (s3 0 10)), (6, .ref u56), (9, .ref u115)]) [8, 7, 6, 3, 0] rfl (b153  w70)
      · have w71 := w56.2 c
        refine g_aload hF d_X14_choice_145 3 rfl ?_
        refine g_cap (fun hc71 => ?_)
        refine g_callS (As := [.ref u56]) (rest := []) hF (fun l D cy => (ct_isAny a r hc71 w71) l D cy) (Nat.add_le_add_right (Nat.le_trans (Nat.le_of_ble_eq_true rfl) hdK) 1) mS_X14_isAny m_2468 rfl rfl (Nat.le_of_ble_eq_true rfl) d_X14_choice_147 (krZ (fun v147 hz147 w73 => ?_)) (fun _ _ _ h => h.elim)
        refine g_if_ne hF 185 d_X14_choice_150 (by decide) rfl (fun c => ?_) (fun c => ?_)
        · have w74 := w73.1 c
          exact g_sub (L' := [(0, .ref (r 0)), (2, .ref u3), (3, .int (s3 0 10)), (6, .ref u56), (9, .ref u115)]) [8, 7, 6, 3, 0] rfl (b185  w74)
        · have w75 := w73.2 c
          exact g_sub (L' := [(0, .ref (r 0)), (2, .ref u3), (3, .int (s3 0 10)), (6, .ref u56), (9, .ref u115)]) [8, 7, 6, 3, 0] rfl (b153  w75)
    · have w76 := w19.2 c
      refine g_aload_n hF d_X14_choice_90 rfl 6 rfl ?_
      refine g_callV (As := []) (rest := []) hF (fun l D cy => (ct_wrong a r hc17 w76) l D cy) (Nat.add_le_add_right (Nat.le_trans (Nat.le_of_ble_eq_true rfl) hdK) 1) mV_X14_wrong m_2261 (recv_ob obM_0) rfl rfl (Nat.le_of_ble_eq_true rfl) d_X14_choice_91 (kX (fun s91 t91 z91 w77 => ?_)) (fun _ _ _ h => h.elim)
      exact g_athrow hF d_X14_choice_94 (g_out hF stopM rfl w77)
  · have w78 := w3.2 c
    refine g_aload_n hF d_X14_choice_16 rfl 0 rfl ?_
    exact g_aret hF rfl d_X14_choice_17 ⟨u3, rfl, w78⟩
def wp_pointed (a1 : Nat) (a2 : Int32) (σ τ : St) (vs : List Nat) (Q : Nat → St → St → List Nat → Prop) : Prop :=
  (a1 ∈ vs ∧ (∃ J28 : Int32 → Prop, (∀ (y0_28 : Int32), y0_28 = 0 ∨ y0_28 = 1 → J28 y0_28 → (wp_must y0_28 a2 σ τ vs (fun s32 t32 z32 => (∃ J51 : Int32 → Prop, (∀ (y1_51 : Int32), J51 y1_51 → (wp_made y1_51 a1 a1 a2 s32 t32 z32 (fun u54 s54 t54 z54 => (a1 ∈ z54 ∧ (∃ J86 : St → St → List Nat → Prop, (∀ (s86 t86 : St) (z86 : List Nat), J86 s86 t86 z86 → ((a1 ∈ z86 ∧ ((t86 a1 1).toInt = 2 → wp_put_1 (1 : Int32) (t86 a1 2) s86 t86 z86 (fun s103 t103 z103 => (u54 ∈ z103 ∧ ((t103 u54 3).toInt ≤ 60 → (a1 ∈ z103 ∧ wp_Vaddress u54 ((t103 a1 2) + (1 : Int32)) (0 : Int32) s103 t103 z103 (fun u130 s130 t130 z130 => Q u130 s130 t130 z130))) ∧ (60 < (t103 u54 3).toInt → Q u54 s103 t103 z103)))) ∧ ((t86 a1 1).toInt ≠ 2 → Q u54 s86 t86 z86)))) ∧ ((t54 a1 1).toInt ≠ 1 → J86 s54 t54 z54) ∧ ((t54 a1 1).toInt = 1 → ((0 ≤ (t54 a1 2).toInt ∧ (t54 a1 2).toInt < 100) ∧ wp_put_1 (4 : Int32) (t54 a1 2) (upC s54 33 (t54 a1 2).toNatClampNeg (vp_nar .boolean (1 : Int32))) t54 z54 (fun s83 t83 z83 => J86 s83 t83 z83)))))))) ∧ (y0_28.toInt = 0 → J51 ((-2) : Int32)) ∧ (y0_28.toInt ≠ 0 → (a1 ∈ z32 ∧ J51 ((t32 a1 0) + (1 : Int32)))))))) ∧ (∃ J27 : Prop, (J27  → (J28 (0 : Int32))) ∧ ((τ a1 1).toInt = 0 → J27) ∧ ((τ a1 1).toInt ≠ 0 → ((τ a1 0).toInt < 0 → J27) ∧ (0 ≤ (τ a1 0).toInt → (9 ≤ (τ a1 0).toInt → J27) ∧ ((τ a1 0).toInt < 9 → J28 (1 : Int32)))))))
set_option maxHeartbeats 4000000 in
set_option maxRecDepth 100000 in
theorem ct_pointed (a : Nat → Nat) (r : Nat → Nat) {a1 : Nat} {a2 : Int32} {σ τ : St} {vs : List Nat} {Q : Nat → St → St → List Nat → Prop} (hcap : vs.length ≤ CAP) (w : wp_pointed a1 a2 σ τ vs Q) (l : Launch) (D : va_G) (cy : Nat → ClassId) : Ct l D cy SM r (EM a) y_X14_pointed (Cond.code y_X14_pointed b_X14_pointed 5 (some (.object "LinkedUnitsModel$Value"))) 3 [.ref (r 0), .ref a1, .int a2] σ τ vs (QAs Q) QT0 := by
  unfold wp_pointed at w
  refine Ct_of (EM_ok a) (by decide) (Nat.le_of_ble_eq_true rfl) hcap (fun X hnn hF => ?_)
  show G SM r X σ τ vs [(0, .ref (r 0)), (1, .ref a1), (2, .int a2)] [] 0
  refine g_aload_n hF d_X14_pointed_0 rfl 1 rfl ?_
  obtain ⟨hm0, w1⟩ := w
  refine g_vget hF 1 hm0 clsVC (by decide) m_2401 d_X14_pointed_1 ?_
  refine g_top (v := (τ a1 1)) rfl ?_
  obtain ⟨J28, h28, w2⟩ := w1
  have b28 : ∀ (y0_28 : Int32), y0_28 = 0 ∨ y0_28 = 1 → J28 y0_28 → G SM r X σ τ vs [(0, .ref (r 0)), (1, .ref a1), (2, .int a2)] [.int y0_28] 28 := by
    intro y0_28 hy0_28 w28_
    have w28_ := h28 y0_28 hy0_28 w28_
    refine g_istore_n hF [(3, .int y0_28), (0, .ref (r 0)), (1, .ref a1), (2, .int a2)] d_X14_pointed_28 rfl hnn (by decide) rfl ?_
    refine g_aload_n hF d_X14_pointed_29 rfl 1 rfl ?_
    refine g_iload_n hF d_X14_pointed_30 rfl 0 rfl ?_
    refine g_iload_n hF d_X14_pointed_31 rfl 3 rfl ?_
    refine g_callV (As := [.int y0_28, .int a2]) (rest := []) hF (fun l D cy => (ct_must a r hcap w28_) l D cy) (Nat.le_of_ble_eq_true rfl) mV_X14_must m_2313 (recv_ob obM_0) rfl rfl (Nat.le_of_ble_eq_true rfl) d_X14_pointed_32 (kV (fun s32 t32 z32 w3 => ?_)) (fun _ _ _ h => h.elim)
    refine g_aload_n hF d_X14_pointed_35 rfl 1 rfl ?_
    refine g_iload_n hF d_X14_pointed_36 rfl 0 rfl ?_
    obtain ⟨J51, h51, w4⟩ := w3
    have b51 : ∀ (y1_51 : Int32), J51 y1_51 → G SM r X s32 t32 z32 [(0, .ref (r 0)), (1, .ref a1), (2, .int a2)] [.int y1_51, .ref (r 0)] 51 := by
      intro y1_51  w51_
      have w51_ := h51 y1_51  w51_
      refine g_aload_n hF d_X14_pointed_51 rfl 1 rfl ?_
      refine g_aload_n hF d_X14_pointed_52 rfl 1 rfl ?_
      refine g_iload_n hF d_X14_pointed_53 rfl 2 rfl ?_
      refine g_cap (fun hc4 => ?_)
      refine g_callV (As := [.int y1_51, .ref a1, .ref a1, .int a2]) (rest := []) hF (fun l D cy => (ct_made a r hc4 w51_) l D cy) (Nat.le_of_ble_eq_true rfl) mV_X14_made m_2389 (recv_ob obM_0) rfl rfl (Nat.le_of_ble_eq_true rfl) d_X14_pointed_54 (kA (fun u54 s54 t54 z54 w6 => ?_)) (fun _ _ _ h => h.elim)
      refine g_astore hF [(4, .ref u54), (0, .ref (r 0)), (1, .ref a1), (2, .int a2)] d_X14_pointed_57 hnn (by decide) rfl ?_
      refine g_aload_n hF d_X14_pointed_59 rfl 2 rfl ?_
      obtain ⟨hm6, w7⟩ := w6
      refine g_vget hF 1 hm6 clsVC (by decide) m_2401 d_X14_pointed_60 ?_
      refine g_top (v := (t54 a1 1)) rfl ?_
      refine g_iconst hF (v := 1) d_X14_pointed_63 (by decide) ?_
      obtain ⟨J86, h86, w8⟩ := w7
      have b86 : ∀ (s86 t86 : St) (z86 : List Nat), J86 s86 t86 z86 → G SM r X s86 t86 z86 [(0, .ref (r 0)), (1, .ref a1), (4, .ref u54)] [] 86 := by
        intro s86 t86 z86  w86_
        have w86_ := h86 s86 t86 z86  w86_
        refine g_aload_n hF d_X14_pointed_86 rfl 1 rfl ?_
        obtain ⟨hm8, w9⟩ := w86_
        refine g_vget hF 1 hm8 clsVC (by decide) m_2401 d_X14_pointed_87 ?_
        refine g_top (v := (t86 a1 1)) rfl ?_
        refine g_iconst hF (v := 2) d_X14_pointed_90 (by decide) ?_
        refine g_icmp_eq (yv := 2) hF 97 d_X14_pointed_91 (by decide) rfl (by decide) (fun c => ?_) (fun c => ?_)
        · have w10 := w9.1 c
          refine g_aload_n hF d_X14_pointed_97 rfl 0 rfl ?_
          refine g_iconst hF (v := 1) d_X14_pointed_98 (by decide) ?_
          refine g_aload_n hF d_X14_pointed_99 rfl 1 rfl ?_
          refine g_vget hF 2 hm8 clsVC (by decide) m_2402 d_X14_pointed_100 ?_
          refine g_top (v := (t86 a1 2)) rfl ?_
          refine g_cap (fun hc10 => ?_)
          refine g_callV (As := [.int 1, .int (t86 a1 2)]) (rest := []) hF (fun l D cy => (ct_put_1 a r hc10 w10) l D cy) (Nat.le_of_ble_eq_true rfl) mV_X14_put_1 m_2433 (recv_ob obM_0) rfl rfl (Nat.le_of_ble_eq_true rfl) d_X14_pointed_103 (kV (fun s103 t103 z103 w12 => ?_)) (fun _ _ _ h => h.elim)
          refine g_aload hF d_X14_pointed_106 2 rfl ?_
          obtain ⟨hm12, w13⟩ := w12
          refine g_vget hF 3 hm12 clsVC (by decide) m_2404 d_X14_pointed_108 ?_
          refine g_top (v := (t103 u54 3)) rfl ?_
          refine g_bipush hF (v := 60) d_X14_pointed_111 (by decide) ?_
          refine g_icmp_le (yv := 60) hF 121 d_X14_pointed_113 (by decide) rfl (by decide) (fun c => ?_) (fun c => ?_)
          · have w14 := w13.1 c
            refine g_aload hF d_X14_pointed_121 2 rfl ?_
            refine g_aload_n hF d_X14_pointed_123 rfl 1 rfl ?_
            obtain ⟨hm14, w15⟩ := w14
            refine g_vget hF 2 hm14 clsVC (by decide) m_2402 d_X14_pointed_124 ?_
            refine g_top (v := (t103 a1 2)) rfl ?_
            refine g_iconst hF (v := 1) d_X14_pointed_127 (by decide) ?_
            refine g_iadd hF d_X14_pointed_128 ?_
            refine g_iconst hF (v := 0) d_X14_pointed_129 (by decide) ?_
            refine g_cap (fun hc15 => ?_)
            refine g_callV (As := [.int ((t103 a1 2) + (1 : Int32)), .int 0]) (rest := []) hF (fun l D cy => (ct_Vaddress a r hc15 w15) l D cy) (Nat.le_of_ble_eq_true rfl) mV_X13_address m_2441 (recv_v hm12 clsVC) rfl rfl (Nat.le_of_ble_eq_true rfl) d_X14_pointed_130 (kA (fun u130 s130 t130 z130 w17 => ?_)) (fun _ _ _ h => h.elim)
            exact g_aret hF rfl d_X14_pointed_133 ⟨u130, rfl, w17⟩
          · have w18 := w13.2 c
            refine g_aload hF d_X14_pointed_116 2 rfl ?_
            refine g_goto hF 133 d_X14_pointed_118 (by decide) ?_
            exact g_aret hF rfl d_X14_pointed_133 ⟨u54, rfl, w18⟩
        · have w19 := w9.2 c
          refine g_aload hF d_X14_pointed_94 2 rfl ?_
          exact g_aret hF rfl d_X14_pointed_96 ⟨u54, rfl, w19⟩
      refine g_icmp_ne (yv := 1) hF 86 d_X14_pointed_64 (by decide) rfl (by decide) (fun c => ?_) (fun c => ?_)
      · have w20 := w8.1 c
        exact g_sub (L' := [(0, .ref (r 0)), (1, .ref a1), (4, .ref u54)]) [1, 2, 0] rfl (b86 s54 t54 z54 w20)
      · have w21 := w8.2 c
        refine g_aload_n hF d_X14_pointed_67 rfl 1 rfl ?_
        refine g_get (v := .ref (r 33)) hF 48 obM_0 (by decide) m_1913 rfl d_X14_pointed_68 ?_
        refine g_aload_n hF d_X14_pointed_71 rfl 2 rfl ?_
        refine g_vget hF 2 hm6 clsVC (by decide) m_2402 d_X14_pointed_72 ?_
        refine g_top (v := (t54 a1 2)) rfl ?_
        refine g_iconst hF (v := 1) d_X14_pointed_75 (by decide) ?_
        have w22 := w21.2
        refine g_zast hF arM_33 (s_in (Nat.le_of_ble_eq_true rfl) w21.1.1 w21.1.2) d_X14_pointed_76 ?_
        refine g_aload_n hF d_X14_pointed_77 rfl 1 rfl ?_
        refine g_iconst hF (v := 4) d_X14_pointed_78 (by decide) ?_
        refine g_aload_n hF d_X14_pointed_79 rfl 2 rfl ?_
        refine g_vget hF 2 hm6 clsVC (by decide) m_2402 d_X14_pointed_80 ?_
        refine g_top (v := (t54 a1 2)) rfl ?_
        refine g_cap (fun hc22 => ?_)
        refine g_callV (As := [.int 4, .int (t54 a1 2)]) (rest := []) hF (fun l D cy => (ct_put_1 a r hc22 w22) l D cy) (Nat.le_of_ble_eq_true rfl) mV_X14_put_1 m_2433 (recv_ob obM_0) rfl rfl (Nat.le_of_ble_eq_true rfl) d_X14_pointed_83 (kV (fun s83 t83 z83 w24 => ?_)) (fun _ _ _ h => h.elim)
        exact g_sub (L' := [(0, .ref (r 0)), (1, .ref a1), (4, .ref u54)]) [1, 2, 0] rfl (b86 s83 t83 z83 w24)
    refine g_if_eq hF 49 d_X14_pointed_37 (by decide) rfl (fun c => ?_) (fun c => ?_)
    · have w25 := w4.1 c
      refine g_bipush hF (v := (-2)) d_X14_pointed_49 (by decide) ?_
      exact g_sub (L' := [(0, .ref (r 0)), (1, .ref a1), (2, .int a2)]) [1, 2, 3] rfl (b51 ((-2) : Int32) w25)
    · have w26 := w4.2 c
      refine g_aload_n hF d_X14_pointed_40 rfl 2 rfl ?_
      obtain ⟨hm26, w27⟩ := w26
      refine g_vget hF 0 hm26 clsVC (by decide) m_2400 d_X14_pointed_41 ?_
      refine g_top (v := (t32 a1 0)) rfl ?_
      refine g_iconst hF (v := 1) d_X14_pointed_44 (by decide) ?_
      refine g_iadd hF d_X14_pointed_45 ?_
      refine g_goto hF 51 d_X14_pointed_46 (by decide) ?_
      exact g_sub (L' := [(0, .ref (r 0)), (1, .ref a1), (2, .int a2)]) [1, 2, 3] rfl (b51 ((t32 a1 0) + (1 : Int32)) w27)
  obtain ⟨J27, h27, w28⟩ := w2
  have b27 : J27  → G SM r X σ τ vs [(0, .ref (r 0)), (1, .ref a1), (2, .int a2)] [] 27 := by
    intro   w27_
    have w27_ := h27   w27_
    refine g_iconst hF (v := 0) d_X14_pointed_27 (by decide) ?_
    exact b28 (0 : Int32) (Or.inl rfl) w27_
  refine g_if_eq hF 27 d_X14_pointed_4 (by decide) rfl (fun c => ?_) (fun c => ?_)
  · have w29 := w28.1 c
    exact b27  w29
  · have w30 := w28.2 c
    refine g_aload_n hF d_X14_pointed_7 rfl 1 rfl ?_
    refine g_vget hF 0 hm0 clsVC (by decide) m_2400 d_X14_pointed_8 ?_
    refine g_top (v := (τ a1 0)) rfl ?_
    refine g_if_lt hF 27 d_X14_pointed_11 (by decide) rfl (fun c => ?_) (fun c => ?_)
    · have w31 := w30.1 c
      exact b27  w31
    · have w32 := w30.2 c
      refine g_aload_n hF d_X14_pointed_14 rfl 1 rfl ?_
      refine g_vget hF 0 hm0 clsVC (by decide) m_2400 d_X14_pointed_15 ?_
      refine g_top (v := (τ a1 0)) rfl ?_
      refine g_bipush hF (v := 9) d_X14_pointed_18 (by decide) ?_
      refine g_icmp_ge (yv := 9) hF 27 d_X14_pointed_20 (by decide) rfl (by decide) (fun c => ?_) (fun c => ?_)
      · have w33 := w32.1 c
        exact b27  w33
      · have w34 := w32.2 c
        refine g_iconst hF (v := 1) d_X14_pointed_23 (by decide) ?_
        refine g_goto hF 28 d_X14_pointed_24 (by decide) ?_
        exact b28 (1 : Int32) (Or.inr rfl) w34
def wp_stepped (a1 : Nat) (a2 : Int32) (a3 : Int32) (a4 : Int32) (σ τ : St) (vs : List Nat) (Q : Nat → St → St → List Nat → Prop) : Prop :=
  (a1 ∈ vs ∧ (∃ J19 : Int32 → Prop, (∀ (y0_19 : Int32), y0_19 = 0 ∨ y0_19 = 1 → J19 y0_19 → (wp_must y0_19 a4 σ τ vs (fun s26 t26 z26 => (∃ J44 : Int32 → Prop, (∀ (y1_44 : Int32), J44 y1_44 → (wp_made y1_44 a1 a1 a4 s26 t26 z26 (fun u48 s48 t48 z48 => (∃ J64 : Int32 → Prop, (∀ (y0_64 : Int32), J64 y0_64 → ((a1 ∈ z48 ∧ (∃ J83 : St → St → List Nat → Prop, (∀ (s83 t83 : St) (z83 : List Nat), J83 s83 t83 z83 → ((a1 ∈ z83 ∧ (∃ J121 : St → St → List Nat → Prop, (∀ (s121 t121 : St) (z121 : List Nat), J121 s121 t121 z121 → (wp_put_0 a3 s121 t121 z121 (fun s123 t123 z123 => Q u48 s123 t123 z123))) ∧ ((t83 a1 1).toInt ≠ 1 → ((0 ≤ a4.toInt ∧ a4.toInt < 16002) ∧ wp_put_2 (22 : Int32) (s83 5 a4.toNatClampNeg) y0_64 s83 t83 z83 (fun s118 t118 z118 => J121 s118 t118 z118))) ∧ ((t83 a1 1).toInt = 1 → wp_put_2 (23 : Int32) (t83 a1 2) y0_64 s83 t83 z83 (fun s100 t100 z100 => J121 s100 t100 z100)))))) ∧ ((t48 a1 1).toInt ≠ 2 → J83 s48 t48 z48) ∧ ((t48 a1 1).toInt = 2 → wp_put_1 (1 : Int32) (t48 a1 2) s48 t48 z48 (fun s80 t80 z80 => J83 s80 t80 z80)))))) ∧ (a2.toInt ≠ 18 → J64 ((-1) : Int32)) ∧ (a2.toInt = 18 → J64 (1 : Int32)))))) ∧ (y0_19.toInt = 0 → J44 ((-2) : Int32)) ∧ (y0_19.toInt ≠ 0 → (a1 ∈ z26 ∧ J44 (t26 a1 0))))))) ∧ (∃ J18 : Prop, (J18  → (J19 (0 : Int32))) ∧ ((τ a1 1).toInt = 0 → J18) ∧ ((τ a1 1).toInt ≠ 0 → ((τ a1 0).toInt < 0 → J18) ∧ (0 ≤ (τ a1 0).toInt → J19 (1 : Int32))))))
set_option maxHeartbeats 4000000 in
set_option maxRecDepth 100000 in
theorem ct_stepped (a : Nat → Nat) (r : Nat → Nat) {a1 : Nat} {a2 : Int32} {a3 : Int32} {a4 : Int32} {σ τ : St} {vs : List Nat} {Q : Nat → St → St → List Nat → Prop} (hcap : vs.length ≤ CAP) (w : wp_stepped a1 a2 a3 a4 σ τ vs Q) (l : Launch) (D : va_G) (cy : Nat → ClassId) : Ct l D cy SM r (EM a) y_X14_stepped (Cond.code y_X14_stepped b_X14_stepped 8 (some (.object "LinkedUnitsModel$Value"))) 3 [.ref (r 0), .ref a1, .int a2, .int a3, .int a4] σ τ vs (QAs Q) QT0 := by
  unfold wp_stepped at w
  refine Ct_of (EM_ok a) (by decide) (Nat.le_of_ble_eq_true rfl) hcap (fun X hnn hF => ?_)
  show G SM r X σ τ vs [(0, .ref (r 0)), (1, .ref a1), (2, .int a2), (3, .int a3), (4, .int a4)] [] 0
  refine g_aload_n hF d_X14_stepped_0 rfl 1 rfl ?_
  obtain ⟨hm0, w1⟩ := w
  refine g_vget hF 1 hm0 clsVC (by decide) m_2401 d_X14_stepped_1 ?_
  refine g_top (v := (τ a1 1)) rfl ?_
  obtain ⟨J19, h19, w2⟩ := w1
  have b19 : ∀ (y0_19 : Int32), y0_19 = 0 ∨ y0_19 = 1 → J19 y0_19 → G SM r X σ τ vs [(0, .ref (r 0)), (1, .ref a1), (2, .int a2), (3, .int a3), (4, .int a4)] [.int y0_19] 19 := by
    intro y0_19 hy0_19 w19_
    have w19_ := h19 y0_19 hy0_19 w19_
    refine g_istore hF [(5, .int y0_19), (0, .ref (r 0)), (1, .ref a1), (2, .int a2), (3, .int a3), (4, .int a4)] d_X14_stepped_19 hnn (by decide) rfl ?_
    refine g_aload_n hF d_X14_stepped_21 rfl 1 rfl ?_
    refine g_iload hF d_X14_stepped_22 0 rfl ?_
    refine g_iload hF d_X14_stepped_24 5 rfl ?_
    refine g_callV (As := [.int y0_19, .int a4]) (rest := []) hF (fun l D cy => (ct_must a r hcap w19_) l D cy) (Nat.le_of_ble_eq_true rfl) mV_X14_must m_2313 (recv_ob obM_0) rfl rfl (Nat.le_of_ble_eq_true rfl) d_X14_stepped_26 (kV (fun s26 t26 z26 w3 => ?_)) (fun _ _ _ h => h.elim)
    refine g_aload_n hF d_X14_stepped_29 rfl 1 rfl ?_
    refine g_iload hF d_X14_stepped_30 0 rfl ?_
    obtain ⟨J44, h44, w4⟩ := w3
    have b44 : ∀ (y1_44 : Int32), J44 y1_44 → G SM r X s26 t26 z26 [(0, .ref (r 0)), (1, .ref a1), (2, .int a2), (3, .int a3), (4, .int a4)] [.int y1_44, .ref (r 0)] 44 := by
      intro y1_44  w44_
      have w44_ := h44 y1_44  w44_
      refine g_aload_n hF d_X14_stepped_44 rfl 1 rfl ?_
      refine g_aload_n hF d_X14_stepped_45 rfl 1 rfl ?_
      refine g_iload hF d_X14_stepped_46 4 rfl ?_
      refine g_cap (fun hc4 => ?_)
      refine g_callV (As := [.int y1_44, .ref a1, .ref a1, .int a4]) (rest := []) hF (fun l D cy => (ct_made a r hc4 w44_) l D cy) (Nat.le_of_ble_eq_true rfl) mV_X14_made m_2389 (recv_ob obM_0) rfl rfl (Nat.le_of_ble_eq_true rfl) d_X14_stepped_48 (kA (fun u48 s48 t48 z48 w6 => ?_)) (fun _ _ _ h => h.elim)
      refine g_astore hF [(6, .ref u48), (0, .ref (r 0)), (1, .ref a1), (2, .int a2), (3, .int a3), (4, .int a4)] d_X14_stepped_51 hnn (by decide) rfl ?_
      refine g_iload_n hF d_X14_stepped_53 rfl 3 rfl ?_
      refine g_bipush hF (v := 18) d_X14_stepped_54 (by decide) ?_
      obtain ⟨J64, h64, w7⟩ := w6
      have b64 : ∀ (y0_64 : Int32), J64 y0_64 → G SM r X s48 t48 z48 [(0, .ref (r 0)), (1, .ref a1), (3, .int a3), (4, .int a4), (6, .ref u48)] [.int y0_64] 64 := by
        intro y0_64  w64_
        have w64_ := h64 y0_64  w64_
        refine g_istore hF [(7, .int y0_64), (0, .ref (r 0)), (1, .ref a1), (3, .int a3), (4, .int a4), (6, .ref u48)] d_X14_stepped_64 hnn (by decide) rfl ?_
        refine g_aload_n hF d_X14_stepped_66 rfl 2 rfl ?_
        obtain ⟨hm7, w8⟩ := w64_
        refine g_vget hF 1 hm7 clsVC (by decide) m_2401 d_X14_stepped_67 ?_
        refine g_top (v := (t48 a1 1)) rfl ?_
        refine g_iconst hF (v := 2) d_X14_stepped_70 (by decide) ?_
        obtain ⟨J83, h83, w9⟩ := w8
        have b83 : ∀ (s83 t83 : St) (z83 : List Nat), J83 s83 t83 z83 → G SM r X s83 t83 z83 [(0, .ref (r 0)), (1, .ref a1), (3, .int a3), (4, .int a4), (6, .ref u48), (7, .int y0_64)] [] 83 := by
          intro s83 t83 z83  w83_
          have w83_ := h83 s83 t83 z83  w83_
          refine g_aload_n hF d_X14_stepped_83 rfl 1 rfl ?_
          obtain ⟨hm9, w10⟩ := w83_
          refine g_vget hF 1 hm9 clsVC (by decide) m_2401 d_X14_stepped_84 ?_
          refine g_top (v := (t83 a1 1)) rfl ?_
          refine g_iconst hF (v := 1) d_X14_stepped_87 (by decide) ?_
          obtain ⟨J121, h121, w11⟩ := w10
          have b121 : ∀ (s121 t121 : St) (z121 : List Nat), J121 s121 t121 z121 → G SM r X s121 t121 z121 [(0, .ref (r 0)), (3, .int a3), (6, .ref u48)] [] 121 := by
            intro s121 t121 z121  w121_
            have w121_ := h121 s121 t121 z121  w121_
            refine g_aload_n hF d_X14_stepped_121 rfl 0 rfl ?_
            refine g_iload_n hF d_X14_stepped_122 rfl 1 rfl ?_
            refine g_cap (fun hc11 => ?_)
            refine g_callV (As := [.int a3]) (rest := []) hF (fun l D cy => (ct_put_0 a r hc11 w121_) l D cy) (Nat.le_of_ble_eq_true rfl) mV_X14_put_0 m_2437 (recv_ob obM_0) rfl rfl (Nat.le_of_ble_eq_true rfl) d_X14_stepped_123 (kV (fun s123 t123 z123 w13 => ?_)) (fun _ _ _ h => h.elim)
            refine g_aload hF d_X14_stepped_126 2 rfl ?_
            exact g_aret hF rfl d_X14_stepped_128 ⟨u48, rfl, w13⟩
          refine g_icmp_ne (yv := 1) hF 106 d_X14_stepped_88 (by decide) rfl (by decide) (fun c => ?_) (fun c => ?_)
          · have w14 := w11.1 c
            refine g_aload_n hF d_X14_stepped_106 rfl 0 rfl ?_
            refine g_bipush hF (v := 22) d_X14_stepped_107 (by decide) ?_
            refine g_aload_n hF d_X14_stepped_109 rfl 0 rfl ?_
            refine g_get (v := .ref (r 5)) hF 6 obM_0 (by decide) m_1871 rfl d_X14_stepped_110 ?_
            refine g_iload hF d_X14_stepped_113 3 rfl ?_
            have w15 := w14.2
            refine g_iald hF arM_5 (s_in (Nat.le_of_ble_eq_true rfl) w14.1.1 w14.1.2) d_X14_stepped_115 ?_
            refine g_top (v := (s83 5 a4.toNatClampNeg)) rfl ?_
            refine g_iload hF d_X14_stepped_116 5 rfl ?_
            refine g_cap (fun hc15 => ?_)
            refine g_callV (As := [.int 22, .int (s83 5 a4.toNatClampNeg), .int y0_64]) (rest := []) hF (fun l D cy => (ct_put_2 a r hc15 w15) l D cy) (Nat.le_of_ble_eq_true rfl) mV_X14_put_2 m_2449 (recv_ob obM_0) rfl rfl (Nat.le_of_ble_eq_true rfl) d_X14_stepped_118 (kV (fun s118 t118 z118 w17 => ?_)) (fun _ _ _ h => h.elim)
            exact g_sub (L' := [(0, .ref (r 0)), (3, .int a3), (6, .ref u48)]) [0, 2, 4] rfl (b121 s118 t118 z118 w17)
          · have w18 := w11.2 c
            refine g_aload_n hF d_X14_stepped_91 rfl 0 rfl ?_
            refine g_bipush hF (v := 23) d_X14_stepped_92 (by decide) ?_
            refine g_aload_n hF d_X14_stepped_94 rfl 1 rfl ?_
            refine g_vget hF 2 hm9 clsVC (by decide) m_2402 d_X14_stepped_95 ?_
            refine g_top (v := (t83 a1 2)) rfl ?_
            refine g_iload hF d_X14_stepped_98 5 rfl ?_
            refine g_cap (fun hc18 => ?_)
            refine g_callV (As := [.int 23, .int (t83 a1 2), .int y0_64]) (rest := []) hF (fun l D cy => (ct_put_2 a r hc18 w18) l D cy) (Nat.le_of_ble_eq_true rfl) mV_X14_put_2 m_2449 (recv_ob obM_0) rfl rfl (Nat.le_of_ble_eq_true rfl) d_X14_stepped_100 (kV (fun s100 t100 z100 w20 => ?_)) (fun _ _ _ h => h.elim)
            refine g_goto hF 121 d_X14_stepped_103 (by decide) ?_
            exact g_sub (L' := [(0, .ref (r 0)), (3, .int a3), (6, .ref u48)]) [0, 2, 4] rfl (b121 s100 t100 z100 w20)
        refine g_icmp_ne (yv := 2) hF 83 d_X14_stepped_71 (by decide) rfl (by decide) (fun c => ?_) (fun c => ?_)
        · have w21 := w9.1 c
          exact g_sub (L' := [(0, .ref (r 0)), (1, .ref a1), (3, .int a3), (4, .int a4), (6, .ref u48), (7, .int y0_64)]) [1, 2, 3, 4, 5, 0] rfl (b83 s48 t48 z48 w21)
        · have w22 := w9.2 c
          refine g_aload_n hF d_X14_stepped_74 rfl 1 rfl ?_
          refine g_iconst hF (v := 1) d_X14_stepped_75 (by decide) ?_
          refine g_aload_n hF d_X14_stepped_76 rfl 2 rfl ?_
          refine g_vget hF 2 hm7 clsVC (by decide) m_2402 d_X14_stepped_77 ?_
          refine g_top (v := (t48 a1 2)) rfl ?_
          refine g_cap (fun hc22 => ?_)
          refine g_callV (As := [.int 1, .int (t48 a1 2)]) (rest := []) hF (fun l D cy => (ct_put_1 a r hc22 w22) l D cy) (Nat.le_of_ble_eq_true rfl) mV_X14_put_1 m_2433 (recv_ob obM_0) rfl rfl (Nat.le_of_ble_eq_true rfl) d_X14_stepped_80 (kV (fun s80 t80 z80 w24 => ?_)) (fun _ _ _ h => h.elim)
          exact g_sub (L' := [(0, .ref (r 0)), (1, .ref a1), (3, .int a3), (4, .int a4), (6, .ref u48), (7, .int y0_64)]) [1, 2, 3, 4, 5, 0] rfl (b83 s80 t80 z80 w24)
      refine g_icmp_ne (yv := 18) hF 63 d_X14_stepped_56 (by decide) rfl (by decide) (fun c => ?_) (fun c => ?_)
      · have w25 := w7.1 c
        refine g_iconst hF (v := (-1)) d_X14_stepped_63 (by decide) ?_
        exact g_sub (L' := [(0, .ref (r 0)), (1, .ref a1), (3, .int a3), (4, .int a4), (6, .ref u48)]) [1, 2, 4, 5, 0] rfl (b64 ((-1) : Int32) w25)
      · have w26 := w7.2 c
        refine g_iconst hF (v := 1) d_X14_stepped_59 (by decide) ?_
        refine g_goto hF 64 d_X14_stepped_60 (by decide) ?_
        exact g_sub (L' := [(0, .ref (r 0)), (1, .ref a1), (3, .int a3), (4, .int a4), (6, .ref u48)]) [1, 2, 4, 5, 0] rfl (b64 (1 : Int32) w26)
    refine g_if_eq hF 42 d_X14_stepped_32 (by decide) rfl (fun c => ?_) (fun c => ?_)
    · have w27 := w4.1 c
      refine g_bipush hF (v := (-2)) d_X14_stepped_42 (by decide) ?_
      exact g_sub (L' := [(0, .ref (r 0)), (1, .ref a1), (2, .int a2), (3, .int a3), (4, .int a4)]) [1, 2, 3, 4, 5] rfl (b44 ((-2) : Int32) w27)
    · have w28 := w4.2 c
      refine g_aload_n hF d_X14_stepped_35 rfl 2 rfl ?_
      obtain ⟨hm28, w29⟩ := w28
      refine g_vget hF 0 hm28 clsVC (by decide) m_2400 d_X14_stepped_36 ?_
      refine g_top (v := (t26 a1 0)) rfl ?_
      refine g_goto hF 44 d_X14_stepped_39 (by decide) ?_
      exact g_sub (L' := [(0, .ref (r 0)), (1, .ref a1), (2, .int a2), (3, .int a3), (4, .int a4)]) [1, 2, 3, 4, 5] rfl (b44 (t26 a1 0) w29)
  obtain ⟨J18, h18, w30⟩ := w2
  have b18 : J18  → G SM r X σ τ vs [(0, .ref (r 0)), (1, .ref a1), (2, .int a2), (3, .int a3), (4, .int a4)] [] 18 := by
    intro   w18_
    have w18_ := h18   w18_
    refine g_iconst hF (v := 0) d_X14_stepped_18 (by decide) ?_
    exact b19 (0 : Int32) (Or.inl rfl) w18_
  refine g_if_eq hF 18 d_X14_stepped_4 (by decide) rfl (fun c => ?_) (fun c => ?_)
  · have w31 := w30.1 c
    exact b18  w31
  · have w32 := w30.2 c
    refine g_aload_n hF d_X14_stepped_7 rfl 1 rfl ?_
    refine g_vget hF 0 hm0 clsVC (by decide) m_2400 d_X14_stepped_8 ?_
    refine g_top (v := (τ a1 0)) rfl ?_
    refine g_if_lt hF 18 d_X14_stepped_11 (by decide) rfl (fun c => ?_) (fun c => ?_)
    · have w33 := w32.1 c
      exact b18  w33
    · have w34 := w32.2 c
      refine g_iconst hF (v := 1) d_X14_stepped_14 (by decide) ?_
      refine g_goto hF 19 d_X14_stepped_15 (by decide) ?_
      exact b19 (1 : Int32) (Or.inr rfl) w34
