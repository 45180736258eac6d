def wp_statement (Kstatement : Int32 → St → St → List Nat → (St → St → List Nat → Prop) → (St → St → List Nat → Prop) → Prop) (Kinner : Int32 → St → St → List Nat → (St → St → List Nat → Prop) → (St → St → List Nat → Prop) → Prop) (Kblock : Int32 → St → St → List Nat → (St → St → List Nat → Prop) → (St → St → List Nat → Prop) → Prop) (Kloop : Int32 → Int32 → Int32 → St → St → List Nat → (St → St → List Nat → Prop) → (St → St → List Nat → Prop) → Prop) (KdoStatement : Int32 → Int32 → St → St → List Nat → (St → St → List Nat → Prop) → (St → St → List Nat → Prop) → Prop) (KforStatement : Int32 → Int32 → St → St → List Nat → (St → St → List Nat → Prop) → (St → St → List Nat → Prop) → Prop) (a1 : Int32) (σ τ : St) (vs : List Nat) (Q : St → St → List Nat → Prop) (T : St → St → List Nat → Prop) : Prop :=
  (a1.toInt ≤ 25 → ((0 ≤ (σ 0 10).toInt ∧ (σ 0 10).toInt < 16002) ∧ ((σ 2 (σ 0 10).toNatClampNeg).toInt = 5 → wp_variables (0 : Int32) (0 : Int32) (1 : Int32) (upC σ 0 10 ((σ 0 10) + (1 : Int32))) τ vs (fun s102 t102 z102 => Q s102 t102 z102) T) ∧ (¬ (σ 2 (σ 0 10).toNatClampNeg).toInt = 5 → ((σ 2 (σ 0 10).toNatClampNeg).toInt = 6 → wp_is (22 : Int32) σ τ vs (fun v397 => (v397.toInt = 0 → wp_is (27 : Int32) σ τ vs (fun v414 => (∃ J424 : St → St → List Nat → Prop, (∀ (s424 t424 : St) (z424 : List Nat), J424 s424 t424 z424 → (wp_expect (27 : Int32) s424 t424 z424 (fun s427 t427 z427 => Q s427 t427 z427) T)) ∧ (v414.toInt ≠ 0 → J424 σ τ vs) ∧ (v414.toInt = 0 → wp_plain σ τ vs (fun s421 t421 z421 => J424 s421 t421 z421) T)))) ∧ (v397.toInt ≠ 0 → Kblock a1 σ τ vs (fun s405 t405 z405 => Q s405 t405 z405) T))) ∧ (¬ (σ 2 (σ 0 10).toNatClampNeg).toInt = 6 → ((σ 2 (σ 0 10).toNatClampNeg).toInt = 7 → wp_is (22 : Int32) σ τ vs (fun v397 => (v397.toInt = 0 → wp_is (27 : Int32) σ τ vs (fun v414 => (v414.toInt ≠ 0 → J424 σ τ vs) ∧ (v414.toInt = 0 → wp_plain σ τ vs (fun s421 t421 z421 => J424 s421 t421 z421) T))) ∧ (v397.toInt ≠ 0 → Kblock a1 σ τ vs (fun s405 t405 z405 => Q s405 t405 z405) T))) ∧ (¬ (σ 2 (σ 0 10).toNatClampNeg).toInt = 7 → ((σ 2 (σ 0 10).toNatClampNeg).toInt = 8 → wp_is (22 : Int32) σ τ vs (fun v397 => (v397.toInt = 0 → wp_is (27 : Int32) σ τ vs (fun v414 => (v414.toInt ≠ 0 → J424 σ τ vs) ∧ (v414.toInt = 0 → wp_plain σ τ vs (fun s421 t421 z421 => J424 s421 t421 z421) T))) ∧ (v397.toInt ≠ 0 → Kblock a1 σ τ vs (fun s405 t405 z405 => Q s405 t405 z405) T))) ∧ (¬ (σ 2 (σ 0 10).toNatClampNeg).toInt = 8 → ((σ 2 (σ 0 10).toNatClampNeg).toInt = 9 → wp_condition (σ 0 10) (upC σ 0 10 ((σ 0 10) + (1 : Int32))) τ vs (fun s120 t120 z120 => wp_open (16 : Int32) s120 t120 z120 (fun v126 s126 t126 z126 => Kinner a1 s126 t126 z126 (fun s132 t132 z132 => wp_isWord (10 : Int32) s132 t132 z132 (fun v138 => (v138.toInt ≠ 0 → wp_open (15 : Int32) (upC s132 0 10 ((s132 0 10) + (1 : Int32))) t132 z132 (fun v165 s165 t165 z165 => wp_aim v126 s165 t165 z165 (fun s172 t172 z172 => Kinner a1 s172 t172 z172 (fun s177 t177 z177 => wp_aim v165 s177 t177 z177 (fun s183 t183 z183 => Q s183 t183 z183)) T))) ∧ (v138.toInt = 0 → wp_aim v126 s132 t132 z132 (fun s146 t146 z146 => Q s146 t146 z146)))) T)) T) ∧ (¬ (σ 2 (σ 0 10).toNatClampNeg).toInt = 9 → ((σ 2 (σ 0 10).toNatClampNeg).toInt = 10 → wp_is (22 : Int32) σ τ vs (fun v397 => (v397.toInt = 0 → wp_is (27 : Int32) σ τ vs (fun v414 => (v414.toInt ≠ 0 → J424 σ τ vs) ∧ (v414.toInt = 0 → wp_plain σ τ vs (fun s421 t421 z421 => J424 s421 t421 z421) T))) ∧ (v397.toInt ≠ 0 → Kblock a1 σ τ vs (fun s405 t405 z405 => Q s405 t405 z405) T))) ∧ (¬ (σ 2 (σ 0 10).toNatClampNeg).toInt = 10 → ((σ 2 (σ 0 10).toNatClampNeg).toInt = 11 → wp_condition (σ 0 10) (upC σ 0 10 ((σ 0 10) + (1 : Int32))) τ vs (fun s206 t206 z206 => wp_open (16 : Int32) s206 t206 z206 (fun v212 s212 t212 z212 => Kloop a1 (σ 0 10) (σ 0 17) s212 t212 z212 (fun s221 t221 z221 => wp_put_1 (15 : Int32) (σ 0 17) (upC s221 0 58 (s221 0 60)) t221 z221 (fun s242 t242 z242 => wp_aim v212 s242 t242 z242 (fun s248 t248 z248 => wp_aimAll (s221 0 58) (s248 0 17) s248 t248 z248 (fun s258 t258 z258 => Q s258 t258 z258)))) T)) T) ∧ (¬ (σ 2 (σ 0 10).toNatClampNeg).toInt = 11 → ((σ 2 (σ 0 10).toNatClampNeg).toInt = 12 → KdoStatement a1 (σ 0 10) σ τ vs (fun s267 t267 z267 => Q s267 t267 z267) T) ∧ (¬ (σ 2 (σ 0 10).toNatClampNeg).toInt = 12 → ((σ 2 (σ 0 10).toNatClampNeg).toInt = 13 → KforStatement a1 (σ 0 10) σ τ vs (fun s276 t276 z276 => Q s276 t276 z276) T) ∧ (¬ (σ 2 (σ 0 10).toNatClampNeg).toInt = 13 → ((σ 2 (σ 0 10).toNatClampNeg).toInt = 14 → ((0 ≤ (σ 0 10).toInt ∧ (σ 0 10).toInt < 16002) ∧ (∃ J301 : Int32 → Prop, (∀ (y0_301 : Int32), y0_301 = 0 ∨ y0_301 = 1 → J301 y0_301 → (wp_expect (27 : Int32) (upC σ 0 10 ((σ 0 10) + (1 : Int32))) τ vs (fun s315 t315 z315 => (∃ J331 : Int32 → Prop, (∀ (y1_331 : Int32), y1_331 = 0 ∨ y1_331 = 1 → J331 y1_331 → (wp_must y1_331 (σ 0 10) s315 t315 z315 (fun s332 t332 z332 => (∃ J353 : Int32 → Prop, (∀ (y2_353 : Int32), J353 y2_353 → (wp_put_1 (15 : Int32) y2_353 s332 t332 z332 (fun s353 t353 z353 => (y0_301.toInt = 0 → Q (upC s353 0 59 ((s353 0 17) - (1 : Int32))) t353 z353) ∧ (y0_301.toInt ≠ 0 → Q (upC s353 0 58 ((s353 0 17) - (1 : Int32))) t353 z353)))) ∧ (y0_301.toInt = 0 → J353 (s332 0 59)) ∧ (y0_301.toInt ≠ 0 → J353 (s332 0 58)))))) ∧ ((s315 0 57).toInt ≤ 0 → J331 (0 : Int32)) ∧ (0 < (s315 0 57).toInt → J331 (1 : Int32)))) T)) ∧ ((σ 2 (σ 0 10).toNatClampNeg).toInt ≠ 14 → J301 (0 : Int32)) ∧ ((σ 2 (σ 0 10).toNatClampNeg).toInt = 14 → J301 (1 : Int32))))) ∧ (¬ (σ 2 (σ 0 10).toNatClampNeg).toInt = 14 → ((σ 2 (σ 0 10).toNatClampNeg).toInt = 15 → ((0 ≤ (σ 0 10).toInt ∧ (σ 0 10).toInt < 16002) ∧ ((σ 2 (σ 0 10).toNatClampNeg).toInt ≠ 14 → J301 (0 : Int32)) ∧ ((σ 2 (σ 0 10).toNatClampNeg).toInt = 14 → J301 (1 : Int32)))) ∧ (¬ (σ 2 (σ 0 10).toNatClampNeg).toInt = 15 → ((σ 2 (σ 0 10).toNatClampNeg).toInt = 16 → wp_returnStatement (σ 0 10) σ τ vs (fun s388 t388 z388 => Q s388 t388 z388) T) ∧ (¬ (σ 2 (σ 0 10).toNatClampNeg).toInt = 16 → wp_is (22 : Int32) σ τ vs (fun v397 => (v397.toInt = 0 → wp_is (27 : Int32) σ τ vs (fun v414 => (v414.toInt ≠ 0 → J424 σ τ vs) ∧ (v414.toInt = 0 → wp_plain σ τ vs (fun s421 t421 z421 => J424 s421 t421 z421) T))) ∧ (v397.toInt ≠ 0 → Kblock a1 σ τ vs (fun s405 t405 z405 => Q s405 t405 z405) T)))))))))))))))) ∧ (25 < a1.toInt → wp_wrong σ τ vs (fun s7 t7 z7 => T s7 t7 z7))
set_option maxHeartbeats 4000000 in
set_option maxRecDepth 100000 in
theorem ct_statement (a : Nat → Nat) (r : Nat → Nat) (dK : Nat) (hdK : 610 ≤ dK) (Kstatement : Int32 → St → St → List Nat → (St → St → List Nat → Prop) → (St → St → List Nat → Prop) → Prop) (Kinner : Int32 → St → St → List Nat → (St → St → List Nat → Prop) → (St → St → List Nat → Prop) → Prop) (Kblock : Int32 → St → St → List Nat → (St → St → List Nat → Prop) → (St → St → List Nat → Prop) → Prop) (Kloop : Int32 → Int32 → Int32 → St → St → List Nat → (St → St → List Nat → Prop) → (St → St → List Nat → Prop) → Prop) (KdoStatement : Int32 → Int32 → St → St → List Nat → (St → St → List Nat → Prop) → (St → St → List Nat → Prop) → Prop) (KforStatement : Int32 → Int32 → St → St → List Nat → (St → St → List Nat → Prop) → (St → St → List Nat → Prop) → Prop) (hKinner : ∀ {a1 : Int32} {σ τ : St} {vs : List Nat} {Q : St → St → List Nat → Prop} {T : St → St → List Nat → Prop}, vs.length ≤ CAP → Kinner a1 σ τ vs Q T → ∀ (l : Launch) (D : va_G) (cy : Nat → ClassId), Ct l D cy SM r (EM a) y_X14_inner (Cond.code y_X14_inner b_X14_inner 2 none) dK [.ref (r 0), .int a1] σ τ vs (QVs Q) T) (hKblock : ∀ {a1 : Int32} {σ τ : St} {vs : List Nat} {Q : St → St → List Nat → Prop} {T : St → St → List Nat → Prop}, vs.length ≤ CAP → Kblock a1 σ τ vs Q T → ∀ (l : Launch) (D : va_G) (cy : Nat → ClassId), Ct l D cy SM r (EM a) y_X14_block (Cond.code y_X14_block b_X14_block 2 none) dK [.ref (r 0), .int a1] σ τ vs (QVs Q) T) (hKloop : ∀ {a1 : Int32} {a2 : Int32} {a3 : Int32} {σ τ : St} {vs : List Nat} {Q : St → St → List Nat → Prop} {T : St → St → List Nat → Prop}, vs.length ≤ CAP → Kloop a1 a2 a3 σ τ vs Q T → ∀ (l : Launch) (D : va_G) (cy : Nat → ClassId), Ct l D cy SM r (EM a) y_X14_loop (Cond.code y_X14_loop b_X14_loop 6 none) dK [.ref (r 0), .int a1, .int a2, .int a3] σ τ vs (QVs Q) T) (hKdoStatement : ∀ {a1 : Int32} {a2 : Int32} {σ τ : St} {vs : List Nat} {Q : St → St → List Nat → Prop} {T : St → St → List Nat → Prop}, vs.length ≤ CAP → KdoStatement a1 a2 σ τ vs Q T → ∀ (l : Launch) (D : va_G) (cy : Nat → ClassId), Ct l D cy SM r (EM a) y_X14_doStatement (Cond.code y_X14_doStatement b_X14_doStatement 6 none) dK [.ref (r 0), .int a1, .int a2] σ τ vs (QVs Q) T) (hKforStatement : ∀ {a1 : Int32} {a2 : Int32} {σ τ : St} {vs : List Nat} {Q : St → St → List Nat → Prop} {T : St → St → List Nat → Prop}, vs.length ≤ CAP → KforStatement a1 a2 σ τ vs Q T → ∀ (l : Launch) (D : va_G) (cy : Nat → ClassId), Ct l D cy SM r (EM a) y_X14_forStatement (Cond.code y_X14_forStatement b_X14_forStatement 8 none) dK [.ref (r 0), .int a1, .int a2] σ τ vs (QVs Q) T) {a1 : Int32} {σ τ : St} {vs : List Nat} {Q : St → St → List Nat → Prop} {T : St → St → List Nat → Prop} (hcap : vs.length ≤ CAP) (w : wp_statement Kstatement Kinner Kblock Kloop KdoStatement KforStatement a1 σ τ vs Q T) (l : Launch) (D : va_G) (cy : Nat → ClassId) : Ct l D cy SM r (EM a) y_X14_statement (Cond.code y_X14_statement b_X14_statement 6 none) (dK + 1) [.ref (r 0), .int a1] σ τ vs (QVs Q) T := by
  unfold wp_statement at w
  refine Ct_of (EM_ok a) (by decide) (Nat.le_of_ble_eq_true rfl) hcap (fun X hnn hF => ?_)
  show G SM r X σ τ vs [(0, .ref (r 0)), (1, .int a1)] [] 0
  refine g_iload_n hF d_X14_statement_0 rfl 1 rfl ?_
  refine g_bipush hF (v := 25) d_X14_statement_1 (by decide) ?_
  refine g_icmp_le (yv := 25) hF 11 d_X14_statement_3 (by decide) rfl (by decide) (fun c => ?_) (fun c => ?_)
  · have w1 := w.1 c
    refine g_aload_n hF d_X14_statement_11 rfl 0 rfl ?_
    refine g_get (v := .int (σ 0 10)) hF 10 obM_0 (by decide) m_1875 rfl d_X14_statement_12 ?_
    refine g_istore_n hF [(2, .int (σ 0 10)), (0, .ref (r 0)), (1, .int a1)] d_X14_statement_15 rfl hnn (by decide) rfl ?_
    refine g_aload_n hF d_X14_statement_16 rfl 1 rfl ?_
    refine g_get (v := .ref (r 2)) hF 3 obM_0 (by decide) m_1868 rfl d_X14_statement_17 ?_
    refine g_aload_n hF d_X14_statement_20 rfl 1 rfl ?_
    refine g_get (v := .int (σ 0 10)) hF 10 obM_0 (by decide) m_1875 rfl d_X14_statement_21 ?_
    have w2 := w1.2
    refine g_iald hF arM_2 (s_in (Nat.le_of_ble_eq_true rfl) w1.1.1 w1.1.2) d_X14_statement_24 ?_
    refine g_top (v := (σ 2 (σ 0 10).toNatClampNeg)) rfl ?_
    refine (Decidable.em ((σ 2 (σ 0 10).toNatClampNeg).toInt = 5)).elim (fun q25_0 => ?_) (fun q25_0 => ?_)
    · have w3 := w2.1 q25_0
      refine g_tableIn (off := 63) hF 88 d_X14_statement_25 q25_0 (by decide) (by decide) (by decide +kernel) (by decide) ?_
      refine g_aload_n hF d_X14_statement_88 rfl 1 rfl ?_
      refine g_dup hF d_X14_statement_89 rfl ?_
      refine g_get (v := .int (σ 0 10)) hF 10 obM_0 (by decide) m_1875 rfl d_X14_statement_90 ?_
      refine g_iconst hF (v := 1) d_X14_statement_93 (by decide) ?_
      refine g_iadd hF d_X14_statement_94 ?_
      refine g_put (v := ((σ 0 10) + (1 : Int32))) hF 10 obM_0 (by decide) m_1875 rfl rfl rfl d_X14_statement_95 ?_
      refine g_aload_n hF d_X14_statement_98 rfl 1 rfl ?_
      refine g_iconst hF (v := 0) d_X14_statement_99 (by decide) ?_
      refine g_iconst hF (v := 0) d_X14_statement_100 (by decide) ?_
      refine g_iconst hF (v := 1) d_X14_statement_101 (by decide) ?_
      refine g_callV (As := [.int 0, .int 0, .int 1]) (rest := []) hF (fun l D cy => (ct_variables a r hcap w3) l D cy) (Nat.add_le_add_right (Nat.le_trans (Nat.le_of_ble_eq_true rfl) hdK) 1) mV_X14_variables m_2349 (recv_ob obM_0) rfl rfl (Nat.le_of_ble_eq_true rfl) d_X14_statement_102 (kV (fun s102 t102 z102 w4 => ?_)) (fun σ9 τ9 vs9 h9 => g_out hF stopM rfl h9)
      refine g_goto hF 430 d_X14_statement_105 (by decide) ?_
      exact g_vret hF rfl d_X14_statement_430 ⟨rfl, w4⟩
    have w5 := w2.2 q25_0
    refine (Decidable.em ((σ 2 (σ 0 10).toNatClampNeg).toInt = 6)).elim (fun q25_1 => ?_) (fun q25_1 => ?_)
    · have w6 := w5.1 q25_1
      refine g_tableIn (off := 369) hF 394 d_X14_statement_25 q25_1 (by decide) (by decide) (by decide +kernel) (by decide) ?_
      refine g_aload_n hF d_X14_statement_394 rfl 1 rfl ?_
      refine g_bipush hF (v := 22) d_X14_statement_395 (by decide) ?_
      refine g_callV (As := [.int 22]) (rest := []) hF (fun l D cy => (ct_is a r hcap w6) l D cy) (Nat.add_le_add_right (Nat.le_trans (Nat.le_of_ble_eq_true rfl) hdK) 1) mV_X14_is m_2289 (recv_ob obM_0) rfl rfl (Nat.le_of_ble_eq_true rfl) d_X14_statement_397 (krZ (fun v397 hz397 w7 => ?_)) (fun _ _ _ h => h.elim)
      refine g_if_eq hF 411 d_X14_statement_400 (by decide) rfl (fun c => ?_) (fun c => ?_)
      · have w8 := w7.1 c
        refine g_aload_n hF d_X14_statement_411 rfl 1 rfl ?_
        refine g_bipush hF (v := 27) d_X14_statement_412 (by decide) ?_
        refine g_callV (As := [.int 27]) (rest := []) hF (fun l D cy => (ct_is a r hcap w8) l D cy) (Nat.add_le_add_right (Nat.le_trans (Nat.le_of_ble_eq_true rfl) hdK) 1) mV_X14_is m_2289 (recv_ob obM_0) rfl rfl (Nat.le_of_ble_eq_true rfl) d_X14_statement_414 (krZ (fun v414 hz414 w9 => ?_)) (fun _ _ _ h => h.elim)
        obtain ⟨J424, h424, w10⟩ := w9
        have b424 : ∀ (s424 t424 : St) (z424 : List Nat), J424 s424 t424 z424 → G SM r X s424 t424 z424 [(0, .ref (r 0))] [] 424 := by
          intro s424 t424 z424  w424_
          have w424_ := h424 s424 t424 z424  w424_
          refine g_aload_n hF d_X14_statement_424 rfl 0 rfl ?_
          refine g_bipush hF (v := 27) d_X14_statement_425 (by decide) ?_
          refine g_cap (fun hc10 => ?_)
          refine g_callV (As := [.int 27]) (rest := []) hF (fun l D cy => (ct_expect a r hc10 w424_) l D cy) (Nat.add_le_add_right (Nat.le_trans (Nat.le_of_ble_eq_true rfl) hdK) 1) mV_X14_expect m_2285 (recv_ob obM_0) rfl rfl (Nat.le_of_ble_eq_true rfl) d_X14_statement_427 (kV (fun s427 t427 z427 w12 => ?_)) (fun σ9 τ9 vs9 h9 => g_out hF stopM rfl h9)
          exact g_vret hF rfl d_X14_statement_430 ⟨rfl, w12⟩
        refine g_if_ne hF 424 d_X14_statement_417 (by decide) rfl (fun c => ?_) (fun c => ?_)
        · have w13 := w10.1 c
          exact g_sub (L' := [(0, .ref (r 0))]) [1] rfl (b424 σ τ vs w13)
        · have w14 := w10.2 c
          refine g_aload_n hF d_X14_statement_420 rfl 1 rfl ?_
          refine g_callV (As := []) (rest := []) hF (fun l D cy => (ct_plain a r hcap w14) l D cy) (Nat.add_le_add_right (Nat.le_trans (Nat.le_of_ble_eq_true rfl) hdK) 1) mV_X14_plain m_2616 (recv_ob obM_0) rfl rfl (Nat.le_of_ble_eq_true rfl) d_X14_statement_421 (kV (fun s421 t421 z421 w15 => ?_)) (fun σ9 τ9 vs9 h9 => g_out hF stopM rfl h9)
          exact g_sub (L' := [(0, .ref (r 0))]) [1] rfl (b424 s421 t421 z421 w15)
      · have w16 := w7.2 c
        refine g_aload_n hF d_X14_statement_403 rfl 1 rfl ?_
        refine g_iload_n hF d_X14_statement_404 rfl 2 rfl ?_
        refine g_callV (As := [.int a1]) (rest := []) hF (fun l D cy => (hKblock hcap w16) l D cy) (Nat.le_refl _) mV_X14_block m_2628 (recv_ob obM_0) rfl rfl (Nat.le_of_ble_eq_true rfl) d_X14_statement_405 (kV (fun s405 t405 z405 w17 => ?_)) (fun σ9 τ9 vs9 h9 => g_out hF stopM rfl h9)
        refine g_goto hF 430 d_X14_statement_408 (by decide) ?_
        exact g_vret hF rfl d_X14_statement_430 ⟨rfl, w17⟩
    have w18 := w5.2 q25_1
    refine (Decidable.em ((σ 2 (σ 0 10).toNatClampNeg).toInt = 7)).elim (fun q25_2 => ?_) (fun q25_2 => ?_)
    · have w19 := w18.1 q25_2
      refine g_tableIn (off := 369) hF 394 d_X14_statement_25 q25_2 (by decide) (by decide) (by decide +kernel) (by decide) ?_
      refine g_aload_n hF d_X14_statement_394 rfl 1 rfl ?_
      refine g_bipush hF (v := 22) d_X14_statement_395 (by decide) ?_
      refine g_callV (As := [.int 22]) (rest := []) hF (fun l D cy => (ct_is a r hcap w19) l D cy) (Nat.add_le_add_right (Nat.le_trans (Nat.le_of_ble_eq_true rfl) hdK) 1) mV_X14_is m_2289 (recv_ob obM_0) rfl rfl (Nat.le_of_ble_eq_true rfl) d_X14_statement_397 (krZ (fun v397 hz397 w20 => ?_)) (fun _ _ _ h => h.elim)
      refine g_if_eq hF 411 d_X14_statement_400 (by decide) rfl (fun c => ?_) (fun c => ?_)
      · have w21 := w20.1 c
        refine g_aload_n hF d_X14_statement_411 rfl 1 rfl ?_
        refine g_bipush hF (v := 27) d_X14_statement_412 (by decide) ?_
        refine g_callV (As := [.int 27]) (rest := []) hF (fun l D cy => (ct_is a r hcap w21) l D cy) (Nat.add_le_add_right (Nat.le_trans (Nat.le_of_ble_eq_true rfl) hdK) 1) mV_X14_is m_2289 (recv_ob obM_0) rfl rfl (Nat.le_of_ble_eq_true rfl) d_X14_statement_414 (krZ (fun v414 hz414 w22 => ?_)) (fun _ _ _ h => h.elim)
        refine g_if_ne hF 424 d_X14_statement_417 (by decide) rfl (fun c => ?_) (fun c => ?_)
        · have w23 := w22.1 c
          exact g_sub (L' := [(0, .ref (r 0))]) [1] rfl (b424 σ τ vs w23)
        · have w24 := w22.2 c
          refine g_aload_n hF d_X14_statement_420 rfl 1 rfl ?_
          refine g_callV (As := []) (rest := []) hF (fun l D cy => (ct_plain a r hcap w24) l D cy) (Nat.add_le_add_right (Nat.le_trans (Nat.le_of_ble_eq_true rfl) hdK) 1) mV_X14_plain m_2616 (recv_ob obM_0) rfl rfl (Nat.le_of_ble_eq_true rfl) d_X14_statement_421 (kV (fun s421 t421 z421 w25 => ?_)) (fun σ9 τ9 vs9 h9 => g_out hF stopM rfl h9)
          exact g_sub (L' := [(0, .ref (r 0))]) [1] rfl (b424 s421 t421 z421 w25)
      · have w26 := w20.2 c
        refine g_aload_n hF d_X14_statement_403 rfl 1 rfl ?_
        refine g_iload_n hF d_X14_statement_404 rfl 2 rfl ?_
        refine g_callV (As := [.int a1]) (rest := []) hF (fun l D cy => (hKblock hcap w26) l D cy) (Nat.le_refl _) mV_X14_block m_2628 (recv_ob obM_0) rfl rfl (Nat.le_of_ble_eq_true rfl) d_X14_statement_405 (kV (fun s405 t405 z405 w27 => ?_)) (fun σ9 τ9 vs9 h9 => g_out hF stopM rfl h9)
        refine g_goto hF 430 d_X14_statement_408 (by decide) ?_
        exact g_vret hF rfl d_X14_statement_430 ⟨rfl, w27⟩
    have w28 := w18.2 q25_2
    refine (Decidable.em ((σ 2 (σ 0 10).toNatClampNeg).toInt = 8)).elim (fun q25_3 => ?_) (fun q25_3 => ?_)
    · have w29 := w28.1 q25_3
      refine g_tableIn (off := 369) hF 394 d_X14_statement_25 q25_3 (by decide) (by decide) (by decide +kernel) (by decide) ?_
      refine g_aload_n hF d_X14_statement_394 rfl 1 rfl ?_
      refine g_bipush hF (v := 22) d_X14_statement_395 (by decide) ?_
      refine g_callV (As := [.int 22]) (rest := []) hF (fun l D cy => (ct_is a r hcap w29) l D cy) (Nat.add_le_add_right (Nat.le_trans (Nat.le_of_ble_eq_true rfl) hdK) 1) mV_X14_is m_2289 (recv_ob obM_0) rfl rfl (Nat.le_of_ble_eq_true rfl) d_X14_statement_397 (krZ (fun v397 hz397 w30 => ?_)) (fun _ _ _ h => h.elim)
      refine g_if_eq hF 411 d_X14_statement_400 (by decide) rfl (fun c => ?_) (fun c => ?_)
      · have w31 := w30.1 c
        refine g_aload_n hF d_X14_statement_411 rfl 1 rfl ?_
        refine g_bipush hF (v := 27) d_X14_statement_412 (by decide) ?_
        refine g_callV (As := [.int 27]) (rest := []) hF (fun l D cy => (ct_is a r hcap w31) l D cy) (Nat.add_le_add_right (Nat.le_trans (Nat.le_of_ble_eq_true rfl) hdK) 1) mV_X14_is m_2289 (recv_ob obM_0) rfl rfl (Nat.le_of_ble_eq_true rfl) d_X14_statement_414 (krZ (fun v414 hz414 w32 => ?_)) (fun _ _ _ h => h.elim)
        refine g_if_ne hF 424 d_X14_statement_417 (by decide) rfl (fun c => ?_) (fun c => ?_)
        · have w33 := w32.1 c
          exact g_sub (L' := [(0, .ref (r 0))]) [1] rfl (b424 σ τ vs w33)
        · have w34 := w32.2 c
          refine g_aload_n hF d_X14_statement_420 rfl 1 rfl ?_
          refine g_callV (As := []) (rest := []) hF (fun l D cy => (ct_plain a r hcap w34) l D cy) (Nat.add_le_add_right (Nat.le_trans (Nat.le_of_ble_eq_true rfl) hdK) 1) mV_X14_plain m_2616 (recv_ob obM_0) rfl rfl (Nat.le_of_ble_eq_true rfl) d_X14_statement_421 (kV (fun s421 t421 z421 w35 => ?_)) (fun σ9 τ9 vs9 h9 => g_out hF stopM rfl h9)
          exact g_sub (L' := [(0, .ref (r 0))]) [1] rfl (b424 s421 t421 z421 w35)
      · have w36 := w30.2 c
        refine g_aload_n hF d_X14_statement_403 rfl 1 rfl ?_
        refine g_iload_n hF d_X14_statement_404 rfl 2 rfl ?_
        refine g_callV (As := [.int a1]) (rest := []) hF (fun l D cy => (hKblock hcap w36) l D cy) (Nat.le_refl _) mV_X14_block m_2628 (recv_ob obM_0) rfl rfl (Nat.le_of_ble_eq_true rfl) d_X14_statement_405 (kV (fun s405 t405 z405 w37 => ?_)) (fun σ9 τ9 vs9 h9 => g_out hF stopM rfl h9)
        refine g_goto hF 430 d_X14_statement_408 (by decide) ?_
        exact g_vret hF rfl d_X14_statement_430 ⟨rfl, w37⟩
    have w38 := w28.2 q25_3
    refine (Decidable.em ((σ 2 (σ 0 10).toNatClampNeg).toInt = 9)).elim (fun q25_4 => ?_) (fun q25_4 => ?_)
    · have w39 := w38.1 q25_4
      refine g_tableIn (off := 83) hF 108 d_X14_statement_25 q25_4 (by decide) (by decide) (by decide +kernel) (by decide) ?_
      refine g_aload_n hF d_X14_statement_108 rfl 1 rfl ?_
      refine g_dup hF d_X14_statement_109 rfl ?_
      refine g_get (v := .int (σ 0 10)) hF 10 obM_0 (by decide) m_1875 rfl d_X14_statement_110 ?_
      refine g_iconst hF (v := 1) d_X14_statement_113 (by decide) ?_
      refine g_iadd hF d_X14_statement_114 ?_
      refine g_put (v := ((σ 0 10) + (1 : Int32))) hF 10 obM_0 (by decide) m_1875 rfl rfl rfl d_X14_statement_115 ?_
      refine g_aload_n hF d_X14_statement_118 rfl 1 rfl ?_
      refine g_iload_n hF d_X14_statement_119 rfl 0 rfl ?_
      refine g_callV (As := [.int (σ 0 10)]) (rest := []) hF (fun l D cy => (ct_condition a r hcap w39) l D cy) (Nat.add_le_add_right (Nat.le_trans (Nat.le_of_ble_eq_true rfl) hdK) 1) mV_X14_condition m_2588 (recv_ob obM_0) rfl rfl (Nat.le_of_ble_eq_true rfl) d_X14_statement_120 (kV (fun s120 t120 z120 w40 => ?_)) (fun σ9 τ9 vs9 h9 => g_out hF stopM rfl h9)
      refine g_aload_n hF d_X14_statement_123 rfl 1 rfl ?_
      refine g_bipush hF (v := 16) d_X14_statement_124 (by decide) ?_
      refine g_cap (fun hc40 => ?_)
      refine g_callV (As := [.int 16]) (rest := []) hF (fun l D cy => (ct_open a r hc40 w40) l D cy) (Nat.add_le_add_right (Nat.le_trans (Nat.le_of_ble_eq_true rfl) hdK) 1) mV_X14_open m_2520 (recv_ob obM_0) rfl rfl (Nat.le_of_ble_eq_true rfl) d_X14_statement_126 (kI (fun v126 s126 t126 z126 w42 => ?_)) (fun _ _ _ h => h.elim)
      refine g_istore_n hF [(3, .int v126), (2, .int (σ 0 10)), (0, .ref (r 0)), (1, .int a1)] d_X14_statement_129 rfl hnn (by decide) rfl ?_
      refine g_aload_n hF d_X14_statement_130 rfl 2 rfl ?_
      refine g_iload_n hF d_X14_statement_131 rfl 3 rfl ?_
      refine g_cap (fun hc42 => ?_)
      refine g_callV (As := [.int a1]) (rest := []) hF (fun l D cy => (hKinner hc42 w42) l D cy) (Nat.le_refl _) mV_X14_inner m_2592 (recv_ob obM_0) rfl rfl (Nat.le_of_ble_eq_true rfl) d_X14_statement_132 (kV (fun s132 t132 z132 w44 => ?_)) (fun σ9 τ9 vs9 h9 => g_out hF stopM rfl h9)
      refine g_aload_n hF d_X14_statement_135 rfl 2 rfl ?_
      refine g_bipush hF (v := 10) d_X14_statement_136 (by decide) ?_
      refine g_cap (fun hc44 => ?_)
      refine g_callV (As := [.int 10]) (rest := []) hF (fun l D cy => (ct_isWord a r hc44 w44) l D cy) (Nat.add_le_add_right (Nat.le_trans (Nat.le_of_ble_eq_true rfl) hdK) 1) mV_X14_isWord m_2273 (recv_ob obM_0) rfl rfl (Nat.le_of_ble_eq_true rfl) d_X14_statement_138 (krZ (fun v138 hz138 w46 => ?_)) (fun _ _ _ h => h.elim)
      refine g_if_ne hF 152 d_X14_statement_141 (by decide) rfl (fun c => ?_) (fun c => ?_)
      · have w47 := w46.1 c
        refine g_aload_n hF d_X14_statement_152 rfl 2 rfl ?_
        refine g_dup hF d_X14_statement_153 rfl ?_
        refine g_get (v := .int (s132 0 10)) hF 10 obM_0 (by decide) m_1875 rfl d_X14_statement_154 ?_
        refine g_iconst hF (v := 1) d_X14_statement_157 (by decide) ?_
        refine g_iadd hF d_X14_statement_158 ?_
        refine g_put (v := ((s132 0 10) + (1 : Int32))) hF 10 obM_0 (by decide) m_1875 rfl rfl rfl d_X14_statement_159 ?_
        refine g_aload_n hF d_X14_statement_162 rfl 2 rfl ?_
        refine g_bipush hF (v := 15) d_X14_statement_163 (by decide) ?_
        refine g_callV (As := [.int 15]) (rest := []) hF (fun l D cy => (ct_open a r hc44 w47) l D cy) (Nat.add_le_add_right (Nat.le_trans (Nat.le_of_ble_eq_true rfl) hdK) 1) mV_X14_open m_2520 (recv_ob obM_0) rfl rfl (Nat.le_of_ble_eq_true rfl) d_X14_statement_165 (kI (fun v165 s165 t165 z165 w48 => ?_)) (fun _ _ _ h => h.elim)
        refine g_istore hF [(4, .int v165), (3, .int v126), (2, .int (σ 0 10)), (0, .ref (r 0)), (1, .int a1)] d_X14_statement_168 hnn (by decide) rfl ?_
        refine g_aload_n hF d_X14_statement_170 rfl 3 rfl ?_
        refine g_iload_n hF d_X14_statement_171 rfl 1 rfl ?_
        refine g_cap (fun hc48 => ?_)
        refine g_callV (As := [.int v126]) (rest := []) hF (fun l D cy => (ct_aim a r hc48 w48) l D cy) (Nat.add_le_add_right (Nat.le_trans (Nat.le_of_ble_eq_true rfl) hdK) 1) mV_X14_aim m_2524 (recv_ob obM_0) rfl rfl (Nat.le_of_ble_eq_true rfl) d_X14_statement_172 (kV (fun s172 t172 z172 w50 => ?_)) (fun _ _ _ h => h.elim)
        refine g_aload_n hF d_X14_statement_175 rfl 3 rfl ?_
        refine g_iload_n hF d_X14_statement_176 rfl 4 rfl ?_
        refine g_cap (fun hc50 => ?_)
        refine g_callV (As := [.int a1]) (rest := []) hF (fun l D cy => (hKinner hc50 w50) l D cy) (Nat.le_refl _) mV_X14_inner m_2592 (recv_ob obM_0) rfl rfl (Nat.le_of_ble_eq_true rfl) d_X14_statement_177 (kV (fun s177 t177 z177 w52 => ?_)) (fun σ9 τ9 vs9 h9 => g_out hF stopM rfl h9)
        refine g_aload_n hF d_X14_statement_180 rfl 3 rfl ?_
        refine g_iload hF d_X14_statement_181 0 rfl ?_
        refine g_cap (fun hc52 => ?_)
        refine g_callV (As := [.int v165]) (rest := []) hF (fun l D cy => (ct_aim a r hc52 w52) l D cy) (Nat.add_le_add_right (Nat.le_trans (Nat.le_of_ble_eq_true rfl) hdK) 1) mV_X14_aim m_2524 (recv_ob obM_0) rfl rfl (Nat.le_of_ble_eq_true rfl) d_X14_statement_183 (kV (fun s183 t183 z183 w54 => ?_)) (fun _ _ _ h => h.elim)
        refine g_goto hF 430 d_X14_statement_186 (by decide) ?_
        exact g_vret hF rfl d_X14_statement_430 ⟨rfl, w54⟩
      · have w55 := w46.2 c
        refine g_aload_n hF d_X14_statement_144 rfl 2 rfl ?_
        refine g_iload_n hF d_X14_statement_145 rfl 0 rfl ?_
        refine g_callV (As := [.int v126]) (rest := []) hF (fun l D cy => (ct_aim a r hc44 w55) l D cy) (Nat.add_le_add_right (Nat.le_trans (Nat.le_of_ble_eq_true rfl) hdK) 1) mV_X14_aim m_2524 (recv_ob obM_0) rfl rfl (Nat.le_of_ble_eq_true rfl) d_X14_statement_146 (kV (fun s146 t146 z146 w56 => ?_)) (fun _ _ _ h => h.elim)
        refine g_goto hF 430 d_X14_statement_149 (by decide) ?_
        exact g_vret hF rfl d_X14_statement_430 ⟨rfl, w56⟩
    have w57 := w38.2 q25_4
    refine (Decidable.em ((σ 2 (σ 0 10).toNatClampNeg).toInt = 10)).elim (fun q25_5 => ?_) (fun q25_5 => ?_)
    · have w58 := w57.1 q25_5
      refine g_tableIn (off := 369) hF 394 d_X14_statement_25 q25_5 (by decide) (by decide) (by decide +kernel) (by decide) ?_
      refine g_aload_n hF d_X14_statement_394 rfl 1 rfl ?_
      refine g_bipush hF (v := 22) d_X14_statement_395 (by decide) ?_
      refine g_callV (As := [.int 22]) (rest := []) hF (fun l D cy => (ct_is a r hcap w58) l D cy) (Nat.add_le_add_right (Nat.le_trans (Nat.le_of_ble_eq_true rfl) hdK) 1) mV_X14_is m_2289 (recv_ob obM_0) rfl rfl (Nat.le_of_ble_eq_true rfl) d_X14_statement_397 (krZ (fun v397 hz397 w59 => ?_)) (fun _ _ _ h => h.elim)
      refine g_if_eq hF 411 d_X14_statement_400 (by decide) rfl (fun c => ?_) (fun c => ?_)
      · have w60 := w59.1 c
        refine g_aload_n hF d_X14_statement_411 rfl 1 rfl ?_
        refine g_bipush hF (v := 27) d_X14_statement_412 (by decide) ?_
        refine g_callV (As := [.int 27]) (rest := []) hF (fun l D cy => (ct_is a r hcap w60) l D cy) (Nat.add_le_add_right (Nat.le_trans (Nat.le_of_ble_eq_true rfl) hdK) 1) mV_X14_is m_2289 (recv_ob obM_0) rfl rfl (Nat.le_of_ble_eq_true rfl) d_X14_statement_414 (krZ (fun v414 hz414 w61 => ?_)) (fun _ _ _ h => h.elim)
        refine g_if_ne hF 424 d_X14_statement_417 (by decide) rfl (fun c => ?_) (fun c => ?_)
        · have w62 := w61.1 c
          exact g_sub (L' := [(0, .ref (r 0))]) [1] rfl (b424 σ τ vs w62)
        · have w63 := w61.2 c
          refine g_aload_n hF d_X14_statement_420 rfl 1 rfl ?_
          refine g_callV (As := []) (rest := []) hF (fun l D cy => (ct_plain a r hcap w63) l D cy) (Nat.add_le_add_right (Nat.le_trans (Nat.le_of_ble_eq_true rfl) hdK) 1) mV_X14_plain m_2616 (recv_ob obM_0) rfl rfl (Nat.le_of_ble_eq_true rfl) d_X14_statement_421 (kV (fun s421 t421 z421 w64 => ?_)) (fun σ9 τ9 vs9 h9 => g_out hF stopM rfl h9)
          exact g_sub (L' := [(0, .ref (r 0))]) [1] rfl (b424 s421 t421 z421 w64)
      · have w65 := w59.2 c
        refine g_aload_n hF d_X14_statement_403 rfl 1 rfl ?_
        refine g_iload_n hF d_X14_statement_404 rfl 2 rfl ?_
        refine g_callV (As := [.int a1]) (rest := []) hF (fun l D cy => (hKblock hcap w65) l D cy) (Nat.le_refl _) mV_X14_block m_2628 (recv_ob obM_0) rfl rfl (Nat.le_of_ble_eq_true rfl) d_X14_statement_405 (kV (fun s405 t405 z405 w66 => ?_)) (fun σ9 τ9 vs9 h9 => g_out hF stopM rfl h9)
        refine g_goto hF 430 d_X14_statement_408 (by decide) ?_
        exact g_vret hF rfl d_X14_statement_430 ⟨rfl, w66⟩
    have w67 := w57.2 q25_5
    refine (Decidable.em ((σ 2 (σ 0 10).toNatClampNeg).toInt = 11)).elim (fun q25_6 => ?_) (fun q25_6 => ?_)
    · have w68 := w67.1 q25_6
      refine g_tableIn (off := 164) hF 189 d_X14_statement_25 q25_6 (by decide) (by decide) (by decide +kernel) (by decide) ?_
      refine g_aload_n hF d_X14_statement_189 rfl 1 rfl ?_
      refine g_dup hF d_X14_statement_190 rfl ?_
      refine g_get (v := .int (σ 0 10)) hF 10 obM_0 (by decide) m_1875 rfl d_X14_statement_191 ?_
      refine g_iconst hF (v := 1) d_X14_statement_194 (by decide) ?_
      refine g_iadd hF d_X14_statement_195 ?_
      refine g_put (v := ((σ 0 10) + (1 : Int32))) hF 10 obM_0 (by decide) m_1875 rfl rfl rfl d_X14_statement_196 ?_
      refine g_aload_n hF d_X14_statement_199 rfl 1 rfl ?_
      refine g_get (v := .int (σ 0 17)) hF 17 obM_0 (by decide) m_1882 rfl d_X14_statement_200 ?_
      refine g_istore_n hF [(3, .int (σ 0 17)), (2, .int (σ 0 10)), (0, .ref (r 0)), (1, .int a1)] d_X14_statement_203 rfl hnn (by decide) rfl ?_
      refine g_aload_n hF d_X14_statement_204 rfl 2 rfl ?_
      refine g_iload_n hF d_X14_statement_205 rfl 1 rfl ?_
      refine g_callV (As := [.int (σ 0 10)]) (rest := []) hF (fun l D cy => (ct_condition a r hcap w68) l D cy) (Nat.add_le_add_right (Nat.le_trans (Nat.le_of_ble_eq_true rfl) hdK) 1) mV_X14_condition m_2588 (recv_ob obM_0) rfl rfl (Nat.le_of_ble_eq_true rfl) d_X14_statement_206 (kV (fun s206 t206 z206 w69 => ?_)) (fun σ9 τ9 vs9 h9 => g_out hF stopM rfl h9)
      refine g_aload_n hF d_X14_statement_209 rfl 2 rfl ?_
      refine g_bipush hF (v := 16) d_X14_statement_210 (by decide) ?_
      refine g_cap (fun hc69 => ?_)
      refine g_callV (As := [.int 16]) (rest := []) hF (fun l D cy => (ct_open a r hc69 w69) l D cy) (Nat.add_le_add_right (Nat.le_trans (Nat.le_of_ble_eq_true rfl) hdK) 1) mV_X14_open m_2520 (recv_ob obM_0) rfl rfl (Nat.le_of_ble_eq_true rfl) d_X14_statement_212 (kI (fun v212 s212 t212 z212 w71 => ?_)) (fun _ _ _ h => h.elim)
      refine g_istore hF [(4, .int v212), (3, .int (σ 0 17)), (2, .int (σ 0 10)), (0, .ref (r 0)), (1, .int a1)] d_X14_statement_215 hnn (by decide) rfl ?_
      refine g_aload_n hF d_X14_statement_217 rfl 3 rfl ?_
      refine g_iload_n hF d_X14_statement_218 rfl 4 rfl ?_
      refine g_iload_n hF d_X14_statement_219 rfl 2 rfl ?_
      refine g_iload_n hF d_X14_statement_220 rfl 1 rfl ?_
      refine g_cap (fun hc71 => ?_)
      refine g_callV (As := [.int a1, .int (σ 0 10), .int (σ 0 17)]) (rest := []) hF (fun l D cy => (hKloop hc71 w71) l D cy) (Nat.le_refl _) mV_X14_loop m_2600 (recv_ob obM_0) rfl rfl (Nat.le_of_ble_eq_true rfl) d_X14_statement_221 (kV (fun s221 t221 z221 w73 => ?_)) (fun σ9 τ9 vs9 h9 => g_out hF stopM rfl h9)
      refine g_aload_n hF d_X14_statement_224 rfl 3 rfl ?_
      refine g_get (v := .int (s221 0 58)) hF 58 obM_0 (by decide) m_1923 rfl d_X14_statement_225 ?_
      refine g_istore hF [(5, .int (s221 0 58)), (4, .int v212), (3, .int (σ 0 17)), (2, .int (σ 0 10)), (0, .ref (r 0)), (1, .int a1)] d_X14_statement_228 hnn (by decide) rfl ?_
      refine g_aload_n hF d_X14_statement_230 rfl 4 rfl ?_
      refine g_aload_n hF d_X14_statement_231 rfl 4 rfl ?_
      refine g_get (v := .int (s221 0 60)) hF 60 obM_0 (by decide) m_1925 rfl d_X14_statement_232 ?_
      refine g_put (v := (s221 0 60)) hF 58 obM_0 (by decide) m_1923 rfl rfl rfl d_X14_statement_235 ?_
      refine g_aload_n hF d_X14_statement_238 rfl 4 rfl ?_
      refine g_bipush hF (v := 15) d_X14_statement_239 (by decide) ?_
      refine g_iload_n hF d_X14_statement_241 rfl 2 rfl ?_
      refine g_cap (fun hc73 => ?_)
      refine g_callV (As := [.int 15, .int (σ 0 17)]) (rest := []) hF (fun l D cy => (ct_put_1 a r hc73 w73) l D cy) (Nat.add_le_add_right (Nat.le_trans (Nat.le_of_ble_eq_true rfl) hdK) 1) mV_X14_put_1 m_2433 (recv_ob obM_0) rfl rfl (Nat.le_of_ble_eq_true rfl) d_X14_statement_242 (kV (fun s242 t242 z242 w75 => ?_)) (fun _ _ _ h => h.elim)
      refine g_aload_n hF d_X14_statement_245 rfl 4 rfl ?_
      refine g_iload hF d_X14_statement_246 1 rfl ?_
      refine g_cap (fun hc75 => ?_)
      refine g_callV (As := [.int v212]) (rest := []) hF (fun l D cy => (ct_aim a r hc75 w75) l D cy) (Nat.add_le_add_right (Nat.le_trans (Nat.le_of_ble_eq_true rfl) hdK) 1) mV_X14_aim m_2524 (recv_ob obM_0) rfl rfl (Nat.le_of_ble_eq_true rfl) d_X14_statement_248 (kV (fun s248 t248 z248 w77 => ?_)) (fun _ _ _ h => h.elim)
      refine g_aload_n hF d_X14_statement_251 rfl 4 rfl ?_
      refine g_iload hF d_X14_statement_252 0 rfl ?_
      refine g_aload_n hF d_X14_statement_254 rfl 4 rfl ?_
      refine g_get (v := .int (s248 0 17)) hF 17 obM_0 (by decide) m_1882 rfl d_X14_statement_255 ?_
      refine g_cap (fun hc77 => ?_)
      refine g_callV (As := [.int (s221 0 58), .int (s248 0 17)]) (rest := []) hF (fun l D cy => (ct_aimAll a r hc77 w77) l D cy) (Nat.add_le_add_right (Nat.le_trans (Nat.le_of_ble_eq_true rfl) hdK) 1) mV_X14_aimAll m_2604 (recv_ob obM_0) rfl rfl (Nat.le_of_ble_eq_true rfl) d_X14_statement_258 (kV (fun s258 t258 z258 w79 => ?_)) (fun _ _ _ h => h.elim)
      refine g_goto hF 430 d_X14_statement_261 (by decide) ?_
      exact g_vret hF rfl d_X14_statement_430 ⟨rfl, w79⟩
    have w80 := w67.2 q25_6
    refine (Decidable.em ((σ 2 (σ 0 10).toNatClampNeg).toInt = 12)).elim (fun q25_7 => ?_) (fun q25_7 => ?_)
    · have w81 := w80.1 q25_7
      refine g_tableIn (off := 239) hF 264 d_X14_statement_25 q25_7 (by decide) (by decide) (by decide +kernel) (by decide) ?_
      refine g_aload_n hF d_X14_statement_264 rfl 1 rfl ?_
      refine g_iload_n hF d_X14_statement_265 rfl 2 rfl ?_
      refine g_iload_n hF d_X14_statement_266 rfl 0 rfl ?_
      refine g_callV (As := [.int a1, .int (σ 0 10)]) (rest := []) hF (fun l D cy => (hKdoStatement hcap w81) l D cy) (Nat.le_refl _) mV_X14_doStatement m_2608 (recv_ob obM_0) rfl rfl (Nat.le_of_ble_eq_true rfl) d_X14_statement_267 (kV (fun s267 t267 z267 w82 => ?_)) (fun σ9 τ9 vs9 h9 => g_out hF stopM rfl h9)
      refine g_goto hF 430 d_X14_statement_270 (by decide) ?_
      exact g_vret hF rfl d_X14_statement_430 ⟨rfl, w82⟩
    have w83 := w80.2 q25_7
    refine (Decidable.em ((σ 2 (σ 0 10).toNatClampNeg).toInt = 13)).elim (fun q25_8 => ?_) (fun q25_8 => ?_)
    · have w84 := w83.1 q25_8
      refine g_tableIn (off := 248) hF 273 d_X14_statement_25 q25_8 (by decide) (by decide) (by decide +kernel) (by decide) ?_
      refine g_aload_n hF d_X14_statement_273 rfl 1 rfl ?_
      refine g_iload_n hF d_X14_statement_274 rfl 2 rfl ?_
      refine g_iload_n hF d_X14_statement_275 rfl 0 rfl ?_
      refine g_callV (As := [.int a1, .int (σ 0 10)]) (rest := []) hF (fun l D cy => (hKforStatement hcap w84) l D cy) (Nat.le_refl _) mV_X14_forStatement m_2612 (recv_ob obM_0) rfl rfl (Nat.le_of_ble_eq_true rfl) d_X14_statement_276 (kV (fun s276 t276 z276 w85 => ?_)) (fun σ9 τ9 vs9 h9 => g_out hF stopM rfl h9)
      refine g_goto hF 430 d_X14_statement_279 (by decide) ?_
      exact g_vret hF rfl d_X14_statement_430 ⟨rfl, w85⟩
    have w86 := w83.2 q25_8
    refine (Decidable.em ((σ 2 (σ 0 10).toNatClampNeg).toInt = 14)).elim (fun q25_9 => ?_) (fun q25_9 => ?_)
    · have w87 := w86.1 q25_9
      refine g_tableIn (off := 257) hF 282 d_X14_statement_25 q25_9 (by decide) (by decide) (by decide +kernel) (by decide) ?_
      refine g_aload_n hF d_X14_statement_282 rfl 1 rfl ?_
      refine g_get (v := .ref (r 2)) hF 3 obM_0 (by decide) m_1868 rfl d_X14_statement_283 ?_
      refine g_aload_n hF d_X14_statement_286 rfl 1 rfl ?_
      refine g_get (v := .int (σ 0 10)) hF 10 obM_0 (by decide) m_1875 rfl d_X14_statement_287 ?_
      have w88 := w87.2
      refine g_iald hF arM_2 (s_in (Nat.le_of_ble_eq_true rfl) w87.1.1 w87.1.2) d_X14_statement_290 ?_
      refine g_top (v := (σ 2 (σ 0 10).toNatClampNeg)) rfl ?_
      refine g_bipush hF (v := 14) d_X14_statement_291 (by decide) ?_
      obtain ⟨J301, h301, w89⟩ := w88
      have b301 : ∀ (y0_301 : Int32), y0_301 = 0 ∨ y0_301 = 1 → J301 y0_301 → G SM r X σ τ vs [(0, .ref (r 0)), (2, .int (σ 0 10))] [.int y0_301] 301 := by
        intro y0_301 hy0_301 w301_
        have w301_ := h301 y0_301 hy0_301 w301_
        refine g_istore_n hF [(3, .int y0_301), (0, .ref (r 0)), (2, .int (σ 0 10))] d_X14_statement_301 rfl hnn (by decide) rfl ?_
        refine g_aload_n hF d_X14_statement_302 rfl 1 rfl ?_
        refine g_dup hF d_X14_statement_303 rfl ?_
        refine g_get (v := .int (σ 0 10)) hF 10 obM_0 (by decide) m_1875 rfl d_X14_statement_304 ?_
        refine g_iconst hF (v := 1) d_X14_statement_307 (by decide) ?_
        refine g_iadd hF d_X14_statement_308 ?_
        refine g_put (v := ((σ 0 10) + (1 : Int32))) hF 10 obM_0 (by decide) m_1875 rfl rfl rfl d_X14_statement_309 ?_
        refine g_aload_n hF d_X14_statement_312 rfl 1 rfl ?_
        refine g_bipush hF (v := 27) d_X14_statement_313 (by decide) ?_
        refine g_callV (As := [.int 27]) (rest := []) hF (fun l D cy => (ct_expect a r hcap w301_) l D cy) (Nat.add_le_add_right (Nat.le_trans (Nat.le_of_ble_eq_true rfl) hdK) 1) mV_X14_expect m_2285 (recv_ob obM_0) rfl rfl (Nat.le_of_ble_eq_true rfl) d_X14_statement_315 (kV (fun s315 t315 z315 w90 => ?_)) (fun σ9 τ9 vs9 h9 => g_out hF stopM rfl h9)
        refine g_aload_n hF d_X14_statement_318 rfl 1 rfl ?_
        refine g_aload_n hF d_X14_statement_319 rfl 1 rfl ?_
        refine g_get (v := .int (s315 0 57)) hF 57 obM_0 (by decide) m_1922 rfl d_X14_statement_320 ?_
        obtain ⟨J331, h331, w91⟩ := w90
        have b331 : ∀ (y1_331 : Int32), y1_331 = 0 ∨ y1_331 = 1 → J331 y1_331 → G SM r X s315 t315 z315 [(0, .ref (r 0)), (2, .int (σ 0 10)), (3, .int y0_301)] [.int y1_331, .ref (r 0)] 331 := by
          intro y1_331 hy1_331 w331_
          have w331_ := h331 y1_331 hy1_331 w331_
          refine g_iload_n hF d_X14_statement_331 rfl 1 rfl ?_
          refine g_cap (fun hc91 => ?_)
          refine g_callV (As := [.int y1_331, .int (σ 0 10)]) (rest := []) hF (fun l D cy => (ct_must a r hc91 w331_) l D cy) (Nat.add_le_add_right (Nat.le_trans (Nat.le_of_ble_eq_true rfl) hdK) 1) mV_X14_must m_2313 (recv_ob obM_0) rfl rfl (Nat.le_of_ble_eq_true rfl) d_X14_statement_332 (kV (fun s332 t332 z332 w93 => ?_)) (fun _ _ _ h => h.elim)
          refine g_aload_n hF d_X14_statement_335 rfl 0 rfl ?_
          refine g_bipush hF (v := 15) d_X14_statement_336 (by decide) ?_
          refine g_iload_n hF d_X14_statement_338 rfl 2 rfl ?_
          obtain ⟨J353, h353, w94⟩ := w93
          have b353 : ∀ (y2_353 : Int32), J353 y2_353 → G SM r X s332 t332 z332 [(0, .ref (r 0)), (3, .int y0_301)] [.int y2_353, .int 15, .ref (r 0)] 353 := by
            intro y2_353  w353_
            have w353_ := h353 y2_353  w353_
            refine g_cap (fun hc94 => ?_)
            refine g_callV (As := [.int 15, .int y2_353]) (rest := []) hF (fun l D cy => (ct_put_1 a r hc94 w353_) l D cy) (Nat.add_le_add_right (Nat.le_trans (Nat.le_of_ble_eq_true rfl) hdK) 1) mV_X14_put_1 m_2433 (recv_ob obM_0) rfl rfl (Nat.le_of_ble_eq_true rfl) d_X14_statement_353 (kV (fun s353 t353 z353 w96 => ?_)) (fun _ _ _ h => h.elim)
            refine g_iload_n hF d_X14_statement_356 rfl 1 rfl ?_
            refine g_if_eq hF 373 d_X14_statement_357 (by decide) rfl (fun c => ?_) (fun c => ?_)
            · have w97 := w96.1 c
              refine g_aload_n hF d_X14_statement_373 rfl 0 rfl ?_
              refine g_aload_n hF d_X14_statement_374 rfl 0 rfl ?_
              refine g_get (v := .int (s353 0 17)) hF 17 obM_0 (by decide) m_1882 rfl d_X14_statement_375 ?_
              refine g_iconst hF (v := 1) d_X14_statement_378 (by decide) ?_
              refine g_isub hF d_X14_statement_379 ?_
              refine g_put (v := ((s353 0 17) - (1 : Int32))) hF 59 obM_0 (by decide) m_1924 rfl rfl rfl d_X14_statement_380 ?_
              refine g_goto hF 430 d_X14_statement_383 (by decide) ?_
              exact g_vret hF rfl d_X14_statement_430 ⟨rfl, w97⟩
            · have w98 := w96.2 c
              refine g_aload_n hF d_X14_statement_360 rfl 0 rfl ?_
              refine g_aload_n hF d_X14_statement_361 rfl 0 rfl ?_
              refine g_get (v := .int (s353 0 17)) hF 17 obM_0 (by decide) m_1882 rfl d_X14_statement_362 ?_
              refine g_iconst hF (v := 1) d_X14_statement_365 (by decide) ?_
              refine g_isub hF d_X14_statement_366 ?_
              refine g_put (v := ((s353 0 17) - (1 : Int32))) hF 58 obM_0 (by decide) m_1923 rfl rfl rfl d_X14_statement_367 ?_
              refine g_goto hF 430 d_X14_statement_370 (by decide) ?_
              exact g_vret hF rfl d_X14_statement_430 ⟨rfl, w98⟩
          refine g_if_eq hF 349 d_X14_statement_339 (by decide) rfl (fun c => ?_) (fun c => ?_)
          · have w99 := w94.1 c
            refine g_aload_n hF d_X14_statement_349 rfl 0 rfl ?_
            refine g_get (v := .int (s332 0 59)) hF 59 obM_0 (by decide) m_1924 rfl d_X14_statement_350 ?_
            exact g_sub (L' := [(0, .ref (r 0)), (3, .int y0_301)]) [0, 2] rfl (b353 (s332 0 59) w99)
          · have w100 := w94.2 c
            refine g_aload_n hF d_X14_statement_342 rfl 0 rfl ?_
            refine g_get (v := .int (s332 0 58)) hF 58 obM_0 (by decide) m_1923 rfl d_X14_statement_343 ?_
            refine g_goto hF 353 d_X14_statement_346 (by decide) ?_
            exact g_sub (L' := [(0, .ref (r 0)), (3, .int y0_301)]) [0, 2] rfl (b353 (s332 0 58) w100)
        refine g_if_le hF 330 d_X14_statement_323 (by decide) rfl (fun c => ?_) (fun c => ?_)
        · have w101 := w91.1 c
          refine g_iconst hF (v := 0) d_X14_statement_330 (by decide) ?_
          exact g_sub (L' := [(0, .ref (r 0)), (2, .int (σ 0 10)), (3, .int y0_301)]) [1, 2, 0] rfl (b331 (0 : Int32) (Or.inl rfl) w101)
        · have w102 := w91.2 c
          refine g_iconst hF (v := 1) d_X14_statement_326 (by decide) ?_
          refine g_goto hF 331 d_X14_statement_327 (by decide) ?_
          exact g_sub (L' := [(0, .ref (r 0)), (2, .int (σ 0 10)), (3, .int y0_301)]) [1, 2, 0] rfl (b331 (1 : Int32) (Or.inr rfl) w102)
      refine g_icmp_ne (yv := 14) hF 300 d_X14_statement_293 (by decide) rfl (by decide) (fun c => ?_) (fun c => ?_)
      · have w103 := w89.1 c
        refine g_iconst hF (v := 0) d_X14_statement_300 (by decide) ?_
        exact g_sub (L' := [(0, .ref (r 0)), (2, .int (σ 0 10))]) [1, 0] rfl (b301 (0 : Int32) (Or.inl rfl) w103)
      · have w104 := w89.2 c
        refine g_iconst hF (v := 1) d_X14_statement_296 (by decide) ?_
        refine g_goto hF 301 d_X14_statement_297 (by decide) ?_
        exact g_sub (L' := [(0, .ref (r 0)), (2, .int (σ 0 10))]) [1, 0] rfl (b301 (1 : Int32) (Or.inr rfl) w104)
    have w105 := w86.2 q25_9
    refine (Decidable.em ((σ 2 (σ 0 10).toNatClampNeg).toInt = 15)).elim (fun q25_10 => ?_) (fun q25_10 => ?_)
    · have w106 := w105.1 q25_10
      refine g_tableIn (off := 257) hF 282 d_X14_statement_25 q25_10 (by decide) (by decide) (by decide +kernel) (by decide) ?_
      refine g_aload_n hF d_X14_statement_282 rfl 1 rfl ?_
      refine g_get (v := .ref (r 2)) hF 3 obM_0 (by decide) m_1868 rfl d_X14_statement_283 ?_
      refine g_aload_n hF d_X14_statement_286 rfl 1 rfl ?_
      refine g_get (v := .int (σ 0 10)) hF 10 obM_0 (by decide) m_1875 rfl d_X14_statement_287 ?_
      have w107 := w106.2
      refine g_iald hF arM_2 (s_in (Nat.le_of_ble_eq_true rfl) w106.1.1 w106.1.2) d_X14_statement_290 ?_
      refine g_top (v := (σ 2 (σ 0 10).toNatClampNeg)) rfl ?_
      refine g_bipush hF (v := 14) d_X14_statement_291 (by decide) ?_
      refine g_icmp_ne (yv := 14) hF 300 d_X14_statement_293 (by decide) rfl (by decide) (fun c => ?_) (fun c => ?_)
      · have w108 := w107.1 c
        refine g_iconst hF (v := 0) d_X14_statement_300 (by decide) ?_
        exact g_sub (L' := [(0, .ref (r 0)), (2, .int (σ 0 10))]) [1, 0] rfl (b301 (0 : Int32) (Or.inl rfl) w108)
      · have w109 := w107.2 c
        refine g_iconst hF (v := 1) d_X14_statement_296 (by decide) ?_
        refine g_goto hF 301 d_X14_statement_297 (by decide) ?_
        exact g_sub (L' := [(0, .ref (r 0)), (2, .int (σ 0 10))]) [1, 0] rfl (b301 (1 : Int32) (Or.inr rfl) w109)
    have w110 := w105.2 q25_10
    refine (Decidable.em ((σ 2 (σ 0 10).toNatClampNeg).toInt = 16)).elim (fun q25_11 => ?_) (fun q25_11 => ?_)
    · have w111 := w110.1 q25_11
      refine g_tableIn (off := 361) hF 386 d_X14_statement_25 q25_11 (by decide) (by decide) (by decide +kernel) (by decide) ?_
      refine g_aload_n hF d_X14_statement_386 rfl 1 rfl ?_
      refine g_iload_n hF d_X14_statement_387 rfl 0 rfl ?_
      refine g_callV (As := [.int (σ 0 10)]) (rest := []) hF (fun l D cy => (ct_returnStatement a r hcap w111) l D cy) (Nat.add_le_add_right (Nat.le_trans (Nat.le_of_ble_eq_true rfl) hdK) 1) mV_X14_returnStatement m_2624 (recv_ob obM_0) rfl rfl (Nat.le_of_ble_eq_true rfl) d_X14_statement_388 (kV (fun s388 t388 z388 w112 => ?_)) (fun σ9 τ9 vs9 h9 => g_out hF stopM rfl h9)
      refine g_goto hF 430 d_X14_statement_391 (by decide) ?_
      exact g_vret hF rfl d_X14_statement_430 ⟨rfl, w112⟩
    have w113 := w110.2 q25_11
    refine g_tableOut hF 394 d_X14_statement_25 rfl (tbo_5_16 q25_0 q25_1 q25_2 q25_3 q25_4 q25_5 q25_6 q25_7 q25_8 q25_9 q25_10 q25_11) (by decide) ?_
    refine g_aload_n hF d_X14_statement_394 rfl 1 rfl ?_
    refine g_bipush hF (v := 22) d_X14_statement_395 (by decide) ?_
    refine g_callV (As := [.int 22]) (rest := []) hF (fun l D cy => (ct_is a r hcap w113) l D cy) (Nat.add_le_add_right (Nat.le_trans (Nat.le_of_ble_eq_true rfl) hdK) 1) mV_X14_is m_2289 (recv_ob obM_0) rfl rfl (Nat.le_of_ble_eq_true rfl) d_X14_statement_397 (krZ (fun v397 hz397 w114 => ?_)) (fun _ _ _ h => h.elim)
    refine g_if_eq hF 411 d_X14_statement_400 (by decide) rfl (fun c => ?_) (fun c => ?_)
    · have w115 := w114.1 c
      refine g_aload_n hF d_X14_statement_411 rfl 1 rfl ?_
      refine g_bipush hF (v := 27) d_X14_statement_412 (by decide) ?_
      refine g_callV (As := [.int 27]) (rest := []) hF (fun l D cy => (ct_is a r hcap w115) l D cy) (Nat.add_le_add_right (Nat.le_trans (Nat.le_of_ble_eq_true rfl) hdK) 1) mV_X14_is m_2289 (recv_ob obM_0) rfl rfl (Nat.le_of_ble_eq_true rfl) d_X14_statement_414 (krZ (fun v414 hz414 w116 => ?_)) (fun _ _ _ h => h.elim)
      refine g_if_ne hF 424 d_X14_statement_417 (by decide) rfl (fun c => ?_) (fun c => ?_)
      · have w117 := w116.1 c
        exact g_sub (L' := [(0, .ref (r 0))]) [1] rfl (b424 σ τ vs w117)
      · have w118 := w116.2 c
        refine g_aload_n hF d_X14_statement_420 rfl 1 rfl ?_
        refine g_callV (As := []) (rest := []) hF (fun l D cy => (ct_plain a r hcap w118) l D cy) (Nat.add_le_add_right (Nat.le_trans (Nat.le_of_ble_eq_true rfl) hdK) 1) mV_X14_plain m_2616 (recv_ob obM_0) rfl rfl (Nat.le_of_ble_eq_true rfl) d_X14_statement_421 (kV (fun s421 t421 z421 w119 => ?_)) (fun σ9 τ9 vs9 h9 => g_out hF stopM rfl h9)
        exact g_sub (L' := [(0, .ref (r 0))]) [1] rfl (b424 s421 t421 z421 w119)
    · have w120 := w114.2 c
      refine g_aload_n hF d_X14_statement_403 rfl 1 rfl ?_
      refine g_iload_n hF d_X14_statement_404 rfl 2 rfl ?_
      refine g_callV (As := [.int a1]) (rest := []) hF (fun l D cy => (hKblock hcap w120) l D cy) (Nat.le_refl _) mV_X14_block m_2628 (recv_ob obM_0) rfl rfl (Nat.le_of_ble_eq_true rfl) d_X14_statement_405 (kV (fun s405 t405 z405 w121 => ?_)) (fun σ9 τ9 vs9 h9 => g_out hF stopM rfl h9)
      refine g_goto hF 430 d_X14_statement_408 (by decide) ?_
      exact g_vret hF rfl d_X14_statement_430 ⟨rfl, w121⟩
  · have w122 := w.2 c
    refine g_aload_n hF d_X14_statement_6 rfl 0 rfl ?_
    refine g_callV (As := []) (rest := []) hF (fun l D cy => (ct_wrong a r hcap w122) l D cy) (Nat.add_le_add_right (Nat.le_trans (Nat.le_of_ble_eq_true rfl) hdK) 1) mV_X14_wrong m_2261 (recv_ob obM_0) rfl rfl (Nat.le_of_ble_eq_true rfl) d_X14_statement_7 (kX (fun s7 t7 z7 w123 => ?_)) (fun _ _ _ h => h.elim)
    exact g_athrow hF d_X14_statement_10 (g_out hF stopM rfl w123)
abbrev KTS : Type := (Int32 → St → St → List Nat → (St → St → List Nat → Prop) → (St → St → List Nat → Prop) → Prop) × (Int32 → St → St → List Nat → (St → St → List Nat → Prop) → (St → St → List Nat → Prop) → Prop) × (Int32 → St → St → List Nat → (St → St → List Nat → Prop) → (St → St → List Nat → Prop) → Prop) × (Int32 → Int32 → Int32 → St → St → List Nat → (St → St → List Nat → Prop) → (St → St → List Nat → Prop) → Prop) × (Int32 → Int32 → St → St → List Nat → (St → St → List Nat → Prop) → (St → St → List Nat → Prop) → Prop) × (Int32 → Int32 → St → St → List Nat → (St → St → List Nat → Prop) → (St → St → List Nat → Prop) → Prop)
def KKS : Nat → KTS
  | 0 => (fun _ _ _ _ _ _ => False, fun _ _ _ _ _ _ => False, fun _ _ _ _ _ _ => False, fun _ _ _ _ _ _ _ _ => False, fun _ _ _ _ _ _ _ => False, fun _ _ _ _ _ _ _ => False)
  | n + 1 => (wp_statement ((KKS n).1) ((KKS n).2.1) ((KKS n).2.2.1) ((KKS n).2.2.2.1) ((KKS n).2.2.2.2.1) ((KKS n).2.2.2.2.2), wp_inner ((KKS n).1) ((KKS n).2.1) ((KKS n).2.2.1) ((KKS n).2.2.2.1) ((KKS n).2.2.2.2.1) ((KKS n).2.2.2.2.2), wp_block ((KKS n).1) ((KKS n).2.1) ((KKS n).2.2.1) ((KKS n).2.2.2.1) ((KKS n).2.2.2.2.1) ((KKS n).2.2.2.2.2), wp_loop ((KKS n).1) ((KKS n).2.1) ((KKS n).2.2.1) ((KKS n).2.2.2.1) ((KKS n).2.2.2.2.1) ((KKS n).2.2.2.2.2), wp_doStatement ((KKS n).1) ((KKS n).2.1) ((KKS n).2.2.1) ((KKS n).2.2.2.1) ((KKS n).2.2.2.2.1) ((KKS n).2.2.2.2.2), wp_forStatement ((KKS n).1) ((KKS n).2.1) ((KKS n).2.2.1) ((KKS n).2.2.2.1) ((KKS n).2.2.2.2.1) ((KKS n).2.2.2.2.2))
set_option maxHeartbeats 4000000 in
theorem ckS (a : Nat → Nat) (r : Nat → Nat) (n : Nat) : (∀ {a1 : Int32} {σ τ : St} {vs : List Nat} {Q : St → St → List Nat → Prop} {T : St → St → List Nat → Prop}, vs.length ≤ CAP → (KKS n).1 a1 σ τ vs Q T → ∀ (l : Launch) (D : va_G) (cy : Nat → ClassId), Ct l D cy SM r (EM a) y_X14_statement (Cond.code y_X14_statement b_X14_statement 6 none) (610 + n) [.ref (r 0), .int a1] σ τ vs (QVs Q) T) ∧ (∀ {a1 : Int32} {σ τ : St} {vs : List Nat} {Q : St → St → List Nat → Prop} {T : St → St → List Nat → Prop}, vs.length ≤ CAP → (KKS n).2.1 a1 σ τ vs Q T → ∀ (l : Launch) (D : va_G) (cy : Nat → ClassId), Ct l D cy SM r (EM a) y_X14_inner (Cond.code y_X14_inner b_X14_inner 2 none) (610 + n) [.ref (r 0), .int a1] σ τ vs (QVs Q) T) ∧ (∀ {a1 : Int32} {σ τ : St} {vs : List Nat} {Q : St → St → List Nat → Prop} {T : St → St → List Nat → Prop}, vs.length ≤ CAP → (KKS n).2.2.1 a1 σ τ vs Q T → ∀ (l : Launch) (D : va_G) (cy : Nat → ClassId), Ct l D cy SM r (EM a) y_X14_block (Cond.code y_X14_block b_X14_block 2 none) (610 + n) [.ref (r 0), .int a1] σ τ vs (QVs Q) T) ∧ (∀ {a1 : Int32} {a2 : Int32} {a3 : Int32} {σ τ : St} {vs : List Nat} {Q : St → St → List Nat → Prop} {T : St → St → List Nat → Prop}, vs.length ≤ CAP → (KKS n).2.2.2.1 a1 a2 a3 σ τ vs Q T → ∀ (l : Launch) (D : va_G) (cy : Nat → ClassId), Ct l D cy SM r (EM a) y_X14_loop (Cond.code y_X14_loop b_X14_loop 6 none) (610 + n) [.ref (r 0), .int a1, .int a2, .int a3] σ τ vs (QVs Q) T) ∧ (∀ {a1 : Int32} {a2 : Int32} {σ τ : St} {vs : List Nat} {Q : St → St → List Nat → Prop} {T : St → St → List Nat → Prop}, vs.length ≤ CAP → (KKS n).2.2.2.2.1 a1 a2 σ τ vs Q T → ∀ (l : Launch) (D : va_G) (cy : Nat → ClassId), Ct l D cy SM r (EM a) y_X14_doStatement (Cond.code y_X14_doStatement b_X14_doStatement 6 none) (610 + n) [.ref (r 0), .int a1, .int a2] σ τ vs (QVs Q) T) ∧ (∀ {a1 : Int32} {a2 : Int32} {σ τ : St} {vs : List Nat} {Q : St → St → List Nat → Prop} {T : St → St → List Nat → Prop}, vs.length ≤ CAP → (KKS n).2.2.2.2.2 a1 a2 σ τ vs Q T → ∀ (l : Launch) (D : va_G) (cy : Nat → ClassId), Ct l D cy SM r (EM a) y_X14_forStatement (Cond.code y_X14_forStatement b_X14_forStatement 8 none) (610 + n) [.ref (r 0), .int a1, .int a2] σ τ vs (QVs Q) T) := by
  induction n with
  | zero => exact ⟨fun _ h => h.elim, fun _ h => h.elim, fun _ h => h.elim, fun _ h => h.elim, fun _ h => h.elim, fun _ h => h.elim⟩
  | succ n ih =>
    obtain ⟨hstatement, hinner, hblock, hloop, hdoStatement, hforStatement⟩ := ih
    exact ⟨fun hc w => ct_statement a r (610 + n) (by omega) _ _ _ _ _ _ hinner hblock hloop hdoStatement hforStatement hc w, fun hc w => ct_inner a r (610 + n) (by omega) _ _ _ _ _ _ hstatement hc w, fun hc w => ct_block a r (610 + n) (by omega) _ _ _ _ _ _ hstatement hc w, fun hc w => ct_loop a r (610 + n) (by omega) _ _ _ _ _ _ hinner hc w, fun hc w => ct_doStatement a r (610 + n) (by omega) _ _ _ _ _ _ hloop hc w, fun hc w => ct_forStatement a r (610 + n) (by omega) _ _ _ _ _ _ hloop hc w⟩
def wpS_statement : Int32 → St → St → List Nat → (St → St → List Nat → Prop) → (St → St → List Nat → Prop) → Prop := (KKS 120).1
theorem ctS_statement (a : Nat → Nat) (r : Nat → Nat) {a1 : Int32} {σ τ : St} {vs : List Nat} {Q : St → St → List Nat → Prop} {T : St → St → List Nat → Prop} (hcap : vs.length ≤ CAP) (w : wpS_statement a1 σ τ vs Q T) (l : Launch) (D : va_G) (cy : Nat → ClassId) : Ct l D cy SM r (EM a) y_X14_statement (Cond.code y_X14_statement b_X14_statement 6 none) 730 [.ref (r 0), .int a1] σ τ vs (QVs Q) T := (ckS a r 120).1 hcap w l D cy
def wpS_inner : Int32 → St → St → List Nat → (St → St → List Nat → Prop) → (St → St → List Nat → Prop) → Prop := (KKS 120).2.1
theorem ctS_inner (a : Nat → Nat) (r : Nat → Nat) {a1 : Int32} {σ τ : St} {vs : List Nat} {Q : St → St → List Nat → Prop} {T : St → St → List Nat → Prop} (hcap : vs.length ≤ CAP) (w : wpS_inner a1 σ τ vs Q T) (l : Launch) (D : va_G) (cy : Nat → ClassId) : Ct l D cy SM r (EM a) y_X14_inner (Cond.code y_X14_inner b_X14_inner 2 none) 730 [.ref (r 0), .int a1] σ τ vs (QVs Q) T := (ckS a r 120).2.1 hcap w l D cy
def wpS_block : Int32 → St → St → List Nat → (St → St → List Nat → Prop) → (St → St → List Nat → Prop) → Prop := (KKS 120).2.2.1
theorem ctS_block (a : Nat → Nat) (r : Nat → Nat) {a1 : Int32} {σ τ : St} {vs : List Nat} {Q : St → St → List Nat → Prop} {T : St → St → List Nat → Prop} (hcap : vs.length ≤ CAP) (w : wpS_block a1 σ τ vs Q T) (l : Launch) (D : va_G) (cy : Nat → ClassId) : Ct l D cy SM r (EM a) y_X14_block (Cond.code y_X14_block b_X14_block 2 none) 730 [.ref (r 0), .int a1] σ τ vs (QVs Q) T := (ckS a r 120).2.2.1 hcap w l D cy
def wpS_loop : Int32 → Int32 → Int32 → St → St → List Nat → (St → St → List Nat → Prop) → (St → St → List Nat → Prop) → Prop := (KKS 120).2.2.2.1
theorem ctS_loop (a : Nat → Nat) (r : Nat → Nat) {a1 : Int32} {a2 : Int32} {a3 : Int32} {σ τ : St} {vs : List Nat} {Q : St → St → List Nat → Prop} {T : St → St → List Nat → Prop} (hcap : vs.length ≤ CAP) (w : wpS_loop a1 a2 a3 σ τ vs Q T) (l : Launch) (D : va_G) (cy : Nat → ClassId) : Ct l D cy SM r (EM a) y_X14_loop (Cond.code y_X14_loop b_X14_loop 6 none) 730 [.ref (r 0), .int a1, .int a2, .int a3] σ τ vs (QVs Q) T := (ckS a r 120).2.2.2.1 hcap w l D cy
def wpS_doStatement : Int32 → Int32 → St → St → List Nat → (St → St → List Nat → Prop) → (St → St → List Nat → Prop) → Prop := (KKS 120).2.2.2.2.1
theorem ctS_doStatement (a : Nat → Nat) (r : Nat → Nat) {a1 : Int32} {a2 : Int32} {σ τ : St} {vs : List Nat} {Q : St → St → List Nat → Prop} {T : St → St → List Nat → Prop} (hcap : vs.length ≤ CAP) (w : wpS_doStatement a1 a2 σ τ vs Q T) (l : Launch) (D : va_G) (cy : Nat → ClassId) : Ct l D cy SM r (EM a) y_X14_doStatement (Cond.code y_X14_doStatement b_X14_doStatement 6 none) 730 [.ref (r 0), .int a1, .int a2] σ τ vs (QVs Q) T := (ckS a r 120).2.2.2.2.1 hcap w l D cy
def wpS_forStatement : Int32 → Int32 → St → St → List Nat → (St → St → List Nat → Prop) → (St → St → List Nat → Prop) → Prop := (KKS 120).2.2.2.2.2
theorem ctS_forStatement (a : Nat → Nat) (r : Nat → Nat) {a1 : Int32} {a2 : Int32} {σ τ : St} {vs : List Nat} {Q : St → St → List Nat → Prop} {T : St → St → List Nat → Prop} (hcap : vs.length ≤ CAP) (w : wpS_forStatement a1 a2 σ τ vs Q T) (l : Launch) (D : va_G) (cy : Nat → ClassId) : Ct l D cy SM r (EM a) y_X14_forStatement (Cond.code y_X14_forStatement b_X14_forStatement 8 none) 730 [.ref (r 0), .int a1, .int a2] σ τ vs (QVs Q) T := (ckS a r 120).2.2.2.2.2 hcap w l D cy
def wp_bodyOf (a1 : Int32) (σ τ : St) (vs : List Nat) (Q : St → St → List Nat → Prop) (T : St → St → List Nat → Prop) : Prop :=
  (∃ J11 : Int32 → Prop, (∀ (y1_11 : Int32), y1_11 = 0 ∨ y1_11 = 1 → J11 y1_11 → (∃ L54 : Nat → St → St → List Nat → Prop, (∃ n, L54 n (upC (upC (upC (upC (upC (upC σ 0 55 y1_11) 0 56 a1) 0 57 (0 : Int32)) 0 58 ((-1) : Int32)) 0 59 ((-1) : Int32)) 0 10 ((σ 0 10) + (1 : Int32))) τ vs) ∧ ∀ (n54 : Nat) (s54 t54 : St) (z54 : List Nat), L54 n54 s54 t54 z54 → (wp_is (23 : Int32) s54 t54 z54 (fun v57 => (v57.toInt ≠ 0 → (∃ J109 : St → St → List Nat → Prop, (∀ (s109 t109 : St) (z109 : List Nat), J109 s109 t109 z109 → (((σ 0 45).toInt ≠ 10000 → ((0 ≤ (σ 0 45).toInt ∧ (σ 0 45).toInt < 10000) ∧ ((0 ≤ (σ 0 45).toInt ∧ (σ 0 45).toInt < 10000) ∧ ((0 ≤ (σ 0 45).toInt ∧ (σ 0 45).toInt < 10000) ∧ ((0 ≤ (σ 0 45).toInt ∧ (σ 0 45).toInt < 10000) ∧ ∃ L165 : Nat → Int32 → Int32 → St → St → List Nat → Prop, (∃ n, L165 n (0 : Int32) (0 : Int32) (upC (upC (upC (upC (upC s109 0 53 (0 : Int32)) 26 (σ 0 45).toNatClampNeg (σ 0 17)) 27 (σ 0 45).toNatClampNeg (s109 0 35)) 28 (σ 0 45).toNatClampNeg (s109 0 49)) 29 (σ 0 45).toNatClampNeg (s109 0 17)) t109 z109) ∧ ∀ (n165 : Nat) (x4_165 : Int32) (x5_165 : Int32) (s165 t165 : St) (z165 : List Nat), L165 n165 x4_165 x5_165 s165 t165 z165 → (((s165 0 49).toInt ≤ x5_165.toInt → ((0 ≤ (σ 0 45).toInt ∧ (σ 0 45).toInt < 10000) ∧ ((0 ≤ (σ 0 45).toInt ∧ (σ 0 45).toInt < 10000) ∧ Q (upC (upC (upC s165 30 (σ 0 45).toNatClampNeg x4_165) 54 (σ 0 45).toNatClampNeg (s165 0 65)) 0 45 ((σ 0 45) + (1 : Int32))) t165 z165))) ∧ (x5_165.toInt < (s165 0 49).toInt → ((0 ≤ x5_165.toInt ∧ x5_165.toInt < 100) ∧ (∃ J199 : Int32 → Prop, (∀ (y0_199 : Int32), y0_199 = 0 ∨ y0_199 = 1 → J199 y0_199 → ((∃ J213 : Int32 → Prop, (∀ (y1_213 : Int32), J213 y1_213 → (((0 ≤ x5_165.toInt ∧ x5_165.toInt < 100) ∧ wp_put_1 y1_213 (if (s165 32 x5_165.toNatClampNeg) < (0 : Int32) then (0 : Int32) else (s165 32 x5_165.toNatClampNeg)) s165 t165 z165 (fun s224 t224 z224 => (∃ J248 : Int32 → Prop, (∀ (x4_248 : Int32), J248 x4_248 → (∃ m, m < n165 ∧ L165 m x4_248 (x5_165 + 1) s224 t224 z224)) ∧ (y0_199.toInt = 0 → J248 x4_165) ∧ (y0_199.toInt ≠ 0 → ((0 ≤ x5_165.toInt ∧ x5_165.toInt < 100) ∧ J248 (x4_165 + (if (s224 32 x5_165.toNatClampNeg) < (1 : Int32) then (1 : Int32) else (s224 32 x5_165.toNatClampNeg)))))))))) ∧ (y0_199.toInt = 0 → J213 ((-1) : Int32)) ∧ (y0_199.toInt ≠ 0 → J213 x4_165)))) ∧ (∃ J194 : Prop, (J194  → (J199 (1 : Int32))) ∧ ((s165 33 x5_165.toNatClampNeg).toInt ≠ 0 → J194) ∧ ((s165 33 x5_165.toNatClampNeg).toInt = 0 → ((0 ≤ x5_165.toInt ∧ x5_165.toInt < 100) ∧ ((s165 32 x5_165.toNatClampNeg).toInt < 0 → J199 (0 : Int32)) ∧ (0 ≤ (s165 32 x5_165.toNatClampNeg).toInt → J194))))))))))))) ∧ ((σ 0 45).toInt = 10000 → Q (upC s109 0 53 (0 : Int32)) t109 z109))) ∧ ((s54 0 55).toInt = 0 → wp_put_1 (0 : Int32) (0 : Int32) (upC s54 0 10 ((s54 0 10) + (1 : Int32))) t54 z54 (fun s100 t100 z100 => wp_put_0 (21 : Int32) s100 t100 z100 (fun s106 t106 z106 => J109 s106 t106 z106))) ∧ ((s54 0 55).toInt ≠ 0 → wp_put_0 (20 : Int32) (upC s54 0 10 ((s54 0 10) + (1 : Int32))) t54 z54 (fun s91 t91 z91 => J109 s91 t91 z91)))) ∧ (v57.toInt = 0 → wpS_statement (1 : Int32) s54 t54 z54 (fun s65 t65 z65 => ∃ m, m < n54 ∧ L54 m s65 t65 z65) T))))) ∧ (a1.toInt ≠ -1 → J11 (0 : Int32)) ∧ (a1.toInt = -1 → J11 (1 : Int32)))
set_option maxHeartbeats 4000000 in
set_option maxRecDepth 100000 in
theorem ct_bodyOf (a : Nat → Nat) (r : Nat → Nat) {a1 : Int32} {σ τ : St} {vs : List Nat} {Q : St → St → List Nat → Prop} {T : St → St → List Nat → Prop} (hcap : vs.length ≤ CAP) (w : wp_bodyOf a1 σ τ vs Q T) (l : Launch) (D : va_G) (cy : Nat → ClassId) : Ct l D cy SM r (EM a) y_X14_bodyOf (Cond.code y_X14_bodyOf b_X14_bodyOf 7 none) 731 [.ref (r 0), .int a1] σ τ vs (QVs Q) T := by
  unfold wp_bodyOf at w
  refine Ct_of (EM_ok a) (by decide) (Nat.le_of_ble_eq_true rfl) hcap (fun X hnn hF => ?_)
  show G SM r X σ τ vs [(0, .ref (r 0)), (1, .int a1)] [] 0
  refine g_aload_n hF d_X14_bodyOf_0 rfl 0 rfl ?_
  refine g_iload_n hF d_X14_bodyOf_1 rfl 1 rfl ?_
  refine g_iconst hF (v := (-1)) d_X14_bodyOf_2 (by decide) ?_
  obtain ⟨J11, h11, w1⟩ := w
  have b11 : ∀ (y1_11 : Int32), y1_11 = 0 ∨ y1_11 = 1 → J11 y1_11 → G SM r X σ τ vs [(0, .ref (r 0)), (1, .int a1)] [.int y1_11, .ref (r 0)] 11 := by
    intro y1_11 hy1_11 w11_
    have w11_ := h11 y1_11 hy1_11 w11_
    refine g_putZ (v := y1_11) hF 55 obM_0 (by decide) m_1920 rfl rfl rfl hy1_11 d_X14_bodyOf_11 ?_
    refine g_aload_n hF d_X14_bodyOf_14 rfl 0 rfl ?_
    refine g_iload_n hF d_X14_bodyOf_15 rfl 1 rfl ?_
    refine g_put (v := a1) hF 56 obM_0 (by decide) m_1921 rfl rfl rfl d_X14_bodyOf_16 ?_
    refine g_aload_n hF d_X14_bodyOf_19 rfl 0 rfl ?_
    refine g_iconst hF (v := 0) d_X14_bodyOf_20 (by decide) ?_
    refine g_put (v := 0) hF 57 obM_0 (by decide) m_1922 rfl rfl rfl d_X14_bodyOf_21 ?_
    refine g_aload_n hF d_X14_bodyOf_24 rfl 0 rfl ?_
    refine g_iconst hF (v := (-1)) d_X14_bodyOf_25 (by decide) ?_
    refine g_put (v := (-1)) hF 58 obM_0 (by decide) m_1923 rfl rfl rfl d_X14_bodyOf_26 ?_
    refine g_aload_n hF d_X14_bodyOf_29 rfl 0 rfl ?_
    refine g_iconst hF (v := (-1)) d_X14_bodyOf_30 (by decide) ?_
    refine g_put (v := (-1)) hF 59 obM_0 (by decide) m_1924 rfl rfl rfl d_X14_bodyOf_31 ?_
    refine g_aload_n hF d_X14_bodyOf_34 rfl 0 rfl ?_
    refine g_get (v := .int (σ 0 17)) hF 17 obM_0 (by decide) m_1882 rfl d_X14_bodyOf_35 ?_
    refine g_istore_n hF [(2, .int (σ 0 17)), (0, .ref (r 0)), (1, .int a1)] d_X14_bodyOf_38 rfl hnn (by decide) rfl ?_
    refine g_aload_n hF d_X14_bodyOf_39 rfl 1 rfl ?_
    refine g_get (v := .int (σ 0 45)) hF 45 obM_0 (by decide) m_1910 rfl d_X14_bodyOf_40 ?_
    refine g_istore_n hF [(3, .int (σ 0 45)), (2, .int (σ 0 17)), (0, .ref (r 0)), (1, .int a1)] d_X14_bodyOf_43 rfl hnn (by decide) rfl ?_
    refine g_aload_n hF d_X14_bodyOf_44 rfl 2 rfl ?_
    refine g_dup hF d_X14_bodyOf_45 rfl ?_
    refine g_get (v := .int (σ 0 10)) hF 10 obM_0 (by decide) m_1875 rfl d_X14_bodyOf_46 ?_
    refine g_iconst hF (v := 1) d_X14_bodyOf_49 (by decide) ?_
    refine g_iadd hF d_X14_bodyOf_50 ?_
    refine g_put (v := ((σ 0 10) + (1 : Int32))) hF 10 obM_0 (by decide) m_1875 rfl rfl rfl d_X14_bodyOf_51 ?_
    obtain ⟨L54, ⟨i54, u54⟩, h54⟩ := w11_
    have b54 : ∀ (n54 : Nat) (s54 t54 : St) (z54 : List Nat), L54 n54 s54 t54 z54 → G SM r X s54 t54 z54 [(0, .ref (r 0)), (2, .int (σ 0 17)), (3, .int (σ 0 45))] [] 54 := by
      intro n54
      induction n54 using Nat.strongRecOn with
      | _ n54 ih54 =>
        intro s54 t54 z54  w54_
        have w54_ := h54 n54 s54 t54 z54  w54_
        refine g_aload_n hF d_X14_bodyOf_54 rfl 0 rfl ?_
        refine g_bipush hF (v := 23) d_X14_bodyOf_55 (by decide) ?_
        refine g_cap (fun hc1 => ?_)
        refine g_callV (As := [.int 23]) (rest := []) hF (fun l D cy => (ct_is a r hc1 w54_) l D cy) (Nat.le_of_ble_eq_true rfl) mV_X14_is m_2289 (recv_ob obM_0) rfl rfl (Nat.le_of_ble_eq_true rfl) d_X14_bodyOf_57 (krZ (fun v57 hz57 w3 => ?_)) (fun _ _ _ h => h.elim)
        refine g_if_ne hF 71 d_X14_bodyOf_60 (by decide) rfl (fun c => ?_) (fun c => ?_)
        · have w4 := w3.1 c
          refine g_aload_n hF d_X14_bodyOf_71 rfl 0 rfl ?_
          refine g_dup hF d_X14_bodyOf_72 rfl ?_
          refine g_get (v := .int (s54 0 10)) hF 10 obM_0 (by decide) m_1875 rfl d_X14_bodyOf_73 ?_
          refine g_iconst hF (v := 1) d_X14_bodyOf_76 (by decide) ?_
          refine g_iadd hF d_X14_bodyOf_77 ?_
          refine g_put (v := ((s54 0 10) + (1 : Int32))) hF 10 obM_0 (by decide) m_1875 rfl rfl rfl d_X14_bodyOf_78 ?_
          refine g_aload_n hF d_X14_bodyOf_81 rfl 0 rfl ?_
          refine g_get (v := .int (s54 0 55)) hF 55 obM_0 (by decide) m_1920 rfl d_X14_bodyOf_82 ?_
          obtain ⟨J109, h109, w5⟩ := w4
          have b109 : ∀ (s109 t109 : St) (z109 : List Nat), J109 s109 t109 z109 → G SM r X s109 t109 z109 [(0, .ref (r 0)), (2, .int (σ 0 17)), (3, .int (σ 0 45))] [] 109 := by
            intro s109 t109 z109  w109_
            have w109_ := h109 s109 t109 z109  w109_
            refine g_aload_n hF d_X14_bodyOf_109 rfl 0 rfl ?_
            refine g_iconst hF (v := 0) d_X14_bodyOf_110 (by decide) ?_
            refine g_put (v := 0) hF 53 obM_0 (by decide) m_1918 rfl rfl rfl d_X14_bodyOf_111 ?_
            refine g_iload_n hF d_X14_bodyOf_114 rfl 2 rfl ?_
            refine g_sipush hF (v := 10000) d_X14_bodyOf_115 (by decide) ?_
            refine g_icmp_ne (yv := 10000) hF 122 d_X14_bodyOf_118 (by decide) rfl (by decide) (fun c => ?_) (fun c => ?_)
            · have w6 := w109_.1 c
              refine g_aload_n hF d_X14_bodyOf_122 rfl 0 rfl ?_
              refine g_get (v := .ref (r 26)) hF 40 obM_0 (by decide) m_1905 rfl d_X14_bodyOf_123 ?_
              refine g_iload_n hF d_X14_bodyOf_126 rfl 2 rfl ?_
              refine g_iload_n hF d_X14_bodyOf_127 rfl 1 rfl ?_
              have w7 := w6.2
              refine g_iast hF arM_26 (s_in (Nat.le_of_ble_eq_true rfl) w6.1.1 w6.1.2) d_X14_bodyOf_128 ?_
              refine g_aload_n hF d_X14_bodyOf_129 rfl 0 rfl ?_
              refine g_get (v := .ref (r 27)) hF 41 obM_0 (by decide) m_1906 rfl d_X14_bodyOf_130 ?_
              refine g_iload_n hF d_X14_bodyOf_133 rfl 2 rfl ?_
              refine g_aload_n hF d_X14_bodyOf_134 rfl 0 rfl ?_
              refine g_get (v := .int (s109 0 35)) hF 35 obM_0 (by decide) m_1900 rfl d_X14_bodyOf_135 ?_
              have w8 := w7.2
              refine g_iast hF arM_27 (s_in (Nat.le_of_ble_eq_true rfl) w7.1.1 w7.1.2) d_X14_bodyOf_138 ?_
              refine g_aload_n hF d_X14_bodyOf_139 rfl 0 rfl ?_
              refine g_get (v := .ref (r 28)) hF 42 obM_0 (by decide) m_1907 rfl d_X14_bodyOf_140 ?_
              refine g_iload_n hF d_X14_bodyOf_143 rfl 2 rfl ?_
              refine g_aload_n hF d_X14_bodyOf_144 rfl 0 rfl ?_
              refine g_get (v := .int (s109 0 49)) hF 49 obM_0 (by decide) m_1914 rfl d_X14_bodyOf_145 ?_
              have w9 := w8.2
              refine g_iast hF arM_28 (s_in (Nat.le_of_ble_eq_true rfl) w8.1.1 w8.1.2) d_X14_bodyOf_148 ?_
              refine g_aload_n hF d_X14_bodyOf_149 rfl 0 rfl ?_
              refine g_get (v := .ref (r 29)) hF 43 obM_0 (by decide) m_1908 rfl d_X14_bodyOf_150 ?_
              refine g_iload_n hF d_X14_bodyOf_153 rfl 2 rfl ?_
              refine g_aload_n hF d_X14_bodyOf_154 rfl 0 rfl ?_
              refine g_get (v := .int (s109 0 17)) hF 17 obM_0 (by decide) m_1882 rfl d_X14_bodyOf_155 ?_
              have w10 := w9.2
              refine g_iast hF arM_29 (s_in (Nat.le_of_ble_eq_true rfl) w9.1.1 w9.1.2) d_X14_bodyOf_158 ?_
              refine g_iconst hF (v := 0) d_X14_bodyOf_159 (by decide) ?_
              refine g_istore hF [(4, .int 0), (0, .ref (r 0)), (2, .int (σ 0 17)), (3, .int (σ 0 45))] d_X14_bodyOf_160 hnn (by decide) rfl ?_
              refine g_iconst hF (v := 0) d_X14_bodyOf_162 (by decide) ?_
              refine g_istore hF [(5, .int 0), (4, .int 0), (0, .ref (r 0)), (2, .int (σ 0 17)), (3, .int (σ 0 45))] d_X14_bodyOf_163 hnn (by decide) rfl ?_
              obtain ⟨L165, ⟨i165, u165⟩, h165⟩ := w10
              have b165 : ∀ (n165 : Nat) (x4_165 : Int32) (x5_165 : Int32) (s165 t165 : St) (z165 : List Nat), L165 n165 x4_165 x5_165 s165 t165 z165 → G SM r X s165 t165 z165 [(0, .ref (r 0)), (3, .int (σ 0 45)), (4, .int x4_165), (5, .int x5_165)] [] 165 := by
                intro n165
                induction n165 using Nat.strongRecOn with
                | _ n165 ih165 =>
                  intro x4_165 x5_165 s165 t165 z165  w165_
                  have w165_ := h165 n165 x4_165 x5_165 s165 t165 z165  w165_
                  refine g_iload hF d_X14_bodyOf_165 3 rfl ?_
                  refine g_aload_n hF d_X14_bodyOf_167 rfl 0 rfl ?_
                  refine g_get (v := .int (s165 0 49)) hF 49 obM_0 (by decide) m_1914 rfl d_X14_bodyOf_168 ?_
                  refine g_icmp_ge hF 254 d_X14_bodyOf_171 (by decide) rfl rfl (fun c => ?_) (fun c => ?_)
                  · have w11 := w165_.1 c
                    refine g_aload_n hF d_X14_bodyOf_254 rfl 0 rfl ?_
                    refine g_get (v := .ref (r 30)) hF 44 obM_0 (by decide) m_1909 rfl d_X14_bodyOf_255 ?_
                    refine g_iload_n hF d_X14_bodyOf_258 rfl 1 rfl ?_
                    refine g_iload hF d_X14_bodyOf_259 2 rfl ?_
                    have w12 := w11.2
                    refine g_iast hF arM_30 (s_in (Nat.le_of_ble_eq_true rfl) w11.1.1 w11.1.2) d_X14_bodyOf_261 ?_
                    refine g_aload_n hF d_X14_bodyOf_262 rfl 0 rfl ?_
                    refine g_get (v := .ref (r 54)) hF 99 obM_0 (by decide) m_1964 rfl d_X14_bodyOf_263 ?_
                    refine g_iload_n hF d_X14_bodyOf_266 rfl 1 rfl ?_
                    refine g_aload_n hF d_X14_bodyOf_267 rfl 0 rfl ?_
                    refine g_get (v := .int (s165 0 65)) hF 65 obM_0 (by decide) m_1930 rfl d_X14_bodyOf_268 ?_
                    have w13 := w12.2
                    refine g_iast hF arM_54 (s_in (Nat.le_of_ble_eq_true rfl) w12.1.1 w12.1.2) d_X14_bodyOf_271 ?_
                    refine g_aload_n hF d_X14_bodyOf_272 rfl 0 rfl ?_
                    refine g_iload_n hF d_X14_bodyOf_273 rfl 1 rfl ?_
                    refine g_iconst hF (v := 1) d_X14_bodyOf_274 (by decide) ?_
                    refine g_iadd hF d_X14_bodyOf_275 ?_
                    refine g_put (v := ((σ 0 45) + (1 : Int32))) hF 45 obM_0 (by decide) m_1910 rfl rfl rfl d_X14_bodyOf_276 ?_
                    exact g_vret hF rfl d_X14_bodyOf_279 ⟨rfl, w13⟩
                  · have w14 := w165_.2 c
                    refine g_aload_n hF d_X14_bodyOf_174 rfl 0 rfl ?_
                    refine g_get (v := .ref (r 33)) hF 48 obM_0 (by decide) m_1913 rfl d_X14_bodyOf_175 ?_
                    refine g_iload hF d_X14_bodyOf_178 3 rfl ?_
                    have w15 := w14.2
                    refine g_zald hF arM_33 (s_in (Nat.le_of_ble_eq_true rfl) w14.1.1 w14.1.2) d_X14_bodyOf_180 ?_
                    refine g_top (v := (s165 33 x5_165.toNatClampNeg)) rfl ?_
                    obtain ⟨J199, h199, w16⟩ := w15
                    have b199 : ∀ (y0_199 : Int32), y0_199 = 0 ∨ y0_199 = 1 → J199 y0_199 → G SM r X s165 t165 z165 [(0, .ref (r 0)), (3, .int (σ 0 45)), (4, .int x4_165), (5, .int x5_165)] [.int y0_199] 199 := by
                      intro y0_199 hy0_199 w199_
                      have w199_ := h199 y0_199 hy0_199 w199_
                      refine g_istore hF [(6, .int y0_199), (0, .ref (r 0)), (3, .int (σ 0 45)), (4, .int x4_165), (5, .int x5_165)] d_X14_bodyOf_199 hnn (by decide) rfl ?_
                      refine g_aload_n hF d_X14_bodyOf_201 rfl 1 rfl ?_
                      refine g_iload hF d_X14_bodyOf_202 0 rfl ?_
                      obtain ⟨J213, h213, w17⟩ := w199_
                      have b213 : ∀ (y1_213 : Int32), J213 y1_213 → G SM r X s165 t165 z165 [(0, .ref (r 0)), (3, .int (σ 0 45)), (4, .int x4_165), (5, .int x5_165), (6, .int y0_199)] [.int y1_213, .ref (r 0)] 213 := by
                        intro y1_213  w213_
                        have w213_ := h213 y1_213  w213_
                        refine g_aload_n hF d_X14_bodyOf_213 rfl 0 rfl ?_
                        refine g_get (v := .ref (r 32)) hF 47 obM_0 (by decide) m_1912 rfl d_X14_bodyOf_214 ?_
                        refine g_iload hF d_X14_bodyOf_217 3 rfl ?_
                        have w18 := w213_.2
                        refine g_iald hF arM_32 (s_in (Nat.le_of_ble_eq_true rfl) w213_.1.1 w213_.1.2) d_X14_bodyOf_219 ?_
                        refine g_top (v := (s165 32 x5_165.toNatClampNeg)) rfl ?_
                        refine g_iconst hF (v := 0) d_X14_bodyOf_220 (by decide) ?_
                        refine g_mmax hF (Nat.le_of_ble_eq_true rfl) m_2432 m_1131 m_23 m_1132 (Nat.le_of_ble_eq_true rfl) d_X14_bodyOf_221 ?_
                        refine g_cap (fun hc18 => ?_)
                        refine g_callV (As := [.int y1_213, .int (if (s165 32 x5_165.toNatClampNeg) < (0 : Int32) then (0 : Int32) else (s165 32 x5_165.toNatClampNeg))]) (rest := []) hF (fun l D cy => (ct_put_1 a r hc18 w18) l D cy) (Nat.le_of_ble_eq_true rfl) mV_X14_put_1 m_2433 (recv_ob obM_0) rfl rfl (Nat.le_of_ble_eq_true rfl) d_X14_bodyOf_224 (kV (fun s224 t224 z224 w20 => ?_)) (fun _ _ _ h => h.elim)
                        refine g_iload hF d_X14_bodyOf_227 4 rfl ?_
                        obtain ⟨J248, h248, w21⟩ := w20
                        have b248 : ∀ (x4_248 : Int32), J248 x4_248 → G SM r X s224 t224 z224 [(0, .ref (r 0)), (3, .int (σ 0 45)), (4, .int x4_248), (5, .int x5_165)] [] 248 := by
                          intro x4_248  w248_
                          have w248_ := h248 x4_248  w248_
                          refine g_iinc hF (x5_165 + 1) [(5, .int (x5_165 + 1)), (0, .ref (r 0)), (3, .int (σ 0 45)), (4, .int x4_248)] d_X14_bodyOf_248 3 rfl rfl hnn (by decide) rfl ?_
                          refine g_goto hF 165 d_X14_bodyOf_251 (by decide) ?_
                          obtain ⟨m165, hm165, w9⟩ := w248_
                          exact g_sub (L' := [(0, .ref (r 0)), (3, .int (σ 0 45)), (4, .int x4_248), (5, .int (x5_165 + 1))]) [1, 2, 3, 0] rfl (ih165 m165 hm165 x4_248 (x5_165 + 1) s224 t224 z224 w9)
                        refine g_if_eq hF 248 d_X14_bodyOf_229 (by decide) rfl (fun c => ?_) (fun c => ?_)
                        · have w22 := w21.1 c
                          exact g_sub (L' := [(0, .ref (r 0)), (3, .int (σ 0 45)), (4, .int x4_165), (5, .int x5_165)]) [0, 1, 2, 3] rfl (b248 x4_165 w22)
                        · have w23 := w21.2 c
                          refine g_iload hF d_X14_bodyOf_232 2 rfl ?_
                          refine g_aload_n hF d_X14_bodyOf_234 rfl 0 rfl ?_
                          refine g_get (v := .ref (r 32)) hF 47 obM_0 (by decide) m_1912 rfl d_X14_bodyOf_235 ?_
                          refine g_iload hF d_X14_bodyOf_238 3 rfl ?_
                          have w24 := w23.2
                          refine g_iald hF arM_32 (s_in (Nat.le_of_ble_eq_true rfl) w23.1.1 w23.1.2) d_X14_bodyOf_240 ?_
                          refine g_top (v := (s224 32 x5_165.toNatClampNeg)) rfl ?_
                          refine g_iconst hF (v := 1) d_X14_bodyOf_241 (by decide) ?_
                          refine g_mmax hF (Nat.le_of_ble_eq_true rfl) m_2432 m_1131 m_23 m_1132 (Nat.le_of_ble_eq_true rfl) d_X14_bodyOf_242 ?_
                          refine g_iadd hF d_X14_bodyOf_245 ?_
                          refine g_istore hF [(4, .int (x4_165 + (if (s224 32 x5_165.toNatClampNeg) < (1 : Int32) then (1 : Int32) else (s224 32 x5_165.toNatClampNeg)))), (0, .ref (r 0)), (3, .int (σ 0 45)), (5, .int x5_165), (6, .int y0_199)] d_X14_bodyOf_246 hnn (by decide) rfl ?_
                          exact g_sub (L' := [(0, .ref (r 0)), (3, .int (σ 0 45)), (4, .int (x4_165 + (if (s224 32 x5_165.toNatClampNeg) < (1 : Int32) then (1 : Int32) else (s224 32 x5_165.toNatClampNeg)))), (5, .int x5_165)]) [1, 2, 0, 3] rfl (b248 (x4_165 + (if (s224 32 x5_165.toNatClampNeg) < (1 : Int32) then (1 : Int32) else (s224 32 x5_165.toNatClampNeg))) w24)
                      refine g_if_eq hF 212 d_X14_bodyOf_204 (by decide) rfl (fun c => ?_) (fun c => ?_)
                      · have w25 := w17.1 c
                        refine g_iconst hF (v := (-1)) d_X14_bodyOf_212 (by decide) ?_
                        exact g_sub (L' := [(0, .ref (r 0)), (3, .int (σ 0 45)), (4, .int x4_165), (5, .int x5_165), (6, .int y0_199)]) [1, 2, 3, 4, 0] rfl (b213 ((-1) : Int32) w25)
                      · have w26 := w17.2 c
                        refine g_iload hF d_X14_bodyOf_207 3 rfl ?_
                        refine g_goto hF 213 d_X14_bodyOf_209 (by decide) ?_
                        exact g_sub (L' := [(0, .ref (r 0)), (3, .int (σ 0 45)), (4, .int x4_165), (5, .int x5_165), (6, .int y0_199)]) [1, 2, 3, 4, 0] rfl (b213 x4_165 w26)
                    obtain ⟨J194, h194, w27⟩ := w16
                    have b194 : J194  → G SM r X s165 t165 z165 [(0, .ref (r 0)), (3, .int (σ 0 45)), (4, .int x4_165), (5, .int x5_165)] [] 194 := by
                      intro   w194_
                      have w194_ := h194   w194_
                      refine g_iconst hF (v := 1) d_X14_bodyOf_194 (by decide) ?_
                      refine g_goto hF 199 d_X14_bodyOf_195 (by decide) ?_
                      exact b199 (1 : Int32) (Or.inr rfl) w194_
                    refine g_if_ne hF 194 d_X14_bodyOf_181 (by decide) rfl (fun c => ?_) (fun c => ?_)
                    · have w28 := w27.1 c
                      exact b194  w28
                    · have w29 := w27.2 c
                      refine g_aload_n hF d_X14_bodyOf_184 rfl 0 rfl ?_
                      refine g_get (v := .ref (r 32)) hF 47 obM_0 (by decide) m_1912 rfl d_X14_bodyOf_185 ?_
                      refine g_iload hF d_X14_bodyOf_188 3 rfl ?_
                      have w30 := w29.2
                      refine g_iald hF arM_32 (s_in (Nat.le_of_ble_eq_true rfl) w29.1.1 w29.1.2) d_X14_bodyOf_190 ?_
                      refine g_top (v := (s165 32 x5_165.toNatClampNeg)) rfl ?_
                      refine g_if_lt hF 198 d_X14_bodyOf_191 (by decide) rfl (fun c => ?_) (fun c => ?_)
                      · have w31 := w30.1 c
                        refine g_iconst hF (v := 0) d_X14_bodyOf_198 (by decide) ?_
                        exact b199 (0 : Int32) (Or.inl rfl) w31
                      · have w32 := w30.2 c
                        exact b194  w32
              exact g_sub (L' := [(0, .ref (r 0)), (3, .int (σ 0 45)), (4, .int 0), (5, .int 0)]) [2, 4, 1, 0] rfl (b165 i165 (0 : Int32) (0 : Int32) (upC (upC (upC (upC (upC s109 0 53 (0 : Int32)) 26 (σ 0 45).toNatClampNeg (σ 0 17)) 27 (σ 0 45).toNatClampNeg (s109 0 35)) 28 (σ 0 45).toNatClampNeg (s109 0 49)) 29 (σ 0 45).toNatClampNeg (s109 0 17)) t109 z109 u165)
            · have w33 := w109_.2 c
              exact g_vret hF rfl d_X14_bodyOf_121 ⟨rfl, w33⟩
          refine g_if_eq hF 97 d_X14_bodyOf_85 (by decide) rfl (fun c => ?_) (fun c => ?_)
          · have w34 := w5.1 c
            refine g_aload_n hF d_X14_bodyOf_97 rfl 0 rfl ?_
            refine g_iconst hF (v := 0) d_X14_bodyOf_98 (by decide) ?_
            refine g_iconst hF (v := 0) d_X14_bodyOf_99 (by decide) ?_
            refine g_callV (As := [.int 0, .int 0]) (rest := []) hF (fun l D cy => (ct_put_1 a r hc1 w34) l D cy) (Nat.le_of_ble_eq_true rfl) mV_X14_put_1 m_2433 (recv_ob obM_0) rfl rfl (Nat.le_of_ble_eq_true rfl) d_X14_bodyOf_100 (kV (fun s100 t100 z100 w35 => ?_)) (fun _ _ _ h => h.elim)
            refine g_aload_n hF d_X14_bodyOf_103 rfl 0 rfl ?_
            refine g_bipush hF (v := 21) d_X14_bodyOf_104 (by decide) ?_
            refine g_cap (fun hc35 => ?_)
            refine g_callV (As := [.int 21]) (rest := []) hF (fun l D cy => (ct_put_0 a r hc35 w35) l D cy) (Nat.le_of_ble_eq_true rfl) mV_X14_put_0 m_2437 (recv_ob obM_0) rfl rfl (Nat.le_of_ble_eq_true rfl) d_X14_bodyOf_106 (kV (fun s106 t106 z106 w37 => ?_)) (fun _ _ _ h => h.elim)
            exact b109 s106 t106 z106 w37
          · have w38 := w5.2 c
            refine g_aload_n hF d_X14_bodyOf_88 rfl 0 rfl ?_
            refine g_bipush hF (v := 20) d_X14_bodyOf_89 (by decide) ?_
            refine g_callV (As := [.int 20]) (rest := []) hF (fun l D cy => (ct_put_0 a r hc1 w38) l D cy) (Nat.le_of_ble_eq_true rfl) mV_X14_put_0 m_2437 (recv_ob obM_0) rfl rfl (Nat.le_of_ble_eq_true rfl) d_X14_bodyOf_91 (kV (fun s91 t91 z91 w39 => ?_)) (fun _ _ _ h => h.elim)
            refine g_goto hF 109 d_X14_bodyOf_94 (by decide) ?_
            exact b109 s91 t91 z91 w39
        · have w40 := w3.2 c
          refine g_aload_n hF d_X14_bodyOf_63 rfl 0 rfl ?_
          refine g_iconst hF (v := 1) d_X14_bodyOf_64 (by decide) ?_
          refine g_callV (As := [.int 1]) (rest := []) hF (fun l D cy => (ctS_statement a r hc1 w40) l D cy) (Nat.le_of_ble_eq_true rfl) mV_X14_statement m_2345 (recv_ob obM_0) rfl rfl (Nat.le_of_ble_eq_true rfl) d_X14_bodyOf_65 (kV (fun s65 t65 z65 w41 => ?_)) (fun σ9 τ9 vs9 h9 => g_out hF stopM rfl h9)
          refine g_goto hF 54 d_X14_bodyOf_68 (by decide) ?_
          obtain ⟨m54, hm54, w9⟩ := w41
          exact ih54 m54 hm54 s65 t65 z65 w9
    exact g_sub (L' := [(0, .ref (r 0)), (2, .int (σ 0 17)), (3, .int (σ 0 45))]) [2, 1, 0] rfl (b54 i54 (upC (upC (upC (upC (upC (upC σ 0 55 y1_11) 0 56 a1) 0 57 (0 : Int32)) 0 58 ((-1) : Int32)) 0 59 ((-1) : Int32)) 0 10 ((σ 0 10) + (1 : Int32))) τ vs u54)
  refine g_icmp_ne (yv := -1) hF 10 d_X14_bodyOf_3 (by decide) rfl (by decide) (fun c => ?_) (fun c => ?_)
  · have w42 := w1.1 c
    refine g_iconst hF (v := 0) d_X14_bodyOf_10 (by decide) ?_
    exact b11 (0 : Int32) (Or.inl rfl) w42
  · have w43 := w1.2 c
    refine g_iconst hF (v := 1) d_X14_bodyOf_6 (by decide) ?_
    refine g_goto hF 11 d_X14_bodyOf_7 (by decide) ?_
    exact b11 (1 : Int32) (Or.inr rfl) w43
