def wp_behind (Kexpression : Int32 → St → St → List Nat → (Nat → St → St → List Nat → Prop) → (St → St → List Nat → Prop) → Prop) (Kchoice : Int32 → St → St → List Nat → (Nat → St → St → List Nat → Prop) → (St → St → List Nat → Prop) → Prop) (Kbinary : Int32 → Int32 → St → St → List Nat → (Nat → St → St → List Nat → Prop) → (St → St → List Nat → Prop) → Prop) (Kdecided : Int32 → Nat → Int32 → Int32 → St → St → List Nat → (Nat → St → St → List Nat → Prop) → (St → St → List Nat → Prop) → Prop) (Kunary : Int32 → St → St → List Nat → (Nat → St → St → List Nat → Prop) → (St → St → List Nat → Prop) → Prop) (Kbehind : Int32 → St → St → List Nat → (Nat → St → St → List Nat → Prop) → (St → St → List Nat → Prop) → Prop) (Kprimary : Int32 → St → St → List Nat → (Nat → St → St → List Nat → Prop) → (St → St → List Nat → Prop) → Prop) (Kcall_0 : Int32 → Int32 → St → St → List Nat → (Nat → St → St → List Nat → Prop) → (St → St → List Nat → Prop) → Prop) (a1 : Int32) (σ τ : St) (vs : List Nat) (Q : Nat → St → St → List Nat → Prop) (T : St → St → List Nat → Prop) : Prop :=
  Kprimary a1 σ τ vs (fun u2 s2 t2 z2 => ∃ L6 : Nat → Nat → St → St → List Nat → Prop, (∃ n, L6 n u2 s2 t2 z2) ∧ ∀ (n6 : Nat) (x2_6 : Nat) (s6 t6 : St) (z6 : List Nat), L6 n6 x2_6 s6 t6 z6 → (wp_is (24 : Int32) s6 t6 z6 (fun v9 => (∃ J33 : Prop, (J33  → (wp_is (24 : Int32) s6 t6 z6 (fun v41 => (v41.toInt ≠ 0 → wp_read_1 x2_6 s6 t6 z6 (fun s78 t78 z78 => wp_deeper a1 s78 t78 z78 (fun v83 s83 t83 z83 => Kexpression v83 (upC s83 0 10 ((s83 0 10) + (1 : Int32))) t83 z83 (fun u101 s101 t101 z101 => wp_read_1 u101 s101 t101 z101 (fun s109 t109 z109 => wp_expect (25 : Int32) s109 t109 z109 (fun s115 t115 z115 => wp_isPointer x2_6 s115 t115 z115 (fun v120 => (∃ J139 : Int32 → Prop, (∀ (y1_139 : Int32), y1_139 = 0 ∨ y1_139 = 1 → J139 y1_139 → (wp_must y1_139 (s6 0 10) s115 t115 z115 (fun s140 t140 z140 => wp_isPointer x2_6 s140 t140 z140 (fun v145 => (∃ J162 : Int32 → Prop, (∀ (y1_162 : Int32), J162 y1_162 → (wp_made y1_162 x2_6 u101 (s6 0 10) s140 t140 z140 (fun u166 s166 t166 z166 => wp_put_2 (11 : Int32) (36 : Int32) (0 : Int32) s166 t166 z166 (fun s177 t177 z177 => (u166 ∈ z177 ∧ ∃ m, m < n6 ∧ L6 m u166 s177 (upC (upC t177 u166 1 (3 : Int32)) u166 4 (s6 0 10)) z177))))) ∧ (v145.toInt = 0 → J162 ((-2) : Int32)) ∧ (v145.toInt ≠ 0 → (x2_6 ∈ z140 ∧ J162 ((t140 x2_6 0) - (1 : Int32))))))))) ∧ (∃ J138 : Prop, (J138  → (J139 (0 : Int32))) ∧ (v120.toInt = 0 → J138) ∧ (v120.toInt ≠ 0 → wp_isInt u101 s115 t115 z115 (fun v128 => (v128.toInt = 0 → J138) ∧ (v128.toInt ≠ 0 → J139 (1 : Int32)))))))) T)) T) T)) ∧ (v41.toInt = 0 → wp_sign s6 t6 z6 (fun v48 => wp_stepped x2_6 v48 (1 : Int32) (s6 0 10) (upC s6 0 10 ((s6 0 10) + (1 : Int32))) t6 z6 (fun u69 s69 t69 z69 => ∃ m, m < n6 ∧ L6 m u69 s69 t69 z69)))))) ∧ (v9.toInt ≠ 0 → J33) ∧ (v9.toInt = 0 → wp_is (18 : Int32) s6 t6 z6 (fun v18 => (v18.toInt ≠ 0 → J33) ∧ (v18.toInt = 0 → wp_is (19 : Int32) s6 t6 z6 (fun v27 => (v27.toInt = 0 → Q x2_6 s6 t6 z6) ∧ (v27.toInt ≠ 0 → J33))))))))) T
set_option maxHeartbeats 4000000 in
set_option maxRecDepth 100000 in
theorem ct_behind (a : Nat → Nat) (r : Nat → Nat) (dK : Nat) (hdK : 4 ≤ dK) (Kexpression : Int32 → St → St → List Nat → (Nat → St → St → List Nat → Prop) → (St → St → List Nat → Prop) → Prop) (Kchoice : Int32 → St → St → List Nat → (Nat → St → St → List Nat → Prop) → (St → St → List Nat → Prop) → Prop) (Kbinary : Int32 → Int32 → St → St → List Nat → (Nat → St → St → List Nat → Prop) → (St → St → List Nat → Prop) → Prop) (Kdecided : Int32 → Nat → Int32 → Int32 → St → St → List Nat → (Nat → St → St → List Nat → Prop) → (St → St → List Nat → Prop) → Prop) (Kunary : Int32 → St → St → List Nat → (Nat → St → St → List Nat → Prop) → (St → St → List Nat → Prop) → Prop) (Kbehind : Int32 → St → St → List Nat → (Nat → St → St → List Nat → Prop) → (St → St → List Nat → Prop) → Prop) (Kprimary : Int32 → St → St → List Nat → (Nat → St → St → List Nat → Prop) → (St → St → List Nat → Prop) → Prop) (Kcall_0 : Int32 → Int32 → St → St → List Nat → (Nat → St → St → List Nat → Prop) → (St → St → List Nat → Prop) → Prop) (hKexpression : ∀ {a1 : Int32} {σ τ : St} {vs : List Nat} {Q : Nat → St → St → List Nat → Prop} {T : St → St → List Nat → Prop}, vs.length ≤ CAP → Kexpression a1 σ τ vs Q T → ∀ (l : Launch) (D : va_G) (cy : Nat → ClassId), Ct l D cy SM r (EM a) y_X14_expression (Cond.code y_X14_expression b_X14_expression 12 (some (.object "LinkedUnitsModel$Value"))) dK [.ref (r 0), .int a1] σ τ vs (QAs Q) T) (hKprimary : ∀ {a1 : Int32} {σ τ : St} {vs : List Nat} {Q : Nat → St → St → List Nat → Prop} {T : St → St → List Nat → Prop}, vs.length ≤ CAP → Kprimary a1 σ τ vs Q T → ∀ (l : Launch) (D : va_G) (cy : Nat → ClassId), Ct l D cy SM r (EM a) y_X14_primary (Cond.code y_X14_primary b_X14_primary 5 (some (.object "LinkedUnitsModel$Value"))) dK [.ref (r 0), .int a1] σ τ vs (QAs Q) T) {a1 : Int32} {σ τ : St} {vs : List Nat} {Q : Nat → St → St → List Nat → Prop} {T : St → St → List Nat → Prop} (hcap : vs.length ≤ CAP) (w : wp_behind Kexpression Kchoice Kbinary Kdecided Kunary Kbehind Kprimary Kcall_0 a1 σ τ vs Q T) (l : Launch) (D : va_G) (cy : Nat → ClassId) : Ct l D cy SM r (EM a) y_X14_behind (Cond.code y_X14_behind b_X14_behind 7 (some (.object "LinkedUnitsModel$Value"))) (dK + 1) [.ref (r 0), .int a1] σ τ vs (QAs Q) T := by
  unfold wp_behind at w
  refine Ct_of (EM_ok a) (by decide) (Nat.le_of_ble_eq_true rfl) hcap (fun X hnn hF => ?_)
  show G SM r X σ τ vs [(0, .ref (r 0)), (1, .int a1)] [] 0
  refine g_aload_n hF d_X14_behind_0 rfl 0 rfl ?_
  refine g_iload_n hF d_X14_behind_1 rfl 1 rfl ?_
  refine g_callV (As := [.int a1]) (rest := []) hF (fun l D cy => (hKprimary hcap w) l D cy) (Nat.le_refl _) mV_X14_primary m_2482 (recv_ob obM_0) rfl rfl (Nat.le_of_ble_eq_true rfl) d_X14_behind_2 (kA (fun u2 s2 t2 z2 w1 => ?_)) (fun σ9 τ9 vs9 h9 => g_out hF stopM rfl h9)
  refine g_astore_n hF [(2, .ref u2), (0, .ref (r 0)), (1, .int a1)] d_X14_behind_5 rfl hnn (by decide) rfl ?_
  obtain ⟨L6, ⟨i6, u6⟩, h6⟩ := w1
  have b6 : ∀ (n6 : Nat) (x2_6 : Nat) (s6 t6 : St) (z6 : List Nat), L6 n6 x2_6 s6 t6 z6 → G SM r X s6 t6 z6 [(0, .ref (r 0)), (1, .int a1), (2, .ref x2_6)] [] 6 := by
    intro n6
    induction n6 using Nat.strongRecOn with
    | _ n6 ih6 =>
      intro x2_6 s6 t6 z6  w6_
      have w6_ := h6 n6 x2_6 s6 t6 z6  w6_
      refine g_aload_n hF d_X14_behind_6 rfl 0 rfl ?_
      refine g_bipush hF (v := 24) d_X14_behind_7 (by decide) ?_
      refine g_cap (fun hc1 => ?_)
      refine g_callV (As := [.int 24]) (rest := []) hF (fun l D cy => (ct_is a r hc1 w6_) l D cy) (Nat.add_le_add_right (Nat.le_trans (Nat.le_of_ble_eq_true rfl) hdK) 1) mV_X14_is m_2289 (recv_ob obM_0) rfl rfl (Nat.le_of_ble_eq_true rfl) d_X14_behind_9 (krZ (fun v9 hz9 w3 => ?_)) (fun _ _ _ h => h.elim)
      obtain ⟨J33, h33, w4⟩ := w3
      have b33 : J33  → G SM r X s6 t6 z6 [(0, .ref (r 0)), (1, .int a1), (2, .ref x2_6)] [] 33 := by
        intro   w33_
        have w33_ := h33   w33_
        refine g_aload_n hF d_X14_behind_33 rfl 0 rfl ?_
        refine g_get (v := .int (s6 0 10)) hF 10 obM_0 (by decide) m_1875 rfl d_X14_behind_34 ?_
        refine g_istore_n hF [(3, .int (s6 0 10)), (0, .ref (r 0)), (1, .int a1), (2, .ref x2_6)] d_X14_behind_37 rfl hnn (by decide) rfl ?_
        refine g_aload_n hF d_X14_behind_38 rfl 1 rfl ?_
        refine g_bipush hF (v := 24) d_X14_behind_39 (by decide) ?_
        refine g_callV (As := [.int 24]) (rest := []) hF (fun l D cy => (ct_is a r hc1 w33_) l D cy) (Nat.add_le_add_right (Nat.le_trans (Nat.le_of_ble_eq_true rfl) hdK) 1) mV_X14_is m_2289 (recv_ob obM_0) rfl rfl (Nat.le_of_ble_eq_true rfl) d_X14_behind_41 (krZ (fun v41 hz41 w5 => ?_)) (fun _ _ _ h => h.elim)
        refine g_if_ne hF 76 d_X14_behind_44 (by decide) rfl (fun c => ?_) (fun c => ?_)
        · have w6 := w5.1 c
          refine g_aload_n hF d_X14_behind_76 rfl 1 rfl ?_
          refine g_aload_n hF d_X14_behind_77 rfl 3 rfl ?_
          refine g_callV (As := [.ref x2_6]) (rest := []) hF (fun l D cy => (ct_read_1 a r hc1 w6) l D cy) (Nat.add_le_add_right (Nat.le_trans (Nat.le_of_ble_eq_true rfl) hdK) 1) mV_X14_read_1 m_2453 (recv_ob obM_0) rfl rfl (Nat.le_of_ble_eq_true rfl) d_X14_behind_78 (kV (fun s78 t78 z78 w7 => ?_)) (fun _ _ _ h => h.elim)
          refine g_aload_n hF d_X14_behind_81 rfl 1 rfl ?_
          refine g_iload_n hF d_X14_behind_82 rfl 2 rfl ?_
          refine g_cap (fun hc7 => ?_)
          refine g_callV (As := [.int a1]) (rest := []) hF (fun l D cy => (ct_deeper a r hc7 w7) l D cy) (Nat.add_le_add_right (Nat.le_trans (Nat.le_of_ble_eq_true rfl) hdK) 1) mV_X14_deeper m_2381 (recv_ob obM_0) rfl rfl (Nat.le_of_ble_eq_true rfl) d_X14_behind_83 (kI (fun v83 s83 t83 z83 w9 => ?_)) (fun σ9 τ9 vs9 h9 => g_out hF stopM rfl h9)
          refine g_istore hF [(4, .int v83), (3, .int (s6 0 10)), (0, .ref (r 0)), (1, .int a1), (2, .ref x2_6)] d_X14_behind_86 hnn (by decide) rfl ?_
          refine g_aload_n hF d_X14_behind_88 rfl 2 rfl ?_
          refine g_dup hF d_X14_behind_89 rfl ?_
          refine g_get (v := .int (s83 0 10)) hF 10 obM_0 (by decide) m_1875 rfl d_X14_behind_90 ?_
          refine g_iconst hF (v := 1) d_X14_behind_93 (by decide) ?_
          refine g_iadd hF d_X14_behind_94 ?_
          refine g_put (v := ((s83 0 10) + (1 : Int32))) hF 10 obM_0 (by decide) m_1875 rfl rfl rfl d_X14_behind_95 ?_
          refine g_aload_n hF d_X14_behind_98 rfl 2 rfl ?_
          refine g_iload hF d_X14_behind_99 0 rfl ?_
          refine g_cap (fun hc9 => ?_)
          refine g_callV (As := [.int v83]) (rest := []) hF (fun l D cy => (hKexpression hc9 w9) l D cy) (Nat.le_refl _) mV_X14_expression m_2361 (recv_ob obM_0) rfl rfl (Nat.le_of_ble_eq_true rfl) d_X14_behind_101 (kA (fun u101 s101 t101 z101 w11 => ?_)) (fun σ9 τ9 vs9 h9 => g_out hF stopM rfl h9)
          refine g_astore hF [(5, .ref u101), (4, .int v83), (3, .int (s6 0 10)), (0, .ref (r 0)), (1, .int a1), (2, .ref x2_6)] d_X14_behind_104 hnn (by decide) rfl ?_
          refine g_aload_n hF d_X14_behind_106 rfl 3 rfl ?_
          refine g_aload hF d_X14_behind_107 0 rfl ?_
          refine g_cap (fun hc11 => ?_)
          refine g_callV (As := [.ref u101]) (rest := []) hF (fun l D cy => (ct_read_1 a r hc11 w11) l D cy) (Nat.add_le_add_right (Nat.le_trans (Nat.le_of_ble_eq_true rfl) hdK) 1) mV_X14_read_1 m_2453 (recv_ob obM_0) rfl rfl (Nat.le_of_ble_eq_true rfl) d_X14_behind_109 (kV (fun s109 t109 z109 w13 => ?_)) (fun _ _ _ h => h.elim)
          refine g_aload_n hF d_X14_behind_112 rfl 3 rfl ?_
          refine g_bipush hF (v := 25) d_X14_behind_113 (by decide) ?_
          refine g_cap (fun hc13 => ?_)
          refine g_callV (As := [.int 25]) (rest := []) hF (fun l D cy => (ct_expect a r hc13 w13) l D cy) (Nat.add_le_add_right (Nat.le_trans (Nat.le_of_ble_eq_true rfl) hdK) 1) mV_X14_expect m_2285 (recv_ob obM_0) rfl rfl (Nat.le_of_ble_eq_true rfl) d_X14_behind_115 (kV (fun s115 t115 z115 w15 => ?_)) (fun σ9 τ9 vs9 h9 => g_out hF stopM rfl h9)
          refine g_aload_n hF d_X14_behind_118 rfl 3 rfl ?_
          refine g_aload_n hF d_X14_behind_119 rfl 5 rfl ?_
          refine g_cap (fun hc15 => ?_)
          refine g_callS (As := [.ref x2_6]) (rest := [.ref (r 0)]) hF (fun l D cy => (ct_isPointer a r hc15 w15) l D cy) (Nat.add_le_add_right (Nat.le_trans (Nat.le_of_ble_eq_true rfl) hdK) 1) mS_X14_isPointer m_2461 rfl rfl (Nat.le_of_ble_eq_true rfl) d_X14_behind_120 (krZ (fun v120 hz120 w17 => ?_)) (fun _ _ _ h => h.elim)
          obtain ⟨J139, h139, w18⟩ := w17
          have b139 : ∀ (y1_139 : Int32), y1_139 = 0 ∨ y1_139 = 1 → J139 y1_139 → G SM r X s115 t115 z115 [(0, .ref (r 0)), (1, .int a1), (2, .ref x2_6), (3, .int (s6 0 10)), (5, .ref u101)] [.int y1_139, .ref (r 0)] 139 := by
            intro y1_139 hy1_139 w139_
            have w139_ := h139 y1_139 hy1_139 w139_
            refine g_iload_n hF d_X14_behind_139 rfl 3 rfl ?_
            refine g_callV (As := [.int y1_139, .int (s6 0 10)]) (rest := []) hF (fun l D cy => (ct_must a r hc15 w139_) l D cy) (Nat.add_le_add_right (Nat.le_trans (Nat.le_of_ble_eq_true rfl) hdK) 1) mV_X14_must m_2313 (recv_ob obM_0) rfl rfl (Nat.le_of_ble_eq_true rfl) d_X14_behind_140 (kV (fun s140 t140 z140 w19 => ?_)) (fun _ _ _ h => h.elim)
            refine g_aload_n hF d_X14_behind_143 rfl 0 rfl ?_
            refine g_aload_n hF d_X14_behind_144 rfl 2 rfl ?_
            refine g_cap (fun hc19 => ?_)
            refine g_callS (As := [.ref x2_6]) (rest := [.ref (r 0)]) hF (fun l D cy => (ct_isPointer a r hc19 w19) l D cy) (Nat.add_le_add_right (Nat.le_trans (Nat.le_of_ble_eq_true rfl) hdK) 1) mS_X14_isPointer m_2461 rfl rfl (Nat.le_of_ble_eq_true rfl) d_X14_behind_145 (krZ (fun v145 hz145 w21 => ?_)) (fun _ _ _ h => h.elim)
            obtain ⟨J162, h162, w22⟩ := w21
            have b162 : ∀ (y1_162 : Int32), J162 y1_162 → G SM r X s140 t140 z140 [(0, .ref (r 0)), (1, .int a1), (2, .ref x2_6), (3, .int (s6 0 10)), (5, .ref u101)] [.int y1_162, .ref (r 0)] 162 := by
              intro y1_162  w162_
              have w162_ := h162 y1_162  w162_
              refine g_aload_n hF d_X14_behind_162 rfl 2 rfl ?_
              refine g_aload hF d_X14_behind_163 4 rfl ?_
              refine g_iload_n hF d_X14_behind_165 rfl 3 rfl ?_
              refine g_callV (As := [.int y1_162, .ref x2_6, .ref u101, .int (s6 0 10)]) (rest := []) hF (fun l D cy => (ct_made a r hc19 w162_) l D cy) (Nat.add_le_add_right (Nat.le_trans (Nat.le_of_ble_eq_true rfl) hdK) 1) mV_X14_made m_2389 (recv_ob obM_0) rfl rfl (Nat.le_of_ble_eq_true rfl) d_X14_behind_166 (kA (fun u166 s166 t166 z166 w23 => ?_)) (fun _ _ _ h => h.elim)
              refine g_astore hF [(6, .ref u166), (0, .ref (r 0)), (1, .int a1), (2, .ref x2_6), (3, .int (s6 0 10)), (5, .ref u101)] d_X14_behind_169 hnn (by decide) rfl ?_
              refine g_aload_n hF d_X14_behind_171 rfl 1 rfl ?_
              refine g_bipush hF (v := 11) d_X14_behind_172 (by decide) ?_
              refine g_bipush hF (v := 36) d_X14_behind_174 (by decide) ?_
              refine g_iconst hF (v := 0) d_X14_behind_176 (by decide) ?_
              refine g_cap (fun hc23 => ?_)
              refine g_callV (As := [.int 11, .int 36, .int 0]) (rest := []) hF (fun l D cy => (ct_put_2 a r hc23 w23) l D cy) (Nat.add_le_add_right (Nat.le_trans (Nat.le_of_ble_eq_true rfl) hdK) 1) mV_X14_put_2 m_2449 (recv_ob obM_0) rfl rfl (Nat.le_of_ble_eq_true rfl) d_X14_behind_177 (kV (fun s177 t177 z177 w25 => ?_)) (fun _ _ _ h => h.elim)
              refine g_aload hF d_X14_behind_180 0 rfl ?_
              refine g_iconst hF (v := 3) d_X14_behind_182 (by decide) ?_
              obtain ⟨hm25, w26⟩ := w25
              refine g_vput hF 1 hm25 clsVC (by decide) m_2401 rfl rfl d_X14_behind_183 ?_
              refine g_aload hF d_X14_behind_186 0 rfl ?_
              refine g_iload_n hF d_X14_behind_188 rfl 4 rfl ?_
              refine g_vput hF 4 hm25 clsVC (by decide) m_2405 rfl rfl d_X14_behind_189 ?_
              refine g_aload hF d_X14_behind_192 0 rfl ?_
              refine g_astore_n hF [(2, .ref u166), (6, .ref u166), (0, .ref (r 0)), (1, .int a1), (3, .int (s6 0 10)), (5, .ref u101)] d_X14_behind_194 rfl hnn (by decide) rfl ?_
              refine g_goto hF 6 d_X14_behind_195 (by decide) ?_
              obtain ⟨m6, hm6, w9⟩ := w26
              exact g_sub (L' := [(0, .ref (r 0)), (1, .int a1), (2, .ref u166)]) [2, 3, 0] rfl (ih6 m6 hm6 u166 s177 (upC (upC t177 u166 1 (3 : Int32)) u166 4 (s6 0 10)) z177 w9)
            refine g_if_eq hF 160 d_X14_behind_148 (by decide) rfl (fun c => ?_) (fun c => ?_)
            · have w27 := w22.1 c
              refine g_bipush hF (v := (-2)) d_X14_behind_160 (by decide) ?_
              exact b162 ((-2) : Int32) w27
            · have w28 := w22.2 c
              refine g_aload_n hF d_X14_behind_151 rfl 2 rfl ?_
              obtain ⟨hm28, w29⟩ := w28
              refine g_vget hF 0 hm28 clsVC (by decide) m_2400 d_X14_behind_152 ?_
              refine g_top (v := (t140 x2_6 0)) rfl ?_
              refine g_iconst hF (v := 1) d_X14_behind_155 (by decide) ?_
              refine g_isub hF d_X14_behind_156 ?_
              refine g_goto hF 162 d_X14_behind_157 (by decide) ?_
              exact b162 ((t140 x2_6 0) - (1 : Int32)) w29
          obtain ⟨J138, h138, w30⟩ := w18
          have b138 : J138  → G SM r X s115 t115 z115 [(0, .ref (r 0)), (1, .int a1), (2, .ref x2_6), (3, .int (s6 0 10)), (5, .ref u101)] [.ref (r 0)] 138 := by
            intro   w138_
            have w138_ := h138   w138_
            refine g_iconst hF (v := 0) d_X14_behind_138 (by decide) ?_
            exact b139 (0 : Int32) (Or.inl rfl) w138_
          refine g_if_eq hF 138 d_X14_behind_123 (by decide) rfl (fun c => ?_) (fun c => ?_)
          · have w31 := w30.1 c
            exact g_sub (L' := [(0, .ref (r 0)), (1, .int a1), (2, .ref x2_6), (3, .int (s6 0 10)), (5, .ref u101)]) [3, 4, 5, 2, 0] rfl (b138  w31)
          · have w32 := w30.2 c
            refine g_aload hF d_X14_behind_126 0 rfl ?_
            refine g_callS (As := [.ref u101]) (rest := [.ref (r 0)]) hF (fun l D cy => (ct_isInt a r hc15 w32) l D cy) (Nat.add_le_add_right (Nat.le_trans (Nat.le_of_ble_eq_true rfl) hdK) 1) mS_X14_isInt m_2471 rfl rfl (Nat.le_of_ble_eq_true rfl) d_X14_behind_128 (krZ (fun v128 hz128 w33 => ?_)) (fun _ _ _ h => h.elim)
            refine g_if_eq hF 138 d_X14_behind_131 (by decide) rfl (fun c => ?_) (fun c => ?_)
            · have w34 := w33.1 c
              exact g_sub (L' := [(0, .ref (r 0)), (1, .int a1), (2, .ref x2_6), (3, .int (s6 0 10)), (5, .ref u101)]) [3, 4, 5, 2, 0] rfl (b138  w34)
            · have w35 := w33.2 c
              refine g_iconst hF (v := 1) d_X14_behind_134 (by decide) ?_
              refine g_goto hF 139 d_X14_behind_135 (by decide) ?_
              exact g_sub (L' := [(0, .ref (r 0)), (1, .int a1), (2, .ref x2_6), (3, .int (s6 0 10)), (5, .ref u101)]) [3, 4, 5, 2, 0] rfl (b139 (1 : Int32) (Or.inr rfl) w35)
        · have w36 := w5.2 c
          refine g_aload_n hF d_X14_behind_47 rfl 1 rfl ?_
          refine g_callV (As := []) (rest := []) hF (fun l D cy => (ct_sign a r hc1 w36) l D cy) (Nat.add_le_add_right (Nat.le_trans (Nat.le_of_ble_eq_true rfl) hdK) 1) mV_X14_sign m_2377 (recv_ob obM_0) rfl rfl (Nat.le_of_ble_eq_true rfl) d_X14_behind_48 (krI (fun v48 w37 => ?_)) (fun _ _ _ h => h.elim)
          refine g_istore hF [(4, .int v48), (3, .int (s6 0 10)), (0, .ref (r 0)), (1, .int a1), (2, .ref x2_6)] d_X14_behind_51 hnn (by decide) rfl ?_
          refine g_aload_n hF d_X14_behind_53 rfl 2 rfl ?_
          refine g_dup hF d_X14_behind_54 rfl ?_
          refine g_get (v := .int (s6 0 10)) hF 10 obM_0 (by decide) m_1875 rfl d_X14_behind_55 ?_
          refine g_iconst hF (v := 1) d_X14_behind_58 (by decide) ?_
          refine g_iadd hF d_X14_behind_59 ?_
          refine g_put (v := ((s6 0 10) + (1 : Int32))) hF 10 obM_0 (by decide) m_1875 rfl rfl rfl d_X14_behind_60 ?_
          refine g_aload_n hF d_X14_behind_63 rfl 2 rfl ?_
          refine g_aload_n hF d_X14_behind_64 rfl 4 rfl ?_
          refine g_iload hF d_X14_behind_65 0 rfl ?_
          refine g_iconst hF (v := 1) d_X14_behind_67 (by decide) ?_
          refine g_iload_n hF d_X14_behind_68 rfl 1 rfl ?_
          refine g_callV (As := [.ref x2_6, .int v48, .int 1, .int (s6 0 10)]) (rest := []) hF (fun l D cy => (ct_stepped a r hc1 w37) l D cy) (Nat.add_le_add_right (Nat.le_trans (Nat.le_of_ble_eq_true rfl) hdK) 1) mV_X14_stepped m_2445 (recv_ob obM_0) rfl rfl (Nat.le_of_ble_eq_true rfl) d_X14_behind_69 (kA (fun u69 s69 t69 z69 w38 => ?_)) (fun _ _ _ h => h.elim)
          refine g_astore_n hF [(2, .ref u69), (4, .int v48), (3, .int (s6 0 10)), (0, .ref (r 0)), (1, .int a1)] d_X14_behind_72 rfl hnn (by decide) rfl ?_
          refine g_goto hF 6 d_X14_behind_73 (by decide) ?_
          obtain ⟨m6, hm6, w9⟩ := w38
          exact g_sub (L' := [(0, .ref (r 0)), (1, .int a1), (2, .ref u69)]) [3, 4, 0] rfl (ih6 m6 hm6 u69 s69 t69 z69 w9)
      refine g_if_ne hF 33 d_X14_behind_12 (by decide) rfl (fun c => ?_) (fun c => ?_)
      · have w39 := w4.1 c
        exact b33  w39
      · have w40 := w4.2 c
        refine g_aload_n hF d_X14_behind_15 rfl 0 rfl ?_
        refine g_bipush hF (v := 18) d_X14_behind_16 (by decide) ?_
        refine g_callV (As := [.int 18]) (rest := []) hF (fun l D cy => (ct_is a r hc1 w40) l D cy) (Nat.add_le_add_right (Nat.le_trans (Nat.le_of_ble_eq_true rfl) hdK) 1) mV_X14_is m_2289 (recv_ob obM_0) rfl rfl (Nat.le_of_ble_eq_true rfl) d_X14_behind_18 (krZ (fun v18 hz18 w41 => ?_)) (fun _ _ _ h => h.elim)
        refine g_if_ne hF 33 d_X14_behind_21 (by decide) rfl (fun c => ?_) (fun c => ?_)
        · have w42 := w41.1 c
          exact b33  w42
        · have w43 := w41.2 c
          refine g_aload_n hF d_X14_behind_24 rfl 0 rfl ?_
          refine g_bipush hF (v := 19) d_X14_behind_25 (by decide) ?_
          refine g_callV (As := [.int 19]) (rest := []) hF (fun l D cy => (ct_is a r hc1 w43) l D cy) (Nat.add_le_add_right (Nat.le_trans (Nat.le_of_ble_eq_true rfl) hdK) 1) mV_X14_is m_2289 (recv_ob obM_0) rfl rfl (Nat.le_of_ble_eq_true rfl) d_X14_behind_27 (krZ (fun v27 hz27 w44 => ?_)) (fun _ _ _ h => h.elim)
          refine g_if_eq hF 198 d_X14_behind_30 (by decide) rfl (fun c => ?_) (fun c => ?_)
          · have w45 := w44.1 c
            refine g_aload_n hF d_X14_behind_198 rfl 2 rfl ?_
            exact g_aret hF rfl d_X14_behind_199 ⟨x2_6, rfl, w45⟩
          · have w46 := w44.2 c
            exact b33  w46
  exact g_sub (L' := [(0, .ref (r 0)), (1, .int a1), (2, .ref u2)]) [1, 2, 0] rfl (b6 i6 u2 s2 t2 z2 u6)
def wp_text (a1 : Int32) (σ τ : St) (vs : List Nat) (Q : Nat → St → St → List Nat → Prop) : Prop :=
  ((0 ≤ a1.toInt ∧ a1.toInt < 16002) ∧ (∃ J27 : St → St → List Nat → Prop, (∀ (s27 t27 : St) (z27 : List Nat), J27 s27 t27 z27 → ((∃ J60 : St → St → List Nat → Prop, (∀ (s60 t60 : St) (z60 : List Nat), J60 s60 t60 z60 → (wp_put_1 (2 : Int32) (s27 0 37) s60 t60 z60 (fun s63 t63 z63 => ((z63).length < CAP ∧ ∀ q66 : Nat, q66 ∉ z63 → wp_Vinit q66 (1 : Int32) s63 (upF t63 q66 (fun _ => 0)) (z63 ++ [q66]) (fun s71 t71 z71 => (q66 ∈ z71 ∧ wp_Vaddress q66 (((-1) : Int32) - (s27 0 37)) (0 : Int32) s71 t71 z71 (fun u78 s78 t78 z78 => Q u78 s78 t78 z78))))))) ∧ (16000 < ((s27 0 37) + ((σ 6 a1.toNatClampNeg) + (1 : Int32))).toInt → J60 s27 t27 z27) ∧ (((s27 0 37) + ((σ 6 a1.toNatClampNeg) + (1 : Int32))).toInt ≤ 16000 → wp_codes a1 (s27 0 37) s27 t27 z27 (fun s47 t47 z47 => J60 (upC s47 0 37 ((s47 0 37) + ((σ 6 a1.toNatClampNeg) + (1 : Int32)))) t47 z47))))) ∧ (((σ 0 37) + ((σ 6 a1.toNatClampNeg) + (1 : Int32))).toInt ≤ 16000 → J27 σ τ vs) ∧ (16000 < ((σ 0 37) + ((σ 6 a1.toNatClampNeg) + (1 : Int32))).toInt → wp_tell (4 : Int32) a1 σ τ vs (fun s24 t24 z24 => J27 s24 t24 z24))))
set_option maxHeartbeats 4000000 in
set_option maxRecDepth 100000 in
theorem ct_text (a : Nat → Nat) (r : Nat → Nat) {a1 : Int32} {σ τ : St} {vs : List Nat} {Q : Nat → St → St → List Nat → Prop} (hcap : vs.length ≤ CAP) (w : wp_text a1 σ τ vs Q) (l : Launch) (D : va_G) (cy : Nat → ClassId) : Ct l D cy SM r (EM a) y_X14_text (Cond.code y_X14_text b_X14_text 4 (some (.object "LinkedUnitsModel$Value"))) 3 [.ref (r 0), .int a1] σ τ vs (QAs Q) QT0 := by
  unfold wp_text at w
  refine Ct_of (EM_ok a) (by decide) (Nat.le_of_ble_eq_true rfl) hcap (fun X hnn hF => ?_)
  show G SM r X σ τ vs [(0, .ref (r 0)), (1, .int a1)] [] 0
  refine g_aload_n hF d_X14_text_0 rfl 0 rfl ?_
  refine g_get (v := .ref (r 6)) hF 7 obM_0 (by decide) m_1872 rfl d_X14_text_1 ?_
  refine g_iload_n hF d_X14_text_4 rfl 1 rfl ?_
  have w1 := w.2
  refine g_iald hF arM_6 (s_in (Nat.le_of_ble_eq_true rfl) w.1.1 w.1.2) d_X14_text_5 ?_
  refine g_top (v := (σ 6 a1.toNatClampNeg)) rfl ?_
  refine g_iconst hF (v := 1) d_X14_text_6 (by decide) ?_
  refine g_iadd hF d_X14_text_7 ?_
  refine g_istore_n hF [(2, .int ((σ 6 a1.toNatClampNeg) + (1 : Int32))), (0, .ref (r 0)), (1, .int a1)] d_X14_text_8 rfl hnn (by decide) rfl ?_
  refine g_aload_n hF d_X14_text_9 rfl 1 rfl ?_
  refine g_get (v := .int (σ 0 37)) hF 37 obM_0 (by decide) m_1902 rfl d_X14_text_10 ?_
  refine g_iload_n hF d_X14_text_13 rfl 0 rfl ?_
  refine g_iadd hF d_X14_text_14 ?_
  refine g_sipush hF (v := 16000) d_X14_text_15 (by decide) ?_
  obtain ⟨J27, h27, w2⟩ := w1
  have b27 : ∀ (s27 t27 : St) (z27 : List Nat), J27 s27 t27 z27 → G SM r X s27 t27 z27 [(0, .ref (r 0)), (1, .int a1), (2, .int ((σ 6 a1.toNatClampNeg) + (1 : Int32)))] [] 27 := by
    intro s27 t27 z27  w27_
    have w27_ := h27 s27 t27 z27  w27_
    refine g_aload_n hF d_X14_text_27 rfl 0 rfl ?_
    refine g_get (v := .int (s27 0 37)) hF 37 obM_0 (by decide) m_1902 rfl d_X14_text_28 ?_
    refine g_istore_n hF [(3, .int (s27 0 37)), (0, .ref (r 0)), (1, .int a1), (2, .int ((σ 6 a1.toNatClampNeg) + (1 : Int32)))] d_X14_text_31 rfl hnn (by decide) rfl ?_
    refine g_aload_n hF d_X14_text_32 rfl 1 rfl ?_
    refine g_get (v := .int (s27 0 37)) hF 37 obM_0 (by decide) m_1902 rfl d_X14_text_33 ?_
    refine g_iload_n hF d_X14_text_36 rfl 3 rfl ?_
    refine g_iadd hF d_X14_text_37 ?_
    refine g_sipush hF (v := 16000) d_X14_text_38 (by decide) ?_
    obtain ⟨J60, h60, w3⟩ := w27_
    have b60 : ∀ (s60 t60 : St) (z60 : List Nat), J60 s60 t60 z60 → G SM r X s60 t60 z60 [(0, .ref (r 0)), (3, .int (s27 0 37))] [] 60 := by
      intro s60 t60 z60  w60_
      have w60_ := h60 s60 t60 z60  w60_
      refine g_aload_n hF d_X14_text_60 rfl 0 rfl ?_
      refine g_iconst hF (v := 2) d_X14_text_61 (by decide) ?_
      refine g_iload_n hF d_X14_text_62 rfl 1 rfl ?_
      refine g_cap (fun hc3 => ?_)
      refine g_callV (As := [.int 2, .int (s27 0 37)]) (rest := []) hF (fun l D cy => (ct_put_1 a r hc3 w60_) l D cy) (Nat.le_of_ble_eq_true rfl) mV_X14_put_1 m_2433 (recv_ob obM_0) rfl rfl (Nat.le_of_ble_eq_true rfl) d_X14_text_63 (kV (fun s63 t63 z63 w5 => ?_)) (fun _ _ _ h => h.elim)
      refine g_new hF clsVC VC_ty m_2393 m_2394 m_25 w5.1 d_X14_text_66 (fun q66 hq66 => ?_)
      have w6 := w5.2 q66 hq66
      refine g_dup hF d_X14_text_69 rfl ?_
      refine g_iconst hF (v := 1) d_X14_text_70 (by decide) ?_
      refine g_cap (fun hc6 => ?_)
      refine g_callI (As := [.int 1]) (rest := [.ref q66]) hF (fun l D cy => (ct_Vinit a r hc6 w6) l D cy) (Nat.le_of_ble_eq_true rfl) mI_X13_init m_2395 rfl rfl (Nat.le_of_ble_eq_true rfl) d_X14_text_71 (kV (fun s71 t71 z71 w8 => ?_))
      refine g_iconst hF (v := (-1)) d_X14_text_74 (by decide) ?_
      refine g_iload_n hF d_X14_text_75 rfl 1 rfl ?_
      refine g_isub hF d_X14_text_76 ?_
      refine g_iconst hF (v := 0) d_X14_text_77 (by decide) ?_
      obtain ⟨hm8, w9⟩ := w8
      refine g_cap (fun hc9 => ?_)
      refine g_callV (As := [.int (((-1) : Int32) - (s27 0 37)), .int 0]) (rest := []) hF (fun l D cy => (ct_Vaddress a r hc9 w9) l D cy) (Nat.le_of_ble_eq_true rfl) mV_X13_address m_2441 (recv_v hm8 clsVC) rfl rfl (Nat.le_of_ble_eq_true rfl) d_X14_text_78 (kA (fun u78 s78 t78 z78 w11 => ?_)) (fun _ _ _ h => h.elim)
      exact g_aret hF rfl d_X14_text_81 ⟨u78, rfl, w11⟩
    refine g_icmp_gt (yv := 16000) hF 60 d_X14_text_41 (by decide) rfl (by decide) (fun c => ?_) (fun c => ?_)
    · have w12 := w3.1 c
      exact g_sub (L' := [(0, .ref (r 0)), (3, .int (s27 0 37))]) [1, 0] rfl (b60 s27 t27 z27 w12)
    · have w13 := w3.2 c
      refine g_aload_n hF d_X14_text_44 rfl 1 rfl ?_
      refine g_iload_n hF d_X14_text_45 rfl 2 rfl ?_
      refine g_iload_n hF d_X14_text_46 rfl 0 rfl ?_
      refine g_cap (fun hc13 => ?_)
      refine g_callV (As := [.int a1, .int (s27 0 37)]) (rest := []) hF (fun l D cy => (ct_codes a r hc13 w13) l D cy) (Nat.le_of_ble_eq_true rfl) mV_X14_codes m_2490 (recv_ob obM_0) rfl rfl (Nat.le_of_ble_eq_true rfl) d_X14_text_47 (kV (fun s47 t47 z47 w15 => ?_)) (fun _ _ _ h => h.elim)
      refine g_aload_n hF d_X14_text_50 rfl 1 rfl ?_
      refine g_dup hF d_X14_text_51 rfl ?_
      refine g_get (v := .int (s47 0 37)) hF 37 obM_0 (by decide) m_1902 rfl d_X14_text_52 ?_
      refine g_iload_n hF d_X14_text_55 rfl 3 rfl ?_
      refine g_iadd hF d_X14_text_56 ?_
      refine g_put (v := ((s47 0 37) + ((σ 6 a1.toNatClampNeg) + (1 : Int32)))) hF 37 obM_0 (by decide) m_1902 rfl rfl rfl d_X14_text_57 ?_
      exact g_sub (L' := [(0, .ref (r 0)), (3, .int (s27 0 37))]) [1, 0] rfl (b60 (upC s47 0 37 ((s47 0 37) + ((σ 6 a1.toNatClampNeg) + (1 : Int32)))) t47 z47 w15)
  refine g_icmp_le (yv := 16000) hF 27 d_X14_text_18 (by decide) rfl (by decide) (fun c => ?_) (fun c => ?_)
  · have w16 := w2.1 c
    exact g_sub (L' := [(0, .ref (r 0)), (1, .int a1), (2, .int ((σ 6 a1.toNatClampNeg) + (1 : Int32)))]) [1, 2, 0] rfl (b27 σ τ vs w16)
  · have w17 := w2.2 c
    refine g_aload_n hF d_X14_text_21 rfl 1 rfl ?_
    refine g_iconst hF (v := 4) d_X14_text_22 (by decide) ?_
    refine g_iload_n hF d_X14_text_23 rfl 2 rfl ?_
    refine g_callV (As := [.int 4, .int a1]) (rest := []) hF (fun l D cy => (ct_tell a r hcap w17) l D cy) (Nat.le_of_ble_eq_true rfl) mV_X14_tell m_2317 (recv_ob obM_0) rfl rfl (Nat.le_of_ble_eq_true rfl) d_X14_text_24 (kV (fun s24 t24 z24 w18 => ?_)) (fun _ _ _ h => h.elim)
    exact g_sub (L' := [(0, .ref (r 0)), (1, .int a1), (2, .int ((σ 6 a1.toNatClampNeg) + (1 : Int32)))]) [1, 2, 0] rfl (b27 s24 t24 z24 w18)
def wp_decided (Kexpression : Int32 → St → St → List Nat → (Nat → St → St → List Nat → Prop) → (St → St → List Nat → Prop) → Prop) (Kchoice : Int32 → St → St → List Nat → (Nat → St → St → List Nat → Prop) → (St → St → List Nat → Prop) → Prop) (Kbinary : Int32 → Int32 → St → St → List Nat → (Nat → St → St → List Nat → Prop) → (St → St → List Nat → Prop) → Prop) (Kdecided : Int32 → Nat → Int32 → Int32 → St → St → List Nat → (Nat → St → St → List Nat → Prop) → (St → St → List Nat → Prop) → Prop) (Kunary : Int32 → St → St → List Nat → (Nat → St → St → List Nat → Prop) → (St → St → List Nat → Prop) → Prop) (Kbehind : Int32 → St → St → List Nat → (Nat → St → St → List Nat → Prop) → (St → St → List Nat → Prop) → Prop) (Kprimary : Int32 → St → St → List Nat → (Nat → St → St → List Nat → Prop) → (St → St → List Nat → Prop) → Prop) (Kcall_0 : Int32 → Int32 → St → St → List Nat → (Nat → St → St → List Nat → Prop) → (St → St → List Nat → Prop) → Prop) (a1 : Int32) (a2 : Nat) (a3 : Int32) (a4 : Int32) (σ τ : St) (vs : List Nat) (Q : Nat → St → St → List Nat → Prop) (T : St → St → List Nat → Prop) : Prop :=
  (∃ J14 : Int32 → Prop, (∀ (y1_14 : Int32), J14 y1_14 → (wp_open y1_14 σ τ vs (fun v14 s14 t14 z14 => wp_rank a1 s14 t14 z14 (fun v21 => Kbinary (v21 + (1 : Int32)) a4 s14 t14 z14 (fun u28 s28 t28 z28 => wp_read_1 u28 s28 t28 z28 (fun s36 t36 z36 => wp_put_0 (24 : Int32) s36 t36 z36 (fun s42 t42 z42 => wp_open (15 : Int32) s42 t42 z42 (fun v48 s48 t48 z48 => wp_aim v14 s48 t48 z48 (fun s56 t56 z56 => (∃ J72 : Int32 → Prop, (∀ (y2_72 : Int32), y2_72 = 0 ∨ y2_72 = 1 → J72 y2_72 → (wp_put_1 (0 : Int32) y2_72 s56 t56 z56 (fun s72 t72 z72 => wp_aim v48 s72 t72 z72 (fun s78 t78 z78 => wp_isAny a2 s78 t78 z78 (fun v83 => (∃ J102 : Int32 → Prop, (∀ (y1_102 : Int32), y1_102 = 0 ∨ y1_102 = 1 → J102 y1_102 → (wp_must y1_102 a3 s78 t78 z78 (fun s103 t103 z103 => wp_made (0 : Int32) a2 u28 a3 s103 t103 z103 (fun u112 s112 t112 z112 => Q u112 s112 t112 z112)))) ∧ (∃ J101 : Prop, (J101  → (J102 (0 : Int32))) ∧ (v83.toInt = 0 → J101) ∧ (v83.toInt ≠ 0 → wp_isAny u28 s78 t78 z78 (fun v91 => (v91.toInt = 0 → J101) ∧ (v91.toInt ≠ 0 → J102 (1 : Int32))))))))))) ∧ (a1.toInt ≠ 11 → J72 (1 : Int32)) ∧ (a1.toInt = 11 → J72 (0 : Int32)))))))) T)))) ∧ (a1.toInt ≠ 11 → J14 (17 : Int32)) ∧ (a1.toInt = 11 → J14 (16 : Int32)))
set_option maxHeartbeats 4000000 in
set_option maxRecDepth 100000 in
theorem ct_decided (a : Nat → Nat) (r : Nat → Nat) (dK : Nat) (hdK : 3 ≤ dK) (Kexpression : Int32 → St → St → List Nat → (Nat → St → St → List Nat → Prop) → (St → St → List Nat → Prop) → Prop) (Kchoice : Int32 → St → St → List Nat → (Nat → St → St → List Nat → Prop) → (St → St → List Nat → Prop) → Prop) (Kbinary : Int32 → Int32 → St → St → List Nat → (Nat → St → St → List Nat → Prop) → (St → St → List Nat → Prop) → Prop) (Kdecided : Int32 → Nat → Int32 → Int32 → St → St → List Nat → (Nat → St → St → List Nat → Prop) → (St → St → List Nat → Prop) → Prop) (Kunary : Int32 → St → St → List Nat → (Nat → St → St → List Nat → Prop) → (St → St → List Nat → Prop) → Prop) (Kbehind : Int32 → St → St → List Nat → (Nat → St → St → List Nat → Prop) → (St → St → List Nat → Prop) → Prop) (Kprimary : Int32 → St → St → List Nat → (Nat → St → St → List Nat → Prop) → (St → St → List Nat → Prop) → Prop) (Kcall_0 : Int32 → Int32 → St → St → List Nat → (Nat → St → St → List Nat → Prop) → (St → St → List Nat → Prop) → Prop) (hKbinary : ∀ {a1 : Int32} {a2 : Int32} {σ τ : St} {vs : List Nat} {Q : Nat → St → St → List Nat → Prop} {T : St → St → List Nat → Prop}, vs.length ≤ CAP → Kbinary a1 a2 σ τ vs Q T → ∀ (l : Launch) (D : va_G) (cy : Nat → ClassId), Ct l D cy SM r (EM a) y_X14_binary (Cond.code y_X14_binary b_X14_binary 7 (some (.object "LinkedUnitsModel$Value"))) dK [.ref (r 0), .int a1, .int a2] σ τ vs (QAs Q) T) {a1 : Int32} {a2 : Nat} {a3 : Int32} {a4 : Int32} {σ τ : St} {vs : List Nat} {Q : Nat → St → St → List Nat → Prop} {T : St → St → List Nat → Prop} (hcap : vs.length ≤ CAP) (w : wp_decided Kexpression Kchoice Kbinary Kdecided Kunary Kbehind Kprimary Kcall_0 a1 a2 a3 a4 σ τ vs Q T) (l : Launch) (D : va_G) (cy : Nat → ClassId) : Ct l D cy SM r (EM a) y_X14_decided (Cond.code y_X14_decided b_X14_decided 8 (some (.object "LinkedUnitsModel$Value"))) (dK + 1) [.ref (r 0), .int a1, .ref a2, .int a3, .int a4] σ τ vs (QAs Q) T := by
  unfold wp_decided at w
  refine Ct_of (EM_ok a) (by decide) (Nat.le_of_ble_eq_true rfl) hcap (fun X hnn hF => ?_)
  show G SM r X σ τ vs [(0, .ref (r 0)), (1, .int a1), (2, .ref a2), (3, .int a3), (4, .int a4)] [] 0
  refine g_aload_n hF d_X14_decided_0 rfl 0 rfl ?_
  refine g_iload_n hF d_X14_decided_1 rfl 1 rfl ?_
  refine g_bipush hF (v := 11) d_X14_decided_2 (by decide) ?_
  obtain ⟨J14, h14, w1⟩ := w
  have b14 : ∀ (y1_14 : Int32), J14 y1_14 → G SM r X σ τ vs [(0, .ref (r 0)), (1, .int a1), (2, .ref a2), (3, .int a3), (4, .int a4)] [.int y1_14, .ref (r 0)] 14 := by
    intro y1_14  w14_
    have w14_ := h14 y1_14  w14_
    refine g_callV (As := [.int y1_14]) (rest := []) hF (fun l D cy => (ct_open a r hcap w14_) l D cy) (Nat.add_le_add_right (Nat.le_trans (Nat.le_of_ble_eq_true rfl) hdK) 1) mV_X14_open m_2520 (recv_ob obM_0) rfl rfl (Nat.le_of_ble_eq_true rfl) d_X14_decided_14 (kI (fun v14 s14 t14 z14 w2 => ?_)) (fun _ _ _ h => h.elim)
    refine g_istore hF [(5, .int v14), (0, .ref (r 0)), (1, .int a1), (2, .ref a2), (3, .int a3), (4, .int a4)] d_X14_decided_17 hnn (by decide) rfl ?_
    refine g_aload_n hF d_X14_decided_19 rfl 1 rfl ?_
    refine g_iload_n hF d_X14_decided_20 rfl 2 rfl ?_
    refine g_cap (fun hc2 => ?_)
    refine g_callS (As := [.int a1]) (rest := [.ref (r 0)]) hF (fun l D cy => (ct_rank a r hc2 w2) l D cy) (Nat.add_le_add_right (Nat.le_trans (Nat.le_of_ble_eq_true rfl) hdK) 1) mS_X14_rank m_2513 rfl rfl (Nat.le_of_ble_eq_true rfl) d_X14_decided_21 (krI (fun v21 w4 => ?_)) (fun _ _ _ h => h.elim)
    refine g_iconst hF (v := 1) d_X14_decided_24 (by decide) ?_
    refine g_iadd hF d_X14_decided_25 ?_
    refine g_iload hF d_X14_decided_26 5 rfl ?_
    refine g_callV (As := [.int (v21 + (1 : Int32)), .int a4]) (rest := []) hF (fun l D cy => (hKbinary hc2 w4) l D cy) (Nat.le_refl _) mV_X14_binary m_2369 (recv_ob obM_0) rfl rfl (Nat.le_of_ble_eq_true rfl) d_X14_decided_28 (kA (fun u28 s28 t28 z28 w5 => ?_)) (fun σ9 τ9 vs9 h9 => g_out hF stopM rfl h9)
    refine g_astore hF [(6, .ref u28), (5, .int v14), (0, .ref (r 0)), (1, .int a1), (2, .ref a2), (3, .int a3), (4, .int a4)] d_X14_decided_31 hnn (by decide) rfl ?_
    refine g_aload_n hF d_X14_decided_33 rfl 2 rfl ?_
    refine g_aload hF d_X14_decided_34 0 rfl ?_
    refine g_cap (fun hc5 => ?_)
    refine g_callV (As := [.ref u28]) (rest := []) hF (fun l D cy => (ct_read_1 a r hc5 w5) l D cy) (Nat.add_le_add_right (Nat.le_trans (Nat.le_of_ble_eq_true rfl) hdK) 1) mV_X14_read_1 m_2453 (recv_ob obM_0) rfl rfl (Nat.le_of_ble_eq_true rfl) d_X14_decided_36 (kV (fun s36 t36 z36 w7 => ?_)) (fun _ _ _ h => h.elim)
    refine g_aload_n hF d_X14_decided_39 rfl 2 rfl ?_
    refine g_bipush hF (v := 24) d_X14_decided_40 (by decide) ?_
    refine g_cap (fun hc7 => ?_)
    refine g_callV (As := [.int 24]) (rest := []) hF (fun l D cy => (ct_put_0 a r hc7 w7) l D cy) (Nat.add_le_add_right (Nat.le_trans (Nat.le_of_ble_eq_true rfl) hdK) 1) mV_X14_put_0 m_2437 (recv_ob obM_0) rfl rfl (Nat.le_of_ble_eq_true rfl) d_X14_decided_42 (kV (fun s42 t42 z42 w9 => ?_)) (fun _ _ _ h => h.elim)
    refine g_aload_n hF d_X14_decided_45 rfl 2 rfl ?_
    refine g_bipush hF (v := 15) d_X14_decided_46 (by decide) ?_
    refine g_cap (fun hc9 => ?_)
    refine g_callV (As := [.int 15]) (rest := []) hF (fun l D cy => (ct_open a r hc9 w9) l D cy) (Nat.add_le_add_right (Nat.le_trans (Nat.le_of_ble_eq_true rfl) hdK) 1) mV_X14_open m_2520 (recv_ob obM_0) rfl rfl (Nat.le_of_ble_eq_true rfl) d_X14_decided_48 (kI (fun v48 s48 t48 z48 w11 => ?_)) (fun _ _ _ h => h.elim)
    refine g_istore hF [(7, .int v48), (6, .ref u28), (5, .int v14), (0, .ref (r 0)), (1, .int a1), (2, .ref a2), (3, .int a3), (4, .int a4)] d_X14_decided_51 hnn (by decide) rfl ?_
    refine g_aload_n hF d_X14_decided_53 rfl 3 rfl ?_
    refine g_iload hF d_X14_decided_54 2 rfl ?_
    refine g_cap (fun hc11 => ?_)
    refine g_callV (As := [.int v14]) (rest := []) hF (fun l D cy => (ct_aim a r hc11 w11) l D cy) (Nat.add_le_add_right (Nat.le_trans (Nat.le_of_ble_eq_true rfl) hdK) 1) mV_X14_aim m_2524 (recv_ob obM_0) rfl rfl (Nat.le_of_ble_eq_true rfl) d_X14_decided_56 (kV (fun s56 t56 z56 w13 => ?_)) (fun _ _ _ h => h.elim)
    refine g_aload_n hF d_X14_decided_59 rfl 3 rfl ?_
    refine g_iconst hF (v := 0) d_X14_decided_60 (by decide) ?_
    refine g_iload_n hF d_X14_decided_61 rfl 4 rfl ?_
    refine g_bipush hF (v := 11) d_X14_decided_62 (by decide) ?_
    obtain ⟨J72, h72, w14⟩ := w13
    have b72 : ∀ (y2_72 : Int32), y2_72 = 0 ∨ y2_72 = 1 → J72 y2_72 → G SM r X s56 t56 z56 [(0, .ref (r 0)), (2, .ref a2), (3, .int a3), (6, .ref u28), (7, .int v48)] [.int y2_72, .int 0, .ref (r 0)] 72 := by
      intro y2_72 hy2_72 w72_
      have w72_ := h72 y2_72 hy2_72 w72_
      refine g_cap (fun hc14 => ?_)
      refine g_callV (As := [.int 0, .int y2_72]) (rest := []) hF (fun l D cy => (ct_put_1 a r hc14 w72_) l D cy) (Nat.add_le_add_right (Nat.le_trans (Nat.le_of_ble_eq_true rfl) hdK) 1) mV_X14_put_1 m_2433 (recv_ob obM_0) rfl rfl (Nat.le_of_ble_eq_true rfl) d_X14_decided_72 (kV (fun s72 t72 z72 w16 => ?_)) (fun _ _ _ h => h.elim)
      refine g_aload_n hF d_X14_decided_75 rfl 0 rfl ?_
      refine g_iload hF d_X14_decided_76 4 rfl ?_
      refine g_cap (fun hc16 => ?_)
      refine g_callV (As := [.int v48]) (rest := []) hF (fun l D cy => (ct_aim a r hc16 w16) l D cy) (Nat.add_le_add_right (Nat.le_trans (Nat.le_of_ble_eq_true rfl) hdK) 1) mV_X14_aim m_2524 (recv_ob obM_0) rfl rfl (Nat.le_of_ble_eq_true rfl) d_X14_decided_78 (kV (fun s78 t78 z78 w18 => ?_)) (fun _ _ _ h => h.elim)
      refine g_aload_n hF d_X14_decided_81 rfl 0 rfl ?_
      refine g_aload_n hF d_X14_decided_82 rfl 1 rfl ?_
      refine g_cap (fun hc18 => ?_)
      refine g_callS (As := [.ref a2]) (rest := [.ref (r 0)]) hF (fun l D cy => (ct_isAny a r hc18 w18) l D cy) (Nat.add_le_add_right (Nat.le_trans (Nat.le_of_ble_eq_true rfl) hdK) 1) mS_X14_isAny m_2468 rfl rfl (Nat.le_of_ble_eq_true rfl) d_X14_decided_83 (krZ (fun v83 hz83 w20 => ?_)) (fun _ _ _ h => h.elim)
      obtain ⟨J102, h102, w21⟩ := w20
      have b102 : ∀ (y1_102 : Int32), y1_102 = 0 ∨ y1_102 = 1 → J102 y1_102 → G SM r X s78 t78 z78 [(0, .ref (r 0)), (2, .ref a2), (3, .int a3), (6, .ref u28)] [.int y1_102, .ref (r 0)] 102 := by
        intro y1_102 hy1_102 w102_
        have w102_ := h102 y1_102 hy1_102 w102_
        refine g_iload_n hF d_X14_decided_102 rfl 2 rfl ?_
        refine g_callV (As := [.int y1_102, .int a3]) (rest := []) hF (fun l D cy => (ct_must a r hc18 w102_) l D cy) (Nat.add_le_add_right (Nat.le_trans (Nat.le_of_ble_eq_true rfl) hdK) 1) mV_X14_must m_2313 (recv_ob obM_0) rfl rfl (Nat.le_of_ble_eq_true rfl) d_X14_decided_103 (kV (fun s103 t103 z103 w22 => ?_)) (fun _ _ _ h => h.elim)
        refine g_aload_n hF d_X14_decided_106 rfl 0 rfl ?_
        refine g_iconst hF (v := 0) d_X14_decided_107 (by decide) ?_
        refine g_aload_n hF d_X14_decided_108 rfl 1 rfl ?_
        refine g_aload hF d_X14_decided_109 3 rfl ?_
        refine g_iload_n hF d_X14_decided_111 rfl 2 rfl ?_
        refine g_cap (fun hc22 => ?_)
        refine g_callV (As := [.int 0, .ref a2, .ref u28, .int a3]) (rest := []) hF (fun l D cy => (ct_made a r hc22 w22) l D cy) (Nat.add_le_add_right (Nat.le_trans (Nat.le_of_ble_eq_true rfl) hdK) 1) mV_X14_made m_2389 (recv_ob obM_0) rfl rfl (Nat.le_of_ble_eq_true rfl) d_X14_decided_112 (kA (fun u112 s112 t112 z112 w24 => ?_)) (fun _ _ _ h => h.elim)
        exact g_aret hF rfl d_X14_decided_115 ⟨u112, rfl, w24⟩
      obtain ⟨J101, h101, w25⟩ := w21
      have b101 : J101  → G SM r X s78 t78 z78 [(0, .ref (r 0)), (2, .ref a2), (3, .int a3), (6, .ref u28)] [.ref (r 0)] 101 := by
        intro   w101_
        have w101_ := h101   w101_
        refine g_iconst hF (v := 0) d_X14_decided_101 (by decide) ?_
        exact b102 (0 : Int32) (Or.inl rfl) w101_
      refine g_if_eq hF 101 d_X14_decided_86 (by decide) rfl (fun c => ?_) (fun c => ?_)
      · have w26 := w25.1 c
        exact g_sub (L' := [(0, .ref (r 0)), (2, .ref a2), (3, .int a3), (6, .ref u28)]) [0, 1, 2, 3] rfl (b101  w26)
      · have w27 := w25.2 c
        refine g_aload hF d_X14_decided_89 3 rfl ?_
        refine g_callS (As := [.ref u28]) (rest := [.ref (r 0)]) hF (fun l D cy => (ct_isAny a r hc18 w27) l D cy) (Nat.add_le_add_right (Nat.le_trans (Nat.le_of_ble_eq_true rfl) hdK) 1) mS_X14_isAny m_2468 rfl rfl (Nat.le_of_ble_eq_true rfl) d_X14_decided_91 (krZ (fun v91 hz91 w28 => ?_)) (fun _ _ _ h => h.elim)
        refine g_if_eq hF 101 d_X14_decided_94 (by decide) rfl (fun c => ?_) (fun c => ?_)
        · have w29 := w28.1 c
          exact g_sub (L' := [(0, .ref (r 0)), (2, .ref a2), (3, .int a3), (6, .ref u28)]) [0, 1, 2, 3] rfl (b101  w29)
        · have w30 := w28.2 c
          refine g_iconst hF (v := 1) d_X14_decided_97 (by decide) ?_
          refine g_goto hF 102 d_X14_decided_98 (by decide) ?_
          exact g_sub (L' := [(0, .ref (r 0)), (2, .ref a2), (3, .int a3), (6, .ref u28)]) [0, 1, 2, 3] rfl (b102 (1 : Int32) (Or.inr rfl) w30)
    refine g_icmp_ne (yv := 11) hF 71 d_X14_decided_64 (by decide) rfl (by decide) (fun c => ?_) (fun c => ?_)
    · have w31 := w14.1 c
      refine g_iconst hF (v := 1) d_X14_decided_71 (by decide) ?_
      exact g_sub (L' := [(0, .ref (r 0)), (2, .ref a2), (3, .int a3), (6, .ref u28), (7, .int v48)]) [3, 5, 6, 1, 0] rfl (b72 (1 : Int32) (Or.inr rfl) w31)
    · have w32 := w14.2 c
      refine g_iconst hF (v := 0) d_X14_decided_67 (by decide) ?_
      refine g_goto hF 72 d_X14_decided_68 (by decide) ?_
      exact g_sub (L' := [(0, .ref (r 0)), (2, .ref a2), (3, .int a3), (6, .ref u28), (7, .int v48)]) [3, 5, 6, 1, 0] rfl (b72 (0 : Int32) (Or.inl rfl) w32)
  refine g_icmp_ne (yv := 11) hF 12 d_X14_decided_4 (by decide) rfl (by decide) (fun c => ?_) (fun c => ?_)
  · have w33 := w1.1 c
    refine g_bipush hF (v := 17) d_X14_decided_12 (by decide) ?_
    exact b14 (17 : Int32) w33
  · have w34 := w1.2 c
    refine g_bipush hF (v := 16) d_X14_decided_7 (by decide) ?_
    refine g_goto hF 14 d_X14_decided_9 (by decide) ?_
    exact b14 (16 : Int32) w34
def wp_two (a1 : Int32) (a2 : Nat) (a3 : Nat) (a4 : Int32) (σ τ : St) (vs : List Nat) (Q : Nat → St → St → List Nat → Prop) : Prop :=
  wp_typeOf a1 a2 a3 σ τ vs (fun v3 => (∃ J21 : Int32 → Prop, (∀ (y1_21 : Int32), y1_21 = 0 ∨ y1_21 = 1 → J21 y1_21 → (wp_must y1_21 a4 σ τ vs (fun s23 t23 z23 => wp_made v3 a2 a3 a4 s23 t23 z23 (fun u33 s33 t33 z33 => wp_rank a1 s33 t33 z33 (fun v39 => (∃ J59 : Int32 → Prop, (∀ (y0_59 : Int32), y0_59 = 0 ∨ y0_59 = 1 → J59 y0_59 → ((∃ J77 : Int32 → Prop, (∀ (y2_77 : Int32), J77 y2_77 → (((0 ≤ a4.toInt ∧ a4.toInt < 16002) ∧ wp_put_2 (11 : Int32) y2_77 (s33 5 a4.toNatClampNeg) s33 t33 z33 (fun s84 t84 z84 => (u33 ∈ z84 ∧ ((t84 u33 3).toInt ≤ 60 → (a2 ∈ z84 ∧ (∃ J172 : Prop, (J172  → ((∃ J197 : Int32 → Prop, (∀ (y0_197 : Int32), y0_197 = 0 ∨ y0_197 = 1 → J197 y0_197 → ((∃ J257 : Prop, (J257  → ((y0_197.toInt = 0 → Q u33 s84 t84 z84) ∧ (y0_197.toInt ≠ 0 → ((t84 a2 6).toInt ≠ 1 → Q u33 s84 t84 z84) ∧ ((t84 a2 6).toInt = 1 → (a3 ∈ z84 ∧ ((t84 a3 6).toInt ≠ 2 → Q u33 s84 t84 z84) ∧ ((t84 a3 6).toInt = 2 → wp_Vaddress u33 (t84 a3 8) ((t84 a2 7) + (t84 a3 7)) s84 t84 z84 (fun u293 s293 t293 z293 => Q u293 s293 t293 z293))))))) ∧ (y0_197.toInt = 0 → J257) ∧ (y0_197.toInt ≠ 0 → ((t84 a2 6).toInt ≠ 2 → J257) ∧ ((t84 a2 6).toInt = 2 → (a3 ∈ z84 ∧ ((t84 a3 6).toInt ≠ 1 → J257) ∧ ((t84 a3 6).toInt = 1 → (∃ J253 : Int32 → Prop, (∀ (y2_253 : Int32), J253 y2_253 → (wp_Vaddress u33 (t84 a2 8) y2_253 s84 t84 z84 (fun u253 s253 t253 z253 => Q u253 s253 t253 z253))) ∧ (a1.toInt ≠ 36 → J253 ((t84 a2 7) - (t84 a3 7))) ∧ (a1.toInt = 36 → J253 ((t84 a2 7) + (t84 a3 7))))))))))) ∧ (∃ J196 : Prop, (J196  → (J197 (0 : Int32))) ∧ (∃ J184 : Prop, (J184  → (wp_isPointer u33 s84 t84 z84 (fun v186 => (v186.toInt = 0 → J196) ∧ (v186.toInt ≠ 0 → J197 (1 : Int32))))) ∧ (a1.toInt = 36 → J184) ∧ (a1.toInt ≠ 36 → (a1.toInt ≠ 37 → J196) ∧ (a1.toInt = 37 → J184))))))) ∧ ((t84 a2 6).toInt ≠ 1 → J172) ∧ ((t84 a2 6).toInt = 1 → (a3 ∈ z84 ∧ ((t84 a3 6).toInt ≠ 1 → J172) ∧ ((t84 a3 6).toInt = 1 → wp_isInt a2 s84 t84 z84 (fun v117 => (v117.toInt = 0 → J172) ∧ (v117.toInt ≠ 0 → wp_isInt a3 s84 t84 z84 (fun v124 => (v124.toInt = 0 → J172) ∧ (v124.toInt ≠ 0 → (∃ J154 : Prop, (J154  → (wp_work a1 (t84 a2 7) (t84 a3 7) s84 t84 z84 (fun v165 => wp_Vconstant u33 v165 s84 t84 z84 (fun u168 s168 t168 z168 => Q u168 s168 t168 z168)))) ∧ (∃ J142 : Prop, (J142  → (((t84 a3 7).toInt ≠ 0 → J154) ∧ ((t84 a3 7).toInt = 0 → Q u33 s84 t84 z84))) ∧ (a1.toInt = 39 → J142) ∧ (a1.toInt ≠ 39 → (a1.toInt ≠ 40 → J154) ∧ (a1.toInt = 40 → J142)))))))))))))) ∧ (60 < (t84 u33 3).toInt → Q u33 s84 t84 z84)))))) ∧ (y0_59.toInt = 0 → J77 a1) ∧ (y0_59.toInt ≠ 0 → J77 (a1 + (100 : Int32)))))) ∧ (∃ J58 : Prop, (J58  → (J59 (0 : Int32))) ∧ (v39.toInt ≠ 7 → J58) ∧ (v39.toInt = 7 → wp_isPointer a2 s33 t33 z33 (fun v48 => (v48.toInt = 0 → J58) ∧ (v48.toInt ≠ 0 → J59 (1 : Int32))))))))))) ∧ (v3.toInt = -2 → J21 (0 : Int32)) ∧ (v3.toInt ≠ -2 → J21 (1 : Int32))))
set_option maxHeartbeats 4000000 in
set_option maxRecDepth 100000 in
theorem ct_two (a : Nat → Nat) (r : Nat → Nat) {a1 : Int32} {a2 : Nat} {a3 : Nat} {a4 : Int32} {σ τ : St} {vs : List Nat} {Q : Nat → St → St → List Nat → Prop} (hcap : vs.length ≤ CAP) (w : wp_two a1 a2 a3 a4 σ τ vs Q) (l : Launch) (D : va_G) (cy : Nat → ClassId) : Ct l D cy SM r (EM a) y_X14_two (Cond.code y_X14_two b_X14_two 9 (some (.object "LinkedUnitsModel$Value"))) 3 [.ref (r 0), .int a1, .ref a2, .ref a3, .int a4] σ τ vs (QAs Q) QT0 := by
  unfold wp_two at w
  refine Ct_of (EM_ok a) (by decide) (Nat.le_of_ble_eq_true rfl) hcap (fun X hnn hF => ?_)
  show G SM r X σ τ vs [(0, .ref (r 0)), (1, .int a1), (2, .ref a2), (3, .ref a3), (4, .int a4)] [] 0
  refine g_iload_n hF d_X14_two_0 rfl 1 rfl ?_
  refine g_aload_n hF d_X14_two_1 rfl 2 rfl ?_
  refine g_aload_n hF d_X14_two_2 rfl 3 rfl ?_
  refine g_callS (As := [.int a1, .ref a2, .ref a3]) (rest := []) hF (fun l D cy => (ct_typeOf a r hcap w) l D cy) (Nat.le_of_ble_eq_true rfl) mS_X14_typeOf m_2532 rfl rfl (Nat.le_of_ble_eq_true rfl) d_X14_two_3 (krI (fun v3 w1 => ?_)) (fun _ _ _ h => h.elim)
  refine g_istore hF [(5, .int v3), (0, .ref (r 0)), (1, .int a1), (2, .ref a2), (3, .ref a3), (4, .int a4)] d_X14_two_6 hnn (by decide) rfl ?_
  refine g_aload_n hF d_X14_two_8 rfl 1 rfl ?_
  refine g_iload hF d_X14_two_9 0 rfl ?_
  refine g_bipush hF (v := (-2)) d_X14_two_11 (by decide) ?_
  obtain ⟨J21, h21, w2⟩ := w1
  have b21 : ∀ (y1_21 : Int32), y1_21 = 0 ∨ y1_21 = 1 → J21 y1_21 → G SM r X σ τ vs [(0, .ref (r 0)), (1, .int a1), (2, .ref a2), (3, .ref a3), (4, .int a4), (5, .int v3)] [.int y1_21, .ref (r 0)] 21 := by
    intro y1_21 hy1_21 w21_
    have w21_ := h21 y1_21 hy1_21 w21_
    refine g_iload hF d_X14_two_21 4 rfl ?_
    refine g_callV (As := [.int y1_21, .int a4]) (rest := []) hF (fun l D cy => (ct_must a r hcap w21_) l D cy) (Nat.le_of_ble_eq_true rfl) mV_X14_must m_2313 (recv_ob obM_0) rfl rfl (Nat.le_of_ble_eq_true rfl) d_X14_two_23 (kV (fun s23 t23 z23 w3 => ?_)) (fun _ _ _ h => h.elim)
    refine g_aload_n hF d_X14_two_26 rfl 0 rfl ?_
    refine g_iload hF d_X14_two_27 5 rfl ?_
    refine g_aload_n hF d_X14_two_29 rfl 2 rfl ?_
    refine g_aload_n hF d_X14_two_30 rfl 3 rfl ?_
    refine g_iload hF d_X14_two_31 4 rfl ?_
    refine g_cap (fun hc3 => ?_)
    refine g_callV (As := [.int v3, .ref a2, .ref a3, .int a4]) (rest := []) hF (fun l D cy => (ct_made a r hc3 w3) l D cy) (Nat.le_of_ble_eq_true rfl) mV_X14_made m_2389 (recv_ob obM_0) rfl rfl (Nat.le_of_ble_eq_true rfl) d_X14_two_33 (kA (fun u33 s33 t33 z33 w5 => ?_)) (fun _ _ _ h => h.elim)
    refine g_astore hF [(6, .ref u33), (0, .ref (r 0)), (1, .int a1), (2, .ref a2), (3, .ref a3), (4, .int a4), (5, .int v3)] d_X14_two_36 hnn (by decide) rfl ?_
    refine g_iload_n hF d_X14_two_38 rfl 2 rfl ?_
    refine g_cap (fun hc5 => ?_)
    refine g_callS (As := [.int a1]) (rest := []) hF (fun l D cy => (ct_rank a r hc5 w5) l D cy) (Nat.le_of_ble_eq_true rfl) mS_X14_rank m_2513 rfl rfl (Nat.le_of_ble_eq_true rfl) d_X14_two_39 (krI (fun v39 w7 => ?_)) (fun _ _ _ h => h.elim)
    refine g_bipush hF (v := 7) d_X14_two_42 (by decide) ?_
    obtain ⟨J59, h59, w8⟩ := w7
    have b59 : ∀ (y0_59 : Int32), y0_59 = 0 ∨ y0_59 = 1 → J59 y0_59 → G SM r X s33 t33 z33 [(0, .ref (r 0)), (1, .int a1), (2, .ref a2), (3, .ref a3), (4, .int a4), (6, .ref u33)] [.int y0_59] 59 := by
      intro y0_59 hy0_59 w59_
      have w59_ := h59 y0_59 hy0_59 w59_
      refine g_istore hF [(7, .int y0_59), (0, .ref (r 0)), (1, .int a1), (2, .ref a2), (3, .ref a3), (4, .int a4), (6, .ref u33)] d_X14_two_59 hnn (by decide) rfl ?_
      refine g_aload_n hF d_X14_two_61 rfl 1 rfl ?_
      refine g_bipush hF (v := 11) d_X14_two_62 (by decide) ?_
      refine g_iload hF d_X14_two_64 0 rfl ?_
      obtain ⟨J77, h77, w9⟩ := w59_
      have b77 : ∀ (y2_77 : Int32), J77 y2_77 → G SM r X s33 t33 z33 [(0, .ref (r 0)), (1, .int a1), (2, .ref a2), (3, .ref a3), (4, .int a4), (6, .ref u33)] [.int y2_77, .int 11, .ref (r 0)] 77 := by
        intro y2_77  w77_
        have w77_ := h77 y2_77  w77_
        refine g_aload_n hF d_X14_two_77 rfl 0 rfl ?_
        refine g_get (v := .ref (r 5)) hF 6 obM_0 (by decide) m_1871 rfl d_X14_two_78 ?_
        refine g_iload hF d_X14_two_81 4 rfl ?_
        have w10 := w77_.2
        refine g_iald hF arM_5 (s_in (Nat.le_of_ble_eq_true rfl) w77_.1.1 w77_.1.2) d_X14_two_83 ?_
        refine g_top (v := (s33 5 a4.toNatClampNeg)) rfl ?_
        refine g_callV (As := [.int 11, .int y2_77, .int (s33 5 a4.toNatClampNeg)]) (rest := []) hF (fun l D cy => (ct_put_2 a r hc5 w10) l D cy) (Nat.le_of_ble_eq_true rfl) mV_X14_put_2 m_2449 (recv_ob obM_0) rfl rfl (Nat.le_of_ble_eq_true rfl) d_X14_two_84 (kV (fun s84 t84 z84 w11 => ?_)) (fun _ _ _ h => h.elim)
        refine g_aload hF d_X14_two_87 5 rfl ?_
        obtain ⟨hm11, w12⟩ := w11
        refine g_vget hF 3 hm11 clsVC (by decide) m_2404 d_X14_two_89 ?_
        refine g_top (v := (t84 u33 3)) rfl ?_
        refine g_bipush hF (v := 60) d_X14_two_92 (by decide) ?_
        refine g_icmp_le (yv := 60) hF 100 d_X14_two_94 (by decide) rfl (by decide) (fun c => ?_) (fun c => ?_)
        · have w13 := w12.1 c
          refine g_aload_n hF d_X14_two_100 rfl 2 rfl ?_
          obtain ⟨hm13, w14⟩ := w13
          refine g_vget hF 6 hm13 clsVC (by decide) m_2408 d_X14_two_101 ?_
          refine g_top (v := (t84 a2 6)) rfl ?_
          refine g_iconst hF (v := 1) d_X14_two_104 (by decide) ?_
          obtain ⟨J172, h172, w15⟩ := w14
          have b172 : J172  → G SM r X s84 t84 z84 [(1, .int a1), (2, .ref a2), (3, .ref a3), (6, .ref u33)] [] 172 := by
            intro   w172_
            have w172_ := h172   w172_
            refine g_iload_n hF d_X14_two_172 rfl 0 rfl ?_
            refine g_bipush hF (v := 36) d_X14_two_173 (by decide) ?_
            obtain ⟨J197, h197, w16⟩ := w172_
            have b197 : ∀ (y0_197 : Int32), y0_197 = 0 ∨ y0_197 = 1 → J197 y0_197 → G SM r X s84 t84 z84 [(1, .int a1), (2, .ref a2), (3, .ref a3), (6, .ref u33)] [.int y0_197] 197 := by
              intro y0_197 hy0_197 w197_
              have w197_ := h197 y0_197 hy0_197 w197_
              refine g_istore hF [(8, .int y0_197), (1, .int a1), (2, .ref a2), (3, .ref a3), (6, .ref u33)] d_X14_two_197 hnn (by decide) rfl ?_
              refine g_iload hF d_X14_two_199 0 rfl ?_
              obtain ⟨J257, h257, w17⟩ := w197_
              have b257 : J257  → G SM r X s84 t84 z84 [(2, .ref a2), (3, .ref a3), (6, .ref u33), (8, .int y0_197)] [] 257 := by
                intro   w257_
                have w257_ := h257   w257_
                refine g_iload hF d_X14_two_257 3 rfl ?_
                refine g_if_eq hF 299 d_X14_two_259 (by decide) rfl (fun c => ?_) (fun c => ?_)
                · have w18 := w257_.1 c
                  refine g_aload hF d_X14_two_299 2 rfl ?_
                  exact g_aret hF rfl d_X14_two_301 ⟨u33, rfl, w18⟩
                · have w19 := w257_.2 c
                  refine g_aload_n hF d_X14_two_262 rfl 0 rfl ?_
                  refine g_vget hF 6 hm13 clsVC (by decide) m_2408 d_X14_two_263 ?_
                  refine g_top (v := (t84 a2 6)) rfl ?_
                  refine g_iconst hF (v := 1) d_X14_two_266 (by decide) ?_
                  refine g_icmp_ne (yv := 1) hF 299 d_X14_two_267 (by decide) rfl (by decide) (fun c => ?_) (fun c => ?_)
                  · have w20 := w19.1 c
                    refine g_aload hF d_X14_two_299 2 rfl ?_
                    exact g_aret hF rfl d_X14_two_301 ⟨u33, rfl, w20⟩
                  · have w21 := w19.2 c
                    refine g_aload_n hF d_X14_two_270 rfl 1 rfl ?_
                    obtain ⟨hm21, w22⟩ := w21
                    refine g_vget hF 6 hm21 clsVC (by decide) m_2408 d_X14_two_271 ?_
                    refine g_top (v := (t84 a3 6)) rfl ?_
                    refine g_iconst hF (v := 2) d_X14_two_274 (by decide) ?_
                    refine g_icmp_ne (yv := 2) hF 299 d_X14_two_275 (by decide) rfl (by decide) (fun c => ?_) (fun c => ?_)
                    · have w23 := w22.1 c
                      refine g_aload hF d_X14_two_299 2 rfl ?_
                      exact g_aret hF rfl d_X14_two_301 ⟨u33, rfl, w23⟩
                    · have w24 := w22.2 c
                      refine g_aload hF d_X14_two_278 2 rfl ?_
                      refine g_aload_n hF d_X14_two_280 rfl 1 rfl ?_
                      refine g_vget hF 8 hm21 clsVC (by decide) m_2412 d_X14_two_281 ?_
                      refine g_top (v := (t84 a3 8)) rfl ?_
                      refine g_aload_n hF d_X14_two_284 rfl 0 rfl ?_
                      refine g_vget hF 7 hm13 clsVC (by decide) m_2410 d_X14_two_285 ?_
                      refine g_top (v := (t84 a2 7)) rfl ?_
                      refine g_aload_n hF d_X14_two_288 rfl 1 rfl ?_
                      refine g_vget hF 7 hm21 clsVC (by decide) m_2410 d_X14_two_289 ?_
                      refine g_top (v := (t84 a3 7)) rfl ?_
                      refine g_iadd hF d_X14_two_292 ?_
                      refine g_cap (fun hc24 => ?_)
                      refine g_callV (As := [.int (t84 a3 8), .int ((t84 a2 7) + (t84 a3 7))]) (rest := []) hF (fun l D cy => (ct_Vaddress a r hc24 w24) l D cy) (Nat.le_of_ble_eq_true rfl) mV_X13_address m_2441 (recv_v hm11 clsVC) rfl rfl (Nat.le_of_ble_eq_true rfl) d_X14_two_293 (kA (fun u293 s293 t293 z293 w26 => ?_)) (fun _ _ _ h => h.elim)
                      refine g_goto hF 301 d_X14_two_296 (by decide) ?_
                      exact g_aret hF rfl d_X14_two_301 ⟨u293, rfl, w26⟩
              refine g_if_eq hF 257 d_X14_two_201 (by decide) rfl (fun c => ?_) (fun c => ?_)
              · have w27 := w17.1 c
                exact g_sub (L' := [(2, .ref a2), (3, .ref a3), (6, .ref u33), (8, .int y0_197)]) [2, 3, 4, 0] rfl (b257  w27)
              · have w28 := w17.2 c
                refine g_aload_n hF d_X14_two_204 rfl 2 rfl ?_
                refine g_vget hF 6 hm13 clsVC (by decide) m_2408 d_X14_two_205 ?_
                refine g_top (v := (t84 a2 6)) rfl ?_
                refine g_iconst hF (v := 2) d_X14_two_208 (by decide) ?_
                refine g_icmp_ne (yv := 2) hF 257 d_X14_two_209 (by decide) rfl (by decide) (fun c => ?_) (fun c => ?_)
                · have w29 := w28.1 c
                  exact g_sub (L' := [(2, .ref a2), (3, .ref a3), (6, .ref u33), (8, .int y0_197)]) [2, 3, 4, 0] rfl (b257  w29)
                · have w30 := w28.2 c
                  refine g_aload_n hF d_X14_two_212 rfl 3 rfl ?_
                  obtain ⟨hm30, w31⟩ := w30
                  refine g_vget hF 6 hm30 clsVC (by decide) m_2408 d_X14_two_213 ?_
                  refine g_top (v := (t84 a3 6)) rfl ?_
                  refine g_iconst hF (v := 1) d_X14_two_216 (by decide) ?_
                  refine g_icmp_ne (yv := 1) hF 257 d_X14_two_217 (by decide) rfl (by decide) (fun c => ?_) (fun c => ?_)
                  · have w32 := w31.1 c
                    exact g_sub (L' := [(2, .ref a2), (3, .ref a3), (6, .ref u33), (8, .int y0_197)]) [2, 3, 4, 0] rfl (b257  w32)
                  · have w33 := w31.2 c
                    refine g_aload hF d_X14_two_220 4 rfl ?_
                    refine g_aload_n hF d_X14_two_222 rfl 2 rfl ?_
                    refine g_vget hF 8 hm13 clsVC (by decide) m_2412 d_X14_two_223 ?_
                    refine g_top (v := (t84 a2 8)) rfl ?_
                    refine g_iload_n hF d_X14_two_226 rfl 1 rfl ?_
                    refine g_bipush hF (v := 36) d_X14_two_227 (by decide) ?_
                    obtain ⟨J253, h253, w34⟩ := w33
                    have b253 : ∀ (y2_253 : Int32), J253 y2_253 → G SM r X s84 t84 z84 [] [.int y2_253, .int (t84 a2 8), .ref u33] 253 := by
                      intro y2_253  w253_
                      have w253_ := h253 y2_253  w253_
                      refine g_cap (fun hc34 => ?_)
                      refine g_callV (As := [.int (t84 a2 8), .int y2_253]) (rest := []) hF (fun l D cy => (ct_Vaddress a r hc34 w253_) l D cy) (Nat.le_of_ble_eq_true rfl) mV_X13_address m_2441 (recv_v hm11 clsVC) rfl rfl (Nat.le_of_ble_eq_true rfl) d_X14_two_253 (kA (fun u253 s253 t253 z253 w36 => ?_)) (fun _ _ _ h => h.elim)
                      exact g_aret hF rfl d_X14_two_256 ⟨u253, rfl, w36⟩
                    refine g_icmp_ne (yv := 36) hF 244 d_X14_two_229 (by decide) rfl (by decide) (fun c => ?_) (fun c => ?_)
                    · have w37 := w34.1 c
                      refine g_aload_n hF d_X14_two_244 rfl 2 rfl ?_
                      refine g_vget hF 7 hm13 clsVC (by decide) m_2410 d_X14_two_245 ?_
                      refine g_top (v := (t84 a2 7)) rfl ?_
                      refine g_aload_n hF d_X14_two_248 rfl 3 rfl ?_
                      refine g_vget hF 7 hm30 clsVC (by decide) m_2410 d_X14_two_249 ?_
                      refine g_top (v := (t84 a3 7)) rfl ?_
                      refine g_isub hF d_X14_two_252 ?_
                      exact g_sub (L' := []) [] rfl (b253 ((t84 a2 7) - (t84 a3 7)) w37)
                    · have w38 := w34.2 c
                      refine g_aload_n hF d_X14_two_232 rfl 2 rfl ?_
                      refine g_vget hF 7 hm13 clsVC (by decide) m_2410 d_X14_two_233 ?_
                      refine g_top (v := (t84 a2 7)) rfl ?_
                      refine g_aload_n hF d_X14_two_236 rfl 3 rfl ?_
                      refine g_vget hF 7 hm30 clsVC (by decide) m_2410 d_X14_two_237 ?_
                      refine g_top (v := (t84 a3 7)) rfl ?_
                      refine g_iadd hF d_X14_two_240 ?_
                      refine g_goto hF 253 d_X14_two_241 (by decide) ?_
                      exact g_sub (L' := []) [] rfl (b253 ((t84 a2 7) + (t84 a3 7)) w38)
            obtain ⟨J196, h196, w39⟩ := w16
            have b196 : J196  → G SM r X s84 t84 z84 [(1, .int a1), (2, .ref a2), (3, .ref a3), (6, .ref u33)] [] 196 := by
              intro   w196_
              have w196_ := h196   w196_
              refine g_iconst hF (v := 0) d_X14_two_196 (by decide) ?_
              exact b197 (0 : Int32) (Or.inl rfl) w196_
            obtain ⟨J184, h184, w40⟩ := w39
            have b184 : J184  → G SM r X s84 t84 z84 [(1, .int a1), (2, .ref a2), (3, .ref a3), (6, .ref u33)] [] 184 := by
              intro   w184_
              have w184_ := h184   w184_
              refine g_aload hF d_X14_two_184 3 rfl ?_
              refine g_cap (fun hc40 => ?_)
              refine g_callS (As := [.ref u33]) (rest := []) hF (fun l D cy => (ct_isPointer a r hc40 w184_) l D cy) (Nat.le_of_ble_eq_true rfl) mS_X14_isPointer m_2461 rfl rfl (Nat.le_of_ble_eq_true rfl) d_X14_two_186 (krZ (fun v186 hz186 w42 => ?_)) (fun _ _ _ h => h.elim)
              refine g_if_eq hF 196 d_X14_two_189 (by decide) rfl (fun c => ?_) (fun c => ?_)
              · have w43 := w42.1 c
                exact b196  w43
              · have w44 := w42.2 c
                refine g_iconst hF (v := 1) d_X14_two_192 (by decide) ?_
                refine g_goto hF 197 d_X14_two_193 (by decide) ?_
                exact b197 (1 : Int32) (Or.inr rfl) w44
            refine g_icmp_eq (yv := 36) hF 184 d_X14_two_175 (by decide) rfl (by decide) (fun c => ?_) (fun c => ?_)
            · have w45 := w40.1 c
              exact b184  w45
            · have w46 := w40.2 c
              refine g_iload_n hF d_X14_two_178 rfl 0 rfl ?_
              refine g_bipush hF (v := 37) d_X14_two_179 (by decide) ?_
              refine g_icmp_ne (yv := 37) hF 196 d_X14_two_181 (by decide) rfl (by decide) (fun c => ?_) (fun c => ?_)
              · have w47 := w46.1 c
                exact b196  w47
              · have w48 := w46.2 c
                exact b184  w48
          refine g_icmp_ne (yv := 1) hF 172 d_X14_two_105 (by decide) rfl (by decide) (fun c => ?_) (fun c => ?_)
          · have w49 := w15.1 c
            exact g_sub (L' := [(1, .int a1), (2, .ref a2), (3, .ref a3), (6, .ref u33)]) [1, 2, 3, 5] rfl (b172  w49)
          · have w50 := w15.2 c
            refine g_aload_n hF d_X14_two_108 rfl 3 rfl ?_
            obtain ⟨hm50, w51⟩ := w50
            refine g_vget hF 6 hm50 clsVC (by decide) m_2408 d_X14_two_109 ?_
            refine g_top (v := (t84 a3 6)) rfl ?_
            refine g_iconst hF (v := 1) d_X14_two_112 (by decide) ?_
            refine g_icmp_ne (yv := 1) hF 172 d_X14_two_113 (by decide) rfl (by decide) (fun c => ?_) (fun c => ?_)
            · have w52 := w51.1 c
              exact g_sub (L' := [(1, .int a1), (2, .ref a2), (3, .ref a3), (6, .ref u33)]) [1, 2, 3, 5] rfl (b172  w52)
            · have w53 := w51.2 c
              refine g_aload_n hF d_X14_two_116 rfl 2 rfl ?_
              refine g_cap (fun hc53 => ?_)
              refine g_callS (As := [.ref a2]) (rest := []) hF (fun l D cy => (ct_isInt a r hc53 w53) l D cy) (Nat.le_of_ble_eq_true rfl) mS_X14_isInt m_2471 rfl rfl (Nat.le_of_ble_eq_true rfl) d_X14_two_117 (krZ (fun v117 hz117 w55 => ?_)) (fun _ _ _ h => h.elim)
              refine g_if_eq hF 172 d_X14_two_120 (by decide) rfl (fun c => ?_) (fun c => ?_)
              · have w56 := w55.1 c
                exact g_sub (L' := [(1, .int a1), (2, .ref a2), (3, .ref a3), (6, .ref u33)]) [1, 2, 3, 5] rfl (b172  w56)
              · have w57 := w55.2 c
                refine g_aload_n hF d_X14_two_123 rfl 3 rfl ?_
                refine g_callS (As := [.ref a3]) (rest := []) hF (fun l D cy => (ct_isInt a r hc53 w57) l D cy) (Nat.le_of_ble_eq_true rfl) mS_X14_isInt m_2471 rfl rfl (Nat.le_of_ble_eq_true rfl) d_X14_two_124 (krZ (fun v124 hz124 w58 => ?_)) (fun _ _ _ h => h.elim)
                refine g_if_eq hF 172 d_X14_two_127 (by decide) rfl (fun c => ?_) (fun c => ?_)
                · have w59 := w58.1 c
                  exact g_sub (L' := [(1, .int a1), (2, .ref a2), (3, .ref a3), (6, .ref u33)]) [1, 2, 3, 5] rfl (b172  w59)
                · have w60 := w58.2 c
                  refine g_iload_n hF d_X14_two_130 rfl 1 rfl ?_
                  refine g_bipush hF (v := 39) d_X14_two_131 (by decide) ?_
                  obtain ⟨J154, h154, w61⟩ := w60
                  have b154 : J154  → G SM r X s84 t84 z84 [(1, .int a1), (2, .ref a2), (3, .ref a3), (6, .ref u33)] [] 154 := by
                    intro   w154_
                    have w154_ := h154   w154_
                    refine g_aload hF d_X14_two_154 3 rfl ?_
                    refine g_iload_n hF d_X14_two_156 rfl 0 rfl ?_
                    refine g_aload_n hF d_X14_two_157 rfl 1 rfl ?_
                    refine g_vget hF 7 hm13 clsVC (by decide) m_2410 d_X14_two_158 ?_
                    refine g_top (v := (t84 a2 7)) rfl ?_
                    refine g_aload_n hF d_X14_two_161 rfl 2 rfl ?_
                    refine g_vget hF 7 hm50 clsVC (by decide) m_2410 d_X14_two_162 ?_
                    refine g_top (v := (t84 a3 7)) rfl ?_
                    refine g_callS (As := [.int a1, .int (t84 a2 7), .int (t84 a3 7)]) (rest := [.ref u33]) hF (fun l D cy => (ct_work a r hc53 w154_) l D cy) (Nat.le_of_ble_eq_true rfl) mS_X14_work m_2535 rfl rfl (Nat.le_of_ble_eq_true rfl) d_X14_two_165 (krI (fun v165 w62 => ?_)) (fun _ _ _ h => h.elim)
                    refine g_callV (As := [.int v165]) (rest := []) hF (fun l D cy => (ct_Vconstant a r hc53 w62) l D cy) (Nat.le_of_ble_eq_true rfl) mV_X13_constant m_2474 (recv_v hm11 clsVC) rfl rfl (Nat.le_of_ble_eq_true rfl) d_X14_two_168 (kA (fun u168 s168 t168 z168 w63 => ?_)) (fun _ _ _ h => h.elim)
                    exact g_aret hF rfl d_X14_two_171 ⟨u168, rfl, w63⟩
                  obtain ⟨J142, h142, w64⟩ := w61
                  have b142 : J142  → G SM r X s84 t84 z84 [(1, .int a1), (2, .ref a2), (3, .ref a3), (6, .ref u33)] [] 142 := by
                    intro   w142_
                    have w142_ := h142   w142_
                    refine g_aload_n hF d_X14_two_142 rfl 2 rfl ?_
                    refine g_vget hF 7 hm50 clsVC (by decide) m_2410 d_X14_two_143 ?_
                    refine g_top (v := (t84 a3 7)) rfl ?_
                    refine g_if_ne hF 154 d_X14_two_146 (by decide) rfl (fun c => ?_) (fun c => ?_)
                    · have w65 := w142_.1 c
                      exact b154  w65
                    · have w66 := w142_.2 c
                      refine g_aload hF d_X14_two_149 3 rfl ?_
                      refine g_goto hF 171 d_X14_two_151 (by decide) ?_
                      exact g_aret hF rfl d_X14_two_171 ⟨u33, rfl, w66⟩
                  refine g_icmp_eq (yv := 39) hF 142 d_X14_two_133 (by decide) rfl (by decide) (fun c => ?_) (fun c => ?_)
                  · have w67 := w64.1 c
                    exact g_sub (L' := [(1, .int a1), (2, .ref a2), (3, .ref a3), (6, .ref u33)]) [1, 2, 3, 5] rfl (b142  w67)
                  · have w68 := w64.2 c
                    refine g_iload_n hF d_X14_two_136 rfl 1 rfl ?_
                    refine g_bipush hF (v := 40) d_X14_two_137 (by decide) ?_
                    refine g_icmp_ne (yv := 40) hF 154 d_X14_two_139 (by decide) rfl (by decide) (fun c => ?_) (fun c => ?_)
                    · have w69 := w68.1 c
                      exact g_sub (L' := [(1, .int a1), (2, .ref a2), (3, .ref a3), (6, .ref u33)]) [1, 2, 3, 5] rfl (b154  w69)
                    · have w70 := w68.2 c
                      exact g_sub (L' := [(1, .int a1), (2, .ref a2), (3, .ref a3), (6, .ref u33)]) [1, 2, 3, 5] rfl (b142  w70)
        · have w71 := w12.2 c
          refine g_aload hF d_X14_two_97 5 rfl ?_
          exact g_aret hF rfl d_X14_two_99 ⟨u33, rfl, w71⟩
      refine g_if_eq hF 76 d_X14_two_66 (by decide) rfl (fun c => ?_) (fun c => ?_)
      · have w72 := w9.1 c
        refine g_iload_n hF d_X14_two_76 rfl 2 rfl ?_
        exact g_sub (L' := [(0, .ref (r 0)), (1, .int a1), (2, .ref a2), (3, .ref a3), (4, .int a4), (6, .ref u33)]) [1, 2, 3, 4, 5, 6] rfl (b77 a1 w72)
      · have w73 := w9.2 c
        refine g_iload_n hF d_X14_two_69 rfl 2 rfl ?_
        refine g_bipush hF (v := 100) d_X14_two_70 (by decide) ?_
        refine g_iadd hF d_X14_two_72 ?_
        refine g_goto hF 77 d_X14_two_73 (by decide) ?_
        exact g_sub (L' := [(0, .ref (r 0)), (1, .int a1), (2, .ref a2), (3, .ref a3), (4, .int a4), (6, .ref u33)]) [1, 2, 3, 4, 5, 6] rfl (b77 (a1 + (100 : Int32)) w73)
    obtain ⟨J58, h58, w74⟩ := w8
    have b58 : J58  → G SM r X s33 t33 z33 [(0, .ref (r 0)), (1, .int a1), (2, .ref a2), (3, .ref a3), (4, .int a4), (6, .ref u33)] [] 58 := by
      intro   w58_
      have w58_ := h58   w58_
      refine g_iconst hF (v := 0) d_X14_two_58 (by decide) ?_
      exact b59 (0 : Int32) (Or.inl rfl) w58_
    refine g_icmp_ne (yv := 7) hF 58 d_X14_two_44 (by decide) rfl (by decide) (fun c => ?_) (fun c => ?_)
    · have w75 := w74.1 c
      exact g_sub (L' := [(0, .ref (r 0)), (1, .int a1), (2, .ref a2), (3, .ref a3), (4, .int a4), (6, .ref u33)]) [1, 2, 3, 4, 5, 0] rfl (b58  w75)
    · have w76 := w74.2 c
      refine g_aload_n hF d_X14_two_47 rfl 3 rfl ?_
      refine g_callS (As := [.ref a2]) (rest := []) hF (fun l D cy => (ct_isPointer a r hc5 w76) l D cy) (Nat.le_of_ble_eq_true rfl) mS_X14_isPointer m_2461 rfl rfl (Nat.le_of_ble_eq_true rfl) d_X14_two_48 (krZ (fun v48 hz48 w77 => ?_)) (fun _ _ _ h => h.elim)
      refine g_if_eq hF 58 d_X14_two_51 (by decide) rfl (fun c => ?_) (fun c => ?_)
      · have w78 := w77.1 c
        exact g_sub (L' := [(0, .ref (r 0)), (1, .int a1), (2, .ref a2), (3, .ref a3), (4, .int a4), (6, .ref u33)]) [1, 2, 3, 4, 5, 0] rfl (b58  w78)
      · have w79 := w77.2 c
        refine g_iconst hF (v := 1) d_X14_two_54 (by decide) ?_
        refine g_goto hF 59 d_X14_two_55 (by decide) ?_
        exact g_sub (L' := [(0, .ref (r 0)), (1, .int a1), (2, .ref a2), (3, .ref a3), (4, .int a4), (6, .ref u33)]) [1, 2, 3, 4, 5, 0] rfl (b59 (1 : Int32) (Or.inr rfl) w79)
  refine g_icmp_eq (yv := -2) hF 20 d_X14_two_13 (by decide) rfl (by decide) (fun c => ?_) (fun c => ?_)
  · have w80 := w2.1 c
    refine g_iconst hF (v := 0) d_X14_two_20 (by decide) ?_
    exact g_sub (L' := [(0, .ref (r 0)), (1, .int a1), (2, .ref a2), (3, .ref a3), (4, .int a4), (5, .int v3)]) [1, 2, 3, 4, 5, 0] rfl (b21 (0 : Int32) (Or.inl rfl) w80)
  · have w81 := w2.2 c
    refine g_iconst hF (v := 1) d_X14_two_16 (by decide) ?_
    refine g_goto hF 21 d_X14_two_17 (by decide) ?_
    exact g_sub (L' := [(0, .ref (r 0)), (1, .int a1), (2, .ref a2), (3, .ref a3), (4, .int a4), (5, .int v3)]) [1, 2, 3, 4, 5, 0] rfl (b21 (1 : Int32) (Or.inr rfl) w81)
def wp_holds (a1 : Int32) (a2 : Int32) (a3 : Int32) (a4 : Int32) (σ τ : St) (vs : List Nat) (Q : Int32 → St → St → List Nat → Prop) : Prop :=
  wp_library_0 a3 σ τ vs (fun v2 => (a1.toInt ≠ 31 → wp_isSymbol a3 (0 : Int32) σ τ vs (fun v45 => (v45.toInt ≠ 0 → (a1.toInt ≠ 32 → (v2.toInt < 0 → wp_find a3 a4 σ τ vs (fun v114 s114 t114 z114 => (v114.toInt = 0 → Q (0 : Int32) s114 t114 z114) ∧ (v114.toInt ≠ 0 → wp_hasType a3 (s114 0 74) s114 t114 z114 (fun v126 => (v126.toInt ≠ 0 → Q (0 : Int32) s114 t114 z114) ∧ (v126.toInt = 0 → Q (1 : Int32) s114 t114 z114))))) ∧ (0 ≤ v2.toInt → wp_hasLibraryType a3 v2 σ τ vs (fun v98 => (v98.toInt ≠ 0 → Q (0 : Int32) σ τ vs) ∧ (v98.toInt = 0 → Q (1 : Int32) σ τ vs)))) ∧ (a1.toInt = 32 → ((0 ≤ a3.toInt ∧ a3.toInt < 10000) ∧ ((σ 14 a3.toNatClampNeg).toInt = 0 → Q (0 : Int32) σ τ vs) ∧ ((σ 14 a3.toNatClampNeg).toInt ≠ 0 → (0 ≤ v2.toInt → Q (0 : Int32) σ τ vs) ∧ (v2.toInt < 0 → wp_find a3 a4 σ τ vs (fun v77 s77 t77 z77 => (v77.toInt ≠ 0 → Q (0 : Int32) s77 t77 z77) ∧ (v77.toInt = 0 → Q (1 : Int32) s77 t77 z77))))))) ∧ (v45.toInt = 0 → Q (0 : Int32) σ τ vs))) ∧ (a1.toInt = 31 → wp_isSymbol a3 (1 : Int32) σ τ vs (fun v16 => (v16.toInt = 0 → Q (0 : Int32) σ τ vs) ∧ (v16.toInt ≠ 0 → (0 ≤ v2.toInt → Q (1 : Int32) σ τ vs) ∧ (v2.toInt < 0 → wp_find a3 a2 σ τ vs (fun v30 s30 t30 z30 => (v30.toInt = 0 → Q (0 : Int32) s30 t30 z30) ∧ (v30.toInt ≠ 0 → Q (1 : Int32) s30 t30 z30)))))))
set_option maxHeartbeats 4000000 in
set_option maxRecDepth 100000 in
theorem ct_holds (a : Nat → Nat) (r : Nat → Nat) {a1 : Int32} {a2 : Int32} {a3 : Int32} {a4 : Int32} {σ τ : St} {vs : List Nat} {Q : Int32 → St → St → List Nat → Prop} (hcap : vs.length ≤ CAP) (w : wp_holds a1 a2 a3 a4 σ τ vs Q) (l : Launch) (D : va_G) (cy : Nat → ClassId) : Ct l D cy SM r (EM a) y_X14_holds (Cond.code y_X14_holds b_X14_holds 6 (some .boolean)) 5 [.ref (r 0), .int a1, .int a2, .int a3, .int a4] σ τ vs (QZs Q) QT0 := by
  unfold wp_holds at w
  refine Ct_of (EM_ok a) (by decide) (Nat.le_of_ble_eq_true rfl) hcap (fun X hnn hF => ?_)
  show G SM r X σ τ vs [(0, .ref (r 0)), (1, .int a1), (2, .int a2), (3, .int a3), (4, .int a4)] [] 0
  refine g_aload_n hF d_X14_holds_0 rfl 0 rfl ?_
  refine g_iload_n hF d_X14_holds_1 rfl 3 rfl ?_
  refine g_callV (As := [.int a3]) (rest := []) hF (fun l D cy => (ct_library_0 a r hcap w) l D cy) (Nat.le_of_ble_eq_true rfl) mV_X14_library_0 m_2684 (recv_ob obM_0) rfl rfl (Nat.le_of_ble_eq_true rfl) d_X14_holds_2 (krI (fun v2 w1 => ?_)) (fun _ _ _ h => h.elim)
  refine g_istore hF [(5, .int v2), (0, .ref (r 0)), (1, .int a1), (2, .int a2), (3, .int a3), (4, .int a4)] d_X14_holds_5 hnn (by decide) rfl ?_
  refine g_iload_n hF d_X14_holds_7 rfl 2 rfl ?_
  refine g_bipush hF (v := 31) d_X14_holds_8 (by decide) ?_
  refine g_icmp_ne (yv := 31) hF 42 d_X14_holds_10 (by decide) rfl (by decide) (fun c => ?_) (fun c => ?_)
  · have w2 := w1.1 c
    refine g_aload_n hF d_X14_holds_42 rfl 1 rfl ?_
    refine g_iload_n hF d_X14_holds_43 rfl 4 rfl ?_
    refine g_iconst hF (v := 0) d_X14_holds_44 (by decide) ?_
    refine g_callV (As := [.int a3, .int 0]) (rest := []) hF (fun l D cy => (ct_isSymbol a r hcap w2) l D cy) (Nat.le_of_ble_eq_true rfl) mV_X14_isSymbol m_2689 (recv_ob obM_0) rfl rfl (Nat.le_of_ble_eq_true rfl) d_X14_holds_45 (krZ (fun v45 hz45 w3 => ?_)) (fun _ _ _ h => h.elim)
    refine g_if_ne hF 53 d_X14_holds_48 (by decide) rfl (fun c => ?_) (fun c => ?_)
    · have w4 := w3.1 c
      refine g_iload_n hF d_X14_holds_53 rfl 2 rfl ?_
      refine g_bipush hF (v := 32) d_X14_holds_54 (by decide) ?_
      refine g_icmp_ne (yv := 32) hF 89 d_X14_holds_56 (by decide) rfl (by decide) (fun c => ?_) (fun c => ?_)
      · have w5 := w4.1 c
        refine g_iload hF d_X14_holds_89 0 rfl ?_
        refine g_if_lt hF 110 d_X14_holds_91 (by decide) rfl (fun c => ?_) (fun c => ?_)
        · have w6 := w5.1 c
          refine g_aload_n hF d_X14_holds_110 rfl 1 rfl ?_
          refine g_iload_n hF d_X14_holds_111 rfl 4 rfl ?_
          refine g_iload hF d_X14_holds_112 5 rfl ?_
          refine g_callV (As := [.int a3, .int a4]) (rest := []) hF (fun l D cy => (ct_find a r hcap w6) l D cy) (Nat.le_of_ble_eq_true rfl) mV_X14_find m_2693 (recv_ob obM_0) rfl rfl (Nat.le_of_ble_eq_true rfl) d_X14_holds_114 (kZ (fun v114 s114 t114 z114 hz114 w7 => ?_)) (fun _ _ _ h => h.elim)
          refine g_if_eq hF 136 d_X14_holds_117 (by decide) rfl (fun c => ?_) (fun c => ?_)
          · have w8 := w7.1 c
            refine g_iconst hF (v := 0) d_X14_holds_136 (by decide) ?_
            exact g_zret hF rfl (k_nz (Or.inl rfl)) d_X14_holds_137 ⟨(0 : Int32), rfl, (Or.inl rfl), w8⟩
          · have w9 := w7.2 c
            refine g_aload_n hF d_X14_holds_120 rfl 1 rfl ?_
            refine g_iload_n hF d_X14_holds_121 rfl 4 rfl ?_
            refine g_aload_n hF d_X14_holds_122 rfl 1 rfl ?_
            refine g_get (v := .int (s114 0 74)) hF 74 obM_0 (by decide) m_1939 rfl d_X14_holds_123 ?_
            refine g_cap (fun hc9 => ?_)
            refine g_callV (As := [.int a3, .int (s114 0 74)]) (rest := []) hF (fun l D cy => (ct_hasType a r hc9 w9) l D cy) (Nat.le_of_ble_eq_true rfl) mV_X14_hasType m_2705 (recv_ob obM_0) rfl rfl (Nat.le_of_ble_eq_true rfl) d_X14_holds_126 (krZ (fun v126 hz126 w11 => ?_)) (fun _ _ _ h => h.elim)
            refine g_if_ne hF 136 d_X14_holds_129 (by decide) rfl (fun c => ?_) (fun c => ?_)
            · have w12 := w11.1 c
              refine g_iconst hF (v := 0) d_X14_holds_136 (by decide) ?_
              exact g_zret hF rfl (k_nz (Or.inl rfl)) d_X14_holds_137 ⟨(0 : Int32), rfl, (Or.inl rfl), w12⟩
            · have w13 := w11.2 c
              refine g_iconst hF (v := 1) d_X14_holds_132 (by decide) ?_
              refine g_goto hF 137 d_X14_holds_133 (by decide) ?_
              exact g_zret hF rfl (k_nz (Or.inr rfl)) d_X14_holds_137 ⟨(1 : Int32), rfl, (Or.inr rfl), w13⟩
        · have w14 := w5.2 c
          refine g_aload_n hF d_X14_holds_94 rfl 1 rfl ?_
          refine g_iload_n hF d_X14_holds_95 rfl 4 rfl ?_
          refine g_iload hF d_X14_holds_96 0 rfl ?_
          refine g_callV (As := [.int a3, .int v2]) (rest := []) hF (fun l D cy => (ct_hasLibraryType a r hcap w14) l D cy) (Nat.le_of_ble_eq_true rfl) mV_X14_hasLibraryType m_2701 (recv_ob obM_0) rfl rfl (Nat.le_of_ble_eq_true rfl) d_X14_holds_98 (krZ (fun v98 hz98 w15 => ?_)) (fun _ _ _ h => h.elim)
          refine g_if_ne hF 108 d_X14_holds_101 (by decide) rfl (fun c => ?_) (fun c => ?_)
          · have w16 := w15.1 c
            refine g_iconst hF (v := 0) d_X14_holds_108 (by decide) ?_
            exact g_zret hF rfl (k_nz (Or.inl rfl)) d_X14_holds_109 ⟨(0 : Int32), rfl, (Or.inl rfl), w16⟩
          · have w17 := w15.2 c
            refine g_iconst hF (v := 1) d_X14_holds_104 (by decide) ?_
            refine g_goto hF 109 d_X14_holds_105 (by decide) ?_
            exact g_zret hF rfl (k_nz (Or.inr rfl)) d_X14_holds_109 ⟨(1 : Int32), rfl, (Or.inr rfl), w17⟩
      · have w18 := w4.2 c
        refine g_aload_n hF d_X14_holds_59 rfl 1 rfl ?_
        refine g_get (v := .ref (r 14)) hF 23 obM_0 (by decide) m_1888 rfl d_X14_holds_60 ?_
        refine g_iload_n hF d_X14_holds_63 rfl 4 rfl ?_
        have w19 := w18.2
        refine g_zald hF arM_14 (s_in (Nat.le_of_ble_eq_true rfl) w18.1.1 w18.1.2) d_X14_holds_64 ?_
        refine g_top (v := (σ 14 a3.toNatClampNeg)) rfl ?_
        refine g_if_eq hF 87 d_X14_holds_65 (by decide) rfl (fun c => ?_) (fun c => ?_)
        · have w20 := w19.1 c
          refine g_iconst hF (v := 0) d_X14_holds_87 (by decide) ?_
          exact g_zret hF rfl (k_nz (Or.inl rfl)) d_X14_holds_88 ⟨(0 : Int32), rfl, (Or.inl rfl), w20⟩
        · have w21 := w19.2 c
          refine g_iload hF d_X14_holds_68 0 rfl ?_
          refine g_if_ge hF 87 d_X14_holds_70 (by decide) rfl (fun c => ?_) (fun c => ?_)
          · have w22 := w21.1 c
            refine g_iconst hF (v := 0) d_X14_holds_87 (by decide) ?_
            exact g_zret hF rfl (k_nz (Or.inl rfl)) d_X14_holds_88 ⟨(0 : Int32), rfl, (Or.inl rfl), w22⟩
          · have w23 := w21.2 c
            refine g_aload_n hF d_X14_holds_73 rfl 1 rfl ?_
            refine g_iload_n hF d_X14_holds_74 rfl 4 rfl ?_
            refine g_iload hF d_X14_holds_75 5 rfl ?_
            refine g_callV (As := [.int a3, .int a4]) (rest := []) hF (fun l D cy => (ct_find a r hcap w23) l D cy) (Nat.le_of_ble_eq_true rfl) mV_X14_find m_2693 (recv_ob obM_0) rfl rfl (Nat.le_of_ble_eq_true rfl) d_X14_holds_77 (kZ (fun v77 s77 t77 z77 hz77 w24 => ?_)) (fun _ _ _ h => h.elim)
            refine g_if_ne hF 87 d_X14_holds_80 (by decide) rfl (fun c => ?_) (fun c => ?_)
            · have w25 := w24.1 c
              refine g_iconst hF (v := 0) d_X14_holds_87 (by decide) ?_
              exact g_zret hF rfl (k_nz (Or.inl rfl)) d_X14_holds_88 ⟨(0 : Int32), rfl, (Or.inl rfl), w25⟩
            · have w26 := w24.2 c
              refine g_iconst hF (v := 1) d_X14_holds_83 (by decide) ?_
              refine g_goto hF 88 d_X14_holds_84 (by decide) ?_
              exact g_zret hF rfl (k_nz (Or.inr rfl)) d_X14_holds_88 ⟨(1 : Int32), rfl, (Or.inr rfl), w26⟩
    · have w27 := w3.2 c
      refine g_iconst hF (v := 0) d_X14_holds_51 (by decide) ?_
      exact g_zret hF rfl (k_nz (Or.inl rfl)) d_X14_holds_52 ⟨(0 : Int32), rfl, (Or.inl rfl), w27⟩
  · have w28 := w1.2 c
    refine g_aload_n hF d_X14_holds_13 rfl 1 rfl ?_
    refine g_iload_n hF d_X14_holds_14 rfl 4 rfl ?_
    refine g_iconst hF (v := 1) d_X14_holds_15 (by decide) ?_
    refine g_callV (As := [.int a3, .int 1]) (rest := []) hF (fun l D cy => (ct_isSymbol a r hcap w28) l D cy) (Nat.le_of_ble_eq_true rfl) mV_X14_isSymbol m_2689 (recv_ob obM_0) rfl rfl (Nat.le_of_ble_eq_true rfl) d_X14_holds_16 (krZ (fun v16 hz16 w29 => ?_)) (fun _ _ _ h => h.elim)
    refine g_if_eq hF 40 d_X14_holds_19 (by decide) rfl (fun c => ?_) (fun c => ?_)
    · have w30 := w29.1 c
      refine g_iconst hF (v := 0) d_X14_holds_40 (by decide) ?_
      exact g_zret hF rfl (k_nz (Or.inl rfl)) d_X14_holds_41 ⟨(0 : Int32), rfl, (Or.inl rfl), w30⟩
    · have w31 := w29.2 c
      refine g_iload hF d_X14_holds_22 0 rfl ?_
      refine g_if_ge hF 36 d_X14_holds_24 (by decide) rfl (fun c => ?_) (fun c => ?_)
      · have w32 := w31.1 c
        refine g_iconst hF (v := 1) d_X14_holds_36 (by decide) ?_
        refine g_goto hF 41 d_X14_holds_37 (by decide) ?_
        exact g_zret hF rfl (k_nz (Or.inr rfl)) d_X14_holds_41 ⟨(1 : Int32), rfl, (Or.inr rfl), w32⟩
      · have w33 := w31.2 c
        refine g_aload_n hF d_X14_holds_27 rfl 1 rfl ?_
        refine g_iload_n hF d_X14_holds_28 rfl 4 rfl ?_
        refine g_iload_n hF d_X14_holds_29 rfl 3 rfl ?_
        refine g_callV (As := [.int a3, .int a2]) (rest := []) hF (fun l D cy => (ct_find a r hcap w33) l D cy) (Nat.le_of_ble_eq_true rfl) mV_X14_find m_2693 (recv_ob obM_0) rfl rfl (Nat.le_of_ble_eq_true rfl) d_X14_holds_30 (kZ (fun v30 s30 t30 z30 hz30 w34 => ?_)) (fun _ _ _ h => h.elim)
        refine g_if_eq hF 40 d_X14_holds_33 (by decide) rfl (fun c => ?_) (fun c => ?_)
        · have w35 := w34.1 c
          refine g_iconst hF (v := 0) d_X14_holds_40 (by decide) ?_
          exact g_zret hF rfl (k_nz (Or.inl rfl)) d_X14_holds_41 ⟨(0 : Int32), rfl, (Or.inl rfl), w35⟩
        · have w36 := w34.2 c
          refine g_iconst hF (v := 1) d_X14_holds_36 (by decide) ?_
          refine g_goto hF 41 d_X14_holds_37 (by decide) ?_
          exact g_zret hF rfl (k_nz (Or.inr rfl)) d_X14_holds_41 ⟨(1 : Int32), rfl, (Or.inr rfl), w36⟩
