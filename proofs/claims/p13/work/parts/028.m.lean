def wp_print (a1 : Int32) (a2 : Int32) (σ τ : St) (vs : List Nat) (Q : St → St → List Nat → Prop) : Prop :=
  (∃ J19 : Int64 → St → St → List Nat → Prop, (∀ (x3_19 : Int64) (s19 t19 : St) (z19 : List Nat), J19 x3_19 s19 t19 z19 → (∃ L22 : Nat → Int64 → Prop, (∃ n, L22 n (1 : Int64)) ∧ ∀ (n22 : Nat) (x5_22 : Int64), L22 n22 x5_22 → ((¬ x5_22 = 0 ∧ ((lg_cmp (x3_19 / x5_22) (10 : Int64)).toInt < 0 → ∃ L44 : Nat → Int64 → St → St → List Nat → Prop, (∃ n, L44 n x5_22 s19 t19 z19) ∧ ∀ (n44 : Nat) (x5_44 : Int64) (s44 t44 : St) (z44 : List Nat), L44 n44 x5_44 s44 t44 z44 → (((lg_cmp x5_44 (0 : Int64)).toInt ≤ 0 → Q s44 t44 z44) ∧ (0 < (lg_cmp x5_44 (0 : Int64)).toInt → (¬ x5_44 = 0 ∧ wp_emit ((48 : Int64) + ((x3_19 / x5_44) - (x3_19 / x5_44) / (10 : Int64) * (10 : Int64))).toInt32 a2 s44 t44 z44 (fun s66 t66 z66 => ∃ m, m < n44 ∧ L44 m (x5_44 / (10 : Int64)) s66 t66 z66))))) ∧ (0 ≤ (lg_cmp (x3_19 / x5_22) (10 : Int64)).toInt → ∃ m, m < n22 ∧ L22 m (x5_22 * (10 : Int64))))))) ∧ (0 ≤ (lg_cmp a1.toInt64 (0 : Int64)).toInt → J19 a1.toInt64 σ τ vs) ∧ ((lg_cmp a1.toInt64 (0 : Int64)).toInt < 0 → wp_emit (45 : Int32) a2 σ τ vs (fun s13 t13 z13 => J19 (-a1.toInt64) s13 t13 z13)))
set_option maxHeartbeats 4000000 in
set_option maxRecDepth 100000 in
theorem ct_print (a : Nat → Nat) (r : Nat → Nat) {a1 : Int32} {a2 : Int32} {σ τ : St} {vs : List Nat} {Q : St → St → List Nat → Prop} (hcap : vs.length ≤ CAP) (w : wp_print a1 a2 σ τ vs Q) (l : Launch) (D : va_G) (cy : Nat → ClassId) : Ct l D cy SM r (EM a) y_X14_print (Cond.code y_X14_print b_X14_print 7 none) 3 [.ref (r 0), .int a1, .int a2] σ τ vs (QVs Q) QT0 := by
  unfold wp_print at w
  refine Ct_of (EM_ok a) (by decide) (Nat.le_of_ble_eq_true rfl) hcap (fun X hnn hF => ?_)
  show G SM r X σ τ vs [(0, .ref (r 0)), (1, .int a1), (2, .int a2)] [] 0
  refine g_iload_n hF d_X14_print_0 rfl 1 rfl ?_
  refine g_i2l hF d_X14_print_1 ?_
  refine g_lstore_n hF [(3, .long a1.toInt64), (0, .ref (r 0)), (1, .int a1), (2, .int a2)] d_X14_print_2 rfl hnn (by decide) rfl ?_
  refine g_lload_n hF d_X14_print_3 rfl 0 rfl ?_
  refine g_lconst hF (v := 0) d_X14_print_4 (by decide) ?_
  refine g_lcmp hF d_X14_print_5 ?_
  obtain ⟨J19, h19, w1⟩ := w
  have b19 : ∀ (x3_19 : Int64) (s19 t19 : St) (z19 : List Nat), J19 x3_19 s19 t19 z19 → G SM r X s19 t19 z19 [(0, .ref (r 0)), (2, .int a2), (3, .long x3_19)] [] 19 := by
    intro x3_19 s19 t19 z19  w19_
    have w19_ := h19 x3_19 s19 t19 z19  w19_
    refine g_lconst hF (v := 1) d_X14_print_19 (by decide) ?_
    refine g_lstore hF [(5, .long 1), (0, .ref (r 0)), (2, .int a2), (3, .long x3_19)] d_X14_print_20 hnn (by decide) rfl ?_
    obtain ⟨L22, ⟨i22, u22⟩, h22⟩ := w19_
    have b22 : ∀ (n22 : Nat) (x5_22 : Int64), L22 n22 x5_22 → G SM r X s19 t19 z19 [(0, .ref (r 0)), (2, .int a2), (3, .long x3_19), (5, .long x5_22)] [] 22 := by
      intro n22
      induction n22 using Nat.strongRecOn with
      | _ n22 ih22 =>
        intro x5_22  w22_
        have w22_ := h22 n22 x5_22  w22_
        refine g_lload_n hF d_X14_print_22 rfl 2 rfl ?_
        refine g_lload hF d_X14_print_23 3 rfl ?_
        have w2 := w22_.2
        refine g_ldiv hF d_X14_print_25 w22_.1 ?_
        refine g_ldc2 hF (v := 10) m_2242 d_X14_print_26 ?_
        refine g_lcmp hF d_X14_print_29 ?_
        refine g_if_lt hF 44 d_X14_print_30 (by decide) rfl (fun c => ?_) (fun c => ?_)
        · have w3 := w2.1 c
          obtain ⟨L44, ⟨i44, u44⟩, h44⟩ := w3
          have b44 : ∀ (n44 : Nat) (x5_44 : Int64) (s44 t44 : St) (z44 : List Nat), L44 n44 x5_44 s44 t44 z44 → G SM r X s44 t44 z44 [(0, .ref (r 0)), (2, .int a2), (3, .long x3_19), (5, .long x5_44)] [] 44 := by
            intro n44
            induction n44 using Nat.strongRecOn with
            | _ n44 ih44 =>
              intro x5_44 s44 t44 z44  w44_
              have w44_ := h44 n44 x5_44 s44 t44 z44  w44_
              refine g_lload hF d_X14_print_44 3 rfl ?_
              refine g_lconst hF (v := 0) d_X14_print_46 (by decide) ?_
              refine g_lcmp hF d_X14_print_47 ?_
              refine g_if_le hF 80 d_X14_print_48 (by decide) rfl (fun c => ?_) (fun c => ?_)
              · have w4 := w44_.1 c
                exact g_vret hF rfl d_X14_print_80 ⟨rfl, w4⟩
              · have w5 := w44_.2 c
                refine g_aload_n hF d_X14_print_51 rfl 0 rfl ?_
                refine g_ldc2 hF (v := 48) m_2243 d_X14_print_52 ?_
                refine g_lload_n hF d_X14_print_55 rfl 2 rfl ?_
                refine g_lload hF d_X14_print_56 3 rfl ?_
                have w6 := w5.2
                refine g_ldiv hF d_X14_print_58 w5.1 ?_
                refine g_ldc2 hF (v := 10) m_2242 d_X14_print_59 ?_
                refine g_lrem hF d_X14_print_62 (by decide) ?_
                refine g_ladd hF d_X14_print_63 ?_
                refine g_l2i hF d_X14_print_64 ?_
                refine g_iload_n hF d_X14_print_65 rfl 1 rfl ?_
                refine g_cap (fun hc6 => ?_)
                refine g_callV (As := [.int ((48 : Int64) + ((x3_19 / x5_44) - (x3_19 / x5_44) / (10 : Int64) * (10 : Int64))).toInt32, .int a2]) (rest := []) hF (fun l D cy => (ct_emit a r hc6 w6) l D cy) (Nat.le_of_ble_eq_true rfl) mV_X14_emit m_2800 (recv_ob obM_0) rfl rfl (Nat.le_of_ble_eq_true rfl) d_X14_print_66 (kV (fun s66 t66 z66 w8 => ?_)) (fun _ _ _ h => h.elim)
                refine g_lload hF d_X14_print_69 3 rfl ?_
                refine g_ldc2 hF (v := 10) m_2242 d_X14_print_71 ?_
                refine g_ldiv hF d_X14_print_74 (by decide) ?_
                refine g_lstore hF [(5, .long (x5_44 / (10 : Int64))), (0, .ref (r 0)), (2, .int a2), (3, .long x3_19)] d_X14_print_75 hnn (by decide) rfl ?_
                refine g_goto hF 44 d_X14_print_77 (by decide) ?_
                obtain ⟨m44, hm44, w9⟩ := w8
                exact g_sub (L' := [(0, .ref (r 0)), (2, .int a2), (3, .long x3_19), (5, .long (x5_44 / (10 : Int64)))]) [1, 2, 3, 0] rfl (ih44 m44 hm44 (x5_44 / (10 : Int64)) s66 t66 z66 w9)
          exact b44 i44 x5_22 s19 t19 z19 u44
        · have w9 := w2.2 c
          refine g_lload hF d_X14_print_33 3 rfl ?_
          refine g_ldc2 hF (v := 10) m_2242 d_X14_print_35 ?_
          refine g_lmul hF d_X14_print_38 ?_
          refine g_lstore hF [(5, .long (x5_22 * (10 : Int64))), (0, .ref (r 0)), (2, .int a2), (3, .long x3_19)] d_X14_print_39 hnn (by decide) rfl ?_
          refine g_goto hF 22 d_X14_print_41 (by decide) ?_
          obtain ⟨m22, hm22, w9⟩ := w9
          exact g_sub (L' := [(0, .ref (r 0)), (2, .int a2), (3, .long x3_19), (5, .long (x5_22 * (10 : Int64)))]) [1, 2, 3, 0] rfl (ih22 m22 hm22 (x5_22 * (10 : Int64)) w9)
    exact g_sub (L' := [(0, .ref (r 0)), (2, .int a2), (3, .long x3_19), (5, .long 1)]) [1, 2, 3, 0] rfl (b22 i22 (1 : Int64) u22)
  refine g_if_ge hF 19 d_X14_print_6 (by decide) rfl (fun c => ?_) (fun c => ?_)
  · have w10 := w1.1 c
    exact g_sub (L' := [(0, .ref (r 0)), (2, .int a2), (3, .long a1.toInt64)]) [1, 3, 0] rfl (b19 a1.toInt64 σ τ vs w10)
  · have w11 := w1.2 c
    refine g_aload_n hF d_X14_print_9 rfl 1 rfl ?_
    refine g_bipush hF (v := 45) d_X14_print_10 (by decide) ?_
    refine g_iload_n hF d_X14_print_12 rfl 3 rfl ?_
    refine g_callV (As := [.int 45, .int a2]) (rest := []) hF (fun l D cy => (ct_emit a r hcap w11) l D cy) (Nat.le_of_ble_eq_true rfl) mV_X14_emit m_2800 (recv_ob obM_0) rfl rfl (Nat.le_of_ble_eq_true rfl) d_X14_print_13 (kV (fun s13 t13 z13 w12 => ?_)) (fun _ _ _ h => h.elim)
    refine g_lload_n hF d_X14_print_16 rfl 0 rfl ?_
    refine g_lneg hF d_X14_print_17 ?_
    refine g_lstore_n hF [(3, .long (-a1.toInt64)), (0, .ref (r 0)), (1, .int a1), (2, .int a2)] d_X14_print_18 rfl hnn (by decide) rfl ?_
    exact g_sub (L' := [(0, .ref (r 0)), (2, .int a2), (3, .long (-a1.toInt64))]) [1, 3, 0] rfl (b19 (-a1.toInt64) s13 t13 z13 w12)
def wp_leave (a1 : Int32) (σ τ : St) (vs : List Nat) (Q : Int32 → St → St → List Nat → Prop) : Prop :=
  (∃ J12 : Int32 → St → St → List Nat → Prop, (∀ (y0_12 : Int32) (s12 t12 : St) (z12 : List Nat), J12 y0_12 s12 t12 z12 → ((((s12 0 86) - (1 : Int32)).toInt ≠ 0 → (a1.toInt = 0 → ((0 ≤ ((s12 0 86) - (1 : Int32)).toInt ∧ ((s12 0 86) - (1 : Int32)).toInt < 260) ∧ Q (s12 51 ((s12 0 86) - (1 : Int32)).toNatClampNeg) (upC s12 0 86 ((s12 0 86) - (1 : Int32))) t12 z12)) ∧ (a1.toInt ≠ 0 → wp_push y0_12 (upC s12 0 86 ((s12 0 86) - (1 : Int32))) t12 z12 (fun s48 t48 z48 => ((0 ≤ (s48 0 86).toInt ∧ (s48 0 86).toInt < 260) ∧ Q (s48 51 (s48 0 86).toNatClampNeg) s48 t48 z48)))) ∧ (((s12 0 86) - (1 : Int32)).toInt = 0 → Q (0 : Int32) (upC (upC (upC s12 0 86 ((s12 0 86) - (1 : Int32))) 0 94 y0_12) 0 97 (0 : Int32)) t12 z12))) ∧ (a1.toInt = 0 → J12 (0 : Int32) σ τ vs) ∧ (a1.toInt ≠ 0 → wp_pop σ τ vs (fun v5 s5 t5 z5 => J12 v5 s5 t5 z5)))
set_option maxHeartbeats 4000000 in
set_option maxRecDepth 100000 in
theorem ct_leave (a : Nat → Nat) (r : Nat → Nat) {a1 : Int32} {σ τ : St} {vs : List Nat} {Q : Int32 → St → St → List Nat → Prop} (hcap : vs.length ≤ CAP) (w : wp_leave a1 σ τ vs Q) (l : Launch) (D : va_G) (cy : Nat → ClassId) : Ct l D cy SM r (EM a) y_X14_leave (Cond.code y_X14_leave b_X14_leave 3 (some .int)) 1 [.ref (r 0), .int a1] σ τ vs (QIs Q) QT0 := by
  unfold wp_leave at w
  refine Ct_of (EM_ok a) (by decide) (Nat.le_of_ble_eq_true rfl) hcap (fun X hnn hF => ?_)
  show G SM r X σ τ vs [(0, .ref (r 0)), (1, .int a1)] [] 0
  refine g_iload_n hF d_X14_leave_0 rfl 1 rfl ?_
  obtain ⟨J12, h12, w1⟩ := w
  have b12 : ∀ (y0_12 : Int32) (s12 t12 : St) (z12 : List Nat), J12 y0_12 s12 t12 z12 → G SM r X s12 t12 z12 [(0, .ref (r 0)), (1, .int a1)] [.int y0_12] 12 := by
    intro y0_12 s12 t12 z12  w12_
    have w12_ := h12 y0_12 s12 t12 z12  w12_
    refine g_istore_n hF [(2, .int y0_12), (0, .ref (r 0)), (1, .int a1)] d_X14_leave_12 rfl hnn (by decide) rfl ?_
    refine g_aload_n hF d_X14_leave_13 rfl 1 rfl ?_
    refine g_dup hF d_X14_leave_14 rfl ?_
    refine g_get (v := .int (s12 0 86)) hF 86 obM_0 (by decide) m_1951 rfl d_X14_leave_15 ?_
    refine g_iconst hF (v := 1) d_X14_leave_18 (by decide) ?_
    refine g_isub hF d_X14_leave_19 ?_
    refine g_put (v := ((s12 0 86) - (1 : Int32))) hF 86 obM_0 (by decide) m_1951 rfl rfl rfl d_X14_leave_20 ?_
    refine g_aload_n hF d_X14_leave_23 rfl 1 rfl ?_
    refine g_get (v := .int ((s12 0 86) - (1 : Int32))) hF 86 obM_0 (by decide) m_1951 rfl d_X14_leave_24 ?_
    refine g_if_ne hF 42 d_X14_leave_27 (by decide) rfl (fun c => ?_) (fun c => ?_)
    · have w2 := w12_.1 c
      refine g_iload_n hF d_X14_leave_42 rfl 2 rfl ?_
      refine g_if_eq hF 51 d_X14_leave_43 (by decide) rfl (fun c => ?_) (fun c => ?_)
      · have w3 := w2.1 c
        refine g_aload_n hF d_X14_leave_51 rfl 1 rfl ?_
        refine g_get (v := .ref (r 51)) hF 85 obM_0 (by decide) m_1950 rfl d_X14_leave_52 ?_
        refine g_aload_n hF d_X14_leave_55 rfl 1 rfl ?_
        refine g_get (v := .int ((s12 0 86) - (1 : Int32))) hF 86 obM_0 (by decide) m_1951 rfl d_X14_leave_56 ?_
        have w4 := w3.2
        refine g_iald hF arM_51 (s_in (Nat.le_of_ble_eq_true rfl) w3.1.1 w3.1.2) d_X14_leave_59 ?_
        refine g_top (v := (s12 51 ((s12 0 86) - (1 : Int32)).toNatClampNeg)) rfl ?_
        exact g_iret hF rfl d_X14_leave_60 ⟨(s12 51 ((s12 0 86) - (1 : Int32)).toNatClampNeg), rfl, w4⟩
      · have w5 := w2.2 c
        refine g_aload_n hF d_X14_leave_46 rfl 1 rfl ?_
        refine g_iload_n hF d_X14_leave_47 rfl 0 rfl ?_
        refine g_cap (fun hc5 => ?_)
        refine g_callV (As := [.int y0_12]) (rest := []) hF (fun l D cy => (ct_push a r hc5 w5) l D cy) (Nat.le_of_ble_eq_true rfl) mV_X14_push m_2765 (recv_ob obM_0) rfl rfl (Nat.le_of_ble_eq_true rfl) d_X14_leave_48 (kV (fun s48 t48 z48 w7 => ?_)) (fun _ _ _ h => h.elim)
        refine g_aload_n hF d_X14_leave_51 rfl 1 rfl ?_
        refine g_get (v := .ref (r 51)) hF 85 obM_0 (by decide) m_1950 rfl d_X14_leave_52 ?_
        refine g_aload_n hF d_X14_leave_55 rfl 1 rfl ?_
        refine g_get (v := .int (s48 0 86)) hF 86 obM_0 (by decide) m_1951 rfl d_X14_leave_56 ?_
        have w8 := w7.2
        refine g_iald hF arM_51 (s_in (Nat.le_of_ble_eq_true rfl) w7.1.1 w7.1.2) d_X14_leave_59 ?_
        refine g_top (v := (s48 51 (s48 0 86).toNatClampNeg)) rfl ?_
        exact g_iret hF rfl d_X14_leave_60 ⟨(s48 51 (s48 0 86).toNatClampNeg), rfl, w8⟩
    · have w9 := w12_.2 c
      refine g_aload_n hF d_X14_leave_30 rfl 1 rfl ?_
      refine g_iload_n hF d_X14_leave_31 rfl 0 rfl ?_
      refine g_put (v := y0_12) hF 94 obM_0 (by decide) m_1959 rfl rfl rfl d_X14_leave_32 ?_
      refine g_aload_n hF d_X14_leave_35 rfl 1 rfl ?_
      refine g_iconst hF (v := 0) d_X14_leave_36 (by decide) ?_
      refine g_put (v := 0) hF 97 obM_0 (by decide) m_1962 rfl rfl rfl d_X14_leave_37 ?_
      refine g_iconst hF (v := 0) d_X14_leave_40 (by decide) ?_
      exact g_iret hF rfl d_X14_leave_41 ⟨(0 : Int32), rfl, w9⟩
  refine g_if_eq hF 11 d_X14_leave_1 (by decide) rfl (fun c => ?_) (fun c => ?_)
  · have w10 := w1.1 c
    refine g_iconst hF (v := 0) d_X14_leave_11 (by decide) ?_
    exact b12 (0 : Int32) σ τ vs w10
  · have w11 := w1.2 c
    refine g_aload_n hF d_X14_leave_4 rfl 0 rfl ?_
    refine g_callV (As := []) (rest := []) hF (fun l D cy => (ct_pop a r hcap w11) l D cy) (Nat.le_of_ble_eq_true rfl) mV_X14_pop m_2777 (recv_ob obM_0) rfl rfl (Nat.le_of_ble_eq_true rfl) d_X14_leave_5 (kI (fun v5 s5 t5 z5 w12 => ?_)) (fun _ _ _ h => h.elim)
    refine g_goto hF 12 d_X14_leave_8 (by decide) ?_
    exact b12 v5 s5 t5 z5 w12
def wp_result (σ τ : St) (vs : List Nat) (Q : Int32 → Prop) : Prop :=
  Q (σ 0 94)
set_option maxHeartbeats 4000000 in
set_option maxRecDepth 100000 in
theorem ct_result (a : Nat → Nat) (r : Nat → Nat) {σ τ : St} {vs : List Nat} {Q : Int32 → Prop} (hcap : vs.length ≤ CAP) (w : wp_result  σ τ vs Q) (l : Launch) (D : va_G) (cy : Nat → ClassId) : Ct l D cy SM r (EM a) y_X14_result (Cond.code y_X14_result b_X14_result 1 (some .int)) 0 [.ref (r 0)] σ τ vs (QIr σ τ vs Q) QT0 := by
  unfold wp_result at w
  refine Ct_of (EM_ok a) (by decide) (Nat.le_of_ble_eq_true rfl) hcap (fun X hnn hF => ?_)
  show G SM r X σ τ vs [(0, .ref (r 0))] [] 0
  refine g_aload_n hF d_X14_result_0 rfl 0 rfl ?_
  refine g_get (v := .int (σ 0 94)) hF 94 obM_0 (by decide) m_1959 rfl d_X14_result_1 ?_
  exact g_iret hF rfl d_X14_result_4 ⟨rfl, rfl, rfl, (σ 0 94), rfl, w⟩
def wp_turns (σ τ : St) (vs : List Nat) (Q : Int32 → Prop) : Prop :=
  Q (σ 0 92)
set_option maxHeartbeats 4000000 in
set_option maxRecDepth 100000 in
theorem ct_turns (a : Nat → Nat) (r : Nat → Nat) {σ τ : St} {vs : List Nat} {Q : Int32 → Prop} (hcap : vs.length ≤ CAP) (w : wp_turns  σ τ vs Q) (l : Launch) (D : va_G) (cy : Nat → ClassId) : Ct l D cy SM r (EM a) y_X14_turns (Cond.code y_X14_turns b_X14_turns 1 (some .int)) 0 [.ref (r 0)] σ τ vs (QIr σ τ vs Q) QT0 := by
  unfold wp_turns at w
  refine Ct_of (EM_ok a) (by decide) (Nat.le_of_ble_eq_true rfl) hcap (fun X hnn hF => ?_)
  show G SM r X σ τ vs [(0, .ref (r 0))] [] 0
  refine g_aload_n hF d_X14_turns_0 rfl 0 rfl ?_
  refine g_get (v := .int (σ 0 92)) hF 92 obM_0 (by decide) m_1957 rfl d_X14_turns_1 ?_
  exact g_iret hF rfl d_X14_turns_4 ⟨rfl, rfl, rfl, (σ 0 92), rfl, w⟩
def wp_trap (a1 : Int32) (σ τ : St) (vs : List Nat) (Q : Int32 → Prop) : Prop :=
  (a1.toInt ≠ 0 → (a1.toInt ≠ 1 → Q (0 : Int32)) ∧ (a1.toInt = 1 → Q (σ 0 96))) ∧ (a1.toInt = 0 → Q (σ 0 95))
set_option maxHeartbeats 4000000 in
set_option maxRecDepth 100000 in
theorem ct_trap (a : Nat → Nat) (r : Nat → Nat) {a1 : Int32} {σ τ : St} {vs : List Nat} {Q : Int32 → Prop} (hcap : vs.length ≤ CAP) (w : wp_trap a1 σ τ vs Q) (l : Launch) (D : va_G) (cy : Nat → ClassId) : Ct l D cy SM r (EM a) y_X14_trap (Cond.code y_X14_trap b_X14_trap 2 (some .int)) 0 [.ref (r 0), .int a1] σ τ vs (QIr σ τ vs Q) QT0 := by
  unfold wp_trap at w
  refine Ct_of (EM_ok a) (by decide) (Nat.le_of_ble_eq_true rfl) hcap (fun X hnn hF => ?_)
  show G SM r X σ τ vs [(0, .ref (r 0)), (1, .int a1)] [] 0
  refine g_iload_n hF d_X14_trap_0 rfl 1 rfl ?_
  refine g_if_ne hF 11 d_X14_trap_1 (by decide) rfl (fun c => ?_) (fun c => ?_)
  · have w1 := w.1 c
    refine g_iload_n hF d_X14_trap_11 rfl 1 rfl ?_
    refine g_iconst hF (v := 1) d_X14_trap_12 (by decide) ?_
    refine g_icmp_ne (yv := 1) hF 23 d_X14_trap_13 (by decide) rfl (by decide) (fun c => ?_) (fun c => ?_)
    · have w2 := w1.1 c
      refine g_iconst hF (v := 0) d_X14_trap_23 (by decide) ?_
      exact g_iret hF rfl d_X14_trap_24 ⟨rfl, rfl, rfl, (0 : Int32), rfl, w2⟩
    · have w3 := w1.2 c
      refine g_aload_n hF d_X14_trap_16 rfl 0 rfl ?_
      refine g_get (v := .int (σ 0 96)) hF 96 obM_0 (by decide) m_1961 rfl d_X14_trap_17 ?_
      refine g_goto hF 24 d_X14_trap_20 (by decide) ?_
      exact g_iret hF rfl d_X14_trap_24 ⟨rfl, rfl, rfl, (σ 0 96), rfl, w3⟩
  · have w4 := w.2 c
    refine g_aload_n hF d_X14_trap_4 rfl 0 rfl ?_
    refine g_get (v := .int (σ 0 95)) hF 95 obM_0 (by decide) m_1960 rfl d_X14_trap_5 ?_
    refine g_goto hF 24 d_X14_trap_8 (by decide) ?_
    exact g_iret hF rfl d_X14_trap_24 ⟨rfl, rfl, rfl, (σ 0 95), rfl, w4⟩
def wp_written (σ τ : St) (vs : List Nat) (Q : Int32 → Prop) : Prop :=
  Q (σ 0 91)
set_option maxHeartbeats 4000000 in
set_option maxRecDepth 100000 in
theorem ct_written (a : Nat → Nat) (r : Nat → Nat) {σ τ : St} {vs : List Nat} {Q : Int32 → Prop} (hcap : vs.length ≤ CAP) (w : wp_written  σ τ vs Q) (l : Launch) (D : va_G) (cy : Nat → ClassId) : Ct l D cy SM r (EM a) y_X14_written (Cond.code y_X14_written b_X14_written 1 (some .int)) 0 [.ref (r 0)] σ τ vs (QIr σ τ vs Q) QT0 := by
  unfold wp_written at w
  refine Ct_of (EM_ok a) (by decide) (Nat.le_of_ble_eq_true rfl) hcap (fun X hnn hF => ?_)
  show G SM r X σ τ vs [(0, .ref (r 0))] [] 0
  refine g_aload_n hF d_X14_written_0 rfl 0 rfl ?_
  refine g_get (v := .int (σ 0 91)) hF 91 obM_0 (by decide) m_1956 rfl d_X14_written_1 ?_
  exact g_iret hF rfl d_X14_written_4 ⟨rfl, rfl, rfl, (σ 0 91), rfl, w⟩
def wp_out (a1 : Int32) (σ τ : St) (vs : List Nat) (Q : Int32 → Prop) : Prop :=
  (a1.toInt < 0 → Q ((-1) : Int32)) ∧ (0 ≤ a1.toInt → ((σ 0 91).toInt ≤ a1.toInt → Q ((-1) : Int32)) ∧ (a1.toInt < (σ 0 91).toInt → ((0 ≤ a1.toInt ∧ a1.toInt < 4096) ∧ Q ((σ 53 a1.toNatClampNeg) &&& (255 : Int32)))))
set_option maxHeartbeats 4000000 in
set_option maxRecDepth 100000 in
theorem ct_out (a : Nat → Nat) (r : Nat → Nat) {a1 : Int32} {σ τ : St} {vs : List Nat} {Q : Int32 → Prop} (hcap : vs.length ≤ CAP) (w : wp_out a1 σ τ vs Q) (l : Launch) (D : va_G) (cy : Nat → ClassId) : Ct l D cy SM r (EM a) y_X14_out (Cond.code y_X14_out b_X14_out 2 (some .int)) 0 [.ref (r 0), .int a1] σ τ vs (QIr σ τ vs Q) QT0 := by
  unfold wp_out at w
  refine Ct_of (EM_ok a) (by decide) (Nat.le_of_ble_eq_true rfl) hcap (fun X hnn hF => ?_)
  show G SM r X σ τ vs [(0, .ref (r 0)), (1, .int a1)] [] 0
  refine g_iload_n hF d_X14_out_0 rfl 1 rfl ?_
  refine g_if_lt hF 25 d_X14_out_1 (by decide) rfl (fun c => ?_) (fun c => ?_)
  · have w1 := w.1 c
    refine g_iconst hF (v := (-1)) d_X14_out_25 (by decide) ?_
    exact g_iret hF rfl d_X14_out_26 ⟨rfl, rfl, rfl, ((-1) : Int32), rfl, w1⟩
  · have w2 := w.2 c
    refine g_iload_n hF d_X14_out_4 rfl 1 rfl ?_
    refine g_aload_n hF d_X14_out_5 rfl 0 rfl ?_
    refine g_get (v := .int (σ 0 91)) hF 91 obM_0 (by decide) m_1956 rfl d_X14_out_6 ?_
    refine g_icmp_ge hF 25 d_X14_out_9 (by decide) rfl rfl (fun c => ?_) (fun c => ?_)
    · have w3 := w2.1 c
      refine g_iconst hF (v := (-1)) d_X14_out_25 (by decide) ?_
      exact g_iret hF rfl d_X14_out_26 ⟨rfl, rfl, rfl, ((-1) : Int32), rfl, w3⟩
    · have w4 := w2.2 c
      refine g_aload_n hF d_X14_out_12 rfl 0 rfl ?_
      refine g_get (v := .ref (r 53)) hF 90 obM_0 (by decide) m_1955 rfl d_X14_out_13 ?_
      refine g_iload_n hF d_X14_out_16 rfl 1 rfl ?_
      have w5 := w4.2
      refine g_bald hF arM_53 (s_in (Nat.le_of_ble_eq_true rfl) w4.1.1 w4.1.2) d_X14_out_17 ?_
      refine g_top (v := (σ 53 a1.toNatClampNeg)) rfl ?_
      refine g_sipush hF (v := 255) d_X14_out_18 (by decide) ?_
      refine g_iand hF d_X14_out_21 ?_
      refine g_goto hF 26 d_X14_out_22 (by decide) ?_
      exact g_iret hF rfl d_X14_out_26 ⟨rfl, rfl, rfl, ((σ 53 a1.toNatClampNeg) &&& (255 : Int32)), rfl, w5⟩
def wp_peek (a1 : Int32) (σ τ : St) (vs : List Nat) (Q : Int32 → Prop) : Prop :=
  ((σ 0 98).toInt = 0 → Q (0 : Int32)) ∧ ((σ 0 98).toInt ≠ 0 → (a1.toInt < 0 → Q (0 : Int32)) ∧ (0 ≤ a1.toInt → (32768 ≤ a1.toInt → Q (0 : Int32)) ∧ (a1.toInt < 32768 → ((0 ≤ a1.toInt ∧ a1.toInt < 32768) ∧ Q (σ 46 a1.toNatClampNeg)))))
set_option maxHeartbeats 4000000 in
set_option maxRecDepth 100000 in
theorem ct_peek (a : Nat → Nat) (r : Nat → Nat) {a1 : Int32} {σ τ : St} {vs : List Nat} {Q : Int32 → Prop} (hcap : vs.length ≤ CAP) (w : wp_peek a1 σ τ vs Q) (l : Launch) (D : va_G) (cy : Nat → ClassId) : Ct l D cy SM r (EM a) y_X14_peek (Cond.code y_X14_peek b_X14_peek 2 (some .int)) 0 [.ref (r 0), .int a1] σ τ vs (QIr σ τ vs Q) QT0 := by
  unfold wp_peek at w
  refine Ct_of (EM_ok a) (by decide) (Nat.le_of_ble_eq_true rfl) hcap (fun X hnn hF => ?_)
  show G SM r X σ τ vs [(0, .ref (r 0)), (1, .int a1)] [] 0
  refine g_aload_n hF d_X14_peek_0 rfl 0 rfl ?_
  refine g_get (v := .int (σ 0 98)) hF 98 obM_0 (by decide) m_1963 rfl d_X14_peek_1 ?_
  refine g_if_eq hF 26 d_X14_peek_4 (by decide) rfl (fun c => ?_) (fun c => ?_)
  · have w1 := w.1 c
    refine g_iconst hF (v := 0) d_X14_peek_26 (by decide) ?_
    exact g_iret hF rfl d_X14_peek_27 ⟨rfl, rfl, rfl, (0 : Int32), rfl, w1⟩
  · have w2 := w.2 c
    refine g_iload_n hF d_X14_peek_7 rfl 1 rfl ?_
    refine g_if_lt hF 26 d_X14_peek_8 (by decide) rfl (fun c => ?_) (fun c => ?_)
    · have w3 := w2.1 c
      refine g_iconst hF (v := 0) d_X14_peek_26 (by decide) ?_
      exact g_iret hF rfl d_X14_peek_27 ⟨rfl, rfl, rfl, (0 : Int32), rfl, w3⟩
    · have w4 := w2.2 c
      refine g_iload_n hF d_X14_peek_11 rfl 1 rfl ?_
      refine g_ldc (v := 32768) hF m_1863 d_X14_peek_12 ?_
      refine g_icmp_ge (yv := 32768) hF 26 d_X14_peek_14 (by decide) rfl (by decide) (fun c => ?_) (fun c => ?_)
      · have w5 := w4.1 c
        refine g_iconst hF (v := 0) d_X14_peek_26 (by decide) ?_
        exact g_iret hF rfl d_X14_peek_27 ⟨rfl, rfl, rfl, (0 : Int32), rfl, w5⟩
      · have w6 := w4.2 c
        refine g_aload_n hF d_X14_peek_17 rfl 0 rfl ?_
        refine g_get (v := .ref (r 46)) hF 79 obM_0 (by decide) m_1944 rfl d_X14_peek_18 ?_
        refine g_iload_n hF d_X14_peek_21 rfl 1 rfl ?_
        have w7 := w6.2
        refine g_iald hF arM_46 (s_in (Nat.le_of_ble_eq_true rfl) w6.1.1 w6.1.2) d_X14_peek_22 ?_
        refine g_top (v := (σ 46 a1.toNatClampNeg)) rfl ?_
        refine g_goto hF 27 d_X14_peek_23 (by decide) ?_
        exact g_iret hF rfl d_X14_peek_27 ⟨rfl, rfl, rfl, (σ 46 a1.toNatClampNeg), rfl, w7⟩
def wp_strays (σ τ : St) (vs : List Nat) (Q : Int32 → Prop) : Prop :=
  Q (0 : Int32)
set_option maxHeartbeats 4000000 in
set_option maxRecDepth 100000 in
theorem ct_strays (a : Nat → Nat) (r : Nat → Nat) {σ τ : St} {vs : List Nat} {Q : Int32 → Prop} (hcap : vs.length ≤ CAP) (w : wp_strays  σ τ vs Q) (l : Launch) (D : va_G) (cy : Nat → ClassId) : Ct l D cy SM r (EM a) y_X14_strays (Cond.code y_X14_strays b_X14_strays 1 (some .int)) 0 [.ref (r 0)] σ τ vs (QIr σ τ vs Q) QT0 := by
  unfold wp_strays at w
  refine Ct_of (EM_ok a) (by decide) (Nat.le_of_ble_eq_true rfl) hcap (fun X hnn hF => ?_)
  show G SM r X σ τ vs [(0, .ref (r 0))] [] 0
  refine g_iconst hF (v := 0) d_X14_strays_0 (by decide) ?_
  exact g_iret hF rfl d_X14_strays_1 ⟨rfl, rfl, rfl, (0 : Int32), rfl, w⟩
def wp_lineEnd (a1 : Int32) (σ τ : St) (vs : List Nat) (Q : Int32 → St → St → List Nat → Prop) : Prop :=
  ∃ L2 : Nat → Int32 → Prop, (∃ n, L2 n a1) ∧ ∀ (n2 : Nat) (x2_2 : Int32), L2 n2 x2_2 → (((σ 0 9).toInt ≤ x2_2.toInt → Q x2_2 σ τ vs) ∧ (x2_2.toInt < (σ 0 9).toInt → wp_look x2_2 σ τ vs (fun v12 => (v12.toInt = 10 → Q x2_2 σ τ vs) ∧ (v12.toInt ≠ 10 → wp_look x2_2 σ τ vs (fun v22 => wp_isAllowed v22 σ τ vs (fun v25 => (v25.toInt ≠ 0 → ∃ m, m < n2 ∧ L2 m (x2_2 + 1)) ∧ (v25.toInt = 0 → wp_bad x2_2 σ τ vs (fun v33 s33 t33 z33 => Q v33 s33 t33 z33))))))))
set_option maxHeartbeats 4000000 in
set_option maxRecDepth 100000 in
theorem ct_lineEnd (a : Nat → Nat) (r : Nat → Nat) {a1 : Int32} {σ τ : St} {vs : List Nat} {Q : Int32 → St → St → List Nat → Prop} (hcap : vs.length ≤ CAP) (w : wp_lineEnd a1 σ τ vs Q) (l : Launch) (D : va_G) (cy : Nat → ClassId) : Ct l D cy SM r (EM a) y_X14_lineEnd (Cond.code y_X14_lineEnd b_X14_lineEnd 3 (some .int)) 2 [.ref (r 0), .int a1] σ τ vs (QIs Q) QT0 := by
  unfold wp_lineEnd at w
  refine Ct_of (EM_ok a) (by decide) (Nat.le_of_ble_eq_true rfl) hcap (fun X hnn hF => ?_)
  show G SM r X σ τ vs [(0, .ref (r 0)), (1, .int a1)] [] 0
  refine g_iload_n hF d_X14_lineEnd_0 rfl 1 rfl ?_
  refine g_istore_n hF [(2, .int a1), (0, .ref (r 0)), (1, .int a1)] d_X14_lineEnd_1 rfl hnn (by decide) rfl ?_
  obtain ⟨L2, ⟨i2, u2⟩, h2⟩ := w
  have b2 : ∀ (n2 : Nat) (x2_2 : Int32), L2 n2 x2_2 → G SM r X σ τ vs [(0, .ref (r 0)), (2, .int x2_2)] [] 2 := by
    intro n2
    induction n2 using Nat.strongRecOn with
    | _ n2 ih2 =>
      intro x2_2  w2_
      have w2_ := h2 n2 x2_2  w2_
      refine g_iload_n hF d_X14_lineEnd_2 rfl 1 rfl ?_
      refine g_aload_n hF d_X14_lineEnd_3 rfl 0 rfl ?_
      refine g_get (v := .int (σ 0 9)) hF 9 obM_0 (by decide) m_1874 rfl d_X14_lineEnd_4 ?_
      refine g_icmp_ge hF 43 d_X14_lineEnd_7 (by decide) rfl rfl (fun c => ?_) (fun c => ?_)
      · have w1 := w2_.1 c
        refine g_iload_n hF d_X14_lineEnd_43 rfl 1 rfl ?_
        exact g_iret hF rfl d_X14_lineEnd_44 ⟨x2_2, rfl, w1⟩
      · have w2 := w2_.2 c
        refine g_aload_n hF d_X14_lineEnd_10 rfl 0 rfl ?_
        refine g_iload_n hF d_X14_lineEnd_11 rfl 1 rfl ?_
        refine g_callV (As := [.int x2_2]) (rest := []) hF (fun l D cy => (ct_look a r hcap w2) l D cy) (Nat.le_of_ble_eq_true rfl) mV_X14_look m_2187 (recv_ob obM_0) rfl rfl (Nat.le_of_ble_eq_true rfl) d_X14_lineEnd_12 (krI (fun v12 w3 => ?_)) (fun _ _ _ h => h.elim)
        refine g_bipush hF (v := 10) d_X14_lineEnd_15 (by decide) ?_
        refine g_icmp_eq (yv := 10) hF 43 d_X14_lineEnd_17 (by decide) rfl (by decide) (fun c => ?_) (fun c => ?_)
        · have w4 := w3.1 c
          refine g_iload_n hF d_X14_lineEnd_43 rfl 1 rfl ?_
          exact g_iret hF rfl d_X14_lineEnd_44 ⟨x2_2, rfl, w4⟩
        · have w5 := w3.2 c
          refine g_aload_n hF d_X14_lineEnd_20 rfl 0 rfl ?_
          refine g_iload_n hF d_X14_lineEnd_21 rfl 1 rfl ?_
          refine g_callV (As := [.int x2_2]) (rest := []) hF (fun l D cy => (ct_look a r hcap w5) l D cy) (Nat.le_of_ble_eq_true rfl) mV_X14_look m_2187 (recv_ob obM_0) rfl rfl (Nat.le_of_ble_eq_true rfl) d_X14_lineEnd_22 (krI (fun v22 w6 => ?_)) (fun _ _ _ h => h.elim)
          refine g_callS (As := [.int v22]) (rest := []) hF (fun l D cy => (ct_isAllowed a r hcap w6) l D cy) (Nat.le_of_ble_eq_true rfl) mS_X14_isAllowed m_2191 rfl rfl (Nat.le_of_ble_eq_true rfl) d_X14_lineEnd_25 (krZ (fun v25 hz25 w7 => ?_)) (fun _ _ _ h => h.elim)
          refine g_if_ne hF 37 d_X14_lineEnd_28 (by decide) rfl (fun c => ?_) (fun c => ?_)
          · have w8 := w7.1 c
            refine g_iinc hF (x2_2 + 1) [(2, .int (x2_2 + 1)), (0, .ref (r 0))] d_X14_lineEnd_37 1 rfl rfl hnn (by decide) rfl ?_
            refine g_goto hF 2 d_X14_lineEnd_40 (by decide) ?_
            obtain ⟨m2, hm2, w9⟩ := w8
            exact g_sub (L' := [(0, .ref (r 0)), (2, .int (x2_2 + 1))]) [1, 0] rfl (ih2 m2 hm2 (x2_2 + 1) w9)
          · have w9 := w7.2 c
            refine g_aload_n hF d_X14_lineEnd_31 rfl 0 rfl ?_
            refine g_iload_n hF d_X14_lineEnd_32 rfl 1 rfl ?_
            refine g_callV (As := [.int x2_2]) (rest := []) hF (fun l D cy => (ct_bad a r hcap w9) l D cy) (Nat.le_of_ble_eq_true rfl) mV_X14_bad m_2202 (recv_ob obM_0) rfl rfl (Nat.le_of_ble_eq_true rfl) d_X14_lineEnd_33 (kI (fun v33 s33 t33 z33 w10 => ?_)) (fun _ _ _ h => h.elim)
            exact g_iret hF rfl d_X14_lineEnd_36 ⟨v33, rfl, w10⟩
  exact g_sub (L' := [(0, .ref (r 0)), (2, .int a1)]) [1, 0] rfl (b2 i2 a1 u2)
def wp_nameEnd (a1 : Int32) (a2 : Int32) (σ τ : St) (vs : List Nat) (Q : Int32 → St → St → List Nat → Prop) : Prop :=
  ∃ L2 : Nat → Int32 → Prop, (∃ n, L2 n a1) ∧ ∀ (n2 : Nat) (x3_2 : Int32), L2 n2 x3_2 → (wp_look x3_2 σ τ vs (fun v4 => wp_isLetter v4 σ τ vs (fun v7 => (∃ J24 : Prop, (J24  → (∃ m, m < n2 ∧ L2 m (x3_2 + 1))) ∧ (v7.toInt ≠ 0 → J24) ∧ (v7.toInt = 0 → wp_look x3_2 σ τ vs (fun v15 => wp_isDigit v15 σ τ vs (fun v18 => (v18.toInt = 0 → ((x3_2 - a1).toInt ≤ 24 → wp_among a1 x3_2 0 σ τ vs (fun v50 => (∃ J69 : Int32 → Prop, (∀ (y1_69 : Int32), J69 y1_69 → (wp_token y1_69 a1 x3_2 a2 (0 : Int32) σ τ vs (fun s73 t73 z73 => Q x3_2 s73 t73 z73))) ∧ (v50.toInt < 0 → J69 (2 : Int32)) ∧ (0 ≤ v50.toInt → J69 ((5 : Int32) + v50))))) ∧ (24 < (x3_2 - a1).toInt → wp_bad a1 σ τ vs (fun v40 s40 t40 z40 => Q v40 s40 t40 z40))) ∧ (v18.toInt ≠ 0 → J24))))))))
set_option maxHeartbeats 4000000 in
set_option maxRecDepth 100000 in
theorem ct_nameEnd (a : Nat → Nat) (r : Nat → Nat) {a1 : Int32} {a2 : Int32} {σ τ : St} {vs : List Nat} {Q : Int32 → St → St → List Nat → Prop} (hcap : vs.length ≤ CAP) (w : wp_nameEnd a1 a2 σ τ vs Q) (l : Launch) (D : va_G) (cy : Nat → ClassId) : Ct l D cy SM r (EM a) y_X14_nameEnd (Cond.code y_X14_nameEnd b_X14_nameEnd 5 (some .int)) 5 [.ref (r 0), .int a1, .int a2] σ τ vs (QIs Q) QT0 := by
  unfold wp_nameEnd at w
  refine Ct_of (EM_ok a) (by decide) (Nat.le_of_ble_eq_true rfl) hcap (fun X hnn hF => ?_)
  show G SM r X σ τ vs [(0, .ref (r 0)), (1, .int a1), (2, .int a2)] [] 0
  refine g_iload_n hF d_X14_nameEnd_0 rfl 1 rfl ?_
  refine g_istore_n hF [(3, .int a1), (0, .ref (r 0)), (1, .int a1), (2, .int a2)] d_X14_nameEnd_1 rfl hnn (by decide) rfl ?_
  obtain ⟨L2, ⟨i2, u2⟩, h2⟩ := w
  have b2 : ∀ (n2 : Nat) (x3_2 : Int32), L2 n2 x3_2 → G SM r X σ τ vs [(0, .ref (r 0)), (1, .int a1), (2, .int a2), (3, .int x3_2)] [] 2 := by
    intro n2
    induction n2 using Nat.strongRecOn with
    | _ n2 ih2 =>
      intro x3_2  w2_
      have w2_ := h2 n2 x3_2  w2_
      refine g_aload_n hF d_X14_nameEnd_2 rfl 0 rfl ?_
      refine g_iload_n hF d_X14_nameEnd_3 rfl 3 rfl ?_
      refine g_callV (As := [.int x3_2]) (rest := []) hF (fun l D cy => (ct_look a r hcap w2_) l D cy) (Nat.le_of_ble_eq_true rfl) mV_X14_look m_2187 (recv_ob obM_0) rfl rfl (Nat.le_of_ble_eq_true rfl) d_X14_nameEnd_4 (krI (fun v4 w1 => ?_)) (fun _ _ _ h => h.elim)
      refine g_callS (As := [.int v4]) (rest := []) hF (fun l D cy => (ct_isLetter a r hcap w1) l D cy) (Nat.le_of_ble_eq_true rfl) mS_X14_isLetter m_2217 rfl rfl (Nat.le_of_ble_eq_true rfl) d_X14_nameEnd_7 (krZ (fun v7 hz7 w2 => ?_)) (fun _ _ _ h => h.elim)
      obtain ⟨J24, h24, w3⟩ := w2
      have b24 : J24  → G SM r X σ τ vs [(0, .ref (r 0)), (1, .int a1), (2, .int a2), (3, .int x3_2)] [] 24 := by
        intro   w24_
        have w24_ := h24   w24_
        refine g_iinc hF (x3_2 + 1) [(3, .int (x3_2 + 1)), (0, .ref (r 0)), (1, .int a1), (2, .int a2)] d_X14_nameEnd_24 3 rfl rfl hnn (by decide) rfl ?_
        refine g_goto hF 2 d_X14_nameEnd_27 (by decide) ?_
        obtain ⟨m2, hm2, w9⟩ := w24_
        exact g_sub (L' := [(0, .ref (r 0)), (1, .int a1), (2, .int a2), (3, .int (x3_2 + 1))]) [1, 2, 3, 0] rfl (ih2 m2 hm2 (x3_2 + 1) w9)
      refine g_if_ne hF 24 d_X14_nameEnd_10 (by decide) rfl (fun c => ?_) (fun c => ?_)
      · have w4 := w3.1 c
        exact b24  w4
      · have w5 := w3.2 c
        refine g_aload_n hF d_X14_nameEnd_13 rfl 0 rfl ?_
        refine g_iload_n hF d_X14_nameEnd_14 rfl 3 rfl ?_
        refine g_callV (As := [.int x3_2]) (rest := []) hF (fun l D cy => (ct_look a r hcap w5) l D cy) (Nat.le_of_ble_eq_true rfl) mV_X14_look m_2187 (recv_ob obM_0) rfl rfl (Nat.le_of_ble_eq_true rfl) d_X14_nameEnd_15 (krI (fun v15 w6 => ?_)) (fun _ _ _ h => h.elim)
        refine g_callS (As := [.int v15]) (rest := []) hF (fun l D cy => (ct_isDigit a r hcap w6) l D cy) (Nat.le_of_ble_eq_true rfl) mS_X14_isDigit m_2224 rfl rfl (Nat.le_of_ble_eq_true rfl) d_X14_nameEnd_18 (krZ (fun v18 hz18 w7 => ?_)) (fun _ _ _ h => h.elim)
        refine g_if_eq hF 30 d_X14_nameEnd_21 (by decide) rfl (fun c => ?_) (fun c => ?_)
        · have w8 := w7.1 c
          refine g_iload_n hF d_X14_nameEnd_30 rfl 3 rfl ?_
          refine g_iload_n hF d_X14_nameEnd_31 rfl 1 rfl ?_
          refine g_isub hF d_X14_nameEnd_32 ?_
          refine g_bipush hF (v := 24) d_X14_nameEnd_33 (by decide) ?_
          refine g_icmp_le (yv := 24) hF 44 d_X14_nameEnd_35 (by decide) rfl (by decide) (fun c => ?_) (fun c => ?_)
          · have w9 := w8.1 c
            refine g_aload_n hF d_X14_nameEnd_44 rfl 0 rfl ?_
            refine g_iload_n hF d_X14_nameEnd_45 rfl 1 rfl ?_
            refine g_iload_n hF d_X14_nameEnd_46 rfl 3 rfl ?_
            refine g_ldcSw hF (fun A s h => (EM_s (j := 0) h (by decide)).1) d_X14_nameEnd_47 ?_
            refine g_callV (As := [.int a1, .int x3_2, .ref (a (2 * 0))]) (rest := []) hF (fun l D cy => (ct_among a r hcap (by decide) w9) l D cy) (Nat.le_of_ble_eq_true rfl) mV_X14_among m_2228 (recv_ob obM_0) rfl rfl (Nat.le_of_ble_eq_true rfl) d_X14_nameEnd_50 (krI (fun v50 w10 => ?_)) (fun _ _ _ h => h.elim)
            refine g_istore hF [(4, .int v50), (0, .ref (r 0)), (1, .int a1), (2, .int a2), (3, .int x3_2)] d_X14_nameEnd_53 hnn (by decide) rfl ?_
            refine g_aload_n hF d_X14_nameEnd_55 rfl 1 rfl ?_
            refine g_iload hF d_X14_nameEnd_56 0 rfl ?_
            obtain ⟨J69, h69, w11⟩ := w10
            have b69 : ∀ (y1_69 : Int32), J69 y1_69 → G SM r X σ τ vs [(1, .int a1), (2, .int a2), (3, .int x3_2)] [.int y1_69, .ref (r 0)] 69 := by
              intro y1_69  w69_
              have w69_ := h69 y1_69  w69_
              refine g_iload_n hF d_X14_nameEnd_69 rfl 0 rfl ?_
              refine g_iload_n hF d_X14_nameEnd_70 rfl 2 rfl ?_
              refine g_iload_n hF d_X14_nameEnd_71 rfl 1 rfl ?_
              refine g_iconst hF (v := 0) d_X14_nameEnd_72 (by decide) ?_
              refine g_callV (As := [.int y1_69, .int a1, .int x3_2, .int a2, .int 0]) (rest := []) hF (fun l D cy => (ct_token a r hcap w69_) l D cy) (Nat.le_of_ble_eq_true rfl) mV_X14_token m_2194 (recv_ob obM_0) rfl rfl (Nat.le_of_ble_eq_true rfl) d_X14_nameEnd_73 (kV (fun s73 t73 z73 w12 => ?_)) (fun _ _ _ h => h.elim)
              refine g_iload_n hF d_X14_nameEnd_76 rfl 2 rfl ?_
              exact g_iret hF rfl d_X14_nameEnd_77 ⟨x3_2, rfl, w12⟩
            refine g_if_lt hF 68 d_X14_nameEnd_58 (by decide) rfl (fun c => ?_) (fun c => ?_)
            · have w13 := w11.1 c
              refine g_iconst hF (v := 2) d_X14_nameEnd_68 (by decide) ?_
              exact g_sub (L' := [(1, .int a1), (2, .int a2), (3, .int x3_2)]) [2, 3, 4] rfl (b69 (2 : Int32) w13)
            · have w14 := w11.2 c
              refine g_iconst hF (v := 5) d_X14_nameEnd_61 (by decide) ?_
              refine g_iload hF d_X14_nameEnd_62 0 rfl ?_
              refine g_iadd hF d_X14_nameEnd_64 ?_
              refine g_goto hF 69 d_X14_nameEnd_65 (by decide) ?_
              exact g_sub (L' := [(1, .int a1), (2, .int a2), (3, .int x3_2)]) [2, 3, 4] rfl (b69 ((5 : Int32) + v50) w14)
          · have w15 := w8.2 c
            refine g_aload_n hF d_X14_nameEnd_38 rfl 0 rfl ?_
            refine g_iload_n hF d_X14_nameEnd_39 rfl 1 rfl ?_
            refine g_callV (As := [.int a1]) (rest := []) hF (fun l D cy => (ct_bad a r hcap w15) l D cy) (Nat.le_of_ble_eq_true rfl) mV_X14_bad m_2202 (recv_ob obM_0) rfl rfl (Nat.le_of_ble_eq_true rfl) d_X14_nameEnd_40 (kI (fun v40 s40 t40 z40 w16 => ?_)) (fun _ _ _ h => h.elim)
            exact g_iret hF rfl d_X14_nameEnd_43 ⟨v40, rfl, w16⟩
        · have w17 := w7.2 c
          exact b24  w17
  exact g_sub (L' := [(0, .ref (r 0)), (1, .int a1), (2, .int a2), (3, .int a1)]) [1, 2, 3, 0] rfl (b2 i2 a1 u2)
def wp_numberEnd (a1 : Int32) (a2 : Int32) (σ τ : St) (vs : List Nat) (Q : Int32 → St → St → List Nat → Prop) : Prop :=
  wp_look a1 σ τ vs (fun v2 => (∃ J100 : Prop, (J100  → (∃ L105 : Nat → Int32 → Int64 → Prop, (∃ n, L105 n a1 (0 : Int64)) ∧ ∀ (n105 : Nat) (x3_105 : Int32) (x4_105 : Int64), L105 n105 x3_105 x4_105 → (wp_look x3_105 σ τ vs (fun v107 => wp_isDigit v107 σ τ vs (fun v110 => (v110.toInt = 0 → ((lg_cmp x4_105 (2147483647 : Int64)).toInt ≤ 0 → wp_token (3 : Int32) a1 x3_105 a2 x4_105.toInt32 σ τ vs (fun s173 t173 z173 => Q x3_105 s173 t173 z173)) ∧ (0 < (lg_cmp x4_105 (2147483647 : Int64)).toInt → wp_bad a1 σ τ vs (fun v161 s161 t161 z161 => Q v161 s161 t161 z161))) ∧ (v110.toInt ≠ 0 → (∃ J144 : Int64 → Prop, (∀ (x4_144 : Int64), J144 x4_144 → (∃ m, m < n105 ∧ L105 m (x3_105 + 1) x4_144)) ∧ (0 < (lg_cmp x4_105 (2147483647 : Int64)).toInt → J144 x4_105) ∧ ((lg_cmp x4_105 (2147483647 : Int64)).toInt ≤ 0 → wp_look x3_105 σ τ vs (fun v133 => J144 ((((10 : Int64) * x4_105) + v133.toInt64) - (48 : Int64))))))))))) ∧ (v2.toInt ≠ 48 → J100) ∧ (v2.toInt = 48 → wp_look (a1 + (1 : Int32)) σ τ vs (fun v14 => (v14.toInt ≠ 120 → J100) ∧ (v14.toInt = 120 → wp_look (a1 + (2 : Int32)) σ τ vs (fun v26 => wp_sixteen v26 σ τ vs (fun v29 => (v29.toInt < 0 → J100) ∧ (0 ≤ v29.toInt → ∃ L42 : Nat → Int32 → Int32 → Prop, (∃ n, L42 n (a1 + (2 : Int32)) (0 : Int32)) ∧ ∀ (n42 : Nat) (x3_42 : Int32) (x4_42 : Int32), L42 n42 x3_42 x4_42 → (wp_look x3_42 σ τ vs (fun v44 => wp_sixteen v44 σ τ vs (fun v47 => (v47.toInt < 0 → ((x3_42 - a1).toInt ≤ 10 → wp_token (3 : Int32) a1 x3_42 a2 x4_42 σ τ vs (fun s95 t95 z95 => Q x3_42 s95 t95 z95)) ∧ (10 < (x3_42 - a1).toInt → wp_bad a1 σ τ vs (fun v84 s84 t84 z84 => Q v84 s84 t84 z84))) ∧ (0 ≤ v47.toInt → wp_look x3_42 σ τ vs (fun v59 => wp_sixteen v59 σ τ vs (fun v62 => ∃ m, m < n42 ∧ L42 m (x3_42 + 1) ((x4_42 <<< ((4 : Int32) &&& 31)) ||| v62)))))))))))))))
set_option maxHeartbeats 4000000 in
set_option maxRecDepth 100000 in
theorem ct_numberEnd (a : Nat → Nat) (r : Nat → Nat) {a1 : Int32} {a2 : Int32} {σ τ : St} {vs : List Nat} {Q : Int32 → St → St → List Nat → Prop} (hcap : vs.length ≤ CAP) (w : wp_numberEnd a1 a2 σ τ vs Q) (l : Launch) (D : va_G) (cy : Nat → ClassId) : Ct l D cy SM r (EM a) y_X14_numberEnd (Cond.code y_X14_numberEnd b_X14_numberEnd 6 (some .int)) 2 [.ref (r 0), .int a1, .int a2] σ τ vs (QIs Q) QT0 := by
  unfold wp_numberEnd at w
  refine Ct_of (EM_ok a) (by decide) (Nat.le_of_ble_eq_true rfl) hcap (fun X hnn hF => ?_)
  show G SM r X σ τ vs [(0, .ref (r 0)), (1, .int a1), (2, .int a2)] [] 0
  refine g_aload_n hF d_X14_numberEnd_0 rfl 0 rfl ?_
  refine g_iload_n hF d_X14_numberEnd_1 rfl 1 rfl ?_
  refine g_callV (As := [.int a1]) (rest := []) hF (fun l D cy => (ct_look a r hcap w) l D cy) (Nat.le_of_ble_eq_true rfl) mV_X14_look m_2187 (recv_ob obM_0) rfl rfl (Nat.le_of_ble_eq_true rfl) d_X14_numberEnd_2 (krI (fun v2 w1 => ?_)) (fun _ _ _ h => h.elim)
  refine g_bipush hF (v := 48) d_X14_numberEnd_5 (by decide) ?_
  obtain ⟨J100, h100, w2⟩ := w1
  have b100 : J100  → G SM r X σ τ vs [(0, .ref (r 0)), (1, .int a1), (2, .int a2)] [] 100 := by
    intro   w100_
    have w100_ := h100   w100_
    refine g_iload_n hF d_X14_numberEnd_100 rfl 1 rfl ?_
    refine g_istore_n hF [(3, .int a1), (0, .ref (r 0)), (1, .int a1), (2, .int a2)] d_X14_numberEnd_101 rfl hnn (by decide) rfl ?_
    refine g_lconst hF (v := 0) d_X14_numberEnd_102 (by decide) ?_
    refine g_lstore hF [(4, .long 0), (3, .int a1), (0, .ref (r 0)), (1, .int a1), (2, .int a2)] d_X14_numberEnd_103 hnn (by decide) rfl ?_
    obtain ⟨L105, ⟨i105, u105⟩, h105⟩ := w100_
    have b105 : ∀ (n105 : Nat) (x3_105 : Int32) (x4_105 : Int64), L105 n105 x3_105 x4_105 → G SM r X σ τ vs [(0, .ref (r 0)), (1, .int a1), (2, .int a2), (3, .int x3_105), (4, .long x4_105)] [] 105 := by
      intro n105
      induction n105 using Nat.strongRecOn with
      | _ n105 ih105 =>
        intro x3_105 x4_105  w105_
        have w105_ := h105 n105 x3_105 x4_105  w105_
        refine g_aload_n hF d_X14_numberEnd_105 rfl 0 rfl ?_
        refine g_iload_n hF d_X14_numberEnd_106 rfl 3 rfl ?_
        refine g_callV (As := [.int x3_105]) (rest := []) hF (fun l D cy => (ct_look a r hcap w105_) l D cy) (Nat.le_of_ble_eq_true rfl) mV_X14_look m_2187 (recv_ob obM_0) rfl rfl (Nat.le_of_ble_eq_true rfl) d_X14_numberEnd_107 (krI (fun v107 w3 => ?_)) (fun _ _ _ h => h.elim)
        refine g_callS (As := [.int v107]) (rest := []) hF (fun l D cy => (ct_isDigit a r hcap w3) l D cy) (Nat.le_of_ble_eq_true rfl) mS_X14_isDigit m_2224 rfl rfl (Nat.le_of_ble_eq_true rfl) d_X14_numberEnd_110 (krZ (fun v110 hz110 w4 => ?_)) (fun _ _ _ h => h.elim)
        refine g_if_eq hF 150 d_X14_numberEnd_113 (by decide) rfl (fun c => ?_) (fun c => ?_)
        · have w5 := w4.1 c
          refine g_lload hF d_X14_numberEnd_150 4 rfl ?_
          refine g_ldc2 hF (v := 2147483647) m_2241 d_X14_numberEnd_152 ?_
          refine g_lcmp hF d_X14_numberEnd_155 ?_
          refine g_if_le hF 165 d_X14_numberEnd_156 (by decide) rfl (fun c => ?_) (fun c => ?_)
          · have w6 := w5.1 c
            refine g_aload_n hF d_X14_numberEnd_165 rfl 0 rfl ?_
            refine g_iconst hF (v := 3) d_X14_numberEnd_166 (by decide) ?_
            refine g_iload_n hF d_X14_numberEnd_167 rfl 1 rfl ?_
            refine g_iload_n hF d_X14_numberEnd_168 rfl 3 rfl ?_
            refine g_iload_n hF d_X14_numberEnd_169 rfl 2 rfl ?_
            refine g_lload hF d_X14_numberEnd_170 4 rfl ?_
            refine g_l2i hF d_X14_numberEnd_172 ?_
            refine g_callV (As := [.int 3, .int a1, .int x3_105, .int a2, .int x4_105.toInt32]) (rest := []) hF (fun l D cy => (ct_token a r hcap w6) l D cy) (Nat.le_of_ble_eq_true rfl) mV_X14_token m_2194 (recv_ob obM_0) rfl rfl (Nat.le_of_ble_eq_true rfl) d_X14_numberEnd_173 (kV (fun s173 t173 z173 w7 => ?_)) (fun _ _ _ h => h.elim)
            refine g_iload_n hF d_X14_numberEnd_176 rfl 3 rfl ?_
            exact g_iret hF rfl d_X14_numberEnd_177 ⟨x3_105, rfl, w7⟩
          · have w8 := w5.2 c
            refine g_aload_n hF d_X14_numberEnd_159 rfl 0 rfl ?_
            refine g_iload_n hF d_X14_numberEnd_160 rfl 1 rfl ?_
            refine g_callV (As := [.int a1]) (rest := []) hF (fun l D cy => (ct_bad a r hcap w8) l D cy) (Nat.le_of_ble_eq_true rfl) mV_X14_bad m_2202 (recv_ob obM_0) rfl rfl (Nat.le_of_ble_eq_true rfl) d_X14_numberEnd_161 (kI (fun v161 s161 t161 z161 w9 => ?_)) (fun _ _ _ h => h.elim)
            exact g_iret hF rfl d_X14_numberEnd_164 ⟨v161, rfl, w9⟩
        · have w10 := w4.2 c
          refine g_lload hF d_X14_numberEnd_116 4 rfl ?_
          refine g_ldc2 hF (v := 2147483647) m_2241 d_X14_numberEnd_118 ?_
          refine g_lcmp hF d_X14_numberEnd_121 ?_
          obtain ⟨J144, h144, w11⟩ := w10
          have b144 : ∀ (x4_144 : Int64), J144 x4_144 → G SM r X σ τ vs [(0, .ref (r 0)), (1, .int a1), (2, .int a2), (3, .int x3_105), (4, .long x4_144)] [] 144 := by
            intro x4_144  w144_
            have w144_ := h144 x4_144  w144_
            refine g_iinc hF (x3_105 + 1) [(3, .int (x3_105 + 1)), (0, .ref (r 0)), (1, .int a1), (2, .int a2), (4, .long x4_144)] d_X14_numberEnd_144 3 rfl rfl hnn (by decide) rfl ?_
            refine g_goto hF 105 d_X14_numberEnd_147 (by decide) ?_
            obtain ⟨m105, hm105, w9⟩ := w144_
            exact g_sub (L' := [(0, .ref (r 0)), (1, .int a1), (2, .int a2), (3, .int (x3_105 + 1)), (4, .long x4_144)]) [1, 2, 3, 0, 4] rfl (ih105 m105 hm105 (x3_105 + 1) x4_144 w9)
          refine g_if_gt hF 144 d_X14_numberEnd_122 (by decide) rfl (fun c => ?_) (fun c => ?_)
          · have w12 := w11.1 c
            exact b144 x4_105 w12
          · have w13 := w11.2 c
            refine g_ldc2 hF (v := 10) m_2242 d_X14_numberEnd_125 ?_
            refine g_lload hF d_X14_numberEnd_128 4 rfl ?_
            refine g_lmul hF d_X14_numberEnd_130 ?_
            refine g_aload_n hF d_X14_numberEnd_131 rfl 0 rfl ?_
            refine g_iload_n hF d_X14_numberEnd_132 rfl 3 rfl ?_
            refine g_callV (As := [.int x3_105]) (rest := [.long ((10 : Int64) * x4_105)]) hF (fun l D cy => (ct_look a r hcap w13) l D cy) (Nat.le_of_ble_eq_true rfl) mV_X14_look m_2187 (recv_ob obM_0) rfl rfl (Nat.le_of_ble_eq_true rfl) d_X14_numberEnd_133 (krI (fun v133 w14 => ?_)) (fun _ _ _ h => h.elim)
            refine g_i2l hF d_X14_numberEnd_136 ?_
            refine g_ladd hF d_X14_numberEnd_137 ?_
            refine g_ldc2 hF (v := 48) m_2243 d_X14_numberEnd_138 ?_
            refine g_lsub hF d_X14_numberEnd_141 ?_
            refine g_lstore hF [(4, .long ((((10 : Int64) * x4_105) + v133.toInt64) - (48 : Int64))), (0, .ref (r 0)), (1, .int a1), (2, .int a2), (3, .int x3_105)] d_X14_numberEnd_142 hnn (by decide) rfl ?_
            exact g_sub (L' := [(0, .ref (r 0)), (1, .int a1), (2, .int a2), (3, .int x3_105), (4, .long ((((10 : Int64) * x4_105) + v133.toInt64) - (48 : Int64)))]) [1, 2, 3, 4, 0] rfl (b144 ((((10 : Int64) * x4_105) + v133.toInt64) - (48 : Int64)) w14)
    exact g_sub (L' := [(0, .ref (r 0)), (1, .int a1), (2, .int a2), (3, .int a1), (4, .long 0)]) [2, 3, 4, 1, 0] rfl (b105 i105 a1 (0 : Int64) u105)
  refine g_icmp_ne (yv := 48) hF 100 d_X14_numberEnd_7 (by decide) rfl (by decide) (fun c => ?_) (fun c => ?_)
  · have w15 := w2.1 c
    exact b100  w15
  · have w16 := w2.2 c
    refine g_aload_n hF d_X14_numberEnd_10 rfl 0 rfl ?_
    refine g_iload_n hF d_X14_numberEnd_11 rfl 1 rfl ?_
    refine g_iconst hF (v := 1) d_X14_numberEnd_12 (by decide) ?_
    refine g_iadd hF d_X14_numberEnd_13 ?_
    refine g_callV (As := [.int (a1 + (1 : Int32))]) (rest := []) hF (fun l D cy => (ct_look a r hcap w16) l D cy) (Nat.le_of_ble_eq_true rfl) mV_X14_look m_2187 (recv_ob obM_0) rfl rfl (Nat.le_of_ble_eq_true rfl) d_X14_numberEnd_14 (krI (fun v14 w17 => ?_)) (fun _ _ _ h => h.elim)
    refine g_bipush hF (v := 120) d_X14_numberEnd_17 (by decide) ?_
    refine g_icmp_ne (yv := 120) hF 100 d_X14_numberEnd_19 (by decide) rfl (by decide) (fun c => ?_) (fun c => ?_)
    · have w18 := w17.1 c
      exact b100  w18
    · have w19 := w17.2 c
      refine g_aload_n hF d_X14_numberEnd_22 rfl 0 rfl ?_
      refine g_iload_n hF d_X14_numberEnd_23 rfl 1 rfl ?_
      refine g_iconst hF (v := 2) d_X14_numberEnd_24 (by decide) ?_
      refine g_iadd hF d_X14_numberEnd_25 ?_
      refine g_callV (As := [.int (a1 + (2 : Int32))]) (rest := []) hF (fun l D cy => (ct_look a r hcap w19) l D cy) (Nat.le_of_ble_eq_true rfl) mV_X14_look m_2187 (recv_ob obM_0) rfl rfl (Nat.le_of_ble_eq_true rfl) d_X14_numberEnd_26 (krI (fun v26 w20 => ?_)) (fun _ _ _ h => h.elim)
      refine g_callS (As := [.int v26]) (rest := []) hF (fun l D cy => (ct_sixteen a r hcap w20) l D cy) (Nat.le_of_ble_eq_true rfl) mS_X14_sixteen m_2238 rfl rfl (Nat.le_of_ble_eq_true rfl) d_X14_numberEnd_29 (krI (fun v29 w21 => ?_)) (fun _ _ _ h => h.elim)
      refine g_if_lt hF 100 d_X14_numberEnd_32 (by decide) rfl (fun c => ?_) (fun c => ?_)
      · have w22 := w21.1 c
        exact b100  w22
      · have w23 := w21.2 c
        refine g_iload_n hF d_X14_numberEnd_35 rfl 1 rfl ?_
        refine g_iconst hF (v := 2) d_X14_numberEnd_36 (by decide) ?_
        refine g_iadd hF d_X14_numberEnd_37 ?_
        refine g_istore_n hF [(3, .int (a1 + (2 : Int32))), (0, .ref (r 0)), (1, .int a1), (2, .int a2)] d_X14_numberEnd_38 rfl hnn (by decide) rfl ?_
        refine g_iconst hF (v := 0) d_X14_numberEnd_39 (by decide) ?_
        refine g_istore hF [(4, .int 0), (3, .int (a1 + (2 : Int32))), (0, .ref (r 0)), (1, .int a1), (2, .int a2)] d_X14_numberEnd_40 hnn (by decide) rfl ?_
        obtain ⟨L42, ⟨i42, u42⟩, h42⟩ := w23
        have b42 : ∀ (n42 : Nat) (x3_42 : Int32) (x4_42 : Int32), L42 n42 x3_42 x4_42 → G SM r X σ τ vs [(0, .ref (r 0)), (1, .int a1), (2, .int a2), (3, .int x3_42), (4, .int x4_42)] [] 42 := by
          intro n42
          induction n42 using Nat.strongRecOn with
          | _ n42 ih42 =>
            intro x3_42 x4_42  w42_
            have w42_ := h42 n42 x3_42 x4_42  w42_
            refine g_aload_n hF d_X14_numberEnd_42 rfl 0 rfl ?_
            refine g_iload_n hF d_X14_numberEnd_43 rfl 3 rfl ?_
            refine g_callV (As := [.int x3_42]) (rest := []) hF (fun l D cy => (ct_look a r hcap w42_) l D cy) (Nat.le_of_ble_eq_true rfl) mV_X14_look m_2187 (recv_ob obM_0) rfl rfl (Nat.le_of_ble_eq_true rfl) d_X14_numberEnd_44 (krI (fun v44 w24 => ?_)) (fun _ _ _ h => h.elim)
            refine g_callS (As := [.int v44]) (rest := []) hF (fun l D cy => (ct_sixteen a r hcap w24) l D cy) (Nat.le_of_ble_eq_true rfl) mS_X14_sixteen m_2238 rfl rfl (Nat.le_of_ble_eq_true rfl) d_X14_numberEnd_47 (krI (fun v47 w25 => ?_)) (fun _ _ _ h => h.elim)
            refine g_if_lt hF 74 d_X14_numberEnd_50 (by decide) rfl (fun c => ?_) (fun c => ?_)
            · have w26 := w25.1 c
              refine g_iload_n hF d_X14_numberEnd_74 rfl 3 rfl ?_
              refine g_iload_n hF d_X14_numberEnd_75 rfl 1 rfl ?_
              refine g_isub hF d_X14_numberEnd_76 ?_
              refine g_bipush hF (v := 10) d_X14_numberEnd_77 (by decide) ?_
              refine g_icmp_le (yv := 10) hF 88 d_X14_numberEnd_79 (by decide) rfl (by decide) (fun c => ?_) (fun c => ?_)
              · have w27 := w26.1 c
                refine g_aload_n hF d_X14_numberEnd_88 rfl 0 rfl ?_
                refine g_iconst hF (v := 3) d_X14_numberEnd_89 (by decide) ?_
                refine g_iload_n hF d_X14_numberEnd_90 rfl 1 rfl ?_
                refine g_iload_n hF d_X14_numberEnd_91 rfl 3 rfl ?_
                refine g_iload_n hF d_X14_numberEnd_92 rfl 2 rfl ?_
                refine g_iload hF d_X14_numberEnd_93 4 rfl ?_
                refine g_callV (As := [.int 3, .int a1, .int x3_42, .int a2, .int x4_42]) (rest := []) hF (fun l D cy => (ct_token a r hcap w27) l D cy) (Nat.le_of_ble_eq_true rfl) mV_X14_token m_2194 (recv_ob obM_0) rfl rfl (Nat.le_of_ble_eq_true rfl) d_X14_numberEnd_95 (kV (fun s95 t95 z95 w28 => ?_)) (fun _ _ _ h => h.elim)
                refine g_iload_n hF d_X14_numberEnd_98 rfl 3 rfl ?_
                exact g_iret hF rfl d_X14_numberEnd_99 ⟨x3_42, rfl, w28⟩
              · have w29 := w26.2 c
                refine g_aload_n hF d_X14_numberEnd_82 rfl 0 rfl ?_
                refine g_iload_n hF d_X14_numberEnd_83 rfl 1 rfl ?_
                refine g_callV (As := [.int a1]) (rest := []) hF (fun l D cy => (ct_bad a r hcap w29) l D cy) (Nat.le_of_ble_eq_true rfl) mV_X14_bad m_2202 (recv_ob obM_0) rfl rfl (Nat.le_of_ble_eq_true rfl) d_X14_numberEnd_84 (kI (fun v84 s84 t84 z84 w30 => ?_)) (fun _ _ _ h => h.elim)
                exact g_iret hF rfl d_X14_numberEnd_87 ⟨v84, rfl, w30⟩
            · have w31 := w25.2 c
              refine g_iload hF d_X14_numberEnd_53 4 rfl ?_
              refine g_iconst hF (v := 4) d_X14_numberEnd_55 (by decide) ?_
              refine g_ishl hF d_X14_numberEnd_56 ?_
              refine g_aload_n hF d_X14_numberEnd_57 rfl 0 rfl ?_
              refine g_iload_n hF d_X14_numberEnd_58 rfl 3 rfl ?_
              refine g_callV (As := [.int x3_42]) (rest := [.int (x4_42 <<< ((4 : Int32) &&& 31))]) hF (fun l D cy => (ct_look a r hcap w31) l D cy) (Nat.le_of_ble_eq_true rfl) mV_X14_look m_2187 (recv_ob obM_0) rfl rfl (Nat.le_of_ble_eq_true rfl) d_X14_numberEnd_59 (krI (fun v59 w32 => ?_)) (fun _ _ _ h => h.elim)
              refine g_callS (As := [.int v59]) (rest := [.int (x4_42 <<< ((4 : Int32) &&& 31))]) hF (fun l D cy => (ct_sixteen a r hcap w32) l D cy) (Nat.le_of_ble_eq_true rfl) mS_X14_sixteen m_2238 rfl rfl (Nat.le_of_ble_eq_true rfl) d_X14_numberEnd_62 (krI (fun v62 w33 => ?_)) (fun _ _ _ h => h.elim)
              refine g_ior hF d_X14_numberEnd_65 ?_
              refine g_istore hF [(4, .int ((x4_42 <<< ((4 : Int32) &&& 31)) ||| v62)), (0, .ref (r 0)), (1, .int a1), (2, .int a2), (3, .int x3_42)] d_X14_numberEnd_66 hnn (by decide) rfl ?_
              refine g_iinc hF (x3_42 + 1) [(3, .int (x3_42 + 1)), (4, .int ((x4_42 <<< ((4 : Int32) &&& 31)) ||| v62)), (0, .ref (r 0)), (1, .int a1), (2, .int a2)] d_X14_numberEnd_68 4 rfl rfl hnn (by decide) rfl ?_
              refine g_goto hF 42 d_X14_numberEnd_71 (by decide) ?_
              obtain ⟨m42, hm42, w9⟩ := w33
              exact g_sub (L' := [(0, .ref (r 0)), (1, .int a1), (2, .int a2), (3, .int (x3_42 + 1)), (4, .int ((x4_42 <<< ((4 : Int32) &&& 31)) ||| v62))]) [2, 3, 4, 0, 1] rfl (ih42 m42 hm42 (x3_42 + 1) ((x4_42 <<< ((4 : Int32) &&& 31)) ||| v62) w9)
        exact g_sub (L' := [(0, .ref (r 0)), (1, .int a1), (2, .int a2), (3, .int (a1 + (2 : Int32))), (4, .int 0)]) [2, 3, 4, 1, 0] rfl (b42 i42 (a1 + (2 : Int32)) (0 : Int32) u42)
def wp_codeEnd (a1 : Int32) (a2 : Int32) (σ τ : St) (vs : List Nat) (Q : Int32 → St → St → List Nat → Prop) : Prop :=
  wp_code (a1 + (1 : Int32)) (39 : Int32) σ τ vs (fun v6 => wp_look (a1 + (1 : Int32)) σ τ vs (fun v15 => (∃ J28 : Int32 → Prop, (∀ (y1_28 : Int32), J28 y1_28 → ((∃ J46 : Prop, (J46  → (wp_bad a1 σ τ vs (fun v48 s48 t48 z48 => Q v48 s48 t48 z48))) ∧ (v6.toInt < 0 → J46) ∧ (0 ≤ v6.toInt → wp_look (a1 + y1_28) σ τ vs (fun v38 => (v38.toInt = 39 → wp_token (3 : Int32) a1 ((a1 + y1_28) + (1 : Int32)) a2 v6 σ τ vs (fun s61 t61 z61 => Q ((a1 + y1_28) + (1 : Int32)) s61 t61 z61)) ∧ (v38.toInt ≠ 39 → J46)))))) ∧ (v15.toInt ≠ 92 → J28 (2 : Int32)) ∧ (v15.toInt = 92 → J28 (3 : Int32)))))
set_option maxHeartbeats 4000000 in
set_option maxRecDepth 100000 in
theorem ct_codeEnd (a : Nat → Nat) (r : Nat → Nat) {a1 : Int32} {a2 : Int32} {σ τ : St} {vs : List Nat} {Q : Int32 → St → St → List Nat → Prop} (hcap : vs.length ≤ CAP) (w : wp_codeEnd a1 a2 σ τ vs Q) (l : Launch) (D : va_G) (cy : Nat → ClassId) : Ct l D cy SM r (EM a) y_X14_codeEnd (Cond.code y_X14_codeEnd b_X14_codeEnd 5 (some .int)) 2 [.ref (r 0), .int a1, .int a2] σ τ vs (QIs Q) QT0 := by
  unfold wp_codeEnd at w
  refine Ct_of (EM_ok a) (by decide) (Nat.le_of_ble_eq_true rfl) hcap (fun X hnn hF => ?_)
  show G SM r X σ τ vs [(0, .ref (r 0)), (1, .int a1), (2, .int a2)] [] 0
  refine g_aload_n hF d_X14_codeEnd_0 rfl 0 rfl ?_
  refine g_iload_n hF d_X14_codeEnd_1 rfl 1 rfl ?_
  refine g_iconst hF (v := 1) d_X14_codeEnd_2 (by decide) ?_
  refine g_iadd hF d_X14_codeEnd_3 ?_
  refine g_bipush hF (v := 39) d_X14_codeEnd_4 (by decide) ?_
  refine g_callV (As := [.int (a1 + (1 : Int32)), .int 39]) (rest := []) hF (fun l D cy => (ct_code a r hcap w) l D cy) (Nat.le_of_ble_eq_true rfl) mV_X14_code m_2248 (recv_ob obM_0) rfl rfl (Nat.le_of_ble_eq_true rfl) d_X14_codeEnd_6 (krI (fun v6 w1 => ?_)) (fun _ _ _ h => h.elim)
  refine g_istore_n hF [(3, .int v6), (0, .ref (r 0)), (1, .int a1), (2, .int a2)] d_X14_codeEnd_9 rfl hnn (by decide) rfl ?_
  refine g_iload_n hF d_X14_codeEnd_10 rfl 2 rfl ?_
  refine g_aload_n hF d_X14_codeEnd_11 rfl 1 rfl ?_
  refine g_iload_n hF d_X14_codeEnd_12 rfl 2 rfl ?_
  refine g_iconst hF (v := 1) d_X14_codeEnd_13 (by decide) ?_
  refine g_iadd hF d_X14_codeEnd_14 ?_
  refine g_callV (As := [.int (a1 + (1 : Int32))]) (rest := [.int a1]) hF (fun l D cy => (ct_look a r hcap w1) l D cy) (Nat.le_of_ble_eq_true rfl) mV_X14_look m_2187 (recv_ob obM_0) rfl rfl (Nat.le_of_ble_eq_true rfl) d_X14_codeEnd_15 (krI (fun v15 w2 => ?_)) (fun _ _ _ h => h.elim)
  refine g_bipush hF (v := 92) d_X14_codeEnd_18 (by decide) ?_
  obtain ⟨J28, h28, w3⟩ := w2
  have b28 : ∀ (y1_28 : Int32), J28 y1_28 → G SM r X σ τ vs [(0, .ref (r 0)), (1, .int a1), (2, .int a2), (3, .int v6)] [.int y1_28, .int a1] 28 := by
    intro y1_28  w28_
    have w28_ := h28 y1_28  w28_
    refine g_iadd hF d_X14_codeEnd_28 ?_
    refine g_istore hF [(4, .int (a1 + y1_28)), (0, .ref (r 0)), (1, .int a1), (2, .int a2), (3, .int v6)] d_X14_codeEnd_29 hnn (by decide) rfl ?_
    refine g_iload_n hF d_X14_codeEnd_31 rfl 4 rfl ?_
    obtain ⟨J46, h46, w4⟩ := w28_
    have b46 : J46  → G SM r X σ τ vs [(0, .ref (r 0)), (1, .int a1)] [] 46 := by
      intro   w46_
      have w46_ := h46   w46_
      refine g_aload_n hF d_X14_codeEnd_46 rfl 0 rfl ?_
      refine g_iload_n hF d_X14_codeEnd_47 rfl 1 rfl ?_
      refine g_callV (As := [.int a1]) (rest := []) hF (fun l D cy => (ct_bad a r hcap w46_) l D cy) (Nat.le_of_ble_eq_true rfl) mV_X14_bad m_2202 (recv_ob obM_0) rfl rfl (Nat.le_of_ble_eq_true rfl) d_X14_codeEnd_48 (kI (fun v48 s48 t48 z48 w5 => ?_)) (fun _ _ _ h => h.elim)
      exact g_iret hF rfl d_X14_codeEnd_51 ⟨v48, rfl, w5⟩
    refine g_if_lt hF 46 d_X14_codeEnd_32 (by decide) rfl (fun c => ?_) (fun c => ?_)
    · have w6 := w4.1 c
      exact g_sub (L' := [(0, .ref (r 0)), (1, .int a1)]) [1, 2] rfl (b46  w6)
    · have w7 := w4.2 c
      refine g_aload_n hF d_X14_codeEnd_35 rfl 1 rfl ?_
      refine g_iload hF d_X14_codeEnd_36 0 rfl ?_
      refine g_callV (As := [.int (a1 + y1_28)]) (rest := []) hF (fun l D cy => (ct_look a r hcap w7) l D cy) (Nat.le_of_ble_eq_true rfl) mV_X14_look m_2187 (recv_ob obM_0) rfl rfl (Nat.le_of_ble_eq_true rfl) d_X14_codeEnd_38 (krI (fun v38 w8 => ?_)) (fun _ _ _ h => h.elim)
      refine g_bipush hF (v := 39) d_X14_codeEnd_41 (by decide) ?_
      refine g_icmp_eq (yv := 39) hF 52 d_X14_codeEnd_43 (by decide) rfl (by decide) (fun c => ?_) (fun c => ?_)
      · have w9 := w8.1 c
        refine g_aload_n hF d_X14_codeEnd_52 rfl 1 rfl ?_
        refine g_iconst hF (v := 3) d_X14_codeEnd_53 (by decide) ?_
        refine g_iload_n hF d_X14_codeEnd_54 rfl 2 rfl ?_
        refine g_iload hF d_X14_codeEnd_55 0 rfl ?_
        refine g_iconst hF (v := 1) d_X14_codeEnd_57 (by decide) ?_
        refine g_iadd hF d_X14_codeEnd_58 ?_
        refine g_iload_n hF d_X14_codeEnd_59 rfl 3 rfl ?_
        refine g_iload_n hF d_X14_codeEnd_60 rfl 4 rfl ?_
        refine g_callV (As := [.int 3, .int a1, .int ((a1 + y1_28) + (1 : Int32)), .int a2, .int v6]) (rest := []) hF (fun l D cy => (ct_token a r hcap w9) l D cy) (Nat.le_of_ble_eq_true rfl) mV_X14_token m_2194 (recv_ob obM_0) rfl rfl (Nat.le_of_ble_eq_true rfl) d_X14_codeEnd_61 (kV (fun s61 t61 z61 w10 => ?_)) (fun _ _ _ h => h.elim)
        refine g_iload hF d_X14_codeEnd_64 0 rfl ?_
        refine g_iconst hF (v := 1) d_X14_codeEnd_66 (by decide) ?_
        refine g_iadd hF d_X14_codeEnd_67 ?_
        exact g_iret hF rfl d_X14_codeEnd_68 ⟨((a1 + y1_28) + (1 : Int32)), rfl, w10⟩
      · have w11 := w8.2 c
        exact g_sub (L' := [(0, .ref (r 0)), (1, .int a1)]) [1, 2] rfl (b46  w11)
  refine g_icmp_ne (yv := 92) hF 27 d_X14_codeEnd_20 (by decide) rfl (by decide) (fun c => ?_) (fun c => ?_)
  · have w12 := w3.1 c
    refine g_iconst hF (v := 2) d_X14_codeEnd_27 (by decide) ?_
    exact g_sub (L' := [(0, .ref (r 0)), (1, .int a1), (2, .int a2), (3, .int v6)]) [1, 2, 3, 0] rfl (b28 (2 : Int32) w12)
  · have w13 := w3.2 c
    refine g_iconst hF (v := 3) d_X14_codeEnd_23 (by decide) ?_
    refine g_goto hF 28 d_X14_codeEnd_24 (by decide) ?_
    exact g_sub (L' := [(0, .ref (r 0)), (1, .int a1), (2, .int a2), (3, .int v6)]) [1, 2, 3, 0] rfl (b28 (3 : Int32) w13)
def wp_wrong (σ τ : St) (vs : List Nat) (Q : St → St → List Nat → Prop) : Prop :=
  wp_wrongAt (σ 0 10) σ τ vs (fun s5 t5 z5 => Q s5 t5 z5)
set_option maxHeartbeats 4000000 in
set_option maxRecDepth 100000 in
theorem ct_wrong (a : Nat → Nat) (r : Nat → Nat) {σ τ : St} {vs : List Nat} {Q : St → St → List Nat → Prop} (hcap : vs.length ≤ CAP) (w : wp_wrong  σ τ vs Q) (l : Launch) (D : va_G) (cy : Nat → ClassId) : Ct l D cy SM r (EM a) y_X14_wrong (Cond.code y_X14_wrong b_X14_wrong 1 (some (.object "java/lang/IllegalStateException"))) 1 [.ref (r 0)] σ τ vs (QXs r Q) QT0 := by
  unfold wp_wrong at w
  refine Ct_of (EM_ok a) (by decide) (Nat.le_of_ble_eq_true rfl) hcap (fun X hnn hF => ?_)
  show G SM r X σ τ vs [(0, .ref (r 0))] [] 0
  refine g_aload_n hF d_X14_wrong_0 rfl 0 rfl ?_
  refine g_aload_n hF d_X14_wrong_1 rfl 0 rfl ?_
  refine g_get (v := .int (σ 0 10)) hF 10 obM_0 (by decide) m_1875 rfl d_X14_wrong_2 ?_
  refine g_callV (As := [.int (σ 0 10)]) (rest := []) hF (fun l D cy => (ct_wrongAt a r hcap w) l D cy) (Nat.le_of_ble_eq_true rfl) mV_X14_wrongAt m_2265 (recv_ob obM_0) rfl rfl (Nat.le_of_ble_eq_true rfl) d_X14_wrong_5 (kX (fun s5 t5 z5 w1 => ?_)) (fun _ _ _ h => h.elim)
  exact g_aret hF rfl d_X14_wrong_8 ⟨rfl, w1⟩
def wp_expect (a1 : Int32) (σ τ : St) (vs : List Nat) (Q : St → St → List Nat → Prop) (T : St → St → List Nat → Prop) : Prop :=
  wp_is a1 σ τ vs (fun v2 => (v2.toInt ≠ 0 → Q (upC σ 0 10 ((σ 0 10) + (1 : Int32))) τ vs) ∧ (v2.toInt = 0 → wp_wrong σ τ vs (fun s9 t9 z9 => T s9 t9 z9)))
set_option maxHeartbeats 4000000 in
set_option maxRecDepth 100000 in
theorem ct_expect (a : Nat → Nat) (r : Nat → Nat) {a1 : Int32} {σ τ : St} {vs : List Nat} {Q : St → St → List Nat → Prop} {T : St → St → List Nat → Prop} (hcap : vs.length ≤ CAP) (w : wp_expect a1 σ τ vs Q T) (l : Launch) (D : va_G) (cy : Nat → ClassId) : Ct l D cy SM r (EM a) y_X14_expect (Cond.code y_X14_expect b_X14_expect 2 none) 2 [.ref (r 0), .int a1] σ τ vs (QVs Q) T := by
  unfold wp_expect at w
  refine Ct_of (EM_ok a) (by decide) (Nat.le_of_ble_eq_true rfl) hcap (fun X hnn hF => ?_)
  show G SM r X σ τ vs [(0, .ref (r 0)), (1, .int a1)] [] 0
  refine g_aload_n hF d_X14_expect_0 rfl 0 rfl ?_
  refine g_iload_n hF d_X14_expect_1 rfl 1 rfl ?_
  refine g_callV (As := [.int a1]) (rest := []) hF (fun l D cy => (ct_is a r hcap w) l D cy) (Nat.le_of_ble_eq_true rfl) mV_X14_is m_2289 (recv_ob obM_0) rfl rfl (Nat.le_of_ble_eq_true rfl) d_X14_expect_2 (krZ (fun v2 hz2 w1 => ?_)) (fun _ _ _ h => h.elim)
  refine g_if_ne hF 13 d_X14_expect_5 (by decide) rfl (fun c => ?_) (fun c => ?_)
  · have w2 := w1.1 c
    refine g_aload_n hF d_X14_expect_13 rfl 0 rfl ?_
    refine g_dup hF d_X14_expect_14 rfl ?_
    refine g_get (v := .int (σ 0 10)) hF 10 obM_0 (by decide) m_1875 rfl d_X14_expect_15 ?_
    refine g_iconst hF (v := 1) d_X14_expect_18 (by decide) ?_
    refine g_iadd hF d_X14_expect_19 ?_
    refine g_put (v := ((σ 0 10) + (1 : Int32))) hF 10 obM_0 (by decide) m_1875 rfl rfl rfl d_X14_expect_20 ?_
    exact g_vret hF rfl d_X14_expect_23 ⟨rfl, w2⟩
  · have w3 := w1.2 c
    refine g_aload_n hF d_X14_expect_8 rfl 0 rfl ?_
    refine g_callV (As := []) (rest := []) hF (fun l D cy => (ct_wrong a r hcap w3) l D cy) (Nat.le_of_ble_eq_true rfl) mV_X14_wrong m_2261 (recv_ob obM_0) rfl rfl (Nat.le_of_ble_eq_true rfl) d_X14_expect_9 (kX (fun s9 t9 z9 w4 => ?_)) (fun _ _ _ h => h.elim)
    exact g_athrow hF d_X14_expect_12 (g_out hF stopM rfl w4)
def wp_stars (σ τ : St) (vs : List Nat) (Q : Int32 → St → St → List Nat → Prop) (T : St → St → List Nat → Prop) : Prop :=
  ∃ L2 : Nat → Int32 → St → St → List Nat → Prop, (∃ n, L2 n (0 : Int32) σ τ vs) ∧ ∀ (n2 : Nat) (x1_2 : Int32) (s2 t2 : St) (z2 : List Nat), L2 n2 x1_2 s2 t2 z2 → (wp_is (38 : Int32) s2 t2 z2 (fun v5 => (v5.toInt = 0 → Q x1_2 s2 t2 z2) ∧ (v5.toInt ≠ 0 → (x1_2.toInt ≠ 5 → ∃ m, m < n2 ∧ L2 m (x1_2 + 1) (upC s2 0 10 ((s2 0 10) + (1 : Int32))) t2 z2) ∧ (x1_2.toInt = 5 → wp_wrong s2 t2 z2 (fun s17 t17 z17 => T s17 t17 z17)))))
set_option maxHeartbeats 4000000 in
set_option maxRecDepth 100000 in
theorem ct_stars (a : Nat → Nat) (r : Nat → Nat) {σ τ : St} {vs : List Nat} {Q : Int32 → St → St → List Nat → Prop} {T : St → St → List Nat → Prop} (hcap : vs.length ≤ CAP) (w : wp_stars  σ τ vs Q T) (l : Launch) (D : va_G) (cy : Nat → ClassId) : Ct l D cy SM r (EM a) y_X14_stars (Cond.code y_X14_stars b_X14_stars 2 (some .int)) 2 [.ref (r 0)] σ τ vs (QIs Q) T := by
  unfold wp_stars at w
  refine Ct_of (EM_ok a) (by decide) (Nat.le_of_ble_eq_true rfl) hcap (fun X hnn hF => ?_)
  show G SM r X σ τ vs [(0, .ref (r 0))] [] 0
  refine g_iconst hF (v := 0) d_X14_stars_0 (by decide) ?_
  refine g_istore_n hF [(1, .int 0), (0, .ref (r 0))] d_X14_stars_1 rfl hnn (by decide) rfl ?_
  obtain ⟨L2, ⟨i2, u2⟩, h2⟩ := w
  have b2 : ∀ (n2 : Nat) (x1_2 : Int32) (s2 t2 : St) (z2 : List Nat), L2 n2 x1_2 s2 t2 z2 → G SM r X s2 t2 z2 [(0, .ref (r 0)), (1, .int x1_2)] [] 2 := by
    intro n2
    induction n2 using Nat.strongRecOn with
    | _ n2 ih2 =>
      intro x1_2 s2 t2 z2  w2_
      have w2_ := h2 n2 x1_2 s2 t2 z2  w2_
      refine g_aload_n hF d_X14_stars_2 rfl 0 rfl ?_
      refine g_bipush hF (v := 38) d_X14_stars_3 (by decide) ?_
      refine g_cap (fun hc0 => ?_)
      refine g_callV (As := [.int 38]) (rest := []) hF (fun l D cy => (ct_is a r hc0 w2_) l D cy) (Nat.le_of_ble_eq_true rfl) mV_X14_is m_2289 (recv_ob obM_0) rfl rfl (Nat.le_of_ble_eq_true rfl) d_X14_stars_5 (krZ (fun v5 hz5 w2 => ?_)) (fun _ _ _ h => h.elim)
      refine g_if_eq hF 37 d_X14_stars_8 (by decide) rfl (fun c => ?_) (fun c => ?_)
      · have w3 := w2.1 c
        refine g_iload_n hF d_X14_stars_37 rfl 1 rfl ?_
        exact g_iret hF rfl d_X14_stars_38 ⟨x1_2, rfl, w3⟩
      · have w4 := w2.2 c
        refine g_iload_n hF d_X14_stars_11 rfl 1 rfl ?_
        refine g_iconst hF (v := 5) d_X14_stars_12 (by decide) ?_
        refine g_icmp_ne (yv := 5) hF 21 d_X14_stars_13 (by decide) rfl (by decide) (fun c => ?_) (fun c => ?_)
        · have w5 := w4.1 c
          refine g_iinc hF (x1_2 + 1) [(1, .int (x1_2 + 1)), (0, .ref (r 0))] d_X14_stars_21 1 rfl rfl hnn (by decide) rfl ?_
          refine g_aload_n hF d_X14_stars_24 rfl 1 rfl ?_
          refine g_dup hF d_X14_stars_25 rfl ?_
          refine g_get (v := .int (s2 0 10)) hF 10 obM_0 (by decide) m_1875 rfl d_X14_stars_26 ?_
          refine g_iconst hF (v := 1) d_X14_stars_29 (by decide) ?_
          refine g_iadd hF d_X14_stars_30 ?_
          refine g_put (v := ((s2 0 10) + (1 : Int32))) hF 10 obM_0 (by decide) m_1875 rfl rfl rfl d_X14_stars_31 ?_
          refine g_goto hF 2 d_X14_stars_34 (by decide) ?_
          obtain ⟨m2, hm2, w9⟩ := w5
          exact g_sub (L' := [(0, .ref (r 0)), (1, .int (x1_2 + 1))]) [1, 0] rfl (ih2 m2 hm2 (x1_2 + 1) (upC s2 0 10 ((s2 0 10) + (1 : Int32))) t2 z2 w9)
        · have w6 := w4.2 c
          refine g_aload_n hF d_X14_stars_16 rfl 0 rfl ?_
          refine g_callV (As := []) (rest := []) hF (fun l D cy => (ct_wrong a r hc0 w6) l D cy) (Nat.le_of_ble_eq_true rfl) mV_X14_wrong m_2261 (recv_ob obM_0) rfl rfl (Nat.le_of_ble_eq_true rfl) d_X14_stars_17 (kX (fun s17 t17 z17 w7 => ?_)) (fun _ _ _ h => h.elim)
          exact g_athrow hF d_X14_stars_20 (g_out hF stopM rfl w7)
  exact g_sub (L' := [(0, .ref (r 0)), (1, .int 0)]) [1, 0] rfl (b2 i2 (0 : Int32) σ τ vs u2)
def wp_entity (a1 : Int32) (σ τ : St) (vs : List Nat) (Q : Int32 → Prop) : Prop :=
  ((0 ≤ (σ 0 35).toInt ∧ (σ 0 35).toInt < 102) ∧ ∃ L10 : Nat → Int32 → Prop, (∃ n, L10 n (σ 22 (σ 0 35).toNatClampNeg)) ∧ ∀ (n10 : Nat) (x2_10 : Int32), L10 n10 x2_10 → (((σ 0 36).toInt ≤ x2_10.toInt → Q ((-1) : Int32)) ∧ (x2_10.toInt < (σ 0 36).toInt → wp_isNamed x2_10 a1 σ τ vs (fun v21 => (v21.toInt = 0 → ∃ m, m < n10 ∧ L10 m (x2_10 + 1)) ∧ (v21.toInt ≠ 0 → Q x2_10)))))
set_option maxHeartbeats 4000000 in
set_option maxRecDepth 100000 in
theorem ct_entity (a : Nat → Nat) (r : Nat → Nat) {a1 : Int32} {σ τ : St} {vs : List Nat} {Q : Int32 → Prop} (hcap : vs.length ≤ CAP) (w : wp_entity a1 σ τ vs Q) (l : Launch) (D : va_G) (cy : Nat → ClassId) : Ct l D cy SM r (EM a) y_X14_entity (Cond.code y_X14_entity b_X14_entity 3 (some .int)) 1 [.ref (r 0), .int a1] σ τ vs (QIr σ τ vs Q) QT0 := by
  unfold wp_entity at w
  refine Ct_of (EM_ok a) (by decide) (Nat.le_of_ble_eq_true rfl) hcap (fun X hnn hF => ?_)
  show G SM r X σ τ vs [(0, .ref (r 0)), (1, .int a1)] [] 0
  refine g_aload_n hF d_X14_entity_0 rfl 0 rfl ?_
  refine g_get (v := .ref (r 22)) hF 32 obM_0 (by decide) m_1897 rfl d_X14_entity_1 ?_
  refine g_aload_n hF d_X14_entity_4 rfl 0 rfl ?_
  refine g_get (v := .int (σ 0 35)) hF 35 obM_0 (by decide) m_1900 rfl d_X14_entity_5 ?_
  have w1 := w.2
  refine g_iald hF arM_22 (s_in (Nat.le_of_ble_eq_true rfl) w.1.1 w.1.2) d_X14_entity_8 ?_
  refine g_top (v := (σ 22 (σ 0 35).toNatClampNeg)) rfl ?_
  refine g_istore_n hF [(2, .int (σ 22 (σ 0 35).toNatClampNeg)), (0, .ref (r 0)), (1, .int a1)] d_X14_entity_9 rfl hnn (by decide) rfl ?_
  obtain ⟨L10, ⟨i10, u10⟩, h10⟩ := w1
  have b10 : ∀ (n10 : Nat) (x2_10 : Int32), L10 n10 x2_10 → G SM r X σ τ vs [(0, .ref (r 0)), (1, .int a1), (2, .int x2_10)] [] 10 := by
    intro n10
    induction n10 using Nat.strongRecOn with
    | _ n10 ih10 =>
      intro x2_10  w10_
      have w10_ := h10 n10 x2_10  w10_
      refine g_iload_n hF d_X14_entity_10 rfl 2 rfl ?_
      refine g_aload_n hF d_X14_entity_11 rfl 0 rfl ?_
      refine g_get (v := .int (σ 0 36)) hF 36 obM_0 (by decide) m_1901 rfl d_X14_entity_12 ?_
      refine g_icmp_ge hF 35 d_X14_entity_15 (by decide) rfl rfl (fun c => ?_) (fun c => ?_)
      · have w2 := w10_.1 c
        refine g_iconst hF (v := (-1)) d_X14_entity_35 (by decide) ?_
        exact g_iret hF rfl d_X14_entity_36 ⟨rfl, rfl, rfl, ((-1) : Int32), rfl, w2⟩
      · have w3 := w10_.2 c
        refine g_aload_n hF d_X14_entity_18 rfl 0 rfl ?_
        refine g_iload_n hF d_X14_entity_19 rfl 2 rfl ?_
        refine g_iload_n hF d_X14_entity_20 rfl 1 rfl ?_
        refine g_callV (As := [.int x2_10, .int a1]) (rest := []) hF (fun l D cy => (ct_isNamed a r hcap w3) l D cy) (Nat.le_of_ble_eq_true rfl) mV_X14_isNamed m_2305 (recv_ob obM_0) rfl rfl (Nat.le_of_ble_eq_true rfl) d_X14_entity_21 (krZ (fun v21 hz21 w4 => ?_)) (fun _ _ _ h => h.elim)
        refine g_if_eq hF 29 d_X14_entity_24 (by decide) rfl (fun c => ?_) (fun c => ?_)
        · have w5 := w4.1 c
          refine g_iinc hF (x2_10 + 1) [(2, .int (x2_10 + 1)), (0, .ref (r 0)), (1, .int a1)] d_X14_entity_29 2 rfl rfl hnn (by decide) rfl ?_
          refine g_goto hF 10 d_X14_entity_32 (by decide) ?_
          obtain ⟨m10, hm10, w9⟩ := w5
          exact g_sub (L' := [(0, .ref (r 0)), (1, .int a1), (2, .int (x2_10 + 1))]) [1, 2, 0] rfl (ih10 m10 hm10 (x2_10 + 1) w9)
        · have w6 := w4.2 c
          refine g_iload_n hF d_X14_entity_27 rfl 2 rfl ?_
          exact g_iret hF rfl d_X14_entity_28 ⟨rfl, rfl, rfl, x2_10, rfl, w6⟩
  exact g_sub (L' := [(0, .ref (r 0)), (1, .int a1), (2, .int (σ 22 (σ 0 35).toNatClampNeg))]) [1, 2, 0] rfl (b10 i10 (σ 22 (σ 0 35).toNatClampNeg) u10)
def wp_must (a1 : Int32) (a2 : Int32) (σ τ : St) (vs : List Nat) (Q : St → St → List Nat → Prop) : Prop :=
  (a1.toInt ≠ 0 → Q σ τ vs) ∧ (a1.toInt = 0 → wp_tell (2 : Int32) a2 σ τ vs (fun s7 t7 z7 => Q s7 t7 z7))
set_option maxHeartbeats 4000000 in
set_option maxRecDepth 100000 in
theorem ct_must (a : Nat → Nat) (r : Nat → Nat) {a1 : Int32} {a2 : Int32} {σ τ : St} {vs : List Nat} {Q : St → St → List Nat → Prop} (hcap : vs.length ≤ CAP) (w : wp_must a1 a2 σ τ vs Q) (l : Launch) (D : va_G) (cy : Nat → ClassId) : Ct l D cy SM r (EM a) y_X14_must (Cond.code y_X14_must b_X14_must 3 none) 1 [.ref (r 0), .int a1, .int a2] σ τ vs (QVs Q) QT0 := by
  unfold wp_must at w
  refine Ct_of (EM_ok a) (by decide) (Nat.le_of_ble_eq_true rfl) hcap (fun X hnn hF => ?_)
  show G SM r X σ τ vs [(0, .ref (r 0)), (1, .int a1), (2, .int a2)] [] 0
  refine g_iload_n hF d_X14_must_0 rfl 1 rfl ?_
  refine g_if_ne hF 10 d_X14_must_1 (by decide) rfl (fun c => ?_) (fun c => ?_)
  · have w1 := w.1 c
    exact g_vret hF rfl d_X14_must_10 ⟨rfl, w1⟩
  · have w2 := w.2 c
    refine g_aload_n hF d_X14_must_4 rfl 0 rfl ?_
    refine g_iconst hF (v := 2) d_X14_must_5 (by decide) ?_
    refine g_iload_n hF d_X14_must_6 rfl 2 rfl ?_
    refine g_callV (As := [.int 2, .int a2]) (rest := []) hF (fun l D cy => (ct_tell a r hcap w2) l D cy) (Nat.le_of_ble_eq_true rfl) mV_X14_tell m_2317 (recv_ob obM_0) rfl rfl (Nat.le_of_ble_eq_true rfl) d_X14_must_7 (kV (fun s7 t7 z7 w3 => ?_)) (fun _ _ _ h => h.elim)
    exact g_vret hF rfl d_X14_must_10 ⟨rfl, w3⟩
def wp_isHeldHere (a1 : Int32) (σ τ : St) (vs : List Nat) (Q : Int32 → Prop) : Prop :=
  ∃ L7 : Nat → Int32 → Prop, (∃ n, L7 n ((σ 0 53) - (1 : Int32))) ∧ ∀ (n7 : Nat) (x2_7 : Int32), L7 n7 x2_7 → ((x2_7.toInt < 0 → Q (0 : Int32)) ∧ (0 ≤ x2_7.toInt → ((0 ≤ x2_7.toInt ∧ x2_7.toInt < 100) ∧ ((σ 36 x2_7.toNatClampNeg).toInt ≠ (σ 0 54).toInt → Q (0 : Int32)) ∧ ((σ 36 x2_7.toNatClampNeg).toInt = (σ 0 54).toInt → ((0 ≤ x2_7.toInt ∧ x2_7.toInt < 100) ∧ wp_isSame (σ 34 x2_7.toNatClampNeg) a1 σ τ vs (fun v32 => (v32.toInt = 0 → ∃ m, m < n7 ∧ L7 m (x2_7 + (-1))) ∧ (v32.toInt ≠ 0 → Q (1 : Int32))))))))
set_option maxHeartbeats 4000000 in
set_option maxRecDepth 100000 in
theorem ct_isHeldHere (a : Nat → Nat) (r : Nat → Nat) {a1 : Int32} {σ τ : St} {vs : List Nat} {Q : Int32 → Prop} (hcap : vs.length ≤ CAP) (w : wp_isHeldHere a1 σ τ vs Q) (l : Launch) (D : va_G) (cy : Nat → ClassId) : Ct l D cy SM r (EM a) y_X14_isHeldHere (Cond.code y_X14_isHeldHere b_X14_isHeldHere 3 (some .boolean)) 1 [.ref (r 0), .int a1] σ τ vs (QZr σ τ vs Q) QT0 := by
  unfold wp_isHeldHere at w
  refine Ct_of (EM_ok a) (by decide) (Nat.le_of_ble_eq_true rfl) hcap (fun X hnn hF => ?_)
  show G SM r X σ τ vs [(0, .ref (r 0)), (1, .int a1)] [] 0
  refine g_aload_n hF d_X14_isHeldHere_0 rfl 0 rfl ?_
  refine g_get (v := .int (σ 0 53)) hF 53 obM_0 (by decide) m_1918 rfl d_X14_isHeldHere_1 ?_
  refine g_iconst hF (v := 1) d_X14_isHeldHere_4 (by decide) ?_
  refine g_isub hF d_X14_isHeldHere_5 ?_
  refine g_istore_n hF [(2, .int ((σ 0 53) - (1 : Int32))), (0, .ref (r 0)), (1, .int a1)] d_X14_isHeldHere_6 rfl hnn (by decide) rfl ?_
  obtain ⟨L7, ⟨i7, u7⟩, h7⟩ := w
  have b7 : ∀ (n7 : Nat) (x2_7 : Int32), L7 n7 x2_7 → G SM r X σ τ vs [(0, .ref (r 0)), (1, .int a1), (2, .int x2_7)] [] 7 := by
    intro n7
    induction n7 using Nat.strongRecOn with
    | _ n7 ih7 =>
      intro x2_7  w7_
      have w7_ := h7 n7 x2_7  w7_
      refine g_iload_n hF d_X14_isHeldHere_7 rfl 2 rfl ?_
      refine g_if_lt hF 46 d_X14_isHeldHere_8 (by decide) rfl (fun c => ?_) (fun c => ?_)
      · have w1 := w7_.1 c
        refine g_iconst hF (v := 0) d_X14_isHeldHere_46 (by decide) ?_
        exact g_zret hF rfl (k_nz (Or.inl rfl)) d_X14_isHeldHere_47 ⟨rfl, rfl, rfl, (0 : Int32), rfl, (Or.inl rfl), w1⟩
      · have w2 := w7_.2 c
        refine g_aload_n hF d_X14_isHeldHere_11 rfl 0 rfl ?_
        refine g_get (v := .ref (r 36)) hF 52 obM_0 (by decide) m_1917 rfl d_X14_isHeldHere_12 ?_
        refine g_iload_n hF d_X14_isHeldHere_15 rfl 2 rfl ?_
        have w3 := w2.2
        refine g_iald hF arM_36 (s_in (Nat.le_of_ble_eq_true rfl) w2.1.1 w2.1.2) d_X14_isHeldHere_16 ?_
        refine g_top (v := (σ 36 x2_7.toNatClampNeg)) rfl ?_
        refine g_aload_n hF d_X14_isHeldHere_17 rfl 0 rfl ?_
        refine g_get (v := .int (σ 0 54)) hF 54 obM_0 (by decide) m_1919 rfl d_X14_isHeldHere_18 ?_
        refine g_icmp_ne hF 46 d_X14_isHeldHere_21 (by decide) rfl rfl (fun c => ?_) (fun c => ?_)
        · have w4 := w3.1 c
          refine g_iconst hF (v := 0) d_X14_isHeldHere_46 (by decide) ?_
          exact g_zret hF rfl (k_nz (Or.inl rfl)) d_X14_isHeldHere_47 ⟨rfl, rfl, rfl, (0 : Int32), rfl, (Or.inl rfl), w4⟩
        · have w5 := w3.2 c
          refine g_aload_n hF d_X14_isHeldHere_24 rfl 0 rfl ?_
          refine g_aload_n hF d_X14_isHeldHere_25 rfl 0 rfl ?_
          refine g_get (v := .ref (r 34)) hF 50 obM_0 (by decide) m_1915 rfl d_X14_isHeldHere_26 ?_
          refine g_iload_n hF d_X14_isHeldHere_29 rfl 2 rfl ?_
          have w6 := w5.2
          refine g_iald hF arM_34 (s_in (Nat.le_of_ble_eq_true rfl) w5.1.1 w5.1.2) d_X14_isHeldHere_30 ?_
          refine g_top (v := (σ 34 x2_7.toNatClampNeg)) rfl ?_
          refine g_iload_n hF d_X14_isHeldHere_31 rfl 1 rfl ?_
          refine g_callV (As := [.int (σ 34 x2_7.toNatClampNeg), .int a1]) (rest := []) hF (fun l D cy => (ct_isSame a r hcap w6) l D cy) (Nat.le_of_ble_eq_true rfl) mV_X14_isSame m_2333 (recv_ob obM_0) rfl rfl (Nat.le_of_ble_eq_true rfl) d_X14_isHeldHere_32 (krZ (fun v32 hz32 w7 => ?_)) (fun _ _ _ h => h.elim)
          refine g_if_eq hF 40 d_X14_isHeldHere_35 (by decide) rfl (fun c => ?_) (fun c => ?_)
          · have w8 := w7.1 c
            refine g_iinc hF (x2_7 + (-1)) [(2, .int (x2_7 + (-1))), (0, .ref (r 0)), (1, .int a1)] d_X14_isHeldHere_40 2 rfl rfl hnn (by decide) rfl ?_
            refine g_goto hF 7 d_X14_isHeldHere_43 (by decide) ?_
            obtain ⟨m7, hm7, w9⟩ := w8
            exact g_sub (L' := [(0, .ref (r 0)), (1, .int a1), (2, .int (x2_7 + (-1)))]) [1, 2, 0] rfl (ih7 m7 hm7 (x2_7 + (-1)) w9)
          · have w9 := w7.2 c
            refine g_iconst hF (v := 1) d_X14_isHeldHere_38 (by decide) ?_
            exact g_zret hF rfl (k_nz (Or.inr rfl)) d_X14_isHeldHere_39 ⟨rfl, rfl, rfl, (1 : Int32), rfl, (Or.inr rfl), w9⟩
  exact g_sub (L' := [(0, .ref (r 0)), (1, .int a1), (2, .int ((σ 0 53) - (1 : Int32)))]) [1, 2, 0] rfl (b7 i7 ((σ 0 53) - (1 : Int32)) u7)
def wp_deeper (a1 : Int32) (σ τ : St) (vs : List Nat) (Q : Int32 → St → St → List Nat → Prop) (T : St → St → List Nat → Prop) : Prop :=
  (a1.toInt ≠ 25 → Q (a1 + (1 : Int32)) σ τ vs) ∧ (a1.toInt = 25 → wp_wrong σ τ vs (fun s7 t7 z7 => T s7 t7 z7))
set_option maxHeartbeats 4000000 in
set_option maxRecDepth 100000 in
theorem ct_deeper (a : Nat → Nat) (r : Nat → Nat) {a1 : Int32} {σ τ : St} {vs : List Nat} {Q : Int32 → St → St → List Nat → Prop} {T : St → St → List Nat → Prop} (hcap : vs.length ≤ CAP) (w : wp_deeper a1 σ τ vs Q T) (l : Launch) (D : va_G) (cy : Nat → ClassId) : Ct l D cy SM r (EM a) y_X14_deeper (Cond.code y_X14_deeper b_X14_deeper 2 (some .int)) 2 [.ref (r 0), .int a1] σ τ vs (QIs Q) T := by
  unfold wp_deeper at w
  refine Ct_of (EM_ok a) (by decide) (Nat.le_of_ble_eq_true rfl) hcap (fun X hnn hF => ?_)
  show G SM r X σ τ vs [(0, .ref (r 0)), (1, .int a1)] [] 0
  refine g_iload_n hF d_X14_deeper_0 rfl 1 rfl ?_
  refine g_bipush hF (v := 25) d_X14_deeper_1 (by decide) ?_
  refine g_icmp_ne (yv := 25) hF 11 d_X14_deeper_3 (by decide) rfl (by decide) (fun c => ?_) (fun c => ?_)
  · have w1 := w.1 c
    refine g_iload_n hF d_X14_deeper_11 rfl 1 rfl ?_
    refine g_iconst hF (v := 1) d_X14_deeper_12 (by decide) ?_
    refine g_iadd hF d_X14_deeper_13 ?_
    exact g_iret hF rfl d_X14_deeper_14 ⟨(a1 + (1 : Int32)), rfl, w1⟩
  · have w2 := w.2 c
    refine g_aload_n hF d_X14_deeper_6 rfl 0 rfl ?_
    refine g_callV (As := []) (rest := []) hF (fun l D cy => (ct_wrong a r hcap w2) l D cy) (Nat.le_of_ble_eq_true rfl) mV_X14_wrong m_2261 (recv_ob obM_0) rfl rfl (Nat.le_of_ble_eq_true rfl) d_X14_deeper_7 (kX (fun s7 t7 z7 w3 => ?_)) (fun _ _ _ h => h.elim)
    exact g_athrow hF d_X14_deeper_10 (g_out hF stopM rfl w3)
def wp_made (a1 : Int32) (a2 : Nat) (a3 : Nat) (a4 : Int32) (σ τ : St) (vs : List Nat) (Q : Nat → St → St → List Nat → Prop) : Prop :=
  ((vs).length < CAP ∧ ∀ q0 : Nat, q0 ∉ vs → wp_Vinit q0 a1 σ (upF τ q0 (fun _ => 0)) (vs ++ [q0]) (fun s5 t5 z5 => (a2 ∈ z5 ∧ (a3 ∈ z5 ∧ (q0 ∈ z5 ∧ (((if (t5 a2 3) < (t5 a3 3) then (t5 a3 3) else (t5 a2 3)) + (1 : Int32)).toInt ≤ 60 → Q q0 s5 (upC t5 q0 3 ((if (t5 a2 3) < (t5 a3 3) then (t5 a3 3) else (t5 a2 3)) + (1 : Int32))) z5) ∧ (60 < ((if (t5 a2 3) < (t5 a3 3) then (t5 a3 3) else (t5 a2 3)) + (1 : Int32)).toInt → wp_tell (4 : Int32) a4 s5 (upC t5 q0 3 ((if (t5 a2 3) < (t5 a3 3) then (t5 a3 3) else (t5 a2 3)) + (1 : Int32))) z5 (fun s42 t42 z42 => Q q0 s42 t42 z42)))))))
set_option maxHeartbeats 4000000 in
set_option maxRecDepth 100000 in
theorem ct_made (a : Nat → Nat) (r : Nat → Nat) {a1 : Int32} {a2 : Nat} {a3 : Nat} {a4 : Int32} {σ τ : St} {vs : List Nat} {Q : Nat → St → St → List Nat → Prop} (hcap : vs.length ≤ CAP) (w : wp_made a1 a2 a3 a4 σ τ vs Q) (l : Launch) (D : va_G) (cy : Nat → ClassId) : Ct l D cy SM r (EM a) y_X14_made (Cond.code y_X14_made b_X14_made 6 (some (.object "LinkedUnitsModel$Value"))) 2 [.ref (r 0), .int a1, .ref a2, .ref a3, .int a4] σ τ vs (QAs Q) QT0 := by
  unfold wp_made at w
  refine Ct_of (EM_ok a) (by decide) (Nat.le_of_ble_eq_true rfl) hcap (fun X hnn hF => ?_)
  show G SM r X σ τ vs [(0, .ref (r 0)), (1, .int a1), (2, .ref a2), (3, .ref a3), (4, .int a4)] [] 0
  refine g_new hF clsVC VC_ty m_2393 m_2394 m_25 w.1 d_X14_made_0 (fun q0 hq0 => ?_)
  have w1 := w.2 q0 hq0
  refine g_dup hF d_X14_made_3 rfl ?_
  refine g_iload_n hF d_X14_made_4 rfl 1 rfl ?_
  refine g_cap (fun hc1 => ?_)
  refine g_callI (As := [.int a1]) (rest := [.ref q0]) hF (fun l D cy => (ct_Vinit a r hc1 w1) l D cy) (Nat.le_of_ble_eq_true rfl) mI_X13_init m_2395 rfl rfl (Nat.le_of_ble_eq_true rfl) d_X14_made_5 (kV (fun s5 t5 z5 w3 => ?_))
  refine g_astore hF [(5, .ref q0), (0, .ref (r 0)), (1, .int a1), (2, .ref a2), (3, .ref a3), (4, .int a4)] d_X14_made_8 hnn (by decide) rfl ?_
  refine g_aload hF d_X14_made_10 0 rfl ?_
  refine g_aload_n hF d_X14_made_12 rfl 3 rfl ?_
  obtain ⟨hm3, w4⟩ := w3
  refine g_vget hF 3 hm3 clsVC (by decide) m_2404 d_X14_made_13 ?_
  refine g_top (v := (t5 a2 3)) rfl ?_
  refine g_aload_n hF d_X14_made_16 rfl 4 rfl ?_
  obtain ⟨hm4, w5⟩ := w4
  refine g_vget hF 3 hm4 clsVC (by decide) m_2404 d_X14_made_17 ?_
  refine g_top (v := (t5 a3 3)) rfl ?_
  refine g_mmax hF (Nat.le_of_ble_eq_true rfl) m_2432 m_1131 m_23 m_1132 (Nat.le_of_ble_eq_true rfl) d_X14_made_20 ?_
  refine g_iconst hF (v := 1) d_X14_made_23 (by decide) ?_
  refine g_iadd hF d_X14_made_24 ?_
  obtain ⟨hm5, w6⟩ := w5
  refine g_vput hF 3 hm5 clsVC (by decide) m_2404 rfl rfl d_X14_made_25 ?_
  refine g_aload hF d_X14_made_28 0 rfl ?_
  refine g_vget hF 3 hm5 clsVC (by decide) m_2404 d_X14_made_30 ?_
  refine g_top (v := ((if (t5 a2 3) < (t5 a3 3) then (t5 a3 3) else (t5 a2 3)) + (1 : Int32))) upC_same ?_
  refine g_bipush hF (v := 60) d_X14_made_33 (by decide) ?_
  refine g_icmp_le (yv := 60) hF 45 d_X14_made_35 (by decide) rfl (by decide) (fun c => ?_) (fun c => ?_)
  · have w7 := w6.1 c
    refine g_aload hF d_X14_made_45 0 rfl ?_
    exact g_aret hF rfl d_X14_made_47 ⟨q0, rfl, w7⟩
  · have w8 := w6.2 c
    refine g_aload_n hF d_X14_made_38 rfl 1 rfl ?_
    refine g_iconst hF (v := 4) d_X14_made_39 (by decide) ?_
    refine g_iload hF d_X14_made_40 5 rfl ?_
    refine g_cap (fun hc8 => ?_)
    refine g_callV (As := [.int 4, .int a4]) (rest := []) hF (fun l D cy => (ct_tell a r hc8 w8) l D cy) (Nat.le_of_ble_eq_true rfl) mV_X14_tell m_2317 (recv_ob obM_0) rfl rfl (Nat.le_of_ble_eq_true rfl) d_X14_made_42 (kV (fun s42 t42 z42 w10 => ?_)) (fun _ _ _ h => h.elim)
    refine g_aload hF d_X14_made_45 0 rfl ?_
    exact g_aret hF rfl d_X14_made_47 ⟨q0, rfl, w10⟩
def wp_put_1 (a1 : Int32) (a2 : Int32) (σ τ : St) (vs : List Nat) (Q : St → St → List Nat → Prop) : Prop :=
  wp_put_0 a1 σ τ vs (fun s2 t2 z2 => wp_put_0 a2 s2 t2 z2 (fun s7 t7 z7 => Q s7 t7 z7))
set_option maxHeartbeats 4000000 in
set_option maxRecDepth 100000 in
theorem ct_put_1 (a : Nat → Nat) (r : Nat → Nat) {a1 : Int32} {a2 : Int32} {σ τ : St} {vs : List Nat} {Q : St → St → List Nat → Prop} (hcap : vs.length ≤ CAP) (w : wp_put_1 a1 a2 σ τ vs Q) (l : Launch) (D : va_G) (cy : Nat → ClassId) : Ct l D cy SM r (EM a) y_X14_put_1 (Cond.code y_X14_put_1 b_X14_put_1 3 none) 1 [.ref (r 0), .int a1, .int a2] σ τ vs (QVs Q) QT0 := by
  unfold wp_put_1 at w
  refine Ct_of (EM_ok a) (by decide) (Nat.le_of_ble_eq_true rfl) hcap (fun X hnn hF => ?_)
  show G SM r X σ τ vs [(0, .ref (r 0)), (1, .int a1), (2, .int a2)] [] 0
  refine g_aload_n hF d_X14_put_1_0 rfl 0 rfl ?_
  refine g_iload_n hF d_X14_put_1_1 rfl 1 rfl ?_
  refine g_callV (As := [.int a1]) (rest := []) hF (fun l D cy => (ct_put_0 a r hcap w) l D cy) (Nat.le_of_ble_eq_true rfl) mV_X14_put_0 m_2437 (recv_ob obM_0) rfl rfl (Nat.le_of_ble_eq_true rfl) d_X14_put_1_2 (kV (fun s2 t2 z2 w1 => ?_)) (fun _ _ _ h => h.elim)
  refine g_aload_n hF d_X14_put_1_5 rfl 0 rfl ?_
  refine g_iload_n hF d_X14_put_1_6 rfl 2 rfl ?_
  refine g_cap (fun hc1 => ?_)
  refine g_callV (As := [.int a2]) (rest := []) hF (fun l D cy => (ct_put_0 a r hc1 w1) l D cy) (Nat.le_of_ble_eq_true rfl) mV_X14_put_0 m_2437 (recv_ob obM_0) rfl rfl (Nat.le_of_ble_eq_true rfl) d_X14_put_1_7 (kV (fun s7 t7 z7 w3 => ?_)) (fun _ _ _ h => h.elim)
  exact g_vret hF rfl d_X14_put_1_10 ⟨rfl, w3⟩
def wp_put_2 (a1 : Int32) (a2 : Int32) (a3 : Int32) (σ τ : St) (vs : List Nat) (Q : St → St → List Nat → Prop) : Prop :=
  wp_put_1 a1 a2 σ τ vs (fun s3 t3 z3 => wp_put_0 a3 s3 t3 z3 (fun s8 t8 z8 => Q s8 t8 z8))
set_option maxHeartbeats 4000000 in
set_option maxRecDepth 100000 in
theorem ct_put_2 (a : Nat → Nat) (r : Nat → Nat) {a1 : Int32} {a2 : Int32} {a3 : Int32} {σ τ : St} {vs : List Nat} {Q : St → St → List Nat → Prop} (hcap : vs.length ≤ CAP) (w : wp_put_2 a1 a2 a3 σ τ vs Q) (l : Launch) (D : va_G) (cy : Nat → ClassId) : Ct l D cy SM r (EM a) y_X14_put_2 (Cond.code y_X14_put_2 b_X14_put_2 4 none) 2 [.ref (r 0), .int a1, .int a2, .int a3] σ τ vs (QVs Q) QT0 := by
  unfold wp_put_2 at w
  refine Ct_of (EM_ok a) (by decide) (Nat.le_of_ble_eq_true rfl) hcap (fun X hnn hF => ?_)
  show G SM r X σ τ vs [(0, .ref (r 0)), (1, .int a1), (2, .int a2), (3, .int a3)] [] 0
  refine g_aload_n hF d_X14_put_2_0 rfl 0 rfl ?_
  refine g_iload_n hF d_X14_put_2_1 rfl 1 rfl ?_
  refine g_iload_n hF d_X14_put_2_2 rfl 2 rfl ?_
  refine g_callV (As := [.int a1, .int a2]) (rest := []) hF (fun l D cy => (ct_put_1 a r hcap w) l D cy) (Nat.le_of_ble_eq_true rfl) mV_X14_put_1 m_2433 (recv_ob obM_0) rfl rfl (Nat.le_of_ble_eq_true rfl) d_X14_put_2_3 (kV (fun s3 t3 z3 w1 => ?_)) (fun _ _ _ h => h.elim)
  refine g_aload_n hF d_X14_put_2_6 rfl 0 rfl ?_
  refine g_iload_n hF d_X14_put_2_7 rfl 3 rfl ?_
  refine g_cap (fun hc1 => ?_)
  refine g_callV (As := [.int a3]) (rest := []) hF (fun l D cy => (ct_put_0 a r hc1 w1) l D cy) (Nat.le_of_ble_eq_true rfl) mV_X14_put_0 m_2437 (recv_ob obM_0) rfl rfl (Nat.le_of_ble_eq_true rfl) d_X14_put_2_8 (kV (fun s8 t8 z8 w3 => ?_)) (fun _ _ _ h => h.elim)
  exact g_vret hF rfl d_X14_put_2_11 ⟨rfl, w3⟩
def wp_read_1 (a1 : Nat) (σ τ : St) (vs : List Nat) (Q : St → St → List Nat → Prop) : Prop :=
  (a1 ∈ vs ∧ (∃ J17 : St → St → List Nat → Prop, (∀ (s17 t17 : St) (z17 : List Nat), J17 s17 t17 z17 → ((a1 ∈ z17 ∧ (∃ J34 : St → St → List Nat → Prop, (∀ (s34 t34 : St) (z34 : List Nat), J34 s34 t34 z34 → ((a1 ∈ z34 ∧ ((t34 a1 1).toInt < 2 → Q s34 (upC t34 a1 1 (0 : Int32)) z34) ∧ (2 ≤ (t34 a1 1).toInt → ((0 ≤ (t34 a1 4).toInt ∧ (t34 a1 4).toInt < 16002) ∧ wp_put_1 (5 : Int32) (s34 5 (t34 a1 4).toNatClampNeg) s34 t34 z34 (fun s53 t53 z53 => (a1 ∈ z53 ∧ Q s53 (upC t53 a1 1 (0 : Int32)) z53))))))) ∧ ((t17 a1 1).toInt ≠ 2 → J34 s17 t17 z17) ∧ ((t17 a1 1).toInt = 2 → wp_put_1 (1 : Int32) (t17 a1 2) s17 t17 z17 (fun s31 t31 z31 => J34 s31 t31 z31)))))) ∧ ((τ a1 1).toInt ≠ 1 → J17 σ τ vs) ∧ ((τ a1 1).toInt = 1 → wp_put_1 (3 : Int32) (τ a1 2) σ τ vs (fun s14 t14 z14 => J17 s14 t14 z14))))
set_option maxHeartbeats 4000000 in
set_option maxRecDepth 100000 in
theorem ct_read_1 (a : Nat → Nat) (r : Nat → Nat) {a1 : Nat} {σ τ : St} {vs : List Nat} {Q : St → St → List Nat → Prop} (hcap : vs.length ≤ CAP) (w : wp_read_1 a1 σ τ vs Q) (l : Launch) (D : va_G) (cy : Nat → ClassId) : Ct l D cy SM r (EM a) y_X14_read_1 (Cond.code y_X14_read_1 b_X14_read_1 2 none) 2 [.ref (r 0), .ref a1] σ τ vs (QVs Q) QT0 := by
  unfold wp_read_1 at w
  refine Ct_of (EM_ok a) (by decide) (Nat.le_of_ble_eq_true rfl) hcap (fun X hnn hF => ?_)
  show G SM r X σ τ vs [(0, .ref (r 0)), (1, .ref a1)] [] 0
  refine g_aload_n hF d_X14_read_1_0 rfl 1 rfl ?_
  obtain ⟨hm0, w1⟩ := w
  refine g_vget hF 1 hm0 clsVC (by decide) m_2401 d_X14_read_1_1 ?_
  refine g_top (v := (τ a1 1)) rfl ?_
  refine g_iconst hF (v := 1) d_X14_read_1_4 (by decide) ?_
  obtain ⟨J17, h17, w2⟩ := w1
  have b17 : ∀ (s17 t17 : St) (z17 : List Nat), J17 s17 t17 z17 → G SM r X s17 t17 z17 [(0, .ref (r 0)), (1, .ref a1)] [] 17 := by
    intro s17 t17 z17  w17_
    have w17_ := h17 s17 t17 z17  w17_
    refine g_aload_n hF d_X14_read_1_17 rfl 1 rfl ?_
    obtain ⟨hm2, w3⟩ := w17_
    refine g_vget hF 1 hm2 clsVC (by decide) m_2401 d_X14_read_1_18 ?_
    refine g_top (v := (t17 a1 1)) rfl ?_
    refine g_iconst hF (v := 2) d_X14_read_1_21 (by decide) ?_
    obtain ⟨J34, h34, w4⟩ := w3
    have b34 : ∀ (s34 t34 : St) (z34 : List Nat), J34 s34 t34 z34 → G SM r X s34 t34 z34 [(0, .ref (r 0)), (1, .ref a1)] [] 34 := by
      intro s34 t34 z34  w34_
      have w34_ := h34 s34 t34 z34  w34_
      refine g_aload_n hF d_X14_read_1_34 rfl 1 rfl ?_
      obtain ⟨hm4, w5⟩ := w34_
      refine g_vget hF 1 hm4 clsVC (by decide) m_2401 d_X14_read_1_35 ?_
      refine g_top (v := (t34 a1 1)) rfl ?_
      refine g_iconst hF (v := 2) d_X14_read_1_38 (by decide) ?_
      refine g_icmp_lt (yv := 2) hF 56 d_X14_read_1_39 (by decide) rfl (by decide) (fun c => ?_) (fun c => ?_)
      · have w6 := w5.1 c
        refine g_aload_n hF d_X14_read_1_56 rfl 1 rfl ?_
        refine g_iconst hF (v := 0) d_X14_read_1_57 (by decide) ?_
        refine g_vput hF 1 hm4 clsVC (by decide) m_2401 rfl rfl d_X14_read_1_58 ?_
        exact g_vret hF rfl d_X14_read_1_61 ⟨rfl, w6⟩
      · have w7 := w5.2 c
        refine g_aload_n hF d_X14_read_1_42 rfl 0 rfl ?_
        refine g_iconst hF (v := 5) d_X14_read_1_43 (by decide) ?_
        refine g_aload_n hF d_X14_read_1_44 rfl 0 rfl ?_
        refine g_get (v := .ref (r 5)) hF 6 obM_0 (by decide) m_1871 rfl d_X14_read_1_45 ?_
        refine g_aload_n hF d_X14_read_1_48 rfl 1 rfl ?_
        refine g_vget hF 4 hm4 clsVC (by decide) m_2405 d_X14_read_1_49 ?_
        refine g_top (v := (t34 a1 4)) rfl ?_
        have w8 := w7.2
        refine g_iald hF arM_5 (s_in (Nat.le_of_ble_eq_true rfl) w7.1.1 w7.1.2) d_X14_read_1_52 ?_
        refine g_top (v := (s34 5 (t34 a1 4).toNatClampNeg)) rfl ?_
        refine g_cap (fun hc8 => ?_)
        refine g_callV (As := [.int 5, .int (s34 5 (t34 a1 4).toNatClampNeg)]) (rest := []) hF (fun l D cy => (ct_put_1 a r hc8 w8) l D cy) (Nat.le_of_ble_eq_true rfl) mV_X14_put_1 m_2433 (recv_ob obM_0) rfl rfl (Nat.le_of_ble_eq_true rfl) d_X14_read_1_53 (kV (fun s53 t53 z53 w10 => ?_)) (fun _ _ _ h => h.elim)
        refine g_aload_n hF d_X14_read_1_56 rfl 1 rfl ?_
        refine g_iconst hF (v := 0) d_X14_read_1_57 (by decide) ?_
        obtain ⟨hm10, w11⟩ := w10
        refine g_vput hF 1 hm10 clsVC (by decide) m_2401 rfl rfl d_X14_read_1_58 ?_
        exact g_vret hF rfl d_X14_read_1_61 ⟨rfl, w11⟩
    refine g_icmp_ne (yv := 2) hF 34 d_X14_read_1_22 (by decide) rfl (by decide) (fun c => ?_) (fun c => ?_)
    · have w12 := w4.1 c
      exact b34 s17 t17 z17 w12
    · have w13 := w4.2 c
      refine g_aload_n hF d_X14_read_1_25 rfl 0 rfl ?_
      refine g_iconst hF (v := 1) d_X14_read_1_26 (by decide) ?_
      refine g_aload_n hF d_X14_read_1_27 rfl 1 rfl ?_
      refine g_vget hF 2 hm2 clsVC (by decide) m_2402 d_X14_read_1_28 ?_
      refine g_top (v := (t17 a1 2)) rfl ?_
      refine g_cap (fun hc13 => ?_)
      refine g_callV (As := [.int 1, .int (t17 a1 2)]) (rest := []) hF (fun l D cy => (ct_put_1 a r hc13 w13) l D cy) (Nat.le_of_ble_eq_true rfl) mV_X14_put_1 m_2433 (recv_ob obM_0) rfl rfl (Nat.le_of_ble_eq_true rfl) d_X14_read_1_31 (kV (fun s31 t31 z31 w15 => ?_)) (fun _ _ _ h => h.elim)
      exact b34 s31 t31 z31 w15
  refine g_icmp_ne (yv := 1) hF 17 d_X14_read_1_5 (by decide) rfl (by decide) (fun c => ?_) (fun c => ?_)
  · have w16 := w2.1 c
    exact b17 σ τ vs w16
  · have w17 := w2.2 c
    refine g_aload_n hF d_X14_read_1_8 rfl 0 rfl ?_
    refine g_iconst hF (v := 3) d_X14_read_1_9 (by decide) ?_
    refine g_aload_n hF d_X14_read_1_10 rfl 1 rfl ?_
    refine g_vget hF 2 hm0 clsVC (by decide) m_2402 d_X14_read_1_11 ?_
    refine g_top (v := (τ a1 2)) rfl ?_
    refine g_callV (As := [.int 3, .int (τ a1 2)]) (rest := []) hF (fun l D cy => (ct_put_1 a r hcap w17) l D cy) (Nat.le_of_ble_eq_true rfl) mV_X14_put_1 m_2433 (recv_ob obM_0) rfl rfl (Nat.le_of_ble_eq_true rfl) d_X14_read_1_14 (kV (fun s14 t14 z14 w18 => ?_)) (fun _ _ _ h => h.elim)
    exact b17 s14 t14 z14 w18
def wp_pointedTo (a1 : Nat) (a2 : Int32) (σ τ : St) (vs : List Nat) (Q : Nat → St → St → List Nat → Prop) : Prop :=
  wp_isPointer a1 σ τ vs (fun v2 => wp_must v2 a2 σ τ vs (fun s6 t6 z6 => wp_isPointer a1 s6 t6 z6 (fun v11 => (∃ J28 : Int32 → Prop, (∀ (y1_28 : Int32), J28 y1_28 → (wp_made y1_28 a1 a1 a2 s6 t6 z6 (fun u31 s31 t31 z31 => (u31 ∈ z31 ∧ Q u31 s31 (upC (upC t31 u31 1 (3 : Int32)) u31 4 a2) z31)))) ∧ (v11.toInt = 0 → J28 ((-2) : Int32)) ∧ (v11.toInt ≠ 0 → (a1 ∈ z6 ∧ J28 ((t6 a1 0) - (1 : Int32))))))))
set_option maxHeartbeats 4000000 in
set_option maxRecDepth 100000 in
theorem ct_pointedTo (a : Nat → Nat) (r : Nat → Nat) {a1 : Nat} {a2 : Int32} {σ τ : St} {vs : List Nat} {Q : Nat → St → St → List Nat → Prop} (hcap : vs.length ≤ CAP) (w : wp_pointedTo a1 a2 σ τ vs Q) (l : Launch) (D : va_G) (cy : Nat → ClassId) : Ct l D cy SM r (EM a) y_X14_pointedTo (Cond.code y_X14_pointedTo b_X14_pointedTo 4 (some (.object "LinkedUnitsModel$Value"))) 3 [.ref (r 0), .ref a1, .int a2] σ τ vs (QAs Q) QT0 := by
  unfold wp_pointedTo at w
  refine Ct_of (EM_ok a) (by decide) (Nat.le_of_ble_eq_true rfl) hcap (fun X hnn hF => ?_)
  show G SM r X σ τ vs [(0, .ref (r 0)), (1, .ref a1), (2, .int a2)] [] 0
  refine g_aload_n hF d_X14_pointedTo_0 rfl 0 rfl ?_
  refine g_aload_n hF d_X14_pointedTo_1 rfl 1 rfl ?_
  refine g_callS (As := [.ref a1]) (rest := [.ref (r 0)]) hF (fun l D cy => (ct_isPointer a r hcap w) l D cy) (Nat.le_of_ble_eq_true rfl) mS_X14_isPointer m_2461 rfl rfl (Nat.le_of_ble_eq_true rfl) d_X14_pointedTo_2 (krZ (fun v2 hz2 w1 => ?_)) (fun _ _ _ h => h.elim)
  refine g_iload_n hF d_X14_pointedTo_5 rfl 2 rfl ?_
  refine g_callV (As := [.int v2, .int a2]) (rest := []) hF (fun l D cy => (ct_must a r hcap w1) l D cy) (Nat.le_of_ble_eq_true rfl) mV_X14_must m_2313 (recv_ob obM_0) rfl rfl (Nat.le_of_ble_eq_true rfl) d_X14_pointedTo_6 (kV (fun s6 t6 z6 w2 => ?_)) (fun _ _ _ h => h.elim)
  refine g_aload_n hF d_X14_pointedTo_9 rfl 0 rfl ?_
  refine g_aload_n hF d_X14_pointedTo_10 rfl 1 rfl ?_
  refine g_cap (fun hc2 => ?_)
  refine g_callS (As := [.ref a1]) (rest := [.ref (r 0)]) hF (fun l D cy => (ct_isPointer a r hc2 w2) l D cy) (Nat.le_of_ble_eq_true rfl) mS_X14_isPointer m_2461 rfl rfl (Nat.le_of_ble_eq_true rfl) d_X14_pointedTo_11 (krZ (fun v11 hz11 w4 => ?_)) (fun _ _ _ h => h.elim)
  obtain ⟨J28, h28, w5⟩ := w4
  have b28 : ∀ (y1_28 : Int32), J28 y1_28 → G SM r X s6 t6 z6 [(1, .ref a1), (2, .int a2)] [.int y1_28, .ref (r 0)] 28 := by
    intro y1_28  w28_
    have w28_ := h28 y1_28  w28_
    refine g_aload_n hF d_X14_pointedTo_28 rfl 0 rfl ?_
    refine g_aload_n hF d_X14_pointedTo_29 rfl 0 rfl ?_
    refine g_iload_n hF d_X14_pointedTo_30 rfl 1 rfl ?_
    refine g_callV (As := [.int y1_28, .ref a1, .ref a1, .int a2]) (rest := []) hF (fun l D cy => (ct_made a r hc2 w28_) l D cy) (Nat.le_of_ble_eq_true rfl) mV_X14_made m_2389 (recv_ob obM_0) rfl rfl (Nat.le_of_ble_eq_true rfl) d_X14_pointedTo_31 (kA (fun u31 s31 t31 z31 w6 => ?_)) (fun _ _ _ h => h.elim)
    refine g_astore_n hF [(3, .ref u31), (1, .ref a1), (2, .int a2)] d_X14_pointedTo_34 rfl hnn (by decide) rfl ?_
    refine g_aload_n hF d_X14_pointedTo_35 rfl 0 rfl ?_
    refine g_iconst hF (v := 3) d_X14_pointedTo_36 (by decide) ?_
    obtain ⟨hm6, w7⟩ := w6
    refine g_vput hF 1 hm6 clsVC (by decide) m_2401 rfl rfl d_X14_pointedTo_37 ?_
    refine g_aload_n hF d_X14_pointedTo_40 rfl 0 rfl ?_
    refine g_iload_n hF d_X14_pointedTo_41 rfl 2 rfl ?_
    refine g_vput hF 4 hm6 clsVC (by decide) m_2405 rfl rfl d_X14_pointedTo_42 ?_
    refine g_aload_n hF d_X14_pointedTo_45 rfl 0 rfl ?_
    exact g_aret hF rfl d_X14_pointedTo_46 ⟨u31, rfl, w7⟩
  refine g_if_eq hF 26 d_X14_pointedTo_14 (by decide) rfl (fun c => ?_) (fun c => ?_)
  · have w8 := w5.1 c
    refine g_bipush hF (v := (-2)) d_X14_pointedTo_26 (by decide) ?_
    exact g_sub (L' := [(1, .ref a1), (2, .int a2)]) [1, 2] rfl (b28 ((-2) : Int32) w8)
  · have w9 := w5.2 c
    refine g_aload_n hF d_X14_pointedTo_17 rfl 1 rfl ?_
    obtain ⟨hm9, w10⟩ := w9
    refine g_vget hF 0 hm9 clsVC (by decide) m_2400 d_X14_pointedTo_18 ?_
    refine g_top (v := (t6 a1 0)) rfl ?_
    refine g_iconst hF (v := 1) d_X14_pointedTo_21 (by decide) ?_
    refine g_isub hF d_X14_pointedTo_22 ?_
    refine g_goto hF 28 d_X14_pointedTo_23 (by decide) ?_
    exact g_sub (L' := [(1, .ref a1), (2, .int a2)]) [1, 2] rfl (b28 ((t6 a1 0) - (1 : Int32)) w10)
