def wp_isSameHead (a1 : Int32) (a2 : Int32) (σ τ : St) (vs : List Nat) (Q : Int32 → Prop) : Prop :=
  ((0 ≤ a1.toInt ∧ a1.toInt < 10000) ∧ ((σ 10 a1.toNatClampNeg).toInt ≠ a2.toInt → Q (0 : Int32)) ∧ ((σ 10 a1.toNatClampNeg).toInt = a2.toInt → ((0 ≤ a1.toInt ∧ a1.toInt < 10000) ∧ ((σ 15 a1.toNatClampNeg).toInt = (σ 0 64).toInt → ∃ L27 : Nat → Int32 → Prop, (∃ n, L27 n (0 : Int32)) ∧ ∀ (n27 : Nat) (x3_27 : Int32), L27 n27 x3_27 → (((σ 0 64).toInt ≤ x3_27.toInt → Q (1 : Int32)) ∧ (x3_27.toInt < (σ 0 64).toInt → ((0 ≤ (((8 : Int32) * a1) + x3_27).toInt ∧ (((8 : Int32) * a1) + x3_27).toInt < 80000) ∧ ((0 ≤ x3_27.toInt ∧ x3_27.toInt < 8) ∧ ((σ 16 (((8 : Int32) * a1) + x3_27).toNatClampNeg).toInt = (σ 37 x3_27.toNatClampNeg).toInt → ∃ m, m < n27 ∧ L27 m (x3_27 + 1)) ∧ ((σ 16 (((8 : Int32) * a1) + x3_27).toNatClampNeg).toInt ≠ (σ 37 x3_27.toNatClampNeg).toInt → Q (0 : Int32))))))) ∧ ((σ 15 a1.toNatClampNeg).toInt ≠ (σ 0 64).toInt → Q (0 : Int32)))))
set_option maxHeartbeats 4000000 in
set_option maxRecDepth 100000 in
theorem ct_isSameHead (a : Nat → Nat) (r : Nat → Nat) {a1 : Int32} {a2 : Int32} {σ τ : St} {vs : List Nat} {Q : Int32 → Prop} (hcap : vs.length ≤ CAP) (w : wp_isSameHead a1 a2 σ τ vs Q) (l : Launch) (D : va_G) (cy : Nat → ClassId) : Ct l D cy SM r (EM a) y_X14_isSameHead (Cond.code y_X14_isSameHead b_X14_isSameHead 4 (some .boolean)) 0 [.ref (r 0), .int a1, .int a2] σ τ vs (QZr σ τ vs Q) QT0 := by
  unfold wp_isSameHead at w
  refine Ct_of (EM_ok a) (by decide) (Nat.le_of_ble_eq_true rfl) hcap (fun X hnn hF => ?_)
  show G SM r X σ τ vs [(0, .ref (r 0)), (1, .int a1), (2, .int a2)] [] 0
  refine g_aload_n hF d_X14_isSameHead_0 rfl 0 rfl ?_
  refine g_get (v := .ref (r 10)) hF 19 obM_0 (by decide) m_1884 rfl d_X14_isSameHead_1 ?_
  refine g_iload_n hF d_X14_isSameHead_4 rfl 1 rfl ?_
  have w1 := w.2
  refine g_iald hF arM_10 (s_in (Nat.le_of_ble_eq_true rfl) w.1.1 w.1.2) d_X14_isSameHead_5 ?_
  refine g_top (v := (σ 10 a1.toNatClampNeg)) rfl ?_
  refine g_iload_n hF d_X14_isSameHead_6 rfl 2 rfl ?_
  refine g_icmp_ne hF 23 d_X14_isSameHead_7 (by decide) rfl rfl (fun c => ?_) (fun c => ?_)
  · have w2 := w1.1 c
    refine g_iconst hF (v := 0) d_X14_isSameHead_23 (by decide) ?_
    exact g_zret hF rfl (k_nz (Or.inl rfl)) d_X14_isSameHead_24 ⟨rfl, rfl, rfl, (0 : Int32), rfl, (Or.inl rfl), w2⟩
  · have w3 := w1.2 c
    refine g_aload_n hF d_X14_isSameHead_10 rfl 0 rfl ?_
    refine g_get (v := .ref (r 15)) hF 24 obM_0 (by decide) m_1889 rfl d_X14_isSameHead_11 ?_
    refine g_iload_n hF d_X14_isSameHead_14 rfl 1 rfl ?_
    have w4 := w3.2
    refine g_iald hF arM_15 (s_in (Nat.le_of_ble_eq_true rfl) w3.1.1 w3.1.2) d_X14_isSameHead_15 ?_
    refine g_top (v := (σ 15 a1.toNatClampNeg)) rfl ?_
    refine g_aload_n hF d_X14_isSameHead_16 rfl 0 rfl ?_
    refine g_get (v := .int (σ 0 64)) hF 64 obM_0 (by decide) m_1929 rfl d_X14_isSameHead_17 ?_
    refine g_icmp_eq hF 25 d_X14_isSameHead_20 (by decide) rfl rfl (fun c => ?_) (fun c => ?_)
    · have w5 := w4.1 c
      refine g_iconst hF (v := 0) d_X14_isSameHead_25 (by decide) ?_
      refine g_istore_n hF [(3, .int 0), (0, .ref (r 0)), (1, .int a1), (2, .int a2)] d_X14_isSameHead_26 rfl hnn (by decide) rfl ?_
      obtain ⟨L27, ⟨i27, u27⟩, h27⟩ := w5
      have b27 : ∀ (n27 : Nat) (x3_27 : Int32), L27 n27 x3_27 → G SM r X σ τ vs [(0, .ref (r 0)), (1, .int a1), (3, .int x3_27)] [] 27 := by
        intro n27
        induction n27 using Nat.strongRecOn with
        | _ n27 ih27 =>
          intro x3_27  w27_
          have w27_ := h27 n27 x3_27  w27_
          refine g_iload_n hF d_X14_isSameHead_27 rfl 2 rfl ?_
          refine g_aload_n hF d_X14_isSameHead_28 rfl 0 rfl ?_
          refine g_get (v := .int (σ 0 64)) hF 64 obM_0 (by decide) m_1929 rfl d_X14_isSameHead_29 ?_
          refine g_icmp_ge hF 63 d_X14_isSameHead_32 (by decide) rfl rfl (fun c => ?_) (fun c => ?_)
          · have w6 := w27_.1 c
            refine g_iconst hF (v := 1) d_X14_isSameHead_63 (by decide) ?_
            exact g_zret hF rfl (k_nz (Or.inr rfl)) d_X14_isSameHead_64 ⟨rfl, rfl, rfl, (1 : Int32), rfl, (Or.inr rfl), w6⟩
          · have w7 := w27_.2 c
            refine g_aload_n hF d_X14_isSameHead_35 rfl 0 rfl ?_
            refine g_get (v := .ref (r 16)) hF 25 obM_0 (by decide) m_1890 rfl d_X14_isSameHead_36 ?_
            refine g_bipush hF (v := 8) d_X14_isSameHead_39 (by decide) ?_
            refine g_iload_n hF d_X14_isSameHead_41 rfl 1 rfl ?_
            refine g_imul hF d_X14_isSameHead_42 ?_
            refine g_iload_n hF d_X14_isSameHead_43 rfl 2 rfl ?_
            refine g_iadd hF d_X14_isSameHead_44 ?_
            have w8 := w7.2
            refine g_iald hF arM_16 (s_in (Nat.le_of_ble_eq_true rfl) w7.1.1 w7.1.2) d_X14_isSameHead_45 ?_
            refine g_top (v := (σ 16 (((8 : Int32) * a1) + x3_27).toNatClampNeg)) rfl ?_
            refine g_aload_n hF d_X14_isSameHead_46 rfl 0 rfl ?_
            refine g_get (v := .ref (r 37)) hF 61 obM_0 (by decide) m_1926 rfl d_X14_isSameHead_47 ?_
            refine g_iload_n hF d_X14_isSameHead_50 rfl 2 rfl ?_
            have w9 := w8.2
            refine g_iald hF arM_37 (s_in (Nat.le_of_ble_eq_true rfl) w8.1.1 w8.1.2) d_X14_isSameHead_51 ?_
            refine g_top (v := (σ 37 x3_27.toNatClampNeg)) rfl ?_
            refine g_icmp_eq hF 57 d_X14_isSameHead_52 (by decide) rfl rfl (fun c => ?_) (fun c => ?_)
            · have w10 := w9.1 c
              refine g_iinc hF (x3_27 + 1) [(3, .int (x3_27 + 1)), (0, .ref (r 0)), (1, .int a1)] d_X14_isSameHead_57 2 rfl rfl hnn (by decide) rfl ?_
              refine g_goto hF 27 d_X14_isSameHead_60 (by decide) ?_
              obtain ⟨m27, hm27, w9⟩ := w10
              exact g_sub (L' := [(0, .ref (r 0)), (1, .int a1), (3, .int (x3_27 + 1))]) [1, 2, 0] rfl (ih27 m27 hm27 (x3_27 + 1) w9)
            · have w11 := w9.2 c
              refine g_iconst hF (v := 0) d_X14_isSameHead_55 (by decide) ?_
              exact g_zret hF rfl (k_nz (Or.inl rfl)) d_X14_isSameHead_56 ⟨rfl, rfl, rfl, (0 : Int32), rfl, (Or.inl rfl), w11⟩
      exact g_sub (L' := [(0, .ref (r 0)), (1, .int a1), (3, .int 0)]) [1, 2, 0] rfl (b27 i27 (0 : Int32) u27)
    · have w12 := w4.2 c
      refine g_iconst hF (v := 0) d_X14_isSameHead_23 (by decide) ?_
      exact g_zret hF rfl (k_nz (Or.inl rfl)) d_X14_isSameHead_24 ⟨rfl, rfl, rfl, (0 : Int32), rfl, (Or.inl rfl), w12⟩
def wp_tell (a1 : Int32) (a2 : Int32) (σ τ : St) (vs : List Nat) (Q : St → St → List Nat → Prop) : Prop :=
  (0 < (σ 0 12).toInt → Q σ τ vs) ∧ ((σ 0 12).toInt ≤ 0 → ((σ 0 15).toInt ≤ 0 → ((0 ≤ a2.toInt ∧ a2.toInt < 16002) ∧ Q (upC (upC σ 0 12 a1) 0 13 (σ 3 a2.toNatClampNeg)) τ vs)) ∧ (0 < (σ 0 15).toInt → Q σ τ vs))
set_option maxHeartbeats 4000000 in
set_option maxRecDepth 100000 in
theorem ct_tell (a : Nat → Nat) (r : Nat → Nat) {a1 : Int32} {a2 : Int32} {σ τ : St} {vs : List Nat} {Q : St → St → List Nat → Prop} (hcap : vs.length ≤ CAP) (w : wp_tell a1 a2 σ τ vs Q) (l : Launch) (D : va_G) (cy : Nat → ClassId) : Ct l D cy SM r (EM a) y_X14_tell (Cond.code y_X14_tell b_X14_tell 3 none) 0 [.ref (r 0), .int a1, .int a2] σ τ vs (QVs Q) QT0 := by
  unfold wp_tell at w
  refine Ct_of (EM_ok a) (by decide) (Nat.le_of_ble_eq_true rfl) hcap (fun X hnn hF => ?_)
  show G SM r X σ τ vs [(0, .ref (r 0)), (1, .int a1), (2, .int a2)] [] 0
  refine g_aload_n hF d_X14_tell_0 rfl 0 rfl ?_
  refine g_get (v := .int (σ 0 12)) hF 12 obM_0 (by decide) m_1877 rfl d_X14_tell_1 ?_
  refine g_if_gt hF 14 d_X14_tell_4 (by decide) rfl (fun c => ?_) (fun c => ?_)
  · have w1 := w.1 c
    exact g_vret hF rfl d_X14_tell_14 ⟨rfl, w1⟩
  · have w2 := w.2 c
    refine g_aload_n hF d_X14_tell_7 rfl 0 rfl ?_
    refine g_get (v := .int (σ 0 15)) hF 15 obM_0 (by decide) m_1880 rfl d_X14_tell_8 ?_
    refine g_if_le hF 15 d_X14_tell_11 (by decide) rfl (fun c => ?_) (fun c => ?_)
    · have w3 := w2.1 c
      refine g_aload_n hF d_X14_tell_15 rfl 0 rfl ?_
      refine g_iload_n hF d_X14_tell_16 rfl 1 rfl ?_
      refine g_put (v := a1) hF 12 obM_0 (by decide) m_1877 rfl rfl rfl d_X14_tell_17 ?_
      refine g_aload_n hF d_X14_tell_20 rfl 0 rfl ?_
      refine g_aload_n hF d_X14_tell_21 rfl 0 rfl ?_
      refine g_get (v := .ref (r 3)) hF 4 obM_0 (by decide) m_1869 rfl d_X14_tell_22 ?_
      refine g_iload_n hF d_X14_tell_25 rfl 2 rfl ?_
      have w4 := w3.2
      refine g_iald hF arM_3 (s_in (Nat.le_of_ble_eq_true rfl) w3.1.1 w3.1.2) d_X14_tell_26 ?_
      refine g_top (v := (σ 3 a2.toNatClampNeg)) rfl ?_
      refine g_put (v := (σ 3 a2.toNatClampNeg)) hF 13 obM_0 (by decide) m_1878 rfl rfl rfl d_X14_tell_27 ?_
      exact g_vret hF rfl d_X14_tell_30 ⟨rfl, w4⟩
    · have w5 := w2.2 c
      exact g_vret hF rfl d_X14_tell_14 ⟨rfl, w5⟩
def wp_declare (a1 : Int32) (a2 : Int32) (σ τ : St) (vs : List Nat) (Q : Int32 → St → St → List Nat → Prop) : Prop :=
  ((0 ≤ (σ 0 35).toInt ∧ (σ 0 35).toInt < 102) ∧ (((σ 0 36) - (σ 22 (σ 0 35).toNatClampNeg)).toInt ≠ 100 → ((0 ≤ (σ 0 36).toInt ∧ (σ 0 36).toInt < 10000) ∧ ((0 ≤ (σ 0 36).toInt ∧ (σ 0 36).toInt < 10000) ∧ ((0 ≤ (σ 0 36).toInt ∧ (σ 0 36).toInt < 10000) ∧ ((0 ≤ (σ 0 35).toInt ∧ (σ 0 35).toInt < 102) ∧ ((0 ≤ ((σ 0 36) - (σ 22 (σ 0 35).toNatClampNeg)).toInt ∧ ((σ 0 36) - (σ 22 (σ 0 35).toNatClampNeg)).toInt < 100) ∧ ((0 ≤ (σ 0 36).toInt ∧ (σ 0 36).toInt < 10000) ∧ ((0 ≤ a1.toInt ∧ a1.toInt < 16002) ∧ ((0 ≤ a1.toInt ∧ a1.toInt < 16002) ∧ ((0 ≤ (σ 0 36).toInt ∧ (σ 0 36).toInt < 10000) ∧ ((0 ≤ a1.toInt ∧ a1.toInt < 16002) ∧ ∃ L117 : Nat → Int32 → St → St → List Nat → Prop, (∃ n, L117 n (σ 3 a1.toNatClampNeg) (upC (upC (upC (upC (upC (upC (upC σ 0 36 ((σ 0 36) + (1 : Int32))) 9 (σ 0 36).toNatClampNeg a2) 13 (σ 0 36).toNatClampNeg (vp_nar .boolean (0 : Int32))) 14 (σ 0 36).toNatClampNeg (vp_nar .boolean (0 : Int32))) 21 ((σ 0 36) - (σ 22 (σ 0 35).toNatClampNeg)).toNatClampNeg ((-1) : Int32)) 18 (σ 0 36).toNatClampNeg (σ 0 31)) 19 (σ 0 36).toNatClampNeg ((σ 4 a1.toNatClampNeg) - (σ 3 a1.toNatClampNeg))) τ vs) ∧ ∀ (n117 : Nat) (x4_117 : Int32) (s117 t117 : St) (z117 : List Nat), L117 n117 x4_117 s117 t117 z117 → (((0 ≤ a1.toInt ∧ a1.toInt < 16002) ∧ ((s117 4 a1.toNatClampNeg).toInt ≤ x4_117.toInt → Q (σ 0 36) s117 t117 z117) ∧ (x4_117.toInt < (s117 4 a1.toNatClampNeg).toInt → ((0 ≤ x4_117.toInt ∧ x4_117.toInt < 16000) ∧ ((0 ≤ (s117 0 31).toInt ∧ (s117 0 31).toInt < 65536) ∧ ∃ m, m < n117 ∧ L117 m (x4_117 + 1) (upC (upC s117 20 (s117 0 31).toNatClampNeg (vp_nar .byte (s117 1 x4_117.toNatClampNeg))) 0 31 ((s117 0 31) + (1 : Int32))) t117 z117)))))))))))))))) ∧ (((σ 0 36) - (σ 22 (σ 0 35).toNatClampNeg)).toInt = 100 → wp_tell (4 : Int32) a1 σ τ vs (fun s22 t22 z22 => Q ((-1) : Int32) s22 t22 z22)))
set_option maxHeartbeats 4000000 in
set_option maxRecDepth 100000 in
theorem ct_declare (a : Nat → Nat) (r : Nat → Nat) {a1 : Int32} {a2 : Int32} {σ τ : St} {vs : List Nat} {Q : Int32 → St → St → List Nat → Prop} (hcap : vs.length ≤ CAP) (w : wp_declare a1 a2 σ τ vs Q) (l : Launch) (D : va_G) (cy : Nat → ClassId) : Ct l D cy SM r (EM a) y_X14_declare (Cond.code y_X14_declare b_X14_declare 5 (some .int)) 1 [.ref (r 0), .int a1, .int a2] σ τ vs (QIs Q) QT0 := by
  unfold wp_declare at w
  refine Ct_of (EM_ok a) (by decide) (Nat.le_of_ble_eq_true rfl) hcap (fun X hnn hF => ?_)
  show G SM r X σ τ vs [(0, .ref (r 0)), (1, .int a1), (2, .int a2)] [] 0
  refine g_aload_n hF d_X14_declare_0 rfl 0 rfl ?_
  refine g_get (v := .int (σ 0 36)) hF 36 obM_0 (by decide) m_1901 rfl d_X14_declare_1 ?_
  refine g_aload_n hF d_X14_declare_4 rfl 0 rfl ?_
  refine g_get (v := .ref (r 22)) hF 32 obM_0 (by decide) m_1897 rfl d_X14_declare_5 ?_
  refine g_aload_n hF d_X14_declare_8 rfl 0 rfl ?_
  refine g_get (v := .int (σ 0 35)) hF 35 obM_0 (by decide) m_1900 rfl d_X14_declare_9 ?_
  have w1 := w.2
  refine g_iald hF arM_22 (s_in (Nat.le_of_ble_eq_true rfl) w.1.1 w.1.2) d_X14_declare_12 ?_
  refine g_top (v := (σ 22 (σ 0 35).toNatClampNeg)) rfl ?_
  refine g_isub hF d_X14_declare_13 ?_
  refine g_bipush hF (v := 100) d_X14_declare_14 (by decide) ?_
  refine g_icmp_ne (yv := 100) hF 27 d_X14_declare_16 (by decide) rfl (by decide) (fun c => ?_) (fun c => ?_)
  · have w2 := w1.1 c
    refine g_aload_n hF d_X14_declare_27 rfl 0 rfl ?_
    refine g_get (v := .int (σ 0 36)) hF 36 obM_0 (by decide) m_1901 rfl d_X14_declare_28 ?_
    refine g_istore_n hF [(3, .int (σ 0 36)), (0, .ref (r 0)), (1, .int a1), (2, .int a2)] d_X14_declare_31 rfl hnn (by decide) rfl ?_
    refine g_aload_n hF d_X14_declare_32 rfl 1 rfl ?_
    refine g_dup hF d_X14_declare_33 rfl ?_
    refine g_get (v := .int (σ 0 36)) hF 36 obM_0 (by decide) m_1901 rfl d_X14_declare_34 ?_
    refine g_iconst hF (v := 1) d_X14_declare_37 (by decide) ?_
    refine g_iadd hF d_X14_declare_38 ?_
    refine g_put (v := ((σ 0 36) + (1 : Int32))) hF 36 obM_0 (by decide) m_1901 rfl rfl rfl d_X14_declare_39 ?_
    refine g_aload_n hF d_X14_declare_42 rfl 1 rfl ?_
    refine g_get (v := .ref (r 9)) hF 18 obM_0 (by decide) m_1883 rfl d_X14_declare_43 ?_
    refine g_iload_n hF d_X14_declare_46 rfl 0 rfl ?_
    refine g_iload_n hF d_X14_declare_47 rfl 3 rfl ?_
    have w3 := w2.2
    refine g_iast hF arM_9 (s_in (Nat.le_of_ble_eq_true rfl) w2.1.1 w2.1.2) d_X14_declare_48 ?_
    refine g_aload_n hF d_X14_declare_49 rfl 1 rfl ?_
    refine g_get (v := .ref (r 13)) hF 22 obM_0 (by decide) m_1887 rfl d_X14_declare_50 ?_
    refine g_iload_n hF d_X14_declare_53 rfl 0 rfl ?_
    refine g_iconst hF (v := 0) d_X14_declare_54 (by decide) ?_
    have w4 := w3.2
    refine g_zast hF arM_13 (s_in (Nat.le_of_ble_eq_true rfl) w3.1.1 w3.1.2) d_X14_declare_55 ?_
    refine g_aload_n hF d_X14_declare_56 rfl 1 rfl ?_
    refine g_get (v := .ref (r 14)) hF 23 obM_0 (by decide) m_1888 rfl d_X14_declare_57 ?_
    refine g_iload_n hF d_X14_declare_60 rfl 0 rfl ?_
    refine g_iconst hF (v := 0) d_X14_declare_61 (by decide) ?_
    have w5 := w4.2
    refine g_zast hF arM_14 (s_in (Nat.le_of_ble_eq_true rfl) w4.1.1 w4.1.2) d_X14_declare_62 ?_
    refine g_aload_n hF d_X14_declare_63 rfl 1 rfl ?_
    refine g_get (v := .ref (r 21)) hF 30 obM_0 (by decide) m_1895 rfl d_X14_declare_64 ?_
    refine g_iload_n hF d_X14_declare_67 rfl 0 rfl ?_
    refine g_aload_n hF d_X14_declare_68 rfl 1 rfl ?_
    refine g_get (v := .ref (r 22)) hF 32 obM_0 (by decide) m_1897 rfl d_X14_declare_69 ?_
    refine g_aload_n hF d_X14_declare_72 rfl 1 rfl ?_
    refine g_get (v := .int (σ 0 35)) hF 35 obM_0 (by decide) m_1900 rfl d_X14_declare_73 ?_
    have w6 := w5.2
    refine g_iald hF arM_22 (s_in (Nat.le_of_ble_eq_true rfl) w5.1.1 w5.1.2) d_X14_declare_76 ?_
    refine g_top (v := (σ 22 (σ 0 35).toNatClampNeg)) rfl ?_
    refine g_isub hF d_X14_declare_77 ?_
    refine g_iconst hF (v := (-1)) d_X14_declare_78 (by decide) ?_
    have w7 := w6.2
    refine g_iast hF arM_21 (s_in (Nat.le_of_ble_eq_true rfl) w6.1.1 w6.1.2) d_X14_declare_79 ?_
    refine g_aload_n hF d_X14_declare_80 rfl 1 rfl ?_
    refine g_get (v := .ref (r 18)) hF 27 obM_0 (by decide) m_1892 rfl d_X14_declare_81 ?_
    refine g_iload_n hF d_X14_declare_84 rfl 0 rfl ?_
    refine g_aload_n hF d_X14_declare_85 rfl 1 rfl ?_
    refine g_get (v := .int (σ 0 31)) hF 31 obM_0 (by decide) m_1896 rfl d_X14_declare_86 ?_
    have w8 := w7.2
    refine g_iast hF arM_18 (s_in (Nat.le_of_ble_eq_true rfl) w7.1.1 w7.1.2) d_X14_declare_89 ?_
    refine g_aload_n hF d_X14_declare_90 rfl 1 rfl ?_
    refine g_get (v := .ref (r 19)) hF 28 obM_0 (by decide) m_1893 rfl d_X14_declare_91 ?_
    refine g_iload_n hF d_X14_declare_94 rfl 0 rfl ?_
    refine g_aload_n hF d_X14_declare_95 rfl 1 rfl ?_
    refine g_get (v := .ref (r 4)) hF 5 obM_0 (by decide) m_1870 rfl d_X14_declare_96 ?_
    refine g_iload_n hF d_X14_declare_99 rfl 2 rfl ?_
    have w9 := w8.2
    refine g_iald hF arM_4 (s_in (Nat.le_of_ble_eq_true rfl) w8.1.1 w8.1.2) d_X14_declare_100 ?_
    refine g_top (v := (σ 4 a1.toNatClampNeg)) rfl ?_
    refine g_aload_n hF d_X14_declare_101 rfl 1 rfl ?_
    refine g_get (v := .ref (r 3)) hF 4 obM_0 (by decide) m_1869 rfl d_X14_declare_102 ?_
    refine g_iload_n hF d_X14_declare_105 rfl 2 rfl ?_
    have w10 := w9.2
    refine g_iald hF arM_3 (s_in (Nat.le_of_ble_eq_true rfl) w9.1.1 w9.1.2) d_X14_declare_106 ?_
    refine g_top (v := (σ 3 a1.toNatClampNeg)) rfl ?_
    refine g_isub hF d_X14_declare_107 ?_
    have w11 := w10.2
    refine g_iast hF arM_19 (s_in (Nat.le_of_ble_eq_true rfl) w10.1.1 w10.1.2) d_X14_declare_108 ?_
    refine g_aload_n hF d_X14_declare_109 rfl 1 rfl ?_
    refine g_get (v := .ref (r 3)) hF 4 obM_0 (by decide) m_1869 rfl d_X14_declare_110 ?_
    refine g_iload_n hF d_X14_declare_113 rfl 2 rfl ?_
    have w12 := w11.2
    refine g_iald hF arM_3 (s_in (Nat.le_of_ble_eq_true rfl) w11.1.1 w11.1.2) d_X14_declare_114 ?_
    refine g_top (v := (σ 3 a1.toNatClampNeg)) rfl ?_
    refine g_istore hF [(4, .int (σ 3 a1.toNatClampNeg)), (3, .int (σ 0 36)), (0, .ref (r 0)), (1, .int a1), (2, .int a2)] d_X14_declare_115 hnn (by decide) rfl ?_
    obtain ⟨L117, ⟨i117, u117⟩, h117⟩ := w12
    have b117 : ∀ (n117 : Nat) (x4_117 : Int32) (s117 t117 : St) (z117 : List Nat), L117 n117 x4_117 s117 t117 z117 → G SM r X s117 t117 z117 [(0, .ref (r 0)), (1, .int a1), (3, .int (σ 0 36)), (4, .int x4_117)] [] 117 := by
      intro n117
      induction n117 using Nat.strongRecOn with
      | _ n117 ih117 =>
        intro x4_117 s117 t117 z117  w117_
        have w117_ := h117 n117 x4_117 s117 t117 z117  w117_
        refine g_iload hF d_X14_declare_117 3 rfl ?_
        refine g_aload_n hF d_X14_declare_119 rfl 0 rfl ?_
        refine g_get (v := .ref (r 4)) hF 5 obM_0 (by decide) m_1870 rfl d_X14_declare_120 ?_
        refine g_iload_n hF d_X14_declare_123 rfl 1 rfl ?_
        have w13 := w117_.2
        refine g_iald hF arM_4 (s_in (Nat.le_of_ble_eq_true rfl) w117_.1.1 w117_.1.2) d_X14_declare_124 ?_
        refine g_top (v := (s117 4 a1.toNatClampNeg)) rfl ?_
        refine g_icmp_ge hF 160 d_X14_declare_125 (by decide) rfl rfl (fun c => ?_) (fun c => ?_)
        · have w14 := w13.1 c
          refine g_iload_n hF d_X14_declare_160 rfl 2 rfl ?_
          exact g_iret hF rfl d_X14_declare_161 ⟨(σ 0 36), rfl, w14⟩
        · have w15 := w13.2 c
          refine g_aload_n hF d_X14_declare_128 rfl 0 rfl ?_
          refine g_get (v := .ref (r 20)) hF 29 obM_0 (by decide) m_1894 rfl d_X14_declare_129 ?_
          refine g_aload_n hF d_X14_declare_132 rfl 0 rfl ?_
          refine g_get (v := .int (s117 0 31)) hF 31 obM_0 (by decide) m_1896 rfl d_X14_declare_133 ?_
          refine g_aload_n hF d_X14_declare_136 rfl 0 rfl ?_
          refine g_get (v := .ref (r 1)) hF 0 obM_0 (by decide) m_1865 rfl d_X14_declare_137 ?_
          refine g_iload hF d_X14_declare_140 3 rfl ?_
          have w16 := w15.2
          refine g_bald hF arM_1 (s_in (Nat.le_of_ble_eq_true rfl) w15.1.1 w15.1.2) d_X14_declare_142 ?_
          refine g_top (v := (s117 1 x4_117.toNatClampNeg)) rfl ?_
          have w17 := w16.2
          refine g_bast hF arM_20 (s_in (Nat.le_of_ble_eq_true rfl) w16.1.1 w16.1.2) d_X14_declare_143 ?_
          refine g_aload_n hF d_X14_declare_144 rfl 0 rfl ?_
          refine g_dup hF d_X14_declare_145 rfl ?_
          refine g_get (v := .int (s117 0 31)) hF 31 obM_0 (by decide) m_1896 rfl d_X14_declare_146 ?_
          refine g_iconst hF (v := 1) d_X14_declare_149 (by decide) ?_
          refine g_iadd hF d_X14_declare_150 ?_
          refine g_put (v := ((s117 0 31) + (1 : Int32))) hF 31 obM_0 (by decide) m_1896 rfl rfl rfl d_X14_declare_151 ?_
          refine g_iinc hF (x4_117 + 1) [(4, .int (x4_117 + 1)), (0, .ref (r 0)), (1, .int a1), (3, .int (σ 0 36))] d_X14_declare_154 3 rfl rfl hnn (by decide) rfl ?_
          refine g_goto hF 117 d_X14_declare_157 (by decide) ?_
          obtain ⟨m117, hm117, w9⟩ := w17
          exact g_sub (L' := [(0, .ref (r 0)), (1, .int a1), (3, .int (σ 0 36)), (4, .int (x4_117 + 1))]) [1, 2, 3, 0] rfl (ih117 m117 hm117 (x4_117 + 1) (upC (upC s117 20 (s117 0 31).toNatClampNeg (vp_nar .byte (s117 1 x4_117.toNatClampNeg))) 0 31 ((s117 0 31) + (1 : Int32))) t117 z117 w9)
    exact g_sub (L' := [(0, .ref (r 0)), (1, .int a1), (3, .int (σ 0 36)), (4, .int (σ 3 a1.toNatClampNeg))]) [2, 3, 1, 0] rfl (b117 i117 (σ 3 a1.toNatClampNeg) (upC (upC (upC (upC (upC (upC (upC σ 0 36 ((σ 0 36) + (1 : Int32))) 9 (σ 0 36).toNatClampNeg a2) 13 (σ 0 36).toNatClampNeg (vp_nar .boolean (0 : Int32))) 14 (σ 0 36).toNatClampNeg (vp_nar .boolean (0 : Int32))) 21 ((σ 0 36) - (σ 22 (σ 0 35).toNatClampNeg)).toNatClampNeg ((-1) : Int32)) 18 (σ 0 36).toNatClampNeg (σ 0 31)) 19 (σ 0 36).toNatClampNeg ((σ 4 a1.toNatClampNeg) - (σ 3 a1.toNatClampNeg))) τ vs u117)
  · have w18 := w1.2 c
    refine g_aload_n hF d_X14_declare_19 rfl 0 rfl ?_
    refine g_iconst hF (v := 4) d_X14_declare_20 (by decide) ?_
    refine g_iload_n hF d_X14_declare_21 rfl 1 rfl ?_
    refine g_callV (As := [.int 4, .int a1]) (rest := []) hF (fun l D cy => (ct_tell a r hcap w18) l D cy) (Nat.le_of_ble_eq_true rfl) mV_X14_tell m_2317 (recv_ob obM_0) rfl rfl (Nat.le_of_ble_eq_true rfl) d_X14_declare_22 (kV (fun s22 t22 z22 w19 => ?_)) (fun _ _ _ h => h.elim)
    refine g_iconst hF (v := (-1)) d_X14_declare_25 (by decide) ?_
    exact g_iret hF rfl d_X14_declare_26 ⟨((-1) : Int32), rfl, w19⟩
def wp_declareLocal (a1 : Int32) (a2 : Int32) (σ τ : St) (vs : List Nat) (Q : Int32 → St → St → List Nat → Prop) : Prop :=
  ((σ 0 49).toInt ≠ 100 → ((0 ≤ (σ 0 49).toInt ∧ (σ 0 49).toInt < 100) ∧ ((0 ≤ (σ 0 49).toInt ∧ (σ 0 49).toInt < 100) ∧ ((0 ≤ (σ 0 49).toInt ∧ (σ 0 49).toInt < 100) ∧ Q (((σ 0 49) + (1 : Int32)) - (1 : Int32)) (upC (upC (upC (upC σ 31 (σ 0 49).toNatClampNeg a2) 32 (σ 0 49).toNatClampNeg ((-1) : Int32)) 33 (σ 0 49).toNatClampNeg (vp_nar .boolean (0 : Int32))) 0 49 ((σ 0 49) + (1 : Int32))) τ vs)))) ∧ ((σ 0 49).toInt = 100 → wp_tell (4 : Int32) a1 σ τ vs (fun s12 t12 z12 => Q ((-1) : Int32) s12 t12 z12))
set_option maxHeartbeats 4000000 in
set_option maxRecDepth 100000 in
theorem ct_declareLocal (a : Nat → Nat) (r : Nat → Nat) {a1 : Int32} {a2 : Int32} {σ τ : St} {vs : List Nat} {Q : Int32 → St → St → List Nat → Prop} (hcap : vs.length ≤ CAP) (w : wp_declareLocal a1 a2 σ τ vs Q) (l : Launch) (D : va_G) (cy : Nat → ClassId) : Ct l D cy SM r (EM a) y_X14_declareLocal (Cond.code y_X14_declareLocal b_X14_declareLocal 3 (some .int)) 1 [.ref (r 0), .int a1, .int a2] σ τ vs (QIs Q) QT0 := by
  unfold wp_declareLocal at w
  refine Ct_of (EM_ok a) (by decide) (Nat.le_of_ble_eq_true rfl) hcap (fun X hnn hF => ?_)
  show G SM r X σ τ vs [(0, .ref (r 0)), (1, .int a1), (2, .int a2)] [] 0
  refine g_aload_n hF d_X14_declareLocal_0 rfl 0 rfl ?_
  refine g_get (v := .int (σ 0 49)) hF 49 obM_0 (by decide) m_1914 rfl d_X14_declareLocal_1 ?_
  refine g_bipush hF (v := 100) d_X14_declareLocal_4 (by decide) ?_
  refine g_icmp_ne (yv := 100) hF 17 d_X14_declareLocal_6 (by decide) rfl (by decide) (fun c => ?_) (fun c => ?_)
  · have w1 := w.1 c
    refine g_aload_n hF d_X14_declareLocal_17 rfl 0 rfl ?_
    refine g_get (v := .ref (r 31)) hF 46 obM_0 (by decide) m_1911 rfl d_X14_declareLocal_18 ?_
    refine g_aload_n hF d_X14_declareLocal_21 rfl 0 rfl ?_
    refine g_get (v := .int (σ 0 49)) hF 49 obM_0 (by decide) m_1914 rfl d_X14_declareLocal_22 ?_
    refine g_iload_n hF d_X14_declareLocal_25 rfl 2 rfl ?_
    have w2 := w1.2
    refine g_iast hF arM_31 (s_in (Nat.le_of_ble_eq_true rfl) w1.1.1 w1.1.2) d_X14_declareLocal_26 ?_
    refine g_aload_n hF d_X14_declareLocal_27 rfl 0 rfl ?_
    refine g_get (v := .ref (r 32)) hF 47 obM_0 (by decide) m_1912 rfl d_X14_declareLocal_28 ?_
    refine g_aload_n hF d_X14_declareLocal_31 rfl 0 rfl ?_
    refine g_get (v := .int (σ 0 49)) hF 49 obM_0 (by decide) m_1914 rfl d_X14_declareLocal_32 ?_
    refine g_iconst hF (v := (-1)) d_X14_declareLocal_35 (by decide) ?_
    have w3 := w2.2
    refine g_iast hF arM_32 (s_in (Nat.le_of_ble_eq_true rfl) w2.1.1 w2.1.2) d_X14_declareLocal_36 ?_
    refine g_aload_n hF d_X14_declareLocal_37 rfl 0 rfl ?_
    refine g_get (v := .ref (r 33)) hF 48 obM_0 (by decide) m_1913 rfl d_X14_declareLocal_38 ?_
    refine g_aload_n hF d_X14_declareLocal_41 rfl 0 rfl ?_
    refine g_get (v := .int (σ 0 49)) hF 49 obM_0 (by decide) m_1914 rfl d_X14_declareLocal_42 ?_
    refine g_iconst hF (v := 0) d_X14_declareLocal_45 (by decide) ?_
    have w4 := w3.2
    refine g_zast hF arM_33 (s_in (Nat.le_of_ble_eq_true rfl) w3.1.1 w3.1.2) d_X14_declareLocal_46 ?_
    refine g_aload_n hF d_X14_declareLocal_47 rfl 0 rfl ?_
    refine g_dup hF d_X14_declareLocal_48 rfl ?_
    refine g_get (v := .int (σ 0 49)) hF 49 obM_0 (by decide) m_1914 rfl d_X14_declareLocal_49 ?_
    refine g_iconst hF (v := 1) d_X14_declareLocal_52 (by decide) ?_
    refine g_iadd hF d_X14_declareLocal_53 ?_
    refine g_put (v := ((σ 0 49) + (1 : Int32))) hF 49 obM_0 (by decide) m_1914 rfl rfl rfl d_X14_declareLocal_54 ?_
    refine g_aload_n hF d_X14_declareLocal_57 rfl 0 rfl ?_
    refine g_get (v := .int ((σ 0 49) + (1 : Int32))) hF 49 obM_0 (by decide) m_1914 rfl d_X14_declareLocal_58 ?_
    refine g_iconst hF (v := 1) d_X14_declareLocal_61 (by decide) ?_
    refine g_isub hF d_X14_declareLocal_62 ?_
    exact g_iret hF rfl d_X14_declareLocal_63 ⟨(((σ 0 49) + (1 : Int32)) - (1 : Int32)), rfl, w4⟩
  · have w5 := w.2 c
    refine g_aload_n hF d_X14_declareLocal_9 rfl 0 rfl ?_
    refine g_iconst hF (v := 4) d_X14_declareLocal_10 (by decide) ?_
    refine g_iload_n hF d_X14_declareLocal_11 rfl 1 rfl ?_
    refine g_callV (As := [.int 4, .int a1]) (rest := []) hF (fun l D cy => (ct_tell a r hcap w5) l D cy) (Nat.le_of_ble_eq_true rfl) mV_X14_tell m_2317 (recv_ob obM_0) rfl rfl (Nat.le_of_ble_eq_true rfl) d_X14_declareLocal_12 (kV (fun s12 t12 z12 w6 => ?_)) (fun _ _ _ h => h.elim)
    refine g_iconst hF (v := (-1)) d_X14_declareLocal_15 (by decide) ?_
    exact g_iret hF rfl d_X14_declareLocal_16 ⟨((-1) : Int32), rfl, w6⟩
def wp_isSame (a1 : Int32) (a2 : Int32) (σ τ : St) (vs : List Nat) (Q : Int32 → Prop) : Prop :=
  ((0 ≤ a1.toInt ∧ a1.toInt < 16002) ∧ ((0 ≤ a1.toInt ∧ a1.toInt < 16002) ∧ ((0 ≤ a2.toInt ∧ a2.toInt < 16002) ∧ ((0 ≤ a2.toInt ∧ a2.toInt < 16002) ∧ (((σ 4 a2.toNatClampNeg) - (σ 3 a2.toNatClampNeg)).toInt = ((σ 4 a1.toNatClampNeg) - (σ 3 a1.toNatClampNeg)).toInt → ∃ L36 : Nat → Int32 → Prop, (∃ n, L36 n (0 : Int32)) ∧ ∀ (n36 : Nat) (x4_36 : Int32), L36 n36 x4_36 → ((((σ 4 a1.toNatClampNeg) - (σ 3 a1.toNatClampNeg)).toInt ≤ x4_36.toInt → Q (1 : Int32)) ∧ (x4_36.toInt < ((σ 4 a1.toNatClampNeg) - (σ 3 a1.toNatClampNeg)).toInt → ((0 ≤ a1.toInt ∧ a1.toInt < 16002) ∧ ((0 ≤ ((σ 3 a1.toNatClampNeg) + x4_36).toInt ∧ ((σ 3 a1.toNatClampNeg) + x4_36).toInt < 16000) ∧ ((0 ≤ a2.toInt ∧ a2.toInt < 16002) ∧ ((0 ≤ ((σ 3 a2.toNatClampNeg) + x4_36).toInt ∧ ((σ 3 a2.toNatClampNeg) + x4_36).toInt < 16000) ∧ ((σ 1 ((σ 3 a1.toNatClampNeg) + x4_36).toNatClampNeg).toInt = (σ 1 ((σ 3 a2.toNatClampNeg) + x4_36).toNatClampNeg).toInt → ∃ m, m < n36 ∧ L36 m (x4_36 + 1)) ∧ ((σ 1 ((σ 3 a1.toNatClampNeg) + x4_36).toNatClampNeg).toInt ≠ (σ 1 ((σ 3 a2.toNatClampNeg) + x4_36).toNatClampNeg).toInt → Q (0 : Int32))))))))) ∧ (((σ 4 a2.toNatClampNeg) - (σ 3 a2.toNatClampNeg)).toInt ≠ ((σ 4 a1.toNatClampNeg) - (σ 3 a1.toNatClampNeg)).toInt → Q (0 : Int32))))))
set_option maxHeartbeats 4000000 in
set_option maxRecDepth 100000 in
theorem ct_isSame (a : Nat → Nat) (r : Nat → Nat) {a1 : Int32} {a2 : Int32} {σ τ : St} {vs : List Nat} {Q : Int32 → Prop} (hcap : vs.length ≤ CAP) (w : wp_isSame a1 a2 σ τ vs Q) (l : Launch) (D : va_G) (cy : Nat → ClassId) : Ct l D cy SM r (EM a) y_X14_isSame (Cond.code y_X14_isSame b_X14_isSame 5 (some .boolean)) 0 [.ref (r 0), .int a1, .int a2] σ τ vs (QZr σ τ vs Q) QT0 := by
  unfold wp_isSame at w
  refine Ct_of (EM_ok a) (by decide) (Nat.le_of_ble_eq_true rfl) hcap (fun X hnn hF => ?_)
  show G SM r X σ τ vs [(0, .ref (r 0)), (1, .int a1), (2, .int a2)] [] 0
  refine g_aload_n hF d_X14_isSame_0 rfl 0 rfl ?_
  refine g_get (v := .ref (r 4)) hF 5 obM_0 (by decide) m_1870 rfl d_X14_isSame_1 ?_
  refine g_iload_n hF d_X14_isSame_4 rfl 1 rfl ?_
  have w1 := w.2
  refine g_iald hF arM_4 (s_in (Nat.le_of_ble_eq_true rfl) w.1.1 w.1.2) d_X14_isSame_5 ?_
  refine g_top (v := (σ 4 a1.toNatClampNeg)) rfl ?_
  refine g_aload_n hF d_X14_isSame_6 rfl 0 rfl ?_
  refine g_get (v := .ref (r 3)) hF 4 obM_0 (by decide) m_1869 rfl d_X14_isSame_7 ?_
  refine g_iload_n hF d_X14_isSame_10 rfl 1 rfl ?_
  have w2 := w1.2
  refine g_iald hF arM_3 (s_in (Nat.le_of_ble_eq_true rfl) w1.1.1 w1.1.2) d_X14_isSame_11 ?_
  refine g_top (v := (σ 3 a1.toNatClampNeg)) rfl ?_
  refine g_isub hF d_X14_isSame_12 ?_
  refine g_istore_n hF [(3, .int ((σ 4 a1.toNatClampNeg) - (σ 3 a1.toNatClampNeg))), (0, .ref (r 0)), (1, .int a1), (2, .int a2)] d_X14_isSame_13 rfl hnn (by decide) rfl ?_
  refine g_aload_n hF d_X14_isSame_14 rfl 1 rfl ?_
  refine g_get (v := .ref (r 4)) hF 5 obM_0 (by decide) m_1870 rfl d_X14_isSame_15 ?_
  refine g_iload_n hF d_X14_isSame_18 rfl 3 rfl ?_
  have w3 := w2.2
  refine g_iald hF arM_4 (s_in (Nat.le_of_ble_eq_true rfl) w2.1.1 w2.1.2) d_X14_isSame_19 ?_
  refine g_top (v := (σ 4 a2.toNatClampNeg)) rfl ?_
  refine g_aload_n hF d_X14_isSame_20 rfl 1 rfl ?_
  refine g_get (v := .ref (r 3)) hF 4 obM_0 (by decide) m_1869 rfl d_X14_isSame_21 ?_
  refine g_iload_n hF d_X14_isSame_24 rfl 3 rfl ?_
  have w4 := w3.2
  refine g_iald hF arM_3 (s_in (Nat.le_of_ble_eq_true rfl) w3.1.1 w3.1.2) d_X14_isSame_25 ?_
  refine g_top (v := (σ 3 a2.toNatClampNeg)) rfl ?_
  refine g_isub hF d_X14_isSame_26 ?_
  refine g_iload_n hF d_X14_isSame_27 rfl 0 rfl ?_
  refine g_icmp_eq hF 33 d_X14_isSame_28 (by decide) rfl rfl (fun c => ?_) (fun c => ?_)
  · have w5 := w4.1 c
    refine g_iconst hF (v := 0) d_X14_isSame_33 (by decide) ?_
    refine g_istore hF [(4, .int 0), (3, .int ((σ 4 a1.toNatClampNeg) - (σ 3 a1.toNatClampNeg))), (0, .ref (r 0)), (1, .int a1), (2, .int a2)] d_X14_isSame_34 hnn (by decide) rfl ?_
    obtain ⟨L36, ⟨i36, u36⟩, h36⟩ := w5
    have b36 : ∀ (n36 : Nat) (x4_36 : Int32), L36 n36 x4_36 → G SM r X σ τ vs [(0, .ref (r 0)), (1, .int a1), (2, .int a2), (3, .int ((σ 4 a1.toNatClampNeg) - (σ 3 a1.toNatClampNeg))), (4, .int x4_36)] [] 36 := by
      intro n36
      induction n36 using Nat.strongRecOn with
      | _ n36 ih36 =>
        intro x4_36  w36_
        have w36_ := h36 n36 x4_36  w36_
        refine g_iload hF d_X14_isSame_36 4 rfl ?_
        refine g_iload_n hF d_X14_isSame_38 rfl 3 rfl ?_
        refine g_icmp_ge hF 81 d_X14_isSame_39 (by decide) rfl rfl (fun c => ?_) (fun c => ?_)
        · have w6 := w36_.1 c
          refine g_iconst hF (v := 1) d_X14_isSame_81 (by decide) ?_
          exact g_zret hF rfl (k_nz (Or.inr rfl)) d_X14_isSame_82 ⟨rfl, rfl, rfl, (1 : Int32), rfl, (Or.inr rfl), w6⟩
        · have w7 := w36_.2 c
          refine g_aload_n hF d_X14_isSame_42 rfl 0 rfl ?_
          refine g_get (v := .ref (r 1)) hF 0 obM_0 (by decide) m_1865 rfl d_X14_isSame_43 ?_
          refine g_aload_n hF d_X14_isSame_46 rfl 0 rfl ?_
          refine g_get (v := .ref (r 3)) hF 4 obM_0 (by decide) m_1869 rfl d_X14_isSame_47 ?_
          refine g_iload_n hF d_X14_isSame_50 rfl 1 rfl ?_
          have w8 := w7.2
          refine g_iald hF arM_3 (s_in (Nat.le_of_ble_eq_true rfl) w7.1.1 w7.1.2) d_X14_isSame_51 ?_
          refine g_top (v := (σ 3 a1.toNatClampNeg)) rfl ?_
          refine g_iload hF d_X14_isSame_52 4 rfl ?_
          refine g_iadd hF d_X14_isSame_54 ?_
          have w9 := w8.2
          refine g_bald hF arM_1 (s_in (Nat.le_of_ble_eq_true rfl) w8.1.1 w8.1.2) d_X14_isSame_55 ?_
          refine g_top (v := (σ 1 ((σ 3 a1.toNatClampNeg) + x4_36).toNatClampNeg)) rfl ?_
          refine g_aload_n hF d_X14_isSame_56 rfl 0 rfl ?_
          refine g_get (v := .ref (r 1)) hF 0 obM_0 (by decide) m_1865 rfl d_X14_isSame_57 ?_
          refine g_aload_n hF d_X14_isSame_60 rfl 0 rfl ?_
          refine g_get (v := .ref (r 3)) hF 4 obM_0 (by decide) m_1869 rfl d_X14_isSame_61 ?_
          refine g_iload_n hF d_X14_isSame_64 rfl 2 rfl ?_
          have w10 := w9.2
          refine g_iald hF arM_3 (s_in (Nat.le_of_ble_eq_true rfl) w9.1.1 w9.1.2) d_X14_isSame_65 ?_
          refine g_top (v := (σ 3 a2.toNatClampNeg)) rfl ?_
          refine g_iload hF d_X14_isSame_66 4 rfl ?_
          refine g_iadd hF d_X14_isSame_68 ?_
          have w11 := w10.2
          refine g_bald hF arM_1 (s_in (Nat.le_of_ble_eq_true rfl) w10.1.1 w10.1.2) d_X14_isSame_69 ?_
          refine g_top (v := (σ 1 ((σ 3 a2.toNatClampNeg) + x4_36).toNatClampNeg)) rfl ?_
          refine g_icmp_eq hF 75 d_X14_isSame_70 (by decide) rfl rfl (fun c => ?_) (fun c => ?_)
          · have w12 := w11.1 c
            refine g_iinc hF (x4_36 + 1) [(4, .int (x4_36 + 1)), (0, .ref (r 0)), (1, .int a1), (2, .int a2), (3, .int ((σ 4 a1.toNatClampNeg) - (σ 3 a1.toNatClampNeg)))] d_X14_isSame_75 4 rfl rfl hnn (by decide) rfl ?_
            refine g_goto hF 36 d_X14_isSame_78 (by decide) ?_
            obtain ⟨m36, hm36, w9⟩ := w12
            exact g_sub (L' := [(0, .ref (r 0)), (1, .int a1), (2, .int a2), (3, .int ((σ 4 a1.toNatClampNeg) - (σ 3 a1.toNatClampNeg))), (4, .int (x4_36 + 1))]) [1, 2, 3, 4, 0] rfl (ih36 m36 hm36 (x4_36 + 1) w9)
          · have w13 := w11.2 c
            refine g_iconst hF (v := 0) d_X14_isSame_73 (by decide) ?_
            exact g_zret hF rfl (k_nz (Or.inl rfl)) d_X14_isSame_74 ⟨rfl, rfl, rfl, (0 : Int32), rfl, (Or.inl rfl), w13⟩
    exact g_sub (L' := [(0, .ref (r 0)), (1, .int a1), (2, .int a2), (3, .int ((σ 4 a1.toNatClampNeg) - (σ 3 a1.toNatClampNeg))), (4, .int 0)]) [2, 3, 4, 1, 0] rfl (b36 i36 (0 : Int32) u36)
  · have w14 := w4.2 c
    refine g_iconst hF (v := 0) d_X14_isSame_31 (by decide) ?_
    exact g_zret hF rfl (k_nz (Or.inl rfl)) d_X14_isSame_32 ⟨rfl, rfl, rfl, (0 : Int32), rfl, (Or.inl rfl), w14⟩
def wp_hold (a1 : Int32) (a2 : Int32) (σ τ : St) (vs : List Nat) (Q : St → St → List Nat → Prop) : Prop :=
  ((0 ≤ (σ 0 53).toInt ∧ (σ 0 53).toInt < 100) ∧ ((0 ≤ (σ 0 53).toInt ∧ (σ 0 53).toInt < 100) ∧ ((0 ≤ (σ 0 53).toInt ∧ (σ 0 53).toInt < 100) ∧ Q (upC (upC (upC (upC σ 34 (σ 0 53).toNatClampNeg a1) 35 (σ 0 53).toNatClampNeg a2) 36 (σ 0 53).toNatClampNeg (σ 0 54)) 0 53 ((σ 0 53) + (1 : Int32))) τ vs)))
set_option maxHeartbeats 4000000 in
set_option maxRecDepth 100000 in
theorem ct_hold (a : Nat → Nat) (r : Nat → Nat) {a1 : Int32} {a2 : Int32} {σ τ : St} {vs : List Nat} {Q : St → St → List Nat → Prop} (hcap : vs.length ≤ CAP) (w : wp_hold a1 a2 σ τ vs Q) (l : Launch) (D : va_G) (cy : Nat → ClassId) : Ct l D cy SM r (EM a) y_X14_hold (Cond.code y_X14_hold b_X14_hold 3 none) 0 [.ref (r 0), .int a1, .int a2] σ τ vs (QVs Q) QT0 := by
  unfold wp_hold at w
  refine Ct_of (EM_ok a) (by decide) (Nat.le_of_ble_eq_true rfl) hcap (fun X hnn hF => ?_)
  show G SM r X σ τ vs [(0, .ref (r 0)), (1, .int a1), (2, .int a2)] [] 0
  refine g_aload_n hF d_X14_hold_0 rfl 0 rfl ?_
  refine g_get (v := .ref (r 34)) hF 50 obM_0 (by decide) m_1915 rfl d_X14_hold_1 ?_
  refine g_aload_n hF d_X14_hold_4 rfl 0 rfl ?_
  refine g_get (v := .int (σ 0 53)) hF 53 obM_0 (by decide) m_1918 rfl d_X14_hold_5 ?_
  refine g_iload_n hF d_X14_hold_8 rfl 1 rfl ?_
  have w1 := w.2
  refine g_iast hF arM_34 (s_in (Nat.le_of_ble_eq_true rfl) w.1.1 w.1.2) d_X14_hold_9 ?_
  refine g_aload_n hF d_X14_hold_10 rfl 0 rfl ?_
  refine g_get (v := .ref (r 35)) hF 51 obM_0 (by decide) m_1916 rfl d_X14_hold_11 ?_
  refine g_aload_n hF d_X14_hold_14 rfl 0 rfl ?_
  refine g_get (v := .int (σ 0 53)) hF 53 obM_0 (by decide) m_1918 rfl d_X14_hold_15 ?_
  refine g_iload_n hF d_X14_hold_18 rfl 2 rfl ?_
  have w2 := w1.2
  refine g_iast hF arM_35 (s_in (Nat.le_of_ble_eq_true rfl) w1.1.1 w1.1.2) d_X14_hold_19 ?_
  refine g_aload_n hF d_X14_hold_20 rfl 0 rfl ?_
  refine g_get (v := .ref (r 36)) hF 52 obM_0 (by decide) m_1917 rfl d_X14_hold_21 ?_
  refine g_aload_n hF d_X14_hold_24 rfl 0 rfl ?_
  refine g_get (v := .int (σ 0 53)) hF 53 obM_0 (by decide) m_1918 rfl d_X14_hold_25 ?_
  refine g_aload_n hF d_X14_hold_28 rfl 0 rfl ?_
  refine g_get (v := .int (σ 0 54)) hF 54 obM_0 (by decide) m_1919 rfl d_X14_hold_29 ?_
  have w3 := w2.2
  refine g_iast hF arM_36 (s_in (Nat.le_of_ble_eq_true rfl) w2.1.1 w2.1.2) d_X14_hold_32 ?_
  refine g_aload_n hF d_X14_hold_33 rfl 0 rfl ?_
  refine g_dup hF d_X14_hold_34 rfl ?_
  refine g_get (v := .int (σ 0 53)) hF 53 obM_0 (by decide) m_1918 rfl d_X14_hold_35 ?_
  refine g_iconst hF (v := 1) d_X14_hold_38 (by decide) ?_
  refine g_iadd hF d_X14_hold_39 ?_
  refine g_put (v := ((σ 0 53) + (1 : Int32))) hF 53 obM_0 (by decide) m_1918 rfl rfl rfl d_X14_hold_40 ?_
  exact g_vret hF rfl d_X14_hold_43 ⟨rfl, w3⟩
def wp_sign (σ τ : St) (vs : List Nat) (Q : Int32 → Prop) : Prop :=
  ((0 ≤ (σ 0 10).toInt ∧ (σ 0 10).toInt < 16002) ∧ Q ((σ 2 (σ 0 10).toNatClampNeg) - (32 : Int32)))
set_option maxHeartbeats 4000000 in
set_option maxRecDepth 100000 in
theorem ct_sign (a : Nat → Nat) (r : Nat → Nat) {σ τ : St} {vs : List Nat} {Q : Int32 → Prop} (hcap : vs.length ≤ CAP) (w : wp_sign  σ τ vs Q) (l : Launch) (D : va_G) (cy : Nat → ClassId) : Ct l D cy SM r (EM a) y_X14_sign (Cond.code y_X14_sign b_X14_sign 1 (some .int)) 0 [.ref (r 0)] σ τ vs (QIr σ τ vs Q) QT0 := by
  unfold wp_sign at w
  refine Ct_of (EM_ok a) (by decide) (Nat.le_of_ble_eq_true rfl) hcap (fun X hnn hF => ?_)
  show G SM r X σ τ vs [(0, .ref (r 0))] [] 0
  refine g_aload_n hF d_X14_sign_0 rfl 0 rfl ?_
  refine g_get (v := .ref (r 2)) hF 3 obM_0 (by decide) m_1868 rfl d_X14_sign_1 ?_
  refine g_aload_n hF d_X14_sign_4 rfl 0 rfl ?_
  refine g_get (v := .int (σ 0 10)) hF 10 obM_0 (by decide) m_1875 rfl d_X14_sign_5 ?_
  have w1 := w.2
  refine g_iald hF arM_2 (s_in (Nat.le_of_ble_eq_true rfl) w.1.1 w.1.2) d_X14_sign_8 ?_
  refine g_top (v := (σ 2 (σ 0 10).toNatClampNeg)) rfl ?_
  refine g_bipush hF (v := 32) d_X14_sign_9 (by decide) ?_
  refine g_isub hF d_X14_sign_11 ?_
  exact g_iret hF rfl d_X14_sign_12 ⟨rfl, rfl, rfl, ((σ 2 (σ 0 10).toNatClampNeg) - (32 : Int32)), rfl, w1⟩
def wp_Vinit (a0 : Nat) (a1 : Int32) (σ τ : St) (vs : List Nat) (Q : St → St → List Nat → Prop) : Prop :=
  (a0 ∈ vs ∧ Q σ (upC (upC τ a0 3 (1 : Int32)) a0 0 a1) vs)
set_option maxHeartbeats 4000000 in
set_option maxRecDepth 100000 in
theorem ct_Vinit (a : Nat → Nat) (r : Nat → Nat) {a0 : Nat} {a1 : Int32} {σ τ : St} {vs : List Nat} {Q : St → St → List Nat → Prop} (hcap : vs.length ≤ CAP) (w : wp_Vinit a0 a1 σ τ vs Q) (l : Launch) (D : va_G) (cy : Nat → ClassId) : Ct l D cy SM r (EM a) y_X13_init (Cond.code y_X13_init b_X13_init 2 none) 1 [.ref a0, .int a1] σ τ vs (QVs Q) QT0 := by
  unfold wp_Vinit at w
  refine Ct_of (EM_ok a) (by decide) (Nat.le_of_ble_eq_true rfl) hcap (fun X hnn hF => ?_)
  show G SM r X σ τ vs [(0, .ref a0), (1, .int a1)] [] 0
  refine g_aload_n hF d_X13_init_0 rfl 0 rfl ?_
  refine g_objInit hF (by decide) m_2398 m_33 m_34 (Nat.le_of_ble_eq_true rfl) d_X13_init_1 ?_
  refine g_aload_n hF d_X13_init_4 rfl 0 rfl ?_
  refine g_iconst hF (v := 1) d_X13_init_5 (by decide) ?_
  obtain ⟨hm0, w1⟩ := w
  refine g_vput hF 3 hm0 clsVC (by decide) m_2403 rfl rfl d_X13_init_6 ?_
  refine g_aload_n hF d_X13_init_9 rfl 0 rfl ?_
  refine g_iload_n hF d_X13_init_10 rfl 1 rfl ?_
  refine g_vput hF 0 hm0 clsVC (by decide) m_2399 rfl rfl d_X13_init_11 ?_
  exact g_vret hF rfl d_X13_init_14 ⟨rfl, w1⟩
def wp_put_0 (a1 : Int32) (σ τ : St) (vs : List Nat) (Q : St → St → List Nat → Prop) : Prop :=
  (((σ 0 17) + (4 : Int32)).toInt < 524288 → ((0 ≤ (σ 0 17).toInt ∧ (σ 0 17).toInt < 524288) ∧ Q (upC (upC σ 8 (σ 0 17).toNatClampNeg a1) 0 17 ((σ 0 17) + (1 : Int32))) τ vs)) ∧ (524288 ≤ ((σ 0 17) + (4 : Int32)).toInt → False)
set_option maxHeartbeats 4000000 in
set_option maxRecDepth 100000 in
theorem ct_put_0 (a : Nat → Nat) (r : Nat → Nat) {a1 : Int32} {σ τ : St} {vs : List Nat} {Q : St → St → List Nat → Prop} (hcap : vs.length ≤ CAP) (w : wp_put_0 a1 σ τ vs Q) (l : Launch) (D : va_G) (cy : Nat → ClassId) : Ct l D cy SM r (EM a) y_X14_put_0 (Cond.code y_X14_put_0 b_X14_put_0 4 none) 0 [.ref (r 0), .int a1] σ τ vs (QVs Q) QT0 := by
  unfold wp_put_0 at w
  refine Ct_of (EM_ok a) (by decide) (Nat.le_of_ble_eq_true rfl) hcap (fun X hnn hF => ?_)
  show G SM r X σ τ vs [(0, .ref (r 0)), (1, .int a1)] [] 0
  refine g_aload_n hF d_X14_put_0_0 rfl 0 rfl ?_
  refine g_get (v := .int (σ 0 17)) hF 17 obM_0 (by decide) m_1882 rfl d_X14_put_0_1 ?_
  refine g_iconst hF (v := 4) d_X14_put_0_4 (by decide) ?_
  refine g_iadd hF d_X14_put_0_5 ?_
  refine g_aload_n hF d_X14_put_0_6 rfl 0 rfl ?_
  refine g_get (v := .ref (r 8)) hF 16 obM_0 (by decide) m_1881 rfl d_X14_put_0_7 ?_
  refine g_alen hF arM_8 (fun _ => ⟨1, _, rfl⟩) (v := 524288) (by decide) d_X14_put_0_10 ?_
  refine g_icmp_lt (yv := 524288) hF 54 d_X14_put_0_11 (by decide) rfl (by decide) (fun c => ?_) (fun c => ?_)
  · have w1 := w.1 c
    refine g_aload_n hF d_X14_put_0_54 rfl 0 rfl ?_
    refine g_get (v := .ref (r 8)) hF 16 obM_0 (by decide) m_1881 rfl d_X14_put_0_55 ?_
    refine g_aload_n hF d_X14_put_0_58 rfl 0 rfl ?_
    refine g_get (v := .int (σ 0 17)) hF 17 obM_0 (by decide) m_1882 rfl d_X14_put_0_59 ?_
    refine g_iload_n hF d_X14_put_0_62 rfl 1 rfl ?_
    have w2 := w1.2
    refine g_iast hF arM_8 (s_in (Nat.le_of_ble_eq_true rfl) w1.1.1 w1.1.2) d_X14_put_0_63 ?_
    refine g_aload_n hF d_X14_put_0_64 rfl 0 rfl ?_
    refine g_dup hF d_X14_put_0_65 rfl ?_
    refine g_get (v := .int (σ 0 17)) hF 17 obM_0 (by decide) m_1882 rfl d_X14_put_0_66 ?_
    refine g_iconst hF (v := 1) d_X14_put_0_69 (by decide) ?_
    refine g_iadd hF d_X14_put_0_70 ?_
    refine g_put (v := ((σ 0 17) + (1 : Int32))) hF 17 obM_0 (by decide) m_1882 rfl rfl rfl d_X14_put_0_71 ?_
    exact g_vret hF rfl d_X14_put_0_74 ⟨rfl, w2⟩
  · have w3 := w.2 c
    refine g_iconst hF (v := 2) d_X14_put_0_14 (by decide) ?_
    refine g_aload_n hF d_X14_put_0_15 rfl 0 rfl ?_
    refine g_get (v := .ref (r 8)) hF 16 obM_0 (by decide) m_1881 rfl d_X14_put_0_16 ?_
    refine g_alen hF arM_8 (fun _ => ⟨1, _, rfl⟩) (v := 524288) (by decide) d_X14_put_0_19 ?_
    refine g_imul hF d_X14_put_0_20 ?_
    refine g_top (v := 1048576) (by decide) ?_
    exact w3.elim
def wp_Vaddress (a0 : Nat) (a1 : Int32) (a2 : Int32) (σ τ : St) (vs : List Nat) (Q : Nat → St → St → List Nat → Prop) : Prop :=
  (a0 ∈ vs ∧ Q a0 σ (upC (upC (upC τ a0 6 (2 : Int32)) a0 8 a1) a0 7 a2) vs)
set_option maxHeartbeats 4000000 in
set_option maxRecDepth 100000 in
theorem ct_Vaddress (a : Nat → Nat) (r : Nat → Nat) {a0 : Nat} {a1 : Int32} {a2 : Int32} {σ τ : St} {vs : List Nat} {Q : Nat → St → St → List Nat → Prop} (hcap : vs.length ≤ CAP) (w : wp_Vaddress a0 a1 a2 σ τ vs Q) (l : Launch) (D : va_G) (cy : Nat → ClassId) : Ct l D cy SM r (EM a) y_X13_address (Cond.code y_X13_address b_X13_address 3 (some (.object "LinkedUnitsModel$Value"))) 0 [.ref a0, .int a1, .int a2] σ τ vs (QAs Q) QT0 := by
  unfold wp_Vaddress at w
  refine Ct_of (EM_ok a) (by decide) (Nat.le_of_ble_eq_true rfl) hcap (fun X hnn hF => ?_)
  show G SM r X σ τ vs [(0, .ref a0), (1, .int a1), (2, .int a2)] [] 0
  refine g_aload_n hF d_X13_address_0 rfl 0 rfl ?_
  refine g_iconst hF (v := 2) d_X13_address_1 (by decide) ?_
  obtain ⟨hm0, w1⟩ := w
  refine g_vput hF 6 hm0 clsVC (by decide) m_2407 rfl rfl d_X13_address_2 ?_
  refine g_aload_n hF d_X13_address_5 rfl 0 rfl ?_
  refine g_iload_n hF d_X13_address_6 rfl 1 rfl ?_
  refine g_vput hF 8 hm0 clsVC (by decide) m_2411 rfl rfl d_X13_address_7 ?_
  refine g_aload_n hF d_X13_address_10 rfl 0 rfl ?_
  refine g_iload_n hF d_X13_address_11 rfl 2 rfl ?_
  refine g_vput hF 7 hm0 clsVC (by decide) m_2409 rfl rfl d_X13_address_12 ?_
  refine g_aload_n hF d_X13_address_15 rfl 0 rfl ?_
  exact g_aret hF rfl d_X13_address_16 ⟨a0, rfl, w1⟩
def wp_isPointer (a0 : Nat) (σ τ : St) (vs : List Nat) (Q : Int32 → Prop) : Prop :=
  (a0 ∈ vs ∧ ((τ a0 0).toInt ≤ 0 → Q (0 : Int32)) ∧ (0 < (τ a0 0).toInt → Q (1 : Int32)))
set_option maxHeartbeats 4000000 in
set_option maxRecDepth 100000 in
theorem ct_isPointer (a : Nat → Nat) (r : Nat → Nat) {a0 : Nat} {σ τ : St} {vs : List Nat} {Q : Int32 → Prop} (hcap : vs.length ≤ CAP) (w : wp_isPointer a0 σ τ vs Q) (l : Launch) (D : va_G) (cy : Nat → ClassId) : Ct l D cy SM r (EM a) y_X14_isPointer (Cond.code y_X14_isPointer b_X14_isPointer 1 (some .boolean)) 0 [.ref a0] σ τ vs (QZr σ τ vs Q) QT0 := by
  unfold wp_isPointer at w
  refine Ct_of (EM_ok a) (by decide) (Nat.le_of_ble_eq_true rfl) hcap (fun X hnn hF => ?_)
  show G SM r X σ τ vs [(0, .ref a0)] [] 0
  refine g_aload_n hF d_X14_isPointer_0 rfl 0 rfl ?_
  obtain ⟨hm0, w1⟩ := w
  refine g_vget hF 0 hm0 clsVC (by decide) m_2400 d_X14_isPointer_1 ?_
  refine g_top (v := (τ a0 0)) rfl ?_
  refine g_if_le hF 11 d_X14_isPointer_4 (by decide) rfl (fun c => ?_) (fun c => ?_)
  · have w2 := w1.1 c
    refine g_iconst hF (v := 0) d_X14_isPointer_11 (by decide) ?_
    exact g_zret hF rfl (k_nz (Or.inl rfl)) d_X14_isPointer_12 ⟨rfl, rfl, rfl, (0 : Int32), rfl, (Or.inl rfl), w2⟩
  · have w3 := w1.2 c
    refine g_iconst hF (v := 1) d_X14_isPointer_7 (by decide) ?_
    refine g_goto hF 12 d_X14_isPointer_8 (by decide) ?_
    exact g_zret hF rfl (k_nz (Or.inr rfl)) d_X14_isPointer_12 ⟨rfl, rfl, rfl, (1 : Int32), rfl, (Or.inr rfl), w3⟩
def wp_isAny (a0 : Nat) (σ τ : St) (vs : List Nat) (Q : Int32 → Prop) : Prop :=
  (a0 ∈ vs ∧ ((τ a0 0).toInt < 0 → Q (0 : Int32)) ∧ (0 ≤ (τ a0 0).toInt → Q (1 : Int32)))
set_option maxHeartbeats 4000000 in
set_option maxRecDepth 100000 in
theorem ct_isAny (a : Nat → Nat) (r : Nat → Nat) {a0 : Nat} {σ τ : St} {vs : List Nat} {Q : Int32 → Prop} (hcap : vs.length ≤ CAP) (w : wp_isAny a0 σ τ vs Q) (l : Launch) (D : va_G) (cy : Nat → ClassId) : Ct l D cy SM r (EM a) y_X14_isAny (Cond.code y_X14_isAny b_X14_isAny 1 (some .boolean)) 0 [.ref a0] σ τ vs (QZr σ τ vs Q) QT0 := by
  unfold wp_isAny at w
  refine Ct_of (EM_ok a) (by decide) (Nat.le_of_ble_eq_true rfl) hcap (fun X hnn hF => ?_)
  show G SM r X σ τ vs [(0, .ref a0)] [] 0
  refine g_aload_n hF d_X14_isAny_0 rfl 0 rfl ?_
  obtain ⟨hm0, w1⟩ := w
  refine g_vget hF 0 hm0 clsVC (by decide) m_2400 d_X14_isAny_1 ?_
  refine g_top (v := (τ a0 0)) rfl ?_
  refine g_if_lt hF 11 d_X14_isAny_4 (by decide) rfl (fun c => ?_) (fun c => ?_)
  · have w2 := w1.1 c
    refine g_iconst hF (v := 0) d_X14_isAny_11 (by decide) ?_
    exact g_zret hF rfl (k_nz (Or.inl rfl)) d_X14_isAny_12 ⟨rfl, rfl, rfl, (0 : Int32), rfl, (Or.inl rfl), w2⟩
  · have w3 := w1.2 c
    refine g_iconst hF (v := 1) d_X14_isAny_7 (by decide) ?_
    refine g_goto hF 12 d_X14_isAny_8 (by decide) ?_
    exact g_zret hF rfl (k_nz (Or.inr rfl)) d_X14_isAny_12 ⟨rfl, rfl, rfl, (1 : Int32), rfl, (Or.inr rfl), w3⟩
def wp_isInt (a0 : Nat) (σ τ : St) (vs : List Nat) (Q : Int32 → Prop) : Prop :=
  (a0 ∈ vs ∧ ((τ a0 0).toInt ≠ 0 → Q (0 : Int32)) ∧ ((τ a0 0).toInt = 0 → Q (1 : Int32)))
set_option maxHeartbeats 4000000 in
set_option maxRecDepth 100000 in
theorem ct_isInt (a : Nat → Nat) (r : Nat → Nat) {a0 : Nat} {σ τ : St} {vs : List Nat} {Q : Int32 → Prop} (hcap : vs.length ≤ CAP) (w : wp_isInt a0 σ τ vs Q) (l : Launch) (D : va_G) (cy : Nat → ClassId) : Ct l D cy SM r (EM a) y_X14_isInt (Cond.code y_X14_isInt b_X14_isInt 1 (some .boolean)) 0 [.ref a0] σ τ vs (QZr σ τ vs Q) QT0 := by
  unfold wp_isInt at w
  refine Ct_of (EM_ok a) (by decide) (Nat.le_of_ble_eq_true rfl) hcap (fun X hnn hF => ?_)
  show G SM r X σ τ vs [(0, .ref a0)] [] 0
  refine g_aload_n hF d_X14_isInt_0 rfl 0 rfl ?_
  obtain ⟨hm0, w1⟩ := w
  refine g_vget hF 0 hm0 clsVC (by decide) m_2400 d_X14_isInt_1 ?_
  refine g_top (v := (τ a0 0)) rfl ?_
  refine g_if_ne hF 11 d_X14_isInt_4 (by decide) rfl (fun c => ?_) (fun c => ?_)
  · have w2 := w1.1 c
    refine g_iconst hF (v := 0) d_X14_isInt_11 (by decide) ?_
    exact g_zret hF rfl (k_nz (Or.inl rfl)) d_X14_isInt_12 ⟨rfl, rfl, rfl, (0 : Int32), rfl, (Or.inl rfl), w2⟩
  · have w3 := w1.2 c
    refine g_iconst hF (v := 1) d_X14_isInt_7 (by decide) ?_
    refine g_goto hF 12 d_X14_isInt_8 (by decide) ?_
    exact g_zret hF rfl (k_nz (Or.inr rfl)) d_X14_isInt_12 ⟨rfl, rfl, rfl, (1 : Int32), rfl, (Or.inr rfl), w3⟩
def wp_Vconstant (a0 : Nat) (a1 : Int32) (σ τ : St) (vs : List Nat) (Q : Nat → St → St → List Nat → Prop) : Prop :=
  (a0 ∈ vs ∧ Q a0 σ (upC (upC τ a0 6 (1 : Int32)) a0 7 a1) vs)
set_option maxHeartbeats 4000000 in
set_option maxRecDepth 100000 in
theorem ct_Vconstant (a : Nat → Nat) (r : Nat → Nat) {a0 : Nat} {a1 : Int32} {σ τ : St} {vs : List Nat} {Q : Nat → St → St → List Nat → Prop} (hcap : vs.length ≤ CAP) (w : wp_Vconstant a0 a1 σ τ vs Q) (l : Launch) (D : va_G) (cy : Nat → ClassId) : Ct l D cy SM r (EM a) y_X13_constant (Cond.code y_X13_constant b_X13_constant 2 (some (.object "LinkedUnitsModel$Value"))) 0 [.ref a0, .int a1] σ τ vs (QAs Q) QT0 := by
  unfold wp_Vconstant at w
  refine Ct_of (EM_ok a) (by decide) (Nat.le_of_ble_eq_true rfl) hcap (fun X hnn hF => ?_)
  show G SM r X σ τ vs [(0, .ref a0), (1, .int a1)] [] 0
  refine g_aload_n hF d_X13_constant_0 rfl 0 rfl ?_
  refine g_iconst hF (v := 1) d_X13_constant_1 (by decide) ?_
  obtain ⟨hm0, w1⟩ := w
  refine g_vput hF 6 hm0 clsVC (by decide) m_2407 rfl rfl d_X13_constant_2 ?_
  refine g_aload_n hF d_X13_constant_5 rfl 0 rfl ?_
  refine g_iload_n hF d_X13_constant_6 rfl 1 rfl ?_
  refine g_vput hF 7 hm0 clsVC (by decide) m_2409 rfl rfl d_X13_constant_7 ?_
  refine g_aload_n hF d_X13_constant_10 rfl 0 rfl ?_
  exact g_aret hF rfl d_X13_constant_11 ⟨a0, rfl, w1⟩
def wp_init (a1 : Int32) (a2 : Int32) (a3 : Int32) (σ τ : St) (vs : List Nat) (Q : St → St → List Nat → Prop) : Prop :=
  (∃ J8 : Prop, (J8  → (((σ 0 12).toInt ≤ 0 → (((σ 0 39) + (3 : Int32)).toInt ≤ 196608 → ((0 ≤ (σ 0 39).toInt ∧ (σ 0 39).toInt < 196608) ∧ ((0 ≤ ((σ 0 39) + (1 : Int32)).toInt ∧ ((σ 0 39) + (1 : Int32)).toInt < 196608) ∧ ((0 ≤ ((σ 0 39) + (2 : Int32)).toInt ∧ ((σ 0 39) + (2 : Int32)).toInt < 196608) ∧ Q (upC (upC (upC (upC σ 25 (σ 0 39).toNatClampNeg a1) 25 ((σ 0 39) + (1 : Int32)).toNatClampNeg a2) 25 ((σ 0 39) + (2 : Int32)).toNatClampNeg a3) 0 39 ((σ 0 39) + (3 : Int32))) τ vs)))) ∧ (196608 < ((σ 0 39) + (3 : Int32)).toInt → False)) ∧ (0 < (σ 0 12).toInt → Q σ τ vs))) ∧ (a2.toInt ≠ 0 → J8) ∧ (a2.toInt = 0 → (a3.toInt = 0 → Q σ τ vs) ∧ (a3.toInt ≠ 0 → J8)))
set_option maxHeartbeats 4000000 in
set_option maxRecDepth 100000 in
theorem ct_init (a : Nat → Nat) (r : Nat → Nat) {a1 : Int32} {a2 : Int32} {a3 : Int32} {σ τ : St} {vs : List Nat} {Q : St → St → List Nat → Prop} (hcap : vs.length ≤ CAP) (w : wp_init a1 a2 a3 σ τ vs Q) (l : Launch) (D : va_G) (cy : Nat → ClassId) : Ct l D cy SM r (EM a) y_X14_init (Cond.code y_X14_init b_X14_init 6 none) 0 [.ref (r 0), .int a1, .int a2, .int a3] σ τ vs (QVs Q) QT0 := by
  unfold wp_init at w
  refine Ct_of (EM_ok a) (by decide) (Nat.le_of_ble_eq_true rfl) hcap (fun X hnn hF => ?_)
  show G SM r X σ τ vs [(0, .ref (r 0)), (1, .int a1), (2, .int a2), (3, .int a3)] [] 0
  refine g_iload_n hF d_X14_init_0 rfl 2 rfl ?_
  obtain ⟨J8, h8, w1⟩ := w
  have b8 : J8  → G SM r X σ τ vs [(0, .ref (r 0)), (1, .int a1), (2, .int a2), (3, .int a3)] [] 8 := by
    intro   w8_
    have w8_ := h8   w8_
    refine g_aload_n hF d_X14_init_8 rfl 0 rfl ?_
    refine g_get (v := .int (σ 0 12)) hF 12 obM_0 (by decide) m_1877 rfl d_X14_init_9 ?_
    refine g_if_le hF 16 d_X14_init_12 (by decide) rfl (fun c => ?_) (fun c => ?_)
    · have w2 := w8_.1 c
      refine g_aload_n hF d_X14_init_16 rfl 0 rfl ?_
      refine g_get (v := .int (σ 0 39)) hF 39 obM_0 (by decide) m_1904 rfl d_X14_init_17 ?_
      refine g_iconst hF (v := 3) d_X14_init_20 (by decide) ?_
      refine g_iadd hF d_X14_init_21 ?_
      refine g_aload_n hF d_X14_init_22 rfl 0 rfl ?_
      refine g_get (v := .ref (r 25)) hF 38 obM_0 (by decide) m_1903 rfl d_X14_init_23 ?_
      refine g_alen hF arM_25 (fun _ => ⟨1, _, rfl⟩) (v := 196608) (by decide) d_X14_init_26 ?_
      refine g_icmp_le (yv := 196608) hF 77 d_X14_init_27 (by decide) rfl (by decide) (fun c => ?_) (fun c => ?_)
      · have w3 := w2.1 c
        refine g_aload_n hF d_X14_init_77 rfl 0 rfl ?_
        refine g_get (v := .ref (r 25)) hF 38 obM_0 (by decide) m_1903 rfl d_X14_init_78 ?_
        refine g_aload_n hF d_X14_init_81 rfl 0 rfl ?_
        refine g_get (v := .int (σ 0 39)) hF 39 obM_0 (by decide) m_1904 rfl d_X14_init_82 ?_
        refine g_iload_n hF d_X14_init_85 rfl 1 rfl ?_
        have w4 := w3.2
        refine g_iast hF arM_25 (s_in (Nat.le_of_ble_eq_true rfl) w3.1.1 w3.1.2) d_X14_init_86 ?_
        refine g_aload_n hF d_X14_init_87 rfl 0 rfl ?_
        refine g_get (v := .ref (r 25)) hF 38 obM_0 (by decide) m_1903 rfl d_X14_init_88 ?_
        refine g_aload_n hF d_X14_init_91 rfl 0 rfl ?_
        refine g_get (v := .int (σ 0 39)) hF 39 obM_0 (by decide) m_1904 rfl d_X14_init_92 ?_
        refine g_iconst hF (v := 1) d_X14_init_95 (by decide) ?_
        refine g_iadd hF d_X14_init_96 ?_
        refine g_iload_n hF d_X14_init_97 rfl 2 rfl ?_
        have w5 := w4.2
        refine g_iast hF arM_25 (s_in (Nat.le_of_ble_eq_true rfl) w4.1.1 w4.1.2) d_X14_init_98 ?_
        refine g_aload_n hF d_X14_init_99 rfl 0 rfl ?_
        refine g_get (v := .ref (r 25)) hF 38 obM_0 (by decide) m_1903 rfl d_X14_init_100 ?_
        refine g_aload_n hF d_X14_init_103 rfl 0 rfl ?_
        refine g_get (v := .int (σ 0 39)) hF 39 obM_0 (by decide) m_1904 rfl d_X14_init_104 ?_
        refine g_iconst hF (v := 2) d_X14_init_107 (by decide) ?_
        refine g_iadd hF d_X14_init_108 ?_
        refine g_iload_n hF d_X14_init_109 rfl 3 rfl ?_
        have w6 := w5.2
        refine g_iast hF arM_25 (s_in (Nat.le_of_ble_eq_true rfl) w5.1.1 w5.1.2) d_X14_init_110 ?_
        refine g_aload_n hF d_X14_init_111 rfl 0 rfl ?_
        refine g_dup hF d_X14_init_112 rfl ?_
        refine g_get (v := .int (σ 0 39)) hF 39 obM_0 (by decide) m_1904 rfl d_X14_init_113 ?_
        refine g_iconst hF (v := 3) d_X14_init_116 (by decide) ?_
        refine g_iadd hF d_X14_init_117 ?_
        refine g_put (v := ((σ 0 39) + (3 : Int32))) hF 39 obM_0 (by decide) m_1904 rfl rfl rfl d_X14_init_118 ?_
        exact g_vret hF rfl d_X14_init_121 ⟨rfl, w6⟩
      · have w7 := w2.2 c
        refine g_iconst hF (v := 2) d_X14_init_30 (by decide) ?_
        refine g_aload_n hF d_X14_init_31 rfl 0 rfl ?_
        refine g_get (v := .ref (r 25)) hF 38 obM_0 (by decide) m_1903 rfl d_X14_init_32 ?_
        refine g_alen hF arM_25 (fun _ => ⟨1, _, rfl⟩) (v := 196608) (by decide) d_X14_init_35 ?_
        refine g_imul hF d_X14_init_36 ?_
        refine g_top (v := 393216) (by decide) ?_
        exact w7.elim
    · have w8 := w8_.2 c
      exact g_vret hF rfl d_X14_init_15 ⟨rfl, w8⟩
  refine g_if_ne hF 8 d_X14_init_1 (by decide) rfl (fun c => ?_) (fun c => ?_)
  · have w9 := w1.1 c
    exact b8  w9
  · have w10 := w1.2 c
    refine g_iload_n hF d_X14_init_4 rfl 3 rfl ?_
    refine g_if_eq hF 15 d_X14_init_5 (by decide) rfl (fun c => ?_) (fun c => ?_)
    · have w11 := w10.1 c
      exact g_vret hF rfl d_X14_init_15 ⟨rfl, w11⟩
    · have w12 := w10.2 c
      exact b8  w12
def wp_local (a1 : Int32) (σ τ : St) (vs : List Nat) (Q : Int32 → Prop) : Prop :=
  ∃ L7 : Nat → Int32 → Prop, (∃ n, L7 n ((σ 0 53) - (1 : Int32))) ∧ ∀ (n7 : Nat) (x2_7 : Int32), L7 n7 x2_7 → ((x2_7.toInt < 0 → Q ((-1) : Int32)) ∧ (0 ≤ x2_7.toInt → ((0 ≤ x2_7.toInt ∧ x2_7.toInt < 100) ∧ wp_isSame (σ 34 x2_7.toNatClampNeg) a1 σ τ vs (fun v19 => (v19.toInt = 0 → ∃ m, m < n7 ∧ L7 m (x2_7 + (-1))) ∧ (v19.toInt ≠ 0 → ((0 ≤ x2_7.toInt ∧ x2_7.toInt < 100) ∧ Q (σ 35 x2_7.toNatClampNeg)))))))
set_option maxHeartbeats 4000000 in
set_option maxRecDepth 100000 in
theorem ct_local (a : Nat → Nat) (r : Nat → Nat) {a1 : Int32} {σ τ : St} {vs : List Nat} {Q : Int32 → Prop} (hcap : vs.length ≤ CAP) (w : wp_local a1 σ τ vs Q) (l : Launch) (D : va_G) (cy : Nat → ClassId) : Ct l D cy SM r (EM a) y_X14_local (Cond.code y_X14_local b_X14_local 3 (some .int)) 1 [.ref (r 0), .int a1] σ τ vs (QIr σ τ vs Q) QT0 := by
  unfold wp_local at w
  refine Ct_of (EM_ok a) (by decide) (Nat.le_of_ble_eq_true rfl) hcap (fun X hnn hF => ?_)
  show G SM r X σ τ vs [(0, .ref (r 0)), (1, .int a1)] [] 0
  refine g_aload_n hF d_X14_local_0 rfl 0 rfl ?_
  refine g_get (v := .int (σ 0 53)) hF 53 obM_0 (by decide) m_1918 rfl d_X14_local_1 ?_
  refine g_iconst hF (v := 1) d_X14_local_4 (by decide) ?_
  refine g_isub hF d_X14_local_5 ?_
  refine g_istore_n hF [(2, .int ((σ 0 53) - (1 : Int32))), (0, .ref (r 0)), (1, .int a1)] d_X14_local_6 rfl hnn (by decide) rfl ?_
  obtain ⟨L7, ⟨i7, u7⟩, h7⟩ := w
  have b7 : ∀ (n7 : Nat) (x2_7 : Int32), L7 n7 x2_7 → G SM r X σ τ vs [(0, .ref (r 0)), (1, .int a1), (2, .int x2_7)] [] 7 := by
    intro n7
    induction n7 using Nat.strongRecOn with
    | _ n7 ih7 =>
      intro x2_7  w7_
      have w7_ := h7 n7 x2_7  w7_
      refine g_iload_n hF d_X14_local_7 rfl 2 rfl ?_
      refine g_if_lt hF 38 d_X14_local_8 (by decide) rfl (fun c => ?_) (fun c => ?_)
      · have w1 := w7_.1 c
        refine g_iconst hF (v := (-1)) d_X14_local_38 (by decide) ?_
        exact g_iret hF rfl d_X14_local_39 ⟨rfl, rfl, rfl, ((-1) : Int32), rfl, w1⟩
      · have w2 := w7_.2 c
        refine g_aload_n hF d_X14_local_11 rfl 0 rfl ?_
        refine g_aload_n hF d_X14_local_12 rfl 0 rfl ?_
        refine g_get (v := .ref (r 34)) hF 50 obM_0 (by decide) m_1915 rfl d_X14_local_13 ?_
        refine g_iload_n hF d_X14_local_16 rfl 2 rfl ?_
        have w3 := w2.2
        refine g_iald hF arM_34 (s_in (Nat.le_of_ble_eq_true rfl) w2.1.1 w2.1.2) d_X14_local_17 ?_
        refine g_top (v := (σ 34 x2_7.toNatClampNeg)) rfl ?_
        refine g_iload_n hF d_X14_local_18 rfl 1 rfl ?_
        refine g_callV (As := [.int (σ 34 x2_7.toNatClampNeg), .int a1]) (rest := []) hF (fun l D cy => (ct_isSame a r hcap w3) l D cy) (Nat.le_of_ble_eq_true rfl) mV_X14_isSame m_2333 (recv_ob obM_0) rfl rfl (Nat.le_of_ble_eq_true rfl) d_X14_local_19 (krZ (fun v19 hz19 w4 => ?_)) (fun _ _ _ h => h.elim)
        refine g_if_eq hF 32 d_X14_local_22 (by decide) rfl (fun c => ?_) (fun c => ?_)
        · have w5 := w4.1 c
          refine g_iinc hF (x2_7 + (-1)) [(2, .int (x2_7 + (-1))), (0, .ref (r 0)), (1, .int a1)] d_X14_local_32 2 rfl rfl hnn (by decide) rfl ?_
          refine g_goto hF 7 d_X14_local_35 (by decide) ?_
          obtain ⟨m7, hm7, w9⟩ := w5
          exact g_sub (L' := [(0, .ref (r 0)), (1, .int a1), (2, .int (x2_7 + (-1)))]) [1, 2, 0] rfl (ih7 m7 hm7 (x2_7 + (-1)) w9)
        · have w6 := w4.2 c
          refine g_aload_n hF d_X14_local_25 rfl 0 rfl ?_
          refine g_get (v := .ref (r 35)) hF 51 obM_0 (by decide) m_1916 rfl d_X14_local_26 ?_
          refine g_iload_n hF d_X14_local_29 rfl 2 rfl ?_
          have w7 := w6.2
          refine g_iald hF arM_35 (s_in (Nat.le_of_ble_eq_true rfl) w6.1.1 w6.1.2) d_X14_local_30 ?_
          refine g_top (v := (σ 35 x2_7.toNatClampNeg)) rfl ?_
          exact g_iret hF rfl d_X14_local_31 ⟨rfl, rfl, rfl, (σ 35 x2_7.toNatClampNeg), rfl, w7⟩
  exact g_sub (L' := [(0, .ref (r 0)), (1, .int a1), (2, .int ((σ 0 53) - (1 : Int32)))]) [1, 2, 0] rfl (b7 i7 ((σ 0 53) - (1 : Int32)) u7)
def wp_fits (a0 : Nat) (a1 : Int32) (σ τ : St) (vs : List Nat) (Q : Int32 → Prop) : Prop :=
  (a0 ∈ vs ∧ ((τ a0 0).toInt = a1.toInt → Q (1 : Int32)) ∧ ((τ a0 0).toInt ≠ a1.toInt → (a1.toInt ≤ 0 → Q (0 : Int32)) ∧ (0 < a1.toInt → ((τ a0 5).toInt = 0 → Q (0 : Int32)) ∧ ((τ a0 5).toInt ≠ 0 → Q (1 : Int32)))))
set_option maxHeartbeats 4000000 in
set_option maxRecDepth 100000 in
theorem ct_fits (a : Nat → Nat) (r : Nat → Nat) {a0 : Nat} {a1 : Int32} {σ τ : St} {vs : List Nat} {Q : Int32 → Prop} (hcap : vs.length ≤ CAP) (w : wp_fits a0 a1 σ τ vs Q) (l : Launch) (D : va_G) (cy : Nat → ClassId) : Ct l D cy SM r (EM a) y_X14_fits (Cond.code y_X14_fits b_X14_fits 2 (some .boolean)) 0 [.ref a0, .int a1] σ τ vs (QZr σ τ vs Q) QT0 := by
  unfold wp_fits at w
  refine Ct_of (EM_ok a) (by decide) (Nat.le_of_ble_eq_true rfl) hcap (fun X hnn hF => ?_)
  show G SM r X σ τ vs [(0, .ref a0), (1, .int a1)] [] 0
  refine g_aload_n hF d_X14_fits_0 rfl 0 rfl ?_
  obtain ⟨hm0, w1⟩ := w
  refine g_vget hF 0 hm0 clsVC (by decide) m_2400 d_X14_fits_1 ?_
  refine g_top (v := (τ a0 0)) rfl ?_
  refine g_iload_n hF d_X14_fits_4 rfl 1 rfl ?_
  refine g_icmp_eq hF 19 d_X14_fits_5 (by decide) rfl rfl (fun c => ?_) (fun c => ?_)
  · have w2 := w1.1 c
    refine g_iconst hF (v := 1) d_X14_fits_19 (by decide) ?_
    refine g_goto hF 24 d_X14_fits_20 (by decide) ?_
    exact g_zret hF rfl (k_nz (Or.inr rfl)) d_X14_fits_24 ⟨rfl, rfl, rfl, (1 : Int32), rfl, (Or.inr rfl), w2⟩
  · have w3 := w1.2 c
    refine g_iload_n hF d_X14_fits_8 rfl 1 rfl ?_
    refine g_if_le hF 23 d_X14_fits_9 (by decide) rfl (fun c => ?_) (fun c => ?_)
    · have w4 := w3.1 c
      refine g_iconst hF (v := 0) d_X14_fits_23 (by decide) ?_
      exact g_zret hF rfl (k_nz (Or.inl rfl)) d_X14_fits_24 ⟨rfl, rfl, rfl, (0 : Int32), rfl, (Or.inl rfl), w4⟩
    · have w5 := w3.2 c
      refine g_aload_n hF d_X14_fits_12 rfl 0 rfl ?_
      refine g_vget hF 5 hm0 clsVC (by decide) m_2406 d_X14_fits_13 ?_
      refine g_top (v := (τ a0 5)) rfl ?_
      refine g_if_eq hF 23 d_X14_fits_16 (by decide) rfl (fun c => ?_) (fun c => ?_)
      · have w6 := w5.1 c
        refine g_iconst hF (v := 0) d_X14_fits_23 (by decide) ?_
        exact g_zret hF rfl (k_nz (Or.inl rfl)) d_X14_fits_24 ⟨rfl, rfl, rfl, (0 : Int32), rfl, (Or.inl rfl), w6⟩
      · have w7 := w5.2 c
        refine g_iconst hF (v := 1) d_X14_fits_19 (by decide) ?_
        refine g_goto hF 24 d_X14_fits_20 (by decide) ?_
        exact g_zret hF rfl (k_nz (Or.inr rfl)) d_X14_fits_24 ⟨rfl, rfl, rfl, (1 : Int32), rfl, (Or.inr rfl), w7⟩
def wp_rank (a0 : Int32) (σ τ : St) (vs : List Nat) (Q : Int32 → Prop) : Prop :=
  (a0.toInt ≠ 10 → (a0.toInt ≠ 11 → (a0.toInt ≠ 31 → (a0.toInt ≠ 32 → (a0.toInt ≠ 33 → (a0.toInt = 12 → Q (6 : Int32)) ∧ (a0.toInt ≠ 12 → (a0.toInt ≠ 13 → (a0.toInt = 14 → Q (7 : Int32)) ∧ (a0.toInt ≠ 14 → (a0.toInt = 15 → Q (7 : Int32)) ∧ (a0.toInt ≠ 15 → (a0.toInt = 34 → Q (7 : Int32)) ∧ (a0.toInt ≠ 34 → (a0.toInt ≠ 35 → (a0.toInt = 16 → Q (8 : Int32)) ∧ (a0.toInt ≠ 16 → (a0.toInt ≠ 17 → (a0.toInt = 36 → Q (9 : Int32)) ∧ (a0.toInt ≠ 36 → (a0.toInt ≠ 37 → (a0.toInt = 38 → Q (10 : Int32)) ∧ (a0.toInt ≠ 38 → (a0.toInt = 39 → Q (10 : Int32)) ∧ (a0.toInt ≠ 39 → (a0.toInt ≠ 40 → Q (0 : Int32)) ∧ (a0.toInt = 40 → Q (10 : Int32))))) ∧ (a0.toInt = 37 → Q (9 : Int32)))) ∧ (a0.toInt = 17 → Q (8 : Int32)))) ∧ (a0.toInt = 35 → Q (7 : Int32)))))) ∧ (a0.toInt = 13 → Q (6 : Int32)))) ∧ (a0.toInt = 33 → Q (5 : Int32))) ∧ (a0.toInt = 32 → Q (4 : Int32))) ∧ (a0.toInt = 31 → Q (3 : Int32))) ∧ (a0.toInt = 11 → Q (2 : Int32))) ∧ (a0.toInt = 10 → Q (1 : Int32))
set_option maxHeartbeats 4000000 in
set_option maxRecDepth 100000 in
theorem ct_rank (a : Nat → Nat) (r : Nat → Nat) {a0 : Int32} {σ τ : St} {vs : List Nat} {Q : Int32 → Prop} (hcap : vs.length ≤ CAP) (w : wp_rank a0 σ τ vs Q) (l : Launch) (D : va_G) (cy : Nat → ClassId) : Ct l D cy SM r (EM a) y_X14_rank (Cond.code y_X14_rank b_X14_rank 1 (some .int)) 0 [.int a0] σ τ vs (QIr σ τ vs Q) QT0 := by
  unfold wp_rank at w
  refine Ct_of (EM_ok a) (by decide) (Nat.le_of_ble_eq_true rfl) hcap (fun X hnn hF => ?_)
  show G SM r X σ τ vs [(0, .int a0)] [] 0
  refine g_iload_n hF d_X14_rank_0 rfl 0 rfl ?_
  refine g_bipush hF (v := 10) d_X14_rank_1 (by decide) ?_
  refine g_icmp_ne (yv := 10) hF 8 d_X14_rank_3 (by decide) rfl (by decide) (fun c => ?_) (fun c => ?_)
  · have w1 := w.1 c
    refine g_iload_n hF d_X14_rank_8 rfl 0 rfl ?_
    refine g_bipush hF (v := 11) d_X14_rank_9 (by decide) ?_
    refine g_icmp_ne (yv := 11) hF 16 d_X14_rank_11 (by decide) rfl (by decide) (fun c => ?_) (fun c => ?_)
    · have w2 := w1.1 c
      refine g_iload_n hF d_X14_rank_16 rfl 0 rfl ?_
      refine g_bipush hF (v := 31) d_X14_rank_17 (by decide) ?_
      refine g_icmp_ne (yv := 31) hF 24 d_X14_rank_19 (by decide) rfl (by decide) (fun c => ?_) (fun c => ?_)
      · have w3 := w2.1 c
        refine g_iload_n hF d_X14_rank_24 rfl 0 rfl ?_
        refine g_bipush hF (v := 32) d_X14_rank_25 (by decide) ?_
        refine g_icmp_ne (yv := 32) hF 32 d_X14_rank_27 (by decide) rfl (by decide) (fun c => ?_) (fun c => ?_)
        · have w4 := w3.1 c
          refine g_iload_n hF d_X14_rank_32 rfl 0 rfl ?_
          refine g_bipush hF (v := 33) d_X14_rank_33 (by decide) ?_
          refine g_icmp_ne (yv := 33) hF 40 d_X14_rank_35 (by decide) rfl (by decide) (fun c => ?_) (fun c => ?_)
          · have w5 := w4.1 c
            refine g_iload_n hF d_X14_rank_40 rfl 0 rfl ?_
            refine g_bipush hF (v := 12) d_X14_rank_41 (by decide) ?_
            refine g_icmp_eq (yv := 12) hF 52 d_X14_rank_43 (by decide) rfl (by decide) (fun c => ?_) (fun c => ?_)
            · have w6 := w5.1 c
              refine g_bipush hF (v := 6) d_X14_rank_52 (by decide) ?_
              exact g_iret hF rfl d_X14_rank_54 ⟨rfl, rfl, rfl, (6 : Int32), rfl, w6⟩
            · have w7 := w5.2 c
              refine g_iload_n hF d_X14_rank_46 rfl 0 rfl ?_
              refine g_bipush hF (v := 13) d_X14_rank_47 (by decide) ?_
              refine g_icmp_ne (yv := 13) hF 55 d_X14_rank_49 (by decide) rfl (by decide) (fun c => ?_) (fun c => ?_)
              · have w8 := w7.1 c
                refine g_iload_n hF d_X14_rank_55 rfl 0 rfl ?_
                refine g_bipush hF (v := 14) d_X14_rank_56 (by decide) ?_
                refine g_icmp_eq (yv := 14) hF 79 d_X14_rank_58 (by decide) rfl (by decide) (fun c => ?_) (fun c => ?_)
                · have w9 := w8.1 c
                  refine g_bipush hF (v := 7) d_X14_rank_79 (by decide) ?_
                  exact g_iret hF rfl d_X14_rank_81 ⟨rfl, rfl, rfl, (7 : Int32), rfl, w9⟩
                · have w10 := w8.2 c
                  refine g_iload_n hF d_X14_rank_61 rfl 0 rfl ?_
                  refine g_bipush hF (v := 15) d_X14_rank_62 (by decide) ?_
                  refine g_icmp_eq (yv := 15) hF 79 d_X14_rank_64 (by decide) rfl (by decide) (fun c => ?_) (fun c => ?_)
                  · have w11 := w10.1 c
                    refine g_bipush hF (v := 7) d_X14_rank_79 (by decide) ?_
                    exact g_iret hF rfl d_X14_rank_81 ⟨rfl, rfl, rfl, (7 : Int32), rfl, w11⟩
                  · have w12 := w10.2 c
                    refine g_iload_n hF d_X14_rank_67 rfl 0 rfl ?_
                    refine g_bipush hF (v := 34) d_X14_rank_68 (by decide) ?_
                    refine g_icmp_eq (yv := 34) hF 79 d_X14_rank_70 (by decide) rfl (by decide) (fun c => ?_) (fun c => ?_)
                    · have w13 := w12.1 c
                      refine g_bipush hF (v := 7) d_X14_rank_79 (by decide) ?_
                      exact g_iret hF rfl d_X14_rank_81 ⟨rfl, rfl, rfl, (7 : Int32), rfl, w13⟩
                    · have w14 := w12.2 c
                      refine g_iload_n hF d_X14_rank_73 rfl 0 rfl ?_
                      refine g_bipush hF (v := 35) d_X14_rank_74 (by decide) ?_
                      refine g_icmp_ne (yv := 35) hF 82 d_X14_rank_76 (by decide) rfl (by decide) (fun c => ?_) (fun c => ?_)
                      · have w15 := w14.1 c
                        refine g_iload_n hF d_X14_rank_82 rfl 0 rfl ?_
                        refine g_bipush hF (v := 16) d_X14_rank_83 (by decide) ?_
                        refine g_icmp_eq (yv := 16) hF 94 d_X14_rank_85 (by decide) rfl (by decide) (fun c => ?_) (fun c => ?_)
                        · have w16 := w15.1 c
                          refine g_bipush hF (v := 8) d_X14_rank_94 (by decide) ?_
                          exact g_iret hF rfl d_X14_rank_96 ⟨rfl, rfl, rfl, (8 : Int32), rfl, w16⟩
                        · have w17 := w15.2 c
                          refine g_iload_n hF d_X14_rank_88 rfl 0 rfl ?_
                          refine g_bipush hF (v := 17) d_X14_rank_89 (by decide) ?_
                          refine g_icmp_ne (yv := 17) hF 97 d_X14_rank_91 (by decide) rfl (by decide) (fun c => ?_) (fun c => ?_)
                          · have w18 := w17.1 c
                            refine g_iload_n hF d_X14_rank_97 rfl 0 rfl ?_
                            refine g_bipush hF (v := 36) d_X14_rank_98 (by decide) ?_
                            refine g_icmp_eq (yv := 36) hF 109 d_X14_rank_100 (by decide) rfl (by decide) (fun c => ?_) (fun c => ?_)
                            · have w19 := w18.1 c
                              refine g_bipush hF (v := 9) d_X14_rank_109 (by decide) ?_
                              exact g_iret hF rfl d_X14_rank_111 ⟨rfl, rfl, rfl, (9 : Int32), rfl, w19⟩
                            · have w20 := w18.2 c
                              refine g_iload_n hF d_X14_rank_103 rfl 0 rfl ?_
                              refine g_bipush hF (v := 37) d_X14_rank_104 (by decide) ?_
                              refine g_icmp_ne (yv := 37) hF 112 d_X14_rank_106 (by decide) rfl (by decide) (fun c => ?_) (fun c => ?_)
                              · have w21 := w20.1 c
                                refine g_iload_n hF d_X14_rank_112 rfl 0 rfl ?_
                                refine g_bipush hF (v := 38) d_X14_rank_113 (by decide) ?_
                                refine g_icmp_eq (yv := 38) hF 130 d_X14_rank_115 (by decide) rfl (by decide) (fun c => ?_) (fun c => ?_)
                                · have w22 := w21.1 c
                                  refine g_bipush hF (v := 10) d_X14_rank_130 (by decide) ?_
                                  refine g_goto hF 136 d_X14_rank_132 (by decide) ?_
                                  exact g_iret hF rfl d_X14_rank_136 ⟨rfl, rfl, rfl, (10 : Int32), rfl, w22⟩
                                · have w23 := w21.2 c
                                  refine g_iload_n hF d_X14_rank_118 rfl 0 rfl ?_
                                  refine g_bipush hF (v := 39) d_X14_rank_119 (by decide) ?_
                                  refine g_icmp_eq (yv := 39) hF 130 d_X14_rank_121 (by decide) rfl (by decide) (fun c => ?_) (fun c => ?_)
                                  · have w24 := w23.1 c
                                    refine g_bipush hF (v := 10) d_X14_rank_130 (by decide) ?_
                                    refine g_goto hF 136 d_X14_rank_132 (by decide) ?_
                                    exact g_iret hF rfl d_X14_rank_136 ⟨rfl, rfl, rfl, (10 : Int32), rfl, w24⟩
                                  · have w25 := w23.2 c
                                    refine g_iload_n hF d_X14_rank_124 rfl 0 rfl ?_
                                    refine g_bipush hF (v := 40) d_X14_rank_125 (by decide) ?_
                                    refine g_icmp_ne (yv := 40) hF 135 d_X14_rank_127 (by decide) rfl (by decide) (fun c => ?_) (fun c => ?_)
                                    · have w26 := w25.1 c
                                      refine g_iconst hF (v := 0) d_X14_rank_135 (by decide) ?_
                                      exact g_iret hF rfl d_X14_rank_136 ⟨rfl, rfl, rfl, (0 : Int32), rfl, w26⟩
                                    · have w27 := w25.2 c
                                      refine g_bipush hF (v := 10) d_X14_rank_130 (by decide) ?_
                                      refine g_goto hF 136 d_X14_rank_132 (by decide) ?_
                                      exact g_iret hF rfl d_X14_rank_136 ⟨rfl, rfl, rfl, (10 : Int32), rfl, w27⟩
                              · have w28 := w20.2 c
                                refine g_bipush hF (v := 9) d_X14_rank_109 (by decide) ?_
                                exact g_iret hF rfl d_X14_rank_111 ⟨rfl, rfl, rfl, (9 : Int32), rfl, w28⟩
                          · have w29 := w17.2 c
                            refine g_bipush hF (v := 8) d_X14_rank_94 (by decide) ?_
                            exact g_iret hF rfl d_X14_rank_96 ⟨rfl, rfl, rfl, (8 : Int32), rfl, w29⟩
                      · have w30 := w14.2 c
                        refine g_bipush hF (v := 7) d_X14_rank_79 (by decide) ?_
                        exact g_iret hF rfl d_X14_rank_81 ⟨rfl, rfl, rfl, (7 : Int32), rfl, w30⟩
              · have w31 := w7.2 c
                refine g_bipush hF (v := 6) d_X14_rank_52 (by decide) ?_
                exact g_iret hF rfl d_X14_rank_54 ⟨rfl, rfl, rfl, (6 : Int32), rfl, w31⟩
          · have w32 := w4.2 c
            refine g_iconst hF (v := 5) d_X14_rank_38 (by decide) ?_
            exact g_iret hF rfl d_X14_rank_39 ⟨rfl, rfl, rfl, (5 : Int32), rfl, w32⟩
        · have w33 := w3.2 c
          refine g_iconst hF (v := 4) d_X14_rank_30 (by decide) ?_
          exact g_iret hF rfl d_X14_rank_31 ⟨rfl, rfl, rfl, (4 : Int32), rfl, w33⟩
      · have w34 := w2.2 c
        refine g_iconst hF (v := 3) d_X14_rank_22 (by decide) ?_
        exact g_iret hF rfl d_X14_rank_23 ⟨rfl, rfl, rfl, (3 : Int32), rfl, w34⟩
    · have w35 := w1.2 c
      refine g_iconst hF (v := 2) d_X14_rank_14 (by decide) ?_
      exact g_iret hF rfl d_X14_rank_15 ⟨rfl, rfl, rfl, (2 : Int32), rfl, w35⟩
  · have w36 := w.2 c
    refine g_iconst hF (v := 1) d_X14_rank_6 (by decide) ?_
    exact g_iret hF rfl d_X14_rank_7 ⟨rfl, rfl, rfl, (1 : Int32), rfl, w36⟩
def wp_aim (a1 : Int32) (σ τ : St) (vs : List Nat) (Q : St → St → List Nat → Prop) : Prop :=
  ((0 ≤ a1.toInt ∧ a1.toInt < 524288) ∧ Q (upC σ 8 a1.toNatClampNeg (σ 0 17)) τ vs)
set_option maxHeartbeats 4000000 in
set_option maxRecDepth 100000 in
theorem ct_aim (a : Nat → Nat) (r : Nat → Nat) {a1 : Int32} {σ τ : St} {vs : List Nat} {Q : St → St → List Nat → Prop} (hcap : vs.length ≤ CAP) (w : wp_aim a1 σ τ vs Q) (l : Launch) (D : va_G) (cy : Nat → ClassId) : Ct l D cy SM r (EM a) y_X14_aim (Cond.code y_X14_aim b_X14_aim 2 none) 0 [.ref (r 0), .int a1] σ τ vs (QVs Q) QT0 := by
  unfold wp_aim at w
  refine Ct_of (EM_ok a) (by decide) (Nat.le_of_ble_eq_true rfl) hcap (fun X hnn hF => ?_)
  show G SM r X σ τ vs [(0, .ref (r 0)), (1, .int a1)] [] 0
  refine g_aload_n hF d_X14_aim_0 rfl 0 rfl ?_
  refine g_get (v := .ref (r 8)) hF 16 obM_0 (by decide) m_1881 rfl d_X14_aim_1 ?_
  refine g_iload_n hF d_X14_aim_4 rfl 1 rfl ?_
  refine g_aload_n hF d_X14_aim_5 rfl 0 rfl ?_
  refine g_get (v := .int (σ 0 17)) hF 17 obM_0 (by decide) m_1882 rfl d_X14_aim_6 ?_
  have w1 := w.2
  refine g_iast hF arM_8 (s_in (Nat.le_of_ble_eq_true rfl) w.1.1 w.1.2) d_X14_aim_9 ?_
  exact g_vret hF rfl d_X14_aim_10 ⟨rfl, w1⟩
def wp_typeOf (a0 : Int32) (a1 : Nat) (a2 : Nat) (σ τ : St) (vs : List Nat) (Q : Int32 → Prop) : Prop :=
  wp_isInt a1 σ τ vs (fun v1 => (∃ J19 : Int32 → Prop, (∀ (y0_19 : Int32), y0_19 = 0 ∨ y0_19 = 1 → J19 y0_19 → (wp_isPointer a1 σ τ vs (fun v21 => (∃ J43 : Int32 → Prop, (∀ (y0_43 : Int32), y0_43 = 0 ∨ y0_43 = 1 → J43 y0_43 → ((a0.toInt ≠ 36 → (a0.toInt ≠ 37 → (∃ J159 : Prop, (J159  → ((y0_19.toInt ≠ 0 → Q (0 : Int32)) ∧ (y0_19.toInt = 0 → (y0_43.toInt ≠ 0 → Q (0 : Int32)) ∧ (y0_43.toInt = 0 → wp_isPointer a1 σ τ vs (fun v169 => (∃ J182 : Prop, (J182  → (wp_isPointer a2 σ τ vs (fun v183 => (v183.toInt = 0 → Q ((-2) : Int32)) ∧ (v183.toInt ≠ 0 → (a1 ∈ vs ∧ ((τ a1 5).toInt = 0 → Q ((-2) : Int32)) ∧ ((τ a1 5).toInt ≠ 0 → Q (0 : Int32))))))) ∧ (v169.toInt = 0 → J182) ∧ (v169.toInt ≠ 0 → (a2 ∈ vs ∧ ((τ a2 5).toInt ≠ 0 → Q (0 : Int32)) ∧ ((τ a2 5).toInt = 0 → J182))))))))) ∧ (a0.toInt = 12 → J159) ∧ (a0.toInt ≠ 12 → (a0.toInt ≠ 13 → wp_rank a0 σ τ vs (fun v204 => (v204.toInt ≠ 7 → (y0_19.toInt = 0 → Q ((-2) : Int32)) ∧ (y0_19.toInt ≠ 0 → Q (0 : Int32))) ∧ (v204.toInt = 7 → (y0_19.toInt ≠ 0 → Q (0 : Int32)) ∧ (y0_19.toInt = 0 → (y0_43.toInt = 0 → Q ((-2) : Int32)) ∧ (y0_43.toInt ≠ 0 → Q (0 : Int32)))))) ∧ (a0.toInt = 13 → J159)))) ∧ (a0.toInt = 37 → (y0_19.toInt ≠ 0 → Q (0 : Int32)) ∧ (y0_19.toInt = 0 → (y0_43.toInt = 0 → wp_isPointer a1 σ τ vs (fun v124 => (v124.toInt = 0 → Q ((-2) : Int32)) ∧ (v124.toInt ≠ 0 → wp_isInt a2 σ τ vs (fun v131 => (v131.toInt = 0 → Q ((-2) : Int32)) ∧ (v131.toInt ≠ 0 → (a1 ∈ vs ∧ Q (τ a1 0))))))) ∧ (y0_43.toInt ≠ 0 → Q (0 : Int32))))) ∧ (a0.toInt = 36 → (y0_19.toInt = 0 → wp_isPointer a1 σ τ vs (fun v60 => (∃ J80 : Prop, (J80  → (wp_isInt a1 σ τ vs (fun v81 => (v81.toInt = 0 → Q ((-2) : Int32)) ∧ (v81.toInt ≠ 0 → wp_isPointer a2 σ τ vs (fun v88 => (v88.toInt = 0 → Q ((-2) : Int32)) ∧ (v88.toInt ≠ 0 → (a2 ∈ vs ∧ Q (τ a2 0)))))))) ∧ (v60.toInt = 0 → J80) ∧ (v60.toInt ≠ 0 → wp_isInt a2 σ τ vs (fun v67 => (v67.toInt = 0 → J80) ∧ (v67.toInt ≠ 0 → (a1 ∈ vs ∧ Q (τ a1 0)))))))) ∧ (y0_19.toInt ≠ 0 → Q (0 : Int32))))) ∧ (∃ J42 : Prop, (J42  → (J43 (0 : Int32))) ∧ (v21.toInt = 0 → J42) ∧ (v21.toInt ≠ 0 → (a1 ∈ vs ∧ (a2 ∈ vs ∧ ((τ a1 0).toInt ≠ (τ a2 0).toInt → J42) ∧ ((τ a1 0).toInt = (τ a2 0).toInt → J43 (1 : Int32)))))))))) ∧ (∃ J18 : Prop, (J18  → (J19 (0 : Int32))) ∧ (v1.toInt = 0 → J18) ∧ (v1.toInt ≠ 0 → wp_isInt a2 σ τ vs (fun v8 => (v8.toInt = 0 → J18) ∧ (v8.toInt ≠ 0 → J19 (1 : Int32)))))))
set_option maxHeartbeats 4000000 in
set_option maxRecDepth 100000 in
theorem ct_typeOf (a : Nat → Nat) (r : Nat → Nat) {a0 : Int32} {a1 : Nat} {a2 : Nat} {σ τ : St} {vs : List Nat} {Q : Int32 → Prop} (hcap : vs.length ≤ CAP) (w : wp_typeOf a0 a1 a2 σ τ vs Q) (l : Launch) (D : va_G) (cy : Nat → ClassId) : Ct l D cy SM r (EM a) y_X14_typeOf (Cond.code y_X14_typeOf b_X14_typeOf 5 (some .int)) 1 [.int a0, .ref a1, .ref a2] σ τ vs (QIr σ τ vs Q) QT0 := by
  unfold wp_typeOf at w
  refine Ct_of (EM_ok a) (by decide) (Nat.le_of_ble_eq_true rfl) hcap (fun X hnn hF => ?_)
  show G SM r X σ τ vs [(0, .int a0), (1, .ref a1), (2, .ref a2)] [] 0
  refine g_aload_n hF d_X14_typeOf_0 rfl 1 rfl ?_
  refine g_callS (As := [.ref a1]) (rest := []) hF (fun l D cy => (ct_isInt a r hcap w) l D cy) (Nat.le_of_ble_eq_true rfl) mS_X14_isInt m_2471 rfl rfl (Nat.le_of_ble_eq_true rfl) d_X14_typeOf_1 (krZ (fun v1 hz1 w1 => ?_)) (fun _ _ _ h => h.elim)
  obtain ⟨J19, h19, w2⟩ := w1
  have b19 : ∀ (y0_19 : Int32), y0_19 = 0 ∨ y0_19 = 1 → J19 y0_19 → G SM r X σ τ vs [(0, .int a0), (1, .ref a1), (2, .ref a2)] [.int y0_19] 19 := by
    intro y0_19 hy0_19 w19_
    have w19_ := h19 y0_19 hy0_19 w19_
    refine g_istore_n hF [(3, .int y0_19), (0, .int a0), (1, .ref a1), (2, .ref a2)] d_X14_typeOf_19 rfl hnn (by decide) rfl ?_
    refine g_aload_n hF d_X14_typeOf_20 rfl 2 rfl ?_
    refine g_callS (As := [.ref a1]) (rest := []) hF (fun l D cy => (ct_isPointer a r hcap w19_) l D cy) (Nat.le_of_ble_eq_true rfl) mS_X14_isPointer m_2461 rfl rfl (Nat.le_of_ble_eq_true rfl) d_X14_typeOf_21 (krZ (fun v21 hz21 w3 => ?_)) (fun _ _ _ h => h.elim)
    obtain ⟨J43, h43, w4⟩ := w3
    have b43 : ∀ (y0_43 : Int32), y0_43 = 0 ∨ y0_43 = 1 → J43 y0_43 → G SM r X σ τ vs [(0, .int a0), (1, .ref a1), (2, .ref a2), (3, .int y0_19)] [.int y0_43] 43 := by
      intro y0_43 hy0_43 w43_
      have w43_ := h43 y0_43 hy0_43 w43_
      refine g_istore hF [(4, .int y0_43), (0, .int a0), (1, .ref a1), (2, .ref a2), (3, .int y0_19)] d_X14_typeOf_43 hnn (by decide) rfl ?_
      refine g_iload_n hF d_X14_typeOf_45 rfl 1 rfl ?_
      refine g_bipush hF (v := 36) d_X14_typeOf_46 (by decide) ?_
      refine g_icmp_ne (yv := 36) hF 104 d_X14_typeOf_48 (by decide) rfl (by decide) (fun c => ?_) (fun c => ?_)
      · have w5 := w43_.1 c
        refine g_iload_n hF d_X14_typeOf_104 rfl 1 rfl ?_
        refine g_bipush hF (v := 37) d_X14_typeOf_105 (by decide) ?_
        refine g_icmp_ne (yv := 37) hF 147 d_X14_typeOf_107 (by decide) rfl (by decide) (fun c => ?_) (fun c => ?_)
        · have w6 := w5.1 c
          refine g_iload_n hF d_X14_typeOf_147 rfl 1 rfl ?_
          refine g_bipush hF (v := 12) d_X14_typeOf_148 (by decide) ?_
          obtain ⟨J159, h159, w7⟩ := w6
          have b159 : J159  → G SM r X σ τ vs [(1, .ref a1), (2, .ref a2), (3, .int y0_19), (4, .int y0_43)] [] 159 := by
            intro   w159_
            have w159_ := h159   w159_
            refine g_iload_n hF d_X14_typeOf_159 rfl 2 rfl ?_
            refine g_if_ne hF 196 d_X14_typeOf_160 (by decide) rfl (fun c => ?_) (fun c => ?_)
            · have w8 := w159_.1 c
              refine g_iconst hF (v := 0) d_X14_typeOf_196 (by decide) ?_
              refine g_goto hF 202 d_X14_typeOf_197 (by decide) ?_
              exact g_iret hF rfl d_X14_typeOf_202 ⟨rfl, rfl, rfl, (0 : Int32), rfl, w8⟩
            · have w9 := w159_.2 c
              refine g_iload hF d_X14_typeOf_163 3 rfl ?_
              refine g_if_ne hF 196 d_X14_typeOf_165 (by decide) rfl (fun c => ?_) (fun c => ?_)
              · have w10 := w9.1 c
                refine g_iconst hF (v := 0) d_X14_typeOf_196 (by decide) ?_
                refine g_goto hF 202 d_X14_typeOf_197 (by decide) ?_
                exact g_iret hF rfl d_X14_typeOf_202 ⟨rfl, rfl, rfl, (0 : Int32), rfl, w10⟩
              · have w11 := w9.2 c
                refine g_aload_n hF d_X14_typeOf_168 rfl 0 rfl ?_
                refine g_callS (As := [.ref a1]) (rest := []) hF (fun l D cy => (ct_isPointer a r hcap w11) l D cy) (Nat.le_of_ble_eq_true rfl) mS_X14_isPointer m_2461 rfl rfl (Nat.le_of_ble_eq_true rfl) d_X14_typeOf_169 (krZ (fun v169 hz169 w12 => ?_)) (fun _ _ _ h => h.elim)
                obtain ⟨J182, h182, w13⟩ := w12
                have b182 : J182  → G SM r X σ τ vs [(1, .ref a1), (2, .ref a2)] [] 182 := by
                  intro   w182_
                  have w182_ := h182   w182_
                  refine g_aload_n hF d_X14_typeOf_182 rfl 1 rfl ?_
                  refine g_callS (As := [.ref a2]) (rest := []) hF (fun l D cy => (ct_isPointer a r hcap w182_) l D cy) (Nat.le_of_ble_eq_true rfl) mS_X14_isPointer m_2461 rfl rfl (Nat.le_of_ble_eq_true rfl) d_X14_typeOf_183 (krZ (fun v183 hz183 w14 => ?_)) (fun _ _ _ h => h.elim)
                  refine g_if_eq hF 200 d_X14_typeOf_186 (by decide) rfl (fun c => ?_) (fun c => ?_)
                  · have w15 := w14.1 c
                    refine g_bipush hF (v := (-2)) d_X14_typeOf_200 (by decide) ?_
                    exact g_iret hF rfl d_X14_typeOf_202 ⟨rfl, rfl, rfl, ((-2) : Int32), rfl, w15⟩
                  · have w16 := w14.2 c
                    refine g_aload_n hF d_X14_typeOf_189 rfl 0 rfl ?_
                    obtain ⟨hm16, w17⟩ := w16
                    refine g_vget hF 5 hm16 clsVC (by decide) m_2406 d_X14_typeOf_190 ?_
                    refine g_top (v := (τ a1 5)) rfl ?_
                    refine g_if_eq hF 200 d_X14_typeOf_193 (by decide) rfl (fun c => ?_) (fun c => ?_)
                    · have w18 := w17.1 c
                      refine g_bipush hF (v := (-2)) d_X14_typeOf_200 (by decide) ?_
                      exact g_iret hF rfl d_X14_typeOf_202 ⟨rfl, rfl, rfl, ((-2) : Int32), rfl, w18⟩
                    · have w19 := w17.2 c
                      refine g_iconst hF (v := 0) d_X14_typeOf_196 (by decide) ?_
                      refine g_goto hF 202 d_X14_typeOf_197 (by decide) ?_
                      exact g_iret hF rfl d_X14_typeOf_202 ⟨rfl, rfl, rfl, (0 : Int32), rfl, w19⟩
                refine g_if_eq hF 182 d_X14_typeOf_172 (by decide) rfl (fun c => ?_) (fun c => ?_)
                · have w20 := w13.1 c
                  exact g_sub (L' := [(1, .ref a1), (2, .ref a2)]) [0, 1] rfl (b182  w20)
                · have w21 := w13.2 c
                  refine g_aload_n hF d_X14_typeOf_175 rfl 1 rfl ?_
                  obtain ⟨hm21, w22⟩ := w21
                  refine g_vget hF 5 hm21 clsVC (by decide) m_2406 d_X14_typeOf_176 ?_
                  refine g_top (v := (τ a2 5)) rfl ?_
                  refine g_if_ne hF 196 d_X14_typeOf_179 (by decide) rfl (fun c => ?_) (fun c => ?_)
                  · have w23 := w22.1 c
                    refine g_iconst hF (v := 0) d_X14_typeOf_196 (by decide) ?_
                    refine g_goto hF 202 d_X14_typeOf_197 (by decide) ?_
                    exact g_iret hF rfl d_X14_typeOf_202 ⟨rfl, rfl, rfl, (0 : Int32), rfl, w23⟩
                  · have w24 := w22.2 c
                    exact g_sub (L' := [(1, .ref a1), (2, .ref a2)]) [0, 1] rfl (b182  w24)
          refine g_icmp_eq (yv := 12) hF 159 d_X14_typeOf_150 (by decide) rfl (by decide) (fun c => ?_) (fun c => ?_)
          · have w25 := w7.1 c
            exact g_sub (L' := [(1, .ref a1), (2, .ref a2), (3, .int y0_19), (4, .int y0_43)]) [2, 3, 4, 0] rfl (b159  w25)
          · have w26 := w7.2 c
            refine g_iload_n hF d_X14_typeOf_153 rfl 1 rfl ?_
            refine g_bipush hF (v := 13) d_X14_typeOf_154 (by decide) ?_
            refine g_icmp_ne (yv := 13) hF 203 d_X14_typeOf_156 (by decide) rfl (by decide) (fun c => ?_) (fun c => ?_)
            · have w27 := w26.1 c
              refine g_iload_n hF d_X14_typeOf_203 rfl 1 rfl ?_
              refine g_callS (As := [.int a0]) (rest := []) hF (fun l D cy => (ct_rank a r hcap w27) l D cy) (Nat.le_of_ble_eq_true rfl) mS_X14_rank m_2513 rfl rfl (Nat.le_of_ble_eq_true rfl) d_X14_typeOf_204 (krI (fun v204 w28 => ?_)) (fun _ _ _ h => h.elim)
              refine g_bipush hF (v := 7) d_X14_typeOf_207 (by decide) ?_
              refine g_icmp_ne (yv := 7) hF 228 d_X14_typeOf_209 (by decide) rfl (by decide) (fun c => ?_) (fun c => ?_)
              · have w29 := w28.1 c
                refine g_iload_n hF d_X14_typeOf_228 rfl 4 rfl ?_
                refine g_if_eq hF 236 d_X14_typeOf_229 (by decide) rfl (fun c => ?_) (fun c => ?_)
                · have w30 := w29.1 c
                  refine g_bipush hF (v := (-2)) d_X14_typeOf_236 (by decide) ?_
                  exact g_iret hF rfl d_X14_typeOf_238 ⟨rfl, rfl, rfl, ((-2) : Int32), rfl, w30⟩
                · have w31 := w29.2 c
                  refine g_iconst hF (v := 0) d_X14_typeOf_232 (by decide) ?_
                  refine g_goto hF 238 d_X14_typeOf_233 (by decide) ?_
                  exact g_iret hF rfl d_X14_typeOf_238 ⟨rfl, rfl, rfl, (0 : Int32), rfl, w31⟩
              · have w32 := w28.2 c
                refine g_iload_n hF d_X14_typeOf_212 rfl 4 rfl ?_
                refine g_if_ne hF 221 d_X14_typeOf_213 (by decide) rfl (fun c => ?_) (fun c => ?_)
                · have w33 := w32.1 c
                  refine g_iconst hF (v := 0) d_X14_typeOf_221 (by decide) ?_
                  refine g_goto hF 227 d_X14_typeOf_222 (by decide) ?_
                  exact g_iret hF rfl d_X14_typeOf_227 ⟨rfl, rfl, rfl, (0 : Int32), rfl, w33⟩
                · have w34 := w32.2 c
                  refine g_iload hF d_X14_typeOf_216 0 rfl ?_
                  refine g_if_eq hF 225 d_X14_typeOf_218 (by decide) rfl (fun c => ?_) (fun c => ?_)
                  · have w35 := w34.1 c
                    refine g_bipush hF (v := (-2)) d_X14_typeOf_225 (by decide) ?_
                    exact g_iret hF rfl d_X14_typeOf_227 ⟨rfl, rfl, rfl, ((-2) : Int32), rfl, w35⟩
                  · have w36 := w34.2 c
                    refine g_iconst hF (v := 0) d_X14_typeOf_221 (by decide) ?_
                    refine g_goto hF 227 d_X14_typeOf_222 (by decide) ?_
                    exact g_iret hF rfl d_X14_typeOf_227 ⟨rfl, rfl, rfl, (0 : Int32), rfl, w36⟩
            · have w37 := w26.2 c
              exact g_sub (L' := [(1, .ref a1), (2, .ref a2), (3, .int y0_19), (4, .int y0_43)]) [2, 3, 4, 0] rfl (b159  w37)
        · have w38 := w5.2 c
          refine g_iload_n hF d_X14_typeOf_110 rfl 4 rfl ?_
          refine g_if_ne hF 119 d_X14_typeOf_111 (by decide) rfl (fun c => ?_) (fun c => ?_)
          · have w39 := w38.1 c
            refine g_iconst hF (v := 0) d_X14_typeOf_119 (by decide) ?_
            refine g_goto hF 146 d_X14_typeOf_120 (by decide) ?_
            exact g_iret hF rfl d_X14_typeOf_146 ⟨rfl, rfl, rfl, (0 : Int32), rfl, w39⟩
          · have w40 := w38.2 c
            refine g_iload hF d_X14_typeOf_114 0 rfl ?_
            refine g_if_eq hF 123 d_X14_typeOf_116 (by decide) rfl (fun c => ?_) (fun c => ?_)
            · have w41 := w40.1 c
              refine g_aload_n hF d_X14_typeOf_123 rfl 2 rfl ?_
              refine g_callS (As := [.ref a1]) (rest := []) hF (fun l D cy => (ct_isPointer a r hcap w41) l D cy) (Nat.le_of_ble_eq_true rfl) mS_X14_isPointer m_2461 rfl rfl (Nat.le_of_ble_eq_true rfl) d_X14_typeOf_124 (krZ (fun v124 hz124 w42 => ?_)) (fun _ _ _ h => h.elim)
              refine g_if_eq hF 144 d_X14_typeOf_127 (by decide) rfl (fun c => ?_) (fun c => ?_)
              · have w43 := w42.1 c
                refine g_bipush hF (v := (-2)) d_X14_typeOf_144 (by decide) ?_
                exact g_iret hF rfl d_X14_typeOf_146 ⟨rfl, rfl, rfl, ((-2) : Int32), rfl, w43⟩
              · have w44 := w42.2 c
                refine g_aload_n hF d_X14_typeOf_130 rfl 3 rfl ?_
                refine g_callS (As := [.ref a2]) (rest := []) hF (fun l D cy => (ct_isInt a r hcap w44) l D cy) (Nat.le_of_ble_eq_true rfl) mS_X14_isInt m_2471 rfl rfl (Nat.le_of_ble_eq_true rfl) d_X14_typeOf_131 (krZ (fun v131 hz131 w45 => ?_)) (fun _ _ _ h => h.elim)
                refine g_if_eq hF 144 d_X14_typeOf_134 (by decide) rfl (fun c => ?_) (fun c => ?_)
                · have w46 := w45.1 c
                  refine g_bipush hF (v := (-2)) d_X14_typeOf_144 (by decide) ?_
                  exact g_iret hF rfl d_X14_typeOf_146 ⟨rfl, rfl, rfl, ((-2) : Int32), rfl, w46⟩
                · have w47 := w45.2 c
                  refine g_aload_n hF d_X14_typeOf_137 rfl 2 rfl ?_
                  obtain ⟨hm47, w48⟩ := w47
                  refine g_vget hF 0 hm47 clsVC (by decide) m_2400 d_X14_typeOf_138 ?_
                  refine g_top (v := (τ a1 0)) rfl ?_
                  refine g_goto hF 146 d_X14_typeOf_141 (by decide) ?_
                  exact g_iret hF rfl d_X14_typeOf_146 ⟨rfl, rfl, rfl, (τ a1 0), rfl, w48⟩
            · have w49 := w40.2 c
              refine g_iconst hF (v := 0) d_X14_typeOf_119 (by decide) ?_
              refine g_goto hF 146 d_X14_typeOf_120 (by decide) ?_
              exact g_iret hF rfl d_X14_typeOf_146 ⟨rfl, rfl, rfl, (0 : Int32), rfl, w49⟩
      · have w50 := w43_.2 c
        refine g_iload_n hF d_X14_typeOf_51 rfl 4 rfl ?_
        refine g_if_eq hF 59 d_X14_typeOf_52 (by decide) rfl (fun c => ?_) (fun c => ?_)
        · have w51 := w50.1 c
          refine g_aload_n hF d_X14_typeOf_59 rfl 2 rfl ?_
          refine g_callS (As := [.ref a1]) (rest := []) hF (fun l D cy => (ct_isPointer a r hcap w51) l D cy) (Nat.le_of_ble_eq_true rfl) mS_X14_isPointer m_2461 rfl rfl (Nat.le_of_ble_eq_true rfl) d_X14_typeOf_60 (krZ (fun v60 hz60 w52 => ?_)) (fun _ _ _ h => h.elim)
          obtain ⟨J80, h80, w53⟩ := w52
          have b80 : J80  → G SM r X σ τ vs [(1, .ref a1), (2, .ref a2)] [] 80 := by
            intro   w80_
            have w80_ := h80   w80_
            refine g_aload_n hF d_X14_typeOf_80 rfl 0 rfl ?_
            refine g_callS (As := [.ref a1]) (rest := []) hF (fun l D cy => (ct_isInt a r hcap w80_) l D cy) (Nat.le_of_ble_eq_true rfl) mS_X14_isInt m_2471 rfl rfl (Nat.le_of_ble_eq_true rfl) d_X14_typeOf_81 (krZ (fun v81 hz81 w54 => ?_)) (fun _ _ _ h => h.elim)
            refine g_if_eq hF 101 d_X14_typeOf_84 (by decide) rfl (fun c => ?_) (fun c => ?_)
            · have w55 := w54.1 c
              refine g_bipush hF (v := (-2)) d_X14_typeOf_101 (by decide) ?_
              exact g_iret hF rfl d_X14_typeOf_103 ⟨rfl, rfl, rfl, ((-2) : Int32), rfl, w55⟩
            · have w56 := w54.2 c
              refine g_aload_n hF d_X14_typeOf_87 rfl 1 rfl ?_
              refine g_callS (As := [.ref a2]) (rest := []) hF (fun l D cy => (ct_isPointer a r hcap w56) l D cy) (Nat.le_of_ble_eq_true rfl) mS_X14_isPointer m_2461 rfl rfl (Nat.le_of_ble_eq_true rfl) d_X14_typeOf_88 (krZ (fun v88 hz88 w57 => ?_)) (fun _ _ _ h => h.elim)
              refine g_if_eq hF 101 d_X14_typeOf_91 (by decide) rfl (fun c => ?_) (fun c => ?_)
              · have w58 := w57.1 c
                refine g_bipush hF (v := (-2)) d_X14_typeOf_101 (by decide) ?_
                exact g_iret hF rfl d_X14_typeOf_103 ⟨rfl, rfl, rfl, ((-2) : Int32), rfl, w58⟩
              · have w59 := w57.2 c
                refine g_aload_n hF d_X14_typeOf_94 rfl 1 rfl ?_
                obtain ⟨hm59, w60⟩ := w59
                refine g_vget hF 0 hm59 clsVC (by decide) m_2400 d_X14_typeOf_95 ?_
                refine g_top (v := (τ a2 0)) rfl ?_
                refine g_goto hF 103 d_X14_typeOf_98 (by decide) ?_
                exact g_iret hF rfl d_X14_typeOf_103 ⟨rfl, rfl, rfl, (τ a2 0), rfl, w60⟩
          refine g_if_eq hF 80 d_X14_typeOf_63 (by decide) rfl (fun c => ?_) (fun c => ?_)
          · have w61 := w53.1 c
            exact g_sub (L' := [(1, .ref a1), (2, .ref a2)]) [2, 3] rfl (b80  w61)
          · have w62 := w53.2 c
            refine g_aload_n hF d_X14_typeOf_66 rfl 3 rfl ?_
            refine g_callS (As := [.ref a2]) (rest := []) hF (fun l D cy => (ct_isInt a r hcap w62) l D cy) (Nat.le_of_ble_eq_true rfl) mS_X14_isInt m_2471 rfl rfl (Nat.le_of_ble_eq_true rfl) d_X14_typeOf_67 (krZ (fun v67 hz67 w63 => ?_)) (fun _ _ _ h => h.elim)
            refine g_if_eq hF 80 d_X14_typeOf_70 (by decide) rfl (fun c => ?_) (fun c => ?_)
            · have w64 := w63.1 c
              exact g_sub (L' := [(1, .ref a1), (2, .ref a2)]) [2, 3] rfl (b80  w64)
            · have w65 := w63.2 c
              refine g_aload_n hF d_X14_typeOf_73 rfl 2 rfl ?_
              obtain ⟨hm65, w66⟩ := w65
              refine g_vget hF 0 hm65 clsVC (by decide) m_2400 d_X14_typeOf_74 ?_
              refine g_top (v := (τ a1 0)) rfl ?_
              refine g_goto hF 103 d_X14_typeOf_77 (by decide) ?_
              exact g_iret hF rfl d_X14_typeOf_103 ⟨rfl, rfl, rfl, (τ a1 0), rfl, w66⟩
        · have w67 := w50.2 c
          refine g_iconst hF (v := 0) d_X14_typeOf_55 (by decide) ?_
          refine g_goto hF 103 d_X14_typeOf_56 (by decide) ?_
          exact g_iret hF rfl d_X14_typeOf_103 ⟨rfl, rfl, rfl, (0 : Int32), rfl, w67⟩
    obtain ⟨J42, h42, w68⟩ := w4
    have b42 : J42  → G SM r X σ τ vs [(0, .int a0), (1, .ref a1), (2, .ref a2), (3, .int y0_19)] [] 42 := by
      intro   w42_
      have w42_ := h42   w42_
      refine g_iconst hF (v := 0) d_X14_typeOf_42 (by decide) ?_
      exact b43 (0 : Int32) (Or.inl rfl) w42_
    refine g_if_eq hF 42 d_X14_typeOf_24 (by decide) rfl (fun c => ?_) (fun c => ?_)
    · have w69 := w68.1 c
      exact g_sub (L' := [(0, .int a0), (1, .ref a1), (2, .ref a2), (3, .int y0_19)]) [1, 2, 3, 0] rfl (b42  w69)
    · have w70 := w68.2 c
      refine g_aload_n hF d_X14_typeOf_27 rfl 2 rfl ?_
      obtain ⟨hm70, w71⟩ := w70
      refine g_vget hF 0 hm70 clsVC (by decide) m_2400 d_X14_typeOf_28 ?_
      refine g_top (v := (τ a1 0)) rfl ?_
      refine g_aload_n hF d_X14_typeOf_31 rfl 3 rfl ?_
      obtain ⟨hm71, w72⟩ := w71
      refine g_vget hF 0 hm71 clsVC (by decide) m_2400 d_X14_typeOf_32 ?_
      refine g_top (v := (τ a2 0)) rfl ?_
      refine g_icmp_ne hF 42 d_X14_typeOf_35 (by decide) rfl rfl (fun c => ?_) (fun c => ?_)
      · have w73 := w72.1 c
        exact g_sub (L' := [(0, .int a0), (1, .ref a1), (2, .ref a2), (3, .int y0_19)]) [1, 2, 3, 0] rfl (b42  w73)
      · have w74 := w72.2 c
        refine g_iconst hF (v := 1) d_X14_typeOf_38 (by decide) ?_
        refine g_goto hF 43 d_X14_typeOf_39 (by decide) ?_
        exact g_sub (L' := [(0, .int a0), (1, .ref a1), (2, .ref a2), (3, .int y0_19)]) [1, 2, 3, 0] rfl (b43 (1 : Int32) (Or.inr rfl) w74)
  obtain ⟨J18, h18, w75⟩ := w2
  have b18 : J18  → G SM r X σ τ vs [(0, .int a0), (1, .ref a1), (2, .ref a2)] [] 18 := by
    intro   w18_
    have w18_ := h18   w18_
    refine g_iconst hF (v := 0) d_X14_typeOf_18 (by decide) ?_
    exact b19 (0 : Int32) (Or.inl rfl) w18_
  refine g_if_eq hF 18 d_X14_typeOf_4 (by decide) rfl (fun c => ?_) (fun c => ?_)
  · have w76 := w75.1 c
    exact b18  w76
  · have w77 := w75.2 c
    refine g_aload_n hF d_X14_typeOf_7 rfl 2 rfl ?_
    refine g_callS (As := [.ref a2]) (rest := []) hF (fun l D cy => (ct_isInt a r hcap w77) l D cy) (Nat.le_of_ble_eq_true rfl) mS_X14_isInt m_2471 rfl rfl (Nat.le_of_ble_eq_true rfl) d_X14_typeOf_8 (krZ (fun v8 hz8 w78 => ?_)) (fun _ _ _ h => h.elim)
    refine g_if_eq hF 18 d_X14_typeOf_11 (by decide) rfl (fun c => ?_) (fun c => ?_)
    · have w79 := w78.1 c
      exact b18  w79
    · have w80 := w78.2 c
      refine g_iconst hF (v := 1) d_X14_typeOf_14 (by decide) ?_
      refine g_goto hF 19 d_X14_typeOf_15 (by decide) ?_
      exact b19 (1 : Int32) (Or.inr rfl) w80
