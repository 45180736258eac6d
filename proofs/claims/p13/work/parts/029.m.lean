def wp_one_2 (a1 : Int32) (a2 : Nat) (a3 : Int32) (σ τ : St) (vs : List Nat) (Q : Nat → St → St → List Nat → Prop) : Prop :=
  (∃ J18 : Int32 → Prop, (∀ (y1_18 : Int32), y1_18 = 0 ∨ y1_18 = 1 → J18 y1_18 → (wp_must y1_18 a3 σ τ vs (fun s19 t19 z19 => wp_made (0 : Int32) a2 a2 a3 s19 t19 z19 (fun u27 s27 t27 z27 => (∃ J57 : Int32 → Prop, (∀ (y1_57 : Int32), J57 y1_57 → (wp_put_0 y1_57 s27 t27 z27 (fun s57 t57 z57 => (a2 ∈ z57 ∧ ((t57 a2 6).toInt ≠ 1 → Q u27 s57 t57 z57) ∧ ((t57 a2 6).toInt = 1 → wp_isInt a2 s57 t57 z57 (fun v69 => (v69.toInt = 0 → Q u27 s57 t57 z57) ∧ (v69.toInt ≠ 0 → (u27 ∈ z57 ∧ ((t57 u27 3).toInt ≤ 60 → (∃ J131 : Int32 → Prop, (∀ (y1_131 : Int32), J131 y1_131 → (wp_Vconstant u27 y1_131 s57 t57 z57 (fun u131 s131 t131 z131 => Q u131 s131 t131 z131))) ∧ (a1.toInt ≠ 41 → (a1.toInt ≠ 37 → J131 ((t57 a2 7) ^^^ ((-1) : Int32))) ∧ (a1.toInt = 37 → J131 (-(t57 a2 7)))) ∧ (a1.toInt = 41 → ((t57 a2 7).toInt ≠ 0 → J131 (0 : Int32)) ∧ ((t57 a2 7).toInt = 0 → J131 (1 : Int32))))) ∧ (60 < (t57 u27 3).toInt → Q u27 s57 t57 z57))))))))) ∧ (a1.toInt ≠ 41 → (a1.toInt ≠ 37 → J57 (13 : Int32)) ∧ (a1.toInt = 37 → J57 (12 : Int32))) ∧ (a1.toInt = 41 → J57 (14 : Int32))))))) ∧ (a1.toInt ≠ 41 → wp_isInt a2 σ τ vs (fun v15 => J18 v15)) ∧ (a1.toInt = 41 → wp_isAny a2 σ τ vs (fun v8 => J18 v8)))
set_option maxHeartbeats 4000000 in
set_option maxRecDepth 100000 in
theorem ct_one_2 (a : Nat → Nat) (r : Nat → Nat) {a1 : Int32} {a2 : Nat} {a3 : Int32} {σ τ : St} {vs : List Nat} {Q : Nat → St → St → List Nat → Prop} (hcap : vs.length ≤ CAP) (w : wp_one_2 a1 a2 a3 σ τ vs Q) (l : Launch) (D : va_G) (cy : Nat → ClassId) : Ct l D cy SM r (EM a) y_X14_one_2 (Cond.code y_X14_one_2 b_X14_one_2 5 (some (.object "LinkedUnitsModel$Value"))) 3 [.ref (r 0), .int a1, .ref a2, .int a3] σ τ vs (QAs Q) QT0 := by
  unfold wp_one_2 at w
  refine Ct_of (EM_ok a) (by decide) (Nat.le_of_ble_eq_true rfl) hcap (fun X hnn hF => ?_)
  show G SM r X σ τ vs [(0, .ref (r 0)), (1, .int a1), (2, .ref a2), (3, .int a3)] [] 0
  refine g_aload_n hF d_X14_one_2_0 rfl 0 rfl ?_
  refine g_iload_n hF d_X14_one_2_1 rfl 1 rfl ?_
  refine g_bipush hF (v := 41) d_X14_one_2_2 (by decide) ?_
  obtain ⟨J18, h18, w1⟩ := w
  have b18 : ∀ (y1_18 : Int32), y1_18 = 0 ∨ y1_18 = 1 → J18 y1_18 → G SM r X σ τ vs [(0, .ref (r 0)), (1, .int a1), (2, .ref a2), (3, .int a3)] [.int y1_18, .ref (r 0)] 18 := by
    intro y1_18 hy1_18 w18_
    have w18_ := h18 y1_18 hy1_18 w18_
    refine g_iload_n hF d_X14_one_2_18 rfl 3 rfl ?_
    refine g_callV (As := [.int y1_18, .int a3]) (rest := []) hF (fun l D cy => (ct_must a r hcap w18_) l D cy) (Nat.le_of_ble_eq_true rfl) mV_X14_must m_2313 (recv_ob obM_0) rfl rfl (Nat.le_of_ble_eq_true rfl) d_X14_one_2_19 (kV (fun s19 t19 z19 w2 => ?_)) (fun _ _ _ h => h.elim)
    refine g_aload_n hF d_X14_one_2_22 rfl 0 rfl ?_
    refine g_iconst hF (v := 0) d_X14_one_2_23 (by decide) ?_
    refine g_aload_n hF d_X14_one_2_24 rfl 2 rfl ?_
    refine g_aload_n hF d_X14_one_2_25 rfl 2 rfl ?_
    refine g_iload_n hF d_X14_one_2_26 rfl 3 rfl ?_
    refine g_cap (fun hc2 => ?_)
    refine g_callV (As := [.int 0, .ref a2, .ref a2, .int a3]) (rest := []) hF (fun l D cy => (ct_made a r hc2 w2) l D cy) (Nat.le_of_ble_eq_true rfl) mV_X14_made m_2389 (recv_ob obM_0) rfl rfl (Nat.le_of_ble_eq_true rfl) d_X14_one_2_27 (kA (fun u27 s27 t27 z27 w4 => ?_)) (fun _ _ _ h => h.elim)
    refine g_astore hF [(4, .ref u27), (0, .ref (r 0)), (1, .int a1), (2, .ref a2), (3, .int a3)] d_X14_one_2_30 hnn (by decide) rfl ?_
    refine g_aload_n hF d_X14_one_2_32 rfl 1 rfl ?_
    refine g_iload_n hF d_X14_one_2_33 rfl 2 rfl ?_
    refine g_bipush hF (v := 41) d_X14_one_2_34 (by decide) ?_
    obtain ⟨J57, h57, w5⟩ := w4
    have b57 : ∀ (y1_57 : Int32), J57 y1_57 → G SM r X s27 t27 z27 [(1, .int a1), (2, .ref a2), (4, .ref u27)] [.int y1_57, .ref (r 0)] 57 := by
      intro y1_57  w57_
      have w57_ := h57 y1_57  w57_
      refine g_cap (fun hc5 => ?_)
      refine g_callV (As := [.int y1_57]) (rest := []) hF (fun l D cy => (ct_put_0 a r hc5 w57_) l D cy) (Nat.le_of_ble_eq_true rfl) mV_X14_put_0 m_2437 (recv_ob obM_0) rfl rfl (Nat.le_of_ble_eq_true rfl) d_X14_one_2_57 (kV (fun s57 t57 z57 w7 => ?_)) (fun _ _ _ h => h.elim)
      refine g_aload_n hF d_X14_one_2_60 rfl 1 rfl ?_
      obtain ⟨hm7, w8⟩ := w7
      refine g_vget hF 6 hm7 clsVC (by decide) m_2408 d_X14_one_2_61 ?_
      refine g_top (v := (t57 a2 6)) rfl ?_
      refine g_iconst hF (v := 1) d_X14_one_2_64 (by decide) ?_
      refine g_icmp_ne (yv := 1) hF 85 d_X14_one_2_65 (by decide) rfl (by decide) (fun c => ?_) (fun c => ?_)
      · have w9 := w8.1 c
        refine g_aload hF d_X14_one_2_85 2 rfl ?_
        exact g_aret hF rfl d_X14_one_2_87 ⟨u27, rfl, w9⟩
      · have w10 := w8.2 c
        refine g_aload_n hF d_X14_one_2_68 rfl 1 rfl ?_
        refine g_cap (fun hc10 => ?_)
        refine g_callS (As := [.ref a2]) (rest := []) hF (fun l D cy => (ct_isInt a r hc10 w10) l D cy) (Nat.le_of_ble_eq_true rfl) mS_X14_isInt m_2471 rfl rfl (Nat.le_of_ble_eq_true rfl) d_X14_one_2_69 (krZ (fun v69 hz69 w12 => ?_)) (fun _ _ _ h => h.elim)
        refine g_if_eq hF 85 d_X14_one_2_72 (by decide) rfl (fun c => ?_) (fun c => ?_)
        · have w13 := w12.1 c
          refine g_aload hF d_X14_one_2_85 2 rfl ?_
          exact g_aret hF rfl d_X14_one_2_87 ⟨u27, rfl, w13⟩
        · have w14 := w12.2 c
          refine g_aload hF d_X14_one_2_75 2 rfl ?_
          obtain ⟨hm14, w15⟩ := w14
          refine g_vget hF 3 hm14 clsVC (by decide) m_2404 d_X14_one_2_77 ?_
          refine g_top (v := (t57 u27 3)) rfl ?_
          refine g_bipush hF (v := 60) d_X14_one_2_80 (by decide) ?_
          refine g_icmp_le (yv := 60) hF 88 d_X14_one_2_82 (by decide) rfl (by decide) (fun c => ?_) (fun c => ?_)
          · have w16 := w15.1 c
            refine g_aload hF d_X14_one_2_88 2 rfl ?_
            refine g_iload_n hF d_X14_one_2_90 rfl 0 rfl ?_
            refine g_bipush hF (v := 41) d_X14_one_2_91 (by decide) ?_
            obtain ⟨J131, h131, w17⟩ := w16
            have b131 : ∀ (y1_131 : Int32), J131 y1_131 → G SM r X s57 t57 z57 [] [.int y1_131, .ref u27] 131 := by
              intro y1_131  w131_
              have w131_ := h131 y1_131  w131_
              refine g_callV (As := [.int y1_131]) (rest := []) hF (fun l D cy => (ct_Vconstant a r hc10 w131_) l D cy) (Nat.le_of_ble_eq_true rfl) mV_X13_constant m_2474 (recv_v hm14 clsVC) rfl rfl (Nat.le_of_ble_eq_true rfl) d_X14_one_2_131 (kA (fun u131 s131 t131 z131 w18 => ?_)) (fun _ _ _ h => h.elim)
              exact g_aret hF rfl d_X14_one_2_134 ⟨u131, rfl, w18⟩
            refine g_icmp_ne (yv := 41) hF 111 d_X14_one_2_93 (by decide) rfl (by decide) (fun c => ?_) (fun c => ?_)
            · have w19 := w17.1 c
              refine g_iload_n hF d_X14_one_2_111 rfl 0 rfl ?_
              refine g_bipush hF (v := 37) d_X14_one_2_112 (by decide) ?_
              refine g_icmp_ne (yv := 37) hF 125 d_X14_one_2_114 (by decide) rfl (by decide) (fun c => ?_) (fun c => ?_)
              · have w20 := w19.1 c
                refine g_aload_n hF d_X14_one_2_125 rfl 1 rfl ?_
                refine g_vget hF 7 hm7 clsVC (by decide) m_2410 d_X14_one_2_126 ?_
                refine g_top (v := (t57 a2 7)) rfl ?_
                refine g_iconst hF (v := (-1)) d_X14_one_2_129 (by decide) ?_
                refine g_ixor hF d_X14_one_2_130 ?_
                exact g_sub (L' := []) [] rfl (b131 ((t57 a2 7) ^^^ ((-1) : Int32)) w20)
              · have w21 := w19.2 c
                refine g_aload_n hF d_X14_one_2_117 rfl 1 rfl ?_
                refine g_vget hF 7 hm7 clsVC (by decide) m_2410 d_X14_one_2_118 ?_
                refine g_top (v := (t57 a2 7)) rfl ?_
                refine g_ineg hF d_X14_one_2_121 ?_
                refine g_goto hF 131 d_X14_one_2_122 (by decide) ?_
                exact g_sub (L' := []) [] rfl (b131 (-(t57 a2 7)) w21)
            · have w22 := w17.2 c
              refine g_aload_n hF d_X14_one_2_96 rfl 1 rfl ?_
              refine g_vget hF 7 hm7 clsVC (by decide) m_2410 d_X14_one_2_97 ?_
              refine g_top (v := (t57 a2 7)) rfl ?_
              refine g_if_ne hF 107 d_X14_one_2_100 (by decide) rfl (fun c => ?_) (fun c => ?_)
              · have w23 := w22.1 c
                refine g_iconst hF (v := 0) d_X14_one_2_107 (by decide) ?_
                refine g_goto hF 131 d_X14_one_2_108 (by decide) ?_
                exact g_sub (L' := []) [] rfl (b131 (0 : Int32) w23)
              · have w24 := w22.2 c
                refine g_iconst hF (v := 1) d_X14_one_2_103 (by decide) ?_
                refine g_goto hF 131 d_X14_one_2_104 (by decide) ?_
                exact g_sub (L' := []) [] rfl (b131 (1 : Int32) w24)
          · have w25 := w15.2 c
            refine g_aload hF d_X14_one_2_85 2 rfl ?_
            exact g_aret hF rfl d_X14_one_2_87 ⟨u27, rfl, w25⟩
    refine g_icmp_ne (yv := 41) hF 44 d_X14_one_2_36 (by decide) rfl (by decide) (fun c => ?_) (fun c => ?_)
    · have w26 := w5.1 c
      refine g_iload_n hF d_X14_one_2_44 rfl 2 rfl ?_
      refine g_bipush hF (v := 37) d_X14_one_2_45 (by decide) ?_
      refine g_icmp_ne (yv := 37) hF 55 d_X14_one_2_47 (by decide) rfl (by decide) (fun c => ?_) (fun c => ?_)
      · have w27 := w26.1 c
        refine g_bipush hF (v := 13) d_X14_one_2_55 (by decide) ?_
        exact g_sub (L' := [(1, .int a1), (2, .ref a2), (4, .ref u27)]) [2, 3, 0] rfl (b57 (13 : Int32) w27)
      · have w28 := w26.2 c
        refine g_bipush hF (v := 12) d_X14_one_2_50 (by decide) ?_
        refine g_goto hF 57 d_X14_one_2_52 (by decide) ?_
        exact g_sub (L' := [(1, .int a1), (2, .ref a2), (4, .ref u27)]) [2, 3, 0] rfl (b57 (12 : Int32) w28)
    · have w29 := w5.2 c
      refine g_bipush hF (v := 14) d_X14_one_2_39 (by decide) ?_
      refine g_goto hF 57 d_X14_one_2_41 (by decide) ?_
      exact g_sub (L' := [(1, .int a1), (2, .ref a2), (4, .ref u27)]) [2, 3, 0] rfl (b57 (14 : Int32) w29)
  refine g_icmp_ne (yv := 41) hF 14 d_X14_one_2_4 (by decide) rfl (by decide) (fun c => ?_) (fun c => ?_)
  · have w30 := w1.1 c
    refine g_aload_n hF d_X14_one_2_14 rfl 2 rfl ?_
    refine g_callS (As := [.ref a2]) (rest := [.ref (r 0)]) hF (fun l D cy => (ct_isInt a r hcap w30) l D cy) (Nat.le_of_ble_eq_true rfl) mS_X14_isInt m_2471 rfl rfl (Nat.le_of_ble_eq_true rfl) d_X14_one_2_15 (krZ (fun v15 hz15 w31 => ?_)) (fun _ _ _ h => h.elim)
    exact b18 v15 hz15 w31
  · have w32 := w1.2 c
    refine g_aload_n hF d_X14_one_2_7 rfl 2 rfl ?_
    refine g_callS (As := [.ref a2]) (rest := [.ref (r 0)]) hF (fun l D cy => (ct_isAny a r hcap w32) l D cy) (Nat.le_of_ble_eq_true rfl) mS_X14_isAny m_2468 rfl rfl (Nat.le_of_ble_eq_true rfl) d_X14_one_2_8 (krZ (fun v8 hz8 w33 => ?_)) (fun _ _ _ h => h.elim)
    refine g_goto hF 18 d_X14_one_2_11 (by decide) ?_
    exact b18 v8 hz8 w33
def wp_codes (a1 : Int32) (a2 : Int32) (σ τ : St) (vs : List Nat) (Q : St → St → List Nat → Prop) : Prop :=
  ((0 ≤ a1.toInt ∧ a1.toInt < 16002) ∧ ∃ L12 : Nat → Int32 → Int32 → St → St → List Nat → Prop, (∃ n, L12 n ((σ 3 a1.toNatClampNeg) + (1 : Int32)) (0 : Int32) σ τ vs) ∧ ∀ (n12 : Nat) (x3_12 : Int32) (x4_12 : Int32) (s12 t12 : St) (z12 : List Nat), L12 n12 x3_12 x4_12 s12 t12 z12 → (((0 ≤ a1.toInt ∧ a1.toInt < 16002) ∧ ((s12 6 a1.toNatClampNeg).toInt ≤ x4_12.toInt → Q s12 t12 z12) ∧ (x4_12.toInt < (s12 6 a1.toNatClampNeg).toInt → wp_code x3_12 (34 : Int32) s12 t12 z12 (fun v32 => wp_init (a2 + x4_12) v32 (0 : Int32) s12 t12 z12 (fun s36 t36 z36 => wp_look x3_12 s36 t36 z36 (fun v42 => (∃ J55 : Int32 → Prop, (∀ (y1_55 : Int32), J55 y1_55 → (∃ m, m < n12 ∧ L12 m (x3_12 + y1_55) (x4_12 + 1) s36 t36 z36)) ∧ (v42.toInt ≠ 92 → J55 (1 : Int32)) ∧ (v42.toInt = 92 → J55 (2 : Int32))))))))))
set_option maxHeartbeats 4000000 in
set_option maxRecDepth 100000 in
theorem ct_codes (a : Nat → Nat) (r : Nat → Nat) {a1 : Int32} {a2 : Int32} {σ τ : St} {vs : List Nat} {Q : St → St → List Nat → Prop} (hcap : vs.length ≤ CAP) (w : wp_codes a1 a2 σ τ vs Q) (l : Launch) (D : va_G) (cy : Nat → ClassId) : Ct l D cy SM r (EM a) y_X14_codes (Cond.code y_X14_codes b_X14_codes 5 none) 2 [.ref (r 0), .int a1, .int a2] σ τ vs (QVs Q) QT0 := by
  unfold wp_codes at w
  refine Ct_of (EM_ok a) (by decide) (Nat.le_of_ble_eq_true rfl) hcap (fun X hnn hF => ?_)
  show G SM r X σ τ vs [(0, .ref (r 0)), (1, .int a1), (2, .int a2)] [] 0
  refine g_aload_n hF d_X14_codes_0 rfl 0 rfl ?_
  refine g_get (v := .ref (r 3)) hF 4 obM_0 (by decide) m_1869 rfl d_X14_codes_1 ?_
  refine g_iload_n hF d_X14_codes_4 rfl 1 rfl ?_
  have w1 := w.2
  refine g_iald hF arM_3 (s_in (Nat.le_of_ble_eq_true rfl) w.1.1 w.1.2) d_X14_codes_5 ?_
  refine g_top (v := (σ 3 a1.toNatClampNeg)) rfl ?_
  refine g_iconst hF (v := 1) d_X14_codes_6 (by decide) ?_
  refine g_iadd hF d_X14_codes_7 ?_
  refine g_istore_n hF [(3, .int ((σ 3 a1.toNatClampNeg) + (1 : Int32))), (0, .ref (r 0)), (1, .int a1), (2, .int a2)] d_X14_codes_8 rfl hnn (by decide) rfl ?_
  refine g_iconst hF (v := 0) d_X14_codes_9 (by decide) ?_
  refine g_istore hF [(4, .int 0), (3, .int ((σ 3 a1.toNatClampNeg) + (1 : Int32))), (0, .ref (r 0)), (1, .int a1), (2, .int a2)] d_X14_codes_10 hnn (by decide) rfl ?_
  obtain ⟨L12, ⟨i12, u12⟩, h12⟩ := w1
  have b12 : ∀ (n12 : Nat) (x3_12 : Int32) (x4_12 : Int32) (s12 t12 : St) (z12 : List Nat), L12 n12 x3_12 x4_12 s12 t12 z12 → G SM r X s12 t12 z12 [(0, .ref (r 0)), (1, .int a1), (2, .int a2), (3, .int x3_12), (4, .int x4_12)] [] 12 := by
    intro n12
    induction n12 using Nat.strongRecOn with
    | _ n12 ih12 =>
      intro x3_12 x4_12 s12 t12 z12  w12_
      have w12_ := h12 n12 x3_12 x4_12 s12 t12 z12  w12_
      refine g_iload hF d_X14_codes_12 4 rfl ?_
      refine g_aload_n hF d_X14_codes_14 rfl 0 rfl ?_
      refine g_get (v := .ref (r 6)) hF 7 obM_0 (by decide) m_1872 rfl d_X14_codes_15 ?_
      refine g_iload_n hF d_X14_codes_18 rfl 1 rfl ?_
      have w2 := w12_.2
      refine g_iald hF arM_6 (s_in (Nat.le_of_ble_eq_true rfl) w12_.1.1 w12_.1.2) d_X14_codes_19 ?_
      refine g_top (v := (s12 6 a1.toNatClampNeg)) rfl ?_
      refine g_icmp_ge hF 63 d_X14_codes_20 (by decide) rfl rfl (fun c => ?_) (fun c => ?_)
      · have w3 := w2.1 c
        exact g_vret hF rfl d_X14_codes_63 ⟨rfl, w3⟩
      · have w4 := w2.2 c
        refine g_aload_n hF d_X14_codes_23 rfl 0 rfl ?_
        refine g_iload_n hF d_X14_codes_24 rfl 2 rfl ?_
        refine g_iload hF d_X14_codes_25 4 rfl ?_
        refine g_iadd hF d_X14_codes_27 ?_
        refine g_aload_n hF d_X14_codes_28 rfl 0 rfl ?_
        refine g_iload_n hF d_X14_codes_29 rfl 3 rfl ?_
        refine g_bipush hF (v := 34) d_X14_codes_30 (by decide) ?_
        refine g_cap (fun hc4 => ?_)
        refine g_callV (As := [.int x3_12, .int 34]) (rest := [.int (a2 + x4_12), .ref (r 0)]) hF (fun l D cy => (ct_code a r hc4 w4) l D cy) (Nat.le_of_ble_eq_true rfl) mV_X14_code m_2248 (recv_ob obM_0) rfl rfl (Nat.le_of_ble_eq_true rfl) d_X14_codes_32 (krI (fun v32 w6 => ?_)) (fun _ _ _ h => h.elim)
        refine g_iconst hF (v := 0) d_X14_codes_35 (by decide) ?_
        refine g_callV (As := [.int (a2 + x4_12), .int v32, .int 0]) (rest := []) hF (fun l D cy => (ct_init a r hc4 w6) l D cy) (Nat.le_of_ble_eq_true rfl) mV_X14_init m_2494 (recv_ob obM_0) rfl rfl (Nat.le_of_ble_eq_true rfl) d_X14_codes_36 (kV (fun s36 t36 z36 w7 => ?_)) (fun _ _ _ h => h.elim)
        refine g_iload_n hF d_X14_codes_39 rfl 3 rfl ?_
        refine g_aload_n hF d_X14_codes_40 rfl 0 rfl ?_
        refine g_iload_n hF d_X14_codes_41 rfl 3 rfl ?_
        refine g_cap (fun hc7 => ?_)
        refine g_callV (As := [.int x3_12]) (rest := [.int x3_12]) hF (fun l D cy => (ct_look a r hc7 w7) l D cy) (Nat.le_of_ble_eq_true rfl) mV_X14_look m_2187 (recv_ob obM_0) rfl rfl (Nat.le_of_ble_eq_true rfl) d_X14_codes_42 (krI (fun v42 w9 => ?_)) (fun _ _ _ h => h.elim)
        refine g_bipush hF (v := 92) d_X14_codes_45 (by decide) ?_
        obtain ⟨J55, h55, w10⟩ := w9
        have b55 : ∀ (y1_55 : Int32), J55 y1_55 → G SM r X s36 t36 z36 [(0, .ref (r 0)), (1, .int a1), (2, .int a2), (4, .int x4_12)] [.int y1_55, .int x3_12] 55 := by
          intro y1_55  w55_
          have w55_ := h55 y1_55  w55_
          refine g_iadd hF d_X14_codes_55 ?_
          refine g_istore_n hF [(3, .int (x3_12 + y1_55)), (0, .ref (r 0)), (1, .int a1), (2, .int a2), (4, .int x4_12)] d_X14_codes_56 rfl hnn (by decide) rfl ?_
          refine g_iinc hF (x4_12 + 1) [(4, .int (x4_12 + 1)), (3, .int (x3_12 + y1_55)), (0, .ref (r 0)), (1, .int a1), (2, .int a2)] d_X14_codes_57 4 rfl rfl hnn (by decide) rfl ?_
          refine g_goto hF 12 d_X14_codes_60 (by decide) ?_
          obtain ⟨m12, hm12, w9⟩ := w55_
          exact g_sub (L' := [(0, .ref (r 0)), (1, .int a1), (2, .int a2), (3, .int (x3_12 + y1_55)), (4, .int (x4_12 + 1))]) [2, 3, 4, 1, 0] rfl (ih12 m12 hm12 (x3_12 + y1_55) (x4_12 + 1) s36 t36 z36 w9)
        refine g_icmp_ne (yv := 92) hF 54 d_X14_codes_47 (by decide) rfl (by decide) (fun c => ?_) (fun c => ?_)
        · have w11 := w10.1 c
          refine g_iconst hF (v := 1) d_X14_codes_54 (by decide) ?_
          exact g_sub (L' := [(0, .ref (r 0)), (1, .int a1), (2, .int a2), (4, .int x4_12)]) [0, 1, 2, 4] rfl (b55 (1 : Int32) w11)
        · have w12 := w10.2 c
          refine g_iconst hF (v := 2) d_X14_codes_50 (by decide) ?_
          refine g_goto hF 55 d_X14_codes_51 (by decide) ?_
          exact g_sub (L' := [(0, .ref (r 0)), (1, .int a1), (2, .int a2), (4, .int x4_12)]) [0, 1, 2, 4] rfl (b55 (2 : Int32) w12)
  exact g_sub (L' := [(0, .ref (r 0)), (1, .int a1), (2, .int a2), (3, .int ((σ 3 a1.toNatClampNeg) + (1 : Int32))), (4, .int 0)]) [2, 3, 4, 1, 0] rfl (b12 i12 ((σ 3 a1.toNatClampNeg) + (1 : Int32)) (0 : Int32) σ τ vs u12)
def wp_call_0 (Kexpression : Int32 → St → St → List Nat → (Nat → St → St → List Nat → Prop) → (St → St → List Nat → Prop) → Prop) (Kchoice : Int32 → St → St → List Nat → (Nat → St → St → List Nat → Prop) → (St → St → List Nat → Prop) → Prop) (Kbinary : Int32 → Int32 → St → St → List Nat → (Nat → St → St → List Nat → Prop) → (St → St → List Nat → Prop) → Prop) (Kdecided : Int32 → Nat → Int32 → Int32 → St → St → List Nat → (Nat → St → St → List Nat → Prop) → (St → St → List Nat → Prop) → Prop) (Kunary : Int32 → St → St → List Nat → (Nat → St → St → List Nat → Prop) → (St → St → List Nat → Prop) → Prop) (Kbehind : Int32 → St → St → List Nat → (Nat → St → St → List Nat → Prop) → (St → St → List Nat → Prop) → Prop) (Kprimary : Int32 → St → St → List Nat → (Nat → St → St → List Nat → Prop) → (St → St → List Nat → Prop) → Prop) (Kcall_0 : Int32 → Int32 → St → St → List Nat → (Nat → St → St → List Nat → Prop) → (St → St → List Nat → Prop) → Prop) (a1 : Int32) (a2 : Int32) (σ τ : St) (vs : List Nat) (Q : Nat → St → St → List Nat → Prop) (T : St → St → List Nat → Prop) : Prop :=
  wp_local a1 σ τ vs (fun v2 => (∃ J17 : Int32 → Prop, (∀ (y0_17 : Int32), J17 y0_17 → ((∃ J37 : Int32 → Prop, (∀ (y0_37 : Int32), y0_37 = 0 ∨ y0_37 = 1 → J37 y0_37 → (wp_must y0_37 a1 σ τ vs (fun s43 t43 z43 => (∃ J58 : St → St → List Nat → Prop, (∀ (s58 t58 : St) (z58 : List Nat), J58 s58 t58 z58 → ((∃ J99 : St → St → List Nat → Prop, (∀ (s99 t99 : St) (z99 : List Nat), J99 s99 t99 z99 → (wp_deeper a2 s99 t99 z99 (fun v101 s101 t101 z101 => wp_is (21 : Int32) (upC s101 0 10 ((s101 0 10) + (1 : Int32))) t101 z101 (fun v128 => (∃ J220 : Int32 → Int32 → Int32 → St → St → List Nat → Prop, (∀ (x6_220 : Int32) (x7_220 : Int32) (x8_220 : Int32) (s220 t220 : St) (z220 : List Nat), x8_220 = 0 ∨ x8_220 = 1 → J220 x6_220 x7_220 x8_220 s220 t220 z220 → (wp_expect (21 : Int32) s220 t220 z220 (fun s223 t223 z223 => (∃ J253 : Int32 → Prop, (∀ (y1_253 : Int32), y1_253 = 0 ∨ y1_253 = 1 → J253 y1_253 → (wp_must y1_253 a1 s223 t223 z223 (fun s254 t254 z254 => (∃ J280 : Int32 → Prop, (∀ (y2_280 : Int32), J280 y2_280 → (((0 ≤ a1.toInt ∧ a1.toInt < 16002) ∧ wp_put_2 (19 : Int32) y2_280 (s254 5 a1.toNatClampNeg) s254 t254 z254 (fun s286 t286 z286 => ((z286).length < CAP ∧ ∀ q289 : Nat, q289 ∉ z286 → (∃ J309 : Int32 → Prop, (∀ (y2_309 : Int32), J309 y2_309 → (wp_Vinit q289 y2_309 s286 (upF t286 q289 (fun _ => 0)) (z286 ++ [q289]) (fun s309 t309 z309 => (q289 ∈ z309 ∧ ((x7_220 + (1 : Int32)).toInt ≤ 60 → Q q289 s309 (upC t309 q289 3 (x7_220 + (1 : Int32))) z309) ∧ (60 < (x7_220 + (1 : Int32)).toInt → wp_tell (4 : Int32) a1 s309 (upC t309 q289 3 (x7_220 + (1 : Int32))) z309 (fun s336 t336 z336 => Q q289 s336 t336 z336)))))) ∧ (y0_37.toInt = 0 → J309 ((-2) : Int32)) ∧ (y0_37.toInt ≠ 0 → ((0 ≤ y0_17.toInt ∧ y0_17.toInt < 10000) ∧ J309 (s286 10 y0_17.toNatClampNeg))))))))) ∧ (y0_37.toInt = 0 → J280 (0 : Int32)) ∧ (y0_37.toInt ≠ 0 → ((0 ≤ (s254 0 35).toInt ∧ (s254 0 35).toInt < 102) ∧ J280 (y0_17 - (s254 22 (s254 0 35).toNatClampNeg)))))))) ∧ (∃ J252 : Prop, (J252  → (J253 (0 : Int32))) ∧ (x8_220.toInt = 0 → J252) ∧ (x8_220.toInt ≠ 0 → (y0_37.toInt = 0 → J252) ∧ (y0_37.toInt ≠ 0 → ((0 ≤ y0_17.toInt ∧ y0_17.toInt < 10000) ∧ (x6_220.toInt ≠ (s223 15 y0_17.toNatClampNeg).toInt → J252) ∧ (x6_220.toInt = (s223 15 y0_17.toNatClampNeg).toInt → J253 (1 : Int32)))))))) T)) ∧ (v128.toInt ≠ 0 → J220 (0 : Int32) (0 : Int32) (1 : Int32) (upC s101 0 10 ((s101 0 10) + (1 : Int32))) t101 z101) ∧ (v128.toInt = 0 → ∃ L134 : Nat → Int32 → Int32 → Int32 → St → St → List Nat → Prop, (∃ n, L134 n (0 : Int32) (0 : Int32) (1 : Int32) (upC s101 0 10 ((s101 0 10) + (1 : Int32))) t101 z101) ∧ ∀ (n134 : Nat) (x6_134 : Int32) (x7_134 : Int32) (x8_134 : Int32) (s134 t134 : St) (z134 : List Nat), x8_134 = 0 ∨ x8_134 = 1 → L134 n134 x6_134 x7_134 x8_134 s134 t134 z134 → (Kexpression v101 s134 t134 z134 (fun u137 s137 t137 z137 => wp_read_1 u137 s137 t137 z137 (fun s145 t145 z145 => (∃ J194 : Int32 → Prop, (∀ (y0_194 : Int32), y0_194 = 0 ∨ y0_194 = 1 → J194 y0_194 → ((u137 ∈ z145 ∧ wp_accept (26 : Int32) s145 t145 z145 (fun v214 s214 t214 z214 => (v214.toInt ≠ 0 → ∃ m, m < n134 ∧ L134 m (x6_134 + 1) (if x7_134 < (t145 u137 3) then (t145 u137 3) else x7_134) y0_194 s214 t214 z214) ∧ (v214.toInt = 0 → J220 (x6_134 + 1) (if x7_134 < (t145 u137 3) then (t145 u137 3) else x7_134) y0_194 s214 t214 z214))))) ∧ (∃ J193 : Prop, (J193  → (J194 (0 : Int32))) ∧ (x8_134.toInt = 0 → J193) ∧ (x8_134.toInt ≠ 0 → (y0_37.toInt = 0 → J193) ∧ (y0_37.toInt ≠ 0 → ((0 ≤ y0_17.toInt ∧ y0_17.toInt < 10000) ∧ ((s145 15 y0_17.toNatClampNeg).toInt ≤ x6_134.toInt → J193) ∧ (x6_134.toInt < (s145 15 y0_17.toNatClampNeg).toInt → ((0 ≤ (((8 : Int32) * y0_17) + x6_134).toInt ∧ (((8 : Int32) * y0_17) + x6_134).toInt < 80000) ∧ wp_fits u137 (s145 16 (((8 : Int32) * y0_17) + x6_134).toNatClampNeg) s145 t145 z145 (fun v183 => (v183.toInt = 0 → J193) ∧ (v183.toInt ≠ 0 → J194 (1 : Int32)))))))))))) T))))) T)) ∧ (y0_37.toInt = 0 → J99 s58 t58 z58) ∧ (y0_37.toInt ≠ 0 → ((0 ≤ (s58 0 35).toInt ∧ (s58 0 35).toInt < 102) ∧ ((0 ≤ (y0_17 - (s58 22 (s58 0 35).toNatClampNeg)).toInt ∧ (y0_17 - (s58 22 (s58 0 35).toNatClampNeg)).toInt < 100) ∧ (0 ≤ (s58 21 (y0_17 - (s58 22 (s58 0 35).toNatClampNeg)).toNatClampNeg).toInt → J99 s58 t58 z58) ∧ ((s58 21 (y0_17 - (s58 22 (s58 0 35).toNatClampNeg)).toNatClampNeg).toInt < 0 → ((0 ≤ (s58 0 35).toInt ∧ (s58 0 35).toInt < 102) ∧ ((0 ≤ (y0_17 - (s58 22 (s58 0 35).toNatClampNeg)).toInt ∧ (y0_17 - (s58 22 (s58 0 35).toNatClampNeg)).toInt < 100) ∧ J99 (upC s58 21 (y0_17 - (s58 22 (s58 0 35).toNatClampNeg)).toNatClampNeg a1) t58 z58))))))))) ∧ (y0_37.toInt = 0 → J58 s43 t43 z43) ∧ (y0_37.toInt ≠ 0 → ((0 ≤ y0_17.toInt ∧ y0_17.toInt < 10000) ∧ J58 (upC s43 14 y0_17.toNatClampNeg (vp_nar .boolean (1 : Int32))) t43 z43)))))) ∧ (∃ J36 : Prop, (J36  → (J37 (0 : Int32))) ∧ (y0_17.toInt < 0 → J36) ∧ (0 ≤ y0_17.toInt → ((0 ≤ y0_17.toInt ∧ y0_17.toInt < 10000) ∧ ((σ 9 y0_17.toNatClampNeg).toInt ≠ 2 → J36) ∧ ((σ 9 y0_17.toNatClampNeg).toInt = 2 → J37 (1 : Int32)))))))) ∧ (v2.toInt < 0 → wp_entity a1 σ τ vs (fun v14 => J17 v14)) ∧ (0 ≤ v2.toInt → J17 ((-1) : Int32))))
set_option maxHeartbeats 4000000 in
set_option maxRecDepth 100000 in
theorem ct_call_0 (a : Nat → Nat) (r : Nat → Nat) (dK : Nat) (hdK : 3 ≤ dK) (Kexpression : Int32 → St → St → List Nat → (Nat → St → St → List Nat → Prop) → (St → St → List Nat → Prop) → Prop) (Kchoice : Int32 → St → St → List Nat → (Nat → St → St → List Nat → Prop) → (St → St → List Nat → Prop) → Prop) (Kbinary : Int32 → Int32 → St → St → List Nat → (Nat → St → St → List Nat → Prop) → (St → St → List Nat → Prop) → Prop) (Kdecided : Int32 → Nat → Int32 → Int32 → St → St → List Nat → (Nat → St → St → List Nat → Prop) → (St → St → List Nat → Prop) → Prop) (Kunary : Int32 → St → St → List Nat → (Nat → St → St → List Nat → Prop) → (St → St → List Nat → Prop) → Prop) (Kbehind : Int32 → St → St → List Nat → (Nat → St → St → List Nat → Prop) → (St → St → List Nat → Prop) → Prop) (Kprimary : Int32 → St → St → List Nat → (Nat → St → St → List Nat → Prop) → (St → St → List Nat → Prop) → Prop) (Kcall_0 : Int32 → Int32 → St → St → List Nat → (Nat → St → St → List Nat → Prop) → (St → St → List Nat → Prop) → Prop) (hKexpression : ∀ {a1 : Int32} {σ τ : St} {vs : List Nat} {Q : Nat → St → St → List Nat → Prop} {T : St → St → List Nat → Prop}, vs.length ≤ CAP → Kexpression a1 σ τ vs Q T → ∀ (l : Launch) (D : va_G) (cy : Nat → ClassId), Ct l D cy SM r (EM a) y_X14_expression (Cond.code y_X14_expression b_X14_expression 12 (some (.object "LinkedUnitsModel$Value"))) dK [.ref (r 0), .int a1] σ τ vs (QAs Q) T) {a1 : Int32} {a2 : Int32} {σ τ : St} {vs : List Nat} {Q : Nat → St → St → List Nat → Prop} {T : St → St → List Nat → Prop} (hcap : vs.length ≤ CAP) (w : wp_call_0 Kexpression Kchoice Kbinary Kdecided Kunary Kbehind Kprimary Kcall_0 a1 a2 σ τ vs Q T) (l : Launch) (D : va_G) (cy : Nat → ClassId) : Ct l D cy SM r (EM a) y_X14_call_0 (Cond.code y_X14_call_0 b_X14_call_0 10 (some (.object "LinkedUnitsModel$Value"))) (dK + 1) [.ref (r 0), .int a1, .int a2] σ τ vs (QAs Q) T := by
  unfold wp_call_0 at w
  refine Ct_of (EM_ok a) (by decide) (Nat.le_of_ble_eq_true rfl) hcap (fun X hnn hF => ?_)
  show G SM r X σ τ vs [(0, .ref (r 0)), (1, .int a1), (2, .int a2)] [] 0
  refine g_aload_n hF d_X14_call_0_0 rfl 0 rfl ?_
  refine g_iload_n hF d_X14_call_0_1 rfl 1 rfl ?_
  refine g_callV (As := [.int a1]) (rest := []) hF (fun l D cy => (ct_local a r hcap w) l D cy) (Nat.add_le_add_right (Nat.le_trans (Nat.le_of_ble_eq_true rfl) hdK) 1) mV_X14_local m_2502 (recv_ob obM_0) rfl rfl (Nat.le_of_ble_eq_true rfl) d_X14_call_0_2 (krI (fun v2 w1 => ?_)) (fun _ _ _ h => h.elim)
  obtain ⟨J17, h17, w2⟩ := w1
  have b17 : ∀ (y0_17 : Int32), J17 y0_17 → G SM r X σ τ vs [(0, .ref (r 0)), (1, .int a1), (2, .int a2)] [.int y0_17] 17 := by
    intro y0_17  w17_
    have w17_ := h17 y0_17  w17_
    refine g_istore_n hF [(3, .int y0_17), (0, .ref (r 0)), (1, .int a1), (2, .int a2)] d_X14_call_0_17 rfl hnn (by decide) rfl ?_
    refine g_iload_n hF d_X14_call_0_18 rfl 0 rfl ?_
    obtain ⟨J37, h37, w3⟩ := w17_
    have b37 : ∀ (y0_37 : Int32), y0_37 = 0 ∨ y0_37 = 1 → J37 y0_37 → G SM r X σ τ vs [(0, .ref (r 0)), (1, .int a1), (2, .int a2), (3, .int y0_17)] [.int y0_37] 37 := by
      intro y0_37 hy0_37 w37_
      have w37_ := h37 y0_37 hy0_37 w37_
      refine g_istore hF [(4, .int y0_37), (0, .ref (r 0)), (1, .int a1), (2, .int a2), (3, .int y0_17)] d_X14_call_0_37 hnn (by decide) rfl ?_
      refine g_aload_n hF d_X14_call_0_39 rfl 1 rfl ?_
      refine g_iload hF d_X14_call_0_40 0 rfl ?_
      refine g_iload_n hF d_X14_call_0_42 rfl 2 rfl ?_
      refine g_callV (As := [.int y0_37, .int a1]) (rest := []) hF (fun l D cy => (ct_must a r hcap w37_) l D cy) (Nat.add_le_add_right (Nat.le_trans (Nat.le_of_ble_eq_true rfl) hdK) 1) mV_X14_must m_2313 (recv_ob obM_0) rfl rfl (Nat.le_of_ble_eq_true rfl) d_X14_call_0_43 (kV (fun s43 t43 z43 w4 => ?_)) (fun _ _ _ h => h.elim)
      refine g_iload hF d_X14_call_0_46 0 rfl ?_
      obtain ⟨J58, h58, w5⟩ := w4
      have b58 : ∀ (s58 t58 : St) (z58 : List Nat), J58 s58 t58 z58 → G SM r X s58 t58 z58 [(0, .ref (r 0)), (1, .int a1), (2, .int a2), (3, .int y0_17), (4, .int y0_37)] [] 58 := by
        intro s58 t58 z58  w58_
        have w58_ := h58 s58 t58 z58  w58_
        refine g_iload hF d_X14_call_0_58 4 rfl ?_
        obtain ⟨J99, h99, w6⟩ := w58_
        have b99 : ∀ (s99 t99 : St) (z99 : List Nat), J99 s99 t99 z99 → G SM r X s99 t99 z99 [(0, .ref (r 0)), (1, .int a1), (2, .int a2), (3, .int y0_17), (4, .int y0_37)] [] 99 := by
          intro s99 t99 z99  w99_
          have w99_ := h99 s99 t99 z99  w99_
          refine g_aload_n hF d_X14_call_0_99 rfl 0 rfl ?_
          refine g_iload_n hF d_X14_call_0_100 rfl 2 rfl ?_
          refine g_cap (fun hc6 => ?_)
          refine g_callV (As := [.int a2]) (rest := []) hF (fun l D cy => (ct_deeper a r hc6 w99_) l D cy) (Nat.add_le_add_right (Nat.le_trans (Nat.le_of_ble_eq_true rfl) hdK) 1) mV_X14_deeper m_2381 (recv_ob obM_0) rfl rfl (Nat.le_of_ble_eq_true rfl) d_X14_call_0_101 (kI (fun v101 s101 t101 z101 w8 => ?_)) (fun σ9 τ9 vs9 h9 => g_out hF stopM rfl h9)
          refine g_istore hF [(5, .int v101), (0, .ref (r 0)), (1, .int a1), (2, .int a2), (3, .int y0_17), (4, .int y0_37)] d_X14_call_0_104 hnn (by decide) rfl ?_
          refine g_aload_n hF d_X14_call_0_106 rfl 1 rfl ?_
          refine g_dup hF d_X14_call_0_107 rfl ?_
          refine g_get (v := .int (s101 0 10)) hF 10 obM_0 (by decide) m_1875 rfl d_X14_call_0_108 ?_
          refine g_iconst hF (v := 1) d_X14_call_0_111 (by decide) ?_
          refine g_iadd hF d_X14_call_0_112 ?_
          refine g_put (v := ((s101 0 10) + (1 : Int32))) hF 10 obM_0 (by decide) m_1875 rfl rfl rfl d_X14_call_0_113 ?_
          refine g_iconst hF (v := 0) d_X14_call_0_116 (by decide) ?_
          refine g_istore hF [(6, .int 0), (5, .int v101), (0, .ref (r 0)), (1, .int a1), (2, .int a2), (3, .int y0_17), (4, .int y0_37)] d_X14_call_0_117 hnn (by decide) rfl ?_
          refine g_iconst hF (v := 0) d_X14_call_0_119 (by decide) ?_
          refine g_istore hF [(7, .int 0), (6, .int 0), (5, .int v101), (0, .ref (r 0)), (1, .int a1), (2, .int a2), (3, .int y0_17), (4, .int y0_37)] d_X14_call_0_120 hnn (by decide) rfl ?_
          refine g_iconst hF (v := 1) d_X14_call_0_122 (by decide) ?_
          refine g_istore hF [(8, .int 1), (7, .int 0), (6, .int 0), (5, .int v101), (0, .ref (r 0)), (1, .int a1), (2, .int a2), (3, .int y0_17), (4, .int y0_37)] d_X14_call_0_123 hnn (by decide) rfl ?_
          refine g_aload_n hF d_X14_call_0_125 rfl 4 rfl ?_
          refine g_bipush hF (v := 21) d_X14_call_0_126 (by decide) ?_
          refine g_cap (fun hc8 => ?_)
          refine g_callV (As := [.int 21]) (rest := []) hF (fun l D cy => (ct_is a r hc8 w8) l D cy) (Nat.add_le_add_right (Nat.le_trans (Nat.le_of_ble_eq_true rfl) hdK) 1) mV_X14_is m_2289 (recv_ob obM_0) rfl rfl (Nat.le_of_ble_eq_true rfl) d_X14_call_0_128 (krZ (fun v128 hz128 w10 => ?_)) (fun _ _ _ h => h.elim)
          obtain ⟨J220, h220, w11⟩ := w10
          have b220 : ∀ (x6_220 : Int32) (x7_220 : Int32) (x8_220 : Int32) (s220 t220 : St) (z220 : List Nat), x8_220 = 0 ∨ x8_220 = 1 → J220 x6_220 x7_220 x8_220 s220 t220 z220 → G SM r X s220 t220 z220 [(0, .ref (r 0)), (1, .int a1), (3, .int y0_17), (4, .int y0_37), (6, .int x6_220), (7, .int x7_220), (8, .int x8_220)] [] 220 := by
            intro x6_220 x7_220 x8_220 s220 t220 z220 hx8_220 w220_
            have w220_ := h220 x6_220 x7_220 x8_220 s220 t220 z220 hx8_220 w220_
            refine g_aload_n hF d_X14_call_0_220 rfl 0 rfl ?_
            refine g_bipush hF (v := 21) d_X14_call_0_221 (by decide) ?_
            refine g_cap (fun hc11 => ?_)
            refine g_callV (As := [.int 21]) (rest := []) hF (fun l D cy => (ct_expect a r hc11 w220_) l D cy) (Nat.add_le_add_right (Nat.le_trans (Nat.le_of_ble_eq_true rfl) hdK) 1) mV_X14_expect m_2285 (recv_ob obM_0) rfl rfl (Nat.le_of_ble_eq_true rfl) d_X14_call_0_223 (kV (fun s223 t223 z223 w13 => ?_)) (fun σ9 τ9 vs9 h9 => g_out hF stopM rfl h9)
            refine g_aload_n hF d_X14_call_0_226 rfl 0 rfl ?_
            refine g_iload hF d_X14_call_0_227 6 rfl ?_
            obtain ⟨J253, h253, w14⟩ := w13
            have b253 : ∀ (y1_253 : Int32), y1_253 = 0 ∨ y1_253 = 1 → J253 y1_253 → G SM r X s223 t223 z223 [(0, .ref (r 0)), (1, .int a1), (3, .int y0_17), (4, .int y0_37), (7, .int x7_220)] [.int y1_253, .ref (r 0)] 253 := by
              intro y1_253 hy1_253 w253_
              have w253_ := h253 y1_253 hy1_253 w253_
              refine g_iload_n hF d_X14_call_0_253 rfl 1 rfl ?_
              refine g_cap (fun hc14 => ?_)
              refine g_callV (As := [.int y1_253, .int a1]) (rest := []) hF (fun l D cy => (ct_must a r hc14 w253_) l D cy) (Nat.add_le_add_right (Nat.le_trans (Nat.le_of_ble_eq_true rfl) hdK) 1) mV_X14_must m_2313 (recv_ob obM_0) rfl rfl (Nat.le_of_ble_eq_true rfl) d_X14_call_0_254 (kV (fun s254 t254 z254 w16 => ?_)) (fun _ _ _ h => h.elim)
              refine g_aload_n hF d_X14_call_0_257 rfl 0 rfl ?_
              refine g_bipush hF (v := 19) d_X14_call_0_258 (by decide) ?_
              refine g_iload hF d_X14_call_0_260 3 rfl ?_
              obtain ⟨J280, h280, w17⟩ := w16
              have b280 : ∀ (y2_280 : Int32), J280 y2_280 → G SM r X s254 t254 z254 [(0, .ref (r 0)), (1, .int a1), (3, .int y0_17), (4, .int y0_37), (7, .int x7_220)] [.int y2_280, .int 19, .ref (r 0)] 280 := by
                intro y2_280  w280_
                have w280_ := h280 y2_280  w280_
                refine g_aload_n hF d_X14_call_0_280 rfl 0 rfl ?_
                refine g_get (v := .ref (r 5)) hF 6 obM_0 (by decide) m_1871 rfl d_X14_call_0_281 ?_
                refine g_iload_n hF d_X14_call_0_284 rfl 1 rfl ?_
                have w18 := w280_.2
                refine g_iald hF arM_5 (s_in (Nat.le_of_ble_eq_true rfl) w280_.1.1 w280_.1.2) d_X14_call_0_285 ?_
                refine g_top (v := (s254 5 a1.toNatClampNeg)) rfl ?_
                refine g_cap (fun hc18 => ?_)
                refine g_callV (As := [.int 19, .int y2_280, .int (s254 5 a1.toNatClampNeg)]) (rest := []) hF (fun l D cy => (ct_put_2 a r hc18 w18) l D cy) (Nat.add_le_add_right (Nat.le_trans (Nat.le_of_ble_eq_true rfl) hdK) 1) mV_X14_put_2 m_2449 (recv_ob obM_0) rfl rfl (Nat.le_of_ble_eq_true rfl) d_X14_call_0_286 (kV (fun s286 t286 z286 w20 => ?_)) (fun _ _ _ h => h.elim)
                refine g_new hF clsVC VC_ty m_2393 m_2394 m_25 w20.1 d_X14_call_0_289 (fun q289 hq289 => ?_)
                have w21 := w20.2 q289 hq289
                refine g_dup hF d_X14_call_0_292 rfl ?_
                refine g_iload hF d_X14_call_0_293 3 rfl ?_
                obtain ⟨J309, h309, w22⟩ := w21
                have b309 : ∀ (y2_309 : Int32), J309 y2_309 → G SM r X s286 (upF t286 q289 (fun _ => 0)) (z286 ++ [q289]) [(0, .ref (r 0)), (1, .int a1), (7, .int x7_220)] [.int y2_309, .ref q289, .ref q289] 309 := by
                  intro y2_309  w309_
                  have w309_ := h309 y2_309  w309_
                  refine g_cap (fun hc22 => ?_)
                  refine g_callI (As := [.int y2_309]) (rest := [.ref q289]) hF (fun l D cy => (ct_Vinit a r hc22 w309_) l D cy) (Nat.add_le_add_right (Nat.le_trans (Nat.le_of_ble_eq_true rfl) hdK) 1) mI_X13_init m_2395 rfl rfl (Nat.le_of_ble_eq_true rfl) d_X14_call_0_309 (kV (fun s309 t309 z309 w24 => ?_))
                  refine g_astore hF [(9, .ref q289), (0, .ref (r 0)), (1, .int a1), (7, .int x7_220)] d_X14_call_0_312 hnn (by decide) rfl ?_
                  refine g_aload hF d_X14_call_0_314 0 rfl ?_
                  refine g_iload hF d_X14_call_0_316 3 rfl ?_
                  refine g_iconst hF (v := 1) d_X14_call_0_318 (by decide) ?_
                  refine g_iadd hF d_X14_call_0_319 ?_
                  obtain ⟨hm24, w25⟩ := w24
                  refine g_vput hF 3 hm24 clsVC (by decide) m_2404 rfl rfl d_X14_call_0_320 ?_
                  refine g_aload hF d_X14_call_0_323 0 rfl ?_
                  refine g_vget hF 3 hm24 clsVC (by decide) m_2404 d_X14_call_0_325 ?_
                  refine g_top (v := (x7_220 + (1 : Int32))) upC_same ?_
                  refine g_bipush hF (v := 60) d_X14_call_0_328 (by decide) ?_
                  refine g_icmp_le (yv := 60) hF 339 d_X14_call_0_330 (by decide) rfl (by decide) (fun c => ?_) (fun c => ?_)
                  · have w26 := w25.1 c
                    refine g_aload hF d_X14_call_0_339 0 rfl ?_
                    exact g_aret hF rfl d_X14_call_0_341 ⟨q289, rfl, w26⟩
                  · have w27 := w25.2 c
                    refine g_aload_n hF d_X14_call_0_333 rfl 1 rfl ?_
                    refine g_iconst hF (v := 4) d_X14_call_0_334 (by decide) ?_
                    refine g_iload_n hF d_X14_call_0_335 rfl 2 rfl ?_
                    refine g_cap (fun hc27 => ?_)
                    refine g_callV (As := [.int 4, .int a1]) (rest := []) hF (fun l D cy => (ct_tell a r hc27 w27) l D cy) (Nat.add_le_add_right (Nat.le_trans (Nat.le_of_ble_eq_true rfl) hdK) 1) mV_X14_tell m_2317 (recv_ob obM_0) rfl rfl (Nat.le_of_ble_eq_true rfl) d_X14_call_0_336 (kV (fun s336 t336 z336 w29 => ?_)) (fun _ _ _ h => h.elim)
                    refine g_aload hF d_X14_call_0_339 0 rfl ?_
                    exact g_aret hF rfl d_X14_call_0_341 ⟨q289, rfl, w29⟩
                refine g_if_eq hF 307 d_X14_call_0_295 (by decide) rfl (fun c => ?_) (fun c => ?_)
                · have w30 := w22.1 c
                  refine g_bipush hF (v := (-2)) d_X14_call_0_307 (by decide) ?_
                  exact g_sub (L' := [(0, .ref (r 0)), (1, .int a1), (7, .int x7_220)]) [0, 1, 4] rfl (b309 ((-2) : Int32) w30)
                · have w31 := w22.2 c
                  refine g_aload_n hF d_X14_call_0_298 rfl 0 rfl ?_
                  refine g_get (v := .ref (r 10)) hF 19 obM_0 (by decide) m_1884 rfl d_X14_call_0_299 ?_
                  refine g_iload_n hF d_X14_call_0_302 rfl 2 rfl ?_
                  have w32 := w31.2
                  refine g_iald hF arM_10 (s_in (Nat.le_of_ble_eq_true rfl) w31.1.1 w31.1.2) d_X14_call_0_303 ?_
                  refine g_top (v := (s286 10 y0_17.toNatClampNeg)) rfl ?_
                  refine g_goto hF 309 d_X14_call_0_304 (by decide) ?_
                  exact g_sub (L' := [(0, .ref (r 0)), (1, .int a1), (7, .int x7_220)]) [0, 1, 4] rfl (b309 (s286 10 y0_17.toNatClampNeg) w32)
              refine g_if_eq hF 279 d_X14_call_0_262 (by decide) rfl (fun c => ?_) (fun c => ?_)
              · have w33 := w17.1 c
                refine g_iconst hF (v := 0) d_X14_call_0_279 (by decide) ?_
                exact b280 (0 : Int32) w33
              · have w34 := w17.2 c
                refine g_iload_n hF d_X14_call_0_265 rfl 2 rfl ?_
                refine g_aload_n hF d_X14_call_0_266 rfl 0 rfl ?_
                refine g_get (v := .ref (r 22)) hF 32 obM_0 (by decide) m_1897 rfl d_X14_call_0_267 ?_
                refine g_aload_n hF d_X14_call_0_270 rfl 0 rfl ?_
                refine g_get (v := .int (s254 0 35)) hF 35 obM_0 (by decide) m_1900 rfl d_X14_call_0_271 ?_
                have w35 := w34.2
                refine g_iald hF arM_22 (s_in (Nat.le_of_ble_eq_true rfl) w34.1.1 w34.1.2) d_X14_call_0_274 ?_
                refine g_top (v := (s254 22 (s254 0 35).toNatClampNeg)) rfl ?_
                refine g_isub hF d_X14_call_0_275 ?_
                refine g_goto hF 280 d_X14_call_0_276 (by decide) ?_
                exact b280 (y0_17 - (s254 22 (s254 0 35).toNatClampNeg)) w35
            obtain ⟨J252, h252, w36⟩ := w14
            have b252 : J252  → G SM r X s223 t223 z223 [(0, .ref (r 0)), (1, .int a1), (3, .int y0_17), (4, .int y0_37), (7, .int x7_220)] [.ref (r 0)] 252 := by
              intro   w252_
              have w252_ := h252   w252_
              refine g_iconst hF (v := 0) d_X14_call_0_252 (by decide) ?_
              exact b253 (0 : Int32) (Or.inl rfl) w252_
            refine g_if_eq hF 252 d_X14_call_0_229 (by decide) rfl (fun c => ?_) (fun c => ?_)
            · have w37 := w36.1 c
              exact g_sub (L' := [(0, .ref (r 0)), (1, .int a1), (3, .int y0_17), (4, .int y0_37), (7, .int x7_220)]) [0, 1, 2, 3, 5] rfl (b252  w37)
            · have w38 := w36.2 c
              refine g_iload hF d_X14_call_0_232 3 rfl ?_
              refine g_if_eq hF 252 d_X14_call_0_234 (by decide) rfl (fun c => ?_) (fun c => ?_)
              · have w39 := w38.1 c
                exact g_sub (L' := [(0, .ref (r 0)), (1, .int a1), (3, .int y0_17), (4, .int y0_37), (7, .int x7_220)]) [0, 1, 2, 3, 5] rfl (b252  w39)
              · have w40 := w38.2 c
                refine g_iload hF d_X14_call_0_237 4 rfl ?_
                refine g_aload_n hF d_X14_call_0_239 rfl 0 rfl ?_
                refine g_get (v := .ref (r 15)) hF 24 obM_0 (by decide) m_1889 rfl d_X14_call_0_240 ?_
                refine g_iload_n hF d_X14_call_0_243 rfl 2 rfl ?_
                have w41 := w40.2
                refine g_iald hF arM_15 (s_in (Nat.le_of_ble_eq_true rfl) w40.1.1 w40.1.2) d_X14_call_0_244 ?_
                refine g_top (v := (s223 15 y0_17.toNatClampNeg)) rfl ?_
                refine g_icmp_ne hF 252 d_X14_call_0_245 (by decide) rfl rfl (fun c => ?_) (fun c => ?_)
                · have w42 := w41.1 c
                  exact g_sub (L' := [(0, .ref (r 0)), (1, .int a1), (3, .int y0_17), (4, .int y0_37), (7, .int x7_220)]) [0, 1, 2, 3, 5] rfl (b252  w42)
                · have w43 := w41.2 c
                  refine g_iconst hF (v := 1) d_X14_call_0_248 (by decide) ?_
                  refine g_goto hF 253 d_X14_call_0_249 (by decide) ?_
                  exact g_sub (L' := [(0, .ref (r 0)), (1, .int a1), (3, .int y0_17), (4, .int y0_37), (7, .int x7_220)]) [0, 1, 2, 3, 5] rfl (b253 (1 : Int32) (Or.inr rfl) w43)
          refine g_if_ne hF 220 d_X14_call_0_131 (by decide) rfl (fun c => ?_) (fun c => ?_)
          · have w44 := w11.1 c
            exact g_sub (L' := [(0, .ref (r 0)), (1, .int a1), (3, .int y0_17), (4, .int y0_37), (6, .int 0), (7, .int 0), (8, .int 1)]) [4, 5, 7, 8, 2, 1, 0] rfl (b220 (0 : Int32) (0 : Int32) (1 : Int32) (upC s101 0 10 ((s101 0 10) + (1 : Int32))) t101 z101 (Or.inr rfl) w44)
          · have w45 := w11.2 c
            obtain ⟨L134, ⟨i134, u134⟩, h134⟩ := w45
            have b134 : ∀ (n134 : Nat) (x6_134 : Int32) (x7_134 : Int32) (x8_134 : Int32) (s134 t134 : St) (z134 : List Nat), x8_134 = 0 ∨ x8_134 = 1 → L134 n134 x6_134 x7_134 x8_134 s134 t134 z134 → G SM r X s134 t134 z134 [(0, .ref (r 0)), (1, .int a1), (3, .int y0_17), (4, .int y0_37), (5, .int v101), (6, .int x6_134), (7, .int x7_134), (8, .int x8_134)] [] 134 := by
              intro n134
              induction n134 using Nat.strongRecOn with
              | _ n134 ih134 =>
                intro x6_134 x7_134 x8_134 s134 t134 z134 hx8_134 w134_
                have w134_ := h134 n134 x6_134 x7_134 x8_134 s134 t134 z134 hx8_134 w134_
                refine g_aload_n hF d_X14_call_0_134 rfl 0 rfl ?_
                refine g_iload hF d_X14_call_0_135 4 rfl ?_
                refine g_cap (fun hc45 => ?_)
                refine g_callV (As := [.int v101]) (rest := []) hF (fun l D cy => (hKexpression hc45 w134_) l D cy) (Nat.le_refl _) mV_X14_expression m_2361 (recv_ob obM_0) rfl rfl (Nat.le_of_ble_eq_true rfl) d_X14_call_0_137 (kA (fun u137 s137 t137 z137 w47 => ?_)) (fun σ9 τ9 vs9 h9 => g_out hF stopM rfl h9)
                refine g_astore hF [(9, .ref u137), (0, .ref (r 0)), (1, .int a1), (3, .int y0_17), (4, .int y0_37), (5, .int v101), (6, .int x6_134), (7, .int x7_134), (8, .int x8_134)] d_X14_call_0_140 hnn (by decide) rfl ?_
                refine g_aload_n hF d_X14_call_0_142 rfl 1 rfl ?_
                refine g_aload hF d_X14_call_0_143 0 rfl ?_
                refine g_cap (fun hc47 => ?_)
                refine g_callV (As := [.ref u137]) (rest := []) hF (fun l D cy => (ct_read_1 a r hc47 w47) l D cy) (Nat.add_le_add_right (Nat.le_trans (Nat.le_of_ble_eq_true rfl) hdK) 1) mV_X14_read_1 m_2453 (recv_ob obM_0) rfl rfl (Nat.le_of_ble_eq_true rfl) d_X14_call_0_145 (kV (fun s145 t145 z145 w49 => ?_)) (fun _ _ _ h => h.elim)
                refine g_iload hF d_X14_call_0_148 8 rfl ?_
                obtain ⟨J194, h194, w50⟩ := w49
                have b194 : ∀ (y0_194 : Int32), y0_194 = 0 ∨ y0_194 = 1 → J194 y0_194 → G SM r X s145 t145 z145 [(0, .ref (r 0)), (1, .int a1), (3, .int y0_17), (4, .int y0_37), (5, .int v101), (6, .int x6_134), (7, .int x7_134), (9, .ref u137)] [.int y0_194] 194 := by
                  intro y0_194 hy0_194 w194_
                  have w194_ := h194 y0_194 hy0_194 w194_
                  refine g_istore hF [(8, .int y0_194), (0, .ref (r 0)), (1, .int a1), (3, .int y0_17), (4, .int y0_37), (5, .int v101), (6, .int x6_134), (7, .int x7_134), (9, .ref u137)] d_X14_call_0_194 hnn (by decide) rfl ?_
                  refine g_iload hF d_X14_call_0_196 7 rfl ?_
                  refine g_aload hF d_X14_call_0_198 8 rfl ?_
                  obtain ⟨hm50, w51⟩ := w194_
                  refine g_vget hF 3 hm50 clsVC (by decide) m_2404 d_X14_call_0_200 ?_
                  refine g_top (v := (t145 u137 3)) rfl ?_
                  refine g_mmax hF (Nat.add_le_add_right (Nat.le_trans (Nat.le_of_ble_eq_true rfl) hdK) 1) m_2432 m_1131 m_23 m_1132 (Nat.le_of_ble_eq_true rfl) d_X14_call_0_203 ?_
                  refine g_istore hF [(7, .int (if x7_134 < (t145 u137 3) then (t145 u137 3) else x7_134)), (8, .int y0_194), (0, .ref (r 0)), (1, .int a1), (3, .int y0_17), (4, .int y0_37), (5, .int v101), (6, .int x6_134), (9, .ref u137)] d_X14_call_0_206 hnn (by decide) rfl ?_
                  refine g_iinc hF (x6_134 + 1) [(6, .int (x6_134 + 1)), (7, .int (if x7_134 < (t145 u137 3) then (t145 u137 3) else x7_134)), (8, .int y0_194), (0, .ref (r 0)), (1, .int a1), (3, .int y0_17), (4, .int y0_37), (5, .int v101), (9, .ref u137)] d_X14_call_0_208 7 rfl rfl hnn (by decide) rfl ?_
                  refine g_aload_n hF d_X14_call_0_211 rfl 3 rfl ?_
                  refine g_bipush hF (v := 26) d_X14_call_0_212 (by decide) ?_
                  refine g_cap (fun hc51 => ?_)
                  refine g_callV (As := [.int 26]) (rest := []) hF (fun l D cy => (ct_accept a r hc51 w51) l D cy) (Nat.add_le_add_right (Nat.le_trans (Nat.le_of_ble_eq_true rfl) hdK) 1) mV_X14_accept m_2293 (recv_ob obM_0) rfl rfl (Nat.le_of_ble_eq_true rfl) d_X14_call_0_214 (kZ (fun v214 s214 t214 z214 hz214 w53 => ?_)) (fun _ _ _ h => h.elim)
                  refine g_if_ne hF 134 d_X14_call_0_217 (by decide) rfl (fun c => ?_) (fun c => ?_)
                  · have w54 := w53.1 c
                    obtain ⟨m134, hm134, w9⟩ := w54
                    exact g_sub (L' := [(0, .ref (r 0)), (1, .int a1), (3, .int y0_17), (4, .int y0_37), (5, .int v101), (6, .int (x6_134 + 1)), (7, .int (if x7_134 < (t145 u137 3) then (t145 u137 3) else x7_134)), (8, .int y0_194)]) [3, 4, 5, 6, 7, 0, 1, 2] rfl (ih134 m134 hm134 (x6_134 + 1) (if x7_134 < (t145 u137 3) then (t145 u137 3) else x7_134) y0_194 s214 t214 z214 hy0_194 w9)
                  · have w55 := w53.2 c
                    exact g_sub (L' := [(0, .ref (r 0)), (1, .int a1), (3, .int y0_17), (4, .int y0_37), (6, .int (x6_134 + 1)), (7, .int (if x7_134 < (t145 u137 3) then (t145 u137 3) else x7_134)), (8, .int y0_194)]) [3, 4, 5, 6, 0, 1, 2] rfl (b220 (x6_134 + 1) (if x7_134 < (t145 u137 3) then (t145 u137 3) else x7_134) y0_194 s214 t214 z214 hy0_194 w55)
                obtain ⟨J193, h193, w56⟩ := w50
                have b193 : J193  → G SM r X s145 t145 z145 [(0, .ref (r 0)), (1, .int a1), (3, .int y0_17), (4, .int y0_37), (5, .int v101), (6, .int x6_134), (7, .int x7_134), (9, .ref u137)] [] 193 := by
                  intro   w193_
                  have w193_ := h193   w193_
                  refine g_iconst hF (v := 0) d_X14_call_0_193 (by decide) ?_
                  exact b194 (0 : Int32) (Or.inl rfl) w193_
                refine g_if_eq hF 193 d_X14_call_0_150 (by decide) rfl (fun c => ?_) (fun c => ?_)
                · have w57 := w56.1 c
                  exact g_sub (L' := [(0, .ref (r 0)), (1, .int a1), (3, .int y0_17), (4, .int y0_37), (5, .int v101), (6, .int x6_134), (7, .int x7_134), (9, .ref u137)]) [1, 2, 3, 4, 5, 6, 7, 0] rfl (b193  w57)
                · have w58 := w56.2 c
                  refine g_iload hF d_X14_call_0_153 4 rfl ?_
                  refine g_if_eq hF 193 d_X14_call_0_155 (by decide) rfl (fun c => ?_) (fun c => ?_)
                  · have w59 := w58.1 c
                    exact g_sub (L' := [(0, .ref (r 0)), (1, .int a1), (3, .int y0_17), (4, .int y0_37), (5, .int v101), (6, .int x6_134), (7, .int x7_134), (9, .ref u137)]) [1, 2, 3, 4, 5, 6, 7, 0] rfl (b193  w59)
                  · have w60 := w58.2 c
                    refine g_iload hF d_X14_call_0_158 6 rfl ?_
                    refine g_aload_n hF d_X14_call_0_160 rfl 1 rfl ?_
                    refine g_get (v := .ref (r 15)) hF 24 obM_0 (by decide) m_1889 rfl d_X14_call_0_161 ?_
                    refine g_iload_n hF d_X14_call_0_164 rfl 3 rfl ?_
                    have w61 := w60.2
                    refine g_iald hF arM_15 (s_in (Nat.le_of_ble_eq_true rfl) w60.1.1 w60.1.2) d_X14_call_0_165 ?_
                    refine g_top (v := (s145 15 y0_17.toNatClampNeg)) rfl ?_
                    refine g_icmp_ge hF 193 d_X14_call_0_166 (by decide) rfl rfl (fun c => ?_) (fun c => ?_)
                    · have w62 := w61.1 c
                      exact g_sub (L' := [(0, .ref (r 0)), (1, .int a1), (3, .int y0_17), (4, .int y0_37), (5, .int v101), (6, .int x6_134), (7, .int x7_134), (9, .ref u137)]) [1, 2, 3, 4, 5, 6, 7, 0] rfl (b193  w62)
                    · have w63 := w61.2 c
                      refine g_aload hF d_X14_call_0_169 0 rfl ?_
                      refine g_aload_n hF d_X14_call_0_171 rfl 1 rfl ?_
                      refine g_get (v := .ref (r 16)) hF 25 obM_0 (by decide) m_1890 rfl d_X14_call_0_172 ?_
                      refine g_bipush hF (v := 8) d_X14_call_0_175 (by decide) ?_
                      refine g_iload_n hF d_X14_call_0_177 rfl 3 rfl ?_
                      refine g_imul hF d_X14_call_0_178 ?_
                      refine g_iload hF d_X14_call_0_179 6 rfl ?_
                      refine g_iadd hF d_X14_call_0_181 ?_
                      have w64 := w63.2
                      refine g_iald hF arM_16 (s_in (Nat.le_of_ble_eq_true rfl) w63.1.1 w63.1.2) d_X14_call_0_182 ?_
                      refine g_top (v := (s145 16 (((8 : Int32) * y0_17) + x6_134).toNatClampNeg)) rfl ?_
                      refine g_cap (fun hc64 => ?_)
                      refine g_callS (As := [.ref u137, .int (s145 16 (((8 : Int32) * y0_17) + x6_134).toNatClampNeg)]) (rest := []) hF (fun l D cy => (ct_fits a r hc64 w64) l D cy) (Nat.add_le_add_right (Nat.le_trans (Nat.le_of_ble_eq_true rfl) hdK) 1) mS_X14_fits m_2506 rfl rfl (Nat.le_of_ble_eq_true rfl) d_X14_call_0_183 (krZ (fun v183 hz183 w66 => ?_)) (fun _ _ _ h => h.elim)
                      refine g_if_eq hF 193 d_X14_call_0_186 (by decide) rfl (fun c => ?_) (fun c => ?_)
                      · have w67 := w66.1 c
                        exact g_sub (L' := [(0, .ref (r 0)), (1, .int a1), (3, .int y0_17), (4, .int y0_37), (5, .int v101), (6, .int x6_134), (7, .int x7_134), (9, .ref u137)]) [1, 2, 3, 4, 5, 6, 7, 0] rfl (b193  w67)
                      · have w68 := w66.2 c
                        refine g_iconst hF (v := 1) d_X14_call_0_189 (by decide) ?_
                        refine g_goto hF 194 d_X14_call_0_190 (by decide) ?_
                        exact g_sub (L' := [(0, .ref (r 0)), (1, .int a1), (3, .int y0_17), (4, .int y0_37), (5, .int v101), (6, .int x6_134), (7, .int x7_134), (9, .ref u137)]) [1, 2, 3, 4, 5, 6, 7, 0] rfl (b194 (1 : Int32) (Or.inr rfl) w68)
            exact g_sub (L' := [(0, .ref (r 0)), (1, .int a1), (3, .int y0_17), (4, .int y0_37), (5, .int v101), (6, .int 0), (7, .int 0), (8, .int 1)]) [4, 5, 7, 8, 3, 2, 1, 0] rfl (b134 i134 (0 : Int32) (0 : Int32) (1 : Int32) (upC s101 0 10 ((s101 0 10) + (1 : Int32))) t101 z101 (Or.inr rfl) u134)
        refine g_if_eq hF 99 d_X14_call_0_60 (by decide) rfl (fun c => ?_) (fun c => ?_)
        · have w69 := w6.1 c
          exact b99 s58 t58 z58 w69
        · have w70 := w6.2 c
          refine g_aload_n hF d_X14_call_0_63 rfl 0 rfl ?_
          refine g_get (v := .ref (r 21)) hF 30 obM_0 (by decide) m_1895 rfl d_X14_call_0_64 ?_
          refine g_iload_n hF d_X14_call_0_67 rfl 3 rfl ?_
          refine g_aload_n hF d_X14_call_0_68 rfl 0 rfl ?_
          refine g_get (v := .ref (r 22)) hF 32 obM_0 (by decide) m_1897 rfl d_X14_call_0_69 ?_
          refine g_aload_n hF d_X14_call_0_72 rfl 0 rfl ?_
          refine g_get (v := .int (s58 0 35)) hF 35 obM_0 (by decide) m_1900 rfl d_X14_call_0_73 ?_
          have w71 := w70.2
          refine g_iald hF arM_22 (s_in (Nat.le_of_ble_eq_true rfl) w70.1.1 w70.1.2) d_X14_call_0_76 ?_
          refine g_top (v := (s58 22 (s58 0 35).toNatClampNeg)) rfl ?_
          refine g_isub hF d_X14_call_0_77 ?_
          have w72 := w71.2
          refine g_iald hF arM_21 (s_in (Nat.le_of_ble_eq_true rfl) w71.1.1 w71.1.2) d_X14_call_0_78 ?_
          refine g_top (v := (s58 21 (y0_17 - (s58 22 (s58 0 35).toNatClampNeg)).toNatClampNeg)) rfl ?_
          refine g_if_ge hF 99 d_X14_call_0_79 (by decide) rfl (fun c => ?_) (fun c => ?_)
          · have w73 := w72.1 c
            exact b99 s58 t58 z58 w73
          · have w74 := w72.2 c
            refine g_aload_n hF d_X14_call_0_82 rfl 0 rfl ?_
            refine g_get (v := .ref (r 21)) hF 30 obM_0 (by decide) m_1895 rfl d_X14_call_0_83 ?_
            refine g_iload_n hF d_X14_call_0_86 rfl 3 rfl ?_
            refine g_aload_n hF d_X14_call_0_87 rfl 0 rfl ?_
            refine g_get (v := .ref (r 22)) hF 32 obM_0 (by decide) m_1897 rfl d_X14_call_0_88 ?_
            refine g_aload_n hF d_X14_call_0_91 rfl 0 rfl ?_
            refine g_get (v := .int (s58 0 35)) hF 35 obM_0 (by decide) m_1900 rfl d_X14_call_0_92 ?_
            have w75 := w74.2
            refine g_iald hF arM_22 (s_in (Nat.le_of_ble_eq_true rfl) w74.1.1 w74.1.2) d_X14_call_0_95 ?_
            refine g_top (v := (s58 22 (s58 0 35).toNatClampNeg)) rfl ?_
            refine g_isub hF d_X14_call_0_96 ?_
            refine g_iload_n hF d_X14_call_0_97 rfl 1 rfl ?_
            have w76 := w75.2
            refine g_iast hF arM_21 (s_in (Nat.le_of_ble_eq_true rfl) w75.1.1 w75.1.2) d_X14_call_0_98 ?_
            exact b99 (upC s58 21 (y0_17 - (s58 22 (s58 0 35).toNatClampNeg)).toNatClampNeg a1) t58 z58 w76
      refine g_if_eq hF 58 d_X14_call_0_48 (by decide) rfl (fun c => ?_) (fun c => ?_)
      · have w77 := w5.1 c
        exact g_sub (L' := [(0, .ref (r 0)), (1, .int a1), (2, .int a2), (3, .int y0_17), (4, .int y0_37)]) [1, 2, 3, 4, 0] rfl (b58 s43 t43 z43 w77)
      · have w78 := w5.2 c
        refine g_aload_n hF d_X14_call_0_51 rfl 1 rfl ?_
        refine g_get (v := .ref (r 14)) hF 23 obM_0 (by decide) m_1888 rfl d_X14_call_0_52 ?_
        refine g_iload_n hF d_X14_call_0_55 rfl 4 rfl ?_
        refine g_iconst hF (v := 1) d_X14_call_0_56 (by decide) ?_
        have w79 := w78.2
        refine g_zast hF arM_14 (s_in (Nat.le_of_ble_eq_true rfl) w78.1.1 w78.1.2) d_X14_call_0_57 ?_
        exact g_sub (L' := [(0, .ref (r 0)), (1, .int a1), (2, .int a2), (3, .int y0_17), (4, .int y0_37)]) [1, 2, 3, 4, 0] rfl (b58 (upC s43 14 y0_17.toNatClampNeg (vp_nar .boolean (1 : Int32))) t43 z43 w79)
    obtain ⟨J36, h36, w80⟩ := w3
    have b36 : J36  → G SM r X σ τ vs [(0, .ref (r 0)), (1, .int a1), (2, .int a2), (3, .int y0_17)] [] 36 := by
      intro   w36_
      have w36_ := h36   w36_
      refine g_iconst hF (v := 0) d_X14_call_0_36 (by decide) ?_
      exact b37 (0 : Int32) (Or.inl rfl) w36_
    refine g_if_lt hF 36 d_X14_call_0_19 (by decide) rfl (fun c => ?_) (fun c => ?_)
    · have w81 := w80.1 c
      exact g_sub (L' := [(0, .ref (r 0)), (1, .int a1), (2, .int a2), (3, .int y0_17)]) [1, 2, 3, 0] rfl (b36  w81)
    · have w82 := w80.2 c
      refine g_aload_n hF d_X14_call_0_22 rfl 1 rfl ?_
      refine g_get (v := .ref (r 9)) hF 18 obM_0 (by decide) m_1883 rfl d_X14_call_0_23 ?_
      refine g_iload_n hF d_X14_call_0_26 rfl 0 rfl ?_
      have w83 := w82.2
      refine g_iald hF arM_9 (s_in (Nat.le_of_ble_eq_true rfl) w82.1.1 w82.1.2) d_X14_call_0_27 ?_
      refine g_top (v := (σ 9 y0_17.toNatClampNeg)) rfl ?_
      refine g_iconst hF (v := 2) d_X14_call_0_28 (by decide) ?_
      refine g_icmp_ne (yv := 2) hF 36 d_X14_call_0_29 (by decide) rfl (by decide) (fun c => ?_) (fun c => ?_)
      · have w84 := w83.1 c
        exact g_sub (L' := [(0, .ref (r 0)), (1, .int a1), (2, .int a2), (3, .int y0_17)]) [1, 2, 3, 0] rfl (b36  w84)
      · have w85 := w83.2 c
        refine g_iconst hF (v := 1) d_X14_call_0_32 (by decide) ?_
        refine g_goto hF 37 d_X14_call_0_33 (by decide) ?_
        exact g_sub (L' := [(0, .ref (r 0)), (1, .int a1), (2, .int a2), (3, .int y0_17)]) [1, 2, 3, 0] rfl (b37 (1 : Int32) (Or.inr rfl) w85)
  refine g_if_lt hF 12 d_X14_call_0_5 (by decide) rfl (fun c => ?_) (fun c => ?_)
  · have w86 := w2.1 c
    refine g_aload_n hF d_X14_call_0_12 rfl 0 rfl ?_
    refine g_iload_n hF d_X14_call_0_13 rfl 1 rfl ?_
    refine g_callV (As := [.int a1]) (rest := []) hF (fun l D cy => (ct_entity a r hcap w86) l D cy) (Nat.add_le_add_right (Nat.le_trans (Nat.le_of_ble_eq_true rfl) hdK) 1) mV_X14_entity m_2301 (recv_ob obM_0) rfl rfl (Nat.le_of_ble_eq_true rfl) d_X14_call_0_14 (krI (fun v14 w87 => ?_)) (fun _ _ _ h => h.elim)
    exact b17 v14 w87
  · have w88 := w2.2 c
    refine g_iconst hF (v := (-1)) d_X14_call_0_8 (by decide) ?_
    refine g_goto hF 17 d_X14_call_0_9 (by decide) ?_
    exact b17 ((-1) : Int32) w88
def wp_named (a1 : Int32) (σ τ : St) (vs : List Nat) (Q : Nat → St → St → List Nat → Prop) : Prop :=
  wp_local a1 σ τ vs (fun v2 => (v2.toInt < 0 → wp_entity a1 σ τ vs (fun v86 => (∃ J110 : Int32 → Prop, (∀ (y1_110 : Int32), y1_110 = 0 ∨ y1_110 = 1 → J110 y1_110 → (wp_must y1_110 a1 σ τ vs (fun s111 t111 z111 => (∃ J128 : Prop, (J128  → (((z111).length < CAP ∧ ∀ q128 : Nat, q128 ∉ z111 → wp_Vinit q128 ((-2) : Int32) s111 (upF t111 q128 (fun _ => 0)) (z111 ++ [q128]) (fun s134 t134 z134 => Q q128 s134 t134 z134)))) ∧ (v86.toInt < 0 → J128) ∧ (0 ≤ v86.toInt → ((0 ≤ v86.toInt ∧ v86.toInt < 10000) ∧ ((s111 9 v86.toNatClampNeg).toInt = 1 → ((0 ≤ v86.toInt ∧ v86.toInt < 10000) ∧ ((0 ≤ (s111 0 35).toInt ∧ (s111 0 35).toInt < 102) ∧ ((z111).length < CAP ∧ ∀ q158 : Nat, q158 ∉ z111 → ((0 ≤ v86.toInt ∧ v86.toInt < 10000) ∧ (∃ J188 : Int32 → Prop, (∀ (y2_188 : Int32), J188 y2_188 → (wp_Vinit q158 y2_188 (upC s111 14 v86.toNatClampNeg (vp_nar .boolean (1 : Int32))) (upF t111 q158 (fun _ => 0)) (z111 ++ [q158]) (fun s188 t188 z188 => (q158 ∈ z188 ∧ ((0 ≤ v86.toInt ∧ v86.toInt < 10000) ∧ (0 ≤ (s188 11 v86.toNatClampNeg).toInt → wp_put_1 (1 : Int32) (v86 - (s111 22 (s111 0 35).toNatClampNeg)) s188 (upC (upC t188 q158 2 (v86 - (s111 22 (s111 0 35).toNatClampNeg))) q158 4 a1) z188 (fun s228 t228 z228 => (q158 ∈ z228 ∧ wp_Vaddress q158 ((v86 - (s111 22 (s111 0 35).toNatClampNeg)) + (1 : Int32)) (0 : Int32) s228 t228 z228 (fun u238 s238 t238 z238 => Q u238 s238 t238 z238)))) ∧ ((s188 11 v86.toNatClampNeg).toInt < 0 → Q q158 s188 (upC (upC (upC t188 q158 2 (v86 - (s111 22 (s111 0 35).toNatClampNeg))) q158 4 a1) q158 1 (2 : Int32)) z188)))))) ∧ (0 ≤ (s111 11 v86.toNatClampNeg).toInt → ((0 ≤ v86.toInt ∧ v86.toInt < 10000) ∧ J188 ((s111 10 v86.toNatClampNeg) + (1 : Int32)))) ∧ ((s111 11 v86.toNatClampNeg).toInt < 0 → ((0 ≤ v86.toInt ∧ v86.toInt < 10000) ∧ J188 (s111 10 v86.toNatClampNeg))))))))) ∧ ((s111 9 v86.toNatClampNeg).toInt ≠ 1 → J128))))))) ∧ (∃ J109 : Prop, (J109  → (J110 (0 : Int32))) ∧ (v86.toInt < 0 → J109) ∧ (0 ≤ v86.toInt → ((0 ≤ v86.toInt ∧ v86.toInt < 10000) ∧ ((σ 9 v86.toNatClampNeg).toInt ≠ 1 → J109) ∧ ((σ 9 v86.toNatClampNeg).toInt = 1 → J110 (1 : Int32)))))))) ∧ (0 ≤ v2.toInt → ((vs).length < CAP ∧ ∀ q10 : Nat, q10 ∉ vs → ((0 ≤ v2.toInt ∧ v2.toInt < 100) ∧ (∃ J40 : Int32 → Prop, (∀ (y2_40 : Int32), J40 y2_40 → (wp_Vinit q10 y2_40 σ (upF τ q10 (fun _ => 0)) (vs ++ [q10]) (fun s40 t40 z40 => ((0 ≤ v2.toInt ∧ v2.toInt < 100) ∧ (∃ J59 : Int32 → Prop, (∀ (y1_59 : Int32), y1_59 = 0 ∨ y1_59 = 1 → J59 y1_59 → ((q10 ∈ z40 ∧ ((0 ≤ v2.toInt ∧ v2.toInt < 100) ∧ ((s40 32 v2.toNatClampNeg).toInt < 0 → Q q10 s40 (upC (upC t40 q10 1 y1_59) q10 2 v2) z40) ∧ (0 ≤ (s40 32 v2.toNatClampNeg).toInt → wp_put_1 (4 : Int32) v2 s40 (upC (upC t40 q10 1 y1_59) q10 2 v2) z40 (fun s79 t79 z79 => Q q10 s79 t79 z79)))))) ∧ (0 ≤ (s40 32 v2.toNatClampNeg).toInt → J59 (0 : Int32)) ∧ ((s40 32 v2.toNatClampNeg).toInt < 0 → J59 (1 : Int32))))))) ∧ (0 ≤ (σ 32 v2.toNatClampNeg).toInt → ((0 ≤ v2.toInt ∧ v2.toInt < 100) ∧ J40 ((σ 31 v2.toNatClampNeg) + (1 : Int32)))) ∧ ((σ 32 v2.toNatClampNeg).toInt < 0 → ((0 ≤ v2.toInt ∧ v2.toInt < 100) ∧ J40 (σ 31 v2.toNatClampNeg))))))))
set_option maxHeartbeats 4000000 in
set_option maxRecDepth 100000 in
theorem ct_named (a : Nat → Nat) (r : Nat → Nat) {a1 : Int32} {σ τ : St} {vs : List Nat} {Q : Nat → St → St → List Nat → Prop} (hcap : vs.length ≤ CAP) (w : wp_named a1 σ τ vs Q) (l : Launch) (D : va_G) (cy : Nat → ClassId) : Ct l D cy SM r (EM a) y_X14_named (Cond.code y_X14_named b_X14_named 6 (some (.object "LinkedUnitsModel$Value"))) 2 [.ref (r 0), .int a1] σ τ vs (QAs Q) QT0 := by
  unfold wp_named at w
  refine Ct_of (EM_ok a) (by decide) (Nat.le_of_ble_eq_true rfl) hcap (fun X hnn hF => ?_)
  show G SM r X σ τ vs [(0, .ref (r 0)), (1, .int a1)] [] 0
  refine g_aload_n hF d_X14_named_0 rfl 0 rfl ?_
  refine g_iload_n hF d_X14_named_1 rfl 1 rfl ?_
  refine g_callV (As := [.int a1]) (rest := []) hF (fun l D cy => (ct_local a r hcap w) l D cy) (Nat.le_of_ble_eq_true rfl) mV_X14_local m_2502 (recv_ob obM_0) rfl rfl (Nat.le_of_ble_eq_true rfl) d_X14_named_2 (krI (fun v2 w1 => ?_)) (fun _ _ _ h => h.elim)
  refine g_istore_n hF [(2, .int v2), (0, .ref (r 0)), (1, .int a1)] d_X14_named_5 rfl hnn (by decide) rfl ?_
  refine g_iload_n hF d_X14_named_6 rfl 0 rfl ?_
  refine g_if_lt hF 84 d_X14_named_7 (by decide) rfl (fun c => ?_) (fun c => ?_)
  · have w2 := w1.1 c
    refine g_aload_n hF d_X14_named_84 rfl 1 rfl ?_
    refine g_iload_n hF d_X14_named_85 rfl 2 rfl ?_
    refine g_callV (As := [.int a1]) (rest := []) hF (fun l D cy => (ct_entity a r hcap w2) l D cy) (Nat.le_of_ble_eq_true rfl) mV_X14_entity m_2301 (recv_ob obM_0) rfl rfl (Nat.le_of_ble_eq_true rfl) d_X14_named_86 (krI (fun v86 w3 => ?_)) (fun _ _ _ h => h.elim)
    refine g_istore_n hF [(3, .int v86), (2, .int v2), (0, .ref (r 0)), (1, .int a1)] d_X14_named_89 rfl hnn (by decide) rfl ?_
    refine g_aload_n hF d_X14_named_90 rfl 2 rfl ?_
    refine g_iload_n hF d_X14_named_91 rfl 0 rfl ?_
    obtain ⟨J110, h110, w4⟩ := w3
    have b110 : ∀ (y1_110 : Int32), y1_110 = 0 ∨ y1_110 = 1 → J110 y1_110 → G SM r X σ τ vs [(0, .ref (r 0)), (1, .int a1), (3, .int v86)] [.int y1_110, .ref (r 0)] 110 := by
      intro y1_110 hy1_110 w110_
      have w110_ := h110 y1_110 hy1_110 w110_
      refine g_iload_n hF d_X14_named_110 rfl 1 rfl ?_
      refine g_callV (As := [.int y1_110, .int a1]) (rest := []) hF (fun l D cy => (ct_must a r hcap w110_) l D cy) (Nat.le_of_ble_eq_true rfl) mV_X14_must m_2313 (recv_ob obM_0) rfl rfl (Nat.le_of_ble_eq_true rfl) d_X14_named_111 (kV (fun s111 t111 z111 w5 => ?_)) (fun _ _ _ h => h.elim)
      refine g_iload_n hF d_X14_named_114 rfl 2 rfl ?_
      obtain ⟨J128, h128, w6⟩ := w5
      have b128 : J128  → G SM r X s111 t111 z111 [] [] 128 := by
        intro   w128_
        have w128_ := h128   w128_
        refine g_new hF clsVC VC_ty m_2393 m_2394 m_25 w128_.1 d_X14_named_128 (fun q128 hq128 => ?_)
        have w7 := w128_.2 q128 hq128
        refine g_dup hF d_X14_named_131 rfl ?_
        refine g_bipush hF (v := (-2)) d_X14_named_132 (by decide) ?_
        refine g_cap (fun hc7 => ?_)
        refine g_callI (As := [.int (-2)]) (rest := [.ref q128]) hF (fun l D cy => (ct_Vinit a r hc7 w7) l D cy) (Nat.le_of_ble_eq_true rfl) mI_X13_init m_2395 rfl rfl (Nat.le_of_ble_eq_true rfl) d_X14_named_134 (kV (fun s134 t134 z134 w9 => ?_))
        exact g_aret hF rfl d_X14_named_137 ⟨q128, rfl, w9⟩
      refine g_if_lt hF 128 d_X14_named_115 (by decide) rfl (fun c => ?_) (fun c => ?_)
      · have w10 := w6.1 c
        exact g_sub (L' := []) [] rfl (b128  w10)
      · have w11 := w6.2 c
        refine g_aload_n hF d_X14_named_118 rfl 0 rfl ?_
        refine g_get (v := .ref (r 9)) hF 18 obM_0 (by decide) m_1883 rfl d_X14_named_119 ?_
        refine g_iload_n hF d_X14_named_122 rfl 2 rfl ?_
        have w12 := w11.2
        refine g_iald hF arM_9 (s_in (Nat.le_of_ble_eq_true rfl) w11.1.1 w11.1.2) d_X14_named_123 ?_
        refine g_top (v := (s111 9 v86.toNatClampNeg)) rfl ?_
        refine g_iconst hF (v := 1) d_X14_named_124 (by decide) ?_
        refine g_icmp_eq (yv := 1) hF 138 d_X14_named_125 (by decide) rfl (by decide) (fun c => ?_) (fun c => ?_)
        · have w13 := w12.1 c
          refine g_aload_n hF d_X14_named_138 rfl 0 rfl ?_
          refine g_get (v := .ref (r 14)) hF 23 obM_0 (by decide) m_1888 rfl d_X14_named_139 ?_
          refine g_iload_n hF d_X14_named_142 rfl 2 rfl ?_
          refine g_iconst hF (v := 1) d_X14_named_143 (by decide) ?_
          have w14 := w13.2
          refine g_zast hF arM_14 (s_in (Nat.le_of_ble_eq_true rfl) w13.1.1 w13.1.2) d_X14_named_144 ?_
          refine g_iload_n hF d_X14_named_145 rfl 2 rfl ?_
          refine g_aload_n hF d_X14_named_146 rfl 0 rfl ?_
          refine g_get (v := .ref (r 22)) hF 32 obM_0 (by decide) m_1897 rfl d_X14_named_147 ?_
          refine g_aload_n hF d_X14_named_150 rfl 0 rfl ?_
          refine g_get (v := .int (s111 0 35)) hF 35 obM_0 (by decide) m_1900 rfl d_X14_named_151 ?_
          have w15 := w14.2
          refine g_iald hF arM_22 (s_in (Nat.le_of_ble_eq_true rfl) w14.1.1 w14.1.2) d_X14_named_154 ?_
          refine g_top (v := (s111 22 (s111 0 35).toNatClampNeg)) rfl ?_
          refine g_isub hF d_X14_named_155 ?_
          refine g_istore hF [(4, .int (v86 - (s111 22 (s111 0 35).toNatClampNeg))), (0, .ref (r 0)), (1, .int a1), (3, .int v86)] d_X14_named_156 hnn (by decide) rfl ?_
          refine g_new hF clsVC VC_ty m_2393 m_2394 m_25 w15.1 d_X14_named_158 (fun q158 hq158 => ?_)
          have w16 := w15.2 q158 hq158
          refine g_dup hF d_X14_named_161 rfl ?_
          refine g_aload_n hF d_X14_named_162 rfl 1 rfl ?_
          refine g_get (v := .ref (r 11)) hF 20 obM_0 (by decide) m_1885 rfl d_X14_named_163 ?_
          refine g_iload_n hF d_X14_named_166 rfl 3 rfl ?_
          have w17 := w16.2
          refine g_iald hF arM_11 (s_in (Nat.le_of_ble_eq_true rfl) w16.1.1 w16.1.2) d_X14_named_167 ?_
          refine g_top (v := (s111 11 v86.toNatClampNeg)) rfl ?_
          obtain ⟨J188, h188, w18⟩ := w17
          have b188 : ∀ (y2_188 : Int32), J188 y2_188 → G SM r X (upC s111 14 v86.toNatClampNeg (vp_nar .boolean (1 : Int32))) (upF t111 q158 (fun _ => 0)) (z111 ++ [q158]) [(0, .ref (r 0)), (1, .int a1), (3, .int v86), (4, .int (v86 - (s111 22 (s111 0 35).toNatClampNeg)))] [.int y2_188, .ref q158, .ref q158] 188 := by
            intro y2_188  w188_
            have w188_ := h188 y2_188  w188_
            refine g_cap (fun hc18 => ?_)
            refine g_callI (As := [.int y2_188]) (rest := [.ref q158]) hF (fun l D cy => (ct_Vinit a r hc18 w188_) l D cy) (Nat.le_of_ble_eq_true rfl) mI_X13_init m_2395 rfl rfl (Nat.le_of_ble_eq_true rfl) d_X14_named_188 (kV (fun s188 t188 z188 w20 => ?_))
            refine g_astore hF [(5, .ref q158), (0, .ref (r 0)), (1, .int a1), (3, .int v86), (4, .int (v86 - (s111 22 (s111 0 35).toNatClampNeg)))] d_X14_named_191 hnn (by decide) rfl ?_
            refine g_aload hF d_X14_named_193 0 rfl ?_
            refine g_iload hF d_X14_named_195 4 rfl ?_
            obtain ⟨hm20, w21⟩ := w20
            refine g_vput hF 2 hm20 clsVC (by decide) m_2402 rfl rfl d_X14_named_197 ?_
            refine g_aload hF d_X14_named_200 0 rfl ?_
            refine g_iload_n hF d_X14_named_202 rfl 2 rfl ?_
            refine g_vput hF 4 hm20 clsVC (by decide) m_2405 rfl rfl d_X14_named_203 ?_
            refine g_aload_n hF d_X14_named_206 rfl 1 rfl ?_
            refine g_get (v := .ref (r 11)) hF 20 obM_0 (by decide) m_1885 rfl d_X14_named_207 ?_
            refine g_iload_n hF d_X14_named_210 rfl 3 rfl ?_
            have w22 := w21.2
            refine g_iald hF arM_11 (s_in (Nat.le_of_ble_eq_true rfl) w21.1.1 w21.1.2) d_X14_named_211 ?_
            refine g_top (v := (s188 11 v86.toNatClampNeg)) rfl ?_
            refine g_if_ge hF 224 d_X14_named_212 (by decide) rfl (fun c => ?_) (fun c => ?_)
            · have w23 := w22.1 c
              refine g_aload_n hF d_X14_named_224 rfl 1 rfl ?_
              refine g_iconst hF (v := 1) d_X14_named_225 (by decide) ?_
              refine g_iload hF d_X14_named_226 4 rfl ?_
              refine g_cap (fun hc23 => ?_)
              refine g_callV (As := [.int 1, .int (v86 - (s111 22 (s111 0 35).toNatClampNeg))]) (rest := []) hF (fun l D cy => (ct_put_1 a r hc23 w23) l D cy) (Nat.le_of_ble_eq_true rfl) mV_X14_put_1 m_2433 (recv_ob obM_0) rfl rfl (Nat.le_of_ble_eq_true rfl) d_X14_named_228 (kV (fun s228 t228 z228 w25 => ?_)) (fun _ _ _ h => h.elim)
              refine g_aload hF d_X14_named_231 0 rfl ?_
              refine g_iload hF d_X14_named_233 4 rfl ?_
              refine g_iconst hF (v := 1) d_X14_named_235 (by decide) ?_
              refine g_iadd hF d_X14_named_236 ?_
              refine g_iconst hF (v := 0) d_X14_named_237 (by decide) ?_
              obtain ⟨hm25, w26⟩ := w25
              refine g_cap (fun hc26 => ?_)
              refine g_callV (As := [.int ((v86 - (s111 22 (s111 0 35).toNatClampNeg)) + (1 : Int32)), .int 0]) (rest := []) hF (fun l D cy => (ct_Vaddress a r hc26 w26) l D cy) (Nat.le_of_ble_eq_true rfl) mV_X13_address m_2441 (recv_v hm25 clsVC) rfl rfl (Nat.le_of_ble_eq_true rfl) d_X14_named_238 (kA (fun u238 s238 t238 z238 w28 => ?_)) (fun _ _ _ h => h.elim)
              exact g_aret hF rfl d_X14_named_241 ⟨u238, rfl, w28⟩
            · have w29 := w22.2 c
              refine g_aload hF d_X14_named_215 0 rfl ?_
              refine g_iconst hF (v := 2) d_X14_named_217 (by decide) ?_
              refine g_vput hF 1 hm20 clsVC (by decide) m_2401 rfl rfl d_X14_named_218 ?_
              refine g_aload hF d_X14_named_221 0 rfl ?_
              exact g_aret hF rfl d_X14_named_223 ⟨q158, rfl, w29⟩
          refine g_if_ge hF 180 d_X14_named_168 (by decide) rfl (fun c => ?_) (fun c => ?_)
          · have w30 := w18.1 c
            refine g_aload_n hF d_X14_named_180 rfl 1 rfl ?_
            refine g_get (v := .ref (r 10)) hF 19 obM_0 (by decide) m_1884 rfl d_X14_named_181 ?_
            refine g_iload_n hF d_X14_named_184 rfl 3 rfl ?_
            have w31 := w30.2
            refine g_iald hF arM_10 (s_in (Nat.le_of_ble_eq_true rfl) w30.1.1 w30.1.2) d_X14_named_185 ?_
            refine g_top (v := (s111 10 v86.toNatClampNeg)) rfl ?_
            refine g_iconst hF (v := 1) d_X14_named_186 (by decide) ?_
            refine g_iadd hF d_X14_named_187 ?_
            exact g_sub (L' := [(0, .ref (r 0)), (1, .int a1), (3, .int v86), (4, .int (v86 - (s111 22 (s111 0 35).toNatClampNeg)))]) [1, 2, 3, 0] rfl (b188 ((s111 10 v86.toNatClampNeg) + (1 : Int32)) w31)
          · have w32 := w18.2 c
            refine g_aload_n hF d_X14_named_171 rfl 1 rfl ?_
            refine g_get (v := .ref (r 10)) hF 19 obM_0 (by decide) m_1884 rfl d_X14_named_172 ?_
            refine g_iload_n hF d_X14_named_175 rfl 3 rfl ?_
            have w33 := w32.2
            refine g_iald hF arM_10 (s_in (Nat.le_of_ble_eq_true rfl) w32.1.1 w32.1.2) d_X14_named_176 ?_
            refine g_top (v := (s111 10 v86.toNatClampNeg)) rfl ?_
            refine g_goto hF 188 d_X14_named_177 (by decide) ?_
            exact g_sub (L' := [(0, .ref (r 0)), (1, .int a1), (3, .int v86), (4, .int (v86 - (s111 22 (s111 0 35).toNatClampNeg)))]) [1, 2, 3, 0] rfl (b188 (s111 10 v86.toNatClampNeg) w33)
        · have w34 := w12.2 c
          exact g_sub (L' := []) [] rfl (b128  w34)
    obtain ⟨J109, h109, w35⟩ := w4
    have b109 : J109  → G SM r X σ τ vs [(0, .ref (r 0)), (1, .int a1), (3, .int v86)] [.ref (r 0)] 109 := by
      intro   w109_
      have w109_ := h109   w109_
      refine g_iconst hF (v := 0) d_X14_named_109 (by decide) ?_
      exact b110 (0 : Int32) (Or.inl rfl) w109_
    refine g_if_lt hF 109 d_X14_named_92 (by decide) rfl (fun c => ?_) (fun c => ?_)
    · have w36 := w35.1 c
      exact g_sub (L' := [(0, .ref (r 0)), (1, .int a1), (3, .int v86)]) [2, 3, 0] rfl (b109  w36)
    · have w37 := w35.2 c
      refine g_aload_n hF d_X14_named_95 rfl 2 rfl ?_
      refine g_get (v := .ref (r 9)) hF 18 obM_0 (by decide) m_1883 rfl d_X14_named_96 ?_
      refine g_iload_n hF d_X14_named_99 rfl 0 rfl ?_
      have w38 := w37.2
      refine g_iald hF arM_9 (s_in (Nat.le_of_ble_eq_true rfl) w37.1.1 w37.1.2) d_X14_named_100 ?_
      refine g_top (v := (σ 9 v86.toNatClampNeg)) rfl ?_
      refine g_iconst hF (v := 1) d_X14_named_101 (by decide) ?_
      refine g_icmp_ne (yv := 1) hF 109 d_X14_named_102 (by decide) rfl (by decide) (fun c => ?_) (fun c => ?_)
      · have w39 := w38.1 c
        exact g_sub (L' := [(0, .ref (r 0)), (1, .int a1), (3, .int v86)]) [2, 3, 0] rfl (b109  w39)
      · have w40 := w38.2 c
        refine g_iconst hF (v := 1) d_X14_named_105 (by decide) ?_
        refine g_goto hF 110 d_X14_named_106 (by decide) ?_
        exact g_sub (L' := [(0, .ref (r 0)), (1, .int a1), (3, .int v86)]) [2, 3, 0] rfl (b110 (1 : Int32) (Or.inr rfl) w40)
  · have w41 := w1.2 c
    refine g_new hF clsVC VC_ty m_2393 m_2394 m_25 w41.1 d_X14_named_10 (fun q10 hq10 => ?_)
    have w42 := w41.2 q10 hq10
    refine g_dup hF d_X14_named_13 rfl ?_
    refine g_aload_n hF d_X14_named_14 rfl 1 rfl ?_
    refine g_get (v := .ref (r 32)) hF 47 obM_0 (by decide) m_1912 rfl d_X14_named_15 ?_
    refine g_iload_n hF d_X14_named_18 rfl 0 rfl ?_
    have w43 := w42.2
    refine g_iald hF arM_32 (s_in (Nat.le_of_ble_eq_true rfl) w42.1.1 w42.1.2) d_X14_named_19 ?_
    refine g_top (v := (σ 32 v2.toNatClampNeg)) rfl ?_
    obtain ⟨J40, h40, w44⟩ := w43
    have b40 : ∀ (y2_40 : Int32), J40 y2_40 → G SM r X σ (upF τ q10 (fun _ => 0)) (vs ++ [q10]) [(0, .ref (r 0)), (2, .int v2)] [.int y2_40, .ref q10, .ref q10] 40 := by
      intro y2_40  w40_
      have w40_ := h40 y2_40  w40_
      refine g_cap (fun hc44 => ?_)
      refine g_callI (As := [.int y2_40]) (rest := [.ref q10]) hF (fun l D cy => (ct_Vinit a r hc44 w40_) l D cy) (Nat.le_of_ble_eq_true rfl) mI_X13_init m_2395 rfl rfl (Nat.le_of_ble_eq_true rfl) d_X14_named_40 (kV (fun s40 t40 z40 w46 => ?_))
      refine g_astore_n hF [(3, .ref q10), (0, .ref (r 0)), (2, .int v2)] d_X14_named_43 rfl hnn (by decide) rfl ?_
      refine g_aload_n hF d_X14_named_44 rfl 0 rfl ?_
      refine g_aload_n hF d_X14_named_45 rfl 1 rfl ?_
      refine g_get (v := .ref (r 32)) hF 47 obM_0 (by decide) m_1912 rfl d_X14_named_46 ?_
      refine g_iload_n hF d_X14_named_49 rfl 2 rfl ?_
      have w47 := w46.2
      refine g_iald hF arM_32 (s_in (Nat.le_of_ble_eq_true rfl) w46.1.1 w46.1.2) d_X14_named_50 ?_
      refine g_top (v := (s40 32 v2.toNatClampNeg)) rfl ?_
      obtain ⟨J59, h59, w48⟩ := w47
      have b59 : ∀ (y1_59 : Int32), y1_59 = 0 ∨ y1_59 = 1 → J59 y1_59 → G SM r X s40 t40 z40 [(0, .ref (r 0)), (2, .int v2), (3, .ref q10)] [.int y1_59, .ref q10] 59 := by
        intro y1_59 hy1_59 w59_
        have w59_ := h59 y1_59 hy1_59 w59_
        obtain ⟨hm48, w49⟩ := w59_
        refine g_vput hF 1 hm48 clsVC (by decide) m_2401 rfl rfl d_X14_named_59 ?_
        refine g_aload_n hF d_X14_named_62 rfl 2 rfl ?_
        refine g_iload_n hF d_X14_named_63 rfl 1 rfl ?_
        refine g_vput hF 2 hm48 clsVC (by decide) m_2402 rfl rfl d_X14_named_64 ?_
        refine g_aload_n hF d_X14_named_67 rfl 0 rfl ?_
        refine g_get (v := .ref (r 32)) hF 47 obM_0 (by decide) m_1912 rfl d_X14_named_68 ?_
        refine g_iload_n hF d_X14_named_71 rfl 1 rfl ?_
        have w50 := w49.2
        refine g_iald hF arM_32 (s_in (Nat.le_of_ble_eq_true rfl) w49.1.1 w49.1.2) d_X14_named_72 ?_
        refine g_top (v := (s40 32 v2.toNatClampNeg)) rfl ?_
        refine g_if_lt hF 82 d_X14_named_73 (by decide) rfl (fun c => ?_) (fun c => ?_)
        · have w51 := w50.1 c
          refine g_aload_n hF d_X14_named_82 rfl 2 rfl ?_
          exact g_aret hF rfl d_X14_named_83 ⟨q10, rfl, w51⟩
        · have w52 := w50.2 c
          refine g_aload_n hF d_X14_named_76 rfl 0 rfl ?_
          refine g_iconst hF (v := 4) d_X14_named_77 (by decide) ?_
          refine g_iload_n hF d_X14_named_78 rfl 1 rfl ?_
          refine g_cap (fun hc52 => ?_)
          refine g_callV (As := [.int 4, .int v2]) (rest := []) hF (fun l D cy => (ct_put_1 a r hc52 w52) l D cy) (Nat.le_of_ble_eq_true rfl) mV_X14_put_1 m_2433 (recv_ob obM_0) rfl rfl (Nat.le_of_ble_eq_true rfl) d_X14_named_79 (kV (fun s79 t79 z79 w54 => ?_)) (fun _ _ _ h => h.elim)
          refine g_aload_n hF d_X14_named_82 rfl 2 rfl ?_
          exact g_aret hF rfl d_X14_named_83 ⟨q10, rfl, w54⟩
      refine g_if_ge hF 58 d_X14_named_51 (by decide) rfl (fun c => ?_) (fun c => ?_)
      · have w55 := w48.1 c
        refine g_iconst hF (v := 0) d_X14_named_58 (by decide) ?_
        exact g_sub (L' := [(0, .ref (r 0)), (2, .int v2), (3, .ref q10)]) [1, 2, 0] rfl (b59 (0 : Int32) (Or.inl rfl) w55)
      · have w56 := w48.2 c
        refine g_iconst hF (v := 1) d_X14_named_54 (by decide) ?_
        refine g_goto hF 59 d_X14_named_55 (by decide) ?_
        exact g_sub (L' := [(0, .ref (r 0)), (2, .int v2), (3, .ref q10)]) [1, 2, 0] rfl (b59 (1 : Int32) (Or.inr rfl) w56)
    refine g_if_ge hF 32 d_X14_named_20 (by decide) rfl (fun c => ?_) (fun c => ?_)
    · have w57 := w44.1 c
      refine g_aload_n hF d_X14_named_32 rfl 1 rfl ?_
      refine g_get (v := .ref (r 31)) hF 46 obM_0 (by decide) m_1911 rfl d_X14_named_33 ?_
      refine g_iload_n hF d_X14_named_36 rfl 0 rfl ?_
      have w58 := w57.2
      refine g_iald hF arM_31 (s_in (Nat.le_of_ble_eq_true rfl) w57.1.1 w57.1.2) d_X14_named_37 ?_
      refine g_top (v := (σ 31 v2.toNatClampNeg)) rfl ?_
      refine g_iconst hF (v := 1) d_X14_named_38 (by decide) ?_
      refine g_iadd hF d_X14_named_39 ?_
      exact g_sub (L' := [(0, .ref (r 0)), (2, .int v2)]) [1, 0] rfl (b40 ((σ 31 v2.toNatClampNeg) + (1 : Int32)) w58)
    · have w59 := w44.2 c
      refine g_aload_n hF d_X14_named_23 rfl 1 rfl ?_
      refine g_get (v := .ref (r 31)) hF 46 obM_0 (by decide) m_1911 rfl d_X14_named_24 ?_
      refine g_iload_n hF d_X14_named_27 rfl 0 rfl ?_
      have w60 := w59.2
      refine g_iald hF arM_31 (s_in (Nat.le_of_ble_eq_true rfl) w59.1.1 w59.1.2) d_X14_named_28 ?_
      refine g_top (v := (σ 31 v2.toNatClampNeg)) rfl ?_
      refine g_goto hF 40 d_X14_named_29 (by decide) ?_
      exact g_sub (L' := [(0, .ref (r 0)), (2, .int v2)]) [1, 0] rfl (b40 (σ 31 v2.toNatClampNeg) w60)
def wp_open (a1 : Int32) (σ τ : St) (vs : List Nat) (Q : Int32 → St → St → List Nat → Prop) : Prop :=
  wp_put_1 a1 ((-1) : Int32) σ τ vs (fun s3 t3 z3 => Q ((s3 0 17) - (1 : Int32)) s3 t3 z3)
set_option maxHeartbeats 4000000 in
set_option maxRecDepth 100000 in
theorem ct_open (a : Nat → Nat) (r : Nat → Nat) {a1 : Int32} {σ τ : St} {vs : List Nat} {Q : Int32 → St → St → List Nat → Prop} (hcap : vs.length ≤ CAP) (w : wp_open a1 σ τ vs Q) (l : Launch) (D : va_G) (cy : Nat → ClassId) : Ct l D cy SM r (EM a) y_X14_open (Cond.code y_X14_open b_X14_open 2 (some .int)) 2 [.ref (r 0), .int a1] σ τ vs (QIs Q) QT0 := by
  unfold wp_open at w
  refine Ct_of (EM_ok a) (by decide) (Nat.le_of_ble_eq_true rfl) hcap (fun X hnn hF => ?_)
  show G SM r X σ τ vs [(0, .ref (r 0)), (1, .int a1)] [] 0
  refine g_aload_n hF d_X14_open_0 rfl 0 rfl ?_
  refine g_iload_n hF d_X14_open_1 rfl 1 rfl ?_
  refine g_iconst hF (v := (-1)) d_X14_open_2 (by decide) ?_
  refine g_callV (As := [.int a1, .int (-1)]) (rest := []) hF (fun l D cy => (ct_put_1 a r hcap w) l D cy) (Nat.le_of_ble_eq_true rfl) mV_X14_put_1 m_2433 (recv_ob obM_0) rfl rfl (Nat.le_of_ble_eq_true rfl) d_X14_open_3 (kV (fun s3 t3 z3 w1 => ?_)) (fun _ _ _ h => h.elim)
  refine g_aload_n hF d_X14_open_6 rfl 0 rfl ?_
  refine g_get (v := .int (s3 0 17)) hF 17 obM_0 (by decide) m_1882 rfl d_X14_open_7 ?_
  refine g_iconst hF (v := 1) d_X14_open_10 (by decide) ?_
  refine g_isub hF d_X14_open_11 ?_
  exact g_iret hF rfl d_X14_open_12 ⟨((s3 0 17) - (1 : Int32)), rfl, w1⟩
