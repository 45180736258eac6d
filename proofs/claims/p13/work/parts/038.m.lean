def wp_rowInitial (a1 : Int32) (a2 : Int32) (a3 : Int32) (a4 : Int32) (σ τ : St) (vs : List Nat) (Q : Int32 → St → St → List Nat → Prop) (T : St → St → List Nat → Prop) : Prop :=
  ((0 ≤ (σ 0 10).toInt ∧ (σ 0 10).toInt < 16002) ∧ (∃ J92 : Prop, (J92  → (wp_is (22 : Int32) σ τ vs (fun v95 => (v95.toInt = 0 → wpE_expression (1 : Int32) σ τ vs (fun u114 s114 t114 z114 => wp_read_1 u114 s114 t114 z114 (fun s122 t122 z122 => Q (0 : Int32) s122 t122 z122)) T) ∧ (v95.toInt ≠ 0 → wp_braces a2 a1 (0 : Int32) a3 a4 σ τ vs (fun v108 s108 t108 z108 => Q v108 s108 t108 z108) T)))) ∧ ((σ 2 (σ 0 10).toNatClampNeg).toInt ≠ 4 → J92) ∧ ((σ 2 (σ 0 10).toNatClampNeg).toInt = 4 → ((0 ≤ ((σ 0 10) + (1 : Int32)).toInt ∧ ((σ 0 10) + (1 : Int32)).toInt < 16002) ∧ (∃ J45 : Prop, (J45  → (wp_fill (σ 0 10) a2 a3 a4 (upC σ 0 10 ((σ 0 10) + (1 : Int32))) τ vs (fun s68 t68 z68 => (a1.toInt ≠ 0 → Q (0 : Int32) s68 t68 z68) ∧ (a1.toInt = 0 → ((0 ≤ (σ 0 10).toInt ∧ (σ 0 10).toInt < 16002) ∧ (a2.toInt < (s68 6 (σ 0 10).toNatClampNeg).toInt → Q (0 : Int32) s68 t68 z68) ∧ ((s68 6 (σ 0 10).toNatClampNeg).toInt ≤ a2.toInt → Q (1 : Int32) s68 t68 z68)))))) ∧ ((σ 2 ((σ 0 10) + (1 : Int32)).toNatClampNeg).toInt = 58 → J45) ∧ ((σ 2 ((σ 0 10) + (1 : Int32)).toNatClampNeg).toInt ≠ 58 → ((0 ≤ ((σ 0 10) + (1 : Int32)).toInt ∧ ((σ 0 10) + (1 : Int32)).toInt < 16002) ∧ ((σ 2 ((σ 0 10) + (1 : Int32)).toNatClampNeg).toInt ≠ 59 → J92) ∧ ((σ 2 ((σ 0 10) + (1 : Int32)).toNatClampNeg).toInt = 59 → J45))))))))
set_option maxHeartbeats 4000000 in
set_option maxRecDepth 100000 in
theorem ct_rowInitial (a : Nat → Nat) (r : Nat → Nat) {a1 : Int32} {a2 : Int32} {a3 : Int32} {a4 : Int32} {σ τ : St} {vs : List Nat} {Q : Int32 → St → St → List Nat → Prop} {T : St → St → List Nat → Prop} (hcap : vs.length ≤ CAP) (w : wp_rowInitial a1 a2 a3 a4 σ τ vs Q T) (l : Launch) (D : va_G) (cy : Nat → ClassId) : Ct l D cy SM r (EM a) y_X14_rowInitial (Cond.code y_X14_rowInitial b_X14_rowInitial 6 (some .boolean)) 1107 [.ref (r 0), .int a1, .int a2, .int a3, .int a4] σ τ vs (QZs Q) T := by
  unfold wp_rowInitial at w
  refine Ct_of (EM_ok a) (by decide) (Nat.le_of_ble_eq_true rfl) hcap (fun X hnn hF => ?_)
  show G SM r X σ τ vs [(0, .ref (r 0)), (1, .int a1), (2, .int a2), (3, .int a3), (4, .int a4)] [] 0
  refine g_aload_n hF d_X14_rowInitial_0 rfl 0 rfl ?_
  refine g_get (v := .ref (r 2)) hF 3 obM_0 (by decide) m_1868 rfl d_X14_rowInitial_1 ?_
  refine g_aload_n hF d_X14_rowInitial_4 rfl 0 rfl ?_
  refine g_get (v := .int (σ 0 10)) hF 10 obM_0 (by decide) m_1875 rfl d_X14_rowInitial_5 ?_
  have w1 := w.2
  refine g_iald hF arM_2 (s_in (Nat.le_of_ble_eq_true rfl) w.1.1 w.1.2) d_X14_rowInitial_8 ?_
  refine g_top (v := (σ 2 (σ 0 10).toNatClampNeg)) rfl ?_
  refine g_iconst hF (v := 4) d_X14_rowInitial_9 (by decide) ?_
  obtain ⟨J92, h92, w2⟩ := w1
  have b92 : J92  → G SM r X σ τ vs [(0, .ref (r 0)), (1, .int a1), (2, .int a2), (3, .int a3), (4, .int a4)] [] 92 := by
    intro   w92_
    have w92_ := h92   w92_
    refine g_aload_n hF d_X14_rowInitial_92 rfl 0 rfl ?_
    refine g_bipush hF (v := 22) d_X14_rowInitial_93 (by decide) ?_
    refine g_callV (As := [.int 22]) (rest := []) hF (fun l D cy => (ct_is a r hcap w92_) l D cy) (Nat.le_of_ble_eq_true rfl) mV_X14_is m_2289 (recv_ob obM_0) rfl rfl (Nat.le_of_ble_eq_true rfl) d_X14_rowInitial_95 (krZ (fun v95 hz95 w3 => ?_)) (fun _ _ _ h => h.elim)
    refine g_if_eq hF 112 d_X14_rowInitial_98 (by decide) rfl (fun c => ?_) (fun c => ?_)
    · have w4 := w3.1 c
      refine g_aload_n hF d_X14_rowInitial_112 rfl 0 rfl ?_
      refine g_iconst hF (v := 1) d_X14_rowInitial_113 (by decide) ?_
      refine g_callV (As := [.int 1]) (rest := []) hF (fun l D cy => (ctE_expression a r hcap w4) l D cy) (Nat.le_of_ble_eq_true rfl) mV_X14_expression m_2361 (recv_ob obM_0) rfl rfl (Nat.le_of_ble_eq_true rfl) d_X14_rowInitial_114 (kA (fun u114 s114 t114 z114 w5 => ?_)) (fun σ9 τ9 vs9 h9 => g_out hF stopM rfl h9)
      refine g_astore hF [(5, .ref u114), (0, .ref (r 0)), (1, .int a1), (2, .int a2), (3, .int a3), (4, .int a4)] d_X14_rowInitial_117 hnn (by decide) rfl ?_
      refine g_aload_n hF d_X14_rowInitial_119 rfl 1 rfl ?_
      refine g_aload hF d_X14_rowInitial_120 0 rfl ?_
      refine g_cap (fun hc5 => ?_)
      refine g_callV (As := [.ref u114]) (rest := []) hF (fun l D cy => (ct_read_1 a r hc5 w5) l D cy) (Nat.le_of_ble_eq_true rfl) mV_X14_read_1 m_2453 (recv_ob obM_0) rfl rfl (Nat.le_of_ble_eq_true rfl) d_X14_rowInitial_122 (kV (fun s122 t122 z122 w7 => ?_)) (fun _ _ _ h => h.elim)
      refine g_iconst hF (v := 0) d_X14_rowInitial_125 (by decide) ?_
      exact g_zret hF rfl (k_nz (Or.inl rfl)) d_X14_rowInitial_126 ⟨(0 : Int32), rfl, (Or.inl rfl), w7⟩
    · have w8 := w3.2 c
      refine g_aload_n hF d_X14_rowInitial_101 rfl 0 rfl ?_
      refine g_iload_n hF d_X14_rowInitial_102 rfl 2 rfl ?_
      refine g_iload_n hF d_X14_rowInitial_103 rfl 1 rfl ?_
      refine g_iconst hF (v := 0) d_X14_rowInitial_104 (by decide) ?_
      refine g_iload_n hF d_X14_rowInitial_105 rfl 3 rfl ?_
      refine g_iload hF d_X14_rowInitial_106 4 rfl ?_
      refine g_callV (As := [.int a2, .int a1, .int 0, .int a3, .int a4]) (rest := []) hF (fun l D cy => (ct_braces a r hcap w8) l D cy) (Nat.le_of_ble_eq_true rfl) mV_X14_braces m_2572 (recv_ob obM_0) rfl rfl (Nat.le_of_ble_eq_true rfl) d_X14_rowInitial_108 (kZ (fun v108 s108 t108 z108 hz108 w9 => ?_)) (fun σ9 τ9 vs9 h9 => g_out hF stopM rfl h9)
      exact g_zret hF rfl (k_nz hz108) d_X14_rowInitial_111 ⟨v108, rfl, hz108, w9⟩
  refine g_icmp_ne (yv := 4) hF 92 d_X14_rowInitial_10 (by decide) rfl (by decide) (fun c => ?_) (fun c => ?_)
  · have w10 := w2.1 c
    exact b92  w10
  · have w11 := w2.2 c
    refine g_aload_n hF d_X14_rowInitial_13 rfl 0 rfl ?_
    refine g_get (v := .ref (r 2)) hF 3 obM_0 (by decide) m_1868 rfl d_X14_rowInitial_14 ?_
    refine g_aload_n hF d_X14_rowInitial_17 rfl 0 rfl ?_
    refine g_get (v := .int (σ 0 10)) hF 10 obM_0 (by decide) m_1875 rfl d_X14_rowInitial_18 ?_
    refine g_iconst hF (v := 1) d_X14_rowInitial_21 (by decide) ?_
    refine g_iadd hF d_X14_rowInitial_22 ?_
    have w12 := w11.2
    refine g_iald hF arM_2 (s_in (Nat.le_of_ble_eq_true rfl) w11.1.1 w11.1.2) d_X14_rowInitial_23 ?_
    refine g_top (v := (σ 2 ((σ 0 10) + (1 : Int32)).toNatClampNeg)) rfl ?_
    refine g_bipush hF (v := 58) d_X14_rowInitial_24 (by decide) ?_
    obtain ⟨J45, h45, w13⟩ := w12
    have b45 : J45  → G SM r X σ τ vs [(0, .ref (r 0)), (1, .int a1), (2, .int a2), (3, .int a3), (4, .int a4)] [] 45 := by
      intro   w45_
      have w45_ := h45   w45_
      refine g_aload_n hF d_X14_rowInitial_45 rfl 0 rfl ?_
      refine g_get (v := .int (σ 0 10)) hF 10 obM_0 (by decide) m_1875 rfl d_X14_rowInitial_46 ?_
      refine g_istore hF [(5, .int (σ 0 10)), (0, .ref (r 0)), (1, .int a1), (2, .int a2), (3, .int a3), (4, .int a4)] d_X14_rowInitial_49 hnn (by decide) rfl ?_
      refine g_aload_n hF d_X14_rowInitial_51 rfl 1 rfl ?_
      refine g_dup hF d_X14_rowInitial_52 rfl ?_
      refine g_get (v := .int (σ 0 10)) hF 10 obM_0 (by decide) m_1875 rfl d_X14_rowInitial_53 ?_
      refine g_iconst hF (v := 1) d_X14_rowInitial_56 (by decide) ?_
      refine g_iadd hF d_X14_rowInitial_57 ?_
      refine g_put (v := ((σ 0 10) + (1 : Int32))) hF 10 obM_0 (by decide) m_1875 rfl rfl rfl d_X14_rowInitial_58 ?_
      refine g_aload_n hF d_X14_rowInitial_61 rfl 1 rfl ?_
      refine g_iload hF d_X14_rowInitial_62 0 rfl ?_
      refine g_iload_n hF d_X14_rowInitial_64 rfl 3 rfl ?_
      refine g_iload_n hF d_X14_rowInitial_65 rfl 4 rfl ?_
      refine g_iload hF d_X14_rowInitial_66 5 rfl ?_
      refine g_callV (As := [.int (σ 0 10), .int a2, .int a3, .int a4]) (rest := []) hF (fun l D cy => (ct_fill a r hcap w45_) l D cy) (Nat.le_of_ble_eq_true rfl) mV_X14_fill m_2568 (recv_ob obM_0) rfl rfl (Nat.le_of_ble_eq_true rfl) d_X14_rowInitial_68 (kV (fun s68 t68 z68 w14 => ?_)) (fun _ _ _ h => h.elim)
      refine g_iload_n hF d_X14_rowInitial_71 rfl 2 rfl ?_
      refine g_if_ne hF 90 d_X14_rowInitial_72 (by decide) rfl (fun c => ?_) (fun c => ?_)
      · have w15 := w14.1 c
        refine g_iconst hF (v := 0) d_X14_rowInitial_90 (by decide) ?_
        exact g_zret hF rfl (k_nz (Or.inl rfl)) d_X14_rowInitial_91 ⟨(0 : Int32), rfl, (Or.inl rfl), w15⟩
      · have w16 := w14.2 c
        refine g_aload_n hF d_X14_rowInitial_75 rfl 1 rfl ?_
        refine g_get (v := .ref (r 6)) hF 7 obM_0 (by decide) m_1872 rfl d_X14_rowInitial_76 ?_
        refine g_iload hF d_X14_rowInitial_79 0 rfl ?_
        have w17 := w16.2
        refine g_iald hF arM_6 (s_in (Nat.le_of_ble_eq_true rfl) w16.1.1 w16.1.2) d_X14_rowInitial_81 ?_
        refine g_top (v := (s68 6 (σ 0 10).toNatClampNeg)) rfl ?_
        refine g_iload_n hF d_X14_rowInitial_82 rfl 3 rfl ?_
        refine g_icmp_gt hF 90 d_X14_rowInitial_83 (by decide) rfl rfl (fun c => ?_) (fun c => ?_)
        · have w18 := w17.1 c
          refine g_iconst hF (v := 0) d_X14_rowInitial_90 (by decide) ?_
          exact g_zret hF rfl (k_nz (Or.inl rfl)) d_X14_rowInitial_91 ⟨(0 : Int32), rfl, (Or.inl rfl), w18⟩
        · have w19 := w17.2 c
          refine g_iconst hF (v := 1) d_X14_rowInitial_86 (by decide) ?_
          refine g_goto hF 91 d_X14_rowInitial_87 (by decide) ?_
          exact g_zret hF rfl (k_nz (Or.inr rfl)) d_X14_rowInitial_91 ⟨(1 : Int32), rfl, (Or.inr rfl), w19⟩
    refine g_icmp_eq (yv := 58) hF 45 d_X14_rowInitial_26 (by decide) rfl (by decide) (fun c => ?_) (fun c => ?_)
    · have w20 := w13.1 c
      exact b45  w20
    · have w21 := w13.2 c
      refine g_aload_n hF d_X14_rowInitial_29 rfl 0 rfl ?_
      refine g_get (v := .ref (r 2)) hF 3 obM_0 (by decide) m_1868 rfl d_X14_rowInitial_30 ?_
      refine g_aload_n hF d_X14_rowInitial_33 rfl 0 rfl ?_
      refine g_get (v := .int (σ 0 10)) hF 10 obM_0 (by decide) m_1875 rfl d_X14_rowInitial_34 ?_
      refine g_iconst hF (v := 1) d_X14_rowInitial_37 (by decide) ?_
      refine g_iadd hF d_X14_rowInitial_38 ?_
      have w22 := w21.2
      refine g_iald hF arM_2 (s_in (Nat.le_of_ble_eq_true rfl) w21.1.1 w21.1.2) d_X14_rowInitial_39 ?_
      refine g_top (v := (σ 2 ((σ 0 10) + (1 : Int32)).toNatClampNeg)) rfl ?_
      refine g_bipush hF (v := 59) d_X14_rowInitial_40 (by decide) ?_
      refine g_icmp_ne (yv := 59) hF 92 d_X14_rowInitial_42 (by decide) rfl (by decide) (fun c => ?_) (fun c => ?_)
      · have w23 := w22.1 c
        exact b92  w23
      · have w24 := w22.2 c
        exact b45  w24
def wp_variable (a1 : Int32) (a2 : Int32) (a3 : Int32) (a4 : Int32) (a5 : Int32) (σ τ : St) (vs : List Nat) (Q : St → St → List Nat → Prop) (T : St → St → List Nat → Prop) : Prop :=
  wp_is (24 : Int32) σ τ vs (fun v12 => (∃ J95 : Int32 → Int32 → Int32 → St → St → List Nat → Prop, (∀ (x6_95 : Int32) (x7_95 : Int32) (x8_95 : Int32) (s95 t95 : St) (z95 : List Nat), x8_95 = 0 ∨ x8_95 = 1 → J95 x6_95 x7_95 x8_95 s95 t95 z95 → ((∃ J119 : Int32 → Prop, (∀ (y0_119 : Int32), y0_119 = 0 ∨ y0_119 = 1 → J119 y0_119 → ((∃ J141 : Int32 → Prop, (∀ (y0_141 : Int32), J141 y0_141 → ((∃ J170 : Int32 → St → St → List Nat → Prop, (∀ (y0_170 : Int32) (s170 t170 : St) (z170 : List Nat), J170 y0_170 s170 t170 z170 → ((∃ J232 : St → St → List Nat → Prop, (∀ (s232 t232 : St) (z232 : List Nat), J232 s232 t232 z232 → ((∃ J260 : St → St → List Nat → Prop, (∀ (s260 t260 : St) (z260 : List Nat), J260 s260 t260 z260 → ((∃ J285 : St → St → List Nat → Prop, (∀ (s285 t285 : St) (z285 : List Nat), J285 s285 t285 z285 → (wp_is (30 : Int32) s285 t285 z285 (fun v288 => (v288.toInt ≠ 0 → (∃ J343 : Int32 → St → St → List Nat → Prop, (∀ (y0_343 : Int32) (s343 t343 : St) (z343 : List Nat), y0_343 = 0 ∨ y0_343 = 1 → J343 y0_343 s343 t343 z343 → ((∃ J361 : Int32 → Prop, (∀ (y1_361 : Int32), y1_361 = 0 ∨ y1_361 = 1 → J361 y1_361 → (wp_must y1_361 (s285 0 10) s343 t343 z343 (fun s363 t363 z363 => Q s363 t363 z363))) ∧ (∃ J360 : Prop, (J360  → (J361 (0 : Int32))) ∧ (y0_343.toInt = 0 → J360) ∧ (y0_343.toInt ≠ 0 → (a4.toInt ≠ 0 → J360) ∧ (a4.toInt = 0 → J361 (1 : Int32))))))) ∧ (x6_95.toInt < 0 → wp_oneInitial a2 y0_170 a5 (upC s285 0 10 ((s285 0 10) + (1 : Int32))) t285 z285 (fun v340 s340 t340 z340 => J343 v340 s340 t340 z340) T) ∧ (0 ≤ x6_95.toInt → wp_rowInitial a2 (if y0_141 < (1 : Int32) then (1 : Int32) else y0_141) y0_170 a5 (upC s285 0 10 ((s285 0 10) + (1 : Int32))) t285 z285 (fun v328 s328 t328 z328 => J343 v328 s328 t328 z328) T))) ∧ (v288.toInt = 0 → Q s285 t285 z285)))) ∧ (a5.toInt = 0 → J285 s260 t260 z260) ∧ (a5.toInt ≠ 0 → (y0_170.toInt < 0 → J285 s260 t260 z260) ∧ (0 ≤ y0_170.toInt → wp_hold a1 y0_170 s260 t260 z260 (fun s274 t274 z274 => wp_put_1 (8 : Int32) y0_170 s274 t274 z274 (fun s282 t282 z282 => J285 s282 t282 z282))))))) ∧ (a5.toInt ≠ 0 → J260 s232 t232 z232) ∧ (a5.toInt = 0 → (y0_170.toInt < 0 → J260 s232 t232 z232) ∧ (0 ≤ y0_170.toInt → (a4.toInt ≠ 0 → J260 s232 t232 z232) ∧ (a4.toInt = 0 → wp_lay y0_170 a1 (if y0_141 < (1 : Int32) then (1 : Int32) else y0_141) s232 t232 z232 (fun s257 t257 z257 => J260 s257 t257 z257))))))) ∧ (x6_95.toInt < 0 → J232 s170 t170 z170) ∧ (0 ≤ x6_95.toInt → (∃ J192 : St → St → List Nat → Prop, (∀ (s192 t192 : St) (z192 : List Nat), J192 s192 t192 z192 → ((∃ J227 : Int32 → Prop, (∀ (y1_227 : Int32), y1_227 = 0 ∨ y1_227 = 1 → J227 y1_227 → (wp_must y1_227 x6_95 s192 t192 z192 (fun s229 t229 z229 => J232 s229 t229 z229))) ∧ (∃ J222 : Prop, (J222  → (J227 (1 : Int32))) ∧ (y0_119.toInt ≠ 0 → J222) ∧ (y0_119.toInt = 0 → (∃ J226 : Prop, (J226  → (J227 (0 : Int32))) ∧ (x8_95.toInt ≠ 0 → J226) ∧ (x8_95.toInt = 0 → (x7_95.toInt ≠ 0 → J226) ∧ (x7_95.toInt = 0 → (a4.toInt ≠ 0 → J222) ∧ (a4.toInt = 0 → wp_is (30 : Int32) s192 t192 z192 (fun v216 => (v216.toInt = 0 → J226) ∧ (v216.toInt ≠ 0 → J222))))))))))) ∧ (x7_95.toInt ≤ 4000 → J192 s170 t170 z170) ∧ (4000 < x7_95.toInt → wp_tell (4 : Int32) x6_95 s170 t170 z170 (fun s189 t189 z189 => J192 s189 t189 z189))))))) ∧ (a5.toInt = 0 → wp_globalName a1 a2 y0_141 a3 a4 s95 t95 z95 (fun v167 s167 t167 z167 => J170 v167 s167 t167 z167)) ∧ (a5.toInt ≠ 0 → wp_localName a1 a2 y0_141 s95 t95 z95 (fun v153 s153 t153 z153 => J170 v153 s153 t153 z153))))) ∧ (0 ≤ x6_95.toInt → (y0_119.toInt = 0 → J141 (0 : Int32)) ∧ (y0_119.toInt ≠ 0 → J141 x7_95)) ∧ (x6_95.toInt < 0 → J141 ((-1) : Int32))))) ∧ (∃ J114 : Prop, (J114  → (J119 (1 : Int32))) ∧ (x6_95.toInt < 0 → J114) ∧ (0 ≤ x6_95.toInt → (∃ J118 : Prop, (J118  → (J119 (0 : Int32))) ∧ (x7_95.toInt < 1 → J118) ∧ (1 ≤ x7_95.toInt → (4000 < x7_95.toInt → J118) ∧ (x7_95.toInt ≤ 4000 → J114)))))))) ∧ (v12.toInt = 0 → J95 ((-1) : Int32) ((-1) : Int32) (1 : Int32) σ τ vs) ∧ (v12.toInt ≠ 0 → wp_is (25 : Int32) (upC σ 0 10 ((σ 0 10) + (1 : Int32))) τ vs (fun v37 => (∃ J48 : Int32 → Prop, (∀ (y0_48 : Int32), y0_48 = 0 ∨ y0_48 = 1 → J48 y0_48 → ((∃ J63 : Int32 → St → St → List Nat → Prop, (∀ (y0_63 : Int32) (s63 t63 : St) (z63 : List Nat), J63 y0_63 s63 t63 z63 → (wp_expect (25 : Int32) s63 t63 z63 (fun s68 t68 z68 => (y0_48.toInt ≠ 0 → J95 (σ 0 10) y0_63 y0_48 s68 t68 z68) ∧ (y0_48.toInt = 0 → wp_is (30 : Int32) s68 t68 z68 (fun v79 => (v79.toInt = 0 → J95 (σ 0 10) y0_63 y0_48 s68 t68 z68) ∧ (v79.toInt ≠ 0 → wp_told s68 t68 z68 (fun v86 => J95 (σ 0 10) (if v86 < (0 : Int32) then (0 : Int32) else v86) y0_48 s68 t68 z68))))) T)) ∧ (y0_48.toInt = 0 → J63 (0 : Int32) (upC σ 0 10 ((σ 0 10) + (1 : Int32))) τ vs) ∧ (y0_48.toInt ≠ 0 → wp_sizeAt (upC σ 0 10 ((σ 0 10) + (1 : Int32))) τ vs (fun v56 s56 t56 z56 => J63 v56 s56 t56 z56) T)))) ∧ (v37.toInt ≠ 0 → J48 (0 : Int32)) ∧ (v37.toInt = 0 → J48 (1 : Int32)))))))
set_option maxHeartbeats 4000000 in
set_option maxRecDepth 100000 in
theorem ct_variable (a : Nat → Nat) (r : Nat → Nat) {a1 : Int32} {a2 : Int32} {a3 : Int32} {a4 : Int32} {a5 : Int32} {σ τ : St} {vs : List Nat} {Q : St → St → List Nat → Prop} {T : St → St → List Nat → Prop} (hcap : vs.length ≤ CAP) (w : wp_variable a1 a2 a3 a4 a5 σ τ vs Q T) (l : Launch) (D : va_G) (cy : Nat → ClassId) : Ct l D cy SM r (EM a) y_X14_variable (Cond.code y_X14_variable b_X14_variable 14 none) 1108 [.ref (r 0), .int a1, .int a2, .int a3, .int a4, .int a5] σ τ vs (QVs Q) T := by
  unfold wp_variable at w
  refine Ct_of (EM_ok a) (by decide) (Nat.le_of_ble_eq_true rfl) hcap (fun X hnn hF => ?_)
  show G SM r X σ τ vs [(0, .ref (r 0)), (1, .int a1), (2, .int a2), (3, .int a3), (4, .int a4), (5, .int a5)] [] 0
  refine g_iconst hF (v := (-1)) d_X14_variable_0 (by decide) ?_
  refine g_istore hF [(6, .int (-1)), (0, .ref (r 0)), (1, .int a1), (2, .int a2), (3, .int a3), (4, .int a4), (5, .int a5)] d_X14_variable_1 hnn (by decide) rfl ?_
  refine g_iconst hF (v := (-1)) d_X14_variable_3 (by decide) ?_
  refine g_istore hF [(7, .int (-1)), (6, .int (-1)), (0, .ref (r 0)), (1, .int a1), (2, .int a2), (3, .int a3), (4, .int a4), (5, .int a5)] d_X14_variable_4 hnn (by decide) rfl ?_
  refine g_iconst hF (v := 1) d_X14_variable_6 (by decide) ?_
  refine g_istore hF [(8, .int 1), (7, .int (-1)), (6, .int (-1)), (0, .ref (r 0)), (1, .int a1), (2, .int a2), (3, .int a3), (4, .int a4), (5, .int a5)] d_X14_variable_7 hnn (by decide) rfl ?_
  refine g_aload_n hF d_X14_variable_9 rfl 3 rfl ?_
  refine g_bipush hF (v := 24) d_X14_variable_10 (by decide) ?_
  refine g_callV (As := [.int 24]) (rest := []) hF (fun l D cy => (ct_is a r hcap w) l D cy) (Nat.le_of_ble_eq_true rfl) mV_X14_is m_2289 (recv_ob obM_0) rfl rfl (Nat.le_of_ble_eq_true rfl) d_X14_variable_12 (krZ (fun v12 hz12 w1 => ?_)) (fun _ _ _ h => h.elim)
  obtain ⟨J95, h95, w2⟩ := w1
  have b95 : ∀ (x6_95 : Int32) (x7_95 : Int32) (x8_95 : Int32) (s95 t95 : St) (z95 : List Nat), x8_95 = 0 ∨ x8_95 = 1 → J95 x6_95 x7_95 x8_95 s95 t95 z95 → G SM r X s95 t95 z95 [(0, .ref (r 0)), (1, .int a1), (2, .int a2), (3, .int a3), (4, .int a4), (5, .int a5), (6, .int x6_95), (7, .int x7_95), (8, .int x8_95)] [] 95 := by
    intro x6_95 x7_95 x8_95 s95 t95 z95 hx8_95 w95_
    have w95_ := h95 x6_95 x7_95 x8_95 s95 t95 z95 hx8_95 w95_
    refine g_iload hF d_X14_variable_95 6 rfl ?_
    obtain ⟨J119, h119, w3⟩ := w95_
    have b119 : ∀ (y0_119 : Int32), y0_119 = 0 ∨ y0_119 = 1 → J119 y0_119 → G SM r X s95 t95 z95 [(0, .ref (r 0)), (1, .int a1), (2, .int a2), (3, .int a3), (4, .int a4), (5, .int a5), (6, .int x6_95), (7, .int x7_95), (8, .int x8_95)] [.int y0_119] 119 := by
      intro y0_119 hy0_119 w119_
      have w119_ := h119 y0_119 hy0_119 w119_
      refine g_istore hF [(9, .int y0_119), (0, .ref (r 0)), (1, .int a1), (2, .int a2), (3, .int a3), (4, .int a4), (5, .int a5), (6, .int x6_95), (7, .int x7_95), (8, .int x8_95)] d_X14_variable_119 hnn (by decide) rfl ?_
      refine g_iload hF d_X14_variable_121 7 rfl ?_
      obtain ⟨J141, h141, w4⟩ := w119_
      have b141 : ∀ (y0_141 : Int32), J141 y0_141 → G SM r X s95 t95 z95 [(0, .ref (r 0)), (1, .int a1), (2, .int a2), (3, .int a3), (4, .int a4), (5, .int a5), (6, .int x6_95), (7, .int x7_95), (8, .int x8_95), (9, .int y0_119)] [.int y0_141] 141 := by
        intro y0_141  w141_
        have w141_ := h141 y0_141  w141_
        refine g_istore hF [(10, .int y0_141), (0, .ref (r 0)), (1, .int a1), (2, .int a2), (3, .int a3), (4, .int a4), (5, .int a5), (6, .int x6_95), (7, .int x7_95), (8, .int x8_95), (9, .int y0_119)] d_X14_variable_141 hnn (by decide) rfl ?_
        refine g_iload hF d_X14_variable_143 6 rfl ?_
        obtain ⟨J170, h170, w5⟩ := w141_
        have b170 : ∀ (y0_170 : Int32) (s170 t170 : St) (z170 : List Nat), J170 y0_170 s170 t170 z170 → G SM r X s170 t170 z170 [(0, .ref (r 0)), (1, .int a1), (2, .int a2), (4, .int a4), (5, .int a5), (6, .int x6_95), (7, .int x7_95), (8, .int x8_95), (9, .int y0_119), (10, .int y0_141)] [.int y0_170] 170 := by
          intro y0_170 s170 t170 z170  w170_
          have w170_ := h170 y0_170 s170 t170 z170  w170_
          refine g_istore hF [(11, .int y0_170), (0, .ref (r 0)), (1, .int a1), (2, .int a2), (4, .int a4), (5, .int a5), (6, .int x6_95), (7, .int x7_95), (8, .int x8_95), (9, .int y0_119), (10, .int y0_141)] d_X14_variable_170 hnn (by decide) rfl ?_
          refine g_iload hF d_X14_variable_172 6 rfl ?_
          obtain ⟨J232, h232, w6⟩ := w170_
          have b232 : ∀ (s232 t232 : St) (z232 : List Nat), J232 s232 t232 z232 → G SM r X s232 t232 z232 [(0, .ref (r 0)), (1, .int a1), (2, .int a2), (4, .int a4), (5, .int a5), (6, .int x6_95), (10, .int y0_141), (11, .int y0_170)] [] 232 := by
            intro s232 t232 z232  w232_
            have w232_ := h232 s232 t232 z232  w232_
            refine g_iload hF d_X14_variable_232 4 rfl ?_
            obtain ⟨J260, h260, w7⟩ := w232_
            have b260 : ∀ (s260 t260 : St) (z260 : List Nat), J260 s260 t260 z260 → G SM r X s260 t260 z260 [(0, .ref (r 0)), (1, .int a1), (2, .int a2), (4, .int a4), (5, .int a5), (6, .int x6_95), (10, .int y0_141), (11, .int y0_170)] [] 260 := by
              intro s260 t260 z260  w260_
              have w260_ := h260 s260 t260 z260  w260_
              refine g_iload hF d_X14_variable_260 4 rfl ?_
              obtain ⟨J285, h285, w8⟩ := w260_
              have b285 : ∀ (s285 t285 : St) (z285 : List Nat), J285 s285 t285 z285 → G SM r X s285 t285 z285 [(0, .ref (r 0)), (2, .int a2), (4, .int a4), (5, .int a5), (6, .int x6_95), (10, .int y0_141), (11, .int y0_170)] [] 285 := by
                intro s285 t285 z285  w285_
                have w285_ := h285 s285 t285 z285  w285_
                refine g_aload_n hF d_X14_variable_285 rfl 0 rfl ?_
                refine g_bipush hF (v := 30) d_X14_variable_286 (by decide) ?_
                refine g_cap (fun hc8 => ?_)
                refine g_callV (As := [.int 30]) (rest := []) hF (fun l D cy => (ct_is a r hc8 w285_) l D cy) (Nat.le_of_ble_eq_true rfl) mV_X14_is m_2289 (recv_ob obM_0) rfl rfl (Nat.le_of_ble_eq_true rfl) d_X14_variable_288 (krZ (fun v288 hz288 w10 => ?_)) (fun _ _ _ h => h.elim)
                refine g_if_ne hF 295 d_X14_variable_291 (by decide) rfl (fun c => ?_) (fun c => ?_)
                · have w11 := w10.1 c
                  refine g_aload_n hF d_X14_variable_295 rfl 0 rfl ?_
                  refine g_get (v := .int (s285 0 10)) hF 10 obM_0 (by decide) m_1875 rfl d_X14_variable_296 ?_
                  refine g_istore hF [(12, .int (s285 0 10)), (0, .ref (r 0)), (2, .int a2), (4, .int a4), (5, .int a5), (6, .int x6_95), (10, .int y0_141), (11, .int y0_170)] d_X14_variable_299 hnn (by decide) rfl ?_
                  refine g_aload_n hF d_X14_variable_301 rfl 1 rfl ?_
                  refine g_dup hF d_X14_variable_302 rfl ?_
                  refine g_get (v := .int (s285 0 10)) hF 10 obM_0 (by decide) m_1875 rfl d_X14_variable_303 ?_
                  refine g_iconst hF (v := 1) d_X14_variable_306 (by decide) ?_
                  refine g_iadd hF d_X14_variable_307 ?_
                  refine g_put (v := ((s285 0 10) + (1 : Int32))) hF 10 obM_0 (by decide) m_1875 rfl rfl rfl d_X14_variable_308 ?_
                  refine g_iload hF d_X14_variable_311 5 rfl ?_
                  obtain ⟨J343, h343, w12⟩ := w11
                  have b343 : ∀ (y0_343 : Int32) (s343 t343 : St) (z343 : List Nat), y0_343 = 0 ∨ y0_343 = 1 → J343 y0_343 s343 t343 z343 → G SM r X s343 t343 z343 [(0, .ref (r 0)), (4, .int a4), (12, .int (s285 0 10))] [.int y0_343] 343 := by
                    intro y0_343 s343 t343 z343 hy0_343 w343_
                    have w343_ := h343 y0_343 s343 t343 z343 hy0_343 w343_
                    refine g_istore hF [(13, .int y0_343), (0, .ref (r 0)), (4, .int a4), (12, .int (s285 0 10))] d_X14_variable_343 hnn (by decide) rfl ?_
                    refine g_aload_n hF d_X14_variable_345 rfl 1 rfl ?_
                    refine g_iload hF d_X14_variable_346 0 rfl ?_
                    obtain ⟨J361, h361, w13⟩ := w343_
                    have b361 : ∀ (y1_361 : Int32), y1_361 = 0 ∨ y1_361 = 1 → J361 y1_361 → G SM r X s343 t343 z343 [(12, .int (s285 0 10))] [.int y1_361, .ref (r 0)] 361 := by
                      intro y1_361 hy1_361 w361_
                      have w361_ := h361 y1_361 hy1_361 w361_
                      refine g_iload hF d_X14_variable_361 0 rfl ?_
                      refine g_cap (fun hc13 => ?_)
                      refine g_callV (As := [.int y1_361, .int (s285 0 10)]) (rest := []) hF (fun l D cy => (ct_must a r hc13 w361_) l D cy) (Nat.le_of_ble_eq_true rfl) mV_X14_must m_2313 (recv_ob obM_0) rfl rfl (Nat.le_of_ble_eq_true rfl) d_X14_variable_363 (kV (fun s363 t363 z363 w15 => ?_)) (fun _ _ _ h => h.elim)
                      exact g_vret hF rfl d_X14_variable_366 ⟨rfl, w15⟩
                    obtain ⟨J360, h360, w16⟩ := w13
                    have b360 : J360  → G SM r X s343 t343 z343 [(12, .int (s285 0 10))] [.ref (r 0)] 360 := by
                      intro   w360_
                      have w360_ := h360   w360_
                      refine g_iconst hF (v := 0) d_X14_variable_360 (by decide) ?_
                      exact b361 (0 : Int32) (Or.inl rfl) w360_
                    refine g_if_eq hF 360 d_X14_variable_348 (by decide) rfl (fun c => ?_) (fun c => ?_)
                    · have w17 := w16.1 c
                      exact g_sub (L' := [(12, .int (s285 0 10))]) [3] rfl (b360  w17)
                    · have w18 := w16.2 c
                      refine g_iload hF d_X14_variable_351 2 rfl ?_
                      refine g_if_ne hF 360 d_X14_variable_353 (by decide) rfl (fun c => ?_) (fun c => ?_)
                      · have w19 := w18.1 c
                        exact g_sub (L' := [(12, .int (s285 0 10))]) [3] rfl (b360  w19)
                      · have w20 := w18.2 c
                        refine g_iconst hF (v := 1) d_X14_variable_356 (by decide) ?_
                        refine g_goto hF 361 d_X14_variable_357 (by decide) ?_
                        exact g_sub (L' := [(12, .int (s285 0 10))]) [3] rfl (b361 (1 : Int32) (Or.inr rfl) w20)
                  refine g_if_lt hF 334 d_X14_variable_313 (by decide) rfl (fun c => ?_) (fun c => ?_)
                  · have w21 := w12.1 c
                    refine g_aload_n hF d_X14_variable_334 rfl 1 rfl ?_
                    refine g_iload_n hF d_X14_variable_335 rfl 2 rfl ?_
                    refine g_iload hF d_X14_variable_336 7 rfl ?_
                    refine g_iload hF d_X14_variable_338 4 rfl ?_
                    refine g_callV (As := [.int a2, .int y0_170, .int a5]) (rest := []) hF (fun l D cy => (ct_oneInitial a r hc8 w21) l D cy) (Nat.le_of_ble_eq_true rfl) mV_X14_oneInitial m_2584 (recv_ob obM_0) rfl rfl (Nat.le_of_ble_eq_true rfl) d_X14_variable_340 (kZ (fun v340 s340 t340 z340 hz340 w22 => ?_)) (fun σ9 τ9 vs9 h9 => g_out hF stopM rfl h9)
                    exact g_sub (L' := [(0, .ref (r 0)), (4, .int a4), (12, .int (s285 0 10))]) [1, 3, 0] rfl (b343 v340 s340 t340 z340 hz340 w22)
                  · have w23 := w12.2 c
                    refine g_aload_n hF d_X14_variable_316 rfl 1 rfl ?_
                    refine g_iload_n hF d_X14_variable_317 rfl 2 rfl ?_
                    refine g_iload hF d_X14_variable_318 6 rfl ?_
                    refine g_iconst hF (v := 1) d_X14_variable_320 (by decide) ?_
                    refine g_mmax hF (Nat.le_of_ble_eq_true rfl) m_2432 m_1131 m_23 m_1132 (Nat.le_of_ble_eq_true rfl) d_X14_variable_321 ?_
                    refine g_iload hF d_X14_variable_324 7 rfl ?_
                    refine g_iload hF d_X14_variable_326 4 rfl ?_
                    refine g_callV (As := [.int a2, .int (if y0_141 < (1 : Int32) then (1 : Int32) else y0_141), .int y0_170, .int a5]) (rest := []) hF (fun l D cy => (ct_rowInitial a r hc8 w23) l D cy) (Nat.le_of_ble_eq_true rfl) mV_X14_rowInitial m_2564 (recv_ob obM_0) rfl rfl (Nat.le_of_ble_eq_true rfl) d_X14_variable_328 (kZ (fun v328 s328 t328 z328 hz328 w24 => ?_)) (fun σ9 τ9 vs9 h9 => g_out hF stopM rfl h9)
                    refine g_goto hF 343 d_X14_variable_331 (by decide) ?_
                    exact g_sub (L' := [(0, .ref (r 0)), (4, .int a4), (12, .int (s285 0 10))]) [1, 3, 0] rfl (b343 v328 s328 t328 z328 hz328 w24)
                · have w25 := w10.2 c
                  exact g_vret hF rfl d_X14_variable_294 ⟨rfl, w25⟩
              refine g_if_eq hF 285 d_X14_variable_262 (by decide) rfl (fun c => ?_) (fun c => ?_)
              · have w26 := w8.1 c
                exact g_sub (L' := [(0, .ref (r 0)), (2, .int a2), (4, .int a4), (5, .int a5), (6, .int x6_95), (10, .int y0_141), (11, .int y0_170)]) [0, 2, 3, 4, 5, 6, 7] rfl (b285 s260 t260 z260 w26)
              · have w27 := w8.2 c
                refine g_iload hF d_X14_variable_265 7 rfl ?_
                refine g_if_lt hF 285 d_X14_variable_267 (by decide) rfl (fun c => ?_) (fun c => ?_)
                · have w28 := w27.1 c
                  exact g_sub (L' := [(0, .ref (r 0)), (2, .int a2), (4, .int a4), (5, .int a5), (6, .int x6_95), (10, .int y0_141), (11, .int y0_170)]) [0, 2, 3, 4, 5, 6, 7] rfl (b285 s260 t260 z260 w28)
                · have w29 := w27.2 c
                  refine g_aload_n hF d_X14_variable_270 rfl 0 rfl ?_
                  refine g_iload_n hF d_X14_variable_271 rfl 1 rfl ?_
                  refine g_iload hF d_X14_variable_272 7 rfl ?_
                  refine g_cap (fun hc29 => ?_)
                  refine g_callV (As := [.int a1, .int y0_170]) (rest := []) hF (fun l D cy => (ct_hold a r hc29 w29) l D cy) (Nat.le_of_ble_eq_true rfl) mV_X14_hold m_2337 (recv_ob obM_0) rfl rfl (Nat.le_of_ble_eq_true rfl) d_X14_variable_274 (kV (fun s274 t274 z274 w31 => ?_)) (fun _ _ _ h => h.elim)
                  refine g_aload_n hF d_X14_variable_277 rfl 0 rfl ?_
                  refine g_bipush hF (v := 8) d_X14_variable_278 (by decide) ?_
                  refine g_iload hF d_X14_variable_280 7 rfl ?_
                  refine g_cap (fun hc31 => ?_)
                  refine g_callV (As := [.int 8, .int y0_170]) (rest := []) hF (fun l D cy => (ct_put_1 a r hc31 w31) l D cy) (Nat.le_of_ble_eq_true rfl) mV_X14_put_1 m_2433 (recv_ob obM_0) rfl rfl (Nat.le_of_ble_eq_true rfl) d_X14_variable_282 (kV (fun s282 t282 z282 w33 => ?_)) (fun _ _ _ h => h.elim)
                  exact g_sub (L' := [(0, .ref (r 0)), (2, .int a2), (4, .int a4), (5, .int a5), (6, .int x6_95), (10, .int y0_141), (11, .int y0_170)]) [0, 2, 3, 4, 5, 6, 7] rfl (b285 s282 t282 z282 w33)
            refine g_if_ne hF 260 d_X14_variable_234 (by decide) rfl (fun c => ?_) (fun c => ?_)
            · have w34 := w7.1 c
              exact b260 s232 t232 z232 w34
            · have w35 := w7.2 c
              refine g_iload hF d_X14_variable_237 7 rfl ?_
              refine g_if_lt hF 260 d_X14_variable_239 (by decide) rfl (fun c => ?_) (fun c => ?_)
              · have w36 := w35.1 c
                exact b260 s232 t232 z232 w36
              · have w37 := w35.2 c
                refine g_iload hF d_X14_variable_242 3 rfl ?_
                refine g_if_ne hF 260 d_X14_variable_244 (by decide) rfl (fun c => ?_) (fun c => ?_)
                · have w38 := w37.1 c
                  exact b260 s232 t232 z232 w38
                · have w39 := w37.2 c
                  refine g_aload_n hF d_X14_variable_247 rfl 0 rfl ?_
                  refine g_iload hF d_X14_variable_248 7 rfl ?_
                  refine g_iload_n hF d_X14_variable_250 rfl 1 rfl ?_
                  refine g_iload hF d_X14_variable_251 6 rfl ?_
                  refine g_iconst hF (v := 1) d_X14_variable_253 (by decide) ?_
                  refine g_mmax hF (Nat.le_of_ble_eq_true rfl) m_2432 m_1131 m_23 m_1132 (Nat.le_of_ble_eq_true rfl) d_X14_variable_254 ?_
                  refine g_cap (fun hc39 => ?_)
                  refine g_callV (As := [.int y0_170, .int a1, .int (if y0_141 < (1 : Int32) then (1 : Int32) else y0_141)]) (rest := []) hF (fun l D cy => (ct_lay a r hc39 w39) l D cy) (Nat.le_of_ble_eq_true rfl) mV_X14_lay m_2560 (recv_ob obM_0) rfl rfl (Nat.le_of_ble_eq_true rfl) d_X14_variable_257 (kV (fun s257 t257 z257 w41 => ?_)) (fun _ _ _ h => h.elim)
                  exact b260 s257 t257 z257 w41
          refine g_if_lt hF 232 d_X14_variable_174 (by decide) rfl (fun c => ?_) (fun c => ?_)
          · have w42 := w6.1 c
            exact g_sub (L' := [(0, .ref (r 0)), (1, .int a1), (2, .int a2), (4, .int a4), (5, .int a5), (6, .int x6_95), (10, .int y0_141), (11, .int y0_170)]) [1, 2, 3, 4, 5, 6, 10, 0] rfl (b232 s170 t170 z170 w42)
          · have w43 := w6.2 c
            refine g_iload hF d_X14_variable_177 7 rfl ?_
            refine g_sipush hF (v := 4000) d_X14_variable_179 (by decide) ?_
            obtain ⟨J192, h192, w44⟩ := w43
            have b192 : ∀ (s192 t192 : St) (z192 : List Nat), J192 s192 t192 z192 → G SM r X s192 t192 z192 [(0, .ref (r 0)), (1, .int a1), (2, .int a2), (4, .int a4), (5, .int a5), (6, .int x6_95), (7, .int x7_95), (8, .int x8_95), (9, .int y0_119), (10, .int y0_141), (11, .int y0_170)] [] 192 := by
              intro s192 t192 z192  w192_
              have w192_ := h192 s192 t192 z192  w192_
              refine g_aload_n hF d_X14_variable_192 rfl 0 rfl ?_
              refine g_iload hF d_X14_variable_193 8 rfl ?_
              obtain ⟨J227, h227, w45⟩ := w192_
              have b227 : ∀ (y1_227 : Int32), y1_227 = 0 ∨ y1_227 = 1 → J227 y1_227 → G SM r X s192 t192 z192 [(0, .ref (r 0)), (1, .int a1), (2, .int a2), (4, .int a4), (5, .int a5), (6, .int x6_95), (10, .int y0_141), (11, .int y0_170)] [.int y1_227, .ref (r 0)] 227 := by
                intro y1_227 hy1_227 w227_
                have w227_ := h227 y1_227 hy1_227 w227_
                refine g_iload hF d_X14_variable_227 5 rfl ?_
                refine g_cap (fun hc45 => ?_)
                refine g_callV (As := [.int y1_227, .int x6_95]) (rest := []) hF (fun l D cy => (ct_must a r hc45 w227_) l D cy) (Nat.le_of_ble_eq_true rfl) mV_X14_must m_2313 (recv_ob obM_0) rfl rfl (Nat.le_of_ble_eq_true rfl) d_X14_variable_229 (kV (fun s229 t229 z229 w47 => ?_)) (fun _ _ _ h => h.elim)
                exact b232 s229 t229 z229 w47
              obtain ⟨J222, h222, w48⟩ := w45
              have b222 : J222  → G SM r X s192 t192 z192 [(0, .ref (r 0)), (1, .int a1), (2, .int a2), (4, .int a4), (5, .int a5), (6, .int x6_95), (10, .int y0_141), (11, .int y0_170)] [.ref (r 0)] 222 := by
                intro   w222_
                have w222_ := h222   w222_
                refine g_iconst hF (v := 1) d_X14_variable_222 (by decide) ?_
                refine g_goto hF 227 d_X14_variable_223 (by decide) ?_
                exact b227 (1 : Int32) (Or.inr rfl) w222_
              refine g_if_ne hF 222 d_X14_variable_195 (by decide) rfl (fun c => ?_) (fun c => ?_)
              · have w49 := w48.1 c
                exact g_sub (L' := [(0, .ref (r 0)), (1, .int a1), (2, .int a2), (4, .int a4), (5, .int a5), (6, .int x6_95), (10, .int y0_141), (11, .int y0_170)]) [0, 1, 2, 3, 4, 5, 9, 10] rfl (b222  w49)
              · have w50 := w48.2 c
                refine g_iload hF d_X14_variable_198 7 rfl ?_
                obtain ⟨J226, h226, w51⟩ := w50
                have b226 : J226  → G SM r X s192 t192 z192 [(0, .ref (r 0)), (1, .int a1), (2, .int a2), (4, .int a4), (5, .int a5), (6, .int x6_95), (10, .int y0_141), (11, .int y0_170)] [.ref (r 0)] 226 := by
                  intro   w226_
                  have w226_ := h226   w226_
                  refine g_iconst hF (v := 0) d_X14_variable_226 (by decide) ?_
                  exact b227 (0 : Int32) (Or.inl rfl) w226_
                refine g_if_ne hF 226 d_X14_variable_200 (by decide) rfl (fun c => ?_) (fun c => ?_)
                · have w52 := w51.1 c
                  exact g_sub (L' := [(0, .ref (r 0)), (1, .int a1), (2, .int a2), (4, .int a4), (5, .int a5), (6, .int x6_95), (10, .int y0_141), (11, .int y0_170)]) [0, 1, 2, 3, 4, 5, 9, 10] rfl (b226  w52)
                · have w53 := w51.2 c
                  refine g_iload hF d_X14_variable_203 6 rfl ?_
                  refine g_if_ne hF 226 d_X14_variable_205 (by decide) rfl (fun c => ?_) (fun c => ?_)
                  · have w54 := w53.1 c
                    exact g_sub (L' := [(0, .ref (r 0)), (1, .int a1), (2, .int a2), (4, .int a4), (5, .int a5), (6, .int x6_95), (10, .int y0_141), (11, .int y0_170)]) [0, 1, 2, 3, 4, 5, 9, 10] rfl (b226  w54)
                  · have w55 := w53.2 c
                    refine g_iload hF d_X14_variable_208 3 rfl ?_
                    refine g_if_ne hF 222 d_X14_variable_210 (by decide) rfl (fun c => ?_) (fun c => ?_)
                    · have w56 := w55.1 c
                      exact g_sub (L' := [(0, .ref (r 0)), (1, .int a1), (2, .int a2), (4, .int a4), (5, .int a5), (6, .int x6_95), (10, .int y0_141), (11, .int y0_170)]) [0, 1, 2, 3, 4, 5, 9, 10] rfl (b222  w56)
                    · have w57 := w55.2 c
                      refine g_aload_n hF d_X14_variable_213 rfl 0 rfl ?_
                      refine g_bipush hF (v := 30) d_X14_variable_214 (by decide) ?_
                      refine g_cap (fun hc57 => ?_)
                      refine g_callV (As := [.int 30]) (rest := [.ref (r 0)]) hF (fun l D cy => (ct_is a r hc57 w57) l D cy) (Nat.le_of_ble_eq_true rfl) mV_X14_is m_2289 (recv_ob obM_0) rfl rfl (Nat.le_of_ble_eq_true rfl) d_X14_variable_216 (krZ (fun v216 hz216 w59 => ?_)) (fun _ _ _ h => h.elim)
                      refine g_if_eq hF 226 d_X14_variable_219 (by decide) rfl (fun c => ?_) (fun c => ?_)
                      · have w60 := w59.1 c
                        exact g_sub (L' := [(0, .ref (r 0)), (1, .int a1), (2, .int a2), (4, .int a4), (5, .int a5), (6, .int x6_95), (10, .int y0_141), (11, .int y0_170)]) [0, 1, 2, 3, 4, 5, 9, 10] rfl (b226  w60)
                      · have w61 := w59.2 c
                        exact g_sub (L' := [(0, .ref (r 0)), (1, .int a1), (2, .int a2), (4, .int a4), (5, .int a5), (6, .int x6_95), (10, .int y0_141), (11, .int y0_170)]) [0, 1, 2, 3, 4, 5, 9, 10] rfl (b222  w61)
            refine g_icmp_le (yv := 4000) hF 192 d_X14_variable_182 (by decide) rfl (by decide) (fun c => ?_) (fun c => ?_)
            · have w62 := w44.1 c
              exact g_sub (L' := [(0, .ref (r 0)), (1, .int a1), (2, .int a2), (4, .int a4), (5, .int a5), (6, .int x6_95), (7, .int x7_95), (8, .int x8_95), (9, .int y0_119), (10, .int y0_141), (11, .int y0_170)]) [1, 2, 3, 4, 5, 6, 7, 8, 9, 10, 0] rfl (b192 s170 t170 z170 w62)
            · have w63 := w44.2 c
              refine g_aload_n hF d_X14_variable_185 rfl 1 rfl ?_
              refine g_iconst hF (v := 4) d_X14_variable_186 (by decide) ?_
              refine g_iload hF d_X14_variable_187 6 rfl ?_
              refine g_cap (fun hc63 => ?_)
              refine g_callV (As := [.int 4, .int x6_95]) (rest := []) hF (fun l D cy => (ct_tell a r hc63 w63) l D cy) (Nat.le_of_ble_eq_true rfl) mV_X14_tell m_2317 (recv_ob obM_0) rfl rfl (Nat.le_of_ble_eq_true rfl) d_X14_variable_189 (kV (fun s189 t189 z189 w65 => ?_)) (fun _ _ _ h => h.elim)
              exact g_sub (L' := [(0, .ref (r 0)), (1, .int a1), (2, .int a2), (4, .int a4), (5, .int a5), (6, .int x6_95), (7, .int x7_95), (8, .int x8_95), (9, .int y0_119), (10, .int y0_141), (11, .int y0_170)]) [1, 2, 3, 4, 5, 6, 7, 8, 9, 10, 0] rfl (b192 s189 t189 z189 w65)
        refine g_if_eq hF 159 d_X14_variable_145 (by decide) rfl (fun c => ?_) (fun c => ?_)
        · have w66 := w5.1 c
          refine g_aload_n hF d_X14_variable_159 rfl 1 rfl ?_
          refine g_iload_n hF d_X14_variable_160 rfl 2 rfl ?_
          refine g_iload_n hF d_X14_variable_161 rfl 3 rfl ?_
          refine g_iload hF d_X14_variable_162 0 rfl ?_
          refine g_iload_n hF d_X14_variable_164 rfl 4 rfl ?_
          refine g_iload hF d_X14_variable_165 5 rfl ?_
          refine g_cap (fun hc66 => ?_)
          refine g_callV (As := [.int a1, .int a2, .int y0_141, .int a3, .int a4]) (rest := []) hF (fun l D cy => (ct_globalName a r hc66 w66) l D cy) (Nat.le_of_ble_eq_true rfl) mV_X14_globalName m_2556 (recv_ob obM_0) rfl rfl (Nat.le_of_ble_eq_true rfl) d_X14_variable_167 (kI (fun v167 s167 t167 z167 w68 => ?_)) (fun _ _ _ h => h.elim)
          exact g_sub (L' := [(0, .ref (r 0)), (1, .int a1), (2, .int a2), (4, .int a4), (5, .int a5), (6, .int x6_95), (7, .int x7_95), (8, .int x8_95), (9, .int y0_119), (10, .int y0_141)]) [1, 2, 3, 5, 6, 7, 8, 9, 10, 0] rfl (b170 v167 s167 t167 z167 w68)
        · have w69 := w5.2 c
          refine g_aload_n hF d_X14_variable_148 rfl 1 rfl ?_
          refine g_iload_n hF d_X14_variable_149 rfl 2 rfl ?_
          refine g_iload_n hF d_X14_variable_150 rfl 3 rfl ?_
          refine g_iload hF d_X14_variable_151 0 rfl ?_
          refine g_cap (fun hc69 => ?_)
          refine g_callV (As := [.int a1, .int a2, .int y0_141]) (rest := []) hF (fun l D cy => (ct_localName a r hc69 w69) l D cy) (Nat.le_of_ble_eq_true rfl) mV_X14_localName m_2552 (recv_ob obM_0) rfl rfl (Nat.le_of_ble_eq_true rfl) d_X14_variable_153 (kI (fun v153 s153 t153 z153 w71 => ?_)) (fun _ _ _ h => h.elim)
          refine g_goto hF 170 d_X14_variable_156 (by decide) ?_
          exact g_sub (L' := [(0, .ref (r 0)), (1, .int a1), (2, .int a2), (4, .int a4), (5, .int a5), (6, .int x6_95), (7, .int x7_95), (8, .int x8_95), (9, .int y0_119), (10, .int y0_141)]) [1, 2, 3, 5, 6, 7, 8, 9, 10, 0] rfl (b170 v153 s153 t153 z153 w71)
      refine g_if_ge hF 130 d_X14_variable_123 (by decide) rfl (fun c => ?_) (fun c => ?_)
      · have w72 := w4.1 c
        refine g_iload hF d_X14_variable_130 0 rfl ?_
        refine g_if_eq hF 140 d_X14_variable_132 (by decide) rfl (fun c => ?_) (fun c => ?_)
        · have w73 := w72.1 c
          refine g_iconst hF (v := 0) d_X14_variable_140 (by decide) ?_
          exact g_sub (L' := [(0, .ref (r 0)), (1, .int a1), (2, .int a2), (3, .int a3), (4, .int a4), (5, .int a5), (6, .int x6_95), (7, .int x7_95), (8, .int x8_95), (9, .int y0_119)]) [1, 2, 3, 4, 5, 6, 7, 8, 9, 0] rfl (b141 (0 : Int32) w73)
        · have w74 := w72.2 c
          refine g_iload hF d_X14_variable_135 8 rfl ?_
          refine g_goto hF 141 d_X14_variable_137 (by decide) ?_
          exact g_sub (L' := [(0, .ref (r 0)), (1, .int a1), (2, .int a2), (3, .int a3), (4, .int a4), (5, .int a5), (6, .int x6_95), (7, .int x7_95), (8, .int x8_95), (9, .int y0_119)]) [1, 2, 3, 4, 5, 6, 7, 8, 9, 0] rfl (b141 x7_95 w74)
      · have w75 := w4.2 c
        refine g_iconst hF (v := (-1)) d_X14_variable_126 (by decide) ?_
        refine g_goto hF 141 d_X14_variable_127 (by decide) ?_
        exact g_sub (L' := [(0, .ref (r 0)), (1, .int a1), (2, .int a2), (3, .int a3), (4, .int a4), (5, .int a5), (6, .int x6_95), (7, .int x7_95), (8, .int x8_95), (9, .int y0_119)]) [1, 2, 3, 4, 5, 6, 7, 8, 9, 0] rfl (b141 ((-1) : Int32) w75)
    obtain ⟨J114, h114, w76⟩ := w3
    have b114 : J114  → G SM r X s95 t95 z95 [(0, .ref (r 0)), (1, .int a1), (2, .int a2), (3, .int a3), (4, .int a4), (5, .int a5), (6, .int x6_95), (7, .int x7_95), (8, .int x8_95)] [] 114 := by
      intro   w114_
      have w114_ := h114   w114_
      refine g_iconst hF (v := 1) d_X14_variable_114 (by decide) ?_
      refine g_goto hF 119 d_X14_variable_115 (by decide) ?_
      exact b119 (1 : Int32) (Or.inr rfl) w114_
    refine g_if_lt hF 114 d_X14_variable_97 (by decide) rfl (fun c => ?_) (fun c => ?_)
    · have w77 := w76.1 c
      exact b114  w77
    · have w78 := w76.2 c
      refine g_iload hF d_X14_variable_100 7 rfl ?_
      refine g_iconst hF (v := 1) d_X14_variable_102 (by decide) ?_
      obtain ⟨J118, h118, w79⟩ := w78
      have b118 : J118  → G SM r X s95 t95 z95 [(0, .ref (r 0)), (1, .int a1), (2, .int a2), (3, .int a3), (4, .int a4), (5, .int a5), (6, .int x6_95), (7, .int x7_95), (8, .int x8_95)] [] 118 := by
        intro   w118_
        have w118_ := h118   w118_
        refine g_iconst hF (v := 0) d_X14_variable_118 (by decide) ?_
        exact b119 (0 : Int32) (Or.inl rfl) w118_
      refine g_icmp_lt (yv := 1) hF 118 d_X14_variable_103 (by decide) rfl (by decide) (fun c => ?_) (fun c => ?_)
      · have w80 := w79.1 c
        exact b118  w80
      · have w81 := w79.2 c
        refine g_iload hF d_X14_variable_106 7 rfl ?_
        refine g_sipush hF (v := 4000) d_X14_variable_108 (by decide) ?_
        refine g_icmp_gt (yv := 4000) hF 118 d_X14_variable_111 (by decide) rfl (by decide) (fun c => ?_) (fun c => ?_)
        · have w82 := w81.1 c
          exact b118  w82
        · have w83 := w81.2 c
          exact b114  w83
  refine g_if_eq hF 95 d_X14_variable_15 (by decide) rfl (fun c => ?_) (fun c => ?_)
  · have w84 := w2.1 c
    exact g_sub (L' := [(0, .ref (r 0)), (1, .int a1), (2, .int a2), (3, .int a3), (4, .int a4), (5, .int a5), (6, .int (-1)), (7, .int (-1)), (8, .int 1)]) [3, 4, 5, 6, 7, 8, 2, 1, 0] rfl (b95 ((-1) : Int32) ((-1) : Int32) (1 : Int32) σ τ vs (Or.inr rfl) w84)
  · have w85 := w2.2 c
    refine g_aload_n hF d_X14_variable_18 rfl 3 rfl ?_
    refine g_get (v := .int (σ 0 10)) hF 10 obM_0 (by decide) m_1875 rfl d_X14_variable_19 ?_
    refine g_istore hF [(6, .int (σ 0 10)), (8, .int 1), (7, .int (-1)), (0, .ref (r 0)), (1, .int a1), (2, .int a2), (3, .int a3), (4, .int a4), (5, .int a5)] d_X14_variable_22 hnn (by decide) rfl ?_
    refine g_aload_n hF d_X14_variable_24 rfl 3 rfl ?_
    refine g_dup hF d_X14_variable_25 rfl ?_
    refine g_get (v := .int (σ 0 10)) hF 10 obM_0 (by decide) m_1875 rfl d_X14_variable_26 ?_
    refine g_iconst hF (v := 1) d_X14_variable_29 (by decide) ?_
    refine g_iadd hF d_X14_variable_30 ?_
    refine g_put (v := ((σ 0 10) + (1 : Int32))) hF 10 obM_0 (by decide) m_1875 rfl rfl rfl d_X14_variable_31 ?_
    refine g_aload_n hF d_X14_variable_34 rfl 3 rfl ?_
    refine g_bipush hF (v := 25) d_X14_variable_35 (by decide) ?_
    refine g_callV (As := [.int 25]) (rest := []) hF (fun l D cy => (ct_is a r hcap w85) l D cy) (Nat.le_of_ble_eq_true rfl) mV_X14_is m_2289 (recv_ob obM_0) rfl rfl (Nat.le_of_ble_eq_true rfl) d_X14_variable_37 (krZ (fun v37 hz37 w86 => ?_)) (fun _ _ _ h => h.elim)
    obtain ⟨J48, h48, w87⟩ := w86
    have b48 : ∀ (y0_48 : Int32), y0_48 = 0 ∨ y0_48 = 1 → J48 y0_48 → G SM r X (upC σ 0 10 ((σ 0 10) + (1 : Int32))) τ vs [(0, .ref (r 0)), (1, .int a1), (2, .int a2), (3, .int a3), (4, .int a4), (5, .int a5), (6, .int (σ 0 10))] [.int y0_48] 48 := by
      intro y0_48 hy0_48 w48_
      have w48_ := h48 y0_48 hy0_48 w48_
      refine g_istore hF [(8, .int y0_48), (0, .ref (r 0)), (1, .int a1), (2, .int a2), (3, .int a3), (4, .int a4), (5, .int a5), (6, .int (σ 0 10))] d_X14_variable_48 hnn (by decide) rfl ?_
      refine g_iload hF d_X14_variable_50 0 rfl ?_
      obtain ⟨J63, h63, w88⟩ := w48_
      have b63 : ∀ (y0_63 : Int32) (s63 t63 : St) (z63 : List Nat), J63 y0_63 s63 t63 z63 → G SM r X s63 t63 z63 [(0, .ref (r 0)), (1, .int a1), (2, .int a2), (3, .int a3), (4, .int a4), (5, .int a5), (6, .int (σ 0 10)), (8, .int y0_48)] [.int y0_63] 63 := by
        intro y0_63 s63 t63 z63  w63_
        have w63_ := h63 y0_63 s63 t63 z63  w63_
        refine g_istore hF [(7, .int y0_63), (0, .ref (r 0)), (1, .int a1), (2, .int a2), (3, .int a3), (4, .int a4), (5, .int a5), (6, .int (σ 0 10)), (8, .int y0_48)] d_X14_variable_63 hnn (by decide) rfl ?_
        refine g_aload_n hF d_X14_variable_65 rfl 1 rfl ?_
        refine g_bipush hF (v := 25) d_X14_variable_66 (by decide) ?_
        refine g_cap (fun hc88 => ?_)
        refine g_callV (As := [.int 25]) (rest := []) hF (fun l D cy => (ct_expect a r hc88 w63_) l D cy) (Nat.le_of_ble_eq_true rfl) mV_X14_expect m_2285 (recv_ob obM_0) rfl rfl (Nat.le_of_ble_eq_true rfl) d_X14_variable_68 (kV (fun s68 t68 z68 w90 => ?_)) (fun σ9 τ9 vs9 h9 => g_out hF stopM rfl h9)
        refine g_iload hF d_X14_variable_71 8 rfl ?_
        refine g_if_ne hF 95 d_X14_variable_73 (by decide) rfl (fun c => ?_) (fun c => ?_)
        · have w91 := w90.1 c
          exact g_sub (L' := [(0, .ref (r 0)), (1, .int a1), (2, .int a2), (3, .int a3), (4, .int a4), (5, .int a5), (6, .int (σ 0 10)), (7, .int y0_63), (8, .int y0_48)]) [1, 2, 3, 4, 5, 6, 7, 0, 8] rfl (b95 (σ 0 10) y0_63 y0_48 s68 t68 z68 hy0_48 w91)
        · have w92 := w90.2 c
          refine g_aload_n hF d_X14_variable_76 rfl 1 rfl ?_
          refine g_bipush hF (v := 30) d_X14_variable_77 (by decide) ?_
          refine g_cap (fun hc92 => ?_)
          refine g_callV (As := [.int 30]) (rest := []) hF (fun l D cy => (ct_is a r hc92 w92) l D cy) (Nat.le_of_ble_eq_true rfl) mV_X14_is m_2289 (recv_ob obM_0) rfl rfl (Nat.le_of_ble_eq_true rfl) d_X14_variable_79 (krZ (fun v79 hz79 w94 => ?_)) (fun _ _ _ h => h.elim)
          refine g_if_eq hF 95 d_X14_variable_82 (by decide) rfl (fun c => ?_) (fun c => ?_)
          · have w95 := w94.1 c
            exact g_sub (L' := [(0, .ref (r 0)), (1, .int a1), (2, .int a2), (3, .int a3), (4, .int a4), (5, .int a5), (6, .int (σ 0 10)), (7, .int y0_63), (8, .int y0_48)]) [1, 2, 3, 4, 5, 6, 7, 0, 8] rfl (b95 (σ 0 10) y0_63 y0_48 s68 t68 z68 hy0_48 w95)
          · have w96 := w94.2 c
            refine g_aload_n hF d_X14_variable_85 rfl 1 rfl ?_
            refine g_callV (As := []) (rest := []) hF (fun l D cy => (ct_told a r hc92 w96) l D cy) (Nat.le_of_ble_eq_true rfl) mV_X14_told m_2548 (recv_ob obM_0) rfl rfl (Nat.le_of_ble_eq_true rfl) d_X14_variable_86 (krI (fun v86 w97 => ?_)) (fun _ _ _ h => h.elim)
            refine g_iconst hF (v := 0) d_X14_variable_89 (by decide) ?_
            refine g_mmax hF (Nat.le_of_ble_eq_true rfl) m_2432 m_1131 m_23 m_1132 (Nat.le_of_ble_eq_true rfl) d_X14_variable_90 ?_
            refine g_istore hF [(7, .int (if v86 < (0 : Int32) then (0 : Int32) else v86)), (0, .ref (r 0)), (1, .int a1), (2, .int a2), (3, .int a3), (4, .int a4), (5, .int a5), (6, .int (σ 0 10)), (8, .int y0_48)] d_X14_variable_93 hnn (by decide) rfl ?_
            exact g_sub (L' := [(0, .ref (r 0)), (1, .int a1), (2, .int a2), (3, .int a3), (4, .int a4), (5, .int a5), (6, .int (σ 0 10)), (7, .int (if v86 < (0 : Int32) then (0 : Int32) else v86)), (8, .int y0_48)]) [1, 2, 3, 4, 5, 6, 7, 0, 8] rfl (b95 (σ 0 10) (if v86 < (0 : Int32) then (0 : Int32) else v86) y0_48 s68 t68 z68 hy0_48 w97)
      refine g_if_eq hF 62 d_X14_variable_52 (by decide) rfl (fun c => ?_) (fun c => ?_)
      · have w98 := w88.1 c
        refine g_iconst hF (v := 0) d_X14_variable_62 (by decide) ?_
        exact g_sub (L' := [(0, .ref (r 0)), (1, .int a1), (2, .int a2), (3, .int a3), (4, .int a4), (5, .int a5), (6, .int (σ 0 10)), (8, .int y0_48)]) [1, 2, 3, 4, 5, 6, 7, 0] rfl (b63 (0 : Int32) (upC σ 0 10 ((σ 0 10) + (1 : Int32))) τ vs w98)
      · have w99 := w88.2 c
        refine g_aload_n hF d_X14_variable_55 rfl 1 rfl ?_
        refine g_callV (As := []) (rest := []) hF (fun l D cy => (ct_sizeAt a r hcap w99) l D cy) (Nat.le_of_ble_eq_true rfl) mV_X14_sizeAt m_2357 (recv_ob obM_0) rfl rfl (Nat.le_of_ble_eq_true rfl) d_X14_variable_56 (kI (fun v56 s56 t56 z56 w100 => ?_)) (fun σ9 τ9 vs9 h9 => g_out hF stopM rfl h9)
        refine g_goto hF 63 d_X14_variable_59 (by decide) ?_
        exact g_sub (L' := [(0, .ref (r 0)), (1, .int a1), (2, .int a2), (3, .int a3), (4, .int a4), (5, .int a5), (6, .int (σ 0 10)), (8, .int y0_48)]) [1, 2, 3, 4, 5, 6, 7, 0] rfl (b63 v56 s56 t56 z56 w100)
    refine g_if_ne hF 47 d_X14_variable_40 (by decide) rfl (fun c => ?_) (fun c => ?_)
    · have w101 := w87.1 c
      refine g_iconst hF (v := 0) d_X14_variable_47 (by decide) ?_
      exact g_sub (L' := [(0, .ref (r 0)), (1, .int a1), (2, .int a2), (3, .int a3), (4, .int a4), (5, .int a5), (6, .int (σ 0 10))]) [3, 4, 5, 6, 7, 8, 0] rfl (b48 (0 : Int32) (Or.inl rfl) w101)
    · have w102 := w87.2 c
      refine g_iconst hF (v := 1) d_X14_variable_43 (by decide) ?_
      refine g_goto hF 48 d_X14_variable_44 (by decide) ?_
      exact g_sub (L' := [(0, .ref (r 0)), (1, .int a1), (2, .int a2), (3, .int a3), (4, .int a4), (5, .int a5), (6, .int (σ 0 10))]) [3, 4, 5, 6, 7, 8, 0] rfl (b48 (1 : Int32) (Or.inr rfl) w102)
def wp_variables (a1 : Int32) (a2 : Int32) (a3 : Int32) (σ τ : St) (vs : List Nat) (Q : St → St → List Nat → Prop) (T : St → St → List Nat → Prop) : Prop :=
  ∃ L3 : Nat → Int32 → St → St → List Nat → Prop, (∃ n, L3 n (1 : Int32) σ τ vs) ∧ ∀ (n3 : Nat) (x4_3 : Int32) (s3 t3 : St) (z3 : List Nat), x4_3 = 0 ∨ x4_3 = 1 → L3 n3 x4_3 s3 t3 z3 → ((x4_3.toInt = 0 → wp_expect (27 : Int32) s3 t3 z3 (fun s73 t73 z73 => Q s73 t73 z73) T) ∧ (x4_3.toInt ≠ 0 → wp_stars s3 t3 z3 (fun v9 s9 t9 z9 => ((0 ≤ (s9 0 10).toInt ∧ (s9 0 10).toInt < 16002) ∧ ((s9 2 (s9 0 10).toNatClampNeg).toInt = 2 → wp_variable (s9 0 10) v9 a1 a2 a3 (upC s9 0 10 ((s9 0 10) + (1 : Int32))) t9 z9 (fun s56 t56 z56 => wp_accept (26 : Int32) s56 t56 z56 (fun v62 s62 t62 z62 => ∃ m, m < n3 ∧ L3 m v62 s62 t62 z62)) T) ∧ ((s9 2 (s9 0 10).toNatClampNeg).toInt ≠ 2 → wp_wrong s9 t9 z9 (fun s28 t28 z28 => T s28 t28 z28)))) T))
set_option maxHeartbeats 4000000 in
set_option maxRecDepth 100000 in
theorem ct_variables (a : Nat → Nat) (r : Nat → Nat) {a1 : Int32} {a2 : Int32} {a3 : Int32} {σ τ : St} {vs : List Nat} {Q : St → St → List Nat → Prop} {T : St → St → List Nat → Prop} (hcap : vs.length ≤ CAP) (w : wp_variables a1 a2 a3 σ τ vs Q T) (l : Launch) (D : va_G) (cy : Nat → ClassId) : Ct l D cy SM r (EM a) y_X14_variables (Cond.code y_X14_variables b_X14_variables 7 none) 1109 [.ref (r 0), .int a1, .int a2, .int a3] σ τ vs (QVs Q) T := by
  unfold wp_variables at w
  refine Ct_of (EM_ok a) (by decide) (Nat.le_of_ble_eq_true rfl) hcap (fun X hnn hF => ?_)
  show G SM r X σ τ vs [(0, .ref (r 0)), (1, .int a1), (2, .int a2), (3, .int a3)] [] 0
  refine g_iconst hF (v := 1) d_X14_variables_0 (by decide) ?_
  refine g_istore hF [(4, .int 1), (0, .ref (r 0)), (1, .int a1), (2, .int a2), (3, .int a3)] d_X14_variables_1 hnn (by decide) rfl ?_
  obtain ⟨L3, ⟨i3, u3⟩, h3⟩ := w
  have b3 : ∀ (n3 : Nat) (x4_3 : Int32) (s3 t3 : St) (z3 : List Nat), x4_3 = 0 ∨ x4_3 = 1 → L3 n3 x4_3 s3 t3 z3 → G SM r X s3 t3 z3 [(0, .ref (r 0)), (1, .int a1), (2, .int a2), (3, .int a3), (4, .int x4_3)] [] 3 := by
    intro n3
    induction n3 using Nat.strongRecOn with
    | _ n3 ih3 =>
      intro x4_3 s3 t3 z3 hx4_3 w3_
      have w3_ := h3 n3 x4_3 s3 t3 z3 hx4_3 w3_
      refine g_iload hF d_X14_variables_3 4 rfl ?_
      refine g_if_eq hF 70 d_X14_variables_5 (by decide) rfl (fun c => ?_) (fun c => ?_)
      · have w1 := w3_.1 c
        refine g_aload_n hF d_X14_variables_70 rfl 0 rfl ?_
        refine g_bipush hF (v := 27) d_X14_variables_71 (by decide) ?_
        refine g_cap (fun hc1 => ?_)
        refine g_callV (As := [.int 27]) (rest := []) hF (fun l D cy => (ct_expect a r hc1 w1) l D cy) (Nat.le_of_ble_eq_true rfl) mV_X14_expect m_2285 (recv_ob obM_0) rfl rfl (Nat.le_of_ble_eq_true rfl) d_X14_variables_73 (kV (fun s73 t73 z73 w3 => ?_)) (fun σ9 τ9 vs9 h9 => g_out hF stopM rfl h9)
        exact g_vret hF rfl d_X14_variables_76 ⟨rfl, w3⟩
      · have w4 := w3_.2 c
        refine g_aload_n hF d_X14_variables_8 rfl 0 rfl ?_
        refine g_cap (fun hc4 => ?_)
        refine g_callV (As := []) (rest := []) hF (fun l D cy => (ct_stars a r hc4 w4) l D cy) (Nat.le_of_ble_eq_true rfl) mV_X14_stars m_2297 (recv_ob obM_0) rfl rfl (Nat.le_of_ble_eq_true rfl) d_X14_variables_9 (kI (fun v9 s9 t9 z9 w6 => ?_)) (fun σ9 τ9 vs9 h9 => g_out hF stopM rfl h9)
        refine g_istore hF [(5, .int v9), (0, .ref (r 0)), (1, .int a1), (2, .int a2), (3, .int a3), (4, .int x4_3)] d_X14_variables_12 hnn (by decide) rfl ?_
        refine g_aload_n hF d_X14_variables_14 rfl 1 rfl ?_
        refine g_get (v := .ref (r 2)) hF 3 obM_0 (by decide) m_1868 rfl d_X14_variables_15 ?_
        refine g_aload_n hF d_X14_variables_18 rfl 1 rfl ?_
        refine g_get (v := .int (s9 0 10)) hF 10 obM_0 (by decide) m_1875 rfl d_X14_variables_19 ?_
        have w7 := w6.2
        refine g_iald hF arM_2 (s_in (Nat.le_of_ble_eq_true rfl) w6.1.1 w6.1.2) d_X14_variables_22 ?_
        refine g_top (v := (s9 2 (s9 0 10).toNatClampNeg)) rfl ?_
        refine g_iconst hF (v := 2) d_X14_variables_23 (by decide) ?_
        refine g_icmp_eq (yv := 2) hF 32 d_X14_variables_24 (by decide) rfl (by decide) (fun c => ?_) (fun c => ?_)
        · have w8 := w7.1 c
          refine g_aload_n hF d_X14_variables_32 rfl 1 rfl ?_
          refine g_get (v := .int (s9 0 10)) hF 10 obM_0 (by decide) m_1875 rfl d_X14_variables_33 ?_
          refine g_istore hF [(6, .int (s9 0 10)), (5, .int v9), (0, .ref (r 0)), (1, .int a1), (2, .int a2), (3, .int a3), (4, .int x4_3)] d_X14_variables_36 hnn (by decide) rfl ?_
          refine g_aload_n hF d_X14_variables_38 rfl 2 rfl ?_
          refine g_dup hF d_X14_variables_39 rfl ?_
          refine g_get (v := .int (s9 0 10)) hF 10 obM_0 (by decide) m_1875 rfl d_X14_variables_40 ?_
          refine g_iconst hF (v := 1) d_X14_variables_43 (by decide) ?_
          refine g_iadd hF d_X14_variables_44 ?_
          refine g_put (v := ((s9 0 10) + (1 : Int32))) hF 10 obM_0 (by decide) m_1875 rfl rfl rfl d_X14_variables_45 ?_
          refine g_aload_n hF d_X14_variables_48 rfl 2 rfl ?_
          refine g_iload hF d_X14_variables_49 0 rfl ?_
          refine g_iload hF d_X14_variables_51 1 rfl ?_
          refine g_iload_n hF d_X14_variables_53 rfl 3 rfl ?_
          refine g_iload_n hF d_X14_variables_54 rfl 4 rfl ?_
          refine g_iload_n hF d_X14_variables_55 rfl 5 rfl ?_
          refine g_cap (fun hc8 => ?_)
          refine g_callV (As := [.int (s9 0 10), .int v9, .int a1, .int a2, .int a3]) (rest := []) hF (fun l D cy => (ct_variable a r hc8 w8) l D cy) (Nat.le_of_ble_eq_true rfl) mV_X14_variable m_2353 (recv_ob obM_0) rfl rfl (Nat.le_of_ble_eq_true rfl) d_X14_variables_56 (kV (fun s56 t56 z56 w10 => ?_)) (fun σ9 τ9 vs9 h9 => g_out hF stopM rfl h9)
          refine g_aload_n hF d_X14_variables_59 rfl 2 rfl ?_
          refine g_bipush hF (v := 26) d_X14_variables_60 (by decide) ?_
          refine g_cap (fun hc10 => ?_)
          refine g_callV (As := [.int 26]) (rest := []) hF (fun l D cy => (ct_accept a r hc10 w10) l D cy) (Nat.le_of_ble_eq_true rfl) mV_X14_accept m_2293 (recv_ob obM_0) rfl rfl (Nat.le_of_ble_eq_true rfl) d_X14_variables_62 (kZ (fun v62 s62 t62 z62 hz62 w12 => ?_)) (fun _ _ _ h => h.elim)
          refine g_istore hF [(4, .int v62), (6, .int (s9 0 10)), (5, .int v9), (0, .ref (r 0)), (1, .int a1), (2, .int a2), (3, .int a3)] d_X14_variables_65 hnn (by decide) rfl ?_
          refine g_goto hF 3 d_X14_variables_67 (by decide) ?_
          obtain ⟨m3, hm3, w9⟩ := w12
          exact g_sub (L' := [(0, .ref (r 0)), (1, .int a1), (2, .int a2), (3, .int a3), (4, .int v62)]) [3, 4, 5, 6, 0] rfl (ih3 m3 hm3 v62 s62 t62 z62 hz62 w9)
        · have w13 := w7.2 c
          refine g_aload_n hF d_X14_variables_27 rfl 1 rfl ?_
          refine g_cap (fun hc13 => ?_)
          refine g_callV (As := []) (rest := []) hF (fun l D cy => (ct_wrong a r hc13 w13) l D cy) (Nat.le_of_ble_eq_true rfl) mV_X14_wrong m_2261 (recv_ob obM_0) rfl rfl (Nat.le_of_ble_eq_true rfl) d_X14_variables_28 (kX (fun s28 t28 z28 w15 => ?_)) (fun _ _ _ h => h.elim)
          exact g_athrow hF d_X14_variables_31 (g_out hF stopM rfl w15)
  exact g_sub (L' := [(0, .ref (r 0)), (1, .int a1), (2, .int a2), (3, .int a3), (4, .int 1)]) [1, 2, 3, 4, 0] rfl (b3 i3 (1 : Int32) σ τ vs (Or.inr rfl) u3)
def wp_statement (Kstatement : Int32 → St → St → List Nat → (St → St → List Nat → Prop) → (St → St → List Nat → Prop) → Prop) (Kinner : Int32 → St → St → List Nat → (St → St → List Nat → Prop) → (St → St → List Nat → Prop) → Prop) (Kblock : Int32 → St → St → List Nat → (St → St → List Nat → Prop) → (St → St → List Nat → Prop) → Prop) (Kloop : Int32 → Int32 → Int32 → St → St → List Nat → (St → St → List Nat → Prop) → (St → St → List Nat → Prop) → Prop) (KdoStatement : Int32 → Int32 → St → St → List Nat → (St → St → List Nat → Prop) → (St → St → List Nat → Prop) → Prop) (KforStatement : Int32 → Int32 → St → St → List Nat → (St → St → List Nat → Prop) → (St → St → List Nat → Prop) → Prop) (a1 : Int32) (σ τ : St) (vs : List Nat) (Q : St → St → List Nat → Prop) (T : St → St → List Nat → Prop) : Prop :=
  (a1.toInt ≤ 25 → ((0 ≤ (σ 0 10).toInt ∧ (σ 0 10).toInt < 16002) ∧ (∃ J394 : Prop, (J394  → (wp_is (22 : Int32) σ τ vs (fun v397 => (v397.toInt = 0 → wp_is (27 : Int32) σ τ vs (fun v414 => (∃ J424 : St → St → List Nat → Prop, (∀ (s424 t424 : St) (z424 : List Nat), J424 s424 t424 z424 → (wp_expect (27 : Int32) s424 t424 z424 (fun s427 t427 z427 => Q s427 t427 z427) T)) ∧ (v414.toInt ≠ 0 → J424 σ τ vs) ∧ (v414.toInt = 0 → wp_plain σ τ vs (fun s421 t421 z421 => J424 s421 t421 z421) T)))) ∧ (v397.toInt ≠ 0 → Kblock a1 σ τ vs (fun s405 t405 z405 => Q s405 t405 z405) T)))) ∧ (∃ J282 : Prop, (J282  → (((0 ≤ (σ 0 10).toInt ∧ (σ 0 10).toInt < 16002) ∧ (∃ J301 : Int32 → Prop, (∀ (y0_301 : Int32), y0_301 = 0 ∨ y0_301 = 1 → J301 y0_301 → (wp_expect (27 : Int32) (upC σ 0 10 ((σ 0 10) + (1 : Int32))) τ vs (fun s315 t315 z315 => (∃ J331 : Int32 → Prop, (∀ (y1_331 : Int32), y1_331 = 0 ∨ y1_331 = 1 → J331 y1_331 → (wp_must y1_331 (σ 0 10) s315 t315 z315 (fun s332 t332 z332 => (∃ J353 : Int32 → Prop, (∀ (y2_353 : Int32), J353 y2_353 → (wp_put_1 (15 : Int32) y2_353 s332 t332 z332 (fun s353 t353 z353 => (y0_301.toInt = 0 → Q (upC s353 0 59 ((s353 0 17) - (1 : Int32))) t353 z353) ∧ (y0_301.toInt ≠ 0 → Q (upC s353 0 58 ((s353 0 17) - (1 : Int32))) t353 z353)))) ∧ (y0_301.toInt = 0 → J353 (s332 0 59)) ∧ (y0_301.toInt ≠ 0 → J353 (s332 0 58)))))) ∧ ((s315 0 57).toInt ≤ 0 → J331 (0 : Int32)) ∧ (0 < (s315 0 57).toInt → J331 (1 : Int32)))) T)) ∧ ((σ 2 (σ 0 10).toNatClampNeg).toInt ≠ 14 → J301 (0 : Int32)) ∧ ((σ 2 (σ 0 10).toNatClampNeg).toInt = 14 → J301 (1 : Int32)))))) ∧ ((σ 2 (σ 0 10).toNatClampNeg).toInt = 5 → wp_variables (0 : Int32) (0 : Int32) (1 : Int32) (upC σ 0 10 ((σ 0 10) + (1 : Int32))) τ vs (fun s102 t102 z102 => Q s102 t102 z102) T) ∧ (¬ (σ 2 (σ 0 10).toNatClampNeg).toInt = 5 → ((σ 2 (σ 0 10).toNatClampNeg).toInt = 6 → J394) ∧ (¬ (σ 2 (σ 0 10).toNatClampNeg).toInt = 6 → ((σ 2 (σ 0 10).toNatClampNeg).toInt = 7 → J394) ∧ (¬ (σ 2 (σ 0 10).toNatClampNeg).toInt = 7 → ((σ 2 (σ 0 10).toNatClampNeg).toInt = 8 → J394) ∧ (¬ (σ 2 (σ 0 10).toNatClampNeg).toInt = 8 → ((σ 2 (σ 0 10).toNatClampNeg).toInt = 9 → wp_condition (σ 0 10) (upC σ 0 10 ((σ 0 10) + (1 : Int32))) τ vs (fun s120 t120 z120 => wp_open (16 : Int32) s120 t120 z120 (fun v126 s126 t126 z126 => Kinner a1 s126 t126 z126 (fun s132 t132 z132 => wp_isWord (10 : Int32) s132 t132 z132 (fun v138 => (v138.toInt ≠ 0 → wp_open (15 : Int32) (upC s132 0 10 ((s132 0 10) + (1 : Int32))) t132 z132 (fun v165 s165 t165 z165 => wp_aim v126 s165 t165 z165 (fun s172 t172 z172 => Kinner a1 s172 t172 z172 (fun s177 t177 z177 => wp_aim v165 s177 t177 z177 (fun s183 t183 z183 => Q s183 t183 z183)) T))) ∧ (v138.toInt = 0 → wp_aim v126 s132 t132 z132 (fun s146 t146 z146 => Q s146 t146 z146)))) T)) T) ∧ (¬ (σ 2 (σ 0 10).toNatClampNeg).toInt = 9 → ((σ 2 (σ 0 10).toNatClampNeg).toInt = 10 → J394) ∧ (¬ (σ 2 (σ 0 10).toNatClampNeg).toInt = 10 → ((σ 2 (σ 0 10).toNatClampNeg).toInt = 11 → wp_condition (σ 0 10) (upC σ 0 10 ((σ 0 10) + (1 : Int32))) τ vs (fun s206 t206 z206 => wp_open (16 : Int32) s206 t206 z206 (fun v212 s212 t212 z212 => Kloop a1 (σ 0 10) (σ 0 17) s212 t212 z212 (fun s221 t221 z221 => wp_put_1 (15 : Int32) (σ 0 17) (upC s221 0 58 (s221 0 60)) t221 z221 (fun s242 t242 z242 => wp_aim v212 s242 t242 z242 (fun s248 t248 z248 => wp_aimAll (s221 0 58) (s248 0 17) s248 t248 z248 (fun s258 t258 z258 => Q s258 t258 z258)))) T)) T) ∧ (¬ (σ 2 (σ 0 10).toNatClampNeg).toInt = 11 → ((σ 2 (σ 0 10).toNatClampNeg).toInt = 12 → KdoStatement a1 (σ 0 10) σ τ vs (fun s267 t267 z267 => Q s267 t267 z267) T) ∧ (¬ (σ 2 (σ 0 10).toNatClampNeg).toInt = 12 → ((σ 2 (σ 0 10).toNatClampNeg).toInt = 13 → KforStatement a1 (σ 0 10) σ τ vs (fun s276 t276 z276 => Q s276 t276 z276) T) ∧ (¬ (σ 2 (σ 0 10).toNatClampNeg).toInt = 13 → ((σ 2 (σ 0 10).toNatClampNeg).toInt = 14 → J282) ∧ (¬ (σ 2 (σ 0 10).toNatClampNeg).toInt = 14 → ((σ 2 (σ 0 10).toNatClampNeg).toInt = 15 → J282) ∧ (¬ (σ 2 (σ 0 10).toNatClampNeg).toInt = 15 → ((σ 2 (σ 0 10).toNatClampNeg).toInt = 16 → wp_returnStatement (σ 0 10) σ τ vs (fun s388 t388 z388 => Q s388 t388 z388) T) ∧ (¬ (σ 2 (σ 0 10).toNatClampNeg).toInt = 16 → J394)))))))))))))))) ∧ (25 < a1.toInt → wp_wrong σ τ vs (fun s7 t7 z7 => T s7 t7 z7))
set_option maxHeartbeats 4000000 in
set_option maxRecDepth 100000 in
theorem ct_statement (a : Nat → Nat) (r : Nat → Nat) (dK : Nat) (hdK : 1110 ≤ dK) (Kstatement : Int32 → St → St → List Nat → (St → St → List Nat → Prop) → (St → St → List Nat → Prop) → Prop) (Kinner : Int32 → St → St → List Nat → (St → St → List Nat → Prop) → (St → St → List Nat → Prop) → Prop) (Kblock : Int32 → St → St → List Nat → (St → St → List Nat → Prop) → (St → St → List Nat → Prop) → Prop) (Kloop : Int32 → Int32 → Int32 → St → St → List Nat → (St → St → List Nat → Prop) → (St → St → List Nat → Prop) → Prop) (KdoStatement : Int32 → Int32 → St → St → List Nat → (St → St → List Nat → Prop) → (St → St → List Nat → Prop) → Prop) (KforStatement : Int32 → Int32 → St → St → List Nat → (St → St → List Nat → Prop) → (St → St → List Nat → Prop) → Prop) (hKinner : ∀ {a1 : Int32} {σ τ : St} {vs : List Nat} {Q : St → St → List Nat → Prop} {T : St → St → List Nat → Prop}, vs.length ≤ CAP → Kinner a1 σ τ vs Q T → ∀ (l : Launch) (D : va_G) (cy : Nat → ClassId), Ct l D cy SM r (EM a) y_X14_inner (Cond.code y_X14_inner b_X14_inner 2 none) dK [.ref (r 0), .int a1] σ τ vs (QVs Q) T) (hKblock : ∀ {a1 : Int32} {σ τ : St} {vs : List Nat} {Q : St → St → List Nat → Prop} {T : St → St → List Nat → Prop}, vs.length ≤ CAP → Kblock a1 σ τ vs Q T → ∀ (l : Launch) (D : va_G) (cy : Nat → ClassId), Ct l D cy SM r (EM a) y_X14_block (Cond.code y_X14_block b_X14_block 2 none) dK [.ref (r 0), .int a1] σ τ vs (QVs Q) T) (hKloop : ∀ {a1 : Int32} {a2 : Int32} {a3 : Int32} {σ τ : St} {vs : List Nat} {Q : St → St → List Nat → Prop} {T : St → St → List Nat → Prop}, vs.length ≤ CAP → Kloop a1 a2 a3 σ τ vs Q T → ∀ (l : Launch) (D : va_G) (cy : Nat → ClassId), Ct l D cy SM r (EM a) y_X14_loop (Cond.code y_X14_loop b_X14_loop 6 none) dK [.ref (r 0), .int a1, .int a2, .int a3] σ τ vs (QVs Q) T) (hKdoStatement : ∀ {a1 : Int32} {a2 : Int32} {σ τ : St} {vs : List Nat} {Q : St → St → List Nat → Prop} {T : St → St → List Nat → Prop}, vs.length ≤ CAP → KdoStatement a1 a2 σ τ vs Q T → ∀ (l : Launch) (D : va_G) (cy : Nat → ClassId), Ct l D cy SM r (EM a) y_X14_doStatement (Cond.code y_X14_doStatement b_X14_doStatement 6 none) dK [.ref (r 0), .int a1, .int a2] σ τ vs (QVs Q) T) (hKforStatement : ∀ {a1 : Int32} {a2 : Int32} {σ τ : St} {vs : List Nat} {Q : St → St → List Nat → Prop} {T : St → St → List Nat → Prop}, vs.length ≤ CAP → KforStatement a1 a2 σ τ vs Q T → ∀ (l : Launch) (D : va_G) (cy : Nat → ClassId), Ct l D cy SM r (EM a) y_X14_forStatement (Cond.code y_X14_forStatement b_X14_forStatement 8 none) dK [.ref (r 0), .int a1, .int a2] σ τ vs (QVs Q) T) {a1 : Int32} {σ τ : St} {vs : List Nat} {Q : St → St → List Nat → Prop} {T : St → St → List Nat → Prop} (hcap : vs.length ≤ CAP) (w : wp_statement Kstatement Kinner Kblock Kloop KdoStatement KforStatement a1 σ τ vs Q T) (l : Launch) (D : va_G) (cy : Nat → ClassId) : Ct l D cy SM r (EM a) y_X14_statement (Cond.code y_X14_statement b_X14_statement 6 none) (dK + 1) [.ref (r 0), .int a1] σ τ vs (QVs Q) T := by
  unfold wp_statement at w
  refine Ct_of (EM_ok a) (by decide) (Nat.le_of_ble_eq_true rfl) hcap (fun X hnn hF => ?_)
  show G SM r X σ τ vs [(0, .ref (r 0)), (1, .int a1)] [] 0
  refine g_iload_n hF d_X14_statement_0 rfl 1 rfl ?_
  refine g_bipush hF (v := 25) d_X14_statement_1 (by decide) ?_
  refine g_icmp_le (yv := 25) hF 11 d_X14_statement_3 (by decide) rfl (by decide) (fun c => ?_) (fun c => ?_)
  · have w1 := w.1 c
    refine g_aload_n hF d_X14_statement_11 rfl 0 rfl ?_
    refine g_get (v := .int (σ 0 10)) hF 10 obM_0 (by decide) m_1875 rfl d_X14_statement_12 ?_
    refine g_istore_n hF [(2, .int (σ 0 10)), (0, .ref (r 0)), (1, .int a1)] d_X14_statement_15 rfl hnn (by decide) rfl ?_
    refine g_aload_n hF d_X14_statement_16 rfl 1 rfl ?_
    refine g_get (v := .ref (r 2)) hF 3 obM_0 (by decide) m_1868 rfl d_X14_statement_17 ?_
    refine g_aload_n hF d_X14_statement_20 rfl 1 rfl ?_
    refine g_get (v := .int (σ 0 10)) hF 10 obM_0 (by decide) m_1875 rfl d_X14_statement_21 ?_
    have w2 := w1.2
    refine g_iald hF arM_2 (s_in (Nat.le_of_ble_eq_true rfl) w1.1.1 w1.1.2) d_X14_statement_24 ?_
    refine g_top (v := (σ 2 (σ 0 10).toNatClampNeg)) rfl ?_
    obtain ⟨J394, h394, w3⟩ := w2
    have b394 : J394  → G SM r X σ τ vs [(0, .ref (r 0)), (1, .int a1)] [] 394 := by
      intro   w394_
      have w394_ := h394   w394_
      refine g_aload_n hF d_X14_statement_394 rfl 0 rfl ?_
      refine g_bipush hF (v := 22) d_X14_statement_395 (by decide) ?_
      refine g_callV (As := [.int 22]) (rest := []) hF (fun l D cy => (ct_is a r hcap w394_) l D cy) (Nat.add_le_add_right (Nat.le_trans (Nat.le_of_ble_eq_true rfl) hdK) 1) mV_X14_is m_2289 (recv_ob obM_0) rfl rfl (Nat.le_of_ble_eq_true rfl) d_X14_statement_397 (krZ (fun v397 hz397 w4 => ?_)) (fun _ _ _ h => h.elim)
      refine g_if_eq hF 411 d_X14_statement_400 (by decide) rfl (fun c => ?_) (fun c => ?_)
      · have w5 := w4.1 c
        refine g_aload_n hF d_X14_statement_411 rfl 0 rfl ?_
        refine g_bipush hF (v := 27) d_X14_statement_412 (by decide) ?_
        refine g_callV (As := [.int 27]) (rest := []) hF (fun l D cy => (ct_is a r hcap w5) l D cy) (Nat.add_le_add_right (Nat.le_trans (Nat.le_of_ble_eq_true rfl) hdK) 1) mV_X14_is m_2289 (recv_ob obM_0) rfl rfl (Nat.le_of_ble_eq_true rfl) d_X14_statement_414 (krZ (fun v414 hz414 w6 => ?_)) (fun _ _ _ h => h.elim)
        obtain ⟨J424, h424, w7⟩ := w6
        have b424 : ∀ (s424 t424 : St) (z424 : List Nat), J424 s424 t424 z424 → G SM r X s424 t424 z424 [(0, .ref (r 0))] [] 424 := by
          intro s424 t424 z424  w424_
          have w424_ := h424 s424 t424 z424  w424_
          refine g_aload_n hF d_X14_statement_424 rfl 0 rfl ?_
          refine g_bipush hF (v := 27) d_X14_statement_425 (by decide) ?_
          refine g_cap (fun hc7 => ?_)
          refine g_callV (As := [.int 27]) (rest := []) hF (fun l D cy => (ct_expect a r hc7 w424_) l D cy) (Nat.add_le_add_right (Nat.le_trans (Nat.le_of_ble_eq_true rfl) hdK) 1) mV_X14_expect m_2285 (recv_ob obM_0) rfl rfl (Nat.le_of_ble_eq_true rfl) d_X14_statement_427 (kV (fun s427 t427 z427 w9 => ?_)) (fun σ9 τ9 vs9 h9 => g_out hF stopM rfl h9)
          exact g_vret hF rfl d_X14_statement_430 ⟨rfl, w9⟩
        refine g_if_ne hF 424 d_X14_statement_417 (by decide) rfl (fun c => ?_) (fun c => ?_)
        · have w10 := w7.1 c
          exact g_sub (L' := [(0, .ref (r 0))]) [0] rfl (b424 σ τ vs w10)
        · have w11 := w7.2 c
          refine g_aload_n hF d_X14_statement_420 rfl 0 rfl ?_
          refine g_callV (As := []) (rest := []) hF (fun l D cy => (ct_plain a r hcap w11) l D cy) (Nat.add_le_add_right (Nat.le_trans (Nat.le_of_ble_eq_true rfl) hdK) 1) mV_X14_plain m_2616 (recv_ob obM_0) rfl rfl (Nat.le_of_ble_eq_true rfl) d_X14_statement_421 (kV (fun s421 t421 z421 w12 => ?_)) (fun σ9 τ9 vs9 h9 => g_out hF stopM rfl h9)
          exact g_sub (L' := [(0, .ref (r 0))]) [0] rfl (b424 s421 t421 z421 w12)
      · have w13 := w4.2 c
        refine g_aload_n hF d_X14_statement_403 rfl 0 rfl ?_
        refine g_iload_n hF d_X14_statement_404 rfl 1 rfl ?_
        refine g_callV (As := [.int a1]) (rest := []) hF (fun l D cy => (hKblock hcap w13) l D cy) (Nat.le_refl _) mV_X14_block m_2628 (recv_ob obM_0) rfl rfl (Nat.le_of_ble_eq_true rfl) d_X14_statement_405 (kV (fun s405 t405 z405 w14 => ?_)) (fun σ9 τ9 vs9 h9 => g_out hF stopM rfl h9)
        refine g_goto hF 430 d_X14_statement_408 (by decide) ?_
        exact g_vret hF rfl d_X14_statement_430 ⟨rfl, w14⟩
    obtain ⟨J282, h282, w15⟩ := w3
    have b282 : J282  → G SM r X σ τ vs [(0, .ref (r 0)), (2, .int (σ 0 10))] [] 282 := by
      intro   w282_
      have w282_ := h282   w282_
      refine g_aload_n hF d_X14_statement_282 rfl 0 rfl ?_
      refine g_get (v := .ref (r 2)) hF 3 obM_0 (by decide) m_1868 rfl d_X14_statement_283 ?_
      refine g_aload_n hF d_X14_statement_286 rfl 0 rfl ?_
      refine g_get (v := .int (σ 0 10)) hF 10 obM_0 (by decide) m_1875 rfl d_X14_statement_287 ?_
      have w16 := w282_.2
      refine g_iald hF arM_2 (s_in (Nat.le_of_ble_eq_true rfl) w282_.1.1 w282_.1.2) d_X14_statement_290 ?_
      refine g_top (v := (σ 2 (σ 0 10).toNatClampNeg)) rfl ?_
      refine g_bipush hF (v := 14) d_X14_statement_291 (by decide) ?_
      obtain ⟨J301, h301, w17⟩ := w16
      have b301 : ∀ (y0_301 : Int32), y0_301 = 0 ∨ y0_301 = 1 → J301 y0_301 → G SM r X σ τ vs [(0, .ref (r 0)), (2, .int (σ 0 10))] [.int y0_301] 301 := by
        intro y0_301 hy0_301 w301_
        have w301_ := h301 y0_301 hy0_301 w301_
        refine g_istore_n hF [(3, .int y0_301), (0, .ref (r 0)), (2, .int (σ 0 10))] d_X14_statement_301 rfl hnn (by decide) rfl ?_
        refine g_aload_n hF d_X14_statement_302 rfl 1 rfl ?_
        refine g_dup hF d_X14_statement_303 rfl ?_
        refine g_get (v := .int (σ 0 10)) hF 10 obM_0 (by decide) m_1875 rfl d_X14_statement_304 ?_
        refine g_iconst hF (v := 1) d_X14_statement_307 (by decide) ?_
        refine g_iadd hF d_X14_statement_308 ?_
        refine g_put (v := ((σ 0 10) + (1 : Int32))) hF 10 obM_0 (by decide) m_1875 rfl rfl rfl d_X14_statement_309 ?_
        refine g_aload_n hF d_X14_statement_312 rfl 1 rfl ?_
        refine g_bipush hF (v := 27) d_X14_statement_313 (by decide) ?_
        refine g_callV (As := [.int 27]) (rest := []) hF (fun l D cy => (ct_expect a r hcap w301_) l D cy) (Nat.add_le_add_right (Nat.le_trans (Nat.le_of_ble_eq_true rfl) hdK) 1) mV_X14_expect m_2285 (recv_ob obM_0) rfl rfl (Nat.le_of_ble_eq_true rfl) d_X14_statement_315 (kV (fun s315 t315 z315 w18 => ?_)) (fun σ9 τ9 vs9 h9 => g_out hF stopM rfl h9)
        refine g_aload_n hF d_X14_statement_318 rfl 1 rfl ?_
        refine g_aload_n hF d_X14_statement_319 rfl 1 rfl ?_
        refine g_get (v := .int (s315 0 57)) hF 57 obM_0 (by decide) m_1922 rfl d_X14_statement_320 ?_
        obtain ⟨J331, h331, w19⟩ := w18
        have b331 : ∀ (y1_331 : Int32), y1_331 = 0 ∨ y1_331 = 1 → J331 y1_331 → G SM r X s315 t315 z315 [(0, .ref (r 0)), (2, .int (σ 0 10)), (3, .int y0_301)] [.int y1_331, .ref (r 0)] 331 := by
          intro y1_331 hy1_331 w331_
          have w331_ := h331 y1_331 hy1_331 w331_
          refine g_iload_n hF d_X14_statement_331 rfl 1 rfl ?_
          refine g_cap (fun hc19 => ?_)
          refine g_callV (As := [.int y1_331, .int (σ 0 10)]) (rest := []) hF (fun l D cy => (ct_must a r hc19 w331_) l D cy) (Nat.add_le_add_right (Nat.le_trans (Nat.le_of_ble_eq_true rfl) hdK) 1) mV_X14_must m_2313 (recv_ob obM_0) rfl rfl (Nat.le_of_ble_eq_true rfl) d_X14_statement_332 (kV (fun s332 t332 z332 w21 => ?_)) (fun _ _ _ h => h.elim)
          refine g_aload_n hF d_X14_statement_335 rfl 0 rfl ?_
          refine g_bipush hF (v := 15) d_X14_statement_336 (by decide) ?_
          refine g_iload_n hF d_X14_statement_338 rfl 2 rfl ?_
          obtain ⟨J353, h353, w22⟩ := w21
          have b353 : ∀ (y2_353 : Int32), J353 y2_353 → G SM r X s332 t332 z332 [(0, .ref (r 0)), (3, .int y0_301)] [.int y2_353, .int 15, .ref (r 0)] 353 := by
            intro y2_353  w353_
            have w353_ := h353 y2_353  w353_
            refine g_cap (fun hc22 => ?_)
            refine g_callV (As := [.int 15, .int y2_353]) (rest := []) hF (fun l D cy => (ct_put_1 a r hc22 w353_) l D cy) (Nat.add_le_add_right (Nat.le_trans (Nat.le_of_ble_eq_true rfl) hdK) 1) mV_X14_put_1 m_2433 (recv_ob obM_0) rfl rfl (Nat.le_of_ble_eq_true rfl) d_X14_statement_353 (kV (fun s353 t353 z353 w24 => ?_)) (fun _ _ _ h => h.elim)
            refine g_iload_n hF d_X14_statement_356 rfl 1 rfl ?_
            refine g_if_eq hF 373 d_X14_statement_357 (by decide) rfl (fun c => ?_) (fun c => ?_)
            · have w25 := w24.1 c
              refine g_aload_n hF d_X14_statement_373 rfl 0 rfl ?_
              refine g_aload_n hF d_X14_statement_374 rfl 0 rfl ?_
              refine g_get (v := .int (s353 0 17)) hF 17 obM_0 (by decide) m_1882 rfl d_X14_statement_375 ?_
              refine g_iconst hF (v := 1) d_X14_statement_378 (by decide) ?_
              refine g_isub hF d_X14_statement_379 ?_
              refine g_put (v := ((s353 0 17) - (1 : Int32))) hF 59 obM_0 (by decide) m_1924 rfl rfl rfl d_X14_statement_380 ?_
              refine g_goto hF 430 d_X14_statement_383 (by decide) ?_
              exact g_vret hF rfl d_X14_statement_430 ⟨rfl, w25⟩
            · have w26 := w24.2 c
              refine g_aload_n hF d_X14_statement_360 rfl 0 rfl ?_
              refine g_aload_n hF d_X14_statement_361 rfl 0 rfl ?_
              refine g_get (v := .int (s353 0 17)) hF 17 obM_0 (by decide) m_1882 rfl d_X14_statement_362 ?_
              refine g_iconst hF (v := 1) d_X14_statement_365 (by decide) ?_
              refine g_isub hF d_X14_statement_366 ?_
              refine g_put (v := ((s353 0 17) - (1 : Int32))) hF 58 obM_0 (by decide) m_1923 rfl rfl rfl d_X14_statement_367 ?_
              refine g_goto hF 430 d_X14_statement_370 (by decide) ?_
              exact g_vret hF rfl d_X14_statement_430 ⟨rfl, w26⟩
          refine g_if_eq hF 349 d_X14_statement_339 (by decide) rfl (fun c => ?_) (fun c => ?_)
          · have w27 := w22.1 c
            refine g_aload_n hF d_X14_statement_349 rfl 0 rfl ?_
            refine g_get (v := .int (s332 0 59)) hF 59 obM_0 (by decide) m_1924 rfl d_X14_statement_350 ?_
            exact g_sub (L' := [(0, .ref (r 0)), (3, .int y0_301)]) [0, 2] rfl (b353 (s332 0 59) w27)
          · have w28 := w22.2 c
            refine g_aload_n hF d_X14_statement_342 rfl 0 rfl ?_
            refine g_get (v := .int (s332 0 58)) hF 58 obM_0 (by decide) m_1923 rfl d_X14_statement_343 ?_
            refine g_goto hF 353 d_X14_statement_346 (by decide) ?_
            exact g_sub (L' := [(0, .ref (r 0)), (3, .int y0_301)]) [0, 2] rfl (b353 (s332 0 58) w28)
        refine g_if_le hF 330 d_X14_statement_323 (by decide) rfl (fun c => ?_) (fun c => ?_)
        · have w29 := w19.1 c
          refine g_iconst hF (v := 0) d_X14_statement_330 (by decide) ?_
          exact g_sub (L' := [(0, .ref (r 0)), (2, .int (σ 0 10)), (3, .int y0_301)]) [1, 2, 0] rfl (b331 (0 : Int32) (Or.inl rfl) w29)
        · have w30 := w19.2 c
          refine g_iconst hF (v := 1) d_X14_statement_326 (by decide) ?_
          refine g_goto hF 331 d_X14_statement_327 (by decide) ?_
          exact g_sub (L' := [(0, .ref (r 0)), (2, .int (σ 0 10)), (3, .int y0_301)]) [1, 2, 0] rfl (b331 (1 : Int32) (Or.inr rfl) w30)
      refine g_icmp_ne (yv := 14) hF 300 d_X14_statement_293 (by decide) rfl (by decide) (fun c => ?_) (fun c => ?_)
      · have w31 := w17.1 c
        refine g_iconst hF (v := 0) d_X14_statement_300 (by decide) ?_
        exact b301 (0 : Int32) (Or.inl rfl) w31
      · have w32 := w17.2 c
        refine g_iconst hF (v := 1) d_X14_statement_296 (by decide) ?_
        refine g_goto hF 301 d_X14_statement_297 (by decide) ?_
        exact b301 (1 : Int32) (Or.inr rfl) w32
    refine (Decidable.em ((σ 2 (σ 0 10).toNatClampNeg).toInt = 5)).elim (fun q25_0 => ?_) (fun q25_0 => ?_)
    · have w33 := w15.1 q25_0
      refine g_tableIn (off := 63) hF 88 d_X14_statement_25 q25_0 (by decide) (by decide) (by decide +kernel) (by decide) ?_
      refine g_aload_n hF d_X14_statement_88 rfl 1 rfl ?_
      refine g_dup hF d_X14_statement_89 rfl ?_
      refine g_get (v := .int (σ 0 10)) hF 10 obM_0 (by decide) m_1875 rfl d_X14_statement_90 ?_
      refine g_iconst hF (v := 1) d_X14_statement_93 (by decide) ?_
      refine g_iadd hF d_X14_statement_94 ?_
      refine g_put (v := ((σ 0 10) + (1 : Int32))) hF 10 obM_0 (by decide) m_1875 rfl rfl rfl d_X14_statement_95 ?_
      refine g_aload_n hF d_X14_statement_98 rfl 1 rfl ?_
      refine g_iconst hF (v := 0) d_X14_statement_99 (by decide) ?_
      refine g_iconst hF (v := 0) d_X14_statement_100 (by decide) ?_
      refine g_iconst hF (v := 1) d_X14_statement_101 (by decide) ?_
      refine g_callV (As := [.int 0, .int 0, .int 1]) (rest := []) hF (fun l D cy => (ct_variables a r hcap w33) l D cy) (Nat.add_le_add_right (Nat.le_trans (Nat.le_of_ble_eq_true rfl) hdK) 1) mV_X14_variables m_2349 (recv_ob obM_0) rfl rfl (Nat.le_of_ble_eq_true rfl) d_X14_statement_102 (kV (fun s102 t102 z102 w34 => ?_)) (fun σ9 τ9 vs9 h9 => g_out hF stopM rfl h9)
      refine g_goto hF 430 d_X14_statement_105 (by decide) ?_
      exact g_vret hF rfl d_X14_statement_430 ⟨rfl, w34⟩
    have w35 := w15.2 q25_0
    refine (Decidable.em ((σ 2 (σ 0 10).toNatClampNeg).toInt = 6)).elim (fun q25_1 => ?_) (fun q25_1 => ?_)
    · have w36 := w35.1 q25_1
      refine g_tableIn (off := 369) hF 394 d_X14_statement_25 q25_1 (by decide) (by decide) (by decide +kernel) (by decide) ?_
      exact g_sub (L' := [(0, .ref (r 0)), (1, .int a1)]) [1, 2] rfl (b394  w36)
    have w37 := w35.2 q25_1
    refine (Decidable.em ((σ 2 (σ 0 10).toNatClampNeg).toInt = 7)).elim (fun q25_2 => ?_) (fun q25_2 => ?_)
    · have w38 := w37.1 q25_2
      refine g_tableIn (off := 369) hF 394 d_X14_statement_25 q25_2 (by decide) (by decide) (by decide +kernel) (by decide) ?_
      exact g_sub (L' := [(0, .ref (r 0)), (1, .int a1)]) [1, 2] rfl (b394  w38)
    have w39 := w37.2 q25_2
    refine (Decidable.em ((σ 2 (σ 0 10).toNatClampNeg).toInt = 8)).elim (fun q25_3 => ?_) (fun q25_3 => ?_)
    · have w40 := w39.1 q25_3
      refine g_tableIn (off := 369) hF 394 d_X14_statement_25 q25_3 (by decide) (by decide) (by decide +kernel) (by decide) ?_
      exact g_sub (L' := [(0, .ref (r 0)), (1, .int a1)]) [1, 2] rfl (b394  w40)
    have w41 := w39.2 q25_3
    refine (Decidable.em ((σ 2 (σ 0 10).toNatClampNeg).toInt = 9)).elim (fun q25_4 => ?_) (fun q25_4 => ?_)
    · have w42 := w41.1 q25_4
      refine g_tableIn (off := 83) hF 108 d_X14_statement_25 q25_4 (by decide) (by decide) (by decide +kernel) (by decide) ?_
      refine g_aload_n hF d_X14_statement_108 rfl 1 rfl ?_
      refine g_dup hF d_X14_statement_109 rfl ?_
      refine g_get (v := .int (σ 0 10)) hF 10 obM_0 (by decide) m_1875 rfl d_X14_statement_110 ?_
      refine g_iconst hF (v := 1) d_X14_statement_113 (by decide) ?_
      refine g_iadd hF d_X14_statement_114 ?_
      refine g_put (v := ((σ 0 10) + (1 : Int32))) hF 10 obM_0 (by decide) m_1875 rfl rfl rfl d_X14_statement_115 ?_
      refine g_aload_n hF d_X14_statement_118 rfl 1 rfl ?_
      refine g_iload_n hF d_X14_statement_119 rfl 0 rfl ?_
      refine g_callV (As := [.int (σ 0 10)]) (rest := []) hF (fun l D cy => (ct_condition a r hcap w42) l D cy) (Nat.add_le_add_right (Nat.le_trans (Nat.le_of_ble_eq_true rfl) hdK) 1) mV_X14_condition m_2588 (recv_ob obM_0) rfl rfl (Nat.le_of_ble_eq_true rfl) d_X14_statement_120 (kV (fun s120 t120 z120 w43 => ?_)) (fun σ9 τ9 vs9 h9 => g_out hF stopM rfl h9)
      refine g_aload_n hF d_X14_statement_123 rfl 1 rfl ?_
      refine g_bipush hF (v := 16) d_X14_statement_124 (by decide) ?_
      refine g_cap (fun hc43 => ?_)
      refine g_callV (As := [.int 16]) (rest := []) hF (fun l D cy => (ct_open a r hc43 w43) l D cy) (Nat.add_le_add_right (Nat.le_trans (Nat.le_of_ble_eq_true rfl) hdK) 1) mV_X14_open m_2520 (recv_ob obM_0) rfl rfl (Nat.le_of_ble_eq_true rfl) d_X14_statement_126 (kI (fun v126 s126 t126 z126 w45 => ?_)) (fun _ _ _ h => h.elim)
      refine g_istore_n hF [(3, .int v126), (2, .int (σ 0 10)), (0, .ref (r 0)), (1, .int a1)] d_X14_statement_129 rfl hnn (by decide) rfl ?_
      refine g_aload_n hF d_X14_statement_130 rfl 2 rfl ?_
      refine g_iload_n hF d_X14_statement_131 rfl 3 rfl ?_
      refine g_cap (fun hc45 => ?_)
      refine g_callV (As := [.int a1]) (rest := []) hF (fun l D cy => (hKinner hc45 w45) l D cy) (Nat.le_refl _) mV_X14_inner m_2592 (recv_ob obM_0) rfl rfl (Nat.le_of_ble_eq_true rfl) d_X14_statement_132 (kV (fun s132 t132 z132 w47 => ?_)) (fun σ9 τ9 vs9 h9 => g_out hF stopM rfl h9)
      refine g_aload_n hF d_X14_statement_135 rfl 2 rfl ?_
      refine g_bipush hF (v := 10) d_X14_statement_136 (by decide) ?_
      refine g_cap (fun hc47 => ?_)
      refine g_callV (As := [.int 10]) (rest := []) hF (fun l D cy => (ct_isWord a r hc47 w47) l D cy) (Nat.add_le_add_right (Nat.le_trans (Nat.le_of_ble_eq_true rfl) hdK) 1) mV_X14_isWord m_2273 (recv_ob obM_0) rfl rfl (Nat.le_of_ble_eq_true rfl) d_X14_statement_138 (krZ (fun v138 hz138 w49 => ?_)) (fun _ _ _ h => h.elim)
      refine g_if_ne hF 152 d_X14_statement_141 (by decide) rfl (fun c => ?_) (fun c => ?_)
      · have w50 := w49.1 c
        refine g_aload_n hF d_X14_statement_152 rfl 2 rfl ?_
        refine g_dup hF d_X14_statement_153 rfl ?_
        refine g_get (v := .int (s132 0 10)) hF 10 obM_0 (by decide) m_1875 rfl d_X14_statement_154 ?_
        refine g_iconst hF (v := 1) d_X14_statement_157 (by decide) ?_
        refine g_iadd hF d_X14_statement_158 ?_
        refine g_put (v := ((s132 0 10) + (1 : Int32))) hF 10 obM_0 (by decide) m_1875 rfl rfl rfl d_X14_statement_159 ?_
        refine g_aload_n hF d_X14_statement_162 rfl 2 rfl ?_
        refine g_bipush hF (v := 15) d_X14_statement_163 (by decide) ?_
        refine g_callV (As := [.int 15]) (rest := []) hF (fun l D cy => (ct_open a r hc47 w50) l D cy) (Nat.add_le_add_right (Nat.le_trans (Nat.le_of_ble_eq_true rfl) hdK) 1) mV_X14_open m_2520 (recv_ob obM_0) rfl rfl (Nat.le_of_ble_eq_true rfl) d_X14_statement_165 (kI (fun v165 s165 t165 z165 w51 => ?_)) (fun _ _ _ h => h.elim)
        refine g_istore hF [(4, .int v165), (3, .int v126), (2, .int (σ 0 10)), (0, .ref (r 0)), (1, .int a1)] d_X14_statement_168 hnn (by decide) rfl ?_
        refine g_aload_n hF d_X14_statement_170 rfl 3 rfl ?_
        refine g_iload_n hF d_X14_statement_171 rfl 1 rfl ?_
        refine g_cap (fun hc51 => ?_)
        refine g_callV (As := [.int v126]) (rest := []) hF (fun l D cy => (ct_aim a r hc51 w51) l D cy) (Nat.add_le_add_right (Nat.le_trans (Nat.le_of_ble_eq_true rfl) hdK) 1) mV_X14_aim m_2524 (recv_ob obM_0) rfl rfl (Nat.le_of_ble_eq_true rfl) d_X14_statement_172 (kV (fun s172 t172 z172 w53 => ?_)) (fun _ _ _ h => h.elim)
        refine g_aload_n hF d_X14_statement_175 rfl 3 rfl ?_
        refine g_iload_n hF d_X14_statement_176 rfl 4 rfl ?_
        refine g_cap (fun hc53 => ?_)
        refine g_callV (As := [.int a1]) (rest := []) hF (fun l D cy => (hKinner hc53 w53) l D cy) (Nat.le_refl _) mV_X14_inner m_2592 (recv_ob obM_0) rfl rfl (Nat.le_of_ble_eq_true rfl) d_X14_statement_177 (kV (fun s177 t177 z177 w55 => ?_)) (fun σ9 τ9 vs9 h9 => g_out hF stopM rfl h9)
        refine g_aload_n hF d_X14_statement_180 rfl 3 rfl ?_
        refine g_iload hF d_X14_statement_181 0 rfl ?_
        refine g_cap (fun hc55 => ?_)
        refine g_callV (As := [.int v165]) (rest := []) hF (fun l D cy => (ct_aim a r hc55 w55) l D cy) (Nat.add_le_add_right (Nat.le_trans (Nat.le_of_ble_eq_true rfl) hdK) 1) mV_X14_aim m_2524 (recv_ob obM_0) rfl rfl (Nat.le_of_ble_eq_true rfl) d_X14_statement_183 (kV (fun s183 t183 z183 w57 => ?_)) (fun _ _ _ h => h.elim)
        refine g_goto hF 430 d_X14_statement_186 (by decide) ?_
        exact g_vret hF rfl d_X14_statement_430 ⟨rfl, w57⟩
      · have w58 := w49.2 c
        refine g_aload_n hF d_X14_statement_144 rfl 2 rfl ?_
        refine g_iload_n hF d_X14_statement_145 rfl 0 rfl ?_
        refine g_callV (As := [.int v126]) (rest := []) hF (fun l D cy => (ct_aim a r hc47 w58) l D cy) (Nat.add_le_add_right (Nat.le_trans (Nat.le_of_ble_eq_true rfl) hdK) 1) mV_X14_aim m_2524 (recv_ob obM_0) rfl rfl (Nat.le_of_ble_eq_true rfl) d_X14_statement_146 (kV (fun s146 t146 z146 w59 => ?_)) (fun _ _ _ h => h.elim)
        refine g_goto hF 430 d_X14_statement_149 (by decide) ?_
        exact g_vret hF rfl d_X14_statement_430 ⟨rfl, w59⟩
    have w60 := w41.2 q25_4
    refine (Decidable.em ((σ 2 (σ 0 10).toNatClampNeg).toInt = 10)).elim (fun q25_5 => ?_) (fun q25_5 => ?_)
    · have w61 := w60.1 q25_5
      refine g_tableIn (off := 369) hF 394 d_X14_statement_25 q25_5 (by decide) (by decide) (by decide +kernel) (by decide) ?_
      exact g_sub (L' := [(0, .ref (r 0)), (1, .int a1)]) [1, 2] rfl (b394  w61)
    have w62 := w60.2 q25_5
    refine (Decidable.em ((σ 2 (σ 0 10).toNatClampNeg).toInt = 11)).elim (fun q25_6 => ?_) (fun q25_6 => ?_)
    · have w63 := w62.1 q25_6
      refine g_tableIn (off := 164) hF 189 d_X14_statement_25 q25_6 (by decide) (by decide) (by decide +kernel) (by decide) ?_
      refine g_aload_n hF d_X14_statement_189 rfl 1 rfl ?_
      refine g_dup hF d_X14_statement_190 rfl ?_
      refine g_get (v := .int (σ 0 10)) hF 10 obM_0 (by decide) m_1875 rfl d_X14_statement_191 ?_
      refine g_iconst hF (v := 1) d_X14_statement_194 (by decide) ?_
      refine g_iadd hF d_X14_statement_195 ?_
      refine g_put (v := ((σ 0 10) + (1 : Int32))) hF 10 obM_0 (by decide) m_1875 rfl rfl rfl d_X14_statement_196 ?_
      refine g_aload_n hF d_X14_statement_199 rfl 1 rfl ?_
      refine g_get (v := .int (σ 0 17)) hF 17 obM_0 (by decide) m_1882 rfl d_X14_statement_200 ?_
      refine g_istore_n hF [(3, .int (σ 0 17)), (2, .int (σ 0 10)), (0, .ref (r 0)), (1, .int a1)] d_X14_statement_203 rfl hnn (by decide) rfl ?_
      refine g_aload_n hF d_X14_statement_204 rfl 2 rfl ?_
      refine g_iload_n hF d_X14_statement_205 rfl 1 rfl ?_
      refine g_callV (As := [.int (σ 0 10)]) (rest := []) hF (fun l D cy => (ct_condition a r hcap w63) l D cy) (Nat.add_le_add_right (Nat.le_trans (Nat.le_of_ble_eq_true rfl) hdK) 1) mV_X14_condition m_2588 (recv_ob obM_0) rfl rfl (Nat.le_of_ble_eq_true rfl) d_X14_statement_206 (kV (fun s206 t206 z206 w64 => ?_)) (fun σ9 τ9 vs9 h9 => g_out hF stopM rfl h9)
      refine g_aload_n hF d_X14_statement_209 rfl 2 rfl ?_
      refine g_bipush hF (v := 16) d_X14_statement_210 (by decide) ?_
      refine g_cap (fun hc64 => ?_)
      refine g_callV (As := [.int 16]) (rest := []) hF (fun l D cy => (ct_open a r hc64 w64) l D cy) (Nat.add_le_add_right (Nat.le_trans (Nat.le_of_ble_eq_true rfl) hdK) 1) mV_X14_open m_2520 (recv_ob obM_0) rfl rfl (Nat.le_of_ble_eq_true rfl) d_X14_statement_212 (kI (fun v212 s212 t212 z212 w66 => ?_)) (fun _ _ _ h => h.elim)
      refine g_istore hF [(4, .int v212), (3, .int (σ 0 17)), (2, .int (σ 0 10)), (0, .ref (r 0)), (1, .int a1)] d_X14_statement_215 hnn (by decide) rfl ?_
      refine g_aload_n hF d_X14_statement_217 rfl 3 rfl ?_
      refine g_iload_n hF d_X14_statement_218 rfl 4 rfl ?_
      refine g_iload_n hF d_X14_statement_219 rfl 2 rfl ?_
      refine g_iload_n hF d_X14_statement_220 rfl 1 rfl ?_
      refine g_cap (fun hc66 => ?_)
      refine g_callV (As := [.int a1, .int (σ 0 10), .int (σ 0 17)]) (rest := []) hF (fun l D cy => (hKloop hc66 w66) l D cy) (Nat.le_refl _) mV_X14_loop m_2600 (recv_ob obM_0) rfl rfl (Nat.le_of_ble_eq_true rfl) d_X14_statement_221 (kV (fun s221 t221 z221 w68 => ?_)) (fun σ9 τ9 vs9 h9 => g_out hF stopM rfl h9)
      refine g_aload_n hF d_X14_statement_224 rfl 3 rfl ?_
      refine g_get (v := .int (s221 0 58)) hF 58 obM_0 (by decide) m_1923 rfl d_X14_statement_225 ?_
      refine g_istore hF [(5, .int (s221 0 58)), (4, .int v212), (3, .int (σ 0 17)), (2, .int (σ 0 10)), (0, .ref (r 0)), (1, .int a1)] d_X14_statement_228 hnn (by decide) rfl ?_
      refine g_aload_n hF d_X14_statement_230 rfl 4 rfl ?_
      refine g_aload_n hF d_X14_statement_231 rfl 4 rfl ?_
      refine g_get (v := .int (s221 0 60)) hF 60 obM_0 (by decide) m_1925 rfl d_X14_statement_232 ?_
      refine g_put (v := (s221 0 60)) hF 58 obM_0 (by decide) m_1923 rfl rfl rfl d_X14_statement_235 ?_
      refine g_aload_n hF d_X14_statement_238 rfl 4 rfl ?_
      refine g_bipush hF (v := 15) d_X14_statement_239 (by decide) ?_
      refine g_iload_n hF d_X14_statement_241 rfl 2 rfl ?_
      refine g_cap (fun hc68 => ?_)
      refine g_callV (As := [.int 15, .int (σ 0 17)]) (rest := []) hF (fun l D cy => (ct_put_1 a r hc68 w68) l D cy) (Nat.add_le_add_right (Nat.le_trans (Nat.le_of_ble_eq_true rfl) hdK) 1) mV_X14_put_1 m_2433 (recv_ob obM_0) rfl rfl (Nat.le_of_ble_eq_true rfl) d_X14_statement_242 (kV (fun s242 t242 z242 w70 => ?_)) (fun _ _ _ h => h.elim)
      refine g_aload_n hF d_X14_statement_245 rfl 4 rfl ?_
      refine g_iload hF d_X14_statement_246 1 rfl ?_
      refine g_cap (fun hc70 => ?_)
      refine g_callV (As := [.int v212]) (rest := []) hF (fun l D cy => (ct_aim a r hc70 w70) l D cy) (Nat.add_le_add_right (Nat.le_trans (Nat.le_of_ble_eq_true rfl) hdK) 1) mV_X14_aim m_2524 (recv_ob obM_0) rfl rfl (Nat.le_of_ble_eq_true rfl) d_X14_statement_248 (kV (fun s248 t248 z248 w72 => ?_)) (fun _ _ _ h => h.elim)
      refine g_aload_n hF d_X14_statement_251 rfl 4 rfl ?_
      refine g_iload hF d_X14_statement_252 0 rfl ?_
      refine g_aload_n hF d_X14_statement_254 rfl 4 rfl ?_
      refine g_get (v := .int (s248 0 17)) hF 17 obM_0 (by decide) m_1882 rfl d_X14_statement_255 ?_
      refine g_cap (fun hc72 => ?_)
      refine g_callV (As := [.int (s221 0 58), .int (s248 0 17)]) (rest := []) hF (fun l D cy => (ct_aimAll a r hc72 w72) l D cy) (Nat.add_le_add_right (Nat.le_trans (Nat.le_of_ble_eq_true rfl) hdK) 1) mV_X14_aimAll m_2604 (recv_ob obM_0) rfl rfl (Nat.le_of_ble_eq_true rfl) d_X14_statement_258 (kV (fun s258 t258 z258 w74 => ?_)) (fun _ _ _ h => h.elim)
      refine g_goto hF 430 d_X14_statement_261 (by decide) ?_
      exact g_vret hF rfl d_X14_statement_430 ⟨rfl, w74⟩
    have w75 := w62.2 q25_6
    refine (Decidable.em ((σ 2 (σ 0 10).toNatClampNeg).toInt = 12)).elim (fun q25_7 => ?_) (fun q25_7 => ?_)
    · have w76 := w75.1 q25_7
      refine g_tableIn (off := 239) hF 264 d_X14_statement_25 q25_7 (by decide) (by decide) (by decide +kernel) (by decide) ?_
      refine g_aload_n hF d_X14_statement_264 rfl 1 rfl ?_
      refine g_iload_n hF d_X14_statement_265 rfl 2 rfl ?_
      refine g_iload_n hF d_X14_statement_266 rfl 0 rfl ?_
      refine g_callV (As := [.int a1, .int (σ 0 10)]) (rest := []) hF (fun l D cy => (hKdoStatement hcap w76) l D cy) (Nat.le_refl _) mV_X14_doStatement m_2608 (recv_ob obM_0) rfl rfl (Nat.le_of_ble_eq_true rfl) d_X14_statement_267 (kV (fun s267 t267 z267 w77 => ?_)) (fun σ9 τ9 vs9 h9 => g_out hF stopM rfl h9)
      refine g_goto hF 430 d_X14_statement_270 (by decide) ?_
      exact g_vret hF rfl d_X14_statement_430 ⟨rfl, w77⟩
    have w78 := w75.2 q25_7
    refine (Decidable.em ((σ 2 (σ 0 10).toNatClampNeg).toInt = 13)).elim (fun q25_8 => ?_) (fun q25_8 => ?_)
    · have w79 := w78.1 q25_8
      refine g_tableIn (off := 248) hF 273 d_X14_statement_25 q25_8 (by decide) (by decide) (by decide +kernel) (by decide) ?_
      refine g_aload_n hF d_X14_statement_273 rfl 1 rfl ?_
      refine g_iload_n hF d_X14_statement_274 rfl 2 rfl ?_
      refine g_iload_n hF d_X14_statement_275 rfl 0 rfl ?_
      refine g_callV (As := [.int a1, .int (σ 0 10)]) (rest := []) hF (fun l D cy => (hKforStatement hcap w79) l D cy) (Nat.le_refl _) mV_X14_forStatement m_2612 (recv_ob obM_0) rfl rfl (Nat.le_of_ble_eq_true rfl) d_X14_statement_276 (kV (fun s276 t276 z276 w80 => ?_)) (fun σ9 τ9 vs9 h9 => g_out hF stopM rfl h9)
      refine g_goto hF 430 d_X14_statement_279 (by decide) ?_
      exact g_vret hF rfl d_X14_statement_430 ⟨rfl, w80⟩
    have w81 := w78.2 q25_8
    refine (Decidable.em ((σ 2 (σ 0 10).toNatClampNeg).toInt = 14)).elim (fun q25_9 => ?_) (fun q25_9 => ?_)
    · have w82 := w81.1 q25_9
      refine g_tableIn (off := 257) hF 282 d_X14_statement_25 q25_9 (by decide) (by decide) (by decide +kernel) (by decide) ?_
      exact g_sub (L' := [(0, .ref (r 0)), (2, .int (σ 0 10))]) [1, 0] rfl (b282  w82)
    have w83 := w81.2 q25_9
    refine (Decidable.em ((σ 2 (σ 0 10).toNatClampNeg).toInt = 15)).elim (fun q25_10 => ?_) (fun q25_10 => ?_)
    · have w84 := w83.1 q25_10
      refine g_tableIn (off := 257) hF 282 d_X14_statement_25 q25_10 (by decide) (by decide) (by decide +kernel) (by decide) ?_
      exact g_sub (L' := [(0, .ref (r 0)), (2, .int (σ 0 10))]) [1, 0] rfl (b282  w84)
    have w85 := w83.2 q25_10
    refine (Decidable.em ((σ 2 (σ 0 10).toNatClampNeg).toInt = 16)).elim (fun q25_11 => ?_) (fun q25_11 => ?_)
    · have w86 := w85.1 q25_11
      refine g_tableIn (off := 361) hF 386 d_X14_statement_25 q25_11 (by decide) (by decide) (by decide +kernel) (by decide) ?_
      refine g_aload_n hF d_X14_statement_386 rfl 1 rfl ?_
      refine g_iload_n hF d_X14_statement_387 rfl 0 rfl ?_
      refine g_callV (As := [.int (σ 0 10)]) (rest := []) hF (fun l D cy => (ct_returnStatement a r hcap w86) l D cy) (Nat.add_le_add_right (Nat.le_trans (Nat.le_of_ble_eq_true rfl) hdK) 1) mV_X14_returnStatement m_2624 (recv_ob obM_0) rfl rfl (Nat.le_of_ble_eq_true rfl) d_X14_statement_388 (kV (fun s388 t388 z388 w87 => ?_)) (fun σ9 τ9 vs9 h9 => g_out hF stopM rfl h9)
      refine g_goto hF 430 d_X14_statement_391 (by decide) ?_
      exact g_vret hF rfl d_X14_statement_430 ⟨rfl, w87⟩
    have w88 := w85.2 q25_11
    refine g_tableOut hF 394 d_X14_statement_25 rfl (tbo_5_16 q25_0 q25_1 q25_2 q25_3 q25_4 q25_5 q25_6 q25_7 q25_8 q25_9 q25_10 q25_11) (by decide) ?_
    exact g_sub (L' := [(0, .ref (r 0)), (1, .int a1)]) [1, 2] rfl (b394  w88)
  · have w89 := w.2 c
    refine g_aload_n hF d_X14_statement_6 rfl 0 rfl ?_
    refine g_callV (As := []) (rest := []) hF (fun l D cy => (ct_wrong a r hcap w89) l D cy) (Nat.add_le_add_right (Nat.le_trans (Nat.le_of_ble_eq_true rfl) hdK) 1) mV_X14_wrong m_2261 (recv_ob obM_0) rfl rfl (Nat.le_of_ble_eq_true rfl) d_X14_statement_7 (kX (fun s7 t7 z7 w90 => ?_)) (fun _ _ _ h => h.elim)
    exact g_athrow hF d_X14_statement_10 (g_out hF stopM rfl w90)
