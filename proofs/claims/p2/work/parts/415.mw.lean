def wp_forStatement (Kstatement : Int32 → St → St → List Nat → (St → St → List Nat → Prop) → (St → St → List Nat → Prop) → Prop) (Kinner : Int32 → St → St → List Nat → (St → St → List Nat → Prop) → (St → St → List Nat → Prop) → Prop) (Kblock : Int32 → St → St → List Nat → (St → St → List Nat → Prop) → (St → St → List Nat → Prop) → Prop) (Kloop : Int32 → Int32 → Int32 → St → St → List Nat → (St → St → List Nat → Prop) → (St → St → List Nat → Prop) → Prop) (KdoStatement : Int32 → Int32 → St → St → List Nat → (St → St → List Nat → Prop) → (St → St → List Nat → Prop) → Prop) (KforStatement : Int32 → Int32 → St → St → List Nat → (St → St → List Nat → Prop) → (St → St → List Nat → Prop) → Prop) (a1 : Int32) (a2 : Int32) (σ τ : St) (vs : List Nat) (Q : St → St → List Nat → Prop) (T : St → St → List Nat → Prop) : Prop :=
  wp_expect (20 : Int32) (upC σ 0 10 ((σ 0 10) + (1 : Int32))) τ vs (fun s13 t13 z13 => wp_is (27 : Int32) s13 t13 z13 (fun v19 => (∃ J29 : St → St → List Nat → Prop, (∀ (s29 t29 : St) (z29 : List Nat), J29 s29 t29 z29 → (wp_expect (27 : Int32) s29 t29 z29 (fun s32 t32 z32 => wp_is (27 : Int32) s32 t32 z32 (fun v46 => (∃ J83 : Int32 → St → St → List Nat → Prop, (∀ (x4_83 : Int32) (s83 t83 : St) (z83 : List Nat), J83 x4_83 s83 t83 z83 → (wp_expect (27 : Int32) s83 t83 z83 (fun s86 t86 z86 => wp_open (15 : Int32) s86 t86 z86 (fun v92 s92 t92 z92 => wp_is (21 : Int32) s92 t92 z92 (fun v106 => (∃ J116 : St → St → List Nat → Prop, (∀ (s116 t116 : St) (z116 : List Nat), J116 s116 t116 z116 → (wp_put_1 (15 : Int32) (s32 0 17) s116 t116 z116 (fun s120 t120 z120 => wp_expect (21 : Int32) s120 t120 z120 (fun s126 t126 z126 => wp_aim v92 s126 t126 z126 (fun s132 t132 z132 => Kloop a1 a2 (s92 0 17) s132 t132 z132 (fun s140 t140 z140 => wp_put_1 (15 : Int32) (s92 0 17) (upC s140 0 58 (s140 0 60)) t140 z140 (fun s162 t162 z162 => (∃ J176 : St → St → List Nat → Prop, (∀ (s176 t176 : St) (z176 : List Nat), J176 s176 t176 z176 → (wp_aimAll (s140 0 58) (s176 0 17) s176 t176 z176 (fun s183 t183 z183 => Q s183 t183 z183))) ∧ (x4_83.toInt < 0 → J176 s162 t162 z162) ∧ (0 ≤ x4_83.toInt → wp_aim x4_83 s162 t162 z162 (fun s173 t173 z173 => J176 s173 t173 z173))))) T)) T))) ∧ (v106.toInt ≠ 0 → J116 s92 t92 z92) ∧ (v106.toInt = 0 → wp_plain s92 t92 z92 (fun s113 t113 z113 => J116 s113 t113 z113) T))))) T)) ∧ (v46.toInt ≠ 0 → J83 ((-1) : Int32) s32 t32 z32) ∧ (v46.toInt = 0 → wpE_expression (1 : Int32) s32 t32 z32 (fun u54 s54 t54 z54 => wp_read_1 u54 s54 t54 z54 (fun s62 t62 z62 => wp_isAny u54 s62 t62 z62 (fun v68 => wp_must v68 a2 s62 t62 z62 (fun s72 t72 z72 => wp_open (16 : Int32) s72 t72 z72 (fun v78 s78 t78 z78 => J83 v78 s78 t78 z78))))) T)))) T)) ∧ (v19.toInt ≠ 0 → J29 s13 t13 z13) ∧ (v19.toInt = 0 → wp_plain s13 t13 z13 (fun s26 t26 z26 => J29 s26 t26 z26) T)))) T
set_option maxHeartbeats 4000000 in
set_option maxRecDepth 100000 in
theorem ct_forStatement (a : Nat → Nat) (r : Nat → Nat) (dK : Nat) (hdK : 606 ≤ dK) (Kstatement : Int32 → St → St → List Nat → (St → St → List Nat → Prop) → (St → St → List Nat → Prop) → Prop) (Kinner : Int32 → St → St → List Nat → (St → St → List Nat → Prop) → (St → St → List Nat → Prop) → Prop) (Kblock : Int32 → St → St → List Nat → (St → St → List Nat → Prop) → (St → St → List Nat → Prop) → Prop) (Kloop : Int32 → Int32 → Int32 → St → St → List Nat → (St → St → List Nat → Prop) → (St → St → List Nat → Prop) → Prop) (KdoStatement : Int32 → Int32 → St → St → List Nat → (St → St → List Nat → Prop) → (St → St → List Nat → Prop) → Prop) (KforStatement : Int32 → Int32 → St → St → List Nat → (St → St → List Nat → Prop) → (St → St → List Nat → Prop) → Prop) (hKloop : ∀ {a1 : Int32} {a2 : Int32} {a3 : Int32} {σ τ : St} {vs : List Nat} {Q : St → St → List Nat → Prop} {T : St → St → List Nat → Prop}, vs.length ≤ CAP → Kloop a1 a2 a3 σ τ vs Q T → ∀ (l : Launch) (D : va_G) (cy : Nat → ClassId), Ct l D cy SM r (EM a) y_X14_loop (Cond.code y_X14_loop b_X14_loop 6 none) dK [.ref (r 0), .int a1, .int a2, .int a3] σ τ vs (QVs Q) T) {a1 : Int32} {a2 : Int32} {σ τ : St} {vs : List Nat} {Q : St → St → List Nat → Prop} {T : St → St → List Nat → Prop} (hcap : vs.length ≤ CAP) (w : wp_forStatement Kstatement Kinner Kblock Kloop KdoStatement KforStatement a1 a2 σ τ vs Q T) (l : Launch) (D : va_G) (cy : Nat → ClassId) : Ct l D cy SM r (EM a) y_X14_forStatement (Cond.code y_X14_forStatement b_X14_forStatement 8 none) (dK + 1) [.ref (r 0), .int a1, .int a2] σ τ vs (QVs Q) T := by
  unfold wp_forStatement at w
  refine Ct_of (EM_ok a) (by decide) (Nat.le_of_ble_eq_true rfl) hcap (fun X hnn hF => ?_)
  show G SM r X σ τ vs [(0, .ref (r 0)), (1, .int a1), (2, .int a2)] [] 0
  refine g_aload_n hF d_X14_forStatement_0 rfl 0 rfl ?_
  refine g_dup hF d_X14_forStatement_1 rfl ?_
  refine g_get (v := .int (σ 0 10)) hF 10 obM_0 (by decide) m_1875 rfl d_X14_forStatement_2 ?_
  refine g_iconst hF (v := 1) d_X14_forStatement_5 (by decide) ?_
  refine g_iadd hF d_X14_forStatement_6 ?_
  refine g_put (v := ((σ 0 10) + (1 : Int32))) hF 10 obM_0 (by decide) m_1875 rfl rfl rfl d_X14_forStatement_7 ?_
  refine g_aload_n hF d_X14_forStatement_10 rfl 0 rfl ?_
  refine g_bipush hF (v := 20) d_X14_forStatement_11 (by decide) ?_
  refine g_callV (As := [.int 20]) (rest := []) hF (fun l D cy => (ct_expect a r hcap w) l D cy) (Nat.add_le_add_right (Nat.le_trans (Nat.le_of_ble_eq_true rfl) hdK) 1) mV_X14_expect m_2285 (recv_ob obM_0) rfl rfl (Nat.le_of_ble_eq_true rfl) d_X14_forStatement_13 (kV (fun s13 t13 z13 w1 => ?_)) (fun σ9 τ9 vs9 h9 => g_out hF stopM rfl h9)
  refine g_aload_n hF d_X14_forStatement_16 rfl 0 rfl ?_
  refine g_bipush hF (v := 27) d_X14_forStatement_17 (by decide) ?_
  refine g_cap (fun hc1 => ?_)
  refine g_callV (As := [.int 27]) (rest := []) hF (fun l D cy => (ct_is a r hc1 w1) l D cy) (Nat.add_le_add_right (Nat.le_trans (Nat.le_of_ble_eq_true rfl) hdK) 1) mV_X14_is m_2289 (recv_ob obM_0) rfl rfl (Nat.le_of_ble_eq_true rfl) d_X14_forStatement_19 (krZ (fun v19 hz19 w3 => ?_)) (fun _ _ _ h => h.elim)
  obtain ⟨J29, h29, w4⟩ := w3
  have b29 : ∀ (s29 t29 : St) (z29 : List Nat), J29 s29 t29 z29 → G SM r X s29 t29 z29 [(0, .ref (r 0)), (1, .int a1), (2, .int a2)] [] 29 := by
    intro s29 t29 z29  w29_
    have w29_ := h29 s29 t29 z29  w29_
    refine g_aload_n hF d_X14_forStatement_29 rfl 0 rfl ?_
    refine g_bipush hF (v := 27) d_X14_forStatement_30 (by decide) ?_
    refine g_cap (fun hc4 => ?_)
    refine g_callV (As := [.int 27]) (rest := []) hF (fun l D cy => (ct_expect a r hc4 w29_) l D cy) (Nat.add_le_add_right (Nat.le_trans (Nat.le_of_ble_eq_true rfl) hdK) 1) mV_X14_expect m_2285 (recv_ob obM_0) rfl rfl (Nat.le_of_ble_eq_true rfl) d_X14_forStatement_32 (kV (fun s32 t32 z32 w6 => ?_)) (fun σ9 τ9 vs9 h9 => g_out hF stopM rfl h9)
    refine g_aload_n hF d_X14_forStatement_35 rfl 0 rfl ?_
    refine g_get (v := .int (s32 0 17)) hF 17 obM_0 (by decide) m_1882 rfl d_X14_forStatement_36 ?_
    refine g_istore_n hF [(3, .int (s32 0 17)), (0, .ref (r 0)), (1, .int a1), (2, .int a2)] d_X14_forStatement_39 rfl hnn (by decide) rfl ?_
    refine g_iconst hF (v := (-1)) d_X14_forStatement_40 (by decide) ?_
    refine g_istore hF [(4, .int (-1)), (3, .int (s32 0 17)), (0, .ref (r 0)), (1, .int a1), (2, .int a2)] d_X14_forStatement_41 hnn (by decide) rfl ?_
    refine g_aload_n hF d_X14_forStatement_43 rfl 2 rfl ?_
    refine g_bipush hF (v := 27) d_X14_forStatement_44 (by decide) ?_
    refine g_cap (fun hc6 => ?_)
    refine g_callV (As := [.int 27]) (rest := []) hF (fun l D cy => (ct_is a r hc6 w6) l D cy) (Nat.add_le_add_right (Nat.le_trans (Nat.le_of_ble_eq_true rfl) hdK) 1) mV_X14_is m_2289 (recv_ob obM_0) rfl rfl (Nat.le_of_ble_eq_true rfl) d_X14_forStatement_46 (krZ (fun v46 hz46 w8 => ?_)) (fun _ _ _ h => h.elim)
    obtain ⟨J83, h83, w9⟩ := w8
    have b83 : ∀ (x4_83 : Int32) (s83 t83 : St) (z83 : List Nat), J83 x4_83 s83 t83 z83 → G SM r X s83 t83 z83 [(0, .ref (r 0)), (1, .int a1), (2, .int a2), (3, .int (s32 0 17)), (4, .int x4_83)] [] 83 := by
      intro x4_83 s83 t83 z83  w83_
      have w83_ := h83 x4_83 s83 t83 z83  w83_
      refine g_aload_n hF d_X14_forStatement_83 rfl 0 rfl ?_
      refine g_bipush hF (v := 27) d_X14_forStatement_84 (by decide) ?_
      refine g_cap (fun hc9 => ?_)
      refine g_callV (As := [.int 27]) (rest := []) hF (fun l D cy => (ct_expect a r hc9 w83_) l D cy) (Nat.add_le_add_right (Nat.le_trans (Nat.le_of_ble_eq_true rfl) hdK) 1) mV_X14_expect m_2285 (recv_ob obM_0) rfl rfl (Nat.le_of_ble_eq_true rfl) d_X14_forStatement_86 (kV (fun s86 t86 z86 w11 => ?_)) (fun σ9 τ9 vs9 h9 => g_out hF stopM rfl h9)
      refine g_aload_n hF d_X14_forStatement_89 rfl 0 rfl ?_
      refine g_bipush hF (v := 15) d_X14_forStatement_90 (by decide) ?_
      refine g_cap (fun hc11 => ?_)
      refine g_callV (As := [.int 15]) (rest := []) hF (fun l D cy => (ct_open a r hc11 w11) l D cy) (Nat.add_le_add_right (Nat.le_trans (Nat.le_of_ble_eq_true rfl) hdK) 1) mV_X14_open m_2520 (recv_ob obM_0) rfl rfl (Nat.le_of_ble_eq_true rfl) d_X14_forStatement_92 (kI (fun v92 s92 t92 z92 w13 => ?_)) (fun _ _ _ h => h.elim)
      refine g_istore hF [(5, .int v92), (0, .ref (r 0)), (1, .int a1), (2, .int a2), (3, .int (s32 0 17)), (4, .int x4_83)] d_X14_forStatement_95 hnn (by decide) rfl ?_
      refine g_aload_n hF d_X14_forStatement_97 rfl 1 rfl ?_
      refine g_get (v := .int (s92 0 17)) hF 17 obM_0 (by decide) m_1882 rfl d_X14_forStatement_98 ?_
      refine g_istore hF [(6, .int (s92 0 17)), (5, .int v92), (0, .ref (r 0)), (1, .int a1), (2, .int a2), (3, .int (s32 0 17)), (4, .int x4_83)] d_X14_forStatement_101 hnn (by decide) rfl ?_
      refine g_aload_n hF d_X14_forStatement_103 rfl 2 rfl ?_
      refine g_bipush hF (v := 21) d_X14_forStatement_104 (by decide) ?_
      refine g_cap (fun hc13 => ?_)
      refine g_callV (As := [.int 21]) (rest := []) hF (fun l D cy => (ct_is a r hc13 w13) l D cy) (Nat.add_le_add_right (Nat.le_trans (Nat.le_of_ble_eq_true rfl) hdK) 1) mV_X14_is m_2289 (recv_ob obM_0) rfl rfl (Nat.le_of_ble_eq_true rfl) d_X14_forStatement_106 (krZ (fun v106 hz106 w15 => ?_)) (fun _ _ _ h => h.elim)
      obtain ⟨J116, h116, w16⟩ := w15
      have b116 : ∀ (s116 t116 : St) (z116 : List Nat), J116 s116 t116 z116 → G SM r X s116 t116 z116 [(0, .ref (r 0)), (1, .int a1), (2, .int a2), (3, .int (s32 0 17)), (4, .int x4_83), (5, .int v92), (6, .int (s92 0 17))] [] 116 := by
        intro s116 t116 z116  w116_
        have w116_ := h116 s116 t116 z116  w116_
        refine g_aload_n hF d_X14_forStatement_116 rfl 0 rfl ?_
        refine g_bipush hF (v := 15) d_X14_forStatement_117 (by decide) ?_
        refine g_iload_n hF d_X14_forStatement_119 rfl 3 rfl ?_
        refine g_cap (fun hc16 => ?_)
        refine g_callV (As := [.int 15, .int (s32 0 17)]) (rest := []) hF (fun l D cy => (ct_put_1 a r hc16 w116_) l D cy) (Nat.add_le_add_right (Nat.le_trans (Nat.le_of_ble_eq_true rfl) hdK) 1) mV_X14_put_1 m_2433 (recv_ob obM_0) rfl rfl (Nat.le_of_ble_eq_true rfl) d_X14_forStatement_120 (kV (fun s120 t120 z120 w18 => ?_)) (fun _ _ _ h => h.elim)
        refine g_aload_n hF d_X14_forStatement_123 rfl 0 rfl ?_
        refine g_bipush hF (v := 21) d_X14_forStatement_124 (by decide) ?_
        refine g_cap (fun hc18 => ?_)
        refine g_callV (As := [.int 21]) (rest := []) hF (fun l D cy => (ct_expect a r hc18 w18) l D cy) (Nat.add_le_add_right (Nat.le_trans (Nat.le_of_ble_eq_true rfl) hdK) 1) mV_X14_expect m_2285 (recv_ob obM_0) rfl rfl (Nat.le_of_ble_eq_true rfl) d_X14_forStatement_126 (kV (fun s126 t126 z126 w20 => ?_)) (fun σ9 τ9 vs9 h9 => g_out hF stopM rfl h9)
        refine g_aload_n hF d_X14_forStatement_129 rfl 0 rfl ?_
        refine g_iload hF d_X14_forStatement_130 5 rfl ?_
        refine g_cap (fun hc20 => ?_)
        refine g_callV (As := [.int v92]) (rest := []) hF (fun l D cy => (ct_aim a r hc20 w20) l D cy) (Nat.add_le_add_right (Nat.le_trans (Nat.le_of_ble_eq_true rfl) hdK) 1) mV_X14_aim m_2524 (recv_ob obM_0) rfl rfl (Nat.le_of_ble_eq_true rfl) d_X14_forStatement_132 (kV (fun s132 t132 z132 w22 => ?_)) (fun _ _ _ h => h.elim)
        refine g_aload_n hF d_X14_forStatement_135 rfl 0 rfl ?_
        refine g_iload_n hF d_X14_forStatement_136 rfl 1 rfl ?_
        refine g_iload_n hF d_X14_forStatement_137 rfl 2 rfl ?_
        refine g_iload hF d_X14_forStatement_138 6 rfl ?_
        refine g_cap (fun hc22 => ?_)
        refine g_callV (As := [.int a1, .int a2, .int (s92 0 17)]) (rest := []) hF (fun l D cy => (hKloop hc22 w22) l D cy) (Nat.le_refl _) mV_X14_loop m_2600 (recv_ob obM_0) rfl rfl (Nat.le_of_ble_eq_true rfl) d_X14_forStatement_140 (kV (fun s140 t140 z140 w24 => ?_)) (fun σ9 τ9 vs9 h9 => g_out hF stopM rfl h9)
        refine g_aload_n hF d_X14_forStatement_143 rfl 0 rfl ?_
        refine g_get (v := .int (s140 0 58)) hF 58 obM_0 (by decide) m_1923 rfl d_X14_forStatement_144 ?_
        refine g_istore hF [(7, .int (s140 0 58)), (0, .ref (r 0)), (1, .int a1), (2, .int a2), (3, .int (s32 0 17)), (4, .int x4_83), (5, .int v92), (6, .int (s92 0 17))] d_X14_forStatement_147 hnn (by decide) rfl ?_
        refine g_aload_n hF d_X14_forStatement_149 rfl 1 rfl ?_
        refine g_aload_n hF d_X14_forStatement_150 rfl 1 rfl ?_
        refine g_get (v := .int (s140 0 60)) hF 60 obM_0 (by decide) m_1925 rfl d_X14_forStatement_151 ?_
        refine g_put (v := (s140 0 60)) hF 58 obM_0 (by decide) m_1923 rfl rfl rfl d_X14_forStatement_154 ?_
        refine g_aload_n hF d_X14_forStatement_157 rfl 1 rfl ?_
        refine g_bipush hF (v := 15) d_X14_forStatement_158 (by decide) ?_
        refine g_iload hF d_X14_forStatement_160 7 rfl ?_
        refine g_cap (fun hc24 => ?_)
        refine g_callV (As := [.int 15, .int (s92 0 17)]) (rest := []) hF (fun l D cy => (ct_put_1 a r hc24 w24) l D cy) (Nat.add_le_add_right (Nat.le_trans (Nat.le_of_ble_eq_true rfl) hdK) 1) mV_X14_put_1 m_2433 (recv_ob obM_0) rfl rfl (Nat.le_of_ble_eq_true rfl) d_X14_forStatement_162 (kV (fun s162 t162 z162 w26 => ?_)) (fun _ _ _ h => h.elim)
        refine g_iload hF d_X14_forStatement_165 5 rfl ?_
        obtain ⟨J176, h176, w27⟩ := w26
        have b176 : ∀ (s176 t176 : St) (z176 : List Nat), J176 s176 t176 z176 → G SM r X s176 t176 z176 [(0, .ref (r 0)), (7, .int (s140 0 58))] [] 176 := by
          intro s176 t176 z176  w176_
          have w176_ := h176 s176 t176 z176  w176_
          refine g_aload_n hF d_X14_forStatement_176 rfl 0 rfl ?_
          refine g_iload hF d_X14_forStatement_177 1 rfl ?_
          refine g_aload_n hF d_X14_forStatement_179 rfl 0 rfl ?_
          refine g_get (v := .int (s176 0 17)) hF 17 obM_0 (by decide) m_1882 rfl d_X14_forStatement_180 ?_
          refine g_cap (fun hc27 => ?_)
          refine g_callV (As := [.int (s140 0 58), .int (s176 0 17)]) (rest := []) hF (fun l D cy => (ct_aimAll a r hc27 w176_) l D cy) (Nat.add_le_add_right (Nat.le_trans (Nat.le_of_ble_eq_true rfl) hdK) 1) mV_X14_aimAll m_2604 (recv_ob obM_0) rfl rfl (Nat.le_of_ble_eq_true rfl) d_X14_forStatement_183 (kV (fun s183 t183 z183 w29 => ?_)) (fun _ _ _ h => h.elim)
          exact g_vret hF rfl d_X14_forStatement_186 ⟨rfl, w29⟩
        refine g_if_lt hF 176 d_X14_forStatement_167 (by decide) rfl (fun c => ?_) (fun c => ?_)
        · have w30 := w27.1 c
          exact g_sub (L' := [(0, .ref (r 0)), (7, .int (s140 0 58))]) [1, 0] rfl (b176 s162 t162 z162 w30)
        · have w31 := w27.2 c
          refine g_aload_n hF d_X14_forStatement_170 rfl 1 rfl ?_
          refine g_iload hF d_X14_forStatement_171 5 rfl ?_
          refine g_cap (fun hc31 => ?_)
          refine g_callV (As := [.int x4_83]) (rest := []) hF (fun l D cy => (ct_aim a r hc31 w31) l D cy) (Nat.add_le_add_right (Nat.le_trans (Nat.le_of_ble_eq_true rfl) hdK) 1) mV_X14_aim m_2524 (recv_ob obM_0) rfl rfl (Nat.le_of_ble_eq_true rfl) d_X14_forStatement_173 (kV (fun s173 t173 z173 w33 => ?_)) (fun _ _ _ h => h.elim)
          exact g_sub (L' := [(0, .ref (r 0)), (7, .int (s140 0 58))]) [1, 0] rfl (b176 s173 t173 z173 w33)
      refine g_if_ne hF 116 d_X14_forStatement_109 (by decide) rfl (fun c => ?_) (fun c => ?_)
      · have w34 := w16.1 c
        exact g_sub (L' := [(0, .ref (r 0)), (1, .int a1), (2, .int a2), (3, .int (s32 0 17)), (4, .int x4_83), (5, .int v92), (6, .int (s92 0 17))]) [2, 3, 4, 5, 6, 1, 0] rfl (b116 s92 t92 z92 w34)
      · have w35 := w16.2 c
        refine g_aload_n hF d_X14_forStatement_112 rfl 2 rfl ?_
        refine g_callV (As := []) (rest := []) hF (fun l D cy => (ct_plain a r hc13 w35) l D cy) (Nat.add_le_add_right (Nat.le_trans (Nat.le_of_ble_eq_true rfl) hdK) 1) mV_X14_plain m_2616 (recv_ob obM_0) rfl rfl (Nat.le_of_ble_eq_true rfl) d_X14_forStatement_113 (kV (fun s113 t113 z113 w36 => ?_)) (fun σ9 τ9 vs9 h9 => g_out hF stopM rfl h9)
        exact g_sub (L' := [(0, .ref (r 0)), (1, .int a1), (2, .int a2), (3, .int (s32 0 17)), (4, .int x4_83), (5, .int v92), (6, .int (s92 0 17))]) [2, 3, 4, 5, 6, 1, 0] rfl (b116 s113 t113 z113 w36)
    refine g_if_ne hF 83 d_X14_forStatement_49 (by decide) rfl (fun c => ?_) (fun c => ?_)
    · have w37 := w9.1 c
      exact g_sub (L' := [(0, .ref (r 0)), (1, .int a1), (2, .int a2), (3, .int (s32 0 17)), (4, .int (-1))]) [2, 3, 4, 1, 0] rfl (b83 ((-1) : Int32) s32 t32 z32 w37)
    · have w38 := w9.2 c
      refine g_aload_n hF d_X14_forStatement_52 rfl 2 rfl ?_
      refine g_iconst hF (v := 1) d_X14_forStatement_53 (by decide) ?_
      refine g_callV (As := [.int 1]) (rest := []) hF (fun l D cy => (ctE_expression a r hc6 w38) l D cy) (Nat.add_le_add_right (Nat.le_trans (Nat.le_of_ble_eq_true rfl) hdK) 1) mV_X14_expression m_2361 (recv_ob obM_0) rfl rfl (Nat.le_of_ble_eq_true rfl) d_X14_forStatement_54 (kA (fun u54 s54 t54 z54 w39 => ?_)) (fun σ9 τ9 vs9 h9 => g_out hF stopM rfl h9)
      refine g_astore hF [(5, .ref u54), (4, .int (-1)), (3, .int (s32 0 17)), (0, .ref (r 0)), (1, .int a1), (2, .int a2)] d_X14_forStatement_57 hnn (by decide) rfl ?_
      refine g_aload_n hF d_X14_forStatement_59 rfl 3 rfl ?_
      refine g_aload hF d_X14_forStatement_60 0 rfl ?_
      refine g_cap (fun hc39 => ?_)
      refine g_callV (As := [.ref u54]) (rest := []) hF (fun l D cy => (ct_read_1 a r hc39 w39) l D cy) (Nat.add_le_add_right (Nat.le_trans (Nat.le_of_ble_eq_true rfl) hdK) 1) mV_X14_read_1 m_2453 (recv_ob obM_0) rfl rfl (Nat.le_of_ble_eq_true rfl) d_X14_forStatement_62 (kV (fun s62 t62 z62 w41 => ?_)) (fun _ _ _ h => h.elim)
      refine g_aload_n hF d_X14_forStatement_65 rfl 3 rfl ?_
      refine g_aload hF d_X14_forStatement_66 0 rfl ?_
      refine g_cap (fun hc41 => ?_)
      refine g_callS (As := [.ref u54]) (rest := [.ref (r 0)]) hF (fun l D cy => (ct_isAny a r hc41 w41) l D cy) (Nat.add_le_add_right (Nat.le_trans (Nat.le_of_ble_eq_true rfl) hdK) 1) mS_X14_isAny m_2468 rfl rfl (Nat.le_of_ble_eq_true rfl) d_X14_forStatement_68 (krZ (fun v68 hz68 w43 => ?_)) (fun _ _ _ h => h.elim)
      refine g_iload_n hF d_X14_forStatement_71 rfl 5 rfl ?_
      refine g_callV (As := [.int v68, .int a2]) (rest := []) hF (fun l D cy => (ct_must a r hc41 w43) l D cy) (Nat.add_le_add_right (Nat.le_trans (Nat.le_of_ble_eq_true rfl) hdK) 1) mV_X14_must m_2313 (recv_ob obM_0) rfl rfl (Nat.le_of_ble_eq_true rfl) d_X14_forStatement_72 (kV (fun s72 t72 z72 w44 => ?_)) (fun _ _ _ h => h.elim)
      refine g_aload_n hF d_X14_forStatement_75 rfl 3 rfl ?_
      refine g_bipush hF (v := 16) d_X14_forStatement_76 (by decide) ?_
      refine g_cap (fun hc44 => ?_)
      refine g_callV (As := [.int 16]) (rest := []) hF (fun l D cy => (ct_open a r hc44 w44) l D cy) (Nat.add_le_add_right (Nat.le_trans (Nat.le_of_ble_eq_true rfl) hdK) 1) mV_X14_open m_2520 (recv_ob obM_0) rfl rfl (Nat.le_of_ble_eq_true rfl) d_X14_forStatement_78 (kI (fun v78 s78 t78 z78 w46 => ?_)) (fun _ _ _ h => h.elim)
      refine g_istore hF [(4, .int v78), (5, .ref u54), (3, .int (s32 0 17)), (0, .ref (r 0)), (1, .int a1), (2, .int a2)] d_X14_forStatement_81 hnn (by decide) rfl ?_
      exact g_sub (L' := [(0, .ref (r 0)), (1, .int a1), (2, .int a2), (3, .int (s32 0 17)), (4, .int v78)]) [3, 4, 5, 2, 0] rfl (b83 v78 s78 t78 z78 w46)
  refine g_if_ne hF 29 d_X14_forStatement_22 (by decide) rfl (fun c => ?_) (fun c => ?_)
  · have w47 := w4.1 c
    exact b29 s13 t13 z13 w47
  · have w48 := w4.2 c
    refine g_aload_n hF d_X14_forStatement_25 rfl 0 rfl ?_
    refine g_callV (As := []) (rest := []) hF (fun l D cy => (ct_plain a r hc1 w48) l D cy) (Nat.add_le_add_right (Nat.le_trans (Nat.le_of_ble_eq_true rfl) hdK) 1) mV_X14_plain m_2616 (recv_ob obM_0) rfl rfl (Nat.le_of_ble_eq_true rfl) d_X14_forStatement_26 (kV (fun s26 t26 z26 w49 => ?_)) (fun σ9 τ9 vs9 h9 => g_out hF stopM rfl h9)
    exact b29 s26 t26 z26 w49
def wp_run (a1 : Int32) (σ τ : St) (vs : List Nat) (Q : Int32 → St → St → List Nat → Prop) : Prop :=
  (0 ≤ (σ 0 70).toInt → (a1.toInt < 0 → Q ((-2) : Int32) σ τ vs) ∧ (0 ≤ a1.toInt → (a1.toInt ≤ 20000 → ∃ L25 : Nat → Int32 → St → St → List Nat → Prop, (∃ n, L25 n (0 : Int32) σ τ vs) ∧ ∀ (n25 : Nat) (x2_25 : Int32) (s25 t25 : St) (z25 : List Nat), L25 n25 x2_25 s25 t25 z25 → ((32768 ≤ x2_25.toInt → wp_enter (s25 0 78) (0 : Int32) (0 : Int32) (0 : Int32) (upC (upC (upC (upC (upC (upC (upC (upC (upC (upC (upC s25 0 98 (1 : Int32)) 0 93 a1) 0 89 (0 : Int32)) 0 91 (0 : Int32)) 0 92 (0 : Int32)) 0 94 (0 : Int32)) 0 95 (0 : Int32)) 0 96 (0 : Int32)) 0 81 (0 : Int32)) 0 86 (0 : Int32)) 0 97 ((-1) : Int32)) t25 z25 (fun s125 t125 z125 => (∃ J148 : Int32 → Prop, (∀ (y0_148 : Int32), J148 y0_148 → (∃ L149 : Nat → Int32 → St → St → List Nat → Prop, (∃ n, L149 n y0_148 s125 t125 z125) ∧ ∀ (n149 : Nat) (x2_149 : Int32) (s149 t149 : St) (z149 : List Nat), L149 n149 x2_149 s149 t149 z149 → ((0 ≤ (s149 0 97).toInt → Q (s149 0 97) (upC s149 0 88 (0 : Int32)) t149 z149) ∧ ((s149 0 97).toInt < 0 → wp_step x2_149 s149 t149 z149 (fun v158 s158 t158 z158 => ∃ m, m < n149 ∧ L149 m v158 s158 t158 z158))))) ∧ (0 ≤ (s125 0 97).toInt → J148 (0 : Int32)) ∧ ((s125 0 97).toInt < 0 → ((0 ≤ (s125 0 78).toInt ∧ (s125 0 78).toInt < 10000) ∧ J148 (s125 26 (s125 0 78).toNatClampNeg)))))) ∧ (x2_25.toInt < 32768 → (∃ J55 : Int32 → Prop, (∀ (y2_55 : Int32), J55 y2_55 → (((0 ≤ x2_25.toInt ∧ x2_25.toInt < 32768) ∧ ∃ m, m < n25 ∧ L25 m (x2_25 + 1) (upC s25 46 x2_25.toNatClampNeg y2_55) t25 z25))) ∧ (16016 ≤ x2_25.toInt → J55 (0 : Int32)) ∧ (x2_25.toInt < 16016 → ((0 ≤ x2_25.toInt ∧ x2_25.toInt < 16016) ∧ J55 (s25 45 x2_25.toNatClampNeg))))))) ∧ (20000 < a1.toInt → Q ((-2) : Int32) σ τ vs))) ∧ ((σ 0 70).toInt < 0 → Q ((-1) : Int32) σ τ vs)
set_option maxHeartbeats 4000000 in
set_option maxRecDepth 100000 in
theorem ct_run (a : Nat → Nat) (r : Nat → Nat) {a1 : Int32} {σ τ : St} {vs : List Nat} {Q : Int32 → St → St → List Nat → Prop} (hcap : vs.length ≤ CAP) (w : wp_run a1 σ τ vs Q) (l : Launch) (D : va_G) (cy : Nat → ClassId) : Ct l D cy SM r (EM a) y_X14_run (Cond.code y_X14_run b_X14_run 3 (some .int)) 8 [.ref (r 0), .int a1] σ τ vs (QIs Q) QT0 := by
  unfold wp_run at w
  refine Ct_of (EM_ok a) (by decide) (Nat.le_of_ble_eq_true rfl) hcap (fun X hnn hF => ?_)
  show G SM r X σ τ vs [(0, .ref (r 0)), (1, .int a1)] [] 0
  refine g_aload_n hF d_X14_run_0 rfl 0 rfl ?_
  refine g_get (v := .int (σ 0 70)) hF 70 obM_0 (by decide) m_1935 rfl d_X14_run_1 ?_
  refine g_if_ge hF 9 d_X14_run_4 (by decide) rfl (fun c => ?_) (fun c => ?_)
  · have w1 := w.1 c
    refine g_iload_n hF d_X14_run_9 rfl 1 rfl ?_
    refine g_if_lt hF 20 d_X14_run_10 (by decide) rfl (fun c => ?_) (fun c => ?_)
    · have w2 := w1.1 c
      refine g_bipush hF (v := (-2)) d_X14_run_20 (by decide) ?_
      exact g_iret hF rfl d_X14_run_22 ⟨((-2) : Int32), rfl, w2⟩
    · have w3 := w1.2 c
      refine g_iload_n hF d_X14_run_13 rfl 1 rfl ?_
      refine g_sipush hF (v := 20000) d_X14_run_14 (by decide) ?_
      refine g_icmp_le (yv := 20000) hF 23 d_X14_run_17 (by decide) rfl (by decide) (fun c => ?_) (fun c => ?_)
      · have w4 := w3.1 c
        refine g_iconst hF (v := 0) d_X14_run_23 (by decide) ?_
        refine g_istore_n hF [(2, .int 0), (0, .ref (r 0)), (1, .int a1)] d_X14_run_24 rfl hnn (by decide) rfl ?_
        obtain ⟨L25, ⟨i25, u25⟩, h25⟩ := w4
        have b25 : ∀ (n25 : Nat) (x2_25 : Int32) (s25 t25 : St) (z25 : List Nat), L25 n25 x2_25 s25 t25 z25 → G SM r X s25 t25 z25 [(0, .ref (r 0)), (1, .int a1), (2, .int x2_25)] [] 25 := by
          intro n25
          induction n25 using Nat.strongRecOn with
          | _ n25 ih25 =>
            intro x2_25 s25 t25 z25  w25_
            have w25_ := h25 n25 x2_25 s25 t25 z25  w25_
            refine g_iload_n hF d_X14_run_25 rfl 2 rfl ?_
            refine g_ldc (v := 32768) hF m_1863 d_X14_run_26 ?_
            refine g_icmp_ge (yv := 32768) hF 62 d_X14_run_28 (by decide) rfl (by decide) (fun c => ?_) (fun c => ?_)
            · have w5 := w25_.1 c
              refine g_aload_n hF d_X14_run_62 rfl 0 rfl ?_
              refine g_iconst hF (v := 1) d_X14_run_63 (by decide) ?_
              refine g_putZ (v := 1) hF 98 obM_0 (by decide) m_1963 rfl rfl rfl (Or.inr rfl) d_X14_run_64 ?_
              refine g_aload_n hF d_X14_run_67 rfl 0 rfl ?_
              refine g_iload_n hF d_X14_run_68 rfl 1 rfl ?_
              refine g_put (v := a1) hF 93 obM_0 (by decide) m_1958 rfl rfl rfl d_X14_run_69 ?_
              refine g_aload_n hF d_X14_run_72 rfl 0 rfl ?_
              refine g_iconst hF (v := 0) d_X14_run_73 (by decide) ?_
              refine g_put (v := 0) hF 89 obM_0 (by decide) m_1954 rfl rfl rfl d_X14_run_74 ?_
              refine g_aload_n hF d_X14_run_77 rfl 0 rfl ?_
              refine g_iconst hF (v := 0) d_X14_run_78 (by decide) ?_
              refine g_put (v := 0) hF 91 obM_0 (by decide) m_1956 rfl rfl rfl d_X14_run_79 ?_
              refine g_aload_n hF d_X14_run_82 rfl 0 rfl ?_
              refine g_iconst hF (v := 0) d_X14_run_83 (by decide) ?_
              refine g_put (v := 0) hF 92 obM_0 (by decide) m_1957 rfl rfl rfl d_X14_run_84 ?_
              refine g_aload_n hF d_X14_run_87 rfl 0 rfl ?_
              refine g_iconst hF (v := 0) d_X14_run_88 (by decide) ?_
              refine g_put (v := 0) hF 94 obM_0 (by decide) m_1959 rfl rfl rfl d_X14_run_89 ?_
              refine g_aload_n hF d_X14_run_92 rfl 0 rfl ?_
              refine g_iconst hF (v := 0) d_X14_run_93 (by decide) ?_
              refine g_put (v := 0) hF 95 obM_0 (by decide) m_1960 rfl rfl rfl d_X14_run_94 ?_
              refine g_aload_n hF d_X14_run_97 rfl 0 rfl ?_
              refine g_iconst hF (v := 0) d_X14_run_98 (by decide) ?_
              refine g_put (v := 0) hF 96 obM_0 (by decide) m_1961 rfl rfl rfl d_X14_run_99 ?_
              refine g_aload_n hF d_X14_run_102 rfl 0 rfl ?_
              refine g_iconst hF (v := 0) d_X14_run_103 (by decide) ?_
              refine g_put (v := 0) hF 81 obM_0 (by decide) m_1946 rfl rfl rfl d_X14_run_104 ?_
              refine g_aload_n hF d_X14_run_107 rfl 0 rfl ?_
              refine g_iconst hF (v := 0) d_X14_run_108 (by decide) ?_
              refine g_put (v := 0) hF 86 obM_0 (by decide) m_1951 rfl rfl rfl d_X14_run_109 ?_
              refine g_aload_n hF d_X14_run_112 rfl 0 rfl ?_
              refine g_iconst hF (v := (-1)) d_X14_run_113 (by decide) ?_
              refine g_put (v := (-1)) hF 97 obM_0 (by decide) m_1962 rfl rfl rfl d_X14_run_114 ?_
              refine g_aload_n hF d_X14_run_117 rfl 0 rfl ?_
              refine g_aload_n hF d_X14_run_118 rfl 0 rfl ?_
              refine g_get (v := .int (s25 0 78)) hF 78 obM_0 (by decide) m_1943 rfl d_X14_run_119 ?_
              refine g_iconst hF (v := 0) d_X14_run_122 (by decide) ?_
              refine g_iconst hF (v := 0) d_X14_run_123 (by decide) ?_
              refine g_iconst hF (v := 0) d_X14_run_124 (by decide) ?_
              refine g_cap (fun hc5 => ?_)
              refine g_callV (As := [.int (s25 0 78), .int 0, .int 0, .int 0]) (rest := []) hF (fun l D cy => (ct_enter a r hc5 w5) l D cy) (Nat.le_of_ble_eq_true rfl) mV_X14_enter m_2741 (recv_ob obM_0) rfl rfl (Nat.le_of_ble_eq_true rfl) d_X14_run_125 (kV (fun s125 t125 z125 w7 => ?_)) (fun _ _ _ h => h.elim)
              refine g_aload_n hF d_X14_run_128 rfl 0 rfl ?_
              refine g_get (v := .int (s125 0 97)) hF 97 obM_0 (by decide) m_1962 rfl d_X14_run_129 ?_
              obtain ⟨J148, h148, w8⟩ := w7
              have b148 : ∀ (y0_148 : Int32), J148 y0_148 → G SM r X s125 t125 z125 [(0, .ref (r 0))] [.int y0_148] 148 := by
                intro y0_148  w148_
                have w148_ := h148 y0_148  w148_
                refine g_istore_n hF [(2, .int y0_148), (0, .ref (r 0))] d_X14_run_148 rfl hnn (by decide) rfl ?_
                obtain ⟨L149, ⟨i149, u149⟩, h149⟩ := w148_
                have b149 : ∀ (n149 : Nat) (x2_149 : Int32) (s149 t149 : St) (z149 : List Nat), L149 n149 x2_149 s149 t149 z149 → G SM r X s149 t149 z149 [(0, .ref (r 0)), (2, .int x2_149)] [] 149 := by
                  intro n149
                  induction n149 using Nat.strongRecOn with
                  | _ n149 ih149 =>
                    intro x2_149 s149 t149 z149  w149_
                    have w149_ := h149 n149 x2_149 s149 t149 z149  w149_
                    refine g_aload_n hF d_X14_run_149 rfl 0 rfl ?_
                    refine g_get (v := .int (s149 0 97)) hF 97 obM_0 (by decide) m_1962 rfl d_X14_run_150 ?_
                    refine g_if_ge hF 165 d_X14_run_153 (by decide) rfl (fun c => ?_) (fun c => ?_)
                    · have w9 := w149_.1 c
                      refine g_aload_n hF d_X14_run_165 rfl 0 rfl ?_
                      refine g_iconst hF (v := 0) d_X14_run_166 (by decide) ?_
                      refine g_put (v := 0) hF 88 obM_0 (by decide) m_1953 rfl rfl rfl d_X14_run_167 ?_
                      refine g_aload_n hF d_X14_run_170 rfl 0 rfl ?_
                      refine g_get (v := .int (s149 0 97)) hF 97 obM_0 (by decide) m_1962 rfl d_X14_run_171 ?_
                      exact g_iret hF rfl d_X14_run_174 ⟨(s149 0 97), rfl, w9⟩
                    · have w10 := w149_.2 c
                      refine g_aload_n hF d_X14_run_156 rfl 0 rfl ?_
                      refine g_iload_n hF d_X14_run_157 rfl 1 rfl ?_
                      refine g_cap (fun hc10 => ?_)
                      refine g_callV (As := [.int x2_149]) (rest := []) hF (fun l D cy => (ct_step a r hc10 w10) l D cy) (Nat.le_of_ble_eq_true rfl) mV_X14_step m_2761 (recv_ob obM_0) rfl rfl (Nat.le_of_ble_eq_true rfl) d_X14_run_158 (kI (fun v158 s158 t158 z158 w12 => ?_)) (fun _ _ _ h => h.elim)
                      refine g_istore_n hF [(2, .int v158), (0, .ref (r 0))] d_X14_run_161 rfl hnn (by decide) rfl ?_
                      refine g_goto hF 149 d_X14_run_162 (by decide) ?_
                      obtain ⟨m149, hm149, w9⟩ := w12
                      exact g_sub (L' := [(0, .ref (r 0)), (2, .int v158)]) [1, 0] rfl (ih149 m149 hm149 v158 s158 t158 z158 w9)
                exact g_sub (L' := [(0, .ref (r 0)), (2, .int y0_148)]) [1, 0] rfl (b149 i149 y0_148 s125 t125 z125 u149)
              refine g_if_ge hF 147 d_X14_run_132 (by decide) rfl (fun c => ?_) (fun c => ?_)
              · have w13 := w8.1 c
                refine g_iconst hF (v := 0) d_X14_run_147 (by decide) ?_
                exact g_sub (L' := [(0, .ref (r 0))]) [0] rfl (b148 (0 : Int32) w13)
              · have w14 := w8.2 c
                refine g_aload_n hF d_X14_run_135 rfl 0 rfl ?_
                refine g_get (v := .ref (r 26)) hF 40 obM_0 (by decide) m_1905 rfl d_X14_run_136 ?_
                refine g_aload_n hF d_X14_run_139 rfl 0 rfl ?_
                refine g_get (v := .int (s125 0 78)) hF 78 obM_0 (by decide) m_1943 rfl d_X14_run_140 ?_
                have w15 := w14.2
                refine g_iald hF arM_26 (s_in (Nat.le_of_ble_eq_true rfl) w14.1.1 w14.1.2) d_X14_run_143 ?_
                refine g_top (v := (s125 26 (s125 0 78).toNatClampNeg)) rfl ?_
                refine g_goto hF 148 d_X14_run_144 (by decide) ?_
                exact g_sub (L' := [(0, .ref (r 0))]) [0] rfl (b148 (s125 26 (s125 0 78).toNatClampNeg) w15)
            · have w16 := w25_.2 c
              refine g_aload_n hF d_X14_run_31 rfl 0 rfl ?_
              refine g_get (v := .ref (r 46)) hF 79 obM_0 (by decide) m_1944 rfl d_X14_run_32 ?_
              refine g_iload_n hF d_X14_run_35 rfl 2 rfl ?_
              refine g_iload_n hF d_X14_run_36 rfl 2 rfl ?_
              refine g_aload_n hF d_X14_run_37 rfl 0 rfl ?_
              refine g_get (v := .ref (r 45)) hF 77 obM_0 (by decide) m_1942 rfl d_X14_run_38 ?_
              refine g_alen hF arM_45 (fun _ => ⟨1, _, rfl⟩) (v := 16016) (by decide) d_X14_run_41 ?_
              obtain ⟨J55, h55, w17⟩ := w16
              have b55 : ∀ (y2_55 : Int32), J55 y2_55 → G SM r X s25 t25 z25 [(0, .ref (r 0)), (1, .int a1), (2, .int x2_25)] [.int y2_55, .int x2_25, .ref (r 46)] 55 := by
                intro y2_55  w55_
                have w55_ := h55 y2_55  w55_
                have w18 := w55_.2
                refine g_iast hF arM_46 (s_in (Nat.le_of_ble_eq_true rfl) w55_.1.1 w55_.1.2) d_X14_run_55 ?_
                refine g_iinc hF (x2_25 + 1) [(2, .int (x2_25 + 1)), (0, .ref (r 0)), (1, .int a1)] d_X14_run_56 2 rfl rfl hnn (by decide) rfl ?_
                refine g_goto hF 25 d_X14_run_59 (by decide) ?_
                obtain ⟨m25, hm25, w9⟩ := w18
                exact g_sub (L' := [(0, .ref (r 0)), (1, .int a1), (2, .int (x2_25 + 1))]) [1, 2, 0] rfl (ih25 m25 hm25 (x2_25 + 1) (upC s25 46 x2_25.toNatClampNeg y2_55) t25 z25 w9)
              refine g_icmp_ge (yv := 16016) hF 54 d_X14_run_42 (by decide) rfl (by decide) (fun c => ?_) (fun c => ?_)
              · have w19 := w17.1 c
                refine g_iconst hF (v := 0) d_X14_run_54 (by decide) ?_
                exact b55 (0 : Int32) w19
              · have w20 := w17.2 c
                refine g_aload_n hF d_X14_run_45 rfl 0 rfl ?_
                refine g_get (v := .ref (r 45)) hF 77 obM_0 (by decide) m_1942 rfl d_X14_run_46 ?_
                refine g_iload_n hF d_X14_run_49 rfl 2 rfl ?_
                have w21 := w20.2
                refine g_iald hF arM_45 (s_in (Nat.le_of_ble_eq_true rfl) w20.1.1 w20.1.2) d_X14_run_50 ?_
                refine g_top (v := (s25 45 x2_25.toNatClampNeg)) rfl ?_
                refine g_goto hF 55 d_X14_run_51 (by decide) ?_
                exact b55 (s25 45 x2_25.toNatClampNeg) w21
        exact g_sub (L' := [(0, .ref (r 0)), (1, .int a1), (2, .int 0)]) [1, 2, 0] rfl (b25 i25 (0 : Int32) σ τ vs u25)
      · have w22 := w3.2 c
        refine g_bipush hF (v := (-2)) d_X14_run_20 (by decide) ?_
        exact g_iret hF rfl d_X14_run_22 ⟨((-2) : Int32), rfl, w22⟩
  · have w23 := w.2 c
    refine g_iconst hF (v := (-1)) d_X14_run_7 (by decide) ?_
    exact g_iret hF rfl d_X14_run_8 ⟨((-1) : Int32), rfl, w23⟩
def wp_rowInitial (a1 : Int32) (a2 : Int32) (a3 : Int32) (a4 : Int32) (σ τ : St) (vs : List Nat) (Q : Int32 → St → St → List Nat → Prop) (T : St → St → List Nat → Prop) : Prop :=
  ((0 ≤ (σ 0 10).toInt ∧ (σ 0 10).toInt < 16002) ∧ (∃ J92 : Prop, (J92  → (wp_is (22 : Int32) σ τ vs (fun v95 => (v95.toInt = 0 → wpE_expression (1 : Int32) σ τ vs (fun u114 s114 t114 z114 => wp_read_1 u114 s114 t114 z114 (fun s122 t122 z122 => Q (0 : Int32) s122 t122 z122)) T) ∧ (v95.toInt ≠ 0 → wp_braces a2 a1 (0 : Int32) a3 a4 σ τ vs (fun v108 s108 t108 z108 => Q v108 s108 t108 z108) T)))) ∧ ((σ 2 (σ 0 10).toNatClampNeg).toInt ≠ 4 → J92) ∧ ((σ 2 (σ 0 10).toNatClampNeg).toInt = 4 → ((0 ≤ ((σ 0 10) + (1 : Int32)).toInt ∧ ((σ 0 10) + (1 : Int32)).toInt < 16002) ∧ (∃ J45 : Prop, (J45  → (wp_fill (σ 0 10) a2 a3 a4 (upC σ 0 10 ((σ 0 10) + (1 : Int32))) τ vs (fun s68 t68 z68 => (a1.toInt ≠ 0 → Q (0 : Int32) s68 t68 z68) ∧ (a1.toInt = 0 → ((0 ≤ (σ 0 10).toInt ∧ (σ 0 10).toInt < 16002) ∧ (a2.toInt < (s68 6 (σ 0 10).toNatClampNeg).toInt → Q (0 : Int32) s68 t68 z68) ∧ ((s68 6 (σ 0 10).toNatClampNeg).toInt ≤ a2.toInt → Q (1 : Int32) s68 t68 z68)))))) ∧ ((σ 2 ((σ 0 10) + (1 : Int32)).toNatClampNeg).toInt = 58 → J45) ∧ ((σ 2 ((σ 0 10) + (1 : Int32)).toNatClampNeg).toInt ≠ 58 → ((0 ≤ ((σ 0 10) + (1 : Int32)).toInt ∧ ((σ 0 10) + (1 : Int32)).toInt < 16002) ∧ ((σ 2 ((σ 0 10) + (1 : Int32)).toNatClampNeg).toInt ≠ 59 → J92) ∧ ((σ 2 ((σ 0 10) + (1 : Int32)).toNatClampNeg).toInt = 59 → J45))))))))
set_option maxHeartbeats 4000000 in
set_option maxRecDepth 100000 in
theorem ct_rowInitial (a : Nat → Nat) (r : Nat → Nat) {a1 : Int32} {a2 : Int32} {a3 : Int32} {a4 : Int32} {σ τ : St} {vs : List Nat} {Q : Int32 → St → St → List Nat → Prop} {T : St → St → List Nat → Prop} (hcap : vs.length ≤ CAP) (w : wp_rowInitial a1 a2 a3 a4 σ τ vs Q T) (l : Launch) (D : va_G) (cy : Nat → ClassId) : Ct l D cy SM r (EM a) y_X14_rowInitial (Cond.code y_X14_rowInitial b_X14_rowInitial 6 (some .boolean)) 607 [.ref (r 0), .int a1, .int a2, .int a3, .int a4] σ τ vs (QZs Q) T := by
  unfold wp_rowInitial at w
  refine Ct_of (EM_ok a) (by decide) (Nat.le_of_ble_eq_true rfl) hcap (fun X hnn hF => ?_)
  show G SM r X σ τ vs [(0, .ref (r 0)), (1, .int a1), (2, .int a2), (3, .int a3), (4, .int a4)] [] 0
  refine g_aload_n hF d_X14_rowInitial_0 rfl 0 rfl ?_
  refine g_get (v := .ref (r 2)) hF 3 obM_0 (by decide) m_1868 rfl d_X14_rowInitial_1 ?_
  refine g_aload_n hF d_X14_rowInitial_4 rfl 0 rfl ?_
  refine g_get (v := .int (σ 0 10)) hF 10 obM_0 (by decide) m_1875 rfl d_X14_rowInitial_5 ?_
  have w1 := w.2
  refine g_iald hF arM_2 (s_in (Nat.le_of_ble_eq_true rfl) w.1.1 w.1.2) d_X14_rowInitial_8 ?_
  refine g_top (v := (σ 2 (σ 0 10).toNatClampNeg)) rfl ?_
  refine g_iconst hF (v := 4) d_X14_rowInitial_9 (by decide) ?_
  obtain ⟨J92, h92, w2⟩ := w1
  have b92 : J92  → G SM r X σ τ vs [(0, .ref (r 0)), (1, .int a1), (2, .int a2), (3, .int a3), (4, .int a4)] [] 92 := by
    intro   w92_
    have w92_ := h92   w92_
    refine g_aload_n hF d_X14_rowInitial_92 rfl 0 rfl ?_
    refine g_bipush hF (v := 22) d_X14_rowInitial_93 (by decide) ?_
    refine g_callV (As := [.int 22]) (rest := []) hF (fun l D cy => (ct_is a r hcap w92_) l D cy) (Nat.le_of_ble_eq_true rfl) mV_X14_is m_2289 (recv_ob obM_0) rfl rfl (Nat.le_of_ble_eq_true rfl) d_X14_rowInitial_95 (krZ (fun v95 hz95 w3 => ?_)) (fun _ _ _ h => h.elim)
    refine g_if_eq hF 112 d_X14_rowInitial_98 (by decide) rfl (fun c => ?_) (fun c => ?_)
    · have w4 := w3.1 c
      refine g_aload_n hF d_X14_rowInitial_112 rfl 0 rfl ?_
      refine g_iconst hF (v := 1) d_X14_rowInitial_113 (by decide) ?_
      refine g_callV (As := [.int 1]) (rest := []) hF (fun l D cy => (ctE_expression a r hcap w4) l D cy) (Nat.le_of_ble_eq_true rfl) mV_X14_expression m_2361 (recv_ob obM_0) rfl rfl (Nat.le_of_ble_eq_true rfl) d_X14_rowInitial_114 (kA (fun u114 s114 t114 z114 w5 => ?_)) (fun σ9 τ9 vs9 h9 => g_out hF stopM rfl h9)
      refine g_astore hF [(5, .ref u114), (0, .ref (r 0)), (1, .int a1), (2, .int a2), (3, .int a3), (4, .int a4)] d_X14_rowInitial_117 hnn (by decide) rfl ?_
      refine g_aload_n hF d_X14_rowInitial_119 rfl 1 rfl ?_
      refine g_aload hF d_X14_rowInitial_120 0 rfl ?_
      refine g_cap (fun hc5 => ?_)
      refine g_callV (As := [.ref u114]) (rest := []) hF (fun l D cy => (ct_read_1 a r hc5 w5) l D cy) (Nat.le_of_ble_eq_true rfl) mV_X14_read_1 m_2453 (recv_ob obM_0) rfl rfl (Nat.le_of_ble_eq_true rfl) d_X14_rowInitial_122 (kV (fun s122 t122 z122 w7 => ?_)) (fun _ _ _ h => h.elim)
      refine g_iconst hF (v := 0) d_X14_rowInitial_125 (by decide) ?_
      exact g_zret hF rfl (k_nz (Or.inl rfl)) d_X14_rowInitial_126 ⟨(0 : Int32), rfl, (Or.inl rfl), w7⟩
    · have w8 := w3.2 c
      refine g_aload_n hF d_X14_rowInitial_101 rfl 0 rfl ?_
      refine g_iload_n hF d_X14_rowInitial_102 rfl 2 rfl ?_
      refine g_iload_n hF d_X14_rowInitial_103 rfl 1 rfl ?_
      refine g_iconst hF (v := 0) d_X14_rowInitial_104 (by decide) ?_
      refine g_iload_n hF d_X14_rowInitial_105 rfl 3 rfl ?_
      refine g_iload hF d_X14_rowInitial_106 4 rfl ?_
      refine g_callV (As := [.int a2, .int a1, .int 0, .int a3, .int a4]) (rest := []) hF (fun l D cy => (ct_braces a r hcap w8) l D cy) (Nat.le_of_ble_eq_true rfl) mV_X14_braces m_2572 (recv_ob obM_0) rfl rfl (Nat.le_of_ble_eq_true rfl) d_X14_rowInitial_108 (kZ (fun v108 s108 t108 z108 hz108 w9 => ?_)) (fun σ9 τ9 vs9 h9 => g_out hF stopM rfl h9)
      exact g_zret hF rfl (k_nz hz108) d_X14_rowInitial_111 ⟨v108, rfl, hz108, w9⟩
  refine g_icmp_ne (yv := 4) hF 92 d_X14_rowInitial_10 (by decide) rfl (by decide) (fun c => ?_) (fun c => ?_)
  · have w10 := w2.1 c
    exact b92  w10
  · have w11 := w2.2 c
    refine g_aload_n hF d_X14_rowInitial_13 rfl 0 rfl ?_
    refine g_get (v := .ref (r 2)) hF 3 obM_0 (by decide) m_1868 rfl d_X14_rowInitial_14 ?_
    refine g_aload_n hF d_X14_rowInitial_17 rfl 0 rfl ?_
    refine g_get (v := .int (σ 0 10)) hF 10 obM_0 (by decide) m_1875 rfl d_X14_rowInitial_18 ?_
    refine g_iconst hF (v := 1) d_X14_rowInitial_21 (by decide) ?_
    refine g_iadd hF d_X14_rowInitial_22 ?_
    have w12 := w11.2
    refine g_iald hF arM_2 (s_in (Nat.le_of_ble_eq_true rfl) w11.1.1 w11.1.2) d_X14_rowInitial_23 ?_
    refine g_top (v := (σ 2 ((σ 0 10) + (1 : Int32)).toNatClampNeg)) rfl ?_
    refine g_bipush hF (v := 58) d_X14_rowInitial_24 (by decide) ?_
    obtain ⟨J45, h45, w13⟩ := w12
    have b45 : J45  → G SM r X σ τ vs [(0, .ref (r 0)), (1, .int a1), (2, .int a2), (3, .int a3), (4, .int a4)] [] 45 := by
      intro   w45_
      have w45_ := h45   w45_
      refine g_aload_n hF d_X14_rowInitial_45 rfl 0 rfl ?_
      refine g_get (v := .int (σ 0 10)) hF 10 obM_0 (by decide) m_1875 rfl d_X14_rowInitial_46 ?_
      refine g_istore hF [(5, .int (σ 0 10)), (0, .ref (r 0)), (1, .int a1), (2, .int a2), (3, .int a3), (4, .int a4)] d_X14_rowInitial_49 hnn (by decide) rfl ?_
      refine g_aload_n hF d_X14_rowInitial_51 rfl 1 rfl ?_
      refine g_dup hF d_X14_rowInitial_52 rfl ?_
      refine g_get (v := .int (σ 0 10)) hF 10 obM_0 (by decide) m_1875 rfl d_X14_rowInitial_53 ?_
      refine g_iconst hF (v := 1) d_X14_rowInitial_56 (by decide) ?_
      refine g_iadd hF d_X14_rowInitial_57 ?_
      refine g_put (v := ((σ 0 10) + (1 : Int32))) hF 10 obM_0 (by decide) m_1875 rfl rfl rfl d_X14_rowInitial_58 ?_
      refine g_aload_n hF d_X14_rowInitial_61 rfl 1 rfl ?_
      refine g_iload hF d_X14_rowInitial_62 0 rfl ?_
      refine g_iload_n hF d_X14_rowInitial_64 rfl 3 rfl ?_
      refine g_iload_n hF d_X14_rowInitial_65 rfl 4 rfl ?_
      refine g_iload hF d_X14_rowInitial_66 5 rfl ?_
      refine g_callV (As := [.int (σ 0 10), .int a2, .int a3, .int a4]) (rest := []) hF (fun l D cy => (ct_fill a r hcap w45_) l D cy) (Nat.le_of_ble_eq_true rfl) mV_X14_fill m_2568 (recv_ob obM_0) rfl rfl (Nat.le_of_ble_eq_true rfl) d_X14_rowInitial_68 (kV (fun s68 t68 z68 w14 => ?_)) (fun _ _ _ h => h.elim)
      refine g_iload_n hF d_X14_rowInitial_71 rfl 2 rfl ?_
      refine g_if_ne hF 90 d_X14_rowInitial_72 (by decide) rfl (fun c => ?_) (fun c => ?_)
      · have w15 := w14.1 c
        refine g_iconst hF (v := 0) d_X14_rowInitial_90 (by decide) ?_
        exact g_zret hF rfl (k_nz (Or.inl rfl)) d_X14_rowInitial_91 ⟨(0 : Int32), rfl, (Or.inl rfl), w15⟩
      · have w16 := w14.2 c
        refine g_aload_n hF d_X14_rowInitial_75 rfl 1 rfl ?_
        refine g_get (v := .ref (r 6)) hF 7 obM_0 (by decide) m_1872 rfl d_X14_rowInitial_76 ?_
        refine g_iload hF d_X14_rowInitial_79 0 rfl ?_
        have w17 := w16.2
        refine g_iald hF arM_6 (s_in (Nat.le_of_ble_eq_true rfl) w16.1.1 w16.1.2) d_X14_rowInitial_81 ?_
        refine g_top (v := (s68 6 (σ 0 10).toNatClampNeg)) rfl ?_
        refine g_iload_n hF d_X14_rowInitial_82 rfl 3 rfl ?_
        refine g_icmp_gt hF 90 d_X14_rowInitial_83 (by decide) rfl rfl (fun c => ?_) (fun c => ?_)
        · have w18 := w17.1 c
          refine g_iconst hF (v := 0) d_X14_rowInitial_90 (by decide) ?_
          exact g_zret hF rfl (k_nz (Or.inl rfl)) d_X14_rowInitial_91 ⟨(0 : Int32), rfl, (Or.inl rfl), w18⟩
        · have w19 := w17.2 c
          refine g_iconst hF (v := 1) d_X14_rowInitial_86 (by decide) ?_
          refine g_goto hF 91 d_X14_rowInitial_87 (by decide) ?_
          exact g_zret hF rfl (k_nz (Or.inr rfl)) d_X14_rowInitial_91 ⟨(1 : Int32), rfl, (Or.inr rfl), w19⟩
    refine g_icmp_eq (yv := 58) hF 45 d_X14_rowInitial_26 (by decide) rfl (by decide) (fun c => ?_) (fun c => ?_)
    · have w20 := w13.1 c
      exact b45  w20
    · have w21 := w13.2 c
      refine g_aload_n hF d_X14_rowInitial_29 rfl 0 rfl ?_
      refine g_get (v := .ref (r 2)) hF 3 obM_0 (by decide) m_1868 rfl d_X14_rowInitial_30 ?_
      refine g_aload_n hF d_X14_rowInitial_33 rfl 0 rfl ?_
      refine g_get (v := .int (σ 0 10)) hF 10 obM_0 (by decide) m_1875 rfl d_X14_rowInitial_34 ?_
      refine g_iconst hF (v := 1) d_X14_rowInitial_37 (by decide) ?_
      refine g_iadd hF d_X14_rowInitial_38 ?_
      have w22 := w21.2
      refine g_iald hF arM_2 (s_in (Nat.le_of_ble_eq_true rfl) w21.1.1 w21.1.2) d_X14_rowInitial_39 ?_
      refine g_top (v := (σ 2 ((σ 0 10) + (1 : Int32)).toNatClampNeg)) rfl ?_
      refine g_bipush hF (v := 59) d_X14_rowInitial_40 (by decide) ?_
      refine g_icmp_ne (yv := 59) hF 92 d_X14_rowInitial_42 (by decide) rfl (by decide) (fun c => ?_) (fun c => ?_)
      · have w23 := w22.1 c
        exact b92  w23
      · have w24 := w22.2 c
        exact b45  w24
def wp_variable (a1 : Int32) (a2 : Int32) (a3 : Int32) (a4 : Int32) (a5 : Int32) (σ τ : St) (vs : List Nat) (Q : St → St → List Nat → Prop) (T : St → St → List Nat → Prop) : Prop :=
  wp_is (24 : Int32) σ τ vs (fun v12 => (∃ J95 : Int32 → Int32 → Int32 → St → St → List Nat → Prop, (∀ (x6_95 : Int32) (x7_95 : Int32) (x8_95 : Int32) (s95 t95 : St) (z95 : List Nat), x8_95 = 0 ∨ x8_95 = 1 → J95 x6_95 x7_95 x8_95 s95 t95 z95 → ((∃ J119 : Int32 → Prop, (∀ (y0_119 : Int32), y0_119 = 0 ∨ y0_119 = 1 → J119 y0_119 → ((∃ J141 : Int32 → Prop, (∀ (y0_141 : Int32), J141 y0_141 → ((∃ J170 : Int32 → St → St → List Nat → Prop, (∀ (y0_170 : Int32) (s170 t170 : St) (z170 : List Nat), J170 y0_170 s170 t170 z170 → ((∃ J232 : St → St → List Nat → Prop, (∀ (s232 t232 : St) (z232 : List Nat), J232 s232 t232 z232 → ((∃ J260 : St → St → List Nat → Prop, (∀ (s260 t260 : St) (z260 : List Nat), J260 s260 t260 z260 → ((∃ J285 : St → St → List Nat → Prop, (∀ (s285 t285 : St) (z285 : List Nat), J285 s285 t285 z285 → (wp_is (30 : Int32) s285 t285 z285 (fun v288 => (v288.toInt ≠ 0 → (∃ J343 : Int32 → St → St → List Nat → Prop, (∀ (y0_343 : Int32) (s343 t343 : St) (z343 : List Nat), y0_343 = 0 ∨ y0_343 = 1 → J343 y0_343 s343 t343 z343 → ((∃ J361 : Int32 → Prop, (∀ (y1_361 : Int32), y1_361 = 0 ∨ y1_361 = 1 → J361 y1_361 → (wp_must y1_361 (s285 0 10) s343 t343 z343 (fun s363 t363 z363 => Q s363 t363 z363))) ∧ (∃ J360 : Prop, (J360  → (J361 (0 : Int32))) ∧ (y0_343.toInt = 0 → J360) ∧ (y0_343.toInt ≠ 0 → (a4.toInt ≠ 0 → J360) ∧ (a4.toInt = 0 → J361 (1 : Int32))))))) ∧ (x6_95.toInt < 0 → wp_oneInitial a2 y0_170 a5 (upC s285 0 10 ((s285 0 10) + (1 : Int32))) t285 z285 (fun v340 s340 t340 z340 => J343 v340 s340 t340 z340) T) ∧ (0 ≤ x6_95.toInt → wp_rowInitial a2 (if y0_141 < (1 : Int32) then (1 : Int32) else y0_141) y0_170 a5 (upC s285 0 10 ((s285 0 10) + (1 : Int32))) t285 z285 (fun v328 s328 t328 z328 => J343 v328 s328 t328 z328) T))) ∧ (v288.toInt = 0 → Q s285 t285 z285)))) ∧ (a5.toInt = 0 → J285 s260 t260 z260) ∧ (a5.toInt ≠ 0 → (y0_170.toInt < 0 → J285 s260 t260 z260) ∧ (0 ≤ y0_170.toInt → wp_hold a1 y0_170 s260 t260 z260 (fun s274 t274 z274 => wp_put_1 (8 : Int32) y0_170 s274 t274 z274 (fun s282 t282 z282 => J285 s282 t282 z282))))))) ∧ (a5.toInt ≠ 0 → J260 s232 t232 z232) ∧ (a5.toInt = 0 → (y0_170.toInt < 0 → J260 s232 t232 z232) ∧ (0 ≤ y0_170.toInt → (a4.toInt ≠ 0 → J260 s232 t232 z232) ∧ (a4.toInt = 0 → wp_lay y0_170 a1 (if y0_141 < (1 : Int32) then (1 : Int32) else y0_141) s232 t232 z232 (fun s257 t257 z257 => J260 s257 t257 z257))))))) ∧ (x6_95.toInt < 0 → J232 s170 t170 z170) ∧ (0 ≤ x6_95.toInt → (∃ J192 : St → St → List Nat → Prop, (∀ (s192 t192 : St) (z192 : List Nat), J192 s192 t192 z192 → ((∃ J227 : Int32 → Prop, (∀ (y1_227 : Int32), y1_227 = 0 ∨ y1_227 = 1 → J227 y1_227 → (wp_must y1_227 x6_95 s192 t192 z192 (fun s229 t229 z229 => J232 s229 t229 z229))) ∧ (∃ J222 : Prop, (J222  → (J227 (1 : Int32))) ∧ (y0_119.toInt ≠ 0 → J222) ∧ (y0_119.toInt = 0 → (∃ J226 : Prop, (J226  → (J227 (0 : Int32))) ∧ (x8_95.toInt ≠ 0 → J226) ∧ (x8_95.toInt = 0 → (x7_95.toInt ≠ 0 → J226) ∧ (x7_95.toInt = 0 → (a4.toInt ≠ 0 → J222) ∧ (a4.toInt = 0 → wp_is (30 : Int32) s192 t192 z192 (fun v216 => (v216.toInt = 0 → J226) ∧ (v216.toInt ≠ 0 → J222))))))))))) ∧ (x7_95.toInt ≤ 4000 → J192 s170 t170 z170) ∧ (4000 < x7_95.toInt → wp_tell (4 : Int32) x6_95 s170 t170 z170 (fun s189 t189 z189 => J192 s189 t189 z189))))))) ∧ (a5.toInt = 0 → wp_globalName a1 a2 y0_141 a3 a4 s95 t95 z95 (fun v167 s167 t167 z167 => J170 v167 s167 t167 z167)) ∧ (a5.toInt ≠ 0 → wp_localName a1 a2 y0_141 s95 t95 z95 (fun v153 s153 t153 z153 => J170 v153 s153 t153 z153))))) ∧ (0 ≤ x6_95.toInt → (y0_119.toInt = 0 → J141 (0 : Int32)) ∧ (y0_119.toInt ≠ 0 → J141 x7_95)) ∧ (x6_95.toInt < 0 → J141 ((-1) : Int32))))) ∧ (∃ J114 : Prop, (J114  → (J119 (1 : Int32))) ∧ (x6_95.toInt < 0 → J114) ∧ (0 ≤ x6_95.toInt → (∃ J118 : Prop, (J118  → (J119 (0 : Int32))) ∧ (x7_95.toInt < 1 → J118) ∧ (1 ≤ x7_95.toInt → (4000 < x7_95.toInt → J118) ∧ (x7_95.toInt ≤ 4000 → J114)))))))) ∧ (v12.toInt = 0 → J95 ((-1) : Int32) ((-1) : Int32) (1 : Int32) σ τ vs) ∧ (v12.toInt ≠ 0 → wp_is (25 : Int32) (upC σ 0 10 ((σ 0 10) + (1 : Int32))) τ vs (fun v37 => (∃ J48 : Int32 → Prop, (∀ (y0_48 : Int32), y0_48 = 0 ∨ y0_48 = 1 → J48 y0_48 → ((∃ J63 : Int32 → St → St → List Nat → Prop, (∀ (y0_63 : Int32) (s63 t63 : St) (z63 : List Nat), J63 y0_63 s63 t63 z63 → (wp_expect (25 : Int32) s63 t63 z63 (fun s68 t68 z68 => (y0_48.toInt ≠ 0 → J95 (σ 0 10) y0_63 y0_48 s68 t68 z68) ∧ (y0_48.toInt = 0 → wp_is (30 : Int32) s68 t68 z68 (fun v79 => (v79.toInt = 0 → J95 (σ 0 10) y0_63 y0_48 s68 t68 z68) ∧ (v79.toInt ≠ 0 → wp_told s68 t68 z68 (fun v86 => J95 (σ 0 10) (if v86 < (0 : Int32) then (0 : Int32) else v86) y0_48 s68 t68 z68))))) T)) ∧ (y0_48.toInt = 0 → J63 (0 : Int32) (upC σ 0 10 ((σ 0 10) + (1 : Int32))) τ vs) ∧ (y0_48.toInt ≠ 0 → wp_sizeAt (upC σ 0 10 ((σ 0 10) + (1 : Int32))) τ vs (fun v56 s56 t56 z56 => J63 v56 s56 t56 z56) T)))) ∧ (v37.toInt ≠ 0 → J48 (0 : Int32)) ∧ (v37.toInt = 0 → J48 (1 : Int32)))))))
set_option maxHeartbeats 4000000 in
set_option maxRecDepth 100000 in
theorem ct_variable (a : Nat → Nat) (r : Nat → Nat) {a1 : Int32} {a2 : Int32} {a3 : Int32} {a4 : Int32} {a5 : Int32} {σ τ : St} {vs : List Nat} {Q : St → St → List Nat → Prop} {T : St → St → List Nat → Prop} (hcap : vs.length ≤ CAP) (w : wp_variable a1 a2 a3 a4 a5 σ τ vs Q T) (l : Launch) (D : va_G) (cy : Nat → ClassId) : Ct l D cy SM r (EM a) y_X14_variable (Cond.code y_X14_variable b_X14_variable 14 none) 608 [.ref (r 0), .int a1, .int a2, .int a3, .int a4, .int a5] σ τ vs (QVs Q) T := by
  unfold wp_variable at w
  refine Ct_of (EM_ok a) (by decide) (Nat.le_of_ble_eq_true rfl) hcap (fun X hnn hF => ?_)
  show G SM r X σ τ vs [(0, .ref (r 0)), (1, .int a1), (2, .int a2), (3, .int a3), (4, .int a4), (5, .int a5)] [] 0
  refine g_iconst hF (v := (-1)) d_X14_variable_0 (by decide) ?_
  refine g_istore hF [(6, .int (-1)), (0, .ref (r 0)), (1, .int a1), (2, .int a2), (3, .int a3), (4, .int a4), (5, .int a5)] d_X14_variable_1 hnn (by decide) rfl ?_
  refine g_iconst hF (v := (-1)) d_X14_variable_3 (by decide) ?_
  refine g_istore hF [(7, .int (-1)), (6, .int (-1)), (0, .ref (r 0)), (1, .int a1), (2, .int a2), (3, .int a3), (4, .int a4), (5, .int a5)] d_X14_variable_4 hnn (by decide) rfl ?_
  refine g_iconst hF (v := 1) d_X14_variable_6 (by decide) ?_
  refine g_istore hF [(8, .int 1), (7, .int (-1)), (6, .int (-1)), (0, .ref (r 0)), (1, .int a1), (2, .int a2), (3, .int a3), (4, .int a4), (5, .int a5)] d_X14_variable_7 hnn (by decide) rfl ?_
  refine g_aload_n hF d_X14_variable_9 rfl 3 rfl ?_
  refine g_bipush hF (v := 24) d_X14_variable_10 (by decide) ?_
  refine g_callV (As := [.int 24]) (rest := []) hF (fun l D cy => (ct_is a r hcap w) l D cy) (Nat.le_of_ble_eq_true rfl) mV_X14_is m_2289 (recv_ob obM_0) rfl rfl (Nat.le_of_ble_eq_true rfl) d_X14_variable_12 (krZ (fun v12 hz12 w1 => ?_)) (fun _ _ _ h => h.elim)
  obtain ⟨J95, h95, w2⟩ := w1
  have b95 : ∀ (x6_95 : Int32) (x7_95 : Int32) (x8_95 : Int32) (s95 t95 : St) (z95 : List Nat), x8_95 = 0 ∨ x8_95 = 1 → J95 x6_95 x7_95 x8_95 s95 t95 z95 → G SM r X s95 t95 z95 [(0, .ref (r 0)), (1, .int a1), (2, .int a2), (3, .int a3), (4, .int a4), (5, .int a5), (6, .int x6_95), (7, .int x7_95), (8, .int x8_95)] [] 95 := by
    intro x6_95 x7_95 x8_95 s95 t95 z95 hx8_95 w95_
    have w95_ := h95 x6_95 x7_95 x8_95 s95 t95 z95 hx8_95 w95_
    refine g_iload hF d_X14_variable_95 6 rfl ?_
    obtain ⟨J119, h119, w3⟩ := w95_
    have b119 : ∀ (y0_119 : Int32), y0_119 = 0 ∨ y0_119 = 1 → J119 y0_119 → G SM r X s95 t95 z95 [(0, .ref (r 0)), (1, .int a1), (2, .int a2), (3, .int a3), (4, .int a4), (5, .int a5), (6, .int x6_95), (7, .int x7_95), (8, .int x8_95)] [.int y0_119] 119 := by
      intro y0_119 hy0_119 w119_
      have w119_ := h119 y0_119 hy0_119 w119_
      refine g_istore hF [(9, .int y0_119), (0, .ref (r 0)), (1, .int a1), (2, .int a2), (3, .int a3), (4, .int a4), (5, .int a5), (6, .int x6_95), (7, .int x7_95), (8, .int x8_95)] d_X14_variable_119 hnn (by decide) rfl ?_
      refine g_iload hF d_X14_variable_121 7 rfl ?_
      obtain ⟨J141, h141, w4⟩ := w119_
      have b141 : ∀ (y0_141 : Int32), J141 y0_141 → G SM r X s95 t95 z95 [(0, .ref (r 0)), (1, .int a1), (2, .int a2), (3, .int a3), (4, .int a4), (5, .int a5), (6, .int x6_95), (7, .int x7_95), (8, .int x8_95), (9, .int y0_119)] [.int y0_141] 141 := by
        intro y0_141  w141_
        have w141_ := h141 y0_141  w141_
        refine g_istore hF [(10, .int y0_141), (0, .ref (r 0)), (1, .int a1), (2, .int a2), (3, .int a3), (4, .int a4), (5, .int a5), (6, .int x6_95), (7, .int x7_95), (8, .int x8_95), (9, .int y0_119)] d_X14_variable_141 hnn (by decide) rfl ?_
        refine g_iload hF d_X14_variable_143 6 rfl ?_
        obtain ⟨J170, h170, w5⟩ := w141_
        have b170 : ∀ (y0_170 : Int32) (s170 t170 : St) (z170 : List Nat), J170 y0_170 s170 t170 z170 → G SM r X s170 t170 z170 [(0, .ref (r 0)), (1, .int a1), (2, .int a2), (4, .int a4), (5, .int a5), (6, .int x6_95), (7, .int x7_95), (8, .int x8_95), (9, .int y0_119), (10, .int y0_141)] [.int y0_170] 170 := by
          intro y0_170 s170 t170 z170  w170_
          have w170_ := h170 y0_170 s170 t170 z170  w170_
          refine g_istore hF [(11, .int y0_170), (0, .ref (r 0)), (1, .int a1), (2, .int a2), (4, .int a4), (5, .int a5), (6, .int x6_95), (7, .int x7_95), (8, .int x8_95), (9, .int y0_119), (10, .int y0_141)] d_X14_variable_170 hnn (by decide) rfl ?_
          refine g_iload hF d_X14_variable_172 6 rfl ?_
          obtain ⟨J232, h232, w6⟩ := w170_
          have b232 : ∀ (s232 t232 : St) (z232 : List Nat), J232 s232 t232 z232 → G SM r X s232 t232 z232 [(0, .ref (r 0)), (1, .int a1), (2, .int a2), (4, .int a4), (5, .int a5), (6, .int x6_95), (10, .int y0_141), (11, .int y0_170)] [] 232 := by
            intro s232 t232 z232  w232_
            have w232_ := h232 s232 t232 z232  w232_
            refine g_iload hF d_X14_variable_232 4 rfl ?_
            obtain ⟨J260, h260, w7⟩ := w232_
            have b260 : ∀ (s260 t260 : St) (z260 : List Nat), J260 s260 t260 z260 → G SM r X s260 t260 z260 [(0, .ref (r 0)), (1, .int a1), (2, .int a2), (4, .int a4), (5, .int a5), (6, .int x6_95), (10, .int y0_141), (11, .int y0_170)] [] 260 := by
              intro s260 t260 z260  w260_
              have w260_ := h260 s260 t260 z260  w260_
              refine g_iload hF d_X14_variable_260 4 rfl ?_
              obtain ⟨J285, h285, w8⟩ := w260_
              have b285 : ∀ (s285 t285 : St) (z285 : List Nat), J285 s285 t285 z285 → G SM r X s285 t285 z285 [(0, .ref (r 0)), (2, .int a2), (4, .int a4), (5, .int a5), (6, .int x6_95), (10, .int y0_141), (11, .int y0_170)] [] 285 := by
                intro s285 t285 z285  w285_
                have w285_ := h285 s285 t285 z285  w285_
                refine g_aload_n hF d_X14_variable_285 rfl 0 rfl ?_
                refine g_bipush hF (v := 30) d_X14_variable_286 (by decide) ?_
                refine g_cap (fun hc8 => ?_)
                refine g_callV (As := [.int 30]) (rest := []) hF (fun l D cy => (ct_is a r hc8 w285_) l D cy) (Nat.le_of_ble_eq_true rfl) mV_X14_is m_2289 (recv_ob obM_0) rfl rfl (Nat.le_of_ble_eq_true rfl) d_X14_variable_288 (krZ (fun v288 hz288 w10 => ?_)) (fun _ _ _ h => h.elim)
                refine g_if_ne hF 295 d_X14_variable_291 (by decide) rfl (fun c => ?_) (fun c => ?_)
                · have w11 := w10.1 c
                  refine g_aload_n hF d_X14_variable_295 rfl 0 rfl ?_
                  refine g_get (v := .int (s285 0 10)) hF 10 obM_0 (by decide) m_1875 rfl d_X14_variable_296 ?_
                  refine g_istore hF [(12, .int (s285 0 10)), (0, .ref (r 0)), (2, .int a2), (4, .int a4), (5, .int a5), (6, .int x6_95), (10, .int y0_141), (11, .int y0_170)] d_X14_variable_299 hnn (by decide) rfl ?_
                  refine g_aload_n hF d_X14_variable_301 rfl 1 rfl ?_
                  refine g_dup hF d_X14_variable_302 rfl ?_
                  refine g_get (v := .int (s285 0 10)) hF 10 obM_0 (by decide) m_1875 rfl d_X14_variable_303 ?_
                  refine g_iconst hF (v := 1) d_X14_variable_306 (by decide) ?_
                  refine g_iadd hF d_X14_variable_307 ?_
                  refine g_put (v := ((s285 0 10) + (1 : Int32))) hF 10 obM_0 (by decide) m_1875 rfl rfl rfl d_X14_variable_308 ?_
                  refine g_iload hF d_X14_variable_311 5 rfl ?_
                  obtain ⟨J343, h343, w12⟩ := w11
                  have b343 : ∀ (y0_343 : Int32) (s343 t343 : St) (z343 : List Nat), y0_343 = 0 ∨ y0_343 = 1 → J343 y0_343 s343 t343 z343 → G SM r X s343 t343 z343 [(0, .ref (r 0)), (4, .int a4), (12, .int (s285 0 10))] [.int y0_343] 343 := by
                    intro y0_343 s343 t343 z343 hy0_343 w343_
                    have w343_ := h343 y0_343 s343 t343 z343 hy0_343 w343_
                    refine g_istore hF [(13, .int y0_343), (0, .ref (r 0)), (4, .int a4), (12, .int (s285 0 10))] d_X14_variable_343 hnn (by decide) rfl ?_
                    refine g_aload_n hF d_X14_variable_345 rfl 1 rfl ?_
                    refine g_iload hF d_X14_variable_346 0 rfl ?_
                    obtain ⟨J361, h361, w13⟩ := w343_
                    have b361 : ∀ (y1_361 : Int32), y1_361 = 0 ∨ y1_361 = 1 → J361 y1_361 → G SM r X s343 t343 z343 [(12, .int (s285 0 10))] [.int y1_361, .ref (r 0)] 361 := by
                      intro y1_361 hy1_361 w361_
                      have w361_ := h361 y1_361 hy1_361 w361_
                      refine g_iload hF d_X14_variable_361 0 rfl ?_
                      refine g_cap (fun hc13 => ?_)
                      refine g_callV (As := [.int y1_361, .int (s285 0 10)]) (rest := []) hF (fun l D cy => (ct_must a r hc13 w361_) l D cy) (Nat.le_of_ble_eq_true rfl) mV_X14_must m_2313 (recv_ob obM_0) rfl rfl (Nat.le_of_ble_eq_true rfl) d_X14_variable_363 (kV (fun s363 t363 z363 w15 => ?_)) (fun _ _ _ h => h.elim)
                      exact g_vret hF rfl d_X14_variable_366 ⟨rfl, w15⟩
                    obtain ⟨J360, h360, w16⟩ := w13
                    have b360 : J360  → G SM r X s343 t343 z343 [(12, .int (s285 0 10))] [.ref (r 0)] 360 := by
                      intro   w360_
                      have w360_ := h360   w360_
                      refine g_iconst hF (v := 0) d_X14_variable_360 (by decide) ?_
                      exact b361 (0 : Int32) (Or.inl rfl) w360_
                    refine g_if_eq hF 360 d_X14_variable_348 (by decide) rfl (fun c => ?_) (fun c => ?_)
                    · have w17 := w16.1 c
                      exact g_sub (L' := [(12, .int (s285 0 10))]) [3] rfl (b360  w17)
                    · have w18 := w16.2 c
                      refine g_iload hF d_X14_variable_351 2 rfl ?_
                      refine g_if_ne hF 360 d_X14_variable_353 (by decide) rfl (fun c => ?_) (fun c => ?_)
                      · have w19 := w18.1 c
                        exact g_sub (L' := [(12, .int (s285 0 10))]) [3] rfl (b360  w19)
                      · have w20 := w18.2 c
                        refine g_iconst hF (v := 1) d_X14_variable_356 (by decide) ?_
                        refine g_goto hF 361 d_X14_variable_357 (by decide) ?_
                        exact g_sub (L' := [(12, .int (s285 0 10))]) [3] rfl (b361 (1 : Int32) (Or.inr rfl) w20)
                  refine g_if_lt hF 334 d_X14_variable_313 (by decide) rfl (fun c => ?_) (fun c => ?_)
                  · have w21 := w12.1 c
                    refine g_aload_n hF d_X14_variable_334 rfl 1 rfl ?_
                    refine g_iload_n hF d_X14_variable_335 rfl 2 rfl ?_
                    refine g_iload hF d_X14_variable_336 7 rfl ?_
                    refine g_iload hF d_X14_variable_338 4 rfl ?_
                    refine g_callV (As := [.int a2, .int y0_170, .int a5]) (rest := []) hF (fun l D cy => (ct_oneInitial a r hc8 w21) l D cy) (Nat.le_of_ble_eq_true rfl) mV_X14_oneInitial m_2584 (recv_ob obM_0) rfl rfl (Nat.le_of_ble_eq_true rfl) d_X14_variable_340 (kZ (fun v340 s340 t340 z340 hz340 w22 => ?_)) (fun σ9 τ9 vs9 h9 => g_out hF stopM rfl h9)
                    exact g_sub (L' := [(0, .ref (r 0)), (4, .int a4), (12, .int (s285 0 10))]) [1, 3, 0] rfl (b343 v340 s340 t340 z340 hz340 w22)
                  · have w23 := w12.2 c
                    refine g_aload_n hF d_X14_variable_316 rfl 1 rfl ?_
                    refine g_iload_n hF d_X14_variable_317 rfl 2 rfl ?_
                    refine g_iload hF d_X14_variable_318 6 rfl ?_
                    refine g_iconst hF (v := 1) d_X14_variable_320 (by decide) ?_
                    refine g_mmax hF (Nat.le_of_ble_eq_true rfl) m_2432 m_1131 m_23 m_1132 (Nat.le_of_ble_eq_true rfl) d_X14_variable_321 ?_
                    refine g_iload hF d_X14_variable_324 7 rfl ?_
                    refine g_iload hF d_X14_variable_326 4 rfl ?_
                    refine g_callV (As := [.int a2, .int (if y0_141 < (1 : Int32) then (1 : Int32) else y0_141), .int y0_170, .int a5]) (rest := []) hF (fun l D cy => (ct_rowInitial a r hc8 w23) l D cy) (Nat.le_of_ble_eq_true rfl) mV_X14_rowInitial m_2564 (recv_ob obM_0) rfl rfl (Nat.le_of_ble_eq_true rfl) d_X14_variable_328 (kZ (fun v328 s328 t328 z328 hz328 w24 => ?_)) (fun σ9 τ9 vs9 h9 => g_out hF stopM rfl h9)
                    refine g_goto hF 343 d_X14_variable_331 (by decide) ?_
                    exact g_sub (L' := [(0, .ref (r 0)), (4, .int a4), (12, .int (s285 0 10))]) [1, 3, 0] rfl (b343 v328 s328 t328 z328 hz328 w24)
                · have w25 := w10.2 c
                  exact g_vret hF rfl d_X14_variable_294 ⟨rfl, w25⟩
              refine g_if_eq hF 285 d_X14_variable_262 (by decide) rfl (fun c => ?_) (fun c => ?_)
              · have w26 := w8.1 c
                exact g_sub (L' := [(0, .ref (r 0)), (2, .int a2), (4, .int a4), (5, .int a5), (6, .int x6_95), (10, .int y0_141), (11, .int y0_170)]) [0, 2, 3, 4, 5, 6, 7] rfl (b285 s260 t260 z260 w26)
              · have w27 := w8.2 c
                refine g_iload hF d_X14_variable_265 7 rfl ?_
                refine g_if_lt hF 285 d_X14_variable_267 (by decide) rfl (fun c => ?_) (fun c => ?_)
                · have w28 := w27.1 c
                  exact g_sub (L' := [(0, .ref (r 0)), (2, .int a2), (4, .int a4), (5, .int a5), (6, .int x6_95), (10, .int y0_141), (11, .int y0_170)]) [0, 2, 3, 4, 5, 6, 7] rfl (b285 s260 t260 z260 w28)
                · have w29 := w27.2 c
                  refine g_aload_n hF d_X14_variable_270 rfl 0 rfl ?_
                  refine g_iload_n hF d_X14_variable_271 rfl 1 rfl ?_
                  refine g_iload hF d_X14_variable_272 7 rfl ?_
                  refine g_cap (fun hc29 => ?_)
                  refine g_callV (As := [.int a1, .int y0_170]) (rest := []) hF (fun l D cy => (ct_hold a r hc29 w29) l D cy) (Nat.le_of_ble_eq_true rfl) mV_X14_hold m_2337 (recv_ob obM_0) rfl rfl (Nat.le_of_ble_eq_true rfl) d_X14_variable_274 (kV (fun s274 t274 z274 w31 => ?_)) (fun _ _ _ h => h.elim)
                  refine g_aload_n hF d_X14_variable_277 rfl 0 rfl ?_
                  refine g_bipush hF (v := 8) d_X14_variable_278 (by decide) ?_
                  refine g_iload hF d_X14_variable_280 7 rfl ?_
                  refine g_cap (fun hc31 => ?_)
                  refine g_callV (As := [.int 8, .int y0_170]) (rest := []) hF (fun l D cy => (ct_put_1 a r hc31 w31) l D cy) (Nat.le_of_ble_eq_true rfl) mV_X14_put_1 m_2433 (recv_ob obM_0) rfl rfl (Nat.le_of_ble_eq_true rfl) d_X14_variable_282 (kV (fun s282 t282 z282 w33 => ?_)) (fun _ _ _ h => h.elim)
                  exact g_sub (L' := [(0, .ref (r 0)), (2, .int a2), (4, .int a4), (5, .int a5), (6, .int x6_95), (10, .int y0_141), (11, .int y0_170)]) [0, 2, 3, 4, 5, 6, 7] rfl (b285 s282 t282 z282 w33)
            refine g_if_ne hF 260 d_X14_variable_234 (by decide) rfl (fun c => ?_) (fun c => ?_)
            · have w34 := w7.1 c
              exact b260 s232 t232 z232 w34
            · have w35 := w7.2 c
              refine g_iload hF d_X14_variable_237 7 rfl ?_
              refine g_if_lt hF 260 d_X14_variable_239 (by decide) rfl (fun c => ?_) (fun c => ?_)
              · have w36 := w35.1 c
                exact b260 s232 t232 z232 w36
              · have w37 := w35.2 c
                refine g_iload hF d_X14_variable_242 3 rfl ?_
                refine g_if_ne hF 260 d_X14_variable_244 (by decide) rfl (fun c => ?_) (fun c => ?_)
                · have w38 := w37.1 c
                  exact b260 s232 t232 z232 w38
                · have w39 := w37.2 c
                  refine g_aload_n hF d_X14_variable_247 rfl 0 rfl ?_
                  refine g_iload hF d_X14_variable_248 7 rfl ?_
                  refine g_iload_n hF d_X14_variable_250 rfl 1 rfl ?_
                  refine g_iload hF d_X14_variable_251 6 rfl ?_
                  refine g_iconst hF (v := 1) d_X14_variable_253 (by decide) ?_
                  refine g_mmax hF (Nat.le_of_ble_eq_true rfl) m_2432 m_1131 m_23 m_1132 (Nat.le_of_ble_eq_true rfl) d_X14_variable_254 ?_
                  refine g_cap (fun hc39 => ?_)
                  refine g_callV (As := [.int y0_170, .int a1, .int (if y0_141 < (1 : Int32) then (1 : Int32) else y0_141)]) (rest := []) hF (fun l D cy => (ct_lay a r hc39 w39) l D cy) (Nat.le_of_ble_eq_true rfl) mV_X14_lay m_2560 (recv_ob obM_0) rfl rfl (Nat.le_of_ble_eq_true rfl) d_X14_variable_257 (kV (fun s257 t257 z257 w41 => ?_)) (fun _ _ _ h => h.elim)
                  exact b260 s257 t257 z257 w41
          refine g_if_lt hF 232 d_X14_variable_174 (by decide) rfl (fun c => ?_) (fun c => ?_)
          · have w42 := w6.1 c
            exact g_sub (L' := [(0, .ref (r 0)), (1, .int a1), (2, .int a2), (4, .int a4), (5, .int a5), (6, .int x6_95), (10, .int y0_141), (11, .int y0_170)]) [1, 2, 3, 4, 5, 6, 10, 0] rfl (b232 s170 t170 z170 w42)
          · have w43 := w6.2 c
            refine g_iload hF d_X14_variable_177 7 rfl ?_
            refine g_sipush hF (v := 4000) d_X14_variable_179 (by decide) ?_
            obtain ⟨J192, h192, w44⟩ := w43
            have b192 : ∀ (s192 t192 : St) (z192 : List Nat), J192 s192 t192 z192 → G SM r X s192 t192 z192 [(0, .ref (r 0)), (1, .int a1), (2, .int a2), (4, .int a4), (5, .int a5), (6, .int x6_95), (7, .int x7_95), (8, .int x8_95), (9, .int y0_119), (10, .int y0_141), (11, .int y0_170)] [] 192 := by
              intro s192 t192 z192  w192_
              have w192_ := h192 s192 t192 z192  w192_
              refine g_aload_n hF d_X14_variable_192 rfl 0 rfl ?_
              refine g_iload hF d_X14_variable_193 8 rfl ?_
              obtain ⟨J227, h227, w45⟩ := w192_
              have b227 : ∀ (y1_227 : Int32), y1_227 = 0 ∨ y1_227 = 1 → J227 y1_227 → G SM r X s192 t192 z192 [(0, .ref (r 0)), (1, .int a1), (2, .int a2), (4, .int a4), (5, .int a5), (6, .int x6_95), (10, .int y0_141), (11, .int y0_170)] [.int y1_227, .ref (r 0)] 227 := by
                intro y1_227 hy1_227 w227_
                have w227_ := h227 y1_227 hy1_227 w227_
                refine g_iload hF d_X14_variable_227 5 rfl ?_
                refine g_cap (fun hc45 => ?_)
                refine g_callV (As := [.int y1_227, .int x6_95]) (rest := []) hF (fun l D cy => (ct_must a r hc45 w227_) l D cy) (Nat.le_of_ble_eq_true rfl) mV_X14_must m_2313 (recv_ob obM_0) rfl rfl (Nat.le_of_ble_eq_true rfl) d_X14_variable_229 (kV (fun s229 t229 z229 w47 => ?_)) (fun _ _ _ h => h.elim)
                exact b232 s229 t229 z229 w47
              obtain ⟨J222, h222, w48⟩ := w45
              have b222 : J222  → G SM r X s192 t192 z192 [(0, .ref (r 0)), (1, .int a1), (2, .int a2), (4, .int a4), (5, .int a5), (6, .int x6_95), (10, .int y0_141), (11, .int y0_170)] [.ref (r 0)] 222 := by
                intro   w222_
                have w222_ := h222   w222_
                refine g_iconst hF (v := 1) d_X14_variable_222 (by decide) ?_
                refine g_goto hF 227 d_X14_variable_223 (by decide) ?_
                exact b227 (1 : Int32) (Or.inr rfl) w222_
              refine g_if_ne hF 222 d_X14_variable_195 (by decide) rfl (fun c => ?_) (fun c => ?_)
              · have w49 := w48.1 c
                exact g_sub (L' := [(0, .ref (r 0)), (1, .int a1), (2, .int a2), (4, .int a4), (5, .int a5), (6, .int x6_95), (10, .int y0_141), (11, .int y0_170)]) [0, 1, 2, 3, 4, 5, 9, 10] rfl (b222  w49)
              · have w50 := w48.2 c
                refine g_iload hF d_X14_variable_198 7 rfl ?_
                obtain ⟨J226, h226, w51⟩ := w50
                have b226 : J226  → G SM r X s192 t192 z192 [(0, .ref (r 0)), (1, .int a1), (2, .int a2), (4, .int a4), (5, .int a5), (6, .int x6_95), (10, .int y0_141), (11, .int y0_170)] [.ref (r 0)] 226 := by
                  intro   w226_
                  have w226_ := h226   w226_
                  refine g_iconst hF (v := 0) d_X14_variable_226 (by decide) ?_
                  exact b227 (0 : Int32) (Or.inl rfl) w226_
                refine g_if_ne hF 226 d_X14_variable_200 (by decide) rfl (fun c => ?_) (fun c => ?_)
                · have w52 := w51.1 c
                  exact g_sub (L' := [(0, .ref (r 0)), (1, .int a1), (2, .int a2), (4, .int a4), (5, .int a5), (6, .int x6_95), (10, .int y0_141), (11, .int y0_170)]) [0, 1, 2, 3, 4, 5, 9, 10] rfl (b226  w52)
                · have w53 := w51.2 c
                  refine g_iload hF d_X14_variable_203 6 rfl ?_
                  refine g_if_ne hF 226 d_X14_variable_205 (by decide) rfl (fun c => ?_) (fun c => ?_)
                  · have w54 := w53.1 c
                    exact g_sub (L' := [(0, .ref (r 0)), (1, .int a1), (2, .int a2), (4, .int a4), (5, .int a5), (6, .int x6_95), (10, .int y0_141), (11, .int y0_170)]) [0, 1, 2, 3, 4, 5, 9, 10] rfl (b226  w54)
                  · have w55 := w53.2 c
                    refine g_iload hF d_X14_variable_208 3 rfl ?_
                    refine g_if_ne hF 222 d_X14_variable_210 (by decide) rfl (fun c => ?_) (fun c => ?_)
                    · have w56 := w55.1 c
                      exact g_sub (L' := [(0, .ref (r 0)), (1, .int a1), (2, .int a2), (4, .int a4), (5, .int a5), (6, .int x6_95), (10, .int y0_141), (11, .int y0_170)]) [0, 1, 2, 3, 4, 5, 9, 10] rfl (b222  w56)
                    · have w57 := w55.2 c
                      refine g_aload_n hF d_X14_variable_213 rfl 0 rfl ?_
                      refine g_bipush hF (v := 30) d_X14_variable_214 (by decide) ?_
                      refine g_cap (fun hc57 => ?_)
                      refine g_callV (As := [.int 30]) (rest := [.ref (r 0)]) hF (fun l D cy => (ct_is a r hc57 w57) l D cy) (Nat.le_of_ble_eq_true rfl) mV_X14_is m_2289 (recv_ob obM_0) rfl rfl (Nat.le_of_ble_eq_true rfl) d_X14_variable_216 (krZ (fun v216 hz216 w59 => ?_)) (fun _ _ _ h => h.elim)
                      refine g_if_eq hF 226 d_X14_variable_219 (by decide) rfl (fun c => ?_) (fun c => ?_)
                      · have w60 := w59.1 c
                        exact g_sub (L' := [(0, .ref (r 0)), (1, .int a1), (2, .int a2), (4, .int a4), (5, .int a5), (6, .int x6_95), (10, .int y0_141), (11, .int y0_170)]) [0, 1, 2, 3, 4, 5, 9, 10] rfl (b226  w60)
                      · have w61 := w59.2 c
                        exact g_sub (L' := [(0, .ref (r 0)), (1, .int a1), (2, .int a2), (4, .int a4), (5, .int a5), (6, .int x6_95), (10, .int y0_141), (11, .int y0_170)]) [0, 1, 2, 3, 4, 5, 9, 10] rfl (b222  w61)
            refine g_icmp_le (yv := 4000) hF 192 d_X14_variable_182 (by decide) rfl (by decide) (fun c => ?_) (fun c => ?_)
            · have w62 := w44.1 c
              exact g_sub (L' := [(0, .ref (r 0)), (1, .int a1), (2, .int a2), (4, .int a4), (5, .int a5), (6, .int x6_95), (7, .int x7_95), (8, .int x8_95), (9, .int y0_119), (10, .int y0_141), (11, .int y0_170)]) [1, 2, 3, 4, 5, 6, 7, 8, 9, 10, 0] rfl (b192 s170 t170 z170 w62)
            · have w63 := w44.2 c
              refine g_aload_n hF d_X14_variable_185 rfl 1 rfl ?_
              refine g_iconst hF (v := 4) d_X14_variable_186 (by decide) ?_
              refine g_iload hF d_X14_variable_187 6 rfl ?_
              refine g_cap (fun hc63 => ?_)
              refine g_callV (As := [.int 4, .int x6_95]) (rest := []) hF (fun l D cy => (ct_tell a r hc63 w63) l D cy) (Nat.le_of_ble_eq_true rfl) mV_X14_tell m_2317 (recv_ob obM_0) rfl rfl (Nat.le_of_ble_eq_true rfl) d_X14_variable_189 (kV (fun s189 t189 z189 w65 => ?_)) (fun _ _ _ h => h.elim)
              exact g_sub (L' := [(0, .ref (r 0)), (1, .int a1), (2, .int a2), (4, .int a4), (5, .int a5), (6, .int x6_95), (7, .int x7_95), (8, .int x8_95), (9, .int y0_119), (10, .int y0_141), (11, .int y0_170)]) [1, 2, 3, 4, 5, 6, 7, 8, 9, 10, 0] rfl (b192 s189 t189 z189 w65)
        refine g_if_eq hF 159 d_X14_variable_145 (by decide) rfl (fun c => ?_) (fun c => ?_)
        · have w66 := w5.1 c
          refine g_aload_n hF d_X14_variable_159 rfl 1 rfl ?_
          refine g_iload_n hF d_X14_variable_160 rfl 2 rfl ?_
          refine g_iload_n hF d_X14_variable_161 rfl 3 rfl ?_
          refine g_iload hF d_X14_variable_162 0 rfl ?_
          refine g_iload_n hF d_X14_variable_164 rfl 4 rfl ?_
          refine g_iload hF d_X14_variable_165 5 rfl ?_
          refine g_cap (fun hc66 => ?_)
          refine g_callV (As := [.int a1, .int a2, .int y0_141, .int a3, .int a4]) (rest := []) hF (fun l D cy => (ct_globalName a r hc66 w66) l D cy) (Nat.le_of_ble_eq_true rfl) mV_X14_globalName m_2556 (recv_ob obM_0) rfl rfl (Nat.le_of_ble_eq_true rfl) d_X14_variable_167 (kI (fun v167 s167 t167 z167 w68 => ?_)) (fun _ _ _ h => h.elim)
          exact g_sub (L' := [(0, .ref (r 0)), (1, .int a1), (2, .int a2), (4, .int a4), (5, .int a5), (6, .int x6_95), (7, .int x7_95), (8, .int x8_95), (9, .int y0_119), (10, .int y0_141)]) [1, 2, 3, 5, 6, 7, 8, 9, 10, 0] rfl (b170 v167 s167 t167 z167 w68)
        · have w69 := w5.2 c
          refine g_aload_n hF d_X14_variable_148 rfl 1 rfl ?_
          refine g_iload_n hF d_X14_variable_149 rfl 2 rfl ?_
          refine g_iload_n hF d_X14_variable_150 rfl 3 rfl ?_
          refine g_iload hF d_X14_variable_151 0 rfl ?_
          refine g_cap (fun hc69 => ?_)
          refine g_callV (As := [.int a1, .int a2, .int y0_141]) (rest := []) hF (fun l D cy => (ct_localName a r hc69 w69) l D cy) (Nat.le_of_ble_eq_true rfl) mV_X14_localName m_2552 (recv_ob obM_0) rfl rfl (Nat.le_of_ble_eq_true rfl) d_X14_variable_153 (kI (fun v153 s153 t153 z153 w71 => ?_)) (fun _ _ _ h => h.elim)
          refine g_goto hF 170 d_X14_variable_156 (by decide) ?_
          exact g_sub (L' := [(0, .ref (r 0)), (1, .int a1), (2, .int a2), (4, .int a4), (5, .int a5), (6, .int x6_95), (7, .int x7_95), (8, .int x8_95), (9, .int y0_119), (10, .int y0_141)]) [1, 2, 3, 5, 6, 7, 8, 9, 10, 0] rfl (b170 v153 s153 t153 z153 w71)
      refine g_if_ge hF 130 d_X14_variable_123 (by decide) rfl (fun c => ?_) (fun c => ?_)
      · have w72 := w4.1 c
        refine g_iload hF d_X14_variable_130 0 rfl ?_
        refine g_if_eq hF 140 d_X14_variable_132 (by decide) rfl (fun c => ?_) (fun c => ?_)
        · have w73 := w72.1 c
          refine g_iconst hF (v := 0) d_X14_variable_140 (by decide) ?_
          exact g_sub (L' := [(0, .ref (r 0)), (1, .int a1), (2, .int a2), (3, .int a3), (4, .int a4), (5, .int a5), (6, .int x6_95), (7, .int x7_95), (8, .int x8_95), (9, .int y0_119)]) [1, 2, 3, 4, 5, 6, 7, 8, 9, 0] rfl (b141 (0 : Int32) w73)
        · have w74 := w72.2 c
          refine g_iload hF d_X14_variable_135 8 rfl ?_
          refine g_goto hF 141 d_X14_variable_137 (by decide) ?_
          exact g_sub (L' := [(0, .ref (r 0)), (1, .int a1), (2, .int a2), (3, .int a3), (4, .int a4), (5, .int a5), (6, .int x6_95), (7, .int x7_95), (8, .int x8_95), (9, .int y0_119)]) [1, 2, 3, 4, 5, 6, 7, 8, 9, 0] rfl (b141 x7_95 w74)
      · have w75 := w4.2 c
        refine g_iconst hF (v := (-1)) d_X14_variable_126 (by decide) ?_
        refine g_goto hF 141 d_X14_variable_127 (by decide) ?_
        exact g_sub (L' := [(0, .ref (r 0)), (1, .int a1), (2, .int a2), (3, .int a3), (4, .int a4), (5, .int a5), (6, .int x6_95), (7, .int x7_95), (8, .int x8_95), (9, .int y0_119)]) [1, 2, 3, 4, 5, 6, 7, 8, 9, 0] rfl (b141 ((-1) : Int32) w75)
    obtain ⟨J114, h114, w76⟩ := w3
    have b114 : J114  → G SM r X s95 t95 z95 [(0, .ref (r 0)), (1, .int a1), (2, .int a2), (3, .int a3), (4, .int a4), (5, .int a5), (6, .int x6_95), (7, .int x7_95), (8, .int x8_95)] [] 114 := by
      intro   w114_
      have w114_ := h114   w114_
      refine g_iconst hF (v := 1) d_X14_variable_114 (by decide) ?_
      refine g_goto hF 119 d_X14_variable_115 (by decide) ?_
      exact b119 (1 : Int32) (Or.inr rfl) w114_
    refine g_if_lt hF 114 d_X14_variable_97 (by decide) rfl (fun c => ?_) (fun c => ?_)
    · have w77 := w76.1 c
      exact b114  w77
    · have w78 := w76.2 c
      refine g_iload hF d_X14_variable_100 7 rfl ?_
      refine g_iconst hF (v := 1) d_X14_variable_102 (by decide) ?_
      obtain ⟨J118, h118, w79⟩ := w78
      have b118 : J118  → G SM r X s95 t95 z95 [(0, .ref (r 0)), (1, .int a1), (2, .int a2), (3, .int a3), (4, .int a4), (5, .int a5), (6, .int x6_95), (7, .int x7_95), (8, .int x8_95)] [] 118 := by
        intro   w118_
        have w118_ := h118   w118_
        refine g_iconst hF (v := 0) d_X14_variable_118 (by decide) ?_
        exact b119 (0 : Int32) (Or.inl rfl) w118_
      refine g_icmp_lt (yv := 1) hF 118 d_X14_variable_103 (by decide) rfl (by decide) (fun c => ?_) (fun c => ?_)
      · have w80 := w79.1 c
        exact b118  w80
      · have w81 := w79.2 c
        refine g_iload hF d_X14_variable_106 7 rfl ?_
        refine g_sipush hF (v := 4000) d_X14_variable_108 (by decide) ?_
        refine g_icmp_gt (yv := 4000) hF 118 d_X14_variable_111 (by decide) rfl (by decide) (fun c => ?_) (fun c => ?_)
        · have w82 := w81.1 c
          exact b118  w82
        · have w83 := w81.2 c
          exact b114  w83
  refine g_if_eq hF 95 d_X14_variable_15 (by decide) rfl (fun c => ?_) (fun c => ?_)
  · have w84 := w2.1 c
    exact g_sub (L' := [(0, .ref (r 0)), (1, .int a1), (2, .int a2), (3, .int a3), (4, .int a4), (5, .int a5), (6, .int (-1)), (7, .int (-1)), (8, .int 1)]) [3, 4, 5, 6, 7, 8, 2, 1, 0] rfl (b95 ((-1) : Int32) ((-1) : Int32) (1 : Int32) σ τ vs (Or.inr rfl) w84)
  · have w85 := w2.2 c
    refine g_aload_n hF d_X14_variable_18 rfl 3 rfl ?_
    refine g_get (v := .int (σ 0 10)) hF 10 obM_0 (by decide) m_1875 rfl d_X14_variable_19 ?_
    refine g_istore hF [(6, .int (σ 0 10)), (8, .int 1), (7, .int (-1)), (0, .ref (r 0)), (1, .int a1), (2, .int a2), (3, .int a3), (4, .int a4), (5, .int a5)] d_X14_variable_22 hnn (by decide) rfl ?_
    refine g_aload_n hF d_X14_variable_24 rfl 3 rfl ?_
    refine g_dup hF d_X14_variable_25 rfl ?_
    refine g_get (v := .int (σ 0 10)) hF 10 obM_0 (by decide) m_1875 rfl d_X14_variable_26 ?_
    refine g_iconst hF (v := 1) d_X14_variable_29 (by decide) ?_
    refine g_iadd hF d_X14_variable_30 ?_
    refine g_put (v := ((σ 0 10) + (1 : Int32))) hF 10 obM_0 (by decide) m_1875 rfl rfl rfl d_X14_variable_31 ?_
    refine g_aload_n hF d_X14_variable_34 rfl 3 rfl ?_
    refine g_bipush hF (v := 25) d_X14_variable_35 (by decide) ?_
    refine g_callV (As := [.int 25]) (rest := []) hF (fun l D cy => (ct_is a r hcap w85) l D cy) (Nat.le_of_ble_eq_true rfl) mV_X14_is m_2289 (recv_ob obM_0) rfl rfl (Nat.le_of_ble_eq_true rfl) d_X14_variable_37 (krZ (fun v37 hz37 w86 => ?_)) (fun _ _ _ h => h.elim)
    obtain ⟨J48, h48, w87⟩ := w86
    have b48 : ∀ (y0_48 : Int32), y0_48 = 0 ∨ y0_48 = 1 → J48 y0_48 → G SM r X (upC σ 0 10 ((σ 0 10) + (1 : Int32))) τ vs [(0, .ref (r 0)), (1, .int a1), (2, .int a2), (3, .int a3), (4, .int a4), (5, .int a5), (6, .int (σ 0 10))] [.int y0_48] 48 := by
      intro y0_48 hy0_48 w48_
      have w48_ := h48 y0_48 hy0_48 w48_
      refine g_istore hF [(8, .int y0_48), (0, .ref (r 0)), (1, .int a1), (2, .int a2), (3, .int a3), (4, .int a4), (5, .int a5), (6, .int (σ 0 10))] d_X14_variable_48 hnn (by decide) rfl ?_
      refine g_iload hF d_X14_variable_50 0 rfl ?_
      obtain ⟨J63, h63, w88⟩ := w48_
      have b63 : ∀ (y0_63 : Int32) (s63 t63 : St) (z63 : List Nat), J63 y0_63 s63 t63 z63 → G SM r X s63 t63 z63 [(0, .ref (r 0)), (1, .int a1), (2, .int a2), (3, .int a3), (4, .int a4), (5, .int a5), (6, .int (σ 0 10)), (8, .int y0_48)] [.int y0_63] 63 := by
        intro y0_63 s63 t63 z63  w63_
        have w63_ := h63 y0_63 s63 t63 z63  w63_
        refine g_istore hF [(7, .int y0_63), (0, .ref (r 0)), (1, .int a1), (2, .int a2), (3, .int a3), (4, .int a4), (5, .int a5), (6, .int (σ 0 10)), (8, .int y0_48)] d_X14_variable_63 hnn (by decide) rfl ?_
        refine g_aload_n hF d_X14_variable_65 rfl 1 rfl ?_
        refine g_bipush hF (v := 25) d_X14_variable_66 (by decide) ?_
        refine g_cap (fun hc88 => ?_)
        refine g_callV (As := [.int 25]) (rest := []) hF (fun l D cy => (ct_expect a r hc88 w63_) l D cy) (Nat.le_of_ble_eq_true rfl) mV_X14_expect m_2285 (recv_ob obM_0) rfl rfl (Nat.le_of_ble_eq_true rfl) d_X14_variable_68 (kV (fun s68 t68 z68 w90 => ?_)) (fun σ9 τ9 vs9 h9 => g_out hF stopM rfl h9)
        refine g_iload hF d_X14_variable_71 8 rfl ?_
        refine g_if_ne hF 95 d_X14_variable_73 (by decide) rfl (fun c => ?_) (fun c => ?_)
        · have w91 := w90.1 c
          exact g_sub (L' := [(0, .ref (r 0)), (1, .int a1), (2, .int a2), (3, .int a3), (4, .int a4), (5, .int a5), (6, .int (σ 0 10)), (7, .int y0_63), (8, .int y0_48)]) [1, 2, 3, 4, 5, 6, 7, 0, 8] rfl (b95 (σ 0 10) y0_63 y0_48 s68 t68 z68 hy0_48 w91)
        · have w92 := w90.2 c
          refine g_aload_n hF d_X14_variable_76 rfl 1 rfl ?_
          refine g_bipush hF (v := 30) d_X14_variable_77 (by decide) ?_
          refine g_cap (fun hc92 => ?_)
          refine g_callV (As := [.int 30]) (rest := []) hF (fun l D cy => (ct_is a r hc92 w92) l D cy) (Nat.le_of_ble_eq_true rfl) mV_X14_is m_2289 (recv_ob obM_0) rfl rfl (Nat.le_of_ble_eq_true rfl) d_X14_variable_79 (krZ (fun v79 hz79 w94 => ?_)) (fun _ _ _ h => h.elim)
          refine g_if_eq hF 95 d_X14_variable_82 (by decide) rfl (fun c => ?_) (fun c => ?_)
          · have w95 := w94.1 c
            exact g_sub (L' := [(0, .ref (r 0)), (1, .int a1), (2, .int a2), (3, .int a3), (4, .int a4), (5, .int a5), (6, .int (σ 0 10)), (7, .int y0_63), (8, .int y0_48)]) [1, 2, 3, 4, 5, 6, 7, 0, 8] rfl (b95 (σ 0 10) y0_63 y0_48 s68 t68 z68 hy0_48 w95)
          · have w96 := w94.2 c
            refine g_aload_n hF d_X14_variable_85 rfl 1 rfl ?_
            refine g_callV (As := []) (rest := []) hF (fun l D cy => (ct_told a r hc92 w96) l D cy) (Nat.le_of_ble_eq_true rfl) mV_X14_told m_2548 (recv_ob obM_0) rfl rfl (Nat.le_of_ble_eq_true rfl) d_X14_variable_86 (krI (fun v86 w97 => ?_)) (fun _ _ _ h => h.elim)
            refine g_iconst hF (v := 0) d_X14_variable_89 (by decide) ?_
            refine g_mmax hF (Nat.le_of_ble_eq_true rfl) m_2432 m_1131 m_23 m_1132 (Nat.le_of_ble_eq_true rfl) d_X14_variable_90 ?_
            refine g_istore hF [(7, .int (if v86 < (0 : Int32) then (0 : Int32) else v86)), (0, .ref (r 0)), (1, .int a1), (2, .int a2), (3, .int a3), (4, .int a4), (5, .int a5), (6, .int (σ 0 10)), (8, .int y0_48)] d_X14_variable_93 hnn (by decide) rfl ?_
            exact g_sub (L' := [(0, .ref (r 0)), (1, .int a1), (2, .int a2), (3, .int a3), (4, .int a4), (5, .int a5), (6, .int (σ 0 10)), (7, .int (if v86 < (0 : Int32) then (0 : Int32) else v86)), (8, .int y0_48)]) [1, 2, 3, 4, 5, 6, 7, 0, 8] rfl (b95 (σ 0 10) (if v86 < (0 : Int32) then (0 : Int32) else v86) y0_48 s68 t68 z68 hy0_48 w97)
      refine g_if_eq hF 62 d_X14_variable_52 (by decide) rfl (fun c => ?_) (fun c => ?_)
      · have w98 := w88.1 c
        refine g_iconst hF (v := 0) d_X14_variable_62 (by decide) ?_
        exact g_sub (L' := [(0, .ref (r 0)), (1, .int a1), (2, .int a2), (3, .int a3), (4, .int a4), (5, .int a5), (6, .int (σ 0 10)), (8, .int y0_48)]) [1, 2, 3, 4, 5, 6, 7, 0] rfl (b63 (0 : Int32) (upC σ 0 10 ((σ 0 10) + (1 : Int32))) τ vs w98)
      · have w99 := w88.2 c
        refine g_aload_n hF d_X14_variable_55 rfl 1 rfl ?_
        refine g_callV (As := []) (rest := []) hF (fun l D cy => (ct_sizeAt a r hcap w99) l D cy) (Nat.le_of_ble_eq_true rfl) mV_X14_sizeAt m_2357 (recv_ob obM_0) rfl rfl (Nat.le_of_ble_eq_true rfl) d_X14_variable_56 (kI (fun v56 s56 t56 z56 w100 => ?_)) (fun σ9 τ9 vs9 h9 => g_out hF stopM rfl h9)
        refine g_goto hF 63 d_X14_variable_59 (by decide) ?_
        exact g_sub (L' := [(0, .ref (r 0)), (1, .int a1), (2, .int a2), (3, .int a3), (4, .int a4), (5, .int a5), (6, .int (σ 0 10)), (8, .int y0_48)]) [1, 2, 3, 4, 5, 6, 7, 0] rfl (b63 v56 s56 t56 z56 w100)
    refine g_if_ne hF 47 d_X14_variable_40 (by decide) rfl (fun c => ?_) (fun c => ?_)
    · have w101 := w87.1 c
      refine g_iconst hF (v := 0) d_X14_variable_47 (by decide) ?_
      exact g_sub (L' := [(0, .ref (r 0)), (1, .int a1), (2, .int a2), (3, .int a3), (4, .int a4), (5, .int a5), (6, .int (σ 0 10))]) [3, 4, 5, 6, 7, 8, 0] rfl (b48 (0 : Int32) (Or.inl rfl) w101)
    · have w102 := w87.2 c
      refine g_iconst hF (v := 1) d_X14_variable_43 (by decide) ?_
      refine g_goto hF 48 d_X14_variable_44 (by decide) ?_
      exact g_sub (L' := [(0, .ref (r 0)), (1, .int a1), (2, .int a2), (3, .int a3), (4, .int a4), (5, .int a5), (6, .int (σ 0 10))]) [3, 4, 5, 6, 7, 8, 0] rfl (b48 (1 : Int32) (Or.inr rfl) w102)
def wp_variables (a1 : Int32) (a2 : Int32) (a3 : Int32) (σ τ : St) (vs : List Nat) (Q : St → St → List Nat → Prop) (T : St → St → List Nat → Prop) : Prop :=
  ∃ L3 : Nat → Int32 → St → St → List Nat → Prop, (∃ n, L3 n (1 : Int32) σ τ vs) ∧ ∀ (n3 : Nat) (x4_3 : Int32) (s3 t3 : St) (z3 : List Nat), x4_3 = 0 ∨ x4_3 = 1 → L3 n3 x4_3 s3 t3 z3 → ((x4_3.toInt = 0 → wp_expect (27 : Int32) s3 t3 z3 (fun s73 t73 z73 => Q s73 t73 z73) T) ∧ (x4_3.toInt ≠ 0 → wp_stars s3 t3 z3 (fun v9 s9 t9 z9 => ((0 ≤ (s9 0 10).toInt ∧ (s9 0 10).toInt < 16002) ∧ ((s9 2 (s9 0 10).toNatClampNeg).toInt = 2 → wp_variable (s9 0 10) v9 a1 a2 a3 (upC s9 0 10 ((s9 0 10) + (1 : Int32))) t9 z9 (fun s56 t56 z56 => wp_accept (26 : Int32) s56 t56 z56 (fun v62 s62 t62 z62 => ∃ m, m < n3 ∧ L3 m v62 s62 t62 z62)) T) ∧ ((s9 2 (s9 0 10).toNatClampNeg).toInt ≠ 2 → wp_wrong s9 t9 z9 (fun s28 t28 z28 => T s28 t28 z28)))) T))
set_option maxHeartbeats 4000000 in
set_option maxRecDepth 100000 in
theorem ct_variables (a : Nat → Nat) (r : Nat → Nat) {a1 : Int32} {a2 : Int32} {a3 : Int32} {σ τ : St} {vs : List Nat} {Q : St → St → List Nat → Prop} {T : St → St → List Nat → Prop} (hcap : vs.length ≤ CAP) (w : wp_variables a1 a2 a3 σ τ vs Q T) (l : Launch) (D : va_G) (cy : Nat → ClassId) : Ct l D cy SM r (EM a) y_X14_variables (Cond.code y_X14_variables b_X14_variables 7 none) 609 [.ref (r 0), .int a1, .int a2, .int a3] σ τ vs (QVs Q) T := by
  unfold wp_variables at w
  refine Ct_of (EM_ok a) (by decide) (Nat.le_of_ble_eq_true rfl) hcap (fun X hnn hF => ?_)
  show G SM r X σ τ vs [(0, .ref (r 0)), (1, .int a1), (2, .int a2), (3, .int a3)] [] 0
  refine g_iconst hF (v := 1) d_X14_variables_0 (by decide) ?_
  refine g_istore hF [(4, .int 1), (0, .ref (r 0)), (1, .int a1), (2, .int a2), (3, .int a3)] d_X14_variables_1 hnn (by decide) rfl ?_
  obtain ⟨L3, ⟨i3, u3⟩, h3⟩ := w
  have b3 : ∀ (n3 : Nat) (x4_3 : Int32) (s3 t3 : St) (z3 : List Nat), x4_3 = 0 ∨ x4_3 = 1 → L3 n3 x4_3 s3 t3 z3 → G SM r X s3 t3 z3 [(0, .ref (r 0)), (1, .int a1), (2, .int a2), (3, .int a3), (4, .int x4_3)] [] 3 := by
    intro n3
    induction n3 using Nat.strongRecOn with
    | _ n3 ih3 =>
      intro x4_3 s3 t3 z3 hx4_3 w3_
      have w3_ := h3 n3 x4_3 s3 t3 z3 hx4_3 w3_
      refine g_iload hF d_X14_variables_3 4 rfl ?_
      refine g_if_eq hF 70 d_X14_variables_5 (by decide) rfl (fun c => ?_) (fun c => ?_)
      · have w1 := w3_.1 c
        refine g_aload_n hF d_X14_variables_70 rfl 0 rfl ?_
        refine g_bipush hF (v := 27) d_X14_variables_71 (by decide) ?_
        refine g_cap (fun hc1 => ?_)
        refine g_callV (As := [.int 27]) (rest := []) hF (fun l D cy => (ct_expect a r hc1 w1) l D cy) (Nat.le_of_ble_eq_true rfl) mV_X14_expect m_2285 (recv_ob obM_0) rfl rfl (Nat.le_of_ble_eq_true rfl) d_X14_variables_73 (kV (fun s73 t73 z73 w3 => ?_)) (fun σ9 τ9 vs9 h9 => g_out hF stopM rfl h9)
        exact g_vret hF rfl d_X14_variables_76 ⟨rfl, w3⟩
      · have w4 := w3_.2 c
        refine g_aload_n hF d_X14_variables_8 rfl 0 rfl ?_
        refine g_cap (fun hc4 => ?_)
        refine g_callV (As := []) (rest := []) hF (fun l D cy => (ct_stars a r hc4 w4) l D cy) (Nat.le_of_ble_eq_true rfl) mV_X14_stars m_2297 (recv_ob obM_0) rfl rfl (Nat.le_of_ble_eq_true rfl) d_X14_variables_9 (kI (fun v9 s9 t9 z9 w6 => ?_)) (fun σ9 τ9 vs9 h9 => g_out hF stopM rfl h9)
        refine g_istore hF [(5, .int v9), (0, .ref (r 0)), (1, .int a1), (2, .int a2), (3, .int a3), (4, .int x4_3)] d_X14_variables_12 hnn (by decide) rfl ?_
        refine g_aload_n hF d_X14_variables_14 rfl 1 rfl ?_
        refine g_get (v := .ref (r 2)) hF 3 obM_0 (by decide) m_1868 rfl d_X14_variables_15 ?_
        refine g_aload_n hF d_X14_variables_18 rfl 1 rfl ?_
        refine g_get (v := .int (s9 0 10)) hF 10 obM_0 (by decide) m_1875 rfl d_X14_variables_19 ?_
        have w7 := w6.2
        refine g_iald hF arM_2 (s_in (Nat.le_of_ble_eq_true rfl) w6.1.1 w6.1.2) d_X14_variables_22 ?_
        refine g_top (v := (s9 2 (s9 0 10).toNatClampNeg)) rfl ?_
        refine g_iconst hF (v := 2) d_X14_variables_23 (by decide) ?_
        refine g_icmp_eq (yv := 2) hF 32 d_X14_variables_24 (by decide) rfl (by decide) (fun c => ?_) (fun c => ?_)
        · have w8 := w7.1 c
          refine g_aload_n hF d_X14_variables_32 rfl 1 rfl ?_
          refine g_get (v := .int (s9 0 10)) hF 10 obM_0 (by decide) m_1875 rfl d_X14_variables_33 ?_
          refine g_istore hF [(6, .int (s9 0 10)), (5, .int v9), (0, .ref (r 0)), (1, .int a1), (2, .int a2), (3, .int a3), (4, .int x4_3)] d_X14_variables_36 hnn (by decide) rfl ?_
          refine g_aload_n hF d_X14_variables_38 rfl 2 rfl ?_
          refine g_dup hF d_X14_variables_39 rfl ?_
          refine g_get (v := .int (s9 0 10)) hF 10 obM_0 (by decide) m_1875 rfl d_X14_variables_40 ?_
          refine g_iconst hF (v := 1) d_X14_variables_43 (by decide) ?_
          refine g_iadd hF d_X14_variables_44 ?_
          refine g_put (v := ((s9 0 10) + (1 : Int32))) hF 10 obM_0 (by decide) m_1875 rfl rfl rfl d_X14_variables_45 ?_
          refine g_aload_n hF d_X14_variables_48 rfl 2 rfl ?_
          refine g_iload hF d_X14_variables_49 0 rfl ?_
          refine g_iload hF d_X14_variables_51 1 rfl ?_
          refine g_iload_n hF d_X14_variables_53 rfl 3 rfl ?_
          refine g_iload_n hF d_X14_variables_54 rfl 4 rfl ?_
          refine g_iload_n hF d_X14_variables_55 rfl 5 rfl ?_
          refine g_cap (fun hc8 => ?_)
          refine g_callV (As := [.int (s9 0 10), .int v9, .int a1, .int a2, .int a3]) (rest := []) hF (fun l D cy => (ct_variable a r hc8 w8) l D cy) (Nat.le_of_ble_eq_true rfl) mV_X14_variable m_2353 (recv_ob obM_0) rfl rfl (Nat.le_of_ble_eq_true rfl) d_X14_variables_56 (kV (fun s56 t56 z56 w10 => ?_)) (fun σ9 τ9 vs9 h9 => g_out hF stopM rfl h9)
          refine g_aload_n hF d_X14_variables_59 rfl 2 rfl ?_
          refine g_bipush hF (v := 26) d_X14_variables_60 (by decide) ?_
          refine g_cap (fun hc10 => ?_)
          refine g_callV (As := [.int 26]) (rest := []) hF (fun l D cy => (ct_accept a r hc10 w10) l D cy) (Nat.le_of_ble_eq_true rfl) mV_X14_accept m_2293 (recv_ob obM_0) rfl rfl (Nat.le_of_ble_eq_true rfl) d_X14_variables_62 (kZ (fun v62 s62 t62 z62 hz62 w12 => ?_)) (fun _ _ _ h => h.elim)
          refine g_istore hF [(4, .int v62), (6, .int (s9 0 10)), (5, .int v9), (0, .ref (r 0)), (1, .int a1), (2, .int a2), (3, .int a3)] d_X14_variables_65 hnn (by decide) rfl ?_
          refine g_goto hF 3 d_X14_variables_67 (by decide) ?_
          obtain ⟨m3, hm3, w9⟩ := w12
          exact g_sub (L' := [(0, .ref (r 0)), (1, .int a1), (2, .int a2), (3, .int a3), (4, .int v62)]) [3, 4, 5, 6, 0] rfl (ih3 m3 hm3 v62 s62 t62 z62 hz62 w9)
        · have w13 := w7.2 c
          refine g_aload_n hF d_X14_variables_27 rfl 1 rfl ?_
          refine g_cap (fun hc13 => ?_)
          refine g_callV (As := []) (rest := []) hF (fun l D cy => (ct_wrong a r hc13 w13) l D cy) (Nat.le_of_ble_eq_true rfl) mV_X14_wrong m_2261 (recv_ob obM_0) rfl rfl (Nat.le_of_ble_eq_true rfl) d_X14_variables_28 (kX (fun s28 t28 z28 w15 => ?_)) (fun _ _ _ h => h.elim)
          exact g_athrow hF d_X14_variables_31 (g_out hF stopM rfl w15)
  exact g_sub (L' := [(0, .ref (r 0)), (1, .int a1), (2, .int a2), (3, .int a3), (4, .int 1)]) [1, 2, 3, 4, 0] rfl (b3 i3 (1 : Int32) σ τ vs (Or.inr rfl) u3)
