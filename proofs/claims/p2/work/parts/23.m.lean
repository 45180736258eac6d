set_option maxHeartbeats 4000000 in
set_option maxRecDepth 100000 in
theorem s_X1_local (l : Launch) (D : va_G) (cy : Nat → ClassId) (sz : Nat) (w : Nat → Nat) (g : Nat → Nat → Int32) (r : Nat → Nat) (σ0 : St) (x1 : Int32) (x2 : Int32) (i0 : Inv σ0) (z_x2 : x2 = 0 ∨ x2 = 1) : Met l y_X1_local (Cond.code y_X1_local b_X1_local 3 none :: GW) ({ frames := 3, cells := 0, slots := 0, locals := 71 } : Room) (va_Pc [.ref (r 8), .int x1, .int x2] (kPreE D cy sz (wB cy r σ0) (gE w g))) ((fun A : Nat → Prop => va_Qv (S := St) (fun (τ : St) => (Inv τ ∧ Keep [(4, 1), (6, 3), (6, 4), (6, 10), (6, 15), (8, 10)] [24, 40, 41, 42, 43, 44] σ0 τ)) (fun τ => kPost D cy A (wB cy r τ)) A) (va_A (wB cy r σ0) sz)) 0 0 (va_A (wB cy r σ0) sz) := by
  refine k_ofWE (Qc := fun A => va_Qv (S := St) (fun (τ : St) => (Inv τ ∧ Keep [(4, 1), (6, 3), (6, 4), (6, 10), (6, 15), (8, 10)] [24, 40, 41, 42, 43, 44] σ0 τ)) (fun τ => kPost D cy A (wB cy r τ)) A) (by decide) (Nat.le_of_ble_eq_true rfl) ?_
  intro p e s m below meth c A ls hx hb hr hml hown hlocks hin hg hNW hK hP hD hA hS hl hE
  have hl : lv_has ls 3 [(0, .ref (r 8)), (1, .int x1), (2, .int x2)] := hl
  have hown : s.vm.findClass "LinkedUnits$Declarations" = some m.cls := hown
  have kp : Keep [(4, 1), (6, 3), (6, 4), (6, 10), (6, 15), (8, 10)] [24, 40, 41, 42, 43, 44] σ0 σ0 := keep_rf
  obtain ⟨H, hH⟩ : ∃ H, H = s.heap := ⟨_, rfl⟩
  rw [← hH] at hP
  have hS : va_S A s.heap H [] := by rw [hH]; exact va_S.rf
  have hgoal : W p l e ({ frames := 3, cells := 0, slots := 0, locals := 71 } : Room) s m (([.ref (r 8), .int x1, .int x2] : List Value).toArray) below meth c H [] 0 0 (MQ below (va_Qv (S := St) (fun (τ : St) => (Inv τ ∧ Keep [(4, 1), (6, 3), (6, 4), (6, 10), (6, 15), (8, 10)] [24, 40, 41, 42, 43, 44] σ0 τ)) (fun τ => kPost D cy A (wB cy r τ)) A) (([.ref (r 8), .int x1, .int x2] : List Value).toArray) s 0 0 A) (F0 m 0 ls []) := by
    refine lv_aload_n hx hb d_X1_local_0 rfl (lv_at hl 0 rfl) ?_
    refine va_get (D := D) (ci := 1) (v := .ref (r 6)) (C := "LinkedUnits$Declarations") (T := TX1) (N := 18) hx hb hg iwX1 hown hK hP 7 rfl rfl 2 (by decide) (hg _ m_491) (fun _ h9 => h9) rfl d_X1_local_1 ?_
    refine lv_aload_n hx hb d_X1_local_4 rfl (lv_at hl 0 rfl) ?_
    refine va_get (D := D) (ci := 1) (v := .ref (r 6)) (C := "LinkedUnits$Declarations") (T := TX1) (N := 18) hx hb hg iwX1 hown hK hP 7 rfl rfl 2 (by decide) (hg _ m_491) (fun _ h9 => h9) rfl d_X1_local_5 ?_
    refine s_calli (X := Unit) (w1 := fun _ => wB cy r σ0) (va_runVN (As := []) (rest := [.ref (r 6)]) ⟨hx, hb, hml, hown, hg⟩ (s_X11_scopeStart l D cy H.size w g r σ0  i0 ) ⟨(va_cnB 0 hg (gw_c m_1368) rfl rfl rfl (hNW.1 _ nm_1365) (hg _ m_10) (by decide +kernel) ⟨(Nat.le_of_ble_eq_true rfl), (Nat.le_of_ble_eq_true rfl)⟩), (hg _ m_1367), hg _ ms_X11_scopeStart⟩ (s_preVE (As := []) (gE_ok w g) hS hA hE hP hD hK hNW 5 rfl rfl) rfl rfl hl.1 rfl (lv_room (Nat.le_of_ble_eq_true rfl)) d_X1_local_8 ⟨(Nat.le_of_ble_eq_true rfl), (Nat.le_of_ble_eq_true rfl)⟩) hP hD hS hA (fun r1 u1 H locs hw hP hD hS => ?_)
    have hP : va_P D vwCl (wB cy r σ0) H := hP
    have hD : va_D A (wB cy r σ0) := hD
    refine lv_iload_n hx hb d_X1_local_11 rfl (lv_at hl 1 rfl) ?_
    refine s_calli (X := Unit) (w1 := fun _ => wB cy r σ0) (va_runVN (As := [.int r1, .int x1]) (rest := []) ⟨hx, hb, hml, hown, hg⟩ (s_X11_localFrom l D cy H.size w g r σ0 r1 x1 i0 ) ⟨(va_cnB 2 hg (gw_c m_1111) rfl rfl rfl (hNW.1 _ nm_1369) (hg _ m_10) (by decide +kernel) ⟨(Nat.le_of_ble_eq_true rfl), (Nat.le_of_ble_eq_true rfl)⟩), (hg _ m_1110), hg _ ms_X11_localFrom⟩ (s_preVE (As := [.int r1, .int x1]) (gE_ok w g) hS hA hE hP hD hK hNW 5 rfl rfl) rfl rfl hl.1 rfl (lv_room (Nat.le_of_ble_eq_true rfl)) d_X1_local_12 ⟨(Nat.le_of_ble_eq_true rfl), (Nat.le_of_ble_eq_true rfl)⟩) hP hD hS hA (fun r2 u2 H locs hw hP hD hS => ?_)
    have hP : va_P D vwCl (wB cy r σ0) H := hP
    have hD : va_D A (wB cy r σ0) := hD
    refine lv_if_lt (tgt := 27) hx hb d_X1_local_15 (by decide) (fun c_15 => ?_) (fun c_15 => ?_)
    · -- taken at 15
      refine lv_aload_n hx hb d_X1_local_27 rfl (lv_at hl 0 rfl) ?_
      refine va_get (D := D) (ci := 1) (v := .ref (r 6)) (C := "LinkedUnits$Declarations") (T := TX1) (N := 18) hx hb hg iwX1 hown hK hP 7 rfl rfl 2 (by decide) (hg _ m_491) (fun _ h9 => h9) rfl d_X1_local_28 ?_
      refine va_getN (D := D) (ci := 11) (v := .int (σ0 6 10)) (C := "LinkedUnits$Unit") (T := TX11) (N := 19) hx hb hg iwX11 hown hK hP 5 rfl rfl 10 (by decide) (va_Nw.use rfl (hNW.1 _ nm_332)) (fun _ h9 => h9) rfl d_X1_local_31 ?_
      refine lv_bipush (v := 100) hx hb d_X1_local_34 (by decide) ?_
      refine lv_icmp_lt (tgt := 48) hx hb d_X1_local_36 (by decide) (fun c_36 => ?_) (fun c_36 => ?_)
      · -- taken at 36
        refine lv_aload_n hx hb d_X1_local_48 rfl (lv_at hl 0 rfl) ?_
        refine lv_iload_n hx hb d_X1_local_49 rfl (lv_at hl 2 rfl) ?_
        refine s_callv (X := St) (w1 := fun τ => wB cy r τ) (va_runV (As := [.int x2]) (rest := []) ⟨hx, hb, hml, hown, hg⟩ (s_X1_checkSquare l D cy H.size w g r σ0 x2 i0 z_x2) (cwV 1 hg (gw_V m_1371 m_1373 ms_X1_checkSquare m_13 m_1374) rfl rfl rfl (by decide +kernel) ⟨(Nat.le_of_ble_eq_true rfl), (Nat.le_of_ble_eq_true rfl)⟩) (s_preVE (As := [.int x2]) (gE_ok w g) hS hA hE hP hD hK hNW 7 rfl rfl) rfl rfl hl.1 rfl (lv_room (Nat.le_of_ble_eq_true rfl)) d_X1_local_50 ⟨(Nat.le_of_ble_eq_true rfl), (Nat.le_of_ble_eq_true rfl)⟩) hP hD hS hA (fun σ3 H locs hw hP hD hS => ?_)
        have hP : va_P D vwCl (wB cy r σ3) H := hP
        have hD : va_D A (wB cy r σ3) := hD
        have ik3 : Keep [(6, 3), (6, 4)] [] σ0 σ3 := hw.2
        have kp : Keep [(4, 1), (6, 3), (6, 4), (6, 10), (6, 15), (8, 10)] [24, 40, 41, 42, 43, 44] σ0 σ3 := keep_c kp ik3 (by decide) (by decide)
        have i3 : Inv σ3 := hw.1
        refine lv_aload_n hx hb d_X1_local_53 rfl (lv_at hl 0 rfl) ?_
        refine va_get (D := D) (ci := 1) (v := .ref (r 6)) (C := "LinkedUnits$Declarations") (T := TX1) (N := 18) hx hb hg iwX1 hown hK hP 7 rfl rfl 2 (by decide) (hg _ m_491) (fun _ h9 => h9) rfl d_X1_local_54 ?_
        refine va_getN (D := D) (ci := 11) (v := .int (σ3 6 3)) (C := "LinkedUnits$Unit") (T := TX11) (N := 19) hx hb hg iwX11 hown hK hP 5 rfl rfl 3 (by decide) (va_Nw.use rfl (hNW.1 _ nm_317)) (fun _ h9 => h9) rfl d_X1_local_57 ?_
        refine lv_if_eq (tgt := 64) hx hb d_X1_local_60 (by decide) (fun c_60 => ?_) (fun c_60 => ?_)
        · -- taken at 60
          refine lv_aload_n hx hb d_X1_local_64 rfl (lv_at hl 0 rfl) ?_
          refine lv_aload_n hx hb d_X1_local_65 rfl (lv_at hl 0 rfl) ?_
          refine va_get (D := D) (ci := 1) (v := .ref (r 6)) (C := "LinkedUnits$Declarations") (T := TX1) (N := 18) hx hb hg iwX1 hown hK hP 7 rfl rfl 2 (by decide) (hg _ m_491) (fun _ h9 => h9) rfl d_X1_local_66 ?_
          refine va_getN (D := D) (ci := 11) (v := .int (σ3 6 10)) (C := "LinkedUnits$Unit") (T := TX11) (N := 19) hx hb hg iwX11 hown hK hP 5 rfl rfl 10 (by decide) (va_Nw.use rfl (hNW.1 _ nm_332)) (fun _ h9 => h9) rfl d_X1_local_69 ?_
          refine k_topi (σ0 6 10) (ik3 6 10 rfl rfl) ?_
          refine va_put (D := D) (ci := 1) (v := .int (σ0 6 10)) (ty := .int) (C := "LinkedUnits$Declarations") (T := TX1) (N := 18) hx hb hg iwX1 tyX1 tyX1_ok nmX1 hown hK hP hD hS 7 rfl rfl 10 (by decide) (hg _ m_502) (fun _ h9 => h9) rfl (by decide +kernel) rfl rfl (Nat.le_of_ble_eq_true rfl) d_X1_local_72 (fun H locs hP hD hS => ?_)
          have hP : va_P D vwCl (wB cy r (upC σ3 8 10 (σ0 6 10))) H := hP
          have hD : va_D A (wB cy r (upC σ3 8 10 (σ0 6 10))) := hD
          have kp : Keep [(4, 1), (6, 3), (6, 4), (6, 10), (6, 15), (8, 10)] [24, 40, 41, 42, 43, 44] σ0 (upC σ3 8 10 (σ0 6 10)) := keep_f kp (by decide)
          refine lv_aload_n hx hb d_X1_local_75 rfl (lv_at hl 0 rfl) ?_
          refine va_get (D := D) (ci := 1) (v := .ref (r 6)) (C := "LinkedUnits$Declarations") (T := TX1) (N := 18) hx hb hg iwX1 hown hK hP 7 rfl rfl 2 (by decide) (hg _ m_491) (fun _ h9 => h9) rfl d_X1_local_76 ?_
          refine lv_iload_n hx hb d_X1_local_79 rfl (lv_at hl 1 rfl) ?_
          refine lv_aload_n hx hb d_X1_local_80 rfl (lv_at hl 0 rfl) ?_
          refine va_get (D := D) (ci := 1) (v := .int (σ3 8 11)) (C := "LinkedUnits$Declarations") (T := TX1) (N := 18) hx hb hg iwX1 hown hK hP 7 rfl rfl 11 (by decide) (hg _ m_503) (fun _ h9 => h9) rfl d_X1_local_81 ?_
          refine k_topi (σ0 8 11) (ik3 8 11 rfl rfl) ?_
          refine lv_aload_n hx hb d_X1_local_84 rfl (lv_at hl 0 rfl) ?_
          refine va_get (D := D) (ci := 1) (v := .int (σ3 8 12)) (C := "LinkedUnits$Declarations") (T := TX1) (N := 18) hx hb hg iwX1 hown hK hP 7 rfl rfl 12 (by decide) (hg _ m_504) (fun _ h9 => h9) rfl d_X1_local_85 ?_
          refine k_topi (σ0 8 12) (ik3 8 12 rfl rfl) ?_
          refine s_callv (X := St) (w1 := fun τ => wB cy r τ) (va_runVN (As := [.int x1, .int (σ0 8 11), .int (σ0 8 12)]) (rest := []) ⟨hx, hb, hml, hown, hg⟩ (s_X11_declareLocal l D cy H.size w g r (upC σ3 8 10 (σ0 6 10)) x1 (σ0 8 11) (σ0 8 12) i3 ) ⟨(va_cnB 3 hg (gw_c m_1378) rfl rfl rfl (hNW.1 _ nm_1375) (hg _ m_10) (by decide +kernel) ⟨(Nat.le_of_ble_eq_true rfl), (Nat.le_of_ble_eq_true rfl)⟩), (hg _ m_1377), hg _ ms_X11_declareLocal⟩ (s_preVE (As := [.int x1, .int (σ0 8 11), .int (σ0 8 12)]) (gE_ok w g) hS hA hE hP hD hK hNW 5 rfl rfl) rfl rfl hl.1 rfl (lv_room (Nat.le_of_ble_eq_true rfl)) d_X1_local_88 ⟨(Nat.le_of_ble_eq_true rfl), (Nat.le_of_ble_eq_true rfl)⟩) hP hD hS hA (fun σ4 H locs hw hP hD hS => ?_)
          have hP : va_P D vwCl (wB cy r σ4) H := hP
          have hD : va_D A (wB cy r σ4) := hD
          have ik4 : Keep [(6, 10), (6, 15)] [40, 41, 42, 43, 44] (upC σ3 8 10 (σ0 6 10)) σ4 := hw.2
          have kp : Keep [(4, 1), (6, 3), (6, 4), (6, 10), (6, 15), (8, 10)] [24, 40, 41, 42, 43, 44] σ0 σ4 := keep_c kp ik4 (by decide) (by decide)
          have i4 : Inv σ4 := hw.1
          refine lv_aload_n hx hb d_X1_local_91 rfl (lv_at hl 0 rfl) ?_
          refine va_get (D := D) (ci := 1) (v := .int (σ4 8 12)) (C := "LinkedUnits$Declarations") (T := TX1) (N := 18) hx hb hg iwX1 hown hK hP 7 rfl rfl 12 (by decide) (hg _ m_504) (fun _ h9 => h9) rfl d_X1_local_92 ?_
          refine k_topi (σ0 8 12) ((ik4 8 12 rfl rfl).trans (ik3 8 12 rfl rfl)) ?_
          refine lv_iconst (v := (-1)) hx hb d_X1_local_95 (by decide) ?_
          refine lv_icmp_ne (tgt := 118) hx hb d_X1_local_96 (by decide) (fun c_96 => ?_) (fun c_96 => ?_)
          · -- taken at 96
            refine lv_aload_n hx hb d_X1_local_118 rfl (lv_at hl 0 rfl) ?_
            refine va_get (D := D) (ci := 1) (v := .ref (r 4)) (C := "LinkedUnits$Declarations") (T := TX1) (N := 18) hx hb hg iwX1 hown hK hP 7 rfl rfl 4 (by decide) (hg _ m_493) (fun _ h9 => h9) rfl d_X1_local_119 ?_
            refine lv_bipush (v := 15) hx hb d_X1_local_122 (by decide) ?_
            refine lv_aload_n hx hb d_X1_local_124 rfl (lv_at hl 0 rfl) ?_
            refine va_get (D := D) (ci := 1) (v := .int (σ4 8 10)) (C := "LinkedUnits$Declarations") (T := TX1) (N := 18) hx hb hg iwX1 hown hK hP 7 rfl rfl 10 (by decide) (hg _ m_502) (fun _ h9 => h9) rfl d_X1_local_125 ?_
            refine k_topi (σ0 6 10) (ik4 8 10 rfl rfl) ?_
            refine lv_aload_n hx hb d_X1_local_128 rfl (lv_at hl 0 rfl) ?_
            refine va_get (D := D) (ci := 1) (v := .int (σ4 8 12)) (C := "LinkedUnits$Declarations") (T := TX1) (N := 18) hx hb hg iwX1 hown hK hP 7 rfl rfl 12 (by decide) (hg _ m_504) (fun _ h9 => h9) rfl d_X1_local_129 ?_
            refine k_topi (σ0 8 12) ((ik4 8 12 rfl rfl).trans (ik3 8 12 rfl rfl)) ?_
            refine lv_iconst (v := 0) hx hb d_X1_local_132 (by decide) ?_
            refine s_calli (X := St) (w1 := fun τ => wB cy r τ) (va_runVN (As := [.int 15, .int (σ0 6 10), .int (σ0 8 12), .int 0]) (rest := []) ⟨hx, hb, hml, hown, hg⟩ (s_X0_emit l D cy H.size w g r σ4 (15 : Int32) (σ0 6 10) (σ0 8 12) (0 : Int32) i4 ) ⟨(va_cnB 4 hg (gw_c m_1074) rfl rfl rfl (hNW.1 _ nm_1379) (hg _ m_4) (by decide +kernel) ⟨(Nat.le_of_ble_eq_true rfl), (Nat.le_of_ble_eq_true rfl)⟩), (hg _ m_1073), hg _ ms_X0_emit⟩ (s_preVE (As := [.int 15, .int (σ0 6 10), .int (σ0 8 12), .int 0]) (gE_ok w g) hS hA hE hP hD hK hNW 3 rfl rfl) rfl rfl hl.1 rfl (lv_room (Nat.le_of_ble_eq_true rfl)) d_X1_local_133 ⟨(Nat.le_of_ble_eq_true rfl), (Nat.le_of_ble_eq_true rfl)⟩) hP hD hS hA (fun r5 σ5 H locs hw hP hD hS => ?_)
            have hP : va_P D vwCl (wB cy r σ5) H := hP
            have hD : va_D A (wB cy r σ5) := hD
            have ik5 : Keep [(4, 1)] [24] σ4 σ5 := hw.2
            have kp : Keep [(4, 1), (6, 3), (6, 4), (6, 10), (6, 15), (8, 10)] [24, 40, 41, 42, 43, 44] σ0 σ5 := keep_c kp ik5 (by decide) (by decide)
            have i5 : Inv σ5 := hw.1
            refine lv_pop hx hb d_X1_local_136 rfl ?_
            refine W.widen (k := 0) (n := 0) (Nat.le_of_ble_eq_true rfl) (Nat.le_of_ble_eq_true rfl) ?_
            exact k_vret (X := St) (w1 := fun τ => wB cy r τ) σ5 hx hb hr d_X1_local_137 hlocks hP hK hD hS ⟨i5, kp⟩
          · -- not taken at 96
            refine lv_aload_n hx hb d_X1_local_99 rfl (lv_at hl 0 rfl) ?_
            refine va_get (D := D) (ci := 1) (v := .ref (r 4)) (C := "LinkedUnits$Declarations") (T := TX1) (N := 18) hx hb hg iwX1 hown hK hP 7 rfl rfl 4 (by decide) (hg _ m_493) (fun _ h9 => h9) rfl d_X1_local_100 ?_
            refine lv_iconst (v := 1) hx hb d_X1_local_103 (by decide) ?_
            refine lv_iconst (v := 0) hx hb d_X1_local_104 (by decide) ?_
            refine lv_iconst (v := 0) hx hb d_X1_local_105 (by decide) ?_
            refine lv_iconst (v := 0) hx hb d_X1_local_106 (by decide) ?_
            refine s_calli (X := St) (w1 := fun τ => wB cy r τ) (va_runVN (As := [.int 1, .int 0, .int 0, .int 0]) (rest := []) ⟨hx, hb, hml, hown, hg⟩ (s_X0_emit l D cy H.size w g r σ4 (1 : Int32) (0 : Int32) (0 : Int32) (0 : Int32) i4 ) ⟨(va_cnB 4 hg (gw_c m_1074) rfl rfl rfl (hNW.1 _ nm_1379) (hg _ m_4) (by decide +kernel) ⟨(Nat.le_of_ble_eq_true rfl), (Nat.le_of_ble_eq_true rfl)⟩), (hg _ m_1073), hg _ ms_X0_emit⟩ (s_preVE (As := [.int 1, .int 0, .int 0, .int 0]) (gE_ok w g) hS hA hE hP hD hK hNW 3 rfl rfl) rfl rfl hl.1 rfl (lv_room (Nat.le_of_ble_eq_true rfl)) d_X1_local_107 ⟨(Nat.le_of_ble_eq_true rfl), (Nat.le_of_ble_eq_true rfl)⟩) hP hD hS hA (fun r6 σ6 H locs hw hP hD hS => ?_)
            have hP : va_P D vwCl (wB cy r σ6) H := hP
            have hD : va_D A (wB cy r σ6) := hD
            have ik6 : Keep [(4, 1)] [24] σ4 σ6 := hw.2
            have kp : Keep [(4, 1), (6, 3), (6, 4), (6, 10), (6, 15), (8, 10)] [24, 40, 41, 42, 43, 44] σ0 σ6 := keep_c kp ik6 (by decide) (by decide)
            have i6 : Inv σ6 := hw.1
            refine lv_pop hx hb d_X1_local_110 rfl ?_
            refine lv_aload_n hx hb d_X1_local_111 rfl (lv_at hl 0 rfl) ?_
            refine s_callv (X := St) (w1 := fun τ => wB cy r τ) (va_runV (As := []) (rest := []) ⟨hx, hb, hml, hown, hg⟩ (s_X1_storeLocal l D cy H.size w g r σ6  i6 ) (cwV 0 hg (gw_V m_1380 m_1382 ms_X1_storeLocal m_13 m_1383) rfl rfl rfl (by decide +kernel) ⟨(Nat.le_of_ble_eq_true rfl), (Nat.le_of_ble_eq_true rfl)⟩) (s_preVE (As := []) (gE_ok w g) hS hA hE hP hD hK hNW 7 rfl rfl) rfl rfl hl.1 rfl (lv_room (Nat.le_of_ble_eq_true rfl)) d_X1_local_112 ⟨(Nat.le_of_ble_eq_true rfl), (Nat.le_of_ble_eq_true rfl)⟩) hP hD hS hA (fun σ7 H locs hw hP hD hS => ?_)
            have hP : va_P D vwCl (wB cy r σ7) H := hP
            have hD : va_D A (wB cy r σ7) := hD
            have ik7 : Keep [(4, 1)] [24] σ6 σ7 := hw.2
            have kp : Keep [(4, 1), (6, 3), (6, 4), (6, 10), (6, 15), (8, 10)] [24, 40, 41, 42, 43, 44] σ0 σ7 := keep_c kp ik7 (by decide) (by decide)
            have i7 : Inv σ7 := hw.1
            refine lv_goto (tgt := 137) hx hb d_X1_local_115 (by decide) ?_
            refine W.widen (k := 0) (n := 0) (Nat.le_of_ble_eq_true rfl) (Nat.le_of_ble_eq_true rfl) ?_
            exact k_vret (X := St) (w1 := fun τ => wB cy r τ) σ7 hx hb hr d_X1_local_137 hlocks hP hK hD hS ⟨i7, kp⟩
        · -- not taken at 60
          refine W.widen (k := 0) (n := 0) (Nat.le_of_ble_eq_true rfl) (Nat.le_of_ble_eq_true rfl) ?_
          exact k_vret (X := St) (w1 := fun τ => wB cy r τ) σ3 hx hb hr d_X1_local_63 hlocks hP hK hD hS ⟨i3, kp⟩
      · -- not taken at 36
        refine lv_aload_n hx hb d_X1_local_39 rfl (lv_at hl 0 rfl) ?_
        refine va_get (D := D) (ci := 1) (v := .ref (r 6)) (C := "LinkedUnits$Declarations") (T := TX1) (N := 18) hx hb hg iwX1 hown hK hP 7 rfl rfl 2 (by decide) (hg _ m_491) (fun _ h9 => h9) rfl d_X1_local_40 ?_
        refine lv_iconst (v := 4) hx hb d_X1_local_43 (by decide) ?_
        refine lv_iload_n hx hb d_X1_local_44 rfl (lv_at hl 1 rfl) ?_
        refine s_callv (X := St) (w1 := fun τ => wB cy r τ) (va_runVN (As := [.int 4, .int x1]) (rest := []) ⟨hx, hb, hml, hown, hg⟩ (s_X11_fail l D cy H.size w g r σ0 (4 : Int32) x1 i0 ) ⟨(va_cnB 2 hg (gw_c m_1093) rfl rfl rfl (hNW.1 _ nm_1370) (hg _ m_10) (by decide +kernel) ⟨(Nat.le_of_ble_eq_true rfl), (Nat.le_of_ble_eq_true rfl)⟩), (hg _ m_1092), hg _ ms_X11_fail⟩ (s_preVE (As := [.int 4, .int x1]) (gE_ok w g) hS hA hE hP hD hK hNW 5 rfl rfl) rfl rfl hl.1 rfl (lv_room (Nat.le_of_ble_eq_true rfl)) d_X1_local_45 ⟨(Nat.le_of_ble_eq_true rfl), (Nat.le_of_ble_eq_true rfl)⟩) hP hD hS hA (fun σ8 H locs hw hP hD hS => ?_)
        have hP : va_P D vwCl (wB cy r σ8) H := hP
        have hD : va_D A (wB cy r σ8) := hD
        have ik8 : Keep [(6, 3), (6, 4)] [] σ0 σ8 := hw.2
        have kp : Keep [(4, 1), (6, 3), (6, 4), (6, 10), (6, 15), (8, 10)] [24, 40, 41, 42, 43, 44] σ0 σ8 := keep_c kp ik8 (by decide) (by decide)
        have i8 : Inv σ8 := hw.1
        refine lv_aload_n hx hb d_X1_local_48 rfl (lv_at hl 0 rfl) ?_
        refine lv_iload_n hx hb d_X1_local_49 rfl (lv_at hl 2 rfl) ?_
        refine s_callv (X := St) (w1 := fun τ => wB cy r τ) (va_runV (As := [.int x2]) (rest := []) ⟨hx, hb, hml, hown, hg⟩ (s_X1_checkSquare l D cy H.size w g r σ8 x2 i8 z_x2) (cwV 1 hg (gw_V m_1371 m_1373 ms_X1_checkSquare m_13 m_1374) rfl rfl rfl (by decide +kernel) ⟨(Nat.le_of_ble_eq_true rfl), (Nat.le_of_ble_eq_true rfl)⟩) (s_preVE (As := [.int x2]) (gE_ok w g) hS hA hE hP hD hK hNW 7 rfl rfl) rfl rfl hl.1 rfl (lv_room (Nat.le_of_ble_eq_true rfl)) d_X1_local_50 ⟨(Nat.le_of_ble_eq_true rfl), (Nat.le_of_ble_eq_true rfl)⟩) hP hD hS hA (fun σ9 H locs hw hP hD hS => ?_)
        have hP : va_P D vwCl (wB cy r σ9) H := hP
        have hD : va_D A (wB cy r σ9) := hD
        have ik9 : Keep [(6, 3), (6, 4)] [] σ8 σ9 := hw.2
        have kp : Keep [(4, 1), (6, 3), (6, 4), (6, 10), (6, 15), (8, 10)] [24, 40, 41, 42, 43, 44] σ0 σ9 := keep_c kp ik9 (by decide) (by decide)
        have i9 : Inv σ9 := hw.1
        refine lv_aload_n hx hb d_X1_local_53 rfl (lv_at hl 0 rfl) ?_
        refine va_get (D := D) (ci := 1) (v := .ref (r 6)) (C := "LinkedUnits$Declarations") (T := TX1) (N := 18) hx hb hg iwX1 hown hK hP 7 rfl rfl 2 (by decide) (hg _ m_491) (fun _ h9 => h9) rfl d_X1_local_54 ?_
        refine va_getN (D := D) (ci := 11) (v := .int (σ9 6 3)) (C := "LinkedUnits$Unit") (T := TX11) (N := 19) hx hb hg iwX11 hown hK hP 5 rfl rfl 3 (by decide) (va_Nw.use rfl (hNW.1 _ nm_317)) (fun _ h9 => h9) rfl d_X1_local_57 ?_
        refine lv_if_eq (tgt := 64) hx hb d_X1_local_60 (by decide) (fun c_60 => ?_) (fun c_60 => ?_)
        · -- taken at 60
          refine lv_aload_n hx hb d_X1_local_64 rfl (lv_at hl 0 rfl) ?_
          refine lv_aload_n hx hb d_X1_local_65 rfl (lv_at hl 0 rfl) ?_
          refine va_get (D := D) (ci := 1) (v := .ref (r 6)) (C := "LinkedUnits$Declarations") (T := TX1) (N := 18) hx hb hg iwX1 hown hK hP 7 rfl rfl 2 (by decide) (hg _ m_491) (fun _ h9 => h9) rfl d_X1_local_66 ?_
          refine va_getN (D := D) (ci := 11) (v := .int (σ9 6 10)) (C := "LinkedUnits$Unit") (T := TX11) (N := 19) hx hb hg iwX11 hown hK hP 5 rfl rfl 10 (by decide) (va_Nw.use rfl (hNW.1 _ nm_332)) (fun _ h9 => h9) rfl d_X1_local_69 ?_
          refine k_topi (σ0 6 10) ((ik9 6 10 rfl rfl).trans (ik8 6 10 rfl rfl)) ?_
          refine va_put (D := D) (ci := 1) (v := .int (σ0 6 10)) (ty := .int) (C := "LinkedUnits$Declarations") (T := TX1) (N := 18) hx hb hg iwX1 tyX1 tyX1_ok nmX1 hown hK hP hD hS 7 rfl rfl 10 (by decide) (hg _ m_502) (fun _ h9 => h9) rfl (by decide +kernel) rfl rfl (Nat.le_of_ble_eq_true rfl) d_X1_local_72 (fun H locs hP hD hS => ?_)
          have hP : va_P D vwCl (wB cy r (upC σ9 8 10 (σ0 6 10))) H := hP
          have hD : va_D A (wB cy r (upC σ9 8 10 (σ0 6 10))) := hD
          have kp : Keep [(4, 1), (6, 3), (6, 4), (6, 10), (6, 15), (8, 10)] [24, 40, 41, 42, 43, 44] σ0 (upC σ9 8 10 (σ0 6 10)) := keep_f kp (by decide)
          refine lv_aload_n hx hb d_X1_local_75 rfl (lv_at hl 0 rfl) ?_
          refine va_get (D := D) (ci := 1) (v := .ref (r 6)) (C := "LinkedUnits$Declarations") (T := TX1) (N := 18) hx hb hg iwX1 hown hK hP 7 rfl rfl 2 (by decide) (hg _ m_491) (fun _ h9 => h9) rfl d_X1_local_76 ?_
          refine lv_iload_n hx hb d_X1_local_79 rfl (lv_at hl 1 rfl) ?_
          refine lv_aload_n hx hb d_X1_local_80 rfl (lv_at hl 0 rfl) ?_
          refine va_get (D := D) (ci := 1) (v := .int (σ9 8 11)) (C := "LinkedUnits$Declarations") (T := TX1) (N := 18) hx hb hg iwX1 hown hK hP 7 rfl rfl 11 (by decide) (hg _ m_503) (fun _ h9 => h9) rfl d_X1_local_81 ?_
          refine k_topi (σ0 8 11) ((ik9 8 11 rfl rfl).trans (ik8 8 11 rfl rfl)) ?_
          refine lv_aload_n hx hb d_X1_local_84 rfl (lv_at hl 0 rfl) ?_
          refine va_get (D := D) (ci := 1) (v := .int (σ9 8 12)) (C := "LinkedUnits$Declarations") (T := TX1) (N := 18) hx hb hg iwX1 hown hK hP 7 rfl rfl 12 (by decide) (hg _ m_504) (fun _ h9 => h9) rfl d_X1_local_85 ?_
          refine k_topi (σ0 8 12) ((ik9 8 12 rfl rfl).trans (ik8 8 12 rfl rfl)) ?_
          refine s_callv (X := St) (w1 := fun τ => wB cy r τ) (va_runVN (As := [.int x1, .int (σ0 8 11), .int (σ0 8 12)]) (rest := []) ⟨hx, hb, hml, hown, hg⟩ (s_X11_declareLocal l D cy H.size w g r (upC σ9 8 10 (σ0 6 10)) x1 (σ0 8 11) (σ0 8 12) i9 ) ⟨(va_cnB 3 hg (gw_c m_1378) rfl rfl rfl (hNW.1 _ nm_1375) (hg _ m_10) (by decide +kernel) ⟨(Nat.le_of_ble_eq_true rfl), (Nat.le_of_ble_eq_true rfl)⟩), (hg _ m_1377), hg _ ms_X11_declareLocal⟩ (s_preVE (As := [.int x1, .int (σ0 8 11), .int (σ0 8 12)]) (gE_ok w g) hS hA hE hP hD hK hNW 5 rfl rfl) rfl rfl hl.1 rfl (lv_room (Nat.le_of_ble_eq_true rfl)) d_X1_local_88 ⟨(Nat.le_of_ble_eq_true rfl), (Nat.le_of_ble_eq_true rfl)⟩) hP hD hS hA (fun σ10 H locs hw hP hD hS => ?_)
          have hP : va_P D vwCl (wB cy r σ10) H := hP
          have hD : va_D A (wB cy r σ10) := hD
          have ik10 : Keep [(6, 10), (6, 15)] [40, 41, 42, 43, 44] (upC σ9 8 10 (σ0 6 10)) σ10 := hw.2
          have kp : Keep [(4, 1), (6, 3), (6, 4), (6, 10), (6, 15), (8, 10)] [24, 40, 41, 42, 43, 44] σ0 σ10 := keep_c kp ik10 (by decide) (by decide)
          have i10 : Inv σ10 := hw.1
          refine lv_aload_n hx hb d_X1_local_91 rfl (lv_at hl 0 rfl) ?_
          refine va_get (D := D) (ci := 1) (v := .int (σ10 8 12)) (C := "LinkedUnits$Declarations") (T := TX1) (N := 18) hx hb hg iwX1 hown hK hP 7 rfl rfl 12 (by decide) (hg _ m_504) (fun _ h9 => h9) rfl d_X1_local_92 ?_
          refine k_topi (σ0 8 12) ((ik10 8 12 rfl rfl).trans ((ik9 8 12 rfl rfl).trans (ik8 8 12 rfl rfl))) ?_
          refine lv_iconst (v := (-1)) hx hb d_X1_local_95 (by decide) ?_
          refine lv_icmp_ne (tgt := 118) hx hb d_X1_local_96 (by decide) (fun c_96 => ?_) (fun c_96 => ?_)
          · -- taken at 96
            refine lv_aload_n hx hb d_X1_local_118 rfl (lv_at hl 0 rfl) ?_
            refine va_get (D := D) (ci := 1) (v := .ref (r 4)) (C := "LinkedUnits$Declarations") (T := TX1) (N := 18) hx hb hg iwX1 hown hK hP 7 rfl rfl 4 (by decide) (hg _ m_493) (fun _ h9 => h9) rfl d_X1_local_119 ?_
            refine lv_bipush (v := 15) hx hb d_X1_local_122 (by decide) ?_
            refine lv_aload_n hx hb d_X1_local_124 rfl (lv_at hl 0 rfl) ?_
            refine va_get (D := D) (ci := 1) (v := .int (σ10 8 10)) (C := "LinkedUnits$Declarations") (T := TX1) (N := 18) hx hb hg iwX1 hown hK hP 7 rfl rfl 10 (by decide) (hg _ m_502) (fun _ h9 => h9) rfl d_X1_local_125 ?_
            refine k_topi (σ0 6 10) (ik10 8 10 rfl rfl) ?_
            refine lv_aload_n hx hb d_X1_local_128 rfl (lv_at hl 0 rfl) ?_
            refine va_get (D := D) (ci := 1) (v := .int (σ10 8 12)) (C := "LinkedUnits$Declarations") (T := TX1) (N := 18) hx hb hg iwX1 hown hK hP 7 rfl rfl 12 (by decide) (hg _ m_504) (fun _ h9 => h9) rfl d_X1_local_129 ?_
            refine k_topi (σ0 8 12) ((ik10 8 12 rfl rfl).trans ((ik9 8 12 rfl rfl).trans (ik8 8 12 rfl rfl))) ?_
            refine lv_iconst (v := 0) hx hb d_X1_local_132 (by decide) ?_
            refine s_calli (X := St) (w1 := fun τ => wB cy r τ) (va_runVN (As := [.int 15, .int (σ0 6 10), .int (σ0 8 12), .int 0]) (rest := []) ⟨hx, hb, hml, hown, hg⟩ (s_X0_emit l D cy H.size w g r σ10 (15 : Int32) (σ0 6 10) (σ0 8 12) (0 : Int32) i10 ) ⟨(va_cnB 4 hg (gw_c m_1074) rfl rfl rfl (hNW.1 _ nm_1379) (hg _ m_4) (by decide +kernel) ⟨(Nat.le_of_ble_eq_true rfl), (Nat.le_of_ble_eq_true rfl)⟩), (hg _ m_1073), hg _ ms_X0_emit⟩ (s_preVE (As := [.int 15, .int (σ0 6 10), .int (σ0 8 12), .int 0]) (gE_ok w g) hS hA hE hP hD hK hNW 3 rfl rfl) rfl rfl hl.1 rfl (lv_room (Nat.le_of_ble_eq_true rfl)) d_X1_local_133 ⟨(Nat.le_of_ble_eq_true rfl), (Nat.le_of_ble_eq_true rfl)⟩) hP hD hS hA (fun r11 σ11 H locs hw hP hD hS => ?_)
            have hP : va_P D vwCl (wB cy r σ11) H := hP
            have hD : va_D A (wB cy r σ11) := hD
            have ik11 : Keep [(4, 1)] [24] σ10 σ11 := hw.2
            have kp : Keep [(4, 1), (6, 3), (6, 4), (6, 10), (6, 15), (8, 10)] [24, 40, 41, 42, 43, 44] σ0 σ11 := keep_c kp ik11 (by decide) (by decide)
            have i11 : Inv σ11 := hw.1
            refine lv_pop hx hb d_X1_local_136 rfl ?_
            refine W.widen (k := 0) (n := 0) (Nat.le_of_ble_eq_true rfl) (Nat.le_of_ble_eq_true rfl) ?_
            exact k_vret (X := St) (w1 := fun τ => wB cy r τ) σ11 hx hb hr d_X1_local_137 hlocks hP hK hD hS ⟨i11, kp⟩
          · -- not taken at 96
            refine lv_aload_n hx hb d_X1_local_99 rfl (lv_at hl 0 rfl) ?_
            refine va_get (D := D) (ci := 1) (v := .ref (r 4)) (C := "LinkedUnits$Declarations") (T := TX1) (N := 18) hx hb hg iwX1 hown hK hP 7 rfl rfl 4 (by decide) (hg _ m_493) (fun _ h9 => h9) rfl d_X1_local_100 ?_
            refine lv_iconst (v := 1) hx hb d_X1_local_103 (by decide) ?_
            refine lv_iconst (v := 0) hx hb d_X1_local_104 (by decide) ?_
            refine lv_iconst (v := 0) hx hb d_X1_local_105 (by decide) ?_
            refine lv_iconst (v := 0) hx hb d_X1_local_106 (by decide) ?_
            refine s_calli (X := St) (w1 := fun τ => wB cy r τ) (va_runVN (As := [.int 1, .int 0, .int 0, .int 0]) (rest := []) ⟨hx, hb, hml, hown, hg⟩ (s_X0_emit l D cy H.size w g r σ10 (1 : Int32) (0 : Int32) (0 : Int32) (0 : Int32) i10 ) ⟨(va_cnB 4 hg (gw_c m_1074) rfl rfl rfl (hNW.1 _ nm_1379) (hg _ m_4) (by decide +kernel) ⟨(Nat.le_of_ble_eq_true rfl), (Nat.le_of_ble_eq_true rfl)⟩), (hg _ m_1073), hg _ ms_X0_emit⟩ (s_preVE (As := [.int 1, .int 0, .int 0, .int 0]) (gE_ok w g) hS hA hE hP hD hK hNW 3 rfl rfl) rfl rfl hl.1 rfl (lv_room (Nat.le_of_ble_eq_true rfl)) d_X1_local_107 ⟨(Nat.le_of_ble_eq_true rfl), (Nat.le_of_ble_eq_true rfl)⟩) hP hD hS hA (fun r12 σ12 H locs hw hP hD hS => ?_)
            have hP : va_P D vwCl (wB cy r σ12) H := hP
            have hD : va_D A (wB cy r σ12) := hD
            have ik12 : Keep [(4, 1)] [24] σ10 σ12 := hw.2
            have kp : Keep [(4, 1), (6, 3), (6, 4), (6, 10), (6, 15), (8, 10)] [24, 40, 41, 42, 43, 44] σ0 σ12 := keep_c kp ik12 (by decide) (by decide)
            have i12 : Inv σ12 := hw.1
            refine lv_pop hx hb d_X1_local_110 rfl ?_
            refine lv_aload_n hx hb d_X1_local_111 rfl (lv_at hl 0 rfl) ?_
            refine s_callv (X := St) (w1 := fun τ => wB cy r τ) (va_runV (As := []) (rest := []) ⟨hx, hb, hml, hown, hg⟩ (s_X1_storeLocal l D cy H.size w g r σ12  i12 ) (cwV 0 hg (gw_V m_1380 m_1382 ms_X1_storeLocal m_13 m_1383) rfl rfl rfl (by decide +kernel) ⟨(Nat.le_of_ble_eq_true rfl), (Nat.le_of_ble_eq_true rfl)⟩) (s_preVE (As := []) (gE_ok w g) hS hA hE hP hD hK hNW 7 rfl rfl) rfl rfl hl.1 rfl (lv_room (Nat.le_of_ble_eq_true rfl)) d_X1_local_112 ⟨(Nat.le_of_ble_eq_true rfl), (Nat.le_of_ble_eq_true rfl)⟩) hP hD hS hA (fun σ13 H locs hw hP hD hS => ?_)
            have hP : va_P D vwCl (wB cy r σ13) H := hP
            have hD : va_D A (wB cy r σ13) := hD
            have ik13 : Keep [(4, 1)] [24] σ12 σ13 := hw.2
            have kp : Keep [(4, 1), (6, 3), (6, 4), (6, 10), (6, 15), (8, 10)] [24, 40, 41, 42, 43, 44] σ0 σ13 := keep_c kp ik13 (by decide) (by decide)
            have i13 : Inv σ13 := hw.1
            refine lv_goto (tgt := 137) hx hb d_X1_local_115 (by decide) ?_
            refine W.widen (k := 0) (n := 0) (Nat.le_of_ble_eq_true rfl) (Nat.le_of_ble_eq_true rfl) ?_
            exact k_vret (X := St) (w1 := fun τ => wB cy r τ) σ13 hx hb hr d_X1_local_137 hlocks hP hK hD hS ⟨i13, kp⟩
        · -- not taken at 60
          refine W.widen (k := 0) (n := 0) (Nat.le_of_ble_eq_true rfl) (Nat.le_of_ble_eq_true rfl) ?_
          exact k_vret (X := St) (w1 := fun τ => wB cy r τ) σ9 hx hb hr d_X1_local_63 hlocks hP hK hD hS ⟨i9, kp⟩
    · -- not taken at 15
      refine lv_aload_n hx hb d_X1_local_18 rfl (lv_at hl 0 rfl) ?_
      refine va_get (D := D) (ci := 1) (v := .ref (r 6)) (C := "LinkedUnits$Declarations") (T := TX1) (N := 18) hx hb hg iwX1 hown hK hP 7 rfl rfl 2 (by decide) (hg _ m_491) (fun _ h9 => h9) rfl d_X1_local_19 ?_
      refine lv_iconst (v := 2) hx hb d_X1_local_22 (by decide) ?_
      refine lv_iload_n hx hb d_X1_local_23 rfl (lv_at hl 1 rfl) ?_
      refine s_callv (X := St) (w1 := fun τ => wB cy r τ) (va_runVN (As := [.int 2, .int x1]) (rest := []) ⟨hx, hb, hml, hown, hg⟩ (s_X11_fail l D cy H.size w g r σ0 (2 : Int32) x1 i0 ) ⟨(va_cnB 2 hg (gw_c m_1093) rfl rfl rfl (hNW.1 _ nm_1370) (hg _ m_10) (by decide +kernel) ⟨(Nat.le_of_ble_eq_true rfl), (Nat.le_of_ble_eq_true rfl)⟩), (hg _ m_1092), hg _ ms_X11_fail⟩ (s_preVE (As := [.int 2, .int x1]) (gE_ok w g) hS hA hE hP hD hK hNW 5 rfl rfl) rfl rfl hl.1 rfl (lv_room (Nat.le_of_ble_eq_true rfl)) d_X1_local_24 ⟨(Nat.le_of_ble_eq_true rfl), (Nat.le_of_ble_eq_true rfl)⟩) hP hD hS hA (fun σ14 H locs hw hP hD hS => ?_)
      have hP : va_P D vwCl (wB cy r σ14) H := hP
      have hD : va_D A (wB cy r σ14) := hD
      have ik14 : Keep [(6, 3), (6, 4)] [] σ0 σ14 := hw.2
      have kp : Keep [(4, 1), (6, 3), (6, 4), (6, 10), (6, 15), (8, 10)] [24, 40, 41, 42, 43, 44] σ0 σ14 := keep_c kp ik14 (by decide) (by decide)
      have i14 : Inv σ14 := hw.1
      refine lv_aload_n hx hb d_X1_local_27 rfl (lv_at hl 0 rfl) ?_
      refine va_get (D := D) (ci := 1) (v := .ref (r 6)) (C := "LinkedUnits$Declarations") (T := TX1) (N := 18) hx hb hg iwX1 hown hK hP 7 rfl rfl 2 (by decide) (hg _ m_491) (fun _ h9 => h9) rfl d_X1_local_28 ?_
      refine va_getN (D := D) (ci := 11) (v := .int (σ14 6 10)) (C := "LinkedUnits$Unit") (T := TX11) (N := 19) hx hb hg iwX11 hown hK hP 5 rfl rfl 10 (by decide) (va_Nw.use rfl (hNW.1 _ nm_332)) (fun _ h9 => h9) rfl d_X1_local_31 ?_
      refine k_topi (σ0 6 10) (ik14 6 10 rfl rfl) ?_
      refine lv_bipush (v := 100) hx hb d_X1_local_34 (by decide) ?_
      refine lv_icmp_lt (tgt := 48) hx hb d_X1_local_36 (by decide) (fun c_36 => ?_) (fun c_36 => ?_)
      · -- taken at 36
        refine lv_aload_n hx hb d_X1_local_48 rfl (lv_at hl 0 rfl) ?_
        refine lv_iload_n hx hb d_X1_local_49 rfl (lv_at hl 2 rfl) ?_
        refine s_callv (X := St) (w1 := fun τ => wB cy r τ) (va_runV (As := [.int x2]) (rest := []) ⟨hx, hb, hml, hown, hg⟩ (s_X1_checkSquare l D cy H.size w g r σ14 x2 i14 z_x2) (cwV 1 hg (gw_V m_1371 m_1373 ms_X1_checkSquare m_13 m_1374) rfl rfl rfl (by decide +kernel) ⟨(Nat.le_of_ble_eq_true rfl), (Nat.le_of_ble_eq_true rfl)⟩) (s_preVE (As := [.int x2]) (gE_ok w g) hS hA hE hP hD hK hNW 7 rfl rfl) rfl rfl hl.1 rfl (lv_room (Nat.le_of_ble_eq_true rfl)) d_X1_local_50 ⟨(Nat.le_of_ble_eq_true rfl), (Nat.le_of_ble_eq_true rfl)⟩) hP hD hS hA (fun σ15 H locs hw hP hD hS => ?_)
        have hP : va_P D vwCl (wB cy r σ15) H := hP
        have hD : va_D A (wB cy r σ15) := hD
        have ik15 : Keep [(6, 3), (6, 4)] [] σ14 σ15 := hw.2
        have kp : Keep [(4, 1), (6, 3), (6, 4), (6, 10), (6, 15), (8, 10)] [24, 40, 41, 42, 43, 44] σ0 σ15 := keep_c kp ik15 (by decide) (by decide)
        have i15 : Inv σ15 := hw.1
        refine lv_aload_n hx hb d_X1_local_53 rfl (lv_at hl 0 rfl) ?_
        refine va_get (D := D) (ci := 1) (v := .ref (r 6)) (C := "LinkedUnits$Declarations") (T := TX1) (N := 18) hx hb hg iwX1 hown hK hP 7 rfl rfl 2 (by decide) (hg _ m_491) (fun _ h9 => h9) rfl d_X1_local_54 ?_
        refine va_getN (D := D) (ci := 11) (v := .int (σ15 6 3)) (C := "LinkedUnits$Unit") (T := TX11) (N := 19) hx hb hg iwX11 hown hK hP 5 rfl rfl 3 (by decide) (va_Nw.use rfl (hNW.1 _ nm_317)) (fun _ h9 => h9) rfl d_X1_local_57 ?_
        refine lv_if_eq (tgt := 64) hx hb d_X1_local_60 (by decide) (fun c_60 => ?_) (fun c_60 => ?_)
        · -- taken at 60
          refine lv_aload_n hx hb d_X1_local_64 rfl (lv_at hl 0 rfl) ?_
          refine lv_aload_n hx hb d_X1_local_65 rfl (lv_at hl 0 rfl) ?_
          refine va_get (D := D) (ci := 1) (v := .ref (r 6)) (C := "LinkedUnits$Declarations") (T := TX1) (N := 18) hx hb hg iwX1 hown hK hP 7 rfl rfl 2 (by decide) (hg _ m_491) (fun _ h9 => h9) rfl d_X1_local_66 ?_
          refine va_getN (D := D) (ci := 11) (v := .int (σ15 6 10)) (C := "LinkedUnits$Unit") (T := TX11) (N := 19) hx hb hg iwX11 hown hK hP 5 rfl rfl 10 (by decide) (va_Nw.use rfl (hNW.1 _ nm_332)) (fun _ h9 => h9) rfl d_X1_local_69 ?_
          refine k_topi (σ0 6 10) ((ik15 6 10 rfl rfl).trans (ik14 6 10 rfl rfl)) ?_
          refine va_put (D := D) (ci := 1) (v := .int (σ0 6 10)) (ty := .int) (C := "LinkedUnits$Declarations") (T := TX1) (N := 18) hx hb hg iwX1 tyX1 tyX1_ok nmX1 hown hK hP hD hS 7 rfl rfl 10 (by decide) (hg _ m_502) (fun _ h9 => h9) rfl (by decide +kernel) rfl rfl (Nat.le_of_ble_eq_true rfl) d_X1_local_72 (fun H locs hP hD hS => ?_)
          have hP : va_P D vwCl (wB cy r (upC σ15 8 10 (σ0 6 10))) H := hP
          have hD : va_D A (wB cy r (upC σ15 8 10 (σ0 6 10))) := hD
          have kp : Keep [(4, 1), (6, 3), (6, 4), (6, 10), (6, 15), (8, 10)] [24, 40, 41, 42, 43, 44] σ0 (upC σ15 8 10 (σ0 6 10)) := keep_f kp (by decide)
          refine lv_aload_n hx hb d_X1_local_75 rfl (lv_at hl 0 rfl) ?_
          refine va_get (D := D) (ci := 1) (v := .ref (r 6)) (C := "LinkedUnits$Declarations") (T := TX1) (N := 18) hx hb hg iwX1 hown hK hP 7 rfl rfl 2 (by decide) (hg _ m_491) (fun _ h9 => h9) rfl d_X1_local_76 ?_
          refine lv_iload_n hx hb d_X1_local_79 rfl (lv_at hl 1 rfl) ?_
          refine lv_aload_n hx hb d_X1_local_80 rfl (lv_at hl 0 rfl) ?_
          refine va_get (D := D) (ci := 1) (v := .int (σ15 8 11)) (C := "LinkedUnits$Declarations") (T := TX1) (N := 18) hx hb hg iwX1 hown hK hP 7 rfl rfl 11 (by decide) (hg _ m_503) (fun _ h9 => h9) rfl d_X1_local_81 ?_
          refine k_topi (σ0 8 11) ((ik15 8 11 rfl rfl).trans (ik14 8 11 rfl rfl)) ?_
          refine lv_aload_n hx hb d_X1_local_84 rfl (lv_at hl 0 rfl) ?_
          refine va_get (D := D) (ci := 1) (v := .int (σ15 8 12)) (C := "LinkedUnits$Declarations") (T := TX1) (N := 18) hx hb hg iwX1 hown hK hP 7 rfl rfl 12 (by decide) (hg _ m_504) (fun _ h9 => h9) rfl d_X1_local_85 ?_
          refine k_topi (σ0 8 12) ((ik15 8 12 rfl rfl).trans (ik14 8 12 rfl rfl)) ?_
          refine s_callv (X := St) (w1 := fun τ => wB cy r τ) (va_runVN (As := [.int x1, .int (σ0 8 11), .int (σ0 8 12)]) (rest := []) ⟨hx, hb, hml, hown, hg⟩ (s_X11_declareLocal l D cy H.size w g r (upC σ15 8 10 (σ0 6 10)) x1 (σ0 8 11) (σ0 8 12) i15 ) ⟨(va_cnB 3 hg (gw_c m_1378) rfl rfl rfl (hNW.1 _ nm_1375) (hg _ m_10) (by decide +kernel) ⟨(Nat.le_of_ble_eq_true rfl), (Nat.le_of_ble_eq_true rfl)⟩), (hg _ m_1377), hg _ ms_X11_declareLocal⟩ (s_preVE (As := [.int x1, .int (σ0 8 11), .int (σ0 8 12)]) (gE_ok w g) hS hA hE hP hD hK hNW 5 rfl rfl) rfl rfl hl.1 rfl (lv_room (Nat.le_of_ble_eq_true rfl)) d_X1_local_88 ⟨(Nat.le_of_ble_eq_true rfl), (Nat.le_of_ble_eq_true rfl)⟩) hP hD hS hA (fun σ16 H locs hw hP hD hS => ?_)
          have hP : va_P D vwCl (wB cy r σ16) H := hP
          have hD : va_D A (wB cy r σ16) := hD
          have ik16 : Keep [(6, 10), (6, 15)] [40, 41, 42, 43, 44] (upC σ15 8 10 (σ0 6 10)) σ16 := hw.2
          have kp : Keep [(4, 1), (6, 3), (6, 4), (6, 10), (6, 15), (8, 10)] [24, 40, 41, 42, 43, 44] σ0 σ16 := keep_c kp ik16 (by decide) (by decide)
          have i16 : Inv σ16 := hw.1
          refine lv_aload_n hx hb d_X1_local_91 rfl (lv_at hl 0 rfl) ?_
          refine va_get (D := D) (ci := 1) (v := .int (σ16 8 12)) (C := "LinkedUnits$Declarations") (T := TX1) (N := 18) hx hb hg iwX1 hown hK hP 7 rfl rfl 12 (by decide) (hg _ m_504) (fun _ h9 => h9) rfl d_X1_local_92 ?_
          refine k_topi (σ0 8 12) ((ik16 8 12 rfl rfl).trans ((ik15 8 12 rfl rfl).trans (ik14 8 12 rfl rfl))) ?_
          refine lv_iconst (v := (-1)) hx hb d_X1_local_95 (by decide) ?_
          refine lv_icmp_ne (tgt := 118) hx hb d_X1_local_96 (by decide) (fun c_96 => ?_) (fun c_96 => ?_)
          · -- taken at 96
            refine lv_aload_n hx hb d_X1_local_118 rfl (lv_at hl 0 rfl) ?_
            refine va_get (D := D) (ci := 1) (v := .ref (r 4)) (C := "LinkedUnits$Declarations") (T := TX1) (N := 18) hx hb hg iwX1 hown hK hP 7 rfl rfl 4 (by decide) (hg _ m_493) (fun _ h9 => h9) rfl d_X1_local_119 ?_
            refine lv_bipush (v := 15) hx hb d_X1_local_122 (by decide) ?_
            refine lv_aload_n hx hb d_X1_local_124 rfl (lv_at hl 0 rfl) ?_
            refine va_get (D := D) (ci := 1) (v := .int (σ16 8 10)) (C := "LinkedUnits$Declarations") (T := TX1) (N := 18) hx hb hg iwX1 hown hK hP 7 rfl rfl 10 (by decide) (hg _ m_502) (fun _ h9 => h9) rfl d_X1_local_125 ?_
            refine k_topi (σ0 6 10) (ik16 8 10 rfl rfl) ?_
            refine lv_aload_n hx hb d_X1_local_128 rfl (lv_at hl 0 rfl) ?_
            refine va_get (D := D) (ci := 1) (v := .int (σ16 8 12)) (C := "LinkedUnits$Declarations") (T := TX1) (N := 18) hx hb hg iwX1 hown hK hP 7 rfl rfl 12 (by decide) (hg _ m_504) (fun _ h9 => h9) rfl d_X1_local_129 ?_
            refine k_topi (σ0 8 12) ((ik16 8 12 rfl rfl).trans ((ik15 8 12 rfl rfl).trans (ik14 8 12 rfl rfl))) ?_
            refine lv_iconst (v := 0) hx hb d_X1_local_132 (by decide) ?_
            refine s_calli (X := St) (w1 := fun τ => wB cy r τ) (va_runVN (As := [.int 15, .int (σ0 6 10), .int (σ0 8 12), .int 0]) (rest := []) ⟨hx, hb, hml, hown, hg⟩ (s_X0_emit l D cy H.size w g r σ16 (15 : Int32) (σ0 6 10) (σ0 8 12) (0 : Int32) i16 ) ⟨(va_cnB 4 hg (gw_c m_1074) rfl rfl rfl (hNW.1 _ nm_1379) (hg _ m_4) (by decide +kernel) ⟨(Nat.le_of_ble_eq_true rfl), (Nat.le_of_ble_eq_true rfl)⟩), (hg _ m_1073), hg _ ms_X0_emit⟩ (s_preVE (As := [.int 15, .int (σ0 6 10), .int (σ0 8 12), .int 0]) (gE_ok w g) hS hA hE hP hD hK hNW 3 rfl rfl) rfl rfl hl.1 rfl (lv_room (Nat.le_of_ble_eq_true rfl)) d_X1_local_133 ⟨(Nat.le_of_ble_eq_true rfl), (Nat.le_of_ble_eq_true rfl)⟩) hP hD hS hA (fun r17 σ17 H locs hw hP hD hS => ?_)
            have hP : va_P D vwCl (wB cy r σ17) H := hP
            have hD : va_D A (wB cy r σ17) := hD
            have ik17 : Keep [(4, 1)] [24] σ16 σ17 := hw.2
            have kp : Keep [(4, 1), (6, 3), (6, 4), (6, 10), (6, 15), (8, 10)] [24, 40, 41, 42, 43, 44] σ0 σ17 := keep_c kp ik17 (by decide) (by decide)
            have i17 : Inv σ17 := hw.1
            refine lv_pop hx hb d_X1_local_136 rfl ?_
            refine W.widen (k := 0) (n := 0) (Nat.le_of_ble_eq_true rfl) (Nat.le_of_ble_eq_true rfl) ?_
            exact k_vret (X := St) (w1 := fun τ => wB cy r τ) σ17 hx hb hr d_X1_local_137 hlocks hP hK hD hS ⟨i17, kp⟩
          · -- not taken at 96
            refine lv_aload_n hx hb d_X1_local_99 rfl (lv_at hl 0 rfl) ?_
            refine va_get (D := D) (ci := 1) (v := .ref (r 4)) (C := "LinkedUnits$Declarations") (T := TX1) (N := 18) hx hb hg iwX1 hown hK hP 7 rfl rfl 4 (by decide) (hg _ m_493) (fun _ h9 => h9) rfl d_X1_local_100 ?_
            refine lv_iconst (v := 1) hx hb d_X1_local_103 (by decide) ?_
            refine lv_iconst (v := 0) hx hb d_X1_local_104 (by decide) ?_
            refine lv_iconst (v := 0) hx hb d_X1_local_105 (by decide) ?_
            refine lv_iconst (v := 0) hx hb d_X1_local_106 (by decide) ?_
            refine s_calli (X := St) (w1 := fun τ => wB cy r τ) (va_runVN (As := [.int 1, .int 0, .int 0, .int 0]) (rest := []) ⟨hx, hb, hml, hown, hg⟩ (s_X0_emit l D cy H.size w g r σ16 (1 : Int32) (0 : Int32) (0 : Int32) (0 : Int32) i16 ) ⟨(va_cnB 4 hg (gw_c m_1074) rfl rfl rfl (hNW.1 _ nm_1379) (hg _ m_4) (by decide +kernel) ⟨(Nat.le_of_ble_eq_true rfl), (Nat.le_of_ble_eq_true rfl)⟩), (hg _ m_1073), hg _ ms_X0_emit⟩ (s_preVE (As := [.int 1, .int 0, .int 0, .int 0]) (gE_ok w g) hS hA hE hP hD hK hNW 3 rfl rfl) rfl rfl hl.1 rfl (lv_room (Nat.le_of_ble_eq_true rfl)) d_X1_local_107 ⟨(Nat.le_of_ble_eq_true rfl), (Nat.le_of_ble_eq_true rfl)⟩) hP hD hS hA (fun r18 σ18 H locs hw hP hD hS => ?_)
            have hP : va_P D vwCl (wB cy r σ18) H := hP
            have hD : va_D A (wB cy r σ18) := hD
            have ik18 : Keep [(4, 1)] [24] σ16 σ18 := hw.2
            have kp : Keep [(4, 1), (6, 3), (6, 4), (6, 10), (6, 15), (8, 10)] [24, 40, 41, 42, 43, 44] σ0 σ18 := keep_c kp ik18 (by decide) (by decide)
            have i18 : Inv σ18 := hw.1
            refine lv_pop hx hb d_X1_local_110 rfl ?_
            refine lv_aload_n hx hb d_X1_local_111 rfl (lv_at hl 0 rfl) ?_
            refine s_callv (X := St) (w1 := fun τ => wB cy r τ) (va_runV (As := []) (rest := []) ⟨hx, hb, hml, hown, hg⟩ (s_X1_storeLocal l D cy H.size w g r σ18  i18 ) (cwV 0 hg (gw_V m_1380 m_1382 ms_X1_storeLocal m_13 m_1383) rfl rfl rfl (by decide +kernel) ⟨(Nat.le_of_ble_eq_true rfl), (Nat.le_of_ble_eq_true rfl)⟩) (s_preVE (As := []) (gE_ok w g) hS hA hE hP hD hK hNW 7 rfl rfl) rfl rfl hl.1 rfl (lv_room (Nat.le_of_ble_eq_true rfl)) d_X1_local_112 ⟨(Nat.le_of_ble_eq_true rfl), (Nat.le_of_ble_eq_true rfl)⟩) hP hD hS hA (fun σ19 H locs hw hP hD hS => ?_)
            have hP : va_P D vwCl (wB cy r σ19) H := hP
            have hD : va_D A (wB cy r σ19) := hD
            have ik19 : Keep [(4, 1)] [24] σ18 σ19 := hw.2
            have kp : Keep [(4, 1), (6, 3), (6, 4), (6, 10), (6, 15), (8, 10)] [24, 40, 41, 42, 43, 44] σ0 σ19 := keep_c kp ik19 (by decide) (by decide)
            have i19 : Inv σ19 := hw.1
            refine lv_goto (tgt := 137) hx hb d_X1_local_115 (by decide) ?_
            refine W.widen (k := 0) (n := 0) (Nat.le_of_ble_eq_true rfl) (Nat.le_of_ble_eq_true rfl) ?_
            exact k_vret (X := St) (w1 := fun τ => wB cy r τ) σ19 hx hb hr d_X1_local_137 hlocks hP hK hD hS ⟨i19, kp⟩
        · -- not taken at 60
          refine W.widen (k := 0) (n := 0) (Nat.le_of_ble_eq_true rfl) (Nat.le_of_ble_eq_true rfl) ?_
          exact k_vret (X := St) (w1 := fun τ => wB cy r τ) σ15 hx hb hr d_X1_local_63 hlocks hP hK hD hS ⟨i15, kp⟩
      · -- not taken at 36
        refine lv_aload_n hx hb d_X1_local_39 rfl (lv_at hl 0 rfl) ?_
        refine va_get (D := D) (ci := 1) (v := .ref (r 6)) (C := "LinkedUnits$Declarations") (T := TX1) (N := 18) hx hb hg iwX1 hown hK hP 7 rfl rfl 2 (by decide) (hg _ m_491) (fun _ h9 => h9) rfl d_X1_local_40 ?_
        refine lv_iconst (v := 4) hx hb d_X1_local_43 (by decide) ?_
        refine lv_iload_n hx hb d_X1_local_44 rfl (lv_at hl 1 rfl) ?_
        refine s_callv (X := St) (w1 := fun τ => wB cy r τ) (va_runVN (As := [.int 4, .int x1]) (rest := []) ⟨hx, hb, hml, hown, hg⟩ (s_X11_fail l D cy H.size w g r σ14 (4 : Int32) x1 i14 ) ⟨(va_cnB 2 hg (gw_c m_1093) rfl rfl rfl (hNW.1 _ nm_1370) (hg _ m_10) (by decide +kernel) ⟨(Nat.le_of_ble_eq_true rfl), (Nat.le_of_ble_eq_true rfl)⟩), (hg _ m_1092), hg _ ms_X11_fail⟩ (s_preVE (As := [.int 4, .int x1]) (gE_ok w g) hS hA hE hP hD hK hNW 5 rfl rfl) rfl rfl hl.1 rfl (lv_room (Nat.le_of_ble_eq_true rfl)) d_X1_local_45 ⟨(Nat.le_of_ble_eq_true rfl), (Nat.le_of_ble_eq_true rfl)⟩) hP hD hS hA (fun σ20 H locs hw hP hD hS => ?_)
        have hP : va_P D vwCl (wB cy r σ20) H := hP
        have hD : va_D A (wB cy r σ20) := hD
        have ik20 : Keep [(6, 3), (6, 4)] [] σ14 σ20 := hw.2
        have kp : Keep [(4, 1), (6, 3), (6, 4), (6, 10), (6, 15), (8, 10)] [24, 40, 41, 42, 43, 44] σ0 σ20 := keep_c kp ik20 (by decide) (by decide)
        have i20 : Inv σ20 := hw.1
        refine lv_aload_n hx hb d_X1_local_48 rfl (lv_at hl 0 rfl) ?_
        refine lv_iload_n hx hb d_X1_local_49 rfl (lv_at hl 2 rfl) ?_
        refine s_callv (X := St) (w1 := fun τ => wB cy r τ) (va_runV (As := [.int x2]) (rest := []) ⟨hx, hb, hml, hown, hg⟩ (s_X1_checkSquare l D cy H.size w g r σ20 x2 i20 z_x2) (cwV 1 hg (gw_V m_1371 m_1373 ms_X1_checkSquare m_13 m_1374) rfl rfl rfl (by decide +kernel) ⟨(Nat.le_of_ble_eq_true rfl), (Nat.le_of_ble_eq_true rfl)⟩) (s_preVE (As := [.int x2]) (gE_ok w g) hS hA hE hP hD hK hNW 7 rfl rfl) rfl rfl hl.1 rfl (lv_room (Nat.le_of_ble_eq_true rfl)) d_X1_local_50 ⟨(Nat.le_of_ble_eq_true rfl), (Nat.le_of_ble_eq_true rfl)⟩) hP hD hS hA (fun σ21 H locs hw hP hD hS => ?_)
        have hP : va_P D vwCl (wB cy r σ21) H := hP
        have hD : va_D A (wB cy r σ21) := hD
        have ik21 : Keep [(6, 3), (6, 4)] [] σ20 σ21 := hw.2
        have kp : Keep [(4, 1), (6, 3), (6, 4), (6, 10), (6, 15), (8, 10)] [24, 40, 41, 42, 43, 44] σ0 σ21 := keep_c kp ik21 (by decide) (by decide)
        have i21 : Inv σ21 := hw.1
        refine lv_aload_n hx hb d_X1_local_53 rfl (lv_at hl 0 rfl) ?_
        refine va_get (D := D) (ci := 1) (v := .ref (r 6)) (C := "LinkedUnits$Declarations") (T := TX1) (N := 18) hx hb hg iwX1 hown hK hP 7 rfl rfl 2 (by decide) (hg _ m_491) (fun _ h9 => h9) rfl d_X1_local_54 ?_
        refine va_getN (D := D) (ci := 11) (v := .int (σ21 6 3)) (C := "LinkedUnits$Unit") (T := TX11) (N := 19) hx hb hg iwX11 hown hK hP 5 rfl rfl 3 (by decide) (va_Nw.use rfl (hNW.1 _ nm_317)) (fun _ h9 => h9) rfl d_X1_local_57 ?_
        refine lv_if_eq (tgt := 64) hx hb d_X1_local_60 (by decide) (fun c_60 => ?_) (fun c_60 => ?_)
        · -- taken at 60
          refine lv_aload_n hx hb d_X1_local_64 rfl (lv_at hl 0 rfl) ?_
          refine lv_aload_n hx hb d_X1_local_65 rfl (lv_at hl 0 rfl) ?_
          refine va_get (D := D) (ci := 1) (v := .ref (r 6)) (C := "LinkedUnits$Declarations") (T := TX1) (N := 18) hx hb hg iwX1 hown hK hP 7 rfl rfl 2 (by decide) (hg _ m_491) (fun _ h9 => h9) rfl d_X1_local_66 ?_
          refine va_getN (D := D) (ci := 11) (v := .int (σ21 6 10)) (C := "LinkedUnits$Unit") (T := TX11) (N := 19) hx hb hg iwX11 hown hK hP 5 rfl rfl 10 (by decide) (va_Nw.use rfl (hNW.1 _ nm_332)) (fun _ h9 => h9) rfl d_X1_local_69 ?_
          refine k_topi (σ0 6 10) ((ik21 6 10 rfl rfl).trans ((ik20 6 10 rfl rfl).trans (ik14 6 10 rfl rfl))) ?_
          refine va_put (D := D) (ci := 1) (v := .int (σ0 6 10)) (ty := .int) (C := "LinkedUnits$Declarations") (T := TX1) (N := 18) hx hb hg iwX1 tyX1 tyX1_ok nmX1 hown hK hP hD hS 7 rfl rfl 10 (by decide) (hg _ m_502) (fun _ h9 => h9) rfl (by decide +kernel) rfl rfl (Nat.le_of_ble_eq_true rfl) d_X1_local_72 (fun H locs hP hD hS => ?_)
          have hP : va_P D vwCl (wB cy r (upC σ21 8 10 (σ0 6 10))) H := hP
          have hD : va_D A (wB cy r (upC σ21 8 10 (σ0 6 10))) := hD
          have kp : Keep [(4, 1), (6, 3), (6, 4), (6, 10), (6, 15), (8, 10)] [24, 40, 41, 42, 43, 44] σ0 (upC σ21 8 10 (σ0 6 10)) := keep_f kp (by decide)
          refine lv_aload_n hx hb d_X1_local_75 rfl (lv_at hl 0 rfl) ?_
          refine va_get (D := D) (ci := 1) (v := .ref (r 6)) (C := "LinkedUnits$Declarations") (T := TX1) (N := 18) hx hb hg iwX1 hown hK hP 7 rfl rfl 2 (by decide) (hg _ m_491) (fun _ h9 => h9) rfl d_X1_local_76 ?_
          refine lv_iload_n hx hb d_X1_local_79 rfl (lv_at hl 1 rfl) ?_
          refine lv_aload_n hx hb d_X1_local_80 rfl (lv_at hl 0 rfl) ?_
          refine va_get (D := D) (ci := 1) (v := .int (σ21 8 11)) (C := "LinkedUnits$Declarations") (T := TX1) (N := 18) hx hb hg iwX1 hown hK hP 7 rfl rfl 11 (by decide) (hg _ m_503) (fun _ h9 => h9) rfl d_X1_local_81 ?_
          refine k_topi (σ0 8 11) ((ik21 8 11 rfl rfl).trans ((ik20 8 11 rfl rfl).trans (ik14 8 11 rfl rfl))) ?_
          refine lv_aload_n hx hb d_X1_local_84 rfl (lv_at hl 0 rfl) ?_
          refine va_get (D := D) (ci := 1) (v := .int (σ21 8 12)) (C := "LinkedUnits$Declarations") (T := TX1) (N := 18) hx hb hg iwX1 hown hK hP 7 rfl rfl 12 (by decide) (hg _ m_504) (fun _ h9 => h9) rfl d_X1_local_85 ?_
          refine k_topi (σ0 8 12) ((ik21 8 12 rfl rfl).trans ((ik20 8 12 rfl rfl).trans (ik14 8 12 rfl rfl))) ?_
          refine s_callv (X := St) (w1 := fun τ => wB cy r τ) (va_runVN (As := [.int x1, .int (σ0 8 11), .int (σ0 8 12)]) (rest := []) ⟨hx, hb, hml, hown, hg⟩ (s_X11_declareLocal l D cy H.size w g r (upC σ21 8 10 (σ0 6 10)) x1 (σ0 8 11) (σ0 8 12) i21 ) ⟨(va_cnB 3 hg (gw_c m_1378) rfl rfl rfl (hNW.1 _ nm_1375) (hg _ m_10) (by decide +kernel) ⟨(Nat.le_of_ble_eq_true rfl), (Nat.le_of_ble_eq_true rfl)⟩), (hg _ m_1377), hg _ ms_X11_declareLocal⟩ (s_preVE (As := [.int x1, .int (σ0 8 11), .int (σ0 8 12)]) (gE_ok w g) hS hA hE hP hD hK hNW 5 rfl rfl) rfl rfl hl.1 rfl (lv_room (Nat.le_of_ble_eq_true rfl)) d_X1_local_88 ⟨(Nat.le_of_ble_eq_true rfl), (Nat.le_of_ble_eq_true rfl)⟩) hP hD hS hA (fun σ22 H locs hw hP hD hS => ?_)
          have hP : va_P D vwCl (wB cy r σ22) H := hP
          have hD : va_D A (wB cy r σ22) := hD
          have ik22 : Keep [(6, 10), (6, 15)] [40, 41, 42, 43, 44] (upC σ21 8 10 (σ0 6 10)) σ22 := hw.2
          have kp : Keep [(4, 1), (6, 3), (6, 4), (6, 10), (6, 15), (8, 10)] [24, 40, 41, 42, 43, 44] σ0 σ22 := keep_c kp ik22 (by decide) (by decide)
          have i22 : Inv σ22 := hw.1
          refine lv_aload_n hx hb d_X1_local_91 rfl (lv_at hl 0 rfl) ?_
          refine va_get (D := D) (ci := 1) (v := .int (σ22 8 12)) (C := "LinkedUnits$Declarations") (T := TX1) (N := 18) hx hb hg iwX1 hown hK hP 7 rfl rfl 12 (by decide) (hg _ m_504) (fun _ h9 => h9) rfl d_X1_local_92 ?_
          refine k_topi (σ0 8 12) ((ik22 8 12 rfl rfl).trans ((ik21 8 12 rfl rfl).trans ((ik20 8 12 rfl rfl).trans (ik14 8 12 rfl rfl)))) ?_
          refine lv_iconst (v := (-1)) hx hb d_X1_local_95 (by decide) ?_
          refine lv_icmp_ne (tgt := 118) hx hb d_X1_local_96 (by decide) (fun c_96 => ?_) (fun c_96 => ?_)
          · -- taken at 96
            refine lv_aload_n hx hb d_X1_local_118 rfl (lv_at hl 0 rfl) ?_
            refine va_get (D := D) (ci := 1) (v := .ref (r 4)) (C := "LinkedUnits$Declarations") (T := TX1) (N := 18) hx hb hg iwX1 hown hK hP 7 rfl rfl 4 (by decide) (hg _ m_493) (fun _ h9 => h9) rfl d_X1_local_119 ?_
            refine lv_bipush (v := 15) hx hb d_X1_local_122 (by decide) ?_
            refine lv_aload_n hx hb d_X1_local_124 rfl (lv_at hl 0 rfl) ?_
            refine va_get (D := D) (ci := 1) (v := .int (σ22 8 10)) (C := "LinkedUnits$Declarations") (T := TX1) (N := 18) hx hb hg iwX1 hown hK hP 7 rfl rfl 10 (by decide) (hg _ m_502) (fun _ h9 => h9) rfl d_X1_local_125 ?_
            refine k_topi (σ0 6 10) (ik22 8 10 rfl rfl) ?_
            refine lv_aload_n hx hb d_X1_local_128 rfl (lv_at hl 0 rfl) ?_
            refine va_get (D := D) (ci := 1) (v := .int (σ22 8 12)) (C := "LinkedUnits$Declarations") (T := TX1) (N := 18) hx hb hg iwX1 hown hK hP 7 rfl rfl 12 (by decide) (hg _ m_504) (fun _ h9 => h9) rfl d_X1_local_129 ?_
            refine k_topi (σ0 8 12) ((ik22 8 12 rfl rfl).trans ((ik21 8 12 rfl rfl).trans ((ik20 8 12 rfl rfl).trans (ik14 8 12 rfl rfl)))) ?_
            refine lv_iconst (v := 0) hx hb d_X1_local_132 (by decide) ?_
            refine s_calli (X := St) (w1 := fun τ => wB cy r τ) (va_runVN (As := [.int 15, .int (σ0 6 10), .int (σ0 8 12), .int 0]) (rest := []) ⟨hx, hb, hml, hown, hg⟩ (s_X0_emit l D cy H.size w g r σ22 (15 : Int32) (σ0 6 10) (σ0 8 12) (0 : Int32) i22 ) ⟨(va_cnB 4 hg (gw_c m_1074) rfl rfl rfl (hNW.1 _ nm_1379) (hg _ m_4) (by decide +kernel) ⟨(Nat.le_of_ble_eq_true rfl), (Nat.le_of_ble_eq_true rfl)⟩), (hg _ m_1073), hg _ ms_X0_emit⟩ (s_preVE (As := [.int 15, .int (σ0 6 10), .int (σ0 8 12), .int 0]) (gE_ok w g) hS hA hE hP hD hK hNW 3 rfl rfl) rfl rfl hl.1 rfl (lv_room (Nat.le_of_ble_eq_true rfl)) d_X1_local_133 ⟨(Nat.le_of_ble_eq_true rfl), (Nat.le_of_ble_eq_true rfl)⟩) hP hD hS hA (fun r23 σ23 H locs hw hP hD hS => ?_)
            have hP : va_P D vwCl (wB cy r σ23) H := hP
            have hD : va_D A (wB cy r σ23) := hD
            have ik23 : Keep [(4, 1)] [24] σ22 σ23 := hw.2
            have kp : Keep [(4, 1), (6, 3), (6, 4), (6, 10), (6, 15), (8, 10)] [24, 40, 41, 42, 43, 44] σ0 σ23 := keep_c kp ik23 (by decide) (by decide)
            have i23 : Inv σ23 := hw.1
            refine lv_pop hx hb d_X1_local_136 rfl ?_
            refine W.widen (k := 0) (n := 0) (Nat.le_of_ble_eq_true rfl) (Nat.le_of_ble_eq_true rfl) ?_
            exact k_vret (X := St) (w1 := fun τ => wB cy r τ) σ23 hx hb hr d_X1_local_137 hlocks hP hK hD hS ⟨i23, kp⟩
          · -- not taken at 96
            refine lv_aload_n hx hb d_X1_local_99 rfl (lv_at hl 0 rfl) ?_
            refine va_get (D := D) (ci := 1) (v := .ref (r 4)) (C := "LinkedUnits$Declarations") (T := TX1) (N := 18) hx hb hg iwX1 hown hK hP 7 rfl rfl 4 (by decide) (hg _ m_493) (fun _ h9 => h9) rfl d_X1_local_100 ?_
            refine lv_iconst (v := 1) hx hb d_X1_local_103 (by decide) ?_
            refine lv_iconst (v := 0) hx hb d_X1_local_104 (by decide) ?_
            refine lv_iconst (v := 0) hx hb d_X1_local_105 (by decide) ?_
            refine lv_iconst (v := 0) hx hb d_X1_local_106 (by decide) ?_
            refine s_calli (X := St) (w1 := fun τ => wB cy r τ) (va_runVN (As := [.int 1, .int 0, .int 0, .int 0]) (rest := []) ⟨hx, hb, hml, hown, hg⟩ (s_X0_emit l D cy H.size w g r σ22 (1 : Int32) (0 : Int32) (0 : Int32) (0 : Int32) i22 ) ⟨(va_cnB 4 hg (gw_c m_1074) rfl rfl rfl (hNW.1 _ nm_1379) (hg _ m_4) (by decide +kernel) ⟨(Nat.le_of_ble_eq_true rfl), (Nat.le_of_ble_eq_true rfl)⟩), (hg _ m_1073), hg _ ms_X0_emit⟩ (s_preVE (As := [.int 1, .int 0, .int 0, .int 0]) (gE_ok w g) hS hA hE hP hD hK hNW 3 rfl rfl) rfl rfl hl.1 rfl (lv_room (Nat.le_of_ble_eq_true rfl)) d_X1_local_107 ⟨(Nat.le_of_ble_eq_true rfl), (Nat.le_of_ble_eq_true rfl)⟩) hP hD hS hA (fun r24 σ24 H locs hw hP hD hS => ?_)
            have hP : va_P D vwCl (wB cy r σ24) H := hP
            have hD : va_D A (wB cy r σ24) := hD
            have ik24 : Keep [(4, 1)] [24] σ22 σ24 := hw.2
            have kp : Keep [(4, 1), (6, 3), (6, 4), (6, 10), (6, 15), (8, 10)] [24, 40, 41, 42, 43, 44] σ0 σ24 := keep_c kp ik24 (by decide) (by decide)
            have i24 : Inv σ24 := hw.1
            refine lv_pop hx hb d_X1_local_110 rfl ?_
            refine lv_aload_n hx hb d_X1_local_111 rfl (lv_at hl 0 rfl) ?_
            refine s_callv (X := St) (w1 := fun τ => wB cy r τ) (va_runV (As := []) (rest := []) ⟨hx, hb, hml, hown, hg⟩ (s_X1_storeLocal l D cy H.size w g r σ24  i24 ) (cwV 0 hg (gw_V m_1380 m_1382 ms_X1_storeLocal m_13 m_1383) rfl rfl rfl (by decide +kernel) ⟨(Nat.le_of_ble_eq_true rfl), (Nat.le_of_ble_eq_true rfl)⟩) (s_preVE (As := []) (gE_ok w g) hS hA hE hP hD hK hNW 7 rfl rfl) rfl rfl hl.1 rfl (lv_room (Nat.le_of_ble_eq_true rfl)) d_X1_local_112 ⟨(Nat.le_of_ble_eq_true rfl), (Nat.le_of_ble_eq_true rfl)⟩) hP hD hS hA (fun σ25 H locs hw hP hD hS => ?_)
            have hP : va_P D vwCl (wB cy r σ25) H := hP
            have hD : va_D A (wB cy r σ25) := hD
            have ik25 : Keep [(4, 1)] [24] σ24 σ25 := hw.2
            have kp : Keep [(4, 1), (6, 3), (6, 4), (6, 10), (6, 15), (8, 10)] [24, 40, 41, 42, 43, 44] σ0 σ25 := keep_c kp ik25 (by decide) (by decide)
            have i25 : Inv σ25 := hw.1
            refine lv_goto (tgt := 137) hx hb d_X1_local_115 (by decide) ?_
            refine W.widen (k := 0) (n := 0) (Nat.le_of_ble_eq_true rfl) (Nat.le_of_ble_eq_true rfl) ?_
            exact k_vret (X := St) (w1 := fun τ => wB cy r τ) σ25 hx hb hr d_X1_local_137 hlocks hP hK hD hS ⟨i25, kp⟩
        · -- not taken at 60
          refine W.widen (k := 0) (n := 0) (Nat.le_of_ble_eq_true rfl) (Nat.le_of_ble_eq_true rfl) ?_
          exact k_vret (X := St) (w1 := fun τ => wB cy r τ) σ21 hx hb hr d_X1_local_63 hlocks hP hK hD hS ⟨i21, kp⟩
  rw [hH] at hgoal
  exact hgoal
