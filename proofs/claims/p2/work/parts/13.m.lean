set_option maxHeartbeats 4000000 in
set_option maxRecDepth 100000 in
theorem s_X1_checkSquare (l : Launch) (D : va_G) (cy : Nat → ClassId) (sz : Nat) (w : Nat → Nat) (g : Nat → Nat → Int32) (r : Nat → Nat) (σ0 : St) (a1 : Int32) (i0 : Inv σ0) (z_a1 : a1 = 0 ∨ a1 = 1) : Met l y_X1_checkSquare (Cond.code y_X1_checkSquare b_X1_checkSquare 2 none :: GW) ({ frames := 1, cells := 0, slots := 0, locals := 22 } : Room) (va_Pc [.ref (r 8), .int a1] (kPreE D cy sz (wB cy r σ0) (gE w g))) ((fun A : Nat → Prop => va_Qv (S := St) (fun (τ : St) => (Inv τ ∧ Keep [(6, 3), (6, 4)] [] σ0 τ)) (fun τ => kPost D cy A (wB cy r τ)) A) (va_A (wB cy r σ0) sz)) 0 0 (va_A (wB cy r σ0) sz) := by
  refine k_ofWE (Qc := fun A => va_Qv (S := St) (fun (τ : St) => (Inv τ ∧ Keep [(6, 3), (6, 4)] [] σ0 τ)) (fun τ => kPost D cy A (wB cy r τ)) A) (by decide) (Nat.le_of_ble_eq_true rfl) ?_
  intro p e s m below meth c A ls hx hb hr hml hown hlocks hin hg hNW hK hP hD hA hS hl hE
  have hl : lv_has ls 2 [(0, .ref (r 8)), (1, .int a1)] := hl
  have hown : s.vm.findClass "LinkedUnits$Declarations" = some m.cls := hown
  have kp : Keep [(6, 3), (6, 4)] [] σ0 σ0 := keep_rf
  obtain ⟨H, hH⟩ : ∃ H, H = s.heap := ⟨_, rfl⟩
  rw [← hH] at hP
  have hS : va_S A s.heap H [] := by rw [hH]; exact va_S.rf
  have hgoal : W p l e ({ frames := 1, cells := 0, slots := 0, locals := 22 } : Room) s m (([.ref (r 8), .int a1] : List Value).toArray) below meth c H [] 0 0 (MQ below (va_Qv (S := St) (fun (τ : St) => (Inv τ ∧ Keep [(6, 3), (6, 4)] [] σ0 τ)) (fun τ => kPost D cy A (wB cy r τ)) A) (([.ref (r 8), .int a1] : List Value).toArray) s 0 0 A) (F0 m 0 ls []) := by
    refine lv_aload_n hx hb d_X1_checkSquare_0 rfl (lv_at hl 0 rfl) ?_
    refine va_get (D := D) (ci := 1) (v := .int (σ0 8 6)) (C := "LinkedUnits$Declarations") (T := TX1) (N := 18) hx hb hg iwX1 hown hK hP 7 rfl rfl 6 (by decide) (hg _ m_497) (fun _ h9 => h9) rfl d_X1_checkSquare_1 ?_
    refine lv_if_lt (tgt := 42) hx hb d_X1_checkSquare_4 (by decide) (fun c_4 => ?_) (fun c_4 => ?_)
    · -- taken at 4
      refine lv_aload_n hx hb d_X1_checkSquare_42 rfl (lv_at hl 0 rfl) ?_
      refine va_get (D := D) (ci := 1) (v := .int (σ0 8 6)) (C := "LinkedUnits$Declarations") (T := TX1) (N := 18) hx hb hg iwX1 hown hK hP 7 rfl rfl 6 (by decide) (hg _ m_497) (fun _ h9 => h9) rfl d_X1_checkSquare_43 ?_
      refine lv_if_lt (tgt := 71) hx hb d_X1_checkSquare_46 (by decide) (fun c_46 => ?_) (fun c_46 => ?_)
      · -- taken at 46
        refine W.widen (k := 0) (n := 0) (Nat.le_of_ble_eq_true rfl) (Nat.le_of_ble_eq_true rfl) ?_
        exact k_vret (X := St) (w1 := fun τ => wB cy r τ) σ0 hx hb hr d_X1_checkSquare_71 hlocks hP hK hD hS ⟨i0, kp⟩
      · -- not taken at 46
        refine lv_aload_n hx hb d_X1_checkSquare_49 rfl (lv_at hl 0 rfl) ?_
        refine va_get (D := D) (ci := 1) (v := .int (σ0 8 7)) (C := "LinkedUnits$Declarations") (T := TX1) (N := 18) hx hb hg iwX1 hown hK hP 7 rfl rfl 7 (by decide) (hg _ m_498) (fun _ h9 => h9) rfl d_X1_checkSquare_50 ?_
        refine lv_sipush (v := 4000) hx hb d_X1_checkSquare_53 (by decide) ?_
        refine lv_icmp_le (tgt := 71) hx hb d_X1_checkSquare_56 (by decide) (fun c_56 => ?_) (fun c_56 => ?_)
        · -- taken at 56
          refine W.widen (k := 0) (n := 0) (Nat.le_of_ble_eq_true rfl) (Nat.le_of_ble_eq_true rfl) ?_
          exact k_vret (X := St) (w1 := fun τ => wB cy r τ) σ0 hx hb hr d_X1_checkSquare_71 hlocks hP hK hD hS ⟨i0, kp⟩
        · -- not taken at 56
          refine lv_aload_n hx hb d_X1_checkSquare_59 rfl (lv_at hl 0 rfl) ?_
          refine va_get (D := D) (ci := 1) (v := .ref (r 6)) (C := "LinkedUnits$Declarations") (T := TX1) (N := 18) hx hb hg iwX1 hown hK hP 7 rfl rfl 2 (by decide) (hg _ m_491) (fun _ h9 => h9) rfl d_X1_checkSquare_60 ?_
          refine lv_iconst (v := 4) hx hb d_X1_checkSquare_63 (by decide) ?_
          refine lv_aload_n hx hb d_X1_checkSquare_64 rfl (lv_at hl 0 rfl) ?_
          refine va_get (D := D) (ci := 1) (v := .int (σ0 8 6)) (C := "LinkedUnits$Declarations") (T := TX1) (N := 18) hx hb hg iwX1 hown hK hP 7 rfl rfl 6 (by decide) (hg _ m_497) (fun _ h9 => h9) rfl d_X1_checkSquare_65 ?_
          refine s_callv (X := St) (w1 := fun τ => wB cy r τ) (va_runVN (As := [.int 4, .int (σ0 8 6)]) (rest := []) ⟨hx, hb, hml, hown, hg⟩ (s_X11_fail l D cy H.size w g r σ0 (4 : Int32) (σ0 8 6) i0 ) ⟨(va_cnB 2 hg (gw_c m_1093) rfl rfl rfl (hNW.1 _ nm_1370) (hg _ m_10) (by decide +kernel) ⟨(Nat.le_of_ble_eq_true rfl), (Nat.le_of_ble_eq_true rfl)⟩), (hg _ m_1092), hg _ ms_X11_fail⟩ (s_preVE (As := [.int 4, .int (σ0 8 6)]) (gE_ok w g) hS hA hE hP hD hK hNW 5 rfl rfl) rfl rfl hl.1 rfl (lv_room (Nat.le_of_ble_eq_true rfl)) d_X1_checkSquare_68 ⟨(Nat.le_of_ble_eq_true rfl), (Nat.le_of_ble_eq_true rfl)⟩) hP hD hS hA (fun σ1 H locs hw hP hD hS => ?_)
          have hP : va_P D vwCl (wB cy r σ1) H := hP
          have hD : va_D A (wB cy r σ1) := hD
          have ik1 : Keep [(6, 3), (6, 4)] [] σ0 σ1 := hw.2
          have kp : Keep [(6, 3), (6, 4)] [] σ0 σ1 := keep_c kp ik1 (by decide) (by decide)
          have i1 : Inv σ1 := hw.1
          refine W.widen (k := 0) (n := 0) (Nat.le_of_ble_eq_true rfl) (Nat.le_of_ble_eq_true rfl) ?_
          exact k_vret (X := St) (w1 := fun τ => wB cy r τ) σ1 hx hb hr d_X1_checkSquare_71 hlocks hP hK hD hS ⟨i1, kp⟩
    · -- not taken at 4
      refine lv_aload_n hx hb d_X1_checkSquare_7 rfl (lv_at hl 0 rfl) ?_
      refine va_get (D := D) (ci := 1) (v := .int (σ0 8 7)) (C := "LinkedUnits$Declarations") (T := TX1) (N := 18) hx hb hg iwX1 hown hK hP 7 rfl rfl 7 (by decide) (hg _ m_498) (fun _ h9 => h9) rfl d_X1_checkSquare_8 ?_
      refine lv_iconst (v := (-1)) hx hb d_X1_checkSquare_11 (by decide) ?_
      refine lv_icmp_ne (tgt := 22) hx hb d_X1_checkSquare_12 (by decide) (fun c_12 => ?_) (fun c_12 => ?_)
      · -- taken at 12
        refine lv_aload_n hx hb d_X1_checkSquare_22 rfl (lv_at hl 0 rfl) ?_
        refine va_get (D := D) (ci := 1) (v := .int (σ0 8 7)) (C := "LinkedUnits$Declarations") (T := TX1) (N := 18) hx hb hg iwX1 hown hK hP 7 rfl rfl 7 (by decide) (hg _ m_498) (fun _ h9 => h9) rfl d_X1_checkSquare_23 ?_
        refine lv_iconst (v := 1) hx hb d_X1_checkSquare_26 (by decide) ?_
        refine lv_icmp_ge (tgt := 42) hx hb d_X1_checkSquare_27 (by decide) (fun c_27 => ?_) (fun c_27 => ?_)
        · -- taken at 27
          refine lv_aload_n hx hb d_X1_checkSquare_42 rfl (lv_at hl 0 rfl) ?_
          refine va_get (D := D) (ci := 1) (v := .int (σ0 8 6)) (C := "LinkedUnits$Declarations") (T := TX1) (N := 18) hx hb hg iwX1 hown hK hP 7 rfl rfl 6 (by decide) (hg _ m_497) (fun _ h9 => h9) rfl d_X1_checkSquare_43 ?_
          refine lv_if_lt (tgt := 71) hx hb d_X1_checkSquare_46 (by decide) (fun c_46 => ?_) (fun c_46 => ?_)
          · -- taken at 46
            refine W.widen (k := 0) (n := 0) (Nat.le_of_ble_eq_true rfl) (Nat.le_of_ble_eq_true rfl) ?_
            exact k_vret (X := St) (w1 := fun τ => wB cy r τ) σ0 hx hb hr d_X1_checkSquare_71 hlocks hP hK hD hS ⟨i0, kp⟩
          · -- not taken at 46
            refine lv_aload_n hx hb d_X1_checkSquare_49 rfl (lv_at hl 0 rfl) ?_
            refine va_get (D := D) (ci := 1) (v := .int (σ0 8 7)) (C := "LinkedUnits$Declarations") (T := TX1) (N := 18) hx hb hg iwX1 hown hK hP 7 rfl rfl 7 (by decide) (hg _ m_498) (fun _ h9 => h9) rfl d_X1_checkSquare_50 ?_
            refine lv_sipush (v := 4000) hx hb d_X1_checkSquare_53 (by decide) ?_
            refine lv_icmp_le (tgt := 71) hx hb d_X1_checkSquare_56 (by decide) (fun c_56 => ?_) (fun c_56 => ?_)
            · -- taken at 56
              refine W.widen (k := 0) (n := 0) (Nat.le_of_ble_eq_true rfl) (Nat.le_of_ble_eq_true rfl) ?_
              exact k_vret (X := St) (w1 := fun τ => wB cy r τ) σ0 hx hb hr d_X1_checkSquare_71 hlocks hP hK hD hS ⟨i0, kp⟩
            · -- not taken at 56
              refine lv_aload_n hx hb d_X1_checkSquare_59 rfl (lv_at hl 0 rfl) ?_
              refine va_get (D := D) (ci := 1) (v := .ref (r 6)) (C := "LinkedUnits$Declarations") (T := TX1) (N := 18) hx hb hg iwX1 hown hK hP 7 rfl rfl 2 (by decide) (hg _ m_491) (fun _ h9 => h9) rfl d_X1_checkSquare_60 ?_
              refine lv_iconst (v := 4) hx hb d_X1_checkSquare_63 (by decide) ?_
              refine lv_aload_n hx hb d_X1_checkSquare_64 rfl (lv_at hl 0 rfl) ?_
              refine va_get (D := D) (ci := 1) (v := .int (σ0 8 6)) (C := "LinkedUnits$Declarations") (T := TX1) (N := 18) hx hb hg iwX1 hown hK hP 7 rfl rfl 6 (by decide) (hg _ m_497) (fun _ h9 => h9) rfl d_X1_checkSquare_65 ?_
              refine s_callv (X := St) (w1 := fun τ => wB cy r τ) (va_runVN (As := [.int 4, .int (σ0 8 6)]) (rest := []) ⟨hx, hb, hml, hown, hg⟩ (s_X11_fail l D cy H.size w g r σ0 (4 : Int32) (σ0 8 6) i0 ) ⟨(va_cnB 2 hg (gw_c m_1093) rfl rfl rfl (hNW.1 _ nm_1370) (hg _ m_10) (by decide +kernel) ⟨(Nat.le_of_ble_eq_true rfl), (Nat.le_of_ble_eq_true rfl)⟩), (hg _ m_1092), hg _ ms_X11_fail⟩ (s_preVE (As := [.int 4, .int (σ0 8 6)]) (gE_ok w g) hS hA hE hP hD hK hNW 5 rfl rfl) rfl rfl hl.1 rfl (lv_room (Nat.le_of_ble_eq_true rfl)) d_X1_checkSquare_68 ⟨(Nat.le_of_ble_eq_true rfl), (Nat.le_of_ble_eq_true rfl)⟩) hP hD hS hA (fun σ2 H locs hw hP hD hS => ?_)
              have hP : va_P D vwCl (wB cy r σ2) H := hP
              have hD : va_D A (wB cy r σ2) := hD
              have ik2 : Keep [(6, 3), (6, 4)] [] σ0 σ2 := hw.2
              have kp : Keep [(6, 3), (6, 4)] [] σ0 σ2 := keep_c kp ik2 (by decide) (by decide)
              have i2 : Inv σ2 := hw.1
              refine W.widen (k := 0) (n := 0) (Nat.le_of_ble_eq_true rfl) (Nat.le_of_ble_eq_true rfl) ?_
              exact k_vret (X := St) (w1 := fun τ => wB cy r τ) σ2 hx hb hr d_X1_checkSquare_71 hlocks hP hK hD hS ⟨i2, kp⟩
        · -- not taken at 27
          refine lv_aload_n hx hb d_X1_checkSquare_30 rfl (lv_at hl 0 rfl) ?_
          refine va_get (D := D) (ci := 1) (v := .ref (r 6)) (C := "LinkedUnits$Declarations") (T := TX1) (N := 18) hx hb hg iwX1 hown hK hP 7 rfl rfl 2 (by decide) (hg _ m_491) (fun _ h9 => h9) rfl d_X1_checkSquare_31 ?_
          refine lv_iconst (v := 2) hx hb d_X1_checkSquare_34 (by decide) ?_
          refine lv_aload_n hx hb d_X1_checkSquare_35 rfl (lv_at hl 0 rfl) ?_
          refine va_get (D := D) (ci := 1) (v := .int (σ0 8 6)) (C := "LinkedUnits$Declarations") (T := TX1) (N := 18) hx hb hg iwX1 hown hK hP 7 rfl rfl 6 (by decide) (hg _ m_497) (fun _ h9 => h9) rfl d_X1_checkSquare_36 ?_
          refine s_callv (X := St) (w1 := fun τ => wB cy r τ) (va_runVN (As := [.int 2, .int (σ0 8 6)]) (rest := []) ⟨hx, hb, hml, hown, hg⟩ (s_X11_fail l D cy H.size w g r σ0 (2 : Int32) (σ0 8 6) i0 ) ⟨(va_cnB 2 hg (gw_c m_1093) rfl rfl rfl (hNW.1 _ nm_1370) (hg _ m_10) (by decide +kernel) ⟨(Nat.le_of_ble_eq_true rfl), (Nat.le_of_ble_eq_true rfl)⟩), (hg _ m_1092), hg _ ms_X11_fail⟩ (s_preVE (As := [.int 2, .int (σ0 8 6)]) (gE_ok w g) hS hA hE hP hD hK hNW 5 rfl rfl) rfl rfl hl.1 rfl (lv_room (Nat.le_of_ble_eq_true rfl)) d_X1_checkSquare_39 ⟨(Nat.le_of_ble_eq_true rfl), (Nat.le_of_ble_eq_true rfl)⟩) hP hD hS hA (fun σ3 H locs hw hP hD hS => ?_)
          have hP : va_P D vwCl (wB cy r σ3) H := hP
          have hD : va_D A (wB cy r σ3) := hD
          have ik3 : Keep [(6, 3), (6, 4)] [] σ0 σ3 := hw.2
          have kp : Keep [(6, 3), (6, 4)] [] σ0 σ3 := keep_c kp ik3 (by decide) (by decide)
          have i3 : Inv σ3 := hw.1
          refine lv_aload_n hx hb d_X1_checkSquare_42 rfl (lv_at hl 0 rfl) ?_
          refine va_get (D := D) (ci := 1) (v := .int (σ3 8 6)) (C := "LinkedUnits$Declarations") (T := TX1) (N := 18) hx hb hg iwX1 hown hK hP 7 rfl rfl 6 (by decide) (hg _ m_497) (fun _ h9 => h9) rfl d_X1_checkSquare_43 ?_
          refine k_topi (σ0 8 6) (ik3 8 6 rfl rfl) ?_
          refine lv_if_lt (tgt := 71) hx hb d_X1_checkSquare_46 (by decide) (fun c_46 => ?_) (fun c_46 => ?_)
          · -- taken at 46
            refine W.widen (k := 0) (n := 0) (Nat.le_of_ble_eq_true rfl) (Nat.le_of_ble_eq_true rfl) ?_
            exact k_vret (X := St) (w1 := fun τ => wB cy r τ) σ3 hx hb hr d_X1_checkSquare_71 hlocks hP hK hD hS ⟨i3, kp⟩
          · -- not taken at 46
            refine lv_aload_n hx hb d_X1_checkSquare_49 rfl (lv_at hl 0 rfl) ?_
            refine va_get (D := D) (ci := 1) (v := .int (σ3 8 7)) (C := "LinkedUnits$Declarations") (T := TX1) (N := 18) hx hb hg iwX1 hown hK hP 7 rfl rfl 7 (by decide) (hg _ m_498) (fun _ h9 => h9) rfl d_X1_checkSquare_50 ?_
            refine k_topi (σ0 8 7) (ik3 8 7 rfl rfl) ?_
            refine lv_sipush (v := 4000) hx hb d_X1_checkSquare_53 (by decide) ?_
            refine lv_icmp_le (tgt := 71) hx hb d_X1_checkSquare_56 (by decide) (fun c_56 => ?_) (fun c_56 => ?_)
            · -- taken at 56
              refine W.widen (k := 0) (n := 0) (Nat.le_of_ble_eq_true rfl) (Nat.le_of_ble_eq_true rfl) ?_
              exact k_vret (X := St) (w1 := fun τ => wB cy r τ) σ3 hx hb hr d_X1_checkSquare_71 hlocks hP hK hD hS ⟨i3, kp⟩
            · -- not taken at 56
              refine lv_aload_n hx hb d_X1_checkSquare_59 rfl (lv_at hl 0 rfl) ?_
              refine va_get (D := D) (ci := 1) (v := .ref (r 6)) (C := "LinkedUnits$Declarations") (T := TX1) (N := 18) hx hb hg iwX1 hown hK hP 7 rfl rfl 2 (by decide) (hg _ m_491) (fun _ h9 => h9) rfl d_X1_checkSquare_60 ?_
              refine lv_iconst (v := 4) hx hb d_X1_checkSquare_63 (by decide) ?_
              refine lv_aload_n hx hb d_X1_checkSquare_64 rfl (lv_at hl 0 rfl) ?_
              refine va_get (D := D) (ci := 1) (v := .int (σ3 8 6)) (C := "LinkedUnits$Declarations") (T := TX1) (N := 18) hx hb hg iwX1 hown hK hP 7 rfl rfl 6 (by decide) (hg _ m_497) (fun _ h9 => h9) rfl d_X1_checkSquare_65 ?_
              refine k_topi (σ0 8 6) (ik3 8 6 rfl rfl) ?_
              refine s_callv (X := St) (w1 := fun τ => wB cy r τ) (va_runVN (As := [.int 4, .int (σ0 8 6)]) (rest := []) ⟨hx, hb, hml, hown, hg⟩ (s_X11_fail l D cy H.size w g r σ3 (4 : Int32) (σ0 8 6) i3 ) ⟨(va_cnB 2 hg (gw_c m_1093) rfl rfl rfl (hNW.1 _ nm_1370) (hg _ m_10) (by decide +kernel) ⟨(Nat.le_of_ble_eq_true rfl), (Nat.le_of_ble_eq_true rfl)⟩), (hg _ m_1092), hg _ ms_X11_fail⟩ (s_preVE (As := [.int 4, .int (σ0 8 6)]) (gE_ok w g) hS hA hE hP hD hK hNW 5 rfl rfl) rfl rfl hl.1 rfl (lv_room (Nat.le_of_ble_eq_true rfl)) d_X1_checkSquare_68 ⟨(Nat.le_of_ble_eq_true rfl), (Nat.le_of_ble_eq_true rfl)⟩) hP hD hS hA (fun σ4 H locs hw hP hD hS => ?_)
              have hP : va_P D vwCl (wB cy r σ4) H := hP
              have hD : va_D A (wB cy r σ4) := hD
              have ik4 : Keep [(6, 3), (6, 4)] [] σ3 σ4 := hw.2
              have kp : Keep [(6, 3), (6, 4)] [] σ0 σ4 := keep_c kp ik4 (by decide) (by decide)
              have i4 : Inv σ4 := hw.1
              refine W.widen (k := 0) (n := 0) (Nat.le_of_ble_eq_true rfl) (Nat.le_of_ble_eq_true rfl) ?_
              exact k_vret (X := St) (w1 := fun τ => wB cy r τ) σ4 hx hb hr d_X1_checkSquare_71 hlocks hP hK hD hS ⟨i4, kp⟩
      · -- not taken at 12
        refine lv_iload_n hx hb d_X1_checkSquare_15 rfl (lv_at hl 1 rfl) ?_
        refine lv_if_ne (tgt := 42) hx hb d_X1_checkSquare_16 (by decide) (fun c_16 => ?_) (fun c_16 => ?_)
        · -- taken at 16
          refine lv_aload_n hx hb d_X1_checkSquare_42 rfl (lv_at hl 0 rfl) ?_
          refine va_get (D := D) (ci := 1) (v := .int (σ0 8 6)) (C := "LinkedUnits$Declarations") (T := TX1) (N := 18) hx hb hg iwX1 hown hK hP 7 rfl rfl 6 (by decide) (hg _ m_497) (fun _ h9 => h9) rfl d_X1_checkSquare_43 ?_
          refine lv_if_lt (tgt := 71) hx hb d_X1_checkSquare_46 (by decide) (fun c_46 => ?_) (fun c_46 => ?_)
          · -- taken at 46
            refine W.widen (k := 0) (n := 0) (Nat.le_of_ble_eq_true rfl) (Nat.le_of_ble_eq_true rfl) ?_
            exact k_vret (X := St) (w1 := fun τ => wB cy r τ) σ0 hx hb hr d_X1_checkSquare_71 hlocks hP hK hD hS ⟨i0, kp⟩
          · -- not taken at 46
            refine lv_aload_n hx hb d_X1_checkSquare_49 rfl (lv_at hl 0 rfl) ?_
            refine va_get (D := D) (ci := 1) (v := .int (σ0 8 7)) (C := "LinkedUnits$Declarations") (T := TX1) (N := 18) hx hb hg iwX1 hown hK hP 7 rfl rfl 7 (by decide) (hg _ m_498) (fun _ h9 => h9) rfl d_X1_checkSquare_50 ?_
            refine lv_sipush (v := 4000) hx hb d_X1_checkSquare_53 (by decide) ?_
            refine lv_icmp_le (tgt := 71) hx hb d_X1_checkSquare_56 (by decide) (fun c_56 => ?_) (fun c_56 => ?_)
            · -- taken at 56
              refine W.widen (k := 0) (n := 0) (Nat.le_of_ble_eq_true rfl) (Nat.le_of_ble_eq_true rfl) ?_
              exact k_vret (X := St) (w1 := fun τ => wB cy r τ) σ0 hx hb hr d_X1_checkSquare_71 hlocks hP hK hD hS ⟨i0, kp⟩
            · -- not taken at 56
              refine lv_aload_n hx hb d_X1_checkSquare_59 rfl (lv_at hl 0 rfl) ?_
              refine va_get (D := D) (ci := 1) (v := .ref (r 6)) (C := "LinkedUnits$Declarations") (T := TX1) (N := 18) hx hb hg iwX1 hown hK hP 7 rfl rfl 2 (by decide) (hg _ m_491) (fun _ h9 => h9) rfl d_X1_checkSquare_60 ?_
              refine lv_iconst (v := 4) hx hb d_X1_checkSquare_63 (by decide) ?_
              refine lv_aload_n hx hb d_X1_checkSquare_64 rfl (lv_at hl 0 rfl) ?_
              refine va_get (D := D) (ci := 1) (v := .int (σ0 8 6)) (C := "LinkedUnits$Declarations") (T := TX1) (N := 18) hx hb hg iwX1 hown hK hP 7 rfl rfl 6 (by decide) (hg _ m_497) (fun _ h9 => h9) rfl d_X1_checkSquare_65 ?_
              refine s_callv (X := St) (w1 := fun τ => wB cy r τ) (va_runVN (As := [.int 4, .int (σ0 8 6)]) (rest := []) ⟨hx, hb, hml, hown, hg⟩ (s_X11_fail l D cy H.size w g r σ0 (4 : Int32) (σ0 8 6) i0 ) ⟨(va_cnB 2 hg (gw_c m_1093) rfl rfl rfl (hNW.1 _ nm_1370) (hg _ m_10) (by decide +kernel) ⟨(Nat.le_of_ble_eq_true rfl), (Nat.le_of_ble_eq_true rfl)⟩), (hg _ m_1092), hg _ ms_X11_fail⟩ (s_preVE (As := [.int 4, .int (σ0 8 6)]) (gE_ok w g) hS hA hE hP hD hK hNW 5 rfl rfl) rfl rfl hl.1 rfl (lv_room (Nat.le_of_ble_eq_true rfl)) d_X1_checkSquare_68 ⟨(Nat.le_of_ble_eq_true rfl), (Nat.le_of_ble_eq_true rfl)⟩) hP hD hS hA (fun σ5 H locs hw hP hD hS => ?_)
              have hP : va_P D vwCl (wB cy r σ5) H := hP
              have hD : va_D A (wB cy r σ5) := hD
              have ik5 : Keep [(6, 3), (6, 4)] [] σ0 σ5 := hw.2
              have kp : Keep [(6, 3), (6, 4)] [] σ0 σ5 := keep_c kp ik5 (by decide) (by decide)
              have i5 : Inv σ5 := hw.1
              refine W.widen (k := 0) (n := 0) (Nat.le_of_ble_eq_true rfl) (Nat.le_of_ble_eq_true rfl) ?_
              exact k_vret (X := St) (w1 := fun τ => wB cy r τ) σ5 hx hb hr d_X1_checkSquare_71 hlocks hP hK hD hS ⟨i5, kp⟩
        · -- not taken at 16
          refine lv_goto (tgt := 30) hx hb d_X1_checkSquare_19 (by decide) ?_
          refine lv_aload_n hx hb d_X1_checkSquare_30 rfl (lv_at hl 0 rfl) ?_
          refine va_get (D := D) (ci := 1) (v := .ref (r 6)) (C := "LinkedUnits$Declarations") (T := TX1) (N := 18) hx hb hg iwX1 hown hK hP 7 rfl rfl 2 (by decide) (hg _ m_491) (fun _ h9 => h9) rfl d_X1_checkSquare_31 ?_
          refine lv_iconst (v := 2) hx hb d_X1_checkSquare_34 (by decide) ?_
          refine lv_aload_n hx hb d_X1_checkSquare_35 rfl (lv_at hl 0 rfl) ?_
          refine va_get (D := D) (ci := 1) (v := .int (σ0 8 6)) (C := "LinkedUnits$Declarations") (T := TX1) (N := 18) hx hb hg iwX1 hown hK hP 7 rfl rfl 6 (by decide) (hg _ m_497) (fun _ h9 => h9) rfl d_X1_checkSquare_36 ?_
          refine s_callv (X := St) (w1 := fun τ => wB cy r τ) (va_runVN (As := [.int 2, .int (σ0 8 6)]) (rest := []) ⟨hx, hb, hml, hown, hg⟩ (s_X11_fail l D cy H.size w g r σ0 (2 : Int32) (σ0 8 6) i0 ) ⟨(va_cnB 2 hg (gw_c m_1093) rfl rfl rfl (hNW.1 _ nm_1370) (hg _ m_10) (by decide +kernel) ⟨(Nat.le_of_ble_eq_true rfl), (Nat.le_of_ble_eq_true rfl)⟩), (hg _ m_1092), hg _ ms_X11_fail⟩ (s_preVE (As := [.int 2, .int (σ0 8 6)]) (gE_ok w g) hS hA hE hP hD hK hNW 5 rfl rfl) rfl rfl hl.1 rfl (lv_room (Nat.le_of_ble_eq_true rfl)) d_X1_checkSquare_39 ⟨(Nat.le_of_ble_eq_true rfl), (Nat.le_of_ble_eq_true rfl)⟩) hP hD hS hA (fun σ6 H locs hw hP hD hS => ?_)
          have hP : va_P D vwCl (wB cy r σ6) H := hP
          have hD : va_D A (wB cy r σ6) := hD
          have ik6 : Keep [(6, 3), (6, 4)] [] σ0 σ6 := hw.2
          have kp : Keep [(6, 3), (6, 4)] [] σ0 σ6 := keep_c kp ik6 (by decide) (by decide)
          have i6 : Inv σ6 := hw.1
          refine lv_aload_n hx hb d_X1_checkSquare_42 rfl (lv_at hl 0 rfl) ?_
          refine va_get (D := D) (ci := 1) (v := .int (σ6 8 6)) (C := "LinkedUnits$Declarations") (T := TX1) (N := 18) hx hb hg iwX1 hown hK hP 7 rfl rfl 6 (by decide) (hg _ m_497) (fun _ h9 => h9) rfl d_X1_checkSquare_43 ?_
          refine k_topi (σ0 8 6) (ik6 8 6 rfl rfl) ?_
          refine lv_if_lt (tgt := 71) hx hb d_X1_checkSquare_46 (by decide) (fun c_46 => ?_) (fun c_46 => ?_)
          · -- taken at 46
            refine W.widen (k := 0) (n := 0) (Nat.le_of_ble_eq_true rfl) (Nat.le_of_ble_eq_true rfl) ?_
            exact k_vret (X := St) (w1 := fun τ => wB cy r τ) σ6 hx hb hr d_X1_checkSquare_71 hlocks hP hK hD hS ⟨i6, kp⟩
          · -- not taken at 46
            refine lv_aload_n hx hb d_X1_checkSquare_49 rfl (lv_at hl 0 rfl) ?_
            refine va_get (D := D) (ci := 1) (v := .int (σ6 8 7)) (C := "LinkedUnits$Declarations") (T := TX1) (N := 18) hx hb hg iwX1 hown hK hP 7 rfl rfl 7 (by decide) (hg _ m_498) (fun _ h9 => h9) rfl d_X1_checkSquare_50 ?_
            refine k_topi (σ0 8 7) (ik6 8 7 rfl rfl) ?_
            refine lv_sipush (v := 4000) hx hb d_X1_checkSquare_53 (by decide) ?_
            refine lv_icmp_le (tgt := 71) hx hb d_X1_checkSquare_56 (by decide) (fun c_56 => ?_) (fun c_56 => ?_)
            · -- taken at 56
              refine W.widen (k := 0) (n := 0) (Nat.le_of_ble_eq_true rfl) (Nat.le_of_ble_eq_true rfl) ?_
              exact k_vret (X := St) (w1 := fun τ => wB cy r τ) σ6 hx hb hr d_X1_checkSquare_71 hlocks hP hK hD hS ⟨i6, kp⟩
            · -- not taken at 56
              refine lv_aload_n hx hb d_X1_checkSquare_59 rfl (lv_at hl 0 rfl) ?_
              refine va_get (D := D) (ci := 1) (v := .ref (r 6)) (C := "LinkedUnits$Declarations") (T := TX1) (N := 18) hx hb hg iwX1 hown hK hP 7 rfl rfl 2 (by decide) (hg _ m_491) (fun _ h9 => h9) rfl d_X1_checkSquare_60 ?_
              refine lv_iconst (v := 4) hx hb d_X1_checkSquare_63 (by decide) ?_
              refine lv_aload_n hx hb d_X1_checkSquare_64 rfl (lv_at hl 0 rfl) ?_
              refine va_get (D := D) (ci := 1) (v := .int (σ6 8 6)) (C := "LinkedUnits$Declarations") (T := TX1) (N := 18) hx hb hg iwX1 hown hK hP 7 rfl rfl 6 (by decide) (hg _ m_497) (fun _ h9 => h9) rfl d_X1_checkSquare_65 ?_
              refine k_topi (σ0 8 6) (ik6 8 6 rfl rfl) ?_
              refine s_callv (X := St) (w1 := fun τ => wB cy r τ) (va_runVN (As := [.int 4, .int (σ0 8 6)]) (rest := []) ⟨hx, hb, hml, hown, hg⟩ (s_X11_fail l D cy H.size w g r σ6 (4 : Int32) (σ0 8 6) i6 ) ⟨(va_cnB 2 hg (gw_c m_1093) rfl rfl rfl (hNW.1 _ nm_1370) (hg _ m_10) (by decide +kernel) ⟨(Nat.le_of_ble_eq_true rfl), (Nat.le_of_ble_eq_true rfl)⟩), (hg _ m_1092), hg _ ms_X11_fail⟩ (s_preVE (As := [.int 4, .int (σ0 8 6)]) (gE_ok w g) hS hA hE hP hD hK hNW 5 rfl rfl) rfl rfl hl.1 rfl (lv_room (Nat.le_of_ble_eq_true rfl)) d_X1_checkSquare_68 ⟨(Nat.le_of_ble_eq_true rfl), (Nat.le_of_ble_eq_true rfl)⟩) hP hD hS hA (fun σ7 H locs hw hP hD hS => ?_)
              have hP : va_P D vwCl (wB cy r σ7) H := hP
              have hD : va_D A (wB cy r σ7) := hD
              have ik7 : Keep [(6, 3), (6, 4)] [] σ6 σ7 := hw.2
              have kp : Keep [(6, 3), (6, 4)] [] σ0 σ7 := keep_c kp ik7 (by decide) (by decide)
              have i7 : Inv σ7 := hw.1
              refine W.widen (k := 0) (n := 0) (Nat.le_of_ble_eq_true rfl) (Nat.le_of_ble_eq_true rfl) ?_
              exact k_vret (X := St) (w1 := fun τ => wB cy r τ) σ7 hx hb hr d_X1_checkSquare_71 hlocks hP hK hD hS ⟨i7, kp⟩
  rw [hH] at hgoal
  exact hgoal
set_option maxHeartbeats 4000000 in
set_option maxRecDepth 100000 in
theorem s_X11_declareLocal (l : Launch) (D : va_G) (cy : Nat → ClassId) (sz : Nat) (w : Nat → Nat) (g : Nat → Nat → Int32) (r : Nat → Nat) (σ0 : St) (a1 : Int32) (a2 : Int32) (a3 : Int32) (i0 : Inv σ0) : Met l y_X11_declareLocal (Cond.code y_X11_declareLocal b_X11_declareLocal 5 none :: GW) ({ frames := 1, cells := 0, slots := 0, locals := 22 } : Room) (va_Pc [.ref (r 6), .int a1, .int a2, .int a3] (kPreE D cy sz (wB cy r σ0) (gE w g))) ((fun A : Nat → Prop => va_Qv (S := St) (fun (τ : St) => (Inv τ ∧ Keep [(6, 10), (6, 15)] [40, 41, 42, 43, 44] σ0 τ)) (fun τ => kPost D cy A (wB cy r τ)) A) (va_A (wB cy r σ0) sz)) 0 0 (va_A (wB cy r σ0) sz) := by
  refine k_ofWE (Qc := fun A => va_Qv (S := St) (fun (τ : St) => (Inv τ ∧ Keep [(6, 10), (6, 15)] [40, 41, 42, 43, 44] σ0 τ)) (fun τ => kPost D cy A (wB cy r τ)) A) (by decide) (Nat.le_of_ble_eq_true rfl) ?_
  intro p e s m below meth c A ls hx hb hr hml hown hlocks hin hg hNW hK hP hD hA hS hl hE
  have hl : lv_has ls 5 [(0, .ref (r 6)), (1, .int a1), (2, .int a2), (3, .int a3)] := hl
  have hown : s.vm.findClass "LinkedUnits$Unit" = some m.cls := hown
  have kp : Keep [(6, 10), (6, 15)] [40, 41, 42, 43, 44] σ0 σ0 := keep_rf
  obtain ⟨H, hH⟩ : ∃ H, H = s.heap := ⟨_, rfl⟩
  rw [← hH] at hP
  have hS : va_S A s.heap H [] := by rw [hH]; exact va_S.rf
  have hgoal : W p l e ({ frames := 1, cells := 0, slots := 0, locals := 22 } : Room) s m (([.ref (r 6), .int a1, .int a2, .int a3] : List Value).toArray) below meth c H [] 0 0 (MQ below (va_Qv (S := St) (fun (τ : St) => (Inv τ ∧ Keep [(6, 10), (6, 15)] [40, 41, 42, 43, 44] σ0 τ)) (fun τ => kPost D cy A (wB cy r τ)) A) (([.ref (r 6), .int a1, .int a2, .int a3] : List Value).toArray) s 0 0 A) (F0 m 0 ls []) := by
    refine lv_aload_n hx hb d_X11_declareLocal_0 rfl (lv_at hl 0 rfl) ?_
    refine va_get (D := D) (ci := 11) (v := .int (σ0 6 10)) (C := "LinkedUnits$Unit") (T := TX11) (N := 19) hx hb hg iwX11 hown hK hP 5 rfl rfl 10 (by decide) (hg _ m_331) (fun _ h9 => h9) rfl d_X11_declareLocal_1 ?_
    refine lv_istore (lv' := [(4, .int (σ0 6 10)), (0, .ref (r 6)), (1, .int a1), (2, .int a2), (3, .int a3)]) hx hb d_X11_declareLocal_4 hl (by decide) rfl (fun ls hl => ?_)
    refine lv_aload_n hx hb d_X11_declareLocal_6 rfl (lv_at hl 1 rfl) ?_
    refine va_get (D := D) (ci := 11) (v := .ref (r 40)) (C := "LinkedUnits$Unit") (T := TX11) (N := 19) hx hb hg iwX11 hown hK hP 5 rfl rfl 11 (by decide) (hg _ m_333) (fun _ h9 => h9) rfl d_X11_declareLocal_7 ?_
    refine lv_iload hx hb d_X11_declareLocal_10 (lv_at hl 0 rfl) ?_
    refine lv_iload_n hx hb d_X11_declareLocal_12 rfl (lv_at hl 2 rfl) ?_
    refine s_set1 (X := Nat → Int32) (w := fun g => .inl (cy 1, 100, .inl g)) 39 rfl (va_runSN (As := [.ref (r 40), .int (σ0 6 10), .int a1]) (rest := []) ⟨hx, hb, hml, hown, hg⟩ (c_set_any l D cy H.size (r 40) 100 (σ0 40) (σ0 6 10) a1 (Nat.le_of_ble_eq_true rfl)) ⟨(va_cnB 3 hg (gw_c m_981) rfl rfl rfl (hNW.1 _ nm_1151) (hg _ m_1) (by decide +kernel) ⟨(Nat.le_of_ble_eq_true rfl), (Nat.le_of_ble_eq_true rfl)⟩), hg _ m_980, trivial⟩ (s_pre (ws := [((r 40), .inl (cy 1, 100, .inl (σ0 40)))]) (s_sub1 39 hP rfl) (s_subD 39 hD rfl) hK hNW) rfl rfl hl.1 rfl (lv_room (Nat.le_of_ble_eq_true rfl)) d_X11_declareLocal_13 ⟨(Nat.le_of_ble_eq_true rfl), (Nat.le_of_ble_eq_true rfl)⟩) hP hD hS hA (fun g1 H locs hw hP hD hS => ?_)
    have hP : va_P D vwCl (wB cy r (upF σ0 40 g1)) H := hP
    have hD : va_D A (wB cy r (upF σ0 40 g1)) := hD
    have kp : Keep [(6, 10), (6, 15)] [40, 41, 42, 43, 44] σ0 (upF σ0 40 g1) := keep_a kp (by decide)
    refine lv_aload_n hx hb d_X11_declareLocal_16 rfl (lv_at hl 1 rfl) ?_
    refine va_get (D := D) (ci := 11) (v := .ref (r 41)) (C := "LinkedUnits$Unit") (T := TX11) (N := 19) hx hb hg iwX11 hown hK hP 5 rfl rfl 12 (by decide) (hg _ m_334) (fun _ h9 => h9) rfl d_X11_declareLocal_17 ?_
    refine lv_iload hx hb d_X11_declareLocal_20 (lv_at hl 0 rfl) ?_
    refine lv_iload_n hx hb d_X11_declareLocal_22 rfl (lv_at hl 3 rfl) ?_
    refine s_set1 (X := Nat → Int32) (w := fun g => .inl (cy 1, 100, .inl g)) 40 rfl (va_runSN (As := [.ref (r 41), .int (σ0 6 10), .int a2]) (rest := []) ⟨hx, hb, hml, hown, hg⟩ (c_set_any l D cy H.size (r 41) 100 ((upF σ0 40 g1) 41) (σ0 6 10) a2 (Nat.le_of_ble_eq_true rfl)) ⟨(va_cnB 3 hg (gw_c m_981) rfl rfl rfl (hNW.1 _ nm_1151) (hg _ m_1) (by decide +kernel) ⟨(Nat.le_of_ble_eq_true rfl), (Nat.le_of_ble_eq_true rfl)⟩), hg _ m_980, trivial⟩ (s_pre (ws := [((r 41), .inl (cy 1, 100, .inl ((upF σ0 40 g1) 41)))]) (s_sub1 40 hP rfl) (s_subD 40 hD rfl) hK hNW) rfl rfl hl.1 rfl (lv_room (Nat.le_of_ble_eq_true rfl)) d_X11_declareLocal_23 ⟨(Nat.le_of_ble_eq_true rfl), (Nat.le_of_ble_eq_true rfl)⟩) hP hD hS hA (fun g2 H locs hw hP hD hS => ?_)
    have hP : va_P D vwCl (wB cy r (upF (upF σ0 40 g1) 41 g2)) H := hP
    have hD : va_D A (wB cy r (upF (upF σ0 40 g1) 41 g2)) := hD
    have kp : Keep [(6, 10), (6, 15)] [40, 41, 42, 43, 44] σ0 (upF (upF σ0 40 g1) 41 g2) := keep_a kp (by decide)
    refine lv_aload_n hx hb d_X11_declareLocal_26 rfl (lv_at hl 1 rfl) ?_
    refine va_get (D := D) (ci := 11) (v := .ref (r 42)) (C := "LinkedUnits$Unit") (T := TX11) (N := 19) hx hb hg iwX11 hown hK hP 5 rfl rfl 13 (by decide) (hg _ m_336) (fun _ h9 => h9) rfl d_X11_declareLocal_27 ?_
    refine lv_iload hx hb d_X11_declareLocal_30 (lv_at hl 0 rfl) ?_
    refine lv_iload_n hx hb d_X11_declareLocal_32 rfl (lv_at hl 4 rfl) ?_
    refine s_set1 (X := Nat → Int32) (w := fun g => .inl (cy 1, 100, .inl g)) 41 rfl (va_runSN (As := [.ref (r 42), .int (σ0 6 10), .int a3]) (rest := []) ⟨hx, hb, hml, hown, hg⟩ (c_set_any l D cy H.size (r 42) 100 ((upF (upF σ0 40 g1) 41 g2) 42) (σ0 6 10) a3 (Nat.le_of_ble_eq_true rfl)) ⟨(va_cnB 3 hg (gw_c m_981) rfl rfl rfl (hNW.1 _ nm_1151) (hg _ m_1) (by decide +kernel) ⟨(Nat.le_of_ble_eq_true rfl), (Nat.le_of_ble_eq_true rfl)⟩), hg _ m_980, trivial⟩ (s_pre (ws := [((r 42), .inl (cy 1, 100, .inl ((upF (upF σ0 40 g1) 41 g2) 42)))]) (s_sub1 41 hP rfl) (s_subD 41 hD rfl) hK hNW) rfl rfl hl.1 rfl (lv_room (Nat.le_of_ble_eq_true rfl)) d_X11_declareLocal_33 ⟨(Nat.le_of_ble_eq_true rfl), (Nat.le_of_ble_eq_true rfl)⟩) hP hD hS hA (fun g3 H locs hw hP hD hS => ?_)
    have hP : va_P D vwCl (wB cy r (upF (upF (upF σ0 40 g1) 41 g2) 42 g3)) H := hP
    have hD : va_D A (wB cy r (upF (upF (upF σ0 40 g1) 41 g2) 42 g3)) := hD
    have kp : Keep [(6, 10), (6, 15)] [40, 41, 42, 43, 44] σ0 (upF (upF (upF σ0 40 g1) 41 g2) 42 g3) := keep_a kp (by decide)
    refine lv_aload_n hx hb d_X11_declareLocal_36 rfl (lv_at hl 1 rfl) ?_
    refine va_get (D := D) (ci := 11) (v := .ref (r 43)) (C := "LinkedUnits$Unit") (T := TX11) (N := 19) hx hb hg iwX11 hown hK hP 5 rfl rfl 14 (by decide) (hg _ m_339) (fun _ h9 => h9) rfl d_X11_declareLocal_37 ?_
    refine lv_iload hx hb d_X11_declareLocal_40 (lv_at hl 0 rfl) ?_
    refine lv_iload_n hx hb d_X11_declareLocal_42 rfl (lv_at hl 4 rfl) ?_
    refine lv_if_ge (tgt := 50) hx hb d_X11_declareLocal_43 (by decide) (fun c_43 => ?_) (fun c_43 => ?_)
    · -- taken at 43
      refine lv_iconst (v := 1) hx hb d_X11_declareLocal_50 (by decide) ?_
      refine s_set1 (X := Nat → Int32) (w := fun g => .inl (cy 1, 100, .inl g)) 42 rfl (va_runSN (As := [.ref (r 43), .int (σ0 6 10), .int 1]) (rest := []) ⟨hx, hb, hml, hown, hg⟩ (c_set_any l D cy H.size (r 43) 100 ((upF (upF (upF σ0 40 g1) 41 g2) 42 g3) 43) (σ0 6 10) (1 : Int32) (Nat.le_of_ble_eq_true rfl)) ⟨(va_cnB 3 hg (gw_c m_981) rfl rfl rfl (hNW.1 _ nm_1151) (hg _ m_1) (by decide +kernel) ⟨(Nat.le_of_ble_eq_true rfl), (Nat.le_of_ble_eq_true rfl)⟩), hg _ m_980, trivial⟩ (s_pre (ws := [((r 43), .inl (cy 1, 100, .inl ((upF (upF (upF σ0 40 g1) 41 g2) 42 g3) 43)))]) (s_sub1 42 hP rfl) (s_subD 42 hD rfl) hK hNW) rfl rfl hl.1 rfl (lv_room (Nat.le_of_ble_eq_true rfl)) d_X11_declareLocal_51 ⟨(Nat.le_of_ble_eq_true rfl), (Nat.le_of_ble_eq_true rfl)⟩) hP hD hS hA (fun g4 H locs hw hP hD hS => ?_)
      have hP : va_P D vwCl (wB cy r (upF (upF (upF (upF σ0 40 g1) 41 g2) 42 g3) 43 g4)) H := hP
      have hD : va_D A (wB cy r (upF (upF (upF (upF σ0 40 g1) 41 g2) 42 g3) 43 g4)) := hD
      have kp : Keep [(6, 10), (6, 15)] [40, 41, 42, 43, 44] σ0 (upF (upF (upF (upF σ0 40 g1) 41 g2) 42 g3) 43 g4) := keep_a kp (by decide)
      refine lv_aload_n hx hb d_X11_declareLocal_54 rfl (lv_at hl 1 rfl) ?_
      refine va_get (D := D) (ci := 11) (v := .ref (r 44)) (C := "LinkedUnits$Unit") (T := TX11) (N := 19) hx hb hg iwX11 hown hK hP 5 rfl rfl 16 (by decide) (hg _ m_343) (fun _ h9 => h9) rfl d_X11_declareLocal_55 ?_
      refine lv_aload_n hx hb d_X11_declareLocal_58 rfl (lv_at hl 1 rfl) ?_
      refine va_get (D := D) (ci := 11) (v := .int (σ0 6 15)) (C := "LinkedUnits$Unit") (T := TX11) (N := 19) hx hb hg iwX11 hown hK hP 5 rfl rfl 15 (by decide) (hg _ m_342) (fun _ h9 => h9) rfl d_X11_declareLocal_59 ?_
      refine lv_iload hx hb d_X11_declareLocal_62 (lv_at hl 0 rfl) ?_
      refine s_set1 (X := Nat → Int32) (w := fun g => .inl (cy 1, 100, .inl g)) 43 rfl (va_runSN (As := [.ref (r 44), .int (σ0 6 15), .int (σ0 6 10)]) (rest := []) ⟨hx, hb, hml, hown, hg⟩ (c_set_any l D cy H.size (r 44) 100 ((upF (upF (upF (upF σ0 40 g1) 41 g2) 42 g3) 43 g4) 44) (σ0 6 15) (σ0 6 10) (Nat.le_of_ble_eq_true rfl)) ⟨(va_cnB 3 hg (gw_c m_981) rfl rfl rfl (hNW.1 _ nm_1151) (hg _ m_1) (by decide +kernel) ⟨(Nat.le_of_ble_eq_true rfl), (Nat.le_of_ble_eq_true rfl)⟩), hg _ m_980, trivial⟩ (s_pre (ws := [((r 44), .inl (cy 1, 100, .inl ((upF (upF (upF (upF σ0 40 g1) 41 g2) 42 g3) 43 g4) 44)))]) (s_sub1 43 hP rfl) (s_subD 43 hD rfl) hK hNW) rfl rfl hl.1 rfl (lv_room (Nat.le_of_ble_eq_true rfl)) d_X11_declareLocal_64 ⟨(Nat.le_of_ble_eq_true rfl), (Nat.le_of_ble_eq_true rfl)⟩) hP hD hS hA (fun g5 H locs hw hP hD hS => ?_)
      have hP : va_P D vwCl (wB cy r (upF (upF (upF (upF (upF σ0 40 g1) 41 g2) 42 g3) 43 g4) 44 g5)) H := hP
      have hD : va_D A (wB cy r (upF (upF (upF (upF (upF σ0 40 g1) 41 g2) 42 g3) 43 g4) 44 g5)) := hD
      have kp : Keep [(6, 10), (6, 15)] [40, 41, 42, 43, 44] σ0 (upF (upF (upF (upF (upF σ0 40 g1) 41 g2) 42 g3) 43 g4) 44 g5) := keep_a kp (by decide)
      refine lv_aload_n hx hb d_X11_declareLocal_67 rfl (lv_at hl 1 rfl) ?_
      refine lv_dup hx hb d_X11_declareLocal_68 rfl ?_
      refine va_get (D := D) (ci := 11) (v := .int (σ0 6 10)) (C := "LinkedUnits$Unit") (T := TX11) (N := 19) hx hb hg iwX11 hown hK hP 5 rfl rfl 10 (by decide) (hg _ m_331) (fun _ h9 => h9) rfl d_X11_declareLocal_69 ?_
      refine lv_iconst (v := 1) hx hb d_X11_declareLocal_72 (by decide) ?_
      refine lv_iadd hx hb d_X11_declareLocal_73 ?_
      refine va_put (D := D) (ci := 11) (v := .int ((σ0 6 10) + 1)) (ty := .int) (C := "LinkedUnits$Unit") (T := TX11) (N := 19) hx hb hg iwX11 tyX11 tyX11_ok nmX11 hown hK hP hD hS 5 rfl rfl 10 (by decide) (hg _ m_331) (fun _ h9 => h9) rfl (by decide +kernel) rfl rfl (Nat.le_of_ble_eq_true rfl) d_X11_declareLocal_74 (fun H locs hP hD hS => ?_)
      have hP : va_P D vwCl (wB cy r (upC (upF (upF (upF (upF (upF σ0 40 g1) 41 g2) 42 g3) 43 g4) 44 g5) 6 10 ((σ0 6 10) + 1))) H := hP
      have hD : va_D A (wB cy r (upC (upF (upF (upF (upF (upF σ0 40 g1) 41 g2) 42 g3) 43 g4) 44 g5) 6 10 ((σ0 6 10) + 1))) := hD
      have kp : Keep [(6, 10), (6, 15)] [40, 41, 42, 43, 44] σ0 (upC (upF (upF (upF (upF (upF σ0 40 g1) 41 g2) 42 g3) 43 g4) 44 g5) 6 10 ((σ0 6 10) + 1)) := keep_f kp (by decide)
      refine lv_aload_n hx hb d_X11_declareLocal_77 rfl (lv_at hl 1 rfl) ?_
      refine lv_dup hx hb d_X11_declareLocal_78 rfl ?_
      refine va_get (D := D) (ci := 11) (v := .int (σ0 6 15)) (C := "LinkedUnits$Unit") (T := TX11) (N := 19) hx hb hg iwX11 hown hK hP 5 rfl rfl 15 (by decide) (hg _ m_342) (fun _ h9 => h9) rfl d_X11_declareLocal_79 ?_
      refine lv_iconst (v := 1) hx hb d_X11_declareLocal_82 (by decide) ?_
      refine lv_iadd hx hb d_X11_declareLocal_83 ?_
      refine va_put (D := D) (ci := 11) (v := .int ((σ0 6 15) + 1)) (ty := .int) (C := "LinkedUnits$Unit") (T := TX11) (N := 19) hx hb hg iwX11 tyX11 tyX11_ok nmX11 hown hK hP hD hS 5 rfl rfl 15 (by decide) (hg _ m_342) (fun _ h9 => h9) rfl (by decide +kernel) rfl rfl (Nat.le_of_ble_eq_true rfl) d_X11_declareLocal_84 (fun H locs hP hD hS => ?_)
      have hP : va_P D vwCl (wB cy r (upC (upC (upF (upF (upF (upF (upF σ0 40 g1) 41 g2) 42 g3) 43 g4) 44 g5) 6 10 ((σ0 6 10) + 1)) 6 15 ((σ0 6 15) + 1))) H := hP
      have hD : va_D A (wB cy r (upC (upC (upF (upF (upF (upF (upF σ0 40 g1) 41 g2) 42 g3) 43 g4) 44 g5) 6 10 ((σ0 6 10) + 1)) 6 15 ((σ0 6 15) + 1))) := hD
      have kp : Keep [(6, 10), (6, 15)] [40, 41, 42, 43, 44] σ0 (upC (upC (upF (upF (upF (upF (upF σ0 40 g1) 41 g2) 42 g3) 43 g4) 44 g5) 6 10 ((σ0 6 10) + 1)) 6 15 ((σ0 6 15) + 1)) := keep_f kp (by decide)
      refine W.widen (k := 0) (n := 0) (Nat.le_of_ble_eq_true rfl) (Nat.le_of_ble_eq_true rfl) ?_
      exact k_vret (X := St) (w1 := fun τ => wB cy r τ) (upC (upC (upF (upF (upF (upF (upF σ0 40 g1) 41 g2) 42 g3) 43 g4) 44 g5) 6 10 ((σ0 6 10) + 1)) 6 15 ((σ0 6 15) + 1)) hx hb hr d_X11_declareLocal_87 hlocks hP hK hD hS ⟨i0, kp⟩
    · -- not taken at 43
      refine lv_iconst (v := 0) hx hb d_X11_declareLocal_46 (by decide) ?_
      refine lv_goto (tgt := 51) hx hb d_X11_declareLocal_47 (by decide) ?_
      refine s_set1 (X := Nat → Int32) (w := fun g => .inl (cy 1, 100, .inl g)) 42 rfl (va_runSN (As := [.ref (r 43), .int (σ0 6 10), .int 0]) (rest := []) ⟨hx, hb, hml, hown, hg⟩ (c_set_any l D cy H.size (r 43) 100 ((upF (upF (upF σ0 40 g1) 41 g2) 42 g3) 43) (σ0 6 10) (0 : Int32) (Nat.le_of_ble_eq_true rfl)) ⟨(va_cnB 3 hg (gw_c m_981) rfl rfl rfl (hNW.1 _ nm_1151) (hg _ m_1) (by decide +kernel) ⟨(Nat.le_of_ble_eq_true rfl), (Nat.le_of_ble_eq_true rfl)⟩), hg _ m_980, trivial⟩ (s_pre (ws := [((r 43), .inl (cy 1, 100, .inl ((upF (upF (upF σ0 40 g1) 41 g2) 42 g3) 43)))]) (s_sub1 42 hP rfl) (s_subD 42 hD rfl) hK hNW) rfl rfl hl.1 rfl (lv_room (Nat.le_of_ble_eq_true rfl)) d_X11_declareLocal_51 ⟨(Nat.le_of_ble_eq_true rfl), (Nat.le_of_ble_eq_true rfl)⟩) hP hD hS hA (fun g6 H locs hw hP hD hS => ?_)
      have hP : va_P D vwCl (wB cy r (upF (upF (upF (upF σ0 40 g1) 41 g2) 42 g3) 43 g6)) H := hP
      have hD : va_D A (wB cy r (upF (upF (upF (upF σ0 40 g1) 41 g2) 42 g3) 43 g6)) := hD
      have kp : Keep [(6, 10), (6, 15)] [40, 41, 42, 43, 44] σ0 (upF (upF (upF (upF σ0 40 g1) 41 g2) 42 g3) 43 g6) := keep_a kp (by decide)
      refine lv_aload_n hx hb d_X11_declareLocal_54 rfl (lv_at hl 1 rfl) ?_
      refine va_get (D := D) (ci := 11) (v := .ref (r 44)) (C := "LinkedUnits$Unit") (T := TX11) (N := 19) hx hb hg iwX11 hown hK hP 5 rfl rfl 16 (by decide) (hg _ m_343) (fun _ h9 => h9) rfl d_X11_declareLocal_55 ?_
      refine lv_aload_n hx hb d_X11_declareLocal_58 rfl (lv_at hl 1 rfl) ?_
      refine va_get (D := D) (ci := 11) (v := .int (σ0 6 15)) (C := "LinkedUnits$Unit") (T := TX11) (N := 19) hx hb hg iwX11 hown hK hP 5 rfl rfl 15 (by decide) (hg _ m_342) (fun _ h9 => h9) rfl d_X11_declareLocal_59 ?_
      refine lv_iload hx hb d_X11_declareLocal_62 (lv_at hl 0 rfl) ?_
      refine s_set1 (X := Nat → Int32) (w := fun g => .inl (cy 1, 100, .inl g)) 43 rfl (va_runSN (As := [.ref (r 44), .int (σ0 6 15), .int (σ0 6 10)]) (rest := []) ⟨hx, hb, hml, hown, hg⟩ (c_set_any l D cy H.size (r 44) 100 ((upF (upF (upF (upF σ0 40 g1) 41 g2) 42 g3) 43 g6) 44) (σ0 6 15) (σ0 6 10) (Nat.le_of_ble_eq_true rfl)) ⟨(va_cnB 3 hg (gw_c m_981) rfl rfl rfl (hNW.1 _ nm_1151) (hg _ m_1) (by decide +kernel) ⟨(Nat.le_of_ble_eq_true rfl), (Nat.le_of_ble_eq_true rfl)⟩), hg _ m_980, trivial⟩ (s_pre (ws := [((r 44), .inl (cy 1, 100, .inl ((upF (upF (upF (upF σ0 40 g1) 41 g2) 42 g3) 43 g6) 44)))]) (s_sub1 43 hP rfl) (s_subD 43 hD rfl) hK hNW) rfl rfl hl.1 rfl (lv_room (Nat.le_of_ble_eq_true rfl)) d_X11_declareLocal_64 ⟨(Nat.le_of_ble_eq_true rfl), (Nat.le_of_ble_eq_true rfl)⟩) hP hD hS hA (fun g7 H locs hw hP hD hS => ?_)
      have hP : va_P D vwCl (wB cy r (upF (upF (upF (upF (upF σ0 40 g1) 41 g2) 42 g3) 43 g6) 44 g7)) H := hP
      have hD : va_D A (wB cy r (upF (upF (upF (upF (upF σ0 40 g1) 41 g2) 42 g3) 43 g6) 44 g7)) := hD
      have kp : Keep [(6, 10), (6, 15)] [40, 41, 42, 43, 44] σ0 (upF (upF (upF (upF (upF σ0 40 g1) 41 g2) 42 g3) 43 g6) 44 g7) := keep_a kp (by decide)
      refine lv_aload_n hx hb d_X11_declareLocal_67 rfl (lv_at hl 1 rfl) ?_
      refine lv_dup hx hb d_X11_declareLocal_68 rfl ?_
      refine va_get (D := D) (ci := 11) (v := .int (σ0 6 10)) (C := "LinkedUnits$Unit") (T := TX11) (N := 19) hx hb hg iwX11 hown hK hP 5 rfl rfl 10 (by decide) (hg _ m_331) (fun _ h9 => h9) rfl d_X11_declareLocal_69 ?_
      refine lv_iconst (v := 1) hx hb d_X11_declareLocal_72 (by decide) ?_
      refine lv_iadd hx hb d_X11_declareLocal_73 ?_
      refine va_put (D := D) (ci := 11) (v := .int ((σ0 6 10) + 1)) (ty := .int) (C := "LinkedUnits$Unit") (T := TX11) (N := 19) hx hb hg iwX11 tyX11 tyX11_ok nmX11 hown hK hP hD hS 5 rfl rfl 10 (by decide) (hg _ m_331) (fun _ h9 => h9) rfl (by decide +kernel) rfl rfl (Nat.le_of_ble_eq_true rfl) d_X11_declareLocal_74 (fun H locs hP hD hS => ?_)
      have hP : va_P D vwCl (wB cy r (upC (upF (upF (upF (upF (upF σ0 40 g1) 41 g2) 42 g3) 43 g6) 44 g7) 6 10 ((σ0 6 10) + 1))) H := hP
      have hD : va_D A (wB cy r (upC (upF (upF (upF (upF (upF σ0 40 g1) 41 g2) 42 g3) 43 g6) 44 g7) 6 10 ((σ0 6 10) + 1))) := hD
      have kp : Keep [(6, 10), (6, 15)] [40, 41, 42, 43, 44] σ0 (upC (upF (upF (upF (upF (upF σ0 40 g1) 41 g2) 42 g3) 43 g6) 44 g7) 6 10 ((σ0 6 10) + 1)) := keep_f kp (by decide)
      refine lv_aload_n hx hb d_X11_declareLocal_77 rfl (lv_at hl 1 rfl) ?_
      refine lv_dup hx hb d_X11_declareLocal_78 rfl ?_
      refine va_get (D := D) (ci := 11) (v := .int (σ0 6 15)) (C := "LinkedUnits$Unit") (T := TX11) (N := 19) hx hb hg iwX11 hown hK hP 5 rfl rfl 15 (by decide) (hg _ m_342) (fun _ h9 => h9) rfl d_X11_declareLocal_79 ?_
      refine lv_iconst (v := 1) hx hb d_X11_declareLocal_82 (by decide) ?_
      refine lv_iadd hx hb d_X11_declareLocal_83 ?_
      refine va_put (D := D) (ci := 11) (v := .int ((σ0 6 15) + 1)) (ty := .int) (C := "LinkedUnits$Unit") (T := TX11) (N := 19) hx hb hg iwX11 tyX11 tyX11_ok nmX11 hown hK hP hD hS 5 rfl rfl 15 (by decide) (hg _ m_342) (fun _ h9 => h9) rfl (by decide +kernel) rfl rfl (Nat.le_of_ble_eq_true rfl) d_X11_declareLocal_84 (fun H locs hP hD hS => ?_)
      have hP : va_P D vwCl (wB cy r (upC (upC (upF (upF (upF (upF (upF σ0 40 g1) 41 g2) 42 g3) 43 g6) 44 g7) 6 10 ((σ0 6 10) + 1)) 6 15 ((σ0 6 15) + 1))) H := hP
      have hD : va_D A (wB cy r (upC (upC (upF (upF (upF (upF (upF σ0 40 g1) 41 g2) 42 g3) 43 g6) 44 g7) 6 10 ((σ0 6 10) + 1)) 6 15 ((σ0 6 15) + 1))) := hD
      have kp : Keep [(6, 10), (6, 15)] [40, 41, 42, 43, 44] σ0 (upC (upC (upF (upF (upF (upF (upF σ0 40 g1) 41 g2) 42 g3) 43 g6) 44 g7) 6 10 ((σ0 6 10) + 1)) 6 15 ((σ0 6 15) + 1)) := keep_f kp (by decide)
      refine W.widen (k := 0) (n := 0) (Nat.le_of_ble_eq_true rfl) (Nat.le_of_ble_eq_true rfl) ?_
      exact k_vret (X := St) (w1 := fun τ => wB cy r τ) (upC (upC (upF (upF (upF (upF (upF σ0 40 g1) 41 g2) 42 g3) 43 g6) 44 g7) 6 10 ((σ0 6 10) + 1)) 6 15 ((σ0 6 15) + 1)) hx hb hr d_X11_declareLocal_87 hlocks hP hK hD hS ⟨i0, kp⟩
  rw [hH] at hgoal
  exact hgoal
set_option maxHeartbeats 4000000 in
set_option maxRecDepth 100000 in
theorem s_X1_joins (l : Launch) (D : va_G) (cy : Nat → ClassId) (sz : Nat) (w : Nat → Nat) (g : Nat → Nat → Int32) (r : Nat → Nat) (σ0 : St) (a1 : Int32) (a2 : Int32) (i0 : Inv σ0) : Met l y_X1_joins (Cond.code y_X1_joins b_X1_joins 7 (some .boolean) :: GW) ({ frames := 2, cells := 0, slots := 0, locals := 43 } : Room) (va_Pc [.ref (r 8), .int a1, .int a2] (kPreE D cy sz (wB cy r σ0) (gE w g))) ((fun A : Nat → Prop => va_Qi (S := Unit) (fun (v9 : Int32) (_ : Unit) => (v9 = 0 ∨ v9 = 1) ∧ True) (fun _ => kPost D cy A (wB cy r σ0)) A) (va_A (wB cy r σ0) sz)) 0 0 (va_A (wB cy r σ0) sz) := by
  refine k_ofWE (Qc := fun A => va_Qi (S := Unit) (fun (v9 : Int32) (_ : Unit) => (v9 = 0 ∨ v9 = 1) ∧ True) (fun _ => kPost D cy A (wB cy r σ0)) A) (by decide) (Nat.le_of_ble_eq_true rfl) ?_
  intro p e s m below meth c A ls hx hb hr hml hown hlocks hin hg hNW hK hP hD hA hS hl hE
  have hl : lv_has ls 7 [(0, .ref (r 8)), (1, .int a1), (2, .int a2)] := hl
  have hown : s.vm.findClass "LinkedUnits$Declarations" = some m.cls := hown
  have b159 : ∀ (x1 : Int32) (x2 : Int32) (x3 : Int32) (x4 : Int32) (x5 : Int32) (x6 : Int32) (H : Heap) (locs : List Loc) (ls : Array Slot), x4 = 0 ∨ x4 = 1 → x5 = 0 ∨ x5 = 1 → x6 = 0 ∨ x6 = 1 → va_P D vwCl (wB cy r σ0) H → va_D A (wB cy r σ0) → va_S A s.heap H locs → lv_has ls 7 [(0, .ref (r 8)), (1, .int x1), (2, .int x2), (3, .int x3), (4, .int x4), (5, .int x5), (6, .int x6)] → W p l e ({ frames := 2, cells := 0, slots := 0, locals := 43 } : Room) s m (([.ref (r 8), .int a1, .int a2] : List Value).toArray) below meth c H locs 0 0 (MQ below (va_Qi (S := Unit) (fun (v9 : Int32) (_ : Unit) => (v9 = 0 ∨ v9 = 1) ∧ True) (fun _ => kPost D cy A (wB cy r σ0)) A) (([.ref (r 8), .int a1, .int a2] : List Value).toArray) s 0 0 A) (F0 m 159 ls []) := by
    intro x1 x2 x3 x4 x5 x6 H locs ls z_x4 z_x5 z_x6 hP hD hS hl
    refine lv_iconst (v := 1) hx hb d_X1_joins_159 (by decide) ?_
    refine lv_goto (tgt := 164) hx hb d_X1_joins_160 (by decide) ?_
    refine W.widen (k := 0) (n := 0) (Nat.le_of_ble_eq_true rfl) (Nat.le_of_ble_eq_true rfl) ?_
    exact k_zret (X := Unit) (w1 := fun _ => wB cy r σ0) () hx hb hr (k_nz (Or.inr rfl)) d_X1_joins_164 hlocks hP hK hD hS ⟨(Or.inr rfl), trivial⟩
  have b123 : ∀ (x1 : Int32) (x2 : Int32) (x3 : Int32) (x4 : Int32) (x5 : Int32) (y0 : Int32) (H : Heap) (locs : List Loc) (ls : Array Slot), x4 = 0 ∨ x4 = 1 → x5 = 0 ∨ x5 = 1 → y0 = 0 ∨ y0 = 1 → va_P D vwCl (wB cy r σ0) H → va_D A (wB cy r σ0) → va_S A s.heap H locs → lv_has ls 7 [(0, .ref (r 8)), (1, .int x1), (2, .int x2), (3, .int x3), (4, .int x4), (5, .int x5)] → W p l e ({ frames := 2, cells := 0, slots := 0, locals := 43 } : Room) s m (([.ref (r 8), .int a1, .int a2] : List Value).toArray) below meth c H locs 0 0 (MQ below (va_Qi (S := Unit) (fun (v9 : Int32) (_ : Unit) => (v9 = 0 ∨ v9 = 1) ∧ True) (fun _ => kPost D cy A (wB cy r σ0)) A) (([.ref (r 8), .int a1, .int a2] : List Value).toArray) s 0 0 A) (F0 m 123 ls [.int y0]) := by
    intro x1 x2 x3 x4 x5 y0 H locs ls z_x4 z_x5 z_y0 hP hD hS hl
    refine lv_istore (lv' := [(6, .int y0), (0, .ref (r 8)), (1, .int x1), (2, .int x2), (3, .int x3), (4, .int x4), (5, .int x5)]) hx hb d_X1_joins_123 hl (by decide) rfl (fun ls hl => ?_)
    refine lv_iload hx hb d_X1_joins_125 (lv_at hl 5 rfl) ?_
    refine lv_if_eq (tgt := 163) hx hb d_X1_joins_127 (by decide) (fun c_127 => ?_) (fun c_127 => ?_)
    · -- taken at 127
      refine lv_iconst (v := 0) hx hb d_X1_joins_163 (by decide) ?_
      refine W.widen (k := 0) (n := 0) (Nat.le_of_ble_eq_true rfl) (Nat.le_of_ble_eq_true rfl) ?_
      exact k_zret (X := Unit) (w1 := fun _ => wB cy r σ0) () hx hb hr (k_nz (Or.inl rfl)) d_X1_joins_164 hlocks hP hK hD hS ⟨(Or.inl rfl), trivial⟩
    · -- not taken at 127
      refine lv_iload hx hb d_X1_joins_130 (lv_at hl 6 rfl) ?_
      refine lv_if_eq (tgt := 163) hx hb d_X1_joins_132 (by decide) (fun c_132 => ?_) (fun c_132 => ?_)
      · -- taken at 132
        refine lv_iconst (v := 0) hx hb d_X1_joins_163 (by decide) ?_
        refine W.widen (k := 0) (n := 0) (Nat.le_of_ble_eq_true rfl) (Nat.le_of_ble_eq_true rfl) ?_
        exact k_zret (X := Unit) (w1 := fun _ => wB cy r σ0) () hx hb hr (k_nz (Or.inl rfl)) d_X1_joins_164 hlocks hP hK hD hS ⟨(Or.inl rfl), trivial⟩
      · -- not taken at 132
        refine lv_iload hx hb d_X1_joins_135 (lv_at hl 0 rfl) ?_
        refine lv_if_eq (tgt := 163) hx hb d_X1_joins_137 (by decide) (fun c_137 => ?_) (fun c_137 => ?_)
        · -- taken at 137
          refine lv_iconst (v := 0) hx hb d_X1_joins_163 (by decide) ?_
          refine W.widen (k := 0) (n := 0) (Nat.le_of_ble_eq_true rfl) (Nat.le_of_ble_eq_true rfl) ?_
          exact k_zret (X := Unit) (w1 := fun _ => wB cy r σ0) () hx hb hr (k_nz (Or.inl rfl)) d_X1_joins_164 hlocks hP hK hD hS ⟨(Or.inl rfl), trivial⟩
        · -- not taken at 137
          refine lv_aload_n hx hb d_X1_joins_140 rfl (lv_at hl 1 rfl) ?_
          refine va_get (D := D) (ci := 1) (v := .int (σ0 8 13)) (C := "LinkedUnits$Declarations") (T := TX1) (N := 18) hx hb hg iwX1 hown hK hP 7 rfl rfl 13 (by decide) (hg _ m_505) (fun _ h9 => h9) rfl d_X1_joins_141 ?_
          refine lv_if_ne (tgt := 159) hx hb d_X1_joins_144 (by decide) (fun c_144 => ?_) (fun c_144 => ?_)
          · -- taken at 144
            exact b159 x1 x2 x3 x4 x5 y0 _ _ _  z_x4 z_x5 z_y0 hP hD hS (lv_sub hl [1, 2, 3, 4, 5, 6, 0] rfl)
          · -- not taken at 144
            refine lv_aload_n hx hb d_X1_joins_147 rfl (lv_at hl 1 rfl) ?_
            refine va_get (D := D) (ci := 1) (v := .ref (r 5)) (C := "LinkedUnits$Declarations") (T := TX1) (N := 18) hx hb hg iwX1 hown hK hP 7 rfl rfl 3 (by decide) (hg _ m_492) (fun _ h9 => h9) rfl d_X1_joins_148 ?_
            refine lv_iload_n hx hb d_X1_joins_151 rfl (lv_at hl 2 rfl) ?_
            refine lv_iconst (v := 4) hx hb d_X1_joins_152 (by decide) ?_
            refine s_calli (X := Unit) (w1 := fun _ => wB cy r σ0) (va_runVN (As := [.int x1, .int 4]) (rest := []) ⟨hx, hb, hml, hown, hg⟩ (s_X8_is l D cy H.size w g r σ0 x1 (4 : Int32) i0 ) ⟨(va_cnB 2 hg (gw_c m_1124) rfl rfl rfl (hNW.1 _ nm_1393) (hg _ m_5) (by decide +kernel) ⟨(Nat.le_of_ble_eq_true rfl), (Nat.le_of_ble_eq_true rfl)⟩), (hg _ m_1123), hg _ ms_X8_is⟩ (s_preVE (As := [.int x1, .int 4]) (gE_ok w g) hS hA hE hP hD hK hNW 4 rfl rfl) rfl rfl hl.1 rfl (lv_room (Nat.le_of_ble_eq_true rfl)) d_X1_joins_153 ⟨(Nat.le_of_ble_eq_true rfl), (Nat.le_of_ble_eq_true rfl)⟩) hP hD hS hA (fun r1 u1 H locs hw hP hD hS => ?_)
            have hP : va_P D vwCl (wB cy r σ0) H := hP
            have hD : va_D A (wB cy r σ0) := hD
            have hz1 : r1 = 0 ∨ r1 = 1 := hw.1
            refine lv_if_ne (tgt := 163) hx hb d_X1_joins_156 (by decide) (fun c_156 => ?_) (fun c_156 => ?_)
            · -- taken at 156
              refine lv_iconst (v := 0) hx hb d_X1_joins_163 (by decide) ?_
              refine W.widen (k := 0) (n := 0) (Nat.le_of_ble_eq_true rfl) (Nat.le_of_ble_eq_true rfl) ?_
              exact k_zret (X := Unit) (w1 := fun _ => wB cy r σ0) () hx hb hr (k_nz (Or.inl rfl)) d_X1_joins_164 hlocks hP hK hD hS ⟨(Or.inl rfl), trivial⟩
            · -- not taken at 156
              exact b159 x1 x2 x3 x4 x5 y0 _ _ _  z_x4 z_x5 z_y0 hP hD hS (lv_sub hl [1, 2, 3, 4, 5, 6, 0] rfl)
  have b122 : ∀ (x1 : Int32) (x2 : Int32) (x3 : Int32) (x4 : Int32) (x5 : Int32) (H : Heap) (locs : List Loc) (ls : Array Slot), x4 = 0 ∨ x4 = 1 → x5 = 0 ∨ x5 = 1 → va_P D vwCl (wB cy r σ0) H → va_D A (wB cy r σ0) → va_S A s.heap H locs → lv_has ls 7 [(0, .ref (r 8)), (1, .int x1), (2, .int x2), (3, .int x3), (4, .int x4), (5, .int x5)] → W p l e ({ frames := 2, cells := 0, slots := 0, locals := 43 } : Room) s m (([.ref (r 8), .int a1, .int a2] : List Value).toArray) below meth c H locs 0 0 (MQ below (va_Qi (S := Unit) (fun (v9 : Int32) (_ : Unit) => (v9 = 0 ∨ v9 = 1) ∧ True) (fun _ => kPost D cy A (wB cy r σ0)) A) (([.ref (r 8), .int a1, .int a2] : List Value).toArray) s 0 0 A) (F0 m 122 ls []) := by
    intro x1 x2 x3 x4 x5 H locs ls z_x4 z_x5 hP hD hS hl
    refine lv_iconst (v := 0) hx hb d_X1_joins_122 (by decide) ?_
    exact b123 x1 x2 x3 x4 x5 (0 : Int32) _ _ _  z_x4 z_x5 (Or.inl rfl) hP hD hS (lv_sub hl [0, 1, 2, 3, 4, 5] rfl)
  have b99 : ∀ (x1 : Int32) (x2 : Int32) (x3 : Int32) (x4 : Int32) (y0 : Int32) (H : Heap) (locs : List Loc) (ls : Array Slot), x4 = 0 ∨ x4 = 1 → y0 = 0 ∨ y0 = 1 → va_P D vwCl (wB cy r σ0) H → va_D A (wB cy r σ0) → va_S A s.heap H locs → lv_has ls 7 [(0, .ref (r 8)), (1, .int x1), (2, .int x2), (3, .int x3), (4, .int x4)] → W p l e ({ frames := 2, cells := 0, slots := 0, locals := 43 } : Room) s m (([.ref (r 8), .int a1, .int a2] : List Value).toArray) below meth c H locs 0 0 (MQ below (va_Qi (S := Unit) (fun (v9 : Int32) (_ : Unit) => (v9 = 0 ∨ v9 = 1) ∧ True) (fun _ => kPost D cy A (wB cy r σ0)) A) (([.ref (r 8), .int a1, .int a2] : List Value).toArray) s 0 0 A) (F0 m 99 ls [.int y0]) := by
    intro x1 x2 x3 x4 y0 H locs ls z_x4 z_y0 hP hD hS hl
    refine lv_istore (lv' := [(5, .int y0), (0, .ref (r 8)), (1, .int x1), (2, .int x2), (3, .int x3), (4, .int x4)]) hx hb d_X1_joins_99 hl (by decide) rfl (fun ls hl => ?_)
    refine lv_iload_n hx hb d_X1_joins_101 rfl (lv_at hl 3 rfl) ?_
    refine lv_iconst (v := 1) hx hb d_X1_joins_102 (by decide) ?_
    refine lv_icmp_eq (tgt := 122) hx hb d_X1_joins_103 (by decide) (fun c_103 => ?_) (fun c_103 => ?_)
    · -- taken at 103
      exact b122 x1 x2 x3 x4 y0 _ _ _  z_x4 z_y0 hP hD hS (lv_sub hl [1, 2, 3, 4, 5, 0] rfl)
    · -- not taken at 103
      refine lv_aload_n hx hb d_X1_joins_106 rfl (lv_at hl 1 rfl) ?_
      refine va_get (D := D) (ci := 1) (v := .ref (r 5)) (C := "LinkedUnits$Declarations") (T := TX1) (N := 18) hx hb hg iwX1 hown hK hP 7 rfl rfl 3 (by decide) (hg _ m_492) (fun _ h9 => h9) rfl d_X1_joins_107 ?_
      refine lv_iload_n hx hb d_X1_joins_110 rfl (lv_at hl 2 rfl) ?_
      refine lv_iconst (v := 2) hx hb d_X1_joins_111 (by decide) ?_
      refine s_calli (X := Unit) (w1 := fun _ => wB cy r σ0) (va_runVN (As := [.int x1, .int 2]) (rest := []) ⟨hx, hb, hml, hown, hg⟩ (s_X8_is l D cy H.size w g r σ0 x1 (2 : Int32) i0 ) ⟨(va_cnB 2 hg (gw_c m_1124) rfl rfl rfl (hNW.1 _ nm_1393) (hg _ m_5) (by decide +kernel) ⟨(Nat.le_of_ble_eq_true rfl), (Nat.le_of_ble_eq_true rfl)⟩), (hg _ m_1123), hg _ ms_X8_is⟩ (s_preVE (As := [.int x1, .int 2]) (gE_ok w g) hS hA hE hP hD hK hNW 4 rfl rfl) rfl rfl hl.1 rfl (lv_room (Nat.le_of_ble_eq_true rfl)) d_X1_joins_112 ⟨(Nat.le_of_ble_eq_true rfl), (Nat.le_of_ble_eq_true rfl)⟩) hP hD hS hA (fun r2 u2 H locs hw hP hD hS => ?_)
      have hP : va_P D vwCl (wB cy r σ0) H := hP
      have hD : va_D A (wB cy r σ0) := hD
      have hz2 : r2 = 0 ∨ r2 = 1 := hw.1
      refine lv_if_ne (tgt := 122) hx hb d_X1_joins_115 (by decide) (fun c_115 => ?_) (fun c_115 => ?_)
      · -- taken at 115
        exact b122 x1 x2 x3 x4 y0 _ _ _  z_x4 z_y0 hP hD hS (lv_sub hl [1, 2, 3, 4, 5, 0] rfl)
      · -- not taken at 115
        refine lv_iconst (v := 1) hx hb d_X1_joins_118 (by decide) ?_
        refine lv_goto (tgt := 123) hx hb d_X1_joins_119 (by decide) ?_
        exact b123 x1 x2 x3 x4 y0 (1 : Int32) _ _ _  z_x4 z_y0 (Or.inr rfl) hP hD hS (lv_sub hl [1, 2, 3, 4, 5, 0] rfl)
  have b94 : ∀ (x1 : Int32) (x2 : Int32) (x3 : Int32) (x4 : Int32) (H : Heap) (locs : List Loc) (ls : Array Slot), x4 = 0 ∨ x4 = 1 → va_P D vwCl (wB cy r σ0) H → va_D A (wB cy r σ0) → va_S A s.heap H locs → lv_has ls 7 [(0, .ref (r 8)), (1, .int x1), (2, .int x2), (3, .int x3), (4, .int x4)] → W p l e ({ frames := 2, cells := 0, slots := 0, locals := 43 } : Room) s m (([.ref (r 8), .int a1, .int a2] : List Value).toArray) below meth c H locs 0 0 (MQ below (va_Qi (S := Unit) (fun (v9 : Int32) (_ : Unit) => (v9 = 0 ∨ v9 = 1) ∧ True) (fun _ => kPost D cy A (wB cy r σ0)) A) (([.ref (r 8), .int a1, .int a2] : List Value).toArray) s 0 0 A) (F0 m 94 ls []) := by
    intro x1 x2 x3 x4 H locs ls z_x4 hP hD hS hl
    refine lv_iconst (v := 1) hx hb d_X1_joins_94 (by decide) ?_
    refine lv_goto (tgt := 99) hx hb d_X1_joins_95 (by decide) ?_
    exact b99 x1 x2 x3 x4 (1 : Int32) _ _ _  z_x4 (Or.inr rfl) hP hD hS (lv_sub hl [0, 1, 2, 3, 4] rfl)
  have b73 : ∀ (x1 : Int32) (x2 : Int32) (x3 : Int32) (y0 : Int32) (H : Heap) (locs : List Loc) (ls : Array Slot), y0 = 0 ∨ y0 = 1 → va_P D vwCl (wB cy r σ0) H → va_D A (wB cy r σ0) → va_S A s.heap H locs → lv_has ls 7 [(0, .ref (r 8)), (1, .int x1), (2, .int x2), (3, .int x3)] → W p l e ({ frames := 2, cells := 0, slots := 0, locals := 43 } : Room) s m (([.ref (r 8), .int a1, .int a2] : List Value).toArray) below meth c H locs 0 0 (MQ below (va_Qi (S := Unit) (fun (v9 : Int32) (_ : Unit) => (v9 = 0 ∨ v9 = 1) ∧ True) (fun _ => kPost D cy A (wB cy r σ0)) A) (([.ref (r 8), .int a1, .int a2] : List Value).toArray) s 0 0 A) (F0 m 73 ls [.int y0]) := by
    intro x1 x2 x3 y0 H locs ls z_y0 hP hD hS hl
    refine lv_istore (lv' := [(4, .int y0), (0, .ref (r 8)), (1, .int x1), (2, .int x2), (3, .int x3)]) hx hb d_X1_joins_73 hl (by decide) rfl (fun ls hl => ?_)
    refine lv_iload_n hx hb d_X1_joins_75 rfl (lv_at hl 4 rfl) ?_
    refine lv_if_le (tgt := 94) hx hb d_X1_joins_76 (by decide) (fun c_76 => ?_) (fun c_76 => ?_)
    · -- taken at 76
      exact b94 x1 x2 x3 y0 _ _ _  z_y0 hP hD hS (lv_sub hl [1, 2, 3, 4, 0] rfl)
    · -- not taken at 76
      refine lv_aload_n hx hb d_X1_joins_79 rfl (lv_at hl 1 rfl) ?_
      refine va_get (D := D) (ci := 1) (v := .int (σ0 8 12)) (C := "LinkedUnits$Declarations") (T := TX1) (N := 18) hx hb hg iwX1 hown hK hP 7 rfl rfl 12 (by decide) (hg _ m_504) (fun _ h9 => h9) rfl d_X1_joins_80 ?_
      refine lv_if_le (tgt := 94) hx hb d_X1_joins_83 (by decide) (fun c_83 => ?_) (fun c_83 => ?_)
      · -- taken at 83
        exact b94 x1 x2 x3 y0 _ _ _  z_y0 hP hD hS (lv_sub hl [1, 2, 3, 4, 0] rfl)
      · -- not taken at 83
        refine lv_iload_n hx hb d_X1_joins_86 rfl (lv_at hl 4 rfl) ?_
        refine lv_aload_n hx hb d_X1_joins_87 rfl (lv_at hl 1 rfl) ?_
        refine va_get (D := D) (ci := 1) (v := .int (σ0 8 12)) (C := "LinkedUnits$Declarations") (T := TX1) (N := 18) hx hb hg iwX1 hown hK hP 7 rfl rfl 12 (by decide) (hg _ m_504) (fun _ h9 => h9) rfl d_X1_joins_88 ?_
        refine lv_icmp_ne (tgt := 98) hx hb d_X1_joins_91 (by decide) (fun c_91 => ?_) (fun c_91 => ?_)
        · -- taken at 91
          refine lv_iconst (v := 0) hx hb d_X1_joins_98 (by decide) ?_
          exact b99 x1 x2 x3 y0 (0 : Int32) _ _ _  z_y0 (Or.inl rfl) hP hD hS (lv_sub hl [1, 2, 3, 4, 0] rfl)
        · -- not taken at 91
          exact b94 x1 x2 x3 y0 _ _ _  z_y0 hP hD hS (lv_sub hl [1, 2, 3, 4, 0] rfl)
  have b72 : ∀ (x1 : Int32) (x2 : Int32) (x3 : Int32) (H : Heap) (locs : List Loc) (ls : Array Slot), va_P D vwCl (wB cy r σ0) H → va_D A (wB cy r σ0) → va_S A s.heap H locs → lv_has ls 7 [(0, .ref (r 8)), (1, .int x1), (2, .int x2), (3, .int x3)] → W p l e ({ frames := 2, cells := 0, slots := 0, locals := 43 } : Room) s m (([.ref (r 8), .int a1, .int a2] : List Value).toArray) below meth c H locs 0 0 (MQ below (va_Qi (S := Unit) (fun (v9 : Int32) (_ : Unit) => (v9 = 0 ∨ v9 = 1) ∧ True) (fun _ => kPost D cy A (wB cy r σ0)) A) (([.ref (r 8), .int a1, .int a2] : List Value).toArray) s 0 0 A) (F0 m 72 ls []) := by
    intro x1 x2 x3 H locs ls hP hD hS hl
    refine lv_iconst (v := 0) hx hb d_X1_joins_72 (by decide) ?_
    exact b73 x1 x2 x3 (0 : Int32) _ _ _  (Or.inl rfl) hP hD hS (lv_sub hl [0, 1, 2, 3] rfl)
  have b65 : ∀ (x1 : Int32) (x2 : Int32) (x3 : Int32) (y0 : Int32) (y1 : Int32) (H : Heap) (locs : List Loc) (ls : Array Slot), y0 = 0 ∨ y0 = 1 → y1 = 0 ∨ y1 = 1 → va_P D vwCl (wB cy r σ0) H → va_D A (wB cy r σ0) → va_S A s.heap H locs → lv_has ls 7 [(0, .ref (r 8)), (1, .int x1), (2, .int x2), (3, .int x3)] → W p l e ({ frames := 2, cells := 0, slots := 0, locals := 43 } : Room) s m (([.ref (r 8), .int a1, .int a2] : List Value).toArray) below meth c H locs 0 0 (MQ below (va_Qi (S := Unit) (fun (v9 : Int32) (_ : Unit) => (v9 = 0 ∨ v9 = 1) ∧ True) (fun _ => kPost D cy A (wB cy r σ0)) A) (([.ref (r 8), .int a1, .int a2] : List Value).toArray) s 0 0 A) (F0 m 65 ls [.int y1, .int y0]) := by
    intro x1 x2 x3 y0 y1 H locs ls z_y0 z_y1 hP hD hS hl
    refine lv_icmp_ne (tgt := 72) hx hb d_X1_joins_65 (by decide) (fun c_65 => ?_) (fun c_65 => ?_)
    · -- taken at 65
      exact b72 x1 x2 x3 _ _ _  hP hD hS (lv_sub hl [0, 1, 2, 3] rfl)
    · -- not taken at 65
      refine lv_iconst (v := 1) hx hb d_X1_joins_68 (by decide) ?_
      refine lv_goto (tgt := 73) hx hb d_X1_joins_69 (by decide) ?_
      exact b73 x1 x2 x3 (1 : Int32) _ _ _  (Or.inr rfl) hP hD hS (lv_sub hl [0, 1, 2, 3] rfl)
  have b52 : ∀ (x1 : Int32) (x2 : Int32) (x3 : Int32) (y0 : Int32) (H : Heap) (locs : List Loc) (ls : Array Slot), y0 = 0 ∨ y0 = 1 → va_P D vwCl (wB cy r σ0) H → va_D A (wB cy r σ0) → va_S A s.heap H locs → lv_has ls 7 [(0, .ref (r 8)), (1, .int x1), (2, .int x2), (3, .int x3)] → W p l e ({ frames := 2, cells := 0, slots := 0, locals := 43 } : Room) s m (([.ref (r 8), .int a1, .int a2] : List Value).toArray) below meth c H locs 0 0 (MQ below (va_Qi (S := Unit) (fun (v9 : Int32) (_ : Unit) => (v9 = 0 ∨ v9 = 1) ∧ True) (fun _ => kPost D cy A (wB cy r σ0)) A) (([.ref (r 8), .int a1, .int a2] : List Value).toArray) s 0 0 A) (F0 m 52 ls [.int y0]) := by
    intro x1 x2 x3 y0 H locs ls z_y0 hP hD hS hl
    refine lv_aload_n hx hb d_X1_joins_52 rfl (lv_at hl 0 rfl) ?_
    refine va_get (D := D) (ci := 1) (v := .int (σ0 8 12)) (C := "LinkedUnits$Declarations") (T := TX1) (N := 18) hx hb hg iwX1 hown hK hP 7 rfl rfl 12 (by decide) (hg _ m_504) (fun _ h9 => h9) rfl d_X1_joins_53 ?_
    refine lv_iconst (v := (-1)) hx hb d_X1_joins_56 (by decide) ?_
    refine lv_icmp_ne (tgt := 64) hx hb d_X1_joins_57 (by decide) (fun c_57 => ?_) (fun c_57 => ?_)
    · -- taken at 57
      refine lv_iconst (v := 0) hx hb d_X1_joins_64 (by decide) ?_
      exact b65 x1 x2 x3 y0 (0 : Int32) _ _ _  z_y0 (Or.inl rfl) hP hD hS (lv_sub hl [0, 1, 2, 3] rfl)
    · -- not taken at 57
      refine lv_iconst (v := 1) hx hb d_X1_joins_60 (by decide) ?_
      refine lv_goto (tgt := 65) hx hb d_X1_joins_61 (by decide) ?_
      exact b65 x1 x2 x3 y0 (1 : Int32) _ _ _  z_y0 (Or.inr rfl) hP hD hS (lv_sub hl [0, 1, 2, 3] rfl)
  obtain ⟨H, hH⟩ : ∃ H, H = s.heap := ⟨_, rfl⟩
  rw [← hH] at hP
  have hS : va_S A s.heap H [] := by rw [hH]; exact va_S.rf
  have hgoal : W p l e ({ frames := 2, cells := 0, slots := 0, locals := 43 } : Room) s m (([.ref (r 8), .int a1, .int a2] : List Value).toArray) below meth c H [] 0 0 (MQ below (va_Qi (S := Unit) (fun (v9 : Int32) (_ : Unit) => (v9 = 0 ∨ v9 = 1) ∧ True) (fun _ => kPost D cy A (wB cy r σ0)) A) (([.ref (r 8), .int a1, .int a2] : List Value).toArray) s 0 0 A) (F0 m 0 ls []) := by
    refine lv_aload_n hx hb d_X1_joins_0 rfl (lv_at hl 0 rfl) ?_
    refine va_get (D := D) (ci := 1) (v := .ref (r 5)) (C := "LinkedUnits$Declarations") (T := TX1) (N := 18) hx hb hg iwX1 hown hK hP 7 rfl rfl 3 (by decide) (hg _ m_492) (fun _ h9 => h9) rfl d_X1_joins_1 ?_
    refine va_getN (D := D) (ci := 8) (v := .ref (r 27)) (C := "LinkedUnits$Store") (T := TX8) (N := 18) hx hb hg iwX8 hown hK hP 4 rfl rfl 4 (by decide) (va_Nw.use rfl (hNW.1 _ nm_232)) (fun _ h9 => h9) rfl d_X1_joins_4 ?_
    refine lv_iload_n hx hb d_X1_joins_7 rfl (lv_at hl 1 rfl) ?_
    refine s_call1 (x := ((r 27), .inl (cy 1, 10100, .inl (σ0 27)))) 26 rfl (va_runSN (As := [.ref (r 27), .int a1]) (rest := []) ⟨hx, hb, hml, hown, hg⟩ (c_at_any l D cy H.size (r 27) 10100 (σ0 27) a1 (Nat.le_of_ble_eq_true rfl)) ⟨(va_cnB 2 hg (gw_c m_949) rfl rfl rfl (hNW.1 _ nm_1356) (hg _ m_1) (by decide +kernel) ⟨(Nat.le_of_ble_eq_true rfl), (Nat.le_of_ble_eq_true rfl)⟩), hg _ m_948, trivial⟩ (s_pre (ws := [((r 27), .inl (cy 1, 10100, .inl (σ0 27)))]) (s_sub1 26 hP rfl) (s_subD 26 hD rfl) hK hNW) rfl rfl hl.1 rfl (lv_room (Nat.le_of_ble_eq_true rfl)) d_X1_joins_8 ⟨(Nat.le_of_ble_eq_true rfl), (Nat.le_of_ble_eq_true rfl)⟩) hP hD hS hA (fun r3 u3 H locs hw hP hD hS => ?_)
    have hP : va_P D vwCl (wB cy r σ0) H := hP
    have hD : va_D A (wB cy r σ0) := hD
    refine lv_istore_n (lv' := [(3, .int r3), (0, .ref (r 8)), (1, .int a1), (2, .int a2)]) hx hb d_X1_joins_11 rfl hl (by decide) rfl (fun ls hl => ?_)
    refine lv_aload_n hx hb d_X1_joins_12 rfl (lv_at hl 1 rfl) ?_
    refine va_get (D := D) (ci := 1) (v := .ref (r 5)) (C := "LinkedUnits$Declarations") (T := TX1) (N := 18) hx hb hg iwX1 hown hK hP 7 rfl rfl 3 (by decide) (hg _ m_492) (fun _ h9 => h9) rfl d_X1_joins_13 ?_
    refine lv_iload_n hx hb d_X1_joins_16 rfl (lv_at hl 2 rfl) ?_
    refine lv_iconst (v := 1) hx hb d_X1_joins_17 (by decide) ?_
    refine s_calli (X := Unit) (w1 := fun _ => wB cy r σ0) (va_runVN (As := [.int a1, .int 1]) (rest := []) ⟨hx, hb, hml, hown, hg⟩ (s_X8_is l D cy H.size w g r σ0 a1 (1 : Int32) i0 ) ⟨(va_cnB 2 hg (gw_c m_1124) rfl rfl rfl (hNW.1 _ nm_1393) (hg _ m_5) (by decide +kernel) ⟨(Nat.le_of_ble_eq_true rfl), (Nat.le_of_ble_eq_true rfl)⟩), (hg _ m_1123), hg _ ms_X8_is⟩ (s_preVE (As := [.int a1, .int 1]) (gE_ok w g) hS hA hE hP hD hK hNW 4 rfl rfl) rfl rfl hl.1 rfl (lv_room (Nat.le_of_ble_eq_true rfl)) d_X1_joins_18 ⟨(Nat.le_of_ble_eq_true rfl), (Nat.le_of_ble_eq_true rfl)⟩) hP hD hS hA (fun r4 u4 H locs hw hP hD hS => ?_)
    have hP : va_P D vwCl (wB cy r σ0) H := hP
    have hD : va_D A (wB cy r σ0) := hD
    have hz4 : r4 = 0 ∨ r4 = 1 := hw.1
    refine lv_if_ne (tgt := 72) hx hb d_X1_joins_21 (by decide) (fun c_21 => ?_) (fun c_21 => ?_)
    · -- taken at 21
      exact b72 a1 a2 r3 _ _ _  hP hD hS (lv_sub hl [1, 2, 3, 0] rfl)
    · -- not taken at 21
      refine lv_aload_n hx hb d_X1_joins_24 rfl (lv_at hl 1 rfl) ?_
      refine va_get (D := D) (ci := 1) (v := .ref (r 5)) (C := "LinkedUnits$Declarations") (T := TX1) (N := 18) hx hb hg iwX1 hown hK hP 7 rfl rfl 3 (by decide) (hg _ m_492) (fun _ h9 => h9) rfl d_X1_joins_25 ?_
      refine va_getN (D := D) (ci := 8) (v := .ref (r 26)) (C := "LinkedUnits$Store") (T := TX8) (N := 18) hx hb hg iwX8 hown hK hP 4 rfl rfl 3 (by decide) (va_Nw.use rfl (hNW.1 _ nm_227)) (fun _ h9 => h9) rfl d_X1_joins_28 ?_
      refine lv_iload_n hx hb d_X1_joins_31 rfl (lv_at hl 2 rfl) ?_
      refine s_call1 (x := ((r 26), .inl (cy 1, 10100, .inl (σ0 26)))) 25 rfl (va_runSN (As := [.ref (r 26), .int a1]) (rest := []) ⟨hx, hb, hml, hown, hg⟩ (c_at_any l D cy H.size (r 26) 10100 (σ0 26) a1 (Nat.le_of_ble_eq_true rfl)) ⟨(va_cnB 2 hg (gw_c m_949) rfl rfl rfl (hNW.1 _ nm_1356) (hg _ m_1) (by decide +kernel) ⟨(Nat.le_of_ble_eq_true rfl), (Nat.le_of_ble_eq_true rfl)⟩), hg _ m_948, trivial⟩ (s_pre (ws := [((r 26), .inl (cy 1, 10100, .inl (σ0 26)))]) (s_sub1 25 hP rfl) (s_subD 25 hD rfl) hK hNW) rfl rfl hl.1 rfl (lv_room (Nat.le_of_ble_eq_true rfl)) d_X1_joins_32 ⟨(Nat.le_of_ble_eq_true rfl), (Nat.le_of_ble_eq_true rfl)⟩) hP hD hS hA (fun r5 u5 H locs hw hP hD hS => ?_)
      have hP : va_P D vwCl (wB cy r σ0) H := hP
      have hD : va_D A (wB cy r σ0) := hD
      refine lv_aload_n hx hb d_X1_joins_35 rfl (lv_at hl 1 rfl) ?_
      refine va_get (D := D) (ci := 1) (v := .int (σ0 8 11)) (C := "LinkedUnits$Declarations") (T := TX1) (N := 18) hx hb hg iwX1 hown hK hP 7 rfl rfl 11 (by decide) (hg _ m_503) (fun _ h9 => h9) rfl d_X1_joins_36 ?_
      refine lv_icmp_ne (tgt := 72) hx hb d_X1_joins_39 (by decide) (fun c_39 => ?_) (fun c_39 => ?_)
      · -- taken at 39
        exact b72 a1 a2 r3 _ _ _  hP hD hS (lv_sub hl [1, 2, 3, 0] rfl)
      · -- not taken at 39
        refine lv_iload_n hx hb d_X1_joins_42 rfl (lv_at hl 0 rfl) ?_
        refine lv_iconst (v := (-1)) hx hb d_X1_joins_43 (by decide) ?_
        refine lv_icmp_ne (tgt := 51) hx hb d_X1_joins_44 (by decide) (fun c_44 => ?_) (fun c_44 => ?_)
        · -- taken at 44
          refine lv_iconst (v := 0) hx hb d_X1_joins_51 (by decide) ?_
          exact b52 a1 a2 r3 (0 : Int32) _ _ _  (Or.inl rfl) hP hD hS (lv_sub hl [1, 2, 3, 0] rfl)
        · -- not taken at 44
          refine lv_iconst (v := 1) hx hb d_X1_joins_47 (by decide) ?_
          refine lv_goto (tgt := 52) hx hb d_X1_joins_48 (by decide) ?_
          exact b52 a1 a2 r3 (1 : Int32) _ _ _  (Or.inr rfl) hP hD hS (lv_sub hl [1, 2, 3, 0] rfl)
  rw [hH] at hgoal
  exact hgoal
set_option maxHeartbeats 4000000 in
set_option maxRecDepth 100000 in
theorem s_X1_checkOuter (l : Launch) (D : va_G) (cy : Nat → ClassId) (sz : Nat) (w : Nat → Nat) (g : Nat → Nat → Int32) (r : Nat → Nat) (σ0 : St) (a1 : Int32) (a2 : Int32) (a3 : Int32) (i0 : Inv σ0) (z_a3 : a3 = 0 ∨ a3 = 1) : Met l y_X1_checkOuter (Cond.code y_X1_checkOuter b_X1_checkOuter 4 none :: GW) ({ frames := 1, cells := 0, slots := 0, locals := 22 } : Room) (va_Pc [.ref (r 8), .int a1, .int a2, .int a3] (kPreE D cy sz (wB cy r σ0) (gE w g))) ((fun A : Nat → Prop => va_Qv (S := St) (fun (τ : St) => (Inv τ ∧ Keep [(6, 3), (6, 4)] [] σ0 τ)) (fun τ => kPost D cy A (wB cy r τ)) A) (va_A (wB cy r σ0) sz)) 0 0 (va_A (wB cy r σ0) sz) := by
  refine k_ofWE (Qc := fun A => va_Qv (S := St) (fun (τ : St) => (Inv τ ∧ Keep [(6, 3), (6, 4)] [] σ0 τ)) (fun τ => kPost D cy A (wB cy r τ)) A) (by decide) (Nat.le_of_ble_eq_true rfl) ?_
  intro p e s m below meth c A ls hx hb hr hml hown hlocks hin hg hNW hK hP hD hA hS hl hE
  have hl : lv_has ls 4 [(0, .ref (r 8)), (1, .int a1), (2, .int a2), (3, .int a3)] := hl
  have hown : s.vm.findClass "LinkedUnits$Declarations" = some m.cls := hown
  have kp : Keep [(6, 3), (6, 4)] [] σ0 σ0 := keep_rf
  obtain ⟨H, hH⟩ : ∃ H, H = s.heap := ⟨_, rfl⟩
  rw [← hH] at hP
  have hS : va_S A s.heap H [] := by rw [hH]; exact va_S.rf
  have hgoal : W p l e ({ frames := 1, cells := 0, slots := 0, locals := 22 } : Room) s m (([.ref (r 8), .int a1, .int a2, .int a3] : List Value).toArray) below meth c H [] 0 0 (MQ below (va_Qv (S := St) (fun (τ : St) => (Inv τ ∧ Keep [(6, 3), (6, 4)] [] σ0 τ)) (fun τ => kPost D cy A (wB cy r τ)) A) (([.ref (r 8), .int a1, .int a2, .int a3] : List Value).toArray) s 0 0 A) (F0 m 0 ls []) := by
    refine lv_iload_n hx hb d_X1_checkOuter_0 rfl (lv_at hl 3 rfl) ?_
    refine lv_if_ne (tgt := 13) hx hb d_X1_checkOuter_1 (by decide) (fun c_1 => ?_) (fun c_1 => ?_)
    · -- taken at 1
      refine lv_iload_n hx hb d_X1_checkOuter_13 rfl (lv_at hl 2 rfl) ?_
      refine lv_if_ge (tgt := 38) hx hb d_X1_checkOuter_14 (by decide) (fun c_14 => ?_) (fun c_14 => ?_)
      · -- taken at 14
        refine W.widen (k := 0) (n := 0) (Nat.le_of_ble_eq_true rfl) (Nat.le_of_ble_eq_true rfl) ?_
        exact k_vret (X := St) (w1 := fun τ => wB cy r τ) σ0 hx hb hr d_X1_checkOuter_38 hlocks hP hK hD hS ⟨i0, kp⟩
      · -- not taken at 14
        refine lv_aload_n hx hb d_X1_checkOuter_17 rfl (lv_at hl 0 rfl) ?_
        refine va_get (D := D) (ci := 1) (v := .ref (r 6)) (C := "LinkedUnits$Declarations") (T := TX1) (N := 18) hx hb hg iwX1 hown hK hP 7 rfl rfl 2 (by decide) (hg _ m_491) (fun _ h9 => h9) rfl d_X1_checkOuter_18 ?_
        refine va_getN (D := D) (ci := 11) (v := .int (σ0 6 7)) (C := "LinkedUnits$Unit") (T := TX11) (N := 19) hx hb hg iwX11 hown hK hP 5 rfl rfl 7 (by decide) (va_Nw.use rfl (hNW.1 _ nm_328)) (fun _ h9 => h9) rfl d_X1_checkOuter_21 ?_
        refine lv_bipush (v := 100) hx hb d_X1_checkOuter_24 (by decide) ?_
        refine lv_icmp_lt (tgt := 38) hx hb d_X1_checkOuter_26 (by decide) (fun c_26 => ?_) (fun c_26 => ?_)
        · -- taken at 26
          refine W.widen (k := 0) (n := 0) (Nat.le_of_ble_eq_true rfl) (Nat.le_of_ble_eq_true rfl) ?_
          exact k_vret (X := St) (w1 := fun τ => wB cy r τ) σ0 hx hb hr d_X1_checkOuter_38 hlocks hP hK hD hS ⟨i0, kp⟩
        · -- not taken at 26
          refine lv_aload_n hx hb d_X1_checkOuter_29 rfl (lv_at hl 0 rfl) ?_
          refine va_get (D := D) (ci := 1) (v := .ref (r 6)) (C := "LinkedUnits$Declarations") (T := TX1) (N := 18) hx hb hg iwX1 hown hK hP 7 rfl rfl 2 (by decide) (hg _ m_491) (fun _ h9 => h9) rfl d_X1_checkOuter_30 ?_
          refine lv_iconst (v := 4) hx hb d_X1_checkOuter_33 (by decide) ?_
          refine lv_iload_n hx hb d_X1_checkOuter_34 rfl (lv_at hl 1 rfl) ?_
          refine s_callv (X := St) (w1 := fun τ => wB cy r τ) (va_runVN (As := [.int 4, .int a1]) (rest := []) ⟨hx, hb, hml, hown, hg⟩ (s_X11_fail l D cy H.size w g r σ0 (4 : Int32) a1 i0 ) ⟨(va_cnB 2 hg (gw_c m_1093) rfl rfl rfl (hNW.1 _ nm_1370) (hg _ m_10) (by decide +kernel) ⟨(Nat.le_of_ble_eq_true rfl), (Nat.le_of_ble_eq_true rfl)⟩), (hg _ m_1092), hg _ ms_X11_fail⟩ (s_preVE (As := [.int 4, .int a1]) (gE_ok w g) hS hA hE hP hD hK hNW 5 rfl rfl) rfl rfl hl.1 rfl (lv_room (Nat.le_of_ble_eq_true rfl)) d_X1_checkOuter_35 ⟨(Nat.le_of_ble_eq_true rfl), (Nat.le_of_ble_eq_true rfl)⟩) hP hD hS hA (fun σ1 H locs hw hP hD hS => ?_)
          have hP : va_P D vwCl (wB cy r σ1) H := hP
          have hD : va_D A (wB cy r σ1) := hD
          have ik1 : Keep [(6, 3), (6, 4)] [] σ0 σ1 := hw.2
          have kp : Keep [(6, 3), (6, 4)] [] σ0 σ1 := keep_c kp ik1 (by decide) (by decide)
          have i1 : Inv σ1 := hw.1
          refine W.widen (k := 0) (n := 0) (Nat.le_of_ble_eq_true rfl) (Nat.le_of_ble_eq_true rfl) ?_
          exact k_vret (X := St) (w1 := fun τ => wB cy r τ) σ1 hx hb hr d_X1_checkOuter_38 hlocks hP hK hD hS ⟨i1, kp⟩
    · -- not taken at 1
      refine lv_aload_n hx hb d_X1_checkOuter_4 rfl (lv_at hl 0 rfl) ?_
      refine va_get (D := D) (ci := 1) (v := .ref (r 6)) (C := "LinkedUnits$Declarations") (T := TX1) (N := 18) hx hb hg iwX1 hown hK hP 7 rfl rfl 2 (by decide) (hg _ m_491) (fun _ h9 => h9) rfl d_X1_checkOuter_5 ?_
      refine lv_iconst (v := 2) hx hb d_X1_checkOuter_8 (by decide) ?_
      refine lv_iload_n hx hb d_X1_checkOuter_9 rfl (lv_at hl 1 rfl) ?_
      refine s_callv (X := St) (w1 := fun τ => wB cy r τ) (va_runVN (As := [.int 2, .int a1]) (rest := []) ⟨hx, hb, hml, hown, hg⟩ (s_X11_fail l D cy H.size w g r σ0 (2 : Int32) a1 i0 ) ⟨(va_cnB 2 hg (gw_c m_1093) rfl rfl rfl (hNW.1 _ nm_1370) (hg _ m_10) (by decide +kernel) ⟨(Nat.le_of_ble_eq_true rfl), (Nat.le_of_ble_eq_true rfl)⟩), (hg _ m_1092), hg _ ms_X11_fail⟩ (s_preVE (As := [.int 2, .int a1]) (gE_ok w g) hS hA hE hP hD hK hNW 5 rfl rfl) rfl rfl hl.1 rfl (lv_room (Nat.le_of_ble_eq_true rfl)) d_X1_checkOuter_10 ⟨(Nat.le_of_ble_eq_true rfl), (Nat.le_of_ble_eq_true rfl)⟩) hP hD hS hA (fun σ2 H locs hw hP hD hS => ?_)
      have hP : va_P D vwCl (wB cy r σ2) H := hP
      have hD : va_D A (wB cy r σ2) := hD
      have ik2 : Keep [(6, 3), (6, 4)] [] σ0 σ2 := hw.2
      have kp : Keep [(6, 3), (6, 4)] [] σ0 σ2 := keep_c kp ik2 (by decide) (by decide)
      have i2 : Inv σ2 := hw.1
      refine lv_iload_n hx hb d_X1_checkOuter_13 rfl (lv_at hl 2 rfl) ?_
      refine lv_if_ge (tgt := 38) hx hb d_X1_checkOuter_14 (by decide) (fun c_14 => ?_) (fun c_14 => ?_)
      · -- taken at 14
        refine W.widen (k := 0) (n := 0) (Nat.le_of_ble_eq_true rfl) (Nat.le_of_ble_eq_true rfl) ?_
        exact k_vret (X := St) (w1 := fun τ => wB cy r τ) σ2 hx hb hr d_X1_checkOuter_38 hlocks hP hK hD hS ⟨i2, kp⟩
      · -- not taken at 14
        refine lv_aload_n hx hb d_X1_checkOuter_17 rfl (lv_at hl 0 rfl) ?_
        refine va_get (D := D) (ci := 1) (v := .ref (r 6)) (C := "LinkedUnits$Declarations") (T := TX1) (N := 18) hx hb hg iwX1 hown hK hP 7 rfl rfl 2 (by decide) (hg _ m_491) (fun _ h9 => h9) rfl d_X1_checkOuter_18 ?_
        refine va_getN (D := D) (ci := 11) (v := .int (σ2 6 7)) (C := "LinkedUnits$Unit") (T := TX11) (N := 19) hx hb hg iwX11 hown hK hP 5 rfl rfl 7 (by decide) (va_Nw.use rfl (hNW.1 _ nm_328)) (fun _ h9 => h9) rfl d_X1_checkOuter_21 ?_
        refine k_topi (σ0 6 7) (ik2 6 7 rfl rfl) ?_
        refine lv_bipush (v := 100) hx hb d_X1_checkOuter_24 (by decide) ?_
        refine lv_icmp_lt (tgt := 38) hx hb d_X1_checkOuter_26 (by decide) (fun c_26 => ?_) (fun c_26 => ?_)
        · -- taken at 26
          refine W.widen (k := 0) (n := 0) (Nat.le_of_ble_eq_true rfl) (Nat.le_of_ble_eq_true rfl) ?_
          exact k_vret (X := St) (w1 := fun τ => wB cy r τ) σ2 hx hb hr d_X1_checkOuter_38 hlocks hP hK hD hS ⟨i2, kp⟩
        · -- not taken at 26
          refine lv_aload_n hx hb d_X1_checkOuter_29 rfl (lv_at hl 0 rfl) ?_
          refine va_get (D := D) (ci := 1) (v := .ref (r 6)) (C := "LinkedUnits$Declarations") (T := TX1) (N := 18) hx hb hg iwX1 hown hK hP 7 rfl rfl 2 (by decide) (hg _ m_491) (fun _ h9 => h9) rfl d_X1_checkOuter_30 ?_
          refine lv_iconst (v := 4) hx hb d_X1_checkOuter_33 (by decide) ?_
          refine lv_iload_n hx hb d_X1_checkOuter_34 rfl (lv_at hl 1 rfl) ?_
          refine s_callv (X := St) (w1 := fun τ => wB cy r τ) (va_runVN (As := [.int 4, .int a1]) (rest := []) ⟨hx, hb, hml, hown, hg⟩ (s_X11_fail l D cy H.size w g r σ2 (4 : Int32) a1 i2 ) ⟨(va_cnB 2 hg (gw_c m_1093) rfl rfl rfl (hNW.1 _ nm_1370) (hg _ m_10) (by decide +kernel) ⟨(Nat.le_of_ble_eq_true rfl), (Nat.le_of_ble_eq_true rfl)⟩), (hg _ m_1092), hg _ ms_X11_fail⟩ (s_preVE (As := [.int 4, .int a1]) (gE_ok w g) hS hA hE hP hD hK hNW 5 rfl rfl) rfl rfl hl.1 rfl (lv_room (Nat.le_of_ble_eq_true rfl)) d_X1_checkOuter_35 ⟨(Nat.le_of_ble_eq_true rfl), (Nat.le_of_ble_eq_true rfl)⟩) hP hD hS hA (fun σ3 H locs hw hP hD hS => ?_)
          have hP : va_P D vwCl (wB cy r σ3) H := hP
          have hD : va_D A (wB cy r σ3) := hD
          have ik3 : Keep [(6, 3), (6, 4)] [] σ2 σ3 := hw.2
          have kp : Keep [(6, 3), (6, 4)] [] σ0 σ3 := keep_c kp ik3 (by decide) (by decide)
          have i3 : Inv σ3 := hw.1
          refine W.widen (k := 0) (n := 0) (Nat.le_of_ble_eq_true rfl) (Nat.le_of_ble_eq_true rfl) ?_
          exact k_vret (X := St) (w1 := fun τ => wB cy r τ) σ3 hx hb hr d_X1_checkOuter_38 hlocks hP hK hD hS ⟨i3, kp⟩
  rw [hH] at hgoal
  exact hgoal
set_option maxHeartbeats 4000000 in
set_option maxRecDepth 100000 in
theorem s_X0_header (l : Launch) (D : va_G) (cy : Nat → ClassId) (sz : Nat) (w : Nat → Nat) (g : Nat → Nat → Int32) (r : Nat → Nat) (σ0 : St) (i0 : Inv σ0) : Met l y_X0_header (Cond.code y_X0_header b_X0_header 2 (some .int) :: GW) ({ frames := 0, cells := 0, slots := 0, locals := 0 } : Room) (va_Pc [.ref (r 4)] (kPreE D cy sz (wB cy r σ0) (gE w g))) ((fun A : Nat → Prop => va_Qi (S := St) (fun (_ : Int32) (τ : St) => (Inv τ ∧ Keep [(4, 1)] [] σ0 τ)) (fun τ => kPost D cy A (wB cy r τ)) A) (va_A (wB cy r σ0) sz)) 0 0 (va_A (wB cy r σ0) sz) := by
  refine k_ofWE (Qc := fun A => va_Qi (S := St) (fun (_ : Int32) (τ : St) => (Inv τ ∧ Keep [(4, 1)] [] σ0 τ)) (fun τ => kPost D cy A (wB cy r τ)) A) (by decide) (Nat.le_of_ble_eq_true rfl) ?_
  intro p e s m below meth c A ls hx hb hr hml hown hlocks hin hg hNW hK hP hD hA hS hl hE
  have hl : lv_has ls 2 [(0, .ref (r 4))] := hl
  have hown : s.vm.findClass "LinkedUnits$Code" = some m.cls := hown
  have kp : Keep [(4, 1)] [] σ0 σ0 := keep_rf
  obtain ⟨H, hH⟩ : ∃ H, H = s.heap := ⟨_, rfl⟩
  rw [← hH] at hP
  have hS : va_S A s.heap H [] := by rw [hH]; exact va_S.rf
  have hgoal : W p l e ({ frames := 0, cells := 0, slots := 0, locals := 0 } : Room) s m (([.ref (r 4)] : List Value).toArray) below meth c H [] 0 0 (MQ below (va_Qi (S := St) (fun (_ : Int32) (τ : St) => (Inv τ ∧ Keep [(4, 1)] [] σ0 τ)) (fun τ => kPost D cy A (wB cy r τ)) A) (([.ref (r 4)] : List Value).toArray) s 0 0 A) (F0 m 0 ls []) := by
    refine lv_aload_n hx hb d_X0_header_0 rfl (lv_at hl 0 rfl) ?_
    refine va_get (D := D) (ci := 0) (v := .int (σ0 4 1)) (C := "LinkedUnits$Code") (T := TX0) (N := 2) hx hb hg iwX0 hown hK hP 3 rfl rfl 1 (by decide) (hg _ m_152) (fun _ h9 => h9) rfl d_X0_header_1 ?_
    refine lv_istore_n (lv' := [(1, .int (σ0 4 1)), (0, .ref (r 4))]) hx hb d_X0_header_4 rfl hl (by decide) rfl (fun ls hl => ?_)
    refine lv_aload_n hx hb d_X0_header_5 rfl (lv_at hl 1 rfl) ?_
    refine lv_dup hx hb d_X0_header_6 rfl ?_
    refine va_get (D := D) (ci := 0) (v := .int (σ0 4 1)) (C := "LinkedUnits$Code") (T := TX0) (N := 2) hx hb hg iwX0 hown hK hP 3 rfl rfl 1 (by decide) (hg _ m_152) (fun _ h9 => h9) rfl d_X0_header_7 ?_
    refine lv_iload_n hx hb d_X0_header_10 rfl (lv_at hl 0 rfl) ?_
    refine lv_aload_n hx hb d_X0_header_11 rfl (lv_at hl 1 rfl) ?_
    refine va_get (D := D) (ci := 0) (v := .ref (r 24)) (C := "LinkedUnits$Code") (T := TX0) (N := 2) hx hb hg iwX0 hown hK hP 3 rfl rfl 0 (by decide) (hg _ m_149) (fun _ h9 => h9) rfl d_X0_header_12 ?_
    refine va_alen hx hb hK hP 23 1 rfl rfl (v := 262208) (by show Int32.ofNat 262208 = 262208; decide) d_X0_header_15 ?_
    refine lv_iconst (v := 4) hx hb d_X0_header_16 (by decide) ?_
    refine lv_isub hx hb d_X0_header_17 ?_
    refine k_topi 262204 (by decide) ?_
    refine lv_icmp_ge (tgt := 25) hx hb d_X0_header_18 (by decide) (fun c_18 => ?_) (fun c_18 => ?_)
    · -- taken at 18
      refine lv_iconst (v := 0) hx hb d_X0_header_25 (by decide) ?_
      refine lv_iadd hx hb d_X0_header_26 ?_
      refine va_put (D := D) (ci := 0) (v := .int ((σ0 4 1) + 0)) (ty := .int) (C := "LinkedUnits$Code") (T := TX0) (N := 2) hx hb hg iwX0 tyX0 tyX0_ok nmX0 hown hK hP hD hS 3 rfl rfl 1 (by decide) (hg _ m_152) (fun _ h9 => h9) rfl (by decide +kernel) rfl rfl (Nat.le_of_ble_eq_true rfl) d_X0_header_27 (fun H locs hP hD hS => ?_)
      have hP : va_P D vwCl (wB cy r (upC σ0 4 1 ((σ0 4 1) + 0))) H := hP
      have hD : va_D A (wB cy r (upC σ0 4 1 ((σ0 4 1) + 0))) := hD
      have kp : Keep [(4, 1)] [] σ0 (upC σ0 4 1 ((σ0 4 1) + 0)) := keep_f kp (by decide)
      refine lv_iload_n hx hb d_X0_header_30 rfl (lv_at hl 0 rfl) ?_
      refine W.widen (k := 0) (n := 0) (Nat.le_of_ble_eq_true rfl) (Nat.le_of_ble_eq_true rfl) ?_
      exact k_iret (X := St) (w1 := fun τ => wB cy r τ) (upC σ0 4 1 ((σ0 4 1) + 0)) hx hb hr d_X0_header_31 hlocks hP hK hD hS ⟨i0, kp⟩
    · -- not taken at 18
      refine lv_iconst (v := 4) hx hb d_X0_header_21 (by decide) ?_
      refine lv_goto (tgt := 26) hx hb d_X0_header_22 (by decide) ?_
      refine lv_iadd hx hb d_X0_header_26 ?_
      refine va_put (D := D) (ci := 0) (v := .int ((σ0 4 1) + 4)) (ty := .int) (C := "LinkedUnits$Code") (T := TX0) (N := 2) hx hb hg iwX0 tyX0 tyX0_ok nmX0 hown hK hP hD hS 3 rfl rfl 1 (by decide) (hg _ m_152) (fun _ h9 => h9) rfl (by decide +kernel) rfl rfl (Nat.le_of_ble_eq_true rfl) d_X0_header_27 (fun H locs hP hD hS => ?_)
      have hP : va_P D vwCl (wB cy r (upC σ0 4 1 ((σ0 4 1) + 4))) H := hP
      have hD : va_D A (wB cy r (upC σ0 4 1 ((σ0 4 1) + 4))) := hD
      have kp : Keep [(4, 1)] [] σ0 (upC σ0 4 1 ((σ0 4 1) + 4)) := keep_f kp (by decide)
      refine lv_iload_n hx hb d_X0_header_30 rfl (lv_at hl 0 rfl) ?_
      refine W.widen (k := 0) (n := 0) (Nat.le_of_ble_eq_true rfl) (Nat.le_of_ble_eq_true rfl) ?_
      exact k_iret (X := St) (w1 := fun τ => wB cy r τ) (upC σ0 4 1 ((σ0 4 1) + 4)) hx hb hr d_X0_header_31 hlocks hP hK hD hS ⟨i0, kp⟩
  rw [hH] at hgoal
  exact hgoal
set_option maxHeartbeats 4000000 in
set_option maxRecDepth 100000 in
theorem s_X11_enter (l : Launch) (D : va_G) (cy : Nat → ClassId) (sz : Nat) (w : Nat → Nat) (g : Nat → Nat → Int32) (r : Nat → Nat) (σ0 : St) (a1 : Int32) (i0 : Inv σ0) : Met l y_X11_enter (Cond.code y_X11_enter b_X11_enter 2 none :: GW) ({ frames := 2, cells := 0, slots := 0, locals := 42 } : Room) (va_Pc [.ref (r 6), .int a1] (kPreE D cy sz (wB cy r σ0) (gE w g))) ((fun A : Nat → Prop => va_Qv (S := St) (fun (τ : St) => (Inv τ ∧ Keep [(6, 6), (6, 10), (6, 15), (6, 17)] [45] σ0 τ)) (fun τ => kPost D cy A (wB cy r τ)) A) (va_A (wB cy r σ0) sz)) 0 0 (va_A (wB cy r σ0) sz) := by
  refine k_ofWE (Qc := fun A => va_Qv (S := St) (fun (τ : St) => (Inv τ ∧ Keep [(6, 6), (6, 10), (6, 15), (6, 17)] [45] σ0 τ)) (fun τ => kPost D cy A (wB cy r τ)) A) (by decide) (Nat.le_of_ble_eq_true rfl) ?_
  intro p e s m below meth c A ls hx hb hr hml hown hlocks hin hg hNW hK hP hD hA hS hl hE
  have hl : lv_has ls 2 [(0, .ref (r 6)), (1, .int a1)] := hl
  have hown : s.vm.findClass "LinkedUnits$Unit" = some m.cls := hown
  have kp : Keep [(6, 6), (6, 10), (6, 15), (6, 17)] [45] σ0 σ0 := keep_rf
  obtain ⟨H, hH⟩ : ∃ H, H = s.heap := ⟨_, rfl⟩
  rw [← hH] at hP
  have hS : va_S A s.heap H [] := by rw [hH]; exact va_S.rf
  have hgoal : W p l e ({ frames := 2, cells := 0, slots := 0, locals := 42 } : Room) s m (([.ref (r 6), .int a1] : List Value).toArray) below meth c H [] 0 0 (MQ below (va_Qv (S := St) (fun (τ : St) => (Inv τ ∧ Keep [(6, 6), (6, 10), (6, 15), (6, 17)] [45] σ0 τ)) (fun τ => kPost D cy A (wB cy r τ)) A) (([.ref (r 6), .int a1] : List Value).toArray) s 0 0 A) (F0 m 0 ls []) := by
    refine lv_aload_n hx hb d_X11_enter_0 rfl (lv_at hl 0 rfl) ?_
    refine s_callv (X := St) (w1 := fun τ => wB cy r τ) (va_runV (As := []) (rest := []) ⟨hx, hb, hml, hown, hg⟩ (s_X11_leave l D cy H.size w g r σ0  i0 ) (cwV 0 hg (gw_V m_1045 m_1047 ms_X11_leave m_10 m_1048) rfl rfl rfl (by decide +kernel) ⟨(Nat.le_of_ble_eq_true rfl), (Nat.le_of_ble_eq_true rfl)⟩) (s_preVE (As := []) (gE_ok w g) hS hA hE hP hD hK hNW 5 rfl rfl) rfl rfl hl.1 rfl (lv_room (Nat.le_of_ble_eq_true rfl)) d_X11_enter_1 ⟨(Nat.le_of_ble_eq_true rfl), (Nat.le_of_ble_eq_true rfl)⟩) hP hD hS hA (fun σ1 H locs hw hP hD hS => ?_)
    have hP : va_P D vwCl (wB cy r σ1) H := hP
    have hD : va_D A (wB cy r σ1) := hD
    have ik1 : Keep [(6, 6), (6, 10), (6, 15), (6, 17)] [] σ0 σ1 := hw.2
    have kp : Keep [(6, 6), (6, 10), (6, 15), (6, 17)] [45] σ0 σ1 := keep_c kp ik1 (by decide) (by decide)
    have i1 : Inv σ1 := hw.1
    refine lv_aload_n hx hb d_X11_enter_4 rfl (lv_at hl 0 rfl) ?_
    refine lv_iload_n hx hb d_X11_enter_5 rfl (lv_at hl 1 rfl) ?_
    refine va_put (D := D) (ci := 11) (v := .int a1) (ty := .int) (C := "LinkedUnits$Unit") (T := TX11) (N := 19) hx hb hg iwX11 tyX11 tyX11_ok nmX11 hown hK hP hD hS 5 rfl rfl 6 (by decide) (hg _ m_324) (fun _ h9 => h9) rfl (by decide +kernel) rfl rfl (Nat.le_of_ble_eq_true rfl) d_X11_enter_6 (fun H locs hP hD hS => ?_)
    have hP : va_P D vwCl (wB cy r (upC σ1 6 6 a1)) H := hP
    have hD : va_D A (wB cy r (upC σ1 6 6 a1)) := hD
    have kp : Keep [(6, 6), (6, 10), (6, 15), (6, 17)] [45] σ0 (upC σ1 6 6 a1) := keep_f kp (by decide)
    refine lv_aload_n hx hb d_X11_enter_9 rfl (lv_at hl 0 rfl) ?_
    refine s_callv (X := St) (w1 := fun τ => wB cy r τ) (va_runV (As := []) (rest := []) ⟨hx, hb, hml, hown, hg⟩ (s_X11_open l D cy H.size w g r (upC σ1 6 6 a1)  i1 ) (cwV 0 hg (gw_V m_1453 m_1291 ms_X11_open m_10 m_1292) rfl rfl rfl (by decide +kernel) ⟨(Nat.le_of_ble_eq_true rfl), (Nat.le_of_ble_eq_true rfl)⟩) (s_preVE (As := []) (gE_ok w g) hS hA hE hP hD hK hNW 5 rfl rfl) rfl rfl hl.1 rfl (lv_room (Nat.le_of_ble_eq_true rfl)) d_X11_enter_10 ⟨(Nat.le_of_ble_eq_true rfl), (Nat.le_of_ble_eq_true rfl)⟩) hP hD hS hA (fun σ2 H locs hw hP hD hS => ?_)
    have hP : va_P D vwCl (wB cy r σ2) H := hP
    have hD : va_D A (wB cy r σ2) := hD
    have ik2 : Keep [(6, 17)] [45] (upC σ1 6 6 a1) σ2 := hw.2
    have kp : Keep [(6, 6), (6, 10), (6, 15), (6, 17)] [45] σ0 σ2 := keep_c kp ik2 (by decide) (by decide)
    have i2 : Inv σ2 := hw.1
    refine W.widen (k := 0) (n := 0) (Nat.le_of_ble_eq_true rfl) (Nat.le_of_ble_eq_true rfl) ?_
    exact k_vret (X := St) (w1 := fun τ => wB cy r τ) σ2 hx hb hr d_X11_enter_13 hlocks hP hK hD hS ⟨i2, kp⟩
  rw [hH] at hgoal
  exact hgoal
