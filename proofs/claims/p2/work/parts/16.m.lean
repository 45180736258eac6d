set_option maxHeartbeats 4000000 in
set_option maxRecDepth 100000 in
theorem s_X5_decide (l : Launch) (D : va_G) (cy : Nat → ClassId) (sz : Nat) (w : Nat → Nat) (g : Nat → Nat → Int32) (r : Nat → Nat) (σ0 : St) (a1 : Int32) (a2 : Int32) (i0 : Inv σ0) (z_a1 : a1 = 0 ∨ a1 = 1) : Met l y_X5_decide (Cond.code y_X5_decide b_X5_decide 3 none :: GW) ({ frames := 2, cells := 0, slots := 0, locals := 43 } : Room) (va_Pc [.ref (r 12), .int a1, .int a2] (kPreE D cy sz (wB cy r σ0) (gE w g))) ((fun A : Nat → Prop => va_Qv (S := St) (fun (τ : St) => (Inv τ ∧ Keep [(12, 8), (12, 9)] [63] σ0 τ)) (fun τ => kPost D cy A (wB cy r τ)) A) (va_A (wB cy r σ0) sz)) 0 0 (va_A (wB cy r σ0) sz) := by
  refine k_ofWE (Qc := fun A => va_Qv (S := St) (fun (τ : St) => (Inv τ ∧ Keep [(12, 8), (12, 9)] [63] σ0 τ)) (fun τ => kPost D cy A (wB cy r τ)) A) (by decide) (Nat.le_of_ble_eq_true rfl) ?_
  intro p e s m below meth c A ls hx hb hr hml hown hlocks hin hg hNW hK hP hD hA hS hl hE
  have hl : lv_has ls 3 [(0, .ref (r 12)), (1, .int a1), (2, .int a2)] := hl
  have hown : s.vm.findClass "LinkedUnits$Machine" = some m.cls := hown
  have kp : Keep [(12, 8), (12, 9)] [63] σ0 σ0 := keep_rf
  obtain ⟨H, hH⟩ : ∃ H, H = s.heap := ⟨_, rfl⟩
  rw [← hH] at hP
  have hS : va_S A s.heap H [] := by rw [hH]; exact va_S.rf
  have hgoal : W p l e ({ frames := 2, cells := 0, slots := 0, locals := 43 } : Room) s m (([.ref (r 12), .int a1, .int a2] : List Value).toArray) below meth c H [] 0 0 (MQ below (va_Qv (S := St) (fun (τ : St) => (Inv τ ∧ Keep [(12, 8), (12, 9)] [63] σ0 τ)) (fun τ => kPost D cy A (wB cy r τ)) A) (([.ref (r 12), .int a1, .int a2] : List Value).toArray) s 0 0 A) (F0 m 0 ls []) := by
    refine lv_aload_n hx hb d_X5_decide_0 rfl (lv_at hl 0 rfl) ?_
    refine s_calli (X := St) (w1 := fun τ => wB cy r τ) (va_runV (As := []) (rest := []) ⟨hx, hb, hml, hown, hg⟩ (s_X5_pop l D cy H.size w g r σ0  i0 ) (cwV 0 hg (gw_V m_1681 m_1683 ms_X5_pop m_17 m_1684) rfl rfl rfl (by decide +kernel) ⟨(Nat.le_of_ble_eq_true rfl), (Nat.le_of_ble_eq_true rfl)⟩) (s_preVE (As := []) (gE_ok w g) hS hA hE hP hD hK hNW 11 rfl rfl) rfl rfl hl.1 rfl (lv_room (Nat.le_of_ble_eq_true rfl)) d_X5_decide_1 ⟨(Nat.le_of_ble_eq_true rfl), (Nat.le_of_ble_eq_true rfl)⟩) hP hD hS hA (fun r1 σ1 H locs hw hP hD hS => ?_)
    have hP : va_P D vwCl (wB cy r σ1) H := hP
    have hD : va_D A (wB cy r σ1) := hD
    have ik1 : Keep [(12, 9)] [] σ0 σ1 := hw.2
    have kp : Keep [(12, 8), (12, 9)] [63] σ0 σ1 := keep_c kp ik1 (by decide) (by decide)
    have i1 : Inv σ1 := hw.1
    refine lv_if_eq (tgt := 11) hx hb d_X5_decide_4 (by decide) (fun c_4 => ?_) (fun c_4 => ?_)
    · -- taken at 4
      refine lv_iconst (v := 0) hx hb d_X5_decide_11 (by decide) ?_
      refine lv_iload_n hx hb d_X5_decide_12 rfl (lv_at hl 1 rfl) ?_
      refine lv_icmp_ne (tgt := 34) hx hb d_X5_decide_13 (by decide) (fun c_13 => ?_) (fun c_13 => ?_)
      · -- taken at 13
        refine W.widen (k := 0) (n := 0) (Nat.le_of_ble_eq_true rfl) (Nat.le_of_ble_eq_true rfl) ?_
        exact k_vret (X := St) (w1 := fun τ => wB cy r τ) σ1 hx hb hr d_X5_decide_34 hlocks hP hK hD hS ⟨i1, kp⟩
      · -- not taken at 13
        refine lv_aload_n hx hb d_X5_decide_16 rfl (lv_at hl 0 rfl) ?_
        refine lv_iload_n hx hb d_X5_decide_17 rfl (lv_at hl 1 rfl) ?_
        refine lv_if_eq (tgt := 25) hx hb d_X5_decide_18 (by decide) (fun c_18 => ?_) (fun c_18 => ?_)
        · -- taken at 18
          refine lv_iconst (v := 0) hx hb d_X5_decide_25 (by decide) ?_
          refine s_callv (X := St) (w1 := fun τ => wB cy r τ) (va_runV (As := [.int 0]) (rest := []) ⟨hx, hb, hml, hown, hg⟩ (s_X5_push l D cy H.size w g r σ1 (0 : Int32) i1 ) (cwV 1 hg (gw_V m_1686 m_1688 ms_X5_push m_17 m_1689) rfl rfl rfl (by decide +kernel) ⟨(Nat.le_of_ble_eq_true rfl), (Nat.le_of_ble_eq_true rfl)⟩) (s_preVE (As := [.int 0]) (gE_ok w g) hS hA hE hP hD hK hNW 11 rfl rfl) rfl rfl hl.1 rfl (lv_room (Nat.le_of_ble_eq_true rfl)) d_X5_decide_26 ⟨(Nat.le_of_ble_eq_true rfl), (Nat.le_of_ble_eq_true rfl)⟩) hP hD hS hA (fun σ2 H locs hw hP hD hS => ?_)
          have hP : va_P D vwCl (wB cy r σ2) H := hP
          have hD : va_D A (wB cy r σ2) := hD
          have ik2 : Keep [(12, 9)] [63] σ1 σ2 := hw.2
          have kp : Keep [(12, 8), (12, 9)] [63] σ0 σ2 := keep_c kp ik2 (by decide) (by decide)
          have i2 : Inv σ2 := hw.1
          refine lv_aload_n hx hb d_X5_decide_29 rfl (lv_at hl 0 rfl) ?_
          refine lv_iload_n hx hb d_X5_decide_30 rfl (lv_at hl 2 rfl) ?_
          refine va_put (D := D) (ci := 5) (v := .int a2) (ty := .int) (C := "LinkedUnits$Machine") (T := TX5) (N := 19) hx hb hg iwX5 tyX5 tyX5_ok nmX5 hown hK hP hD hS 11 rfl rfl 8 (by decide) (hg _ m_680) (fun _ h9 => h9) rfl (by decide +kernel) rfl rfl (Nat.le_of_ble_eq_true rfl) d_X5_decide_31 (fun H locs hP hD hS => ?_)
          have hP : va_P D vwCl (wB cy r (upC σ2 12 8 a2)) H := hP
          have hD : va_D A (wB cy r (upC σ2 12 8 a2)) := hD
          have kp : Keep [(12, 8), (12, 9)] [63] σ0 (upC σ2 12 8 a2) := keep_f kp (by decide)
          refine W.widen (k := 0) (n := 0) (Nat.le_of_ble_eq_true rfl) (Nat.le_of_ble_eq_true rfl) ?_
          exact k_vret (X := St) (w1 := fun τ => wB cy r τ) (upC σ2 12 8 a2) hx hb hr d_X5_decide_34 hlocks hP hK hD hS ⟨i2, kp⟩
        · -- not taken at 18
          refine lv_iconst (v := 1) hx hb d_X5_decide_21 (by decide) ?_
          refine lv_goto (tgt := 26) hx hb d_X5_decide_22 (by decide) ?_
          refine s_callv (X := St) (w1 := fun τ => wB cy r τ) (va_runV (As := [.int 1]) (rest := []) ⟨hx, hb, hml, hown, hg⟩ (s_X5_push l D cy H.size w g r σ1 (1 : Int32) i1 ) (cwV 1 hg (gw_V m_1686 m_1688 ms_X5_push m_17 m_1689) rfl rfl rfl (by decide +kernel) ⟨(Nat.le_of_ble_eq_true rfl), (Nat.le_of_ble_eq_true rfl)⟩) (s_preVE (As := [.int 1]) (gE_ok w g) hS hA hE hP hD hK hNW 11 rfl rfl) rfl rfl hl.1 rfl (lv_room (Nat.le_of_ble_eq_true rfl)) d_X5_decide_26 ⟨(Nat.le_of_ble_eq_true rfl), (Nat.le_of_ble_eq_true rfl)⟩) hP hD hS hA (fun σ3 H locs hw hP hD hS => ?_)
          have hP : va_P D vwCl (wB cy r σ3) H := hP
          have hD : va_D A (wB cy r σ3) := hD
          have ik3 : Keep [(12, 9)] [63] σ1 σ3 := hw.2
          have kp : Keep [(12, 8), (12, 9)] [63] σ0 σ3 := keep_c kp ik3 (by decide) (by decide)
          have i3 : Inv σ3 := hw.1
          refine lv_aload_n hx hb d_X5_decide_29 rfl (lv_at hl 0 rfl) ?_
          refine lv_iload_n hx hb d_X5_decide_30 rfl (lv_at hl 2 rfl) ?_
          refine va_put (D := D) (ci := 5) (v := .int a2) (ty := .int) (C := "LinkedUnits$Machine") (T := TX5) (N := 19) hx hb hg iwX5 tyX5 tyX5_ok nmX5 hown hK hP hD hS 11 rfl rfl 8 (by decide) (hg _ m_680) (fun _ h9 => h9) rfl (by decide +kernel) rfl rfl (Nat.le_of_ble_eq_true rfl) d_X5_decide_31 (fun H locs hP hD hS => ?_)
          have hP : va_P D vwCl (wB cy r (upC σ3 12 8 a2)) H := hP
          have hD : va_D A (wB cy r (upC σ3 12 8 a2)) := hD
          have kp : Keep [(12, 8), (12, 9)] [63] σ0 (upC σ3 12 8 a2) := keep_f kp (by decide)
          refine W.widen (k := 0) (n := 0) (Nat.le_of_ble_eq_true rfl) (Nat.le_of_ble_eq_true rfl) ?_
          exact k_vret (X := St) (w1 := fun τ => wB cy r τ) (upC σ3 12 8 a2) hx hb hr d_X5_decide_34 hlocks hP hK hD hS ⟨i3, kp⟩
    · -- not taken at 4
      refine lv_iconst (v := 1) hx hb d_X5_decide_7 (by decide) ?_
      refine lv_goto (tgt := 12) hx hb d_X5_decide_8 (by decide) ?_
      refine lv_iload_n hx hb d_X5_decide_12 rfl (lv_at hl 1 rfl) ?_
      refine lv_icmp_ne (tgt := 34) hx hb d_X5_decide_13 (by decide) (fun c_13 => ?_) (fun c_13 => ?_)
      · -- taken at 13
        refine W.widen (k := 0) (n := 0) (Nat.le_of_ble_eq_true rfl) (Nat.le_of_ble_eq_true rfl) ?_
        exact k_vret (X := St) (w1 := fun τ => wB cy r τ) σ1 hx hb hr d_X5_decide_34 hlocks hP hK hD hS ⟨i1, kp⟩
      · -- not taken at 13
        refine lv_aload_n hx hb d_X5_decide_16 rfl (lv_at hl 0 rfl) ?_
        refine lv_iload_n hx hb d_X5_decide_17 rfl (lv_at hl 1 rfl) ?_
        refine lv_if_eq (tgt := 25) hx hb d_X5_decide_18 (by decide) (fun c_18 => ?_) (fun c_18 => ?_)
        · -- taken at 18
          refine lv_iconst (v := 0) hx hb d_X5_decide_25 (by decide) ?_
          refine s_callv (X := St) (w1 := fun τ => wB cy r τ) (va_runV (As := [.int 0]) (rest := []) ⟨hx, hb, hml, hown, hg⟩ (s_X5_push l D cy H.size w g r σ1 (0 : Int32) i1 ) (cwV 1 hg (gw_V m_1686 m_1688 ms_X5_push m_17 m_1689) rfl rfl rfl (by decide +kernel) ⟨(Nat.le_of_ble_eq_true rfl), (Nat.le_of_ble_eq_true rfl)⟩) (s_preVE (As := [.int 0]) (gE_ok w g) hS hA hE hP hD hK hNW 11 rfl rfl) rfl rfl hl.1 rfl (lv_room (Nat.le_of_ble_eq_true rfl)) d_X5_decide_26 ⟨(Nat.le_of_ble_eq_true rfl), (Nat.le_of_ble_eq_true rfl)⟩) hP hD hS hA (fun σ4 H locs hw hP hD hS => ?_)
          have hP : va_P D vwCl (wB cy r σ4) H := hP
          have hD : va_D A (wB cy r σ4) := hD
          have ik4 : Keep [(12, 9)] [63] σ1 σ4 := hw.2
          have kp : Keep [(12, 8), (12, 9)] [63] σ0 σ4 := keep_c kp ik4 (by decide) (by decide)
          have i4 : Inv σ4 := hw.1
          refine lv_aload_n hx hb d_X5_decide_29 rfl (lv_at hl 0 rfl) ?_
          refine lv_iload_n hx hb d_X5_decide_30 rfl (lv_at hl 2 rfl) ?_
          refine va_put (D := D) (ci := 5) (v := .int a2) (ty := .int) (C := "LinkedUnits$Machine") (T := TX5) (N := 19) hx hb hg iwX5 tyX5 tyX5_ok nmX5 hown hK hP hD hS 11 rfl rfl 8 (by decide) (hg _ m_680) (fun _ h9 => h9) rfl (by decide +kernel) rfl rfl (Nat.le_of_ble_eq_true rfl) d_X5_decide_31 (fun H locs hP hD hS => ?_)
          have hP : va_P D vwCl (wB cy r (upC σ4 12 8 a2)) H := hP
          have hD : va_D A (wB cy r (upC σ4 12 8 a2)) := hD
          have kp : Keep [(12, 8), (12, 9)] [63] σ0 (upC σ4 12 8 a2) := keep_f kp (by decide)
          refine W.widen (k := 0) (n := 0) (Nat.le_of_ble_eq_true rfl) (Nat.le_of_ble_eq_true rfl) ?_
          exact k_vret (X := St) (w1 := fun τ => wB cy r τ) (upC σ4 12 8 a2) hx hb hr d_X5_decide_34 hlocks hP hK hD hS ⟨i4, kp⟩
        · -- not taken at 18
          refine lv_iconst (v := 1) hx hb d_X5_decide_21 (by decide) ?_
          refine lv_goto (tgt := 26) hx hb d_X5_decide_22 (by decide) ?_
          refine s_callv (X := St) (w1 := fun τ => wB cy r τ) (va_runV (As := [.int 1]) (rest := []) ⟨hx, hb, hml, hown, hg⟩ (s_X5_push l D cy H.size w g r σ1 (1 : Int32) i1 ) (cwV 1 hg (gw_V m_1686 m_1688 ms_X5_push m_17 m_1689) rfl rfl rfl (by decide +kernel) ⟨(Nat.le_of_ble_eq_true rfl), (Nat.le_of_ble_eq_true rfl)⟩) (s_preVE (As := [.int 1]) (gE_ok w g) hS hA hE hP hD hK hNW 11 rfl rfl) rfl rfl hl.1 rfl (lv_room (Nat.le_of_ble_eq_true rfl)) d_X5_decide_26 ⟨(Nat.le_of_ble_eq_true rfl), (Nat.le_of_ble_eq_true rfl)⟩) hP hD hS hA (fun σ5 H locs hw hP hD hS => ?_)
          have hP : va_P D vwCl (wB cy r σ5) H := hP
          have hD : va_D A (wB cy r σ5) := hD
          have ik5 : Keep [(12, 9)] [63] σ1 σ5 := hw.2
          have kp : Keep [(12, 8), (12, 9)] [63] σ0 σ5 := keep_c kp ik5 (by decide) (by decide)
          have i5 : Inv σ5 := hw.1
          refine lv_aload_n hx hb d_X5_decide_29 rfl (lv_at hl 0 rfl) ?_
          refine lv_iload_n hx hb d_X5_decide_30 rfl (lv_at hl 2 rfl) ?_
          refine va_put (D := D) (ci := 5) (v := .int a2) (ty := .int) (C := "LinkedUnits$Machine") (T := TX5) (N := 19) hx hb hg iwX5 tyX5 tyX5_ok nmX5 hown hK hP hD hS 11 rfl rfl 8 (by decide) (hg _ m_680) (fun _ h9 => h9) rfl (by decide +kernel) rfl rfl (Nat.le_of_ble_eq_true rfl) d_X5_decide_31 (fun H locs hP hD hS => ?_)
          have hP : va_P D vwCl (wB cy r (upC σ5 12 8 a2)) H := hP
          have hD : va_D A (wB cy r (upC σ5 12 8 a2)) := hD
          have kp : Keep [(12, 8), (12, 9)] [63] σ0 (upC σ5 12 8 a2) := keep_f kp (by decide)
          refine W.widen (k := 0) (n := 0) (Nat.le_of_ble_eq_true rfl) (Nat.le_of_ble_eq_true rfl) ?_
          exact k_vret (X := St) (w1 := fun τ => wB cy r τ) (upC σ5 12 8 a2) hx hb hr d_X5_decide_34 hlocks hP hK hD hS ⟨i5, kp⟩
  rw [hH] at hgoal
  exact hgoal
set_option maxHeartbeats 4000000 in
set_option maxRecDepth 100000 in
theorem s_X9_put (l : Launch) (D : va_G) (cy : Nat → ClassId) (sz : Nat) (w : Nat → Nat) (g : Nat → Nat → Int32) (r : Nat → Nat) (σ0 : St) (a1 : Int32) (i0 : Inv σ0) : Met l y_X9_put (Cond.code y_X9_put b_X9_put 2 (some .boolean) :: GW) ({ frames := 0, cells := 0, slots := 0, locals := 0 } : Room) (va_Pc [.ref (r 11), .int a1] (kPreE D cy sz (wB cy r σ0) (gE w g))) ((fun A : Nat → Prop => va_Qi (S := St) (fun (v9 : Int32) (τ : St) => (v9 = 0 ∨ v9 = 1) ∧ (Inv τ ∧ Keep [(11, 2)] [61] σ0 τ)) (fun τ => kPost D cy A (wB cy r τ)) A) (va_A (wB cy r σ0) sz)) 0 0 (va_A (wB cy r σ0) sz) := by
  refine k_ofWE (Qc := fun A => va_Qi (S := St) (fun (v9 : Int32) (τ : St) => (v9 = 0 ∨ v9 = 1) ∧ (Inv τ ∧ Keep [(11, 2)] [61] σ0 τ)) (fun τ => kPost D cy A (wB cy r τ)) A) (by decide) (Nat.le_of_ble_eq_true rfl) ?_
  intro p e s m below meth c A ls hx hb hr hml hown hlocks hin hg hNW hK hP hD hA hS hl hE
  have hl : lv_has ls 2 [(0, .ref (r 11)), (1, .int a1)] := hl
  have hown : s.vm.findClass "LinkedUnits$Tape" = some m.cls := hown
  have kp : Keep [(11, 2)] [61] σ0 σ0 := keep_rf
  obtain ⟨H, hH⟩ : ∃ H, H = s.heap := ⟨_, rfl⟩
  rw [← hH] at hP
  have hS : va_S A s.heap H [] := by rw [hH]; exact va_S.rf
  have hgoal : W p l e ({ frames := 0, cells := 0, slots := 0, locals := 0 } : Room) s m (([.ref (r 11), .int a1] : List Value).toArray) below meth c H [] 0 0 (MQ below (va_Qi (S := St) (fun (v9 : Int32) (τ : St) => (v9 = 0 ∨ v9 = 1) ∧ (Inv τ ∧ Keep [(11, 2)] [61] σ0 τ)) (fun τ => kPost D cy A (wB cy r τ)) A) (([.ref (r 11), .int a1] : List Value).toArray) s 0 0 A) (F0 m 0 ls []) := by
    refine lv_aload_n hx hb d_X9_put_0 rfl (lv_at hl 0 rfl) ?_
    refine va_get (D := D) (ci := 9) (v := .int (σ0 11 2)) (C := "LinkedUnits$Tape") (T := TX9) (N := 5) hx hb hg iwX9 hown hK hP 10 rfl rfl 2 (by decide) (hg _ m_648) (fun _ h9 => h9) rfl d_X9_put_1 ?_
    refine lv_if_lt (tgt := 19) hx hb d_X9_put_4 (by decide) (fun c_4 => ?_) (fun c_4 => ?_)
    · -- taken at 4
      refine lv_iconst (v := 0) hx hb d_X9_put_19 (by decide) ?_
      refine W.widen (k := 0) (n := 0) (Nat.le_of_ble_eq_true rfl) (Nat.le_of_ble_eq_true rfl) ?_
      exact k_zret (X := St) (w1 := fun τ => wB cy r τ) σ0 hx hb hr (k_nz (Or.inl rfl)) d_X9_put_20 hlocks hP hK hD hS ⟨(Or.inl rfl), ⟨i0, kp⟩⟩
    · -- not taken at 4
      refine lv_aload_n hx hb d_X9_put_7 rfl (lv_at hl 0 rfl) ?_
      refine va_get (D := D) (ci := 9) (v := .int (σ0 11 2)) (C := "LinkedUnits$Tape") (T := TX9) (N := 5) hx hb hg iwX9 hown hK hP 10 rfl rfl 2 (by decide) (hg _ m_648) (fun _ h9 => h9) rfl d_X9_put_8 ?_
      refine lv_aload_n hx hb d_X9_put_11 rfl (lv_at hl 0 rfl) ?_
      refine va_get (D := D) (ci := 9) (v := .ref (r 61)) (C := "LinkedUnits$Tape") (T := TX9) (N := 5) hx hb hg iwX9 hown hK hP 10 rfl rfl 4 (by decide) (hg _ m_651) (fun _ h9 => h9) rfl d_X9_put_12 ?_
      refine va_alen hx hb hK hP 58 0 rfl rfl (v := 4096) (by show Int32.ofNat 4096 = 4096; decide) d_X9_put_15 ?_
      refine lv_icmp_lt (tgt := 21) hx hb d_X9_put_16 (by decide) (fun c_16 => ?_) (fun c_16 => ?_)
      · -- taken at 16
        refine lv_aload_n hx hb d_X9_put_21 rfl (lv_at hl 0 rfl) ?_
        refine va_get (D := D) (ci := 9) (v := .ref (r 61)) (C := "LinkedUnits$Tape") (T := TX9) (N := 5) hx hb hg iwX9 hown hK hP 10 rfl rfl 4 (by decide) (hg _ m_651) (fun _ h9 => h9) rfl d_X9_put_22 ?_
        refine lv_aload_n hx hb d_X9_put_25 rfl (lv_at hl 0 rfl) ?_
        refine va_get (D := D) (ci := 9) (v := .int (σ0 11 2)) (C := "LinkedUnits$Tape") (T := TX9) (N := 5) hx hb hg iwX9 hown hK hP 10 rfl rfl 2 (by decide) (hg _ m_648) (fun _ h9 => h9) rfl d_X9_put_26 ?_
        refine lv_iload_n hx hb d_X9_put_29 rfl (lv_at hl 1 rfl) ?_
        refine lv_i2b (v := (a1).toInt8.toInt32) hx hb d_X9_put_30 rfl ?_
        refine va_bast hx hb hK hP hD hS 58 0 rfl rfl (k_in (n := 4096) (by decide) c_4 (Int32.not_le.mpr c_16)) d_X9_put_31 (fun H locs hP hD hS => ?_)
        have hP : va_P D vwCl (wB cy r (upF σ0 61 (upd (σ0 61) ((σ0 11 2)).toNatClampNeg (vp_nar .byte ((a1).toInt8.toInt32))))) H := hP
        have hD : va_D A (wB cy r (upF σ0 61 (upd (σ0 61) ((σ0 11 2)).toNatClampNeg (vp_nar .byte ((a1).toInt8.toInt32))))) := hD
        have kp : Keep [(11, 2)] [61] σ0 (upF σ0 61 (upd (σ0 61) ((σ0 11 2)).toNatClampNeg (vp_nar .byte ((a1).toInt8.toInt32)))) := keep_a kp (by decide)
        refine lv_aload_n hx hb d_X9_put_32 rfl (lv_at hl 0 rfl) ?_
        refine lv_dup hx hb d_X9_put_33 rfl ?_
        refine va_get (D := D) (ci := 9) (v := .int (σ0 11 2)) (C := "LinkedUnits$Tape") (T := TX9) (N := 5) hx hb hg iwX9 hown hK hP 10 rfl rfl 2 (by decide) (hg _ m_648) (fun _ h9 => h9) rfl d_X9_put_34 ?_
        refine lv_iconst (v := 1) hx hb d_X9_put_37 (by decide) ?_
        refine lv_iadd hx hb d_X9_put_38 ?_
        refine va_put (D := D) (ci := 9) (v := .int ((σ0 11 2) + 1)) (ty := .int) (C := "LinkedUnits$Tape") (T := TX9) (N := 5) hx hb hg iwX9 tyX9 tyX9_ok nmX9 hown hK hP hD hS 10 rfl rfl 2 (by decide) (hg _ m_648) (fun _ h9 => h9) rfl (by decide +kernel) rfl rfl (Nat.le_of_ble_eq_true rfl) d_X9_put_39 (fun H locs hP hD hS => ?_)
        have hP : va_P D vwCl (wB cy r (upC (upF σ0 61 (upd (σ0 61) ((σ0 11 2)).toNatClampNeg (vp_nar .byte ((a1).toInt8.toInt32)))) 11 2 ((σ0 11 2) + 1))) H := hP
        have hD : va_D A (wB cy r (upC (upF σ0 61 (upd (σ0 61) ((σ0 11 2)).toNatClampNeg (vp_nar .byte ((a1).toInt8.toInt32)))) 11 2 ((σ0 11 2) + 1))) := hD
        have kp : Keep [(11, 2)] [61] σ0 (upC (upF σ0 61 (upd (σ0 61) ((σ0 11 2)).toNatClampNeg (vp_nar .byte ((a1).toInt8.toInt32)))) 11 2 ((σ0 11 2) + 1)) := keep_f kp (by decide)
        have j1 : Inv (upC (upF σ0 61 (upd (σ0 61) ((σ0 11 2)).toNatClampNeg (vp_nar .byte ((a1).toInt8.toInt32)))) 11 2 ((σ0 11 2) + 1)) := ⟨i0.1, i0.2.1, i0.2.2.1, (by show 0 ≤ ((σ0 11 2) + 1).toInt ∧ ((σ0 11 2) + 1).toInt ≤ 4096; have e0 := s_rng (σ0 11 2); have e1 := i0.2.2.2.1; have e2 : (1 : Int32).toInt = 1 := (by decide); obtain ⟨k3, e3⟩ := s_add (σ0 11 2) (1 : Int32); have e4 := s_rng ((σ0 11 2) + 1); have e5 : (0 : Int32).toInt = 0 := (by decide); have e6 := s_nlt c_4; have e7 : (4096 : Int32).toInt = 4096 := (by decide); have e8 := s_lt c_16; omega), i0.2.2.2.2⟩
        refine lv_iconst (v := 1) hx hb d_X9_put_42 (by decide) ?_
        refine W.widen (k := 0) (n := 0) (Nat.le_of_ble_eq_true rfl) (Nat.le_of_ble_eq_true rfl) ?_
        exact k_zret (X := St) (w1 := fun τ => wB cy r τ) (upC (upF σ0 61 (upd (σ0 61) ((σ0 11 2)).toNatClampNeg (vp_nar .byte ((a1).toInt8.toInt32)))) 11 2 ((σ0 11 2) + 1)) hx hb hr (k_nz (Or.inr rfl)) d_X9_put_43 hlocks hP hK hD hS ⟨(Or.inr rfl), ⟨j1, kp⟩⟩
      · -- not taken at 16
        refine lv_iconst (v := 0) hx hb d_X9_put_19 (by decide) ?_
        refine W.widen (k := 0) (n := 0) (Nat.le_of_ble_eq_true rfl) (Nat.le_of_ble_eq_true rfl) ?_
        exact k_zret (X := St) (w1 := fun τ => wB cy r τ) σ0 hx hb hr (k_nz (Or.inl rfl)) d_X9_put_20 hlocks hP hK hD hS ⟨(Or.inl rfl), ⟨i0, kp⟩⟩
  rw [hH] at hgoal
  exact hgoal
set_option maxHeartbeats 4000000 in
set_option maxRecDepth 100000 in
theorem s_X5_giveBack (l : Launch) (D : va_G) (cy : Nat → ClassId) (sz : Nat) (w : Nat → Nat) (g : Nat → Nat → Int32) (r : Nat → Nat) (σ0 : St) (i0 : Inv σ0) : Met l y_X5_giveBack (Cond.code y_X5_giveBack b_X5_giveBack 2 none :: GW) ({ frames := 2, cells := 0, slots := 0, locals := 43 } : Room) (va_Pc [.ref (r 12)] (kPreE D cy sz (wB cy r σ0) (gE w g))) ((fun A : Nat → Prop => va_Qv (S := St) (fun (τ : St) => (Inv τ ∧ Keep [(12, 7), (12, 8), (12, 9), (12, 10), (12, 11), (12, 13), (12, 15)] [63] σ0 τ)) (fun τ => kPost D cy A (wB cy r τ)) A) (va_A (wB cy r σ0) sz)) 0 0 (va_A (wB cy r σ0) sz) := by
  refine k_ofWE (Qc := fun A => va_Qv (S := St) (fun (τ : St) => (Inv τ ∧ Keep [(12, 7), (12, 8), (12, 9), (12, 10), (12, 11), (12, 13), (12, 15)] [63] σ0 τ)) (fun τ => kPost D cy A (wB cy r τ)) A) (by decide) (Nat.le_of_ble_eq_true rfl) ?_
  intro p e s m below meth c A ls hx hb hr hml hown hlocks hin hg hNW hK hP hD hA hS hl hE
  have hl : lv_has ls 2 [(0, .ref (r 12))] := hl
  have hown : s.vm.findClass "LinkedUnits$Machine" = some m.cls := hown
  have kp : Keep [(12, 7), (12, 8), (12, 9), (12, 10), (12, 11), (12, 13), (12, 15)] [63] σ0 σ0 := keep_rf
  obtain ⟨H, hH⟩ : ∃ H, H = s.heap := ⟨_, rfl⟩
  rw [← hH] at hP
  have hS : va_S A s.heap H [] := by rw [hH]; exact va_S.rf
  have hgoal : W p l e ({ frames := 2, cells := 0, slots := 0, locals := 43 } : Room) s m (([.ref (r 12)] : List Value).toArray) below meth c H [] 0 0 (MQ below (va_Qv (S := St) (fun (τ : St) => (Inv τ ∧ Keep [(12, 7), (12, 8), (12, 9), (12, 10), (12, 11), (12, 13), (12, 15)] [63] σ0 τ)) (fun τ => kPost D cy A (wB cy r τ)) A) (([.ref (r 12)] : List Value).toArray) s 0 0 A) (F0 m 0 ls []) := by
    refine lv_aload_n hx hb d_X5_giveBack_0 rfl (lv_at hl 0 rfl) ?_
    refine s_calli (X := St) (w1 := fun τ => wB cy r τ) (va_runV (As := []) (rest := []) ⟨hx, hb, hml, hown, hg⟩ (s_X5_pop l D cy H.size w g r σ0  i0 ) (cwV 0 hg (gw_V m_1681 m_1683 ms_X5_pop m_17 m_1684) rfl rfl rfl (by decide +kernel) ⟨(Nat.le_of_ble_eq_true rfl), (Nat.le_of_ble_eq_true rfl)⟩) (s_preVE (As := []) (gE_ok w g) hS hA hE hP hD hK hNW 11 rfl rfl) rfl rfl hl.1 rfl (lv_room (Nat.le_of_ble_eq_true rfl)) d_X5_giveBack_1 ⟨(Nat.le_of_ble_eq_true rfl), (Nat.le_of_ble_eq_true rfl)⟩) hP hD hS hA (fun r1 σ1 H locs hw hP hD hS => ?_)
    have hP : va_P D vwCl (wB cy r σ1) H := hP
    have hD : va_D A (wB cy r σ1) := hD
    have ik1 : Keep [(12, 9)] [] σ0 σ1 := hw.2
    have kp : Keep [(12, 7), (12, 8), (12, 9), (12, 10), (12, 11), (12, 13), (12, 15)] [63] σ0 σ1 := keep_c kp ik1 (by decide) (by decide)
    have i1 : Inv σ1 := hw.1
    refine lv_istore_n (lv' := [(1, .int r1), (0, .ref (r 12))]) hx hb d_X5_giveBack_4 rfl hl (by decide) rfl (fun ls hl => ?_)
    refine lv_aload_n hx hb d_X5_giveBack_5 rfl (lv_at hl 1 rfl) ?_
    refine lv_dup hx hb d_X5_giveBack_6 rfl ?_
    refine va_get (D := D) (ci := 5) (v := .int (σ1 12 7)) (C := "LinkedUnits$Machine") (T := TX5) (N := 19) hx hb hg iwX5 hown hK hP 11 rfl rfl 7 (by decide) (hg _ m_679) (fun _ h9 => h9) rfl d_X5_giveBack_7 ?_
    refine k_topi (σ0 12 7) (ik1 12 7 rfl rfl) ?_
    refine lv_iconst (v := 1) hx hb d_X5_giveBack_10 (by decide) ?_
    refine lv_isub hx hb d_X5_giveBack_11 ?_
    refine va_put (D := D) (ci := 5) (v := .int ((σ0 12 7) - 1)) (ty := .int) (C := "LinkedUnits$Machine") (T := TX5) (N := 19) hx hb hg iwX5 tyX5 tyX5_ok nmX5 hown hK hP hD hS 11 rfl rfl 7 (by decide) (hg _ m_679) (fun _ h9 => h9) rfl (by decide +kernel) rfl rfl (Nat.le_of_ble_eq_true rfl) d_X5_giveBack_12 (fun H locs hP hD hS => ?_)
    have hP : va_P D vwCl (wB cy r (upC σ1 12 7 ((σ0 12 7) - 1))) H := hP
    have hD : va_D A (wB cy r (upC σ1 12 7 ((σ0 12 7) - 1))) := hD
    have kp : Keep [(12, 7), (12, 8), (12, 9), (12, 10), (12, 11), (12, 13), (12, 15)] [63] σ0 (upC σ1 12 7 ((σ0 12 7) - 1)) := keep_f kp (by decide)
    refine lv_aload_n hx hb d_X5_giveBack_15 rfl (lv_at hl 1 rfl) ?_
    refine lv_aload_n hx hb d_X5_giveBack_16 rfl (lv_at hl 1 rfl) ?_
    refine va_get (D := D) (ci := 5) (v := .int (σ1 12 10)) (C := "LinkedUnits$Machine") (T := TX5) (N := 19) hx hb hg iwX5 hown hK hP 11 rfl rfl 10 (by decide) (hg _ m_682) (fun _ h9 => h9) rfl d_X5_giveBack_17 ?_
    refine k_topi (σ0 12 10) (ik1 12 10 rfl rfl) ?_
    refine va_put (D := D) (ci := 5) (v := .int (σ0 12 10)) (ty := .int) (C := "LinkedUnits$Machine") (T := TX5) (N := 19) hx hb hg iwX5 tyX5 tyX5_ok nmX5 hown hK hP hD hS 11 rfl rfl 9 (by decide) (hg _ m_681) (fun _ h9 => h9) rfl (by decide +kernel) rfl rfl (Nat.le_of_ble_eq_true rfl) d_X5_giveBack_20 (fun H locs hP hD hS => ?_)
    have hP : va_P D vwCl (wB cy r (upC (upC σ1 12 7 ((σ0 12 7) - 1)) 12 9 (σ0 12 10))) H := hP
    have hD : va_D A (wB cy r (upC (upC σ1 12 7 ((σ0 12 7) - 1)) 12 9 (σ0 12 10))) := hD
    have kp : Keep [(12, 7), (12, 8), (12, 9), (12, 10), (12, 11), (12, 13), (12, 15)] [63] σ0 (upC (upC σ1 12 7 ((σ0 12 7) - 1)) 12 9 (σ0 12 10)) := keep_f kp (by decide)
    refine lv_aload_n hx hb d_X5_giveBack_23 rfl (lv_at hl 1 rfl) ?_
    refine lv_aload_n hx hb d_X5_giveBack_24 rfl (lv_at hl 1 rfl) ?_
    refine va_get (D := D) (ci := 5) (v := .ref (r 64)) (C := "LinkedUnits$Machine") (T := TX5) (N := 19) hx hb hg iwX5 hown hK hP 11 rfl rfl 6 (by decide) (hg _ m_678) (fun _ h9 => h9) rfl d_X5_giveBack_25 ?_
    refine lv_iconst (v := 3) hx hb d_X5_giveBack_28 (by decide) ?_
    refine lv_aload_n hx hb d_X5_giveBack_29 rfl (lv_at hl 1 rfl) ?_
    refine va_get (D := D) (ci := 5) (v := .int ((σ0 12 7) - 1)) (C := "LinkedUnits$Machine") (T := TX5) (N := 19) hx hb hg iwX5 hown hK hP 11 rfl rfl 7 (by decide) (hg _ m_679) (fun _ h9 => h9) rfl d_X5_giveBack_30 ?_
    refine lv_imul hx hb d_X5_giveBack_33 ?_
    refine s_call1 (x := ((r 64), .inl (cy 1, 771, .inl ((upC (upC σ1 12 7 ((σ0 12 7) - 1)) 12 9 (σ0 12 10)) 64)))) 61 rfl (va_runSN (As := [.ref (r 64), .int (3 * ((σ0 12 7) - 1))]) (rest := [.ref (r 12)]) ⟨hx, hb, hml, hown, hg⟩ (c_at_any l D cy H.size (r 64) 771 ((upC (upC σ1 12 7 ((σ0 12 7) - 1)) 12 9 (σ0 12 10)) 64) (3 * ((σ0 12 7) - 1)) (Nat.le_of_ble_eq_true rfl)) ⟨(va_cnB 2 hg (gw_c m_949) rfl rfl rfl (hNW.1 _ nm_1660) (hg _ m_1) (by decide +kernel) ⟨(Nat.le_of_ble_eq_true rfl), (Nat.le_of_ble_eq_true rfl)⟩), hg _ m_948, trivial⟩ (s_pre (ws := [((r 64), .inl (cy 1, 771, .inl ((upC (upC σ1 12 7 ((σ0 12 7) - 1)) 12 9 (σ0 12 10)) 64)))]) (s_sub1 61 hP rfl) (s_subD 61 hD rfl) hK hNW) rfl rfl hl.1 rfl (lv_room (Nat.le_of_ble_eq_true rfl)) d_X5_giveBack_34 ⟨(Nat.le_of_ble_eq_true rfl), (Nat.le_of_ble_eq_true rfl)⟩) hP hD hS hA (fun r2 u2 H locs hw hP hD hS => ?_)
    have hP : va_P D vwCl (wB cy r (upC (upC σ1 12 7 ((σ0 12 7) - 1)) 12 9 (σ0 12 10))) H := hP
    have hD : va_D A (wB cy r (upC (upC σ1 12 7 ((σ0 12 7) - 1)) 12 9 (σ0 12 10))) := hD
    refine va_put (D := D) (ci := 5) (v := .int r2) (ty := .int) (C := "LinkedUnits$Machine") (T := TX5) (N := 19) hx hb hg iwX5 tyX5 tyX5_ok nmX5 hown hK hP hD hS 11 rfl rfl 8 (by decide) (hg _ m_680) (fun _ h9 => h9) rfl (by decide +kernel) rfl rfl (Nat.le_of_ble_eq_true rfl) d_X5_giveBack_37 (fun H locs hP hD hS => ?_)
    have hP : va_P D vwCl (wB cy r (upC (upC (upC σ1 12 7 ((σ0 12 7) - 1)) 12 9 (σ0 12 10)) 12 8 r2)) H := hP
    have hD : va_D A (wB cy r (upC (upC (upC σ1 12 7 ((σ0 12 7) - 1)) 12 9 (σ0 12 10)) 12 8 r2)) := hD
    have kp : Keep [(12, 7), (12, 8), (12, 9), (12, 10), (12, 11), (12, 13), (12, 15)] [63] σ0 (upC (upC (upC σ1 12 7 ((σ0 12 7) - 1)) 12 9 (σ0 12 10)) 12 8 r2) := keep_f kp (by decide)
    refine lv_aload_n hx hb d_X5_giveBack_40 rfl (lv_at hl 1 rfl) ?_
    refine lv_aload_n hx hb d_X5_giveBack_41 rfl (lv_at hl 1 rfl) ?_
    refine va_get (D := D) (ci := 5) (v := .ref (r 64)) (C := "LinkedUnits$Machine") (T := TX5) (N := 19) hx hb hg iwX5 hown hK hP 11 rfl rfl 6 (by decide) (hg _ m_678) (fun _ h9 => h9) rfl d_X5_giveBack_42 ?_
    refine lv_iconst (v := 3) hx hb d_X5_giveBack_45 (by decide) ?_
    refine lv_aload_n hx hb d_X5_giveBack_46 rfl (lv_at hl 1 rfl) ?_
    refine va_get (D := D) (ci := 5) (v := .int ((σ0 12 7) - 1)) (C := "LinkedUnits$Machine") (T := TX5) (N := 19) hx hb hg iwX5 hown hK hP 11 rfl rfl 7 (by decide) (hg _ m_679) (fun _ h9 => h9) rfl d_X5_giveBack_47 ?_
    refine lv_imul hx hb d_X5_giveBack_50 ?_
    refine lv_iconst (v := 1) hx hb d_X5_giveBack_51 (by decide) ?_
    refine lv_iadd hx hb d_X5_giveBack_52 ?_
    refine s_call1 (x := ((r 64), .inl (cy 1, 771, .inl ((upC (upC (upC σ1 12 7 ((σ0 12 7) - 1)) 12 9 (σ0 12 10)) 12 8 r2) 64)))) 61 rfl (va_runSN (As := [.ref (r 64), .int ((3 * ((σ0 12 7) - 1)) + 1)]) (rest := [.ref (r 12)]) ⟨hx, hb, hml, hown, hg⟩ (c_at_any l D cy H.size (r 64) 771 ((upC (upC (upC σ1 12 7 ((σ0 12 7) - 1)) 12 9 (σ0 12 10)) 12 8 r2) 64) ((3 * ((σ0 12 7) - 1)) + 1) (Nat.le_of_ble_eq_true rfl)) ⟨(va_cnB 2 hg (gw_c m_949) rfl rfl rfl (hNW.1 _ nm_1660) (hg _ m_1) (by decide +kernel) ⟨(Nat.le_of_ble_eq_true rfl), (Nat.le_of_ble_eq_true rfl)⟩), hg _ m_948, trivial⟩ (s_pre (ws := [((r 64), .inl (cy 1, 771, .inl ((upC (upC (upC σ1 12 7 ((σ0 12 7) - 1)) 12 9 (σ0 12 10)) 12 8 r2) 64)))]) (s_sub1 61 hP rfl) (s_subD 61 hD rfl) hK hNW) rfl rfl hl.1 rfl (lv_room (Nat.le_of_ble_eq_true rfl)) d_X5_giveBack_53 ⟨(Nat.le_of_ble_eq_true rfl), (Nat.le_of_ble_eq_true rfl)⟩) hP hD hS hA (fun r3 u3 H locs hw hP hD hS => ?_)
    have hP : va_P D vwCl (wB cy r (upC (upC (upC σ1 12 7 ((σ0 12 7) - 1)) 12 9 (σ0 12 10)) 12 8 r2)) H := hP
    have hD : va_D A (wB cy r (upC (upC (upC σ1 12 7 ((σ0 12 7) - 1)) 12 9 (σ0 12 10)) 12 8 r2)) := hD
    refine va_put (D := D) (ci := 5) (v := .int r3) (ty := .int) (C := "LinkedUnits$Machine") (T := TX5) (N := 19) hx hb hg iwX5 tyX5 tyX5_ok nmX5 hown hK hP hD hS 11 rfl rfl 10 (by decide) (hg _ m_682) (fun _ h9 => h9) rfl (by decide +kernel) rfl rfl (Nat.le_of_ble_eq_true rfl) d_X5_giveBack_56 (fun H locs hP hD hS => ?_)
    have hP : va_P D vwCl (wB cy r (upC (upC (upC (upC σ1 12 7 ((σ0 12 7) - 1)) 12 9 (σ0 12 10)) 12 8 r2) 12 10 r3)) H := hP
    have hD : va_D A (wB cy r (upC (upC (upC (upC σ1 12 7 ((σ0 12 7) - 1)) 12 9 (σ0 12 10)) 12 8 r2) 12 10 r3)) := hD
    have kp : Keep [(12, 7), (12, 8), (12, 9), (12, 10), (12, 11), (12, 13), (12, 15)] [63] σ0 (upC (upC (upC (upC σ1 12 7 ((σ0 12 7) - 1)) 12 9 (σ0 12 10)) 12 8 r2) 12 10 r3) := keep_f kp (by decide)
    refine lv_aload_n hx hb d_X5_giveBack_59 rfl (lv_at hl 1 rfl) ?_
    refine lv_aload_n hx hb d_X5_giveBack_60 rfl (lv_at hl 1 rfl) ?_
    refine va_get (D := D) (ci := 5) (v := .ref (r 64)) (C := "LinkedUnits$Machine") (T := TX5) (N := 19) hx hb hg iwX5 hown hK hP 11 rfl rfl 6 (by decide) (hg _ m_678) (fun _ h9 => h9) rfl d_X5_giveBack_61 ?_
    refine lv_iconst (v := 3) hx hb d_X5_giveBack_64 (by decide) ?_
    refine lv_aload_n hx hb d_X5_giveBack_65 rfl (lv_at hl 1 rfl) ?_
    refine va_get (D := D) (ci := 5) (v := .int ((σ0 12 7) - 1)) (C := "LinkedUnits$Machine") (T := TX5) (N := 19) hx hb hg iwX5 hown hK hP 11 rfl rfl 7 (by decide) (hg _ m_679) (fun _ h9 => h9) rfl d_X5_giveBack_66 ?_
    refine lv_imul hx hb d_X5_giveBack_69 ?_
    refine lv_iconst (v := 2) hx hb d_X5_giveBack_70 (by decide) ?_
    refine lv_iadd hx hb d_X5_giveBack_71 ?_
    refine s_call1 (x := ((r 64), .inl (cy 1, 771, .inl ((upC (upC (upC (upC σ1 12 7 ((σ0 12 7) - 1)) 12 9 (σ0 12 10)) 12 8 r2) 12 10 r3) 64)))) 61 rfl (va_runSN (As := [.ref (r 64), .int ((3 * ((σ0 12 7) - 1)) + 2)]) (rest := [.ref (r 12)]) ⟨hx, hb, hml, hown, hg⟩ (c_at_any l D cy H.size (r 64) 771 ((upC (upC (upC (upC σ1 12 7 ((σ0 12 7) - 1)) 12 9 (σ0 12 10)) 12 8 r2) 12 10 r3) 64) ((3 * ((σ0 12 7) - 1)) + 2) (Nat.le_of_ble_eq_true rfl)) ⟨(va_cnB 2 hg (gw_c m_949) rfl rfl rfl (hNW.1 _ nm_1660) (hg _ m_1) (by decide +kernel) ⟨(Nat.le_of_ble_eq_true rfl), (Nat.le_of_ble_eq_true rfl)⟩), hg _ m_948, trivial⟩ (s_pre (ws := [((r 64), .inl (cy 1, 771, .inl ((upC (upC (upC (upC σ1 12 7 ((σ0 12 7) - 1)) 12 9 (σ0 12 10)) 12 8 r2) 12 10 r3) 64)))]) (s_sub1 61 hP rfl) (s_subD 61 hD rfl) hK hNW) rfl rfl hl.1 rfl (lv_room (Nat.le_of_ble_eq_true rfl)) d_X5_giveBack_72 ⟨(Nat.le_of_ble_eq_true rfl), (Nat.le_of_ble_eq_true rfl)⟩) hP hD hS hA (fun r4 u4 H locs hw hP hD hS => ?_)
    have hP : va_P D vwCl (wB cy r (upC (upC (upC (upC σ1 12 7 ((σ0 12 7) - 1)) 12 9 (σ0 12 10)) 12 8 r2) 12 10 r3)) H := hP
    have hD : va_D A (wB cy r (upC (upC (upC (upC σ1 12 7 ((σ0 12 7) - 1)) 12 9 (σ0 12 10)) 12 8 r2) 12 10 r3)) := hD
    refine va_put (D := D) (ci := 5) (v := .int r4) (ty := .int) (C := "LinkedUnits$Machine") (T := TX5) (N := 19) hx hb hg iwX5 tyX5 tyX5_ok nmX5 hown hK hP hD hS 11 rfl rfl 11 (by decide) (hg _ m_683) (fun _ h9 => h9) rfl (by decide +kernel) rfl rfl (Nat.le_of_ble_eq_true rfl) d_X5_giveBack_75 (fun H locs hP hD hS => ?_)
    have hP : va_P D vwCl (wB cy r (upC (upC (upC (upC (upC σ1 12 7 ((σ0 12 7) - 1)) 12 9 (σ0 12 10)) 12 8 r2) 12 10 r3) 12 11 r4)) H := hP
    have hD : va_D A (wB cy r (upC (upC (upC (upC (upC σ1 12 7 ((σ0 12 7) - 1)) 12 9 (σ0 12 10)) 12 8 r2) 12 10 r3) 12 11 r4)) := hD
    have kp : Keep [(12, 7), (12, 8), (12, 9), (12, 10), (12, 11), (12, 13), (12, 15)] [63] σ0 (upC (upC (upC (upC (upC σ1 12 7 ((σ0 12 7) - 1)) 12 9 (σ0 12 10)) 12 8 r2) 12 10 r3) 12 11 r4) := keep_f kp (by decide)
    refine lv_aload_n hx hb d_X5_giveBack_78 rfl (lv_at hl 1 rfl) ?_
    refine va_get (D := D) (ci := 5) (v := .int ((σ0 12 7) - 1)) (C := "LinkedUnits$Machine") (T := TX5) (N := 19) hx hb hg iwX5 hown hK hP 11 rfl rfl 7 (by decide) (hg _ m_679) (fun _ h9 => h9) rfl d_X5_giveBack_79 ?_
    refine lv_if_gt (tgt := 98) hx hb d_X5_giveBack_82 (by decide) (fun c_82 => ?_) (fun c_82 => ?_)
    · -- taken at 82
      refine lv_aload_n hx hb d_X5_giveBack_98 rfl (lv_at hl 1 rfl) ?_
      refine lv_iload_n hx hb d_X5_giveBack_99 rfl (lv_at hl 0 rfl) ?_
      refine s_callv (X := St) (w1 := fun τ => wB cy r τ) (va_runV (As := [.int r1]) (rest := []) ⟨hx, hb, hml, hown, hg⟩ (s_X5_push l D cy H.size w g r (upC (upC (upC (upC (upC σ1 12 7 ((σ0 12 7) - 1)) 12 9 (σ0 12 10)) 12 8 r2) 12 10 r3) 12 11 r4) r1 i1 ) (cwV 1 hg (gw_V m_1686 m_1688 ms_X5_push m_17 m_1689) rfl rfl rfl (by decide +kernel) ⟨(Nat.le_of_ble_eq_true rfl), (Nat.le_of_ble_eq_true rfl)⟩) (s_preVE (As := [.int r1]) (gE_ok w g) hS hA hE hP hD hK hNW 11 rfl rfl) rfl rfl hl.1 rfl (lv_room (Nat.le_of_ble_eq_true rfl)) d_X5_giveBack_100 ⟨(Nat.le_of_ble_eq_true rfl), (Nat.le_of_ble_eq_true rfl)⟩) hP hD hS hA (fun σ5 H locs hw hP hD hS => ?_)
      have hP : va_P D vwCl (wB cy r σ5) H := hP
      have hD : va_D A (wB cy r σ5) := hD
      have ik5 : Keep [(12, 9)] [63] (upC (upC (upC (upC (upC σ1 12 7 ((σ0 12 7) - 1)) 12 9 (σ0 12 10)) 12 8 r2) 12 10 r3) 12 11 r4) σ5 := hw.2
      have kp : Keep [(12, 7), (12, 8), (12, 9), (12, 10), (12, 11), (12, 13), (12, 15)] [63] σ0 σ5 := keep_c kp ik5 (by decide) (by decide)
      have i5 : Inv σ5 := hw.1
      refine W.widen (k := 0) (n := 0) (Nat.le_of_ble_eq_true rfl) (Nat.le_of_ble_eq_true rfl) ?_
      exact k_vret (X := St) (w1 := fun τ => wB cy r τ) σ5 hx hb hr d_X5_giveBack_103 hlocks hP hK hD hS ⟨i5, kp⟩
    · -- not taken at 82
      refine lv_aload_n hx hb d_X5_giveBack_85 rfl (lv_at hl 1 rfl) ?_
      refine lv_iload_n hx hb d_X5_giveBack_86 rfl (lv_at hl 0 rfl) ?_
      refine va_put (D := D) (ci := 5) (v := .int r1) (ty := .int) (C := "LinkedUnits$Machine") (T := TX5) (N := 19) hx hb hg iwX5 tyX5 tyX5_ok nmX5 hown hK hP hD hS 11 rfl rfl 15 (by decide) (hg _ m_688) (fun _ h9 => h9) rfl (by decide +kernel) rfl rfl (Nat.le_of_ble_eq_true rfl) d_X5_giveBack_87 (fun H locs hP hD hS => ?_)
      have hP : va_P D vwCl (wB cy r (upC (upC (upC (upC (upC (upC σ1 12 7 ((σ0 12 7) - 1)) 12 9 (σ0 12 10)) 12 8 r2) 12 10 r3) 12 11 r4) 12 15 r1)) H := hP
      have hD : va_D A (wB cy r (upC (upC (upC (upC (upC (upC σ1 12 7 ((σ0 12 7) - 1)) 12 9 (σ0 12 10)) 12 8 r2) 12 10 r3) 12 11 r4) 12 15 r1)) := hD
      have kp : Keep [(12, 7), (12, 8), (12, 9), (12, 10), (12, 11), (12, 13), (12, 15)] [63] σ0 (upC (upC (upC (upC (upC (upC σ1 12 7 ((σ0 12 7) - 1)) 12 9 (σ0 12 10)) 12 8 r2) 12 10 r3) 12 11 r4) 12 15 r1) := keep_f kp (by decide)
      refine lv_aload_n hx hb d_X5_giveBack_90 rfl (lv_at hl 1 rfl) ?_
      refine lv_iconst (v := 0) hx hb d_X5_giveBack_91 (by decide) ?_
      refine va_put (D := D) (ci := 5) (v := .int 0) (ty := .int) (C := "LinkedUnits$Machine") (T := TX5) (N := 19) hx hb hg iwX5 tyX5 tyX5_ok nmX5 hown hK hP hD hS 11 rfl rfl 13 (by decide) (hg _ m_685) (fun _ h9 => h9) rfl (by decide +kernel) rfl rfl (Nat.le_of_ble_eq_true rfl) d_X5_giveBack_92 (fun H locs hP hD hS => ?_)
      have hP : va_P D vwCl (wB cy r (upC (upC (upC (upC (upC (upC (upC σ1 12 7 ((σ0 12 7) - 1)) 12 9 (σ0 12 10)) 12 8 r2) 12 10 r3) 12 11 r4) 12 15 r1) 12 13 0)) H := hP
      have hD : va_D A (wB cy r (upC (upC (upC (upC (upC (upC (upC σ1 12 7 ((σ0 12 7) - 1)) 12 9 (σ0 12 10)) 12 8 r2) 12 10 r3) 12 11 r4) 12 15 r1) 12 13 0)) := hD
      have kp : Keep [(12, 7), (12, 8), (12, 9), (12, 10), (12, 11), (12, 13), (12, 15)] [63] σ0 (upC (upC (upC (upC (upC (upC (upC σ1 12 7 ((σ0 12 7) - 1)) 12 9 (σ0 12 10)) 12 8 r2) 12 10 r3) 12 11 r4) 12 15 r1) 12 13 0) := keep_f kp (by decide)
      refine lv_goto (tgt := 103) hx hb d_X5_giveBack_95 (by decide) ?_
      refine W.widen (k := 0) (n := 0) (Nat.le_of_ble_eq_true rfl) (Nat.le_of_ble_eq_true rfl) ?_
      exact k_vret (X := St) (w1 := fun τ => wB cy r τ) (upC (upC (upC (upC (upC (upC (upC σ1 12 7 ((σ0 12 7) - 1)) 12 9 (σ0 12 10)) 12 8 r2) 12 10 r3) 12 11 r4) 12 15 r1) 12 13 0) hx hb hr d_X5_giveBack_103 hlocks hP hK hD hS ⟨i1, kp⟩
  rw [hH] at hgoal
  exact hgoal
set_option maxHeartbeats 4000000 in
set_option maxRecDepth 100000 in
theorem s_X5_isCell (l : Launch) (D : va_G) (cy : Nat → ClassId) (sz : Nat) (a0 : Int32) : Met l y_X5_isCell (Cond.code y_X5_isCell b_X5_isCell 1 (some .boolean) :: GW) ({ frames := 0, cells := 0, slots := 0, locals := 0 } : Room) (va_Pc [.int a0] (kPre D cy sz [])) ((fun A : Nat → Prop => va_Qi (S := Unit) (fun (v9 : Int32) (_ : Unit) => (v9 = 0 ∨ v9 = 1) ∧ True) (fun _ => kPost D cy A []) A) (va_A [] sz)) 0 0 (va_A [] sz) := by
  refine k_ofW (Qc := fun A => va_Qi (S := Unit) (fun (v9 : Int32) (_ : Unit) => (v9 = 0 ∨ v9 = 1) ∧ True) (fun _ => kPost D cy A []) A) (by decide) (Nat.le_of_ble_eq_true rfl) ?_
  intro p e s m below meth c A ls hx hb hr hml hown hlocks hin hg hNW hK hP hD hA hS hl
  have hl : lv_has ls 1 [(0, .int a0)] := hl
  have hown : s.vm.findClass "LinkedUnits$Machine" = some m.cls := hown
  obtain ⟨H, hH⟩ : ∃ H, H = s.heap := ⟨_, rfl⟩
  rw [← hH] at hP
  have hS : va_S A s.heap H [] := by rw [hH]; exact va_S.rf
  have hgoal : W p l e ({ frames := 0, cells := 0, slots := 0, locals := 0 } : Room) s m (([.int a0] : List Value).toArray) below meth c H [] 0 0 (MQ below (va_Qi (S := Unit) (fun (v9 : Int32) (_ : Unit) => (v9 = 0 ∨ v9 = 1) ∧ True) (fun _ => kPost D cy A []) A) (([.int a0] : List Value).toArray) s 0 0 A) (F0 m 0 ls []) := by
    refine lv_iload_n hx hb d_X5_isCell_0 rfl (lv_at hl 0 rfl) ?_
    refine lv_bipush (v := 16) hx hb d_X5_isCell_1 (by decide) ?_
    refine lv_icmp_lt (tgt := 16) hx hb d_X5_isCell_3 (by decide) (fun c_3 => ?_) (fun c_3 => ?_)
    · -- taken at 3
      refine lv_iconst (v := 0) hx hb d_X5_isCell_16 (by decide) ?_
      refine W.widen (k := 0) (n := 0) (Nat.le_of_ble_eq_true rfl) (Nat.le_of_ble_eq_true rfl) ?_
      exact k_zret (X := Unit) (w1 := fun _ => []) () hx hb hr (k_nz (Or.inl rfl)) d_X5_isCell_17 hlocks hP hK hD hS ⟨(Or.inl rfl), trivial⟩
    · -- not taken at 3
      refine lv_iload_n hx hb d_X5_isCell_6 rfl (lv_at hl 0 rfl) ?_
      refine lv_ldc (v := 32768) hx hb hown (hg _ m_669) d_X5_isCell_7 ?_
      refine lv_icmp_ge (tgt := 16) hx hb d_X5_isCell_9 (by decide) (fun c_9 => ?_) (fun c_9 => ?_)
      · -- taken at 9
        refine lv_iconst (v := 0) hx hb d_X5_isCell_16 (by decide) ?_
        refine W.widen (k := 0) (n := 0) (Nat.le_of_ble_eq_true rfl) (Nat.le_of_ble_eq_true rfl) ?_
        exact k_zret (X := Unit) (w1 := fun _ => []) () hx hb hr (k_nz (Or.inl rfl)) d_X5_isCell_17 hlocks hP hK hD hS ⟨(Or.inl rfl), trivial⟩
      · -- not taken at 9
        refine lv_iconst (v := 1) hx hb d_X5_isCell_12 (by decide) ?_
        refine lv_goto (tgt := 17) hx hb d_X5_isCell_13 (by decide) ?_
        refine W.widen (k := 0) (n := 0) (Nat.le_of_ble_eq_true rfl) (Nat.le_of_ble_eq_true rfl) ?_
        exact k_zret (X := Unit) (w1 := fun _ => []) () hx hb hr (k_nz (Or.inr rfl)) d_X5_isCell_17 hlocks hP hK hD hS ⟨(Or.inr rfl), trivial⟩
  rw [hH] at hgoal
  exact hgoal
set_option maxHeartbeats 4000000 in
set_option maxRecDepth 100000 in
theorem s_X5_peeked (l : Launch) (D : va_G) (cy : Nat → ClassId) (sz : Nat) (w : Nat → Nat) (g : Nat → Nat → Int32) (r : Nat → Nat) (σ0 : St) (i0 : Inv σ0) : Met l y_X5_peeked (Cond.code y_X5_peeked b_X5_peeked 1 (some .int) :: GW) ({ frames := 1, cells := 0, slots := 0, locals := 21 } : Room) (va_Pc [.ref (r 12)] (kPreE D cy sz (wB cy r σ0) (gE w g))) ((fun A : Nat → Prop => va_Qi (S := Unit) (fun (_ : Int32) (_ : Unit) => True) (fun _ => kPost D cy A (wB cy r σ0)) A) (va_A (wB cy r σ0) sz)) 0 0 (va_A (wB cy r σ0) sz) := by
  refine k_ofWE (Qc := fun A => va_Qi (S := Unit) (fun (_ : Int32) (_ : Unit) => True) (fun _ => kPost D cy A (wB cy r σ0)) A) (by decide) (Nat.le_of_ble_eq_true rfl) ?_
  intro p e s m below meth c A ls hx hb hr hml hown hlocks hin hg hNW hK hP hD hA hS hl hE
  have hl : lv_has ls 1 [(0, .ref (r 12))] := hl
  have hown : s.vm.findClass "LinkedUnits$Machine" = some m.cls := hown
  obtain ⟨H, hH⟩ : ∃ H, H = s.heap := ⟨_, rfl⟩
  rw [← hH] at hP
  have hS : va_S A s.heap H [] := by rw [hH]; exact va_S.rf
  have hgoal : W p l e ({ frames := 1, cells := 0, slots := 0, locals := 21 } : Room) s m (([.ref (r 12)] : List Value).toArray) below meth c H [] 0 0 (MQ below (va_Qi (S := Unit) (fun (_ : Int32) (_ : Unit) => True) (fun _ => kPost D cy A (wB cy r σ0)) A) (([.ref (r 12)] : List Value).toArray) s 0 0 A) (F0 m 0 ls []) := by
    refine lv_aload_n hx hb d_X5_peeked_0 rfl (lv_at hl 0 rfl) ?_
    refine va_get (D := D) (ci := 5) (v := .ref (r 63)) (C := "LinkedUnits$Machine") (T := TX5) (N := 19) hx hb hg iwX5 hown hK hP 11 rfl rfl 5 (by decide) (hg _ m_677) (fun _ h9 => h9) rfl d_X5_peeked_1 ?_
    refine lv_aload_n hx hb d_X5_peeked_4 rfl (lv_at hl 0 rfl) ?_
    refine va_get (D := D) (ci := 5) (v := .int (σ0 12 9)) (C := "LinkedUnits$Machine") (T := TX5) (N := 19) hx hb hg iwX5 hown hK hP 11 rfl rfl 9 (by decide) (hg _ m_681) (fun _ h9 => h9) rfl d_X5_peeked_5 ?_
    refine lv_iconst (v := 1) hx hb d_X5_peeked_8 (by decide) ?_
    refine lv_isub hx hb d_X5_peeked_9 ?_
    refine s_call1 (x := ((r 63), .inl (cy 1, 148496, .inl (σ0 63)))) 60 rfl (va_runSN (As := [.ref (r 63), .int ((σ0 12 9) - 1)]) (rest := []) ⟨hx, hb, hml, hown, hg⟩ (c_at_any l D cy H.size (r 63) 148496 (σ0 63) ((σ0 12 9) - 1) (Nat.le_of_ble_eq_true rfl)) ⟨(va_cnB 2 hg (gw_c m_949) rfl rfl rfl (hNW.1 _ nm_1660) (hg _ m_1) (by decide +kernel) ⟨(Nat.le_of_ble_eq_true rfl), (Nat.le_of_ble_eq_true rfl)⟩), hg _ m_948, trivial⟩ (s_pre (ws := [((r 63), .inl (cy 1, 148496, .inl (σ0 63)))]) (s_sub1 60 hP rfl) (s_subD 60 hD rfl) hK hNW) rfl rfl hl.1 rfl (lv_room (Nat.le_of_ble_eq_true rfl)) d_X5_peeked_10 ⟨(Nat.le_of_ble_eq_true rfl), (Nat.le_of_ble_eq_true rfl)⟩) hP hD hS hA (fun r1 u1 H locs hw hP hD hS => ?_)
    have hP : va_P D vwCl (wB cy r σ0) H := hP
    have hD : va_D A (wB cy r σ0) := hD
    refine W.widen (k := 0) (n := 0) (Nat.le_of_ble_eq_true rfl) (Nat.le_of_ble_eq_true rfl) ?_
    exact k_iret (X := Unit) (w1 := fun _ => wB cy r σ0) () hx hb hr d_X5_peeked_13 hlocks hP hK hD hS trivial
  rw [hH] at hgoal
  exact hgoal
set_option maxHeartbeats 4000000 in
set_option maxRecDepth 100000 in
theorem s_X9_useUp (l : Launch) (D : va_G) (cy : Nat → ClassId) (sz : Nat) (w : Nat → Nat) (g : Nat → Nat → Int32) (r : Nat → Nat) (σ0 : St) (i0 : Inv σ0) : Met l y_X9_useUp (Cond.code y_X9_useUp b_X9_useUp 1 none :: GW) ({ frames := 0, cells := 0, slots := 0, locals := 0 } : Room) (va_Pc [.ref (r 11)] (kPreE D cy sz (wB cy r σ0) (gE w g))) ((fun A : Nat → Prop => va_Qv (S := St) (fun (τ : St) => (Inv τ ∧ Keep [(11, 0)] [] σ0 τ)) (fun τ => kPost D cy A (wB cy r τ)) A) (va_A (wB cy r σ0) sz)) 0 0 (va_A (wB cy r σ0) sz) := by
  refine k_ofWE (Qc := fun A => va_Qv (S := St) (fun (τ : St) => (Inv τ ∧ Keep [(11, 0)] [] σ0 τ)) (fun τ => kPost D cy A (wB cy r τ)) A) (by decide) (Nat.le_of_ble_eq_true rfl) ?_
  intro p e s m below meth c A ls hx hb hr hml hown hlocks hin hg hNW hK hP hD hA hS hl hE
  have hl : lv_has ls 1 [(0, .ref (r 11))] := hl
  have hown : s.vm.findClass "LinkedUnits$Tape" = some m.cls := hown
  have kp : Keep [(11, 0)] [] σ0 σ0 := keep_rf
  obtain ⟨H, hH⟩ : ∃ H, H = s.heap := ⟨_, rfl⟩
  rw [← hH] at hP
  have hS : va_S A s.heap H [] := by rw [hH]; exact va_S.rf
  have hgoal : W p l e ({ frames := 0, cells := 0, slots := 0, locals := 0 } : Room) s m (([.ref (r 11)] : List Value).toArray) below meth c H [] 0 0 (MQ below (va_Qv (S := St) (fun (τ : St) => (Inv τ ∧ Keep [(11, 0)] [] σ0 τ)) (fun τ => kPost D cy A (wB cy r τ)) A) (([.ref (r 11)] : List Value).toArray) s 0 0 A) (F0 m 0 ls []) := by
    refine lv_aload_n hx hb d_X9_useUp_0 rfl (lv_at hl 0 rfl) ?_
    refine lv_iconst (v := 0) hx hb d_X9_useUp_1 (by decide) ?_
    refine va_put (D := D) (ci := 9) (v := .int 0) (ty := .int) (C := "LinkedUnits$Tape") (T := TX9) (N := 5) hx hb hg iwX9 tyX9 tyX9_ok nmX9 hown hK hP hD hS 10 rfl rfl 0 (by decide) (hg _ m_646) (fun _ h9 => h9) rfl (by decide +kernel) rfl rfl (Nat.le_of_ble_eq_true rfl) d_X9_useUp_2 (fun H locs hP hD hS => ?_)
    have hP : va_P D vwCl (wB cy r (upC σ0 11 0 0)) H := hP
    have hD : va_D A (wB cy r (upC σ0 11 0 0)) := hD
    have kp : Keep [(11, 0)] [] σ0 (upC σ0 11 0 0) := keep_f kp (by decide)
    have j1 : Inv (upC σ0 11 0 0) := ⟨i0.1, (by show 0 ≤ (0 : Int32).toInt ∧ (0 : Int32).toInt ≤ 4096; have e0 : (0 : Int32).toInt = 0 := (by decide); omega), i0.2.2.1, i0.2.2.2.1, i0.2.2.2.2⟩
    refine W.widen (k := 0) (n := 0) (Nat.le_of_ble_eq_true rfl) (Nat.le_of_ble_eq_true rfl) ?_
    exact k_vret (X := St) (w1 := fun τ => wB cy r τ) (upC σ0 11 0 0) hx hb hr d_X9_useUp_5 hlocks hP hK hD hS ⟨j1, kp⟩
  rw [hH] at hgoal
  exact hgoal
set_option maxHeartbeats 4000000 in
set_option maxRecDepth 100000 in
theorem s_X8_objectAt (l : Launch) (D : va_G) (cy : Nat → ClassId) (sz : Nat) (w : Nat → Nat) (g : Nat → Nat → Int32) (r : Nat → Nat) (σ0 : St) (a1 : Int32) (i0 : Inv σ0) : Met l y_X8_objectAt (Cond.code y_X8_objectAt b_X8_objectAt 3 (some .int) :: GW) ({ frames := 1, cells := 0, slots := 0, locals := 21 } : Room) (va_Pc [.ref (r 5), .int a1] (kPreE D cy sz (wB cy r σ0) (gE w g))) ((fun A : Nat → Prop => va_Qi (S := Unit) (fun (_ : Int32) (_ : Unit) => True) (fun _ => kPost D cy A (wB cy r σ0)) A) (va_A (wB cy r σ0) sz)) 0 0 (va_A (wB cy r σ0) sz) := by
  refine k_ofWE (Qc := fun A => va_Qi (S := Unit) (fun (_ : Int32) (_ : Unit) => True) (fun _ => kPost D cy A (wB cy r σ0)) A) (by decide) (Nat.le_of_ble_eq_true rfl) ?_
  intro p e s m below meth c A ls hx hb hr hml hown hlocks hin hg hNW hK hP hD hA hS hl hE
  have hl : lv_has ls 3 [(0, .ref (r 5)), (1, .int a1)] := hl
  have hown : s.vm.findClass "LinkedUnits$Store" = some m.cls := hown
  have b2 : ∀ (N : Nat) (x1 : Int32) (x2 : Int32) (H : Heap) (locs : List Loc) (ls : Array Slot), upm x2 = N → va_P D vwCl (wB cy r σ0) H → va_D A (wB cy r σ0) → va_S A s.heap H locs → lv_has ls 3 [(0, .ref (r 5)), (1, .int x1), (2, .int x2)] → W p l e ({ frames := 1, cells := 0, slots := 0, locals := 21 } : Room) s m (([.ref (r 5), .int a1] : List Value).toArray) below meth c H locs 0 0 (MQ below (va_Qi (S := Unit) (fun (_ : Int32) (_ : Unit) => True) (fun _ => kPost D cy A (wB cy r σ0)) A) (([.ref (r 5), .int a1] : List Value).toArray) s 0 0 A) (F0 m 2 ls []) := by
    intro M2
    induction M2 using Nat.strongRecOn with
    | _ M2 ih2 =>
      intro x1 x2 H locs ls N2 hP hD hS hl
      refine lv_iload_n hx hb d_X8_objectAt_2 rfl (lv_at hl 2 rfl) ?_
      refine lv_aload_n hx hb d_X8_objectAt_3 rfl (lv_at hl 0 rfl) ?_
      refine va_get (D := D) (ci := 8) (v := .int (σ0 5 13)) (C := "LinkedUnits$Store") (T := TX8) (N := 18) hx hb hg iwX8 hown hK hP 4 rfl rfl 13 (by decide) (hg _ m_249) (fun _ h9 => h9) rfl d_X8_objectAt_4 ?_
      refine lv_icmp_gt (tgt := 34) hx hb d_X8_objectAt_7 (by decide) (fun c_7 => ?_) (fun c_7 => ?_)
      · -- taken at 7
        refine lv_iconst (v := 0) hx hb d_X8_objectAt_34 (by decide) ?_
        refine W.widen (k := 0) (n := 0) (Nat.le_of_ble_eq_true rfl) (Nat.le_of_ble_eq_true rfl) ?_
        exact k_iret (X := Unit) (w1 := fun _ => wB cy r σ0) () hx hb hr d_X8_objectAt_35 hlocks hP hK hD hS trivial
      · -- not taken at 7
        refine lv_iload_n hx hb d_X8_objectAt_10 rfl (lv_at hl 1 rfl) ?_
        refine lv_if_lt (tgt := 34) hx hb d_X8_objectAt_11 (by decide) (fun c_11 => ?_) (fun c_11 => ?_)
        · -- taken at 11
          refine lv_iconst (v := 0) hx hb d_X8_objectAt_34 (by decide) ?_
          refine W.widen (k := 0) (n := 0) (Nat.le_of_ble_eq_true rfl) (Nat.le_of_ble_eq_true rfl) ?_
          exact k_iret (X := Unit) (w1 := fun _ => wB cy r σ0) () hx hb hr d_X8_objectAt_35 hlocks hP hK hD hS trivial
        · -- not taken at 11
          refine lv_iload_n hx hb d_X8_objectAt_14 rfl (lv_at hl 1 rfl) ?_
          refine lv_aload_n hx hb d_X8_objectAt_15 rfl (lv_at hl 0 rfl) ?_
          refine va_get (D := D) (ci := 8) (v := .ref (r 36)) (C := "LinkedUnits$Store") (T := TX8) (N := 18) hx hb hg iwX8 hown hK hP 4 rfl rfl 16 (by decide) (hg _ m_256) (fun _ h9 => h9) rfl d_X8_objectAt_16 ?_
          refine lv_iload_n hx hb d_X8_objectAt_19 rfl (lv_at hl 2 rfl) ?_
          refine s_call1 (x := ((r 36), .inl (cy 1, 101, .inl (σ0 36)))) 35 rfl (va_runSN (As := [.ref (r 36), .int x2]) (rest := [.int x1]) ⟨hx, hb, hml, hown, hg⟩ (c_at_any l D cy H.size (r 36) 101 (σ0 36) x2 (Nat.le_of_ble_eq_true rfl)) ⟨(va_cnB 2 hg (gw_c m_949) rfl rfl rfl (hNW.1 _ nm_1125) (hg _ m_1) (by decide +kernel) ⟨(Nat.le_of_ble_eq_true rfl), (Nat.le_of_ble_eq_true rfl)⟩), hg _ m_948, trivial⟩ (s_pre (ws := [((r 36), .inl (cy 1, 101, .inl (σ0 36)))]) (s_sub1 35 hP rfl) (s_subD 35 hD rfl) hK hNW) rfl rfl hl.1 rfl (lv_room (Nat.le_of_ble_eq_true rfl)) d_X8_objectAt_20 ⟨(Nat.le_of_ble_eq_true rfl), (Nat.le_of_ble_eq_true rfl)⟩) hP hD hS hA (fun r1 u1 H locs hw hP hD hS => ?_)
          have hP : va_P D vwCl (wB cy r σ0) H := hP
          have hD : va_D A (wB cy r σ0) := hD
          refine lv_icmp_ge (tgt := 28) hx hb d_X8_objectAt_23 (by decide) (fun c_23 => ?_) (fun c_23 => ?_)
          · -- taken at 23
            refine lv_iinc (v := (x2 + 1)) (lv' := [(2, .int (x2 + 1)), (0, .ref (r 5)), (1, .int x1)]) hx hb d_X8_objectAt_28 hl (k := 2) rfl rfl (by decide) rfl (fun ls hl => ?_)
            refine lv_goto (tgt := 2) hx hb d_X8_objectAt_31 (by decide) ?_
            exact ih2 _ (by show upm (x2 + 1) < _; have hN := N2; unfold upm at hN ⊢; have e0 := s_rng x2; have e1 : (1 : Int32).toInt = 1 := (by decide); obtain ⟨k2, e2⟩ := s_add x2 (1 : Int32); have e3 := s_rng (x2 + 1); have e4 := s_rng (σ0 5 13); have e5 := i0.2.2.2.2; have e6 := s_nlt c_7; omega) x1 (x2 + 1) _ _ _ rfl hP hD hS (lv_sub hl [1, 2, 0] rfl)
          · -- not taken at 23
            refine lv_iload_n hx hb d_X8_objectAt_26 rfl (lv_at hl 2 rfl) ?_
            refine W.widen (k := 0) (n := 0) (Nat.le_of_ble_eq_true rfl) (Nat.le_of_ble_eq_true rfl) ?_
            exact k_iret (X := Unit) (w1 := fun _ => wB cy r σ0) () hx hb hr d_X8_objectAt_27 hlocks hP hK hD hS trivial
  obtain ⟨H, hH⟩ : ∃ H, H = s.heap := ⟨_, rfl⟩
  rw [← hH] at hP
  have hS : va_S A s.heap H [] := by rw [hH]; exact va_S.rf
  have hgoal : W p l e ({ frames := 1, cells := 0, slots := 0, locals := 21 } : Room) s m (([.ref (r 5), .int a1] : List Value).toArray) below meth c H [] 0 0 (MQ below (va_Qi (S := Unit) (fun (_ : Int32) (_ : Unit) => True) (fun _ => kPost D cy A (wB cy r σ0)) A) (([.ref (r 5), .int a1] : List Value).toArray) s 0 0 A) (F0 m 0 ls []) := by
    refine lv_iconst (v := 1) hx hb d_X8_objectAt_0 (by decide) ?_
    refine lv_istore_n (lv' := [(2, .int 1), (0, .ref (r 5)), (1, .int a1)]) hx hb d_X8_objectAt_1 rfl hl (by decide) rfl (fun ls hl => ?_)
    exact b2 _ a1 (1 : Int32) _ _ _ rfl hP hD hS (lv_sub hl [1, 2, 0] rfl)
  rw [hH] at hgoal
  exact hgoal
set_option maxHeartbeats 4000000 in
set_option maxRecDepth 100000 in
theorem s_X9_byteAt (l : Launch) (D : va_G) (cy : Nat → ClassId) (sz : Nat) (w : Nat → Nat) (g : Nat → Nat → Int32) (r : Nat → Nat) (σ0 : St) (a1 : Int32) (i0 : Inv σ0) : Met l y_X9_byteAt (Cond.code y_X9_byteAt b_X9_byteAt 2 (some .int) :: GW) ({ frames := 0, cells := 0, slots := 0, locals := 0 } : Room) (va_Pc [.ref (r 11), .int a1] (kPreE D cy sz (wB cy r σ0) (gE w g))) ((fun A : Nat → Prop => va_Qi (S := Unit) (fun (_ : Int32) (_ : Unit) => True) (fun _ => kPost D cy A (wB cy r σ0)) A) (va_A (wB cy r σ0) sz)) 0 0 (va_A (wB cy r σ0) sz) := by
  refine k_ofWE (Qc := fun A => va_Qi (S := Unit) (fun (_ : Int32) (_ : Unit) => True) (fun _ => kPost D cy A (wB cy r σ0)) A) (by decide) (Nat.le_of_ble_eq_true rfl) ?_
  intro p e s m below meth c A ls hx hb hr hml hown hlocks hin hg hNW hK hP hD hA hS hl hE
  have hl : lv_has ls 2 [(0, .ref (r 11)), (1, .int a1)] := hl
  have hown : s.vm.findClass "LinkedUnits$Tape" = some m.cls := hown
  obtain ⟨H, hH⟩ : ∃ H, H = s.heap := ⟨_, rfl⟩
  rw [← hH] at hP
  have hS : va_S A s.heap H [] := by rw [hH]; exact va_S.rf
  have hgoal : W p l e ({ frames := 0, cells := 0, slots := 0, locals := 0 } : Room) s m (([.ref (r 11), .int a1] : List Value).toArray) below meth c H [] 0 0 (MQ below (va_Qi (S := Unit) (fun (_ : Int32) (_ : Unit) => True) (fun _ => kPost D cy A (wB cy r σ0)) A) (([.ref (r 11), .int a1] : List Value).toArray) s 0 0 A) (F0 m 0 ls []) := by
    refine lv_iload_n hx hb d_X9_byteAt_0 rfl (lv_at hl 1 rfl) ?_
    refine lv_if_lt (tgt := 34) hx hb d_X9_byteAt_1 (by decide) (fun c_1 => ?_) (fun c_1 => ?_)
    · -- taken at 1
      refine lv_iconst (v := (-1)) hx hb d_X9_byteAt_34 (by decide) ?_
      refine W.widen (k := 0) (n := 0) (Nat.le_of_ble_eq_true rfl) (Nat.le_of_ble_eq_true rfl) ?_
      exact k_iret (X := Unit) (w1 := fun _ => wB cy r σ0) () hx hb hr d_X9_byteAt_35 hlocks hP hK hD hS trivial
    · -- not taken at 1
      refine lv_iload_n hx hb d_X9_byteAt_4 rfl (lv_at hl 1 rfl) ?_
      refine lv_aload_n hx hb d_X9_byteAt_5 rfl (lv_at hl 0 rfl) ?_
      refine va_get (D := D) (ci := 9) (v := .int (σ0 11 2)) (C := "LinkedUnits$Tape") (T := TX9) (N := 5) hx hb hg iwX9 hown hK hP 10 rfl rfl 2 (by decide) (hg _ m_648) (fun _ h9 => h9) rfl d_X9_byteAt_6 ?_
      refine lv_icmp_ge (tgt := 34) hx hb d_X9_byteAt_9 (by decide) (fun c_9 => ?_) (fun c_9 => ?_)
      · -- taken at 9
        refine lv_iconst (v := (-1)) hx hb d_X9_byteAt_34 (by decide) ?_
        refine W.widen (k := 0) (n := 0) (Nat.le_of_ble_eq_true rfl) (Nat.le_of_ble_eq_true rfl) ?_
        exact k_iret (X := Unit) (w1 := fun _ => wB cy r σ0) () hx hb hr d_X9_byteAt_35 hlocks hP hK hD hS trivial
      · -- not taken at 9
        refine lv_iload_n hx hb d_X9_byteAt_12 rfl (lv_at hl 1 rfl) ?_
        refine lv_aload_n hx hb d_X9_byteAt_13 rfl (lv_at hl 0 rfl) ?_
        refine va_get (D := D) (ci := 9) (v := .ref (r 61)) (C := "LinkedUnits$Tape") (T := TX9) (N := 5) hx hb hg iwX9 hown hK hP 10 rfl rfl 4 (by decide) (hg _ m_651) (fun _ h9 => h9) rfl d_X9_byteAt_14 ?_
        refine va_alen hx hb hK hP 58 0 rfl rfl (v := 4096) (by show Int32.ofNat 4096 = 4096; decide) d_X9_byteAt_17 ?_
        refine lv_icmp_ge (tgt := 34) hx hb d_X9_byteAt_18 (by decide) (fun c_18 => ?_) (fun c_18 => ?_)
        · -- taken at 18
          refine lv_iconst (v := (-1)) hx hb d_X9_byteAt_34 (by decide) ?_
          refine W.widen (k := 0) (n := 0) (Nat.le_of_ble_eq_true rfl) (Nat.le_of_ble_eq_true rfl) ?_
          exact k_iret (X := Unit) (w1 := fun _ => wB cy r σ0) () hx hb hr d_X9_byteAt_35 hlocks hP hK hD hS trivial
        · -- not taken at 18
          refine lv_aload_n hx hb d_X9_byteAt_21 rfl (lv_at hl 0 rfl) ?_
          refine va_get (D := D) (ci := 9) (v := .ref (r 61)) (C := "LinkedUnits$Tape") (T := TX9) (N := 5) hx hb hg iwX9 hown hK hP 10 rfl rfl 4 (by decide) (hg _ m_651) (fun _ h9 => h9) rfl d_X9_byteAt_22 ?_
          refine lv_iload_n hx hb d_X9_byteAt_25 rfl (lv_at hl 1 rfl) ?_
          refine va_bald hx hb hK hP 58 0 rfl rfl (k_in (n := 4096) (by decide) c_1 c_18) d_X9_byteAt_26 ?_
          refine k_any (fun v1 => ?_)
          refine lv_sipush (v := 255) hx hb d_X9_byteAt_27 (by decide) ?_
          refine lv_iand hx hb d_X9_byteAt_30 ?_
          refine lv_goto (tgt := 35) hx hb d_X9_byteAt_31 (by decide) ?_
          refine W.widen (k := 0) (n := 0) (Nat.le_of_ble_eq_true rfl) (Nat.le_of_ble_eq_true rfl) ?_
          exact k_iret (X := Unit) (w1 := fun _ => wB cy r σ0) () hx hb hr d_X9_byteAt_35 hlocks hP hK hD hS trivial
  rw [hH] at hgoal
  exact hgoal
set_option maxHeartbeats 4000000 in
set_option maxRecDepth 100000 in
theorem s_X10_bad (l : Launch) (D : va_G) (cy : Nat → ClassId) (sz : Nat) (w : Nat → Nat) (g : Nat → Nat → Int32) (r : Nat → Nat) (σ0 : St) (a1 : Int32) (i0 : Inv σ0) : Met l y_X10_bad (Cond.code y_X10_bad b_X10_bad 2 (some .boolean) :: GW) ({ frames := 1, cells := 0, slots := 0, locals := 23 } : Room) (va_Pc [.ref (r 2), .int a1] (kPreE D cy sz (wB cy r σ0) (gE w g))) ((fun A : Nat → Prop => va_Qi (S := St) (fun (v9 : Int32) (τ : St) => (v9 = 0 ∨ v9 = 1) ∧ (Inv τ ∧ Keep [(2, 2), (2, 4)] [13, 14, 15, 16] σ0 τ)) (fun τ => kPost D cy A (wB cy r τ)) A) (va_A (wB cy r σ0) sz)) 0 0 (va_A (wB cy r σ0) sz) := by
  refine k_ofWE (Qc := fun A => va_Qi (S := St) (fun (v9 : Int32) (τ : St) => (v9 = 0 ∨ v9 = 1) ∧ (Inv τ ∧ Keep [(2, 2), (2, 4)] [13, 14, 15, 16] σ0 τ)) (fun τ => kPost D cy A (wB cy r τ)) A) (by decide) (Nat.le_of_ble_eq_true rfl) ?_
  intro p e s m below meth c A ls hx hb hr hml hown hlocks hin hg hNW hK hP hD hA hS hl hE
  have hl : lv_has ls 2 [(0, .ref (r 2)), (1, .int a1)] := hl
  have hown : s.vm.findClass "LinkedUnits$Tokens" = some m.cls := hown
  have kp : Keep [(2, 2), (2, 4)] [13, 14, 15, 16] σ0 σ0 := keep_rf
  obtain ⟨H, hH⟩ : ∃ H, H = s.heap := ⟨_, rfl⟩
  rw [← hH] at hP
  have hS : va_S A s.heap H [] := by rw [hH]; exact va_S.rf
  have hgoal : W p l e ({ frames := 1, cells := 0, slots := 0, locals := 23 } : Room) s m (([.ref (r 2), .int a1] : List Value).toArray) below meth c H [] 0 0 (MQ below (va_Qi (S := St) (fun (v9 : Int32) (τ : St) => (v9 = 0 ∨ v9 = 1) ∧ (Inv τ ∧ Keep [(2, 2), (2, 4)] [13, 14, 15, 16] σ0 τ)) (fun τ => kPost D cy A (wB cy r τ)) A) (([.ref (r 2), .int a1] : List Value).toArray) s 0 0 A) (F0 m 0 ls []) := by
    refine lv_aload_n hx hb d_X10_bad_0 rfl (lv_at hl 0 rfl) ?_
    refine lv_iload_n hx hb d_X10_bad_1 rfl (lv_at hl 1 rfl) ?_
    refine va_put (D := D) (ci := 10) (v := .int a1) (ty := .int) (C := "LinkedUnits$Tokens") (T := TX10) (N := 10) hx hb hg iwX10 tyX10 tyX10_ok nmX10 hown hK hP hD hS 1 rfl rfl 2 (by decide) (hg _ m_44) (fun _ h9 => h9) rfl (by decide +kernel) rfl rfl (Nat.le_of_ble_eq_true rfl) d_X10_bad_2 (fun H locs hP hD hS => ?_)
    have hP : va_P D vwCl (wB cy r (upC σ0 2 2 a1)) H := hP
    have hD : va_D A (wB cy r (upC σ0 2 2 a1)) := hD
    have kp : Keep [(2, 2), (2, 4)] [13, 14, 15, 16] σ0 (upC σ0 2 2 a1) := keep_f kp (by decide)
    refine lv_aload_n hx hb d_X10_bad_5 rfl (lv_at hl 0 rfl) ?_
    refine lv_iconst (v := 1) hx hb d_X10_bad_6 (by decide) ?_
    refine lv_iconst (v := 0) hx hb d_X10_bad_7 (by decide) ?_
    refine lv_iconst (v := 0) hx hb d_X10_bad_8 (by decide) ?_
    refine s_calli (X := St) (w1 := fun τ => wB cy r τ) (va_runV (As := [.int 1, .int 0, .int 0]) (rest := []) ⟨hx, hb, hml, hown, hg⟩ (s_X10_add l D cy H.size w g r (upC σ0 2 2 a1) (1 : Int32) (0 : Int32) (0 : Int32) i0 ) (cwV 3 hg (gw_V m_821 m_823 ms_X10_add m_2 m_824) rfl rfl rfl (by decide +kernel) ⟨(Nat.le_of_ble_eq_true rfl), (Nat.le_of_ble_eq_true rfl)⟩) (s_preVE (As := [.int 1, .int 0, .int 0]) (gE_ok w g) hS hA hE hP hD hK hNW 1 rfl rfl) rfl rfl hl.1 rfl (lv_room (Nat.le_of_ble_eq_true rfl)) d_X10_bad_9 ⟨(Nat.le_of_ble_eq_true rfl), (Nat.le_of_ble_eq_true rfl)⟩) hP hD hS hA (fun r1 σ1 H locs hw hP hD hS => ?_)
    have hP : va_P D vwCl (wB cy r σ1) H := hP
    have hD : va_D A (wB cy r σ1) := hD
    have ik1 : Keep [(2, 2), (2, 4)] [13, 14, 15, 16] (upC σ0 2 2 a1) σ1 := hw.2.2
    have kp : Keep [(2, 2), (2, 4)] [13, 14, 15, 16] σ0 σ1 := keep_c kp ik1 (by decide) (by decide)
    have i1 : Inv σ1 := hw.2.1
    have hz1 : r1 = 0 ∨ r1 = 1 := hw.1
    refine lv_pop hx hb d_X10_bad_12 rfl ?_
    refine lv_iconst (v := 0) hx hb d_X10_bad_13 (by decide) ?_
    refine W.widen (k := 0) (n := 0) (Nat.le_of_ble_eq_true rfl) (Nat.le_of_ble_eq_true rfl) ?_
    exact k_zret (X := St) (w1 := fun τ => wB cy r τ) σ1 hx hb hr (k_nz (Or.inl rfl)) d_X10_bad_14 hlocks hP hK hD hS ⟨(Or.inl rfl), ⟨i1, kp⟩⟩
  rw [hH] at hgoal
  exact hgoal
set_option maxHeartbeats 4000000 in
set_option maxRecDepth 100000 in
theorem s_X10_skipComment (l : Launch) (D : va_G) (cy : Nat → ClassId) (sz : Nat) (w : Nat → Nat) (g : Nat → Nat → Int32) (r : Nat → Nat) (σ0 : St) (i0 : Inv σ0) : Met l y_X10_skipComment (Cond.code y_X10_skipComment b_X10_skipComment 3 (some .boolean) :: GW) ({ frames := 2, cells := 0, slots := 0, locals := 44 } : Room) (va_Pc [.ref (r 2)] (kPreE D cy sz (wB cy r σ0) (gE w g))) ((fun A : Nat → Prop => va_Qi (S := St) (fun (v9 : Int32) (τ : St) => (v9 = 0 ∨ v9 = 1) ∧ (Inv τ ∧ Keep [(2, 2), (2, 3), (2, 4)] [13, 14, 15, 16] σ0 τ)) (fun τ => kPost D cy A (wB cy r τ)) A) (va_A (wB cy r σ0) sz)) 0 0 (va_A (wB cy r σ0) sz) := by
  refine k_ofWE (Qc := fun A => va_Qi (S := St) (fun (v9 : Int32) (τ : St) => (v9 = 0 ∨ v9 = 1) ∧ (Inv τ ∧ Keep [(2, 2), (2, 3), (2, 4)] [13, 14, 15, 16] σ0 τ)) (fun τ => kPost D cy A (wB cy r τ)) A) (by decide) (Nat.le_of_ble_eq_true rfl) ?_
  intro p e s m below meth c A ls hx hb hr hml hown hlocks hin hg hNW hK hP hD hA hS hl hE
  have hl : lv_has ls 3 [(0, .ref (r 2))] := hl
  have hown : s.vm.findClass "LinkedUnits$Tokens" = some m.cls := hown
  have b7 : ∀ (N : Nat) (σ : St) (x1 : Int32) (H : Heap) (locs : List Loc) (ls : Array Slot), upm x1 = N → Inv σ → Keep [(2, 2), (2, 3), (2, 4)] [13, 14, 15, 16] σ0 σ → va_P D vwCl (wB cy r σ) H → va_D A (wB cy r σ) → va_S A s.heap H locs → lv_has ls 3 [(0, .ref (r 2)), (1, .int x1)] → W p l e ({ frames := 2, cells := 0, slots := 0, locals := 44 } : Room) s m (([.ref (r 2)] : List Value).toArray) below meth c H locs 0 0 (MQ below (va_Qi (S := St) (fun (v9 : Int32) (τ : St) => (v9 = 0 ∨ v9 = 1) ∧ (Inv τ ∧ Keep [(2, 2), (2, 3), (2, 4)] [13, 14, 15, 16] σ0 τ)) (fun τ => kPost D cy A (wB cy r τ)) A) (([.ref (r 2)] : List Value).toArray) s 0 0 A) (F0 m 7 ls []) := by
    intro M7
    induction M7 using Nat.strongRecOn with
    | _ M7 ih7 =>
      intro σ x1 H locs ls N7 inv kp hP hD hS hl
      refine lv_iload_n hx hb d_X10_skipComment_7 rfl (lv_at hl 1 rfl) ?_
      refine lv_aload_n hx hb d_X10_skipComment_8 rfl (lv_at hl 0 rfl) ?_
      refine va_get (D := D) (ci := 10) (v := .int (σ 2 1)) (C := "LinkedUnits$Tokens") (T := TX10) (N := 10) hx hb hg iwX10 hown hK hP 1 rfl rfl 1 (by decide) (hg _ m_43) (fun _ h9 => h9) rfl d_X10_skipComment_9 ?_
      refine lv_icmp_ge (tgt := 87) hx hb d_X10_skipComment_12 (by decide) (fun c_12 => ?_) (fun c_12 => ?_)
      · -- taken at 12
        refine lv_aload_n hx hb d_X10_skipComment_87 rfl (lv_at hl 0 rfl) ?_
        refine lv_aload_n hx hb d_X10_skipComment_88 rfl (lv_at hl 0 rfl) ?_
        refine va_get (D := D) (ci := 10) (v := .int (σ 2 2)) (C := "LinkedUnits$Tokens") (T := TX10) (N := 10) hx hb hg iwX10 hown hK hP 1 rfl rfl 2 (by decide) (hg _ m_44) (fun _ h9 => h9) rfl d_X10_skipComment_89 ?_
        refine s_calli (X := St) (w1 := fun τ => wB cy r τ) (va_runV (As := [.int (σ 2 2)]) (rest := []) ⟨hx, hb, hml, hown, hg⟩ (s_X10_bad l D cy H.size w g r σ (σ 2 2) inv ) (cwV 1 hg (gw_V m_817 m_819 ms_X10_bad m_2 m_820) rfl rfl rfl (by decide +kernel) ⟨(Nat.le_of_ble_eq_true rfl), (Nat.le_of_ble_eq_true rfl)⟩) (s_preVE (As := [.int (σ 2 2)]) (gE_ok w g) hS hA hE hP hD hK hNW 1 rfl rfl) rfl rfl hl.1 rfl (lv_room (Nat.le_of_ble_eq_true rfl)) d_X10_skipComment_92 ⟨(Nat.le_of_ble_eq_true rfl), (Nat.le_of_ble_eq_true rfl)⟩) hP hD hS hA (fun r1 σ1 H locs hw hP hD hS => ?_)
        have hP : va_P D vwCl (wB cy r σ1) H := hP
        have hD : va_D A (wB cy r σ1) := hD
        have ik1 : Keep [(2, 2), (2, 4)] [13, 14, 15, 16] σ σ1 := hw.2.2
        have kp : Keep [(2, 2), (2, 3), (2, 4)] [13, 14, 15, 16] σ0 σ1 := keep_c kp ik1 (by decide) (by decide)
        have i1 : Inv σ1 := hw.2.1
        have hz1 : r1 = 0 ∨ r1 = 1 := hw.1
        refine W.widen (k := 0) (n := 0) (Nat.le_of_ble_eq_true rfl) (Nat.le_of_ble_eq_true rfl) ?_
        exact k_zret (X := St) (w1 := fun τ => wB cy r τ) σ1 hx hb hr (k_nz hz1) d_X10_skipComment_95 hlocks hP hK hD hS ⟨hz1, ⟨i1, kp⟩⟩
      · -- not taken at 12
        refine lv_aload_n hx hb d_X10_skipComment_15 rfl (lv_at hl 0 rfl) ?_
        refine lv_iload_n hx hb d_X10_skipComment_16 rfl (lv_at hl 1 rfl) ?_
        refine s_calli (X := Unit) (w1 := fun _ => wB cy r σ) (va_runV (As := [.int x1]) (rest := []) ⟨hx, hb, hml, hown, hg⟩ (s_X10_byteAt l D cy H.size w g r σ x1 inv ) (cwV 1 hg (gw_V m_806 m_808 ms_X10_byteAt m_2 m_809) rfl rfl rfl (by decide +kernel) ⟨(Nat.le_of_ble_eq_true rfl), (Nat.le_of_ble_eq_true rfl)⟩) (s_preVE (As := [.int x1]) (gE_ok w g) hS hA hE hP hD hK hNW 1 rfl rfl) rfl rfl hl.1 rfl (lv_room (Nat.le_of_ble_eq_true rfl)) d_X10_skipComment_17 ⟨(Nat.le_of_ble_eq_true rfl), (Nat.le_of_ble_eq_true rfl)⟩) hP hD hS hA (fun r2 u2 H locs hw hP hD hS => ?_)
        have hP : va_P D vwCl (wB cy r σ) H := hP
        have hD : va_D A (wB cy r σ) := hD
        refine lv_istore_n (lv' := [(2, .int r2), (0, .ref (r 2)), (1, .int x1)]) hx hb d_X10_skipComment_20 rfl hl (by decide) rfl (fun ls hl => ?_)
        refine lv_iload_n hx hb d_X10_skipComment_21 rfl (lv_at hl 0 rfl) ?_
        refine s_call0 (va_runS (As := [.int r2]) (rest := []) ⟨hx, hb, hml, hown, hg⟩ (s_X10_mayOccur l D cy H.size r2 ) (cwS 1 hg (gw_S m_814 m_815 m_2 m_816) rfl rfl rfl (by decide +kernel) ⟨(Nat.le_of_ble_eq_true rfl), (Nat.le_of_ble_eq_true rfl)⟩) (s_pre (ws := []) (A := A) (fun k q h => by simp at h) ⟨fun i j p q h => by simp at h, fun k q h => by simp at h⟩ hK hNW) rfl rfl hl.1 rfl (lv_room (Nat.le_of_ble_eq_true rfl)) d_X10_skipComment_22 ⟨(Nat.le_of_ble_eq_true rfl), (Nat.le_of_ble_eq_true rfl)⟩) hP hD hS hA (fun r3 u3 H locs hw hP hD hS => ?_)
        have hP : va_P D vwCl (wB cy r σ) H := hP
        have hD : va_D A (wB cy r σ) := hD
        have hz3 : r3 = 0 ∨ r3 = 1 := hw.1
        refine lv_if_ne (tgt := 34) hx hb d_X10_skipComment_25 (by decide) (fun c_25 => ?_) (fun c_25 => ?_)
        · -- taken at 25
          refine lv_aload_n hx hb d_X10_skipComment_34 rfl (lv_at hl 1 rfl) ?_
          refine lv_dup hx hb d_X10_skipComment_35 rfl ?_
          refine va_get (D := D) (ci := 10) (v := .int (σ 2 3)) (C := "LinkedUnits$Tokens") (T := TX10) (N := 10) hx hb hg iwX10 hown hK hP 1 rfl rfl 3 (by decide) (hg _ m_45) (fun _ h9 => h9) rfl d_X10_skipComment_36 ?_
          refine lv_iload_n hx hb d_X10_skipComment_39 rfl (lv_at hl 0 rfl) ?_
          refine lv_bipush (v := 10) hx hb d_X10_skipComment_40 (by decide) ?_
          refine lv_icmp_ne (tgt := 49) hx hb d_X10_skipComment_42 (by decide) (fun c_42 => ?_) (fun c_42 => ?_)
          · -- taken at 42
            refine lv_iconst (v := 0) hx hb d_X10_skipComment_49 (by decide) ?_
            refine lv_iadd hx hb d_X10_skipComment_50 ?_
            refine va_put (D := D) (ci := 10) (v := .int ((σ 2 3) + 0)) (ty := .int) (C := "LinkedUnits$Tokens") (T := TX10) (N := 10) hx hb hg iwX10 tyX10 tyX10_ok nmX10 hown hK hP hD hS 1 rfl rfl 3 (by decide) (hg _ m_45) (fun _ h9 => h9) rfl (by decide +kernel) rfl rfl (Nat.le_of_ble_eq_true rfl) d_X10_skipComment_51 (fun H locs hP hD hS => ?_)
            have hP : va_P D vwCl (wB cy r (upC σ 2 3 ((σ 2 3) + 0))) H := hP
            have hD : va_D A (wB cy r (upC σ 2 3 ((σ 2 3) + 0))) := hD
            have kp : Keep [(2, 2), (2, 3), (2, 4)] [13, 14, 15, 16] σ0 (upC σ 2 3 ((σ 2 3) + 0)) := keep_f kp (by decide)
            refine lv_iload_n hx hb d_X10_skipComment_54 rfl (lv_at hl 0 rfl) ?_
            refine lv_bipush (v := 42) hx hb d_X10_skipComment_55 (by decide) ?_
            refine lv_icmp_ne (tgt := 81) hx hb d_X10_skipComment_57 (by decide) (fun c_57 => ?_) (fun c_57 => ?_)
            · -- taken at 57
              refine lv_iinc (v := (x1 + 1)) (lv' := [(1, .int (x1 + 1)), (2, .int r2), (0, .ref (r 2))]) hx hb d_X10_skipComment_81 hl (k := 2) rfl rfl (by decide) rfl (fun ls hl => ?_)
              refine lv_goto (tgt := 7) hx hb d_X10_skipComment_84 (by decide) ?_
              exact ih7 _ (Nat.lt_of_lt_of_eq (upm_lt c_12) N7) (upC σ 2 3 ((σ 2 3) + 0)) (x1 + 1) _ _ _ rfl inv kp hP hD hS (lv_sub hl [2, 0] rfl)
            · -- not taken at 57
              refine lv_aload_n hx hb d_X10_skipComment_60 rfl (lv_at hl 1 rfl) ?_
              refine lv_iload_n hx hb d_X10_skipComment_61 rfl (lv_at hl 2 rfl) ?_
              refine lv_iconst (v := 1) hx hb d_X10_skipComment_62 (by decide) ?_
              refine lv_iadd hx hb d_X10_skipComment_63 ?_
              refine s_calli (X := Unit) (w1 := fun _ => wB cy r (upC σ 2 3 ((σ 2 3) + 0))) (va_runV (As := [.int (x1 + 1)]) (rest := []) ⟨hx, hb, hml, hown, hg⟩ (s_X10_byteAt l D cy H.size w g r (upC σ 2 3 ((σ 2 3) + 0)) (x1 + 1) inv ) (cwV 1 hg (gw_V m_806 m_808 ms_X10_byteAt m_2 m_809) rfl rfl rfl (by decide +kernel) ⟨(Nat.le_of_ble_eq_true rfl), (Nat.le_of_ble_eq_true rfl)⟩) (s_preVE (As := [.int (x1 + 1)]) (gE_ok w g) hS hA hE hP hD hK hNW 1 rfl rfl) rfl rfl hl.1 rfl (lv_room (Nat.le_of_ble_eq_true rfl)) d_X10_skipComment_64 ⟨(Nat.le_of_ble_eq_true rfl), (Nat.le_of_ble_eq_true rfl)⟩) hP hD hS hA (fun r4 u4 H locs hw hP hD hS => ?_)
              have hP : va_P D vwCl (wB cy r (upC σ 2 3 ((σ 2 3) + 0))) H := hP
              have hD : va_D A (wB cy r (upC σ 2 3 ((σ 2 3) + 0))) := hD
              refine lv_bipush (v := 47) hx hb d_X10_skipComment_67 (by decide) ?_
              refine lv_icmp_ne (tgt := 81) hx hb d_X10_skipComment_69 (by decide) (fun c_69 => ?_) (fun c_69 => ?_)
              · -- taken at 69
                refine lv_iinc (v := (x1 + 1)) (lv' := [(1, .int (x1 + 1)), (2, .int r2), (0, .ref (r 2))]) hx hb d_X10_skipComment_81 hl (k := 2) rfl rfl (by decide) rfl (fun ls hl => ?_)
                refine lv_goto (tgt := 7) hx hb d_X10_skipComment_84 (by decide) ?_
                exact ih7 _ (Nat.lt_of_lt_of_eq (upm_lt c_12) N7) (upC σ 2 3 ((σ 2 3) + 0)) (x1 + 1) _ _ _ rfl inv kp hP hD hS (lv_sub hl [2, 0] rfl)
              · -- not taken at 69
                refine lv_aload_n hx hb d_X10_skipComment_72 rfl (lv_at hl 1 rfl) ?_
                refine lv_iload_n hx hb d_X10_skipComment_73 rfl (lv_at hl 2 rfl) ?_
                refine lv_iconst (v := 2) hx hb d_X10_skipComment_74 (by decide) ?_
                refine lv_iadd hx hb d_X10_skipComment_75 ?_
                refine va_put (D := D) (ci := 10) (v := .int (x1 + 2)) (ty := .int) (C := "LinkedUnits$Tokens") (T := TX10) (N := 10) hx hb hg iwX10 tyX10 tyX10_ok nmX10 hown hK hP hD hS 1 rfl rfl 2 (by decide) (hg _ m_44) (fun _ h9 => h9) rfl (by decide +kernel) rfl rfl (Nat.le_of_ble_eq_true rfl) d_X10_skipComment_76 (fun H locs hP hD hS => ?_)
                have hP : va_P D vwCl (wB cy r (upC (upC σ 2 3 ((σ 2 3) + 0)) 2 2 (x1 + 2))) H := hP
                have hD : va_D A (wB cy r (upC (upC σ 2 3 ((σ 2 3) + 0)) 2 2 (x1 + 2))) := hD
                have kp : Keep [(2, 2), (2, 3), (2, 4)] [13, 14, 15, 16] σ0 (upC (upC σ 2 3 ((σ 2 3) + 0)) 2 2 (x1 + 2)) := keep_f kp (by decide)
                refine lv_iconst (v := 1) hx hb d_X10_skipComment_79 (by decide) ?_
                refine W.widen (k := 0) (n := 0) (Nat.le_of_ble_eq_true rfl) (Nat.le_of_ble_eq_true rfl) ?_
                exact k_zret (X := St) (w1 := fun τ => wB cy r τ) (upC (upC σ 2 3 ((σ 2 3) + 0)) 2 2 (x1 + 2)) hx hb hr (k_nz (Or.inr rfl)) d_X10_skipComment_80 hlocks hP hK hD hS ⟨(Or.inr rfl), ⟨inv, kp⟩⟩
          · -- not taken at 42
            refine lv_iconst (v := 1) hx hb d_X10_skipComment_45 (by decide) ?_
            refine lv_goto (tgt := 50) hx hb d_X10_skipComment_46 (by decide) ?_
            refine lv_iadd hx hb d_X10_skipComment_50 ?_
            refine va_put (D := D) (ci := 10) (v := .int ((σ 2 3) + 1)) (ty := .int) (C := "LinkedUnits$Tokens") (T := TX10) (N := 10) hx hb hg iwX10 tyX10 tyX10_ok nmX10 hown hK hP hD hS 1 rfl rfl 3 (by decide) (hg _ m_45) (fun _ h9 => h9) rfl (by decide +kernel) rfl rfl (Nat.le_of_ble_eq_true rfl) d_X10_skipComment_51 (fun H locs hP hD hS => ?_)
            have hP : va_P D vwCl (wB cy r (upC σ 2 3 ((σ 2 3) + 1))) H := hP
            have hD : va_D A (wB cy r (upC σ 2 3 ((σ 2 3) + 1))) := hD
            have kp : Keep [(2, 2), (2, 3), (2, 4)] [13, 14, 15, 16] σ0 (upC σ 2 3 ((σ 2 3) + 1)) := keep_f kp (by decide)
            refine lv_iload_n hx hb d_X10_skipComment_54 rfl (lv_at hl 0 rfl) ?_
            refine lv_bipush (v := 42) hx hb d_X10_skipComment_55 (by decide) ?_
            refine lv_icmp_ne (tgt := 81) hx hb d_X10_skipComment_57 (by decide) (fun c_57 => ?_) (fun c_57 => ?_)
            · -- taken at 57
              refine lv_iinc (v := (x1 + 1)) (lv' := [(1, .int (x1 + 1)), (2, .int r2), (0, .ref (r 2))]) hx hb d_X10_skipComment_81 hl (k := 2) rfl rfl (by decide) rfl (fun ls hl => ?_)
              refine lv_goto (tgt := 7) hx hb d_X10_skipComment_84 (by decide) ?_
              exact ih7 _ (Nat.lt_of_lt_of_eq (upm_lt c_12) N7) (upC σ 2 3 ((σ 2 3) + 1)) (x1 + 1) _ _ _ rfl inv kp hP hD hS (lv_sub hl [2, 0] rfl)
            · -- not taken at 57
              refine lv_aload_n hx hb d_X10_skipComment_60 rfl (lv_at hl 1 rfl) ?_
              refine lv_iload_n hx hb d_X10_skipComment_61 rfl (lv_at hl 2 rfl) ?_
              refine lv_iconst (v := 1) hx hb d_X10_skipComment_62 (by decide) ?_
              refine lv_iadd hx hb d_X10_skipComment_63 ?_
              refine s_calli (X := Unit) (w1 := fun _ => wB cy r (upC σ 2 3 ((σ 2 3) + 1))) (va_runV (As := [.int (x1 + 1)]) (rest := []) ⟨hx, hb, hml, hown, hg⟩ (s_X10_byteAt l D cy H.size w g r (upC σ 2 3 ((σ 2 3) + 1)) (x1 + 1) inv ) (cwV 1 hg (gw_V m_806 m_808 ms_X10_byteAt m_2 m_809) rfl rfl rfl (by decide +kernel) ⟨(Nat.le_of_ble_eq_true rfl), (Nat.le_of_ble_eq_true rfl)⟩) (s_preVE (As := [.int (x1 + 1)]) (gE_ok w g) hS hA hE hP hD hK hNW 1 rfl rfl) rfl rfl hl.1 rfl (lv_room (Nat.le_of_ble_eq_true rfl)) d_X10_skipComment_64 ⟨(Nat.le_of_ble_eq_true rfl), (Nat.le_of_ble_eq_true rfl)⟩) hP hD hS hA (fun r5 u5 H locs hw hP hD hS => ?_)
              have hP : va_P D vwCl (wB cy r (upC σ 2 3 ((σ 2 3) + 1))) H := hP
              have hD : va_D A (wB cy r (upC σ 2 3 ((σ 2 3) + 1))) := hD
              refine lv_bipush (v := 47) hx hb d_X10_skipComment_67 (by decide) ?_
              refine lv_icmp_ne (tgt := 81) hx hb d_X10_skipComment_69 (by decide) (fun c_69 => ?_) (fun c_69 => ?_)
              · -- taken at 69
                refine lv_iinc (v := (x1 + 1)) (lv' := [(1, .int (x1 + 1)), (2, .int r2), (0, .ref (r 2))]) hx hb d_X10_skipComment_81 hl (k := 2) rfl rfl (by decide) rfl (fun ls hl => ?_)
                refine lv_goto (tgt := 7) hx hb d_X10_skipComment_84 (by decide) ?_
                exact ih7 _ (Nat.lt_of_lt_of_eq (upm_lt c_12) N7) (upC σ 2 3 ((σ 2 3) + 1)) (x1 + 1) _ _ _ rfl inv kp hP hD hS (lv_sub hl [2, 0] rfl)
              · -- not taken at 69
                refine lv_aload_n hx hb d_X10_skipComment_72 rfl (lv_at hl 1 rfl) ?_
                refine lv_iload_n hx hb d_X10_skipComment_73 rfl (lv_at hl 2 rfl) ?_
                refine lv_iconst (v := 2) hx hb d_X10_skipComment_74 (by decide) ?_
                refine lv_iadd hx hb d_X10_skipComment_75 ?_
                refine va_put (D := D) (ci := 10) (v := .int (x1 + 2)) (ty := .int) (C := "LinkedUnits$Tokens") (T := TX10) (N := 10) hx hb hg iwX10 tyX10 tyX10_ok nmX10 hown hK hP hD hS 1 rfl rfl 2 (by decide) (hg _ m_44) (fun _ h9 => h9) rfl (by decide +kernel) rfl rfl (Nat.le_of_ble_eq_true rfl) d_X10_skipComment_76 (fun H locs hP hD hS => ?_)
                have hP : va_P D vwCl (wB cy r (upC (upC σ 2 3 ((σ 2 3) + 1)) 2 2 (x1 + 2))) H := hP
                have hD : va_D A (wB cy r (upC (upC σ 2 3 ((σ 2 3) + 1)) 2 2 (x1 + 2))) := hD
                have kp : Keep [(2, 2), (2, 3), (2, 4)] [13, 14, 15, 16] σ0 (upC (upC σ 2 3 ((σ 2 3) + 1)) 2 2 (x1 + 2)) := keep_f kp (by decide)
                refine lv_iconst (v := 1) hx hb d_X10_skipComment_79 (by decide) ?_
                refine W.widen (k := 0) (n := 0) (Nat.le_of_ble_eq_true rfl) (Nat.le_of_ble_eq_true rfl) ?_
                exact k_zret (X := St) (w1 := fun τ => wB cy r τ) (upC (upC σ 2 3 ((σ 2 3) + 1)) 2 2 (x1 + 2)) hx hb hr (k_nz (Or.inr rfl)) d_X10_skipComment_80 hlocks hP hK hD hS ⟨(Or.inr rfl), ⟨inv, kp⟩⟩
        · -- not taken at 25
          refine lv_aload_n hx hb d_X10_skipComment_28 rfl (lv_at hl 1 rfl) ?_
          refine lv_iload_n hx hb d_X10_skipComment_29 rfl (lv_at hl 2 rfl) ?_
          refine s_calli (X := St) (w1 := fun τ => wB cy r τ) (va_runV (As := [.int x1]) (rest := []) ⟨hx, hb, hml, hown, hg⟩ (s_X10_bad l D cy H.size w g r σ x1 inv ) (cwV 1 hg (gw_V m_817 m_819 ms_X10_bad m_2 m_820) rfl rfl rfl (by decide +kernel) ⟨(Nat.le_of_ble_eq_true rfl), (Nat.le_of_ble_eq_true rfl)⟩) (s_preVE (As := [.int x1]) (gE_ok w g) hS hA hE hP hD hK hNW 1 rfl rfl) rfl rfl hl.1 rfl (lv_room (Nat.le_of_ble_eq_true rfl)) d_X10_skipComment_30 ⟨(Nat.le_of_ble_eq_true rfl), (Nat.le_of_ble_eq_true rfl)⟩) hP hD hS hA (fun r6 σ6 H locs hw hP hD hS => ?_)
          have hP : va_P D vwCl (wB cy r σ6) H := hP
          have hD : va_D A (wB cy r σ6) := hD
          have ik6 : Keep [(2, 2), (2, 4)] [13, 14, 15, 16] σ σ6 := hw.2.2
          have kp : Keep [(2, 2), (2, 3), (2, 4)] [13, 14, 15, 16] σ0 σ6 := keep_c kp ik6 (by decide) (by decide)
          have i6 : Inv σ6 := hw.2.1
          have hz6 : r6 = 0 ∨ r6 = 1 := hw.1
          refine W.widen (k := 0) (n := 0) (Nat.le_of_ble_eq_true rfl) (Nat.le_of_ble_eq_true rfl) ?_
          exact k_zret (X := St) (w1 := fun τ => wB cy r τ) σ6 hx hb hr (k_nz hz6) d_X10_skipComment_33 hlocks hP hK hD hS ⟨hz6, ⟨i6, kp⟩⟩
  have kp : Keep [(2, 2), (2, 3), (2, 4)] [13, 14, 15, 16] σ0 σ0 := keep_rf
  obtain ⟨H, hH⟩ : ∃ H, H = s.heap := ⟨_, rfl⟩
  rw [← hH] at hP
  have hS : va_S A s.heap H [] := by rw [hH]; exact va_S.rf
  have hgoal : W p l e ({ frames := 2, cells := 0, slots := 0, locals := 44 } : Room) s m (([.ref (r 2)] : List Value).toArray) below meth c H [] 0 0 (MQ below (va_Qi (S := St) (fun (v9 : Int32) (τ : St) => (v9 = 0 ∨ v9 = 1) ∧ (Inv τ ∧ Keep [(2, 2), (2, 3), (2, 4)] [13, 14, 15, 16] σ0 τ)) (fun τ => kPost D cy A (wB cy r τ)) A) (([.ref (r 2)] : List Value).toArray) s 0 0 A) (F0 m 0 ls []) := by
    refine lv_aload_n hx hb d_X10_skipComment_0 rfl (lv_at hl 0 rfl) ?_
    refine va_get (D := D) (ci := 10) (v := .int (σ0 2 2)) (C := "LinkedUnits$Tokens") (T := TX10) (N := 10) hx hb hg iwX10 hown hK hP 1 rfl rfl 2 (by decide) (hg _ m_44) (fun _ h9 => h9) rfl d_X10_skipComment_1 ?_
    refine lv_iconst (v := 2) hx hb d_X10_skipComment_4 (by decide) ?_
    refine lv_iadd hx hb d_X10_skipComment_5 ?_
    refine lv_istore_n (lv' := [(1, .int ((σ0 2 2) + 2)), (0, .ref (r 2))]) hx hb d_X10_skipComment_6 rfl hl (by decide) rfl (fun ls hl => ?_)
    exact b7 _ σ0 ((σ0 2 2) + 2) _ _ _ rfl i0 kp hP hD hS (lv_sub hl [1, 0] rfl)
  rw [hH] at hgoal
  exact hgoal
set_option maxHeartbeats 4000000 in
set_option maxRecDepth 100000 in
theorem s_X10_sixteens (l : Launch) (D : va_G) (cy : Nat → ClassId) (sz : Nat) (w : Nat → Nat) (g : Nat → Nat → Int32) (r : Nat → Nat) (σ0 : St) (i0 : Inv σ0) : Met l y_X10_sixteens (Cond.code y_X10_sixteens b_X10_sixteens 4 (some .boolean) :: GW) ({ frames := 2, cells := 0, slots := 0, locals := 44 } : Room) (va_Pc [.ref (r 2)] (kPreE D cy sz (wB cy r σ0) (gE w g))) ((fun A : Nat → Prop => va_Qi (S := St) (fun (v9 : Int32) (τ : St) => (v9 = 0 ∨ v9 = 1) ∧ (Inv τ ∧ Keep [(2, 2), (2, 4)] [13, 14, 15, 16] σ0 τ)) (fun τ => kPost D cy A (wB cy r τ)) A) (va_A (wB cy r σ0) sz)) 0 0 (va_A (wB cy r σ0) sz) := by
  refine k_ofWE (Qc := fun A => va_Qi (S := St) (fun (v9 : Int32) (τ : St) => (v9 = 0 ∨ v9 = 1) ∧ (Inv τ ∧ Keep [(2, 2), (2, 4)] [13, 14, 15, 16] σ0 τ)) (fun τ => kPost D cy A (wB cy r τ)) A) (by decide) (Nat.le_of_ble_eq_true rfl) ?_
  intro p e s m below meth c A ls hx hb hr hml hown hlocks hin hg hNW hK hP hD hA hS hl hE
  have hl : lv_has ls 4 [(0, .ref (r 2))] := hl
  have hown : s.vm.findClass "LinkedUnits$Tokens" = some m.cls := hown
  have b18 : ∀ (N : Nat) (σ : St) (x1 : Int32) (x2 : Int32) (x3 : Int32) (H : Heap) (locs : List Loc) (ls : Array Slot), upm x2 = N → Inv σ → Keep [(2, 2), (2, 4)] [13, 14, 15, 16] σ0 σ → va_P D vwCl (wB cy r σ) H → va_D A (wB cy r σ) → va_S A s.heap H locs → lv_has ls 4 [(0, .ref (r 2)), (1, .int x1), (2, .int x2), (3, .int x3)] → W p l e ({ frames := 2, cells := 0, slots := 0, locals := 44 } : Room) s m (([.ref (r 2)] : List Value).toArray) below meth c H locs 0 0 (MQ below (va_Qi (S := St) (fun (v9 : Int32) (τ : St) => (v9 = 0 ∨ v9 = 1) ∧ (Inv τ ∧ Keep [(2, 2), (2, 4)] [13, 14, 15, 16] σ0 τ)) (fun τ => kPost D cy A (wB cy r τ)) A) (([.ref (r 2)] : List Value).toArray) s 0 0 A) (F0 m 18 ls []) := by
    intro M18
    induction M18 using Nat.strongRecOn with
    | _ M18 ih18 =>
      intro σ x1 x2 x3 H locs ls N18 inv kp hP hD hS hl
      refine lv_iload_n hx hb d_X10_sixteens_18 rfl (lv_at hl 2 rfl) ?_
      refine lv_aload_n hx hb d_X10_sixteens_19 rfl (lv_at hl 0 rfl) ?_
      refine va_get (D := D) (ci := 10) (v := .int (σ 2 1)) (C := "LinkedUnits$Tokens") (T := TX10) (N := 10) hx hb hg iwX10 hown hK hP 1 rfl rfl 1 (by decide) (hg _ m_43) (fun _ h9 => h9) rfl d_X10_sixteens_20 ?_
      refine lv_icmp_gt (tgt := 59) hx hb d_X10_sixteens_23 (by decide) (fun c_23 => ?_) (fun c_23 => ?_)
      · -- taken at 23
        refine lv_iload_n hx hb d_X10_sixteens_59 rfl (lv_at hl 2 rfl) ?_
        refine lv_bipush (v := 10) hx hb d_X10_sixteens_60 (by decide) ?_
        refine lv_icmp_le (tgt := 76) hx hb d_X10_sixteens_62 (by decide) (fun c_62 => ?_) (fun c_62 => ?_)
        · -- taken at 62
          refine lv_aload_n hx hb d_X10_sixteens_76 rfl (lv_at hl 0 rfl) ?_
          refine lv_iconst (v := 3) hx hb d_X10_sixteens_77 (by decide) ?_
          refine lv_iload_n hx hb d_X10_sixteens_78 rfl (lv_at hl 1 rfl) ?_
          refine lv_iload_n hx hb d_X10_sixteens_79 rfl (lv_at hl 2 rfl) ?_
          refine s_calli (X := St) (w1 := fun τ => wB cy r τ) (va_runV (As := [.int 3, .int x1, .int x2]) (rest := []) ⟨hx, hb, hml, hown, hg⟩ (s_X10_add l D cy H.size w g r σ (3 : Int32) x1 x2 inv ) (cwV 3 hg (gw_V m_821 m_823 ms_X10_add m_2 m_824) rfl rfl rfl (by decide +kernel) ⟨(Nat.le_of_ble_eq_true rfl), (Nat.le_of_ble_eq_true rfl)⟩) (s_preVE (As := [.int 3, .int x1, .int x2]) (gE_ok w g) hS hA hE hP hD hK hNW 1 rfl rfl) rfl rfl hl.1 rfl (lv_room (Nat.le_of_ble_eq_true rfl)) d_X10_sixteens_80 ⟨(Nat.le_of_ble_eq_true rfl), (Nat.le_of_ble_eq_true rfl)⟩) hP hD hS hA (fun r1 σ1 H locs hw hP hD hS => ?_)
          have hP : va_P D vwCl (wB cy r σ1) H := hP
          have hD : va_D A (wB cy r σ1) := hD
          have ik1 : Keep [(2, 2), (2, 4)] [13, 14, 15, 16] σ σ1 := hw.2.2
          have kp : Keep [(2, 2), (2, 4)] [13, 14, 15, 16] σ0 σ1 := keep_c kp ik1 (by decide) (by decide)
          have i1 : Inv σ1 := hw.2.1
          have hz1 : r1 = 0 ∨ r1 = 1 := hw.1
          refine W.widen (k := 0) (n := 0) (Nat.le_of_ble_eq_true rfl) (Nat.le_of_ble_eq_true rfl) ?_
          exact k_zret (X := St) (w1 := fun τ => wB cy r τ) σ1 hx hb hr (k_nz hz1) d_X10_sixteens_83 hlocks hP hK hD hS ⟨hz1, ⟨i1, kp⟩⟩
        · -- not taken at 62
          refine lv_aload_n hx hb d_X10_sixteens_65 rfl (lv_at hl 0 rfl) ?_
          refine lv_aload_n hx hb d_X10_sixteens_66 rfl (lv_at hl 0 rfl) ?_
          refine va_get (D := D) (ci := 10) (v := .int (σ 2 2)) (C := "LinkedUnits$Tokens") (T := TX10) (N := 10) hx hb hg iwX10 hown hK hP 1 rfl rfl 2 (by decide) (hg _ m_44) (fun _ h9 => h9) rfl d_X10_sixteens_67 ?_
          refine s_calli (X := St) (w1 := fun τ => wB cy r τ) (va_runV (As := [.int (σ 2 2)]) (rest := []) ⟨hx, hb, hml, hown, hg⟩ (s_X10_bad l D cy H.size w g r σ (σ 2 2) inv ) (cwV 1 hg (gw_V m_817 m_819 ms_X10_bad m_2 m_820) rfl rfl rfl (by decide +kernel) ⟨(Nat.le_of_ble_eq_true rfl), (Nat.le_of_ble_eq_true rfl)⟩) (s_preVE (As := [.int (σ 2 2)]) (gE_ok w g) hS hA hE hP hD hK hNW 1 rfl rfl) rfl rfl hl.1 rfl (lv_room (Nat.le_of_ble_eq_true rfl)) d_X10_sixteens_70 ⟨(Nat.le_of_ble_eq_true rfl), (Nat.le_of_ble_eq_true rfl)⟩) hP hD hS hA (fun r2 σ2 H locs hw hP hD hS => ?_)
          have hP : va_P D vwCl (wB cy r σ2) H := hP
          have hD : va_D A (wB cy r σ2) := hD
          have ik2 : Keep [(2, 2), (2, 4)] [13, 14, 15, 16] σ σ2 := hw.2.2
          have kp : Keep [(2, 2), (2, 4)] [13, 14, 15, 16] σ0 σ2 := keep_c kp ik2 (by decide) (by decide)
          have i2 : Inv σ2 := hw.2.1
          have hz2 : r2 = 0 ∨ r2 = 1 := hw.1
          refine lv_goto (tgt := 83) hx hb d_X10_sixteens_73 (by decide) ?_
          refine W.widen (k := 0) (n := 0) (Nat.le_of_ble_eq_true rfl) (Nat.le_of_ble_eq_true rfl) ?_
          exact k_zret (X := St) (w1 := fun τ => wB cy r τ) σ2 hx hb hr (k_nz hz2) d_X10_sixteens_83 hlocks hP hK hD hS ⟨hz2, ⟨i2, kp⟩⟩
      · -- not taken at 23
        refine lv_iload_n hx hb d_X10_sixteens_26 rfl (lv_at hl 3 rfl) ?_
        refine lv_if_lt (tgt := 59) hx hb d_X10_sixteens_27 (by decide) (fun c_27 => ?_) (fun c_27 => ?_)
        · -- taken at 27
          refine lv_iload_n hx hb d_X10_sixteens_59 rfl (lv_at hl 2 rfl) ?_
          refine lv_bipush (v := 10) hx hb d_X10_sixteens_60 (by decide) ?_
          refine lv_icmp_le (tgt := 76) hx hb d_X10_sixteens_62 (by decide) (fun c_62 => ?_) (fun c_62 => ?_)
          · -- taken at 62
            refine lv_aload_n hx hb d_X10_sixteens_76 rfl (lv_at hl 0 rfl) ?_
            refine lv_iconst (v := 3) hx hb d_X10_sixteens_77 (by decide) ?_
            refine lv_iload_n hx hb d_X10_sixteens_78 rfl (lv_at hl 1 rfl) ?_
            refine lv_iload_n hx hb d_X10_sixteens_79 rfl (lv_at hl 2 rfl) ?_
            refine s_calli (X := St) (w1 := fun τ => wB cy r τ) (va_runV (As := [.int 3, .int x1, .int x2]) (rest := []) ⟨hx, hb, hml, hown, hg⟩ (s_X10_add l D cy H.size w g r σ (3 : Int32) x1 x2 inv ) (cwV 3 hg (gw_V m_821 m_823 ms_X10_add m_2 m_824) rfl rfl rfl (by decide +kernel) ⟨(Nat.le_of_ble_eq_true rfl), (Nat.le_of_ble_eq_true rfl)⟩) (s_preVE (As := [.int 3, .int x1, .int x2]) (gE_ok w g) hS hA hE hP hD hK hNW 1 rfl rfl) rfl rfl hl.1 rfl (lv_room (Nat.le_of_ble_eq_true rfl)) d_X10_sixteens_80 ⟨(Nat.le_of_ble_eq_true rfl), (Nat.le_of_ble_eq_true rfl)⟩) hP hD hS hA (fun r3 σ3 H locs hw hP hD hS => ?_)
            have hP : va_P D vwCl (wB cy r σ3) H := hP
            have hD : va_D A (wB cy r σ3) := hD
            have ik3 : Keep [(2, 2), (2, 4)] [13, 14, 15, 16] σ σ3 := hw.2.2
            have kp : Keep [(2, 2), (2, 4)] [13, 14, 15, 16] σ0 σ3 := keep_c kp ik3 (by decide) (by decide)
            have i3 : Inv σ3 := hw.2.1
            have hz3 : r3 = 0 ∨ r3 = 1 := hw.1
            refine W.widen (k := 0) (n := 0) (Nat.le_of_ble_eq_true rfl) (Nat.le_of_ble_eq_true rfl) ?_
            exact k_zret (X := St) (w1 := fun τ => wB cy r τ) σ3 hx hb hr (k_nz hz3) d_X10_sixteens_83 hlocks hP hK hD hS ⟨hz3, ⟨i3, kp⟩⟩
          · -- not taken at 62
            refine lv_aload_n hx hb d_X10_sixteens_65 rfl (lv_at hl 0 rfl) ?_
            refine lv_aload_n hx hb d_X10_sixteens_66 rfl (lv_at hl 0 rfl) ?_
            refine va_get (D := D) (ci := 10) (v := .int (σ 2 2)) (C := "LinkedUnits$Tokens") (T := TX10) (N := 10) hx hb hg iwX10 hown hK hP 1 rfl rfl 2 (by decide) (hg _ m_44) (fun _ h9 => h9) rfl d_X10_sixteens_67 ?_
            refine s_calli (X := St) (w1 := fun τ => wB cy r τ) (va_runV (As := [.int (σ 2 2)]) (rest := []) ⟨hx, hb, hml, hown, hg⟩ (s_X10_bad l D cy H.size w g r σ (σ 2 2) inv ) (cwV 1 hg (gw_V m_817 m_819 ms_X10_bad m_2 m_820) rfl rfl rfl (by decide +kernel) ⟨(Nat.le_of_ble_eq_true rfl), (Nat.le_of_ble_eq_true rfl)⟩) (s_preVE (As := [.int (σ 2 2)]) (gE_ok w g) hS hA hE hP hD hK hNW 1 rfl rfl) rfl rfl hl.1 rfl (lv_room (Nat.le_of_ble_eq_true rfl)) d_X10_sixteens_70 ⟨(Nat.le_of_ble_eq_true rfl), (Nat.le_of_ble_eq_true rfl)⟩) hP hD hS hA (fun r4 σ4 H locs hw hP hD hS => ?_)
            have hP : va_P D vwCl (wB cy r σ4) H := hP
            have hD : va_D A (wB cy r σ4) := hD
            have ik4 : Keep [(2, 2), (2, 4)] [13, 14, 15, 16] σ σ4 := hw.2.2
            have kp : Keep [(2, 2), (2, 4)] [13, 14, 15, 16] σ0 σ4 := keep_c kp ik4 (by decide) (by decide)
            have i4 : Inv σ4 := hw.2.1
            have hz4 : r4 = 0 ∨ r4 = 1 := hw.1
            refine lv_goto (tgt := 83) hx hb d_X10_sixteens_73 (by decide) ?_
            refine W.widen (k := 0) (n := 0) (Nat.le_of_ble_eq_true rfl) (Nat.le_of_ble_eq_true rfl) ?_
            exact k_zret (X := St) (w1 := fun τ => wB cy r τ) σ4 hx hb hr (k_nz hz4) d_X10_sixteens_83 hlocks hP hK hD hS ⟨hz4, ⟨i4, kp⟩⟩
        · -- not taken at 27
          refine lv_iload_n hx hb d_X10_sixteens_30 rfl (lv_at hl 1 rfl) ?_
          refine lv_bipush (v := 16) hx hb d_X10_sixteens_31 (by decide) ?_
          refine lv_imul hx hb d_X10_sixteens_33 ?_
          refine lv_iload_n hx hb d_X10_sixteens_34 rfl (lv_at hl 3 rfl) ?_
          refine lv_iadd hx hb d_X10_sixteens_35 ?_
          refine lv_istore_n (lv' := [(1, .int ((x1 * 16) + x3)), (0, .ref (r 2)), (2, .int x2), (3, .int x3)]) hx hb d_X10_sixteens_36 rfl hl (by decide) rfl (fun ls hl => ?_)
          refine lv_aload_n hx hb d_X10_sixteens_37 rfl (lv_at hl 1 rfl) ?_
          refine lv_aload_n hx hb d_X10_sixteens_38 rfl (lv_at hl 1 rfl) ?_
          refine va_get (D := D) (ci := 10) (v := .int (σ 2 2)) (C := "LinkedUnits$Tokens") (T := TX10) (N := 10) hx hb hg iwX10 hown hK hP 1 rfl rfl 2 (by decide) (hg _ m_44) (fun _ h9 => h9) rfl d_X10_sixteens_39 ?_
          refine lv_iload_n hx hb d_X10_sixteens_42 rfl (lv_at hl 2 rfl) ?_
          refine lv_iadd hx hb d_X10_sixteens_43 ?_
          refine lv_iconst (v := 1) hx hb d_X10_sixteens_44 (by decide) ?_
          refine lv_iadd hx hb d_X10_sixteens_45 ?_
          refine s_calli (X := Unit) (w1 := fun _ => wB cy r σ) (va_runV (As := [.int (((σ 2 2) + x2) + 1)]) (rest := []) ⟨hx, hb, hml, hown, hg⟩ (s_X10_byteAt l D cy H.size w g r σ (((σ 2 2) + x2) + 1) inv ) (cwV 1 hg (gw_V m_806 m_808 ms_X10_byteAt m_2 m_809) rfl rfl rfl (by decide +kernel) ⟨(Nat.le_of_ble_eq_true rfl), (Nat.le_of_ble_eq_true rfl)⟩) (s_preVE (As := [.int (((σ 2 2) + x2) + 1)]) (gE_ok w g) hS hA hE hP hD hK hNW 1 rfl rfl) rfl rfl hl.1 rfl (lv_room (Nat.le_of_ble_eq_true rfl)) d_X10_sixteens_46 ⟨(Nat.le_of_ble_eq_true rfl), (Nat.le_of_ble_eq_true rfl)⟩) hP hD hS hA (fun r5 u5 H locs hw hP hD hS => ?_)
          have hP : va_P D vwCl (wB cy r σ) H := hP
          have hD : va_D A (wB cy r σ) := hD
          refine s_call0 (va_runS (As := [.int r5]) (rest := []) ⟨hx, hb, hml, hown, hg⟩ (s_X10_sixteenth l D cy H.size r5 ) (cwS 1 hg (gw_S m_854 m_855 m_2 m_856) rfl rfl rfl (by decide +kernel) ⟨(Nat.le_of_ble_eq_true rfl), (Nat.le_of_ble_eq_true rfl)⟩) (s_pre (ws := []) (A := A) (fun k q h => by simp at h) ⟨fun i j p q h => by simp at h, fun k q h => by simp at h⟩ hK hNW) rfl rfl hl.1 rfl (lv_room (Nat.le_of_ble_eq_true rfl)) d_X10_sixteens_49 ⟨(Nat.le_of_ble_eq_true rfl), (Nat.le_of_ble_eq_true rfl)⟩) hP hD hS hA (fun r6 u6 H locs hw hP hD hS => ?_)
          have hP : va_P D vwCl (wB cy r σ) H := hP
          have hD : va_D A (wB cy r σ) := hD
          refine lv_istore_n (lv' := [(3, .int r6), (1, .int ((x1 * 16) + x3)), (0, .ref (r 2)), (2, .int x2)]) hx hb d_X10_sixteens_52 rfl hl (by decide) rfl (fun ls hl => ?_)
          refine lv_iinc (v := (x2 + 1)) (lv' := [(2, .int (x2 + 1)), (3, .int r6), (1, .int ((x1 * 16) + x3)), (0, .ref (r 2))]) hx hb d_X10_sixteens_53 hl (k := 3) rfl rfl (by decide) rfl (fun ls hl => ?_)
          refine lv_goto (tgt := 18) hx hb d_X10_sixteens_56 (by decide) ?_
          exact ih18 _ (by show upm (x2 + 1) < _; have hN := N18; unfold upm at hN ⊢; have e0 := s_rng x2; have e1 : (1 : Int32).toInt = 1 := (by decide); obtain ⟨k2, e2⟩ := s_add x2 (1 : Int32); have e3 := s_rng (x2 + 1); have e4 := s_rng (σ 2 1); have e5 := inv.1; have e6 := s_nlt c_23; omega) σ ((x1 * 16) + x3) (x2 + 1) r6 _ _ _ rfl inv kp hP hD hS (lv_sub hl [3, 2, 0, 1] rfl)
  have kp : Keep [(2, 2), (2, 4)] [13, 14, 15, 16] σ0 σ0 := keep_rf
  obtain ⟨H, hH⟩ : ∃ H, H = s.heap := ⟨_, rfl⟩
  rw [← hH] at hP
  have hS : va_S A s.heap H [] := by rw [hH]; exact va_S.rf
  have hgoal : W p l e ({ frames := 2, cells := 0, slots := 0, locals := 44 } : Room) s m (([.ref (r 2)] : List Value).toArray) below meth c H [] 0 0 (MQ below (va_Qi (S := St) (fun (v9 : Int32) (τ : St) => (v9 = 0 ∨ v9 = 1) ∧ (Inv τ ∧ Keep [(2, 2), (2, 4)] [13, 14, 15, 16] σ0 τ)) (fun τ => kPost D cy A (wB cy r τ)) A) (([.ref (r 2)] : List Value).toArray) s 0 0 A) (F0 m 0 ls []) := by
    refine lv_iconst (v := 0) hx hb d_X10_sixteens_0 (by decide) ?_
    refine lv_istore_n (lv' := [(1, .int 0), (0, .ref (r 2))]) hx hb d_X10_sixteens_1 rfl hl (by decide) rfl (fun ls hl => ?_)
    refine lv_iconst (v := 2) hx hb d_X10_sixteens_2 (by decide) ?_
    refine lv_istore_n (lv' := [(2, .int 2), (1, .int 0), (0, .ref (r 2))]) hx hb d_X10_sixteens_3 rfl hl (by decide) rfl (fun ls hl => ?_)
    refine lv_aload_n hx hb d_X10_sixteens_4 rfl (lv_at hl 2 rfl) ?_
    refine lv_aload_n hx hb d_X10_sixteens_5 rfl (lv_at hl 2 rfl) ?_
    refine va_get (D := D) (ci := 10) (v := .int (σ0 2 2)) (C := "LinkedUnits$Tokens") (T := TX10) (N := 10) hx hb hg iwX10 hown hK hP 1 rfl rfl 2 (by decide) (hg _ m_44) (fun _ h9 => h9) rfl d_X10_sixteens_6 ?_
    refine lv_iconst (v := 2) hx hb d_X10_sixteens_9 (by decide) ?_
    refine lv_iadd hx hb d_X10_sixteens_10 ?_
    refine s_calli (X := Unit) (w1 := fun _ => wB cy r σ0) (va_runV (As := [.int ((σ0 2 2) + 2)]) (rest := []) ⟨hx, hb, hml, hown, hg⟩ (s_X10_byteAt l D cy H.size w g r σ0 ((σ0 2 2) + 2) i0 ) (cwV 1 hg (gw_V m_806 m_808 ms_X10_byteAt m_2 m_809) rfl rfl rfl (by decide +kernel) ⟨(Nat.le_of_ble_eq_true rfl), (Nat.le_of_ble_eq_true rfl)⟩) (s_preVE (As := [.int ((σ0 2 2) + 2)]) (gE_ok w g) hS hA hE hP hD hK hNW 1 rfl rfl) rfl rfl hl.1 rfl (lv_room (Nat.le_of_ble_eq_true rfl)) d_X10_sixteens_11 ⟨(Nat.le_of_ble_eq_true rfl), (Nat.le_of_ble_eq_true rfl)⟩) hP hD hS hA (fun r7 u7 H locs hw hP hD hS => ?_)
    have hP : va_P D vwCl (wB cy r σ0) H := hP
    have hD : va_D A (wB cy r σ0) := hD
    refine s_call0 (va_runS (As := [.int r7]) (rest := []) ⟨hx, hb, hml, hown, hg⟩ (s_X10_sixteenth l D cy H.size r7 ) (cwS 1 hg (gw_S m_854 m_855 m_2 m_856) rfl rfl rfl (by decide +kernel) ⟨(Nat.le_of_ble_eq_true rfl), (Nat.le_of_ble_eq_true rfl)⟩) (s_pre (ws := []) (A := A) (fun k q h => by simp at h) ⟨fun i j p q h => by simp at h, fun k q h => by simp at h⟩ hK hNW) rfl rfl hl.1 rfl (lv_room (Nat.le_of_ble_eq_true rfl)) d_X10_sixteens_14 ⟨(Nat.le_of_ble_eq_true rfl), (Nat.le_of_ble_eq_true rfl)⟩) hP hD hS hA (fun r8 u8 H locs hw hP hD hS => ?_)
    have hP : va_P D vwCl (wB cy r σ0) H := hP
    have hD : va_D A (wB cy r σ0) := hD
    refine lv_istore_n (lv' := [(3, .int r8), (2, .int 2), (1, .int 0), (0, .ref (r 2))]) hx hb d_X10_sixteens_17 rfl hl (by decide) rfl (fun ls hl => ?_)
    exact b18 _ σ0 (0 : Int32) (2 : Int32) r8 _ _ _ rfl i0 kp hP hD hS (lv_sub hl [3, 2, 1, 0] rfl)
  rw [hH] at hgoal
  exact hgoal
