set_option maxHeartbeats 4000000 in
set_option maxRecDepth 100000 in
theorem s_X11_leave (l : Launch) (D : va_G) (cy : Nat → ClassId) (sz : Nat) (r : Nat → Nat) (σ : St) (inv : Inv σ) : Met l y_X11_leave (Cond.code y_X11_leave b_X11_leave 1 none :: GW) ({ frames := 0, cells := 0, slots := 0, locals := 0 } : Room) (va_Pc [.ref (r 6)] (kPre D cy sz (wB cy r σ))) ((fun A : Nat → Prop => va_Qv (S := St) (fun (τ : St) => Inv τ) (fun τ => kPost D cy A (wB cy r τ)) A) (va_A (wB cy r σ) sz)) 0 0 (va_A (wB cy r σ) sz) := by
  refine k_ofW (Qc := fun A => va_Qv (S := St) (fun (τ : St) => Inv τ) (fun τ => kPost D cy A (wB cy r τ)) A) (by decide) (Nat.le_of_ble_eq_true rfl) ?_
  intro p e s m below meth c A ls hx hb hr hml hown hlocks hin hg hNW hK hP hD hA hS hl
  have hl : lv_has ls 1 [(0, .ref (r 6))] := hl
  have hown : s.vm.findClass "LinkedUnits$Unit" = some m.cls := hown
  obtain ⟨H, hH⟩ : ∃ H, H = s.heap := ⟨_, rfl⟩
  rw [← hH] at hP
  have hS : va_S A s.heap H [] := by rw [hH]; exact va_S.rf
  have hgoal : W p l e ({ frames := 0, cells := 0, slots := 0, locals := 0 } : Room) s m (([.ref (r 6)] : List Value).toArray) below meth c H [] 0 0 (MQ below (va_Qv (S := St) (fun (τ : St) => Inv τ) (fun τ => kPost D cy A (wB cy r τ)) A) (([.ref (r 6)] : List Value).toArray) s 0 0 A) (F0 m 0 ls []) := by
    refine lv_aload_n hx hb d_X11_leave_0 rfl (lv_at hl 0 rfl) ?_
    refine lv_iconst (v := (-1)) hx hb d_X11_leave_1 (by decide) ?_
    refine va_put (D := D) (ci := 11) (v := .int (-1)) (ty := .int) (C := "LinkedUnits$Unit") (T := TX11) (N := 19) hx hb hg iwX11 tyX11 tyX11_ok nmX11 hown hK hP hD hS 5 rfl rfl 6 (by decide) (hg _ m_324) (fun _ h9 => h9) rfl (by decide +kernel) rfl rfl (Nat.le_of_ble_eq_true rfl) d_X11_leave_2 (fun H locs hP hD hS => ?_)
    have hP : va_P D vwCl (wB cy r (upC σ 6 6 (-1))) H := hP
    have hD : va_D A (wB cy r (upC σ 6 6 (-1))) := hD
    refine lv_aload_n hx hb d_X11_leave_5 rfl (lv_at hl 0 rfl) ?_
    refine lv_iconst (v := 0) hx hb d_X11_leave_6 (by decide) ?_
    refine va_put (D := D) (ci := 11) (v := .int 0) (ty := .int) (C := "LinkedUnits$Unit") (T := TX11) (N := 19) hx hb hg iwX11 tyX11 tyX11_ok nmX11 hown hK hP hD hS 5 rfl rfl 10 (by decide) (hg _ m_331) (fun _ h9 => h9) rfl (by decide +kernel) rfl rfl (Nat.le_of_ble_eq_true rfl) d_X11_leave_7 (fun H locs hP hD hS => ?_)
    have hP : va_P D vwCl (wB cy r (upC (upC σ 6 6 (-1)) 6 10 0)) H := hP
    have hD : va_D A (wB cy r (upC (upC σ 6 6 (-1)) 6 10 0)) := hD
    refine lv_aload_n hx hb d_X11_leave_10 rfl (lv_at hl 0 rfl) ?_
    refine lv_iconst (v := 0) hx hb d_X11_leave_11 (by decide) ?_
    refine va_put (D := D) (ci := 11) (v := .int 0) (ty := .int) (C := "LinkedUnits$Unit") (T := TX11) (N := 19) hx hb hg iwX11 tyX11 tyX11_ok nmX11 hown hK hP hD hS 5 rfl rfl 15 (by decide) (hg _ m_342) (fun _ h9 => h9) rfl (by decide +kernel) rfl rfl (Nat.le_of_ble_eq_true rfl) d_X11_leave_12 (fun H locs hP hD hS => ?_)
    have hP : va_P D vwCl (wB cy r (upC (upC (upC σ 6 6 (-1)) 6 10 0) 6 15 0)) H := hP
    have hD : va_D A (wB cy r (upC (upC (upC σ 6 6 (-1)) 6 10 0) 6 15 0)) := hD
    refine lv_aload_n hx hb d_X11_leave_15 rfl (lv_at hl 0 rfl) ?_
    refine lv_iconst (v := 0) hx hb d_X11_leave_16 (by decide) ?_
    refine va_put (D := D) (ci := 11) (v := .int 0) (ty := .int) (C := "LinkedUnits$Unit") (T := TX11) (N := 19) hx hb hg iwX11 tyX11 tyX11_ok nmX11 hown hK hP hD hS 5 rfl rfl 17 (by decide) (hg _ m_344) (fun _ h9 => h9) rfl (by decide +kernel) rfl rfl (Nat.le_of_ble_eq_true rfl) d_X11_leave_17 (fun H locs hP hD hS => ?_)
    have hP : va_P D vwCl (wB cy r (upC (upC (upC (upC σ 6 6 (-1)) 6 10 0) 6 15 0) 6 17 0)) H := hP
    have hD : va_D A (wB cy r (upC (upC (upC (upC σ 6 6 (-1)) 6 10 0) 6 15 0) 6 17 0)) := hD
    refine W.widen (k := 0) (n := 0) (Nat.le_of_ble_eq_true rfl) (Nat.le_of_ble_eq_true rfl) ?_
    exact k_vret (X := St) (w1 := fun τ => wB cy r τ) (upC (upC (upC (upC σ 6 6 (-1)) 6 10 0) 6 15 0) 6 17 0) hx hb hr d_X11_leave_20 hlocks hP hK hD hS inv
  rw [hH] at hgoal
  exact hgoal
set_option maxHeartbeats 4000000 in
set_option maxRecDepth 100000 in
theorem s_X11_fail (l : Launch) (D : va_G) (cy : Nat → ClassId) (sz : Nat) (r : Nat → Nat) (σ : St) (x1 : Int32) (x2 : Int32) (inv : Inv σ) : Met l y_X11_fail (Cond.code y_X11_fail b_X11_fail 3 none :: GW) ({ frames := 0, cells := 0, slots := 0, locals := 0 } : Room) (va_Pc [.ref (r 6), .int x1, .int x2] (kPre D cy sz (wB cy r σ))) ((fun A : Nat → Prop => va_Qv (S := St) (fun (τ : St) => Inv τ) (fun τ => kPost D cy A (wB cy r τ)) A) (va_A (wB cy r σ) sz)) 0 0 (va_A (wB cy r σ) sz) := by
  refine k_ofW (Qc := fun A => va_Qv (S := St) (fun (τ : St) => Inv τ) (fun τ => kPost D cy A (wB cy r τ)) A) (by decide) (Nat.le_of_ble_eq_true rfl) ?_
  intro p e s m below meth c A ls hx hb hr hml hown hlocks hin hg hNW hK hP hD hA hS hl
  have hl : lv_has ls 3 [(0, .ref (r 6)), (1, .int x1), (2, .int x2)] := hl
  have hown : s.vm.findClass "LinkedUnits$Unit" = some m.cls := hown
  obtain ⟨H, hH⟩ : ∃ H, H = s.heap := ⟨_, rfl⟩
  rw [← hH] at hP
  have hS : va_S A s.heap H [] := by rw [hH]; exact va_S.rf
  have hgoal : W p l e ({ frames := 0, cells := 0, slots := 0, locals := 0 } : Room) s m (([.ref (r 6), .int x1, .int x2] : List Value).toArray) below meth c H [] 0 0 (MQ below (va_Qv (S := St) (fun (τ : St) => Inv τ) (fun τ => kPost D cy A (wB cy r τ)) A) (([.ref (r 6), .int x1, .int x2] : List Value).toArray) s 0 0 A) (F0 m 0 ls []) := by
    refine lv_aload_n hx hb d_X11_fail_0 rfl (lv_at hl 0 rfl) ?_
    refine va_get (D := D) (ci := 11) (v := .int (σ 6 3)) (C := "LinkedUnits$Unit") (T := TX11) (N := 19) hx hb hg iwX11 hown hK hP 5 rfl rfl 3 (by decide) (hg _ m_314) (fun _ h9 => h9) rfl d_X11_fail_1 ?_
    refine lv_if_ne (tgt := 17) hx hb d_X11_fail_4 (by decide) (fun c_4 => ?_) (fun c_4 => ?_)
    · -- taken at 4
      refine W.widen (k := 0) (n := 0) (Nat.le_of_ble_eq_true rfl) (Nat.le_of_ble_eq_true rfl) ?_
      exact k_vret (X := St) (w1 := fun τ => wB cy r τ) σ hx hb hr d_X11_fail_17 hlocks hP hK hD hS inv
    · -- not taken at 4
      refine lv_aload_n hx hb d_X11_fail_7 rfl (lv_at hl 0 rfl) ?_
      refine lv_iload_n hx hb d_X11_fail_8 rfl (lv_at hl 1 rfl) ?_
      refine va_put (D := D) (ci := 11) (v := .int x1) (ty := .int) (C := "LinkedUnits$Unit") (T := TX11) (N := 19) hx hb hg iwX11 tyX11 tyX11_ok nmX11 hown hK hP hD hS 5 rfl rfl 3 (by decide) (hg _ m_314) (fun _ h9 => h9) rfl (by decide +kernel) rfl rfl (Nat.le_of_ble_eq_true rfl) d_X11_fail_9 (fun H locs hP hD hS => ?_)
      have hP : va_P D vwCl (wB cy r (upC σ 6 3 x1)) H := hP
      have hD : va_D A (wB cy r (upC σ 6 3 x1)) := hD
      refine lv_aload_n hx hb d_X11_fail_12 rfl (lv_at hl 0 rfl) ?_
      refine lv_iload_n hx hb d_X11_fail_13 rfl (lv_at hl 2 rfl) ?_
      refine va_put (D := D) (ci := 11) (v := .int x2) (ty := .int) (C := "LinkedUnits$Unit") (T := TX11) (N := 19) hx hb hg iwX11 tyX11 tyX11_ok nmX11 hown hK hP hD hS 5 rfl rfl 4 (by decide) (hg _ m_318) (fun _ h9 => h9) rfl (by decide +kernel) rfl rfl (Nat.le_of_ble_eq_true rfl) d_X11_fail_14 (fun H locs hP hD hS => ?_)
      have hP : va_P D vwCl (wB cy r (upC (upC σ 6 3 x1) 6 4 x2)) H := hP
      have hD : va_D A (wB cy r (upC (upC σ 6 3 x1) 6 4 x2)) := hD
      refine W.widen (k := 0) (n := 0) (Nat.le_of_ble_eq_true rfl) (Nat.le_of_ble_eq_true rfl) ?_
      exact k_vret (X := St) (w1 := fun τ => wB cy r τ) (upC (upC σ 6 3 x1) 6 4 x2) hx hb hr d_X11_fail_17 hlocks hP hK hD hS inv
  rw [hH] at hgoal
  exact hgoal
set_option maxHeartbeats 4000000 in
set_option maxRecDepth 100000 in
theorem s_X11_mentionCall (l : Launch) (D : va_G) (cy : Nat → ClassId) (sz : Nat) (r : Nat → Nat) (σ : St) (x1 : Int32) (x2 : Int32) (inv : Inv σ) : Met l y_X11_mentionCall (Cond.code y_X11_mentionCall b_X11_mentionCall 4 none :: GW) ({ frames := 2, cells := 0, slots := 0, locals := 44 } : Room) (va_Pc [.ref (r 6), .int x1, .int x2] (kPre D cy sz (wB cy r σ))) ((fun A : Nat → Prop => va_Qv (S := St) (fun (τ : St) => Inv τ) (fun τ => kPost D cy A (wB cy r τ)) A) (va_A (wB cy r σ) sz)) 0 0 (va_A (wB cy r σ) sz) := by
  refine k_ofW (Qc := fun A => va_Qv (S := St) (fun (τ : St) => Inv τ) (fun τ => kPost D cy A (wB cy r τ)) A) (by decide) (Nat.le_of_ble_eq_true rfl) ?_
  intro p e s m below meth c A ls hx hb hr hml hown hlocks hin hg hNW hK hP hD hA hS hl
  have hl : lv_has ls 4 [(0, .ref (r 6)), (1, .int x1), (2, .int x2)] := hl
  have hown : s.vm.findClass "LinkedUnits$Unit" = some m.cls := hown
  obtain ⟨H, hH⟩ : ∃ H, H = s.heap := ⟨_, rfl⟩
  rw [← hH] at hP
  have hS : va_S A s.heap H [] := by rw [hH]; exact va_S.rf
  have hgoal : W p l e ({ frames := 2, cells := 0, slots := 0, locals := 44 } : Room) s m (([.ref (r 6), .int x1, .int x2] : List Value).toArray) below meth c H [] 0 0 (MQ below (va_Qv (S := St) (fun (τ : St) => Inv τ) (fun τ => kPost D cy A (wB cy r τ)) A) (([.ref (r 6), .int x1, .int x2] : List Value).toArray) s 0 0 A) (F0 m 0 ls []) := by
    refine lv_iload_n hx hb d_X11_mentionCall_0 rfl (lv_at hl 1 rfl) ?_
    refine lv_aload_n hx hb d_X11_mentionCall_1 rfl (lv_at hl 0 rfl) ?_
    refine va_get (D := D) (ci := 11) (v := .ref (r 5)) (C := "LinkedUnits$Unit") (T := TX11) (N := 19) hx hb hg iwX11 hown hK hP 5 rfl rfl 1 (by decide) (hg _ m_309) (fun _ h9 => h9) rfl d_X11_mentionCall_2 ?_
    refine va_getN (D := D) (ci := 8) (v := .int (σ 5 1)) (C := "LinkedUnits$Store") (T := TX8) (N := 18) hx hb hg iwX8 hown hK hP 4 rfl rfl 1 (by decide) (va_Nw.use rfl (hNW.1 _ nm_223)) (fun _ h9 => h9) rfl rfl d_X11_mentionCall_5 ?_
    refine lv_aload_n hx hb d_X11_mentionCall_8 rfl (lv_at hl 0 rfl) ?_
    refine va_get (D := D) (ci := 11) (v := .int (σ 6 7)) (C := "LinkedUnits$Unit") (T := TX11) (N := 19) hx hb hg iwX11 hown hK hP 5 rfl rfl 7 (by decide) (hg _ m_327) (fun _ h9 => h9) rfl d_X11_mentionCall_9 ?_
    refine lv_isub hx hb d_X11_mentionCall_12 ?_
    refine lv_isub hx hb d_X11_mentionCall_13 ?_
    refine lv_istore_n (lv' := [(3, .int (x1 - ((σ 5 1) - (σ 6 7)))), (0, .ref (r 6)), (1, .int x1), (2, .int x2)]) hx hb d_X11_mentionCall_14 rfl hl (by decide) rfl (fun ls hl => ?_)
    refine lv_aload_n hx hb d_X11_mentionCall_15 rfl (lv_at hl 1 rfl) ?_
    refine va_get (D := D) (ci := 11) (v := .ref (r 5)) (C := "LinkedUnits$Unit") (T := TX11) (N := 19) hx hb hg iwX11 hown hK hP 5 rfl rfl 1 (by decide) (hg _ m_309) (fun _ h9 => h9) rfl d_X11_mentionCall_16 ?_
    refine lv_iload_n hx hb d_X11_mentionCall_19 rfl (lv_at hl 2 rfl) ?_
    refine lv_bipush (v := 8) hx hb d_X11_mentionCall_20 (by decide) ?_
    refine s_callv (X := St) (w1 := fun τ => wB cy r τ) (va_runVN (As := [.int x1, .int 8]) (rest := []) ⟨hx, hb, hml, hown, hg⟩ (s_X8_mark l D cy H.size r σ x1 (8 : Int32) inv ) ⟨(va_cnB 2 hg (gw_c m_1136) rfl rfl rfl (hNW.1 _ nm_1150) (hg _ m_5) (by decide +kernel) ⟨(Nat.le_of_ble_eq_true rfl), (Nat.le_of_ble_eq_true rfl)⟩), (hg _ m_1135), hg _ ms_X8_mark⟩ (s_preV (As := [.int x1, .int 8]) hP hD hK hNW 4 rfl rfl) rfl rfl hl.1 rfl (lv_room (Nat.le_of_ble_eq_true rfl)) d_X11_mentionCall_22 ⟨(Nat.le_of_ble_eq_true rfl), (Nat.le_of_ble_eq_true rfl)⟩) hP hD hS hA (fun σ1 H locs hw hP hD hS => ?_)
    have hP : va_P D vwCl (wB cy r σ1) H := hP
    have hD : va_D A (wB cy r σ1) := hD
    have i1 : Inv σ1 := hw
    refine lv_aload_n hx hb d_X11_mentionCall_25 rfl (lv_at hl 1 rfl) ?_
    refine va_get (D := D) (ci := 11) (v := .ref (r 39)) (C := "LinkedUnits$Unit") (T := TX11) (N := 19) hx hb hg iwX11 hown hK hP 5 rfl rfl 9 (by decide) (hg _ m_330) (fun _ h9 => h9) rfl d_X11_mentionCall_26 ?_
    refine lv_iload_n hx hb d_X11_mentionCall_29 rfl (lv_at hl 0 rfl) ?_
    refine s_call1 (x := ((r 39), .inl (cy 1, 100, .inl (σ1 39)))) 38 rfl (va_runSN (As := [.ref (r 39), .int (x1 - ((σ 5 1) - (σ 6 7)))]) (rest := []) ⟨hx, hb, hml, hown, hg⟩ (c_at_any l D cy H.size (r 39) 100 (σ1 39) (x1 - ((σ 5 1) - (σ 6 7))) (Nat.le_of_ble_eq_true rfl)) ⟨(va_cnB 2 hg (gw_c m_949) rfl rfl rfl (hNW.1 _ nm_1112) (hg _ m_1) (by decide +kernel) ⟨(Nat.le_of_ble_eq_true rfl), (Nat.le_of_ble_eq_true rfl)⟩), hg _ m_948, trivial⟩ (s_pre (ws := [((r 39), .inl (cy 1, 100, .inl (σ1 39)))]) (s_sub1 38 hP rfl) (s_subD 38 hD rfl) hK hNW) rfl rfl hl.1 rfl (lv_room (Nat.le_of_ble_eq_true rfl)) d_X11_mentionCall_30 ⟨(Nat.le_of_ble_eq_true rfl), (Nat.le_of_ble_eq_true rfl)⟩) hP hD hS hA (fun r2 u2 H locs hw hP hD hS => ?_)
    have hP : va_P D vwCl (wB cy r σ1) H := hP
    have hD : va_D A (wB cy r σ1) := hD
    refine lv_if_ge (tgt := 45) hx hb d_X11_mentionCall_33 (by decide) (fun c_33 => ?_) (fun c_33 => ?_)
    · -- taken at 33
      refine W.widen (k := 0) (n := 0) (Nat.le_of_ble_eq_true rfl) (Nat.le_of_ble_eq_true rfl) ?_
      exact k_vret (X := St) (w1 := fun τ => wB cy r τ) σ1 hx hb hr d_X11_mentionCall_45 hlocks hP hK hD hS i1
    · -- not taken at 33
      refine lv_aload_n hx hb d_X11_mentionCall_36 rfl (lv_at hl 1 rfl) ?_
      refine va_get (D := D) (ci := 11) (v := .ref (r 39)) (C := "LinkedUnits$Unit") (T := TX11) (N := 19) hx hb hg iwX11 hown hK hP 5 rfl rfl 9 (by decide) (hg _ m_330) (fun _ h9 => h9) rfl d_X11_mentionCall_37 ?_
      refine lv_iload_n hx hb d_X11_mentionCall_40 rfl (lv_at hl 0 rfl) ?_
      refine lv_iload_n hx hb d_X11_mentionCall_41 rfl (lv_at hl 3 rfl) ?_
      refine s_set1 (X := Nat → Int32) (w := fun g => .inl (cy 1, 100, .inl g)) 38 rfl (va_runSN (As := [.ref (r 39), .int (x1 - ((σ 5 1) - (σ 6 7))), .int x2]) (rest := []) ⟨hx, hb, hml, hown, hg⟩ (c_set_any l D cy H.size (r 39) 100 (σ1 39) (x1 - ((σ 5 1) - (σ 6 7))) x2 (Nat.le_of_ble_eq_true rfl)) ⟨(va_cnB 3 hg (gw_c m_981) rfl rfl rfl (hNW.1 _ nm_1151) (hg _ m_1) (by decide +kernel) ⟨(Nat.le_of_ble_eq_true rfl), (Nat.le_of_ble_eq_true rfl)⟩), hg _ m_980, trivial⟩ (s_pre (ws := [((r 39), .inl (cy 1, 100, .inl (σ1 39)))]) (s_sub1 38 hP rfl) (s_subD 38 hD rfl) hK hNW) rfl rfl hl.1 rfl (lv_room (Nat.le_of_ble_eq_true rfl)) d_X11_mentionCall_42 ⟨(Nat.le_of_ble_eq_true rfl), (Nat.le_of_ble_eq_true rfl)⟩) hP hD hS hA (fun g3 H locs hw hP hD hS => ?_)
      have hP : va_P D vwCl (wB cy r (upF σ1 39 g3)) H := hP
      have hD : va_D A (wB cy r (upF σ1 39 g3)) := hD
      refine W.widen (k := 0) (n := 0) (Nat.le_of_ble_eq_true rfl) (Nat.le_of_ble_eq_true rfl) ?_
      exact k_vret (X := St) (w1 := fun τ => wB cy r τ) (upF σ1 39 g3) hx hb hr d_X11_mentionCall_45 hlocks hP hK hD hS i1
  rw [hH] at hgoal
  exact hgoal
set_option maxHeartbeats 4000000 in
set_option maxRecDepth 100000 in
theorem s_X11_open (l : Launch) (D : va_G) (cy : Nat → ClassId) (sz : Nat) (r : Nat → Nat) (σ : St) (inv : Inv σ) : Met l y_X11_open (Cond.code y_X11_open b_X11_open 1 none :: GW) ({ frames := 1, cells := 0, slots := 0, locals := 22 } : Room) (va_Pc [.ref (r 6)] (kPre D cy sz (wB cy r σ))) ((fun A : Nat → Prop => va_Qv (S := St) (fun (τ : St) => Inv τ) (fun τ => kPost D cy A (wB cy r τ)) A) (va_A (wB cy r σ) sz)) 0 0 (va_A (wB cy r σ) sz) := by
  refine k_ofW (Qc := fun A => va_Qv (S := St) (fun (τ : St) => Inv τ) (fun τ => kPost D cy A (wB cy r τ)) A) (by decide) (Nat.le_of_ble_eq_true rfl) ?_
  intro p e s m below meth c A ls hx hb hr hml hown hlocks hin hg hNW hK hP hD hA hS hl
  have hl : lv_has ls 1 [(0, .ref (r 6))] := hl
  have hown : s.vm.findClass "LinkedUnits$Unit" = some m.cls := hown
  obtain ⟨H, hH⟩ : ∃ H, H = s.heap := ⟨_, rfl⟩
  rw [← hH] at hP
  have hS : va_S A s.heap H [] := by rw [hH]; exact va_S.rf
  have hgoal : W p l e ({ frames := 1, cells := 0, slots := 0, locals := 22 } : Room) s m (([.ref (r 6)] : List Value).toArray) below meth c H [] 0 0 (MQ below (va_Qv (S := St) (fun (τ : St) => Inv τ) (fun τ => kPost D cy A (wB cy r τ)) A) (([.ref (r 6)] : List Value).toArray) s 0 0 A) (F0 m 0 ls []) := by
    refine lv_aload_n hx hb d_X11_open_0 rfl (lv_at hl 0 rfl) ?_
    refine va_get (D := D) (ci := 11) (v := .ref (r 45)) (C := "LinkedUnits$Unit") (T := TX11) (N := 19) hx hb hg iwX11 hown hK hP 5 rfl rfl 18 (by decide) (hg _ m_345) (fun _ h9 => h9) rfl d_X11_open_1 ?_
    refine lv_aload_n hx hb d_X11_open_4 rfl (lv_at hl 0 rfl) ?_
    refine va_get (D := D) (ci := 11) (v := .int (σ 6 17)) (C := "LinkedUnits$Unit") (T := TX11) (N := 19) hx hb hg iwX11 hown hK hP 5 rfl rfl 17 (by decide) (hg _ m_344) (fun _ h9 => h9) rfl d_X11_open_5 ?_
    refine lv_aload_n hx hb d_X11_open_8 rfl (lv_at hl 0 rfl) ?_
    refine va_get (D := D) (ci := 11) (v := .int (σ 6 15)) (C := "LinkedUnits$Unit") (T := TX11) (N := 19) hx hb hg iwX11 hown hK hP 5 rfl rfl 15 (by decide) (hg _ m_342) (fun _ h9 => h9) rfl d_X11_open_9 ?_
    refine s_set1 (X := Nat → Int32) (w := fun g => .inl (cy 1, 52, .inl g)) 44 rfl (va_runSN (As := [.ref (r 45), .int (σ 6 17), .int (σ 6 15)]) (rest := []) ⟨hx, hb, hml, hown, hg⟩ (c_set_any l D cy H.size (r 45) 52 (σ 45) (σ 6 17) (σ 6 15) (Nat.le_of_ble_eq_true rfl)) ⟨(va_cnB 3 hg (gw_c m_981) rfl rfl rfl (hNW.1 _ nm_1151) (hg _ m_1) (by decide +kernel) ⟨(Nat.le_of_ble_eq_true rfl), (Nat.le_of_ble_eq_true rfl)⟩), hg _ m_980, trivial⟩ (s_pre (ws := [((r 45), .inl (cy 1, 52, .inl (σ 45)))]) (s_sub1 44 hP rfl) (s_subD 44 hD rfl) hK hNW) rfl rfl hl.1 rfl (lv_room (Nat.le_of_ble_eq_true rfl)) d_X11_open_12 ⟨(Nat.le_of_ble_eq_true rfl), (Nat.le_of_ble_eq_true rfl)⟩) hP hD hS hA (fun g1 H locs hw hP hD hS => ?_)
    have hP : va_P D vwCl (wB cy r (upF σ 45 g1)) H := hP
    have hD : va_D A (wB cy r (upF σ 45 g1)) := hD
    refine lv_aload_n hx hb d_X11_open_15 rfl (lv_at hl 0 rfl) ?_
    refine lv_dup hx hb d_X11_open_16 rfl ?_
    refine va_get (D := D) (ci := 11) (v := .int (σ 6 17)) (C := "LinkedUnits$Unit") (T := TX11) (N := 19) hx hb hg iwX11 hown hK hP 5 rfl rfl 17 (by decide) (hg _ m_344) (fun _ h9 => h9) rfl d_X11_open_17 ?_
    refine lv_iconst (v := 1) hx hb d_X11_open_20 (by decide) ?_
    refine lv_iadd hx hb d_X11_open_21 ?_
    refine va_put (D := D) (ci := 11) (v := .int ((σ 6 17) + 1)) (ty := .int) (C := "LinkedUnits$Unit") (T := TX11) (N := 19) hx hb hg iwX11 tyX11 tyX11_ok nmX11 hown hK hP hD hS 5 rfl rfl 17 (by decide) (hg _ m_344) (fun _ h9 => h9) rfl (by decide +kernel) rfl rfl (Nat.le_of_ble_eq_true rfl) d_X11_open_22 (fun H locs hP hD hS => ?_)
    have hP : va_P D vwCl (wB cy r (upC (upF σ 45 g1) 6 17 ((σ 6 17) + 1))) H := hP
    have hD : va_D A (wB cy r (upC (upF σ 45 g1) 6 17 ((σ 6 17) + 1))) := hD
    refine W.widen (k := 0) (n := 0) (Nat.le_of_ble_eq_true rfl) (Nat.le_of_ble_eq_true rfl) ?_
    exact k_vret (X := St) (w1 := fun τ => wB cy r τ) (upC (upF σ 45 g1) 6 17 ((σ 6 17) + 1)) hx hb hr d_X11_open_25 hlocks hP hK hD hS inv
  rw [hH] at hgoal
  exact hgoal
set_option maxHeartbeats 4000000 in
set_option maxRecDepth 100000 in
theorem s_X11_close (l : Launch) (D : va_G) (cy : Nat → ClassId) (sz : Nat) (r : Nat → Nat) (σ : St) (inv : Inv σ) : Met l y_X11_close (Cond.code y_X11_close b_X11_close 1 none :: GW) ({ frames := 1, cells := 0, slots := 0, locals := 21 } : Room) (va_Pc [.ref (r 6)] (kPre D cy sz (wB cy r σ))) ((fun A : Nat → Prop => va_Qv (S := St) (fun (τ : St) => Inv τ) (fun τ => kPost D cy A (wB cy r τ)) A) (va_A (wB cy r σ) sz)) 0 0 (va_A (wB cy r σ) sz) := by
  refine k_ofW (Qc := fun A => va_Qv (S := St) (fun (τ : St) => Inv τ) (fun τ => kPost D cy A (wB cy r τ)) A) (by decide) (Nat.le_of_ble_eq_true rfl) ?_
  intro p e s m below meth c A ls hx hb hr hml hown hlocks hin hg hNW hK hP hD hA hS hl
  have hl : lv_has ls 1 [(0, .ref (r 6))] := hl
  have hown : s.vm.findClass "LinkedUnits$Unit" = some m.cls := hown
  obtain ⟨H, hH⟩ : ∃ H, H = s.heap := ⟨_, rfl⟩
  rw [← hH] at hP
  have hS : va_S A s.heap H [] := by rw [hH]; exact va_S.rf
  have hgoal : W p l e ({ frames := 1, cells := 0, slots := 0, locals := 21 } : Room) s m (([.ref (r 6)] : List Value).toArray) below meth c H [] 0 0 (MQ below (va_Qv (S := St) (fun (τ : St) => Inv τ) (fun τ => kPost D cy A (wB cy r τ)) A) (([.ref (r 6)] : List Value).toArray) s 0 0 A) (F0 m 0 ls []) := by
    refine lv_aload_n hx hb d_X11_close_0 rfl (lv_at hl 0 rfl) ?_
    refine lv_dup hx hb d_X11_close_1 rfl ?_
    refine va_get (D := D) (ci := 11) (v := .int (σ 6 17)) (C := "LinkedUnits$Unit") (T := TX11) (N := 19) hx hb hg iwX11 hown hK hP 5 rfl rfl 17 (by decide) (hg _ m_344) (fun _ h9 => h9) rfl d_X11_close_2 ?_
    refine lv_iconst (v := 1) hx hb d_X11_close_5 (by decide) ?_
    refine lv_isub hx hb d_X11_close_6 ?_
    refine va_put (D := D) (ci := 11) (v := .int ((σ 6 17) - 1)) (ty := .int) (C := "LinkedUnits$Unit") (T := TX11) (N := 19) hx hb hg iwX11 tyX11 tyX11_ok nmX11 hown hK hP hD hS 5 rfl rfl 17 (by decide) (hg _ m_344) (fun _ h9 => h9) rfl (by decide +kernel) rfl rfl (Nat.le_of_ble_eq_true rfl) d_X11_close_7 (fun H locs hP hD hS => ?_)
    have hP : va_P D vwCl (wB cy r (upC σ 6 17 ((σ 6 17) - 1))) H := hP
    have hD : va_D A (wB cy r (upC σ 6 17 ((σ 6 17) - 1))) := hD
    refine lv_aload_n hx hb d_X11_close_10 rfl (lv_at hl 0 rfl) ?_
    refine lv_aload_n hx hb d_X11_close_11 rfl (lv_at hl 0 rfl) ?_
    refine va_get (D := D) (ci := 11) (v := .ref (r 45)) (C := "LinkedUnits$Unit") (T := TX11) (N := 19) hx hb hg iwX11 hown hK hP 5 rfl rfl 18 (by decide) (hg _ m_345) (fun _ h9 => h9) rfl d_X11_close_12 ?_
    refine lv_aload_n hx hb d_X11_close_15 rfl (lv_at hl 0 rfl) ?_
    refine va_get (D := D) (ci := 11) (v := .int ((σ 6 17) - 1)) (C := "LinkedUnits$Unit") (T := TX11) (N := 19) hx hb hg iwX11 hown hK hP 5 rfl rfl 17 (by decide) (hg _ m_344) (fun _ h9 => h9) rfl d_X11_close_16 ?_
    refine s_call1 (x := ((r 45), .inl (cy 1, 52, .inl ((upC σ 6 17 ((σ 6 17) - 1)) 45)))) 44 rfl (va_runSN (As := [.ref (r 45), .int ((σ 6 17) - 1)]) (rest := [.ref (r 6)]) ⟨hx, hb, hml, hown, hg⟩ (c_at_any l D cy H.size (r 45) 52 ((upC σ 6 17 ((σ 6 17) - 1)) 45) ((σ 6 17) - 1) (Nat.le_of_ble_eq_true rfl)) ⟨(va_cnB 2 hg (gw_c m_949) rfl rfl rfl (hNW.1 _ nm_1112) (hg _ m_1) (by decide +kernel) ⟨(Nat.le_of_ble_eq_true rfl), (Nat.le_of_ble_eq_true rfl)⟩), hg _ m_948, trivial⟩ (s_pre (ws := [((r 45), .inl (cy 1, 52, .inl ((upC σ 6 17 ((σ 6 17) - 1)) 45)))]) (s_sub1 44 hP rfl) (s_subD 44 hD rfl) hK hNW) rfl rfl hl.1 rfl (lv_room (Nat.le_of_ble_eq_true rfl)) d_X11_close_19 ⟨(Nat.le_of_ble_eq_true rfl), (Nat.le_of_ble_eq_true rfl)⟩) hP hD hS hA (fun r1 u1 H locs hw hP hD hS => ?_)
    have hP : va_P D vwCl (wB cy r (upC σ 6 17 ((σ 6 17) - 1))) H := hP
    have hD : va_D A (wB cy r (upC σ 6 17 ((σ 6 17) - 1))) := hD
    refine va_put (D := D) (ci := 11) (v := .int r1) (ty := .int) (C := "LinkedUnits$Unit") (T := TX11) (N := 19) hx hb hg iwX11 tyX11 tyX11_ok nmX11 hown hK hP hD hS 5 rfl rfl 15 (by decide) (hg _ m_342) (fun _ h9 => h9) rfl (by decide +kernel) rfl rfl (Nat.le_of_ble_eq_true rfl) d_X11_close_22 (fun H locs hP hD hS => ?_)
    have hP : va_P D vwCl (wB cy r (upC (upC σ 6 17 ((σ 6 17) - 1)) 6 15 r1)) H := hP
    have hD : va_D A (wB cy r (upC (upC σ 6 17 ((σ 6 17) - 1)) 6 15 r1)) := hD
    refine W.widen (k := 0) (n := 0) (Nat.le_of_ble_eq_true rfl) (Nat.le_of_ble_eq_true rfl) ?_
    exact k_vret (X := St) (w1 := fun τ => wB cy r τ) (upC (upC σ 6 17 ((σ 6 17) - 1)) 6 15 r1) hx hb hr d_X11_close_25 hlocks hP hK hD hS inv
  rw [hH] at hgoal
  exact hgoal
set_option maxHeartbeats 4000000 in
set_option maxRecDepth 100000 in
theorem s_X11_scopeStart (l : Launch) (D : va_G) (cy : Nat → ClassId) (sz : Nat) (r : Nat → Nat) (σ : St) (inv : Inv σ) : Met l y_X11_scopeStart (Cond.code y_X11_scopeStart b_X11_scopeStart 1 (some .int) :: GW) ({ frames := 1, cells := 0, slots := 0, locals := 21 } : Room) (va_Pc [.ref (r 6)] (kPre D cy sz (wB cy r σ))) ((fun A : Nat → Prop => va_Qi (S := Unit) (fun (_ : Int32) (_ : Unit) => True) (fun _ => kPost D cy A (wB cy r σ)) A) (va_A (wB cy r σ) sz)) 0 0 (va_A (wB cy r σ) sz) := by
  refine k_ofW (Qc := fun A => va_Qi (S := Unit) (fun (_ : Int32) (_ : Unit) => True) (fun _ => kPost D cy A (wB cy r σ)) A) (by decide) (Nat.le_of_ble_eq_true rfl) ?_
  intro p e s m below meth c A ls hx hb hr hml hown hlocks hin hg hNW hK hP hD hA hS hl
  have hl : lv_has ls 1 [(0, .ref (r 6))] := hl
  have hown : s.vm.findClass "LinkedUnits$Unit" = some m.cls := hown
  obtain ⟨H, hH⟩ : ∃ H, H = s.heap := ⟨_, rfl⟩
  rw [← hH] at hP
  have hS : va_S A s.heap H [] := by rw [hH]; exact va_S.rf
  have hgoal : W p l e ({ frames := 1, cells := 0, slots := 0, locals := 21 } : Room) s m (([.ref (r 6)] : List Value).toArray) below meth c H [] 0 0 (MQ below (va_Qi (S := Unit) (fun (_ : Int32) (_ : Unit) => True) (fun _ => kPost D cy A (wB cy r σ)) A) (([.ref (r 6)] : List Value).toArray) s 0 0 A) (F0 m 0 ls []) := by
    refine lv_aload_n hx hb d_X11_scopeStart_0 rfl (lv_at hl 0 rfl) ?_
    refine va_get (D := D) (ci := 11) (v := .ref (r 45)) (C := "LinkedUnits$Unit") (T := TX11) (N := 19) hx hb hg iwX11 hown hK hP 5 rfl rfl 18 (by decide) (hg _ m_345) (fun _ h9 => h9) rfl d_X11_scopeStart_1 ?_
    refine lv_aload_n hx hb d_X11_scopeStart_4 rfl (lv_at hl 0 rfl) ?_
    refine va_get (D := D) (ci := 11) (v := .int (σ 6 17)) (C := "LinkedUnits$Unit") (T := TX11) (N := 19) hx hb hg iwX11 hown hK hP 5 rfl rfl 17 (by decide) (hg _ m_344) (fun _ h9 => h9) rfl d_X11_scopeStart_5 ?_
    refine lv_iconst (v := 1) hx hb d_X11_scopeStart_8 (by decide) ?_
    refine lv_isub hx hb d_X11_scopeStart_9 ?_
    refine s_call1 (x := ((r 45), .inl (cy 1, 52, .inl (σ 45)))) 44 rfl (va_runSN (As := [.ref (r 45), .int ((σ 6 17) - 1)]) (rest := []) ⟨hx, hb, hml, hown, hg⟩ (c_at_any l D cy H.size (r 45) 52 (σ 45) ((σ 6 17) - 1) (Nat.le_of_ble_eq_true rfl)) ⟨(va_cnB 2 hg (gw_c m_949) rfl rfl rfl (hNW.1 _ nm_1112) (hg _ m_1) (by decide +kernel) ⟨(Nat.le_of_ble_eq_true rfl), (Nat.le_of_ble_eq_true rfl)⟩), hg _ m_948, trivial⟩ (s_pre (ws := [((r 45), .inl (cy 1, 52, .inl (σ 45)))]) (s_sub1 44 hP rfl) (s_subD 44 hD rfl) hK hNW) rfl rfl hl.1 rfl (lv_room (Nat.le_of_ble_eq_true rfl)) d_X11_scopeStart_10 ⟨(Nat.le_of_ble_eq_true rfl), (Nat.le_of_ble_eq_true rfl)⟩) hP hD hS hA (fun r1 u1 H locs hw hP hD hS => ?_)
    have hP : va_P D vwCl (wB cy r σ) H := hP
    have hD : va_D A (wB cy r σ) := hD
    refine W.widen (k := 0) (n := 0) (Nat.le_of_ble_eq_true rfl) (Nat.le_of_ble_eq_true rfl) ?_
    exact k_iret (X := Unit) (w1 := fun _ => wB cy r σ) () hx hb hr d_X11_scopeStart_13 hlocks hP hK hD hS trivial
  rw [hH] at hgoal
  exact hgoal
set_option maxHeartbeats 4000000 in
set_option maxRecDepth 100000 in
theorem s_X11_declareLocal (l : Launch) (D : va_G) (cy : Nat → ClassId) (sz : Nat) (r : Nat → Nat) (σ : St) (x1 : Int32) (x2 : Int32) (x3 : Int32) (inv : Inv σ) : Met l y_X11_declareLocal (Cond.code y_X11_declareLocal b_X11_declareLocal 5 none :: GW) ({ frames := 1, cells := 0, slots := 0, locals := 22 } : Room) (va_Pc [.ref (r 6), .int x1, .int x2, .int x3] (kPre D cy sz (wB cy r σ))) ((fun A : Nat → Prop => va_Qv (S := St) (fun (τ : St) => Inv τ) (fun τ => kPost D cy A (wB cy r τ)) A) (va_A (wB cy r σ) sz)) 0 0 (va_A (wB cy r σ) sz) := by
  refine k_ofW (Qc := fun A => va_Qv (S := St) (fun (τ : St) => Inv τ) (fun τ => kPost D cy A (wB cy r τ)) A) (by decide) (Nat.le_of_ble_eq_true rfl) ?_
  intro p e s m below meth c A ls hx hb hr hml hown hlocks hin hg hNW hK hP hD hA hS hl
  have hl : lv_has ls 5 [(0, .ref (r 6)), (1, .int x1), (2, .int x2), (3, .int x3)] := hl
  have hown : s.vm.findClass "LinkedUnits$Unit" = some m.cls := hown
  obtain ⟨H, hH⟩ : ∃ H, H = s.heap := ⟨_, rfl⟩
  rw [← hH] at hP
  have hS : va_S A s.heap H [] := by rw [hH]; exact va_S.rf
  have hgoal : W p l e ({ frames := 1, cells := 0, slots := 0, locals := 22 } : Room) s m (([.ref (r 6), .int x1, .int x2, .int x3] : List Value).toArray) below meth c H [] 0 0 (MQ below (va_Qv (S := St) (fun (τ : St) => Inv τ) (fun τ => kPost D cy A (wB cy r τ)) A) (([.ref (r 6), .int x1, .int x2, .int x3] : List Value).toArray) s 0 0 A) (F0 m 0 ls []) := by
    refine lv_aload_n hx hb d_X11_declareLocal_0 rfl (lv_at hl 0 rfl) ?_
    refine va_get (D := D) (ci := 11) (v := .int (σ 6 10)) (C := "LinkedUnits$Unit") (T := TX11) (N := 19) hx hb hg iwX11 hown hK hP 5 rfl rfl 10 (by decide) (hg _ m_331) (fun _ h9 => h9) rfl d_X11_declareLocal_1 ?_
    refine lv_istore (lv' := [(4, .int (σ 6 10)), (0, .ref (r 6)), (1, .int x1), (2, .int x2), (3, .int x3)]) hx hb d_X11_declareLocal_4 hl (by decide) rfl (fun ls hl => ?_)
    refine lv_aload_n hx hb d_X11_declareLocal_6 rfl (lv_at hl 1 rfl) ?_
    refine va_get (D := D) (ci := 11) (v := .ref (r 40)) (C := "LinkedUnits$Unit") (T := TX11) (N := 19) hx hb hg iwX11 hown hK hP 5 rfl rfl 11 (by decide) (hg _ m_333) (fun _ h9 => h9) rfl d_X11_declareLocal_7 ?_
    refine lv_iload hx hb d_X11_declareLocal_10 (lv_at hl 0 rfl) ?_
    refine lv_iload_n hx hb d_X11_declareLocal_12 rfl (lv_at hl 2 rfl) ?_
    refine s_set1 (X := Nat → Int32) (w := fun g => .inl (cy 1, 100, .inl g)) 39 rfl (va_runSN (As := [.ref (r 40), .int (σ 6 10), .int x1]) (rest := []) ⟨hx, hb, hml, hown, hg⟩ (c_set_any l D cy H.size (r 40) 100 (σ 40) (σ 6 10) x1 (Nat.le_of_ble_eq_true rfl)) ⟨(va_cnB 3 hg (gw_c m_981) rfl rfl rfl (hNW.1 _ nm_1151) (hg _ m_1) (by decide +kernel) ⟨(Nat.le_of_ble_eq_true rfl), (Nat.le_of_ble_eq_true rfl)⟩), hg _ m_980, trivial⟩ (s_pre (ws := [((r 40), .inl (cy 1, 100, .inl (σ 40)))]) (s_sub1 39 hP rfl) (s_subD 39 hD rfl) hK hNW) rfl rfl hl.1 rfl (lv_room (Nat.le_of_ble_eq_true rfl)) d_X11_declareLocal_13 ⟨(Nat.le_of_ble_eq_true rfl), (Nat.le_of_ble_eq_true rfl)⟩) hP hD hS hA (fun g1 H locs hw hP hD hS => ?_)
    have hP : va_P D vwCl (wB cy r (upF σ 40 g1)) H := hP
    have hD : va_D A (wB cy r (upF σ 40 g1)) := hD
    refine lv_aload_n hx hb d_X11_declareLocal_16 rfl (lv_at hl 1 rfl) ?_
    refine va_get (D := D) (ci := 11) (v := .ref (r 41)) (C := "LinkedUnits$Unit") (T := TX11) (N := 19) hx hb hg iwX11 hown hK hP 5 rfl rfl 12 (by decide) (hg _ m_334) (fun _ h9 => h9) rfl d_X11_declareLocal_17 ?_
    refine lv_iload hx hb d_X11_declareLocal_20 (lv_at hl 0 rfl) ?_
    refine lv_iload_n hx hb d_X11_declareLocal_22 rfl (lv_at hl 3 rfl) ?_
    refine s_set1 (X := Nat → Int32) (w := fun g => .inl (cy 1, 100, .inl g)) 40 rfl (va_runSN (As := [.ref (r 41), .int (σ 6 10), .int x2]) (rest := []) ⟨hx, hb, hml, hown, hg⟩ (c_set_any l D cy H.size (r 41) 100 ((upF σ 40 g1) 41) (σ 6 10) x2 (Nat.le_of_ble_eq_true rfl)) ⟨(va_cnB 3 hg (gw_c m_981) rfl rfl rfl (hNW.1 _ nm_1151) (hg _ m_1) (by decide +kernel) ⟨(Nat.le_of_ble_eq_true rfl), (Nat.le_of_ble_eq_true rfl)⟩), hg _ m_980, trivial⟩ (s_pre (ws := [((r 41), .inl (cy 1, 100, .inl ((upF σ 40 g1) 41)))]) (s_sub1 40 hP rfl) (s_subD 40 hD rfl) hK hNW) rfl rfl hl.1 rfl (lv_room (Nat.le_of_ble_eq_true rfl)) d_X11_declareLocal_23 ⟨(Nat.le_of_ble_eq_true rfl), (Nat.le_of_ble_eq_true rfl)⟩) hP hD hS hA (fun g2 H locs hw hP hD hS => ?_)
    have hP : va_P D vwCl (wB cy r (upF (upF σ 40 g1) 41 g2)) H := hP
    have hD : va_D A (wB cy r (upF (upF σ 40 g1) 41 g2)) := hD
    refine lv_aload_n hx hb d_X11_declareLocal_26 rfl (lv_at hl 1 rfl) ?_
    refine va_get (D := D) (ci := 11) (v := .ref (r 42)) (C := "LinkedUnits$Unit") (T := TX11) (N := 19) hx hb hg iwX11 hown hK hP 5 rfl rfl 13 (by decide) (hg _ m_336) (fun _ h9 => h9) rfl d_X11_declareLocal_27 ?_
    refine lv_iload hx hb d_X11_declareLocal_30 (lv_at hl 0 rfl) ?_
    refine lv_iload_n hx hb d_X11_declareLocal_32 rfl (lv_at hl 4 rfl) ?_
    refine s_set1 (X := Nat → Int32) (w := fun g => .inl (cy 1, 100, .inl g)) 41 rfl (va_runSN (As := [.ref (r 42), .int (σ 6 10), .int x3]) (rest := []) ⟨hx, hb, hml, hown, hg⟩ (c_set_any l D cy H.size (r 42) 100 ((upF (upF σ 40 g1) 41 g2) 42) (σ 6 10) x3 (Nat.le_of_ble_eq_true rfl)) ⟨(va_cnB 3 hg (gw_c m_981) rfl rfl rfl (hNW.1 _ nm_1151) (hg _ m_1) (by decide +kernel) ⟨(Nat.le_of_ble_eq_true rfl), (Nat.le_of_ble_eq_true rfl)⟩), hg _ m_980, trivial⟩ (s_pre (ws := [((r 42), .inl (cy 1, 100, .inl ((upF (upF σ 40 g1) 41 g2) 42)))]) (s_sub1 41 hP rfl) (s_subD 41 hD rfl) hK hNW) rfl rfl hl.1 rfl (lv_room (Nat.le_of_ble_eq_true rfl)) d_X11_declareLocal_33 ⟨(Nat.le_of_ble_eq_true rfl), (Nat.le_of_ble_eq_true rfl)⟩) hP hD hS hA (fun g3 H locs hw hP hD hS => ?_)
    have hP : va_P D vwCl (wB cy r (upF (upF (upF σ 40 g1) 41 g2) 42 g3)) H := hP
    have hD : va_D A (wB cy r (upF (upF (upF σ 40 g1) 41 g2) 42 g3)) := hD
    refine lv_aload_n hx hb d_X11_declareLocal_36 rfl (lv_at hl 1 rfl) ?_
    refine va_get (D := D) (ci := 11) (v := .ref (r 43)) (C := "LinkedUnits$Unit") (T := TX11) (N := 19) hx hb hg iwX11 hown hK hP 5 rfl rfl 14 (by decide) (hg _ m_339) (fun _ h9 => h9) rfl d_X11_declareLocal_37 ?_
    refine lv_iload hx hb d_X11_declareLocal_40 (lv_at hl 0 rfl) ?_
    refine lv_iload_n hx hb d_X11_declareLocal_42 rfl (lv_at hl 4 rfl) ?_
    refine lv_if_ge (tgt := 50) hx hb d_X11_declareLocal_43 (by decide) (fun c_43 => ?_) (fun c_43 => ?_)
    · -- taken at 43
      refine lv_iconst (v := 1) hx hb d_X11_declareLocal_50 (by decide) ?_
      refine s_set1 (X := Nat → Int32) (w := fun g => .inl (cy 1, 100, .inl g)) 42 rfl (va_runSN (As := [.ref (r 43), .int (σ 6 10), .int 1]) (rest := []) ⟨hx, hb, hml, hown, hg⟩ (c_set_any l D cy H.size (r 43) 100 ((upF (upF (upF σ 40 g1) 41 g2) 42 g3) 43) (σ 6 10) (1 : Int32) (Nat.le_of_ble_eq_true rfl)) ⟨(va_cnB 3 hg (gw_c m_981) rfl rfl rfl (hNW.1 _ nm_1151) (hg _ m_1) (by decide +kernel) ⟨(Nat.le_of_ble_eq_true rfl), (Nat.le_of_ble_eq_true rfl)⟩), hg _ m_980, trivial⟩ (s_pre (ws := [((r 43), .inl (cy 1, 100, .inl ((upF (upF (upF σ 40 g1) 41 g2) 42 g3) 43)))]) (s_sub1 42 hP rfl) (s_subD 42 hD rfl) hK hNW) rfl rfl hl.1 rfl (lv_room (Nat.le_of_ble_eq_true rfl)) d_X11_declareLocal_51 ⟨(Nat.le_of_ble_eq_true rfl), (Nat.le_of_ble_eq_true rfl)⟩) hP hD hS hA (fun g4 H locs hw hP hD hS => ?_)
      have hP : va_P D vwCl (wB cy r (upF (upF (upF (upF σ 40 g1) 41 g2) 42 g3) 43 g4)) H := hP
      have hD : va_D A (wB cy r (upF (upF (upF (upF σ 40 g1) 41 g2) 42 g3) 43 g4)) := hD
      refine lv_aload_n hx hb d_X11_declareLocal_54 rfl (lv_at hl 1 rfl) ?_
      refine va_get (D := D) (ci := 11) (v := .ref (r 44)) (C := "LinkedUnits$Unit") (T := TX11) (N := 19) hx hb hg iwX11 hown hK hP 5 rfl rfl 16 (by decide) (hg _ m_343) (fun _ h9 => h9) rfl d_X11_declareLocal_55 ?_
      refine lv_aload_n hx hb d_X11_declareLocal_58 rfl (lv_at hl 1 rfl) ?_
      refine va_get (D := D) (ci := 11) (v := .int (σ 6 15)) (C := "LinkedUnits$Unit") (T := TX11) (N := 19) hx hb hg iwX11 hown hK hP 5 rfl rfl 15 (by decide) (hg _ m_342) (fun _ h9 => h9) rfl d_X11_declareLocal_59 ?_
      refine lv_iload hx hb d_X11_declareLocal_62 (lv_at hl 0 rfl) ?_
      refine s_set1 (X := Nat → Int32) (w := fun g => .inl (cy 1, 100, .inl g)) 43 rfl (va_runSN (As := [.ref (r 44), .int (σ 6 15), .int (σ 6 10)]) (rest := []) ⟨hx, hb, hml, hown, hg⟩ (c_set_any l D cy H.size (r 44) 100 ((upF (upF (upF (upF σ 40 g1) 41 g2) 42 g3) 43 g4) 44) (σ 6 15) (σ 6 10) (Nat.le_of_ble_eq_true rfl)) ⟨(va_cnB 3 hg (gw_c m_981) rfl rfl rfl (hNW.1 _ nm_1151) (hg _ m_1) (by decide +kernel) ⟨(Nat.le_of_ble_eq_true rfl), (Nat.le_of_ble_eq_true rfl)⟩), hg _ m_980, trivial⟩ (s_pre (ws := [((r 44), .inl (cy 1, 100, .inl ((upF (upF (upF (upF σ 40 g1) 41 g2) 42 g3) 43 g4) 44)))]) (s_sub1 43 hP rfl) (s_subD 43 hD rfl) hK hNW) rfl rfl hl.1 rfl (lv_room (Nat.le_of_ble_eq_true rfl)) d_X11_declareLocal_64 ⟨(Nat.le_of_ble_eq_true rfl), (Nat.le_of_ble_eq_true rfl)⟩) hP hD hS hA (fun g5 H locs hw hP hD hS => ?_)
      have hP : va_P D vwCl (wB cy r (upF (upF (upF (upF (upF σ 40 g1) 41 g2) 42 g3) 43 g4) 44 g5)) H := hP
      have hD : va_D A (wB cy r (upF (upF (upF (upF (upF σ 40 g1) 41 g2) 42 g3) 43 g4) 44 g5)) := hD
      refine lv_aload_n hx hb d_X11_declareLocal_67 rfl (lv_at hl 1 rfl) ?_
      refine lv_dup hx hb d_X11_declareLocal_68 rfl ?_
      refine va_get (D := D) (ci := 11) (v := .int (σ 6 10)) (C := "LinkedUnits$Unit") (T := TX11) (N := 19) hx hb hg iwX11 hown hK hP 5 rfl rfl 10 (by decide) (hg _ m_331) (fun _ h9 => h9) rfl d_X11_declareLocal_69 ?_
      refine lv_iconst (v := 1) hx hb d_X11_declareLocal_72 (by decide) ?_
      refine lv_iadd hx hb d_X11_declareLocal_73 ?_
      refine va_put (D := D) (ci := 11) (v := .int ((σ 6 10) + 1)) (ty := .int) (C := "LinkedUnits$Unit") (T := TX11) (N := 19) hx hb hg iwX11 tyX11 tyX11_ok nmX11 hown hK hP hD hS 5 rfl rfl 10 (by decide) (hg _ m_331) (fun _ h9 => h9) rfl (by decide +kernel) rfl rfl (Nat.le_of_ble_eq_true rfl) d_X11_declareLocal_74 (fun H locs hP hD hS => ?_)
      have hP : va_P D vwCl (wB cy r (upC (upF (upF (upF (upF (upF σ 40 g1) 41 g2) 42 g3) 43 g4) 44 g5) 6 10 ((σ 6 10) + 1))) H := hP
      have hD : va_D A (wB cy r (upC (upF (upF (upF (upF (upF σ 40 g1) 41 g2) 42 g3) 43 g4) 44 g5) 6 10 ((σ 6 10) + 1))) := hD
      refine lv_aload_n hx hb d_X11_declareLocal_77 rfl (lv_at hl 1 rfl) ?_
      refine lv_dup hx hb d_X11_declareLocal_78 rfl ?_
      refine va_get (D := D) (ci := 11) (v := .int (σ 6 15)) (C := "LinkedUnits$Unit") (T := TX11) (N := 19) hx hb hg iwX11 hown hK hP 5 rfl rfl 15 (by decide) (hg _ m_342) (fun _ h9 => h9) rfl d_X11_declareLocal_79 ?_
      refine lv_iconst (v := 1) hx hb d_X11_declareLocal_82 (by decide) ?_
      refine lv_iadd hx hb d_X11_declareLocal_83 ?_
      refine va_put (D := D) (ci := 11) (v := .int ((σ 6 15) + 1)) (ty := .int) (C := "LinkedUnits$Unit") (T := TX11) (N := 19) hx hb hg iwX11 tyX11 tyX11_ok nmX11 hown hK hP hD hS 5 rfl rfl 15 (by decide) (hg _ m_342) (fun _ h9 => h9) rfl (by decide +kernel) rfl rfl (Nat.le_of_ble_eq_true rfl) d_X11_declareLocal_84 (fun H locs hP hD hS => ?_)
      have hP : va_P D vwCl (wB cy r (upC (upC (upF (upF (upF (upF (upF σ 40 g1) 41 g2) 42 g3) 43 g4) 44 g5) 6 10 ((σ 6 10) + 1)) 6 15 ((σ 6 15) + 1))) H := hP
      have hD : va_D A (wB cy r (upC (upC (upF (upF (upF (upF (upF σ 40 g1) 41 g2) 42 g3) 43 g4) 44 g5) 6 10 ((σ 6 10) + 1)) 6 15 ((σ 6 15) + 1))) := hD
      refine W.widen (k := 0) (n := 0) (Nat.le_of_ble_eq_true rfl) (Nat.le_of_ble_eq_true rfl) ?_
      exact k_vret (X := St) (w1 := fun τ => wB cy r τ) (upC (upC (upF (upF (upF (upF (upF σ 40 g1) 41 g2) 42 g3) 43 g4) 44 g5) 6 10 ((σ 6 10) + 1)) 6 15 ((σ 6 15) + 1)) hx hb hr d_X11_declareLocal_87 hlocks hP hK hD hS inv
    · -- not taken at 43
      refine lv_iconst (v := 0) hx hb d_X11_declareLocal_46 (by decide) ?_
      refine lv_goto (tgt := 51) hx hb d_X11_declareLocal_47 (by decide) ?_
      refine s_set1 (X := Nat → Int32) (w := fun g => .inl (cy 1, 100, .inl g)) 42 rfl (va_runSN (As := [.ref (r 43), .int (σ 6 10), .int 0]) (rest := []) ⟨hx, hb, hml, hown, hg⟩ (c_set_any l D cy H.size (r 43) 100 ((upF (upF (upF σ 40 g1) 41 g2) 42 g3) 43) (σ 6 10) (0 : Int32) (Nat.le_of_ble_eq_true rfl)) ⟨(va_cnB 3 hg (gw_c m_981) rfl rfl rfl (hNW.1 _ nm_1151) (hg _ m_1) (by decide +kernel) ⟨(Nat.le_of_ble_eq_true rfl), (Nat.le_of_ble_eq_true rfl)⟩), hg _ m_980, trivial⟩ (s_pre (ws := [((r 43), .inl (cy 1, 100, .inl ((upF (upF (upF σ 40 g1) 41 g2) 42 g3) 43)))]) (s_sub1 42 hP rfl) (s_subD 42 hD rfl) hK hNW) rfl rfl hl.1 rfl (lv_room (Nat.le_of_ble_eq_true rfl)) d_X11_declareLocal_51 ⟨(Nat.le_of_ble_eq_true rfl), (Nat.le_of_ble_eq_true rfl)⟩) hP hD hS hA (fun g6 H locs hw hP hD hS => ?_)
      have hP : va_P D vwCl (wB cy r (upF (upF (upF (upF σ 40 g1) 41 g2) 42 g3) 43 g6)) H := hP
      have hD : va_D A (wB cy r (upF (upF (upF (upF σ 40 g1) 41 g2) 42 g3) 43 g6)) := hD
      refine lv_aload_n hx hb d_X11_declareLocal_54 rfl (lv_at hl 1 rfl) ?_
      refine va_get (D := D) (ci := 11) (v := .ref (r 44)) (C := "LinkedUnits$Unit") (T := TX11) (N := 19) hx hb hg iwX11 hown hK hP 5 rfl rfl 16 (by decide) (hg _ m_343) (fun _ h9 => h9) rfl d_X11_declareLocal_55 ?_
      refine lv_aload_n hx hb d_X11_declareLocal_58 rfl (lv_at hl 1 rfl) ?_
      refine va_get (D := D) (ci := 11) (v := .int (σ 6 15)) (C := "LinkedUnits$Unit") (T := TX11) (N := 19) hx hb hg iwX11 hown hK hP 5 rfl rfl 15 (by decide) (hg _ m_342) (fun _ h9 => h9) rfl d_X11_declareLocal_59 ?_
      refine lv_iload hx hb d_X11_declareLocal_62 (lv_at hl 0 rfl) ?_
      refine s_set1 (X := Nat → Int32) (w := fun g => .inl (cy 1, 100, .inl g)) 43 rfl (va_runSN (As := [.ref (r 44), .int (σ 6 15), .int (σ 6 10)]) (rest := []) ⟨hx, hb, hml, hown, hg⟩ (c_set_any l D cy H.size (r 44) 100 ((upF (upF (upF (upF σ 40 g1) 41 g2) 42 g3) 43 g6) 44) (σ 6 15) (σ 6 10) (Nat.le_of_ble_eq_true rfl)) ⟨(va_cnB 3 hg (gw_c m_981) rfl rfl rfl (hNW.1 _ nm_1151) (hg _ m_1) (by decide +kernel) ⟨(Nat.le_of_ble_eq_true rfl), (Nat.le_of_ble_eq_true rfl)⟩), hg _ m_980, trivial⟩ (s_pre (ws := [((r 44), .inl (cy 1, 100, .inl ((upF (upF (upF (upF σ 40 g1) 41 g2) 42 g3) 43 g6) 44)))]) (s_sub1 43 hP rfl) (s_subD 43 hD rfl) hK hNW) rfl rfl hl.1 rfl (lv_room (Nat.le_of_ble_eq_true rfl)) d_X11_declareLocal_64 ⟨(Nat.le_of_ble_eq_true rfl), (Nat.le_of_ble_eq_true rfl)⟩) hP hD hS hA (fun g7 H locs hw hP hD hS => ?_)
      have hP : va_P D vwCl (wB cy r (upF (upF (upF (upF (upF σ 40 g1) 41 g2) 42 g3) 43 g6) 44 g7)) H := hP
      have hD : va_D A (wB cy r (upF (upF (upF (upF (upF σ 40 g1) 41 g2) 42 g3) 43 g6) 44 g7)) := hD
      refine lv_aload_n hx hb d_X11_declareLocal_67 rfl (lv_at hl 1 rfl) ?_
      refine lv_dup hx hb d_X11_declareLocal_68 rfl ?_
      refine va_get (D := D) (ci := 11) (v := .int (σ 6 10)) (C := "LinkedUnits$Unit") (T := TX11) (N := 19) hx hb hg iwX11 hown hK hP 5 rfl rfl 10 (by decide) (hg _ m_331) (fun _ h9 => h9) rfl d_X11_declareLocal_69 ?_
      refine lv_iconst (v := 1) hx hb d_X11_declareLocal_72 (by decide) ?_
      refine lv_iadd hx hb d_X11_declareLocal_73 ?_
      refine va_put (D := D) (ci := 11) (v := .int ((σ 6 10) + 1)) (ty := .int) (C := "LinkedUnits$Unit") (T := TX11) (N := 19) hx hb hg iwX11 tyX11 tyX11_ok nmX11 hown hK hP hD hS 5 rfl rfl 10 (by decide) (hg _ m_331) (fun _ h9 => h9) rfl (by decide +kernel) rfl rfl (Nat.le_of_ble_eq_true rfl) d_X11_declareLocal_74 (fun H locs hP hD hS => ?_)
      have hP : va_P D vwCl (wB cy r (upC (upF (upF (upF (upF (upF σ 40 g1) 41 g2) 42 g3) 43 g6) 44 g7) 6 10 ((σ 6 10) + 1))) H := hP
      have hD : va_D A (wB cy r (upC (upF (upF (upF (upF (upF σ 40 g1) 41 g2) 42 g3) 43 g6) 44 g7) 6 10 ((σ 6 10) + 1))) := hD
      refine lv_aload_n hx hb d_X11_declareLocal_77 rfl (lv_at hl 1 rfl) ?_
      refine lv_dup hx hb d_X11_declareLocal_78 rfl ?_
      refine va_get (D := D) (ci := 11) (v := .int (σ 6 15)) (C := "LinkedUnits$Unit") (T := TX11) (N := 19) hx hb hg iwX11 hown hK hP 5 rfl rfl 15 (by decide) (hg _ m_342) (fun _ h9 => h9) rfl d_X11_declareLocal_79 ?_
      refine lv_iconst (v := 1) hx hb d_X11_declareLocal_82 (by decide) ?_
      refine lv_iadd hx hb d_X11_declareLocal_83 ?_
      refine va_put (D := D) (ci := 11) (v := .int ((σ 6 15) + 1)) (ty := .int) (C := "LinkedUnits$Unit") (T := TX11) (N := 19) hx hb hg iwX11 tyX11 tyX11_ok nmX11 hown hK hP hD hS 5 rfl rfl 15 (by decide) (hg _ m_342) (fun _ h9 => h9) rfl (by decide +kernel) rfl rfl (Nat.le_of_ble_eq_true rfl) d_X11_declareLocal_84 (fun H locs hP hD hS => ?_)
      have hP : va_P D vwCl (wB cy r (upC (upC (upF (upF (upF (upF (upF σ 40 g1) 41 g2) 42 g3) 43 g6) 44 g7) 6 10 ((σ 6 10) + 1)) 6 15 ((σ 6 15) + 1))) H := hP
      have hD : va_D A (wB cy r (upC (upC (upF (upF (upF (upF (upF σ 40 g1) 41 g2) 42 g3) 43 g6) 44 g7) 6 10 ((σ 6 10) + 1)) 6 15 ((σ 6 15) + 1))) := hD
      refine W.widen (k := 0) (n := 0) (Nat.le_of_ble_eq_true rfl) (Nat.le_of_ble_eq_true rfl) ?_
      exact k_vret (X := St) (w1 := fun τ => wB cy r τ) (upC (upC (upF (upF (upF (upF (upF σ 40 g1) 41 g2) 42 g3) 43 g6) 44 g7) 6 10 ((σ 6 10) + 1)) 6 15 ((σ 6 15) + 1)) hx hb hr d_X11_declareLocal_87 hlocks hP hK hD hS inv
  rw [hH] at hgoal
  exact hgoal
set_option maxHeartbeats 4000000 in
set_option maxRecDepth 100000 in
theorem s_X11_enter (l : Launch) (D : va_G) (cy : Nat → ClassId) (sz : Nat) (r : Nat → Nat) (σ : St) (x1 : Int32) (inv : Inv σ) : Met l y_X11_enter (Cond.code y_X11_enter b_X11_enter 2 none :: GW) ({ frames := 2, cells := 0, slots := 0, locals := 42 } : Room) (va_Pc [.ref (r 6), .int x1] (kPre D cy sz (wB cy r σ))) ((fun A : Nat → Prop => va_Qv (S := St) (fun (τ : St) => Inv τ) (fun τ => kPost D cy A (wB cy r τ)) A) (va_A (wB cy r σ) sz)) 0 0 (va_A (wB cy r σ) sz) := by
  refine k_ofW (Qc := fun A => va_Qv (S := St) (fun (τ : St) => Inv τ) (fun τ => kPost D cy A (wB cy r τ)) A) (by decide) (Nat.le_of_ble_eq_true rfl) ?_
  intro p e s m below meth c A ls hx hb hr hml hown hlocks hin hg hNW hK hP hD hA hS hl
  have hl : lv_has ls 2 [(0, .ref (r 6)), (1, .int x1)] := hl
  have hown : s.vm.findClass "LinkedUnits$Unit" = some m.cls := hown
  obtain ⟨H, hH⟩ : ∃ H, H = s.heap := ⟨_, rfl⟩
  rw [← hH] at hP
  have hS : va_S A s.heap H [] := by rw [hH]; exact va_S.rf
  have hgoal : W p l e ({ frames := 2, cells := 0, slots := 0, locals := 42 } : Room) s m (([.ref (r 6), .int x1] : List Value).toArray) below meth c H [] 0 0 (MQ below (va_Qv (S := St) (fun (τ : St) => Inv τ) (fun τ => kPost D cy A (wB cy r τ)) A) (([.ref (r 6), .int x1] : List Value).toArray) s 0 0 A) (F0 m 0 ls []) := by
    refine lv_aload_n hx hb d_X11_enter_0 rfl (lv_at hl 0 rfl) ?_
    refine s_callv (X := St) (w1 := fun τ => wB cy r τ) (va_runV (As := []) (rest := []) ⟨hx, hb, hml, hown, hg⟩ (s_X11_leave l D cy H.size r σ  inv ) (cwV 0 hg (gw_V m_1045 m_1047 ms_X11_leave m_10 m_1048) rfl rfl rfl (by decide +kernel) ⟨(Nat.le_of_ble_eq_true rfl), (Nat.le_of_ble_eq_true rfl)⟩) (s_preV (As := []) hP hD hK hNW 5 rfl rfl) rfl rfl hl.1 rfl (lv_room (Nat.le_of_ble_eq_true rfl)) d_X11_enter_1 ⟨(Nat.le_of_ble_eq_true rfl), (Nat.le_of_ble_eq_true rfl)⟩) hP hD hS hA (fun σ1 H locs hw hP hD hS => ?_)
    have hP : va_P D vwCl (wB cy r σ1) H := hP
    have hD : va_D A (wB cy r σ1) := hD
    have i1 : Inv σ1 := hw
    refine lv_aload_n hx hb d_X11_enter_4 rfl (lv_at hl 0 rfl) ?_
    refine lv_iload_n hx hb d_X11_enter_5 rfl (lv_at hl 1 rfl) ?_
    refine va_put (D := D) (ci := 11) (v := .int x1) (ty := .int) (C := "LinkedUnits$Unit") (T := TX11) (N := 19) hx hb hg iwX11 tyX11 tyX11_ok nmX11 hown hK hP hD hS 5 rfl rfl 6 (by decide) (hg _ m_324) (fun _ h9 => h9) rfl (by decide +kernel) rfl rfl (Nat.le_of_ble_eq_true rfl) d_X11_enter_6 (fun H locs hP hD hS => ?_)
    have hP : va_P D vwCl (wB cy r (upC σ1 6 6 x1)) H := hP
    have hD : va_D A (wB cy r (upC σ1 6 6 x1)) := hD
    refine lv_aload_n hx hb d_X11_enter_9 rfl (lv_at hl 0 rfl) ?_
    refine s_callv (X := St) (w1 := fun τ => wB cy r τ) (va_runV (As := []) (rest := []) ⟨hx, hb, hml, hown, hg⟩ (s_X11_open l D cy H.size r (upC σ1 6 6 x1)  i1 ) (cwV 0 hg (gw_V m_1453 m_1291 ms_X11_open m_10 m_1292) rfl rfl rfl (by decide +kernel) ⟨(Nat.le_of_ble_eq_true rfl), (Nat.le_of_ble_eq_true rfl)⟩) (s_preV (As := []) hP hD hK hNW 5 rfl rfl) rfl rfl hl.1 rfl (lv_room (Nat.le_of_ble_eq_true rfl)) d_X11_enter_10 ⟨(Nat.le_of_ble_eq_true rfl), (Nat.le_of_ble_eq_true rfl)⟩) hP hD hS hA (fun σ2 H locs hw hP hD hS => ?_)
    have hP : va_P D vwCl (wB cy r σ2) H := hP
    have hD : va_D A (wB cy r σ2) := hD
    have i2 : Inv σ2 := hw
    refine W.widen (k := 0) (n := 0) (Nat.le_of_ble_eq_true rfl) (Nat.le_of_ble_eq_true rfl) ?_
    exact k_vret (X := St) (w1 := fun τ => wB cy r τ) σ2 hx hb hr d_X11_enter_13 hlocks hP hK hD hS i2
  rw [hH] at hgoal
  exact hgoal
set_option maxHeartbeats 4000000 in
set_option maxRecDepth 100000 in
theorem s_X11_finish (l : Launch) (D : va_G) (cy : Nat → ClassId) (sz : Nat) (r : Nat → Nat) (σ : St) (inv : Inv σ) : Met l y_X11_finish (Cond.code y_X11_finish b_X11_finish 6 none :: GW) ({ frames := 2, cells := 0, slots := 0, locals := 43 } : Room) (va_Pc [.ref (r 6)] (kPre D cy sz (wB cy r σ))) ((fun A : Nat → Prop => va_Qv (S := St) (fun (τ : St) => Inv τ) (fun τ => kPost D cy A (wB cy r τ)) A) (va_A (wB cy r σ) sz)) 0 0 (va_A (wB cy r σ) sz) := by
  refine k_ofW (Qc := fun A => va_Qv (S := St) (fun (τ : St) => Inv τ) (fun τ => kPost D cy A (wB cy r τ)) A) (by decide) (Nat.le_of_ble_eq_true rfl) ?_
  intro p e s m below meth c A ls hx hb hr hml hown hlocks hin hg hNW hK hP hD hA hS hl
  have hl : lv_has ls 6 [(0, .ref (r 6))] := hl
  have hown : s.vm.findClass "LinkedUnits$Unit" = some m.cls := hown
  have b4 : ∀ (N : Nat) (σ : St) (x1 : Int32) (x2 : Int32) (H : Heap) (locs : List Loc) (ls : Array Slot), upm x2 = N → Inv σ → va_P D vwCl (wB cy r σ) H → va_D A (wB cy r σ) → va_S A s.heap H locs → lv_has ls 6 [(0, .ref (r 6)), (1, .int x1), (2, .int x2)] → W p l e ({ frames := 2, cells := 0, slots := 0, locals := 43 } : Room) s m (([.ref (r 6)] : List Value).toArray) below meth c H locs 0 0 (MQ below (va_Qv (S := St) (fun (τ : St) => Inv τ) (fun τ => kPost D cy A (wB cy r τ)) A) (([.ref (r 6)] : List Value).toArray) s 0 0 A) (F0 m 4 ls []) := by
    intro N
    induction N using Nat.strongRecOn with
    | _ N ih4 =>
      intro σ x1 x2 H locs ls N4 inv hP hD hS hl
      refine lv_iload_n hx hb d_X11_finish_4 rfl (lv_at hl 2 rfl) ?_
      refine lv_aload_n hx hb d_X11_finish_5 rfl (lv_at hl 0 rfl) ?_
      refine va_get (D := D) (ci := 11) (v := .int (σ 6 7)) (C := "LinkedUnits$Unit") (T := TX11) (N := 19) hx hb hg iwX11 hown hK hP 5 rfl rfl 7 (by decide) (hg _ m_327) (fun _ h9 => h9) rfl d_X11_finish_6 ?_
      refine lv_icmp_ge (tgt := 97) hx hb d_X11_finish_9 (by decide) (fun c_9 => ?_) (fun c_9 => ?_)
      · -- taken at 9
        refine lv_iload_n hx hb d_X11_finish_97 rfl (lv_at hl 1 rfl) ?_
        refine lv_if_lt (tgt := 107) hx hb d_X11_finish_98 (by decide) (fun c_98 => ?_) (fun c_98 => ?_)
        · -- taken at 98
          refine W.widen (k := 0) (n := 0) (Nat.le_of_ble_eq_true rfl) (Nat.le_of_ble_eq_true rfl) ?_
          exact k_vret (X := St) (w1 := fun τ => wB cy r τ) σ hx hb hr d_X11_finish_107 hlocks hP hK hD hS inv
        · -- not taken at 98
          refine lv_aload_n hx hb d_X11_finish_101 rfl (lv_at hl 0 rfl) ?_
          refine lv_iconst (v := 2) hx hb d_X11_finish_102 (by decide) ?_
          refine lv_iload_n hx hb d_X11_finish_103 rfl (lv_at hl 1 rfl) ?_
          refine s_callv (X := St) (w1 := fun τ => wB cy r τ) (va_runV (As := [.int 2, .int x1]) (rest := []) ⟨hx, hb, hml, hown, hg⟩ (s_X11_fail l D cy H.size r σ (2 : Int32) x1 inv ) (cwV 2 hg (gw_V m_1487 m_1092 ms_X11_fail m_10 m_1093) rfl rfl rfl (by decide +kernel) ⟨(Nat.le_of_ble_eq_true rfl), (Nat.le_of_ble_eq_true rfl)⟩) (s_preV (As := [.int 2, .int x1]) hP hD hK hNW 5 rfl rfl) rfl rfl hl.1 rfl (lv_room (Nat.le_of_ble_eq_true rfl)) d_X11_finish_104 ⟨(Nat.le_of_ble_eq_true rfl), (Nat.le_of_ble_eq_true rfl)⟩) hP hD hS hA (fun σ1 H locs hw hP hD hS => ?_)
          have hP : va_P D vwCl (wB cy r σ1) H := hP
          have hD : va_D A (wB cy r σ1) := hD
          have i1 : Inv σ1 := hw
          refine W.widen (k := 0) (n := 0) (Nat.le_of_ble_eq_true rfl) (Nat.le_of_ble_eq_true rfl) ?_
          exact k_vret (X := St) (w1 := fun τ => wB cy r τ) σ1 hx hb hr d_X11_finish_107 hlocks hP hK hD hS i1
      · -- not taken at 9
        refine lv_aload_n hx hb d_X11_finish_12 rfl (lv_at hl 0 rfl) ?_
        refine va_get (D := D) (ci := 11) (v := .ref (r 5)) (C := "LinkedUnits$Unit") (T := TX11) (N := 19) hx hb hg iwX11 hown hK hP 5 rfl rfl 1 (by decide) (hg _ m_309) (fun _ h9 => h9) rfl d_X11_finish_13 ?_
        refine va_getN (D := D) (ci := 8) (v := .int (σ 5 1)) (C := "LinkedUnits$Store") (T := TX8) (N := 18) hx hb hg iwX8 hown hK hP 4 rfl rfl 1 (by decide) (va_Nw.use rfl (hNW.1 _ nm_223)) (fun _ h9 => h9) rfl rfl d_X11_finish_16 ?_
        refine lv_aload_n hx hb d_X11_finish_19 rfl (lv_at hl 0 rfl) ?_
        refine va_get (D := D) (ci := 11) (v := .int (σ 6 7)) (C := "LinkedUnits$Unit") (T := TX11) (N := 19) hx hb hg iwX11 hown hK hP 5 rfl rfl 7 (by decide) (hg _ m_327) (fun _ h9 => h9) rfl d_X11_finish_20 ?_
        refine lv_isub hx hb d_X11_finish_23 ?_
        refine lv_iload_n hx hb d_X11_finish_24 rfl (lv_at hl 2 rfl) ?_
        refine lv_iadd hx hb d_X11_finish_25 ?_
        refine lv_istore_n (lv' := [(3, .int (((σ 5 1) - (σ 6 7)) + x2)), (0, .ref (r 6)), (1, .int x1), (2, .int x2)]) hx hb d_X11_finish_26 rfl hl (by decide) rfl (fun ls hl => ?_)
        refine lv_aload_n hx hb d_X11_finish_27 rfl (lv_at hl 1 rfl) ?_
        refine va_get (D := D) (ci := 11) (v := .ref (r 39)) (C := "LinkedUnits$Unit") (T := TX11) (N := 19) hx hb hg iwX11 hown hK hP 5 rfl rfl 9 (by decide) (hg _ m_330) (fun _ h9 => h9) rfl d_X11_finish_28 ?_
        refine lv_iload_n hx hb d_X11_finish_31 rfl (lv_at hl 3 rfl) ?_
        refine s_call1 (x := ((r 39), .inl (cy 1, 100, .inl (σ 39)))) 38 rfl (va_runSN (As := [.ref (r 39), .int x2]) (rest := []) ⟨hx, hb, hml, hown, hg⟩ (c_at_any l D cy H.size (r 39) 100 (σ 39) x2 (Nat.le_of_ble_eq_true rfl)) ⟨(va_cnB 2 hg (gw_c m_949) rfl rfl rfl (hNW.1 _ nm_1112) (hg _ m_1) (by decide +kernel) ⟨(Nat.le_of_ble_eq_true rfl), (Nat.le_of_ble_eq_true rfl)⟩), hg _ m_948, trivial⟩ (s_pre (ws := [((r 39), .inl (cy 1, 100, .inl (σ 39)))]) (s_sub1 38 hP rfl) (s_subD 38 hD rfl) hK hNW) rfl rfl hl.1 rfl (lv_room (Nat.le_of_ble_eq_true rfl)) d_X11_finish_32 ⟨(Nat.le_of_ble_eq_true rfl), (Nat.le_of_ble_eq_true rfl)⟩) hP hD hS hA (fun r2 u2 H locs hw hP hD hS => ?_)
        have hP : va_P D vwCl (wB cy r σ) H := hP
        have hD : va_D A (wB cy r σ) := hD
        refine lv_istore (lv' := [(4, .int r2), (3, .int (((σ 5 1) - (σ 6 7)) + x2)), (0, .ref (r 6)), (1, .int x1), (2, .int x2)]) hx hb d_X11_finish_35 hl (by decide) rfl (fun ls hl => ?_)
        refine lv_aload_n hx hb d_X11_finish_37 rfl (lv_at hl 2 rfl) ?_
        refine va_get (D := D) (ci := 11) (v := .ref (r 5)) (C := "LinkedUnits$Unit") (T := TX11) (N := 19) hx hb hg iwX11 hown hK hP 5 rfl rfl 1 (by decide) (hg _ m_309) (fun _ h9 => h9) rfl d_X11_finish_38 ?_
        refine lv_iload_n hx hb d_X11_finish_41 rfl (lv_at hl 1 rfl) ?_
        refine lv_iconst (v := 2) hx hb d_X11_finish_42 (by decide) ?_
        refine s_calli (X := Unit) (w1 := fun _ => wB cy r σ) (va_runVN (As := [.int (((σ 5 1) - (σ 6 7)) + x2), .int 2]) (rest := []) ⟨hx, hb, hml, hown, hg⟩ (s_X8_is l D cy H.size r σ (((σ 5 1) - (σ 6 7)) + x2) (2 : Int32) inv ) ⟨(va_cnB 2 hg (gw_c m_1124) rfl rfl rfl (hNW.1 _ nm_1486) (hg _ m_5) (by decide +kernel) ⟨(Nat.le_of_ble_eq_true rfl), (Nat.le_of_ble_eq_true rfl)⟩), (hg _ m_1123), hg _ ms_X8_is⟩ (s_preV (As := [.int (((σ 5 1) - (σ 6 7)) + x2), .int 2]) hP hD hK hNW 4 rfl rfl) rfl rfl hl.1 rfl (lv_room (Nat.le_of_ble_eq_true rfl)) d_X11_finish_43 ⟨(Nat.le_of_ble_eq_true rfl), (Nat.le_of_ble_eq_true rfl)⟩) hP hD hS hA (fun r3 u3 H locs hw hP hD hS => ?_)
        have hP : va_P D vwCl (wB cy r σ) H := hP
        have hD : va_D A (wB cy r σ) := hD
        have hz3 : r3 = 0 ∨ r3 = 1 := hw.1
        refine lv_if_eq (tgt := 65) hx hb d_X11_finish_46 (by decide) (fun c_46 => ?_) (fun c_46 => ?_)
        · -- taken at 46
          refine lv_iconst (v := 0) hx hb d_X11_finish_65 (by decide) ?_
          refine lv_istore (lv' := [(5, .int 0), (4, .int r2), (3, .int (((σ 5 1) - (σ 6 7)) + x2)), (0, .ref (r 6)), (1, .int x1), (2, .int x2)]) hx hb d_X11_finish_66 hl (by decide) rfl (fun ls hl => ?_)
          refine lv_iload hx hb d_X11_finish_68 (lv_at hl 0 rfl) ?_
          refine lv_if_eq (tgt := 91) hx hb d_X11_finish_70 (by decide) (fun _ => ?_) (fun c_70 => False.elim (by revert c_70; decide))
          refine lv_iinc (v := (x2 + 1)) (lv' := [(2, .int (x2 + 1)), (5, .int 0), (4, .int r2), (3, .int (((σ 5 1) - (σ 6 7)) + x2)), (0, .ref (r 6)), (1, .int x1)]) hx hb d_X11_finish_91 hl (k := 5) rfl rfl (by decide) rfl (fun ls hl => ?_)
          refine lv_goto (tgt := 4) hx hb d_X11_finish_94 (by decide) ?_
          exact ih4 _ (N4 ▸ upm_lt c_9) σ x1 (x2 + 1) _ _ _ rfl inv hP hD hS (lv_sub hl [4, 5, 0] rfl)
        · -- not taken at 46
          refine lv_aload_n hx hb d_X11_finish_49 rfl (lv_at hl 2 rfl) ?_
          refine va_get (D := D) (ci := 11) (v := .ref (r 5)) (C := "LinkedUnits$Unit") (T := TX11) (N := 19) hx hb hg iwX11 hown hK hP 5 rfl rfl 1 (by decide) (hg _ m_309) (fun _ h9 => h9) rfl d_X11_finish_50 ?_
          refine lv_iload_n hx hb d_X11_finish_53 rfl (lv_at hl 1 rfl) ?_
          refine lv_iconst (v := 4) hx hb d_X11_finish_54 (by decide) ?_
          refine s_calli (X := Unit) (w1 := fun _ => wB cy r σ) (va_runVN (As := [.int (((σ 5 1) - (σ 6 7)) + x2), .int 4]) (rest := []) ⟨hx, hb, hml, hown, hg⟩ (s_X8_is l D cy H.size r σ (((σ 5 1) - (σ 6 7)) + x2) (4 : Int32) inv ) ⟨(va_cnB 2 hg (gw_c m_1124) rfl rfl rfl (hNW.1 _ nm_1486) (hg _ m_5) (by decide +kernel) ⟨(Nat.le_of_ble_eq_true rfl), (Nat.le_of_ble_eq_true rfl)⟩), (hg _ m_1123), hg _ ms_X8_is⟩ (s_preV (As := [.int (((σ 5 1) - (σ 6 7)) + x2), .int 4]) hP hD hK hNW 4 rfl rfl) rfl rfl hl.1 rfl (lv_room (Nat.le_of_ble_eq_true rfl)) d_X11_finish_55 ⟨(Nat.le_of_ble_eq_true rfl), (Nat.le_of_ble_eq_true rfl)⟩) hP hD hS hA (fun r4 u4 H locs hw hP hD hS => ?_)
          have hP : va_P D vwCl (wB cy r σ) H := hP
          have hD : va_D A (wB cy r σ) := hD
          have hz4 : r4 = 0 ∨ r4 = 1 := hw.1
          refine lv_if_ne (tgt := 65) hx hb d_X11_finish_58 (by decide) (fun c_58 => ?_) (fun c_58 => ?_)
          · -- taken at 58
            refine lv_iconst (v := 0) hx hb d_X11_finish_65 (by decide) ?_
            refine lv_istore (lv' := [(5, .int 0), (4, .int r2), (3, .int (((σ 5 1) - (σ 6 7)) + x2)), (0, .ref (r 6)), (1, .int x1), (2, .int x2)]) hx hb d_X11_finish_66 hl (by decide) rfl (fun ls hl => ?_)
            refine lv_iload hx hb d_X11_finish_68 (lv_at hl 0 rfl) ?_
            refine lv_if_eq (tgt := 91) hx hb d_X11_finish_70 (by decide) (fun _ => ?_) (fun c_70 => False.elim (by revert c_70; decide))
            refine lv_iinc (v := (x2 + 1)) (lv' := [(2, .int (x2 + 1)), (5, .int 0), (4, .int r2), (3, .int (((σ 5 1) - (σ 6 7)) + x2)), (0, .ref (r 6)), (1, .int x1)]) hx hb d_X11_finish_91 hl (k := 5) rfl rfl (by decide) rfl (fun ls hl => ?_)
            refine lv_goto (tgt := 4) hx hb d_X11_finish_94 (by decide) ?_
            exact ih4 _ (N4 ▸ upm_lt c_9) σ x1 (x2 + 1) _ _ _ rfl inv hP hD hS (lv_sub hl [4, 5, 0] rfl)
          · -- not taken at 58
            refine lv_iconst (v := 1) hx hb d_X11_finish_61 (by decide) ?_
            refine lv_goto (tgt := 66) hx hb d_X11_finish_62 (by decide) ?_
            refine lv_istore (lv' := [(5, .int 1), (4, .int r2), (3, .int (((σ 5 1) - (σ 6 7)) + x2)), (0, .ref (r 6)), (1, .int x1), (2, .int x2)]) hx hb d_X11_finish_66 hl (by decide) rfl (fun ls hl => ?_)
            refine lv_iload hx hb d_X11_finish_68 (lv_at hl 0 rfl) ?_
            refine lv_if_eq (tgt := 91) hx hb d_X11_finish_70 (by decide) (fun c_70 => absurd c_70 (by decide)) (fun _ => ?_)
            refine lv_iload hx hb d_X11_finish_73 (lv_at hl 1 rfl) ?_
            refine lv_if_lt (tgt := 91) hx hb d_X11_finish_75 (by decide) (fun c_75 => ?_) (fun c_75 => ?_)
            · -- taken at 75
              refine lv_iinc (v := (x2 + 1)) (lv' := [(2, .int (x2 + 1)), (5, .int 1), (4, .int r2), (3, .int (((σ 5 1) - (σ 6 7)) + x2)), (0, .ref (r 6)), (1, .int x1)]) hx hb d_X11_finish_91 hl (k := 5) rfl rfl (by decide) rfl (fun ls hl => ?_)
              refine lv_goto (tgt := 4) hx hb d_X11_finish_94 (by decide) ?_
              exact ih4 _ (N4 ▸ upm_lt c_9) σ x1 (x2 + 1) _ _ _ rfl inv hP hD hS (lv_sub hl [4, 5, 0] rfl)
            · -- not taken at 75
              refine lv_iload_n hx hb d_X11_finish_78 rfl (lv_at hl 4 rfl) ?_
              refine lv_if_lt (tgt := 88) hx hb d_X11_finish_79 (by decide) (fun c_79 => ?_) (fun c_79 => ?_)
              · -- taken at 79
                refine lv_iload hx hb d_X11_finish_88 (lv_at hl 1 rfl) ?_
                refine lv_istore_n (lv' := [(1, .int r2), (5, .int 1), (4, .int r2), (3, .int (((σ 5 1) - (σ 6 7)) + x2)), (0, .ref (r 6)), (2, .int x2)]) hx hb d_X11_finish_90 rfl hl (by decide) rfl (fun ls hl => ?_)
                refine lv_iinc (v := (x2 + 1)) (lv' := [(2, .int (x2 + 1)), (1, .int r2), (5, .int 1), (4, .int r2), (3, .int (((σ 5 1) - (σ 6 7)) + x2)), (0, .ref (r 6))]) hx hb d_X11_finish_91 hl (k := 5) rfl rfl (by decide) rfl (fun ls hl => ?_)
                refine lv_goto (tgt := 4) hx hb d_X11_finish_94 (by decide) ?_
                exact ih4 _ (N4 ▸ upm_lt c_9) σ r2 (x2 + 1) _ _ _ rfl inv hP hD hS (lv_sub hl [5, 1, 0] rfl)
              · -- not taken at 79
                refine lv_iload hx hb d_X11_finish_82 (lv_at hl 1 rfl) ?_
                refine lv_iload_n hx hb d_X11_finish_84 rfl (lv_at hl 4 rfl) ?_
                refine lv_icmp_ge (tgt := 91) hx hb d_X11_finish_85 (by decide) (fun c_85 => ?_) (fun c_85 => ?_)
                · -- taken at 85
                  refine lv_iinc (v := (x2 + 1)) (lv' := [(2, .int (x2 + 1)), (5, .int 1), (4, .int r2), (3, .int (((σ 5 1) - (σ 6 7)) + x2)), (0, .ref (r 6)), (1, .int x1)]) hx hb d_X11_finish_91 hl (k := 5) rfl rfl (by decide) rfl (fun ls hl => ?_)
                  refine lv_goto (tgt := 4) hx hb d_X11_finish_94 (by decide) ?_
                  exact ih4 _ (N4 ▸ upm_lt c_9) σ x1 (x2 + 1) _ _ _ rfl inv hP hD hS (lv_sub hl [4, 5, 0] rfl)
                · -- not taken at 85
                  refine lv_iload hx hb d_X11_finish_88 (lv_at hl 1 rfl) ?_
                  refine lv_istore_n (lv' := [(1, .int r2), (5, .int 1), (4, .int r2), (3, .int (((σ 5 1) - (σ 6 7)) + x2)), (0, .ref (r 6)), (2, .int x2)]) hx hb d_X11_finish_90 rfl hl (by decide) rfl (fun ls hl => ?_)
                  refine lv_iinc (v := (x2 + 1)) (lv' := [(2, .int (x2 + 1)), (1, .int r2), (5, .int 1), (4, .int r2), (3, .int (((σ 5 1) - (σ 6 7)) + x2)), (0, .ref (r 6))]) hx hb d_X11_finish_91 hl (k := 5) rfl rfl (by decide) rfl (fun ls hl => ?_)
                  refine lv_goto (tgt := 4) hx hb d_X11_finish_94 (by decide) ?_
                  exact ih4 _ (N4 ▸ upm_lt c_9) σ r2 (x2 + 1) _ _ _ rfl inv hP hD hS (lv_sub hl [5, 1, 0] rfl)
  obtain ⟨H, hH⟩ : ∃ H, H = s.heap := ⟨_, rfl⟩
  rw [← hH] at hP
  have hS : va_S A s.heap H [] := by rw [hH]; exact va_S.rf
  have hgoal : W p l e ({ frames := 2, cells := 0, slots := 0, locals := 43 } : Room) s m (([.ref (r 6)] : List Value).toArray) below meth c H [] 0 0 (MQ below (va_Qv (S := St) (fun (τ : St) => Inv τ) (fun τ => kPost D cy A (wB cy r τ)) A) (([.ref (r 6)] : List Value).toArray) s 0 0 A) (F0 m 0 ls []) := by
    refine lv_iconst (v := (-1)) hx hb d_X11_finish_0 (by decide) ?_
    refine lv_istore_n (lv' := [(1, .int (-1)), (0, .ref (r 6))]) hx hb d_X11_finish_1 rfl hl (by decide) rfl (fun ls hl => ?_)
    refine lv_iconst (v := 0) hx hb d_X11_finish_2 (by decide) ?_
    refine lv_istore_n (lv' := [(2, .int 0), (1, .int (-1)), (0, .ref (r 6))]) hx hb d_X11_finish_3 rfl hl (by decide) rfl (fun ls hl => ?_)
    exact b4 _ σ ((-1) : Int32) (0 : Int32) _ _ _ rfl inv hP hD hS (lv_sub hl [2, 1, 0] rfl)
  rw [hH] at hgoal
  exact hgoal
set_option maxHeartbeats 4000000 in
set_option maxRecDepth 100000 in
theorem s_X11_begin (l : Launch) (D : va_G) (cy : Nat → ClassId) (sz : Nat) (r : Nat → Nat) (σ : St) (x1 : Int32) (inv : Inv σ) : Met l y_X11_begin (Cond.code y_X11_begin b_X11_begin 2 none :: GW) ({ frames := 1, cells := 0, slots := 0, locals := 20 } : Room) (va_Pc [.ref (r 6), .int x1] (kPre D cy sz (wB cy r σ))) ((fun A : Nat → Prop => va_Qv (S := St) (fun (τ : St) => Inv τ) (fun τ => kPost D cy A (wB cy r τ)) A) (va_A (wB cy r σ) sz)) 0 0 (va_A (wB cy r σ) sz) := by
  refine k_ofW (Qc := fun A => va_Qv (S := St) (fun (τ : St) => Inv τ) (fun τ => kPost D cy A (wB cy r τ)) A) (by decide) (Nat.le_of_ble_eq_true rfl) ?_
  intro p e s m below meth c A ls hx hb hr hml hown hlocks hin hg hNW hK hP hD hA hS hl
  have hl : lv_has ls 2 [(0, .ref (r 6)), (1, .int x1)] := hl
  have hown : s.vm.findClass "LinkedUnits$Unit" = some m.cls := hown
  obtain ⟨H, hH⟩ : ∃ H, H = s.heap := ⟨_, rfl⟩
  rw [← hH] at hP
  have hS : va_S A s.heap H [] := by rw [hH]; exact va_S.rf
  have hgoal : W p l e ({ frames := 1, cells := 0, slots := 0, locals := 20 } : Room) s m (([.ref (r 6), .int x1] : List Value).toArray) below meth c H [] 0 0 (MQ below (va_Qv (S := St) (fun (τ : St) => Inv τ) (fun τ => kPost D cy A (wB cy r τ)) A) (([.ref (r 6), .int x1] : List Value).toArray) s 0 0 A) (F0 m 0 ls []) := by
    refine lv_aload_n hx hb d_X11_begin_0 rfl (lv_at hl 0 rfl) ?_
    refine lv_iload_n hx hb d_X11_begin_1 rfl (lv_at hl 1 rfl) ?_
    refine va_put (D := D) (ci := 11) (v := .int x1) (ty := .int) (C := "LinkedUnits$Unit") (T := TX11) (N := 19) hx hb hg iwX11 tyX11 tyX11_ok nmX11 hown hK hP hD hS 5 rfl rfl 2 (by decide) (hg _ m_311) (fun _ h9 => h9) rfl (by decide +kernel) rfl rfl (Nat.le_of_ble_eq_true rfl) d_X11_begin_2 (fun H locs hP hD hS => ?_)
    have hP : va_P D vwCl (wB cy r (upC σ 6 2 x1)) H := hP
    have hD : va_D A (wB cy r (upC σ 6 2 x1)) := hD
    refine lv_aload_n hx hb d_X11_begin_5 rfl (lv_at hl 0 rfl) ?_
    refine lv_iconst (v := 0) hx hb d_X11_begin_6 (by decide) ?_
    refine va_put (D := D) (ci := 11) (v := .int 0) (ty := .int) (C := "LinkedUnits$Unit") (T := TX11) (N := 19) hx hb hg iwX11 tyX11 tyX11_ok nmX11 hown hK hP hD hS 5 rfl rfl 3 (by decide) (hg _ m_314) (fun _ h9 => h9) rfl (by decide +kernel) rfl rfl (Nat.le_of_ble_eq_true rfl) d_X11_begin_7 (fun H locs hP hD hS => ?_)
    have hP : va_P D vwCl (wB cy r (upC (upC σ 6 2 x1) 6 3 0)) H := hP
    have hD : va_D A (wB cy r (upC (upC σ 6 2 x1) 6 3 0)) := hD
    refine lv_aload_n hx hb d_X11_begin_10 rfl (lv_at hl 0 rfl) ?_
    refine lv_iconst (v := (-1)) hx hb d_X11_begin_11 (by decide) ?_
    refine va_put (D := D) (ci := 11) (v := .int (-1)) (ty := .int) (C := "LinkedUnits$Unit") (T := TX11) (N := 19) hx hb hg iwX11 tyX11 tyX11_ok nmX11 hown hK hP hD hS 5 rfl rfl 4 (by decide) (hg _ m_318) (fun _ h9 => h9) rfl (by decide +kernel) rfl rfl (Nat.le_of_ble_eq_true rfl) d_X11_begin_12 (fun H locs hP hD hS => ?_)
    have hP : va_P D vwCl (wB cy r (upC (upC (upC σ 6 2 x1) 6 3 0) 6 4 (-1))) H := hP
    have hD : va_D A (wB cy r (upC (upC (upC σ 6 2 x1) 6 3 0) 6 4 (-1))) := hD
    refine lv_aload_n hx hb d_X11_begin_15 rfl (lv_at hl 0 rfl) ?_
    refine lv_iconst (v := 0) hx hb d_X11_begin_16 (by decide) ?_
    refine va_put (D := D) (ci := 11) (v := .int 0) (ty := .int) (C := "LinkedUnits$Unit") (T := TX11) (N := 19) hx hb hg iwX11 tyX11 tyX11_ok nmX11 hown hK hP hD hS 5 rfl rfl 5 (by decide) (hg _ m_320) (fun _ h9 => h9) rfl (by decide +kernel) rfl rfl (Nat.le_of_ble_eq_true rfl) d_X11_begin_17 (fun H locs hP hD hS => ?_)
    have hP : va_P D vwCl (wB cy r (upC (upC (upC (upC σ 6 2 x1) 6 3 0) 6 4 (-1)) 6 5 0)) H := hP
    have hD : va_D A (wB cy r (upC (upC (upC (upC σ 6 2 x1) 6 3 0) 6 4 (-1)) 6 5 0)) := hD
    refine lv_aload_n hx hb d_X11_begin_20 rfl (lv_at hl 0 rfl) ?_
    refine lv_iconst (v := 0) hx hb d_X11_begin_21 (by decide) ?_
    refine va_put (D := D) (ci := 11) (v := .int 0) (ty := .int) (C := "LinkedUnits$Unit") (T := TX11) (N := 19) hx hb hg iwX11 tyX11 tyX11_ok nmX11 hown hK hP hD hS 5 rfl rfl 7 (by decide) (hg _ m_327) (fun _ h9 => h9) rfl (by decide +kernel) rfl rfl (Nat.le_of_ble_eq_true rfl) d_X11_begin_22 (fun H locs hP hD hS => ?_)
    have hP : va_P D vwCl (wB cy r (upC (upC (upC (upC (upC σ 6 2 x1) 6 3 0) 6 4 (-1)) 6 5 0) 6 7 0)) H := hP
    have hD : va_D A (wB cy r (upC (upC (upC (upC (upC σ 6 2 x1) 6 3 0) 6 4 (-1)) 6 5 0) 6 7 0)) := hD
    refine lv_aload_n hx hb d_X11_begin_25 rfl (lv_at hl 0 rfl) ?_
    refine s_callv (X := St) (w1 := fun τ => wB cy r τ) (va_runV (As := []) (rest := []) ⟨hx, hb, hml, hown, hg⟩ (s_X11_leave l D cy H.size r (upC (upC (upC (upC (upC σ 6 2 x1) 6 3 0) 6 4 (-1)) 6 5 0) 6 7 0)  inv ) (cwV 0 hg (gw_V m_1045 m_1047 ms_X11_leave m_10 m_1048) rfl rfl rfl (by decide +kernel) ⟨(Nat.le_of_ble_eq_true rfl), (Nat.le_of_ble_eq_true rfl)⟩) (s_preV (As := []) hP hD hK hNW 5 rfl rfl) rfl rfl hl.1 rfl (lv_room (Nat.le_of_ble_eq_true rfl)) d_X11_begin_26 ⟨(Nat.le_of_ble_eq_true rfl), (Nat.le_of_ble_eq_true rfl)⟩) hP hD hS hA (fun σ1 H locs hw hP hD hS => ?_)
    have hP : va_P D vwCl (wB cy r σ1) H := hP
    have hD : va_D A (wB cy r σ1) := hD
    have i1 : Inv σ1 := hw
    refine W.widen (k := 0) (n := 0) (Nat.le_of_ble_eq_true rfl) (Nat.le_of_ble_eq_true rfl) ?_
    exact k_vret (X := St) (w1 := fun τ => wB cy r τ) σ1 hx hb hr d_X11_begin_29 hlocks hP hK hD hS i1
  rw [hH] at hgoal
  exact hgoal
