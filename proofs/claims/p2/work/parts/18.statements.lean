set_option maxHeartbeats 4000000 in
set_option maxRecDepth 100000 in
theorem s_X7_begin (l : Launch) (D : va_G) (cy : Nat → ClassId) (sz : Nat) (r : Nat → Nat) (σ : St) (x1 : Int32) (inv : Inv σ) (z_x1 : x1 = 0 ∨ x1 = 1) : Met l y_X7_begin (Cond.code y_X7_begin b_X7_begin 2 none :: GW) ({ frames := 1, cells := 0, slots := 0, locals := 22 } : Room) (va_Pc [.ref (r 9), .int x1] (kPre D cy sz (wB cy r σ))) ((fun A : Nat → Prop => va_Qv (S := St) (fun (τ : St) => Inv τ) (fun τ => kPost D cy A (wB cy r τ)) A) (va_A (wB cy r σ) sz)) 0 0 (va_A (wB cy r σ) sz) := by
  refine k_ofW (Qc := fun A => va_Qv (S := St) (fun (τ : St) => Inv τ) (fun τ => kPost D cy A (wB cy r τ)) A) (by decide) (Nat.le_of_ble_eq_true rfl) ?_
  intro p e s m below meth c A ls hx hb hr hml hown hlocks hin hg hNW hK hP hD hA hS hl
  have hl : lv_has ls 2 [(0, .ref (r 9)), (1, .int x1)] := hl
  have hown : s.vm.findClass "LinkedUnits$Statements" = some m.cls := hown
  obtain ⟨H, hH⟩ : ∃ H, H = s.heap := ⟨_, rfl⟩
  rw [← hH] at hP
  have hS : va_S A s.heap H [] := by rw [hH]; exact va_S.rf
  have hgoal : W p l e ({ frames := 1, cells := 0, slots := 0, locals := 22 } : Room) s m (([.ref (r 9), .int x1] : List Value).toArray) below meth c H [] 0 0 (MQ below (va_Qv (S := St) (fun (τ : St) => Inv τ) (fun τ => kPost D cy A (wB cy r τ)) A) (([.ref (r 9), .int x1] : List Value).toArray) s 0 0 A) (F0 m 0 ls []) := by
    refine lv_aload_n hx hb d_X7_begin_0 rfl (lv_at hl 0 rfl) ?_
    refine va_get (D := D) (ci := 7) (v := .ref (r 49)) (C := "LinkedUnits$Statements") (T := TX7) (N := 12) hx hb hg iwX7 hown hK hP 8 rfl rfl 6 (by decide) (hg _ m_559) (fun _ h9 => h9) rfl d_X7_begin_1 ?_
    refine lv_aload_n hx hb d_X7_begin_4 rfl (lv_at hl 0 rfl) ?_
    refine va_get (D := D) (ci := 7) (v := .int (σ 9 5)) (C := "LinkedUnits$Statements") (T := TX7) (N := 12) hx hb hg iwX7 hown hK hP 8 rfl rfl 5 (by decide) (hg _ m_558) (fun _ h9 => h9) rfl d_X7_begin_5 ?_
    refine lv_iload_n hx hb d_X7_begin_8 rfl (lv_at hl 1 rfl) ?_
    refine lv_if_eq (tgt := 16) hx hb d_X7_begin_9 (by decide) (fun c_9 => ?_) (fun c_9 => ?_)
    · -- taken at 9
      refine lv_iconst (v := 0) hx hb d_X7_begin_16 (by decide) ?_
      refine s_set1 (X := Nat → Int32) (w := fun g => .inl (cy 1, 26, .inl g)) 46 rfl (va_runSN (As := [.ref (r 49), .int (σ 9 5), .int 0]) (rest := []) ⟨hx, hb, hml, hown, hg⟩ (c_set_any l D cy H.size (r 49) 26 (σ 49) (σ 9 5) (0 : Int32) (Nat.le_of_ble_eq_true rfl)) ⟨(va_cnB 3 hg (gw_c m_981) rfl rfl rfl (hNW.1 _ nm_1312) (hg _ m_1) (by decide +kernel) ⟨(Nat.le_of_ble_eq_true rfl), (Nat.le_of_ble_eq_true rfl)⟩), hg _ m_980, trivial⟩ (s_pre (ws := [((r 49), .inl (cy 1, 26, .inl (σ 49)))]) (s_sub1 46 hP rfl) (s_subD 46 hD rfl) hK hNW) rfl rfl hl.1 rfl (lv_room (Nat.le_of_ble_eq_true rfl)) d_X7_begin_17 ⟨(Nat.le_of_ble_eq_true rfl), (Nat.le_of_ble_eq_true rfl)⟩) hP hD hS hA (fun g1 H locs hw hP hD hS => ?_)
      have hP : va_P D vwCl (wB cy r (upF σ 49 g1)) H := hP
      have hD : va_D A (wB cy r (upF σ 49 g1)) := hD
      refine lv_aload_n hx hb d_X7_begin_20 rfl (lv_at hl 0 rfl) ?_
      refine va_get (D := D) (ci := 7) (v := .ref (r 50)) (C := "LinkedUnits$Statements") (T := TX7) (N := 12) hx hb hg iwX7 hown hK hP 8 rfl rfl 7 (by decide) (hg _ m_560) (fun _ h9 => h9) rfl d_X7_begin_21 ?_
      refine lv_aload_n hx hb d_X7_begin_24 rfl (lv_at hl 0 rfl) ?_
      refine va_get (D := D) (ci := 7) (v := .int (σ 9 5)) (C := "LinkedUnits$Statements") (T := TX7) (N := 12) hx hb hg iwX7 hown hK hP 8 rfl rfl 5 (by decide) (hg _ m_558) (fun _ h9 => h9) rfl d_X7_begin_25 ?_
      refine lv_aload_n hx hb d_X7_begin_28 rfl (lv_at hl 0 rfl) ?_
      refine va_get (D := D) (ci := 7) (v := .ref (r 4)) (C := "LinkedUnits$Statements") (T := TX7) (N := 12) hx hb hg iwX7 hown hK hP 8 rfl rfl 2 (by decide) (hg _ m_555) (fun _ h9 => h9) rfl d_X7_begin_29 ?_
      refine va_getN (D := D) (ci := 0) (v := .int (σ 4 1)) (C := "LinkedUnits$Code") (T := TX0) (N := 2) hx hb hg iwX0 hown hK hP 3 rfl rfl 1 (by decide) (va_Nw.use rfl (hNW.1 _ nm_154)) (fun _ h9 => h9) rfl rfl d_X7_begin_32 ?_
      refine s_set1 (X := Nat → Int32) (w := fun g => .inl (cy 1, 26, .inl g)) 47 rfl (va_runSN (As := [.ref (r 50), .int (σ 9 5), .int (σ 4 1)]) (rest := []) ⟨hx, hb, hml, hown, hg⟩ (c_set_any l D cy H.size (r 50) 26 ((upF σ 49 g1) 50) (σ 9 5) (σ 4 1) (Nat.le_of_ble_eq_true rfl)) ⟨(va_cnB 3 hg (gw_c m_981) rfl rfl rfl (hNW.1 _ nm_1312) (hg _ m_1) (by decide +kernel) ⟨(Nat.le_of_ble_eq_true rfl), (Nat.le_of_ble_eq_true rfl)⟩), hg _ m_980, trivial⟩ (s_pre (ws := [((r 50), .inl (cy 1, 26, .inl ((upF σ 49 g1) 50)))]) (s_sub1 47 hP rfl) (s_subD 47 hD rfl) hK hNW) rfl rfl hl.1 rfl (lv_room (Nat.le_of_ble_eq_true rfl)) d_X7_begin_35 ⟨(Nat.le_of_ble_eq_true rfl), (Nat.le_of_ble_eq_true rfl)⟩) hP hD hS hA (fun g2 H locs hw hP hD hS => ?_)
      have hP : va_P D vwCl (wB cy r (upF (upF σ 49 g1) 50 g2)) H := hP
      have hD : va_D A (wB cy r (upF (upF σ 49 g1) 50 g2)) := hD
      refine lv_aload_n hx hb d_X7_begin_38 rfl (lv_at hl 0 rfl) ?_
      refine va_get (D := D) (ci := 7) (v := .ref (r 51)) (C := "LinkedUnits$Statements") (T := TX7) (N := 12) hx hb hg iwX7 hown hK hP 8 rfl rfl 8 (by decide) (hg _ m_561) (fun _ h9 => h9) rfl d_X7_begin_39 ?_
      refine lv_aload_n hx hb d_X7_begin_42 rfl (lv_at hl 0 rfl) ?_
      refine va_get (D := D) (ci := 7) (v := .int (σ 9 5)) (C := "LinkedUnits$Statements") (T := TX7) (N := 12) hx hb hg iwX7 hown hK hP 8 rfl rfl 5 (by decide) (hg _ m_558) (fun _ h9 => h9) rfl d_X7_begin_43 ?_
      refine lv_iconst (v := (-1)) hx hb d_X7_begin_46 (by decide) ?_
      refine s_set1 (X := Nat → Int32) (w := fun g => .inl (cy 1, 26, .inl g)) 48 rfl (va_runSN (As := [.ref (r 51), .int (σ 9 5), .int (-1)]) (rest := []) ⟨hx, hb, hml, hown, hg⟩ (c_set_any l D cy H.size (r 51) 26 ((upF (upF σ 49 g1) 50 g2) 51) (σ 9 5) ((-1) : Int32) (Nat.le_of_ble_eq_true rfl)) ⟨(va_cnB 3 hg (gw_c m_981) rfl rfl rfl (hNW.1 _ nm_1312) (hg _ m_1) (by decide +kernel) ⟨(Nat.le_of_ble_eq_true rfl), (Nat.le_of_ble_eq_true rfl)⟩), hg _ m_980, trivial⟩ (s_pre (ws := [((r 51), .inl (cy 1, 26, .inl ((upF (upF σ 49 g1) 50 g2) 51)))]) (s_sub1 48 hP rfl) (s_subD 48 hD rfl) hK hNW) rfl rfl hl.1 rfl (lv_room (Nat.le_of_ble_eq_true rfl)) d_X7_begin_47 ⟨(Nat.le_of_ble_eq_true rfl), (Nat.le_of_ble_eq_true rfl)⟩) hP hD hS hA (fun g3 H locs hw hP hD hS => ?_)
      have hP : va_P D vwCl (wB cy r (upF (upF (upF σ 49 g1) 50 g2) 51 g3)) H := hP
      have hD : va_D A (wB cy r (upF (upF (upF σ 49 g1) 50 g2) 51 g3)) := hD
      refine lv_aload_n hx hb d_X7_begin_50 rfl (lv_at hl 0 rfl) ?_
      refine va_get (D := D) (ci := 7) (v := .ref (r 52)) (C := "LinkedUnits$Statements") (T := TX7) (N := 12) hx hb hg iwX7 hown hK hP 8 rfl rfl 9 (by decide) (hg _ m_562) (fun _ h9 => h9) rfl d_X7_begin_51 ?_
      refine lv_aload_n hx hb d_X7_begin_54 rfl (lv_at hl 0 rfl) ?_
      refine va_get (D := D) (ci := 7) (v := .int (σ 9 5)) (C := "LinkedUnits$Statements") (T := TX7) (N := 12) hx hb hg iwX7 hown hK hP 8 rfl rfl 5 (by decide) (hg _ m_558) (fun _ h9 => h9) rfl d_X7_begin_55 ?_
      refine lv_iconst (v := (-1)) hx hb d_X7_begin_58 (by decide) ?_
      refine s_set1 (X := Nat → Int32) (w := fun g => .inl (cy 1, 26, .inl g)) 49 rfl (va_runSN (As := [.ref (r 52), .int (σ 9 5), .int (-1)]) (rest := []) ⟨hx, hb, hml, hown, hg⟩ (c_set_any l D cy H.size (r 52) 26 ((upF (upF (upF σ 49 g1) 50 g2) 51 g3) 52) (σ 9 5) ((-1) : Int32) (Nat.le_of_ble_eq_true rfl)) ⟨(va_cnB 3 hg (gw_c m_981) rfl rfl rfl (hNW.1 _ nm_1312) (hg _ m_1) (by decide +kernel) ⟨(Nat.le_of_ble_eq_true rfl), (Nat.le_of_ble_eq_true rfl)⟩), hg _ m_980, trivial⟩ (s_pre (ws := [((r 52), .inl (cy 1, 26, .inl ((upF (upF (upF σ 49 g1) 50 g2) 51 g3) 52)))]) (s_sub1 49 hP rfl) (s_subD 49 hD rfl) hK hNW) rfl rfl hl.1 rfl (lv_room (Nat.le_of_ble_eq_true rfl)) d_X7_begin_59 ⟨(Nat.le_of_ble_eq_true rfl), (Nat.le_of_ble_eq_true rfl)⟩) hP hD hS hA (fun g4 H locs hw hP hD hS => ?_)
      have hP : va_P D vwCl (wB cy r (upF (upF (upF (upF σ 49 g1) 50 g2) 51 g3) 52 g4)) H := hP
      have hD : va_D A (wB cy r (upF (upF (upF (upF σ 49 g1) 50 g2) 51 g3) 52 g4)) := hD
      refine lv_aload_n hx hb d_X7_begin_62 rfl (lv_at hl 0 rfl) ?_
      refine lv_dup hx hb d_X7_begin_63 rfl ?_
      refine va_get (D := D) (ci := 7) (v := .int (σ 9 5)) (C := "LinkedUnits$Statements") (T := TX7) (N := 12) hx hb hg iwX7 hown hK hP 8 rfl rfl 5 (by decide) (hg _ m_558) (fun _ h9 => h9) rfl d_X7_begin_64 ?_
      refine lv_iconst (v := 1) hx hb d_X7_begin_67 (by decide) ?_
      refine lv_iadd hx hb d_X7_begin_68 ?_
      refine va_put (D := D) (ci := 7) (v := .int ((σ 9 5) + 1)) (ty := .int) (C := "LinkedUnits$Statements") (T := TX7) (N := 12) hx hb hg iwX7 tyX7 tyX7_ok nmX7 hown hK hP hD hS 8 rfl rfl 5 (by decide) (hg _ m_558) (fun _ h9 => h9) rfl (by decide +kernel) rfl rfl (Nat.le_of_ble_eq_true rfl) d_X7_begin_69 (fun H locs hP hD hS => ?_)
      have hP : va_P D vwCl (wB cy r (upC (upF (upF (upF (upF σ 49 g1) 50 g2) 51 g3) 52 g4) 9 5 ((σ 9 5) + 1))) H := hP
      have hD : va_D A (wB cy r (upC (upF (upF (upF (upF σ 49 g1) 50 g2) 51 g3) 52 g4) 9 5 ((σ 9 5) + 1))) := hD
      refine W.widen (k := 0) (n := 0) (Nat.le_of_ble_eq_true rfl) (Nat.le_of_ble_eq_true rfl) ?_
      exact k_vret (X := St) (w1 := fun τ => wB cy r τ) (upC (upF (upF (upF (upF σ 49 g1) 50 g2) 51 g3) 52 g4) 9 5 ((σ 9 5) + 1)) hx hb hr d_X7_begin_72 hlocks hP hK hD hS inv
    · -- not taken at 9
      refine lv_iconst (v := 1) hx hb d_X7_begin_12 (by decide) ?_
      refine lv_goto (tgt := 17) hx hb d_X7_begin_13 (by decide) ?_
      refine s_set1 (X := Nat → Int32) (w := fun g => .inl (cy 1, 26, .inl g)) 46 rfl (va_runSN (As := [.ref (r 49), .int (σ 9 5), .int 1]) (rest := []) ⟨hx, hb, hml, hown, hg⟩ (c_set_any l D cy H.size (r 49) 26 (σ 49) (σ 9 5) (1 : Int32) (Nat.le_of_ble_eq_true rfl)) ⟨(va_cnB 3 hg (gw_c m_981) rfl rfl rfl (hNW.1 _ nm_1312) (hg _ m_1) (by decide +kernel) ⟨(Nat.le_of_ble_eq_true rfl), (Nat.le_of_ble_eq_true rfl)⟩), hg _ m_980, trivial⟩ (s_pre (ws := [((r 49), .inl (cy 1, 26, .inl (σ 49)))]) (s_sub1 46 hP rfl) (s_subD 46 hD rfl) hK hNW) rfl rfl hl.1 rfl (lv_room (Nat.le_of_ble_eq_true rfl)) d_X7_begin_17 ⟨(Nat.le_of_ble_eq_true rfl), (Nat.le_of_ble_eq_true rfl)⟩) hP hD hS hA (fun g5 H locs hw hP hD hS => ?_)
      have hP : va_P D vwCl (wB cy r (upF σ 49 g5)) H := hP
      have hD : va_D A (wB cy r (upF σ 49 g5)) := hD
      refine lv_aload_n hx hb d_X7_begin_20 rfl (lv_at hl 0 rfl) ?_
      refine va_get (D := D) (ci := 7) (v := .ref (r 50)) (C := "LinkedUnits$Statements") (T := TX7) (N := 12) hx hb hg iwX7 hown hK hP 8 rfl rfl 7 (by decide) (hg _ m_560) (fun _ h9 => h9) rfl d_X7_begin_21 ?_
      refine lv_aload_n hx hb d_X7_begin_24 rfl (lv_at hl 0 rfl) ?_
      refine va_get (D := D) (ci := 7) (v := .int (σ 9 5)) (C := "LinkedUnits$Statements") (T := TX7) (N := 12) hx hb hg iwX7 hown hK hP 8 rfl rfl 5 (by decide) (hg _ m_558) (fun _ h9 => h9) rfl d_X7_begin_25 ?_
      refine lv_aload_n hx hb d_X7_begin_28 rfl (lv_at hl 0 rfl) ?_
      refine va_get (D := D) (ci := 7) (v := .ref (r 4)) (C := "LinkedUnits$Statements") (T := TX7) (N := 12) hx hb hg iwX7 hown hK hP 8 rfl rfl 2 (by decide) (hg _ m_555) (fun _ h9 => h9) rfl d_X7_begin_29 ?_
      refine va_getN (D := D) (ci := 0) (v := .int (σ 4 1)) (C := "LinkedUnits$Code") (T := TX0) (N := 2) hx hb hg iwX0 hown hK hP 3 rfl rfl 1 (by decide) (va_Nw.use rfl (hNW.1 _ nm_154)) (fun _ h9 => h9) rfl rfl d_X7_begin_32 ?_
      refine s_set1 (X := Nat → Int32) (w := fun g => .inl (cy 1, 26, .inl g)) 47 rfl (va_runSN (As := [.ref (r 50), .int (σ 9 5), .int (σ 4 1)]) (rest := []) ⟨hx, hb, hml, hown, hg⟩ (c_set_any l D cy H.size (r 50) 26 ((upF σ 49 g5) 50) (σ 9 5) (σ 4 1) (Nat.le_of_ble_eq_true rfl)) ⟨(va_cnB 3 hg (gw_c m_981) rfl rfl rfl (hNW.1 _ nm_1312) (hg _ m_1) (by decide +kernel) ⟨(Nat.le_of_ble_eq_true rfl), (Nat.le_of_ble_eq_true rfl)⟩), hg _ m_980, trivial⟩ (s_pre (ws := [((r 50), .inl (cy 1, 26, .inl ((upF σ 49 g5) 50)))]) (s_sub1 47 hP rfl) (s_subD 47 hD rfl) hK hNW) rfl rfl hl.1 rfl (lv_room (Nat.le_of_ble_eq_true rfl)) d_X7_begin_35 ⟨(Nat.le_of_ble_eq_true rfl), (Nat.le_of_ble_eq_true rfl)⟩) hP hD hS hA (fun g6 H locs hw hP hD hS => ?_)
      have hP : va_P D vwCl (wB cy r (upF (upF σ 49 g5) 50 g6)) H := hP
      have hD : va_D A (wB cy r (upF (upF σ 49 g5) 50 g6)) := hD
      refine lv_aload_n hx hb d_X7_begin_38 rfl (lv_at hl 0 rfl) ?_
      refine va_get (D := D) (ci := 7) (v := .ref (r 51)) (C := "LinkedUnits$Statements") (T := TX7) (N := 12) hx hb hg iwX7 hown hK hP 8 rfl rfl 8 (by decide) (hg _ m_561) (fun _ h9 => h9) rfl d_X7_begin_39 ?_
      refine lv_aload_n hx hb d_X7_begin_42 rfl (lv_at hl 0 rfl) ?_
      refine va_get (D := D) (ci := 7) (v := .int (σ 9 5)) (C := "LinkedUnits$Statements") (T := TX7) (N := 12) hx hb hg iwX7 hown hK hP 8 rfl rfl 5 (by decide) (hg _ m_558) (fun _ h9 => h9) rfl d_X7_begin_43 ?_
      refine lv_iconst (v := (-1)) hx hb d_X7_begin_46 (by decide) ?_
      refine s_set1 (X := Nat → Int32) (w := fun g => .inl (cy 1, 26, .inl g)) 48 rfl (va_runSN (As := [.ref (r 51), .int (σ 9 5), .int (-1)]) (rest := []) ⟨hx, hb, hml, hown, hg⟩ (c_set_any l D cy H.size (r 51) 26 ((upF (upF σ 49 g5) 50 g6) 51) (σ 9 5) ((-1) : Int32) (Nat.le_of_ble_eq_true rfl)) ⟨(va_cnB 3 hg (gw_c m_981) rfl rfl rfl (hNW.1 _ nm_1312) (hg _ m_1) (by decide +kernel) ⟨(Nat.le_of_ble_eq_true rfl), (Nat.le_of_ble_eq_true rfl)⟩), hg _ m_980, trivial⟩ (s_pre (ws := [((r 51), .inl (cy 1, 26, .inl ((upF (upF σ 49 g5) 50 g6) 51)))]) (s_sub1 48 hP rfl) (s_subD 48 hD rfl) hK hNW) rfl rfl hl.1 rfl (lv_room (Nat.le_of_ble_eq_true rfl)) d_X7_begin_47 ⟨(Nat.le_of_ble_eq_true rfl), (Nat.le_of_ble_eq_true rfl)⟩) hP hD hS hA (fun g7 H locs hw hP hD hS => ?_)
      have hP : va_P D vwCl (wB cy r (upF (upF (upF σ 49 g5) 50 g6) 51 g7)) H := hP
      have hD : va_D A (wB cy r (upF (upF (upF σ 49 g5) 50 g6) 51 g7)) := hD
      refine lv_aload_n hx hb d_X7_begin_50 rfl (lv_at hl 0 rfl) ?_
      refine va_get (D := D) (ci := 7) (v := .ref (r 52)) (C := "LinkedUnits$Statements") (T := TX7) (N := 12) hx hb hg iwX7 hown hK hP 8 rfl rfl 9 (by decide) (hg _ m_562) (fun _ h9 => h9) rfl d_X7_begin_51 ?_
      refine lv_aload_n hx hb d_X7_begin_54 rfl (lv_at hl 0 rfl) ?_
      refine va_get (D := D) (ci := 7) (v := .int (σ 9 5)) (C := "LinkedUnits$Statements") (T := TX7) (N := 12) hx hb hg iwX7 hown hK hP 8 rfl rfl 5 (by decide) (hg _ m_558) (fun _ h9 => h9) rfl d_X7_begin_55 ?_
      refine lv_iconst (v := (-1)) hx hb d_X7_begin_58 (by decide) ?_
      refine s_set1 (X := Nat → Int32) (w := fun g => .inl (cy 1, 26, .inl g)) 49 rfl (va_runSN (As := [.ref (r 52), .int (σ 9 5), .int (-1)]) (rest := []) ⟨hx, hb, hml, hown, hg⟩ (c_set_any l D cy H.size (r 52) 26 ((upF (upF (upF σ 49 g5) 50 g6) 51 g7) 52) (σ 9 5) ((-1) : Int32) (Nat.le_of_ble_eq_true rfl)) ⟨(va_cnB 3 hg (gw_c m_981) rfl rfl rfl (hNW.1 _ nm_1312) (hg _ m_1) (by decide +kernel) ⟨(Nat.le_of_ble_eq_true rfl), (Nat.le_of_ble_eq_true rfl)⟩), hg _ m_980, trivial⟩ (s_pre (ws := [((r 52), .inl (cy 1, 26, .inl ((upF (upF (upF σ 49 g5) 50 g6) 51 g7) 52)))]) (s_sub1 49 hP rfl) (s_subD 49 hD rfl) hK hNW) rfl rfl hl.1 rfl (lv_room (Nat.le_of_ble_eq_true rfl)) d_X7_begin_59 ⟨(Nat.le_of_ble_eq_true rfl), (Nat.le_of_ble_eq_true rfl)⟩) hP hD hS hA (fun g8 H locs hw hP hD hS => ?_)
      have hP : va_P D vwCl (wB cy r (upF (upF (upF (upF σ 49 g5) 50 g6) 51 g7) 52 g8)) H := hP
      have hD : va_D A (wB cy r (upF (upF (upF (upF σ 49 g5) 50 g6) 51 g7) 52 g8)) := hD
      refine lv_aload_n hx hb d_X7_begin_62 rfl (lv_at hl 0 rfl) ?_
      refine lv_dup hx hb d_X7_begin_63 rfl ?_
      refine va_get (D := D) (ci := 7) (v := .int (σ 9 5)) (C := "LinkedUnits$Statements") (T := TX7) (N := 12) hx hb hg iwX7 hown hK hP 8 rfl rfl 5 (by decide) (hg _ m_558) (fun _ h9 => h9) rfl d_X7_begin_64 ?_
      refine lv_iconst (v := 1) hx hb d_X7_begin_67 (by decide) ?_
      refine lv_iadd hx hb d_X7_begin_68 ?_
      refine va_put (D := D) (ci := 7) (v := .int ((σ 9 5) + 1)) (ty := .int) (C := "LinkedUnits$Statements") (T := TX7) (N := 12) hx hb hg iwX7 tyX7 tyX7_ok nmX7 hown hK hP hD hS 8 rfl rfl 5 (by decide) (hg _ m_558) (fun _ h9 => h9) rfl (by decide +kernel) rfl rfl (Nat.le_of_ble_eq_true rfl) d_X7_begin_69 (fun H locs hP hD hS => ?_)
      have hP : va_P D vwCl (wB cy r (upC (upF (upF (upF (upF σ 49 g5) 50 g6) 51 g7) 52 g8) 9 5 ((σ 9 5) + 1))) H := hP
      have hD : va_D A (wB cy r (upC (upF (upF (upF (upF σ 49 g5) 50 g6) 51 g7) 52 g8) 9 5 ((σ 9 5) + 1))) := hD
      refine W.widen (k := 0) (n := 0) (Nat.le_of_ble_eq_true rfl) (Nat.le_of_ble_eq_true rfl) ?_
      exact k_vret (X := St) (w1 := fun τ => wB cy r τ) (upC (upF (upF (upF (upF σ 49 g5) 50 g6) 51 g7) 52 g8) 9 5 ((σ 9 5) + 1)) hx hb hr d_X7_begin_72 hlocks hP hK hD hS inv
  rw [hH] at hgoal
  exact hgoal
set_option maxHeartbeats 4000000 in
set_option maxRecDepth 100000 in
theorem s_X7_finish (l : Launch) (D : va_G) (cy : Nat → ClassId) (sz : Nat) (r : Nat → Nat) (σ : St) (inv : Inv σ) : Met l y_X7_finish (Cond.code y_X7_finish b_X7_finish 1 none :: GW) ({ frames := 2, cells := 0, slots := 0, locals := 47 } : Room) (va_Pc [.ref (r 9)] (kPre D cy sz (wB cy r σ))) ((fun A : Nat → Prop => va_Qv (S := St) (fun (τ : St) => Inv τ) (fun τ => kPost D cy A (wB cy r τ)) A) (va_A (wB cy r σ) sz)) 0 0 (va_A (wB cy r σ) sz) := by
  refine k_ofW (Qc := fun A => va_Qv (S := St) (fun (τ : St) => Inv τ) (fun τ => kPost D cy A (wB cy r τ)) A) (by decide) (Nat.le_of_ble_eq_true rfl) ?_
  intro p e s m below meth c A ls hx hb hr hml hown hlocks hin hg hNW hK hP hD hA hS hl
  have hl : lv_has ls 1 [(0, .ref (r 9))] := hl
  have hown : s.vm.findClass "LinkedUnits$Statements" = some m.cls := hown
  obtain ⟨H, hH⟩ : ∃ H, H = s.heap := ⟨_, rfl⟩
  rw [← hH] at hP
  have hS : va_S A s.heap H [] := by rw [hH]; exact va_S.rf
  have hgoal : W p l e ({ frames := 2, cells := 0, slots := 0, locals := 47 } : Room) s m (([.ref (r 9)] : List Value).toArray) below meth c H [] 0 0 (MQ below (va_Qv (S := St) (fun (τ : St) => Inv τ) (fun τ => kPost D cy A (wB cy r τ)) A) (([.ref (r 9)] : List Value).toArray) s 0 0 A) (F0 m 0 ls []) := by
    refine lv_aload_n hx hb d_X7_finish_0 rfl (lv_at hl 0 rfl) ?_
    refine lv_dup hx hb d_X7_finish_1 rfl ?_
    refine va_get (D := D) (ci := 7) (v := .int (σ 9 5)) (C := "LinkedUnits$Statements") (T := TX7) (N := 12) hx hb hg iwX7 hown hK hP 8 rfl rfl 5 (by decide) (hg _ m_558) (fun _ h9 => h9) rfl d_X7_finish_2 ?_
    refine lv_iconst (v := 1) hx hb d_X7_finish_5 (by decide) ?_
    refine lv_isub hx hb d_X7_finish_6 ?_
    refine va_put (D := D) (ci := 7) (v := .int ((σ 9 5) - 1)) (ty := .int) (C := "LinkedUnits$Statements") (T := TX7) (N := 12) hx hb hg iwX7 tyX7 tyX7_ok nmX7 hown hK hP hD hS 8 rfl rfl 5 (by decide) (hg _ m_558) (fun _ h9 => h9) rfl (by decide +kernel) rfl rfl (Nat.le_of_ble_eq_true rfl) d_X7_finish_7 (fun H locs hP hD hS => ?_)
    have hP : va_P D vwCl (wB cy r (upC σ 9 5 ((σ 9 5) - 1))) H := hP
    have hD : va_D A (wB cy r (upC σ 9 5 ((σ 9 5) - 1))) := hD
    refine lv_aload_n hx hb d_X7_finish_10 rfl (lv_at hl 0 rfl) ?_
    refine va_get (D := D) (ci := 7) (v := .ref (r 4)) (C := "LinkedUnits$Statements") (T := TX7) (N := 12) hx hb hg iwX7 hown hK hP 8 rfl rfl 2 (by decide) (hg _ m_555) (fun _ h9 => h9) rfl d_X7_finish_11 ?_
    refine lv_aload_n hx hb d_X7_finish_14 rfl (lv_at hl 0 rfl) ?_
    refine va_get (D := D) (ci := 7) (v := .ref (r 51)) (C := "LinkedUnits$Statements") (T := TX7) (N := 12) hx hb hg iwX7 hown hK hP 8 rfl rfl 8 (by decide) (hg _ m_561) (fun _ h9 => h9) rfl d_X7_finish_15 ?_
    refine lv_aload_n hx hb d_X7_finish_18 rfl (lv_at hl 0 rfl) ?_
    refine va_get (D := D) (ci := 7) (v := .int ((σ 9 5) - 1)) (C := "LinkedUnits$Statements") (T := TX7) (N := 12) hx hb hg iwX7 hown hK hP 8 rfl rfl 5 (by decide) (hg _ m_558) (fun _ h9 => h9) rfl d_X7_finish_19 ?_
    refine s_call1 (x := ((r 51), .inl (cy 1, 26, .inl ((upC σ 9 5 ((σ 9 5) - 1)) 51)))) 48 rfl (va_runSN (As := [.ref (r 51), .int ((σ 9 5) - 1)]) (rest := [.ref (r 4)]) ⟨hx, hb, hml, hown, hg⟩ (c_at_any l D cy H.size (r 51) 26 ((upC σ 9 5 ((σ 9 5) - 1)) 51) ((σ 9 5) - 1) (Nat.le_of_ble_eq_true rfl)) ⟨(va_cnB 2 hg (gw_c m_949) rfl rfl rfl (hNW.1 _ nm_1053) (hg _ m_1) (by decide +kernel) ⟨(Nat.le_of_ble_eq_true rfl), (Nat.le_of_ble_eq_true rfl)⟩), hg _ m_948, trivial⟩ (s_pre (ws := [((r 51), .inl (cy 1, 26, .inl ((upC σ 9 5 ((σ 9 5) - 1)) 51)))]) (s_sub1 48 hP rfl) (s_subD 48 hD rfl) hK hNW) rfl rfl hl.1 rfl (lv_room (Nat.le_of_ble_eq_true rfl)) d_X7_finish_22 ⟨(Nat.le_of_ble_eq_true rfl), (Nat.le_of_ble_eq_true rfl)⟩) hP hD hS hA (fun r1 u1 H locs hw hP hD hS => ?_)
    have hP : va_P D vwCl (wB cy r (upC σ 9 5 ((σ 9 5) - 1))) H := hP
    have hD : va_D A (wB cy r (upC σ 9 5 ((σ 9 5) - 1))) := hD
    refine lv_aload_n hx hb d_X7_finish_25 rfl (lv_at hl 0 rfl) ?_
    refine va_get (D := D) (ci := 7) (v := .ref (r 4)) (C := "LinkedUnits$Statements") (T := TX7) (N := 12) hx hb hg iwX7 hown hK hP 8 rfl rfl 2 (by decide) (hg _ m_555) (fun _ h9 => h9) rfl d_X7_finish_26 ?_
    refine va_getN (D := D) (ci := 0) (v := .int (σ 4 1)) (C := "LinkedUnits$Code") (T := TX0) (N := 2) hx hb hg iwX0 hown hK hP 3 rfl rfl 1 (by decide) (va_Nw.use rfl (hNW.1 _ nm_154)) (fun _ h9 => h9) rfl rfl d_X7_finish_29 ?_
    refine s_callv (X := St) (w1 := fun τ => wB cy r τ) (va_runVN (As := [.int r1, .int (σ 4 1)]) (rest := []) ⟨hx, hb, hml, hown, hg⟩ (s_X0_aim l D cy H.size r (upC σ 9 5 ((σ 9 5) - 1)) r1 (σ 4 1) inv ) ⟨(va_cnB 2 hg (gw_c m_1212) rfl rfl rfl (hNW.1 _ nm_1318) (hg _ m_4) (by decide +kernel) ⟨(Nat.le_of_ble_eq_true rfl), (Nat.le_of_ble_eq_true rfl)⟩), (hg _ m_1211), hg _ ms_X0_aim⟩ (s_preV (As := [.int r1, .int (σ 4 1)]) hP hD hK hNW 3 rfl rfl) rfl rfl hl.1 rfl (lv_room (Nat.le_of_ble_eq_true rfl)) d_X7_finish_32 ⟨(Nat.le_of_ble_eq_true rfl), (Nat.le_of_ble_eq_true rfl)⟩) hP hD hS hA (fun σ2 H locs hw hP hD hS => ?_)
    have hP : va_P D vwCl (wB cy r σ2) H := hP
    have hD : va_D A (wB cy r σ2) := hD
    have i2 : Inv σ2 := hw
    refine W.widen (k := 0) (n := 0) (Nat.le_of_ble_eq_true rfl) (Nat.le_of_ble_eq_true rfl) ?_
    exact k_vret (X := St) (w1 := fun τ => wB cy r τ) σ2 hx hb hr d_X7_finish_35 hlocks hP hK hD hS i2
  rw [hH] at hgoal
  exact hgoal
