set_option maxHeartbeats 4000000 in
set_option maxRecDepth 100000 in
theorem s_X8_parameters (l : Launch) (D : va_G) (cy : Nat → ClassId) (sz : Nat) (x0 : Int32) : Met l y_X8_parameters (Cond.code y_X8_parameters b_X8_parameters 1 (some .int) :: GW) ({ frames := 0, cells := 0, slots := 0, locals := 0 } : Room) (va_Pc [.int x0] (kPre D cy sz [])) ((fun A : Nat → Prop => va_Qi (S := Unit) (fun (_ : Int32) (_ : Unit) => True) (fun _ => kPost D cy A []) A) (va_A [] sz)) 0 0 (va_A [] sz) := by
  refine k_ofW (Qc := fun A => va_Qi (S := Unit) (fun (_ : Int32) (_ : Unit) => True) (fun _ => kPost D cy A []) A) (by decide) (Nat.le_of_ble_eq_true rfl) ?_
  intro p e s m below meth c A ls hx hb hr hml hown hlocks hin hg hNW hK hP hD hA hS hl
  have hl : lv_has ls 1 [(0, .int x0)] := hl
  have hown : s.vm.findClass "LinkedUnits$Store" = some m.cls := hown
  obtain ⟨H, hH⟩ : ∃ H, H = s.heap := ⟨_, rfl⟩
  rw [← hH] at hP
  have hS : va_S A s.heap H [] := by rw [hH]; exact va_S.rf
  have hgoal : W p l e ({ frames := 0, cells := 0, slots := 0, locals := 0 } : Room) s m (([.int x0] : List Value).toArray) below meth c H [] 0 0 (MQ below (va_Qi (S := Unit) (fun (_ : Int32) (_ : Unit) => True) (fun _ => kPost D cy A []) A) (([.int x0] : List Value).toArray) s 0 0 A) (F0 m 0 ls []) := by
    refine lv_iload_n hx hb d_X8_parameters_0 rfl (lv_at hl 0 rfl) ?_
    refine lv_bipush (v := 24) hx hb d_X8_parameters_1 (by decide) ?_
    refine lv_iushr hx hb d_X8_parameters_3 rfl ?_
    refine k_any (fun v1 => ?_)
    refine W.widen (k := 0) (n := 0) (Nat.le_of_ble_eq_true rfl) (Nat.le_of_ble_eq_true rfl) ?_
    exact k_iret (X := Unit) (w1 := fun _ => []) () hx hb hr d_X8_parameters_4 hlocks hP hK hD hS trivial
  rw [hH] at hgoal
  exact hgoal
set_option maxHeartbeats 4000000 in
set_option maxRecDepth 100000 in
theorem s_X8_parameter (l : Launch) (D : va_G) (cy : Nat → ClassId) (sz : Nat) (x0 : Int32) (x1 : Int32) : Met l y_X8_parameter (Cond.code y_X8_parameter b_X8_parameter 2 (some .int) :: GW) ({ frames := 0, cells := 0, slots := 0, locals := 0 } : Room) (va_Pc [.int x0, .int x1] (kPre D cy sz [])) ((fun A : Nat → Prop => va_Qi (S := Unit) (fun (_ : Int32) (_ : Unit) => True) (fun _ => kPost D cy A []) A) (va_A [] sz)) 0 0 (va_A [] sz) := by
  refine k_ofW (Qc := fun A => va_Qi (S := Unit) (fun (_ : Int32) (_ : Unit) => True) (fun _ => kPost D cy A []) A) (by decide) (Nat.le_of_ble_eq_true rfl) ?_
  intro p e s m below meth c A ls hx hb hr hml hown hlocks hin hg hNW hK hP hD hA hS hl
  have hl : lv_has ls 2 [(0, .int x0), (1, .int x1)] := hl
  have hown : s.vm.findClass "LinkedUnits$Store" = some m.cls := hown
  obtain ⟨H, hH⟩ : ∃ H, H = s.heap := ⟨_, rfl⟩
  rw [← hH] at hP
  have hS : va_S A s.heap H [] := by rw [hH]; exact va_S.rf
  have hgoal : W p l e ({ frames := 0, cells := 0, slots := 0, locals := 0 } : Room) s m (([.int x0, .int x1] : List Value).toArray) below meth c H [] 0 0 (MQ below (va_Qi (S := Unit) (fun (_ : Int32) (_ : Unit) => True) (fun _ => kPost D cy A []) A) (([.int x0, .int x1] : List Value).toArray) s 0 0 A) (F0 m 0 ls []) := by
    refine lv_iload_n hx hb d_X8_parameter_0 rfl (lv_at hl 0 rfl) ?_
    refine lv_iconst (v := 3) hx hb d_X8_parameter_1 (by decide) ?_
    refine lv_iload_n hx hb d_X8_parameter_2 rfl (lv_at hl 1 rfl) ?_
    refine lv_imul hx hb d_X8_parameter_3 ?_
    refine lv_iushr hx hb d_X8_parameter_4 rfl ?_
    refine k_any (fun v1 => ?_)
    refine lv_bipush (v := 7) hx hb d_X8_parameter_5 (by decide) ?_
    refine lv_iand hx hb d_X8_parameter_7 ?_
    refine W.widen (k := 0) (n := 0) (Nat.le_of_ble_eq_true rfl) (Nat.le_of_ble_eq_true rfl) ?_
    exact k_iret (X := Unit) (w1 := fun _ => []) () hx hb hr d_X8_parameter_8 hlocks hP hK hD hS trivial
  rw [hH] at hgoal
  exact hgoal
set_option maxHeartbeats 4000000 in
set_option maxRecDepth 100000 in
theorem s_X8_is (l : Launch) (D : va_G) (cy : Nat → ClassId) (sz : Nat) (r : Nat → Nat) (σ : St) (x1 : Int32) (x2 : Int32) (inv : Inv σ) : Met l y_X8_is (Cond.code y_X8_is b_X8_is 3 (some .boolean) :: GW) ({ frames := 1, cells := 0, slots := 0, locals := 21 } : Room) (va_Pc [.ref (r 5), .int x1, .int x2] (kPre D cy sz (wB cy r σ))) ((fun A : Nat → Prop => va_Qi (S := Unit) (fun (v9 : Int32) (_ : Unit) => (v9 = 0 ∨ v9 = 1) ∧ True) (fun _ => kPost D cy A (wB cy r σ)) A) (va_A (wB cy r σ) sz)) 0 0 (va_A (wB cy r σ) sz) := by
  refine k_ofW (Qc := fun A => va_Qi (S := Unit) (fun (v9 : Int32) (_ : Unit) => (v9 = 0 ∨ v9 = 1) ∧ True) (fun _ => kPost D cy A (wB cy r σ)) A) (by decide) (Nat.le_of_ble_eq_true rfl) ?_
  intro p e s m below meth c A ls hx hb hr hml hown hlocks hin hg hNW hK hP hD hA hS hl
  have hl : lv_has ls 3 [(0, .ref (r 5)), (1, .int x1), (2, .int x2)] := hl
  have hown : s.vm.findClass "LinkedUnits$Store" = some m.cls := hown
  obtain ⟨H, hH⟩ : ∃ H, H = s.heap := ⟨_, rfl⟩
  rw [← hH] at hP
  have hS : va_S A s.heap H [] := by rw [hH]; exact va_S.rf
  have hgoal : W p l e ({ frames := 1, cells := 0, slots := 0, locals := 21 } : Room) s m (([.ref (r 5), .int x1, .int x2] : List Value).toArray) below meth c H [] 0 0 (MQ below (va_Qi (S := Unit) (fun (v9 : Int32) (_ : Unit) => (v9 = 0 ∨ v9 = 1) ∧ True) (fun _ => kPost D cy A (wB cy r σ)) A) (([.ref (r 5), .int x1, .int x2] : List Value).toArray) s 0 0 A) (F0 m 0 ls []) := by
    refine lv_aload_n hx hb d_X8_is_0 rfl (lv_at hl 0 rfl) ?_
    refine va_get (D := D) (ci := 8) (v := .ref (r 25)) (C := "LinkedUnits$Store") (T := TX8) (N := 18) hx hb hg iwX8 hown hK hP 4 rfl rfl 2 (by decide) (hg _ m_224) (fun _ h9 => h9) rfl d_X8_is_1 ?_
    refine lv_iload_n hx hb d_X8_is_4 rfl (lv_at hl 1 rfl) ?_
    refine s_call1 (x := ((r 25), .inl (cy 1, 10100, .inl (σ 25)))) 24 rfl (va_runSN (As := [.ref (r 25), .int x1]) (rest := []) ⟨hx, hb, hml, hown, hg⟩ (c_at_any l D cy H.size (r 25) 10100 (σ 25) x1 (Nat.le_of_ble_eq_true rfl)) ⟨(va_cnB 2 hg (gw_c m_949) rfl rfl rfl (hNW.1 _ nm_1125) (hg _ m_1) (by decide +kernel) ⟨(Nat.le_of_ble_eq_true rfl), (Nat.le_of_ble_eq_true rfl)⟩), hg _ m_948, trivial⟩ (s_pre (ws := [((r 25), .inl (cy 1, 10100, .inl (σ 25)))]) (s_sub1 24 hP rfl) (s_subD 24 hD rfl) hK hNW) rfl rfl hl.1 rfl (lv_room (Nat.le_of_ble_eq_true rfl)) d_X8_is_5 ⟨(Nat.le_of_ble_eq_true rfl), (Nat.le_of_ble_eq_true rfl)⟩) hP hD hS hA (fun r1 u1 H locs hw hP hD hS => ?_)
    have hP : va_P D vwCl (wB cy r σ) H := hP
    have hD : va_D A (wB cy r σ) := hD
    refine lv_iload_n hx hb d_X8_is_8 rfl (lv_at hl 2 rfl) ?_
    refine lv_iand hx hb d_X8_is_9 ?_
    refine lv_if_eq (tgt := 17) hx hb d_X8_is_10 (by decide) (fun c_10 => ?_) (fun c_10 => ?_)
    · -- taken at 10
      refine lv_iconst (v := 0) hx hb d_X8_is_17 (by decide) ?_
      refine W.widen (k := 0) (n := 0) (Nat.le_of_ble_eq_true rfl) (Nat.le_of_ble_eq_true rfl) ?_
      exact k_zret (X := Unit) (w1 := fun _ => wB cy r σ) () hx hb hr (k_nz (Or.inl rfl)) d_X8_is_18 hlocks hP hK hD hS ⟨(Or.inl rfl), trivial⟩
    · -- not taken at 10
      refine lv_iconst (v := 1) hx hb d_X8_is_13 (by decide) ?_
      refine lv_goto (tgt := 18) hx hb d_X8_is_14 (by decide) ?_
      refine W.widen (k := 0) (n := 0) (Nat.le_of_ble_eq_true rfl) (Nat.le_of_ble_eq_true rfl) ?_
      exact k_zret (X := Unit) (w1 := fun _ => wB cy r σ) () hx hb hr (k_nz (Or.inr rfl)) d_X8_is_18 hlocks hP hK hD hS ⟨(Or.inr rfl), trivial⟩
  rw [hH] at hgoal
  exact hgoal
set_option maxHeartbeats 4000000 in
set_option maxRecDepth 100000 in
theorem s_X8_mark (l : Launch) (D : va_G) (cy : Nat → ClassId) (sz : Nat) (r : Nat → Nat) (σ : St) (x1 : Int32) (x2 : Int32) (inv : Inv σ) : Met l y_X8_mark (Cond.code y_X8_mark b_X8_mark 3 none :: GW) ({ frames := 1, cells := 0, slots := 0, locals := 22 } : Room) (va_Pc [.ref (r 5), .int x1, .int x2] (kPre D cy sz (wB cy r σ))) ((fun A : Nat → Prop => va_Qv (S := St) (fun (τ : St) => Inv τ) (fun τ => kPost D cy A (wB cy r τ)) A) (va_A (wB cy r σ) sz)) 0 0 (va_A (wB cy r σ) sz) := by
  refine k_ofW (Qc := fun A => va_Qv (S := St) (fun (τ : St) => Inv τ) (fun τ => kPost D cy A (wB cy r τ)) A) (by decide) (Nat.le_of_ble_eq_true rfl) ?_
  intro p e s m below meth c A ls hx hb hr hml hown hlocks hin hg hNW hK hP hD hA hS hl
  have hl : lv_has ls 3 [(0, .ref (r 5)), (1, .int x1), (2, .int x2)] := hl
  have hown : s.vm.findClass "LinkedUnits$Store" = some m.cls := hown
  obtain ⟨H, hH⟩ : ∃ H, H = s.heap := ⟨_, rfl⟩
  rw [← hH] at hP
  have hS : va_S A s.heap H [] := by rw [hH]; exact va_S.rf
  have hgoal : W p l e ({ frames := 1, cells := 0, slots := 0, locals := 22 } : Room) s m (([.ref (r 5), .int x1, .int x2] : List Value).toArray) below meth c H [] 0 0 (MQ below (va_Qv (S := St) (fun (τ : St) => Inv τ) (fun τ => kPost D cy A (wB cy r τ)) A) (([.ref (r 5), .int x1, .int x2] : List Value).toArray) s 0 0 A) (F0 m 0 ls []) := by
    refine lv_aload_n hx hb d_X8_mark_0 rfl (lv_at hl 0 rfl) ?_
    refine va_get (D := D) (ci := 8) (v := .ref (r 25)) (C := "LinkedUnits$Store") (T := TX8) (N := 18) hx hb hg iwX8 hown hK hP 4 rfl rfl 2 (by decide) (hg _ m_224) (fun _ h9 => h9) rfl d_X8_mark_1 ?_
    refine lv_iload_n hx hb d_X8_mark_4 rfl (lv_at hl 1 rfl) ?_
    refine lv_aload_n hx hb d_X8_mark_5 rfl (lv_at hl 0 rfl) ?_
    refine va_get (D := D) (ci := 8) (v := .ref (r 25)) (C := "LinkedUnits$Store") (T := TX8) (N := 18) hx hb hg iwX8 hown hK hP 4 rfl rfl 2 (by decide) (hg _ m_224) (fun _ h9 => h9) rfl d_X8_mark_6 ?_
    refine lv_iload_n hx hb d_X8_mark_9 rfl (lv_at hl 1 rfl) ?_
    refine s_call1 (x := ((r 25), .inl (cy 1, 10100, .inl (σ 25)))) 24 rfl (va_runSN (As := [.ref (r 25), .int x1]) (rest := [.int x1, .ref (r 25)]) ⟨hx, hb, hml, hown, hg⟩ (c_at_any l D cy H.size (r 25) 10100 (σ 25) x1 (Nat.le_of_ble_eq_true rfl)) ⟨(va_cnB 2 hg (gw_c m_949) rfl rfl rfl (hNW.1 _ nm_1125) (hg _ m_1) (by decide +kernel) ⟨(Nat.le_of_ble_eq_true rfl), (Nat.le_of_ble_eq_true rfl)⟩), hg _ m_948, trivial⟩ (s_pre (ws := [((r 25), .inl (cy 1, 10100, .inl (σ 25)))]) (s_sub1 24 hP rfl) (s_subD 24 hD rfl) hK hNW) rfl rfl hl.1 rfl (lv_room (Nat.le_of_ble_eq_true rfl)) d_X8_mark_10 ⟨(Nat.le_of_ble_eq_true rfl), (Nat.le_of_ble_eq_true rfl)⟩) hP hD hS hA (fun r1 u1 H locs hw hP hD hS => ?_)
    have hP : va_P D vwCl (wB cy r σ) H := hP
    have hD : va_D A (wB cy r σ) := hD
    refine lv_iload_n hx hb d_X8_mark_13 rfl (lv_at hl 2 rfl) ?_
    refine lv_ior hx hb d_X8_mark_14 ?_
    refine s_set1 (X := Nat → Int32) (w := fun g => .inl (cy 1, 10100, .inl g)) 24 rfl (va_runSN (As := [.ref (r 25), .int x1, .int (r1 ||| x2)]) (rest := []) ⟨hx, hb, hml, hown, hg⟩ (c_set_any l D cy H.size (r 25) 10100 (σ 25) x1 (r1 ||| x2) (Nat.le_of_ble_eq_true rfl)) ⟨(va_cnB 3 hg (gw_c m_981) rfl rfl rfl (hNW.1 _ nm_1098) (hg _ m_1) (by decide +kernel) ⟨(Nat.le_of_ble_eq_true rfl), (Nat.le_of_ble_eq_true rfl)⟩), hg _ m_980, trivial⟩ (s_pre (ws := [((r 25), .inl (cy 1, 10100, .inl (σ 25)))]) (s_sub1 24 hP rfl) (s_subD 24 hD rfl) hK hNW) rfl rfl hl.1 rfl (lv_room (Nat.le_of_ble_eq_true rfl)) d_X8_mark_15 ⟨(Nat.le_of_ble_eq_true rfl), (Nat.le_of_ble_eq_true rfl)⟩) hP hD hS hA (fun g2 H locs hw hP hD hS => ?_)
    have hP : va_P D vwCl (wB cy r (upF σ 25 g2)) H := hP
    have hD : va_D A (wB cy r (upF σ 25 g2)) := hD
    refine W.widen (k := 0) (n := 0) (Nat.le_of_ble_eq_true rfl) (Nat.le_of_ble_eq_true rfl) ?_
    exact k_vret (X := St) (w1 := fun τ => wB cy r τ) (upF σ 25 g2) hx hb hr d_X8_mark_18 hlocks hP hK hD hS inv
  rw [hH] at hgoal
  exact hgoal
set_option maxHeartbeats 4000000 in
set_option maxRecDepth 100000 in
theorem s_X8_nameStart (l : Launch) (D : va_G) (cy : Nat → ClassId) (sz : Nat) (r : Nat → Nat) (σ : St) (x1 : Int32) (inv : Inv σ) : Met l y_X8_nameStart (Cond.code y_X8_nameStart b_X8_nameStart 2 (some .int) :: GW) ({ frames := 1, cells := 0, slots := 0, locals := 21 } : Room) (va_Pc [.ref (r 5), .int x1] (kPre D cy sz (wB cy r σ))) ((fun A : Nat → Prop => va_Qi (S := Unit) (fun (_ : Int32) (_ : Unit) => True) (fun _ => kPost D cy A (wB cy r σ)) A) (va_A (wB cy r σ) sz)) 0 0 (va_A (wB cy r σ) sz) := by
  refine k_ofW (Qc := fun A => va_Qi (S := Unit) (fun (_ : Int32) (_ : Unit) => True) (fun _ => kPost D cy A (wB cy r σ)) A) (by decide) (Nat.le_of_ble_eq_true rfl) ?_
  intro p e s m below meth c A ls hx hb hr hml hown hlocks hin hg hNW hK hP hD hA hS hl
  have hl : lv_has ls 2 [(0, .ref (r 5)), (1, .int x1)] := hl
  have hown : s.vm.findClass "LinkedUnits$Store" = some m.cls := hown
  obtain ⟨H, hH⟩ : ∃ H, H = s.heap := ⟨_, rfl⟩
  rw [← hH] at hP
  have hS : va_S A s.heap H [] := by rw [hH]; exact va_S.rf
  have hgoal : W p l e ({ frames := 1, cells := 0, slots := 0, locals := 21 } : Room) s m (([.ref (r 5), .int x1] : List Value).toArray) below meth c H [] 0 0 (MQ below (va_Qi (S := Unit) (fun (_ : Int32) (_ : Unit) => True) (fun _ => kPost D cy A (wB cy r σ)) A) (([.ref (r 5), .int x1] : List Value).toArray) s 0 0 A) (F0 m 0 ls []) := by
    refine lv_aload_n hx hb d_X8_nameStart_0 rfl (lv_at hl 0 rfl) ?_
    refine va_get (D := D) (ci := 8) (v := .ref (r 29)) (C := "LinkedUnits$Store") (T := TX8) (N := 18) hx hb hg iwX8 hown hK hP 4 rfl rfl 6 (by decide) (hg _ m_237) (fun _ h9 => h9) rfl d_X8_nameStart_1 ?_
    refine lv_iload_n hx hb d_X8_nameStart_4 rfl (lv_at hl 1 rfl) ?_
    refine lv_iconst (v := 1) hx hb d_X8_nameStart_5 (by decide) ?_
    refine lv_isub hx hb d_X8_nameStart_6 ?_
    refine s_call1 (x := ((r 29), .inl (cy 1, 10100, .inl (σ 29)))) 28 rfl (va_runSN (As := [.ref (r 29), .int (x1 - 1)]) (rest := []) ⟨hx, hb, hml, hown, hg⟩ (c_at_any l D cy H.size (r 29) 10100 (σ 29) (x1 - 1) (Nat.le_of_ble_eq_true rfl)) ⟨(va_cnB 2 hg (gw_c m_949) rfl rfl rfl (hNW.1 _ nm_1125) (hg _ m_1) (by decide +kernel) ⟨(Nat.le_of_ble_eq_true rfl), (Nat.le_of_ble_eq_true rfl)⟩), hg _ m_948, trivial⟩ (s_pre (ws := [((r 29), .inl (cy 1, 10100, .inl (σ 29)))]) (s_sub1 28 hP rfl) (s_subD 28 hD rfl) hK hNW) rfl rfl hl.1 rfl (lv_room (Nat.le_of_ble_eq_true rfl)) d_X8_nameStart_7 ⟨(Nat.le_of_ble_eq_true rfl), (Nat.le_of_ble_eq_true rfl)⟩) hP hD hS hA (fun r1 u1 H locs hw hP hD hS => ?_)
    have hP : va_P D vwCl (wB cy r σ) H := hP
    have hD : va_D A (wB cy r σ) := hD
    refine W.widen (k := 0) (n := 0) (Nat.le_of_ble_eq_true rfl) (Nat.le_of_ble_eq_true rfl) ?_
    exact k_iret (X := Unit) (w1 := fun _ => wB cy r σ) () hx hb hr d_X8_nameStart_10 hlocks hP hK hD hS trivial
  rw [hH] at hgoal
  exact hgoal
set_option maxHeartbeats 4000000 in
set_option maxRecDepth 100000 in
theorem s_X8_keep (l : Launch) (D : va_G) (cy : Nat → ClassId) (sz : Nat) (r : Nat → Nat) (σ : St) (x1 : Int32) (inv : Inv σ) : Met l y_X8_keep (Cond.code y_X8_keep b_X8_keep 2 (some .int) :: GW) ({ frames := 1, cells := 0, slots := 0, locals := 22 } : Room) (va_Pc [.ref (r 5), .int x1] (kPre D cy sz (wB cy r σ))) ((fun A : Nat → Prop => va_Qi (S := St) (fun (_ : Int32) (τ : St) => Inv τ) (fun τ => kPost D cy A (wB cy r τ)) A) (va_A (wB cy r σ) sz)) 0 0 (va_A (wB cy r σ) sz) := by
  refine k_ofW (Qc := fun A => va_Qi (S := St) (fun (_ : Int32) (τ : St) => Inv τ) (fun τ => kPost D cy A (wB cy r τ)) A) (by decide) (Nat.le_of_ble_eq_true rfl) ?_
  intro p e s m below meth c A ls hx hb hr hml hown hlocks hin hg hNW hK hP hD hA hS hl
  have hl : lv_has ls 2 [(0, .ref (r 5)), (1, .int x1)] := hl
  have hown : s.vm.findClass "LinkedUnits$Store" = some m.cls := hown
  obtain ⟨H, hH⟩ : ∃ H, H = s.heap := ⟨_, rfl⟩
  rw [← hH] at hP
  have hS : va_S A s.heap H [] := by rw [hH]; exact va_S.rf
  have hgoal : W p l e ({ frames := 1, cells := 0, slots := 0, locals := 22 } : Room) s m (([.ref (r 5), .int x1] : List Value).toArray) below meth c H [] 0 0 (MQ below (va_Qi (S := St) (fun (_ : Int32) (τ : St) => Inv τ) (fun τ => kPost D cy A (wB cy r τ)) A) (([.ref (r 5), .int x1] : List Value).toArray) s 0 0 A) (F0 m 0 ls []) := by
    refine lv_aload_n hx hb d_X8_keep_0 rfl (lv_at hl 0 rfl) ?_
    refine lv_dup hx hb d_X8_keep_1 rfl ?_
    refine va_get (D := D) (ci := 8) (v := .int (σ 5 13)) (C := "LinkedUnits$Store") (T := TX8) (N := 18) hx hb hg iwX8 hown hK hP 4 rfl rfl 13 (by decide) (hg _ m_249) (fun _ h9 => h9) rfl d_X8_keep_2 ?_
    refine lv_iconst (v := 1) hx hb d_X8_keep_5 (by decide) ?_
    refine lv_iadd hx hb d_X8_keep_6 ?_
    refine va_put (D := D) (ci := 8) (v := .int ((σ 5 13) + 1)) (ty := .int) (C := "LinkedUnits$Store") (T := TX8) (N := 18) hx hb hg iwX8 tyX8 tyX8_ok nmX8 hown hK hP hD hS 4 rfl rfl 13 (by decide) (hg _ m_249) (fun _ h9 => h9) rfl (by decide +kernel) rfl rfl (Nat.le_of_ble_eq_true rfl) d_X8_keep_7 (fun H locs hP hD hS => ?_)
    have hP : va_P D vwCl (wB cy r (upC σ 5 13 ((σ 5 13) + 1))) H := hP
    have hD : va_D A (wB cy r (upC σ 5 13 ((σ 5 13) + 1))) := hD
    refine lv_aload_n hx hb d_X8_keep_10 rfl (lv_at hl 0 rfl) ?_
    refine va_get (D := D) (ci := 8) (v := .ref (r 34)) (C := "LinkedUnits$Store") (T := TX8) (N := 18) hx hb hg iwX8 hown hK hP 4 rfl rfl 14 (by decide) (hg _ m_252) (fun _ h9 => h9) rfl d_X8_keep_11 ?_
    refine lv_aload_n hx hb d_X8_keep_14 rfl (lv_at hl 0 rfl) ?_
    refine va_get (D := D) (ci := 8) (v := .int ((σ 5 13) + 1)) (C := "LinkedUnits$Store") (T := TX8) (N := 18) hx hb hg iwX8 hown hK hP 4 rfl rfl 13 (by decide) (hg _ m_249) (fun _ h9 => h9) rfl d_X8_keep_15 ?_
    refine lv_aload_n hx hb d_X8_keep_18 rfl (lv_at hl 0 rfl) ?_
    refine va_get (D := D) (ci := 8) (v := .int (σ 5 1)) (C := "LinkedUnits$Store") (T := TX8) (N := 18) hx hb hg iwX8 hown hK hP 4 rfl rfl 1 (by decide) (hg _ m_222) (fun _ h9 => h9) rfl d_X8_keep_19 ?_
    refine s_set1 (X := Nat → Int32) (w := fun g => .inl (cy 1, 101, .inl g)) 33 rfl (va_runSN (As := [.ref (r 34), .int ((σ 5 13) + 1), .int (σ 5 1)]) (rest := []) ⟨hx, hb, hml, hown, hg⟩ (c_set_any l D cy H.size (r 34) 101 ((upC σ 5 13 ((σ 5 13) + 1)) 34) ((σ 5 13) + 1) (σ 5 1) (Nat.le_of_ble_eq_true rfl)) ⟨(va_cnB 3 hg (gw_c m_981) rfl rfl rfl (hNW.1 _ nm_1098) (hg _ m_1) (by decide +kernel) ⟨(Nat.le_of_ble_eq_true rfl), (Nat.le_of_ble_eq_true rfl)⟩), hg _ m_980, trivial⟩ (s_pre (ws := [((r 34), .inl (cy 1, 101, .inl ((upC σ 5 13 ((σ 5 13) + 1)) 34)))]) (s_sub1 33 hP rfl) (s_subD 33 hD rfl) hK hNW) rfl rfl hl.1 rfl (lv_room (Nat.le_of_ble_eq_true rfl)) d_X8_keep_22 ⟨(Nat.le_of_ble_eq_true rfl), (Nat.le_of_ble_eq_true rfl)⟩) hP hD hS hA (fun g1 H locs hw hP hD hS => ?_)
    have hP : va_P D vwCl (wB cy r (upF (upC σ 5 13 ((σ 5 13) + 1)) 34 g1)) H := hP
    have hD : va_D A (wB cy r (upF (upC σ 5 13 ((σ 5 13) + 1)) 34 g1)) := hD
    refine lv_aload_n hx hb d_X8_keep_25 rfl (lv_at hl 0 rfl) ?_
    refine va_get (D := D) (ci := 8) (v := .ref (r 35)) (C := "LinkedUnits$Store") (T := TX8) (N := 18) hx hb hg iwX8 hown hK hP 4 rfl rfl 15 (by decide) (hg _ m_254) (fun _ h9 => h9) rfl d_X8_keep_26 ?_
    refine lv_aload_n hx hb d_X8_keep_29 rfl (lv_at hl 0 rfl) ?_
    refine va_get (D := D) (ci := 8) (v := .int ((σ 5 13) + 1)) (C := "LinkedUnits$Store") (T := TX8) (N := 18) hx hb hg iwX8 hown hK hP 4 rfl rfl 13 (by decide) (hg _ m_249) (fun _ h9 => h9) rfl d_X8_keep_30 ?_
    refine lv_aload_n hx hb d_X8_keep_33 rfl (lv_at hl 0 rfl) ?_
    refine va_get (D := D) (ci := 8) (v := .int (σ 5 9)) (C := "LinkedUnits$Store") (T := TX8) (N := 18) hx hb hg iwX8 hown hK hP 4 rfl rfl 9 (by decide) (hg _ m_242) (fun _ h9 => h9) rfl d_X8_keep_34 ?_
    refine s_set1 (X := Nat → Int32) (w := fun g => .inl (cy 1, 101, .inl g)) 34 rfl (va_runSN (As := [.ref (r 35), .int ((σ 5 13) + 1), .int (σ 5 9)]) (rest := []) ⟨hx, hb, hml, hown, hg⟩ (c_set_any l D cy H.size (r 35) 101 ((upF (upC σ 5 13 ((σ 5 13) + 1)) 34 g1) 35) ((σ 5 13) + 1) (σ 5 9) (Nat.le_of_ble_eq_true rfl)) ⟨(va_cnB 3 hg (gw_c m_981) rfl rfl rfl (hNW.1 _ nm_1098) (hg _ m_1) (by decide +kernel) ⟨(Nat.le_of_ble_eq_true rfl), (Nat.le_of_ble_eq_true rfl)⟩), hg _ m_980, trivial⟩ (s_pre (ws := [((r 35), .inl (cy 1, 101, .inl ((upF (upC σ 5 13 ((σ 5 13) + 1)) 34 g1) 35)))]) (s_sub1 34 hP rfl) (s_subD 34 hD rfl) hK hNW) rfl rfl hl.1 rfl (lv_room (Nat.le_of_ble_eq_true rfl)) d_X8_keep_37 ⟨(Nat.le_of_ble_eq_true rfl), (Nat.le_of_ble_eq_true rfl)⟩) hP hD hS hA (fun g2 H locs hw hP hD hS => ?_)
    have hP : va_P D vwCl (wB cy r (upF (upF (upC σ 5 13 ((σ 5 13) + 1)) 34 g1) 35 g2)) H := hP
    have hD : va_D A (wB cy r (upF (upF (upC σ 5 13 ((σ 5 13) + 1)) 34 g1) 35 g2)) := hD
    refine lv_aload_n hx hb d_X8_keep_40 rfl (lv_at hl 0 rfl) ?_
    refine va_get (D := D) (ci := 8) (v := .ref (r 36)) (C := "LinkedUnits$Store") (T := TX8) (N := 18) hx hb hg iwX8 hown hK hP 4 rfl rfl 16 (by decide) (hg _ m_256) (fun _ h9 => h9) rfl d_X8_keep_41 ?_
    refine lv_aload_n hx hb d_X8_keep_44 rfl (lv_at hl 0 rfl) ?_
    refine va_get (D := D) (ci := 8) (v := .int ((σ 5 13) + 1)) (C := "LinkedUnits$Store") (T := TX8) (N := 18) hx hb hg iwX8 hown hK hP 4 rfl rfl 13 (by decide) (hg _ m_249) (fun _ h9 => h9) rfl d_X8_keep_45 ?_
    refine lv_aload_n hx hb d_X8_keep_48 rfl (lv_at hl 0 rfl) ?_
    refine va_get (D := D) (ci := 8) (v := .ref (r 4)) (C := "LinkedUnits$Store") (T := TX8) (N := 18) hx hb hg iwX8 hown hK hP 4 rfl rfl 0 (by decide) (hg _ m_221) (fun _ h9 => h9) rfl d_X8_keep_49 ?_
    refine va_getN (D := D) (ci := 0) (v := .int (σ 4 1)) (C := "LinkedUnits$Code") (T := TX0) (N := 2) hx hb hg iwX0 hown hK hP 3 rfl rfl 1 (by decide) (va_Nw.use rfl (hNW.1 _ nm_156)) (fun _ h9 => h9) rfl rfl d_X8_keep_52 ?_
    refine s_set1 (X := Nat → Int32) (w := fun g => .inl (cy 1, 101, .inl g)) 35 rfl (va_runSN (As := [.ref (r 36), .int ((σ 5 13) + 1), .int (σ 4 1)]) (rest := []) ⟨hx, hb, hml, hown, hg⟩ (c_set_any l D cy H.size (r 36) 101 ((upF (upF (upC σ 5 13 ((σ 5 13) + 1)) 34 g1) 35 g2) 36) ((σ 5 13) + 1) (σ 4 1) (Nat.le_of_ble_eq_true rfl)) ⟨(va_cnB 3 hg (gw_c m_981) rfl rfl rfl (hNW.1 _ nm_1098) (hg _ m_1) (by decide +kernel) ⟨(Nat.le_of_ble_eq_true rfl), (Nat.le_of_ble_eq_true rfl)⟩), hg _ m_980, trivial⟩ (s_pre (ws := [((r 36), .inl (cy 1, 101, .inl ((upF (upF (upC σ 5 13 ((σ 5 13) + 1)) 34 g1) 35 g2) 36)))]) (s_sub1 35 hP rfl) (s_subD 35 hD rfl) hK hNW) rfl rfl hl.1 rfl (lv_room (Nat.le_of_ble_eq_true rfl)) d_X8_keep_55 ⟨(Nat.le_of_ble_eq_true rfl), (Nat.le_of_ble_eq_true rfl)⟩) hP hD hS hA (fun g3 H locs hw hP hD hS => ?_)
    have hP : va_P D vwCl (wB cy r (upF (upF (upF (upC σ 5 13 ((σ 5 13) + 1)) 34 g1) 35 g2) 36 g3)) H := hP
    have hD : va_D A (wB cy r (upF (upF (upF (upC σ 5 13 ((σ 5 13) + 1)) 34 g1) 35 g2) 36 g3)) := hD
    refine lv_aload_n hx hb d_X8_keep_58 rfl (lv_at hl 0 rfl) ?_
    refine va_get (D := D) (ci := 8) (v := .ref (r 37)) (C := "LinkedUnits$Store") (T := TX8) (N := 18) hx hb hg iwX8 hown hK hP 4 rfl rfl 17 (by decide) (hg _ m_257) (fun _ h9 => h9) rfl d_X8_keep_59 ?_
    refine lv_aload_n hx hb d_X8_keep_62 rfl (lv_at hl 0 rfl) ?_
    refine va_get (D := D) (ci := 8) (v := .int ((σ 5 13) + 1)) (C := "LinkedUnits$Store") (T := TX8) (N := 18) hx hb hg iwX8 hown hK hP 4 rfl rfl 13 (by decide) (hg _ m_249) (fun _ h9 => h9) rfl d_X8_keep_63 ?_
    refine lv_iload_n hx hb d_X8_keep_66 rfl (lv_at hl 1 rfl) ?_
    refine s_set1 (X := Nat → Int32) (w := fun g => .inl (cy 1, 101, .inl g)) 36 rfl (va_runSN (As := [.ref (r 37), .int ((σ 5 13) + 1), .int x1]) (rest := []) ⟨hx, hb, hml, hown, hg⟩ (c_set_any l D cy H.size (r 37) 101 ((upF (upF (upF (upC σ 5 13 ((σ 5 13) + 1)) 34 g1) 35 g2) 36 g3) 37) ((σ 5 13) + 1) x1 (Nat.le_of_ble_eq_true rfl)) ⟨(va_cnB 3 hg (gw_c m_981) rfl rfl rfl (hNW.1 _ nm_1098) (hg _ m_1) (by decide +kernel) ⟨(Nat.le_of_ble_eq_true rfl), (Nat.le_of_ble_eq_true rfl)⟩), hg _ m_980, trivial⟩ (s_pre (ws := [((r 37), .inl (cy 1, 101, .inl ((upF (upF (upF (upC σ 5 13 ((σ 5 13) + 1)) 34 g1) 35 g2) 36 g3) 37)))]) (s_sub1 36 hP rfl) (s_subD 36 hD rfl) hK hNW) rfl rfl hl.1 rfl (lv_room (Nat.le_of_ble_eq_true rfl)) d_X8_keep_67 ⟨(Nat.le_of_ble_eq_true rfl), (Nat.le_of_ble_eq_true rfl)⟩) hP hD hS hA (fun g4 H locs hw hP hD hS => ?_)
    have hP : va_P D vwCl (wB cy r (upF (upF (upF (upF (upC σ 5 13 ((σ 5 13) + 1)) 34 g1) 35 g2) 36 g3) 37 g4)) H := hP
    have hD : va_D A (wB cy r (upF (upF (upF (upF (upC σ 5 13 ((σ 5 13) + 1)) 34 g1) 35 g2) 36 g3) 37 g4)) := hD
    refine lv_aload_n hx hb d_X8_keep_70 rfl (lv_at hl 0 rfl) ?_
    refine va_get (D := D) (ci := 8) (v := .int ((σ 5 13) + 1)) (C := "LinkedUnits$Store") (T := TX8) (N := 18) hx hb hg iwX8 hown hK hP 4 rfl rfl 13 (by decide) (hg _ m_249) (fun _ h9 => h9) rfl d_X8_keep_71 ?_
    refine W.widen (k := 0) (n := 0) (Nat.le_of_ble_eq_true rfl) (Nat.le_of_ble_eq_true rfl) ?_
    exact k_iret (X := St) (w1 := fun τ => wB cy r τ) (upF (upF (upF (upF (upC σ 5 13 ((σ 5 13) + 1)) 34 g1) 35 g2) 36 g3) 37 g4) hx hb hr d_X8_keep_74 hlocks hP hK hD hS inv
  rw [hH] at hgoal
  exact hgoal
set_option maxHeartbeats 4000000 in
set_option maxRecDepth 100000 in
theorem s_X8_has (l : Launch) (D : va_G) (cy : Nat → ClassId) (sz : Nat) (r : Nat → Nat) (σ : St) (x1 : Int32) (inv : Inv σ) : Met l y_X8_has (Cond.code y_X8_has b_X8_has 2 (some .boolean) :: GW) ({ frames := 0, cells := 0, slots := 0, locals := 0 } : Room) (va_Pc [.ref (r 5), .int x1] (kPre D cy sz (wB cy r σ))) ((fun A : Nat → Prop => va_Qi (S := Unit) (fun (v9 : Int32) (_ : Unit) => (v9 = 0 ∨ v9 = 1) ∧ True) (fun _ => kPost D cy A (wB cy r σ)) A) (va_A (wB cy r σ) sz)) 0 0 (va_A (wB cy r σ) sz) := by
  refine k_ofW (Qc := fun A => va_Qi (S := Unit) (fun (v9 : Int32) (_ : Unit) => (v9 = 0 ∨ v9 = 1) ∧ True) (fun _ => kPost D cy A (wB cy r σ)) A) (by decide) (Nat.le_of_ble_eq_true rfl) ?_
  intro p e s m below meth c A ls hx hb hr hml hown hlocks hin hg hNW hK hP hD hA hS hl
  have hl : lv_has ls 2 [(0, .ref (r 5)), (1, .int x1)] := hl
  have hown : s.vm.findClass "LinkedUnits$Store" = some m.cls := hown
  obtain ⟨H, hH⟩ : ∃ H, H = s.heap := ⟨_, rfl⟩
  rw [← hH] at hP
  have hS : va_S A s.heap H [] := by rw [hH]; exact va_S.rf
  have hgoal : W p l e ({ frames := 0, cells := 0, slots := 0, locals := 0 } : Room) s m (([.ref (r 5), .int x1] : List Value).toArray) below meth c H [] 0 0 (MQ below (va_Qi (S := Unit) (fun (v9 : Int32) (_ : Unit) => (v9 = 0 ∨ v9 = 1) ∧ True) (fun _ => kPost D cy A (wB cy r σ)) A) (([.ref (r 5), .int x1] : List Value).toArray) s 0 0 A) (F0 m 0 ls []) := by
    refine lv_iload_n hx hb d_X8_has_0 rfl (lv_at hl 1 rfl) ?_
    refine lv_iconst (v := 1) hx hb d_X8_has_1 (by decide) ?_
    refine lv_icmp_lt (tgt := 17) hx hb d_X8_has_2 (by decide) (fun c_2 => ?_) (fun c_2 => ?_)
    · -- taken at 2
      refine lv_iconst (v := 0) hx hb d_X8_has_17 (by decide) ?_
      refine W.widen (k := 0) (n := 0) (Nat.le_of_ble_eq_true rfl) (Nat.le_of_ble_eq_true rfl) ?_
      exact k_zret (X := Unit) (w1 := fun _ => wB cy r σ) () hx hb hr (k_nz (Or.inl rfl)) d_X8_has_18 hlocks hP hK hD hS ⟨(Or.inl rfl), trivial⟩
    · -- not taken at 2
      refine lv_iload_n hx hb d_X8_has_5 rfl (lv_at hl 1 rfl) ?_
      refine lv_aload_n hx hb d_X8_has_6 rfl (lv_at hl 0 rfl) ?_
      refine va_get (D := D) (ci := 8) (v := .int (σ 5 13)) (C := "LinkedUnits$Store") (T := TX8) (N := 18) hx hb hg iwX8 hown hK hP 4 rfl rfl 13 (by decide) (hg _ m_249) (fun _ h9 => h9) rfl d_X8_has_7 ?_
      refine lv_icmp_gt (tgt := 17) hx hb d_X8_has_10 (by decide) (fun c_10 => ?_) (fun c_10 => ?_)
      · -- taken at 10
        refine lv_iconst (v := 0) hx hb d_X8_has_17 (by decide) ?_
        refine W.widen (k := 0) (n := 0) (Nat.le_of_ble_eq_true rfl) (Nat.le_of_ble_eq_true rfl) ?_
        exact k_zret (X := Unit) (w1 := fun _ => wB cy r σ) () hx hb hr (k_nz (Or.inl rfl)) d_X8_has_18 hlocks hP hK hD hS ⟨(Or.inl rfl), trivial⟩
      · -- not taken at 10
        refine lv_iconst (v := 1) hx hb d_X8_has_13 (by decide) ?_
        refine lv_goto (tgt := 18) hx hb d_X8_has_14 (by decide) ?_
        refine W.widen (k := 0) (n := 0) (Nat.le_of_ble_eq_true rfl) (Nat.le_of_ble_eq_true rfl) ?_
        exact k_zret (X := Unit) (w1 := fun _ => wB cy r σ) () hx hb hr (k_nz (Or.inr rfl)) d_X8_has_18 hlocks hP hK hD hS ⟨(Or.inr rfl), trivial⟩
  rw [hH] at hgoal
  exact hgoal
set_option maxHeartbeats 4000000 in
set_option maxRecDepth 100000 in
theorem s_X8_firstOf (l : Launch) (D : va_G) (cy : Nat → ClassId) (sz : Nat) (r : Nat → Nat) (σ : St) (x1 : Int32) (inv : Inv σ) : Met l y_X8_firstOf (Cond.code y_X8_firstOf b_X8_firstOf 2 (some .int) :: GW) ({ frames := 1, cells := 0, slots := 0, locals := 21 } : Room) (va_Pc [.ref (r 5), .int x1] (kPre D cy sz (wB cy r σ))) ((fun A : Nat → Prop => va_Qi (S := Unit) (fun (_ : Int32) (_ : Unit) => True) (fun _ => kPost D cy A (wB cy r σ)) A) (va_A (wB cy r σ) sz)) 0 0 (va_A (wB cy r σ) sz) := by
  refine k_ofW (Qc := fun A => va_Qi (S := Unit) (fun (_ : Int32) (_ : Unit) => True) (fun _ => kPost D cy A (wB cy r σ)) A) (by decide) (Nat.le_of_ble_eq_true rfl) ?_
  intro p e s m below meth c A ls hx hb hr hml hown hlocks hin hg hNW hK hP hD hA hS hl
  have hl : lv_has ls 2 [(0, .ref (r 5)), (1, .int x1)] := hl
  have hown : s.vm.findClass "LinkedUnits$Store" = some m.cls := hown
  obtain ⟨H, hH⟩ : ∃ H, H = s.heap := ⟨_, rfl⟩
  rw [← hH] at hP
  have hS : va_S A s.heap H [] := by rw [hH]; exact va_S.rf
  have hgoal : W p l e ({ frames := 1, cells := 0, slots := 0, locals := 21 } : Room) s m (([.ref (r 5), .int x1] : List Value).toArray) below meth c H [] 0 0 (MQ below (va_Qi (S := Unit) (fun (_ : Int32) (_ : Unit) => True) (fun _ => kPost D cy A (wB cy r σ)) A) (([.ref (r 5), .int x1] : List Value).toArray) s 0 0 A) (F0 m 0 ls []) := by
    refine lv_iload_n hx hb d_X8_firstOf_0 rfl (lv_at hl 1 rfl) ?_
    refine lv_if_gt (tgt := 8) hx hb d_X8_firstOf_1 (by decide) (fun c_1 => ?_) (fun c_1 => ?_)
    · -- taken at 1
      refine lv_aload_n hx hb d_X8_firstOf_8 rfl (lv_at hl 0 rfl) ?_
      refine va_get (D := D) (ci := 8) (v := .ref (r 34)) (C := "LinkedUnits$Store") (T := TX8) (N := 18) hx hb hg iwX8 hown hK hP 4 rfl rfl 14 (by decide) (hg _ m_252) (fun _ h9 => h9) rfl d_X8_firstOf_9 ?_
      refine lv_iload_n hx hb d_X8_firstOf_12 rfl (lv_at hl 1 rfl) ?_
      refine lv_iconst (v := 1) hx hb d_X8_firstOf_13 (by decide) ?_
      refine lv_isub hx hb d_X8_firstOf_14 ?_
      refine s_call1 (x := ((r 34), .inl (cy 1, 101, .inl (σ 34)))) 33 rfl (va_runSN (As := [.ref (r 34), .int (x1 - 1)]) (rest := []) ⟨hx, hb, hml, hown, hg⟩ (c_at_any l D cy H.size (r 34) 101 (σ 34) (x1 - 1) (Nat.le_of_ble_eq_true rfl)) ⟨(va_cnB 2 hg (gw_c m_949) rfl rfl rfl (hNW.1 _ nm_1125) (hg _ m_1) (by decide +kernel) ⟨(Nat.le_of_ble_eq_true rfl), (Nat.le_of_ble_eq_true rfl)⟩), hg _ m_948, trivial⟩ (s_pre (ws := [((r 34), .inl (cy 1, 101, .inl (σ 34)))]) (s_sub1 33 hP rfl) (s_subD 33 hD rfl) hK hNW) rfl rfl hl.1 rfl (lv_room (Nat.le_of_ble_eq_true rfl)) d_X8_firstOf_15 ⟨(Nat.le_of_ble_eq_true rfl), (Nat.le_of_ble_eq_true rfl)⟩) hP hD hS hA (fun r1 u1 H locs hw hP hD hS => ?_)
      have hP : va_P D vwCl (wB cy r σ) H := hP
      have hD : va_D A (wB cy r σ) := hD
      refine W.widen (k := 0) (n := 0) (Nat.le_of_ble_eq_true rfl) (Nat.le_of_ble_eq_true rfl) ?_
      exact k_iret (X := Unit) (w1 := fun _ => wB cy r σ) () hx hb hr d_X8_firstOf_18 hlocks hP hK hD hS trivial
    · -- not taken at 1
      refine lv_iconst (v := 0) hx hb d_X8_firstOf_4 (by decide) ?_
      refine lv_goto (tgt := 18) hx hb d_X8_firstOf_5 (by decide) ?_
      refine W.widen (k := 0) (n := 0) (Nat.le_of_ble_eq_true rfl) (Nat.le_of_ble_eq_true rfl) ?_
      exact k_iret (X := Unit) (w1 := fun _ => wB cy r σ) () hx hb hr d_X8_firstOf_18 hlocks hP hK hD hS trivial
  rw [hH] at hgoal
  exact hgoal
set_option maxHeartbeats 4000000 in
set_option maxRecDepth 100000 in
theorem s_X8_symbolAt (l : Launch) (D : va_G) (cy : Nat → ClassId) (sz : Nat) (r : Nat → Nat) (σ : St) (x1 : Int32) (x2 : Int32) (inv : Inv σ) : Met l y_X8_symbolAt (Cond.code y_X8_symbolAt b_X8_symbolAt 5 (some .int) :: GW) ({ frames := 2, cells := 0, slots := 0, locals := 43 } : Room) (va_Pc [.ref (r 5), .int x1, .int x2] (kPre D cy sz (wB cy r σ))) ((fun A : Nat → Prop => va_Qi (S := Unit) (fun (_ : Int32) (_ : Unit) => True) (fun _ => kPost D cy A (wB cy r σ)) A) (va_A (wB cy r σ) sz)) 0 0 (va_A (wB cy r σ) sz) := by
  refine k_ofW (Qc := fun A => va_Qi (S := Unit) (fun (_ : Int32) (_ : Unit) => True) (fun _ => kPost D cy A (wB cy r σ)) A) (by decide) (Nat.le_of_ble_eq_true rfl) ?_
  intro p e s m below meth c A ls hx hb hr hml hown hlocks hin hg hNW hK hP hD hA hS hl
  have hl : lv_has ls 5 [(0, .ref (r 5)), (1, .int x1), (2, .int x2)] := hl
  have hown : s.vm.findClass "LinkedUnits$Store" = some m.cls := hown
  have b25 : ∀ (N : Nat) (x1 : Int32) (x2 : Int32) (x3 : Int32) (x4 : Int32) (H : Heap) (locs : List Loc) (ls : Array Slot), upm x4 = N → va_P D vwCl (wB cy r σ) H → va_D A (wB cy r σ) → va_S A s.heap H locs → lv_has ls 5 [(0, .ref (r 5)), (1, .int x1), (2, .int x2), (3, .int x3), (4, .int x4)] → W p l e ({ frames := 2, cells := 0, slots := 0, locals := 43 } : Room) s m (([.ref (r 5), .int x1, .int x2] : List Value).toArray) below meth c H locs 0 0 (MQ below (va_Qi (S := Unit) (fun (_ : Int32) (_ : Unit) => True) (fun _ => kPost D cy A (wB cy r σ)) A) (([.ref (r 5), .int x1, .int x2] : List Value).toArray) s 0 0 A) (F0 m 25 ls []) := by
    intro N
    induction N using Nat.strongRecOn with
    | _ N ih25 =>
      intro x1 x2 x3 x4 H locs ls N25 hP hD hS hl
      refine lv_iload_n hx hb d_X8_symbolAt_25 rfl (lv_at hl 3 rfl) ?_
      refine lv_if_lt (tgt := 68) hx hb d_X8_symbolAt_26 (by decide) (fun c_26 => ?_) (fun c_26 => ?_)
      · -- taken at 26
        refine lv_iconst (v := (-1)) hx hb d_X8_symbolAt_68 (by decide) ?_
        refine W.widen (k := 0) (n := 0) (Nat.le_of_ble_eq_true rfl) (Nat.le_of_ble_eq_true rfl) ?_
        exact k_iret (X := Unit) (w1 := fun _ => wB cy r σ) () hx hb hr d_X8_symbolAt_69 hlocks hP hK hD hS trivial
      · -- not taken at 26
        refine lv_iload hx hb d_X8_symbolAt_29 (lv_at hl 4 rfl) ?_
        refine lv_aload_n hx hb d_X8_symbolAt_31 rfl (lv_at hl 0 rfl) ?_
        refine va_get (D := D) (ci := 8) (v := .ref (r 34)) (C := "LinkedUnits$Store") (T := TX8) (N := 18) hx hb hg iwX8 hown hK hP 4 rfl rfl 14 (by decide) (hg _ m_252) (fun _ h9 => h9) rfl d_X8_symbolAt_32 ?_
        refine lv_iload_n hx hb d_X8_symbolAt_35 rfl (lv_at hl 1 rfl) ?_
        refine s_call1 (x := ((r 34), .inl (cy 1, 101, .inl (σ 34)))) 33 rfl (va_runSN (As := [.ref (r 34), .int x1]) (rest := [.int x4]) ⟨hx, hb, hml, hown, hg⟩ (c_at_any l D cy H.size (r 34) 101 (σ 34) x1 (Nat.le_of_ble_eq_true rfl)) ⟨(va_cnB 2 hg (gw_c m_949) rfl rfl rfl (hNW.1 _ nm_1125) (hg _ m_1) (by decide +kernel) ⟨(Nat.le_of_ble_eq_true rfl), (Nat.le_of_ble_eq_true rfl)⟩), hg _ m_948, trivial⟩ (s_pre (ws := [((r 34), .inl (cy 1, 101, .inl (σ 34)))]) (s_sub1 33 hP rfl) (s_subD 33 hD rfl) hK hNW) rfl rfl hl.1 rfl (lv_room (Nat.le_of_ble_eq_true rfl)) d_X8_symbolAt_36 ⟨(Nat.le_of_ble_eq_true rfl), (Nat.le_of_ble_eq_true rfl)⟩) hP hD hS hA (fun r1 u1 H locs hw hP hD hS => ?_)
        have hP : va_P D vwCl (wB cy r σ) H := hP
        have hD : va_D A (wB cy r σ) := hD
        refine lv_icmp_ge (tgt := 68) hx hb d_X8_symbolAt_39 (by decide) (fun c_39 => ?_) (fun c_39 => ?_)
        · -- taken at 39
          refine lv_iconst (v := (-1)) hx hb d_X8_symbolAt_68 (by decide) ?_
          refine W.widen (k := 0) (n := 0) (Nat.le_of_ble_eq_true rfl) (Nat.le_of_ble_eq_true rfl) ?_
          exact k_iret (X := Unit) (w1 := fun _ => wB cy r σ) () hx hb hr d_X8_symbolAt_69 hlocks hP hK hD hS trivial
        · -- not taken at 39
          refine lv_aload_n hx hb d_X8_symbolAt_42 rfl (lv_at hl 0 rfl) ?_
          refine lv_iload hx hb d_X8_symbolAt_43 (lv_at hl 4 rfl) ?_
          refine lv_iconst (v := 2) hx hb d_X8_symbolAt_45 (by decide) ?_
          refine s_calli (X := Unit) (w1 := fun _ => wB cy r σ) (va_runV (As := [.int x4, .int 2]) (rest := []) ⟨hx, hb, hml, hown, hg⟩ (s_X8_is l D cy H.size r σ x4 (2 : Int32) inv ) (cwV 2 hg (gw_V m_1525 m_1123 ms_X8_is m_5 m_1124) rfl rfl rfl (by decide +kernel) ⟨(Nat.le_of_ble_eq_true rfl), (Nat.le_of_ble_eq_true rfl)⟩) (s_preV (As := [.int x4, .int 2]) hP hD hK hNW 4 rfl rfl) rfl rfl hl.1 rfl (lv_room (Nat.le_of_ble_eq_true rfl)) d_X8_symbolAt_46 ⟨(Nat.le_of_ble_eq_true rfl), (Nat.le_of_ble_eq_true rfl)⟩) hP hD hS hA (fun r2 u2 H locs hw hP hD hS => ?_)
          have hP : va_P D vwCl (wB cy r σ) H := hP
          have hD : va_D A (wB cy r σ) := hD
          have hz2 : r2 = 0 ∨ r2 = 1 := hw.1
          refine lv_if_ne (tgt := 62) hx hb d_X8_symbolAt_49 (by decide) (fun c_49 => ?_) (fun c_49 => ?_)
          · -- taken at 49
            refine lv_iinc (v := (x4 + 1)) (lv' := [(4, .int (x4 + 1)), (0, .ref (r 5)), (1, .int x1), (2, .int x2), (3, .int x3)]) hx hb d_X8_symbolAt_62 hl (k := 4) rfl rfl (by decide) rfl (fun ls hl => ?_)
            refine lv_goto (tgt := 25) hx hb d_X8_symbolAt_65 (by decide) ?_
            exact ih25 _ (N25 ▸ upm_lt c_39) x1 x2 x3 (x4 + 1) _ _ _ rfl hP hD hS (lv_sub hl [1, 2, 3, 4, 0] rfl)
          · -- not taken at 49
            refine lv_iload_n hx hb d_X8_symbolAt_52 rfl (lv_at hl 3 rfl) ?_
            refine lv_if_ne (tgt := 59) hx hb d_X8_symbolAt_53 (by decide) (fun c_53 => ?_) (fun c_53 => ?_)
            · -- taken at 53
              refine lv_iinc (v := (x3 + (-1))) (lv' := [(3, .int (x3 + (-1))), (0, .ref (r 5)), (1, .int x1), (2, .int x2), (4, .int x4)]) hx hb d_X8_symbolAt_59 hl (k := 3) rfl rfl (by decide) rfl (fun ls hl => ?_)
              refine lv_iinc (v := (x4 + 1)) (lv' := [(4, .int (x4 + 1)), (3, .int (x3 + (-1))), (0, .ref (r 5)), (1, .int x1), (2, .int x2)]) hx hb d_X8_symbolAt_62 hl (k := 4) rfl rfl (by decide) rfl (fun ls hl => ?_)
              refine lv_goto (tgt := 25) hx hb d_X8_symbolAt_65 (by decide) ?_
              exact ih25 _ (N25 ▸ upm_lt c_39) x1 x2 (x3 + (-1)) (x4 + 1) _ _ _ rfl hP hD hS (lv_sub hl [2, 3, 4, 1, 0] rfl)
            · -- not taken at 53
              refine lv_iload hx hb d_X8_symbolAt_56 (lv_at hl 4 rfl) ?_
              refine W.widen (k := 0) (n := 0) (Nat.le_of_ble_eq_true rfl) (Nat.le_of_ble_eq_true rfl) ?_
              exact k_iret (X := Unit) (w1 := fun _ => wB cy r σ) () hx hb hr d_X8_symbolAt_58 hlocks hP hK hD hS trivial
  obtain ⟨H, hH⟩ : ∃ H, H = s.heap := ⟨_, rfl⟩
  rw [← hH] at hP
  have hS : va_S A s.heap H [] := by rw [hH]; exact va_S.rf
  have hgoal : W p l e ({ frames := 2, cells := 0, slots := 0, locals := 43 } : Room) s m (([.ref (r 5), .int x1, .int x2] : List Value).toArray) below meth c H [] 0 0 (MQ below (va_Qi (S := Unit) (fun (_ : Int32) (_ : Unit) => True) (fun _ => kPost D cy A (wB cy r σ)) A) (([.ref (r 5), .int x1, .int x2] : List Value).toArray) s 0 0 A) (F0 m 0 ls []) := by
    refine lv_aload_n hx hb d_X8_symbolAt_0 rfl (lv_at hl 0 rfl) ?_
    refine lv_iload_n hx hb d_X8_symbolAt_1 rfl (lv_at hl 1 rfl) ?_
    refine s_calli (X := Unit) (w1 := fun _ => wB cy r σ) (va_runV (As := [.int x1]) (rest := []) ⟨hx, hb, hml, hown, hg⟩ (s_X8_has l D cy H.size r σ x1 inv ) (cwV 1 hg (gw_V m_1534 m_1515 ms_X8_has m_5 m_1516) rfl rfl rfl (by decide +kernel) ⟨(Nat.le_of_ble_eq_true rfl), (Nat.le_of_ble_eq_true rfl)⟩) (s_preV (As := [.int x1]) hP hD hK hNW 4 rfl rfl) rfl rfl hl.1 rfl (lv_room (Nat.le_of_ble_eq_true rfl)) d_X8_symbolAt_2 ⟨(Nat.le_of_ble_eq_true rfl), (Nat.le_of_ble_eq_true rfl)⟩) hP hD hS hA (fun r3 u3 H locs hw hP hD hS => ?_)
    have hP : va_P D vwCl (wB cy r σ) H := hP
    have hD : va_D A (wB cy r σ) := hD
    have hz3 : r3 = 0 ∨ r3 = 1 := hw.1
    refine lv_if_eq (tgt := 16) hx hb d_X8_symbolAt_5 (by decide) (fun c_5 => ?_) (fun c_5 => ?_)
    · -- taken at 5
      refine lv_iconst (v := (-1)) hx hb d_X8_symbolAt_16 (by decide) ?_
      refine lv_istore_n (lv' := [(3, .int (-1)), (0, .ref (r 5)), (1, .int x1), (2, .int x2)]) hx hb d_X8_symbolAt_17 rfl hl (by decide) rfl (fun ls hl => ?_)
      refine lv_aload_n hx hb d_X8_symbolAt_18 rfl (lv_at hl 1 rfl) ?_
      refine lv_iload_n hx hb d_X8_symbolAt_19 rfl (lv_at hl 2 rfl) ?_
      refine s_calli (X := Unit) (w1 := fun _ => wB cy r σ) (va_runV (As := [.int x1]) (rest := []) ⟨hx, hb, hml, hown, hg⟩ (s_X8_firstOf l D cy H.size r σ x1 inv ) (cwV 1 hg (gw_V m_1521 m_1523 ms_X8_firstOf m_5 m_1524) rfl rfl rfl (by decide +kernel) ⟨(Nat.le_of_ble_eq_true rfl), (Nat.le_of_ble_eq_true rfl)⟩) (s_preV (As := [.int x1]) hP hD hK hNW 4 rfl rfl) rfl rfl hl.1 rfl (lv_room (Nat.le_of_ble_eq_true rfl)) d_X8_symbolAt_20 ⟨(Nat.le_of_ble_eq_true rfl), (Nat.le_of_ble_eq_true rfl)⟩) hP hD hS hA (fun r4 u4 H locs hw hP hD hS => ?_)
      have hP : va_P D vwCl (wB cy r σ) H := hP
      have hD : va_D A (wB cy r σ) := hD
      refine lv_istore (lv' := [(4, .int r4), (3, .int (-1)), (0, .ref (r 5)), (1, .int x1), (2, .int x2)]) hx hb d_X8_symbolAt_23 hl (by decide) rfl (fun ls hl => ?_)
      exact b25 _ x1 x2 ((-1) : Int32) r4 _ _ _ rfl hP hD hS (lv_sub hl [2, 3, 4, 1, 0] rfl)
    · -- not taken at 5
      refine lv_iload_n hx hb d_X8_symbolAt_8 rfl (lv_at hl 2 rfl) ?_
      refine lv_if_lt (tgt := 16) hx hb d_X8_symbolAt_9 (by decide) (fun c_9 => ?_) (fun c_9 => ?_)
      · -- taken at 9
        refine lv_iconst (v := (-1)) hx hb d_X8_symbolAt_16 (by decide) ?_
        refine lv_istore_n (lv' := [(3, .int (-1)), (0, .ref (r 5)), (1, .int x1), (2, .int x2)]) hx hb d_X8_symbolAt_17 rfl hl (by decide) rfl (fun ls hl => ?_)
        refine lv_aload_n hx hb d_X8_symbolAt_18 rfl (lv_at hl 1 rfl) ?_
        refine lv_iload_n hx hb d_X8_symbolAt_19 rfl (lv_at hl 2 rfl) ?_
        refine s_calli (X := Unit) (w1 := fun _ => wB cy r σ) (va_runV (As := [.int x1]) (rest := []) ⟨hx, hb, hml, hown, hg⟩ (s_X8_firstOf l D cy H.size r σ x1 inv ) (cwV 1 hg (gw_V m_1521 m_1523 ms_X8_firstOf m_5 m_1524) rfl rfl rfl (by decide +kernel) ⟨(Nat.le_of_ble_eq_true rfl), (Nat.le_of_ble_eq_true rfl)⟩) (s_preV (As := [.int x1]) hP hD hK hNW 4 rfl rfl) rfl rfl hl.1 rfl (lv_room (Nat.le_of_ble_eq_true rfl)) d_X8_symbolAt_20 ⟨(Nat.le_of_ble_eq_true rfl), (Nat.le_of_ble_eq_true rfl)⟩) hP hD hS hA (fun r5 u5 H locs hw hP hD hS => ?_)
        have hP : va_P D vwCl (wB cy r σ) H := hP
        have hD : va_D A (wB cy r σ) := hD
        refine lv_istore (lv' := [(4, .int r5), (3, .int (-1)), (0, .ref (r 5)), (1, .int x1), (2, .int x2)]) hx hb d_X8_symbolAt_23 hl (by decide) rfl (fun ls hl => ?_)
        exact b25 _ x1 x2 ((-1) : Int32) r5 _ _ _ rfl hP hD hS (lv_sub hl [2, 3, 4, 1, 0] rfl)
      · -- not taken at 9
        refine lv_iload_n hx hb d_X8_symbolAt_12 rfl (lv_at hl 2 rfl) ?_
        refine lv_goto (tgt := 17) hx hb d_X8_symbolAt_13 (by decide) ?_
        refine lv_istore_n (lv' := [(3, .int x2), (0, .ref (r 5)), (1, .int x1), (2, .int x2)]) hx hb d_X8_symbolAt_17 rfl hl (by decide) rfl (fun ls hl => ?_)
        refine lv_aload_n hx hb d_X8_symbolAt_18 rfl (lv_at hl 1 rfl) ?_
        refine lv_iload_n hx hb d_X8_symbolAt_19 rfl (lv_at hl 2 rfl) ?_
        refine s_calli (X := Unit) (w1 := fun _ => wB cy r σ) (va_runV (As := [.int x1]) (rest := []) ⟨hx, hb, hml, hown, hg⟩ (s_X8_firstOf l D cy H.size r σ x1 inv ) (cwV 1 hg (gw_V m_1521 m_1523 ms_X8_firstOf m_5 m_1524) rfl rfl rfl (by decide +kernel) ⟨(Nat.le_of_ble_eq_true rfl), (Nat.le_of_ble_eq_true rfl)⟩) (s_preV (As := [.int x1]) hP hD hK hNW 4 rfl rfl) rfl rfl hl.1 rfl (lv_room (Nat.le_of_ble_eq_true rfl)) d_X8_symbolAt_20 ⟨(Nat.le_of_ble_eq_true rfl), (Nat.le_of_ble_eq_true rfl)⟩) hP hD hS hA (fun r6 u6 H locs hw hP hD hS => ?_)
        have hP : va_P D vwCl (wB cy r σ) H := hP
        have hD : va_D A (wB cy r σ) := hD
        refine lv_istore (lv' := [(4, .int r6), (3, .int x2), (0, .ref (r 5)), (1, .int x1), (2, .int x2)]) hx hb d_X8_symbolAt_23 hl (by decide) rfl (fun ls hl => ?_)
        exact b25 _ x1 x2 x2 r6 _ _ _ rfl hP hD hS (lv_sub hl [2, 3, 4, 1, 0] rfl)
  rw [hH] at hgoal
  exact hgoal
set_option maxHeartbeats 4000000 in
set_option maxRecDepth 100000 in
theorem s_X8_withParameter (l : Launch) (D : va_G) (cy : Nat → ClassId) (sz : Nat) (x0 : Int32) (x1 : Int32) : Met l y_X8_withParameter (Cond.code y_X8_withParameter b_X8_withParameter 2 (some .int) :: GW) ({ frames := 1, cells := 0, slots := 0, locals := 20 } : Room) (va_Pc [.int x0, .int x1] (kPre D cy sz [])) ((fun A : Nat → Prop => va_Qi (S := Unit) (fun (_ : Int32) (_ : Unit) => True) (fun _ => kPost D cy A []) A) (va_A [] sz)) 0 0 (va_A [] sz) := by
  refine k_ofW (Qc := fun A => va_Qi (S := Unit) (fun (_ : Int32) (_ : Unit) => True) (fun _ => kPost D cy A []) A) (by decide) (Nat.le_of_ble_eq_true rfl) ?_
  intro p e s m below meth c A ls hx hb hr hml hown hlocks hin hg hNW hK hP hD hA hS hl
  have hl : lv_has ls 2 [(0, .int x0), (1, .int x1)] := hl
  have hown : s.vm.findClass "LinkedUnits$Store" = some m.cls := hown
  obtain ⟨H, hH⟩ : ∃ H, H = s.heap := ⟨_, rfl⟩
  rw [← hH] at hP
  have hS : va_S A s.heap H [] := by rw [hH]; exact va_S.rf
  have hgoal : W p l e ({ frames := 1, cells := 0, slots := 0, locals := 20 } : Room) s m (([.int x0, .int x1] : List Value).toArray) below meth c H [] 0 0 (MQ below (va_Qi (S := Unit) (fun (_ : Int32) (_ : Unit) => True) (fun _ => kPost D cy A []) A) (([.int x0, .int x1] : List Value).toArray) s 0 0 A) (F0 m 0 ls []) := by
    refine lv_iload_n hx hb d_X8_withParameter_0 rfl (lv_at hl 0 rfl) ?_
    refine lv_ldc (v := 16777216) hx hb hown (hg _ m_219) d_X8_withParameter_1 ?_
    refine lv_iadd hx hb d_X8_withParameter_3 ?_
    refine lv_iload_n hx hb d_X8_withParameter_4 rfl (lv_at hl 1 rfl) ?_
    refine lv_iconst (v := 3) hx hb d_X8_withParameter_5 (by decide) ?_
    refine lv_iload_n hx hb d_X8_withParameter_6 rfl (lv_at hl 0 rfl) ?_
    refine s_call0 (va_runS (As := [.int x0]) (rest := [.int 3, .int x1, .int (x0 + 16777216)]) ⟨hx, hb, hml, hown, hg⟩ (s_X8_parameters l D cy H.size x0 ) (cwS 1 hg (gw_S m_997 m_998 m_5 m_999) rfl rfl rfl (by decide +kernel) ⟨(Nat.le_of_ble_eq_true rfl), (Nat.le_of_ble_eq_true rfl)⟩) (s_pre (ws := []) (fun k q h => by simp at h) ⟨fun i j p q h => by simp at h, fun k q h => by simp at h⟩ hK hNW) rfl rfl hl.1 rfl (lv_room (Nat.le_of_ble_eq_true rfl)) d_X8_withParameter_7 ⟨(Nat.le_of_ble_eq_true rfl), (Nat.le_of_ble_eq_true rfl)⟩) hP hD hS hA (fun r1 u1 H locs hw hP hD hS => ?_)
    have hP : va_P D vwCl (wB cy r σ) H := hP
    have hD : va_D A (wB cy r σ) := hD
    refine lv_imul hx hb d_X8_withParameter_10 ?_
    refine lv_ishl hx hb d_X8_withParameter_11 ?_
    refine lv_ior hx hb d_X8_withParameter_12 ?_
    refine W.widen (k := 0) (n := 0) (Nat.le_of_ble_eq_true rfl) (Nat.le_of_ble_eq_true rfl) ?_
    exact k_iret (X := Unit) (w1 := fun _ => []) () hx hb hr d_X8_withParameter_13 hlocks hP hK hD hS trivial
  rw [hH] at hgoal
  exact hgoal
set_option maxHeartbeats 4000000 in
set_option maxRecDepth 100000 in
theorem s_X8_symbolsOf (l : Launch) (D : va_G) (cy : Nat → ClassId) (sz : Nat) (r : Nat → Nat) (σ : St) (x1 : Int32) (inv : Inv σ) : Met l y_X8_symbolsOf (Cond.code y_X8_symbolsOf b_X8_symbolsOf 4 (some .int) :: GW) ({ frames := 2, cells := 0, slots := 0, locals := 43 } : Room) (va_Pc [.ref (r 5), .int x1] (kPre D cy sz (wB cy r σ))) ((fun A : Nat → Prop => va_Qi (S := Unit) (fun (_ : Int32) (_ : Unit) => True) (fun _ => kPost D cy A (wB cy r σ)) A) (va_A (wB cy r σ) sz)) 0 0 (va_A (wB cy r σ) sz) := by
  refine k_ofW (Qc := fun A => va_Qi (S := Unit) (fun (_ : Int32) (_ : Unit) => True) (fun _ => kPost D cy A (wB cy r σ)) A) (by decide) (Nat.le_of_ble_eq_true rfl) ?_
  intro p e s m below meth c A ls hx hb hr hml hown hlocks hin hg hNW hK hP hD hA hS hl
  have hl : lv_has ls 4 [(0, .ref (r 5)), (1, .int x1)] := hl
  have hown : s.vm.findClass "LinkedUnits$Store" = some m.cls := hown
  have b8 : ∀ (N : Nat) (x1 : Int32) (x2 : Int32) (x3 : Int32) (H : Heap) (locs : List Loc) (ls : Array Slot), upm x3 = N → va_P D vwCl (wB cy r σ) H → va_D A (wB cy r σ) → va_S A s.heap H locs → lv_has ls 4 [(0, .ref (r 5)), (1, .int x1), (2, .int x2), (3, .int x3)] → W p l e ({ frames := 2, cells := 0, slots := 0, locals := 43 } : Room) s m (([.ref (r 5), .int x1] : List Value).toArray) below meth c H locs 0 0 (MQ below (va_Qi (S := Unit) (fun (_ : Int32) (_ : Unit) => True) (fun _ => kPost D cy A (wB cy r σ)) A) (([.ref (r 5), .int x1] : List Value).toArray) s 0 0 A) (F0 m 8 ls []) := by
    intro N
    induction N using Nat.strongRecOn with
    | _ N ih8 =>
      intro x1 x2 x3 H locs ls N8 hP hD hS hl
      refine lv_iload_n hx hb d_X8_symbolsOf_8 rfl (lv_at hl 3 rfl) ?_
      refine lv_aload_n hx hb d_X8_symbolsOf_9 rfl (lv_at hl 0 rfl) ?_
      refine va_get (D := D) (ci := 8) (v := .ref (r 34)) (C := "LinkedUnits$Store") (T := TX8) (N := 18) hx hb hg iwX8 hown hK hP 4 rfl rfl 14 (by decide) (hg _ m_252) (fun _ h9 => h9) rfl d_X8_symbolsOf_10 ?_
      refine lv_iload_n hx hb d_X8_symbolsOf_13 rfl (lv_at hl 1 rfl) ?_
      refine s_call1 (x := ((r 34), .inl (cy 1, 101, .inl (σ 34)))) 33 rfl (va_runSN (As := [.ref (r 34), .int x1]) (rest := [.int x3]) ⟨hx, hb, hml, hown, hg⟩ (c_at_any l D cy H.size (r 34) 101 (σ 34) x1 (Nat.le_of_ble_eq_true rfl)) ⟨(va_cnB 2 hg (gw_c m_949) rfl rfl rfl (hNW.1 _ nm_1125) (hg _ m_1) (by decide +kernel) ⟨(Nat.le_of_ble_eq_true rfl), (Nat.le_of_ble_eq_true rfl)⟩), hg _ m_948, trivial⟩ (s_pre (ws := [((r 34), .inl (cy 1, 101, .inl (σ 34)))]) (s_sub1 33 hP rfl) (s_subD 33 hD rfl) hK hNW) rfl rfl hl.1 rfl (lv_room (Nat.le_of_ble_eq_true rfl)) d_X8_symbolsOf_14 ⟨(Nat.le_of_ble_eq_true rfl), (Nat.le_of_ble_eq_true rfl)⟩) hP hD hS hA (fun r1 u1 H locs hw hP hD hS => ?_)
      have hP : va_P D vwCl (wB cy r σ) H := hP
      have hD : va_D A (wB cy r σ) := hD
      refine lv_icmp_ge (tgt := 43) hx hb d_X8_symbolsOf_17 (by decide) (fun c_17 => ?_) (fun c_17 => ?_)
      · -- taken at 17
        refine lv_iload_n hx hb d_X8_symbolsOf_43 rfl (lv_at hl 2 rfl) ?_
        refine W.widen (k := 0) (n := 0) (Nat.le_of_ble_eq_true rfl) (Nat.le_of_ble_eq_true rfl) ?_
        exact k_iret (X := Unit) (w1 := fun _ => wB cy r σ) () hx hb hr d_X8_symbolsOf_44 hlocks hP hK hD hS trivial
      · -- not taken at 17
        refine lv_iload_n hx hb d_X8_symbolsOf_20 rfl (lv_at hl 2 rfl) ?_
        refine lv_aload_n hx hb d_X8_symbolsOf_21 rfl (lv_at hl 0 rfl) ?_
        refine lv_iload_n hx hb d_X8_symbolsOf_22 rfl (lv_at hl 3 rfl) ?_
        refine lv_iconst (v := 2) hx hb d_X8_symbolsOf_23 (by decide) ?_
        refine s_calli (X := Unit) (w1 := fun _ => wB cy r σ) (va_runV (As := [.int x3, .int 2]) (rest := [.int x2]) ⟨hx, hb, hml, hown, hg⟩ (s_X8_is l D cy H.size r σ x3 (2 : Int32) inv ) (cwV 2 hg (gw_V m_1525 m_1123 ms_X8_is m_5 m_1124) rfl rfl rfl (by decide +kernel) ⟨(Nat.le_of_ble_eq_true rfl), (Nat.le_of_ble_eq_true rfl)⟩) (s_preV (As := [.int x3, .int 2]) hP hD hK hNW 4 rfl rfl) rfl rfl hl.1 rfl (lv_room (Nat.le_of_ble_eq_true rfl)) d_X8_symbolsOf_24 ⟨(Nat.le_of_ble_eq_true rfl), (Nat.le_of_ble_eq_true rfl)⟩) hP hD hS hA (fun r2 u2 H locs hw hP hD hS => ?_)
        have hP : va_P D vwCl (wB cy r σ) H := hP
        have hD : va_D A (wB cy r σ) := hD
        have hz2 : r2 = 0 ∨ r2 = 1 := hw.1
        refine lv_if_eq (tgt := 34) hx hb d_X8_symbolsOf_27 (by decide) (fun c_27 => ?_) (fun c_27 => ?_)
        · -- taken at 27
          refine lv_iconst (v := 1) hx hb d_X8_symbolsOf_34 (by decide) ?_
          refine lv_iadd hx hb d_X8_symbolsOf_35 ?_
          refine lv_istore_n (lv' := [(2, .int (x2 + 1)), (0, .ref (r 5)), (1, .int x1), (3, .int x3)]) hx hb d_X8_symbolsOf_36 rfl hl (by decide) rfl (fun ls hl => ?_)
          refine lv_iinc (v := (x3 + 1)) (lv' := [(3, .int (x3 + 1)), (2, .int (x2 + 1)), (0, .ref (r 5)), (1, .int x1)]) hx hb d_X8_symbolsOf_37 hl (k := 3) rfl rfl (by decide) rfl (fun ls hl => ?_)
          refine lv_goto (tgt := 8) hx hb d_X8_symbolsOf_40 (by decide) ?_
          exact ih8 _ (N8 ▸ upm_lt c_17) x1 (x2 + 1) (x3 + 1) _ _ _ rfl hP hD hS (lv_sub hl [2, 3, 1, 0] rfl)
        · -- not taken at 27
          refine lv_iconst (v := 0) hx hb d_X8_symbolsOf_30 (by decide) ?_
          refine lv_goto (tgt := 35) hx hb d_X8_symbolsOf_31 (by decide) ?_
          refine lv_iadd hx hb d_X8_symbolsOf_35 ?_
          refine lv_istore_n (lv' := [(2, .int (x2 + 0)), (0, .ref (r 5)), (1, .int x1), (3, .int x3)]) hx hb d_X8_symbolsOf_36 rfl hl (by decide) rfl (fun ls hl => ?_)
          refine lv_iinc (v := (x3 + 1)) (lv' := [(3, .int (x3 + 1)), (2, .int (x2 + 0)), (0, .ref (r 5)), (1, .int x1)]) hx hb d_X8_symbolsOf_37 hl (k := 3) rfl rfl (by decide) rfl (fun ls hl => ?_)
          refine lv_goto (tgt := 8) hx hb d_X8_symbolsOf_40 (by decide) ?_
          exact ih8 _ (N8 ▸ upm_lt c_17) x1 (x2 + 0) (x3 + 1) _ _ _ rfl hP hD hS (lv_sub hl [2, 3, 1, 0] rfl)
  obtain ⟨H, hH⟩ : ∃ H, H = s.heap := ⟨_, rfl⟩
  rw [← hH] at hP
  have hS : va_S A s.heap H [] := by rw [hH]; exact va_S.rf
  have hgoal : W p l e ({ frames := 2, cells := 0, slots := 0, locals := 43 } : Room) s m (([.ref (r 5), .int x1] : List Value).toArray) below meth c H [] 0 0 (MQ below (va_Qi (S := Unit) (fun (_ : Int32) (_ : Unit) => True) (fun _ => kPost D cy A (wB cy r σ)) A) (([.ref (r 5), .int x1] : List Value).toArray) s 0 0 A) (F0 m 0 ls []) := by
    refine lv_iconst (v := 0) hx hb d_X8_symbolsOf_0 (by decide) ?_
    refine lv_istore_n (lv' := [(2, .int 0), (0, .ref (r 5)), (1, .int x1)]) hx hb d_X8_symbolsOf_1 rfl hl (by decide) rfl (fun ls hl => ?_)
    refine lv_aload_n hx hb d_X8_symbolsOf_2 rfl (lv_at hl 1 rfl) ?_
    refine lv_iload_n hx hb d_X8_symbolsOf_3 rfl (lv_at hl 2 rfl) ?_
    refine s_calli (X := Unit) (w1 := fun _ => wB cy r σ) (va_runV (As := [.int x1]) (rest := []) ⟨hx, hb, hml, hown, hg⟩ (s_X8_firstOf l D cy H.size r σ x1 inv ) (cwV 1 hg (gw_V m_1521 m_1523 ms_X8_firstOf m_5 m_1524) rfl rfl rfl (by decide +kernel) ⟨(Nat.le_of_ble_eq_true rfl), (Nat.le_of_ble_eq_true rfl)⟩) (s_preV (As := [.int x1]) hP hD hK hNW 4 rfl rfl) rfl rfl hl.1 rfl (lv_room (Nat.le_of_ble_eq_true rfl)) d_X8_symbolsOf_4 ⟨(Nat.le_of_ble_eq_true rfl), (Nat.le_of_ble_eq_true rfl)⟩) hP hD hS hA (fun r3 u3 H locs hw hP hD hS => ?_)
    have hP : va_P D vwCl (wB cy r σ) H := hP
    have hD : va_D A (wB cy r σ) := hD
    refine lv_istore_n (lv' := [(3, .int r3), (2, .int 0), (0, .ref (r 5)), (1, .int x1)]) hx hb d_X8_symbolsOf_7 rfl hl (by decide) rfl (fun ls hl => ?_)
    exact b8 _ x1 (0 : Int32) r3 _ _ _ rfl hP hD hS (lv_sub hl [2, 3, 1, 0] rfl)
  rw [hH] at hgoal
  exact hgoal
