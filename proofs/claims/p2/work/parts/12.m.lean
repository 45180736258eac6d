set_option maxHeartbeats 4000000 in
set_option maxRecDepth 100000 in
theorem s_X2_lineOf (l : Launch) (D : va_G) (cy : Nat → ClassId) (sz : Nat) (w : Nat → Nat) (g : Nat → Nat → Int32) (r : Nat → Nat) (σ0 : St) (a1 : Int32) (i0 : Inv σ0) : Met l y_X2_lineOf (Cond.code y_X2_lineOf b_X2_lineOf 2 (some .int) :: GW) ({ frames := 1, cells := 0, slots := 0, locals := 21 } : Room) (va_Pc [.ref (r 7), .int a1] (kPreE D cy sz (wB cy r σ0) (gE w g))) ((fun A : Nat → Prop => va_Qi (S := Unit) (fun (_ : Int32) (_ : Unit) => True) (fun _ => kPost D cy A (wB cy r σ0)) A) (va_A (wB cy r σ0) sz)) 0 0 (va_A (wB cy r σ0) sz) := by
  refine k_ofWE (Qc := fun A => va_Qi (S := Unit) (fun (_ : Int32) (_ : Unit) => True) (fun _ => kPost D cy A (wB cy r σ0)) A) (by decide) (Nat.le_of_ble_eq_true rfl) ?_
  intro p e s m below meth c A ls hx hb hr hml hown hlocks hin hg hNW hK hP hD hA hS hl hE
  have hl : lv_has ls 2 [(0, .ref (r 7)), (1, .int a1)] := hl
  have hown : s.vm.findClass "LinkedUnits$Expressions" = some m.cls := hown
  obtain ⟨H, hH⟩ : ∃ H, H = s.heap := ⟨_, rfl⟩
  rw [← hH] at hP
  have hS : va_S A s.heap H [] := by rw [hH]; exact va_S.rf
  have hgoal : W p l e ({ frames := 1, cells := 0, slots := 0, locals := 21 } : Room) s m (([.ref (r 7), .int a1] : List Value).toArray) below meth c H [] 0 0 (MQ below (va_Qi (S := Unit) (fun (_ : Int32) (_ : Unit) => True) (fun _ => kPost D cy A (wB cy r σ0)) A) (([.ref (r 7), .int a1] : List Value).toArray) s 0 0 A) (F0 m 0 ls []) := by
    refine lv_aload_n hx hb d_X2_lineOf_0 rfl (lv_at hl 0 rfl) ?_
    refine va_get (D := D) (ci := 2) (v := .ref (r 2)) (C := "LinkedUnits$Expressions") (T := TX2) (N := 8) hx hb hg iwX2 hown hK hP 6 rfl rfl 1 (by decide) (hg _ m_457) (fun _ h9 => h9) rfl d_X2_lineOf_1 ?_
    refine va_getN (D := D) (ci := 10) (v := .ref (r 16)) (C := "LinkedUnits$Tokens") (T := TX10) (N := 10) hx hb hg iwX10 hown hK hP 1 rfl rfl 8 (by decide) (va_Nw.use rfl (hNW.1 _ nm_60)) (fun _ h9 => h9) rfl d_X2_lineOf_4 ?_
    refine lv_iload_n hx hb d_X2_lineOf_7 rfl (lv_at hl 1 rfl) ?_
    refine s_call1 (x := ((r 16), .inl (cy 1, 16002, .inl (σ0 16)))) 15 rfl (va_runSN (As := [.ref (r 16), .int a1]) (rest := []) ⟨hx, hb, hml, hown, hg⟩ (c_at_any l D cy H.size (r 16) 16002 (σ0 16) a1 (Nat.le_of_ble_eq_true rfl)) ⟨(va_cnB 2 hg (gw_c m_949) rfl rfl rfl (hNW.1 _ nm_1058) (hg _ m_1) (by decide +kernel) ⟨(Nat.le_of_ble_eq_true rfl), (Nat.le_of_ble_eq_true rfl)⟩), hg _ m_948, trivial⟩ (s_pre (ws := [((r 16), .inl (cy 1, 16002, .inl (σ0 16)))]) (s_sub1 15 hP rfl) (s_subD 15 hD rfl) hK hNW) rfl rfl hl.1 rfl (lv_room (Nat.le_of_ble_eq_true rfl)) d_X2_lineOf_8 ⟨(Nat.le_of_ble_eq_true rfl), (Nat.le_of_ble_eq_true rfl)⟩) hP hD hS hA (fun r1 u1 H locs hw hP hD hS => ?_)
    have hP : va_P D vwCl (wB cy r σ0) H := hP
    have hD : va_D A (wB cy r σ0) := hD
    refine W.widen (k := 0) (n := 0) (Nat.le_of_ble_eq_true rfl) (Nat.le_of_ble_eq_true rfl) ?_
    exact k_iret (X := Unit) (w1 := fun _ => wB cy r σ0) () hx hb hr d_X2_lineOf_11 hlocks hP hK hD hS trivial
  rw [hH] at hgoal
  exact hgoal
set_option maxHeartbeats 4000000 in
set_option maxRecDepth 100000 in
theorem s_X2_kindOf (l : Launch) (D : va_G) (cy : Nat → ClassId) (sz : Nat) (w : Nat → Nat) (g : Nat → Nat → Int32) (r : Nat → Nat) (σ0 : St) (a1 : Int32) (i0 : Inv σ0) : Met l y_X2_kindOf (Cond.code y_X2_kindOf b_X2_kindOf 2 (some .int) :: GW) ({ frames := 1, cells := 0, slots := 0, locals := 21 } : Room) (va_Pc [.ref (r 7), .int a1] (kPreE D cy sz (wB cy r σ0) (gE w g))) ((fun A : Nat → Prop => va_Qi (S := Unit) (fun (_ : Int32) (_ : Unit) => True) (fun _ => kPost D cy A (wB cy r σ0)) A) (va_A (wB cy r σ0) sz)) 0 0 (va_A (wB cy r σ0) sz) := by
  refine k_ofWE (Qc := fun A => va_Qi (S := Unit) (fun (_ : Int32) (_ : Unit) => True) (fun _ => kPost D cy A (wB cy r σ0)) A) (by decide) (Nat.le_of_ble_eq_true rfl) ?_
  intro p e s m below meth c A ls hx hb hr hml hown hlocks hin hg hNW hK hP hD hA hS hl hE
  have hl : lv_has ls 2 [(0, .ref (r 7)), (1, .int a1)] := hl
  have hown : s.vm.findClass "LinkedUnits$Expressions" = some m.cls := hown
  obtain ⟨H, hH⟩ : ∃ H, H = s.heap := ⟨_, rfl⟩
  rw [← hH] at hP
  have hS : va_S A s.heap H [] := by rw [hH]; exact va_S.rf
  have hgoal : W p l e ({ frames := 1, cells := 0, slots := 0, locals := 21 } : Room) s m (([.ref (r 7), .int a1] : List Value).toArray) below meth c H [] 0 0 (MQ below (va_Qi (S := Unit) (fun (_ : Int32) (_ : Unit) => True) (fun _ => kPost D cy A (wB cy r σ0)) A) (([.ref (r 7), .int a1] : List Value).toArray) s 0 0 A) (F0 m 0 ls []) := by
    refine lv_aload_n hx hb d_X2_kindOf_0 rfl (lv_at hl 0 rfl) ?_
    refine va_get (D := D) (ci := 2) (v := .ref (r 2)) (C := "LinkedUnits$Expressions") (T := TX2) (N := 8) hx hb hg iwX2 hown hK hP 6 rfl rfl 1 (by decide) (hg _ m_457) (fun _ h9 => h9) rfl d_X2_kindOf_1 ?_
    refine va_getN (D := D) (ci := 10) (v := .ref (r 13)) (C := "LinkedUnits$Tokens") (T := TX10) (N := 10) hx hb hg iwX10 hown hK hP 1 rfl rfl 5 (by decide) (va_Nw.use rfl (hNW.1 _ nm_49)) (fun _ h9 => h9) rfl d_X2_kindOf_4 ?_
    refine lv_iload_n hx hb d_X2_kindOf_7 rfl (lv_at hl 1 rfl) ?_
    refine s_call1 (x := ((r 13), .inl (cy 1, 16002, .inl (σ0 13)))) 12 rfl (va_runSN (As := [.ref (r 13), .int a1]) (rest := []) ⟨hx, hb, hml, hown, hg⟩ (c_at_any l D cy H.size (r 13) 16002 (σ0 13) a1 (Nat.le_of_ble_eq_true rfl)) ⟨(va_cnB 2 hg (gw_c m_949) rfl rfl rfl (hNW.1 _ nm_1058) (hg _ m_1) (by decide +kernel) ⟨(Nat.le_of_ble_eq_true rfl), (Nat.le_of_ble_eq_true rfl)⟩), hg _ m_948, trivial⟩ (s_pre (ws := [((r 13), .inl (cy 1, 16002, .inl (σ0 13)))]) (s_sub1 12 hP rfl) (s_subD 12 hD rfl) hK hNW) rfl rfl hl.1 rfl (lv_room (Nat.le_of_ble_eq_true rfl)) d_X2_kindOf_8 ⟨(Nat.le_of_ble_eq_true rfl), (Nat.le_of_ble_eq_true rfl)⟩) hP hD hS hA (fun r1 u1 H locs hw hP hD hS => ?_)
    have hP : va_P D vwCl (wB cy r σ0) H := hP
    have hD : va_D A (wB cy r σ0) := hD
    refine W.widen (k := 0) (n := 0) (Nat.le_of_ble_eq_true rfl) (Nat.le_of_ble_eq_true rfl) ?_
    exact k_iret (X := Unit) (w1 := fun _ => wB cy r σ0) () hx hb hr d_X2_kindOf_11 hlocks hP hK hD hS trivial
  rw [hH] at hgoal
  exact hgoal
set_option maxHeartbeats 4000000 in
set_option maxRecDepth 100000 in
theorem s_X0_aim (l : Launch) (D : va_G) (cy : Nat → ClassId) (sz : Nat) (w : Nat → Nat) (g : Nat → Nat → Int32) (r : Nat → Nat) (σ0 : St) (a1 : Int32) (a2 : Int32) (i0 : Inv σ0) : Met l y_X0_aim (Cond.code y_X0_aim b_X0_aim 6 none :: GW) ({ frames := 1, cells := 0, slots := 0, locals := 22 } : Room) (va_Pc [.ref (r 4), .int a1, .int a2] (kPreE D cy sz (wB cy r σ0) (gE w g))) ((fun A : Nat → Prop => va_Qv (S := St) (fun (τ : St) => (Inv τ ∧ Keep [] [24] σ0 τ)) (fun τ => kPost D cy A (wB cy r τ)) A) (va_A (wB cy r σ0) sz)) 0 0 (va_A (wB cy r σ0) sz) := by
  refine k_ofWE (Qc := fun A => va_Qv (S := St) (fun (τ : St) => (Inv τ ∧ Keep [] [24] σ0 τ)) (fun τ => kPost D cy A (wB cy r τ)) A) (by decide) (Nat.le_of_ble_eq_true rfl) ?_
  intro p e s m below meth c A ls hx hb hr hml hown hlocks hin hg hNW hK hP hD hA hS hl hE
  have hl : lv_has ls 6 [(0, .ref (r 4)), (1, .int a1), (2, .int a2)] := hl
  have hown : s.vm.findClass "LinkedUnits$Code" = some m.cls := hown
  have b8 : ∀ (N : Nat) (σ : St) (x1 : Int32) (x2 : Int32) (x3 : Int32) (x4 : Int32) (H : Heap) (locs : List Loc) (ls : Array Slot), dnm x4 = N → Inv σ → Keep [] [24] σ0 σ → va_P D vwCl (wB cy r σ) H → va_D A (wB cy r σ) → va_S A s.heap H locs → lv_has ls 6 [(0, .ref (r 4)), (1, .int x1), (2, .int x2), (3, .int x3), (4, .int x4)] → W p l e ({ frames := 1, cells := 0, slots := 0, locals := 22 } : Room) s m (([.ref (r 4), .int a1, .int a2] : List Value).toArray) below meth c H locs 0 0 (MQ below (va_Qv (S := St) (fun (τ : St) => (Inv τ ∧ Keep [] [24] σ0 τ)) (fun τ => kPost D cy A (wB cy r τ)) A) (([.ref (r 4), .int a1, .int a2] : List Value).toArray) s 0 0 A) (F0 m 8 ls []) := by
    intro M8
    induction M8 using Nat.strongRecOn with
    | _ M8 ih8 =>
      intro σ x1 x2 x3 x4 H locs ls N8 inv kp hP hD hS hl
      refine lv_iload hx hb d_X0_aim_8 (lv_at hl 4 rfl) ?_
      refine lv_if_le (tgt := 49) hx hb d_X0_aim_10 (by decide) (fun c_10 => ?_) (fun c_10 => ?_)
      · -- taken at 10
        refine W.widen (k := 0) (n := 0) (Nat.le_of_ble_eq_true rfl) (Nat.le_of_ble_eq_true rfl) ?_
        exact k_vret (X := St) (w1 := fun τ => wB cy r τ) σ hx hb hr d_X0_aim_49 hlocks hP hK hD hS ⟨inv, kp⟩
      · -- not taken at 10
        refine lv_iload_n hx hb d_X0_aim_13 rfl (lv_at hl 3 rfl) ?_
        refine lv_if_lt (tgt := 49) hx hb d_X0_aim_14 (by decide) (fun c_14 => ?_) (fun c_14 => ?_)
        · -- taken at 14
          refine W.widen (k := 0) (n := 0) (Nat.le_of_ble_eq_true rfl) (Nat.le_of_ble_eq_true rfl) ?_
          exact k_vret (X := St) (w1 := fun τ => wB cy r τ) σ hx hb hr d_X0_aim_49 hlocks hP hK hD hS ⟨inv, kp⟩
        · -- not taken at 14
          refine lv_aload_n hx hb d_X0_aim_17 rfl (lv_at hl 0 rfl) ?_
          refine va_get (D := D) (ci := 0) (v := .ref (r 24)) (C := "LinkedUnits$Code") (T := TX0) (N := 2) hx hb hg iwX0 hown hK hP 3 rfl rfl 0 (by decide) (hg _ m_149) (fun _ h9 => h9) rfl d_X0_aim_18 ?_
          refine lv_iload_n hx hb d_X0_aim_21 rfl (lv_at hl 3 rfl) ?_
          refine lv_iconst (v := 1) hx hb d_X0_aim_22 (by decide) ?_
          refine lv_iadd hx hb d_X0_aim_23 ?_
          refine s_call1 (x := ((r 24), .inl (cy 1, 262208, .inl (σ 24)))) 23 rfl (va_runSN (As := [.ref (r 24), .int (x3 + 1)]) (rest := []) ⟨hx, hb, hml, hown, hg⟩ (c_at_any l D cy H.size (r 24) 262208 (σ 24) (x3 + 1) (Nat.le_of_ble_eq_true rfl)) ⟨(va_cnB 2 hg (gw_c m_949) rfl rfl rfl (hNW.1 _ nm_1213) (hg _ m_1) (by decide +kernel) ⟨(Nat.le_of_ble_eq_true rfl), (Nat.le_of_ble_eq_true rfl)⟩), hg _ m_948, trivial⟩ (s_pre (ws := [((r 24), .inl (cy 1, 262208, .inl (σ 24)))]) (s_sub1 23 hP rfl) (s_subD 23 hD rfl) hK hNW) rfl rfl hl.1 rfl (lv_room (Nat.le_of_ble_eq_true rfl)) d_X0_aim_24 ⟨(Nat.le_of_ble_eq_true rfl), (Nat.le_of_ble_eq_true rfl)⟩) hP hD hS hA (fun r1 u1 H locs hw hP hD hS => ?_)
          have hP : va_P D vwCl (wB cy r σ) H := hP
          have hD : va_D A (wB cy r σ) := hD
          refine lv_istore (lv' := [(5, .int r1), (0, .ref (r 4)), (1, .int x1), (2, .int x2), (3, .int x3), (4, .int x4)]) hx hb d_X0_aim_27 hl (by decide) rfl (fun ls hl => ?_)
          refine lv_aload_n hx hb d_X0_aim_29 rfl (lv_at hl 1 rfl) ?_
          refine va_get (D := D) (ci := 0) (v := .ref (r 24)) (C := "LinkedUnits$Code") (T := TX0) (N := 2) hx hb hg iwX0 hown hK hP 3 rfl rfl 0 (by decide) (hg _ m_149) (fun _ h9 => h9) rfl d_X0_aim_30 ?_
          refine lv_iload_n hx hb d_X0_aim_33 rfl (lv_at hl 4 rfl) ?_
          refine lv_iconst (v := 1) hx hb d_X0_aim_34 (by decide) ?_
          refine lv_iadd hx hb d_X0_aim_35 ?_
          refine lv_iload_n hx hb d_X0_aim_36 rfl (lv_at hl 3 rfl) ?_
          refine s_set1 (X := Nat → Int32) (w := fun g => .inl (cy 1, 262208, .inl g)) 23 rfl (va_runSN (As := [.ref (r 24), .int (x3 + 1), .int x2]) (rest := []) ⟨hx, hb, hml, hown, hg⟩ (c_set_any l D cy H.size (r 24) 262208 (σ 24) (x3 + 1) x2 (Nat.le_of_ble_eq_true rfl)) ⟨(va_cnB 3 hg (gw_c m_981) rfl rfl rfl (hNW.1 _ nm_1214) (hg _ m_1) (by decide +kernel) ⟨(Nat.le_of_ble_eq_true rfl), (Nat.le_of_ble_eq_true rfl)⟩), hg _ m_980, trivial⟩ (s_pre (ws := [((r 24), .inl (cy 1, 262208, .inl (σ 24)))]) (s_sub1 23 hP rfl) (s_subD 23 hD rfl) hK hNW) rfl rfl hl.1 rfl (lv_room (Nat.le_of_ble_eq_true rfl)) d_X0_aim_37 ⟨(Nat.le_of_ble_eq_true rfl), (Nat.le_of_ble_eq_true rfl)⟩) hP hD hS hA (fun g2 H locs hw hP hD hS => ?_)
          have hP : va_P D vwCl (wB cy r (upF σ 24 g2)) H := hP
          have hD : va_D A (wB cy r (upF σ 24 g2)) := hD
          have kp : Keep [] [24] σ0 (upF σ 24 g2) := keep_a kp (by decide)
          refine lv_iload hx hb d_X0_aim_40 (lv_at hl 0 rfl) ?_
          refine lv_istore_n (lv' := [(3, .int r1), (5, .int r1), (0, .ref (r 4)), (1, .int x1), (2, .int x2), (4, .int x4)]) hx hb d_X0_aim_42 rfl hl (by decide) rfl (fun ls hl => ?_)
          refine lv_iinc (v := (x4 + (-1))) (lv' := [(4, .int (x4 + (-1))), (3, .int r1), (5, .int r1), (0, .ref (r 4)), (1, .int x1), (2, .int x2)]) hx hb d_X0_aim_43 hl (k := 5) rfl rfl (by decide) rfl (fun ls hl => ?_)
          refine lv_goto (tgt := 8) hx hb d_X0_aim_46 (by decide) ?_
          exact ih8 _ (Nat.lt_of_lt_of_eq (dnm_lt c_10) N8) (upF σ 24 g2) x1 x2 r1 (x4 + (-1)) _ _ _ rfl inv kp hP hD hS (lv_sub hl [3, 4, 5, 1, 0] rfl)
  have kp : Keep [] [24] σ0 σ0 := keep_rf
  obtain ⟨H, hH⟩ : ∃ H, H = s.heap := ⟨_, rfl⟩
  rw [← hH] at hP
  have hS : va_S A s.heap H [] := by rw [hH]; exact va_S.rf
  have hgoal : W p l e ({ frames := 1, cells := 0, slots := 0, locals := 22 } : Room) s m (([.ref (r 4), .int a1, .int a2] : List Value).toArray) below meth c H [] 0 0 (MQ below (va_Qv (S := St) (fun (τ : St) => (Inv τ ∧ Keep [] [24] σ0 τ)) (fun τ => kPost D cy A (wB cy r τ)) A) (([.ref (r 4), .int a1, .int a2] : List Value).toArray) s 0 0 A) (F0 m 0 ls []) := by
    refine lv_iload_n hx hb d_X0_aim_0 rfl (lv_at hl 1 rfl) ?_
    refine lv_istore_n (lv' := [(3, .int a1), (0, .ref (r 4)), (1, .int a1), (2, .int a2)]) hx hb d_X0_aim_1 rfl hl (by decide) rfl (fun ls hl => ?_)
    refine lv_aload_n hx hb d_X0_aim_2 rfl (lv_at hl 1 rfl) ?_
    refine va_get (D := D) (ci := 0) (v := .int (σ0 4 1)) (C := "LinkedUnits$Code") (T := TX0) (N := 2) hx hb hg iwX0 hown hK hP 3 rfl rfl 1 (by decide) (hg _ m_152) (fun _ h9 => h9) rfl d_X0_aim_3 ?_
    refine lv_istore (lv' := [(4, .int (σ0 4 1)), (3, .int a1), (0, .ref (r 4)), (1, .int a1), (2, .int a2)]) hx hb d_X0_aim_6 hl (by decide) rfl (fun ls hl => ?_)
    exact b8 _ σ0 a1 a2 a1 (σ0 4 1) _ _ _ rfl i0 kp hP hD hS (lv_sub hl [2, 3, 4, 1, 0] rfl)
  rw [hH] at hgoal
  exact hgoal
set_option maxHeartbeats 4000000 in
set_option maxRecDepth 100000 in
theorem s_X5_compared (l : Launch) (D : va_G) (cy : Nat → ClassId) (sz : Nat) (a0 : Int32) (a1 : Int32) (a2 : Int32) : Met l y_X5_compared (Cond.code y_X5_compared b_X5_compared 4 (some .boolean) :: GW) ({ frames := 0, cells := 0, slots := 0, locals := 0 } : Room) (va_Pc [.int a0, .int a1, .int a2] (kPre D cy sz [])) ((fun A : Nat → Prop => va_Qi (S := Unit) (fun (v9 : Int32) (_ : Unit) => (v9 = 0 ∨ v9 = 1) ∧ True) (fun _ => kPost D cy A []) A) (va_A [] sz)) 0 0 (va_A [] sz) := by
  refine k_ofW (Qc := fun A => va_Qi (S := Unit) (fun (v9 : Int32) (_ : Unit) => (v9 = 0 ∨ v9 = 1) ∧ True) (fun _ => kPost D cy A []) A) (by decide) (Nat.le_of_ble_eq_true rfl) ?_
  intro p e s m below meth c A ls hx hb hr hml hown hlocks hin hg hNW hK hP hD hA hS hl
  have hl : lv_has ls 4 [(0, .int a0), (1, .int a1), (2, .int a2)] := hl
  have hown : s.vm.findClass "LinkedUnits$Machine" = some m.cls := hown
  obtain ⟨H, hH⟩ : ∃ H, H = s.heap := ⟨_, rfl⟩
  rw [← hH] at hP
  have hS : va_S A s.heap H [] := by rw [hH]; exact va_S.rf
  have hgoal : W p l e ({ frames := 0, cells := 0, slots := 0, locals := 0 } : Room) s m (([.int a0, .int a1, .int a2] : List Value).toArray) below meth c H [] 0 0 (MQ below (va_Qi (S := Unit) (fun (v9 : Int32) (_ : Unit) => (v9 = 0 ∨ v9 = 1) ∧ True) (fun _ => kPost D cy A []) A) (([.int a0, .int a1, .int a2] : List Value).toArray) s 0 0 A) (F0 m 0 ls []) := by
    refine lv_ldc (v := (-2147483648)) hx hb hown (hg _ m_1232) d_X5_compared_0 ?_
    refine lv_istore_n (lv' := [(3, .int (-2147483648)), (0, .int a0), (1, .int a1), (2, .int a2)]) hx hb d_X5_compared_2 rfl hl (by decide) rfl (fun ls hl => ?_)
    refine lv_iload_n hx hb d_X5_compared_3 rfl (lv_at hl 1 rfl) ?_
    refine (Decidable.em (a0 = 51)).elim (fun q4_0 => ?_) (fun q4_0 => ?_)
    · refine k_topi 51 q4_0 ?_
      refine lv_tableIn (off := 56) (tgt := 60) hx hb d_X5_compared_4 (by decide +kernel) (by decide +kernel) (by decide +kernel) (by decide) ?_
      refine lv_iload_n hx hb d_X5_compared_60 rfl (lv_at hl 2 rfl) ?_
      refine lv_iload_n hx hb d_X5_compared_61 rfl (lv_at hl 3 rfl) ?_
      refine lv_icmp_ne (tgt := 69) hx hb d_X5_compared_62 (by decide) (fun c_62 => ?_) (fun c_62 => ?_)
      · -- taken at 62
        refine lv_iconst (v := 0) hx hb d_X5_compared_69 (by decide) ?_
        refine W.widen (k := 0) (n := 0) (Nat.le_of_ble_eq_true rfl) (Nat.le_of_ble_eq_true rfl) ?_
        exact k_zret (X := Unit) (w1 := fun _ => []) () hx hb hr (k_nz (Or.inl rfl)) d_X5_compared_70 hlocks hP hK hD hS ⟨(Or.inl rfl), trivial⟩
      · -- not taken at 62
        refine lv_iconst (v := 1) hx hb d_X5_compared_65 (by decide) ?_
        refine lv_goto (tgt := 70) hx hb d_X5_compared_66 (by decide) ?_
        refine W.widen (k := 0) (n := 0) (Nat.le_of_ble_eq_true rfl) (Nat.le_of_ble_eq_true rfl) ?_
        exact k_zret (X := Unit) (w1 := fun _ => []) () hx hb hr (k_nz (Or.inr rfl)) d_X5_compared_70 hlocks hP hK hD hS ⟨(Or.inr rfl), trivial⟩
    refine (Decidable.em (a0 = 52)).elim (fun q4_1 => ?_) (fun q4_1 => ?_)
    · refine k_topi 52 q4_1 ?_
      refine lv_tableIn (off := 67) (tgt := 71) hx hb d_X5_compared_4 (by decide +kernel) (by decide +kernel) (by decide +kernel) (by decide) ?_
      refine lv_iload_n hx hb d_X5_compared_71 rfl (lv_at hl 2 rfl) ?_
      refine lv_iload_n hx hb d_X5_compared_72 rfl (lv_at hl 3 rfl) ?_
      refine lv_icmp_eq (tgt := 80) hx hb d_X5_compared_73 (by decide) (fun c_73 => ?_) (fun c_73 => ?_)
      · -- taken at 73
        refine lv_iconst (v := 0) hx hb d_X5_compared_80 (by decide) ?_
        refine W.widen (k := 0) (n := 0) (Nat.le_of_ble_eq_true rfl) (Nat.le_of_ble_eq_true rfl) ?_
        exact k_zret (X := Unit) (w1 := fun _ => []) () hx hb hr (k_nz (Or.inl rfl)) d_X5_compared_81 hlocks hP hK hD hS ⟨(Or.inl rfl), trivial⟩
      · -- not taken at 73
        refine lv_iconst (v := 1) hx hb d_X5_compared_76 (by decide) ?_
        refine lv_goto (tgt := 81) hx hb d_X5_compared_77 (by decide) ?_
        refine W.widen (k := 0) (n := 0) (Nat.le_of_ble_eq_true rfl) (Nat.le_of_ble_eq_true rfl) ?_
        exact k_zret (X := Unit) (w1 := fun _ => []) () hx hb hr (k_nz (Or.inr rfl)) d_X5_compared_81 hlocks hP hK hD hS ⟨(Or.inr rfl), trivial⟩
    refine (Decidable.em (a0 = 53)).elim (fun q4_2 => ?_) (fun q4_2 => ?_)
    · refine k_topi 53 q4_2 ?_
      refine lv_tableIn (off := 78) (tgt := 82) hx hb d_X5_compared_4 (by decide +kernel) (by decide +kernel) (by decide +kernel) (by decide) ?_
      refine lv_iload_n hx hb d_X5_compared_82 rfl (lv_at hl 2 rfl) ?_
      refine lv_iload_n hx hb d_X5_compared_83 rfl (lv_at hl 3 rfl) ?_
      refine lv_icmp_ge (tgt := 91) hx hb d_X5_compared_84 (by decide) (fun c_84 => ?_) (fun c_84 => ?_)
      · -- taken at 84
        refine lv_iconst (v := 0) hx hb d_X5_compared_91 (by decide) ?_
        refine W.widen (k := 0) (n := 0) (Nat.le_of_ble_eq_true rfl) (Nat.le_of_ble_eq_true rfl) ?_
        exact k_zret (X := Unit) (w1 := fun _ => []) () hx hb hr (k_nz (Or.inl rfl)) d_X5_compared_92 hlocks hP hK hD hS ⟨(Or.inl rfl), trivial⟩
      · -- not taken at 84
        refine lv_iconst (v := 1) hx hb d_X5_compared_87 (by decide) ?_
        refine lv_goto (tgt := 92) hx hb d_X5_compared_88 (by decide) ?_
        refine W.widen (k := 0) (n := 0) (Nat.le_of_ble_eq_true rfl) (Nat.le_of_ble_eq_true rfl) ?_
        exact k_zret (X := Unit) (w1 := fun _ => []) () hx hb hr (k_nz (Or.inr rfl)) d_X5_compared_92 hlocks hP hK hD hS ⟨(Or.inr rfl), trivial⟩
    refine (Decidable.em (a0 = 54)).elim (fun q4_3 => ?_) (fun q4_3 => ?_)
    · refine k_topi 54 q4_3 ?_
      refine lv_tableIn (off := 89) (tgt := 93) hx hb d_X5_compared_4 (by decide +kernel) (by decide +kernel) (by decide +kernel) (by decide) ?_
      refine lv_iload_n hx hb d_X5_compared_93 rfl (lv_at hl 2 rfl) ?_
      refine lv_iload_n hx hb d_X5_compared_94 rfl (lv_at hl 3 rfl) ?_
      refine lv_icmp_le (tgt := 102) hx hb d_X5_compared_95 (by decide) (fun c_95 => ?_) (fun c_95 => ?_)
      · -- taken at 95
        refine lv_iconst (v := 0) hx hb d_X5_compared_102 (by decide) ?_
        refine W.widen (k := 0) (n := 0) (Nat.le_of_ble_eq_true rfl) (Nat.le_of_ble_eq_true rfl) ?_
        exact k_zret (X := Unit) (w1 := fun _ => []) () hx hb hr (k_nz (Or.inl rfl)) d_X5_compared_103 hlocks hP hK hD hS ⟨(Or.inl rfl), trivial⟩
      · -- not taken at 95
        refine lv_iconst (v := 1) hx hb d_X5_compared_98 (by decide) ?_
        refine lv_goto (tgt := 103) hx hb d_X5_compared_99 (by decide) ?_
        refine W.widen (k := 0) (n := 0) (Nat.le_of_ble_eq_true rfl) (Nat.le_of_ble_eq_true rfl) ?_
        exact k_zret (X := Unit) (w1 := fun _ => []) () hx hb hr (k_nz (Or.inr rfl)) d_X5_compared_103 hlocks hP hK hD hS ⟨(Or.inr rfl), trivial⟩
    refine (Decidable.em (a0 = 55)).elim (fun q4_4 => ?_) (fun q4_4 => ?_)
    · refine k_topi 55 q4_4 ?_
      refine lv_tableIn (off := 100) (tgt := 104) hx hb d_X5_compared_4 (by decide +kernel) (by decide +kernel) (by decide +kernel) (by decide) ?_
      refine lv_iload_n hx hb d_X5_compared_104 rfl (lv_at hl 2 rfl) ?_
      refine lv_iload_n hx hb d_X5_compared_105 rfl (lv_at hl 3 rfl) ?_
      refine lv_icmp_gt (tgt := 113) hx hb d_X5_compared_106 (by decide) (fun c_106 => ?_) (fun c_106 => ?_)
      · -- taken at 106
        refine lv_iconst (v := 0) hx hb d_X5_compared_113 (by decide) ?_
        refine W.widen (k := 0) (n := 0) (Nat.le_of_ble_eq_true rfl) (Nat.le_of_ble_eq_true rfl) ?_
        exact k_zret (X := Unit) (w1 := fun _ => []) () hx hb hr (k_nz (Or.inl rfl)) d_X5_compared_114 hlocks hP hK hD hS ⟨(Or.inl rfl), trivial⟩
      · -- not taken at 106
        refine lv_iconst (v := 1) hx hb d_X5_compared_109 (by decide) ?_
        refine lv_goto (tgt := 114) hx hb d_X5_compared_110 (by decide) ?_
        refine W.widen (k := 0) (n := 0) (Nat.le_of_ble_eq_true rfl) (Nat.le_of_ble_eq_true rfl) ?_
        exact k_zret (X := Unit) (w1 := fun _ => []) () hx hb hr (k_nz (Or.inr rfl)) d_X5_compared_114 hlocks hP hK hD hS ⟨(Or.inr rfl), trivial⟩
    refine (Decidable.em (a0 = 56)).elim (fun q4_5 => ?_) (fun q4_5 => ?_)
    · refine k_topi 56 q4_5 ?_
      refine lv_tableIn (off := 111) (tgt := 115) hx hb d_X5_compared_4 (by decide +kernel) (by decide +kernel) (by decide +kernel) (by decide) ?_
      refine lv_iload_n hx hb d_X5_compared_115 rfl (lv_at hl 2 rfl) ?_
      refine lv_iload_n hx hb d_X5_compared_116 rfl (lv_at hl 3 rfl) ?_
      refine lv_icmp_lt (tgt := 124) hx hb d_X5_compared_117 (by decide) (fun c_117 => ?_) (fun c_117 => ?_)
      · -- taken at 117
        refine lv_iconst (v := 0) hx hb d_X5_compared_124 (by decide) ?_
        refine W.widen (k := 0) (n := 0) (Nat.le_of_ble_eq_true rfl) (Nat.le_of_ble_eq_true rfl) ?_
        exact k_zret (X := Unit) (w1 := fun _ => []) () hx hb hr (k_nz (Or.inl rfl)) d_X5_compared_125 hlocks hP hK hD hS ⟨(Or.inl rfl), trivial⟩
      · -- not taken at 117
        refine lv_iconst (v := 1) hx hb d_X5_compared_120 (by decide) ?_
        refine lv_goto (tgt := 125) hx hb d_X5_compared_121 (by decide) ?_
        refine W.widen (k := 0) (n := 0) (Nat.le_of_ble_eq_true rfl) (Nat.le_of_ble_eq_true rfl) ?_
        exact k_zret (X := Unit) (w1 := fun _ => []) () hx hb hr (k_nz (Or.inr rfl)) d_X5_compared_125 hlocks hP hK hD hS ⟨(Or.inr rfl), trivial⟩
    refine (Decidable.em (a0 = 57)).elim (fun q4_6 => ?_) (fun q4_6 => ?_)
    · refine k_topi 57 q4_6 ?_
      refine lv_tableIn (off := 122) (tgt := 126) hx hb d_X5_compared_4 (by decide +kernel) (by decide +kernel) (by decide +kernel) (by decide) ?_
      refine lv_iload_n hx hb d_X5_compared_126 rfl (lv_at hl 2 rfl) ?_
      refine lv_iload_n hx hb d_X5_compared_127 rfl (lv_at hl 0 rfl) ?_
      refine lv_iadd hx hb d_X5_compared_128 ?_
      refine lv_iload_n hx hb d_X5_compared_129 rfl (lv_at hl 3 rfl) ?_
      refine lv_iload_n hx hb d_X5_compared_130 rfl (lv_at hl 0 rfl) ?_
      refine lv_iadd hx hb d_X5_compared_131 ?_
      refine lv_icmp_ge (tgt := 139) hx hb d_X5_compared_132 (by decide) (fun c_132 => ?_) (fun c_132 => ?_)
      · -- taken at 132
        refine lv_iconst (v := 0) hx hb d_X5_compared_139 (by decide) ?_
        refine W.widen (k := 0) (n := 0) (Nat.le_of_ble_eq_true rfl) (Nat.le_of_ble_eq_true rfl) ?_
        exact k_zret (X := Unit) (w1 := fun _ => []) () hx hb hr (k_nz (Or.inl rfl)) d_X5_compared_140 hlocks hP hK hD hS ⟨(Or.inl rfl), trivial⟩
      · -- not taken at 132
        refine lv_iconst (v := 1) hx hb d_X5_compared_135 (by decide) ?_
        refine lv_goto (tgt := 140) hx hb d_X5_compared_136 (by decide) ?_
        refine W.widen (k := 0) (n := 0) (Nat.le_of_ble_eq_true rfl) (Nat.le_of_ble_eq_true rfl) ?_
        exact k_zret (X := Unit) (w1 := fun _ => []) () hx hb hr (k_nz (Or.inr rfl)) d_X5_compared_140 hlocks hP hK hD hS ⟨(Or.inr rfl), trivial⟩
    refine (Decidable.em (a0 = 58)).elim (fun q4_7 => ?_) (fun q4_7 => ?_)
    · refine k_topi 58 q4_7 ?_
      refine lv_tableIn (off := 137) (tgt := 141) hx hb d_X5_compared_4 (by decide +kernel) (by decide +kernel) (by decide +kernel) (by decide) ?_
      refine lv_iload_n hx hb d_X5_compared_141 rfl (lv_at hl 2 rfl) ?_
      refine lv_iload_n hx hb d_X5_compared_142 rfl (lv_at hl 0 rfl) ?_
      refine lv_iadd hx hb d_X5_compared_143 ?_
      refine lv_iload_n hx hb d_X5_compared_144 rfl (lv_at hl 3 rfl) ?_
      refine lv_iload_n hx hb d_X5_compared_145 rfl (lv_at hl 0 rfl) ?_
      refine lv_iadd hx hb d_X5_compared_146 ?_
      refine lv_icmp_le (tgt := 154) hx hb d_X5_compared_147 (by decide) (fun c_147 => ?_) (fun c_147 => ?_)
      · -- taken at 147
        refine lv_iconst (v := 0) hx hb d_X5_compared_154 (by decide) ?_
        refine W.widen (k := 0) (n := 0) (Nat.le_of_ble_eq_true rfl) (Nat.le_of_ble_eq_true rfl) ?_
        exact k_zret (X := Unit) (w1 := fun _ => []) () hx hb hr (k_nz (Or.inl rfl)) d_X5_compared_155 hlocks hP hK hD hS ⟨(Or.inl rfl), trivial⟩
      · -- not taken at 147
        refine lv_iconst (v := 1) hx hb d_X5_compared_150 (by decide) ?_
        refine lv_goto (tgt := 155) hx hb d_X5_compared_151 (by decide) ?_
        refine W.widen (k := 0) (n := 0) (Nat.le_of_ble_eq_true rfl) (Nat.le_of_ble_eq_true rfl) ?_
        exact k_zret (X := Unit) (w1 := fun _ => []) () hx hb hr (k_nz (Or.inr rfl)) d_X5_compared_155 hlocks hP hK hD hS ⟨(Or.inr rfl), trivial⟩
    refine (Decidable.em (a0 = 59)).elim (fun q4_8 => ?_) (fun q4_8 => ?_)
    · refine k_topi 59 q4_8 ?_
      refine lv_tableIn (off := 152) (tgt := 156) hx hb d_X5_compared_4 (by decide +kernel) (by decide +kernel) (by decide +kernel) (by decide) ?_
      refine lv_iload_n hx hb d_X5_compared_156 rfl (lv_at hl 2 rfl) ?_
      refine lv_iload_n hx hb d_X5_compared_157 rfl (lv_at hl 0 rfl) ?_
      refine lv_iadd hx hb d_X5_compared_158 ?_
      refine lv_iload_n hx hb d_X5_compared_159 rfl (lv_at hl 3 rfl) ?_
      refine lv_iload_n hx hb d_X5_compared_160 rfl (lv_at hl 0 rfl) ?_
      refine lv_iadd hx hb d_X5_compared_161 ?_
      refine lv_icmp_gt (tgt := 169) hx hb d_X5_compared_162 (by decide) (fun c_162 => ?_) (fun c_162 => ?_)
      · -- taken at 162
        refine lv_iconst (v := 0) hx hb d_X5_compared_169 (by decide) ?_
        refine W.widen (k := 0) (n := 0) (Nat.le_of_ble_eq_true rfl) (Nat.le_of_ble_eq_true rfl) ?_
        exact k_zret (X := Unit) (w1 := fun _ => []) () hx hb hr (k_nz (Or.inl rfl)) d_X5_compared_170 hlocks hP hK hD hS ⟨(Or.inl rfl), trivial⟩
      · -- not taken at 162
        refine lv_iconst (v := 1) hx hb d_X5_compared_165 (by decide) ?_
        refine lv_goto (tgt := 170) hx hb d_X5_compared_166 (by decide) ?_
        refine W.widen (k := 0) (n := 0) (Nat.le_of_ble_eq_true rfl) (Nat.le_of_ble_eq_true rfl) ?_
        exact k_zret (X := Unit) (w1 := fun _ => []) () hx hb hr (k_nz (Or.inr rfl)) d_X5_compared_170 hlocks hP hK hD hS ⟨(Or.inr rfl), trivial⟩
    refine (Decidable.em (a0 = 60)).elim (fun q4_9 => ?_) (fun q4_9 => ?_)
    · refine k_topi 60 q4_9 ?_
      refine lv_tableIn (off := 167) (tgt := 171) hx hb d_X5_compared_4 (by decide +kernel) (by decide +kernel) (by decide +kernel) (by decide) ?_
      refine lv_iload_n hx hb d_X5_compared_171 rfl (lv_at hl 2 rfl) ?_
      refine lv_iload_n hx hb d_X5_compared_172 rfl (lv_at hl 0 rfl) ?_
      refine lv_iadd hx hb d_X5_compared_173 ?_
      refine lv_iload_n hx hb d_X5_compared_174 rfl (lv_at hl 3 rfl) ?_
      refine lv_iload_n hx hb d_X5_compared_175 rfl (lv_at hl 0 rfl) ?_
      refine lv_iadd hx hb d_X5_compared_176 ?_
      refine lv_icmp_lt (tgt := 184) hx hb d_X5_compared_177 (by decide) (fun c_177 => ?_) (fun c_177 => ?_)
      · -- taken at 177
        refine lv_iconst (v := 0) hx hb d_X5_compared_184 (by decide) ?_
        refine W.widen (k := 0) (n := 0) (Nat.le_of_ble_eq_true rfl) (Nat.le_of_ble_eq_true rfl) ?_
        exact k_zret (X := Unit) (w1 := fun _ => []) () hx hb hr (k_nz (Or.inl rfl)) d_X5_compared_185 hlocks hP hK hD hS ⟨(Or.inl rfl), trivial⟩
      · -- not taken at 177
        refine lv_iconst (v := 1) hx hb d_X5_compared_180 (by decide) ?_
        refine lv_goto (tgt := 185) hx hb d_X5_compared_181 (by decide) ?_
        refine W.widen (k := 0) (n := 0) (Nat.le_of_ble_eq_true rfl) (Nat.le_of_ble_eq_true rfl) ?_
        exact k_zret (X := Unit) (w1 := fun _ => []) () hx hb hr (k_nz (Or.inr rfl)) d_X5_compared_185 hlocks hP hK hD hS ⟨(Or.inr rfl), trivial⟩
    refine lv_tableOut (tgt := 186) hx hb d_X5_compared_4 (by have hq4_0 := lv_neT q4_0 (show (51 : Int32).toInt = 51 by decide); have hq4_1 := lv_neT q4_1 (show (52 : Int32).toInt = 52 by decide); have hq4_2 := lv_neT q4_2 (show (53 : Int32).toInt = 53 by decide); have hq4_3 := lv_neT q4_3 (show (54 : Int32).toInt = 54 by decide); have hq4_4 := lv_neT q4_4 (show (55 : Int32).toInt = 55 by decide); have hq4_5 := lv_neT q4_5 (show (56 : Int32).toInt = 56 by decide); have hq4_6 := lv_neT q4_6 (show (57 : Int32).toInt = 57 by decide); have hq4_7 := lv_neT q4_7 (show (58 : Int32).toInt = 58 by decide); have hq4_8 := lv_neT q4_8 (show (59 : Int32).toInt = 59 by decide); have hq4_9 := lv_neT q4_9 (show (60 : Int32).toInt = 60 by decide); omega) (by decide) ?_
    refine lv_iconst (v := 0) hx hb d_X5_compared_186 (by decide) ?_
    refine W.widen (k := 0) (n := 0) (Nat.le_of_ble_eq_true rfl) (Nat.le_of_ble_eq_true rfl) ?_
    exact k_zret (X := Unit) (w1 := fun _ => []) () hx hb hr (k_nz (Or.inl rfl)) d_X5_compared_187 hlocks hP hK hD hS ⟨(Or.inl rfl), trivial⟩
  rw [hH] at hgoal
  exact hgoal
set_option maxHeartbeats 4000000 in
set_option maxRecDepth 100000 in
theorem s_X5_inverted (l : Launch) (D : va_G) (cy : Nat → ClassId) (sz : Nat) (a0 : Int32) (a1 : Int32) : Met l y_X5_inverted (Cond.code y_X5_inverted b_X5_inverted 2 (some .int) :: GW) ({ frames := 0, cells := 0, slots := 0, locals := 0 } : Room) (va_Pc [.int a0, .int a1] (kPre D cy sz [])) ((fun A : Nat → Prop => va_Qi (S := Unit) (fun (_ : Int32) (_ : Unit) => True) (fun _ => kPost D cy A []) A) (va_A [] sz)) 0 0 (va_A [] sz) := by
  refine k_ofW (Qc := fun A => va_Qi (S := Unit) (fun (_ : Int32) (_ : Unit) => True) (fun _ => kPost D cy A []) A) (by decide) (Nat.le_of_ble_eq_true rfl) ?_
  intro p e s m below meth c A ls hx hb hr hml hown hlocks hin hg hNW hK hP hD hA hS hl
  have hl : lv_has ls 2 [(0, .int a0), (1, .int a1)] := hl
  have hown : s.vm.findClass "LinkedUnits$Machine" = some m.cls := hown
  obtain ⟨H, hH⟩ : ∃ H, H = s.heap := ⟨_, rfl⟩
  rw [← hH] at hP
  have hS : va_S A s.heap H [] := by rw [hH]; exact va_S.rf
  have hgoal : W p l e ({ frames := 0, cells := 0, slots := 0, locals := 0 } : Room) s m (([.int a0, .int a1] : List Value).toArray) below meth c H [] 0 0 (MQ below (va_Qi (S := Unit) (fun (_ : Int32) (_ : Unit) => True) (fun _ => kPost D cy A []) A) (([.int a0, .int a1] : List Value).toArray) s 0 0 A) (F0 m 0 ls []) := by
    refine lv_iload_n hx hb d_X5_inverted_0 rfl (lv_at hl 0 rfl) ?_
    refine (Decidable.em (a0 = 22)).elim (fun q1_0 => ?_) (fun q1_0 => ?_)
    · refine k_topi 22 q1_0 ?_
      refine lv_tableIn (off := 27) (tgt := 28) hx hb d_X5_inverted_1 (by decide +kernel) (by decide +kernel) (by decide +kernel) (by decide) ?_
      refine lv_iload_n hx hb d_X5_inverted_28 rfl (lv_at hl 1 rfl) ?_
      refine lv_ineg hx hb d_X5_inverted_29 ?_
      refine W.widen (k := 0) (n := 0) (Nat.le_of_ble_eq_true rfl) (Nat.le_of_ble_eq_true rfl) ?_
      exact k_iret (X := Unit) (w1 := fun _ => []) () hx hb hr d_X5_inverted_30 hlocks hP hK hD hS trivial
    refine (Decidable.em (a0 = 23)).elim (fun q1_1 => ?_) (fun q1_1 => ?_)
    · refine k_topi 23 q1_1 ?_
      refine lv_tableIn (off := 30) (tgt := 31) hx hb d_X5_inverted_1 (by decide +kernel) (by decide +kernel) (by decide +kernel) (by decide) ?_
      refine lv_iload_n hx hb d_X5_inverted_31 rfl (lv_at hl 1 rfl) ?_
      refine lv_iconst (v := (-1)) hx hb d_X5_inverted_32 (by decide) ?_
      refine lv_ixor hx hb d_X5_inverted_33 ?_
      refine W.widen (k := 0) (n := 0) (Nat.le_of_ble_eq_true rfl) (Nat.le_of_ble_eq_true rfl) ?_
      exact k_iret (X := Unit) (w1 := fun _ => []) () hx hb hr d_X5_inverted_34 hlocks hP hK hD hS trivial
    refine (Decidable.em (a0 = 24)).elim (fun q1_2 => ?_) (fun q1_2 => ?_)
    · refine k_topi 24 q1_2 ?_
      refine lv_tableIn (off := 34) (tgt := 35) hx hb d_X5_inverted_1 (by decide +kernel) (by decide +kernel) (by decide +kernel) (by decide) ?_
      refine lv_iload_n hx hb d_X5_inverted_35 rfl (lv_at hl 1 rfl) ?_
      refine lv_if_ne (tgt := 43) hx hb d_X5_inverted_36 (by decide) (fun c_36 => ?_) (fun c_36 => ?_)
      · -- taken at 36
        refine lv_iconst (v := 0) hx hb d_X5_inverted_43 (by decide) ?_
        refine W.widen (k := 0) (n := 0) (Nat.le_of_ble_eq_true rfl) (Nat.le_of_ble_eq_true rfl) ?_
        exact k_iret (X := Unit) (w1 := fun _ => []) () hx hb hr d_X5_inverted_44 hlocks hP hK hD hS trivial
      · -- not taken at 36
        refine lv_iconst (v := 1) hx hb d_X5_inverted_39 (by decide) ?_
        refine lv_goto (tgt := 44) hx hb d_X5_inverted_40 (by decide) ?_
        refine W.widen (k := 0) (n := 0) (Nat.le_of_ble_eq_true rfl) (Nat.le_of_ble_eq_true rfl) ?_
        exact k_iret (X := Unit) (w1 := fun _ => []) () hx hb hr d_X5_inverted_44 hlocks hP hK hD hS trivial
    refine lv_tableOut (tgt := 45) hx hb d_X5_inverted_1 (by have hq1_0 := lv_neT q1_0 (show (22 : Int32).toInt = 22 by decide); have hq1_1 := lv_neT q1_1 (show (23 : Int32).toInt = 23 by decide); have hq1_2 := lv_neT q1_2 (show (24 : Int32).toInt = 24 by decide); omega) (by decide) ?_
    refine lv_iload_n hx hb d_X5_inverted_45 rfl (lv_at hl 1 rfl) ?_
    refine lv_if_eq (tgt := 53) hx hb d_X5_inverted_46 (by decide) (fun c_46 => ?_) (fun c_46 => ?_)
    · -- taken at 46
      refine lv_iconst (v := 0) hx hb d_X5_inverted_53 (by decide) ?_
      refine W.widen (k := 0) (n := 0) (Nat.le_of_ble_eq_true rfl) (Nat.le_of_ble_eq_true rfl) ?_
      exact k_iret (X := Unit) (w1 := fun _ => []) () hx hb hr d_X5_inverted_54 hlocks hP hK hD hS trivial
    · -- not taken at 46
      refine lv_iconst (v := 1) hx hb d_X5_inverted_49 (by decide) ?_
      refine lv_goto (tgt := 54) hx hb d_X5_inverted_50 (by decide) ?_
      refine W.widen (k := 0) (n := 0) (Nat.le_of_ble_eq_true rfl) (Nat.le_of_ble_eq_true rfl) ?_
      exact k_iret (X := Unit) (w1 := fun _ => []) () hx hb hr d_X5_inverted_54 hlocks hP hK hD hS trivial
  rw [hH] at hgoal
  exact hgoal
set_option maxHeartbeats 4000000 in
set_option maxRecDepth 100000 in
theorem s_X11_open (l : Launch) (D : va_G) (cy : Nat → ClassId) (sz : Nat) (w : Nat → Nat) (g : Nat → Nat → Int32) (r : Nat → Nat) (σ0 : St) (i0 : Inv σ0) : Met l y_X11_open (Cond.code y_X11_open b_X11_open 1 none :: GW) ({ frames := 1, cells := 0, slots := 0, locals := 22 } : Room) (va_Pc [.ref (r 6)] (kPreE D cy sz (wB cy r σ0) (gE w g))) ((fun A : Nat → Prop => va_Qv (S := St) (fun (τ : St) => (Inv τ ∧ Keep [(6, 17)] [45] σ0 τ)) (fun τ => kPost D cy A (wB cy r τ)) A) (va_A (wB cy r σ0) sz)) 0 0 (va_A (wB cy r σ0) sz) := by
  refine k_ofWE (Qc := fun A => va_Qv (S := St) (fun (τ : St) => (Inv τ ∧ Keep [(6, 17)] [45] σ0 τ)) (fun τ => kPost D cy A (wB cy r τ)) A) (by decide) (Nat.le_of_ble_eq_true rfl) ?_
  intro p e s m below meth c A ls hx hb hr hml hown hlocks hin hg hNW hK hP hD hA hS hl hE
  have hl : lv_has ls 1 [(0, .ref (r 6))] := hl
  have hown : s.vm.findClass "LinkedUnits$Unit" = some m.cls := hown
  have kp : Keep [(6, 17)] [45] σ0 σ0 := keep_rf
  obtain ⟨H, hH⟩ : ∃ H, H = s.heap := ⟨_, rfl⟩
  rw [← hH] at hP
  have hS : va_S A s.heap H [] := by rw [hH]; exact va_S.rf
  have hgoal : W p l e ({ frames := 1, cells := 0, slots := 0, locals := 22 } : Room) s m (([.ref (r 6)] : List Value).toArray) below meth c H [] 0 0 (MQ below (va_Qv (S := St) (fun (τ : St) => (Inv τ ∧ Keep [(6, 17)] [45] σ0 τ)) (fun τ => kPost D cy A (wB cy r τ)) A) (([.ref (r 6)] : List Value).toArray) s 0 0 A) (F0 m 0 ls []) := by
    refine lv_aload_n hx hb d_X11_open_0 rfl (lv_at hl 0 rfl) ?_
    refine va_get (D := D) (ci := 11) (v := .ref (r 45)) (C := "LinkedUnits$Unit") (T := TX11) (N := 19) hx hb hg iwX11 hown hK hP 5 rfl rfl 18 (by decide) (hg _ m_345) (fun _ h9 => h9) rfl d_X11_open_1 ?_
    refine lv_aload_n hx hb d_X11_open_4 rfl (lv_at hl 0 rfl) ?_
    refine va_get (D := D) (ci := 11) (v := .int (σ0 6 17)) (C := "LinkedUnits$Unit") (T := TX11) (N := 19) hx hb hg iwX11 hown hK hP 5 rfl rfl 17 (by decide) (hg _ m_344) (fun _ h9 => h9) rfl d_X11_open_5 ?_
    refine lv_aload_n hx hb d_X11_open_8 rfl (lv_at hl 0 rfl) ?_
    refine va_get (D := D) (ci := 11) (v := .int (σ0 6 15)) (C := "LinkedUnits$Unit") (T := TX11) (N := 19) hx hb hg iwX11 hown hK hP 5 rfl rfl 15 (by decide) (hg _ m_342) (fun _ h9 => h9) rfl d_X11_open_9 ?_
    refine s_set1 (X := Nat → Int32) (w := fun g => .inl (cy 1, 52, .inl g)) 44 rfl (va_runSN (As := [.ref (r 45), .int (σ0 6 17), .int (σ0 6 15)]) (rest := []) ⟨hx, hb, hml, hown, hg⟩ (c_set_any l D cy H.size (r 45) 52 (σ0 45) (σ0 6 17) (σ0 6 15) (Nat.le_of_ble_eq_true rfl)) ⟨(va_cnB 3 hg (gw_c m_981) rfl rfl rfl (hNW.1 _ nm_1151) (hg _ m_1) (by decide +kernel) ⟨(Nat.le_of_ble_eq_true rfl), (Nat.le_of_ble_eq_true rfl)⟩), hg _ m_980, trivial⟩ (s_pre (ws := [((r 45), .inl (cy 1, 52, .inl (σ0 45)))]) (s_sub1 44 hP rfl) (s_subD 44 hD rfl) hK hNW) rfl rfl hl.1 rfl (lv_room (Nat.le_of_ble_eq_true rfl)) d_X11_open_12 ⟨(Nat.le_of_ble_eq_true rfl), (Nat.le_of_ble_eq_true rfl)⟩) hP hD hS hA (fun g1 H locs hw hP hD hS => ?_)
    have hP : va_P D vwCl (wB cy r (upF σ0 45 g1)) H := hP
    have hD : va_D A (wB cy r (upF σ0 45 g1)) := hD
    have kp : Keep [(6, 17)] [45] σ0 (upF σ0 45 g1) := keep_a kp (by decide)
    refine lv_aload_n hx hb d_X11_open_15 rfl (lv_at hl 0 rfl) ?_
    refine lv_dup hx hb d_X11_open_16 rfl ?_
    refine va_get (D := D) (ci := 11) (v := .int (σ0 6 17)) (C := "LinkedUnits$Unit") (T := TX11) (N := 19) hx hb hg iwX11 hown hK hP 5 rfl rfl 17 (by decide) (hg _ m_344) (fun _ h9 => h9) rfl d_X11_open_17 ?_
    refine lv_iconst (v := 1) hx hb d_X11_open_20 (by decide) ?_
    refine lv_iadd hx hb d_X11_open_21 ?_
    refine va_put (D := D) (ci := 11) (v := .int ((σ0 6 17) + 1)) (ty := .int) (C := "LinkedUnits$Unit") (T := TX11) (N := 19) hx hb hg iwX11 tyX11 tyX11_ok nmX11 hown hK hP hD hS 5 rfl rfl 17 (by decide) (hg _ m_344) (fun _ h9 => h9) rfl (by decide +kernel) rfl rfl (Nat.le_of_ble_eq_true rfl) d_X11_open_22 (fun H locs hP hD hS => ?_)
    have hP : va_P D vwCl (wB cy r (upC (upF σ0 45 g1) 6 17 ((σ0 6 17) + 1))) H := hP
    have hD : va_D A (wB cy r (upC (upF σ0 45 g1) 6 17 ((σ0 6 17) + 1))) := hD
    have kp : Keep [(6, 17)] [45] σ0 (upC (upF σ0 45 g1) 6 17 ((σ0 6 17) + 1)) := keep_f kp (by decide)
    refine W.widen (k := 0) (n := 0) (Nat.le_of_ble_eq_true rfl) (Nat.le_of_ble_eq_true rfl) ?_
    exact k_vret (X := St) (w1 := fun τ => wB cy r τ) (upC (upF σ0 45 g1) 6 17 ((σ0 6 17) + 1)) hx hb hr d_X11_open_25 hlocks hP hK hD hS ⟨i0, kp⟩
  rw [hH] at hgoal
  exact hgoal
set_option maxHeartbeats 4000000 in
set_option maxRecDepth 100000 in
theorem s_X11_close (l : Launch) (D : va_G) (cy : Nat → ClassId) (sz : Nat) (w : Nat → Nat) (g : Nat → Nat → Int32) (r : Nat → Nat) (σ0 : St) (i0 : Inv σ0) : Met l y_X11_close (Cond.code y_X11_close b_X11_close 1 none :: GW) ({ frames := 1, cells := 0, slots := 0, locals := 21 } : Room) (va_Pc [.ref (r 6)] (kPreE D cy sz (wB cy r σ0) (gE w g))) ((fun A : Nat → Prop => va_Qv (S := St) (fun (τ : St) => (Inv τ ∧ Keep [(6, 15), (6, 17)] [] σ0 τ)) (fun τ => kPost D cy A (wB cy r τ)) A) (va_A (wB cy r σ0) sz)) 0 0 (va_A (wB cy r σ0) sz) := by
  refine k_ofWE (Qc := fun A => va_Qv (S := St) (fun (τ : St) => (Inv τ ∧ Keep [(6, 15), (6, 17)] [] σ0 τ)) (fun τ => kPost D cy A (wB cy r τ)) A) (by decide) (Nat.le_of_ble_eq_true rfl) ?_
  intro p e s m below meth c A ls hx hb hr hml hown hlocks hin hg hNW hK hP hD hA hS hl hE
  have hl : lv_has ls 1 [(0, .ref (r 6))] := hl
  have hown : s.vm.findClass "LinkedUnits$Unit" = some m.cls := hown
  have kp : Keep [(6, 15), (6, 17)] [] σ0 σ0 := keep_rf
  obtain ⟨H, hH⟩ : ∃ H, H = s.heap := ⟨_, rfl⟩
  rw [← hH] at hP
  have hS : va_S A s.heap H [] := by rw [hH]; exact va_S.rf
  have hgoal : W p l e ({ frames := 1, cells := 0, slots := 0, locals := 21 } : Room) s m (([.ref (r 6)] : List Value).toArray) below meth c H [] 0 0 (MQ below (va_Qv (S := St) (fun (τ : St) => (Inv τ ∧ Keep [(6, 15), (6, 17)] [] σ0 τ)) (fun τ => kPost D cy A (wB cy r τ)) A) (([.ref (r 6)] : List Value).toArray) s 0 0 A) (F0 m 0 ls []) := by
    refine lv_aload_n hx hb d_X11_close_0 rfl (lv_at hl 0 rfl) ?_
    refine lv_dup hx hb d_X11_close_1 rfl ?_
    refine va_get (D := D) (ci := 11) (v := .int (σ0 6 17)) (C := "LinkedUnits$Unit") (T := TX11) (N := 19) hx hb hg iwX11 hown hK hP 5 rfl rfl 17 (by decide) (hg _ m_344) (fun _ h9 => h9) rfl d_X11_close_2 ?_
    refine lv_iconst (v := 1) hx hb d_X11_close_5 (by decide) ?_
    refine lv_isub hx hb d_X11_close_6 ?_
    refine va_put (D := D) (ci := 11) (v := .int ((σ0 6 17) - 1)) (ty := .int) (C := "LinkedUnits$Unit") (T := TX11) (N := 19) hx hb hg iwX11 tyX11 tyX11_ok nmX11 hown hK hP hD hS 5 rfl rfl 17 (by decide) (hg _ m_344) (fun _ h9 => h9) rfl (by decide +kernel) rfl rfl (Nat.le_of_ble_eq_true rfl) d_X11_close_7 (fun H locs hP hD hS => ?_)
    have hP : va_P D vwCl (wB cy r (upC σ0 6 17 ((σ0 6 17) - 1))) H := hP
    have hD : va_D A (wB cy r (upC σ0 6 17 ((σ0 6 17) - 1))) := hD
    have kp : Keep [(6, 15), (6, 17)] [] σ0 (upC σ0 6 17 ((σ0 6 17) - 1)) := keep_f kp (by decide)
    refine lv_aload_n hx hb d_X11_close_10 rfl (lv_at hl 0 rfl) ?_
    refine lv_aload_n hx hb d_X11_close_11 rfl (lv_at hl 0 rfl) ?_
    refine va_get (D := D) (ci := 11) (v := .ref (r 45)) (C := "LinkedUnits$Unit") (T := TX11) (N := 19) hx hb hg iwX11 hown hK hP 5 rfl rfl 18 (by decide) (hg _ m_345) (fun _ h9 => h9) rfl d_X11_close_12 ?_
    refine lv_aload_n hx hb d_X11_close_15 rfl (lv_at hl 0 rfl) ?_
    refine va_get (D := D) (ci := 11) (v := .int ((σ0 6 17) - 1)) (C := "LinkedUnits$Unit") (T := TX11) (N := 19) hx hb hg iwX11 hown hK hP 5 rfl rfl 17 (by decide) (hg _ m_344) (fun _ h9 => h9) rfl d_X11_close_16 ?_
    refine s_call1 (x := ((r 45), .inl (cy 1, 52, .inl ((upC σ0 6 17 ((σ0 6 17) - 1)) 45)))) 44 rfl (va_runSN (As := [.ref (r 45), .int ((σ0 6 17) - 1)]) (rest := [.ref (r 6)]) ⟨hx, hb, hml, hown, hg⟩ (c_at_any l D cy H.size (r 45) 52 ((upC σ0 6 17 ((σ0 6 17) - 1)) 45) ((σ0 6 17) - 1) (Nat.le_of_ble_eq_true rfl)) ⟨(va_cnB 2 hg (gw_c m_949) rfl rfl rfl (hNW.1 _ nm_1112) (hg _ m_1) (by decide +kernel) ⟨(Nat.le_of_ble_eq_true rfl), (Nat.le_of_ble_eq_true rfl)⟩), hg _ m_948, trivial⟩ (s_pre (ws := [((r 45), .inl (cy 1, 52, .inl ((upC σ0 6 17 ((σ0 6 17) - 1)) 45)))]) (s_sub1 44 hP rfl) (s_subD 44 hD rfl) hK hNW) rfl rfl hl.1 rfl (lv_room (Nat.le_of_ble_eq_true rfl)) d_X11_close_19 ⟨(Nat.le_of_ble_eq_true rfl), (Nat.le_of_ble_eq_true rfl)⟩) hP hD hS hA (fun r1 u1 H locs hw hP hD hS => ?_)
    have hP : va_P D vwCl (wB cy r (upC σ0 6 17 ((σ0 6 17) - 1))) H := hP
    have hD : va_D A (wB cy r (upC σ0 6 17 ((σ0 6 17) - 1))) := hD
    refine va_put (D := D) (ci := 11) (v := .int r1) (ty := .int) (C := "LinkedUnits$Unit") (T := TX11) (N := 19) hx hb hg iwX11 tyX11 tyX11_ok nmX11 hown hK hP hD hS 5 rfl rfl 15 (by decide) (hg _ m_342) (fun _ h9 => h9) rfl (by decide +kernel) rfl rfl (Nat.le_of_ble_eq_true rfl) d_X11_close_22 (fun H locs hP hD hS => ?_)
    have hP : va_P D vwCl (wB cy r (upC (upC σ0 6 17 ((σ0 6 17) - 1)) 6 15 r1)) H := hP
    have hD : va_D A (wB cy r (upC (upC σ0 6 17 ((σ0 6 17) - 1)) 6 15 r1)) := hD
    have kp : Keep [(6, 15), (6, 17)] [] σ0 (upC (upC σ0 6 17 ((σ0 6 17) - 1)) 6 15 r1) := keep_f kp (by decide)
    refine W.widen (k := 0) (n := 0) (Nat.le_of_ble_eq_true rfl) (Nat.le_of_ble_eq_true rfl) ?_
    exact k_vret (X := St) (w1 := fun τ => wB cy r τ) (upC (upC σ0 6 17 ((σ0 6 17) - 1)) 6 15 r1) hx hb hr d_X11_close_25 hlocks hP hK hD hS ⟨i0, kp⟩
  rw [hH] at hgoal
  exact hgoal
set_option maxHeartbeats 4000000 in
set_option maxRecDepth 100000 in
theorem s_X7_begin (l : Launch) (D : va_G) (cy : Nat → ClassId) (sz : Nat) (w : Nat → Nat) (g : Nat → Nat → Int32) (r : Nat → Nat) (σ0 : St) (a1 : Int32) (i0 : Inv σ0) (z_a1 : a1 = 0 ∨ a1 = 1) : Met l y_X7_begin (Cond.code y_X7_begin b_X7_begin 2 none :: GW) ({ frames := 1, cells := 0, slots := 0, locals := 22 } : Room) (va_Pc [.ref (r 9), .int a1] (kPreE D cy sz (wB cy r σ0) (gE w g))) ((fun A : Nat → Prop => va_Qv (S := St) (fun (τ : St) => (Inv τ ∧ Keep [(9, 5)] [49, 50, 51, 52] σ0 τ)) (fun τ => kPost D cy A (wB cy r τ)) A) (va_A (wB cy r σ0) sz)) 0 0 (va_A (wB cy r σ0) sz) := by
  refine k_ofWE (Qc := fun A => va_Qv (S := St) (fun (τ : St) => (Inv τ ∧ Keep [(9, 5)] [49, 50, 51, 52] σ0 τ)) (fun τ => kPost D cy A (wB cy r τ)) A) (by decide) (Nat.le_of_ble_eq_true rfl) ?_
  intro p e s m below meth c A ls hx hb hr hml hown hlocks hin hg hNW hK hP hD hA hS hl hE
  have hl : lv_has ls 2 [(0, .ref (r 9)), (1, .int a1)] := hl
  have hown : s.vm.findClass "LinkedUnits$Statements" = some m.cls := hown
  have kp : Keep [(9, 5)] [49, 50, 51, 52] σ0 σ0 := keep_rf
  obtain ⟨H, hH⟩ : ∃ H, H = s.heap := ⟨_, rfl⟩
  rw [← hH] at hP
  have hS : va_S A s.heap H [] := by rw [hH]; exact va_S.rf
  have hgoal : W p l e ({ frames := 1, cells := 0, slots := 0, locals := 22 } : Room) s m (([.ref (r 9), .int a1] : List Value).toArray) below meth c H [] 0 0 (MQ below (va_Qv (S := St) (fun (τ : St) => (Inv τ ∧ Keep [(9, 5)] [49, 50, 51, 52] σ0 τ)) (fun τ => kPost D cy A (wB cy r τ)) A) (([.ref (r 9), .int a1] : List Value).toArray) s 0 0 A) (F0 m 0 ls []) := by
    refine lv_aload_n hx hb d_X7_begin_0 rfl (lv_at hl 0 rfl) ?_
    refine va_get (D := D) (ci := 7) (v := .ref (r 49)) (C := "LinkedUnits$Statements") (T := TX7) (N := 12) hx hb hg iwX7 hown hK hP 8 rfl rfl 6 (by decide) (hg _ m_559) (fun _ h9 => h9) rfl d_X7_begin_1 ?_
    refine lv_aload_n hx hb d_X7_begin_4 rfl (lv_at hl 0 rfl) ?_
    refine va_get (D := D) (ci := 7) (v := .int (σ0 9 5)) (C := "LinkedUnits$Statements") (T := TX7) (N := 12) hx hb hg iwX7 hown hK hP 8 rfl rfl 5 (by decide) (hg _ m_558) (fun _ h9 => h9) rfl d_X7_begin_5 ?_
    refine lv_iload_n hx hb d_X7_begin_8 rfl (lv_at hl 1 rfl) ?_
    refine lv_if_eq (tgt := 16) hx hb d_X7_begin_9 (by decide) (fun c_9 => ?_) (fun c_9 => ?_)
    · -- taken at 9
      refine lv_iconst (v := 0) hx hb d_X7_begin_16 (by decide) ?_
      refine s_set1 (X := Nat → Int32) (w := fun g => .inl (cy 1, 26, .inl g)) 46 rfl (va_runSN (As := [.ref (r 49), .int (σ0 9 5), .int 0]) (rest := []) ⟨hx, hb, hml, hown, hg⟩ (c_set_any l D cy H.size (r 49) 26 (σ0 49) (σ0 9 5) (0 : Int32) (Nat.le_of_ble_eq_true rfl)) ⟨(va_cnB 3 hg (gw_c m_981) rfl rfl rfl (hNW.1 _ nm_1312) (hg _ m_1) (by decide +kernel) ⟨(Nat.le_of_ble_eq_true rfl), (Nat.le_of_ble_eq_true rfl)⟩), hg _ m_980, trivial⟩ (s_pre (ws := [((r 49), .inl (cy 1, 26, .inl (σ0 49)))]) (s_sub1 46 hP rfl) (s_subD 46 hD rfl) hK hNW) rfl rfl hl.1 rfl (lv_room (Nat.le_of_ble_eq_true rfl)) d_X7_begin_17 ⟨(Nat.le_of_ble_eq_true rfl), (Nat.le_of_ble_eq_true rfl)⟩) hP hD hS hA (fun g1 H locs hw hP hD hS => ?_)
      have hP : va_P D vwCl (wB cy r (upF σ0 49 g1)) H := hP
      have hD : va_D A (wB cy r (upF σ0 49 g1)) := hD
      have kp : Keep [(9, 5)] [49, 50, 51, 52] σ0 (upF σ0 49 g1) := keep_a kp (by decide)
      refine lv_aload_n hx hb d_X7_begin_20 rfl (lv_at hl 0 rfl) ?_
      refine va_get (D := D) (ci := 7) (v := .ref (r 50)) (C := "LinkedUnits$Statements") (T := TX7) (N := 12) hx hb hg iwX7 hown hK hP 8 rfl rfl 7 (by decide) (hg _ m_560) (fun _ h9 => h9) rfl d_X7_begin_21 ?_
      refine lv_aload_n hx hb d_X7_begin_24 rfl (lv_at hl 0 rfl) ?_
      refine va_get (D := D) (ci := 7) (v := .int (σ0 9 5)) (C := "LinkedUnits$Statements") (T := TX7) (N := 12) hx hb hg iwX7 hown hK hP 8 rfl rfl 5 (by decide) (hg _ m_558) (fun _ h9 => h9) rfl d_X7_begin_25 ?_
      refine lv_aload_n hx hb d_X7_begin_28 rfl (lv_at hl 0 rfl) ?_
      refine va_get (D := D) (ci := 7) (v := .ref (r 4)) (C := "LinkedUnits$Statements") (T := TX7) (N := 12) hx hb hg iwX7 hown hK hP 8 rfl rfl 2 (by decide) (hg _ m_555) (fun _ h9 => h9) rfl d_X7_begin_29 ?_
      refine va_getN (D := D) (ci := 0) (v := .int (σ0 4 1)) (C := "LinkedUnits$Code") (T := TX0) (N := 2) hx hb hg iwX0 hown hK hP 3 rfl rfl 1 (by decide) (va_Nw.use rfl (hNW.1 _ nm_154)) (fun _ h9 => h9) rfl d_X7_begin_32 ?_
      refine s_set1 (X := Nat → Int32) (w := fun g => .inl (cy 1, 26, .inl g)) 47 rfl (va_runSN (As := [.ref (r 50), .int (σ0 9 5), .int (σ0 4 1)]) (rest := []) ⟨hx, hb, hml, hown, hg⟩ (c_set_any l D cy H.size (r 50) 26 ((upF σ0 49 g1) 50) (σ0 9 5) (σ0 4 1) (Nat.le_of_ble_eq_true rfl)) ⟨(va_cnB 3 hg (gw_c m_981) rfl rfl rfl (hNW.1 _ nm_1312) (hg _ m_1) (by decide +kernel) ⟨(Nat.le_of_ble_eq_true rfl), (Nat.le_of_ble_eq_true rfl)⟩), hg _ m_980, trivial⟩ (s_pre (ws := [((r 50), .inl (cy 1, 26, .inl ((upF σ0 49 g1) 50)))]) (s_sub1 47 hP rfl) (s_subD 47 hD rfl) hK hNW) rfl rfl hl.1 rfl (lv_room (Nat.le_of_ble_eq_true rfl)) d_X7_begin_35 ⟨(Nat.le_of_ble_eq_true rfl), (Nat.le_of_ble_eq_true rfl)⟩) hP hD hS hA (fun g2 H locs hw hP hD hS => ?_)
      have hP : va_P D vwCl (wB cy r (upF (upF σ0 49 g1) 50 g2)) H := hP
      have hD : va_D A (wB cy r (upF (upF σ0 49 g1) 50 g2)) := hD
      have kp : Keep [(9, 5)] [49, 50, 51, 52] σ0 (upF (upF σ0 49 g1) 50 g2) := keep_a kp (by decide)
      refine lv_aload_n hx hb d_X7_begin_38 rfl (lv_at hl 0 rfl) ?_
      refine va_get (D := D) (ci := 7) (v := .ref (r 51)) (C := "LinkedUnits$Statements") (T := TX7) (N := 12) hx hb hg iwX7 hown hK hP 8 rfl rfl 8 (by decide) (hg _ m_561) (fun _ h9 => h9) rfl d_X7_begin_39 ?_
      refine lv_aload_n hx hb d_X7_begin_42 rfl (lv_at hl 0 rfl) ?_
      refine va_get (D := D) (ci := 7) (v := .int (σ0 9 5)) (C := "LinkedUnits$Statements") (T := TX7) (N := 12) hx hb hg iwX7 hown hK hP 8 rfl rfl 5 (by decide) (hg _ m_558) (fun _ h9 => h9) rfl d_X7_begin_43 ?_
      refine lv_iconst (v := (-1)) hx hb d_X7_begin_46 (by decide) ?_
      refine s_set1 (X := Nat → Int32) (w := fun g => .inl (cy 1, 26, .inl g)) 48 rfl (va_runSN (As := [.ref (r 51), .int (σ0 9 5), .int (-1)]) (rest := []) ⟨hx, hb, hml, hown, hg⟩ (c_set_any l D cy H.size (r 51) 26 ((upF (upF σ0 49 g1) 50 g2) 51) (σ0 9 5) ((-1) : Int32) (Nat.le_of_ble_eq_true rfl)) ⟨(va_cnB 3 hg (gw_c m_981) rfl rfl rfl (hNW.1 _ nm_1312) (hg _ m_1) (by decide +kernel) ⟨(Nat.le_of_ble_eq_true rfl), (Nat.le_of_ble_eq_true rfl)⟩), hg _ m_980, trivial⟩ (s_pre (ws := [((r 51), .inl (cy 1, 26, .inl ((upF (upF σ0 49 g1) 50 g2) 51)))]) (s_sub1 48 hP rfl) (s_subD 48 hD rfl) hK hNW) rfl rfl hl.1 rfl (lv_room (Nat.le_of_ble_eq_true rfl)) d_X7_begin_47 ⟨(Nat.le_of_ble_eq_true rfl), (Nat.le_of_ble_eq_true rfl)⟩) hP hD hS hA (fun g3 H locs hw hP hD hS => ?_)
      have hP : va_P D vwCl (wB cy r (upF (upF (upF σ0 49 g1) 50 g2) 51 g3)) H := hP
      have hD : va_D A (wB cy r (upF (upF (upF σ0 49 g1) 50 g2) 51 g3)) := hD
      have kp : Keep [(9, 5)] [49, 50, 51, 52] σ0 (upF (upF (upF σ0 49 g1) 50 g2) 51 g3) := keep_a kp (by decide)
      refine lv_aload_n hx hb d_X7_begin_50 rfl (lv_at hl 0 rfl) ?_
      refine va_get (D := D) (ci := 7) (v := .ref (r 52)) (C := "LinkedUnits$Statements") (T := TX7) (N := 12) hx hb hg iwX7 hown hK hP 8 rfl rfl 9 (by decide) (hg _ m_562) (fun _ h9 => h9) rfl d_X7_begin_51 ?_
      refine lv_aload_n hx hb d_X7_begin_54 rfl (lv_at hl 0 rfl) ?_
      refine va_get (D := D) (ci := 7) (v := .int (σ0 9 5)) (C := "LinkedUnits$Statements") (T := TX7) (N := 12) hx hb hg iwX7 hown hK hP 8 rfl rfl 5 (by decide) (hg _ m_558) (fun _ h9 => h9) rfl d_X7_begin_55 ?_
      refine lv_iconst (v := (-1)) hx hb d_X7_begin_58 (by decide) ?_
      refine s_set1 (X := Nat → Int32) (w := fun g => .inl (cy 1, 26, .inl g)) 49 rfl (va_runSN (As := [.ref (r 52), .int (σ0 9 5), .int (-1)]) (rest := []) ⟨hx, hb, hml, hown, hg⟩ (c_set_any l D cy H.size (r 52) 26 ((upF (upF (upF σ0 49 g1) 50 g2) 51 g3) 52) (σ0 9 5) ((-1) : Int32) (Nat.le_of_ble_eq_true rfl)) ⟨(va_cnB 3 hg (gw_c m_981) rfl rfl rfl (hNW.1 _ nm_1312) (hg _ m_1) (by decide +kernel) ⟨(Nat.le_of_ble_eq_true rfl), (Nat.le_of_ble_eq_true rfl)⟩), hg _ m_980, trivial⟩ (s_pre (ws := [((r 52), .inl (cy 1, 26, .inl ((upF (upF (upF σ0 49 g1) 50 g2) 51 g3) 52)))]) (s_sub1 49 hP rfl) (s_subD 49 hD rfl) hK hNW) rfl rfl hl.1 rfl (lv_room (Nat.le_of_ble_eq_true rfl)) d_X7_begin_59 ⟨(Nat.le_of_ble_eq_true rfl), (Nat.le_of_ble_eq_true rfl)⟩) hP hD hS hA (fun g4 H locs hw hP hD hS => ?_)
      have hP : va_P D vwCl (wB cy r (upF (upF (upF (upF σ0 49 g1) 50 g2) 51 g3) 52 g4)) H := hP
      have hD : va_D A (wB cy r (upF (upF (upF (upF σ0 49 g1) 50 g2) 51 g3) 52 g4)) := hD
      have kp : Keep [(9, 5)] [49, 50, 51, 52] σ0 (upF (upF (upF (upF σ0 49 g1) 50 g2) 51 g3) 52 g4) := keep_a kp (by decide)
      refine lv_aload_n hx hb d_X7_begin_62 rfl (lv_at hl 0 rfl) ?_
      refine lv_dup hx hb d_X7_begin_63 rfl ?_
      refine va_get (D := D) (ci := 7) (v := .int (σ0 9 5)) (C := "LinkedUnits$Statements") (T := TX7) (N := 12) hx hb hg iwX7 hown hK hP 8 rfl rfl 5 (by decide) (hg _ m_558) (fun _ h9 => h9) rfl d_X7_begin_64 ?_
      refine lv_iconst (v := 1) hx hb d_X7_begin_67 (by decide) ?_
      refine lv_iadd hx hb d_X7_begin_68 ?_
      refine va_put (D := D) (ci := 7) (v := .int ((σ0 9 5) + 1)) (ty := .int) (C := "LinkedUnits$Statements") (T := TX7) (N := 12) hx hb hg iwX7 tyX7 tyX7_ok nmX7 hown hK hP hD hS 8 rfl rfl 5 (by decide) (hg _ m_558) (fun _ h9 => h9) rfl (by decide +kernel) rfl rfl (Nat.le_of_ble_eq_true rfl) d_X7_begin_69 (fun H locs hP hD hS => ?_)
      have hP : va_P D vwCl (wB cy r (upC (upF (upF (upF (upF σ0 49 g1) 50 g2) 51 g3) 52 g4) 9 5 ((σ0 9 5) + 1))) H := hP
      have hD : va_D A (wB cy r (upC (upF (upF (upF (upF σ0 49 g1) 50 g2) 51 g3) 52 g4) 9 5 ((σ0 9 5) + 1))) := hD
      have kp : Keep [(9, 5)] [49, 50, 51, 52] σ0 (upC (upF (upF (upF (upF σ0 49 g1) 50 g2) 51 g3) 52 g4) 9 5 ((σ0 9 5) + 1)) := keep_f kp (by decide)
      refine W.widen (k := 0) (n := 0) (Nat.le_of_ble_eq_true rfl) (Nat.le_of_ble_eq_true rfl) ?_
      exact k_vret (X := St) (w1 := fun τ => wB cy r τ) (upC (upF (upF (upF (upF σ0 49 g1) 50 g2) 51 g3) 52 g4) 9 5 ((σ0 9 5) + 1)) hx hb hr d_X7_begin_72 hlocks hP hK hD hS ⟨i0, kp⟩
    · -- not taken at 9
      refine lv_iconst (v := 1) hx hb d_X7_begin_12 (by decide) ?_
      refine lv_goto (tgt := 17) hx hb d_X7_begin_13 (by decide) ?_
      refine s_set1 (X := Nat → Int32) (w := fun g => .inl (cy 1, 26, .inl g)) 46 rfl (va_runSN (As := [.ref (r 49), .int (σ0 9 5), .int 1]) (rest := []) ⟨hx, hb, hml, hown, hg⟩ (c_set_any l D cy H.size (r 49) 26 (σ0 49) (σ0 9 5) (1 : Int32) (Nat.le_of_ble_eq_true rfl)) ⟨(va_cnB 3 hg (gw_c m_981) rfl rfl rfl (hNW.1 _ nm_1312) (hg _ m_1) (by decide +kernel) ⟨(Nat.le_of_ble_eq_true rfl), (Nat.le_of_ble_eq_true rfl)⟩), hg _ m_980, trivial⟩ (s_pre (ws := [((r 49), .inl (cy 1, 26, .inl (σ0 49)))]) (s_sub1 46 hP rfl) (s_subD 46 hD rfl) hK hNW) rfl rfl hl.1 rfl (lv_room (Nat.le_of_ble_eq_true rfl)) d_X7_begin_17 ⟨(Nat.le_of_ble_eq_true rfl), (Nat.le_of_ble_eq_true rfl)⟩) hP hD hS hA (fun g5 H locs hw hP hD hS => ?_)
      have hP : va_P D vwCl (wB cy r (upF σ0 49 g5)) H := hP
      have hD : va_D A (wB cy r (upF σ0 49 g5)) := hD
      have kp : Keep [(9, 5)] [49, 50, 51, 52] σ0 (upF σ0 49 g5) := keep_a kp (by decide)
      refine lv_aload_n hx hb d_X7_begin_20 rfl (lv_at hl 0 rfl) ?_
      refine va_get (D := D) (ci := 7) (v := .ref (r 50)) (C := "LinkedUnits$Statements") (T := TX7) (N := 12) hx hb hg iwX7 hown hK hP 8 rfl rfl 7 (by decide) (hg _ m_560) (fun _ h9 => h9) rfl d_X7_begin_21 ?_
      refine lv_aload_n hx hb d_X7_begin_24 rfl (lv_at hl 0 rfl) ?_
      refine va_get (D := D) (ci := 7) (v := .int (σ0 9 5)) (C := "LinkedUnits$Statements") (T := TX7) (N := 12) hx hb hg iwX7 hown hK hP 8 rfl rfl 5 (by decide) (hg _ m_558) (fun _ h9 => h9) rfl d_X7_begin_25 ?_
      refine lv_aload_n hx hb d_X7_begin_28 rfl (lv_at hl 0 rfl) ?_
      refine va_get (D := D) (ci := 7) (v := .ref (r 4)) (C := "LinkedUnits$Statements") (T := TX7) (N := 12) hx hb hg iwX7 hown hK hP 8 rfl rfl 2 (by decide) (hg _ m_555) (fun _ h9 => h9) rfl d_X7_begin_29 ?_
      refine va_getN (D := D) (ci := 0) (v := .int (σ0 4 1)) (C := "LinkedUnits$Code") (T := TX0) (N := 2) hx hb hg iwX0 hown hK hP 3 rfl rfl 1 (by decide) (va_Nw.use rfl (hNW.1 _ nm_154)) (fun _ h9 => h9) rfl d_X7_begin_32 ?_
      refine s_set1 (X := Nat → Int32) (w := fun g => .inl (cy 1, 26, .inl g)) 47 rfl (va_runSN (As := [.ref (r 50), .int (σ0 9 5), .int (σ0 4 1)]) (rest := []) ⟨hx, hb, hml, hown, hg⟩ (c_set_any l D cy H.size (r 50) 26 ((upF σ0 49 g5) 50) (σ0 9 5) (σ0 4 1) (Nat.le_of_ble_eq_true rfl)) ⟨(va_cnB 3 hg (gw_c m_981) rfl rfl rfl (hNW.1 _ nm_1312) (hg _ m_1) (by decide +kernel) ⟨(Nat.le_of_ble_eq_true rfl), (Nat.le_of_ble_eq_true rfl)⟩), hg _ m_980, trivial⟩ (s_pre (ws := [((r 50), .inl (cy 1, 26, .inl ((upF σ0 49 g5) 50)))]) (s_sub1 47 hP rfl) (s_subD 47 hD rfl) hK hNW) rfl rfl hl.1 rfl (lv_room (Nat.le_of_ble_eq_true rfl)) d_X7_begin_35 ⟨(Nat.le_of_ble_eq_true rfl), (Nat.le_of_ble_eq_true rfl)⟩) hP hD hS hA (fun g6 H locs hw hP hD hS => ?_)
      have hP : va_P D vwCl (wB cy r (upF (upF σ0 49 g5) 50 g6)) H := hP
      have hD : va_D A (wB cy r (upF (upF σ0 49 g5) 50 g6)) := hD
      have kp : Keep [(9, 5)] [49, 50, 51, 52] σ0 (upF (upF σ0 49 g5) 50 g6) := keep_a kp (by decide)
      refine lv_aload_n hx hb d_X7_begin_38 rfl (lv_at hl 0 rfl) ?_
      refine va_get (D := D) (ci := 7) (v := .ref (r 51)) (C := "LinkedUnits$Statements") (T := TX7) (N := 12) hx hb hg iwX7 hown hK hP 8 rfl rfl 8 (by decide) (hg _ m_561) (fun _ h9 => h9) rfl d_X7_begin_39 ?_
      refine lv_aload_n hx hb d_X7_begin_42 rfl (lv_at hl 0 rfl) ?_
      refine va_get (D := D) (ci := 7) (v := .int (σ0 9 5)) (C := "LinkedUnits$Statements") (T := TX7) (N := 12) hx hb hg iwX7 hown hK hP 8 rfl rfl 5 (by decide) (hg _ m_558) (fun _ h9 => h9) rfl d_X7_begin_43 ?_
      refine lv_iconst (v := (-1)) hx hb d_X7_begin_46 (by decide) ?_
      refine s_set1 (X := Nat → Int32) (w := fun g => .inl (cy 1, 26, .inl g)) 48 rfl (va_runSN (As := [.ref (r 51), .int (σ0 9 5), .int (-1)]) (rest := []) ⟨hx, hb, hml, hown, hg⟩ (c_set_any l D cy H.size (r 51) 26 ((upF (upF σ0 49 g5) 50 g6) 51) (σ0 9 5) ((-1) : Int32) (Nat.le_of_ble_eq_true rfl)) ⟨(va_cnB 3 hg (gw_c m_981) rfl rfl rfl (hNW.1 _ nm_1312) (hg _ m_1) (by decide +kernel) ⟨(Nat.le_of_ble_eq_true rfl), (Nat.le_of_ble_eq_true rfl)⟩), hg _ m_980, trivial⟩ (s_pre (ws := [((r 51), .inl (cy 1, 26, .inl ((upF (upF σ0 49 g5) 50 g6) 51)))]) (s_sub1 48 hP rfl) (s_subD 48 hD rfl) hK hNW) rfl rfl hl.1 rfl (lv_room (Nat.le_of_ble_eq_true rfl)) d_X7_begin_47 ⟨(Nat.le_of_ble_eq_true rfl), (Nat.le_of_ble_eq_true rfl)⟩) hP hD hS hA (fun g7 H locs hw hP hD hS => ?_)
      have hP : va_P D vwCl (wB cy r (upF (upF (upF σ0 49 g5) 50 g6) 51 g7)) H := hP
      have hD : va_D A (wB cy r (upF (upF (upF σ0 49 g5) 50 g6) 51 g7)) := hD
      have kp : Keep [(9, 5)] [49, 50, 51, 52] σ0 (upF (upF (upF σ0 49 g5) 50 g6) 51 g7) := keep_a kp (by decide)
      refine lv_aload_n hx hb d_X7_begin_50 rfl (lv_at hl 0 rfl) ?_
      refine va_get (D := D) (ci := 7) (v := .ref (r 52)) (C := "LinkedUnits$Statements") (T := TX7) (N := 12) hx hb hg iwX7 hown hK hP 8 rfl rfl 9 (by decide) (hg _ m_562) (fun _ h9 => h9) rfl d_X7_begin_51 ?_
      refine lv_aload_n hx hb d_X7_begin_54 rfl (lv_at hl 0 rfl) ?_
      refine va_get (D := D) (ci := 7) (v := .int (σ0 9 5)) (C := "LinkedUnits$Statements") (T := TX7) (N := 12) hx hb hg iwX7 hown hK hP 8 rfl rfl 5 (by decide) (hg _ m_558) (fun _ h9 => h9) rfl d_X7_begin_55 ?_
      refine lv_iconst (v := (-1)) hx hb d_X7_begin_58 (by decide) ?_
      refine s_set1 (X := Nat → Int32) (w := fun g => .inl (cy 1, 26, .inl g)) 49 rfl (va_runSN (As := [.ref (r 52), .int (σ0 9 5), .int (-1)]) (rest := []) ⟨hx, hb, hml, hown, hg⟩ (c_set_any l D cy H.size (r 52) 26 ((upF (upF (upF σ0 49 g5) 50 g6) 51 g7) 52) (σ0 9 5) ((-1) : Int32) (Nat.le_of_ble_eq_true rfl)) ⟨(va_cnB 3 hg (gw_c m_981) rfl rfl rfl (hNW.1 _ nm_1312) (hg _ m_1) (by decide +kernel) ⟨(Nat.le_of_ble_eq_true rfl), (Nat.le_of_ble_eq_true rfl)⟩), hg _ m_980, trivial⟩ (s_pre (ws := [((r 52), .inl (cy 1, 26, .inl ((upF (upF (upF σ0 49 g5) 50 g6) 51 g7) 52)))]) (s_sub1 49 hP rfl) (s_subD 49 hD rfl) hK hNW) rfl rfl hl.1 rfl (lv_room (Nat.le_of_ble_eq_true rfl)) d_X7_begin_59 ⟨(Nat.le_of_ble_eq_true rfl), (Nat.le_of_ble_eq_true rfl)⟩) hP hD hS hA (fun g8 H locs hw hP hD hS => ?_)
      have hP : va_P D vwCl (wB cy r (upF (upF (upF (upF σ0 49 g5) 50 g6) 51 g7) 52 g8)) H := hP
      have hD : va_D A (wB cy r (upF (upF (upF (upF σ0 49 g5) 50 g6) 51 g7) 52 g8)) := hD
      have kp : Keep [(9, 5)] [49, 50, 51, 52] σ0 (upF (upF (upF (upF σ0 49 g5) 50 g6) 51 g7) 52 g8) := keep_a kp (by decide)
      refine lv_aload_n hx hb d_X7_begin_62 rfl (lv_at hl 0 rfl) ?_
      refine lv_dup hx hb d_X7_begin_63 rfl ?_
      refine va_get (D := D) (ci := 7) (v := .int (σ0 9 5)) (C := "LinkedUnits$Statements") (T := TX7) (N := 12) hx hb hg iwX7 hown hK hP 8 rfl rfl 5 (by decide) (hg _ m_558) (fun _ h9 => h9) rfl d_X7_begin_64 ?_
      refine lv_iconst (v := 1) hx hb d_X7_begin_67 (by decide) ?_
      refine lv_iadd hx hb d_X7_begin_68 ?_
      refine va_put (D := D) (ci := 7) (v := .int ((σ0 9 5) + 1)) (ty := .int) (C := "LinkedUnits$Statements") (T := TX7) (N := 12) hx hb hg iwX7 tyX7 tyX7_ok nmX7 hown hK hP hD hS 8 rfl rfl 5 (by decide) (hg _ m_558) (fun _ h9 => h9) rfl (by decide +kernel) rfl rfl (Nat.le_of_ble_eq_true rfl) d_X7_begin_69 (fun H locs hP hD hS => ?_)
      have hP : va_P D vwCl (wB cy r (upC (upF (upF (upF (upF σ0 49 g5) 50 g6) 51 g7) 52 g8) 9 5 ((σ0 9 5) + 1))) H := hP
      have hD : va_D A (wB cy r (upC (upF (upF (upF (upF σ0 49 g5) 50 g6) 51 g7) 52 g8) 9 5 ((σ0 9 5) + 1))) := hD
      have kp : Keep [(9, 5)] [49, 50, 51, 52] σ0 (upC (upF (upF (upF (upF σ0 49 g5) 50 g6) 51 g7) 52 g8) 9 5 ((σ0 9 5) + 1)) := keep_f kp (by decide)
      refine W.widen (k := 0) (n := 0) (Nat.le_of_ble_eq_true rfl) (Nat.le_of_ble_eq_true rfl) ?_
      exact k_vret (X := St) (w1 := fun τ => wB cy r τ) (upC (upF (upF (upF (upF σ0 49 g5) 50 g6) 51 g7) 52 g8) 9 5 ((σ0 9 5) + 1)) hx hb hr d_X7_begin_72 hlocks hP hK hD hS ⟨i0, kp⟩
  rw [hH] at hgoal
  exact hgoal
set_option maxHeartbeats 4000000 in
set_option maxRecDepth 100000 in
theorem s_X7_finish (l : Launch) (D : va_G) (cy : Nat → ClassId) (sz : Nat) (w : Nat → Nat) (g : Nat → Nat → Int32) (r : Nat → Nat) (σ0 : St) (i0 : Inv σ0) : Met l y_X7_finish (Cond.code y_X7_finish b_X7_finish 1 none :: GW) ({ frames := 2, cells := 0, slots := 0, locals := 47 } : Room) (va_Pc [.ref (r 9)] (kPreE D cy sz (wB cy r σ0) (gE w g))) ((fun A : Nat → Prop => va_Qv (S := St) (fun (τ : St) => (Inv τ ∧ Keep [(9, 5)] [24] σ0 τ)) (fun τ => kPost D cy A (wB cy r τ)) A) (va_A (wB cy r σ0) sz)) 0 0 (va_A (wB cy r σ0) sz) := by
  refine k_ofWE (Qc := fun A => va_Qv (S := St) (fun (τ : St) => (Inv τ ∧ Keep [(9, 5)] [24] σ0 τ)) (fun τ => kPost D cy A (wB cy r τ)) A) (by decide) (Nat.le_of_ble_eq_true rfl) ?_
  intro p e s m below meth c A ls hx hb hr hml hown hlocks hin hg hNW hK hP hD hA hS hl hE
  have hl : lv_has ls 1 [(0, .ref (r 9))] := hl
  have hown : s.vm.findClass "LinkedUnits$Statements" = some m.cls := hown
  have kp : Keep [(9, 5)] [24] σ0 σ0 := keep_rf
  obtain ⟨H, hH⟩ : ∃ H, H = s.heap := ⟨_, rfl⟩
  rw [← hH] at hP
  have hS : va_S A s.heap H [] := by rw [hH]; exact va_S.rf
  have hgoal : W p l e ({ frames := 2, cells := 0, slots := 0, locals := 47 } : Room) s m (([.ref (r 9)] : List Value).toArray) below meth c H [] 0 0 (MQ below (va_Qv (S := St) (fun (τ : St) => (Inv τ ∧ Keep [(9, 5)] [24] σ0 τ)) (fun τ => kPost D cy A (wB cy r τ)) A) (([.ref (r 9)] : List Value).toArray) s 0 0 A) (F0 m 0 ls []) := by
    refine lv_aload_n hx hb d_X7_finish_0 rfl (lv_at hl 0 rfl) ?_
    refine lv_dup hx hb d_X7_finish_1 rfl ?_
    refine va_get (D := D) (ci := 7) (v := .int (σ0 9 5)) (C := "LinkedUnits$Statements") (T := TX7) (N := 12) hx hb hg iwX7 hown hK hP 8 rfl rfl 5 (by decide) (hg _ m_558) (fun _ h9 => h9) rfl d_X7_finish_2 ?_
    refine lv_iconst (v := 1) hx hb d_X7_finish_5 (by decide) ?_
    refine lv_isub hx hb d_X7_finish_6 ?_
    refine va_put (D := D) (ci := 7) (v := .int ((σ0 9 5) - 1)) (ty := .int) (C := "LinkedUnits$Statements") (T := TX7) (N := 12) hx hb hg iwX7 tyX7 tyX7_ok nmX7 hown hK hP hD hS 8 rfl rfl 5 (by decide) (hg _ m_558) (fun _ h9 => h9) rfl (by decide +kernel) rfl rfl (Nat.le_of_ble_eq_true rfl) d_X7_finish_7 (fun H locs hP hD hS => ?_)
    have hP : va_P D vwCl (wB cy r (upC σ0 9 5 ((σ0 9 5) - 1))) H := hP
    have hD : va_D A (wB cy r (upC σ0 9 5 ((σ0 9 5) - 1))) := hD
    have kp : Keep [(9, 5)] [24] σ0 (upC σ0 9 5 ((σ0 9 5) - 1)) := keep_f kp (by decide)
    refine lv_aload_n hx hb d_X7_finish_10 rfl (lv_at hl 0 rfl) ?_
    refine va_get (D := D) (ci := 7) (v := .ref (r 4)) (C := "LinkedUnits$Statements") (T := TX7) (N := 12) hx hb hg iwX7 hown hK hP 8 rfl rfl 2 (by decide) (hg _ m_555) (fun _ h9 => h9) rfl d_X7_finish_11 ?_
    refine lv_aload_n hx hb d_X7_finish_14 rfl (lv_at hl 0 rfl) ?_
    refine va_get (D := D) (ci := 7) (v := .ref (r 51)) (C := "LinkedUnits$Statements") (T := TX7) (N := 12) hx hb hg iwX7 hown hK hP 8 rfl rfl 8 (by decide) (hg _ m_561) (fun _ h9 => h9) rfl d_X7_finish_15 ?_
    refine lv_aload_n hx hb d_X7_finish_18 rfl (lv_at hl 0 rfl) ?_
    refine va_get (D := D) (ci := 7) (v := .int ((σ0 9 5) - 1)) (C := "LinkedUnits$Statements") (T := TX7) (N := 12) hx hb hg iwX7 hown hK hP 8 rfl rfl 5 (by decide) (hg _ m_558) (fun _ h9 => h9) rfl d_X7_finish_19 ?_
    refine s_call1 (x := ((r 51), .inl (cy 1, 26, .inl ((upC σ0 9 5 ((σ0 9 5) - 1)) 51)))) 48 rfl (va_runSN (As := [.ref (r 51), .int ((σ0 9 5) - 1)]) (rest := [.ref (r 4)]) ⟨hx, hb, hml, hown, hg⟩ (c_at_any l D cy H.size (r 51) 26 ((upC σ0 9 5 ((σ0 9 5) - 1)) 51) ((σ0 9 5) - 1) (Nat.le_of_ble_eq_true rfl)) ⟨(va_cnB 2 hg (gw_c m_949) rfl rfl rfl (hNW.1 _ nm_1053) (hg _ m_1) (by decide +kernel) ⟨(Nat.le_of_ble_eq_true rfl), (Nat.le_of_ble_eq_true rfl)⟩), hg _ m_948, trivial⟩ (s_pre (ws := [((r 51), .inl (cy 1, 26, .inl ((upC σ0 9 5 ((σ0 9 5) - 1)) 51)))]) (s_sub1 48 hP rfl) (s_subD 48 hD rfl) hK hNW) rfl rfl hl.1 rfl (lv_room (Nat.le_of_ble_eq_true rfl)) d_X7_finish_22 ⟨(Nat.le_of_ble_eq_true rfl), (Nat.le_of_ble_eq_true rfl)⟩) hP hD hS hA (fun r1 u1 H locs hw hP hD hS => ?_)
    have hP : va_P D vwCl (wB cy r (upC σ0 9 5 ((σ0 9 5) - 1))) H := hP
    have hD : va_D A (wB cy r (upC σ0 9 5 ((σ0 9 5) - 1))) := hD
    refine lv_aload_n hx hb d_X7_finish_25 rfl (lv_at hl 0 rfl) ?_
    refine va_get (D := D) (ci := 7) (v := .ref (r 4)) (C := "LinkedUnits$Statements") (T := TX7) (N := 12) hx hb hg iwX7 hown hK hP 8 rfl rfl 2 (by decide) (hg _ m_555) (fun _ h9 => h9) rfl d_X7_finish_26 ?_
    refine va_getN (D := D) (ci := 0) (v := .int (σ0 4 1)) (C := "LinkedUnits$Code") (T := TX0) (N := 2) hx hb hg iwX0 hown hK hP 3 rfl rfl 1 (by decide) (va_Nw.use rfl (hNW.1 _ nm_154)) (fun _ h9 => h9) rfl d_X7_finish_29 ?_
    refine s_callv (X := St) (w1 := fun τ => wB cy r τ) (va_runVN (As := [.int r1, .int (σ0 4 1)]) (rest := []) ⟨hx, hb, hml, hown, hg⟩ (s_X0_aim l D cy H.size w g r (upC σ0 9 5 ((σ0 9 5) - 1)) r1 (σ0 4 1) i0 ) ⟨(va_cnB 2 hg (gw_c m_1212) rfl rfl rfl (hNW.1 _ nm_1318) (hg _ m_4) (by decide +kernel) ⟨(Nat.le_of_ble_eq_true rfl), (Nat.le_of_ble_eq_true rfl)⟩), (hg _ m_1211), hg _ ms_X0_aim⟩ (s_preVE (As := [.int r1, .int (σ0 4 1)]) (gE_ok w g) hS hA hE hP hD hK hNW 3 rfl rfl) rfl rfl hl.1 rfl (lv_room (Nat.le_of_ble_eq_true rfl)) d_X7_finish_32 ⟨(Nat.le_of_ble_eq_true rfl), (Nat.le_of_ble_eq_true rfl)⟩) hP hD hS hA (fun σ2 H locs hw hP hD hS => ?_)
    have hP : va_P D vwCl (wB cy r σ2) H := hP
    have hD : va_D A (wB cy r σ2) := hD
    have ik2 : Keep [] [24] (upC σ0 9 5 ((σ0 9 5) - 1)) σ2 := hw.2
    have kp : Keep [(9, 5)] [24] σ0 σ2 := keep_c kp ik2 (by decide) (by decide)
    have i2 : Inv σ2 := hw.1
    refine W.widen (k := 0) (n := 0) (Nat.le_of_ble_eq_true rfl) (Nat.le_of_ble_eq_true rfl) ?_
    exact k_vret (X := St) (w1 := fun τ => wB cy r τ) σ2 hx hb hr d_X7_finish_35 hlocks hP hK hD hS ⟨i2, kp⟩
  rw [hH] at hgoal
  exact hgoal
set_option maxHeartbeats 4000000 in
set_option maxRecDepth 100000 in
theorem s_X11_scopeStart (l : Launch) (D : va_G) (cy : Nat → ClassId) (sz : Nat) (w : Nat → Nat) (g : Nat → Nat → Int32) (r : Nat → Nat) (σ0 : St) (i0 : Inv σ0) : Met l y_X11_scopeStart (Cond.code y_X11_scopeStart b_X11_scopeStart 1 (some .int) :: GW) ({ frames := 1, cells := 0, slots := 0, locals := 21 } : Room) (va_Pc [.ref (r 6)] (kPreE D cy sz (wB cy r σ0) (gE w g))) ((fun A : Nat → Prop => va_Qi (S := Unit) (fun (_ : Int32) (_ : Unit) => True) (fun _ => kPost D cy A (wB cy r σ0)) A) (va_A (wB cy r σ0) sz)) 0 0 (va_A (wB cy r σ0) sz) := by
  refine k_ofWE (Qc := fun A => va_Qi (S := Unit) (fun (_ : Int32) (_ : Unit) => True) (fun _ => kPost D cy A (wB cy r σ0)) A) (by decide) (Nat.le_of_ble_eq_true rfl) ?_
  intro p e s m below meth c A ls hx hb hr hml hown hlocks hin hg hNW hK hP hD hA hS hl hE
  have hl : lv_has ls 1 [(0, .ref (r 6))] := hl
  have hown : s.vm.findClass "LinkedUnits$Unit" = some m.cls := hown
  obtain ⟨H, hH⟩ : ∃ H, H = s.heap := ⟨_, rfl⟩
  rw [← hH] at hP
  have hS : va_S A s.heap H [] := by rw [hH]; exact va_S.rf
  have hgoal : W p l e ({ frames := 1, cells := 0, slots := 0, locals := 21 } : Room) s m (([.ref (r 6)] : List Value).toArray) below meth c H [] 0 0 (MQ below (va_Qi (S := Unit) (fun (_ : Int32) (_ : Unit) => True) (fun _ => kPost D cy A (wB cy r σ0)) A) (([.ref (r 6)] : List Value).toArray) s 0 0 A) (F0 m 0 ls []) := by
    refine lv_aload_n hx hb d_X11_scopeStart_0 rfl (lv_at hl 0 rfl) ?_
    refine va_get (D := D) (ci := 11) (v := .ref (r 45)) (C := "LinkedUnits$Unit") (T := TX11) (N := 19) hx hb hg iwX11 hown hK hP 5 rfl rfl 18 (by decide) (hg _ m_345) (fun _ h9 => h9) rfl d_X11_scopeStart_1 ?_
    refine lv_aload_n hx hb d_X11_scopeStart_4 rfl (lv_at hl 0 rfl) ?_
    refine va_get (D := D) (ci := 11) (v := .int (σ0 6 17)) (C := "LinkedUnits$Unit") (T := TX11) (N := 19) hx hb hg iwX11 hown hK hP 5 rfl rfl 17 (by decide) (hg _ m_344) (fun _ h9 => h9) rfl d_X11_scopeStart_5 ?_
    refine lv_iconst (v := 1) hx hb d_X11_scopeStart_8 (by decide) ?_
    refine lv_isub hx hb d_X11_scopeStart_9 ?_
    refine s_call1 (x := ((r 45), .inl (cy 1, 52, .inl (σ0 45)))) 44 rfl (va_runSN (As := [.ref (r 45), .int ((σ0 6 17) - 1)]) (rest := []) ⟨hx, hb, hml, hown, hg⟩ (c_at_any l D cy H.size (r 45) 52 (σ0 45) ((σ0 6 17) - 1) (Nat.le_of_ble_eq_true rfl)) ⟨(va_cnB 2 hg (gw_c m_949) rfl rfl rfl (hNW.1 _ nm_1112) (hg _ m_1) (by decide +kernel) ⟨(Nat.le_of_ble_eq_true rfl), (Nat.le_of_ble_eq_true rfl)⟩), hg _ m_948, trivial⟩ (s_pre (ws := [((r 45), .inl (cy 1, 52, .inl (σ0 45)))]) (s_sub1 44 hP rfl) (s_subD 44 hD rfl) hK hNW) rfl rfl hl.1 rfl (lv_room (Nat.le_of_ble_eq_true rfl)) d_X11_scopeStart_10 ⟨(Nat.le_of_ble_eq_true rfl), (Nat.le_of_ble_eq_true rfl)⟩) hP hD hS hA (fun r1 u1 H locs hw hP hD hS => ?_)
    have hP : va_P D vwCl (wB cy r σ0) H := hP
    have hD : va_D A (wB cy r σ0) := hD
    refine W.widen (k := 0) (n := 0) (Nat.le_of_ble_eq_true rfl) (Nat.le_of_ble_eq_true rfl) ?_
    exact k_iret (X := Unit) (w1 := fun _ => wB cy r σ0) () hx hb hr d_X11_scopeStart_13 hlocks hP hK hD hS trivial
  rw [hH] at hgoal
  exact hgoal
