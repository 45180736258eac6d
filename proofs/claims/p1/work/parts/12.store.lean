set_option maxHeartbeats 4000000 in
set_option maxRecDepth 100000 in
/-- has: no object yet -/
theorem c_has (l : Launch) (D : va_G) (cy : Nat → ClassId) (sz : Nat) (r : Nat → Nat) (o : Int32) : Met l y_X8_has (Cond.code y_X8_has b_X8_has 2 (some .boolean) :: GW) ({ frames := 0, cells := 0, slots := 0, locals := 0 }) (va_Pc [.ref (r 5), .int o] (kPre D cy sz [((r 5), .inr (8, (oSto r)))])) ((fun A : Nat → Prop => va_Qi (S := Unit) (fun (r : Int32) (_ : Unit) => r = 0) (fun _ => kPost D cy A [((r 5), .inr (8, (oSto r)))]) A) (va_A [((r 5), .inr (8, (oSto r)))] sz)) 0 0 (va_A [((r 5), .inr (8, (oSto r)))] sz) := by
  refine k_ofW (Qc := fun A => va_Qi (S := Unit) (fun (r : Int32) (_ : Unit) => r = 0) (fun _ => kPost D cy A [((r 5), .inr (8, (oSto r)))]) A) (by decide) (Nat.le_of_ble_eq_true rfl) ?_
  intro p e s m below meth c A ls hx hb hr hml hown hlocks hin hg hNW hK hP hD hA hS hl
  have hl : lv_has ls 2 [(0, .ref (r 5)), (1, .int o)] := hl
  have hown : s.vm.findClass "LinkedUnits$Store" = some m.cls := hown
  refine lv_iload_n hx hb d_X8_has_0 rfl (lv_at hl 1 rfl) ?_
  refine lv_iconst (v := 1) hx hb d_X8_has_1 (by decide) ?_
  refine lv_icmp_lt (tgt := 17) hx hb d_X8_has_2 (by decide) (fun c_2 => ?_) (fun c_2 => ?_)
  · -- taken at 2
    refine lv_iconst (v := 0) hx hb d_X8_has_17 (by decide) ?_
    refine W.widen (k := 0) (n := 0) (Nat.le_of_ble_eq_true rfl) (Nat.le_of_ble_eq_true rfl) ?_
    exact k_zret (X := Unit) (w1 := fun _ => [((r 5), .inr (8, (oSto r)))]) () hx hb hr rfl d_X8_has_18 hlocks (hP.sub [0] rfl) hK (hD.sub [0] (by decide) rfl) hS rfl
  · -- not taken at 2
    refine lv_iload_n hx hb d_X8_has_5 rfl (lv_at hl 1 rfl) ?_
    refine lv_aload_n hx hb d_X8_has_6 rfl (lv_at hl 0 rfl) ?_
    refine va_get (D := D) (ci := 8) (v := .int 0) (C := "LinkedUnits$Store") (T := TX8) (N := 18) hx hb hg iwX8 hown hK hP 0 rfl rfl 13 (by decide) (hg _ m_249) (fun _ h9 => h9) rfl d_X8_has_7 ?_
    refine lv_icmp_gt (tgt := 17) hx hb d_X8_has_10 (by decide) (fun c_10 => ?_) (fun c_10 => False.elim (k_has c_2 c_10))
    refine lv_iconst (v := 0) hx hb d_X8_has_17 (by decide) ?_
    refine W.widen (k := 0) (n := 0) (Nat.le_of_ble_eq_true rfl) (Nat.le_of_ble_eq_true rfl) ?_
    exact k_zret (X := Unit) (w1 := fun _ => [((r 5), .inr (8, (oSto r)))]) () hx hb hr rfl d_X8_has_18 hlocks (hP.sub [0] rfl) hK (hD.sub [0] (by decide) rfl) hS rfl
set_option maxHeartbeats 4000000 in
set_option maxRecDepth 100000 in
theorem c_firstOf_0 (l : Launch) (D : va_G) (cy : Nat → ClassId) (sz : Nat) (r : Nat → Nat) : Met l y_X8_firstOf (Cond.code y_X8_firstOf b_X8_firstOf 2 (some .int) :: GW) ({ frames := 0, cells := 0, slots := 0, locals := 0 }) (va_Pc [.ref (r 5), .int 0] (kPre D cy sz [((r 5), .inr (8, (oSto r)))])) ((fun A : Nat → Prop => va_Qi (S := Unit) (fun (r : Int32) (_ : Unit) => r = 0) (fun _ => kPost D cy A [((r 5), .inr (8, (oSto r)))]) A) (va_A [((r 5), .inr (8, (oSto r)))] sz)) 0 0 (va_A [((r 5), .inr (8, (oSto r)))] sz) := by
  refine k_ofW (Qc := fun A => va_Qi (S := Unit) (fun (r : Int32) (_ : Unit) => r = 0) (fun _ => kPost D cy A [((r 5), .inr (8, (oSto r)))]) A) (by decide) (Nat.le_of_ble_eq_true rfl) ?_
  intro p e s m below meth c A ls hx hb hr hml hown hlocks hin hg hNW hK hP hD hA hS hl
  have hl : lv_has ls 2 [(0, .ref (r 5)), (1, .int 0)] := hl
  have hown : s.vm.findClass "LinkedUnits$Store" = some m.cls := hown
  refine lv_iload_n hx hb d_X8_firstOf_0 rfl (lv_at hl 1 rfl) ?_
  refine lv_if_gt (tgt := 8) hx hb d_X8_firstOf_1 (by decide) (fun c_1 => absurd c_1 (by decide)) (fun _ => ?_)
  refine lv_iconst (v := 0) hx hb d_X8_firstOf_4 (by decide) ?_
  refine lv_goto (tgt := 18) hx hb d_X8_firstOf_5 (by decide) ?_
  refine W.widen (k := 0) (n := 0) (Nat.le_of_ble_eq_true rfl) (Nat.le_of_ble_eq_true rfl) ?_
  exact k_iret (X := Unit) (w1 := fun _ => [((r 5), .inr (8, (oSto r)))]) () hx hb hr d_X8_firstOf_18 hlocks (hP.sub [0] rfl) hK (hD.sub [0] (by decide) rfl) hS rfl
set_option maxHeartbeats 4000000 in
set_option maxRecDepth 100000 in
theorem c_firstOf_1 (l : Launch) (D : va_G) (cy : Nat → ClassId) (sz : Nat) (r : Nat → Nat) : Met l y_X8_firstOf (Cond.code y_X8_firstOf b_X8_firstOf 2 (some .int) :: GW) ({ frames := 1, cells := 0, slots := 0, locals := 21 }) (va_Pc [.ref (r 5), .int 1] (kPre D cy sz [((r 5), .inr (8, (oSto r))), ((r 34), .inl (cy 1, 101, .inl sDe))])) ((fun A : Nat → Prop => va_Qi (S := Unit) (fun (r : Int32) (_ : Unit) => r = 4) (fun _ => kPost D cy A [((r 5), .inr (8, (oSto r))), ((r 34), .inl (cy 1, 101, .inl sDe))]) A) (va_A [((r 5), .inr (8, (oSto r))), ((r 34), .inl (cy 1, 101, .inl sDe))] sz)) 0 0 (va_A [((r 5), .inr (8, (oSto r))), ((r 34), .inl (cy 1, 101, .inl sDe))] sz) := by
  refine k_ofW (Qc := fun A => va_Qi (S := Unit) (fun (r : Int32) (_ : Unit) => r = 4) (fun _ => kPost D cy A [((r 5), .inr (8, (oSto r))), ((r 34), .inl (cy 1, 101, .inl sDe))]) A) (by decide) (Nat.le_of_ble_eq_true rfl) ?_
  intro p e s m below meth c A ls hx hb hr hml hown hlocks hin hg hNW hK hP hD hA hS hl
  have hl : lv_has ls 2 [(0, .ref (r 5)), (1, .int 1)] := hl
  have hown : s.vm.findClass "LinkedUnits$Store" = some m.cls := hown
  refine lv_iload_n hx hb d_X8_firstOf_0 rfl (lv_at hl 1 rfl) ?_
  refine lv_if_gt (tgt := 8) hx hb d_X8_firstOf_1 (by decide) (fun _ => ?_) (fun c_1 => False.elim (by revert c_1; decide))
  refine lv_aload_n hx hb d_X8_firstOf_8 rfl (lv_at hl 0 rfl) ?_
  refine va_get (D := D) (ci := 8) (v := .ref (r 34)) (C := "LinkedUnits$Store") (T := TX8) (N := 18) hx hb hg iwX8 hown hK hP 0 rfl rfl 14 (by decide) (hg _ m_252) (fun _ h9 => h9) rfl d_X8_firstOf_9 ?_
  refine lv_iload_n hx hb d_X8_firstOf_12 rfl (lv_at hl 1 rfl) ?_
  refine lv_iconst (v := 1) hx hb d_X8_firstOf_13 (by decide) ?_
  refine lv_isub hx hb d_X8_firstOf_14 ?_
  refine k_topi 0 (by decide) ?_
  refine k_calli (wc := [((r 34), .inl (cy 1, 101, .inl sDe))]) (wr := [((r 5), .inr (8, (oSto r)))]) (va_runSN (As := [.ref (r 34), .int 0]) (rest := []) ⟨hx, hb, hml, hown, hg⟩ (c_at_in l D cy s.heap.size (r 34) 101 sDe (0 : Int32) (Nat.le_of_ble_eq_true rfl) (k_inK (by decide))) ⟨(va_cnB 2 hg (gw_c m_949) rfl rfl rfl (hNW.1 _ nm_1125) (hg _ m_1) (by decide +kernel) ⟨(Nat.le_of_ble_eq_true rfl), (Nat.le_of_ble_eq_true rfl)⟩), hg _ m_948, trivial⟩ (k_preS hP hD hK hNW [1] (by decide) rfl) rfl rfl hl.1 rfl (lv_room (Nat.le_of_ble_eq_true rfl)) d_X8_firstOf_15 ⟨(Nat.le_of_ble_eq_true rfl), (Nat.le_of_ble_eq_true rfl)⟩) hP hD hS hA [1] [0] rfl rfl (by decide) (by decide) (fun r1 u1 H locs hw hP hD hS => ?_)
  have hP : va_P D vwCl [((r 5), .inr (8, (oSto r))), ((r 34), .inl (cy 1, 101, .inl sDe))] H := hP
  have hD : va_D A [((r 5), .inr (8, (oSto r))), ((r 34), .inl (cy 1, 101, .inl sDe))] := hD
  obtain rfl : r1 = (sDe ((0 : Int32)).toNatClampNeg) := hw
  refine k_topi 4 (by decide) ?_
  refine W.widen (k := 0) (n := 0) (Nat.le_of_ble_eq_true rfl) (Nat.le_of_ble_eq_true rfl) ?_
  exact k_iret (X := Unit) (w1 := fun _ => [((r 5), .inr (8, (oSto r))), ((r 34), .inl (cy 1, 101, .inl sDe))]) () hx hb hr d_X8_firstOf_18 hlocks (hP.sub [0, 1] rfl) hK (hD.sub [0, 1] (by decide) rfl) hS rfl
set_option maxHeartbeats 4000000 in
set_option maxRecDepth 100000 in
/-- firstOf: some number -/
theorem c_firstOf (l : Launch) (D : va_G) (cy : Nat → ClassId) (sz : Nat) (r : Nat → Nat) (o : Int32) : Met l y_X8_firstOf (Cond.code y_X8_firstOf b_X8_firstOf 2 (some .int) :: GW) ({ frames := 1, cells := 0, slots := 0, locals := 21 }) (va_Pc [.ref (r 5), .int o] (kPre D cy sz [((r 5), .inr (8, (oSto r))), ((r 34), .inl (cy 1, 101, .inl sDe))])) ((fun A : Nat → Prop => va_Qi (S := Unit) (fun (_ : Int32) (_ : Unit) => True) (fun _ => kPost D cy A [((r 5), .inr (8, (oSto r))), ((r 34), .inl (cy 1, 101, .inl sDe))]) A) (va_A [((r 5), .inr (8, (oSto r))), ((r 34), .inl (cy 1, 101, .inl sDe))] sz)) 0 0 (va_A [((r 5), .inr (8, (oSto r))), ((r 34), .inl (cy 1, 101, .inl sDe))] sz) := by
  refine k_ofW (Qc := fun A => va_Qi (S := Unit) (fun (_ : Int32) (_ : Unit) => True) (fun _ => kPost D cy A [((r 5), .inr (8, (oSto r))), ((r 34), .inl (cy 1, 101, .inl sDe))]) A) (by decide) (Nat.le_of_ble_eq_true rfl) ?_
  intro p e s m below meth c A ls hx hb hr hml hown hlocks hin hg hNW hK hP hD hA hS hl
  have hl : lv_has ls 2 [(0, .ref (r 5)), (1, .int o)] := hl
  have hown : s.vm.findClass "LinkedUnits$Store" = some m.cls := hown
  refine lv_iload_n hx hb d_X8_firstOf_0 rfl (lv_at hl 1 rfl) ?_
  refine lv_if_gt (tgt := 8) hx hb d_X8_firstOf_1 (by decide) (fun c_1 => ?_) (fun c_1 => ?_)
  · -- taken at 1
    refine lv_aload_n hx hb d_X8_firstOf_8 rfl (lv_at hl 0 rfl) ?_
    refine va_get (D := D) (ci := 8) (v := .ref (r 34)) (C := "LinkedUnits$Store") (T := TX8) (N := 18) hx hb hg iwX8 hown hK hP 0 rfl rfl 14 (by decide) (hg _ m_252) (fun _ h9 => h9) rfl d_X8_firstOf_9 ?_
    refine lv_iload_n hx hb d_X8_firstOf_12 rfl (lv_at hl 1 rfl) ?_
    refine lv_iconst (v := 1) hx hb d_X8_firstOf_13 (by decide) ?_
    refine lv_isub hx hb d_X8_firstOf_14 ?_
    refine k_calli (wc := [((r 34), .inl (cy 1, 101, .inl sDe))]) (wr := [((r 5), .inr (8, (oSto r)))]) (va_runSN (As := [.ref (r 34), .int (o - 1)]) (rest := []) ⟨hx, hb, hml, hown, hg⟩ (c_at_any l D cy s.heap.size (r 34) 101 sDe (o - 1) (Nat.le_of_ble_eq_true rfl)) ⟨(va_cnB 2 hg (gw_c m_949) rfl rfl rfl (hNW.1 _ nm_1125) (hg _ m_1) (by decide +kernel) ⟨(Nat.le_of_ble_eq_true rfl), (Nat.le_of_ble_eq_true rfl)⟩), hg _ m_948, trivial⟩ (k_preS hP hD hK hNW [1] (by decide) rfl) rfl rfl hl.1 rfl (lv_room (Nat.le_of_ble_eq_true rfl)) d_X8_firstOf_15 ⟨(Nat.le_of_ble_eq_true rfl), (Nat.le_of_ble_eq_true rfl)⟩) hP hD hS hA [1] [0] rfl rfl (by decide) (by decide) (fun r1 u1 H locs hw hP hD hS => ?_)
    have hP : va_P D vwCl [((r 5), .inr (8, (oSto r))), ((r 34), .inl (cy 1, 101, .inl sDe))] H := hP
    have hD : va_D A [((r 5), .inr (8, (oSto r))), ((r 34), .inl (cy 1, 101, .inl sDe))] := hD
    refine W.widen (k := 0) (n := 0) (Nat.le_of_ble_eq_true rfl) (Nat.le_of_ble_eq_true rfl) ?_
    exact k_iret (X := Unit) (w1 := fun _ => [((r 5), .inr (8, (oSto r))), ((r 34), .inl (cy 1, 101, .inl sDe))]) () hx hb hr d_X8_firstOf_18 hlocks (hP.sub [0, 1] rfl) hK (hD.sub [0, 1] (by decide) rfl) hS trivial
  · -- not taken at 1
    refine lv_iconst (v := 0) hx hb d_X8_firstOf_4 (by decide) ?_
    refine lv_goto (tgt := 18) hx hb d_X8_firstOf_5 (by decide) ?_
    refine W.widen (k := 0) (n := 0) (Nat.le_of_ble_eq_true rfl) (Nat.le_of_ble_eq_true rfl) ?_
    exact k_iret (X := Unit) (w1 := fun _ => [((r 5), .inr (8, (oSto r))), ((r 34), .inl (cy 1, 101, .inl sDe))]) () hx hb hr d_X8_firstOf_18 hlocks (hP.sub [0, 1] rfl) hK (hD.sub [0, 1] (by decide) rfl) hS trivial
set_option maxHeartbeats 4000000 in
set_option maxRecDepth 100000 in
/-- symbolAt: none -/
theorem c_symbolAt (l : Launch) (D : va_G) (cy : Nat → ClassId) (sz : Nat) (r : Nat → Nat) (o sy : Int32) : Met l y_X8_symbolAt (Cond.code y_X8_symbolAt b_X8_symbolAt 5 (some .int) :: GW) ({ frames := 2, cells := 0, slots := 0, locals := 42 }) (va_Pc [.ref (r 5), .int o, .int sy] (kPre D cy sz [((r 5), .inr (8, (oSto r))), ((r 34), .inl (cy 1, 101, .inl sDe))])) ((fun A : Nat → Prop => va_Qi (S := Unit) (fun (r : Int32) (_ : Unit) => r = (-1)) (fun _ => kPost D cy A [((r 5), .inr (8, (oSto r))), ((r 34), .inl (cy 1, 101, .inl sDe))]) A) (va_A [((r 5), .inr (8, (oSto r))), ((r 34), .inl (cy 1, 101, .inl sDe))] sz)) 0 0 (va_A [((r 5), .inr (8, (oSto r))), ((r 34), .inl (cy 1, 101, .inl sDe))] sz) := by
  refine k_ofW (Qc := fun A => va_Qi (S := Unit) (fun (r : Int32) (_ : Unit) => r = (-1)) (fun _ => kPost D cy A [((r 5), .inr (8, (oSto r))), ((r 34), .inl (cy 1, 101, .inl sDe))]) A) (by decide) (Nat.le_of_ble_eq_true rfl) ?_
  intro p e s m below meth c A ls hx hb hr hml hown hlocks hin hg hNW hK hP hD hA hS hl
  have hl : lv_has ls 5 [(0, .ref (r 5)), (1, .int o), (2, .int sy)] := hl
  have hown : s.vm.findClass "LinkedUnits$Store" = some m.cls := hown
  refine lv_aload_n hx hb d_X8_symbolAt_0 rfl (lv_at hl 0 rfl) ?_
  refine lv_iload_n hx hb d_X8_symbolAt_1 rfl (lv_at hl 1 rfl) ?_
  refine k_calli (wc := [((r 5), .inr (8, (oSto r)))]) (wr := [((r 34), .inl (cy 1, 101, .inl sDe))]) (va_runV (As := [.int o]) (rest := []) ⟨hx, hb, hml, hown, hg⟩ (c_has l D cy s.heap.size r o ) (cwV 1 hg (gw_V m_1534 m_1515 ms_X8_has m_5 m_1516) rfl rfl rfl (by decide +kernel) ⟨(Nat.le_of_ble_eq_true rfl), (Nat.le_of_ble_eq_true rfl)⟩) (k_preV (As := [.int o]) hP hD hK hNW [0] (by decide) rfl 0 rfl rfl) rfl rfl hl.1 rfl (lv_room (Nat.le_of_ble_eq_true rfl)) d_X8_symbolAt_2 ⟨(Nat.le_of_ble_eq_true rfl), (Nat.le_of_ble_eq_true rfl)⟩) hP hD hS hA [0] [1] rfl rfl (by decide) (by decide) (fun r1 u1 H locs hw hP hD hS => ?_)
  have hP : va_P D vwCl [((r 34), .inl (cy 1, 101, .inl sDe)), ((r 5), .inr (8, (oSto r)))] H := hP
  have hD : va_D A [((r 34), .inl (cy 1, 101, .inl sDe)), ((r 5), .inr (8, (oSto r)))] := hD
  obtain rfl : r1 = 0 := hw
  refine lv_if_eq (tgt := 16) hx hb d_X8_symbolAt_5 (by decide) (fun _ => ?_) (fun c_5 => False.elim (by revert c_5; decide))
  refine lv_iconst (v := (-1)) hx hb d_X8_symbolAt_16 (by decide) ?_
  refine lv_istore_n (lv' := [(3, .int (-1)), (0, .ref (r 5)), (1, .int o), (2, .int sy)]) hx hb d_X8_symbolAt_17 rfl hl (by decide) rfl (fun ls hl => ?_)
  refine lv_aload_n hx hb d_X8_symbolAt_18 rfl (lv_at hl 1 rfl) ?_
  refine lv_iload_n hx hb d_X8_symbolAt_19 rfl (lv_at hl 2 rfl) ?_
  refine k_calli (wc := [((r 5), .inr (8, (oSto r))), ((r 34), .inl (cy 1, 101, .inl sDe))]) (wr := []) (va_runV (As := [.int o]) (rest := []) ⟨hx, hb, hml, hown, hg⟩ (c_firstOf l D cy H.size r o ) (cwV 1 hg (gw_V m_1521 m_1523 ms_X8_firstOf m_5 m_1524) rfl rfl rfl (by decide +kernel) ⟨(Nat.le_of_ble_eq_true rfl), (Nat.le_of_ble_eq_true rfl)⟩) (k_preV (As := [.int o]) hP hD hK hNW [1, 0] (by decide) rfl 1 rfl rfl) rfl rfl hl.1 rfl (lv_room (Nat.le_of_ble_eq_true rfl)) d_X8_symbolAt_20 ⟨(Nat.le_of_ble_eq_true rfl), (Nat.le_of_ble_eq_true rfl)⟩) hP hD hS hA [1, 0] [] rfl rfl (by decide) (by decide) (fun r2 u2 H locs hw hP hD hS => ?_)
  have hP : va_P D vwCl [((r 5), .inr (8, (oSto r))), ((r 34), .inl (cy 1, 101, .inl sDe))] H := hP
  have hD : va_D A [((r 5), .inr (8, (oSto r))), ((r 34), .inl (cy 1, 101, .inl sDe))] := hD
  refine lv_istore (lv' := [(4, .int r2), (3, .int (-1)), (0, .ref (r 5)), (1, .int o), (2, .int sy)]) hx hb d_X8_symbolAt_23 hl (by decide) rfl (fun ls hl => ?_)
  refine lv_iload_n hx hb d_X8_symbolAt_25 rfl (lv_at hl 1 rfl) ?_
  refine lv_if_lt (tgt := 68) hx hb d_X8_symbolAt_26 (by decide) (fun _ => ?_) (fun c_26 => False.elim (by revert c_26; decide))
  refine lv_iconst (v := (-1)) hx hb d_X8_symbolAt_68 (by decide) ?_
  refine W.widen (k := 0) (n := 0) (Nat.le_of_ble_eq_true rfl) (Nat.le_of_ble_eq_true rfl) ?_
  exact k_iret (X := Unit) (w1 := fun _ => [((r 5), .inr (8, (oSto r))), ((r 34), .inl (cy 1, 101, .inl sDe))]) () hx hb hr d_X8_symbolAt_69 hlocks (hP.sub [0, 1] rfl) hK (hD.sub [0, 1] (by decide) rfl) hS rfl
set_option maxHeartbeats 4000000 in
set_option maxRecDepth 100000 in
theorem c_nameStart (l : Launch) (D : va_G) (cy : Nat → ClassId) (sz : Nat) (r : Nat → Nat) : Met l y_X8_nameStart (Cond.code y_X8_nameStart b_X8_nameStart 2 (some .int) :: GW) ({ frames := 1, cells := 0, slots := 0, locals := 21 }) (va_Pc [.ref (r 5), .int (-1)] (kPre D cy sz [((r 5), .inr (8, (oSto r)))])) ((fun A : Nat → Prop => va_Qi (S := Unit) (fun (r : Int32) (_ : Unit) => r = 0) (fun _ => kPost D cy A [((r 5), .inr (8, (oSto r)))]) A) (va_A [((r 5), .inr (8, (oSto r)))] sz)) 0 0 (va_A [((r 5), .inr (8, (oSto r)))] sz) := by
  refine k_ofW (Qc := fun A => va_Qi (S := Unit) (fun (r : Int32) (_ : Unit) => r = 0) (fun _ => kPost D cy A [((r 5), .inr (8, (oSto r)))]) A) (by decide) (Nat.le_of_ble_eq_true rfl) ?_
  intro p e s m below meth c A ls hx hb hr hml hown hlocks hin hg hNW hK hP hD hA hS hl
  have hl : lv_has ls 2 [(0, .ref (r 5)), (1, .int (-1))] := hl
  have hown : s.vm.findClass "LinkedUnits$Store" = some m.cls := hown
  refine lv_aload_n hx hb d_X8_nameStart_0 rfl (lv_at hl 0 rfl) ?_
  refine va_get (D := D) (ci := 8) (v := .ref (r 29)) (C := "LinkedUnits$Store") (T := TX8) (N := 18) hx hb hg iwX8 hown hK hP 0 rfl rfl 6 (by decide) (hg _ m_237) (fun _ h9 => h9) rfl d_X8_nameStart_1 ?_
  refine lv_iload_n hx hb d_X8_nameStart_4 rfl (lv_at hl 1 rfl) ?_
  refine lv_iconst (v := 1) hx hb d_X8_nameStart_5 (by decide) ?_
  refine lv_isub hx hb d_X8_nameStart_6 ?_
  refine k_topi (-2) (by decide) ?_
  refine k_calli (wc := []) (wr := [((r 5), .inr (8, (oSto r)))]) (va_runSN (As := [.ref (r 29), .int (-2)]) (rest := []) ⟨hx, hb, hml, hown, hg⟩ (c_at_neg l D cy s.heap.size (r 29) (-2) (by decide)) ⟨(va_cnB 2 hg (gw_c m_949) rfl rfl rfl (hNW.1 _ nm_1125) (hg _ m_1) (by decide +kernel) ⟨(Nat.le_of_ble_eq_true rfl), (Nat.le_of_ble_eq_true rfl)⟩), hg _ m_948, trivial⟩ (k_preS hP hD hK hNW [] (by decide) rfl) rfl rfl hl.1 rfl (lv_room (Nat.le_of_ble_eq_true rfl)) d_X8_nameStart_7 ⟨(Nat.le_of_ble_eq_true rfl), (Nat.le_of_ble_eq_true rfl)⟩) hP hD hS hA [] [0] rfl rfl (by decide) (by decide) (fun r1 u1 H locs hw hP hD hS => ?_)
  have hP : va_P D vwCl [((r 5), .inr (8, (oSto r)))] H := hP
  have hD : va_D A [((r 5), .inr (8, (oSto r)))] := hD
  obtain rfl : r1 = 0 := hw
  refine W.widen (k := 0) (n := 0) (Nat.le_of_ble_eq_true rfl) (Nat.le_of_ble_eq_true rfl) ?_
  exact k_iret (X := Unit) (w1 := fun _ => [((r 5), .inr (8, (oSto r)))]) () hx hb hr d_X8_nameStart_10 hlocks (hP.sub [0] rfl) hK (hD.sub [0] (by decide) rfl) hS rfl
set_option maxHeartbeats 4000000 in
set_option maxRecDepth 100000 in
/-- nameByte of no declaration -/
theorem c_nameByte (l : Launch) (D : va_G) (cy : Nat → ClassId) (sz : Nat) (r : Nat → Nat) (i : Int32) : Met l y_X8_nameByte (Cond.code y_X8_nameByte b_X8_nameByte 5 (some .int) :: GW) ({ frames := 2, cells := 0, slots := 0, locals := 42 }) (va_Pc [.ref (r 5), .int (-1), .int i] (kPre D cy sz [((r 5), .inr (8, (oSto r)))])) ((fun A : Nat → Prop => va_Qi (S := Unit) (fun (r : Int32) (_ : Unit) => r = (-1)) (fun _ => kPost D cy A [((r 5), .inr (8, (oSto r)))]) A) (va_A [((r 5), .inr (8, (oSto r)))] sz)) 0 0 (va_A [((r 5), .inr (8, (oSto r)))] sz) := by
  refine k_ofW (Qc := fun A => va_Qi (S := Unit) (fun (r : Int32) (_ : Unit) => r = (-1)) (fun _ => kPost D cy A [((r 5), .inr (8, (oSto r)))]) A) (by decide) (Nat.le_of_ble_eq_true rfl) ?_
  intro p e s m below meth c A ls hx hb hr hml hown hlocks hin hg hNW hK hP hD hA hS hl
  have hl : lv_has ls 5 [(0, .ref (r 5)), (1, .int (-1)), (2, .int i)] := hl
  have hown : s.vm.findClass "LinkedUnits$Store" = some m.cls := hown
  refine lv_iload_n hx hb d_X8_nameByte_0 rfl (lv_at hl 1 rfl) ?_
  refine lv_if_ge (tgt := 8) hx hb d_X8_nameByte_1 (by decide) (fun c_1 => absurd c_1 (by decide)) (fun _ => ?_)
  refine lv_iconst (v := 0) hx hb d_X8_nameByte_4 (by decide) ?_
  refine lv_goto (tgt := 22) hx hb d_X8_nameByte_5 (by decide) ?_
  refine lv_istore_n (lv' := [(3, .int 0), (0, .ref (r 5)), (1, .int (-1)), (2, .int i)]) hx hb d_X8_nameByte_22 rfl hl (by decide) rfl (fun ls hl => ?_)
  refine lv_aload_n hx hb d_X8_nameByte_23 rfl (lv_at hl 1 rfl) ?_
  refine lv_iload_n hx hb d_X8_nameByte_24 rfl (lv_at hl 2 rfl) ?_
  refine k_calli (wc := [((r 5), .inr (8, (oSto r)))]) (wr := []) (va_runV (As := [.int (-1)]) (rest := []) ⟨hx, hb, hml, hown, hg⟩ (c_nameStart l D cy s.heap.size r ) (cwV 1 hg (gw_V m_1492 m_1494 ms_X8_nameStart m_5 m_1495) rfl rfl rfl (by decide +kernel) ⟨(Nat.le_of_ble_eq_true rfl), (Nat.le_of_ble_eq_true rfl)⟩) (k_preV (As := [.int (-1)]) hP hD hK hNW [0] (by decide) rfl 0 rfl rfl) rfl rfl hl.1 rfl (lv_room (Nat.le_of_ble_eq_true rfl)) d_X8_nameByte_25 ⟨(Nat.le_of_ble_eq_true rfl), (Nat.le_of_ble_eq_true rfl)⟩) hP hD hS hA [0] [] rfl rfl (by decide) (by decide) (fun r1 u1 H locs hw hP hD hS => ?_)
  have hP : va_P D vwCl [((r 5), .inr (8, (oSto r)))] H := hP
  have hD : va_D A [((r 5), .inr (8, (oSto r)))] := hD
  obtain rfl : r1 = 0 := hw
  refine lv_iload_n hx hb d_X8_nameByte_28 rfl (lv_at hl 3 rfl) ?_
  refine lv_iadd hx hb d_X8_nameByte_29 ?_
  refine lv_istore (lv' := [(4, .int (0 + i)), (3, .int 0), (0, .ref (r 5)), (1, .int (-1)), (2, .int i)]) hx hb d_X8_nameByte_30 hl (by decide) rfl (fun ls hl => ?_)
  refine lv_iload_n hx hb d_X8_nameByte_32 rfl (lv_at hl 4 rfl) ?_
  refine lv_if_lt (tgt := 65) hx hb d_X8_nameByte_33 (by decide) (fun c_33 => ?_) (fun c_33 => ?_)
  · -- taken at 33
    refine lv_iconst (v := (-1)) hx hb d_X8_nameByte_65 (by decide) ?_
    refine W.widen (k := 0) (n := 0) (Nat.le_of_ble_eq_true rfl) (Nat.le_of_ble_eq_true rfl) ?_
    exact k_iret (X := Unit) (w1 := fun _ => [((r 5), .inr (8, (oSto r)))]) () hx hb hr d_X8_nameByte_66 hlocks (hP.sub [0] rfl) hK (hD.sub [0] (by decide) rfl) hS rfl
  · -- not taken at 33
    refine lv_iload_n hx hb d_X8_nameByte_36 rfl (lv_at hl 4 rfl) ?_
    refine lv_iload_n hx hb d_X8_nameByte_37 rfl (lv_at hl 1 rfl) ?_
    refine lv_icmp_ge (tgt := 65) hx hb d_X8_nameByte_38 (by decide) (fun c_38 => ?_) (fun c_38 => False.elim (c_38 (Int32.not_lt.mp c_33)))
    refine lv_iconst (v := (-1)) hx hb d_X8_nameByte_65 (by decide) ?_
    refine W.widen (k := 0) (n := 0) (Nat.le_of_ble_eq_true rfl) (Nat.le_of_ble_eq_true rfl) ?_
    exact k_iret (X := Unit) (w1 := fun _ => [((r 5), .inr (8, (oSto r)))]) () hx hb hr d_X8_nameByte_66 hlocks (hP.sub [0] rfl) hK (hD.sub [0] (by decide) rfl) hS rfl
set_option maxHeartbeats 4000000 in
set_option maxRecDepth 100000 in
theorem c_is_0_4 (l : Launch) (D : va_G) (cy : Nat → ClassId) (sz : Nat) (r : Nat → Nat) : Met l y_X8_is (Cond.code y_X8_is b_X8_is 3 (some .boolean) :: GW) ({ frames := 1, cells := 0, slots := 0, locals := 21 }) (va_Pc [.ref (r 5), .int 0, .int 4] (kPre D cy sz [((r 5), .inr (8, (oSto r))), ((r 25), .inl (cy 1, 10100, .inl sFl))])) ((fun A : Nat → Prop => va_Qi (S := Unit) (fun (r : Int32) (_ : Unit) => r = 1) (fun _ => kPost D cy A [((r 5), .inr (8, (oSto r))), ((r 25), .inl (cy 1, 10100, .inl sFl))]) A) (va_A [((r 5), .inr (8, (oSto r))), ((r 25), .inl (cy 1, 10100, .inl sFl))] sz)) 0 0 (va_A [((r 5), .inr (8, (oSto r))), ((r 25), .inl (cy 1, 10100, .inl sFl))] sz) := by
  refine k_ofW (Qc := fun A => va_Qi (S := Unit) (fun (r : Int32) (_ : Unit) => r = 1) (fun _ => kPost D cy A [((r 5), .inr (8, (oSto r))), ((r 25), .inl (cy 1, 10100, .inl sFl))]) A) (by decide) (Nat.le_of_ble_eq_true rfl) ?_
  intro p e s m below meth c A ls hx hb hr hml hown hlocks hin hg hNW hK hP hD hA hS hl
  have hl : lv_has ls 3 [(0, .ref (r 5)), (1, .int 0), (2, .int 4)] := hl
  have hown : s.vm.findClass "LinkedUnits$Store" = some m.cls := hown
  refine lv_aload_n hx hb d_X8_is_0 rfl (lv_at hl 0 rfl) ?_
  refine va_get (D := D) (ci := 8) (v := .ref (r 25)) (C := "LinkedUnits$Store") (T := TX8) (N := 18) hx hb hg iwX8 hown hK hP 0 rfl rfl 2 (by decide) (hg _ m_224) (fun _ h9 => h9) rfl d_X8_is_1 ?_
  refine lv_iload_n hx hb d_X8_is_4 rfl (lv_at hl 1 rfl) ?_
  refine k_calli (wc := [((r 25), .inl (cy 1, 10100, .inl sFl))]) (wr := [((r 5), .inr (8, (oSto r)))]) (va_runSN (As := [.ref (r 25), .int 0]) (rest := []) ⟨hx, hb, hml, hown, hg⟩ (c_at_in l D cy s.heap.size (r 25) 10100 sFl (0 : Int32) (Nat.le_of_ble_eq_true rfl) (k_inK (by decide))) ⟨(va_cnB 2 hg (gw_c m_949) rfl rfl rfl (hNW.1 _ nm_1125) (hg _ m_1) (by decide +kernel) ⟨(Nat.le_of_ble_eq_true rfl), (Nat.le_of_ble_eq_true rfl)⟩), hg _ m_948, trivial⟩ (k_preS hP hD hK hNW [1] (by decide) rfl) rfl rfl hl.1 rfl (lv_room (Nat.le_of_ble_eq_true rfl)) d_X8_is_5 ⟨(Nat.le_of_ble_eq_true rfl), (Nat.le_of_ble_eq_true rfl)⟩) hP hD hS hA [1] [0] rfl rfl (by decide) (by decide) (fun r1 u1 H locs hw hP hD hS => ?_)
  have hP : va_P D vwCl [((r 5), .inr (8, (oSto r))), ((r 25), .inl (cy 1, 10100, .inl sFl))] H := hP
  have hD : va_D A [((r 5), .inr (8, (oSto r))), ((r 25), .inl (cy 1, 10100, .inl sFl))] := hD
  obtain rfl : r1 = (sFl ((0 : Int32)).toNatClampNeg) := hw
  refine k_topi 5 (by decide) ?_
  refine lv_iload_n hx hb d_X8_is_8 rfl (lv_at hl 2 rfl) ?_
  refine lv_iand hx hb d_X8_is_9 ?_
  refine k_topi 4 (by decide) ?_
  refine lv_if_eq (tgt := 17) hx hb d_X8_is_10 (by decide) (fun c_10 => absurd c_10 (by decide)) (fun _ => ?_)
  refine lv_iconst (v := 1) hx hb d_X8_is_13 (by decide) ?_
  refine lv_goto (tgt := 18) hx hb d_X8_is_14 (by decide) ?_
  refine W.widen (k := 0) (n := 0) (Nat.le_of_ble_eq_true rfl) (Nat.le_of_ble_eq_true rfl) ?_
  exact k_zret (X := Unit) (w1 := fun _ => [((r 5), .inr (8, (oSto r))), ((r 25), .inl (cy 1, 10100, .inl sFl))]) () hx hb hr rfl d_X8_is_18 hlocks (hP.sub [0, 1] rfl) hK (hD.sub [0, 1] (by decide) rfl) hS rfl
set_option maxHeartbeats 4000000 in
set_option maxRecDepth 100000 in
theorem c_is_0_2 (l : Launch) (D : va_G) (cy : Nat → ClassId) (sz : Nat) (r : Nat → Nat) : Met l y_X8_is (Cond.code y_X8_is b_X8_is 3 (some .boolean) :: GW) ({ frames := 1, cells := 0, slots := 0, locals := 21 }) (va_Pc [.ref (r 5), .int 0, .int 2] (kPre D cy sz [((r 5), .inr (8, (oSto r))), ((r 25), .inl (cy 1, 10100, .inl sFl))])) ((fun A : Nat → Prop => va_Qi (S := Unit) (fun (r : Int32) (_ : Unit) => r = 0) (fun _ => kPost D cy A [((r 5), .inr (8, (oSto r))), ((r 25), .inl (cy 1, 10100, .inl sFl))]) A) (va_A [((r 5), .inr (8, (oSto r))), ((r 25), .inl (cy 1, 10100, .inl sFl))] sz)) 0 0 (va_A [((r 5), .inr (8, (oSto r))), ((r 25), .inl (cy 1, 10100, .inl sFl))] sz) := by
  refine k_ofW (Qc := fun A => va_Qi (S := Unit) (fun (r : Int32) (_ : Unit) => r = 0) (fun _ => kPost D cy A [((r 5), .inr (8, (oSto r))), ((r 25), .inl (cy 1, 10100, .inl sFl))]) A) (by decide) (Nat.le_of_ble_eq_true rfl) ?_
  intro p e s m below meth c A ls hx hb hr hml hown hlocks hin hg hNW hK hP hD hA hS hl
  have hl : lv_has ls 3 [(0, .ref (r 5)), (1, .int 0), (2, .int 2)] := hl
  have hown : s.vm.findClass "LinkedUnits$Store" = some m.cls := hown
  refine lv_aload_n hx hb d_X8_is_0 rfl (lv_at hl 0 rfl) ?_
  refine va_get (D := D) (ci := 8) (v := .ref (r 25)) (C := "LinkedUnits$Store") (T := TX8) (N := 18) hx hb hg iwX8 hown hK hP 0 rfl rfl 2 (by decide) (hg _ m_224) (fun _ h9 => h9) rfl d_X8_is_1 ?_
  refine lv_iload_n hx hb d_X8_is_4 rfl (lv_at hl 1 rfl) ?_
  refine k_calli (wc := [((r 25), .inl (cy 1, 10100, .inl sFl))]) (wr := [((r 5), .inr (8, (oSto r)))]) (va_runSN (As := [.ref (r 25), .int 0]) (rest := []) ⟨hx, hb, hml, hown, hg⟩ (c_at_in l D cy s.heap.size (r 25) 10100 sFl (0 : Int32) (Nat.le_of_ble_eq_true rfl) (k_inK (by decide))) ⟨(va_cnB 2 hg (gw_c m_949) rfl rfl rfl (hNW.1 _ nm_1125) (hg _ m_1) (by decide +kernel) ⟨(Nat.le_of_ble_eq_true rfl), (Nat.le_of_ble_eq_true rfl)⟩), hg _ m_948, trivial⟩ (k_preS hP hD hK hNW [1] (by decide) rfl) rfl rfl hl.1 rfl (lv_room (Nat.le_of_ble_eq_true rfl)) d_X8_is_5 ⟨(Nat.le_of_ble_eq_true rfl), (Nat.le_of_ble_eq_true rfl)⟩) hP hD hS hA [1] [0] rfl rfl (by decide) (by decide) (fun r1 u1 H locs hw hP hD hS => ?_)
  have hP : va_P D vwCl [((r 5), .inr (8, (oSto r))), ((r 25), .inl (cy 1, 10100, .inl sFl))] H := hP
  have hD : va_D A [((r 5), .inr (8, (oSto r))), ((r 25), .inl (cy 1, 10100, .inl sFl))] := hD
  obtain rfl : r1 = (sFl ((0 : Int32)).toNatClampNeg) := hw
  refine k_topi 5 (by decide) ?_
  refine lv_iload_n hx hb d_X8_is_8 rfl (lv_at hl 2 rfl) ?_
  refine lv_iand hx hb d_X8_is_9 ?_
  refine k_topi 0 (by decide) ?_
  refine lv_if_eq (tgt := 17) hx hb d_X8_is_10 (by decide) (fun _ => ?_) (fun c_10 => False.elim (by revert c_10; decide))
  refine lv_iconst (v := 0) hx hb d_X8_is_17 (by decide) ?_
  refine W.widen (k := 0) (n := 0) (Nat.le_of_ble_eq_true rfl) (Nat.le_of_ble_eq_true rfl) ?_
  exact k_zret (X := Unit) (w1 := fun _ => [((r 5), .inr (8, (oSto r))), ((r 25), .inl (cy 1, 10100, .inl sFl))]) () hx hb hr rfl d_X8_is_18 hlocks (hP.sub [0, 1] rfl) hK (hD.sub [0, 1] (by decide) rfl) hS rfl
set_option maxHeartbeats 4000000 in
set_option maxRecDepth 100000 in
theorem c_is_1_4 (l : Launch) (D : va_G) (cy : Nat → ClassId) (sz : Nat) (r : Nat → Nat) : Met l y_X8_is (Cond.code y_X8_is b_X8_is 3 (some .boolean) :: GW) ({ frames := 1, cells := 0, slots := 0, locals := 21 }) (va_Pc [.ref (r 5), .int 1, .int 4] (kPre D cy sz [((r 5), .inr (8, (oSto r))), ((r 25), .inl (cy 1, 10100, .inl sFl))])) ((fun A : Nat → Prop => va_Qi (S := Unit) (fun (r : Int32) (_ : Unit) => r = 1) (fun _ => kPost D cy A [((r 5), .inr (8, (oSto r))), ((r 25), .inl (cy 1, 10100, .inl sFl))]) A) (va_A [((r 5), .inr (8, (oSto r))), ((r 25), .inl (cy 1, 10100, .inl sFl))] sz)) 0 0 (va_A [((r 5), .inr (8, (oSto r))), ((r 25), .inl (cy 1, 10100, .inl sFl))] sz) := by
  refine k_ofW (Qc := fun A => va_Qi (S := Unit) (fun (r : Int32) (_ : Unit) => r = 1) (fun _ => kPost D cy A [((r 5), .inr (8, (oSto r))), ((r 25), .inl (cy 1, 10100, .inl sFl))]) A) (by decide) (Nat.le_of_ble_eq_true rfl) ?_
  intro p e s m below meth c A ls hx hb hr hml hown hlocks hin hg hNW hK hP hD hA hS hl
  have hl : lv_has ls 3 [(0, .ref (r 5)), (1, .int 1), (2, .int 4)] := hl
  have hown : s.vm.findClass "LinkedUnits$Store" = some m.cls := hown
  refine lv_aload_n hx hb d_X8_is_0 rfl (lv_at hl 0 rfl) ?_
  refine va_get (D := D) (ci := 8) (v := .ref (r 25)) (C := "LinkedUnits$Store") (T := TX8) (N := 18) hx hb hg iwX8 hown hK hP 0 rfl rfl 2 (by decide) (hg _ m_224) (fun _ h9 => h9) rfl d_X8_is_1 ?_
  refine lv_iload_n hx hb d_X8_is_4 rfl (lv_at hl 1 rfl) ?_
  refine k_calli (wc := [((r 25), .inl (cy 1, 10100, .inl sFl))]) (wr := [((r 5), .inr (8, (oSto r)))]) (va_runSN (As := [.ref (r 25), .int 1]) (rest := []) ⟨hx, hb, hml, hown, hg⟩ (c_at_in l D cy s.heap.size (r 25) 10100 sFl (1 : Int32) (Nat.le_of_ble_eq_true rfl) (k_inK (by decide))) ⟨(va_cnB 2 hg (gw_c m_949) rfl rfl rfl (hNW.1 _ nm_1125) (hg _ m_1) (by decide +kernel) ⟨(Nat.le_of_ble_eq_true rfl), (Nat.le_of_ble_eq_true rfl)⟩), hg _ m_948, trivial⟩ (k_preS hP hD hK hNW [1] (by decide) rfl) rfl rfl hl.1 rfl (lv_room (Nat.le_of_ble_eq_true rfl)) d_X8_is_5 ⟨(Nat.le_of_ble_eq_true rfl), (Nat.le_of_ble_eq_true rfl)⟩) hP hD hS hA [1] [0] rfl rfl (by decide) (by decide) (fun r1 u1 H locs hw hP hD hS => ?_)
  have hP : va_P D vwCl [((r 5), .inr (8, (oSto r))), ((r 25), .inl (cy 1, 10100, .inl sFl))] H := hP
  have hD : va_D A [((r 5), .inr (8, (oSto r))), ((r 25), .inl (cy 1, 10100, .inl sFl))] := hD
  obtain rfl : r1 = (sFl ((1 : Int32)).toNatClampNeg) := hw
  refine k_topi 5 (by decide) ?_
  refine lv_iload_n hx hb d_X8_is_8 rfl (lv_at hl 2 rfl) ?_
  refine lv_iand hx hb d_X8_is_9 ?_
  refine k_topi 4 (by decide) ?_
  refine lv_if_eq (tgt := 17) hx hb d_X8_is_10 (by decide) (fun c_10 => absurd c_10 (by decide)) (fun _ => ?_)
  refine lv_iconst (v := 1) hx hb d_X8_is_13 (by decide) ?_
  refine lv_goto (tgt := 18) hx hb d_X8_is_14 (by decide) ?_
  refine W.widen (k := 0) (n := 0) (Nat.le_of_ble_eq_true rfl) (Nat.le_of_ble_eq_true rfl) ?_
  exact k_zret (X := Unit) (w1 := fun _ => [((r 5), .inr (8, (oSto r))), ((r 25), .inl (cy 1, 10100, .inl sFl))]) () hx hb hr rfl d_X8_is_18 hlocks (hP.sub [0, 1] rfl) hK (hD.sub [0, 1] (by decide) rfl) hS rfl
set_option maxHeartbeats 4000000 in
set_option maxRecDepth 100000 in
theorem c_is_1_2 (l : Launch) (D : va_G) (cy : Nat → ClassId) (sz : Nat) (r : Nat → Nat) : Met l y_X8_is (Cond.code y_X8_is b_X8_is 3 (some .boolean) :: GW) ({ frames := 1, cells := 0, slots := 0, locals := 21 }) (va_Pc [.ref (r 5), .int 1, .int 2] (kPre D cy sz [((r 5), .inr (8, (oSto r))), ((r 25), .inl (cy 1, 10100, .inl sFl))])) ((fun A : Nat → Prop => va_Qi (S := Unit) (fun (r : Int32) (_ : Unit) => r = 0) (fun _ => kPost D cy A [((r 5), .inr (8, (oSto r))), ((r 25), .inl (cy 1, 10100, .inl sFl))]) A) (va_A [((r 5), .inr (8, (oSto r))), ((r 25), .inl (cy 1, 10100, .inl sFl))] sz)) 0 0 (va_A [((r 5), .inr (8, (oSto r))), ((r 25), .inl (cy 1, 10100, .inl sFl))] sz) := by
  refine k_ofW (Qc := fun A => va_Qi (S := Unit) (fun (r : Int32) (_ : Unit) => r = 0) (fun _ => kPost D cy A [((r 5), .inr (8, (oSto r))), ((r 25), .inl (cy 1, 10100, .inl sFl))]) A) (by decide) (Nat.le_of_ble_eq_true rfl) ?_
  intro p e s m below meth c A ls hx hb hr hml hown hlocks hin hg hNW hK hP hD hA hS hl
  have hl : lv_has ls 3 [(0, .ref (r 5)), (1, .int 1), (2, .int 2)] := hl
  have hown : s.vm.findClass "LinkedUnits$Store" = some m.cls := hown
  refine lv_aload_n hx hb d_X8_is_0 rfl (lv_at hl 0 rfl) ?_
  refine va_get (D := D) (ci := 8) (v := .ref (r 25)) (C := "LinkedUnits$Store") (T := TX8) (N := 18) hx hb hg iwX8 hown hK hP 0 rfl rfl 2 (by decide) (hg _ m_224) (fun _ h9 => h9) rfl d_X8_is_1 ?_
  refine lv_iload_n hx hb d_X8_is_4 rfl (lv_at hl 1 rfl) ?_
  refine k_calli (wc := [((r 25), .inl (cy 1, 10100, .inl sFl))]) (wr := [((r 5), .inr (8, (oSto r)))]) (va_runSN (As := [.ref (r 25), .int 1]) (rest := []) ⟨hx, hb, hml, hown, hg⟩ (c_at_in l D cy s.heap.size (r 25) 10100 sFl (1 : Int32) (Nat.le_of_ble_eq_true rfl) (k_inK (by decide))) ⟨(va_cnB 2 hg (gw_c m_949) rfl rfl rfl (hNW.1 _ nm_1125) (hg _ m_1) (by decide +kernel) ⟨(Nat.le_of_ble_eq_true rfl), (Nat.le_of_ble_eq_true rfl)⟩), hg _ m_948, trivial⟩ (k_preS hP hD hK hNW [1] (by decide) rfl) rfl rfl hl.1 rfl (lv_room (Nat.le_of_ble_eq_true rfl)) d_X8_is_5 ⟨(Nat.le_of_ble_eq_true rfl), (Nat.le_of_ble_eq_true rfl)⟩) hP hD hS hA [1] [0] rfl rfl (by decide) (by decide) (fun r1 u1 H locs hw hP hD hS => ?_)
  have hP : va_P D vwCl [((r 5), .inr (8, (oSto r))), ((r 25), .inl (cy 1, 10100, .inl sFl))] H := hP
  have hD : va_D A [((r 5), .inr (8, (oSto r))), ((r 25), .inl (cy 1, 10100, .inl sFl))] := hD
  obtain rfl : r1 = (sFl ((1 : Int32)).toNatClampNeg) := hw
  refine k_topi 5 (by decide) ?_
  refine lv_iload_n hx hb d_X8_is_8 rfl (lv_at hl 2 rfl) ?_
  refine lv_iand hx hb d_X8_is_9 ?_
  refine k_topi 0 (by decide) ?_
  refine lv_if_eq (tgt := 17) hx hb d_X8_is_10 (by decide) (fun _ => ?_) (fun c_10 => False.elim (by revert c_10; decide))
  refine lv_iconst (v := 0) hx hb d_X8_is_17 (by decide) ?_
  refine W.widen (k := 0) (n := 0) (Nat.le_of_ble_eq_true rfl) (Nat.le_of_ble_eq_true rfl) ?_
  exact k_zret (X := Unit) (w1 := fun _ => [((r 5), .inr (8, (oSto r))), ((r 25), .inl (cy 1, 10100, .inl sFl))]) () hx hb hr rfl d_X8_is_18 hlocks (hP.sub [0, 1] rfl) hK (hD.sub [0, 1] (by decide) rfl) hS rfl
set_option maxHeartbeats 4000000 in
set_option maxRecDepth 100000 in
theorem c_is_2_4 (l : Launch) (D : va_G) (cy : Nat → ClassId) (sz : Nat) (r : Nat → Nat) : Met l y_X8_is (Cond.code y_X8_is b_X8_is 3 (some .boolean) :: GW) ({ frames := 1, cells := 0, slots := 0, locals := 21 }) (va_Pc [.ref (r 5), .int 2, .int 4] (kPre D cy sz [((r 5), .inr (8, (oSto r))), ((r 25), .inl (cy 1, 10100, .inl sFl))])) ((fun A : Nat → Prop => va_Qi (S := Unit) (fun (r : Int32) (_ : Unit) => r = 1) (fun _ => kPost D cy A [((r 5), .inr (8, (oSto r))), ((r 25), .inl (cy 1, 10100, .inl sFl))]) A) (va_A [((r 5), .inr (8, (oSto r))), ((r 25), .inl (cy 1, 10100, .inl sFl))] sz)) 0 0 (va_A [((r 5), .inr (8, (oSto r))), ((r 25), .inl (cy 1, 10100, .inl sFl))] sz) := by
  refine k_ofW (Qc := fun A => va_Qi (S := Unit) (fun (r : Int32) (_ : Unit) => r = 1) (fun _ => kPost D cy A [((r 5), .inr (8, (oSto r))), ((r 25), .inl (cy 1, 10100, .inl sFl))]) A) (by decide) (Nat.le_of_ble_eq_true rfl) ?_
  intro p e s m below meth c A ls hx hb hr hml hown hlocks hin hg hNW hK hP hD hA hS hl
  have hl : lv_has ls 3 [(0, .ref (r 5)), (1, .int 2), (2, .int 4)] := hl
  have hown : s.vm.findClass "LinkedUnits$Store" = some m.cls := hown
  refine lv_aload_n hx hb d_X8_is_0 rfl (lv_at hl 0 rfl) ?_
  refine va_get (D := D) (ci := 8) (v := .ref (r 25)) (C := "LinkedUnits$Store") (T := TX8) (N := 18) hx hb hg iwX8 hown hK hP 0 rfl rfl 2 (by decide) (hg _ m_224) (fun _ h9 => h9) rfl d_X8_is_1 ?_
  refine lv_iload_n hx hb d_X8_is_4 rfl (lv_at hl 1 rfl) ?_
  refine k_calli (wc := [((r 25), .inl (cy 1, 10100, .inl sFl))]) (wr := [((r 5), .inr (8, (oSto r)))]) (va_runSN (As := [.ref (r 25), .int 2]) (rest := []) ⟨hx, hb, hml, hown, hg⟩ (c_at_in l D cy s.heap.size (r 25) 10100 sFl (2 : Int32) (Nat.le_of_ble_eq_true rfl) (k_inK (by decide))) ⟨(va_cnB 2 hg (gw_c m_949) rfl rfl rfl (hNW.1 _ nm_1125) (hg _ m_1) (by decide +kernel) ⟨(Nat.le_of_ble_eq_true rfl), (Nat.le_of_ble_eq_true rfl)⟩), hg _ m_948, trivial⟩ (k_preS hP hD hK hNW [1] (by decide) rfl) rfl rfl hl.1 rfl (lv_room (Nat.le_of_ble_eq_true rfl)) d_X8_is_5 ⟨(Nat.le_of_ble_eq_true rfl), (Nat.le_of_ble_eq_true rfl)⟩) hP hD hS hA [1] [0] rfl rfl (by decide) (by decide) (fun r1 u1 H locs hw hP hD hS => ?_)
  have hP : va_P D vwCl [((r 5), .inr (8, (oSto r))), ((r 25), .inl (cy 1, 10100, .inl sFl))] H := hP
  have hD : va_D A [((r 5), .inr (8, (oSto r))), ((r 25), .inl (cy 1, 10100, .inl sFl))] := hD
  obtain rfl : r1 = (sFl ((2 : Int32)).toNatClampNeg) := hw
  refine k_topi 5 (by decide) ?_
  refine lv_iload_n hx hb d_X8_is_8 rfl (lv_at hl 2 rfl) ?_
  refine lv_iand hx hb d_X8_is_9 ?_
  refine k_topi 4 (by decide) ?_
  refine lv_if_eq (tgt := 17) hx hb d_X8_is_10 (by decide) (fun c_10 => absurd c_10 (by decide)) (fun _ => ?_)
  refine lv_iconst (v := 1) hx hb d_X8_is_13 (by decide) ?_
  refine lv_goto (tgt := 18) hx hb d_X8_is_14 (by decide) ?_
  refine W.widen (k := 0) (n := 0) (Nat.le_of_ble_eq_true rfl) (Nat.le_of_ble_eq_true rfl) ?_
  exact k_zret (X := Unit) (w1 := fun _ => [((r 5), .inr (8, (oSto r))), ((r 25), .inl (cy 1, 10100, .inl sFl))]) () hx hb hr rfl d_X8_is_18 hlocks (hP.sub [0, 1] rfl) hK (hD.sub [0, 1] (by decide) rfl) hS rfl
set_option maxHeartbeats 4000000 in
set_option maxRecDepth 100000 in
theorem c_is_2_2 (l : Launch) (D : va_G) (cy : Nat → ClassId) (sz : Nat) (r : Nat → Nat) : Met l y_X8_is (Cond.code y_X8_is b_X8_is 3 (some .boolean) :: GW) ({ frames := 1, cells := 0, slots := 0, locals := 21 }) (va_Pc [.ref (r 5), .int 2, .int 2] (kPre D cy sz [((r 5), .inr (8, (oSto r))), ((r 25), .inl (cy 1, 10100, .inl sFl))])) ((fun A : Nat → Prop => va_Qi (S := Unit) (fun (r : Int32) (_ : Unit) => r = 0) (fun _ => kPost D cy A [((r 5), .inr (8, (oSto r))), ((r 25), .inl (cy 1, 10100, .inl sFl))]) A) (va_A [((r 5), .inr (8, (oSto r))), ((r 25), .inl (cy 1, 10100, .inl sFl))] sz)) 0 0 (va_A [((r 5), .inr (8, (oSto r))), ((r 25), .inl (cy 1, 10100, .inl sFl))] sz) := by
  refine k_ofW (Qc := fun A => va_Qi (S := Unit) (fun (r : Int32) (_ : Unit) => r = 0) (fun _ => kPost D cy A [((r 5), .inr (8, (oSto r))), ((r 25), .inl (cy 1, 10100, .inl sFl))]) A) (by decide) (Nat.le_of_ble_eq_true rfl) ?_
  intro p e s m below meth c A ls hx hb hr hml hown hlocks hin hg hNW hK hP hD hA hS hl
  have hl : lv_has ls 3 [(0, .ref (r 5)), (1, .int 2), (2, .int 2)] := hl
  have hown : s.vm.findClass "LinkedUnits$Store" = some m.cls := hown
  refine lv_aload_n hx hb d_X8_is_0 rfl (lv_at hl 0 rfl) ?_
  refine va_get (D := D) (ci := 8) (v := .ref (r 25)) (C := "LinkedUnits$Store") (T := TX8) (N := 18) hx hb hg iwX8 hown hK hP 0 rfl rfl 2 (by decide) (hg _ m_224) (fun _ h9 => h9) rfl d_X8_is_1 ?_
  refine lv_iload_n hx hb d_X8_is_4 rfl (lv_at hl 1 rfl) ?_
  refine k_calli (wc := [((r 25), .inl (cy 1, 10100, .inl sFl))]) (wr := [((r 5), .inr (8, (oSto r)))]) (va_runSN (As := [.ref (r 25), .int 2]) (rest := []) ⟨hx, hb, hml, hown, hg⟩ (c_at_in l D cy s.heap.size (r 25) 10100 sFl (2 : Int32) (Nat.le_of_ble_eq_true rfl) (k_inK (by decide))) ⟨(va_cnB 2 hg (gw_c m_949) rfl rfl rfl (hNW.1 _ nm_1125) (hg _ m_1) (by decide +kernel) ⟨(Nat.le_of_ble_eq_true rfl), (Nat.le_of_ble_eq_true rfl)⟩), hg _ m_948, trivial⟩ (k_preS hP hD hK hNW [1] (by decide) rfl) rfl rfl hl.1 rfl (lv_room (Nat.le_of_ble_eq_true rfl)) d_X8_is_5 ⟨(Nat.le_of_ble_eq_true rfl), (Nat.le_of_ble_eq_true rfl)⟩) hP hD hS hA [1] [0] rfl rfl (by decide) (by decide) (fun r1 u1 H locs hw hP hD hS => ?_)
  have hP : va_P D vwCl [((r 5), .inr (8, (oSto r))), ((r 25), .inl (cy 1, 10100, .inl sFl))] H := hP
  have hD : va_D A [((r 5), .inr (8, (oSto r))), ((r 25), .inl (cy 1, 10100, .inl sFl))] := hD
  obtain rfl : r1 = (sFl ((2 : Int32)).toNatClampNeg) := hw
  refine k_topi 5 (by decide) ?_
  refine lv_iload_n hx hb d_X8_is_8 rfl (lv_at hl 2 rfl) ?_
  refine lv_iand hx hb d_X8_is_9 ?_
  refine k_topi 0 (by decide) ?_
  refine lv_if_eq (tgt := 17) hx hb d_X8_is_10 (by decide) (fun _ => ?_) (fun c_10 => False.elim (by revert c_10; decide))
  refine lv_iconst (v := 0) hx hb d_X8_is_17 (by decide) ?_
  refine W.widen (k := 0) (n := 0) (Nat.le_of_ble_eq_true rfl) (Nat.le_of_ble_eq_true rfl) ?_
  exact k_zret (X := Unit) (w1 := fun _ => [((r 5), .inr (8, (oSto r))), ((r 25), .inl (cy 1, 10100, .inl sFl))]) () hx hb hr rfl d_X8_is_18 hlocks (hP.sub [0, 1] rfl) hK (hD.sub [0, 1] (by decide) rfl) hS rfl
set_option maxHeartbeats 4000000 in
set_option maxRecDepth 100000 in
theorem c_is_3_4 (l : Launch) (D : va_G) (cy : Nat → ClassId) (sz : Nat) (r : Nat → Nat) : Met l y_X8_is (Cond.code y_X8_is b_X8_is 3 (some .boolean) :: GW) ({ frames := 1, cells := 0, slots := 0, locals := 21 }) (va_Pc [.ref (r 5), .int 3, .int 4] (kPre D cy sz [((r 5), .inr (8, (oSto r))), ((r 25), .inl (cy 1, 10100, .inl sFl))])) ((fun A : Nat → Prop => va_Qi (S := Unit) (fun (r : Int32) (_ : Unit) => r = 1) (fun _ => kPost D cy A [((r 5), .inr (8, (oSto r))), ((r 25), .inl (cy 1, 10100, .inl sFl))]) A) (va_A [((r 5), .inr (8, (oSto r))), ((r 25), .inl (cy 1, 10100, .inl sFl))] sz)) 0 0 (va_A [((r 5), .inr (8, (oSto r))), ((r 25), .inl (cy 1, 10100, .inl sFl))] sz) := by
  refine k_ofW (Qc := fun A => va_Qi (S := Unit) (fun (r : Int32) (_ : Unit) => r = 1) (fun _ => kPost D cy A [((r 5), .inr (8, (oSto r))), ((r 25), .inl (cy 1, 10100, .inl sFl))]) A) (by decide) (Nat.le_of_ble_eq_true rfl) ?_
  intro p e s m below meth c A ls hx hb hr hml hown hlocks hin hg hNW hK hP hD hA hS hl
  have hl : lv_has ls 3 [(0, .ref (r 5)), (1, .int 3), (2, .int 4)] := hl
  have hown : s.vm.findClass "LinkedUnits$Store" = some m.cls := hown
  refine lv_aload_n hx hb d_X8_is_0 rfl (lv_at hl 0 rfl) ?_
  refine va_get (D := D) (ci := 8) (v := .ref (r 25)) (C := "LinkedUnits$Store") (T := TX8) (N := 18) hx hb hg iwX8 hown hK hP 0 rfl rfl 2 (by decide) (hg _ m_224) (fun _ h9 => h9) rfl d_X8_is_1 ?_
  refine lv_iload_n hx hb d_X8_is_4 rfl (lv_at hl 1 rfl) ?_
  refine k_calli (wc := [((r 25), .inl (cy 1, 10100, .inl sFl))]) (wr := [((r 5), .inr (8, (oSto r)))]) (va_runSN (As := [.ref (r 25), .int 3]) (rest := []) ⟨hx, hb, hml, hown, hg⟩ (c_at_in l D cy s.heap.size (r 25) 10100 sFl (3 : Int32) (Nat.le_of_ble_eq_true rfl) (k_inK (by decide))) ⟨(va_cnB 2 hg (gw_c m_949) rfl rfl rfl (hNW.1 _ nm_1125) (hg _ m_1) (by decide +kernel) ⟨(Nat.le_of_ble_eq_true rfl), (Nat.le_of_ble_eq_true rfl)⟩), hg _ m_948, trivial⟩ (k_preS hP hD hK hNW [1] (by decide) rfl) rfl rfl hl.1 rfl (lv_room (Nat.le_of_ble_eq_true rfl)) d_X8_is_5 ⟨(Nat.le_of_ble_eq_true rfl), (Nat.le_of_ble_eq_true rfl)⟩) hP hD hS hA [1] [0] rfl rfl (by decide) (by decide) (fun r1 u1 H locs hw hP hD hS => ?_)
  have hP : va_P D vwCl [((r 5), .inr (8, (oSto r))), ((r 25), .inl (cy 1, 10100, .inl sFl))] H := hP
  have hD : va_D A [((r 5), .inr (8, (oSto r))), ((r 25), .inl (cy 1, 10100, .inl sFl))] := hD
  obtain rfl : r1 = (sFl ((3 : Int32)).toNatClampNeg) := hw
  refine k_topi 5 (by decide) ?_
  refine lv_iload_n hx hb d_X8_is_8 rfl (lv_at hl 2 rfl) ?_
  refine lv_iand hx hb d_X8_is_9 ?_
  refine k_topi 4 (by decide) ?_
  refine lv_if_eq (tgt := 17) hx hb d_X8_is_10 (by decide) (fun c_10 => absurd c_10 (by decide)) (fun _ => ?_)
  refine lv_iconst (v := 1) hx hb d_X8_is_13 (by decide) ?_
  refine lv_goto (tgt := 18) hx hb d_X8_is_14 (by decide) ?_
  refine W.widen (k := 0) (n := 0) (Nat.le_of_ble_eq_true rfl) (Nat.le_of_ble_eq_true rfl) ?_
  exact k_zret (X := Unit) (w1 := fun _ => [((r 5), .inr (8, (oSto r))), ((r 25), .inl (cy 1, 10100, .inl sFl))]) () hx hb hr rfl d_X8_is_18 hlocks (hP.sub [0, 1] rfl) hK (hD.sub [0, 1] (by decide) rfl) hS rfl
set_option maxHeartbeats 4000000 in
set_option maxRecDepth 100000 in
theorem c_is_3_2 (l : Launch) (D : va_G) (cy : Nat → ClassId) (sz : Nat) (r : Nat → Nat) : Met l y_X8_is (Cond.code y_X8_is b_X8_is 3 (some .boolean) :: GW) ({ frames := 1, cells := 0, slots := 0, locals := 21 }) (va_Pc [.ref (r 5), .int 3, .int 2] (kPre D cy sz [((r 5), .inr (8, (oSto r))), ((r 25), .inl (cy 1, 10100, .inl sFl))])) ((fun A : Nat → Prop => va_Qi (S := Unit) (fun (r : Int32) (_ : Unit) => r = 0) (fun _ => kPost D cy A [((r 5), .inr (8, (oSto r))), ((r 25), .inl (cy 1, 10100, .inl sFl))]) A) (va_A [((r 5), .inr (8, (oSto r))), ((r 25), .inl (cy 1, 10100, .inl sFl))] sz)) 0 0 (va_A [((r 5), .inr (8, (oSto r))), ((r 25), .inl (cy 1, 10100, .inl sFl))] sz) := by
  refine k_ofW (Qc := fun A => va_Qi (S := Unit) (fun (r : Int32) (_ : Unit) => r = 0) (fun _ => kPost D cy A [((r 5), .inr (8, (oSto r))), ((r 25), .inl (cy 1, 10100, .inl sFl))]) A) (by decide) (Nat.le_of_ble_eq_true rfl) ?_
  intro p e s m below meth c A ls hx hb hr hml hown hlocks hin hg hNW hK hP hD hA hS hl
  have hl : lv_has ls 3 [(0, .ref (r 5)), (1, .int 3), (2, .int 2)] := hl
  have hown : s.vm.findClass "LinkedUnits$Store" = some m.cls := hown
  refine lv_aload_n hx hb d_X8_is_0 rfl (lv_at hl 0 rfl) ?_
  refine va_get (D := D) (ci := 8) (v := .ref (r 25)) (C := "LinkedUnits$Store") (T := TX8) (N := 18) hx hb hg iwX8 hown hK hP 0 rfl rfl 2 (by decide) (hg _ m_224) (fun _ h9 => h9) rfl d_X8_is_1 ?_
  refine lv_iload_n hx hb d_X8_is_4 rfl (lv_at hl 1 rfl) ?_
  refine k_calli (wc := [((r 25), .inl (cy 1, 10100, .inl sFl))]) (wr := [((r 5), .inr (8, (oSto r)))]) (va_runSN (As := [.ref (r 25), .int 3]) (rest := []) ⟨hx, hb, hml, hown, hg⟩ (c_at_in l D cy s.heap.size (r 25) 10100 sFl (3 : Int32) (Nat.le_of_ble_eq_true rfl) (k_inK (by decide))) ⟨(va_cnB 2 hg (gw_c m_949) rfl rfl rfl (hNW.1 _ nm_1125) (hg _ m_1) (by decide +kernel) ⟨(Nat.le_of_ble_eq_true rfl), (Nat.le_of_ble_eq_true rfl)⟩), hg _ m_948, trivial⟩ (k_preS hP hD hK hNW [1] (by decide) rfl) rfl rfl hl.1 rfl (lv_room (Nat.le_of_ble_eq_true rfl)) d_X8_is_5 ⟨(Nat.le_of_ble_eq_true rfl), (Nat.le_of_ble_eq_true rfl)⟩) hP hD hS hA [1] [0] rfl rfl (by decide) (by decide) (fun r1 u1 H locs hw hP hD hS => ?_)
  have hP : va_P D vwCl [((r 5), .inr (8, (oSto r))), ((r 25), .inl (cy 1, 10100, .inl sFl))] H := hP
  have hD : va_D A [((r 5), .inr (8, (oSto r))), ((r 25), .inl (cy 1, 10100, .inl sFl))] := hD
  obtain rfl : r1 = (sFl ((3 : Int32)).toNatClampNeg) := hw
  refine k_topi 5 (by decide) ?_
  refine lv_iload_n hx hb d_X8_is_8 rfl (lv_at hl 2 rfl) ?_
  refine lv_iand hx hb d_X8_is_9 ?_
  refine k_topi 0 (by decide) ?_
  refine lv_if_eq (tgt := 17) hx hb d_X8_is_10 (by decide) (fun _ => ?_) (fun c_10 => False.elim (by revert c_10; decide))
  refine lv_iconst (v := 0) hx hb d_X8_is_17 (by decide) ?_
  refine W.widen (k := 0) (n := 0) (Nat.le_of_ble_eq_true rfl) (Nat.le_of_ble_eq_true rfl) ?_
  exact k_zret (X := Unit) (w1 := fun _ => [((r 5), .inr (8, (oSto r))), ((r 25), .inl (cy 1, 10100, .inl sFl))]) () hx hb hr rfl d_X8_is_18 hlocks (hP.sub [0, 1] rfl) hK (hD.sub [0, 1] (by decide) rfl) hS rfl
set_option maxHeartbeats 4000000 in
set_option maxRecDepth 100000 in
theorem c_isNamed_0 (l : Launch) (D : va_G) (cy : Nat → ClassId) (sz : Nat) (r : Nat → Nat) : Met l y_X8_isNamed (Cond.code y_X8_isNamed b_X8_isNamed 7 (some .boolean) :: GW) ({ frames := 1, cells := 0, slots := 0, locals := 21 }) (va_Pc [.ref (r 5), .int 0, .ref (r 55), .int 0, .int 4] (kPre D cy sz [((r 5), .inr (8, (oSto r))), ((r 29), .inl (cy 1, 10100, .inl sNe)), ((r 30), .inl (cy 0, 65600, .inl sNm)), ((r 55), .inl (cy 0, 4, .inl sMa))])) ((fun A : Nat → Prop => va_Qi (S := Unit) (fun (r : Int32) (_ : Unit) => r = 0) (fun _ => kPost D cy A [((r 5), .inr (8, (oSto r))), ((r 30), .inl (cy 0, 65600, .inl sNm)), ((r 55), .inl (cy 0, 4, .inl sMa)), ((r 29), .inl (cy 1, 10100, .inl sNe))]) A) (va_A [((r 5), .inr (8, (oSto r))), ((r 29), .inl (cy 1, 10100, .inl sNe)), ((r 30), .inl (cy 0, 65600, .inl sNm)), ((r 55), .inl (cy 0, 4, .inl sMa))] sz)) 0 0 (va_A [((r 5), .inr (8, (oSto r))), ((r 29), .inl (cy 1, 10100, .inl sNe)), ((r 30), .inl (cy 0, 65600, .inl sNm)), ((r 55), .inl (cy 0, 4, .inl sMa))] sz) := by
  refine k_ofW (Qc := fun A => va_Qi (S := Unit) (fun (r : Int32) (_ : Unit) => r = 0) (fun _ => kPost D cy A [((r 5), .inr (8, (oSto r))), ((r 30), .inl (cy 0, 65600, .inl sNm)), ((r 55), .inl (cy 0, 4, .inl sMa)), ((r 29), .inl (cy 1, 10100, .inl sNe))]) A) (by decide) (Nat.le_of_ble_eq_true rfl) ?_
  intro p e s m below meth c A ls hx hb hr hml hown hlocks hin hg hNW hK hP hD hA hS hl
  have hl : lv_has ls 7 [(0, .ref (r 5)), (1, .int 0), (2, .ref (r 55)), (3, .int 0), (4, .int 4)] := hl
  have hown : s.vm.findClass "LinkedUnits$Store" = some m.cls := hown
  refine lv_aload_n hx hb d_X8_isNamed_0 rfl (lv_at hl 0 rfl) ?_
  refine va_get (D := D) (ci := 8) (v := .ref (r 29)) (C := "LinkedUnits$Store") (T := TX8) (N := 18) hx hb hg iwX8 hown hK hP 0 rfl rfl 6 (by decide) (hg _ m_237) (fun _ h9 => h9) rfl d_X8_isNamed_1 ?_
  refine lv_iload_n hx hb d_X8_isNamed_4 rfl (lv_at hl 1 rfl) ?_
  refine lv_iconst (v := 1) hx hb d_X8_isNamed_5 (by decide) ?_
  refine lv_isub hx hb d_X8_isNamed_6 ?_
  refine k_topi (-1) (by decide) ?_
  refine k_calli (wc := []) (wr := [((r 5), .inr (8, (oSto r))), ((r 29), .inl (cy 1, 10100, .inl sNe)), ((r 30), .inl (cy 0, 65600, .inl sNm)), ((r 55), .inl (cy 0, 4, .inl sMa))]) (va_runSN (As := [.ref (r 29), .int (-1)]) (rest := []) ⟨hx, hb, hml, hown, hg⟩ (c_at_neg l D cy s.heap.size (r 29) (-1) (by decide)) ⟨(va_cnB 2 hg (gw_c m_949) rfl rfl rfl (hNW.1 _ nm_1125) (hg _ m_1) (by decide +kernel) ⟨(Nat.le_of_ble_eq_true rfl), (Nat.le_of_ble_eq_true rfl)⟩), hg _ m_948, trivial⟩ (k_preS hP hD hK hNW [] (by decide) rfl) rfl rfl hl.1 rfl (lv_room (Nat.le_of_ble_eq_true rfl)) d_X8_isNamed_7 ⟨(Nat.le_of_ble_eq_true rfl), (Nat.le_of_ble_eq_true rfl)⟩) hP hD hS hA [] [0, 1, 2, 3] rfl rfl (by decide) (by decide) (fun r1 u1 H locs hw hP hD hS => ?_)
  have hP : va_P D vwCl [((r 5), .inr (8, (oSto r))), ((r 29), .inl (cy 1, 10100, .inl sNe)), ((r 30), .inl (cy 0, 65600, .inl sNm)), ((r 55), .inl (cy 0, 4, .inl sMa))] H := hP
  have hD : va_D A [((r 5), .inr (8, (oSto r))), ((r 29), .inl (cy 1, 10100, .inl sNe)), ((r 30), .inl (cy 0, 65600, .inl sNm)), ((r 55), .inl (cy 0, 4, .inl sMa))] := hD
  obtain rfl : r1 = 0 := hw
  refine lv_istore (lv' := [(5, .int 0), (0, .ref (r 5)), (1, .int 0), (2, .ref (r 55)), (3, .int 0), (4, .int 4)]) hx hb d_X8_isNamed_10 hl (by decide) rfl (fun ls hl => ?_)
  refine lv_aload_n hx hb d_X8_isNamed_12 rfl (lv_at hl 1 rfl) ?_
  refine va_get (D := D) (ci := 8) (v := .ref (r 29)) (C := "LinkedUnits$Store") (T := TX8) (N := 18) hx hb hg iwX8 hown hK hP 0 rfl rfl 6 (by decide) (hg _ m_237) (fun _ h9 => h9) rfl d_X8_isNamed_13 ?_
  refine lv_iload_n hx hb d_X8_isNamed_16 rfl (lv_at hl 2 rfl) ?_
  refine k_calli (wc := [((r 29), .inl (cy 1, 10100, .inl sNe))]) (wr := [((r 5), .inr (8, (oSto r))), ((r 30), .inl (cy 0, 65600, .inl sNm)), ((r 55), .inl (cy 0, 4, .inl sMa))]) (va_runSN (As := [.ref (r 29), .int 0]) (rest := []) ⟨hx, hb, hml, hown, hg⟩ (c_at_in l D cy H.size (r 29) 10100 sNe (0 : Int32) (Nat.le_of_ble_eq_true rfl) (k_inK (by decide))) ⟨(va_cnB 2 hg (gw_c m_949) rfl rfl rfl (hNW.1 _ nm_1125) (hg _ m_1) (by decide +kernel) ⟨(Nat.le_of_ble_eq_true rfl), (Nat.le_of_ble_eq_true rfl)⟩), hg _ m_948, trivial⟩ (k_preS hP hD hK hNW [1] (by decide) rfl) rfl rfl hl.1 rfl (lv_room (Nat.le_of_ble_eq_true rfl)) d_X8_isNamed_17 ⟨(Nat.le_of_ble_eq_true rfl), (Nat.le_of_ble_eq_true rfl)⟩) hP hD hS hA [1] [0, 2, 3] rfl rfl (by decide) (by decide) (fun r2 u2 H locs hw hP hD hS => ?_)
  have hP : va_P D vwCl [((r 5), .inr (8, (oSto r))), ((r 30), .inl (cy 0, 65600, .inl sNm)), ((r 55), .inl (cy 0, 4, .inl sMa)), ((r 29), .inl (cy 1, 10100, .inl sNe))] H := hP
  have hD : va_D A [((r 5), .inr (8, (oSto r))), ((r 30), .inl (cy 0, 65600, .inl sNm)), ((r 55), .inl (cy 0, 4, .inl sMa)), ((r 29), .inl (cy 1, 10100, .inl sNe))] := hD
  obtain rfl : r2 = (sNe ((0 : Int32)).toNatClampNeg) := hw
  refine k_topi 3 (by decide) ?_
  refine lv_iload hx hb d_X8_isNamed_20 (lv_at hl 0 rfl) ?_
  refine lv_isub hx hb d_X8_isNamed_22 ?_
  refine k_topi 3 (by decide) ?_
  refine lv_iload hx hb d_X8_isNamed_23 (lv_at hl 5 rfl) ?_
  refine lv_icmp_eq (tgt := 30) hx hb d_X8_isNamed_25 (by decide) (fun c_25 => absurd c_25 (by decide)) (fun _ => ?_)
  refine lv_iconst (v := 0) hx hb d_X8_isNamed_28 (by decide) ?_
  refine W.widen (k := 0) (n := 0) (Nat.le_of_ble_eq_true rfl) (Nat.le_of_ble_eq_true rfl) ?_
  exact k_zret (X := Unit) (w1 := fun _ => [((r 5), .inr (8, (oSto r))), ((r 30), .inl (cy 0, 65600, .inl sNm)), ((r 55), .inl (cy 0, 4, .inl sMa)), ((r 29), .inl (cy 1, 10100, .inl sNe))]) () hx hb hr rfl d_X8_isNamed_29 hlocks (hP.sub [0, 1, 2, 3] rfl) hK (hD.sub [0, 1, 2, 3] (by decide) rfl) hS rfl
set_option maxHeartbeats 4000000 in
set_option maxRecDepth 100000 in
theorem c_isNamed_1 (l : Launch) (D : va_G) (cy : Nat → ClassId) (sz : Nat) (r : Nat → Nat) : Met l y_X8_isNamed (Cond.code y_X8_isNamed b_X8_isNamed 7 (some .boolean) :: GW) ({ frames := 1, cells := 0, slots := 0, locals := 21 }) (va_Pc [.ref (r 5), .int 1, .ref (r 55), .int 0, .int 4] (kPre D cy sz [((r 5), .inr (8, (oSto r))), ((r 29), .inl (cy 1, 10100, .inl sNe)), ((r 30), .inl (cy 0, 65600, .inl sNm)), ((r 55), .inl (cy 0, 4, .inl sMa))])) ((fun A : Nat → Prop => va_Qi (S := Unit) (fun (r : Int32) (_ : Unit) => r = 0) (fun _ => kPost D cy A [((r 5), .inr (8, (oSto r))), ((r 30), .inl (cy 0, 65600, .inl sNm)), ((r 55), .inl (cy 0, 4, .inl sMa)), ((r 29), .inl (cy 1, 10100, .inl sNe))]) A) (va_A [((r 5), .inr (8, (oSto r))), ((r 29), .inl (cy 1, 10100, .inl sNe)), ((r 30), .inl (cy 0, 65600, .inl sNm)), ((r 55), .inl (cy 0, 4, .inl sMa))] sz)) 0 0 (va_A [((r 5), .inr (8, (oSto r))), ((r 29), .inl (cy 1, 10100, .inl sNe)), ((r 30), .inl (cy 0, 65600, .inl sNm)), ((r 55), .inl (cy 0, 4, .inl sMa))] sz) := by
  refine k_ofW (Qc := fun A => va_Qi (S := Unit) (fun (r : Int32) (_ : Unit) => r = 0) (fun _ => kPost D cy A [((r 5), .inr (8, (oSto r))), ((r 30), .inl (cy 0, 65600, .inl sNm)), ((r 55), .inl (cy 0, 4, .inl sMa)), ((r 29), .inl (cy 1, 10100, .inl sNe))]) A) (by decide) (Nat.le_of_ble_eq_true rfl) ?_
  intro p e s m below meth c A ls hx hb hr hml hown hlocks hin hg hNW hK hP hD hA hS hl
  have hl : lv_has ls 7 [(0, .ref (r 5)), (1, .int 1), (2, .ref (r 55)), (3, .int 0), (4, .int 4)] := hl
  have hown : s.vm.findClass "LinkedUnits$Store" = some m.cls := hown
  refine lv_aload_n hx hb d_X8_isNamed_0 rfl (lv_at hl 0 rfl) ?_
  refine va_get (D := D) (ci := 8) (v := .ref (r 29)) (C := "LinkedUnits$Store") (T := TX8) (N := 18) hx hb hg iwX8 hown hK hP 0 rfl rfl 6 (by decide) (hg _ m_237) (fun _ h9 => h9) rfl d_X8_isNamed_1 ?_
  refine lv_iload_n hx hb d_X8_isNamed_4 rfl (lv_at hl 1 rfl) ?_
  refine lv_iconst (v := 1) hx hb d_X8_isNamed_5 (by decide) ?_
  refine lv_isub hx hb d_X8_isNamed_6 ?_
  refine k_topi 0 (by decide) ?_
  refine k_calli (wc := [((r 29), .inl (cy 1, 10100, .inl sNe))]) (wr := [((r 5), .inr (8, (oSto r))), ((r 30), .inl (cy 0, 65600, .inl sNm)), ((r 55), .inl (cy 0, 4, .inl sMa))]) (va_runSN (As := [.ref (r 29), .int 0]) (rest := []) ⟨hx, hb, hml, hown, hg⟩ (c_at_in l D cy s.heap.size (r 29) 10100 sNe (0 : Int32) (Nat.le_of_ble_eq_true rfl) (k_inK (by decide))) ⟨(va_cnB 2 hg (gw_c m_949) rfl rfl rfl (hNW.1 _ nm_1125) (hg _ m_1) (by decide +kernel) ⟨(Nat.le_of_ble_eq_true rfl), (Nat.le_of_ble_eq_true rfl)⟩), hg _ m_948, trivial⟩ (k_preS hP hD hK hNW [1] (by decide) rfl) rfl rfl hl.1 rfl (lv_room (Nat.le_of_ble_eq_true rfl)) d_X8_isNamed_7 ⟨(Nat.le_of_ble_eq_true rfl), (Nat.le_of_ble_eq_true rfl)⟩) hP hD hS hA [1] [0, 2, 3] rfl rfl (by decide) (by decide) (fun r1 u1 H locs hw hP hD hS => ?_)
  have hP : va_P D vwCl [((r 5), .inr (8, (oSto r))), ((r 30), .inl (cy 0, 65600, .inl sNm)), ((r 55), .inl (cy 0, 4, .inl sMa)), ((r 29), .inl (cy 1, 10100, .inl sNe))] H := hP
  have hD : va_D A [((r 5), .inr (8, (oSto r))), ((r 30), .inl (cy 0, 65600, .inl sNm)), ((r 55), .inl (cy 0, 4, .inl sMa)), ((r 29), .inl (cy 1, 10100, .inl sNe))] := hD
  obtain rfl : r1 = (sNe ((0 : Int32)).toNatClampNeg) := hw
  refine k_topi 3 (by decide) ?_
  refine lv_istore (lv' := [(5, .int 3), (0, .ref (r 5)), (1, .int 1), (2, .ref (r 55)), (3, .int 0), (4, .int 4)]) hx hb d_X8_isNamed_10 hl (by decide) rfl (fun ls hl => ?_)
  refine lv_aload_n hx hb d_X8_isNamed_12 rfl (lv_at hl 1 rfl) ?_
  refine va_get (D := D) (ci := 8) (v := .ref (r 29)) (C := "LinkedUnits$Store") (T := TX8) (N := 18) hx hb hg iwX8 hown hK hP 0 rfl rfl 6 (by decide) (hg _ m_237) (fun _ h9 => h9) rfl d_X8_isNamed_13 ?_
  refine lv_iload_n hx hb d_X8_isNamed_16 rfl (lv_at hl 2 rfl) ?_
  refine k_calli (wc := [((r 29), .inl (cy 1, 10100, .inl sNe))]) (wr := [((r 5), .inr (8, (oSto r))), ((r 30), .inl (cy 0, 65600, .inl sNm)), ((r 55), .inl (cy 0, 4, .inl sMa))]) (va_runSN (As := [.ref (r 29), .int 1]) (rest := []) ⟨hx, hb, hml, hown, hg⟩ (c_at_in l D cy H.size (r 29) 10100 sNe (1 : Int32) (Nat.le_of_ble_eq_true rfl) (k_inK (by decide))) ⟨(va_cnB 2 hg (gw_c m_949) rfl rfl rfl (hNW.1 _ nm_1125) (hg _ m_1) (by decide +kernel) ⟨(Nat.le_of_ble_eq_true rfl), (Nat.le_of_ble_eq_true rfl)⟩), hg _ m_948, trivial⟩ (k_preS hP hD hK hNW [3] (by decide) rfl) rfl rfl hl.1 rfl (lv_room (Nat.le_of_ble_eq_true rfl)) d_X8_isNamed_17 ⟨(Nat.le_of_ble_eq_true rfl), (Nat.le_of_ble_eq_true rfl)⟩) hP hD hS hA [3] [0, 1, 2] rfl rfl (by decide) (by decide) (fun r2 u2 H locs hw hP hD hS => ?_)
  have hP : va_P D vwCl [((r 5), .inr (8, (oSto r))), ((r 30), .inl (cy 0, 65600, .inl sNm)), ((r 55), .inl (cy 0, 4, .inl sMa)), ((r 29), .inl (cy 1, 10100, .inl sNe))] H := hP
  have hD : va_D A [((r 5), .inr (8, (oSto r))), ((r 30), .inl (cy 0, 65600, .inl sNm)), ((r 55), .inl (cy 0, 4, .inl sMa)), ((r 29), .inl (cy 1, 10100, .inl sNe))] := hD
  obtain rfl : r2 = (sNe ((1 : Int32)).toNatClampNeg) := hw
  refine k_topi 6 (by decide) ?_
  refine lv_iload hx hb d_X8_isNamed_20 (lv_at hl 0 rfl) ?_
  refine lv_isub hx hb d_X8_isNamed_22 ?_
  refine k_topi 3 (by decide) ?_
  refine lv_iload hx hb d_X8_isNamed_23 (lv_at hl 5 rfl) ?_
  refine lv_icmp_eq (tgt := 30) hx hb d_X8_isNamed_25 (by decide) (fun c_25 => absurd c_25 (by decide)) (fun _ => ?_)
  refine lv_iconst (v := 0) hx hb d_X8_isNamed_28 (by decide) ?_
  refine W.widen (k := 0) (n := 0) (Nat.le_of_ble_eq_true rfl) (Nat.le_of_ble_eq_true rfl) ?_
  exact k_zret (X := Unit) (w1 := fun _ => [((r 5), .inr (8, (oSto r))), ((r 30), .inl (cy 0, 65600, .inl sNm)), ((r 55), .inl (cy 0, 4, .inl sMa)), ((r 29), .inl (cy 1, 10100, .inl sNe))]) () hx hb hr rfl d_X8_isNamed_29 hlocks (hP.sub [0, 1, 2, 3] rfl) hK (hD.sub [0, 1, 2, 3] (by decide) rfl) hS rfl
set_option maxHeartbeats 4000000 in
set_option maxRecDepth 100000 in
theorem c_isNamed_2 (l : Launch) (D : va_G) (cy : Nat → ClassId) (sz : Nat) (r : Nat → Nat) : Met l y_X8_isNamed (Cond.code y_X8_isNamed b_X8_isNamed 7 (some .boolean) :: GW) ({ frames := 1, cells := 0, slots := 0, locals := 21 }) (va_Pc [.ref (r 5), .int 2, .ref (r 55), .int 0, .int 4] (kPre D cy sz [((r 5), .inr (8, (oSto r))), ((r 29), .inl (cy 1, 10100, .inl sNe)), ((r 30), .inl (cy 0, 65600, .inl sNm)), ((r 55), .inl (cy 0, 4, .inl sMa))])) ((fun A : Nat → Prop => va_Qi (S := Unit) (fun (r : Int32) (_ : Unit) => r = 0) (fun _ => kPost D cy A [((r 5), .inr (8, (oSto r))), ((r 30), .inl (cy 0, 65600, .inl sNm)), ((r 55), .inl (cy 0, 4, .inl sMa)), ((r 29), .inl (cy 1, 10100, .inl sNe))]) A) (va_A [((r 5), .inr (8, (oSto r))), ((r 29), .inl (cy 1, 10100, .inl sNe)), ((r 30), .inl (cy 0, 65600, .inl sNm)), ((r 55), .inl (cy 0, 4, .inl sMa))] sz)) 0 0 (va_A [((r 5), .inr (8, (oSto r))), ((r 29), .inl (cy 1, 10100, .inl sNe)), ((r 30), .inl (cy 0, 65600, .inl sNm)), ((r 55), .inl (cy 0, 4, .inl sMa))] sz) := by
  refine k_ofW (Qc := fun A => va_Qi (S := Unit) (fun (r : Int32) (_ : Unit) => r = 0) (fun _ => kPost D cy A [((r 5), .inr (8, (oSto r))), ((r 30), .inl (cy 0, 65600, .inl sNm)), ((r 55), .inl (cy 0, 4, .inl sMa)), ((r 29), .inl (cy 1, 10100, .inl sNe))]) A) (by decide) (Nat.le_of_ble_eq_true rfl) ?_
  intro p e s m below meth c A ls hx hb hr hml hown hlocks hin hg hNW hK hP hD hA hS hl
  have hl : lv_has ls 7 [(0, .ref (r 5)), (1, .int 2), (2, .ref (r 55)), (3, .int 0), (4, .int 4)] := hl
  have hown : s.vm.findClass "LinkedUnits$Store" = some m.cls := hown
  refine lv_aload_n hx hb d_X8_isNamed_0 rfl (lv_at hl 0 rfl) ?_
  refine va_get (D := D) (ci := 8) (v := .ref (r 29)) (C := "LinkedUnits$Store") (T := TX8) (N := 18) hx hb hg iwX8 hown hK hP 0 rfl rfl 6 (by decide) (hg _ m_237) (fun _ h9 => h9) rfl d_X8_isNamed_1 ?_
  refine lv_iload_n hx hb d_X8_isNamed_4 rfl (lv_at hl 1 rfl) ?_
  refine lv_iconst (v := 1) hx hb d_X8_isNamed_5 (by decide) ?_
  refine lv_isub hx hb d_X8_isNamed_6 ?_
  refine k_topi 1 (by decide) ?_
  refine k_calli (wc := [((r 29), .inl (cy 1, 10100, .inl sNe))]) (wr := [((r 5), .inr (8, (oSto r))), ((r 30), .inl (cy 0, 65600, .inl sNm)), ((r 55), .inl (cy 0, 4, .inl sMa))]) (va_runSN (As := [.ref (r 29), .int 1]) (rest := []) ⟨hx, hb, hml, hown, hg⟩ (c_at_in l D cy s.heap.size (r 29) 10100 sNe (1 : Int32) (Nat.le_of_ble_eq_true rfl) (k_inK (by decide))) ⟨(va_cnB 2 hg (gw_c m_949) rfl rfl rfl (hNW.1 _ nm_1125) (hg _ m_1) (by decide +kernel) ⟨(Nat.le_of_ble_eq_true rfl), (Nat.le_of_ble_eq_true rfl)⟩), hg _ m_948, trivial⟩ (k_preS hP hD hK hNW [1] (by decide) rfl) rfl rfl hl.1 rfl (lv_room (Nat.le_of_ble_eq_true rfl)) d_X8_isNamed_7 ⟨(Nat.le_of_ble_eq_true rfl), (Nat.le_of_ble_eq_true rfl)⟩) hP hD hS hA [1] [0, 2, 3] rfl rfl (by decide) (by decide) (fun r1 u1 H locs hw hP hD hS => ?_)
  have hP : va_P D vwCl [((r 5), .inr (8, (oSto r))), ((r 30), .inl (cy 0, 65600, .inl sNm)), ((r 55), .inl (cy 0, 4, .inl sMa)), ((r 29), .inl (cy 1, 10100, .inl sNe))] H := hP
  have hD : va_D A [((r 5), .inr (8, (oSto r))), ((r 30), .inl (cy 0, 65600, .inl sNm)), ((r 55), .inl (cy 0, 4, .inl sMa)), ((r 29), .inl (cy 1, 10100, .inl sNe))] := hD
  obtain rfl : r1 = (sNe ((1 : Int32)).toNatClampNeg) := hw
  refine k_topi 6 (by decide) ?_
  refine lv_istore (lv' := [(5, .int 6), (0, .ref (r 5)), (1, .int 2), (2, .ref (r 55)), (3, .int 0), (4, .int 4)]) hx hb d_X8_isNamed_10 hl (by decide) rfl (fun ls hl => ?_)
  refine lv_aload_n hx hb d_X8_isNamed_12 rfl (lv_at hl 1 rfl) ?_
  refine va_get (D := D) (ci := 8) (v := .ref (r 29)) (C := "LinkedUnits$Store") (T := TX8) (N := 18) hx hb hg iwX8 hown hK hP 0 rfl rfl 6 (by decide) (hg _ m_237) (fun _ h9 => h9) rfl d_X8_isNamed_13 ?_
  refine lv_iload_n hx hb d_X8_isNamed_16 rfl (lv_at hl 2 rfl) ?_
  refine k_calli (wc := [((r 29), .inl (cy 1, 10100, .inl sNe))]) (wr := [((r 5), .inr (8, (oSto r))), ((r 30), .inl (cy 0, 65600, .inl sNm)), ((r 55), .inl (cy 0, 4, .inl sMa))]) (va_runSN (As := [.ref (r 29), .int 2]) (rest := []) ⟨hx, hb, hml, hown, hg⟩ (c_at_in l D cy H.size (r 29) 10100 sNe (2 : Int32) (Nat.le_of_ble_eq_true rfl) (k_inK (by decide))) ⟨(va_cnB 2 hg (gw_c m_949) rfl rfl rfl (hNW.1 _ nm_1125) (hg _ m_1) (by decide +kernel) ⟨(Nat.le_of_ble_eq_true rfl), (Nat.le_of_ble_eq_true rfl)⟩), hg _ m_948, trivial⟩ (k_preS hP hD hK hNW [3] (by decide) rfl) rfl rfl hl.1 rfl (lv_room (Nat.le_of_ble_eq_true rfl)) d_X8_isNamed_17 ⟨(Nat.le_of_ble_eq_true rfl), (Nat.le_of_ble_eq_true rfl)⟩) hP hD hS hA [3] [0, 1, 2] rfl rfl (by decide) (by decide) (fun r2 u2 H locs hw hP hD hS => ?_)
  have hP : va_P D vwCl [((r 5), .inr (8, (oSto r))), ((r 30), .inl (cy 0, 65600, .inl sNm)), ((r 55), .inl (cy 0, 4, .inl sMa)), ((r 29), .inl (cy 1, 10100, .inl sNe))] H := hP
  have hD : va_D A [((r 5), .inr (8, (oSto r))), ((r 30), .inl (cy 0, 65600, .inl sNm)), ((r 55), .inl (cy 0, 4, .inl sMa)), ((r 29), .inl (cy 1, 10100, .inl sNe))] := hD
  obtain rfl : r2 = (sNe ((2 : Int32)).toNatClampNeg) := hw
  refine k_topi 11 (by decide) ?_
  refine lv_iload hx hb d_X8_isNamed_20 (lv_at hl 0 rfl) ?_
  refine lv_isub hx hb d_X8_isNamed_22 ?_
  refine k_topi 5 (by decide) ?_
  refine lv_iload hx hb d_X8_isNamed_23 (lv_at hl 5 rfl) ?_
  refine lv_icmp_eq (tgt := 30) hx hb d_X8_isNamed_25 (by decide) (fun c_25 => absurd c_25 (by decide)) (fun _ => ?_)
  refine lv_iconst (v := 0) hx hb d_X8_isNamed_28 (by decide) ?_
  refine W.widen (k := 0) (n := 0) (Nat.le_of_ble_eq_true rfl) (Nat.le_of_ble_eq_true rfl) ?_
  exact k_zret (X := Unit) (w1 := fun _ => [((r 5), .inr (8, (oSto r))), ((r 30), .inl (cy 0, 65600, .inl sNm)), ((r 55), .inl (cy 0, 4, .inl sMa)), ((r 29), .inl (cy 1, 10100, .inl sNe))]) () hx hb hr rfl d_X8_isNamed_29 hlocks (hP.sub [0, 1, 2, 3] rfl) hK (hD.sub [0, 1, 2, 3] (by decide) rfl) hS rfl
set_option maxHeartbeats 4000000 in
set_option maxRecDepth 100000 in
theorem c_isNamed_3 (l : Launch) (D : va_G) (cy : Nat → ClassId) (sz : Nat) (r : Nat → Nat) : Met l y_X8_isNamed (Cond.code y_X8_isNamed b_X8_isNamed 7 (some .boolean) :: GW) ({ frames := 1, cells := 0, slots := 0, locals := 21 }) (va_Pc [.ref (r 5), .int 3, .ref (r 55), .int 0, .int 4] (kPre D cy sz [((r 5), .inr (8, (oSto r))), ((r 29), .inl (cy 1, 10100, .inl sNe)), ((r 30), .inl (cy 0, 65600, .inl sNm)), ((r 55), .inl (cy 0, 4, .inl sMa))])) ((fun A : Nat → Prop => va_Qi (S := Unit) (fun (r : Int32) (_ : Unit) => r = 0) (fun _ => kPost D cy A [((r 5), .inr (8, (oSto r))), ((r 30), .inl (cy 0, 65600, .inl sNm)), ((r 55), .inl (cy 0, 4, .inl sMa)), ((r 29), .inl (cy 1, 10100, .inl sNe))]) A) (va_A [((r 5), .inr (8, (oSto r))), ((r 29), .inl (cy 1, 10100, .inl sNe)), ((r 30), .inl (cy 0, 65600, .inl sNm)), ((r 55), .inl (cy 0, 4, .inl sMa))] sz)) 0 0 (va_A [((r 5), .inr (8, (oSto r))), ((r 29), .inl (cy 1, 10100, .inl sNe)), ((r 30), .inl (cy 0, 65600, .inl sNm)), ((r 55), .inl (cy 0, 4, .inl sMa))] sz) := by
  refine k_ofW (Qc := fun A => va_Qi (S := Unit) (fun (r : Int32) (_ : Unit) => r = 0) (fun _ => kPost D cy A [((r 5), .inr (8, (oSto r))), ((r 30), .inl (cy 0, 65600, .inl sNm)), ((r 55), .inl (cy 0, 4, .inl sMa)), ((r 29), .inl (cy 1, 10100, .inl sNe))]) A) (by decide) (Nat.le_of_ble_eq_true rfl) ?_
  intro p e s m below meth c A ls hx hb hr hml hown hlocks hin hg hNW hK hP hD hA hS hl
  have hl : lv_has ls 7 [(0, .ref (r 5)), (1, .int 3), (2, .ref (r 55)), (3, .int 0), (4, .int 4)] := hl
  have hown : s.vm.findClass "LinkedUnits$Store" = some m.cls := hown
  refine lv_aload_n hx hb d_X8_isNamed_0 rfl (lv_at hl 0 rfl) ?_
  refine va_get (D := D) (ci := 8) (v := .ref (r 29)) (C := "LinkedUnits$Store") (T := TX8) (N := 18) hx hb hg iwX8 hown hK hP 0 rfl rfl 6 (by decide) (hg _ m_237) (fun _ h9 => h9) rfl d_X8_isNamed_1 ?_
  refine lv_iload_n hx hb d_X8_isNamed_4 rfl (lv_at hl 1 rfl) ?_
  refine lv_iconst (v := 1) hx hb d_X8_isNamed_5 (by decide) ?_
  refine lv_isub hx hb d_X8_isNamed_6 ?_
  refine k_topi 2 (by decide) ?_
  refine k_calli (wc := [((r 29), .inl (cy 1, 10100, .inl sNe))]) (wr := [((r 5), .inr (8, (oSto r))), ((r 30), .inl (cy 0, 65600, .inl sNm)), ((r 55), .inl (cy 0, 4, .inl sMa))]) (va_runSN (As := [.ref (r 29), .int 2]) (rest := []) ⟨hx, hb, hml, hown, hg⟩ (c_at_in l D cy s.heap.size (r 29) 10100 sNe (2 : Int32) (Nat.le_of_ble_eq_true rfl) (k_inK (by decide))) ⟨(va_cnB 2 hg (gw_c m_949) rfl rfl rfl (hNW.1 _ nm_1125) (hg _ m_1) (by decide +kernel) ⟨(Nat.le_of_ble_eq_true rfl), (Nat.le_of_ble_eq_true rfl)⟩), hg _ m_948, trivial⟩ (k_preS hP hD hK hNW [1] (by decide) rfl) rfl rfl hl.1 rfl (lv_room (Nat.le_of_ble_eq_true rfl)) d_X8_isNamed_7 ⟨(Nat.le_of_ble_eq_true rfl), (Nat.le_of_ble_eq_true rfl)⟩) hP hD hS hA [1] [0, 2, 3] rfl rfl (by decide) (by decide) (fun r1 u1 H locs hw hP hD hS => ?_)
  have hP : va_P D vwCl [((r 5), .inr (8, (oSto r))), ((r 30), .inl (cy 0, 65600, .inl sNm)), ((r 55), .inl (cy 0, 4, .inl sMa)), ((r 29), .inl (cy 1, 10100, .inl sNe))] H := hP
  have hD : va_D A [((r 5), .inr (8, (oSto r))), ((r 30), .inl (cy 0, 65600, .inl sNm)), ((r 55), .inl (cy 0, 4, .inl sMa)), ((r 29), .inl (cy 1, 10100, .inl sNe))] := hD
  obtain rfl : r1 = (sNe ((2 : Int32)).toNatClampNeg) := hw
  refine k_topi 11 (by decide) ?_
  refine lv_istore (lv' := [(5, .int 11), (0, .ref (r 5)), (1, .int 3), (2, .ref (r 55)), (3, .int 0), (4, .int 4)]) hx hb d_X8_isNamed_10 hl (by decide) rfl (fun ls hl => ?_)
  refine lv_aload_n hx hb d_X8_isNamed_12 rfl (lv_at hl 1 rfl) ?_
  refine va_get (D := D) (ci := 8) (v := .ref (r 29)) (C := "LinkedUnits$Store") (T := TX8) (N := 18) hx hb hg iwX8 hown hK hP 0 rfl rfl 6 (by decide) (hg _ m_237) (fun _ h9 => h9) rfl d_X8_isNamed_13 ?_
  refine lv_iload_n hx hb d_X8_isNamed_16 rfl (lv_at hl 2 rfl) ?_
  refine k_calli (wc := [((r 29), .inl (cy 1, 10100, .inl sNe))]) (wr := [((r 5), .inr (8, (oSto r))), ((r 30), .inl (cy 0, 65600, .inl sNm)), ((r 55), .inl (cy 0, 4, .inl sMa))]) (va_runSN (As := [.ref (r 29), .int 3]) (rest := []) ⟨hx, hb, hml, hown, hg⟩ (c_at_in l D cy H.size (r 29) 10100 sNe (3 : Int32) (Nat.le_of_ble_eq_true rfl) (k_inK (by decide))) ⟨(va_cnB 2 hg (gw_c m_949) rfl rfl rfl (hNW.1 _ nm_1125) (hg _ m_1) (by decide +kernel) ⟨(Nat.le_of_ble_eq_true rfl), (Nat.le_of_ble_eq_true rfl)⟩), hg _ m_948, trivial⟩ (k_preS hP hD hK hNW [3] (by decide) rfl) rfl rfl hl.1 rfl (lv_room (Nat.le_of_ble_eq_true rfl)) d_X8_isNamed_17 ⟨(Nat.le_of_ble_eq_true rfl), (Nat.le_of_ble_eq_true rfl)⟩) hP hD hS hA [3] [0, 1, 2] rfl rfl (by decide) (by decide) (fun r2 u2 H locs hw hP hD hS => ?_)
  have hP : va_P D vwCl [((r 5), .inr (8, (oSto r))), ((r 30), .inl (cy 0, 65600, .inl sNm)), ((r 55), .inl (cy 0, 4, .inl sMa)), ((r 29), .inl (cy 1, 10100, .inl sNe))] H := hP
  have hD : va_D A [((r 5), .inr (8, (oSto r))), ((r 30), .inl (cy 0, 65600, .inl sNm)), ((r 55), .inl (cy 0, 4, .inl sMa)), ((r 29), .inl (cy 1, 10100, .inl sNe))] := hD
  obtain rfl : r2 = (sNe ((3 : Int32)).toNatClampNeg) := hw
  refine k_topi 15 (by decide) ?_
  refine lv_iload hx hb d_X8_isNamed_20 (lv_at hl 0 rfl) ?_
  refine lv_isub hx hb d_X8_isNamed_22 ?_
  refine k_topi 4 (by decide) ?_
  refine lv_iload hx hb d_X8_isNamed_23 (lv_at hl 5 rfl) ?_
  refine lv_icmp_eq (tgt := 30) hx hb d_X8_isNamed_25 (by decide) (fun _ => ?_) (fun c_25 => False.elim (by revert c_25; decide))
  refine lv_iconst (v := 0) hx hb d_X8_isNamed_30 (by decide) ?_
  refine lv_istore (lv' := [(6, .int 0), (5, .int 11), (0, .ref (r 5)), (1, .int 3), (2, .ref (r 55)), (3, .int 0), (4, .int 4)]) hx hb d_X8_isNamed_31 hl (by decide) rfl (fun ls hl => ?_)
  refine lv_iload hx hb d_X8_isNamed_33 (lv_at hl 0 rfl) ?_
  refine lv_iload hx hb d_X8_isNamed_35 (lv_at hl 6 rfl) ?_
  refine lv_icmp_ge (tgt := 93) hx hb d_X8_isNamed_37 (by decide) (fun c_37 => absurd c_37 (by decide)) (fun _ => ?_)
  refine lv_iload hx hb d_X8_isNamed_40 (lv_at hl 1 rfl) ?_
  refine lv_iload hx hb d_X8_isNamed_42 (lv_at hl 0 rfl) ?_
  refine lv_iadd hx hb d_X8_isNamed_44 ?_
  refine k_topi 11 (by decide) ?_
  refine lv_aload_n hx hb d_X8_isNamed_45 rfl (lv_at hl 2 rfl) ?_
  refine va_get (D := D) (ci := 8) (v := .ref (r 30)) (C := "LinkedUnits$Store") (T := TX8) (N := 18) hx hb hg iwX8 hown hK hP 0 rfl rfl 8 (by decide) (hg _ m_240) (fun _ h9 => h9) rfl d_X8_isNamed_46 ?_
  refine va_alen hx hb hK hP 1 0 rfl rfl (v := 65600) (by show Int32.ofNat 65600 = 65600; decide) d_X8_isNamed_49 ?_
  refine lv_icmp_ge (tgt := 85) hx hb d_X8_isNamed_50 (by decide) (fun c_50 => absurd c_50 (by decide)) (fun _ => ?_)
  refine lv_iload_n hx hb d_X8_isNamed_53 rfl (lv_at hl 5 rfl) ?_
  refine lv_if_lt (tgt := 85) hx hb d_X8_isNamed_54 (by decide) (fun c_54 => absurd c_54 (by decide)) (fun _ => ?_)
  refine lv_iload_n hx hb d_X8_isNamed_57 rfl (lv_at hl 5 rfl) ?_
  refine lv_iload hx hb d_X8_isNamed_58 (lv_at hl 0 rfl) ?_
  refine lv_iadd hx hb d_X8_isNamed_60 ?_
  refine k_topi 0 (by decide) ?_
  refine lv_aload_n hx hb d_X8_isNamed_61 rfl (lv_at hl 4 rfl) ?_
  refine va_alen hx hb hK hP 2 0 rfl rfl (v := 4) (by show Int32.ofNat 4 = 4; decide) d_X8_isNamed_62 ?_
  refine lv_icmp_ge (tgt := 85) hx hb d_X8_isNamed_63 (by decide) (fun c_63 => absurd c_63 (by decide)) (fun _ => ?_)
  refine lv_aload_n hx hb d_X8_isNamed_66 rfl (lv_at hl 2 rfl) ?_
  refine va_get (D := D) (ci := 8) (v := .ref (r 30)) (C := "LinkedUnits$Store") (T := TX8) (N := 18) hx hb hg iwX8 hown hK hP 0 rfl rfl 8 (by decide) (hg _ m_240) (fun _ h9 => h9) rfl d_X8_isNamed_67 ?_
  refine lv_iload hx hb d_X8_isNamed_70 (lv_at hl 1 rfl) ?_
  refine lv_iload hx hb d_X8_isNamed_72 (lv_at hl 0 rfl) ?_
  refine lv_iadd hx hb d_X8_isNamed_74 ?_
  refine k_topi 11 (by decide) ?_
  refine va_bald hx hb hK hP 1 0 rfl rfl (k_inK (by decide)) d_X8_isNamed_75 ?_
  refine k_topi 115 (by decide) ?_
  refine lv_aload_n hx hb d_X8_isNamed_76 rfl (lv_at hl 4 rfl) ?_
  refine lv_iload_n hx hb d_X8_isNamed_77 rfl (lv_at hl 5 rfl) ?_
  refine lv_iload hx hb d_X8_isNamed_78 (lv_at hl 0 rfl) ?_
  refine lv_iadd hx hb d_X8_isNamed_80 ?_
  refine k_topi 0 (by decide) ?_
  refine va_bald hx hb hK hP 2 0 rfl rfl (k_inK (by decide)) d_X8_isNamed_81 ?_
  refine k_topi 109 (by decide) ?_
  refine lv_icmp_eq (tgt := 87) hx hb d_X8_isNamed_82 (by decide) (fun c_82 => absurd c_82 (by decide)) (fun _ => ?_)
  refine lv_iconst (v := 0) hx hb d_X8_isNamed_85 (by decide) ?_
  refine W.widen (k := 0) (n := 0) (Nat.le_of_ble_eq_true rfl) (Nat.le_of_ble_eq_true rfl) ?_
  exact k_zret (X := Unit) (w1 := fun _ => [((r 5), .inr (8, (oSto r))), ((r 30), .inl (cy 0, 65600, .inl sNm)), ((r 55), .inl (cy 0, 4, .inl sMa)), ((r 29), .inl (cy 1, 10100, .inl sNe))]) () hx hb hr rfl d_X8_isNamed_86 hlocks (hP.sub [0, 1, 2, 3] rfl) hK (hD.sub [0, 1, 2, 3] (by decide) rfl) hS rfl
set_option maxHeartbeats 4000000 in
set_option maxRecDepth 100000 in
theorem c_objectAt (l : Launch) (D : va_G) (cy : Nat → ClassId) (sz : Nat) (r : Nat → Nat) : Met l y_X8_objectAt (Cond.code y_X8_objectAt b_X8_objectAt 3 (some .int) :: GW) ({ frames := 0, cells := 0, slots := 0, locals := 0 }) (va_Pc [.ref (r 5), .int (-1)] (kPre D cy sz [((r 5), .inr (8, (oSto r)))])) ((fun A : Nat → Prop => va_Qi (S := Unit) (fun (r : Int32) (_ : Unit) => r = 0) (fun _ => kPost D cy A [((r 5), .inr (8, (oSto r)))]) A) (va_A [((r 5), .inr (8, (oSto r)))] sz)) 0 0 (va_A [((r 5), .inr (8, (oSto r)))] sz) := by
  refine k_ofW (Qc := fun A => va_Qi (S := Unit) (fun (r : Int32) (_ : Unit) => r = 0) (fun _ => kPost D cy A [((r 5), .inr (8, (oSto r)))]) A) (by decide) (Nat.le_of_ble_eq_true rfl) ?_
  intro p e s m below meth c A ls hx hb hr hml hown hlocks hin hg hNW hK hP hD hA hS hl
  have hl : lv_has ls 3 [(0, .ref (r 5)), (1, .int (-1))] := hl
  have hown : s.vm.findClass "LinkedUnits$Store" = some m.cls := hown
  refine lv_iconst (v := 1) hx hb d_X8_objectAt_0 (by decide) ?_
  refine lv_istore_n (lv' := [(2, .int 1), (0, .ref (r 5)), (1, .int (-1))]) hx hb d_X8_objectAt_1 rfl hl (by decide) rfl (fun ls hl => ?_)
  refine lv_iload_n hx hb d_X8_objectAt_2 rfl (lv_at hl 0 rfl) ?_
  refine lv_aload_n hx hb d_X8_objectAt_3 rfl (lv_at hl 1 rfl) ?_
  refine va_get (D := D) (ci := 8) (v := .int 0) (C := "LinkedUnits$Store") (T := TX8) (N := 18) hx hb hg iwX8 hown hK hP 0 rfl rfl 13 (by decide) (hg _ m_249) (fun _ h9 => h9) rfl d_X8_objectAt_4 ?_
  refine lv_icmp_gt (tgt := 34) hx hb d_X8_objectAt_7 (by decide) (fun _ => ?_) (fun c_7 => False.elim (by revert c_7; decide))
  refine lv_iconst (v := 0) hx hb d_X8_objectAt_34 (by decide) ?_
  refine W.widen (k := 0) (n := 0) (Nat.le_of_ble_eq_true rfl) (Nat.le_of_ble_eq_true rfl) ?_
  exact k_iret (X := Unit) (w1 := fun _ => [((r 5), .inr (8, (oSto r)))]) () hx hb hr d_X8_objectAt_35 hlocks (hP.sub [0] rfl) hK (hD.sub [0] (by decide) rfl) hS rfl
