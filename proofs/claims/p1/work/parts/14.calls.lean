set_option maxHeartbeats 4000000 in
set_option maxRecDepth 100000 in
theorem c_give (l : Launch) (D : va_G) (cy : Nat → ClassId) (sz : Nat) (r : Nat → Nat) (b : Int32) : Met l y_X9_give (Cond.code y_X9_give b_X9_give 2 (some .int) :: GW) ({ frames := 0, cells := 0, slots := 0, locals := 0 }) (va_Pc [.ref (r 11), .int b] (kPre D cy sz [((r 11), .inr (9, (oTap r))), ((r 60), .inl (cy 0, 4096, .inl (fun _ => 0)))])) ((fun A : Nat → Prop => va_Qi (S := Unit) (fun (r : Int32) (_ : Unit) => r = 1) (fun _ => kPost D cy A []) A) (va_A [((r 11), .inr (9, (oTap r))), ((r 60), .inl (cy 0, 4096, .inl (fun _ => 0)))] sz)) 0 0 (va_A [((r 11), .inr (9, (oTap r))), ((r 60), .inl (cy 0, 4096, .inl (fun _ => 0)))] sz) := by
  refine k_ofW (Qc := fun A => va_Qi (S := Unit) (fun (r : Int32) (_ : Unit) => r = 1) (fun _ => kPost D cy A []) A) (by decide) (Nat.le_of_ble_eq_true rfl) ?_
  intro p e s m below meth c A ls hx hb hr hml hown hlocks hin hg hNW hK hP hD hA hS hl
  have hl : lv_has ls 2 [(0, .ref (r 11)), (1, .int b)] := hl
  have hown : s.vm.findClass "LinkedUnits$Tape" = some m.cls := hown
  refine lv_aload_n hx hb d_X9_give_0 rfl (lv_at hl 0 rfl) ?_
  refine va_get (D := D) (ci := 9) (v := .int 0) (C := "LinkedUnits$Tape") (T := TX9) (N := 5) hx hb hg iwX9 hown hK hP 0 rfl rfl 0 (by decide) (hg _ m_646) (fun _ h9 => h9) rfl d_X9_give_1 ?_
  refine lv_sipush (v := 4096) hx hb d_X9_give_4 (by decide) ?_
  refine lv_icmp_ge (tgt := 22) hx hb d_X9_give_7 (by decide) (fun c_7 => absurd c_7 (by decide)) (fun _ => ?_)
  refine lv_aload_n hx hb d_X9_give_10 rfl (lv_at hl 0 rfl) ?_
  refine va_get (D := D) (ci := 9) (v := .int 0) (C := "LinkedUnits$Tape") (T := TX9) (N := 5) hx hb hg iwX9 hown hK hP 0 rfl rfl 0 (by decide) (hg _ m_646) (fun _ h9 => h9) rfl d_X9_give_11 ?_
  refine lv_aload_n hx hb d_X9_give_14 rfl (lv_at hl 0 rfl) ?_
  refine va_get (D := D) (ci := 9) (v := .ref (r 60)) (C := "LinkedUnits$Tape") (T := TX9) (N := 5) hx hb hg iwX9 hown hK hP 0 rfl rfl 3 (by decide) (hg _ m_650) (fun _ h9 => h9) rfl d_X9_give_15 ?_
  refine va_alen hx hb hK hP 1 0 rfl rfl (v := 4096) (by show Int32.ofNat 4096 = 4096; decide) d_X9_give_18 ?_
  refine lv_icmp_lt (tgt := 24) hx hb d_X9_give_19 (by decide) (fun _ => ?_) (fun c_19 => False.elim (by revert c_19; decide))
  refine lv_aload_n hx hb d_X9_give_24 rfl (lv_at hl 0 rfl) ?_
  refine va_get (D := D) (ci := 9) (v := .ref (r 60)) (C := "LinkedUnits$Tape") (T := TX9) (N := 5) hx hb hg iwX9 hown hK hP 0 rfl rfl 3 (by decide) (hg _ m_650) (fun _ h9 => h9) rfl d_X9_give_25 ?_
  refine lv_aload_n hx hb d_X9_give_28 rfl (lv_at hl 0 rfl) ?_
  refine va_get (D := D) (ci := 9) (v := .int 0) (C := "LinkedUnits$Tape") (T := TX9) (N := 5) hx hb hg iwX9 hown hK hP 0 rfl rfl 0 (by decide) (hg _ m_646) (fun _ h9 => h9) rfl d_X9_give_29 ?_
  refine lv_iload_n hx hb d_X9_give_32 rfl (lv_at hl 1 rfl) ?_
  refine lv_i2b (v := (b).toInt8.toInt32) hx hb d_X9_give_33 rfl ?_
  refine va_bast hx hb hK hP hD hS 1 0 rfl rfl (k_inK (by decide)) d_X9_give_34 (fun H locs hP hD hS => ?_)
  have hP : va_P D vwCl [((r 11), .inr (9, (oTap r))), ((r 60), .inl (cy 0, 4096, .inl (upd (fun _ => 0) (0 : Int32).toNatClampNeg (vp_nar .byte ((b).toInt8.toInt32)))))] H := hP
  have hD : va_D A [((r 11), .inr (9, (oTap r))), ((r 60), .inl (cy 0, 4096, .inl (upd (fun _ => 0) (0 : Int32).toNatClampNeg (vp_nar .byte ((b).toInt8.toInt32)))))] := hD
  refine lv_aload_n hx hb d_X9_give_35 rfl (lv_at hl 0 rfl) ?_
  refine lv_dup hx hb d_X9_give_36 rfl ?_
  refine va_get (D := D) (ci := 9) (v := .int 0) (C := "LinkedUnits$Tape") (T := TX9) (N := 5) hx hb hg iwX9 hown hK hP 0 rfl rfl 0 (by decide) (hg _ m_646) (fun _ h9 => h9) rfl d_X9_give_37 ?_
  refine lv_iconst (v := 1) hx hb d_X9_give_40 (by decide) ?_
  refine lv_iadd hx hb d_X9_give_41 ?_
  refine k_topi 1 (by decide) ?_
  refine va_put (D := D) (ci := 9) (v := .int 1) (ty := .int) (C := "LinkedUnits$Tape") (T := TX9) (N := 5) hx hb hg iwX9 tyX9 tyX9_ok nmX9 hown hK hP hD hS 0 rfl rfl 0 (by decide) (hg _ m_646) (fun _ h9 => h9) rfl (by decide +kernel) rfl rfl (Nat.le_of_ble_eq_true rfl) d_X9_give_42 (fun H locs hP hD hS => ?_)
  have hP : va_P D vwCl [((r 11), .inr (9, ((oTap r).set 0 (.int 1)))), ((r 60), .inl (cy 0, 4096, .inl (upd (fun _ => 0) (0 : Int32).toNatClampNeg (vp_nar .byte ((b).toInt8.toInt32)))))] H := hP
  have hD : va_D A [((r 11), .inr (9, ((oTap r).set 0 (.int 1)))), ((r 60), .inl (cy 0, 4096, .inl (upd (fun _ => 0) (0 : Int32).toNatClampNeg (vp_nar .byte ((b).toInt8.toInt32)))))] := hD
  refine lv_aload_n hx hb d_X9_give_45 rfl (lv_at hl 0 rfl) ?_
  refine va_get (D := D) (ci := 9) (v := .int 1) (C := "LinkedUnits$Tape") (T := TX9) (N := 5) hx hb hg iwX9 hown hK hP 0 rfl rfl 0 (by decide) (hg _ m_646) (fun _ h9 => h9) rfl d_X9_give_46 ?_
  refine W.widen (k := 0) (n := 0) (Nat.le_of_ble_eq_true rfl) (Nat.le_of_ble_eq_true rfl) ?_
  exact k_iret (X := Unit) (w1 := fun _ => []) () hx hb hr d_X9_give_49 hlocks (hP.sub [] rfl) hK (hD.sub [] (by decide) rfl) hS rfl
set_option maxHeartbeats 4000000 in
set_option maxRecDepth 100000 in
theorem c_byteAt (l : Launch) (D : va_G) (cy : Nat → ClassId) (sz : Nat) (r : Nat → Nat) (i : Int32) : Met l y_X9_byteAt (Cond.code y_X9_byteAt b_X9_byteAt 2 (some .int) :: GW) ({ frames := 0, cells := 0, slots := 0, locals := 0 }) (va_Pc [.ref (r 11), .int i] (kPre D cy sz [((r 11), .inr (9, (oTap r)))])) ((fun A : Nat → Prop => va_Qi (S := Unit) (fun (r : Int32) (_ : Unit) => r = (-1)) (fun _ => kPost D cy A [((r 11), .inr (9, (oTap r)))]) A) (va_A [((r 11), .inr (9, (oTap r)))] sz)) 0 0 (va_A [((r 11), .inr (9, (oTap r)))] sz) := by
  refine k_ofW (Qc := fun A => va_Qi (S := Unit) (fun (r : Int32) (_ : Unit) => r = (-1)) (fun _ => kPost D cy A [((r 11), .inr (9, (oTap r)))]) A) (by decide) (Nat.le_of_ble_eq_true rfl) ?_
  intro p e s m below meth c A ls hx hb hr hml hown hlocks hin hg hNW hK hP hD hA hS hl
  have hl : lv_has ls 2 [(0, .ref (r 11)), (1, .int i)] := hl
  have hown : s.vm.findClass "LinkedUnits$Tape" = some m.cls := hown
  refine lv_iload_n hx hb d_X9_byteAt_0 rfl (lv_at hl 1 rfl) ?_
  refine lv_if_lt (tgt := 34) hx hb d_X9_byteAt_1 (by decide) (fun c_1 => ?_) (fun c_1 => ?_)
  · -- taken at 1
    refine lv_iconst (v := (-1)) hx hb d_X9_byteAt_34 (by decide) ?_
    refine W.widen (k := 0) (n := 0) (Nat.le_of_ble_eq_true rfl) (Nat.le_of_ble_eq_true rfl) ?_
    exact k_iret (X := Unit) (w1 := fun _ => [((r 11), .inr (9, (oTap r)))]) () hx hb hr d_X9_byteAt_35 hlocks (hP.sub [0] rfl) hK (hD.sub [0] (by decide) rfl) hS rfl
  · -- not taken at 1
    refine lv_iload_n hx hb d_X9_byteAt_4 rfl (lv_at hl 1 rfl) ?_
    refine lv_aload_n hx hb d_X9_byteAt_5 rfl (lv_at hl 0 rfl) ?_
    refine va_get (D := D) (ci := 9) (v := .int 0) (C := "LinkedUnits$Tape") (T := TX9) (N := 5) hx hb hg iwX9 hown hK hP 0 rfl rfl 2 (by decide) (hg _ m_648) (fun _ h9 => h9) rfl d_X9_byteAt_6 ?_
    refine lv_icmp_ge (tgt := 34) hx hb d_X9_byteAt_9 (by decide) (fun c_9 => ?_) (fun c_9 => False.elim (c_9 (Int32.not_lt.mp c_1)))
    refine lv_iconst (v := (-1)) hx hb d_X9_byteAt_34 (by decide) ?_
    refine W.widen (k := 0) (n := 0) (Nat.le_of_ble_eq_true rfl) (Nat.le_of_ble_eq_true rfl) ?_
    exact k_iret (X := Unit) (w1 := fun _ => [((r 11), .inr (9, (oTap r)))]) () hx hb hr d_X9_byteAt_35 hlocks (hP.sub [0] rfl) hK (hD.sub [0] (by decide) rfl) hS rfl
set_option maxHeartbeats 4000000 in
set_option maxRecDepth 100000 in
theorem c_count (l : Launch) (D : va_G) (cy : Nat → ClassId) (sz : Nat) (r : Nat → Nat) (o what : Int32) : Met l y_X12_count (Cond.code y_X12_count b_X12_count 3 (some .int) :: GW) ({ frames := 1, cells := 0, slots := 0, locals := 21 }) (va_Pc [.ref (r 0), .int o, .int what] (kPre D cy sz [((r 0), .inr (12, (oLU r))), ((r 5), .inr (8, (oSto r)))])) ((fun A : Nat → Prop => va_Qi (S := Unit) (fun (r : Int32) (_ : Unit) => r = (-1)) (fun _ => kPost D cy A []) A) (va_A [((r 0), .inr (12, (oLU r))), ((r 5), .inr (8, (oSto r)))] sz)) 0 0 (va_A [((r 0), .inr (12, (oLU r))), ((r 5), .inr (8, (oSto r)))] sz) := by
  refine k_ofW (Qc := fun A => va_Qi (S := Unit) (fun (r : Int32) (_ : Unit) => r = (-1)) (fun _ => kPost D cy A []) A) (by decide) (Nat.le_of_ble_eq_true rfl) ?_
  intro p e s m below meth c A ls hx hb hr hml hown hlocks hin hg hNW hK hP hD hA hS hl
  have hl : lv_has ls 3 [(0, .ref (r 0)), (1, .int o), (2, .int what)] := hl
  have hown : s.vm.findClass "LinkedUnits" = some m.cls := hown
  refine lv_aload_n hx hb d_X12_count_0 rfl (lv_at hl 0 rfl) ?_
  refine va_get (D := D) (ci := 12) (v := .ref (r 5)) (C := "LinkedUnits") (T := TX12) (N := 15) hx hb hg iwX12 hown hK hP 0 rfl rfl 7 (by decide) (hg _ m_742) (fun _ h9 => h9) rfl d_X12_count_1 ?_
  refine lv_iload_n hx hb d_X12_count_4 rfl (lv_at hl 1 rfl) ?_
  refine k_calli (wc := [((r 5), .inr (8, (oSto r)))]) (wr := [((r 0), .inr (12, (oLU r)))]) (va_runVN (As := [.int o]) (rest := []) ⟨hx, hb, hml, hown, hg⟩ (c_has l D cy s.heap.size r o ) ⟨(va_cnB 1 hg (gw_c m_1516) rfl rfl rfl (hNW.1 _ nm_1513) (hg _ m_5) (by decide +kernel) ⟨(Nat.le_of_ble_eq_true rfl), (Nat.le_of_ble_eq_true rfl)⟩), (hg _ m_1515), hg _ ms_X8_has⟩ (k_preV (As := [.int o]) hP hD hK hNW [1] (by decide) rfl 1 rfl rfl) rfl rfl hl.1 rfl (lv_room (Nat.le_of_ble_eq_true rfl)) d_X12_count_5 ⟨(Nat.le_of_ble_eq_true rfl), (Nat.le_of_ble_eq_true rfl)⟩) hP hD hS hA [1] [0] rfl rfl (by decide) (by decide) (fun r1 u1 H locs hw hP hD hS => ?_)
  have hP : va_P D vwCl [((r 0), .inr (12, (oLU r))), ((r 5), .inr (8, (oSto r)))] H := hP
  have hD : va_D A [((r 0), .inr (12, (oLU r))), ((r 5), .inr (8, (oSto r)))] := hD
  obtain rfl : r1 = 0 := hw
  refine lv_if_eq (tgt := 20) hx hb d_X12_count_8 (by decide) (fun _ => ?_) (fun c_8 => False.elim (by revert c_8; decide))
  refine lv_iconst (v := (-1)) hx hb d_X12_count_20 (by decide) ?_
  refine W.widen (k := 0) (n := 0) (Nat.le_of_ble_eq_true rfl) (Nat.le_of_ble_eq_true rfl) ?_
  exact k_iret (X := Unit) (w1 := fun _ => []) () hx hb hr d_X12_count_21 hlocks (hP.sub [] rfl) hK (hD.sub [] (by decide) rfl) hS rfl
set_option maxHeartbeats 4000000 in
set_option maxRecDepth 100000 in
theorem c_name (l : Launch) (D : va_G) (cy : Nat → ClassId) (sz : Nat) (r : Nat → Nat) (o sy i : Int32) : Met l y_X12_name (Cond.code y_X12_name b_X12_name 4 (some .int) :: GW) ({ frames := 3, cells := 0, slots := 0, locals := 66 }) (va_Pc [.ref (r 0), .int o, .int sy, .int i] (kPre D cy sz [((r 0), .inr (12, (oLU r))), ((r 5), .inr (8, (oSto r))), ((r 34), .inl (cy 1, 101, .inl sDe))])) ((fun A : Nat → Prop => va_Qi (S := Unit) (fun (r : Int32) (_ : Unit) => r = (-1)) (fun _ => kPost D cy A []) A) (va_A [((r 0), .inr (12, (oLU r))), ((r 5), .inr (8, (oSto r))), ((r 34), .inl (cy 1, 101, .inl sDe))] sz)) 0 0 (va_A [((r 0), .inr (12, (oLU r))), ((r 5), .inr (8, (oSto r))), ((r 34), .inl (cy 1, 101, .inl sDe))] sz) := by
  refine k_ofW (Qc := fun A => va_Qi (S := Unit) (fun (r : Int32) (_ : Unit) => r = (-1)) (fun _ => kPost D cy A []) A) (by decide) (Nat.le_of_ble_eq_true rfl) ?_
  intro p e s m below meth c A ls hx hb hr hml hown hlocks hin hg hNW hK hP hD hA hS hl
  have hl : lv_has ls 4 [(0, .ref (r 0)), (1, .int o), (2, .int sy), (3, .int i)] := hl
  have hown : s.vm.findClass "LinkedUnits" = some m.cls := hown
  refine lv_aload_n hx hb d_X12_name_0 rfl (lv_at hl 0 rfl) ?_
  refine va_get (D := D) (ci := 12) (v := .ref (r 5)) (C := "LinkedUnits") (T := TX12) (N := 15) hx hb hg iwX12 hown hK hP 0 rfl rfl 7 (by decide) (hg _ m_742) (fun _ h9 => h9) rfl d_X12_name_1 ?_
  refine lv_aload_n hx hb d_X12_name_4 rfl (lv_at hl 0 rfl) ?_
  refine va_get (D := D) (ci := 12) (v := .ref (r 5)) (C := "LinkedUnits") (T := TX12) (N := 15) hx hb hg iwX12 hown hK hP 0 rfl rfl 7 (by decide) (hg _ m_742) (fun _ h9 => h9) rfl d_X12_name_5 ?_
  refine lv_iload_n hx hb d_X12_name_8 rfl (lv_at hl 1 rfl) ?_
  refine lv_iload_n hx hb d_X12_name_9 rfl (lv_at hl 2 rfl) ?_
  refine k_calli (wc := [((r 5), .inr (8, (oSto r))), ((r 34), .inl (cy 1, 101, .inl sDe))]) (wr := [((r 0), .inr (12, (oLU r)))]) (va_runVN (As := [.int o, .int sy]) (rest := [.ref (r 5)]) ⟨hx, hb, hml, hown, hg⟩ (c_symbolAt l D cy s.heap.size r o sy ) ⟨(va_cnB 2 hg (gw_c m_1533) rfl rfl rfl (hNW.1 _ nm_1530) (hg _ m_5) (by decide +kernel) ⟨(Nat.le_of_ble_eq_true rfl), (Nat.le_of_ble_eq_true rfl)⟩), (hg _ m_1532), hg _ ms_X8_symbolAt⟩ (k_preV (As := [.int o, .int sy]) hP hD hK hNW [1, 2] (by decide) rfl 1 rfl rfl) rfl rfl hl.1 rfl (lv_room (Nat.le_of_ble_eq_true rfl)) d_X12_name_10 ⟨(Nat.le_of_ble_eq_true rfl), (Nat.le_of_ble_eq_true rfl)⟩) hP hD hS hA [1, 2] [0] rfl rfl (by decide) (by decide) (fun r1 u1 H locs hw hP hD hS => ?_)
  have hP : va_P D vwCl [((r 0), .inr (12, (oLU r))), ((r 5), .inr (8, (oSto r))), ((r 34), .inl (cy 1, 101, .inl sDe))] H := hP
  have hD : va_D A [((r 0), .inr (12, (oLU r))), ((r 5), .inr (8, (oSto r))), ((r 34), .inl (cy 1, 101, .inl sDe))] := hD
  obtain rfl : r1 = (-1) := hw
  refine lv_iload_n hx hb d_X12_name_13 rfl (lv_at hl 3 rfl) ?_
  refine k_calli (wc := [((r 5), .inr (8, (oSto r)))]) (wr := [((r 0), .inr (12, (oLU r))), ((r 34), .inl (cy 1, 101, .inl sDe))]) (va_runVN (As := [.int (-1), .int i]) (rest := []) ⟨hx, hb, hml, hown, hg⟩ (c_nameByte l D cy H.size r i ) ⟨(va_cnB 2 hg (gw_c m_1538) rfl rfl rfl (hNW.1 _ nm_1535) (hg _ m_5) (by decide +kernel) ⟨(Nat.le_of_ble_eq_true rfl), (Nat.le_of_ble_eq_true rfl)⟩), (hg _ m_1537), hg _ ms_X8_nameByte⟩ (k_preV (As := [.int (-1), .int i]) hP hD hK hNW [1] (by decide) rfl 1 rfl rfl) rfl rfl hl.1 rfl (lv_room (Nat.le_of_ble_eq_true rfl)) d_X12_name_14 ⟨(Nat.le_of_ble_eq_true rfl), (Nat.le_of_ble_eq_true rfl)⟩) hP hD hS hA [1] [0, 2] rfl rfl (by decide) (by decide) (fun r2 u2 H locs hw hP hD hS => ?_)
  have hP : va_P D vwCl [((r 0), .inr (12, (oLU r))), ((r 34), .inl (cy 1, 101, .inl sDe)), ((r 5), .inr (8, (oSto r)))] H := hP
  have hD : va_D A [((r 0), .inr (12, (oLU r))), ((r 34), .inl (cy 1, 101, .inl sDe)), ((r 5), .inr (8, (oSto r)))] := hD
  obtain rfl : r2 = (-1) := hw
  refine W.widen (k := 0) (n := 0) (Nat.le_of_ble_eq_true rfl) (Nat.le_of_ble_eq_true rfl) ?_
  exact k_iret (X := Unit) (w1 := fun _ => []) () hx hb hr d_X12_name_17 hlocks (hP.sub [] rfl) hK (hD.sub [] (by decide) rfl) hS rfl
set_option maxHeartbeats 4000000 in
set_option maxRecDepth 100000 in
theorem c_symbol (l : Launch) (D : va_G) (cy : Nat → ClassId) (sz : Nat) (r : Nat → Nat) (o sy : Int32) : Met l y_X12_symbol (Cond.code y_X12_symbol b_X12_symbol 5 (some .int) :: GW) ({ frames := 3, cells := 0, slots := 0, locals := 66 }) (va_Pc [.ref (r 0), .int o, .int sy] (kPre D cy sz [((r 0), .inr (12, (oLU r))), ((r 5), .inr (8, (oSto r))), ((r 34), .inl (cy 1, 101, .inl sDe))])) ((fun A : Nat → Prop => va_Qi (S := Unit) (fun (r : Int32) (_ : Unit) => r = (-1)) (fun _ => kPost D cy A []) A) (va_A [((r 0), .inr (12, (oLU r))), ((r 5), .inr (8, (oSto r))), ((r 34), .inl (cy 1, 101, .inl sDe))] sz)) 0 0 (va_A [((r 0), .inr (12, (oLU r))), ((r 5), .inr (8, (oSto r))), ((r 34), .inl (cy 1, 101, .inl sDe))] sz) := by
  refine k_ofW (Qc := fun A => va_Qi (S := Unit) (fun (r : Int32) (_ : Unit) => r = (-1)) (fun _ => kPost D cy A []) A) (by decide) (Nat.le_of_ble_eq_true rfl) ?_
  intro p e s m below meth c A ls hx hb hr hml hown hlocks hin hg hNW hK hP hD hA hS hl
  have hl : lv_has ls 5 [(0, .ref (r 0)), (1, .int o), (2, .int sy)] := hl
  have hown : s.vm.findClass "LinkedUnits" = some m.cls := hown
  refine lv_aload_n hx hb d_X12_symbol_0 rfl (lv_at hl 0 rfl) ?_
  refine va_get (D := D) (ci := 12) (v := .ref (r 5)) (C := "LinkedUnits") (T := TX12) (N := 15) hx hb hg iwX12 hown hK hP 0 rfl rfl 7 (by decide) (hg _ m_742) (fun _ h9 => h9) rfl d_X12_symbol_1 ?_
  refine lv_iload_n hx hb d_X12_symbol_4 rfl (lv_at hl 1 rfl) ?_
  refine lv_iload_n hx hb d_X12_symbol_5 rfl (lv_at hl 2 rfl) ?_
  refine k_calli (wc := [((r 5), .inr (8, (oSto r))), ((r 34), .inl (cy 1, 101, .inl sDe))]) (wr := [((r 0), .inr (12, (oLU r)))]) (va_runVN (As := [.int o, .int sy]) (rest := []) ⟨hx, hb, hml, hown, hg⟩ (c_symbolAt l D cy s.heap.size r o sy ) ⟨(va_cnB 2 hg (gw_c m_1533) rfl rfl rfl (hNW.1 _ nm_1530) (hg _ m_5) (by decide +kernel) ⟨(Nat.le_of_ble_eq_true rfl), (Nat.le_of_ble_eq_true rfl)⟩), (hg _ m_1532), hg _ ms_X8_symbolAt⟩ (k_preV (As := [.int o, .int sy]) hP hD hK hNW [1, 2] (by decide) rfl 1 rfl rfl) rfl rfl hl.1 rfl (lv_room (Nat.le_of_ble_eq_true rfl)) d_X12_symbol_6 ⟨(Nat.le_of_ble_eq_true rfl), (Nat.le_of_ble_eq_true rfl)⟩) hP hD hS hA [1, 2] [0] rfl rfl (by decide) (by decide) (fun r1 u1 H locs hw hP hD hS => ?_)
  have hP : va_P D vwCl [((r 0), .inr (12, (oLU r))), ((r 5), .inr (8, (oSto r))), ((r 34), .inl (cy 1, 101, .inl sDe))] H := hP
  have hD : va_D A [((r 0), .inr (12, (oLU r))), ((r 5), .inr (8, (oSto r))), ((r 34), .inl (cy 1, 101, .inl sDe))] := hD
  obtain rfl : r1 = (-1) := hw
  refine lv_istore_n (lv' := [(3, .int (-1)), (0, .ref (r 0)), (1, .int o), (2, .int sy)]) hx hb d_X12_symbol_9 rfl hl (by decide) rfl (fun ls hl => ?_)
  refine lv_iload_n hx hb d_X12_symbol_10 rfl (lv_at hl 0 rfl) ?_
  refine lv_if_ge (tgt := 16) hx hb d_X12_symbol_11 (by decide) (fun c_11 => absurd c_11 (by decide)) (fun _ => ?_)
  refine lv_iconst (v := (-1)) hx hb d_X12_symbol_14 (by decide) ?_
  refine W.widen (k := 0) (n := 0) (Nat.le_of_ble_eq_true rfl) (Nat.le_of_ble_eq_true rfl) ?_
  exact k_iret (X := Unit) (w1 := fun _ => []) () hx hb hr d_X12_symbol_15 hlocks (hP.sub [] rfl) hK (hD.sub [] (by decide) rfl) hS rfl
set_option maxHeartbeats 4000000 in
set_option maxRecDepth 100000 in
theorem c_pick (l : Launch) (D : va_G) (cy : Nat → ClassId) (sz : Nat) (r : Nat → Nat) (o : Int32) : Met l y_X12_pick (Cond.code y_X12_pick b_X12_pick 2 (some .int) :: GW) ({ frames := 1, cells := 0, slots := 0, locals := 21 }) (va_Pc [.ref (r 0), .int o] (kPre D cy sz [((r 0), .inr (12, (oLU r))), ((r 5), .inr (8, (oSto r)))])) ((fun A : Nat → Prop => va_Qi (S := Unit) (fun (r : Int32) (_ : Unit) => r = (-1)) (fun _ => kPost D cy A []) A) (va_A [((r 0), .inr (12, (oLU r))), ((r 5), .inr (8, (oSto r)))] sz)) 0 0 (va_A [((r 0), .inr (12, (oLU r))), ((r 5), .inr (8, (oSto r)))] sz) := by
  refine k_ofW (Qc := fun A => va_Qi (S := Unit) (fun (r : Int32) (_ : Unit) => r = (-1)) (fun _ => kPost D cy A []) A) (by decide) (Nat.le_of_ble_eq_true rfl) ?_
  intro p e s m below meth c A ls hx hb hr hml hown hlocks hin hg hNW hK hP hD hA hS hl
  have hl : lv_has ls 2 [(0, .ref (r 0)), (1, .int o)] := hl
  have hown : s.vm.findClass "LinkedUnits" = some m.cls := hown
  refine lv_aload_n hx hb d_X12_pick_0 rfl (lv_at hl 0 rfl) ?_
  refine va_get (D := D) (ci := 12) (v := .ref (r 5)) (C := "LinkedUnits") (T := TX12) (N := 15) hx hb hg iwX12 hown hK hP 0 rfl rfl 7 (by decide) (hg _ m_742) (fun _ h9 => h9) rfl d_X12_pick_1 ?_
  refine lv_iload_n hx hb d_X12_pick_4 rfl (lv_at hl 1 rfl) ?_
  refine k_calli (wc := [((r 5), .inr (8, (oSto r)))]) (wr := [((r 0), .inr (12, (oLU r)))]) (va_runVN (As := [.int o]) (rest := []) ⟨hx, hb, hml, hown, hg⟩ (c_has l D cy s.heap.size r o ) ⟨(va_cnB 1 hg (gw_c m_1516) rfl rfl rfl (hNW.1 _ nm_1513) (hg _ m_5) (by decide +kernel) ⟨(Nat.le_of_ble_eq_true rfl), (Nat.le_of_ble_eq_true rfl)⟩), (hg _ m_1515), hg _ ms_X8_has⟩ (k_preV (As := [.int o]) hP hD hK hNW [1] (by decide) rfl 1 rfl rfl) rfl rfl hl.1 rfl (lv_room (Nat.le_of_ble_eq_true rfl)) d_X12_pick_5 ⟨(Nat.le_of_ble_eq_true rfl), (Nat.le_of_ble_eq_true rfl)⟩) hP hD hS hA [1] [0] rfl rfl (by decide) (by decide) (fun r1 u1 H locs hw hP hD hS => ?_)
  have hP : va_P D vwCl [((r 0), .inr (12, (oLU r))), ((r 5), .inr (8, (oSto r)))] H := hP
  have hD : va_D A [((r 0), .inr (12, (oLU r))), ((r 5), .inr (8, (oSto r)))] := hD
  obtain rfl : r1 = 0 := hw
  refine lv_if_eq (tgt := 22) hx hb d_X12_pick_8 (by decide) (fun _ => ?_) (fun c_8 => False.elim (by revert c_8; decide))
  refine lv_iconst (v := (-1)) hx hb d_X12_pick_22 (by decide) ?_
  refine W.widen (k := 0) (n := 0) (Nat.le_of_ble_eq_true rfl) (Nat.le_of_ble_eq_true rfl) ?_
  exact k_iret (X := Unit) (w1 := fun _ => []) () hx hb hr d_X12_pick_23 hlocks (hP.sub [] rfl) hK (hD.sub [] (by decide) rfl) hS rfl
set_option maxHeartbeats 4000000 in
set_option maxRecDepth 100000 in
theorem c_link (l : Launch) (D : va_G) (cy : Nat → ClassId) (sz : Nat) (r : Nat → Nat) : Met l y_X12_link (Cond.code y_X12_link b_X12_link 1 (some .int) :: GW) ({ frames := 4, cells := 0, slots := 0, locals := 98 }) (va_Pc [.ref (r 0)] (kPre D cy sz [((r 0), .inr (12, (oLU r))), ((r 10), .inr (4, (oIma r))), ((r 56), .inl (cy 1, 101, .inl (fun _ => 0))), ((r 55), .inl (cy 0, 4, .inl sMa)), ((r 5), .inr (8, (oSto r))), ((r 25), .inl (cy 1, 10100, .inl sFl)), ((r 29), .inl (cy 1, 10100, .inl sNe)), ((r 30), .inl (cy 0, 65600, .inl sNm)), ((r 34), .inl (cy 1, 101, .inl sDe))])) ((fun A : Nat → Prop => va_Qi (S := Unit) (fun (r : Int32) (_ : Unit) => r = (-34)) (fun _ => kPost D cy A []) A) (va_A [((r 0), .inr (12, (oLU r))), ((r 10), .inr (4, (oIma r))), ((r 56), .inl (cy 1, 101, .inl (fun _ => 0))), ((r 55), .inl (cy 0, 4, .inl sMa)), ((r 5), .inr (8, (oSto r))), ((r 25), .inl (cy 1, 10100, .inl sFl)), ((r 29), .inl (cy 1, 10100, .inl sNe)), ((r 30), .inl (cy 0, 65600, .inl sNm)), ((r 34), .inl (cy 1, 101, .inl sDe))] sz)) 0 0 (va_A [((r 0), .inr (12, (oLU r))), ((r 10), .inr (4, (oIma r))), ((r 56), .inl (cy 1, 101, .inl (fun _ => 0))), ((r 55), .inl (cy 0, 4, .inl sMa)), ((r 5), .inr (8, (oSto r))), ((r 25), .inl (cy 1, 10100, .inl sFl)), ((r 29), .inl (cy 1, 10100, .inl sNe)), ((r 30), .inl (cy 0, 65600, .inl sNm)), ((r 34), .inl (cy 1, 101, .inl sDe))] sz) := by
  refine k_ofW (Qc := fun A => va_Qi (S := Unit) (fun (r : Int32) (_ : Unit) => r = (-34)) (fun _ => kPost D cy A []) A) (by decide) (Nat.le_of_ble_eq_true rfl) ?_
  intro p e s m below meth c A ls hx hb hr hml hown hlocks hin hg hNW hK hP hD hA hS hl
  have hl : lv_has ls 1 [(0, .ref (r 0))] := hl
  have hown : s.vm.findClass "LinkedUnits" = some m.cls := hown
  refine lv_aload_n hx hb d_X12_link_0 rfl (lv_at hl 0 rfl) ?_
  refine va_get (D := D) (ci := 12) (v := .ref (r 10)) (C := "LinkedUnits") (T := TX12) (N := 15) hx hb hg iwX12 hown hK hP 0 rfl rfl 12 (by decide) (hg _ m_747) (fun _ h9 => h9) rfl d_X12_link_1 ?_
  refine k_calli (wc := [((r 10), .inr (4, (oIma r))), ((r 56), .inl (cy 1, 101, .inl (fun _ => 0))), ((r 55), .inl (cy 0, 4, .inl sMa)), ((r 5), .inr (8, (oSto r))), ((r 25), .inl (cy 1, 10100, .inl sFl)), ((r 29), .inl (cy 1, 10100, .inl sNe)), ((r 30), .inl (cy 0, 65600, .inl sNm)), ((r 34), .inl (cy 1, 101, .inl sDe))]) (wr := [((r 0), .inr (12, (oLU r)))]) (va_runVN (As := []) (rest := []) ⟨hx, hb, hml, hown, hg⟩ (c_join l D cy s.heap.size r ) ⟨(va_cnB 0 hg (gw_c m_1561) rfl rfl rfl (hNW.1 _ nm_1558) (hg _ m_15) (by decide +kernel) ⟨(Nat.le_of_ble_eq_true rfl), (Nat.le_of_ble_eq_true rfl)⟩), (hg _ m_1560), hg _ ms_X4_join⟩ (k_preV (As := []) hP hD hK hNW [1, 2, 3, 4, 5, 6, 7, 8] (by decide) rfl 1 rfl rfl) rfl rfl hl.1 rfl (lv_room (Nat.le_of_ble_eq_true rfl)) d_X12_link_4 ⟨(Nat.le_of_ble_eq_true rfl), (Nat.le_of_ble_eq_true rfl)⟩) hP hD hS hA [1, 2, 3, 4, 5, 6, 7, 8] [0] rfl rfl (by decide) (by decide) (fun r1 u1 H locs hw hP hD hS => ?_)
  have hP : va_P D vwCl [((r 0), .inr (12, (oLU r)))] H := hP
  have hD : va_D A [((r 0), .inr (12, (oLU r)))] := hD
  obtain rfl : r1 = (-34) := hw
  refine W.widen (k := 0) (n := 0) (Nat.le_of_ble_eq_true rfl) (Nat.le_of_ble_eq_true rfl) ?_
  exact k_iret (X := Unit) (w1 := fun _ => []) () hx hb hr d_X12_link_7 hlocks (hP.sub [] rfl) hK (hD.sub [] (by decide) rfl) hS rfl
set_option maxHeartbeats 4000000 in
set_option maxRecDepth 100000 in
theorem c_fault (l : Launch) (D : va_G) (cy : Nat → ClassId) (sz : Nat) (r : Nat → Nat) (what : Int32) : Met l y_X12_fault (Cond.code y_X12_fault b_X12_fault 2 (some .int) :: GW) ({ frames := 0, cells := 0, slots := 0, locals := 0 }) (va_Pc [.ref (r 0), .int what] (kPre D cy sz [((r 0), .inr (12, (oLU r))), ((r 10), .inr (4, (oIma r)))])) ((fun A : Nat → Prop => va_Qi (S := Unit) (fun (r : Int32) (_ : Unit) => r = (-1)) (fun _ => kPost D cy A []) A) (va_A [((r 0), .inr (12, (oLU r))), ((r 10), .inr (4, (oIma r)))] sz)) 0 0 (va_A [((r 0), .inr (12, (oLU r))), ((r 10), .inr (4, (oIma r)))] sz) := by
  refine k_ofW (Qc := fun A => va_Qi (S := Unit) (fun (r : Int32) (_ : Unit) => r = (-1)) (fun _ => kPost D cy A []) A) (by decide) (Nat.le_of_ble_eq_true rfl) ?_
  intro p e s m below meth c A ls hx hb hr hml hown hlocks hin hg hNW hK hP hD hA hS hl
  have hl : lv_has ls 2 [(0, .ref (r 0)), (1, .int what)] := hl
  have hown : s.vm.findClass "LinkedUnits" = some m.cls := hown
  refine lv_iload_n hx hb d_X12_fault_0 rfl (lv_at hl 1 rfl) ?_
  refine lv_if_ne (tgt := 14) hx hb d_X12_fault_1 (by decide) (fun c_1 => ?_) (fun c_1 => ?_)
  · -- taken at 1
    refine lv_iload_n hx hb d_X12_fault_14 rfl (lv_at hl 1 rfl) ?_
    refine lv_iconst (v := 1) hx hb d_X12_fault_15 (by decide) ?_
    refine lv_icmp_ne (tgt := 29) hx hb d_X12_fault_16 (by decide) (fun c_16 => ?_) (fun c_16 => ?_)
    · -- taken at 16
      refine lv_iconst (v := (-1)) hx hb d_X12_fault_29 (by decide) ?_
      refine W.widen (k := 0) (n := 0) (Nat.le_of_ble_eq_true rfl) (Nat.le_of_ble_eq_true rfl) ?_
      exact k_iret (X := Unit) (w1 := fun _ => []) () hx hb hr d_X12_fault_30 hlocks (hP.sub [] rfl) hK (hD.sub [] (by decide) rfl) hS rfl
    · -- not taken at 16
      refine lv_aload_n hx hb d_X12_fault_19 rfl (lv_at hl 0 rfl) ?_
      refine va_get (D := D) (ci := 12) (v := .ref (r 10)) (C := "LinkedUnits") (T := TX12) (N := 15) hx hb hg iwX12 hown hK hP 0 rfl rfl 12 (by decide) (hg _ m_747) (fun _ h9 => h9) rfl d_X12_fault_20 ?_
      refine va_getN (D := D) (ci := 4) (v := .int (-1)) (C := "LinkedUnits$Image") (T := TX4) (N := 12) hx hb hg iwX4 hown hK hP 1 rfl rfl 4 (by decide) (va_Nw.use rfl (hNW.1 _ nm_604)) (fun _ h9 => h9) rfl d_X12_fault_23 ?_
      refine lv_goto (tgt := 30) hx hb d_X12_fault_26 (by decide) ?_
      refine W.widen (k := 0) (n := 0) (Nat.le_of_ble_eq_true rfl) (Nat.le_of_ble_eq_true rfl) ?_
      exact k_iret (X := Unit) (w1 := fun _ => []) () hx hb hr d_X12_fault_30 hlocks (hP.sub [] rfl) hK (hD.sub [] (by decide) rfl) hS rfl
  · -- not taken at 1
    refine lv_aload_n hx hb d_X12_fault_4 rfl (lv_at hl 0 rfl) ?_
    refine va_get (D := D) (ci := 12) (v := .ref (r 10)) (C := "LinkedUnits") (T := TX12) (N := 15) hx hb hg iwX12 hown hK hP 0 rfl rfl 12 (by decide) (hg _ m_747) (fun _ h9 => h9) rfl d_X12_fault_5 ?_
    refine va_getN (D := D) (ci := 4) (v := .int (-1)) (C := "LinkedUnits$Image") (T := TX4) (N := 12) hx hb hg iwX4 hown hK hP 1 rfl rfl 3 (by decide) (va_Nw.use rfl (hNW.1 _ nm_602)) (fun _ h9 => h9) rfl d_X12_fault_8 ?_
    refine lv_goto (tgt := 30) hx hb d_X12_fault_11 (by decide) ?_
    refine W.widen (k := 0) (n := 0) (Nat.le_of_ble_eq_true rfl) (Nat.le_of_ble_eq_true rfl) ?_
    exact k_iret (X := Unit) (w1 := fun _ => []) () hx hb hr d_X12_fault_30 hlocks (hP.sub [] rfl) hK (hD.sub [] (by decide) rfl) hS rfl
set_option maxHeartbeats 4000000 in
set_option maxRecDepth 100000 in
theorem c_cell (l : Launch) (D : va_G) (cy : Nat → ClassId) (sz : Nat) (r : Nat → Nat) : Met l y_X12_cell (Cond.code y_X12_cell b_X12_cell 2 (some .int) :: GW) ({ frames := 1, cells := 0, slots := 0, locals := 23 }) (va_Pc [.ref (r 0)] (kPre D cy sz [((r 0), .inr (12, (oLU r))), ((r 10), .inr (4, (oIma r)))])) ((fun A : Nat → Prop => va_Qi (S := Unit) (fun (r : Int32) (_ : Unit) => r = (-1)) (fun _ => kPost D cy A []) A) (va_A [((r 0), .inr (12, (oLU r))), ((r 10), .inr (4, (oIma r)))] sz)) 0 0 (va_A [((r 0), .inr (12, (oLU r))), ((r 10), .inr (4, (oIma r)))] sz) := by
  refine k_ofW (Qc := fun A => va_Qi (S := Unit) (fun (r : Int32) (_ : Unit) => r = (-1)) (fun _ => kPost D cy A []) A) (by decide) (Nat.le_of_ble_eq_true rfl) ?_
  intro p e s m below meth c A ls hx hb hr hml hown hlocks hin hg hNW hK hP hD hA hS hl
  have hl : lv_has ls 2 [(0, .ref (r 0))] := hl
  have hown : s.vm.findClass "LinkedUnits" = some m.cls := hown
  refine lv_aload_n hx hb d_X12_cell_0 rfl (lv_at hl 0 rfl) ?_
  refine va_get (D := D) (ci := 12) (v := .int 0) (C := "LinkedUnits") (T := TX12) (N := 15) hx hb hg iwX12 hown hK hP 0 rfl rfl 1 (by decide) (hg _ m_736) (fun _ h9 => h9) rfl d_X12_cell_1 ?_
  refine lv_istore_n (lv' := [(1, .int 0), (0, .ref (r 0))]) hx hb d_X12_cell_4 rfl hl (by decide) rfl (fun ls hl => ?_)
  refine lv_aload_n hx hb d_X12_cell_5 rfl (lv_at hl 1 rfl) ?_
  refine lv_iconst (v := 0) hx hb d_X12_cell_6 (by decide) ?_
  refine va_put (D := D) (ci := 12) (v := .int 0) (ty := .int) (C := "LinkedUnits") (T := TX12) (N := 15) hx hb hg iwX12 tyX12 tyX12_ok nmX12 hown hK hP hD hS 0 rfl rfl 1 (by decide) (hg _ m_736) (fun _ h9 => h9) rfl (by decide +kernel) rfl rfl (Nat.le_of_ble_eq_true rfl) d_X12_cell_7 (fun H locs hP hD hS => ?_)
  have hP : va_P D vwCl [((r 0), .inr (12, ((oLU r).set 1 (.int 0)))), ((r 10), .inr (4, (oIma r)))] H := hP
  have hD : va_D A [((r 0), .inr (12, ((oLU r).set 1 (.int 0)))), ((r 10), .inr (4, (oIma r)))] := hD
  refine lv_aload_n hx hb d_X12_cell_10 rfl (lv_at hl 1 rfl) ?_
  refine va_get (D := D) (ci := 12) (v := .ref (r 10)) (C := "LinkedUnits") (T := TX12) (N := 15) hx hb hg iwX12 hown hK hP 0 rfl rfl 12 (by decide) (hg _ m_747) (fun _ h9 => h9) rfl d_X12_cell_11 ?_
  refine lv_aload_n hx hb d_X12_cell_14 rfl (lv_at hl 1 rfl) ?_
  refine va_get (D := D) (ci := 12) (v := .ref (r 1)) (C := "LinkedUnits") (T := TX12) (N := 15) hx hb hg iwX12 hown hK hP 0 rfl rfl 0 (by decide) (hg _ m_735) (fun _ h9 => h9) rfl d_X12_cell_15 ?_
  refine lv_iload_n hx hb d_X12_cell_18 rfl (lv_at hl 0 rfl) ?_
  refine k_calli (wc := [((r 10), .inr (4, (oIma r)))]) (wr := [((r 0), .inr (12, ((oLU r).set 1 (.int 0))))]) (va_runVN (As := [.ref (r 1), .int 0]) (rest := []) ⟨hx, hb, hml, hown, hg⟩ (c_choose0 l D cy H.size r ) ⟨(va_cnB 2 hg (gw_c m_1616) rfl rfl rfl (hNW.1 _ nm_1613) (hg _ m_15) (by decide +kernel) ⟨(Nat.le_of_ble_eq_true rfl), (Nat.le_of_ble_eq_true rfl)⟩), (hg _ m_1615), hg _ ms_X4_cellOf⟩ (k_preV (As := [.ref (r 1), .int 0]) hP hD hK hNW [1] (by decide) rfl 1 rfl rfl) rfl rfl hl.1 rfl (lv_room (Nat.le_of_ble_eq_true rfl)) d_X12_cell_19 ⟨(Nat.le_of_ble_eq_true rfl), (Nat.le_of_ble_eq_true rfl)⟩) hP hD hS hA [1] [0] rfl rfl (by decide) (by decide) (fun r1 u1 H locs hw hP hD hS => ?_)
  have hP : va_P D vwCl [((r 0), .inr (12, ((oLU r).set 1 (.int 0)))), ((r 10), .inr (4, (oIma r)))] H := hP
  have hD : va_D A [((r 0), .inr (12, ((oLU r).set 1 (.int 0)))), ((r 10), .inr (4, (oIma r)))] := hD
  obtain rfl : r1 = (-1) := hw
  refine W.widen (k := 0) (n := 0) (Nat.le_of_ble_eq_true rfl) (Nat.le_of_ble_eq_true rfl) ?_
  exact k_iret (X := Unit) (w1 := fun _ => []) () hx hb hr d_X12_cell_22 hlocks (hP.sub [] rfl) hK (hD.sub [] (by decide) rfl) hS rfl
set_option maxHeartbeats 4000000 in
set_option maxRecDepth 100000 in
theorem c_input (l : Launch) (D : va_G) (cy : Nat → ClassId) (sz : Nat) (r : Nat → Nat) (b : Int32) : Met l y_X12_input (Cond.code y_X12_input b_X12_input 2 (some .int) :: GW) ({ frames := 1, cells := 0, slots := 0, locals := 21 }) (va_Pc [.ref (r 0), .int b] (kPre D cy sz [((r 0), .inr (12, (oLU r))), ((r 11), .inr (9, (oTap r))), ((r 60), .inl (cy 0, 4096, .inl (fun _ => 0)))])) ((fun A : Nat → Prop => va_Qi (S := Unit) (fun (r : Int32) (_ : Unit) => r = 1) (fun _ => kPost D cy A []) A) (va_A [((r 0), .inr (12, (oLU r))), ((r 11), .inr (9, (oTap r))), ((r 60), .inl (cy 0, 4096, .inl (fun _ => 0)))] sz)) 0 0 (va_A [((r 0), .inr (12, (oLU r))), ((r 11), .inr (9, (oTap r))), ((r 60), .inl (cy 0, 4096, .inl (fun _ => 0)))] sz) := by
  refine k_ofW (Qc := fun A => va_Qi (S := Unit) (fun (r : Int32) (_ : Unit) => r = 1) (fun _ => kPost D cy A []) A) (by decide) (Nat.le_of_ble_eq_true rfl) ?_
  intro p e s m below meth c A ls hx hb hr hml hown hlocks hin hg hNW hK hP hD hA hS hl
  have hl : lv_has ls 2 [(0, .ref (r 0)), (1, .int b)] := hl
  have hown : s.vm.findClass "LinkedUnits" = some m.cls := hown
  refine lv_aload_n hx hb d_X12_input_0 rfl (lv_at hl 0 rfl) ?_
  refine va_get (D := D) (ci := 12) (v := .ref (r 11)) (C := "LinkedUnits") (T := TX12) (N := 15) hx hb hg iwX12 hown hK hP 0 rfl rfl 13 (by decide) (hg _ m_748) (fun _ h9 => h9) rfl d_X12_input_1 ?_
  refine lv_iload_n hx hb d_X12_input_4 rfl (lv_at hl 1 rfl) ?_
  refine k_calli (wc := [((r 11), .inr (9, (oTap r))), ((r 60), .inl (cy 0, 4096, .inl (fun _ => 0)))]) (wr := [((r 0), .inr (12, (oLU r)))]) (va_runVN (As := [.int b]) (rest := []) ⟨hx, hb, hml, hown, hg⟩ (c_give l D cy s.heap.size r b ) ⟨(va_cnB 1 hg (gw_c m_1624) rfl rfl rfl (hNW.1 _ nm_1621) (hg _ m_16) (by decide +kernel) ⟨(Nat.le_of_ble_eq_true rfl), (Nat.le_of_ble_eq_true rfl)⟩), (hg _ m_1623), hg _ ms_X9_give⟩ (k_preV (As := [.int b]) hP hD hK hNW [1, 2] (by decide) rfl 1 rfl rfl) rfl rfl hl.1 rfl (lv_room (Nat.le_of_ble_eq_true rfl)) d_X12_input_5 ⟨(Nat.le_of_ble_eq_true rfl), (Nat.le_of_ble_eq_true rfl)⟩) hP hD hS hA [1, 2] [0] rfl rfl (by decide) (by decide) (fun r1 u1 H locs hw hP hD hS => ?_)
  have hP : va_P D vwCl [((r 0), .inr (12, (oLU r)))] H := hP
  have hD : va_D A [((r 0), .inr (12, (oLU r)))] := hD
  obtain rfl : r1 = 1 := hw
  refine W.widen (k := 0) (n := 0) (Nat.le_of_ble_eq_true rfl) (Nat.le_of_ble_eq_true rfl) ?_
  exact k_iret (X := Unit) (w1 := fun _ => []) () hx hb hr d_X12_input_8 hlocks (hP.sub [] rfl) hK (hD.sub [] (by decide) rfl) hS rfl
set_option maxHeartbeats 4000000 in
set_option maxRecDepth 100000 in
theorem c_run (l : Launch) (D : va_G) (cy : Nat → ClassId) (sz : Nat) (r : Nat → Nat) (fuel : Int32) : Met l y_X12_run (Cond.code y_X12_run b_X12_run 2 (some .int) :: GW) ({ frames := 0, cells := 0, slots := 0, locals := 0 }) (va_Pc [.ref (r 0), .int fuel] (kPre D cy sz [((r 0), .inr (12, (oLU r))), ((r 10), .inr (4, (oIma r)))])) ((fun A : Nat → Prop => va_Qi (S := Unit) (fun (r : Int32) (_ : Unit) => r = (-1)) (fun _ => kPost D cy A []) A) (va_A [((r 0), .inr (12, (oLU r))), ((r 10), .inr (4, (oIma r)))] sz)) 0 0 (va_A [((r 0), .inr (12, (oLU r))), ((r 10), .inr (4, (oIma r)))] sz) := by
  refine k_ofW (Qc := fun A => va_Qi (S := Unit) (fun (r : Int32) (_ : Unit) => r = (-1)) (fun _ => kPost D cy A []) A) (by decide) (Nat.le_of_ble_eq_true rfl) ?_
  intro p e s m below meth c A ls hx hb hr hml hown hlocks hin hg hNW hK hP hD hA hS hl
  have hl : lv_has ls 2 [(0, .ref (r 0)), (1, .int fuel)] := hl
  have hown : s.vm.findClass "LinkedUnits" = some m.cls := hown
  refine lv_aload_n hx hb d_X12_run_0 rfl (lv_at hl 0 rfl) ?_
  refine va_get (D := D) (ci := 12) (v := .ref (r 10)) (C := "LinkedUnits") (T := TX12) (N := 15) hx hb hg iwX12 hown hK hP 0 rfl rfl 12 (by decide) (hg _ m_747) (fun _ h9 => h9) rfl d_X12_run_1 ?_
  refine va_getN (D := D) (ci := 4) (v := .int 0) (C := "LinkedUnits$Image") (T := TX4) (N := 12) hx hb hg iwX4 hown hK hP 1 rfl rfl 2 (by decide) (va_Nw.use rfl (hNW.1 _ nm_600)) (fun _ h9 => h9) rfl d_X12_run_4 ?_
  refine lv_if_ne (tgt := 12) hx hb d_X12_run_7 (by decide) (fun c_7 => absurd c_7 (by decide)) (fun _ => ?_)
  refine lv_iconst (v := (-1)) hx hb d_X12_run_10 (by decide) ?_
  refine W.widen (k := 0) (n := 0) (Nat.le_of_ble_eq_true rfl) (Nat.le_of_ble_eq_true rfl) ?_
  exact k_iret (X := Unit) (w1 := fun _ => []) () hx hb hr d_X12_run_11 hlocks (hP.sub [] rfl) hK (hD.sub [] (by decide) rfl) hS rfl
set_option maxHeartbeats 4000000 in
set_option maxRecDepth 100000 in
theorem c_trap (l : Launch) (D : va_G) (cy : Nat → ClassId) (sz : Nat) (r : Nat → Nat) (what : Int32) : Met l y_X12_trap (Cond.code y_X12_trap b_X12_trap 2 (some .int) :: GW) ({ frames := 1, cells := 0, slots := 0, locals := 22 }) (va_Pc [.ref (r 0), .int what] (kPre D cy sz [((r 0), .inr (12, (oLU r))), ((r 12), .inr (5, (oMac r))), ((r 5), .inr (8, (oSto r)))])) ((fun A : Nat → Prop => va_Qi (S := Unit) (fun (r : Int32) (_ : Unit) => r = 0) (fun _ => kPost D cy A []) A) (va_A [((r 0), .inr (12, (oLU r))), ((r 12), .inr (5, (oMac r))), ((r 5), .inr (8, (oSto r)))] sz)) 0 0 (va_A [((r 0), .inr (12, (oLU r))), ((r 12), .inr (5, (oMac r))), ((r 5), .inr (8, (oSto r)))] sz) := by
  refine k_ofW (Qc := fun A => va_Qi (S := Unit) (fun (r : Int32) (_ : Unit) => r = 0) (fun _ => kPost D cy A []) A) (by decide) (Nat.le_of_ble_eq_true rfl) ?_
  intro p e s m below meth c A ls hx hb hr hml hown hlocks hin hg hNW hK hP hD hA hS hl
  have hl : lv_has ls 2 [(0, .ref (r 0)), (1, .int what)] := hl
  have hown : s.vm.findClass "LinkedUnits" = some m.cls := hown
  refine lv_iload_n hx hb d_X12_trap_0 rfl (lv_at hl 1 rfl) ?_
  refine lv_if_ne (tgt := 21) hx hb d_X12_trap_1 (by decide) (fun c_1 => ?_) (fun c_1 => ?_)
  · -- taken at 1
    refine lv_iload_n hx hb d_X12_trap_21 rfl (lv_at hl 1 rfl) ?_
    refine lv_iconst (v := 1) hx hb d_X12_trap_22 (by decide) ?_
    refine lv_icmp_ne (tgt := 36) hx hb d_X12_trap_23 (by decide) (fun c_23 => ?_) (fun c_23 => ?_)
    · -- taken at 23
      refine lv_iconst (v := 0) hx hb d_X12_trap_36 (by decide) ?_
      refine W.widen (k := 0) (n := 0) (Nat.le_of_ble_eq_true rfl) (Nat.le_of_ble_eq_true rfl) ?_
      exact k_iret (X := Unit) (w1 := fun _ => []) () hx hb hr d_X12_trap_37 hlocks (hP.sub [] rfl) hK (hD.sub [] (by decide) rfl) hS rfl
    · -- not taken at 23
      refine lv_aload_n hx hb d_X12_trap_26 rfl (lv_at hl 0 rfl) ?_
      refine va_get (D := D) (ci := 12) (v := .ref (r 12)) (C := "LinkedUnits") (T := TX12) (N := 15) hx hb hg iwX12 hown hK hP 0 rfl rfl 14 (by decide) (hg _ m_749) (fun _ h9 => h9) rfl d_X12_trap_27 ?_
      refine va_getN (D := D) (ci := 5) (v := .int 0) (C := "LinkedUnits$Machine") (T := TX5) (N := 19) hx hb hg iwX5 hown hK hP 1 rfl rfl 17 (by decide) (va_Nw.use rfl (hNW.1 _ nm_693)) (fun _ h9 => h9) rfl d_X12_trap_30 ?_
      refine lv_goto (tgt := 37) hx hb d_X12_trap_33 (by decide) ?_
      refine W.widen (k := 0) (n := 0) (Nat.le_of_ble_eq_true rfl) (Nat.le_of_ble_eq_true rfl) ?_
      exact k_iret (X := Unit) (w1 := fun _ => []) () hx hb hr d_X12_trap_37 hlocks (hP.sub [] rfl) hK (hD.sub [] (by decide) rfl) hS rfl
  · -- not taken at 1
    refine lv_aload_n hx hb d_X12_trap_4 rfl (lv_at hl 0 rfl) ?_
    refine va_get (D := D) (ci := 12) (v := .ref (r 5)) (C := "LinkedUnits") (T := TX12) (N := 15) hx hb hg iwX12 hown hK hP 0 rfl rfl 7 (by decide) (hg _ m_742) (fun _ h9 => h9) rfl d_X12_trap_5 ?_
    refine lv_aload_n hx hb d_X12_trap_8 rfl (lv_at hl 0 rfl) ?_
    refine va_get (D := D) (ci := 12) (v := .ref (r 12)) (C := "LinkedUnits") (T := TX12) (N := 15) hx hb hg iwX12 hown hK hP 0 rfl rfl 14 (by decide) (hg _ m_749) (fun _ h9 => h9) rfl d_X12_trap_9 ?_
    refine va_getN (D := D) (ci := 5) (v := .int (-1)) (C := "LinkedUnits$Machine") (T := TX5) (N := 19) hx hb hg iwX5 hown hK hP 1 rfl rfl 16 (by decide) (va_Nw.use rfl (hNW.1 _ nm_691)) (fun _ h9 => h9) rfl d_X12_trap_12 ?_
    refine k_calli (wc := [((r 5), .inr (8, (oSto r)))]) (wr := [((r 0), .inr (12, (oLU r))), ((r 12), .inr (5, (oMac r)))]) (va_runVN (As := [.int (-1)]) (rest := []) ⟨hx, hb, hml, hown, hg⟩ (c_objectAt l D cy s.heap.size r ) ⟨(va_cnB 1 hg (gw_c m_1771) rfl rfl rfl (hNW.1 _ nm_1768) (hg _ m_5) (by decide +kernel) ⟨(Nat.le_of_ble_eq_true rfl), (Nat.le_of_ble_eq_true rfl)⟩), (hg _ m_1770), hg _ ms_X8_objectAt⟩ (k_preV (As := [.int (-1)]) hP hD hK hNW [2] (by decide) rfl 2 rfl rfl) rfl rfl hl.1 rfl (lv_room (Nat.le_of_ble_eq_true rfl)) d_X12_trap_15 ⟨(Nat.le_of_ble_eq_true rfl), (Nat.le_of_ble_eq_true rfl)⟩) hP hD hS hA [2] [0, 1] rfl rfl (by decide) (by decide) (fun r1 u1 H locs hw hP hD hS => ?_)
    have hP : va_P D vwCl [((r 0), .inr (12, (oLU r))), ((r 12), .inr (5, (oMac r))), ((r 5), .inr (8, (oSto r)))] H := hP
    have hD : va_D A [((r 0), .inr (12, (oLU r))), ((r 12), .inr (5, (oMac r))), ((r 5), .inr (8, (oSto r)))] := hD
    obtain rfl : r1 = 0 := hw
    refine lv_goto (tgt := 37) hx hb d_X12_trap_18 (by decide) ?_
    refine W.widen (k := 0) (n := 0) (Nat.le_of_ble_eq_true rfl) (Nat.le_of_ble_eq_true rfl) ?_
    exact k_iret (X := Unit) (w1 := fun _ => []) () hx hb hr d_X12_trap_37 hlocks (hP.sub [] rfl) hK (hD.sub [] (by decide) rfl) hS rfl
set_option maxHeartbeats 4000000 in
set_option maxRecDepth 100000 in
theorem c_out (l : Launch) (D : va_G) (cy : Nat → ClassId) (sz : Nat) (r : Nat → Nat) (i : Int32) : Met l y_X12_out (Cond.code y_X12_out b_X12_out 2 (some .int) :: GW) ({ frames := 1, cells := 0, slots := 0, locals := 21 }) (va_Pc [.ref (r 0), .int i] (kPre D cy sz [((r 0), .inr (12, (oLU r))), ((r 11), .inr (9, (oTap r)))])) ((fun A : Nat → Prop => va_Qi (S := Unit) (fun (r : Int32) (_ : Unit) => r = (-1)) (fun _ => kPost D cy A []) A) (va_A [((r 0), .inr (12, (oLU r))), ((r 11), .inr (9, (oTap r)))] sz)) 0 0 (va_A [((r 0), .inr (12, (oLU r))), ((r 11), .inr (9, (oTap r)))] sz) := by
  refine k_ofW (Qc := fun A => va_Qi (S := Unit) (fun (r : Int32) (_ : Unit) => r = (-1)) (fun _ => kPost D cy A []) A) (by decide) (Nat.le_of_ble_eq_true rfl) ?_
  intro p e s m below meth c A ls hx hb hr hml hown hlocks hin hg hNW hK hP hD hA hS hl
  have hl : lv_has ls 2 [(0, .ref (r 0)), (1, .int i)] := hl
  have hown : s.vm.findClass "LinkedUnits" = some m.cls := hown
  refine lv_aload_n hx hb d_X12_out_0 rfl (lv_at hl 0 rfl) ?_
  refine va_get (D := D) (ci := 12) (v := .ref (r 11)) (C := "LinkedUnits") (T := TX12) (N := 15) hx hb hg iwX12 hown hK hP 0 rfl rfl 13 (by decide) (hg _ m_748) (fun _ h9 => h9) rfl d_X12_out_1 ?_
  refine lv_iload_n hx hb d_X12_out_4 rfl (lv_at hl 1 rfl) ?_
  refine k_calli (wc := [((r 11), .inr (9, (oTap r)))]) (wr := [((r 0), .inr (12, (oLU r)))]) (va_runVN (As := [.int i]) (rest := []) ⟨hx, hb, hml, hown, hg⟩ (c_byteAt l D cy s.heap.size r i ) ⟨(va_cnB 1 hg (gw_c m_1783) rfl rfl rfl (hNW.1 _ nm_1780) (hg _ m_16) (by decide +kernel) ⟨(Nat.le_of_ble_eq_true rfl), (Nat.le_of_ble_eq_true rfl)⟩), (hg _ m_1782), hg _ ms_X9_byteAt⟩ (k_preV (As := [.int i]) hP hD hK hNW [1] (by decide) rfl 1 rfl rfl) rfl rfl hl.1 rfl (lv_room (Nat.le_of_ble_eq_true rfl)) d_X12_out_5 ⟨(Nat.le_of_ble_eq_true rfl), (Nat.le_of_ble_eq_true rfl)⟩) hP hD hS hA [1] [0] rfl rfl (by decide) (by decide) (fun r1 u1 H locs hw hP hD hS => ?_)
  have hP : va_P D vwCl [((r 0), .inr (12, (oLU r))), ((r 11), .inr (9, (oTap r)))] H := hP
  have hD : va_D A [((r 0), .inr (12, (oLU r))), ((r 11), .inr (9, (oTap r)))] := hD
  obtain rfl : r1 = (-1) := hw
  refine W.widen (k := 0) (n := 0) (Nat.le_of_ble_eq_true rfl) (Nat.le_of_ble_eq_true rfl) ?_
  exact k_iret (X := Unit) (w1 := fun _ => []) () hx hb hr d_X12_out_8 hlocks (hP.sub [] rfl) hK (hD.sub [] (by decide) rfl) hS rfl
set_option maxHeartbeats 4000000 in
set_option maxRecDepth 100000 in
/-- at: of a row that is 0 -/
theorem c_at_zero (l : Launch) (D : va_G) (cy : Nat → ClassId) (sz : Nat) (q n : Nat) (i : Int32) (hn : n < 2 ^ 31) : Met l y_X12_at (Cond.code y_X12_at b_X12_at 2 (some .int) :: GW) ({ frames := 0, cells := 0, slots := 0, locals := 0 }) (va_Pc [.ref q, .int i] (kPre D cy sz [(q, .inl (cy 1, n, .inl (fun _ => 0)))])) ((fun A : Nat → Prop => va_Qi (S := Unit) (fun (r : Int32) (_ : Unit) => r = 0) (fun _ => kPost D cy A [(q, .inl (cy 1, n, .inl (fun _ => 0)))]) A) (va_A [(q, .inl (cy 1, n, .inl (fun _ => 0)))] sz)) 0 0 (va_A [(q, .inl (cy 1, n, .inl (fun _ => 0)))] sz) := by
  refine k_ofW (Qc := fun A => va_Qi (S := Unit) (fun (r : Int32) (_ : Unit) => r = 0) (fun _ => kPost D cy A [(q, .inl (cy 1, n, .inl (fun _ => 0)))]) A) (by decide) (Nat.le_of_ble_eq_true rfl) ?_
  intro p e s m below meth c A ls hx hb hr hml hown hlocks hin hg hNW hK hP hD hA hS hl
  have hl : lv_has ls 2 [(0, .ref q), (1, .int i)] := hl
  have hown : s.vm.findClass "LinkedUnits" = some m.cls := hown
  refine lv_iload_n hx hb d_X12_at_0 rfl (lv_at hl 1 rfl) ?_
  refine lv_if_lt (tgt := 16) hx hb d_X12_at_1 (by decide) (fun c_1 => ?_) (fun c_1 => ?_)
  · -- taken at 1
    refine lv_iconst (v := 0) hx hb d_X12_at_16 (by decide) ?_
    refine W.widen (k := 0) (n := 0) (Nat.le_of_ble_eq_true rfl) (Nat.le_of_ble_eq_true rfl) ?_
    exact k_iret (X := Unit) (w1 := fun _ => [(q, .inl (cy 1, n, .inl (fun _ => 0)))]) () hx hb hr d_X12_at_17 hlocks (hP.sub [0] rfl) hK (hD.sub [0] (by decide) rfl) hS rfl
  · -- not taken at 1
    refine lv_iload_n hx hb d_X12_at_4 rfl (lv_at hl 1 rfl) ?_
    refine lv_aload_n hx hb d_X12_at_5 rfl (lv_at hl 0 rfl) ?_
    refine va_alen hx hb hK hP 0 1 rfl rfl (v := nI n) rfl d_X12_at_6 ?_
    refine lv_icmp_ge (tgt := 16) hx hb d_X12_at_7 (by decide) (fun c_7 => ?_) (fun c_7 => ?_)
    · -- taken at 7
      refine lv_iconst (v := 0) hx hb d_X12_at_16 (by decide) ?_
      refine W.widen (k := 0) (n := 0) (Nat.le_of_ble_eq_true rfl) (Nat.le_of_ble_eq_true rfl) ?_
      exact k_iret (X := Unit) (w1 := fun _ => [(q, .inl (cy 1, n, .inl (fun _ => 0)))]) () hx hb hr d_X12_at_17 hlocks (hP.sub [0] rfl) hK (hD.sub [0] (by decide) rfl) hS rfl
    · -- not taken at 7
      refine lv_aload_n hx hb d_X12_at_10 rfl (lv_at hl 0 rfl) ?_
      refine lv_iload_n hx hb d_X12_at_11 rfl (lv_at hl 1 rfl) ?_
      refine va_iald hx hb hK hP 0 1 rfl rfl (k_in hn c_1 c_7) d_X12_at_12 ?_
      refine k_topi 0 (by rfl) ?_
      refine lv_goto (tgt := 17) hx hb d_X12_at_13 (by decide) ?_
      refine W.widen (k := 0) (n := 0) (Nat.le_of_ble_eq_true rfl) (Nat.le_of_ble_eq_true rfl) ?_
      exact k_iret (X := Unit) (w1 := fun _ => [(q, .inl (cy 1, n, .inl (fun _ => 0)))]) () hx hb hr d_X12_at_17 hlocks (hP.sub [0] rfl) hK (hD.sub [0] (by decide) rfl) hS rfl
set_option maxHeartbeats 4000000 in
set_option maxRecDepth 100000 in
theorem c_peek (l : Launch) (D : va_G) (cy : Nat → ClassId) (sz : Nat) (r : Nat → Nat) (i : Int32) : Met l y_X12_peek (Cond.code y_X12_peek b_X12_peek 2 (some .int) :: GW) ({ frames := 1, cells := 0, slots := 0, locals := 21 }) (va_Pc [.ref (r 0), .int i] (kPre D cy sz [((r 0), .inr (12, (oLU r))), ((r 12), .inr (5, (oMac r))), ((r 62), .inl (cy 1, 32768, .inl (fun _ => 0)))])) ((fun A : Nat → Prop => va_Qi (S := Unit) (fun (r : Int32) (_ : Unit) => r = 0) (fun _ => kPost D cy A []) A) (va_A [((r 0), .inr (12, (oLU r))), ((r 12), .inr (5, (oMac r))), ((r 62), .inl (cy 1, 32768, .inl (fun _ => 0)))] sz)) 0 0 (va_A [((r 0), .inr (12, (oLU r))), ((r 12), .inr (5, (oMac r))), ((r 62), .inl (cy 1, 32768, .inl (fun _ => 0)))] sz) := by
  refine k_ofW (Qc := fun A => va_Qi (S := Unit) (fun (r : Int32) (_ : Unit) => r = 0) (fun _ => kPost D cy A []) A) (by decide) (Nat.le_of_ble_eq_true rfl) ?_
  intro p e s m below meth c A ls hx hb hr hml hown hlocks hin hg hNW hK hP hD hA hS hl
  have hl : lv_has ls 2 [(0, .ref (r 0)), (1, .int i)] := hl
  have hown : s.vm.findClass "LinkedUnits" = some m.cls := hown
  refine lv_aload_n hx hb d_X12_peek_0 rfl (lv_at hl 0 rfl) ?_
  refine va_get (D := D) (ci := 12) (v := .ref (r 12)) (C := "LinkedUnits") (T := TX12) (N := 15) hx hb hg iwX12 hown hK hP 0 rfl rfl 14 (by decide) (hg _ m_749) (fun _ h9 => h9) rfl d_X12_peek_1 ?_
  refine va_getN (D := D) (ci := 5) (v := .ref (r 62)) (C := "LinkedUnits$Machine") (T := TX5) (N := 19) hx hb hg iwX5 hown hK hP 1 rfl rfl 4 (by decide) (va_Nw.use rfl (hNW.1 _ nm_676)) (fun _ h9 => h9) rfl d_X12_peek_4 ?_
  refine lv_iload_n hx hb d_X12_peek_7 rfl (lv_at hl 1 rfl) ?_
  refine k_calli (wc := [((r 62), .inl (cy 1, 32768, .inl (fun _ => 0)))]) (wr := [((r 0), .inr (12, (oLU r))), ((r 12), .inr (5, (oMac r)))]) (va_runS (As := [.ref (r 62), .int i]) (rest := []) ⟨hx, hb, hml, hown, hg⟩ (c_at_zero l D cy s.heap.size (r 62) 32768 i (Nat.le_of_ble_eq_true rfl)) (cwS 2 hg (gw_S m_1036 m_948 m_1 m_949) rfl rfl rfl (by decide +kernel) ⟨(Nat.le_of_ble_eq_true rfl), (Nat.le_of_ble_eq_true rfl)⟩) (k_preS hP hD hK hNW [2] (by decide) rfl) rfl rfl hl.1 rfl (lv_room (Nat.le_of_ble_eq_true rfl)) d_X12_peek_8 ⟨(Nat.le_of_ble_eq_true rfl), (Nat.le_of_ble_eq_true rfl)⟩) hP hD hS hA [2] [0, 1] rfl rfl (by decide) (by decide) (fun r1 u1 H locs hw hP hD hS => ?_)
  have hP : va_P D vwCl [((r 0), .inr (12, (oLU r))), ((r 12), .inr (5, (oMac r))), ((r 62), .inl (cy 1, 32768, .inl (fun _ => 0)))] H := hP
  have hD : va_D A [((r 0), .inr (12, (oLU r))), ((r 12), .inr (5, (oMac r))), ((r 62), .inl (cy 1, 32768, .inl (fun _ => 0)))] := hD
  obtain rfl : r1 = 0 := hw
  refine W.widen (k := 0) (n := 0) (Nat.le_of_ble_eq_true rfl) (Nat.le_of_ble_eq_true rfl) ?_
  exact k_iret (X := Unit) (w1 := fun _ => []) () hx hb hr d_X12_peek_11 hlocks (hP.sub [] rfl) hK (hD.sub [] (by decide) rfl) hS rfl
