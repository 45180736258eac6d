set_option maxHeartbeats 4000000 in
set_option maxRecDepth 100000 in
theorem c_takeBytes_0 (l : Launch) (D : va_G) (cy : Nat → ClassId) (sz : Nat) (r : Nat → Nat) (f : Nat → Int32) (four : Int32) : Met l y_X12_takeBytes (Cond.code y_X12_takeBytes b_X12_takeBytes 3 none :: GW) ({ frames := 0, cells := 0, slots := 0, locals := 0 }) (va_Pc [.ref (r 0), .int four] (kPre D cy sz [((r 0), .inr (12, (oLU r))), ((r 1), .inl (cy 0, 16000, .inl f))])) ((fun A : Nat → Prop => va_Qv (S := Nat → Int32) (fun (_ : Nat → Int32) => True) (fun g => kPost D cy A [((r 0), .inr (12, ((oLU r).set 1 (.int 4)))), ((r 1), .inl (cy 0, 16000, .inl g))]) A) (va_A [((r 0), .inr (12, (oLU r))), ((r 1), .inl (cy 0, 16000, .inl f))] sz)) 0 0 (va_A [((r 0), .inr (12, (oLU r))), ((r 1), .inl (cy 0, 16000, .inl f))] sz) := by
  refine k_ofW (Qc := fun A => va_Qv (S := Nat → Int32) (fun (_ : Nat → Int32) => True) (fun g => kPost D cy A [((r 0), .inr (12, ((oLU r).set 1 (.int 4)))), ((r 1), .inl (cy 0, 16000, .inl g))]) A) (by decide) (Nat.le_of_ble_eq_true rfl) ?_
  intro p e s m below meth c A ls hx hb hr hml hown hlocks hin hg hNW hK hP hD hA hS hl
  have hl : lv_has ls 3 [(0, .ref (r 0)), (1, .int four)] := hl
  have hown : s.vm.findClass "LinkedUnits" = some m.cls := hown
  refine lv_bipush (v := 24) hx hb d_X12_takeBytes_0 (by decide) ?_
  refine lv_istore_n (lv' := [(2, .int 24), (0, .ref (r 0)), (1, .int four)]) hx hb d_X12_takeBytes_2 rfl hl (by decide) rfl (fun ls hl => ?_)
  refine lv_iload_n hx hb d_X12_takeBytes_3 rfl (lv_at hl 0 rfl) ?_
  refine lv_if_lt (tgt := 48) hx hb d_X12_takeBytes_4 (by decide) (fun c_4 => absurd c_4 (by decide)) (fun _ => ?_)
  refine lv_aload_n hx hb d_X12_takeBytes_7 rfl (lv_at hl 1 rfl) ?_
  refine va_get (D := D) (ci := 12) (v := .int 0) (C := "LinkedUnits") (T := TX12) (N := 15) hx hb hg iwX12 hown hK hP 0 rfl rfl 1 (by decide) (hg _ m_736) (fun _ h9 => h9) rfl d_X12_takeBytes_8 ?_
  refine lv_aload_n hx hb d_X12_takeBytes_11 rfl (lv_at hl 1 rfl) ?_
  refine va_get (D := D) (ci := 12) (v := .ref (r 1)) (C := "LinkedUnits") (T := TX12) (N := 15) hx hb hg iwX12 hown hK hP 0 rfl rfl 0 (by decide) (hg _ m_735) (fun _ h9 => h9) rfl d_X12_takeBytes_12 ?_
  refine va_alen hx hb hK hP 1 0 rfl rfl (v := 16000) (by show Int32.ofNat 16000 = 16000; decide) d_X12_takeBytes_15 ?_
  refine lv_icmp_ge (tgt := 48) hx hb d_X12_takeBytes_16 (by decide) (fun c_16 => absurd c_16 (by decide)) (fun _ => ?_)
  refine lv_aload_n hx hb d_X12_takeBytes_19 rfl (lv_at hl 1 rfl) ?_
  refine va_get (D := D) (ci := 12) (v := .ref (r 1)) (C := "LinkedUnits") (T := TX12) (N := 15) hx hb hg iwX12 hown hK hP 0 rfl rfl 0 (by decide) (hg _ m_735) (fun _ h9 => h9) rfl d_X12_takeBytes_20 ?_
  refine lv_aload_n hx hb d_X12_takeBytes_23 rfl (lv_at hl 1 rfl) ?_
  refine va_get (D := D) (ci := 12) (v := .int 0) (C := "LinkedUnits") (T := TX12) (N := 15) hx hb hg iwX12 hown hK hP 0 rfl rfl 1 (by decide) (hg _ m_736) (fun _ h9 => h9) rfl d_X12_takeBytes_24 ?_
  refine lv_iload_n hx hb d_X12_takeBytes_27 rfl (lv_at hl 2 rfl) ?_
  refine lv_iload_n hx hb d_X12_takeBytes_28 rfl (lv_at hl 0 rfl) ?_
  refine lv_ishr hx hb d_X12_takeBytes_29 ?_
  refine lv_i2b (v := ((four >>> (24 &&& 31))).toInt8.toInt32) hx hb d_X12_takeBytes_30 rfl ?_
  refine k_bast_any hx hb hK hP hD hS 1 0 rfl rfl (k_inK (by decide)) d_X12_takeBytes_31 (fun g1 H locs hP hD hS => ?_)
  have hP : va_P D vwCl [((r 0), .inr (12, (oLU r))), ((r 1), .inl (cy 0, 16000, .inl g1))] H := hP
  have hD : va_D A [((r 0), .inr (12, (oLU r))), ((r 1), .inl (cy 0, 16000, .inl g1))] := hD
  refine lv_aload_n hx hb d_X12_takeBytes_32 rfl (lv_at hl 1 rfl) ?_
  refine lv_dup hx hb d_X12_takeBytes_33 rfl ?_
  refine va_get (D := D) (ci := 12) (v := .int 0) (C := "LinkedUnits") (T := TX12) (N := 15) hx hb hg iwX12 hown hK hP 0 rfl rfl 1 (by decide) (hg _ m_736) (fun _ h9 => h9) rfl d_X12_takeBytes_34 ?_
  refine lv_iconst (v := 1) hx hb d_X12_takeBytes_37 (by decide) ?_
  refine lv_iadd hx hb d_X12_takeBytes_38 ?_
  refine k_topi 1 (by decide) ?_
  refine va_put (D := D) (ci := 12) (v := .int 1) (ty := .int) (C := "LinkedUnits") (T := TX12) (N := 15) hx hb hg iwX12 tyX12 tyX12_ok nmX12 hown hK hP hD hS 0 rfl rfl 1 (by decide) (hg _ m_736) (fun _ h9 => h9) rfl (by decide +kernel) rfl rfl (Nat.le_of_ble_eq_true rfl) d_X12_takeBytes_39 (fun H locs hP hD hS => ?_)
  have hP : va_P D vwCl [((r 0), .inr (12, ((oLU r).set 1 (.int 1)))), ((r 1), .inl (cy 0, 16000, .inl g1))] H := hP
  have hD : va_D A [((r 0), .inr (12, ((oLU r).set 1 (.int 1)))), ((r 1), .inl (cy 0, 16000, .inl g1))] := hD
  refine lv_iinc (v := 16) (lv' := [(2, .int 16), (0, .ref (r 0)), (1, .int four)]) hx hb d_X12_takeBytes_42 hl (k := 0) rfl (by decide) (by decide) rfl (fun ls hl => ?_)
  refine lv_goto (tgt := 3) hx hb d_X12_takeBytes_45 (by decide) ?_
  refine lv_iload_n hx hb d_X12_takeBytes_3 rfl (lv_at hl 0 rfl) ?_
  refine lv_if_lt (tgt := 48) hx hb d_X12_takeBytes_4 (by decide) (fun c_4 => absurd c_4 (by decide)) (fun _ => ?_)
  refine lv_aload_n hx hb d_X12_takeBytes_7 rfl (lv_at hl 1 rfl) ?_
  refine va_get (D := D) (ci := 12) (v := .int 1) (C := "LinkedUnits") (T := TX12) (N := 15) hx hb hg iwX12 hown hK hP 0 rfl rfl 1 (by decide) (hg _ m_736) (fun _ h9 => h9) rfl d_X12_takeBytes_8 ?_
  refine lv_aload_n hx hb d_X12_takeBytes_11 rfl (lv_at hl 1 rfl) ?_
  refine va_get (D := D) (ci := 12) (v := .ref (r 1)) (C := "LinkedUnits") (T := TX12) (N := 15) hx hb hg iwX12 hown hK hP 0 rfl rfl 0 (by decide) (hg _ m_735) (fun _ h9 => h9) rfl d_X12_takeBytes_12 ?_
  refine va_alen hx hb hK hP 1 0 rfl rfl (v := 16000) (by show Int32.ofNat 16000 = 16000; decide) d_X12_takeBytes_15 ?_
  refine lv_icmp_ge (tgt := 48) hx hb d_X12_takeBytes_16 (by decide) (fun c_16 => absurd c_16 (by decide)) (fun _ => ?_)
  refine lv_aload_n hx hb d_X12_takeBytes_19 rfl (lv_at hl 1 rfl) ?_
  refine va_get (D := D) (ci := 12) (v := .ref (r 1)) (C := "LinkedUnits") (T := TX12) (N := 15) hx hb hg iwX12 hown hK hP 0 rfl rfl 0 (by decide) (hg _ m_735) (fun _ h9 => h9) rfl d_X12_takeBytes_20 ?_
  refine lv_aload_n hx hb d_X12_takeBytes_23 rfl (lv_at hl 1 rfl) ?_
  refine va_get (D := D) (ci := 12) (v := .int 1) (C := "LinkedUnits") (T := TX12) (N := 15) hx hb hg iwX12 hown hK hP 0 rfl rfl 1 (by decide) (hg _ m_736) (fun _ h9 => h9) rfl d_X12_takeBytes_24 ?_
  refine lv_iload_n hx hb d_X12_takeBytes_27 rfl (lv_at hl 2 rfl) ?_
  refine lv_iload_n hx hb d_X12_takeBytes_28 rfl (lv_at hl 0 rfl) ?_
  refine lv_ishr hx hb d_X12_takeBytes_29 ?_
  refine lv_i2b (v := ((four >>> (16 &&& 31))).toInt8.toInt32) hx hb d_X12_takeBytes_30 rfl ?_
  refine k_bast_any hx hb hK hP hD hS 1 0 rfl rfl (k_inK (by decide)) d_X12_takeBytes_31 (fun g2 H locs hP hD hS => ?_)
  have hP : va_P D vwCl [((r 0), .inr (12, ((oLU r).set 1 (.int 1)))), ((r 1), .inl (cy 0, 16000, .inl g2))] H := hP
  have hD : va_D A [((r 0), .inr (12, ((oLU r).set 1 (.int 1)))), ((r 1), .inl (cy 0, 16000, .inl g2))] := hD
  refine lv_aload_n hx hb d_X12_takeBytes_32 rfl (lv_at hl 1 rfl) ?_
  refine lv_dup hx hb d_X12_takeBytes_33 rfl ?_
  refine va_get (D := D) (ci := 12) (v := .int 1) (C := "LinkedUnits") (T := TX12) (N := 15) hx hb hg iwX12 hown hK hP 0 rfl rfl 1 (by decide) (hg _ m_736) (fun _ h9 => h9) rfl d_X12_takeBytes_34 ?_
  refine lv_iconst (v := 1) hx hb d_X12_takeBytes_37 (by decide) ?_
  refine lv_iadd hx hb d_X12_takeBytes_38 ?_
  refine k_topi 2 (by decide) ?_
  refine va_put (D := D) (ci := 12) (v := .int 2) (ty := .int) (C := "LinkedUnits") (T := TX12) (N := 15) hx hb hg iwX12 tyX12 tyX12_ok nmX12 hown hK hP hD hS 0 rfl rfl 1 (by decide) (hg _ m_736) (fun _ h9 => h9) rfl (by decide +kernel) rfl rfl (Nat.le_of_ble_eq_true rfl) d_X12_takeBytes_39 (fun H locs hP hD hS => ?_)
  have hP : va_P D vwCl [((r 0), .inr (12, ((oLU r).set 1 (.int 2)))), ((r 1), .inl (cy 0, 16000, .inl g2))] H := hP
  have hD : va_D A [((r 0), .inr (12, ((oLU r).set 1 (.int 2)))), ((r 1), .inl (cy 0, 16000, .inl g2))] := hD
  refine lv_iinc (v := 8) (lv' := [(2, .int 8), (0, .ref (r 0)), (1, .int four)]) hx hb d_X12_takeBytes_42 hl (k := 0) rfl (by decide) (by decide) rfl (fun ls hl => ?_)
  refine lv_goto (tgt := 3) hx hb d_X12_takeBytes_45 (by decide) ?_
  refine lv_iload_n hx hb d_X12_takeBytes_3 rfl (lv_at hl 0 rfl) ?_
  refine lv_if_lt (tgt := 48) hx hb d_X12_takeBytes_4 (by decide) (fun c_4 => absurd c_4 (by decide)) (fun _ => ?_)
  refine lv_aload_n hx hb d_X12_takeBytes_7 rfl (lv_at hl 1 rfl) ?_
  refine va_get (D := D) (ci := 12) (v := .int 2) (C := "LinkedUnits") (T := TX12) (N := 15) hx hb hg iwX12 hown hK hP 0 rfl rfl 1 (by decide) (hg _ m_736) (fun _ h9 => h9) rfl d_X12_takeBytes_8 ?_
  refine lv_aload_n hx hb d_X12_takeBytes_11 rfl (lv_at hl 1 rfl) ?_
  refine va_get (D := D) (ci := 12) (v := .ref (r 1)) (C := "LinkedUnits") (T := TX12) (N := 15) hx hb hg iwX12 hown hK hP 0 rfl rfl 0 (by decide) (hg _ m_735) (fun _ h9 => h9) rfl d_X12_takeBytes_12 ?_
  refine va_alen hx hb hK hP 1 0 rfl rfl (v := 16000) (by show Int32.ofNat 16000 = 16000; decide) d_X12_takeBytes_15 ?_
  refine lv_icmp_ge (tgt := 48) hx hb d_X12_takeBytes_16 (by decide) (fun c_16 => absurd c_16 (by decide)) (fun _ => ?_)
  refine lv_aload_n hx hb d_X12_takeBytes_19 rfl (lv_at hl 1 rfl) ?_
  refine va_get (D := D) (ci := 12) (v := .ref (r 1)) (C := "LinkedUnits") (T := TX12) (N := 15) hx hb hg iwX12 hown hK hP 0 rfl rfl 0 (by decide) (hg _ m_735) (fun _ h9 => h9) rfl d_X12_takeBytes_20 ?_
  refine lv_aload_n hx hb d_X12_takeBytes_23 rfl (lv_at hl 1 rfl) ?_
  refine va_get (D := D) (ci := 12) (v := .int 2) (C := "LinkedUnits") (T := TX12) (N := 15) hx hb hg iwX12 hown hK hP 0 rfl rfl 1 (by decide) (hg _ m_736) (fun _ h9 => h9) rfl d_X12_takeBytes_24 ?_
  refine lv_iload_n hx hb d_X12_takeBytes_27 rfl (lv_at hl 2 rfl) ?_
  refine lv_iload_n hx hb d_X12_takeBytes_28 rfl (lv_at hl 0 rfl) ?_
  refine lv_ishr hx hb d_X12_takeBytes_29 ?_
  refine lv_i2b (v := ((four >>> (8 &&& 31))).toInt8.toInt32) hx hb d_X12_takeBytes_30 rfl ?_
  refine k_bast_any hx hb hK hP hD hS 1 0 rfl rfl (k_inK (by decide)) d_X12_takeBytes_31 (fun g3 H locs hP hD hS => ?_)
  have hP : va_P D vwCl [((r 0), .inr (12, ((oLU r).set 1 (.int 2)))), ((r 1), .inl (cy 0, 16000, .inl g3))] H := hP
  have hD : va_D A [((r 0), .inr (12, ((oLU r).set 1 (.int 2)))), ((r 1), .inl (cy 0, 16000, .inl g3))] := hD
  refine lv_aload_n hx hb d_X12_takeBytes_32 rfl (lv_at hl 1 rfl) ?_
  refine lv_dup hx hb d_X12_takeBytes_33 rfl ?_
  refine va_get (D := D) (ci := 12) (v := .int 2) (C := "LinkedUnits") (T := TX12) (N := 15) hx hb hg iwX12 hown hK hP 0 rfl rfl 1 (by decide) (hg _ m_736) (fun _ h9 => h9) rfl d_X12_takeBytes_34 ?_
  refine lv_iconst (v := 1) hx hb d_X12_takeBytes_37 (by decide) ?_
  refine lv_iadd hx hb d_X12_takeBytes_38 ?_
  refine k_topi 3 (by decide) ?_
  refine va_put (D := D) (ci := 12) (v := .int 3) (ty := .int) (C := "LinkedUnits") (T := TX12) (N := 15) hx hb hg iwX12 tyX12 tyX12_ok nmX12 hown hK hP hD hS 0 rfl rfl 1 (by decide) (hg _ m_736) (fun _ h9 => h9) rfl (by decide +kernel) rfl rfl (Nat.le_of_ble_eq_true rfl) d_X12_takeBytes_39 (fun H locs hP hD hS => ?_)
  have hP : va_P D vwCl [((r 0), .inr (12, ((oLU r).set 1 (.int 3)))), ((r 1), .inl (cy 0, 16000, .inl g3))] H := hP
  have hD : va_D A [((r 0), .inr (12, ((oLU r).set 1 (.int 3)))), ((r 1), .inl (cy 0, 16000, .inl g3))] := hD
  refine lv_iinc (v := 0) (lv' := [(2, .int 0), (0, .ref (r 0)), (1, .int four)]) hx hb d_X12_takeBytes_42 hl (k := 0) rfl (by decide) (by decide) rfl (fun ls hl => ?_)
  refine lv_goto (tgt := 3) hx hb d_X12_takeBytes_45 (by decide) ?_
  refine lv_iload_n hx hb d_X12_takeBytes_3 rfl (lv_at hl 0 rfl) ?_
  refine lv_if_lt (tgt := 48) hx hb d_X12_takeBytes_4 (by decide) (fun c_4 => absurd c_4 (by decide)) (fun _ => ?_)
  refine lv_aload_n hx hb d_X12_takeBytes_7 rfl (lv_at hl 1 rfl) ?_
  refine va_get (D := D) (ci := 12) (v := .int 3) (C := "LinkedUnits") (T := TX12) (N := 15) hx hb hg iwX12 hown hK hP 0 rfl rfl 1 (by decide) (hg _ m_736) (fun _ h9 => h9) rfl d_X12_takeBytes_8 ?_
  refine lv_aload_n hx hb d_X12_takeBytes_11 rfl (lv_at hl 1 rfl) ?_
  refine va_get (D := D) (ci := 12) (v := .ref (r 1)) (C := "LinkedUnits") (T := TX12) (N := 15) hx hb hg iwX12 hown hK hP 0 rfl rfl 0 (by decide) (hg _ m_735) (fun _ h9 => h9) rfl d_X12_takeBytes_12 ?_
  refine va_alen hx hb hK hP 1 0 rfl rfl (v := 16000) (by show Int32.ofNat 16000 = 16000; decide) d_X12_takeBytes_15 ?_
  refine lv_icmp_ge (tgt := 48) hx hb d_X12_takeBytes_16 (by decide) (fun c_16 => absurd c_16 (by decide)) (fun _ => ?_)
  refine lv_aload_n hx hb d_X12_takeBytes_19 rfl (lv_at hl 1 rfl) ?_
  refine va_get (D := D) (ci := 12) (v := .ref (r 1)) (C := "LinkedUnits") (T := TX12) (N := 15) hx hb hg iwX12 hown hK hP 0 rfl rfl 0 (by decide) (hg _ m_735) (fun _ h9 => h9) rfl d_X12_takeBytes_20 ?_
  refine lv_aload_n hx hb d_X12_takeBytes_23 rfl (lv_at hl 1 rfl) ?_
  refine va_get (D := D) (ci := 12) (v := .int 3) (C := "LinkedUnits") (T := TX12) (N := 15) hx hb hg iwX12 hown hK hP 0 rfl rfl 1 (by decide) (hg _ m_736) (fun _ h9 => h9) rfl d_X12_takeBytes_24 ?_
  refine lv_iload_n hx hb d_X12_takeBytes_27 rfl (lv_at hl 2 rfl) ?_
  refine lv_iload_n hx hb d_X12_takeBytes_28 rfl (lv_at hl 0 rfl) ?_
  refine lv_ishr hx hb d_X12_takeBytes_29 ?_
  refine lv_i2b (v := ((four >>> (0 &&& 31))).toInt8.toInt32) hx hb d_X12_takeBytes_30 rfl ?_
  refine k_bast_any hx hb hK hP hD hS 1 0 rfl rfl (k_inK (by decide)) d_X12_takeBytes_31 (fun g4 H locs hP hD hS => ?_)
  have hP : va_P D vwCl [((r 0), .inr (12, ((oLU r).set 1 (.int 3)))), ((r 1), .inl (cy 0, 16000, .inl g4))] H := hP
  have hD : va_D A [((r 0), .inr (12, ((oLU r).set 1 (.int 3)))), ((r 1), .inl (cy 0, 16000, .inl g4))] := hD
  refine lv_aload_n hx hb d_X12_takeBytes_32 rfl (lv_at hl 1 rfl) ?_
  refine lv_dup hx hb d_X12_takeBytes_33 rfl ?_
  refine va_get (D := D) (ci := 12) (v := .int 3) (C := "LinkedUnits") (T := TX12) (N := 15) hx hb hg iwX12 hown hK hP 0 rfl rfl 1 (by decide) (hg _ m_736) (fun _ h9 => h9) rfl d_X12_takeBytes_34 ?_
  refine lv_iconst (v := 1) hx hb d_X12_takeBytes_37 (by decide) ?_
  refine lv_iadd hx hb d_X12_takeBytes_38 ?_
  refine k_topi 4 (by decide) ?_
  refine va_put (D := D) (ci := 12) (v := .int 4) (ty := .int) (C := "LinkedUnits") (T := TX12) (N := 15) hx hb hg iwX12 tyX12 tyX12_ok nmX12 hown hK hP hD hS 0 rfl rfl 1 (by decide) (hg _ m_736) (fun _ h9 => h9) rfl (by decide +kernel) rfl rfl (Nat.le_of_ble_eq_true rfl) d_X12_takeBytes_39 (fun H locs hP hD hS => ?_)
  have hP : va_P D vwCl [((r 0), .inr (12, ((oLU r).set 1 (.int 4)))), ((r 1), .inl (cy 0, 16000, .inl g4))] H := hP
  have hD : va_D A [((r 0), .inr (12, ((oLU r).set 1 (.int 4)))), ((r 1), .inl (cy 0, 16000, .inl g4))] := hD
  refine lv_iinc (v := (-8)) (lv' := [(2, .int (-8)), (0, .ref (r 0)), (1, .int four)]) hx hb d_X12_takeBytes_42 hl (k := 0) rfl (by decide) (by decide) rfl (fun ls hl => ?_)
  refine lv_goto (tgt := 3) hx hb d_X12_takeBytes_45 (by decide) ?_
  refine lv_iload_n hx hb d_X12_takeBytes_3 rfl (lv_at hl 0 rfl) ?_
  refine lv_if_lt (tgt := 48) hx hb d_X12_takeBytes_4 (by decide) (fun _ => ?_) (fun c_4 => False.elim (by revert c_4; decide))
  refine W.widen (k := 0) (n := 0) (Nat.le_of_ble_eq_true rfl) (Nat.le_of_ble_eq_true rfl) ?_
  exact k_vret (X := Nat → Int32) (w1 := fun g => [((r 0), .inr (12, ((oLU r).set 1 (.int 4)))), ((r 1), .inl (cy 0, 16000, .inl g))]) (g4) hx hb hr d_X12_takeBytes_48 hlocks (hP.sub [0, 1] rfl) hK (hD.sub [0, 1] (by decide) rfl) hS trivial
set_option maxHeartbeats 4000000 in
set_option maxRecDepth 100000 in
theorem c_takeBytes_4 (l : Launch) (D : va_G) (cy : Nat → ClassId) (sz : Nat) (r : Nat → Nat) (f : Nat → Int32) (four : Int32) : Met l y_X12_takeBytes (Cond.code y_X12_takeBytes b_X12_takeBytes 3 none :: GW) ({ frames := 0, cells := 0, slots := 0, locals := 0 }) (va_Pc [.ref (r 0), .int four] (kPre D cy sz [((r 0), .inr (12, ((oLU r).set 1 (.int 4)))), ((r 1), .inl (cy 0, 16000, .inl f))])) ((fun A : Nat → Prop => va_Qv (S := Nat → Int32) (fun (_ : Nat → Int32) => True) (fun g => kPost D cy A [((r 0), .inr (12, ((oLU r).set 1 (.int 8)))), ((r 1), .inl (cy 0, 16000, .inl g))]) A) (va_A [((r 0), .inr (12, ((oLU r).set 1 (.int 4)))), ((r 1), .inl (cy 0, 16000, .inl f))] sz)) 0 0 (va_A [((r 0), .inr (12, ((oLU r).set 1 (.int 4)))), ((r 1), .inl (cy 0, 16000, .inl f))] sz) := by
  refine k_ofW (Qc := fun A => va_Qv (S := Nat → Int32) (fun (_ : Nat → Int32) => True) (fun g => kPost D cy A [((r 0), .inr (12, ((oLU r).set 1 (.int 8)))), ((r 1), .inl (cy 0, 16000, .inl g))]) A) (by decide) (Nat.le_of_ble_eq_true rfl) ?_
  intro p e s m below meth c A ls hx hb hr hml hown hlocks hin hg hNW hK hP hD hA hS hl
  have hl : lv_has ls 3 [(0, .ref (r 0)), (1, .int four)] := hl
  have hown : s.vm.findClass "LinkedUnits" = some m.cls := hown
  refine lv_bipush (v := 24) hx hb d_X12_takeBytes_0 (by decide) ?_
  refine lv_istore_n (lv' := [(2, .int 24), (0, .ref (r 0)), (1, .int four)]) hx hb d_X12_takeBytes_2 rfl hl (by decide) rfl (fun ls hl => ?_)
  refine lv_iload_n hx hb d_X12_takeBytes_3 rfl (lv_at hl 0 rfl) ?_
  refine lv_if_lt (tgt := 48) hx hb d_X12_takeBytes_4 (by decide) (fun c_4 => absurd c_4 (by decide)) (fun _ => ?_)
  refine lv_aload_n hx hb d_X12_takeBytes_7 rfl (lv_at hl 1 rfl) ?_
  refine va_get (D := D) (ci := 12) (v := .int 4) (C := "LinkedUnits") (T := TX12) (N := 15) hx hb hg iwX12 hown hK hP 0 rfl rfl 1 (by decide) (hg _ m_736) (fun _ h9 => h9) rfl d_X12_takeBytes_8 ?_
  refine lv_aload_n hx hb d_X12_takeBytes_11 rfl (lv_at hl 1 rfl) ?_
  refine va_get (D := D) (ci := 12) (v := .ref (r 1)) (C := "LinkedUnits") (T := TX12) (N := 15) hx hb hg iwX12 hown hK hP 0 rfl rfl 0 (by decide) (hg _ m_735) (fun _ h9 => h9) rfl d_X12_takeBytes_12 ?_
  refine va_alen hx hb hK hP 1 0 rfl rfl (v := 16000) (by show Int32.ofNat 16000 = 16000; decide) d_X12_takeBytes_15 ?_
  refine lv_icmp_ge (tgt := 48) hx hb d_X12_takeBytes_16 (by decide) (fun c_16 => absurd c_16 (by decide)) (fun _ => ?_)
  refine lv_aload_n hx hb d_X12_takeBytes_19 rfl (lv_at hl 1 rfl) ?_
  refine va_get (D := D) (ci := 12) (v := .ref (r 1)) (C := "LinkedUnits") (T := TX12) (N := 15) hx hb hg iwX12 hown hK hP 0 rfl rfl 0 (by decide) (hg _ m_735) (fun _ h9 => h9) rfl d_X12_takeBytes_20 ?_
  refine lv_aload_n hx hb d_X12_takeBytes_23 rfl (lv_at hl 1 rfl) ?_
  refine va_get (D := D) (ci := 12) (v := .int 4) (C := "LinkedUnits") (T := TX12) (N := 15) hx hb hg iwX12 hown hK hP 0 rfl rfl 1 (by decide) (hg _ m_736) (fun _ h9 => h9) rfl d_X12_takeBytes_24 ?_
  refine lv_iload_n hx hb d_X12_takeBytes_27 rfl (lv_at hl 2 rfl) ?_
  refine lv_iload_n hx hb d_X12_takeBytes_28 rfl (lv_at hl 0 rfl) ?_
  refine lv_ishr hx hb d_X12_takeBytes_29 ?_
  refine lv_i2b (v := ((four >>> (24 &&& 31))).toInt8.toInt32) hx hb d_X12_takeBytes_30 rfl ?_
  refine k_bast_any hx hb hK hP hD hS 1 0 rfl rfl (k_inK (by decide)) d_X12_takeBytes_31 (fun g1 H locs hP hD hS => ?_)
  have hP : va_P D vwCl [((r 0), .inr (12, ((oLU r).set 1 (.int 4)))), ((r 1), .inl (cy 0, 16000, .inl g1))] H := hP
  have hD : va_D A [((r 0), .inr (12, ((oLU r).set 1 (.int 4)))), ((r 1), .inl (cy 0, 16000, .inl g1))] := hD
  refine lv_aload_n hx hb d_X12_takeBytes_32 rfl (lv_at hl 1 rfl) ?_
  refine lv_dup hx hb d_X12_takeBytes_33 rfl ?_
  refine va_get (D := D) (ci := 12) (v := .int 4) (C := "LinkedUnits") (T := TX12) (N := 15) hx hb hg iwX12 hown hK hP 0 rfl rfl 1 (by decide) (hg _ m_736) (fun _ h9 => h9) rfl d_X12_takeBytes_34 ?_
  refine lv_iconst (v := 1) hx hb d_X12_takeBytes_37 (by decide) ?_
  refine lv_iadd hx hb d_X12_takeBytes_38 ?_
  refine k_topi 5 (by decide) ?_
  refine va_put (D := D) (ci := 12) (v := .int 5) (ty := .int) (C := "LinkedUnits") (T := TX12) (N := 15) hx hb hg iwX12 tyX12 tyX12_ok nmX12 hown hK hP hD hS 0 rfl rfl 1 (by decide) (hg _ m_736) (fun _ h9 => h9) rfl (by decide +kernel) rfl rfl (Nat.le_of_ble_eq_true rfl) d_X12_takeBytes_39 (fun H locs hP hD hS => ?_)
  have hP : va_P D vwCl [((r 0), .inr (12, ((oLU r).set 1 (.int 5)))), ((r 1), .inl (cy 0, 16000, .inl g1))] H := hP
  have hD : va_D A [((r 0), .inr (12, ((oLU r).set 1 (.int 5)))), ((r 1), .inl (cy 0, 16000, .inl g1))] := hD
  refine lv_iinc (v := 16) (lv' := [(2, .int 16), (0, .ref (r 0)), (1, .int four)]) hx hb d_X12_takeBytes_42 hl (k := 0) rfl (by decide) (by decide) rfl (fun ls hl => ?_)
  refine lv_goto (tgt := 3) hx hb d_X12_takeBytes_45 (by decide) ?_
  refine lv_iload_n hx hb d_X12_takeBytes_3 rfl (lv_at hl 0 rfl) ?_
  refine lv_if_lt (tgt := 48) hx hb d_X12_takeBytes_4 (by decide) (fun c_4 => absurd c_4 (by decide)) (fun _ => ?_)
  refine lv_aload_n hx hb d_X12_takeBytes_7 rfl (lv_at hl 1 rfl) ?_
  refine va_get (D := D) (ci := 12) (v := .int 5) (C := "LinkedUnits") (T := TX12) (N := 15) hx hb hg iwX12 hown hK hP 0 rfl rfl 1 (by decide) (hg _ m_736) (fun _ h9 => h9) rfl d_X12_takeBytes_8 ?_
  refine lv_aload_n hx hb d_X12_takeBytes_11 rfl (lv_at hl 1 rfl) ?_
  refine va_get (D := D) (ci := 12) (v := .ref (r 1)) (C := "LinkedUnits") (T := TX12) (N := 15) hx hb hg iwX12 hown hK hP 0 rfl rfl 0 (by decide) (hg _ m_735) (fun _ h9 => h9) rfl d_X12_takeBytes_12 ?_
  refine va_alen hx hb hK hP 1 0 rfl rfl (v := 16000) (by show Int32.ofNat 16000 = 16000; decide) d_X12_takeBytes_15 ?_
  refine lv_icmp_ge (tgt := 48) hx hb d_X12_takeBytes_16 (by decide) (fun c_16 => absurd c_16 (by decide)) (fun _ => ?_)
  refine lv_aload_n hx hb d_X12_takeBytes_19 rfl (lv_at hl 1 rfl) ?_
  refine va_get (D := D) (ci := 12) (v := .ref (r 1)) (C := "LinkedUnits") (T := TX12) (N := 15) hx hb hg iwX12 hown hK hP 0 rfl rfl 0 (by decide) (hg _ m_735) (fun _ h9 => h9) rfl d_X12_takeBytes_20 ?_
  refine lv_aload_n hx hb d_X12_takeBytes_23 rfl (lv_at hl 1 rfl) ?_
  refine va_get (D := D) (ci := 12) (v := .int 5) (C := "LinkedUnits") (T := TX12) (N := 15) hx hb hg iwX12 hown hK hP 0 rfl rfl 1 (by decide) (hg _ m_736) (fun _ h9 => h9) rfl d_X12_takeBytes_24 ?_
  refine lv_iload_n hx hb d_X12_takeBytes_27 rfl (lv_at hl 2 rfl) ?_
  refine lv_iload_n hx hb d_X12_takeBytes_28 rfl (lv_at hl 0 rfl) ?_
  refine lv_ishr hx hb d_X12_takeBytes_29 ?_
  refine lv_i2b (v := ((four >>> (16 &&& 31))).toInt8.toInt32) hx hb d_X12_takeBytes_30 rfl ?_
  refine k_bast_any hx hb hK hP hD hS 1 0 rfl rfl (k_inK (by decide)) d_X12_takeBytes_31 (fun g2 H locs hP hD hS => ?_)
  have hP : va_P D vwCl [((r 0), .inr (12, ((oLU r).set 1 (.int 5)))), ((r 1), .inl (cy 0, 16000, .inl g2))] H := hP
  have hD : va_D A [((r 0), .inr (12, ((oLU r).set 1 (.int 5)))), ((r 1), .inl (cy 0, 16000, .inl g2))] := hD
  refine lv_aload_n hx hb d_X12_takeBytes_32 rfl (lv_at hl 1 rfl) ?_
  refine lv_dup hx hb d_X12_takeBytes_33 rfl ?_
  refine va_get (D := D) (ci := 12) (v := .int 5) (C := "LinkedUnits") (T := TX12) (N := 15) hx hb hg iwX12 hown hK hP 0 rfl rfl 1 (by decide) (hg _ m_736) (fun _ h9 => h9) rfl d_X12_takeBytes_34 ?_
  refine lv_iconst (v := 1) hx hb d_X12_takeBytes_37 (by decide) ?_
  refine lv_iadd hx hb d_X12_takeBytes_38 ?_
  refine k_topi 6 (by decide) ?_
  refine va_put (D := D) (ci := 12) (v := .int 6) (ty := .int) (C := "LinkedUnits") (T := TX12) (N := 15) hx hb hg iwX12 tyX12 tyX12_ok nmX12 hown hK hP hD hS 0 rfl rfl 1 (by decide) (hg _ m_736) (fun _ h9 => h9) rfl (by decide +kernel) rfl rfl (Nat.le_of_ble_eq_true rfl) d_X12_takeBytes_39 (fun H locs hP hD hS => ?_)
  have hP : va_P D vwCl [((r 0), .inr (12, ((oLU r).set 1 (.int 6)))), ((r 1), .inl (cy 0, 16000, .inl g2))] H := hP
  have hD : va_D A [((r 0), .inr (12, ((oLU r).set 1 (.int 6)))), ((r 1), .inl (cy 0, 16000, .inl g2))] := hD
  refine lv_iinc (v := 8) (lv' := [(2, .int 8), (0, .ref (r 0)), (1, .int four)]) hx hb d_X12_takeBytes_42 hl (k := 0) rfl (by decide) (by decide) rfl (fun ls hl => ?_)
  refine lv_goto (tgt := 3) hx hb d_X12_takeBytes_45 (by decide) ?_
  refine lv_iload_n hx hb d_X12_takeBytes_3 rfl (lv_at hl 0 rfl) ?_
  refine lv_if_lt (tgt := 48) hx hb d_X12_takeBytes_4 (by decide) (fun c_4 => absurd c_4 (by decide)) (fun _ => ?_)
  refine lv_aload_n hx hb d_X12_takeBytes_7 rfl (lv_at hl 1 rfl) ?_
  refine va_get (D := D) (ci := 12) (v := .int 6) (C := "LinkedUnits") (T := TX12) (N := 15) hx hb hg iwX12 hown hK hP 0 rfl rfl 1 (by decide) (hg _ m_736) (fun _ h9 => h9) rfl d_X12_takeBytes_8 ?_
  refine lv_aload_n hx hb d_X12_takeBytes_11 rfl (lv_at hl 1 rfl) ?_
  refine va_get (D := D) (ci := 12) (v := .ref (r 1)) (C := "LinkedUnits") (T := TX12) (N := 15) hx hb hg iwX12 hown hK hP 0 rfl rfl 0 (by decide) (hg _ m_735) (fun _ h9 => h9) rfl d_X12_takeBytes_12 ?_
  refine va_alen hx hb hK hP 1 0 rfl rfl (v := 16000) (by show Int32.ofNat 16000 = 16000; decide) d_X12_takeBytes_15 ?_
  refine lv_icmp_ge (tgt := 48) hx hb d_X12_takeBytes_16 (by decide) (fun c_16 => absurd c_16 (by decide)) (fun _ => ?_)
  refine lv_aload_n hx hb d_X12_takeBytes_19 rfl (lv_at hl 1 rfl) ?_
  refine va_get (D := D) (ci := 12) (v := .ref (r 1)) (C := "LinkedUnits") (T := TX12) (N := 15) hx hb hg iwX12 hown hK hP 0 rfl rfl 0 (by decide) (hg _ m_735) (fun _ h9 => h9) rfl d_X12_takeBytes_20 ?_
  refine lv_aload_n hx hb d_X12_takeBytes_23 rfl (lv_at hl 1 rfl) ?_
  refine va_get (D := D) (ci := 12) (v := .int 6) (C := "LinkedUnits") (T := TX12) (N := 15) hx hb hg iwX12 hown hK hP 0 rfl rfl 1 (by decide) (hg _ m_736) (fun _ h9 => h9) rfl d_X12_takeBytes_24 ?_
  refine lv_iload_n hx hb d_X12_takeBytes_27 rfl (lv_at hl 2 rfl) ?_
  refine lv_iload_n hx hb d_X12_takeBytes_28 rfl (lv_at hl 0 rfl) ?_
  refine lv_ishr hx hb d_X12_takeBytes_29 ?_
  refine lv_i2b (v := ((four >>> (8 &&& 31))).toInt8.toInt32) hx hb d_X12_takeBytes_30 rfl ?_
  refine k_bast_any hx hb hK hP hD hS 1 0 rfl rfl (k_inK (by decide)) d_X12_takeBytes_31 (fun g3 H locs hP hD hS => ?_)
  have hP : va_P D vwCl [((r 0), .inr (12, ((oLU r).set 1 (.int 6)))), ((r 1), .inl (cy 0, 16000, .inl g3))] H := hP
  have hD : va_D A [((r 0), .inr (12, ((oLU r).set 1 (.int 6)))), ((r 1), .inl (cy 0, 16000, .inl g3))] := hD
  refine lv_aload_n hx hb d_X12_takeBytes_32 rfl (lv_at hl 1 rfl) ?_
  refine lv_dup hx hb d_X12_takeBytes_33 rfl ?_
  refine va_get (D := D) (ci := 12) (v := .int 6) (C := "LinkedUnits") (T := TX12) (N := 15) hx hb hg iwX12 hown hK hP 0 rfl rfl 1 (by decide) (hg _ m_736) (fun _ h9 => h9) rfl d_X12_takeBytes_34 ?_
  refine lv_iconst (v := 1) hx hb d_X12_takeBytes_37 (by decide) ?_
  refine lv_iadd hx hb d_X12_takeBytes_38 ?_
  refine k_topi 7 (by decide) ?_
  refine va_put (D := D) (ci := 12) (v := .int 7) (ty := .int) (C := "LinkedUnits") (T := TX12) (N := 15) hx hb hg iwX12 tyX12 tyX12_ok nmX12 hown hK hP hD hS 0 rfl rfl 1 (by decide) (hg _ m_736) (fun _ h9 => h9) rfl (by decide +kernel) rfl rfl (Nat.le_of_ble_eq_true rfl) d_X12_takeBytes_39 (fun H locs hP hD hS => ?_)
  have hP : va_P D vwCl [((r 0), .inr (12, ((oLU r).set 1 (.int 7)))), ((r 1), .inl (cy 0, 16000, .inl g3))] H := hP
  have hD : va_D A [((r 0), .inr (12, ((oLU r).set 1 (.int 7)))), ((r 1), .inl (cy 0, 16000, .inl g3))] := hD
  refine lv_iinc (v := 0) (lv' := [(2, .int 0), (0, .ref (r 0)), (1, .int four)]) hx hb d_X12_takeBytes_42 hl (k := 0) rfl (by decide) (by decide) rfl (fun ls hl => ?_)
  refine lv_goto (tgt := 3) hx hb d_X12_takeBytes_45 (by decide) ?_
  refine lv_iload_n hx hb d_X12_takeBytes_3 rfl (lv_at hl 0 rfl) ?_
  refine lv_if_lt (tgt := 48) hx hb d_X12_takeBytes_4 (by decide) (fun c_4 => absurd c_4 (by decide)) (fun _ => ?_)
  refine lv_aload_n hx hb d_X12_takeBytes_7 rfl (lv_at hl 1 rfl) ?_
  refine va_get (D := D) (ci := 12) (v := .int 7) (C := "LinkedUnits") (T := TX12) (N := 15) hx hb hg iwX12 hown hK hP 0 rfl rfl 1 (by decide) (hg _ m_736) (fun _ h9 => h9) rfl d_X12_takeBytes_8 ?_
  refine lv_aload_n hx hb d_X12_takeBytes_11 rfl (lv_at hl 1 rfl) ?_
  refine va_get (D := D) (ci := 12) (v := .ref (r 1)) (C := "LinkedUnits") (T := TX12) (N := 15) hx hb hg iwX12 hown hK hP 0 rfl rfl 0 (by decide) (hg _ m_735) (fun _ h9 => h9) rfl d_X12_takeBytes_12 ?_
  refine va_alen hx hb hK hP 1 0 rfl rfl (v := 16000) (by show Int32.ofNat 16000 = 16000; decide) d_X12_takeBytes_15 ?_
  refine lv_icmp_ge (tgt := 48) hx hb d_X12_takeBytes_16 (by decide) (fun c_16 => absurd c_16 (by decide)) (fun _ => ?_)
  refine lv_aload_n hx hb d_X12_takeBytes_19 rfl (lv_at hl 1 rfl) ?_
  refine va_get (D := D) (ci := 12) (v := .ref (r 1)) (C := "LinkedUnits") (T := TX12) (N := 15) hx hb hg iwX12 hown hK hP 0 rfl rfl 0 (by decide) (hg _ m_735) (fun _ h9 => h9) rfl d_X12_takeBytes_20 ?_
  refine lv_aload_n hx hb d_X12_takeBytes_23 rfl (lv_at hl 1 rfl) ?_
  refine va_get (D := D) (ci := 12) (v := .int 7) (C := "LinkedUnits") (T := TX12) (N := 15) hx hb hg iwX12 hown hK hP 0 rfl rfl 1 (by decide) (hg _ m_736) (fun _ h9 => h9) rfl d_X12_takeBytes_24 ?_
  refine lv_iload_n hx hb d_X12_takeBytes_27 rfl (lv_at hl 2 rfl) ?_
  refine lv_iload_n hx hb d_X12_takeBytes_28 rfl (lv_at hl 0 rfl) ?_
  refine lv_ishr hx hb d_X12_takeBytes_29 ?_
  refine lv_i2b (v := ((four >>> (0 &&& 31))).toInt8.toInt32) hx hb d_X12_takeBytes_30 rfl ?_
  refine k_bast_any hx hb hK hP hD hS 1 0 rfl rfl (k_inK (by decide)) d_X12_takeBytes_31 (fun g4 H locs hP hD hS => ?_)
  have hP : va_P D vwCl [((r 0), .inr (12, ((oLU r).set 1 (.int 7)))), ((r 1), .inl (cy 0, 16000, .inl g4))] H := hP
  have hD : va_D A [((r 0), .inr (12, ((oLU r).set 1 (.int 7)))), ((r 1), .inl (cy 0, 16000, .inl g4))] := hD
  refine lv_aload_n hx hb d_X12_takeBytes_32 rfl (lv_at hl 1 rfl) ?_
  refine lv_dup hx hb d_X12_takeBytes_33 rfl ?_
  refine va_get (D := D) (ci := 12) (v := .int 7) (C := "LinkedUnits") (T := TX12) (N := 15) hx hb hg iwX12 hown hK hP 0 rfl rfl 1 (by decide) (hg _ m_736) (fun _ h9 => h9) rfl d_X12_takeBytes_34 ?_
  refine lv_iconst (v := 1) hx hb d_X12_takeBytes_37 (by decide) ?_
  refine lv_iadd hx hb d_X12_takeBytes_38 ?_
  refine k_topi 8 (by decide) ?_
  refine va_put (D := D) (ci := 12) (v := .int 8) (ty := .int) (C := "LinkedUnits") (T := TX12) (N := 15) hx hb hg iwX12 tyX12 tyX12_ok nmX12 hown hK hP hD hS 0 rfl rfl 1 (by decide) (hg _ m_736) (fun _ h9 => h9) rfl (by decide +kernel) rfl rfl (Nat.le_of_ble_eq_true rfl) d_X12_takeBytes_39 (fun H locs hP hD hS => ?_)
  have hP : va_P D vwCl [((r 0), .inr (12, ((oLU r).set 1 (.int 8)))), ((r 1), .inl (cy 0, 16000, .inl g4))] H := hP
  have hD : va_D A [((r 0), .inr (12, ((oLU r).set 1 (.int 8)))), ((r 1), .inl (cy 0, 16000, .inl g4))] := hD
  refine lv_iinc (v := (-8)) (lv' := [(2, .int (-8)), (0, .ref (r 0)), (1, .int four)]) hx hb d_X12_takeBytes_42 hl (k := 0) rfl (by decide) (by decide) rfl (fun ls hl => ?_)
  refine lv_goto (tgt := 3) hx hb d_X12_takeBytes_45 (by decide) ?_
  refine lv_iload_n hx hb d_X12_takeBytes_3 rfl (lv_at hl 0 rfl) ?_
  refine lv_if_lt (tgt := 48) hx hb d_X12_takeBytes_4 (by decide) (fun _ => ?_) (fun c_4 => False.elim (by revert c_4; decide))
  refine W.widen (k := 0) (n := 0) (Nat.le_of_ble_eq_true rfl) (Nat.le_of_ble_eq_true rfl) ?_
  exact k_vret (X := Nat → Int32) (w1 := fun g => [((r 0), .inr (12, ((oLU r).set 1 (.int 8)))), ((r 1), .inl (cy 0, 16000, .inl g))]) (g4) hx hb hr d_X12_takeBytes_48 hlocks (hP.sub [0, 1] rfl) hK (hD.sub [0, 1] (by decide) rfl) hS trivial
set_option maxHeartbeats 4000000 in
set_option maxRecDepth 100000 in
theorem c_takeBytes_8 (l : Launch) (D : va_G) (cy : Nat → ClassId) (sz : Nat) (r : Nat → Nat) (f : Nat → Int32) (four : Int32) : Met l y_X12_takeBytes (Cond.code y_X12_takeBytes b_X12_takeBytes 3 none :: GW) ({ frames := 0, cells := 0, slots := 0, locals := 0 }) (va_Pc [.ref (r 0), .int four] (kPre D cy sz [((r 0), .inr (12, ((oLU r).set 1 (.int 8)))), ((r 1), .inl (cy 0, 16000, .inl f))])) ((fun A : Nat → Prop => va_Qv (S := Nat → Int32) (fun (_ : Nat → Int32) => True) (fun g => kPost D cy A [((r 0), .inr (12, ((oLU r).set 1 (.int 12)))), ((r 1), .inl (cy 0, 16000, .inl g))]) A) (va_A [((r 0), .inr (12, ((oLU r).set 1 (.int 8)))), ((r 1), .inl (cy 0, 16000, .inl f))] sz)) 0 0 (va_A [((r 0), .inr (12, ((oLU r).set 1 (.int 8)))), ((r 1), .inl (cy 0, 16000, .inl f))] sz) := by
  refine k_ofW (Qc := fun A => va_Qv (S := Nat → Int32) (fun (_ : Nat → Int32) => True) (fun g => kPost D cy A [((r 0), .inr (12, ((oLU r).set 1 (.int 12)))), ((r 1), .inl (cy 0, 16000, .inl g))]) A) (by decide) (Nat.le_of_ble_eq_true rfl) ?_
  intro p e s m below meth c A ls hx hb hr hml hown hlocks hin hg hNW hK hP hD hA hS hl
  have hl : lv_has ls 3 [(0, .ref (r 0)), (1, .int four)] := hl
  have hown : s.vm.findClass "LinkedUnits" = some m.cls := hown
  refine lv_bipush (v := 24) hx hb d_X12_takeBytes_0 (by decide) ?_
  refine lv_istore_n (lv' := [(2, .int 24), (0, .ref (r 0)), (1, .int four)]) hx hb d_X12_takeBytes_2 rfl hl (by decide) rfl (fun ls hl => ?_)
  refine lv_iload_n hx hb d_X12_takeBytes_3 rfl (lv_at hl 0 rfl) ?_
  refine lv_if_lt (tgt := 48) hx hb d_X12_takeBytes_4 (by decide) (fun c_4 => absurd c_4 (by decide)) (fun _ => ?_)
  refine lv_aload_n hx hb d_X12_takeBytes_7 rfl (lv_at hl 1 rfl) ?_
  refine va_get (D := D) (ci := 12) (v := .int 8) (C := "LinkedUnits") (T := TX12) (N := 15) hx hb hg iwX12 hown hK hP 0 rfl rfl 1 (by decide) (hg _ m_736) (fun _ h9 => h9) rfl d_X12_takeBytes_8 ?_
  refine lv_aload_n hx hb d_X12_takeBytes_11 rfl (lv_at hl 1 rfl) ?_
  refine va_get (D := D) (ci := 12) (v := .ref (r 1)) (C := "LinkedUnits") (T := TX12) (N := 15) hx hb hg iwX12 hown hK hP 0 rfl rfl 0 (by decide) (hg _ m_735) (fun _ h9 => h9) rfl d_X12_takeBytes_12 ?_
  refine va_alen hx hb hK hP 1 0 rfl rfl (v := 16000) (by show Int32.ofNat 16000 = 16000; decide) d_X12_takeBytes_15 ?_
  refine lv_icmp_ge (tgt := 48) hx hb d_X12_takeBytes_16 (by decide) (fun c_16 => absurd c_16 (by decide)) (fun _ => ?_)
  refine lv_aload_n hx hb d_X12_takeBytes_19 rfl (lv_at hl 1 rfl) ?_
  refine va_get (D := D) (ci := 12) (v := .ref (r 1)) (C := "LinkedUnits") (T := TX12) (N := 15) hx hb hg iwX12 hown hK hP 0 rfl rfl 0 (by decide) (hg _ m_735) (fun _ h9 => h9) rfl d_X12_takeBytes_20 ?_
  refine lv_aload_n hx hb d_X12_takeBytes_23 rfl (lv_at hl 1 rfl) ?_
  refine va_get (D := D) (ci := 12) (v := .int 8) (C := "LinkedUnits") (T := TX12) (N := 15) hx hb hg iwX12 hown hK hP 0 rfl rfl 1 (by decide) (hg _ m_736) (fun _ h9 => h9) rfl d_X12_takeBytes_24 ?_
  refine lv_iload_n hx hb d_X12_takeBytes_27 rfl (lv_at hl 2 rfl) ?_
  refine lv_iload_n hx hb d_X12_takeBytes_28 rfl (lv_at hl 0 rfl) ?_
  refine lv_ishr hx hb d_X12_takeBytes_29 ?_
  refine lv_i2b (v := ((four >>> (24 &&& 31))).toInt8.toInt32) hx hb d_X12_takeBytes_30 rfl ?_
  refine k_bast_any hx hb hK hP hD hS 1 0 rfl rfl (k_inK (by decide)) d_X12_takeBytes_31 (fun g1 H locs hP hD hS => ?_)
  have hP : va_P D vwCl [((r 0), .inr (12, ((oLU r).set 1 (.int 8)))), ((r 1), .inl (cy 0, 16000, .inl g1))] H := hP
  have hD : va_D A [((r 0), .inr (12, ((oLU r).set 1 (.int 8)))), ((r 1), .inl (cy 0, 16000, .inl g1))] := hD
  refine lv_aload_n hx hb d_X12_takeBytes_32 rfl (lv_at hl 1 rfl) ?_
  refine lv_dup hx hb d_X12_takeBytes_33 rfl ?_
  refine va_get (D := D) (ci := 12) (v := .int 8) (C := "LinkedUnits") (T := TX12) (N := 15) hx hb hg iwX12 hown hK hP 0 rfl rfl 1 (by decide) (hg _ m_736) (fun _ h9 => h9) rfl d_X12_takeBytes_34 ?_
  refine lv_iconst (v := 1) hx hb d_X12_takeBytes_37 (by decide) ?_
  refine lv_iadd hx hb d_X12_takeBytes_38 ?_
  refine k_topi 9 (by decide) ?_
  refine va_put (D := D) (ci := 12) (v := .int 9) (ty := .int) (C := "LinkedUnits") (T := TX12) (N := 15) hx hb hg iwX12 tyX12 tyX12_ok nmX12 hown hK hP hD hS 0 rfl rfl 1 (by decide) (hg _ m_736) (fun _ h9 => h9) rfl (by decide +kernel) rfl rfl (Nat.le_of_ble_eq_true rfl) d_X12_takeBytes_39 (fun H locs hP hD hS => ?_)
  have hP : va_P D vwCl [((r 0), .inr (12, ((oLU r).set 1 (.int 9)))), ((r 1), .inl (cy 0, 16000, .inl g1))] H := hP
  have hD : va_D A [((r 0), .inr (12, ((oLU r).set 1 (.int 9)))), ((r 1), .inl (cy 0, 16000, .inl g1))] := hD
  refine lv_iinc (v := 16) (lv' := [(2, .int 16), (0, .ref (r 0)), (1, .int four)]) hx hb d_X12_takeBytes_42 hl (k := 0) rfl (by decide) (by decide) rfl (fun ls hl => ?_)
  refine lv_goto (tgt := 3) hx hb d_X12_takeBytes_45 (by decide) ?_
  refine lv_iload_n hx hb d_X12_takeBytes_3 rfl (lv_at hl 0 rfl) ?_
  refine lv_if_lt (tgt := 48) hx hb d_X12_takeBytes_4 (by decide) (fun c_4 => absurd c_4 (by decide)) (fun _ => ?_)
  refine lv_aload_n hx hb d_X12_takeBytes_7 rfl (lv_at hl 1 rfl) ?_
  refine va_get (D := D) (ci := 12) (v := .int 9) (C := "LinkedUnits") (T := TX12) (N := 15) hx hb hg iwX12 hown hK hP 0 rfl rfl 1 (by decide) (hg _ m_736) (fun _ h9 => h9) rfl d_X12_takeBytes_8 ?_
  refine lv_aload_n hx hb d_X12_takeBytes_11 rfl (lv_at hl 1 rfl) ?_
  refine va_get (D := D) (ci := 12) (v := .ref (r 1)) (C := "LinkedUnits") (T := TX12) (N := 15) hx hb hg iwX12 hown hK hP 0 rfl rfl 0 (by decide) (hg _ m_735) (fun _ h9 => h9) rfl d_X12_takeBytes_12 ?_
  refine va_alen hx hb hK hP 1 0 rfl rfl (v := 16000) (by show Int32.ofNat 16000 = 16000; decide) d_X12_takeBytes_15 ?_
  refine lv_icmp_ge (tgt := 48) hx hb d_X12_takeBytes_16 (by decide) (fun c_16 => absurd c_16 (by decide)) (fun _ => ?_)
  refine lv_aload_n hx hb d_X12_takeBytes_19 rfl (lv_at hl 1 rfl) ?_
  refine va_get (D := D) (ci := 12) (v := .ref (r 1)) (C := "LinkedUnits") (T := TX12) (N := 15) hx hb hg iwX12 hown hK hP 0 rfl rfl 0 (by decide) (hg _ m_735) (fun _ h9 => h9) rfl d_X12_takeBytes_20 ?_
  refine lv_aload_n hx hb d_X12_takeBytes_23 rfl (lv_at hl 1 rfl) ?_
  refine va_get (D := D) (ci := 12) (v := .int 9) (C := "LinkedUnits") (T := TX12) (N := 15) hx hb hg iwX12 hown hK hP 0 rfl rfl 1 (by decide) (hg _ m_736) (fun _ h9 => h9) rfl d_X12_takeBytes_24 ?_
  refine lv_iload_n hx hb d_X12_takeBytes_27 rfl (lv_at hl 2 rfl) ?_
  refine lv_iload_n hx hb d_X12_takeBytes_28 rfl (lv_at hl 0 rfl) ?_
  refine lv_ishr hx hb d_X12_takeBytes_29 ?_
  refine lv_i2b (v := ((four >>> (16 &&& 31))).toInt8.toInt32) hx hb d_X12_takeBytes_30 rfl ?_
  refine k_bast_any hx hb hK hP hD hS 1 0 rfl rfl (k_inK (by decide)) d_X12_takeBytes_31 (fun g2 H locs hP hD hS => ?_)
  have hP : va_P D vwCl [((r 0), .inr (12, ((oLU r).set 1 (.int 9)))), ((r 1), .inl (cy 0, 16000, .inl g2))] H := hP
  have hD : va_D A [((r 0), .inr (12, ((oLU r).set 1 (.int 9)))), ((r 1), .inl (cy 0, 16000, .inl g2))] := hD
  refine lv_aload_n hx hb d_X12_takeBytes_32 rfl (lv_at hl 1 rfl) ?_
  refine lv_dup hx hb d_X12_takeBytes_33 rfl ?_
  refine va_get (D := D) (ci := 12) (v := .int 9) (C := "LinkedUnits") (T := TX12) (N := 15) hx hb hg iwX12 hown hK hP 0 rfl rfl 1 (by decide) (hg _ m_736) (fun _ h9 => h9) rfl d_X12_takeBytes_34 ?_
  refine lv_iconst (v := 1) hx hb d_X12_takeBytes_37 (by decide) ?_
  refine lv_iadd hx hb d_X12_takeBytes_38 ?_
  refine k_topi 10 (by decide) ?_
  refine va_put (D := D) (ci := 12) (v := .int 10) (ty := .int) (C := "LinkedUnits") (T := TX12) (N := 15) hx hb hg iwX12 tyX12 tyX12_ok nmX12 hown hK hP hD hS 0 rfl rfl 1 (by decide) (hg _ m_736) (fun _ h9 => h9) rfl (by decide +kernel) rfl rfl (Nat.le_of_ble_eq_true rfl) d_X12_takeBytes_39 (fun H locs hP hD hS => ?_)
  have hP : va_P D vwCl [((r 0), .inr (12, ((oLU r).set 1 (.int 10)))), ((r 1), .inl (cy 0, 16000, .inl g2))] H := hP
  have hD : va_D A [((r 0), .inr (12, ((oLU r).set 1 (.int 10)))), ((r 1), .inl (cy 0, 16000, .inl g2))] := hD
  refine lv_iinc (v := 8) (lv' := [(2, .int 8), (0, .ref (r 0)), (1, .int four)]) hx hb d_X12_takeBytes_42 hl (k := 0) rfl (by decide) (by decide) rfl (fun ls hl => ?_)
  refine lv_goto (tgt := 3) hx hb d_X12_takeBytes_45 (by decide) ?_
  refine lv_iload_n hx hb d_X12_takeBytes_3 rfl (lv_at hl 0 rfl) ?_
  refine lv_if_lt (tgt := 48) hx hb d_X12_takeBytes_4 (by decide) (fun c_4 => absurd c_4 (by decide)) (fun _ => ?_)
  refine lv_aload_n hx hb d_X12_takeBytes_7 rfl (lv_at hl 1 rfl) ?_
  refine va_get (D := D) (ci := 12) (v := .int 10) (C := "LinkedUnits") (T := TX12) (N := 15) hx hb hg iwX12 hown hK hP 0 rfl rfl 1 (by decide) (hg _ m_736) (fun _ h9 => h9) rfl d_X12_takeBytes_8 ?_
  refine lv_aload_n hx hb d_X12_takeBytes_11 rfl (lv_at hl 1 rfl) ?_
  refine va_get (D := D) (ci := 12) (v := .ref (r 1)) (C := "LinkedUnits") (T := TX12) (N := 15) hx hb hg iwX12 hown hK hP 0 rfl rfl 0 (by decide) (hg _ m_735) (fun _ h9 => h9) rfl d_X12_takeBytes_12 ?_
  refine va_alen hx hb hK hP 1 0 rfl rfl (v := 16000) (by show Int32.ofNat 16000 = 16000; decide) d_X12_takeBytes_15 ?_
  refine lv_icmp_ge (tgt := 48) hx hb d_X12_takeBytes_16 (by decide) (fun c_16 => absurd c_16 (by decide)) (fun _ => ?_)
  refine lv_aload_n hx hb d_X12_takeBytes_19 rfl (lv_at hl 1 rfl) ?_
  refine va_get (D := D) (ci := 12) (v := .ref (r 1)) (C := "LinkedUnits") (T := TX12) (N := 15) hx hb hg iwX12 hown hK hP 0 rfl rfl 0 (by decide) (hg _ m_735) (fun _ h9 => h9) rfl d_X12_takeBytes_20 ?_
  refine lv_aload_n hx hb d_X12_takeBytes_23 rfl (lv_at hl 1 rfl) ?_
  refine va_get (D := D) (ci := 12) (v := .int 10) (C := "LinkedUnits") (T := TX12) (N := 15) hx hb hg iwX12 hown hK hP 0 rfl rfl 1 (by decide) (hg _ m_736) (fun _ h9 => h9) rfl d_X12_takeBytes_24 ?_
  refine lv_iload_n hx hb d_X12_takeBytes_27 rfl (lv_at hl 2 rfl) ?_
  refine lv_iload_n hx hb d_X12_takeBytes_28 rfl (lv_at hl 0 rfl) ?_
  refine lv_ishr hx hb d_X12_takeBytes_29 ?_
  refine lv_i2b (v := ((four >>> (8 &&& 31))).toInt8.toInt32) hx hb d_X12_takeBytes_30 rfl ?_
  refine k_bast_any hx hb hK hP hD hS 1 0 rfl rfl (k_inK (by decide)) d_X12_takeBytes_31 (fun g3 H locs hP hD hS => ?_)
  have hP : va_P D vwCl [((r 0), .inr (12, ((oLU r).set 1 (.int 10)))), ((r 1), .inl (cy 0, 16000, .inl g3))] H := hP
  have hD : va_D A [((r 0), .inr (12, ((oLU r).set 1 (.int 10)))), ((r 1), .inl (cy 0, 16000, .inl g3))] := hD
  refine lv_aload_n hx hb d_X12_takeBytes_32 rfl (lv_at hl 1 rfl) ?_
  refine lv_dup hx hb d_X12_takeBytes_33 rfl ?_
  refine va_get (D := D) (ci := 12) (v := .int 10) (C := "LinkedUnits") (T := TX12) (N := 15) hx hb hg iwX12 hown hK hP 0 rfl rfl 1 (by decide) (hg _ m_736) (fun _ h9 => h9) rfl d_X12_takeBytes_34 ?_
  refine lv_iconst (v := 1) hx hb d_X12_takeBytes_37 (by decide) ?_
  refine lv_iadd hx hb d_X12_takeBytes_38 ?_
  refine k_topi 11 (by decide) ?_
  refine va_put (D := D) (ci := 12) (v := .int 11) (ty := .int) (C := "LinkedUnits") (T := TX12) (N := 15) hx hb hg iwX12 tyX12 tyX12_ok nmX12 hown hK hP hD hS 0 rfl rfl 1 (by decide) (hg _ m_736) (fun _ h9 => h9) rfl (by decide +kernel) rfl rfl (Nat.le_of_ble_eq_true rfl) d_X12_takeBytes_39 (fun H locs hP hD hS => ?_)
  have hP : va_P D vwCl [((r 0), .inr (12, ((oLU r).set 1 (.int 11)))), ((r 1), .inl (cy 0, 16000, .inl g3))] H := hP
  have hD : va_D A [((r 0), .inr (12, ((oLU r).set 1 (.int 11)))), ((r 1), .inl (cy 0, 16000, .inl g3))] := hD
  refine lv_iinc (v := 0) (lv' := [(2, .int 0), (0, .ref (r 0)), (1, .int four)]) hx hb d_X12_takeBytes_42 hl (k := 0) rfl (by decide) (by decide) rfl (fun ls hl => ?_)
  refine lv_goto (tgt := 3) hx hb d_X12_takeBytes_45 (by decide) ?_
  refine lv_iload_n hx hb d_X12_takeBytes_3 rfl (lv_at hl 0 rfl) ?_
  refine lv_if_lt (tgt := 48) hx hb d_X12_takeBytes_4 (by decide) (fun c_4 => absurd c_4 (by decide)) (fun _ => ?_)
  refine lv_aload_n hx hb d_X12_takeBytes_7 rfl (lv_at hl 1 rfl) ?_
  refine va_get (D := D) (ci := 12) (v := .int 11) (C := "LinkedUnits") (T := TX12) (N := 15) hx hb hg iwX12 hown hK hP 0 rfl rfl 1 (by decide) (hg _ m_736) (fun _ h9 => h9) rfl d_X12_takeBytes_8 ?_
  refine lv_aload_n hx hb d_X12_takeBytes_11 rfl (lv_at hl 1 rfl) ?_
  refine va_get (D := D) (ci := 12) (v := .ref (r 1)) (C := "LinkedUnits") (T := TX12) (N := 15) hx hb hg iwX12 hown hK hP 0 rfl rfl 0 (by decide) (hg _ m_735) (fun _ h9 => h9) rfl d_X12_takeBytes_12 ?_
  refine va_alen hx hb hK hP 1 0 rfl rfl (v := 16000) (by show Int32.ofNat 16000 = 16000; decide) d_X12_takeBytes_15 ?_
  refine lv_icmp_ge (tgt := 48) hx hb d_X12_takeBytes_16 (by decide) (fun c_16 => absurd c_16 (by decide)) (fun _ => ?_)
  refine lv_aload_n hx hb d_X12_takeBytes_19 rfl (lv_at hl 1 rfl) ?_
  refine va_get (D := D) (ci := 12) (v := .ref (r 1)) (C := "LinkedUnits") (T := TX12) (N := 15) hx hb hg iwX12 hown hK hP 0 rfl rfl 0 (by decide) (hg _ m_735) (fun _ h9 => h9) rfl d_X12_takeBytes_20 ?_
  refine lv_aload_n hx hb d_X12_takeBytes_23 rfl (lv_at hl 1 rfl) ?_
  refine va_get (D := D) (ci := 12) (v := .int 11) (C := "LinkedUnits") (T := TX12) (N := 15) hx hb hg iwX12 hown hK hP 0 rfl rfl 1 (by decide) (hg _ m_736) (fun _ h9 => h9) rfl d_X12_takeBytes_24 ?_
  refine lv_iload_n hx hb d_X12_takeBytes_27 rfl (lv_at hl 2 rfl) ?_
  refine lv_iload_n hx hb d_X12_takeBytes_28 rfl (lv_at hl 0 rfl) ?_
  refine lv_ishr hx hb d_X12_takeBytes_29 ?_
  refine lv_i2b (v := ((four >>> (0 &&& 31))).toInt8.toInt32) hx hb d_X12_takeBytes_30 rfl ?_
  refine k_bast_any hx hb hK hP hD hS 1 0 rfl rfl (k_inK (by decide)) d_X12_takeBytes_31 (fun g4 H locs hP hD hS => ?_)
  have hP : va_P D vwCl [((r 0), .inr (12, ((oLU r).set 1 (.int 11)))), ((r 1), .inl (cy 0, 16000, .inl g4))] H := hP
  have hD : va_D A [((r 0), .inr (12, ((oLU r).set 1 (.int 11)))), ((r 1), .inl (cy 0, 16000, .inl g4))] := hD
  refine lv_aload_n hx hb d_X12_takeBytes_32 rfl (lv_at hl 1 rfl) ?_
  refine lv_dup hx hb d_X12_takeBytes_33 rfl ?_
  refine va_get (D := D) (ci := 12) (v := .int 11) (C := "LinkedUnits") (T := TX12) (N := 15) hx hb hg iwX12 hown hK hP 0 rfl rfl 1 (by decide) (hg _ m_736) (fun _ h9 => h9) rfl d_X12_takeBytes_34 ?_
  refine lv_iconst (v := 1) hx hb d_X12_takeBytes_37 (by decide) ?_
  refine lv_iadd hx hb d_X12_takeBytes_38 ?_
  refine k_topi 12 (by decide) ?_
  refine va_put (D := D) (ci := 12) (v := .int 12) (ty := .int) (C := "LinkedUnits") (T := TX12) (N := 15) hx hb hg iwX12 tyX12 tyX12_ok nmX12 hown hK hP hD hS 0 rfl rfl 1 (by decide) (hg _ m_736) (fun _ h9 => h9) rfl (by decide +kernel) rfl rfl (Nat.le_of_ble_eq_true rfl) d_X12_takeBytes_39 (fun H locs hP hD hS => ?_)
  have hP : va_P D vwCl [((r 0), .inr (12, ((oLU r).set 1 (.int 12)))), ((r 1), .inl (cy 0, 16000, .inl g4))] H := hP
  have hD : va_D A [((r 0), .inr (12, ((oLU r).set 1 (.int 12)))), ((r 1), .inl (cy 0, 16000, .inl g4))] := hD
  refine lv_iinc (v := (-8)) (lv' := [(2, .int (-8)), (0, .ref (r 0)), (1, .int four)]) hx hb d_X12_takeBytes_42 hl (k := 0) rfl (by decide) (by decide) rfl (fun ls hl => ?_)
  refine lv_goto (tgt := 3) hx hb d_X12_takeBytes_45 (by decide) ?_
  refine lv_iload_n hx hb d_X12_takeBytes_3 rfl (lv_at hl 0 rfl) ?_
  refine lv_if_lt (tgt := 48) hx hb d_X12_takeBytes_4 (by decide) (fun _ => ?_) (fun c_4 => False.elim (by revert c_4; decide))
  refine W.widen (k := 0) (n := 0) (Nat.le_of_ble_eq_true rfl) (Nat.le_of_ble_eq_true rfl) ?_
  exact k_vret (X := Nat → Int32) (w1 := fun g => [((r 0), .inr (12, ((oLU r).set 1 (.int 12)))), ((r 1), .inl (cy 0, 16000, .inl g))]) (g4) hx hb hr d_X12_takeBytes_48 hlocks (hP.sub [0, 1] rfl) hK (hD.sub [0, 1] (by decide) rfl) hS trivial
set_option maxHeartbeats 4000000 in
set_option maxRecDepth 100000 in
theorem c_takeBytes_12 (l : Launch) (D : va_G) (cy : Nat → ClassId) (sz : Nat) (r : Nat → Nat) (f : Nat → Int32) (four : Int32) : Met l y_X12_takeBytes (Cond.code y_X12_takeBytes b_X12_takeBytes 3 none :: GW) ({ frames := 0, cells := 0, slots := 0, locals := 0 }) (va_Pc [.ref (r 0), .int four] (kPre D cy sz [((r 0), .inr (12, ((oLU r).set 1 (.int 12)))), ((r 1), .inl (cy 0, 16000, .inl f))])) ((fun A : Nat → Prop => va_Qv (S := Nat → Int32) (fun (_ : Nat → Int32) => True) (fun g => kPost D cy A [((r 0), .inr (12, ((oLU r).set 1 (.int 16)))), ((r 1), .inl (cy 0, 16000, .inl g))]) A) (va_A [((r 0), .inr (12, ((oLU r).set 1 (.int 12)))), ((r 1), .inl (cy 0, 16000, .inl f))] sz)) 0 0 (va_A [((r 0), .inr (12, ((oLU r).set 1 (.int 12)))), ((r 1), .inl (cy 0, 16000, .inl f))] sz) := by
  refine k_ofW (Qc := fun A => va_Qv (S := Nat → Int32) (fun (_ : Nat → Int32) => True) (fun g => kPost D cy A [((r 0), .inr (12, ((oLU r).set 1 (.int 16)))), ((r 1), .inl (cy 0, 16000, .inl g))]) A) (by decide) (Nat.le_of_ble_eq_true rfl) ?_
  intro p e s m below meth c A ls hx hb hr hml hown hlocks hin hg hNW hK hP hD hA hS hl
  have hl : lv_has ls 3 [(0, .ref (r 0)), (1, .int four)] := hl
  have hown : s.vm.findClass "LinkedUnits" = some m.cls := hown
  refine lv_bipush (v := 24) hx hb d_X12_takeBytes_0 (by decide) ?_
  refine lv_istore_n (lv' := [(2, .int 24), (0, .ref (r 0)), (1, .int four)]) hx hb d_X12_takeBytes_2 rfl hl (by decide) rfl (fun ls hl => ?_)
  refine lv_iload_n hx hb d_X12_takeBytes_3 rfl (lv_at hl 0 rfl) ?_
  refine lv_if_lt (tgt := 48) hx hb d_X12_takeBytes_4 (by decide) (fun c_4 => absurd c_4 (by decide)) (fun _ => ?_)
  refine lv_aload_n hx hb d_X12_takeBytes_7 rfl (lv_at hl 1 rfl) ?_
  refine va_get (D := D) (ci := 12) (v := .int 12) (C := "LinkedUnits") (T := TX12) (N := 15) hx hb hg iwX12 hown hK hP 0 rfl rfl 1 (by decide) (hg _ m_736) (fun _ h9 => h9) rfl d_X12_takeBytes_8 ?_
  refine lv_aload_n hx hb d_X12_takeBytes_11 rfl (lv_at hl 1 rfl) ?_
  refine va_get (D := D) (ci := 12) (v := .ref (r 1)) (C := "LinkedUnits") (T := TX12) (N := 15) hx hb hg iwX12 hown hK hP 0 rfl rfl 0 (by decide) (hg _ m_735) (fun _ h9 => h9) rfl d_X12_takeBytes_12 ?_
  refine va_alen hx hb hK hP 1 0 rfl rfl (v := 16000) (by show Int32.ofNat 16000 = 16000; decide) d_X12_takeBytes_15 ?_
  refine lv_icmp_ge (tgt := 48) hx hb d_X12_takeBytes_16 (by decide) (fun c_16 => absurd c_16 (by decide)) (fun _ => ?_)
  refine lv_aload_n hx hb d_X12_takeBytes_19 rfl (lv_at hl 1 rfl) ?_
  refine va_get (D := D) (ci := 12) (v := .ref (r 1)) (C := "LinkedUnits") (T := TX12) (N := 15) hx hb hg iwX12 hown hK hP 0 rfl rfl 0 (by decide) (hg _ m_735) (fun _ h9 => h9) rfl d_X12_takeBytes_20 ?_
  refine lv_aload_n hx hb d_X12_takeBytes_23 rfl (lv_at hl 1 rfl) ?_
  refine va_get (D := D) (ci := 12) (v := .int 12) (C := "LinkedUnits") (T := TX12) (N := 15) hx hb hg iwX12 hown hK hP 0 rfl rfl 1 (by decide) (hg _ m_736) (fun _ h9 => h9) rfl d_X12_takeBytes_24 ?_
  refine lv_iload_n hx hb d_X12_takeBytes_27 rfl (lv_at hl 2 rfl) ?_
  refine lv_iload_n hx hb d_X12_takeBytes_28 rfl (lv_at hl 0 rfl) ?_
  refine lv_ishr hx hb d_X12_takeBytes_29 ?_
  refine lv_i2b (v := ((four >>> (24 &&& 31))).toInt8.toInt32) hx hb d_X12_takeBytes_30 rfl ?_
  refine k_bast_any hx hb hK hP hD hS 1 0 rfl rfl (k_inK (by decide)) d_X12_takeBytes_31 (fun g1 H locs hP hD hS => ?_)
  have hP : va_P D vwCl [((r 0), .inr (12, ((oLU r).set 1 (.int 12)))), ((r 1), .inl (cy 0, 16000, .inl g1))] H := hP
  have hD : va_D A [((r 0), .inr (12, ((oLU r).set 1 (.int 12)))), ((r 1), .inl (cy 0, 16000, .inl g1))] := hD
  refine lv_aload_n hx hb d_X12_takeBytes_32 rfl (lv_at hl 1 rfl) ?_
  refine lv_dup hx hb d_X12_takeBytes_33 rfl ?_
  refine va_get (D := D) (ci := 12) (v := .int 12) (C := "LinkedUnits") (T := TX12) (N := 15) hx hb hg iwX12 hown hK hP 0 rfl rfl 1 (by decide) (hg _ m_736) (fun _ h9 => h9) rfl d_X12_takeBytes_34 ?_
  refine lv_iconst (v := 1) hx hb d_X12_takeBytes_37 (by decide) ?_
  refine lv_iadd hx hb d_X12_takeBytes_38 ?_
  refine k_topi 13 (by decide) ?_
  refine va_put (D := D) (ci := 12) (v := .int 13) (ty := .int) (C := "LinkedUnits") (T := TX12) (N := 15) hx hb hg iwX12 tyX12 tyX12_ok nmX12 hown hK hP hD hS 0 rfl rfl 1 (by decide) (hg _ m_736) (fun _ h9 => h9) rfl (by decide +kernel) rfl rfl (Nat.le_of_ble_eq_true rfl) d_X12_takeBytes_39 (fun H locs hP hD hS => ?_)
  have hP : va_P D vwCl [((r 0), .inr (12, ((oLU r).set 1 (.int 13)))), ((r 1), .inl (cy 0, 16000, .inl g1))] H := hP
  have hD : va_D A [((r 0), .inr (12, ((oLU r).set 1 (.int 13)))), ((r 1), .inl (cy 0, 16000, .inl g1))] := hD
  refine lv_iinc (v := 16) (lv' := [(2, .int 16), (0, .ref (r 0)), (1, .int four)]) hx hb d_X12_takeBytes_42 hl (k := 0) rfl (by decide) (by decide) rfl (fun ls hl => ?_)
  refine lv_goto (tgt := 3) hx hb d_X12_takeBytes_45 (by decide) ?_
  refine lv_iload_n hx hb d_X12_takeBytes_3 rfl (lv_at hl 0 rfl) ?_
  refine lv_if_lt (tgt := 48) hx hb d_X12_takeBytes_4 (by decide) (fun c_4 => absurd c_4 (by decide)) (fun _ => ?_)
  refine lv_aload_n hx hb d_X12_takeBytes_7 rfl (lv_at hl 1 rfl) ?_
  refine va_get (D := D) (ci := 12) (v := .int 13) (C := "LinkedUnits") (T := TX12) (N := 15) hx hb hg iwX12 hown hK hP 0 rfl rfl 1 (by decide) (hg _ m_736) (fun _ h9 => h9) rfl d_X12_takeBytes_8 ?_
  refine lv_aload_n hx hb d_X12_takeBytes_11 rfl (lv_at hl 1 rfl) ?_
  refine va_get (D := D) (ci := 12) (v := .ref (r 1)) (C := "LinkedUnits") (T := TX12) (N := 15) hx hb hg iwX12 hown hK hP 0 rfl rfl 0 (by decide) (hg _ m_735) (fun _ h9 => h9) rfl d_X12_takeBytes_12 ?_
  refine va_alen hx hb hK hP 1 0 rfl rfl (v := 16000) (by show Int32.ofNat 16000 = 16000; decide) d_X12_takeBytes_15 ?_
  refine lv_icmp_ge (tgt := 48) hx hb d_X12_takeBytes_16 (by decide) (fun c_16 => absurd c_16 (by decide)) (fun _ => ?_)
  refine lv_aload_n hx hb d_X12_takeBytes_19 rfl (lv_at hl 1 rfl) ?_
  refine va_get (D := D) (ci := 12) (v := .ref (r 1)) (C := "LinkedUnits") (T := TX12) (N := 15) hx hb hg iwX12 hown hK hP 0 rfl rfl 0 (by decide) (hg _ m_735) (fun _ h9 => h9) rfl d_X12_takeBytes_20 ?_
  refine lv_aload_n hx hb d_X12_takeBytes_23 rfl (lv_at hl 1 rfl) ?_
  refine va_get (D := D) (ci := 12) (v := .int 13) (C := "LinkedUnits") (T := TX12) (N := 15) hx hb hg iwX12 hown hK hP 0 rfl rfl 1 (by decide) (hg _ m_736) (fun _ h9 => h9) rfl d_X12_takeBytes_24 ?_
  refine lv_iload_n hx hb d_X12_takeBytes_27 rfl (lv_at hl 2 rfl) ?_
  refine lv_iload_n hx hb d_X12_takeBytes_28 rfl (lv_at hl 0 rfl) ?_
  refine lv_ishr hx hb d_X12_takeBytes_29 ?_
  refine lv_i2b (v := ((four >>> (16 &&& 31))).toInt8.toInt32) hx hb d_X12_takeBytes_30 rfl ?_
  refine k_bast_any hx hb hK hP hD hS 1 0 rfl rfl (k_inK (by decide)) d_X12_takeBytes_31 (fun g2 H locs hP hD hS => ?_)
  have hP : va_P D vwCl [((r 0), .inr (12, ((oLU r).set 1 (.int 13)))), ((r 1), .inl (cy 0, 16000, .inl g2))] H := hP
  have hD : va_D A [((r 0), .inr (12, ((oLU r).set 1 (.int 13)))), ((r 1), .inl (cy 0, 16000, .inl g2))] := hD
  refine lv_aload_n hx hb d_X12_takeBytes_32 rfl (lv_at hl 1 rfl) ?_
  refine lv_dup hx hb d_X12_takeBytes_33 rfl ?_
  refine va_get (D := D) (ci := 12) (v := .int 13) (C := "LinkedUnits") (T := TX12) (N := 15) hx hb hg iwX12 hown hK hP 0 rfl rfl 1 (by decide) (hg _ m_736) (fun _ h9 => h9) rfl d_X12_takeBytes_34 ?_
  refine lv_iconst (v := 1) hx hb d_X12_takeBytes_37 (by decide) ?_
  refine lv_iadd hx hb d_X12_takeBytes_38 ?_
  refine k_topi 14 (by decide) ?_
  refine va_put (D := D) (ci := 12) (v := .int 14) (ty := .int) (C := "LinkedUnits") (T := TX12) (N := 15) hx hb hg iwX12 tyX12 tyX12_ok nmX12 hown hK hP hD hS 0 rfl rfl 1 (by decide) (hg _ m_736) (fun _ h9 => h9) rfl (by decide +kernel) rfl rfl (Nat.le_of_ble_eq_true rfl) d_X12_takeBytes_39 (fun H locs hP hD hS => ?_)
  have hP : va_P D vwCl [((r 0), .inr (12, ((oLU r).set 1 (.int 14)))), ((r 1), .inl (cy 0, 16000, .inl g2))] H := hP
  have hD : va_D A [((r 0), .inr (12, ((oLU r).set 1 (.int 14)))), ((r 1), .inl (cy 0, 16000, .inl g2))] := hD
  refine lv_iinc (v := 8) (lv' := [(2, .int 8), (0, .ref (r 0)), (1, .int four)]) hx hb d_X12_takeBytes_42 hl (k := 0) rfl (by decide) (by decide) rfl (fun ls hl => ?_)
  refine lv_goto (tgt := 3) hx hb d_X12_takeBytes_45 (by decide) ?_
  refine lv_iload_n hx hb d_X12_takeBytes_3 rfl (lv_at hl 0 rfl) ?_
  refine lv_if_lt (tgt := 48) hx hb d_X12_takeBytes_4 (by decide) (fun c_4 => absurd c_4 (by decide)) (fun _ => ?_)
  refine lv_aload_n hx hb d_X12_takeBytes_7 rfl (lv_at hl 1 rfl) ?_
  refine va_get (D := D) (ci := 12) (v := .int 14) (C := "LinkedUnits") (T := TX12) (N := 15) hx hb hg iwX12 hown hK hP 0 rfl rfl 1 (by decide) (hg _ m_736) (fun _ h9 => h9) rfl d_X12_takeBytes_8 ?_
  refine lv_aload_n hx hb d_X12_takeBytes_11 rfl (lv_at hl 1 rfl) ?_
  refine va_get (D := D) (ci := 12) (v := .ref (r 1)) (C := "LinkedUnits") (T := TX12) (N := 15) hx hb hg iwX12 hown hK hP 0 rfl rfl 0 (by decide) (hg _ m_735) (fun _ h9 => h9) rfl d_X12_takeBytes_12 ?_
  refine va_alen hx hb hK hP 1 0 rfl rfl (v := 16000) (by show Int32.ofNat 16000 = 16000; decide) d_X12_takeBytes_15 ?_
  refine lv_icmp_ge (tgt := 48) hx hb d_X12_takeBytes_16 (by decide) (fun c_16 => absurd c_16 (by decide)) (fun _ => ?_)
  refine lv_aload_n hx hb d_X12_takeBytes_19 rfl (lv_at hl 1 rfl) ?_
  refine va_get (D := D) (ci := 12) (v := .ref (r 1)) (C := "LinkedUnits") (T := TX12) (N := 15) hx hb hg iwX12 hown hK hP 0 rfl rfl 0 (by decide) (hg _ m_735) (fun _ h9 => h9) rfl d_X12_takeBytes_20 ?_
  refine lv_aload_n hx hb d_X12_takeBytes_23 rfl (lv_at hl 1 rfl) ?_
  refine va_get (D := D) (ci := 12) (v := .int 14) (C := "LinkedUnits") (T := TX12) (N := 15) hx hb hg iwX12 hown hK hP 0 rfl rfl 1 (by decide) (hg _ m_736) (fun _ h9 => h9) rfl d_X12_takeBytes_24 ?_
  refine lv_iload_n hx hb d_X12_takeBytes_27 rfl (lv_at hl 2 rfl) ?_
  refine lv_iload_n hx hb d_X12_takeBytes_28 rfl (lv_at hl 0 rfl) ?_
  refine lv_ishr hx hb d_X12_takeBytes_29 ?_
  refine lv_i2b (v := ((four >>> (8 &&& 31))).toInt8.toInt32) hx hb d_X12_takeBytes_30 rfl ?_
  refine k_bast_any hx hb hK hP hD hS 1 0 rfl rfl (k_inK (by decide)) d_X12_takeBytes_31 (fun g3 H locs hP hD hS => ?_)
  have hP : va_P D vwCl [((r 0), .inr (12, ((oLU r).set 1 (.int 14)))), ((r 1), .inl (cy 0, 16000, .inl g3))] H := hP
  have hD : va_D A [((r 0), .inr (12, ((oLU r).set 1 (.int 14)))), ((r 1), .inl (cy 0, 16000, .inl g3))] := hD
  refine lv_aload_n hx hb d_X12_takeBytes_32 rfl (lv_at hl 1 rfl) ?_
  refine lv_dup hx hb d_X12_takeBytes_33 rfl ?_
  refine va_get (D := D) (ci := 12) (v := .int 14) (C := "LinkedUnits") (T := TX12) (N := 15) hx hb hg iwX12 hown hK hP 0 rfl rfl 1 (by decide) (hg _ m_736) (fun _ h9 => h9) rfl d_X12_takeBytes_34 ?_
  refine lv_iconst (v := 1) hx hb d_X12_takeBytes_37 (by decide) ?_
  refine lv_iadd hx hb d_X12_takeBytes_38 ?_
  refine k_topi 15 (by decide) ?_
  refine va_put (D := D) (ci := 12) (v := .int 15) (ty := .int) (C := "LinkedUnits") (T := TX12) (N := 15) hx hb hg iwX12 tyX12 tyX12_ok nmX12 hown hK hP hD hS 0 rfl rfl 1 (by decide) (hg _ m_736) (fun _ h9 => h9) rfl (by decide +kernel) rfl rfl (Nat.le_of_ble_eq_true rfl) d_X12_takeBytes_39 (fun H locs hP hD hS => ?_)
  have hP : va_P D vwCl [((r 0), .inr (12, ((oLU r).set 1 (.int 15)))), ((r 1), .inl (cy 0, 16000, .inl g3))] H := hP
  have hD : va_D A [((r 0), .inr (12, ((oLU r).set 1 (.int 15)))), ((r 1), .inl (cy 0, 16000, .inl g3))] := hD
  refine lv_iinc (v := 0) (lv' := [(2, .int 0), (0, .ref (r 0)), (1, .int four)]) hx hb d_X12_takeBytes_42 hl (k := 0) rfl (by decide) (by decide) rfl (fun ls hl => ?_)
  refine lv_goto (tgt := 3) hx hb d_X12_takeBytes_45 (by decide) ?_
  refine lv_iload_n hx hb d_X12_takeBytes_3 rfl (lv_at hl 0 rfl) ?_
  refine lv_if_lt (tgt := 48) hx hb d_X12_takeBytes_4 (by decide) (fun c_4 => absurd c_4 (by decide)) (fun _ => ?_)
  refine lv_aload_n hx hb d_X12_takeBytes_7 rfl (lv_at hl 1 rfl) ?_
  refine va_get (D := D) (ci := 12) (v := .int 15) (C := "LinkedUnits") (T := TX12) (N := 15) hx hb hg iwX12 hown hK hP 0 rfl rfl 1 (by decide) (hg _ m_736) (fun _ h9 => h9) rfl d_X12_takeBytes_8 ?_
  refine lv_aload_n hx hb d_X12_takeBytes_11 rfl (lv_at hl 1 rfl) ?_
  refine va_get (D := D) (ci := 12) (v := .ref (r 1)) (C := "LinkedUnits") (T := TX12) (N := 15) hx hb hg iwX12 hown hK hP 0 rfl rfl 0 (by decide) (hg _ m_735) (fun _ h9 => h9) rfl d_X12_takeBytes_12 ?_
  refine va_alen hx hb hK hP 1 0 rfl rfl (v := 16000) (by show Int32.ofNat 16000 = 16000; decide) d_X12_takeBytes_15 ?_
  refine lv_icmp_ge (tgt := 48) hx hb d_X12_takeBytes_16 (by decide) (fun c_16 => absurd c_16 (by decide)) (fun _ => ?_)
  refine lv_aload_n hx hb d_X12_takeBytes_19 rfl (lv_at hl 1 rfl) ?_
  refine va_get (D := D) (ci := 12) (v := .ref (r 1)) (C := "LinkedUnits") (T := TX12) (N := 15) hx hb hg iwX12 hown hK hP 0 rfl rfl 0 (by decide) (hg _ m_735) (fun _ h9 => h9) rfl d_X12_takeBytes_20 ?_
  refine lv_aload_n hx hb d_X12_takeBytes_23 rfl (lv_at hl 1 rfl) ?_
  refine va_get (D := D) (ci := 12) (v := .int 15) (C := "LinkedUnits") (T := TX12) (N := 15) hx hb hg iwX12 hown hK hP 0 rfl rfl 1 (by decide) (hg _ m_736) (fun _ h9 => h9) rfl d_X12_takeBytes_24 ?_
  refine lv_iload_n hx hb d_X12_takeBytes_27 rfl (lv_at hl 2 rfl) ?_
  refine lv_iload_n hx hb d_X12_takeBytes_28 rfl (lv_at hl 0 rfl) ?_
  refine lv_ishr hx hb d_X12_takeBytes_29 ?_
  refine lv_i2b (v := ((four >>> (0 &&& 31))).toInt8.toInt32) hx hb d_X12_takeBytes_30 rfl ?_
  refine k_bast_any hx hb hK hP hD hS 1 0 rfl rfl (k_inK (by decide)) d_X12_takeBytes_31 (fun g4 H locs hP hD hS => ?_)
  have hP : va_P D vwCl [((r 0), .inr (12, ((oLU r).set 1 (.int 15)))), ((r 1), .inl (cy 0, 16000, .inl g4))] H := hP
  have hD : va_D A [((r 0), .inr (12, ((oLU r).set 1 (.int 15)))), ((r 1), .inl (cy 0, 16000, .inl g4))] := hD
  refine lv_aload_n hx hb d_X12_takeBytes_32 rfl (lv_at hl 1 rfl) ?_
  refine lv_dup hx hb d_X12_takeBytes_33 rfl ?_
  refine va_get (D := D) (ci := 12) (v := .int 15) (C := "LinkedUnits") (T := TX12) (N := 15) hx hb hg iwX12 hown hK hP 0 rfl rfl 1 (by decide) (hg _ m_736) (fun _ h9 => h9) rfl d_X12_takeBytes_34 ?_
  refine lv_iconst (v := 1) hx hb d_X12_takeBytes_37 (by decide) ?_
  refine lv_iadd hx hb d_X12_takeBytes_38 ?_
  refine k_topi 16 (by decide) ?_
  refine va_put (D := D) (ci := 12) (v := .int 16) (ty := .int) (C := "LinkedUnits") (T := TX12) (N := 15) hx hb hg iwX12 tyX12 tyX12_ok nmX12 hown hK hP hD hS 0 rfl rfl 1 (by decide) (hg _ m_736) (fun _ h9 => h9) rfl (by decide +kernel) rfl rfl (Nat.le_of_ble_eq_true rfl) d_X12_takeBytes_39 (fun H locs hP hD hS => ?_)
  have hP : va_P D vwCl [((r 0), .inr (12, ((oLU r).set 1 (.int 16)))), ((r 1), .inl (cy 0, 16000, .inl g4))] H := hP
  have hD : va_D A [((r 0), .inr (12, ((oLU r).set 1 (.int 16)))), ((r 1), .inl (cy 0, 16000, .inl g4))] := hD
  refine lv_iinc (v := (-8)) (lv' := [(2, .int (-8)), (0, .ref (r 0)), (1, .int four)]) hx hb d_X12_takeBytes_42 hl (k := 0) rfl (by decide) (by decide) rfl (fun ls hl => ?_)
  refine lv_goto (tgt := 3) hx hb d_X12_takeBytes_45 (by decide) ?_
  refine lv_iload_n hx hb d_X12_takeBytes_3 rfl (lv_at hl 0 rfl) ?_
  refine lv_if_lt (tgt := 48) hx hb d_X12_takeBytes_4 (by decide) (fun _ => ?_) (fun c_4 => False.elim (by revert c_4; decide))
  refine W.widen (k := 0) (n := 0) (Nat.le_of_ble_eq_true rfl) (Nat.le_of_ble_eq_true rfl) ?_
  exact k_vret (X := Nat → Int32) (w1 := fun g => [((r 0), .inr (12, ((oLU r).set 1 (.int 16)))), ((r 1), .inl (cy 0, 16000, .inl g))]) (g4) hx hb hr d_X12_takeBytes_48 hlocks (hP.sub [0, 1] rfl) hK (hD.sub [0, 1] (by decide) rfl) hS trivial
set_option maxHeartbeats 4000000 in
set_option maxRecDepth 100000 in
theorem c_takeBytes_16 (l : Launch) (D : va_G) (cy : Nat → ClassId) (sz : Nat) (r : Nat → Nat) (f : Nat → Int32) (four : Int32) : Met l y_X12_takeBytes (Cond.code y_X12_takeBytes b_X12_takeBytes 3 none :: GW) ({ frames := 0, cells := 0, slots := 0, locals := 0 }) (va_Pc [.ref (r 0), .int four] (kPre D cy sz [((r 0), .inr (12, ((oLU r).set 1 (.int 16)))), ((r 1), .inl (cy 0, 16000, .inl f))])) ((fun A : Nat → Prop => va_Qv (S := Nat → Int32) (fun (_ : Nat → Int32) => True) (fun g => kPost D cy A [((r 0), .inr (12, ((oLU r).set 1 (.int 20)))), ((r 1), .inl (cy 0, 16000, .inl g))]) A) (va_A [((r 0), .inr (12, ((oLU r).set 1 (.int 16)))), ((r 1), .inl (cy 0, 16000, .inl f))] sz)) 0 0 (va_A [((r 0), .inr (12, ((oLU r).set 1 (.int 16)))), ((r 1), .inl (cy 0, 16000, .inl f))] sz) := by
  refine k_ofW (Qc := fun A => va_Qv (S := Nat → Int32) (fun (_ : Nat → Int32) => True) (fun g => kPost D cy A [((r 0), .inr (12, ((oLU r).set 1 (.int 20)))), ((r 1), .inl (cy 0, 16000, .inl g))]) A) (by decide) (Nat.le_of_ble_eq_true rfl) ?_
  intro p e s m below meth c A ls hx hb hr hml hown hlocks hin hg hNW hK hP hD hA hS hl
  have hl : lv_has ls 3 [(0, .ref (r 0)), (1, .int four)] := hl
  have hown : s.vm.findClass "LinkedUnits" = some m.cls := hown
  refine lv_bipush (v := 24) hx hb d_X12_takeBytes_0 (by decide) ?_
  refine lv_istore_n (lv' := [(2, .int 24), (0, .ref (r 0)), (1, .int four)]) hx hb d_X12_takeBytes_2 rfl hl (by decide) rfl (fun ls hl => ?_)
  refine lv_iload_n hx hb d_X12_takeBytes_3 rfl (lv_at hl 0 rfl) ?_
  refine lv_if_lt (tgt := 48) hx hb d_X12_takeBytes_4 (by decide) (fun c_4 => absurd c_4 (by decide)) (fun _ => ?_)
  refine lv_aload_n hx hb d_X12_takeBytes_7 rfl (lv_at hl 1 rfl) ?_
  refine va_get (D := D) (ci := 12) (v := .int 16) (C := "LinkedUnits") (T := TX12) (N := 15) hx hb hg iwX12 hown hK hP 0 rfl rfl 1 (by decide) (hg _ m_736) (fun _ h9 => h9) rfl d_X12_takeBytes_8 ?_
  refine lv_aload_n hx hb d_X12_takeBytes_11 rfl (lv_at hl 1 rfl) ?_
  refine va_get (D := D) (ci := 12) (v := .ref (r 1)) (C := "LinkedUnits") (T := TX12) (N := 15) hx hb hg iwX12 hown hK hP 0 rfl rfl 0 (by decide) (hg _ m_735) (fun _ h9 => h9) rfl d_X12_takeBytes_12 ?_
  refine va_alen hx hb hK hP 1 0 rfl rfl (v := 16000) (by show Int32.ofNat 16000 = 16000; decide) d_X12_takeBytes_15 ?_
  refine lv_icmp_ge (tgt := 48) hx hb d_X12_takeBytes_16 (by decide) (fun c_16 => absurd c_16 (by decide)) (fun _ => ?_)
  refine lv_aload_n hx hb d_X12_takeBytes_19 rfl (lv_at hl 1 rfl) ?_
  refine va_get (D := D) (ci := 12) (v := .ref (r 1)) (C := "LinkedUnits") (T := TX12) (N := 15) hx hb hg iwX12 hown hK hP 0 rfl rfl 0 (by decide) (hg _ m_735) (fun _ h9 => h9) rfl d_X12_takeBytes_20 ?_
  refine lv_aload_n hx hb d_X12_takeBytes_23 rfl (lv_at hl 1 rfl) ?_
  refine va_get (D := D) (ci := 12) (v := .int 16) (C := "LinkedUnits") (T := TX12) (N := 15) hx hb hg iwX12 hown hK hP 0 rfl rfl 1 (by decide) (hg _ m_736) (fun _ h9 => h9) rfl d_X12_takeBytes_24 ?_
  refine lv_iload_n hx hb d_X12_takeBytes_27 rfl (lv_at hl 2 rfl) ?_
  refine lv_iload_n hx hb d_X12_takeBytes_28 rfl (lv_at hl 0 rfl) ?_
  refine lv_ishr hx hb d_X12_takeBytes_29 ?_
  refine lv_i2b (v := ((four >>> (24 &&& 31))).toInt8.toInt32) hx hb d_X12_takeBytes_30 rfl ?_
  refine k_bast_any hx hb hK hP hD hS 1 0 rfl rfl (k_inK (by decide)) d_X12_takeBytes_31 (fun g1 H locs hP hD hS => ?_)
  have hP : va_P D vwCl [((r 0), .inr (12, ((oLU r).set 1 (.int 16)))), ((r 1), .inl (cy 0, 16000, .inl g1))] H := hP
  have hD : va_D A [((r 0), .inr (12, ((oLU r).set 1 (.int 16)))), ((r 1), .inl (cy 0, 16000, .inl g1))] := hD
  refine lv_aload_n hx hb d_X12_takeBytes_32 rfl (lv_at hl 1 rfl) ?_
  refine lv_dup hx hb d_X12_takeBytes_33 rfl ?_
  refine va_get (D := D) (ci := 12) (v := .int 16) (C := "LinkedUnits") (T := TX12) (N := 15) hx hb hg iwX12 hown hK hP 0 rfl rfl 1 (by decide) (hg _ m_736) (fun _ h9 => h9) rfl d_X12_takeBytes_34 ?_
  refine lv_iconst (v := 1) hx hb d_X12_takeBytes_37 (by decide) ?_
  refine lv_iadd hx hb d_X12_takeBytes_38 ?_
  refine k_topi 17 (by decide) ?_
  refine va_put (D := D) (ci := 12) (v := .int 17) (ty := .int) (C := "LinkedUnits") (T := TX12) (N := 15) hx hb hg iwX12 tyX12 tyX12_ok nmX12 hown hK hP hD hS 0 rfl rfl 1 (by decide) (hg _ m_736) (fun _ h9 => h9) rfl (by decide +kernel) rfl rfl (Nat.le_of_ble_eq_true rfl) d_X12_takeBytes_39 (fun H locs hP hD hS => ?_)
  have hP : va_P D vwCl [((r 0), .inr (12, ((oLU r).set 1 (.int 17)))), ((r 1), .inl (cy 0, 16000, .inl g1))] H := hP
  have hD : va_D A [((r 0), .inr (12, ((oLU r).set 1 (.int 17)))), ((r 1), .inl (cy 0, 16000, .inl g1))] := hD
  refine lv_iinc (v := 16) (lv' := [(2, .int 16), (0, .ref (r 0)), (1, .int four)]) hx hb d_X12_takeBytes_42 hl (k := 0) rfl (by decide) (by decide) rfl (fun ls hl => ?_)
  refine lv_goto (tgt := 3) hx hb d_X12_takeBytes_45 (by decide) ?_
  refine lv_iload_n hx hb d_X12_takeBytes_3 rfl (lv_at hl 0 rfl) ?_
  refine lv_if_lt (tgt := 48) hx hb d_X12_takeBytes_4 (by decide) (fun c_4 => absurd c_4 (by decide)) (fun _ => ?_)
  refine lv_aload_n hx hb d_X12_takeBytes_7 rfl (lv_at hl 1 rfl) ?_
  refine va_get (D := D) (ci := 12) (v := .int 17) (C := "LinkedUnits") (T := TX12) (N := 15) hx hb hg iwX12 hown hK hP 0 rfl rfl 1 (by decide) (hg _ m_736) (fun _ h9 => h9) rfl d_X12_takeBytes_8 ?_
  refine lv_aload_n hx hb d_X12_takeBytes_11 rfl (lv_at hl 1 rfl) ?_
  refine va_get (D := D) (ci := 12) (v := .ref (r 1)) (C := "LinkedUnits") (T := TX12) (N := 15) hx hb hg iwX12 hown hK hP 0 rfl rfl 0 (by decide) (hg _ m_735) (fun _ h9 => h9) rfl d_X12_takeBytes_12 ?_
  refine va_alen hx hb hK hP 1 0 rfl rfl (v := 16000) (by show Int32.ofNat 16000 = 16000; decide) d_X12_takeBytes_15 ?_
  refine lv_icmp_ge (tgt := 48) hx hb d_X12_takeBytes_16 (by decide) (fun c_16 => absurd c_16 (by decide)) (fun _ => ?_)
  refine lv_aload_n hx hb d_X12_takeBytes_19 rfl (lv_at hl 1 rfl) ?_
  refine va_get (D := D) (ci := 12) (v := .ref (r 1)) (C := "LinkedUnits") (T := TX12) (N := 15) hx hb hg iwX12 hown hK hP 0 rfl rfl 0 (by decide) (hg _ m_735) (fun _ h9 => h9) rfl d_X12_takeBytes_20 ?_
  refine lv_aload_n hx hb d_X12_takeBytes_23 rfl (lv_at hl 1 rfl) ?_
  refine va_get (D := D) (ci := 12) (v := .int 17) (C := "LinkedUnits") (T := TX12) (N := 15) hx hb hg iwX12 hown hK hP 0 rfl rfl 1 (by decide) (hg _ m_736) (fun _ h9 => h9) rfl d_X12_takeBytes_24 ?_
  refine lv_iload_n hx hb d_X12_takeBytes_27 rfl (lv_at hl 2 rfl) ?_
  refine lv_iload_n hx hb d_X12_takeBytes_28 rfl (lv_at hl 0 rfl) ?_
  refine lv_ishr hx hb d_X12_takeBytes_29 ?_
  refine lv_i2b (v := ((four >>> (16 &&& 31))).toInt8.toInt32) hx hb d_X12_takeBytes_30 rfl ?_
  refine k_bast_any hx hb hK hP hD hS 1 0 rfl rfl (k_inK (by decide)) d_X12_takeBytes_31 (fun g2 H locs hP hD hS => ?_)
  have hP : va_P D vwCl [((r 0), .inr (12, ((oLU r).set 1 (.int 17)))), ((r 1), .inl (cy 0, 16000, .inl g2))] H := hP
  have hD : va_D A [((r 0), .inr (12, ((oLU r).set 1 (.int 17)))), ((r 1), .inl (cy 0, 16000, .inl g2))] := hD
  refine lv_aload_n hx hb d_X12_takeBytes_32 rfl (lv_at hl 1 rfl) ?_
  refine lv_dup hx hb d_X12_takeBytes_33 rfl ?_
  refine va_get (D := D) (ci := 12) (v := .int 17) (C := "LinkedUnits") (T := TX12) (N := 15) hx hb hg iwX12 hown hK hP 0 rfl rfl 1 (by decide) (hg _ m_736) (fun _ h9 => h9) rfl d_X12_takeBytes_34 ?_
  refine lv_iconst (v := 1) hx hb d_X12_takeBytes_37 (by decide) ?_
  refine lv_iadd hx hb d_X12_takeBytes_38 ?_
  refine k_topi 18 (by decide) ?_
  refine va_put (D := D) (ci := 12) (v := .int 18) (ty := .int) (C := "LinkedUnits") (T := TX12) (N := 15) hx hb hg iwX12 tyX12 tyX12_ok nmX12 hown hK hP hD hS 0 rfl rfl 1 (by decide) (hg _ m_736) (fun _ h9 => h9) rfl (by decide +kernel) rfl rfl (Nat.le_of_ble_eq_true rfl) d_X12_takeBytes_39 (fun H locs hP hD hS => ?_)
  have hP : va_P D vwCl [((r 0), .inr (12, ((oLU r).set 1 (.int 18)))), ((r 1), .inl (cy 0, 16000, .inl g2))] H := hP
  have hD : va_D A [((r 0), .inr (12, ((oLU r).set 1 (.int 18)))), ((r 1), .inl (cy 0, 16000, .inl g2))] := hD
  refine lv_iinc (v := 8) (lv' := [(2, .int 8), (0, .ref (r 0)), (1, .int four)]) hx hb d_X12_takeBytes_42 hl (k := 0) rfl (by decide) (by decide) rfl (fun ls hl => ?_)
  refine lv_goto (tgt := 3) hx hb d_X12_takeBytes_45 (by decide) ?_
  refine lv_iload_n hx hb d_X12_takeBytes_3 rfl (lv_at hl 0 rfl) ?_
  refine lv_if_lt (tgt := 48) hx hb d_X12_takeBytes_4 (by decide) (fun c_4 => absurd c_4 (by decide)) (fun _ => ?_)
  refine lv_aload_n hx hb d_X12_takeBytes_7 rfl (lv_at hl 1 rfl) ?_
  refine va_get (D := D) (ci := 12) (v := .int 18) (C := "LinkedUnits") (T := TX12) (N := 15) hx hb hg iwX12 hown hK hP 0 rfl rfl 1 (by decide) (hg _ m_736) (fun _ h9 => h9) rfl d_X12_takeBytes_8 ?_
  refine lv_aload_n hx hb d_X12_takeBytes_11 rfl (lv_at hl 1 rfl) ?_
  refine va_get (D := D) (ci := 12) (v := .ref (r 1)) (C := "LinkedUnits") (T := TX12) (N := 15) hx hb hg iwX12 hown hK hP 0 rfl rfl 0 (by decide) (hg _ m_735) (fun _ h9 => h9) rfl d_X12_takeBytes_12 ?_
  refine va_alen hx hb hK hP 1 0 rfl rfl (v := 16000) (by show Int32.ofNat 16000 = 16000; decide) d_X12_takeBytes_15 ?_
  refine lv_icmp_ge (tgt := 48) hx hb d_X12_takeBytes_16 (by decide) (fun c_16 => absurd c_16 (by decide)) (fun _ => ?_)
  refine lv_aload_n hx hb d_X12_takeBytes_19 rfl (lv_at hl 1 rfl) ?_
  refine va_get (D := D) (ci := 12) (v := .ref (r 1)) (C := "LinkedUnits") (T := TX12) (N := 15) hx hb hg iwX12 hown hK hP 0 rfl rfl 0 (by decide) (hg _ m_735) (fun _ h9 => h9) rfl d_X12_takeBytes_20 ?_
  refine lv_aload_n hx hb d_X12_takeBytes_23 rfl (lv_at hl 1 rfl) ?_
  refine va_get (D := D) (ci := 12) (v := .int 18) (C := "LinkedUnits") (T := TX12) (N := 15) hx hb hg iwX12 hown hK hP 0 rfl rfl 1 (by decide) (hg _ m_736) (fun _ h9 => h9) rfl d_X12_takeBytes_24 ?_
  refine lv_iload_n hx hb d_X12_takeBytes_27 rfl (lv_at hl 2 rfl) ?_
  refine lv_iload_n hx hb d_X12_takeBytes_28 rfl (lv_at hl 0 rfl) ?_
  refine lv_ishr hx hb d_X12_takeBytes_29 ?_
  refine lv_i2b (v := ((four >>> (8 &&& 31))).toInt8.toInt32) hx hb d_X12_takeBytes_30 rfl ?_
  refine k_bast_any hx hb hK hP hD hS 1 0 rfl rfl (k_inK (by decide)) d_X12_takeBytes_31 (fun g3 H locs hP hD hS => ?_)
  have hP : va_P D vwCl [((r 0), .inr (12, ((oLU r).set 1 (.int 18)))), ((r 1), .inl (cy 0, 16000, .inl g3))] H := hP
  have hD : va_D A [((r 0), .inr (12, ((oLU r).set 1 (.int 18)))), ((r 1), .inl (cy 0, 16000, .inl g3))] := hD
  refine lv_aload_n hx hb d_X12_takeBytes_32 rfl (lv_at hl 1 rfl) ?_
  refine lv_dup hx hb d_X12_takeBytes_33 rfl ?_
  refine va_get (D := D) (ci := 12) (v := .int 18) (C := "LinkedUnits") (T := TX12) (N := 15) hx hb hg iwX12 hown hK hP 0 rfl rfl 1 (by decide) (hg _ m_736) (fun _ h9 => h9) rfl d_X12_takeBytes_34 ?_
  refine lv_iconst (v := 1) hx hb d_X12_takeBytes_37 (by decide) ?_
  refine lv_iadd hx hb d_X12_takeBytes_38 ?_
  refine k_topi 19 (by decide) ?_
  refine va_put (D := D) (ci := 12) (v := .int 19) (ty := .int) (C := "LinkedUnits") (T := TX12) (N := 15) hx hb hg iwX12 tyX12 tyX12_ok nmX12 hown hK hP hD hS 0 rfl rfl 1 (by decide) (hg _ m_736) (fun _ h9 => h9) rfl (by decide +kernel) rfl rfl (Nat.le_of_ble_eq_true rfl) d_X12_takeBytes_39 (fun H locs hP hD hS => ?_)
  have hP : va_P D vwCl [((r 0), .inr (12, ((oLU r).set 1 (.int 19)))), ((r 1), .inl (cy 0, 16000, .inl g3))] H := hP
  have hD : va_D A [((r 0), .inr (12, ((oLU r).set 1 (.int 19)))), ((r 1), .inl (cy 0, 16000, .inl g3))] := hD
  refine lv_iinc (v := 0) (lv' := [(2, .int 0), (0, .ref (r 0)), (1, .int four)]) hx hb d_X12_takeBytes_42 hl (k := 0) rfl (by decide) (by decide) rfl (fun ls hl => ?_)
  refine lv_goto (tgt := 3) hx hb d_X12_takeBytes_45 (by decide) ?_
  refine lv_iload_n hx hb d_X12_takeBytes_3 rfl (lv_at hl 0 rfl) ?_
  refine lv_if_lt (tgt := 48) hx hb d_X12_takeBytes_4 (by decide) (fun c_4 => absurd c_4 (by decide)) (fun _ => ?_)
  refine lv_aload_n hx hb d_X12_takeBytes_7 rfl (lv_at hl 1 rfl) ?_
  refine va_get (D := D) (ci := 12) (v := .int 19) (C := "LinkedUnits") (T := TX12) (N := 15) hx hb hg iwX12 hown hK hP 0 rfl rfl 1 (by decide) (hg _ m_736) (fun _ h9 => h9) rfl d_X12_takeBytes_8 ?_
  refine lv_aload_n hx hb d_X12_takeBytes_11 rfl (lv_at hl 1 rfl) ?_
  refine va_get (D := D) (ci := 12) (v := .ref (r 1)) (C := "LinkedUnits") (T := TX12) (N := 15) hx hb hg iwX12 hown hK hP 0 rfl rfl 0 (by decide) (hg _ m_735) (fun _ h9 => h9) rfl d_X12_takeBytes_12 ?_
  refine va_alen hx hb hK hP 1 0 rfl rfl (v := 16000) (by show Int32.ofNat 16000 = 16000; decide) d_X12_takeBytes_15 ?_
  refine lv_icmp_ge (tgt := 48) hx hb d_X12_takeBytes_16 (by decide) (fun c_16 => absurd c_16 (by decide)) (fun _ => ?_)
  refine lv_aload_n hx hb d_X12_takeBytes_19 rfl (lv_at hl 1 rfl) ?_
  refine va_get (D := D) (ci := 12) (v := .ref (r 1)) (C := "LinkedUnits") (T := TX12) (N := 15) hx hb hg iwX12 hown hK hP 0 rfl rfl 0 (by decide) (hg _ m_735) (fun _ h9 => h9) rfl d_X12_takeBytes_20 ?_
  refine lv_aload_n hx hb d_X12_takeBytes_23 rfl (lv_at hl 1 rfl) ?_
  refine va_get (D := D) (ci := 12) (v := .int 19) (C := "LinkedUnits") (T := TX12) (N := 15) hx hb hg iwX12 hown hK hP 0 rfl rfl 1 (by decide) (hg _ m_736) (fun _ h9 => h9) rfl d_X12_takeBytes_24 ?_
  refine lv_iload_n hx hb d_X12_takeBytes_27 rfl (lv_at hl 2 rfl) ?_
  refine lv_iload_n hx hb d_X12_takeBytes_28 rfl (lv_at hl 0 rfl) ?_
  refine lv_ishr hx hb d_X12_takeBytes_29 ?_
  refine lv_i2b (v := ((four >>> (0 &&& 31))).toInt8.toInt32) hx hb d_X12_takeBytes_30 rfl ?_
  refine k_bast_any hx hb hK hP hD hS 1 0 rfl rfl (k_inK (by decide)) d_X12_takeBytes_31 (fun g4 H locs hP hD hS => ?_)
  have hP : va_P D vwCl [((r 0), .inr (12, ((oLU r).set 1 (.int 19)))), ((r 1), .inl (cy 0, 16000, .inl g4))] H := hP
  have hD : va_D A [((r 0), .inr (12, ((oLU r).set 1 (.int 19)))), ((r 1), .inl (cy 0, 16000, .inl g4))] := hD
  refine lv_aload_n hx hb d_X12_takeBytes_32 rfl (lv_at hl 1 rfl) ?_
  refine lv_dup hx hb d_X12_takeBytes_33 rfl ?_
  refine va_get (D := D) (ci := 12) (v := .int 19) (C := "LinkedUnits") (T := TX12) (N := 15) hx hb hg iwX12 hown hK hP 0 rfl rfl 1 (by decide) (hg _ m_736) (fun _ h9 => h9) rfl d_X12_takeBytes_34 ?_
  refine lv_iconst (v := 1) hx hb d_X12_takeBytes_37 (by decide) ?_
  refine lv_iadd hx hb d_X12_takeBytes_38 ?_
  refine k_topi 20 (by decide) ?_
  refine va_put (D := D) (ci := 12) (v := .int 20) (ty := .int) (C := "LinkedUnits") (T := TX12) (N := 15) hx hb hg iwX12 tyX12 tyX12_ok nmX12 hown hK hP hD hS 0 rfl rfl 1 (by decide) (hg _ m_736) (fun _ h9 => h9) rfl (by decide +kernel) rfl rfl (Nat.le_of_ble_eq_true rfl) d_X12_takeBytes_39 (fun H locs hP hD hS => ?_)
  have hP : va_P D vwCl [((r 0), .inr (12, ((oLU r).set 1 (.int 20)))), ((r 1), .inl (cy 0, 16000, .inl g4))] H := hP
  have hD : va_D A [((r 0), .inr (12, ((oLU r).set 1 (.int 20)))), ((r 1), .inl (cy 0, 16000, .inl g4))] := hD
  refine lv_iinc (v := (-8)) (lv' := [(2, .int (-8)), (0, .ref (r 0)), (1, .int four)]) hx hb d_X12_takeBytes_42 hl (k := 0) rfl (by decide) (by decide) rfl (fun ls hl => ?_)
  refine lv_goto (tgt := 3) hx hb d_X12_takeBytes_45 (by decide) ?_
  refine lv_iload_n hx hb d_X12_takeBytes_3 rfl (lv_at hl 0 rfl) ?_
  refine lv_if_lt (tgt := 48) hx hb d_X12_takeBytes_4 (by decide) (fun _ => ?_) (fun c_4 => False.elim (by revert c_4; decide))
  refine W.widen (k := 0) (n := 0) (Nat.le_of_ble_eq_true rfl) (Nat.le_of_ble_eq_true rfl) ?_
  exact k_vret (X := Nat → Int32) (w1 := fun g => [((r 0), .inr (12, ((oLU r).set 1 (.int 20)))), ((r 1), .inl (cy 0, 16000, .inl g))]) (g4) hx hb hr d_X12_takeBytes_48 hlocks (hP.sub [0, 1] rfl) hK (hD.sub [0, 1] (by decide) rfl) hS trivial
set_option maxHeartbeats 4000000 in
set_option maxRecDepth 100000 in
/-- feed of a new object -/
theorem c_feed (l : Launch) (D : va_G) (cy : Nat → ClassId) (sz : Nat) (r : Nat → Nat) (p1 p2 p3 p4 p5 : Int32) : Met l y_X12_feed (Cond.code y_X12_feed b_X12_feed 6 (some .int) :: GW) ({ frames := 1, cells := 0, slots := 0, locals := 22 }) (va_Pc [.ref (r 0), .int p1, .int p2, .int p3, .int p4, .int p5] (kPre D cy sz [((r 0), .inr (12, (oLU r))), ((r 1), .inl (cy 0, 16000, .inl (fun _ => 0)))])) ((fun A : Nat → Prop => va_Qi (S := Unit) (fun (r : Int32) (_ : Unit) => r = 20) (fun _ => kPost D cy A []) A) (va_A [((r 0), .inr (12, (oLU r))), ((r 1), .inl (cy 0, 16000, .inl (fun _ => 0)))] sz)) 0 0 (va_A [((r 0), .inr (12, (oLU r))), ((r 1), .inl (cy 0, 16000, .inl (fun _ => 0)))] sz) := by
  refine k_ofW (Qc := fun A => va_Qi (S := Unit) (fun (r : Int32) (_ : Unit) => r = 20) (fun _ => kPost D cy A []) A) (by decide) (Nat.le_of_ble_eq_true rfl) ?_
  intro p e s m below meth c A ls hx hb hr hml hown hlocks hin hg hNW hK hP hD hA hS hl
  have hl : lv_has ls 6 [(0, .ref (r 0)), (1, .int p1), (2, .int p2), (3, .int p3), (4, .int p4), (5, .int p5)] := hl
  have hown : s.vm.findClass "LinkedUnits" = some m.cls := hown
  refine lv_aload_n hx hb d_X12_feed_0 rfl (lv_at hl 0 rfl) ?_
  refine va_get (D := D) (ci := 12) (v := .int 0) (C := "LinkedUnits") (T := TX12) (N := 15) hx hb hg iwX12 hown hK hP 0 rfl rfl 1 (by decide) (hg _ m_736) (fun _ h9 => h9) rfl d_X12_feed_1 ?_
  refine lv_bipush (v := 20) hx hb d_X12_feed_4 (by decide) ?_
  refine lv_iadd hx hb d_X12_feed_6 ?_
  refine k_topi 20 (by decide) ?_
  refine lv_sipush (v := 16000) hx hb d_X12_feed_7 (by decide) ?_
  refine lv_icmp_gt (tgt := 25) hx hb d_X12_feed_10 (by decide) (fun c_10 => absurd c_10 (by decide)) (fun _ => ?_)
  refine lv_aload_n hx hb d_X12_feed_13 rfl (lv_at hl 0 rfl) ?_
  refine va_get (D := D) (ci := 12) (v := .int 0) (C := "LinkedUnits") (T := TX12) (N := 15) hx hb hg iwX12 hown hK hP 0 rfl rfl 2 (by decide) (hg _ m_737) (fun _ h9 => h9) rfl d_X12_feed_14 ?_
  refine lv_bipush (v := 20) hx hb d_X12_feed_17 (by decide) ?_
  refine lv_iadd hx hb d_X12_feed_19 ?_
  refine k_topi 20 (by decide) ?_
  refine lv_ldc (v := 65536) hx hb hown (hg _ m_785) d_X12_feed_20 ?_
  refine lv_icmp_le (tgt := 27) hx hb d_X12_feed_22 (by decide) (fun _ => ?_) (fun c_22 => False.elim (by revert c_22; decide))
  refine lv_aload_n hx hb d_X12_feed_27 rfl (lv_at hl 0 rfl) ?_
  refine lv_iload_n hx hb d_X12_feed_28 rfl (lv_at hl 1 rfl) ?_
  refine k_callv (wc := [((r 0), .inr (12, (oLU r))), ((r 1), .inl (cy 0, 16000, .inl (fun _ => 0)))]) (wr := []) (va_runV (As := [.int p1]) (rest := []) ⟨hx, hb, hml, hown, hg⟩ (c_takeBytes_0 l D cy s.heap.size r (fun _ => 0) p1) (cwV 1 hg (gw_V m_786 m_788 ms_X12_takeBytes m_1 m_789) rfl rfl rfl (by decide +kernel) ⟨(Nat.le_of_ble_eq_true rfl), (Nat.le_of_ble_eq_true rfl)⟩) (k_preV (As := [.int p1]) hP hD hK hNW [0, 1] (by decide) rfl 0 rfl rfl) rfl rfl hl.1 rfl (lv_room (Nat.le_of_ble_eq_true rfl)) d_X12_feed_29 ⟨(Nat.le_of_ble_eq_true rfl), (Nat.le_of_ble_eq_true rfl)⟩) hP hD hS hA [0, 1] [] rfl rfl (by decide) (by decide) (fun u1 H locs hw hP hD hS => ?_)
  have hP : va_P D vwCl [((r 0), .inr (12, ((oLU r).set 1 (.int 4)))), ((r 1), .inl (cy 0, 16000, .inl u1))] H := hP
  have hD : va_D A [((r 0), .inr (12, ((oLU r).set 1 (.int 4)))), ((r 1), .inl (cy 0, 16000, .inl u1))] := hD
  refine lv_aload_n hx hb d_X12_feed_32 rfl (lv_at hl 0 rfl) ?_
  refine lv_iload_n hx hb d_X12_feed_33 rfl (lv_at hl 2 rfl) ?_
  refine k_callv (wc := [((r 0), .inr (12, ((oLU r).set 1 (.int 4)))), ((r 1), .inl (cy 0, 16000, .inl u1))]) (wr := []) (va_runV (As := [.int p2]) (rest := []) ⟨hx, hb, hml, hown, hg⟩ (c_takeBytes_4 l D cy H.size r u1 p2) (cwV 1 hg (gw_V m_786 m_788 ms_X12_takeBytes m_1 m_789) rfl rfl rfl (by decide +kernel) ⟨(Nat.le_of_ble_eq_true rfl), (Nat.le_of_ble_eq_true rfl)⟩) (k_preV (As := [.int p2]) hP hD hK hNW [0, 1] (by decide) rfl 0 rfl rfl) rfl rfl hl.1 rfl (lv_room (Nat.le_of_ble_eq_true rfl)) d_X12_feed_34 ⟨(Nat.le_of_ble_eq_true rfl), (Nat.le_of_ble_eq_true rfl)⟩) hP hD hS hA [0, 1] [] rfl rfl (by decide) (by decide) (fun u2 H locs hw hP hD hS => ?_)
  have hP : va_P D vwCl [((r 0), .inr (12, ((oLU r).set 1 (.int 8)))), ((r 1), .inl (cy 0, 16000, .inl u2))] H := hP
  have hD : va_D A [((r 0), .inr (12, ((oLU r).set 1 (.int 8)))), ((r 1), .inl (cy 0, 16000, .inl u2))] := hD
  refine lv_aload_n hx hb d_X12_feed_37 rfl (lv_at hl 0 rfl) ?_
  refine lv_iload_n hx hb d_X12_feed_38 rfl (lv_at hl 3 rfl) ?_
  refine k_callv (wc := [((r 0), .inr (12, ((oLU r).set 1 (.int 8)))), ((r 1), .inl (cy 0, 16000, .inl u2))]) (wr := []) (va_runV (As := [.int p3]) (rest := []) ⟨hx, hb, hml, hown, hg⟩ (c_takeBytes_8 l D cy H.size r u2 p3) (cwV 1 hg (gw_V m_786 m_788 ms_X12_takeBytes m_1 m_789) rfl rfl rfl (by decide +kernel) ⟨(Nat.le_of_ble_eq_true rfl), (Nat.le_of_ble_eq_true rfl)⟩) (k_preV (As := [.int p3]) hP hD hK hNW [0, 1] (by decide) rfl 0 rfl rfl) rfl rfl hl.1 rfl (lv_room (Nat.le_of_ble_eq_true rfl)) d_X12_feed_39 ⟨(Nat.le_of_ble_eq_true rfl), (Nat.le_of_ble_eq_true rfl)⟩) hP hD hS hA [0, 1] [] rfl rfl (by decide) (by decide) (fun u3 H locs hw hP hD hS => ?_)
  have hP : va_P D vwCl [((r 0), .inr (12, ((oLU r).set 1 (.int 12)))), ((r 1), .inl (cy 0, 16000, .inl u3))] H := hP
  have hD : va_D A [((r 0), .inr (12, ((oLU r).set 1 (.int 12)))), ((r 1), .inl (cy 0, 16000, .inl u3))] := hD
  refine lv_aload_n hx hb d_X12_feed_42 rfl (lv_at hl 0 rfl) ?_
  refine lv_iload hx hb d_X12_feed_43 (lv_at hl 4 rfl) ?_
  refine k_callv (wc := [((r 0), .inr (12, ((oLU r).set 1 (.int 12)))), ((r 1), .inl (cy 0, 16000, .inl u3))]) (wr := []) (va_runV (As := [.int p4]) (rest := []) ⟨hx, hb, hml, hown, hg⟩ (c_takeBytes_12 l D cy H.size r u3 p4) (cwV 1 hg (gw_V m_786 m_788 ms_X12_takeBytes m_1 m_789) rfl rfl rfl (by decide +kernel) ⟨(Nat.le_of_ble_eq_true rfl), (Nat.le_of_ble_eq_true rfl)⟩) (k_preV (As := [.int p4]) hP hD hK hNW [0, 1] (by decide) rfl 0 rfl rfl) rfl rfl hl.1 rfl (lv_room (Nat.le_of_ble_eq_true rfl)) d_X12_feed_45 ⟨(Nat.le_of_ble_eq_true rfl), (Nat.le_of_ble_eq_true rfl)⟩) hP hD hS hA [0, 1] [] rfl rfl (by decide) (by decide) (fun u4 H locs hw hP hD hS => ?_)
  have hP : va_P D vwCl [((r 0), .inr (12, ((oLU r).set 1 (.int 16)))), ((r 1), .inl (cy 0, 16000, .inl u4))] H := hP
  have hD : va_D A [((r 0), .inr (12, ((oLU r).set 1 (.int 16)))), ((r 1), .inl (cy 0, 16000, .inl u4))] := hD
  refine lv_aload_n hx hb d_X12_feed_48 rfl (lv_at hl 0 rfl) ?_
  refine lv_iload hx hb d_X12_feed_49 (lv_at hl 5 rfl) ?_
  refine k_callv (wc := [((r 0), .inr (12, ((oLU r).set 1 (.int 16)))), ((r 1), .inl (cy 0, 16000, .inl u4))]) (wr := []) (va_runV (As := [.int p5]) (rest := []) ⟨hx, hb, hml, hown, hg⟩ (c_takeBytes_16 l D cy H.size r u4 p5) (cwV 1 hg (gw_V m_786 m_788 ms_X12_takeBytes m_1 m_789) rfl rfl rfl (by decide +kernel) ⟨(Nat.le_of_ble_eq_true rfl), (Nat.le_of_ble_eq_true rfl)⟩) (k_preV (As := [.int p5]) hP hD hK hNW [0, 1] (by decide) rfl 0 rfl rfl) rfl rfl hl.1 rfl (lv_room (Nat.le_of_ble_eq_true rfl)) d_X12_feed_51 ⟨(Nat.le_of_ble_eq_true rfl), (Nat.le_of_ble_eq_true rfl)⟩) hP hD hS hA [0, 1] [] rfl rfl (by decide) (by decide) (fun u5 H locs hw hP hD hS => ?_)
  have hP : va_P D vwCl [((r 0), .inr (12, ((oLU r).set 1 (.int 20)))), ((r 1), .inl (cy 0, 16000, .inl u5))] H := hP
  have hD : va_D A [((r 0), .inr (12, ((oLU r).set 1 (.int 20)))), ((r 1), .inl (cy 0, 16000, .inl u5))] := hD
  refine lv_aload_n hx hb d_X12_feed_54 rfl (lv_at hl 0 rfl) ?_
  refine lv_dup hx hb d_X12_feed_55 rfl ?_
  refine va_get (D := D) (ci := 12) (v := .int 0) (C := "LinkedUnits") (T := TX12) (N := 15) hx hb hg iwX12 hown hK hP 0 rfl rfl 2 (by decide) (hg _ m_737) (fun _ h9 => h9) rfl d_X12_feed_56 ?_
  refine lv_bipush (v := 20) hx hb d_X12_feed_59 (by decide) ?_
  refine lv_iadd hx hb d_X12_feed_61 ?_
  refine k_topi 20 (by decide) ?_
  refine va_put (D := D) (ci := 12) (v := .int 20) (ty := .int) (C := "LinkedUnits") (T := TX12) (N := 15) hx hb hg iwX12 tyX12 tyX12_ok nmX12 hown hK hP hD hS 0 rfl rfl 2 (by decide) (hg _ m_737) (fun _ h9 => h9) rfl (by decide +kernel) rfl rfl (Nat.le_of_ble_eq_true rfl) d_X12_feed_62 (fun H locs hP hD hS => ?_)
  have hP : va_P D vwCl [((r 0), .inr (12, (((oLU r).set 1 (.int 20)).set 2 (.int 20)))), ((r 1), .inl (cy 0, 16000, .inl u5))] H := hP
  have hD : va_D A [((r 0), .inr (12, (((oLU r).set 1 (.int 20)).set 2 (.int 20)))), ((r 1), .inl (cy 0, 16000, .inl u5))] := hD
  refine lv_aload_n hx hb d_X12_feed_65 rfl (lv_at hl 0 rfl) ?_
  refine va_get (D := D) (ci := 12) (v := .int 20) (C := "LinkedUnits") (T := TX12) (N := 15) hx hb hg iwX12 hown hK hP 0 rfl rfl 1 (by decide) (hg _ m_736) (fun _ h9 => h9) rfl d_X12_feed_66 ?_
  refine W.widen (k := 0) (n := 0) (Nat.le_of_ble_eq_true rfl) (Nat.le_of_ble_eq_true rfl) ?_
  exact k_iret (X := Unit) (w1 := fun _ => []) () hx hb hr d_X12_feed_69 hlocks (hP.sub [] rfl) hK (hD.sub [] (by decide) rfl) hS rfl
set_option maxHeartbeats 4000000 in
set_option maxRecDepth 100000 in
theorem c_end_no (l : Launch) (D : va_G) (cy : Nat → ClassId) (sz : Nat) (r : Nat → Nat) (n : Int32) (h : n < 0 ∨ 0 < n) : Met l y_X12_end (Cond.code y_X12_end b_X12_end 2 (some .int) :: GW) ({ frames := 0, cells := 0, slots := 0, locals := 0 }) (va_Pc [.ref (r 0), .int n] (kPre D cy sz [((r 0), .inr (12, (oLU r)))])) ((fun A : Nat → Prop => va_Qi (S := Unit) (fun (r : Int32) (_ : Unit) => r = (-1)) (fun _ => kPost D cy A []) A) (va_A [((r 0), .inr (12, (oLU r)))] sz)) 0 0 (va_A [((r 0), .inr (12, (oLU r)))] sz) := by
  refine k_ofW (Qc := fun A => va_Qi (S := Unit) (fun (r : Int32) (_ : Unit) => r = (-1)) (fun _ => kPost D cy A []) A) (by decide) (Nat.le_of_ble_eq_true rfl) ?_
  intro p e s m below meth c A ls hx hb hr hml hown hlocks hin hg hNW hK hP hD hA hS hl
  have hl : lv_has ls 2 [(0, .ref (r 0)), (1, .int n)] := hl
  have hown : s.vm.findClass "LinkedUnits" = some m.cls := hown
  refine lv_iload_n hx hb d_X12_end_0 rfl (lv_at hl 1 rfl) ?_
  refine lv_if_lt (tgt := 12) hx hb d_X12_end_1 (by decide) (fun c_1 => ?_) (fun c_1 => ?_)
  · -- taken at 1
    refine lv_iconst (v := (-1)) hx hb d_X12_end_12 (by decide) ?_
    refine W.widen (k := 0) (n := 0) (Nat.le_of_ble_eq_true rfl) (Nat.le_of_ble_eq_true rfl) ?_
    exact k_iret (X := Unit) (w1 := fun _ => []) () hx hb hr d_X12_end_13 hlocks (hP.sub [] rfl) hK (hD.sub [] (by decide) rfl) hS rfl
  · -- not taken at 1
    refine lv_iload_n hx hb d_X12_end_4 rfl (lv_at hl 1 rfl) ?_
    refine lv_aload_n hx hb d_X12_end_5 rfl (lv_at hl 0 rfl) ?_
    refine va_get (D := D) (ci := 12) (v := .int 0) (C := "LinkedUnits") (T := TX12) (N := 15) hx hb hg iwX12 hown hK hP 0 rfl rfl 1 (by decide) (hg _ m_736) (fun _ h9 => h9) rfl d_X12_end_6 ?_
    refine lv_icmp_le (tgt := 14) hx hb d_X12_end_9 (by decide) (fun c_9 => False.elim (h.elim (fun q => c_1 q) (fun q => (Int32.not_lt.mpr c_9) q))) (fun c_9 => ?_)
    refine lv_iconst (v := (-1)) hx hb d_X12_end_12 (by decide) ?_
    refine W.widen (k := 0) (n := 0) (Nat.le_of_ble_eq_true rfl) (Nat.le_of_ble_eq_true rfl) ?_
    exact k_iret (X := Unit) (w1 := fun _ => []) () hx hb hr d_X12_end_13 hlocks (hP.sub [] rfl) hK (hD.sub [] (by decide) rfl) hS rfl
set_option maxHeartbeats 4000000 in
set_option maxRecDepth 100000 in
theorem c_end_0 (l : Launch) (D : va_G) (cy : Nat → ClassId) (sz : Nat) (r : Nat → Nat) : Met l y_X12_end (Cond.code y_X12_end b_X12_end 2 (some .int) :: GW) ({ frames := 0, cells := 0, slots := 0, locals := 0 }) (va_Pc [.ref (r 0), .int 0] (kPre D cy sz [((r 0), .inr (12, (oLU r)))])) ((fun A : Nat → Prop => va_Qi (S := Unit) (fun (r : Int32) (_ : Unit) => r = 0) (fun _ => kPost D cy A []) A) (va_A [((r 0), .inr (12, (oLU r)))] sz)) 0 0 (va_A [((r 0), .inr (12, (oLU r)))] sz) := by
  refine k_ofW (Qc := fun A => va_Qi (S := Unit) (fun (r : Int32) (_ : Unit) => r = 0) (fun _ => kPost D cy A []) A) (by decide) (Nat.le_of_ble_eq_true rfl) ?_
  intro p e s m below meth c A ls hx hb hr hml hown hlocks hin hg hNW hK hP hD hA hS hl
  have hl : lv_has ls 2 [(0, .ref (r 0)), (1, .int 0)] := hl
  have hown : s.vm.findClass "LinkedUnits" = some m.cls := hown
  refine lv_iload_n hx hb d_X12_end_0 rfl (lv_at hl 1 rfl) ?_
  refine lv_if_lt (tgt := 12) hx hb d_X12_end_1 (by decide) (fun c_1 => absurd c_1 (by decide)) (fun _ => ?_)
  refine lv_iload_n hx hb d_X12_end_4 rfl (lv_at hl 1 rfl) ?_
  refine lv_aload_n hx hb d_X12_end_5 rfl (lv_at hl 0 rfl) ?_
  refine va_get (D := D) (ci := 12) (v := .int 0) (C := "LinkedUnits") (T := TX12) (N := 15) hx hb hg iwX12 hown hK hP 0 rfl rfl 1 (by decide) (hg _ m_736) (fun _ h9 => h9) rfl d_X12_end_6 ?_
  refine lv_icmp_le (tgt := 14) hx hb d_X12_end_9 (by decide) (fun _ => ?_) (fun c_9 => False.elim (by revert c_9; decide))
  refine lv_aload_n hx hb d_X12_end_14 rfl (lv_at hl 0 rfl) ?_
  refine lv_iload_n hx hb d_X12_end_15 rfl (lv_at hl 1 rfl) ?_
  refine va_put (D := D) (ci := 12) (v := .int 0) (ty := .int) (C := "LinkedUnits") (T := TX12) (N := 15) hx hb hg iwX12 tyX12 tyX12_ok nmX12 hown hK hP hD hS 0 rfl rfl 1 (by decide) (hg _ m_736) (fun _ h9 => h9) rfl (by decide +kernel) rfl rfl (Nat.le_of_ble_eq_true rfl) d_X12_end_16 (fun H locs hP hD hS => ?_)
  have hP : va_P D vwCl [((r 0), .inr (12, ((oLU r).set 1 (.int 0))))] H := hP
  have hD : va_D A [((r 0), .inr (12, ((oLU r).set 1 (.int 0))))] := hD
  refine lv_iload_n hx hb d_X12_end_19 rfl (lv_at hl 1 rfl) ?_
  refine W.widen (k := 0) (n := 0) (Nat.le_of_ble_eq_true rfl) (Nat.le_of_ble_eq_true rfl) ?_
  exact k_iret (X := Unit) (w1 := fun _ => []) () hx hb hr d_X12_end_20 hlocks (hP.sub [] rfl) hK (hD.sub [] (by decide) rfl) hS rfl
set_option maxHeartbeats 4000000 in
set_option maxRecDepth 100000 in
theorem c_place (l : Launch) (D : va_G) (cy : Nat → ClassId) (sz : Nat) (r : Nat → Nat) : Met l y_X12_place (Cond.code y_X12_place b_X12_place 1 (some .int) :: GW) ({ frames := 0, cells := 0, slots := 0, locals := 0 }) (va_Pc [.ref (r 0)] (kPre D cy sz [((r 0), .inr (12, (oLU r)))])) ((fun A : Nat → Prop => va_Qi (S := Unit) (fun (r : Int32) (_ : Unit) => r = (-1)) (fun _ => kPost D cy A []) A) (va_A [((r 0), .inr (12, (oLU r)))] sz)) 0 0 (va_A [((r 0), .inr (12, (oLU r)))] sz) := by
  refine k_ofW (Qc := fun A => va_Qi (S := Unit) (fun (r : Int32) (_ : Unit) => r = (-1)) (fun _ => kPost D cy A []) A) (by decide) (Nat.le_of_ble_eq_true rfl) ?_
  intro p e s m below meth c A ls hx hb hr hml hown hlocks hin hg hNW hK hP hD hA hS hl
  have hl : lv_has ls 1 [(0, .ref (r 0))] := hl
  have hown : s.vm.findClass "LinkedUnits" = some m.cls := hown
  refine lv_aload_n hx hb d_X12_place_0 rfl (lv_at hl 0 rfl) ?_
  refine va_get (D := D) (ci := 12) (v := .int (-1)) (C := "LinkedUnits") (T := TX12) (N := 15) hx hb hg iwX12 hown hK hP 0 rfl rfl 3 (by decide) (hg _ m_738) (fun _ h9 => h9) rfl d_X12_place_1 ?_
  refine W.widen (k := 0) (n := 0) (Nat.le_of_ble_eq_true rfl) (Nat.le_of_ble_eq_true rfl) ?_
  exact k_iret (X := Unit) (w1 := fun _ => []) () hx hb hr d_X12_place_4 hlocks (hP.sub [] rfl) hK (hD.sub [] (by decide) rfl) hS rfl
set_option maxHeartbeats 4000000 in
set_option maxRecDepth 100000 in
theorem c_objects (l : Launch) (D : va_G) (cy : Nat → ClassId) (sz : Nat) (r : Nat → Nat) : Met l y_X12_objects (Cond.code y_X12_objects b_X12_objects 1 (some .int) :: GW) ({ frames := 0, cells := 0, slots := 0, locals := 0 }) (va_Pc [.ref (r 0)] (kPre D cy sz [((r 0), .inr (12, (oLU r))), ((r 5), .inr (8, (oSto r)))])) ((fun A : Nat → Prop => va_Qi (S := Unit) (fun (r : Int32) (_ : Unit) => r = 0) (fun _ => kPost D cy A []) A) (va_A [((r 0), .inr (12, (oLU r))), ((r 5), .inr (8, (oSto r)))] sz)) 0 0 (va_A [((r 0), .inr (12, (oLU r))), ((r 5), .inr (8, (oSto r)))] sz) := by
  refine k_ofW (Qc := fun A => va_Qi (S := Unit) (fun (r : Int32) (_ : Unit) => r = 0) (fun _ => kPost D cy A []) A) (by decide) (Nat.le_of_ble_eq_true rfl) ?_
  intro p e s m below meth c A ls hx hb hr hml hown hlocks hin hg hNW hK hP hD hA hS hl
  have hl : lv_has ls 1 [(0, .ref (r 0))] := hl
  have hown : s.vm.findClass "LinkedUnits" = some m.cls := hown
  refine lv_aload_n hx hb d_X12_objects_0 rfl (lv_at hl 0 rfl) ?_
  refine va_get (D := D) (ci := 12) (v := .ref (r 5)) (C := "LinkedUnits") (T := TX12) (N := 15) hx hb hg iwX12 hown hK hP 0 rfl rfl 7 (by decide) (hg _ m_742) (fun _ h9 => h9) rfl d_X12_objects_1 ?_
  refine va_getN (D := D) (ci := 8) (v := .int 0) (C := "LinkedUnits$Store") (T := TX8) (N := 18) hx hb hg iwX8 hown hK hP 1 rfl rfl 13 (by decide) (va_Nw.use rfl (hNW.1 _ nm_250)) (fun _ h9 => h9) rfl d_X12_objects_4 ?_
  refine W.widen (k := 0) (n := 0) (Nat.le_of_ble_eq_true rfl) (Nat.le_of_ble_eq_true rfl) ?_
  exact k_iret (X := Unit) (w1 := fun _ => []) () hx hb hr d_X12_objects_7 hlocks (hP.sub [] rfl) hK (hD.sub [] (by decide) rfl) hS rfl
set_option maxHeartbeats 4000000 in
set_option maxRecDepth 100000 in
theorem c_result (l : Launch) (D : va_G) (cy : Nat → ClassId) (sz : Nat) (r : Nat → Nat) : Met l y_X12_result (Cond.code y_X12_result b_X12_result 1 (some .int) :: GW) ({ frames := 0, cells := 0, slots := 0, locals := 0 }) (va_Pc [.ref (r 0)] (kPre D cy sz [((r 0), .inr (12, (oLU r))), ((r 12), .inr (5, (oMac r)))])) ((fun A : Nat → Prop => va_Qi (S := Unit) (fun (r : Int32) (_ : Unit) => r = 0) (fun _ => kPost D cy A []) A) (va_A [((r 0), .inr (12, (oLU r))), ((r 12), .inr (5, (oMac r)))] sz)) 0 0 (va_A [((r 0), .inr (12, (oLU r))), ((r 12), .inr (5, (oMac r)))] sz) := by
  refine k_ofW (Qc := fun A => va_Qi (S := Unit) (fun (r : Int32) (_ : Unit) => r = 0) (fun _ => kPost D cy A []) A) (by decide) (Nat.le_of_ble_eq_true rfl) ?_
  intro p e s m below meth c A ls hx hb hr hml hown hlocks hin hg hNW hK hP hD hA hS hl
  have hl : lv_has ls 1 [(0, .ref (r 0))] := hl
  have hown : s.vm.findClass "LinkedUnits" = some m.cls := hown
  refine lv_aload_n hx hb d_X12_result_0 rfl (lv_at hl 0 rfl) ?_
  refine va_get (D := D) (ci := 12) (v := .ref (r 12)) (C := "LinkedUnits") (T := TX12) (N := 15) hx hb hg iwX12 hown hK hP 0 rfl rfl 14 (by decide) (hg _ m_749) (fun _ h9 => h9) rfl d_X12_result_1 ?_
  refine va_getN (D := D) (ci := 5) (v := .int 0) (C := "LinkedUnits$Machine") (T := TX5) (N := 19) hx hb hg iwX5 hown hK hP 1 rfl rfl 15 (by decide) (va_Nw.use rfl (hNW.1 _ nm_689)) (fun _ h9 => h9) rfl d_X12_result_4 ?_
  refine W.widen (k := 0) (n := 0) (Nat.le_of_ble_eq_true rfl) (Nat.le_of_ble_eq_true rfl) ?_
  exact k_iret (X := Unit) (w1 := fun _ => []) () hx hb hr d_X12_result_7 hlocks (hP.sub [] rfl) hK (hD.sub [] (by decide) rfl) hS rfl
set_option maxHeartbeats 4000000 in
set_option maxRecDepth 100000 in
theorem c_turns (l : Launch) (D : va_G) (cy : Nat → ClassId) (sz : Nat) (r : Nat → Nat) : Met l y_X12_turns (Cond.code y_X12_turns b_X12_turns 1 (some .int) :: GW) ({ frames := 0, cells := 0, slots := 0, locals := 0 }) (va_Pc [.ref (r 0)] (kPre D cy sz [((r 0), .inr (12, (oLU r))), ((r 12), .inr (5, (oMac r)))])) ((fun A : Nat → Prop => va_Qi (S := Unit) (fun (r : Int32) (_ : Unit) => r = 0) (fun _ => kPost D cy A []) A) (va_A [((r 0), .inr (12, (oLU r))), ((r 12), .inr (5, (oMac r)))] sz)) 0 0 (va_A [((r 0), .inr (12, (oLU r))), ((r 12), .inr (5, (oMac r)))] sz) := by
  refine k_ofW (Qc := fun A => va_Qi (S := Unit) (fun (r : Int32) (_ : Unit) => r = 0) (fun _ => kPost D cy A []) A) (by decide) (Nat.le_of_ble_eq_true rfl) ?_
  intro p e s m below meth c A ls hx hb hr hml hown hlocks hin hg hNW hK hP hD hA hS hl
  have hl : lv_has ls 1 [(0, .ref (r 0))] := hl
  have hown : s.vm.findClass "LinkedUnits" = some m.cls := hown
  refine lv_aload_n hx hb d_X12_turns_0 rfl (lv_at hl 0 rfl) ?_
  refine va_get (D := D) (ci := 12) (v := .ref (r 12)) (C := "LinkedUnits") (T := TX12) (N := 15) hx hb hg iwX12 hown hK hP 0 rfl rfl 14 (by decide) (hg _ m_749) (fun _ h9 => h9) rfl d_X12_turns_1 ?_
  refine va_getN (D := D) (ci := 5) (v := .int 0) (C := "LinkedUnits$Machine") (T := TX5) (N := 19) hx hb hg iwX5 hown hK hP 1 rfl rfl 14 (by decide) (va_Nw.use rfl (hNW.1 _ nm_687)) (fun _ h9 => h9) rfl d_X12_turns_4 ?_
  refine W.widen (k := 0) (n := 0) (Nat.le_of_ble_eq_true rfl) (Nat.le_of_ble_eq_true rfl) ?_
  exact k_iret (X := Unit) (w1 := fun _ => []) () hx hb hr d_X12_turns_7 hlocks (hP.sub [] rfl) hK (hD.sub [] (by decide) rfl) hS rfl
set_option maxHeartbeats 4000000 in
set_option maxRecDepth 100000 in
theorem c_written (l : Launch) (D : va_G) (cy : Nat → ClassId) (sz : Nat) (r : Nat → Nat) : Met l y_X12_written (Cond.code y_X12_written b_X12_written 1 (some .int) :: GW) ({ frames := 0, cells := 0, slots := 0, locals := 0 }) (va_Pc [.ref (r 0)] (kPre D cy sz [((r 0), .inr (12, (oLU r))), ((r 11), .inr (9, (oTap r)))])) ((fun A : Nat → Prop => va_Qi (S := Unit) (fun (r : Int32) (_ : Unit) => r = 0) (fun _ => kPost D cy A []) A) (va_A [((r 0), .inr (12, (oLU r))), ((r 11), .inr (9, (oTap r)))] sz)) 0 0 (va_A [((r 0), .inr (12, (oLU r))), ((r 11), .inr (9, (oTap r)))] sz) := by
  refine k_ofW (Qc := fun A => va_Qi (S := Unit) (fun (r : Int32) (_ : Unit) => r = 0) (fun _ => kPost D cy A []) A) (by decide) (Nat.le_of_ble_eq_true rfl) ?_
  intro p e s m below meth c A ls hx hb hr hml hown hlocks hin hg hNW hK hP hD hA hS hl
  have hl : lv_has ls 1 [(0, .ref (r 0))] := hl
  have hown : s.vm.findClass "LinkedUnits" = some m.cls := hown
  refine lv_aload_n hx hb d_X12_written_0 rfl (lv_at hl 0 rfl) ?_
  refine va_get (D := D) (ci := 12) (v := .ref (r 11)) (C := "LinkedUnits") (T := TX12) (N := 15) hx hb hg iwX12 hown hK hP 0 rfl rfl 13 (by decide) (hg _ m_748) (fun _ h9 => h9) rfl d_X12_written_1 ?_
  refine va_getN (D := D) (ci := 9) (v := .int 0) (C := "LinkedUnits$Tape") (T := TX9) (N := 5) hx hb hg iwX9 hown hK hP 1 rfl rfl 2 (by decide) (va_Nw.use rfl (hNW.1 _ nm_649)) (fun _ h9 => h9) rfl d_X12_written_4 ?_
  refine W.widen (k := 0) (n := 0) (Nat.le_of_ble_eq_true rfl) (Nat.le_of_ble_eq_true rfl) ?_
  exact k_iret (X := Unit) (w1 := fun _ => []) () hx hb hr d_X12_written_7 hlocks (hP.sub [] rfl) hK (hD.sub [] (by decide) rfl) hS rfl
set_option maxHeartbeats 4000000 in
set_option maxRecDepth 100000 in
theorem c_strays (l : Launch) (D : va_G) (cy : Nat → ClassId) (sz : Nat) (r : Nat → Nat) : Met l y_X12_strays (Cond.code y_X12_strays b_X12_strays 1 (some .int) :: GW) ({ frames := 0, cells := 0, slots := 0, locals := 0 }) (va_Pc [.ref (r 0)] (kPre D cy sz [((r 0), .inr (12, (oLU r))), ((r 12), .inr (5, (oMac r)))])) ((fun A : Nat → Prop => va_Qi (S := Unit) (fun (r : Int32) (_ : Unit) => r = 0) (fun _ => kPost D cy A []) A) (va_A [((r 0), .inr (12, (oLU r))), ((r 12), .inr (5, (oMac r)))] sz)) 0 0 (va_A [((r 0), .inr (12, (oLU r))), ((r 12), .inr (5, (oMac r)))] sz) := by
  refine k_ofW (Qc := fun A => va_Qi (S := Unit) (fun (r : Int32) (_ : Unit) => r = 0) (fun _ => kPost D cy A []) A) (by decide) (Nat.le_of_ble_eq_true rfl) ?_
  intro p e s m below meth c A ls hx hb hr hml hown hlocks hin hg hNW hK hP hD hA hS hl
  have hl : lv_has ls 1 [(0, .ref (r 0))] := hl
  have hown : s.vm.findClass "LinkedUnits" = some m.cls := hown
  refine lv_aload_n hx hb d_X12_strays_0 rfl (lv_at hl 0 rfl) ?_
  refine va_get (D := D) (ci := 12) (v := .ref (r 12)) (C := "LinkedUnits") (T := TX12) (N := 15) hx hb hg iwX12 hown hK hP 0 rfl rfl 14 (by decide) (hg _ m_749) (fun _ h9 => h9) rfl d_X12_strays_1 ?_
  refine va_getN (D := D) (ci := 5) (v := .int 0) (C := "LinkedUnits$Machine") (T := TX5) (N := 19) hx hb hg iwX5 hown hK hP 1 rfl rfl 18 (by decide) (va_Nw.use rfl (hNW.1 _ nm_695)) (fun _ h9 => h9) rfl d_X12_strays_4 ?_
  refine W.widen (k := 0) (n := 0) (Nat.le_of_ble_eq_true rfl) (Nat.le_of_ble_eq_true rfl) ?_
  exact k_iret (X := Unit) (w1 := fun _ => []) () hx hb hr d_X12_strays_7 hlocks (hP.sub [] rfl) hK (hD.sub [] (by decide) rfl) hS rfl
