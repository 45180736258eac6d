set_option maxHeartbeats 4000000 in
set_option maxRecDepth 100000 in
/-- at: some number -/
theorem c_at_any (l : Launch) (D : va_G) (cy : Nat → ClassId) (sz : Nat) (q n : Nat) (f : Nat → Int32) (i : Int32) (hn : n < 2 ^ 31) : Met l y_X12_at (Cond.code y_X12_at b_X12_at 2 (some .int) :: GW) ({ frames := 0, cells := 0, slots := 0, locals := 0 }) (va_Pc [.ref q, .int i] (kPre D cy sz [(q, .inl (cy 1, n, .inl f))])) ((fun A : Nat → Prop => va_Qi (S := Unit) (fun (_ : Int32) (_ : Unit) => True) (fun _ => kPost D cy A [(q, .inl (cy 1, n, .inl f))]) A) (va_A [(q, .inl (cy 1, n, .inl f))] sz)) 0 0 (va_A [(q, .inl (cy 1, n, .inl f))] sz) := by
  refine k_ofW (Qc := fun A => va_Qi (S := Unit) (fun (_ : Int32) (_ : Unit) => True) (fun _ => kPost D cy A [(q, .inl (cy 1, n, .inl f))]) A) (by decide) (Nat.le_of_ble_eq_true rfl) ?_
  intro p e s m below meth c A ls hx hb hr hml hown hlocks hin hg hNW hK hP hD hA hS hl
  have hl : lv_has ls 2 [(0, .ref q), (1, .int i)] := hl
  have hown : s.vm.findClass "LinkedUnits" = some m.cls := hown
  refine lv_iload_n hx hb d_X12_at_0 rfl (lv_at hl 1 rfl) ?_
  refine lv_if_lt (tgt := 16) hx hb d_X12_at_1 (by decide) (fun c_1 => ?_) (fun c_1 => ?_)
  · -- taken at 1
    refine lv_iconst (v := 0) hx hb d_X12_at_16 (by decide) ?_
    refine W.widen (k := 0) (n := 0) (Nat.le_of_ble_eq_true rfl) (Nat.le_of_ble_eq_true rfl) ?_
    exact k_iret (X := Unit) (w1 := fun _ => [(q, .inl (cy 1, n, .inl f))]) () hx hb hr d_X12_at_17 hlocks (hP.sub [0] rfl) hK (hD.sub [0] (by decide) rfl) hS trivial
  · -- not taken at 1
    refine lv_iload_n hx hb d_X12_at_4 rfl (lv_at hl 1 rfl) ?_
    refine lv_aload_n hx hb d_X12_at_5 rfl (lv_at hl 0 rfl) ?_
    refine va_alen hx hb hK hP 0 1 rfl rfl (v := nI n) rfl d_X12_at_6 ?_
    refine lv_icmp_ge (tgt := 16) hx hb d_X12_at_7 (by decide) (fun c_7 => ?_) (fun c_7 => ?_)
    · -- taken at 7
      refine lv_iconst (v := 0) hx hb d_X12_at_16 (by decide) ?_
      refine W.widen (k := 0) (n := 0) (Nat.le_of_ble_eq_true rfl) (Nat.le_of_ble_eq_true rfl) ?_
      exact k_iret (X := Unit) (w1 := fun _ => [(q, .inl (cy 1, n, .inl f))]) () hx hb hr d_X12_at_17 hlocks (hP.sub [0] rfl) hK (hD.sub [0] (by decide) rfl) hS trivial
    · -- not taken at 7
      refine lv_aload_n hx hb d_X12_at_10 rfl (lv_at hl 0 rfl) ?_
      refine lv_iload_n hx hb d_X12_at_11 rfl (lv_at hl 1 rfl) ?_
      refine va_iald hx hb hK hP 0 1 rfl rfl (k_in hn c_1 c_7) d_X12_at_12 ?_
      refine lv_goto (tgt := 17) hx hb d_X12_at_13 (by decide) ?_
      refine W.widen (k := 0) (n := 0) (Nat.le_of_ble_eq_true rfl) (Nat.le_of_ble_eq_true rfl) ?_
      exact k_iret (X := Unit) (w1 := fun _ => [(q, .inl (cy 1, n, .inl f))]) () hx hb hr d_X12_at_17 hlocks (hP.sub [0] rfl) hK (hD.sub [0] (by decide) rfl) hS trivial
set_option maxHeartbeats 4000000 in
set_option maxRecDepth 100000 in
/-- set: at some place, or nowhere -/
theorem c_set_any (l : Launch) (D : va_G) (cy : Nat → ClassId) (sz : Nat) (q n : Nat) (f : Nat → Int32) (i v : Int32) (hn : n < 2 ^ 31) : Met l y_X12_set (Cond.code y_X12_set b_X12_set 3 none :: GW) ({ frames := 0, cells := 0, slots := 0, locals := 0 }) (va_Pc [.ref q, .int i, .int v] (kPre D cy sz [(q, .inl (cy 1, n, .inl f))])) ((fun A : Nat → Prop => va_Qv (S := Nat → Int32) (fun (_ : Nat → Int32) => True) (fun g => kPost D cy A [(q, .inl (cy 1, n, .inl g))]) A) (va_A [(q, .inl (cy 1, n, .inl f))] sz)) 0 0 (va_A [(q, .inl (cy 1, n, .inl f))] sz) := by
  refine k_ofW (Qc := fun A => va_Qv (S := Nat → Int32) (fun (_ : Nat → Int32) => True) (fun g => kPost D cy A [(q, .inl (cy 1, n, .inl g))]) A) (by decide) (Nat.le_of_ble_eq_true rfl) ?_
  intro p e s m below meth c A ls hx hb hr hml hown hlocks hin hg hNW hK hP hD hA hS hl
  have hl : lv_has ls 3 [(0, .ref q), (1, .int i), (2, .int v)] := hl
  have hown : s.vm.findClass "LinkedUnits" = some m.cls := hown
  refine lv_iload_n hx hb d_X12_set_0 rfl (lv_at hl 1 rfl) ?_
  refine lv_if_lt (tgt := 14) hx hb d_X12_set_1 (by decide) (fun c_1 => ?_) (fun c_1 => ?_)
  · -- taken at 1
    refine W.widen (k := 0) (n := 0) (Nat.le_of_ble_eq_true rfl) (Nat.le_of_ble_eq_true rfl) ?_
    exact k_vret (X := Nat → Int32) (w1 := fun g => [(q, .inl (cy 1, n, .inl g))]) (f) hx hb hr d_X12_set_14 hlocks (hP.sub [0] rfl) hK (hD.sub [0] (by decide) rfl) hS trivial
  · -- not taken at 1
    refine lv_iload_n hx hb d_X12_set_4 rfl (lv_at hl 1 rfl) ?_
    refine lv_aload_n hx hb d_X12_set_5 rfl (lv_at hl 0 rfl) ?_
    refine va_alen hx hb hK hP 0 1 rfl rfl (v := nI n) rfl d_X12_set_6 ?_
    refine lv_icmp_ge (tgt := 14) hx hb d_X12_set_7 (by decide) (fun c_7 => ?_) (fun c_7 => ?_)
    · -- taken at 7
      refine W.widen (k := 0) (n := 0) (Nat.le_of_ble_eq_true rfl) (Nat.le_of_ble_eq_true rfl) ?_
      exact k_vret (X := Nat → Int32) (w1 := fun g => [(q, .inl (cy 1, n, .inl g))]) (f) hx hb hr d_X12_set_14 hlocks (hP.sub [0] rfl) hK (hD.sub [0] (by decide) rfl) hS trivial
    · -- not taken at 7
      refine lv_aload_n hx hb d_X12_set_10 rfl (lv_at hl 0 rfl) ?_
      refine lv_iload_n hx hb d_X12_set_11 rfl (lv_at hl 1 rfl) ?_
      refine lv_iload_n hx hb d_X12_set_12 rfl (lv_at hl 2 rfl) ?_
      refine k_iast_any hx hb hK hP hD hS 0 1 rfl rfl (k_in hn c_1 c_7) d_X12_set_13 (fun g1 H locs hP hD hS => ?_)
      have hP : va_P D vwCl [(q, .inl (cy 1, n, .inl g1))] H := hP
      have hD : va_D A [(q, .inl (cy 1, n, .inl g1))] := hD
      refine W.widen (k := 0) (n := 0) (Nat.le_of_ble_eq_true rfl) (Nat.le_of_ble_eq_true rfl) ?_
      exact k_vret (X := Nat → Int32) (w1 := fun g => [(q, .inl (cy 1, n, .inl g))]) (g1) hx hb hr d_X12_set_14 hlocks (hP.sub [0] rfl) hK (hD.sub [0] (by decide) rfl) hS trivial
