set_option maxHeartbeats 4000000 in
set_option maxRecDepth 100000 in
theorem s_at_t0 (l : Launch) (D : va_G) (cy : Nat → ClassId) (sz : Nat) (w : Nat → Nat) (g : Nat → Nat → Int32) (r : Nat → Nat) (σ0 : St) (a1 : Int32) (i0 : Inv σ0) : Met l y_X12_at (Cond.code y_X12_at b_X12_at 2 (some .int) :: GW) ({ frames := 0, cells := 0, slots := 0, locals := 0 } : Room) (va_Pc [.ref (w 0), .int a1] (kPreE D cy sz (wB cy r σ0) (gE w g))) ((fun A : Nat → Prop => va_Qi (S := Unit) (fun (_ : Int32) (_ : Unit) => True) (fun _ => kPost D cy A (wB cy r σ0)) A) (va_A (wB cy r σ0) sz)) 0 0 (va_A (wB cy r σ0) sz) := by
  refine k_ofWE (Qc := fun A => va_Qi (S := Unit) (fun (_ : Int32) (_ : Unit) => True) (fun _ => kPost D cy A (wB cy r σ0)) A) (by decide) (Nat.le_of_ble_eq_true rfl) ?_
  intro p e s m below meth c A ls hx hb hr hml hown hlocks hin hg hNW hK hP hD hA hS hl hE
  have hl : lv_has ls 2 [(0, .ref (w 0)), (1, .int a1)] := hl
  have hown : s.vm.findClass "LinkedUnits" = some m.cls := hown
  obtain ⟨H, hH⟩ : ∃ H, H = s.heap := ⟨_, rfl⟩
  rw [← hH] at hP
  have hS : va_S A s.heap H [] := by rw [hH]; exact va_S.rf
  have hgoal : W p l e ({ frames := 0, cells := 0, slots := 0, locals := 0 } : Room) s m (([.ref (w 0), .int a1] : List Value).toArray) below meth c H [] 0 0 (MQ below (va_Qi (S := Unit) (fun (_ : Int32) (_ : Unit) => True) (fun _ => kPost D cy A (wB cy r σ0)) A) (([.ref (w 0), .int a1] : List Value).toArray) s 0 0 A) (F0 m 0 ls []) := by
    refine lv_iload_n hx hb d_X12_at_0 rfl (lv_at hl 1 rfl) ?_
    refine lv_if_lt (tgt := 16) hx hb d_X12_at_1 (by decide) (fun c_1 => ?_) (fun c_1 => ?_)
    · -- taken at 1
      refine lv_iconst (v := 0) hx hb d_X12_at_16 (by decide) ?_
      refine W.widen (k := 0) (n := 0) (Nat.le_of_ble_eq_true rfl) (Nat.le_of_ble_eq_true rfl) ?_
      exact k_iret (X := Unit) (w1 := fun _ => wB cy r σ0) () hx hb hr d_X12_at_17 hlocks hP hK hD hS trivial
    · -- not taken at 1
      refine lv_iload_n hx hb d_X12_at_4 rfl (lv_at hl 1 rfl) ?_
      refine lv_aload_n hx hb d_X12_at_5 rfl (lv_at hl 0 rfl) ?_
      refine va_tlen hx hb hE.2.1 hS (v := 18) (by decide) d_X12_at_6 ?_
      refine lv_icmp_ge (tgt := 16) hx hb d_X12_at_7 (by decide) (fun c_7 => ?_) (fun c_7 => ?_)
      · -- taken at 7
        refine lv_iconst (v := 0) hx hb d_X12_at_16 (by decide) ?_
        refine W.widen (k := 0) (n := 0) (Nat.le_of_ble_eq_true rfl) (Nat.le_of_ble_eq_true rfl) ?_
        exact k_iret (X := Unit) (w1 := fun _ => wB cy r σ0) () hx hb hr d_X12_at_17 hlocks hP hK hD hS trivial
      · -- not taken at 7
        refine lv_aload_n hx hb d_X12_at_10 rfl (lv_at hl 0 rfl) ?_
        refine lv_iload_n hx hb d_X12_at_11 rfl (lv_at hl 1 rfl) ?_
        refine va_ti hx hb hE.2.1 hS (k_in (n := 18) (by decide) c_1 c_7) rfl d_X12_at_12 ?_
        refine k_any (fun v1 => ?_)
        refine lv_goto (tgt := 17) hx hb d_X12_at_13 (by decide) ?_
        refine W.widen (k := 0) (n := 0) (Nat.le_of_ble_eq_true rfl) (Nat.le_of_ble_eq_true rfl) ?_
        exact k_iret (X := Unit) (w1 := fun _ => wB cy r σ0) () hx hb hr d_X12_at_17 hlocks hP hK hD hS trivial
  rw [hH] at hgoal
  exact hgoal
set_option maxHeartbeats 4000000 in
set_option maxRecDepth 100000 in
theorem s_at_t1 (l : Launch) (D : va_G) (cy : Nat → ClassId) (sz : Nat) (w : Nat → Nat) (g : Nat → Nat → Int32) (r : Nat → Nat) (σ0 : St) (a1 : Int32) (i0 : Inv σ0) : Met l y_X12_at (Cond.code y_X12_at b_X12_at 2 (some .int) :: GW) ({ frames := 0, cells := 0, slots := 0, locals := 0 } : Room) (va_Pc [.ref (w 1), .int a1] (kPreE D cy sz (wB cy r σ0) (gE w g))) ((fun A : Nat → Prop => va_Qi (S := Unit) (fun (_ : Int32) (_ : Unit) => True) (fun _ => kPost D cy A (wB cy r σ0)) A) (va_A (wB cy r σ0) sz)) 0 0 (va_A (wB cy r σ0) sz) := by
  refine k_ofWE (Qc := fun A => va_Qi (S := Unit) (fun (_ : Int32) (_ : Unit) => True) (fun _ => kPost D cy A (wB cy r σ0)) A) (by decide) (Nat.le_of_ble_eq_true rfl) ?_
  intro p e s m below meth c A ls hx hb hr hml hown hlocks hin hg hNW hK hP hD hA hS hl hE
  have hl : lv_has ls 2 [(0, .ref (w 1)), (1, .int a1)] := hl
  have hown : s.vm.findClass "LinkedUnits" = some m.cls := hown
  obtain ⟨H, hH⟩ : ∃ H, H = s.heap := ⟨_, rfl⟩
  rw [← hH] at hP
  have hS : va_S A s.heap H [] := by rw [hH]; exact va_S.rf
  have hgoal : W p l e ({ frames := 0, cells := 0, slots := 0, locals := 0 } : Room) s m (([.ref (w 1), .int a1] : List Value).toArray) below meth c H [] 0 0 (MQ below (va_Qi (S := Unit) (fun (_ : Int32) (_ : Unit) => True) (fun _ => kPost D cy A (wB cy r σ0)) A) (([.ref (w 1), .int a1] : List Value).toArray) s 0 0 A) (F0 m 0 ls []) := by
    refine lv_iload_n hx hb d_X12_at_0 rfl (lv_at hl 1 rfl) ?_
    refine lv_if_lt (tgt := 16) hx hb d_X12_at_1 (by decide) (fun c_1 => ?_) (fun c_1 => ?_)
    · -- taken at 1
      refine lv_iconst (v := 0) hx hb d_X12_at_16 (by decide) ?_
      refine W.widen (k := 0) (n := 0) (Nat.le_of_ble_eq_true rfl) (Nat.le_of_ble_eq_true rfl) ?_
      exact k_iret (X := Unit) (w1 := fun _ => wB cy r σ0) () hx hb hr d_X12_at_17 hlocks hP hK hD hS trivial
    · -- not taken at 1
      refine lv_iload_n hx hb d_X12_at_4 rfl (lv_at hl 1 rfl) ?_
      refine lv_aload_n hx hb d_X12_at_5 rfl (lv_at hl 0 rfl) ?_
      refine va_tlen hx hb hE.2.2.2 hS (v := 61) (by decide) d_X12_at_6 ?_
      refine lv_icmp_ge (tgt := 16) hx hb d_X12_at_7 (by decide) (fun c_7 => ?_) (fun c_7 => ?_)
      · -- taken at 7
        refine lv_iconst (v := 0) hx hb d_X12_at_16 (by decide) ?_
        refine W.widen (k := 0) (n := 0) (Nat.le_of_ble_eq_true rfl) (Nat.le_of_ble_eq_true rfl) ?_
        exact k_iret (X := Unit) (w1 := fun _ => wB cy r σ0) () hx hb hr d_X12_at_17 hlocks hP hK hD hS trivial
      · -- not taken at 7
        refine lv_aload_n hx hb d_X12_at_10 rfl (lv_at hl 0 rfl) ?_
        refine lv_iload_n hx hb d_X12_at_11 rfl (lv_at hl 1 rfl) ?_
        refine va_ti hx hb hE.2.2.2 hS (k_in (n := 61) (by decide) c_1 c_7) rfl d_X12_at_12 ?_
        refine k_any (fun v1 => ?_)
        refine lv_goto (tgt := 17) hx hb d_X12_at_13 (by decide) ?_
        refine W.widen (k := 0) (n := 0) (Nat.le_of_ble_eq_true rfl) (Nat.le_of_ble_eq_true rfl) ?_
        exact k_iret (X := Unit) (w1 := fun _ => wB cy r σ0) () hx hb hr d_X12_at_17 hlocks hP hK hD hS trivial
  rw [hH] at hgoal
  exact hgoal
set_option maxHeartbeats 4000000 in
set_option maxRecDepth 100000 in
theorem s_X3_levelOf (l : Launch) (D : va_G) (cy : Nat → ClassId) (sz : Nat) (w : Nat → Nat) (g : Nat → Nat → Int32) (r : Nat → Nat) (σ0 : St) (a0 : Int32) (i0 : Inv σ0) : Met l y_X3_levelOf (Cond.code y_X3_levelOf b_X3_levelOf 2 (some .int) :: GW) ({ frames := 0, cells := 0, slots := 0, locals := 0 } : Room) (va_Pc [.int a0] (kPreE D cy sz (wB cy r σ0) (gE w g))) ((fun A : Nat → Prop => va_Qi (S := Unit) (fun (_ : Int32) (_ : Unit) => True) (fun _ => kPost D cy A (wB cy r σ0)) A) (va_A (wB cy r σ0) sz)) 0 0 (va_A (wB cy r σ0) sz) := by
  refine k_ofWE (Qc := fun A => va_Qi (S := Unit) (fun (_ : Int32) (_ : Unit) => True) (fun _ => kPost D cy A (wB cy r σ0)) A) (by decide) (Nat.le_of_ble_eq_true rfl) ?_
  intro p e s m below meth c A ls hx hb hr hml hown hlocks hin hg hNW hK hP hD hA hS hl hE
  have hl : lv_has ls 2 [(0, .int a0)] := hl
  have hown : s.vm.findClass "LinkedUnits$Grammar" = some m.cls := hown
  obtain ⟨H, hH⟩ : ∃ H, H = s.heap := ⟨_, rfl⟩
  rw [← hH] at hP
  have hS : va_S A s.heap H [] := by rw [hH]; exact va_S.rf
  have hgoal : W p l e ({ frames := 0, cells := 0, slots := 0, locals := 0 } : Room) s m (([.int a0] : List Value).toArray) below meth c H [] 0 0 (MQ below (va_Qi (S := Unit) (fun (_ : Int32) (_ : Unit) => True) (fun _ => kPost D cy A (wB cy r σ0)) A) (([.int a0] : List Value).toArray) s 0 0 A) (F0 m 0 ls []) := by
    refine lv_iload_n hx hb d_X3_levelOf_0 rfl (lv_at hl 0 rfl) ?_
    refine lv_bipush (v := 41) hx hb d_X3_levelOf_1 (by decide) ?_
    refine lv_isub hx hb d_X3_levelOf_3 ?_
    refine lv_istore_n (lv' := [(1, .int (a0 - 41)), (0, .int a0)]) hx hb d_X3_levelOf_4 rfl hl (by decide) rfl (fun ls hl => ?_)
    refine lv_iload_n hx hb d_X3_levelOf_5 rfl (lv_at hl 0 rfl) ?_
    refine lv_if_lt (tgt := 25) hx hb d_X3_levelOf_6 (by decide) (fun c_6 => ?_) (fun c_6 => ?_)
    · -- taken at 6
      refine lv_iconst (v := 0) hx hb d_X3_levelOf_25 (by decide) ?_
      refine W.widen (k := 0) (n := 0) (Nat.le_of_ble_eq_true rfl) (Nat.le_of_ble_eq_true rfl) ?_
      exact k_iret (X := Unit) (w1 := fun _ => wB cy r σ0) () hx hb hr d_X3_levelOf_26 hlocks hP hK hD hS trivial
    · -- not taken at 6
      refine lv_iload_n hx hb d_X3_levelOf_9 rfl (lv_at hl 0 rfl) ?_
      refine va_gets hx hb hE.1 hS hown (hg _ m_973) (fun _ h9 => h9) d_X3_levelOf_10 ?_
      refine va_tlen hx hb hE.2.1 hS (v := 18) (by decide) d_X3_levelOf_13 ?_
      refine lv_icmp_ge (tgt := 25) hx hb d_X3_levelOf_14 (by decide) (fun c_14 => ?_) (fun c_14 => ?_)
      · -- taken at 14
        refine lv_iconst (v := 0) hx hb d_X3_levelOf_25 (by decide) ?_
        refine W.widen (k := 0) (n := 0) (Nat.le_of_ble_eq_true rfl) (Nat.le_of_ble_eq_true rfl) ?_
        exact k_iret (X := Unit) (w1 := fun _ => wB cy r σ0) () hx hb hr d_X3_levelOf_26 hlocks hP hK hD hS trivial
      · -- not taken at 14
        refine va_gets hx hb hE.1 hS hown (hg _ m_973) (fun _ h9 => h9) d_X3_levelOf_17 ?_
        refine lv_iload_n hx hb d_X3_levelOf_20 rfl (lv_at hl 0 rfl) ?_
        refine va_ti hx hb hE.2.1 hS (k_in (n := 18) (by decide) c_6 c_14) rfl d_X3_levelOf_21 ?_
        refine k_any (fun v1 => ?_)
        refine lv_goto (tgt := 26) hx hb d_X3_levelOf_22 (by decide) ?_
        refine W.widen (k := 0) (n := 0) (Nat.le_of_ble_eq_true rfl) (Nat.le_of_ble_eq_true rfl) ?_
        exact k_iret (X := Unit) (w1 := fun _ => wB cy r σ0) () hx hb hr d_X3_levelOf_26 hlocks hP hK hD hS trivial
  rw [hH] at hgoal
  exact hgoal
