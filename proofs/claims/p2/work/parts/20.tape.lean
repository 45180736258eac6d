set_option maxHeartbeats 4000000 in
set_option maxRecDepth 100000 in
theorem s_X9_begin (l : Launch) (D : va_G) (cy : Nat → ClassId) (sz : Nat) (r : Nat → Nat) (σ : St) (inv : Inv σ) : Met l y_X9_begin (Cond.code y_X9_begin b_X9_begin 1 none :: GW) ({ frames := 0, cells := 0, slots := 0, locals := 0 } : Room) (va_Pc [.ref (r 11)] (kPre D cy sz (wB cy r σ))) ((fun A : Nat → Prop => va_Qv (S := St) (fun (τ : St) => Inv τ) (fun τ => kPost D cy A (wB cy r τ)) A) (va_A (wB cy r σ) sz)) 0 0 (va_A (wB cy r σ) sz) := by
  refine k_ofW (Qc := fun A => va_Qv (S := St) (fun (τ : St) => Inv τ) (fun τ => kPost D cy A (wB cy r τ)) A) (by decide) (Nat.le_of_ble_eq_true rfl) ?_
  intro p e s m below meth c A ls hx hb hr hml hown hlocks hin hg hNW hK hP hD hA hS hl
  have hl : lv_has ls 1 [(0, .ref (r 11))] := hl
  have hown : s.vm.findClass "LinkedUnits$Tape" = some m.cls := hown
  obtain ⟨H, hH⟩ : ∃ H, H = s.heap := ⟨_, rfl⟩
  rw [← hH] at hP
  have hS : va_S A s.heap H [] := by rw [hH]; exact va_S.rf
  have hgoal : W p l e ({ frames := 0, cells := 0, slots := 0, locals := 0 } : Room) s m (([.ref (r 11)] : List Value).toArray) below meth c H [] 0 0 (MQ below (va_Qv (S := St) (fun (τ : St) => Inv τ) (fun τ => kPost D cy A (wB cy r τ)) A) (([.ref (r 11)] : List Value).toArray) s 0 0 A) (F0 m 0 ls []) := by
    refine lv_aload_n hx hb d_X9_begin_0 rfl (lv_at hl 0 rfl) ?_
    refine lv_iconst (v := 0) hx hb d_X9_begin_1 (by decide) ?_
    refine va_put (D := D) (ci := 9) (v := .int 0) (ty := .int) (C := "LinkedUnits$Tape") (T := TX9) (N := 5) hx hb hg iwX9 tyX9 tyX9_ok nmX9 hown hK hP hD hS 10 rfl rfl 1 (by decide) (hg _ m_647) (fun _ h9 => h9) rfl (by decide +kernel) rfl rfl (Nat.le_of_ble_eq_true rfl) d_X9_begin_2 (fun H locs hP hD hS => ?_)
    have hP : va_P D vwCl (wB cy r (upC σ 11 1 0)) H := hP
    have hD : va_D A (wB cy r (upC σ 11 1 0)) := hD
    refine lv_aload_n hx hb d_X9_begin_5 rfl (lv_at hl 0 rfl) ?_
    refine lv_iconst (v := 0) hx hb d_X9_begin_6 (by decide) ?_
    refine va_put (D := D) (ci := 9) (v := .int 0) (ty := .int) (C := "LinkedUnits$Tape") (T := TX9) (N := 5) hx hb hg iwX9 tyX9 tyX9_ok nmX9 hown hK hP hD hS 10 rfl rfl 2 (by decide) (hg _ m_648) (fun _ h9 => h9) rfl (by decide +kernel) rfl rfl (Nat.le_of_ble_eq_true rfl) d_X9_begin_7 (fun H locs hP hD hS => ?_)
    have hP : va_P D vwCl (wB cy r (upC (upC σ 11 1 0) 11 2 0)) H := hP
    have hD : va_D A (wB cy r (upC (upC σ 11 1 0) 11 2 0)) := hD
    refine W.widen (k := 0) (n := 0) (Nat.le_of_ble_eq_true rfl) (Nat.le_of_ble_eq_true rfl) ?_
    exact k_vret (X := St) (w1 := fun τ => wB cy r τ) (upC (upC σ 11 1 0) 11 2 0) hx hb hr d_X9_begin_10 hlocks hP hK hD hS inv
  rw [hH] at hgoal
  exact hgoal
set_option maxHeartbeats 4000000 in
set_option maxRecDepth 100000 in
theorem s_X9_put (l : Launch) (D : va_G) (cy : Nat → ClassId) (sz : Nat) (r : Nat → Nat) (σ : St) (x1 : Int32) (inv : Inv σ) : Met l y_X9_put (Cond.code y_X9_put b_X9_put 2 (some .boolean) :: GW) ({ frames := 0, cells := 0, slots := 0, locals := 0 } : Room) (va_Pc [.ref (r 11), .int x1] (kPre D cy sz (wB cy r σ))) ((fun A : Nat → Prop => va_Qi (S := St) (fun (v9 : Int32) (τ : St) => (v9 = 0 ∨ v9 = 1) ∧ Inv τ) (fun τ => kPost D cy A (wB cy r τ)) A) (va_A (wB cy r σ) sz)) 0 0 (va_A (wB cy r σ) sz) := by
  refine k_ofW (Qc := fun A => va_Qi (S := St) (fun (v9 : Int32) (τ : St) => (v9 = 0 ∨ v9 = 1) ∧ Inv τ) (fun τ => kPost D cy A (wB cy r τ)) A) (by decide) (Nat.le_of_ble_eq_true rfl) ?_
  intro p e s m below meth c A ls hx hb hr hml hown hlocks hin hg hNW hK hP hD hA hS hl
  have hl : lv_has ls 2 [(0, .ref (r 11)), (1, .int x1)] := hl
  have hown : s.vm.findClass "LinkedUnits$Tape" = some m.cls := hown
  obtain ⟨H, hH⟩ : ∃ H, H = s.heap := ⟨_, rfl⟩
  rw [← hH] at hP
  have hS : va_S A s.heap H [] := by rw [hH]; exact va_S.rf
  have hgoal : W p l e ({ frames := 0, cells := 0, slots := 0, locals := 0 } : Room) s m (([.ref (r 11), .int x1] : List Value).toArray) below meth c H [] 0 0 (MQ below (va_Qi (S := St) (fun (v9 : Int32) (τ : St) => (v9 = 0 ∨ v9 = 1) ∧ Inv τ) (fun τ => kPost D cy A (wB cy r τ)) A) (([.ref (r 11), .int x1] : List Value).toArray) s 0 0 A) (F0 m 0 ls []) := by
    refine lv_aload_n hx hb d_X9_put_0 rfl (lv_at hl 0 rfl) ?_
    refine va_get (D := D) (ci := 9) (v := .int (σ 11 2)) (C := "LinkedUnits$Tape") (T := TX9) (N := 5) hx hb hg iwX9 hown hK hP 10 rfl rfl 2 (by decide) (hg _ m_648) (fun _ h9 => h9) rfl d_X9_put_1 ?_
    refine lv_if_lt (tgt := 19) hx hb d_X9_put_4 (by decide) (fun c_4 => ?_) (fun c_4 => ?_)
    · -- taken at 4
      refine lv_iconst (v := 0) hx hb d_X9_put_19 (by decide) ?_
      refine W.widen (k := 0) (n := 0) (Nat.le_of_ble_eq_true rfl) (Nat.le_of_ble_eq_true rfl) ?_
      exact k_zret (X := St) (w1 := fun τ => wB cy r τ) σ hx hb hr (k_nz (Or.inl rfl)) d_X9_put_20 hlocks hP hK hD hS ⟨(Or.inl rfl), inv⟩
    · -- not taken at 4
      refine lv_aload_n hx hb d_X9_put_7 rfl (lv_at hl 0 rfl) ?_
      refine va_get (D := D) (ci := 9) (v := .int (σ 11 2)) (C := "LinkedUnits$Tape") (T := TX9) (N := 5) hx hb hg iwX9 hown hK hP 10 rfl rfl 2 (by decide) (hg _ m_648) (fun _ h9 => h9) rfl d_X9_put_8 ?_
      refine lv_aload_n hx hb d_X9_put_11 rfl (lv_at hl 0 rfl) ?_
      refine va_get (D := D) (ci := 9) (v := .ref (r 61)) (C := "LinkedUnits$Tape") (T := TX9) (N := 5) hx hb hg iwX9 hown hK hP 10 rfl rfl 4 (by decide) (hg _ m_651) (fun _ h9 => h9) rfl d_X9_put_12 ?_
      refine va_alen hx hb hK hP 58 0 rfl rfl (v := 4096) (by show Int32.ofNat 4096 = 4096; decide) d_X9_put_15 ?_
      refine lv_icmp_lt (tgt := 21) hx hb d_X9_put_16 (by decide) (fun c_16 => ?_) (fun c_16 => ?_)
      · -- taken at 16
        refine lv_aload_n hx hb d_X9_put_21 rfl (lv_at hl 0 rfl) ?_
        refine va_get (D := D) (ci := 9) (v := .ref (r 61)) (C := "LinkedUnits$Tape") (T := TX9) (N := 5) hx hb hg iwX9 hown hK hP 10 rfl rfl 4 (by decide) (hg _ m_651) (fun _ h9 => h9) rfl d_X9_put_22 ?_
        refine lv_aload_n hx hb d_X9_put_25 rfl (lv_at hl 0 rfl) ?_
        refine va_get (D := D) (ci := 9) (v := .int (σ 11 2)) (C := "LinkedUnits$Tape") (T := TX9) (N := 5) hx hb hg iwX9 hown hK hP 10 rfl rfl 2 (by decide) (hg _ m_648) (fun _ h9 => h9) rfl d_X9_put_26 ?_
        refine lv_iload_n hx hb d_X9_put_29 rfl (lv_at hl 1 rfl) ?_
        refine lv_i2b (v := (x1).toInt8.toInt32) hx hb d_X9_put_30 rfl ?_
        refine va_bast hx hb hK hP hD hS 58 0 rfl rfl (k_in (n := 4096) (by decide) c_4 (Int32.not_le.mpr c_16)) d_X9_put_31 (fun H locs hP hD hS => ?_)
        have hP : va_P D vwCl (wB cy r (upF σ 61 (upd (σ 61) ((σ 11 2)).toNatClampNeg (vp_nar .byte ((x1).toInt8.toInt32))))) H := hP
        have hD : va_D A (wB cy r (upF σ 61 (upd (σ 61) ((σ 11 2)).toNatClampNeg (vp_nar .byte ((x1).toInt8.toInt32))))) := hD
        refine lv_aload_n hx hb d_X9_put_32 rfl (lv_at hl 0 rfl) ?_
        refine lv_dup hx hb d_X9_put_33 rfl ?_
        refine va_get (D := D) (ci := 9) (v := .int (σ 11 2)) (C := "LinkedUnits$Tape") (T := TX9) (N := 5) hx hb hg iwX9 hown hK hP 10 rfl rfl 2 (by decide) (hg _ m_648) (fun _ h9 => h9) rfl d_X9_put_34 ?_
        refine lv_iconst (v := 1) hx hb d_X9_put_37 (by decide) ?_
        refine lv_iadd hx hb d_X9_put_38 ?_
        refine va_put (D := D) (ci := 9) (v := .int ((σ 11 2) + 1)) (ty := .int) (C := "LinkedUnits$Tape") (T := TX9) (N := 5) hx hb hg iwX9 tyX9 tyX9_ok nmX9 hown hK hP hD hS 10 rfl rfl 2 (by decide) (hg _ m_648) (fun _ h9 => h9) rfl (by decide +kernel) rfl rfl (Nat.le_of_ble_eq_true rfl) d_X9_put_39 (fun H locs hP hD hS => ?_)
        have hP : va_P D vwCl (wB cy r (upC (upF σ 61 (upd (σ 61) ((σ 11 2)).toNatClampNeg (vp_nar .byte ((x1).toInt8.toInt32)))) 11 2 ((σ 11 2) + 1))) H := hP
        have hD : va_D A (wB cy r (upC (upF σ 61 (upd (σ 61) ((σ 11 2)).toNatClampNeg (vp_nar .byte ((x1).toInt8.toInt32)))) 11 2 ((σ 11 2) + 1))) := hD
        refine lv_iconst (v := 1) hx hb d_X9_put_42 (by decide) ?_
        refine W.widen (k := 0) (n := 0) (Nat.le_of_ble_eq_true rfl) (Nat.le_of_ble_eq_true rfl) ?_
        exact k_zret (X := St) (w1 := fun τ => wB cy r τ) (upC (upF σ 61 (upd (σ 61) ((σ 11 2)).toNatClampNeg (vp_nar .byte ((x1).toInt8.toInt32)))) 11 2 ((σ 11 2) + 1)) hx hb hr (k_nz (Or.inr rfl)) d_X9_put_43 hlocks hP hK hD hS ⟨(Or.inr rfl), inv⟩
      · -- not taken at 16
        refine lv_iconst (v := 0) hx hb d_X9_put_19 (by decide) ?_
        refine W.widen (k := 0) (n := 0) (Nat.le_of_ble_eq_true rfl) (Nat.le_of_ble_eq_true rfl) ?_
        exact k_zret (X := St) (w1 := fun τ => wB cy r τ) σ hx hb hr (k_nz (Or.inl rfl)) d_X9_put_20 hlocks hP hK hD hS ⟨(Or.inl rfl), inv⟩
  rw [hH] at hgoal
  exact hgoal
set_option maxHeartbeats 4000000 in
set_option maxRecDepth 100000 in
theorem s_X9_useUp (l : Launch) (D : va_G) (cy : Nat → ClassId) (sz : Nat) (r : Nat → Nat) (σ : St) (inv : Inv σ) : Met l y_X9_useUp (Cond.code y_X9_useUp b_X9_useUp 1 none :: GW) ({ frames := 0, cells := 0, slots := 0, locals := 0 } : Room) (va_Pc [.ref (r 11)] (kPre D cy sz (wB cy r σ))) ((fun A : Nat → Prop => va_Qv (S := St) (fun (τ : St) => Inv τ) (fun τ => kPost D cy A (wB cy r τ)) A) (va_A (wB cy r σ) sz)) 0 0 (va_A (wB cy r σ) sz) := by
  refine k_ofW (Qc := fun A => va_Qv (S := St) (fun (τ : St) => Inv τ) (fun τ => kPost D cy A (wB cy r τ)) A) (by decide) (Nat.le_of_ble_eq_true rfl) ?_
  intro p e s m below meth c A ls hx hb hr hml hown hlocks hin hg hNW hK hP hD hA hS hl
  have hl : lv_has ls 1 [(0, .ref (r 11))] := hl
  have hown : s.vm.findClass "LinkedUnits$Tape" = some m.cls := hown
  obtain ⟨H, hH⟩ : ∃ H, H = s.heap := ⟨_, rfl⟩
  rw [← hH] at hP
  have hS : va_S A s.heap H [] := by rw [hH]; exact va_S.rf
  have hgoal : W p l e ({ frames := 0, cells := 0, slots := 0, locals := 0 } : Room) s m (([.ref (r 11)] : List Value).toArray) below meth c H [] 0 0 (MQ below (va_Qv (S := St) (fun (τ : St) => Inv τ) (fun τ => kPost D cy A (wB cy r τ)) A) (([.ref (r 11)] : List Value).toArray) s 0 0 A) (F0 m 0 ls []) := by
    refine lv_aload_n hx hb d_X9_useUp_0 rfl (lv_at hl 0 rfl) ?_
    refine lv_iconst (v := 0) hx hb d_X9_useUp_1 (by decide) ?_
    refine va_put (D := D) (ci := 9) (v := .int 0) (ty := .int) (C := "LinkedUnits$Tape") (T := TX9) (N := 5) hx hb hg iwX9 tyX9 tyX9_ok nmX9 hown hK hP hD hS 10 rfl rfl 0 (by decide) (hg _ m_646) (fun _ h9 => h9) rfl (by decide +kernel) rfl rfl (Nat.le_of_ble_eq_true rfl) d_X9_useUp_2 (fun H locs hP hD hS => ?_)
    have hP : va_P D vwCl (wB cy r (upC σ 11 0 0)) H := hP
    have hD : va_D A (wB cy r (upC σ 11 0 0)) := hD
    refine W.widen (k := 0) (n := 0) (Nat.le_of_ble_eq_true rfl) (Nat.le_of_ble_eq_true rfl) ?_
    exact k_vret (X := St) (w1 := fun τ => wB cy r τ) (upC σ 11 0 0) hx hb hr d_X9_useUp_5 hlocks hP hK hD hS inv
  rw [hH] at hgoal
  exact hgoal
set_option maxHeartbeats 4000000 in
set_option maxRecDepth 100000 in
theorem s_X9_byteAt (l : Launch) (D : va_G) (cy : Nat → ClassId) (sz : Nat) (r : Nat → Nat) (σ : St) (x1 : Int32) (inv : Inv σ) : Met l y_X9_byteAt (Cond.code y_X9_byteAt b_X9_byteAt 2 (some .int) :: GW) ({ frames := 0, cells := 0, slots := 0, locals := 0 } : Room) (va_Pc [.ref (r 11), .int x1] (kPre D cy sz (wB cy r σ))) ((fun A : Nat → Prop => va_Qi (S := Unit) (fun (_ : Int32) (_ : Unit) => True) (fun _ => kPost D cy A (wB cy r σ)) A) (va_A (wB cy r σ) sz)) 0 0 (va_A (wB cy r σ) sz) := by
  refine k_ofW (Qc := fun A => va_Qi (S := Unit) (fun (_ : Int32) (_ : Unit) => True) (fun _ => kPost D cy A (wB cy r σ)) A) (by decide) (Nat.le_of_ble_eq_true rfl) ?_
  intro p e s m below meth c A ls hx hb hr hml hown hlocks hin hg hNW hK hP hD hA hS hl
  have hl : lv_has ls 2 [(0, .ref (r 11)), (1, .int x1)] := hl
  have hown : s.vm.findClass "LinkedUnits$Tape" = some m.cls := hown
  obtain ⟨H, hH⟩ : ∃ H, H = s.heap := ⟨_, rfl⟩
  rw [← hH] at hP
  have hS : va_S A s.heap H [] := by rw [hH]; exact va_S.rf
  have hgoal : W p l e ({ frames := 0, cells := 0, slots := 0, locals := 0 } : Room) s m (([.ref (r 11), .int x1] : List Value).toArray) below meth c H [] 0 0 (MQ below (va_Qi (S := Unit) (fun (_ : Int32) (_ : Unit) => True) (fun _ => kPost D cy A (wB cy r σ)) A) (([.ref (r 11), .int x1] : List Value).toArray) s 0 0 A) (F0 m 0 ls []) := by
    refine lv_iload_n hx hb d_X9_byteAt_0 rfl (lv_at hl 1 rfl) ?_
    refine lv_if_lt (tgt := 34) hx hb d_X9_byteAt_1 (by decide) (fun c_1 => ?_) (fun c_1 => ?_)
    · -- taken at 1
      refine lv_iconst (v := (-1)) hx hb d_X9_byteAt_34 (by decide) ?_
      refine W.widen (k := 0) (n := 0) (Nat.le_of_ble_eq_true rfl) (Nat.le_of_ble_eq_true rfl) ?_
      exact k_iret (X := Unit) (w1 := fun _ => wB cy r σ) () hx hb hr d_X9_byteAt_35 hlocks hP hK hD hS trivial
    · -- not taken at 1
      refine lv_iload_n hx hb d_X9_byteAt_4 rfl (lv_at hl 1 rfl) ?_
      refine lv_aload_n hx hb d_X9_byteAt_5 rfl (lv_at hl 0 rfl) ?_
      refine va_get (D := D) (ci := 9) (v := .int (σ 11 2)) (C := "LinkedUnits$Tape") (T := TX9) (N := 5) hx hb hg iwX9 hown hK hP 10 rfl rfl 2 (by decide) (hg _ m_648) (fun _ h9 => h9) rfl d_X9_byteAt_6 ?_
      refine lv_icmp_ge (tgt := 34) hx hb d_X9_byteAt_9 (by decide) (fun c_9 => ?_) (fun c_9 => ?_)
      · -- taken at 9
        refine lv_iconst (v := (-1)) hx hb d_X9_byteAt_34 (by decide) ?_
        refine W.widen (k := 0) (n := 0) (Nat.le_of_ble_eq_true rfl) (Nat.le_of_ble_eq_true rfl) ?_
        exact k_iret (X := Unit) (w1 := fun _ => wB cy r σ) () hx hb hr d_X9_byteAt_35 hlocks hP hK hD hS trivial
      · -- not taken at 9
        refine lv_iload_n hx hb d_X9_byteAt_12 rfl (lv_at hl 1 rfl) ?_
        refine lv_aload_n hx hb d_X9_byteAt_13 rfl (lv_at hl 0 rfl) ?_
        refine va_get (D := D) (ci := 9) (v := .ref (r 61)) (C := "LinkedUnits$Tape") (T := TX9) (N := 5) hx hb hg iwX9 hown hK hP 10 rfl rfl 4 (by decide) (hg _ m_651) (fun _ h9 => h9) rfl d_X9_byteAt_14 ?_
        refine va_alen hx hb hK hP 58 0 rfl rfl (v := 4096) (by show Int32.ofNat 4096 = 4096; decide) d_X9_byteAt_17 ?_
        refine lv_icmp_ge (tgt := 34) hx hb d_X9_byteAt_18 (by decide) (fun c_18 => ?_) (fun c_18 => ?_)
        · -- taken at 18
          refine lv_iconst (v := (-1)) hx hb d_X9_byteAt_34 (by decide) ?_
          refine W.widen (k := 0) (n := 0) (Nat.le_of_ble_eq_true rfl) (Nat.le_of_ble_eq_true rfl) ?_
          exact k_iret (X := Unit) (w1 := fun _ => wB cy r σ) () hx hb hr d_X9_byteAt_35 hlocks hP hK hD hS trivial
        · -- not taken at 18
          refine lv_aload_n hx hb d_X9_byteAt_21 rfl (lv_at hl 0 rfl) ?_
          refine va_get (D := D) (ci := 9) (v := .ref (r 61)) (C := "LinkedUnits$Tape") (T := TX9) (N := 5) hx hb hg iwX9 hown hK hP 10 rfl rfl 4 (by decide) (hg _ m_651) (fun _ h9 => h9) rfl d_X9_byteAt_22 ?_
          refine lv_iload_n hx hb d_X9_byteAt_25 rfl (lv_at hl 1 rfl) ?_
          refine va_bald hx hb hK hP 58 0 rfl rfl (k_in (n := 4096) (by decide) c_1 c_18) d_X9_byteAt_26 ?_
          refine k_any (fun v1 => ?_)
          refine lv_sipush (v := 255) hx hb d_X9_byteAt_27 (by decide) ?_
          refine lv_iand hx hb d_X9_byteAt_30 ?_
          refine lv_goto (tgt := 35) hx hb d_X9_byteAt_31 (by decide) ?_
          refine W.widen (k := 0) (n := 0) (Nat.le_of_ble_eq_true rfl) (Nat.le_of_ble_eq_true rfl) ?_
          exact k_iret (X := Unit) (w1 := fun _ => wB cy r σ) () hx hb hr d_X9_byteAt_35 hlocks hP hK hD hS trivial
  rw [hH] at hgoal
  exact hgoal
