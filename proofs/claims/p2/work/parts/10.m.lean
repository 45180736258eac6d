set_option maxHeartbeats 4000000 in
set_option maxRecDepth 100000 in
theorem s_X10_byteAt (l : Launch) (D : va_G) (cy : Nat → ClassId) (sz : Nat) (w : Nat → Nat) (g : Nat → Nat → Int32) (r : Nat → Nat) (σ0 : St) (a1 : Int32) (i0 : Inv σ0) : Met l y_X10_byteAt (Cond.code y_X10_byteAt b_X10_byteAt 2 (some .int) :: GW) ({ frames := 0, cells := 0, slots := 0, locals := 0 } : Room) (va_Pc [.ref (r 2), .int a1] (kPreE D cy sz (wB cy r σ0) (gE w g))) ((fun A : Nat → Prop => va_Qi (S := Unit) (fun (_ : Int32) (_ : Unit) => True) (fun _ => kPost D cy A (wB cy r σ0)) A) (va_A (wB cy r σ0) sz)) 0 0 (va_A (wB cy r σ0) sz) := by
  refine k_ofWE (Qc := fun A => va_Qi (S := Unit) (fun (_ : Int32) (_ : Unit) => True) (fun _ => kPost D cy A (wB cy r σ0)) A) (by decide) (Nat.le_of_ble_eq_true rfl) ?_
  intro p e s m below meth c A ls hx hb hr hml hown hlocks hin hg hNW hK hP hD hA hS hl hE
  have hl : lv_has ls 2 [(0, .ref (r 2)), (1, .int a1)] := hl
  have hown : s.vm.findClass "LinkedUnits$Tokens" = some m.cls := hown
  obtain ⟨H, hH⟩ : ∃ H, H = s.heap := ⟨_, rfl⟩
  rw [← hH] at hP
  have hS : va_S A s.heap H [] := by rw [hH]; exact va_S.rf
  have hgoal : W p l e ({ frames := 0, cells := 0, slots := 0, locals := 0 } : Room) s m (([.ref (r 2), .int a1] : List Value).toArray) below meth c H [] 0 0 (MQ below (va_Qi (S := Unit) (fun (_ : Int32) (_ : Unit) => True) (fun _ => kPost D cy A (wB cy r σ0)) A) (([.ref (r 2), .int a1] : List Value).toArray) s 0 0 A) (F0 m 0 ls []) := by
    refine lv_iload_n hx hb d_X10_byteAt_0 rfl (lv_at hl 1 rfl) ?_
    refine lv_if_lt (tgt := 34) hx hb d_X10_byteAt_1 (by decide) (fun c_1 => ?_) (fun c_1 => ?_)
    · -- taken at 1
      refine lv_iconst (v := (-1)) hx hb d_X10_byteAt_34 (by decide) ?_
      refine W.widen (k := 0) (n := 0) (Nat.le_of_ble_eq_true rfl) (Nat.le_of_ble_eq_true rfl) ?_
      exact k_iret (X := Unit) (w1 := fun _ => wB cy r σ0) () hx hb hr d_X10_byteAt_35 hlocks hP hK hD hS trivial
    · -- not taken at 1
      refine lv_iload_n hx hb d_X10_byteAt_4 rfl (lv_at hl 1 rfl) ?_
      refine lv_aload_n hx hb d_X10_byteAt_5 rfl (lv_at hl 0 rfl) ?_
      refine va_get (D := D) (ci := 10) (v := .int (σ0 2 1)) (C := "LinkedUnits$Tokens") (T := TX10) (N := 10) hx hb hg iwX10 hown hK hP 1 rfl rfl 1 (by decide) (hg _ m_43) (fun _ h9 => h9) rfl d_X10_byteAt_6 ?_
      refine lv_icmp_ge (tgt := 34) hx hb d_X10_byteAt_9 (by decide) (fun c_9 => ?_) (fun c_9 => ?_)
      · -- taken at 9
        refine lv_iconst (v := (-1)) hx hb d_X10_byteAt_34 (by decide) ?_
        refine W.widen (k := 0) (n := 0) (Nat.le_of_ble_eq_true rfl) (Nat.le_of_ble_eq_true rfl) ?_
        exact k_iret (X := Unit) (w1 := fun _ => wB cy r σ0) () hx hb hr d_X10_byteAt_35 hlocks hP hK hD hS trivial
      · -- not taken at 9
        refine lv_iload_n hx hb d_X10_byteAt_12 rfl (lv_at hl 1 rfl) ?_
        refine lv_aload_n hx hb d_X10_byteAt_13 rfl (lv_at hl 0 rfl) ?_
        refine va_get (D := D) (ci := 10) (v := .ref (r 1)) (C := "LinkedUnits$Tokens") (T := TX10) (N := 10) hx hb hg iwX10 hown hK hP 1 rfl rfl 0 (by decide) (hg _ m_41) (fun _ h9 => h9) rfl d_X10_byteAt_14 ?_
        refine va_alen hx hb hK hP 0 0 rfl rfl (v := 16000) (by show Int32.ofNat 16000 = 16000; decide) d_X10_byteAt_17 ?_
        refine lv_icmp_ge (tgt := 34) hx hb d_X10_byteAt_18 (by decide) (fun c_18 => ?_) (fun c_18 => ?_)
        · -- taken at 18
          refine lv_iconst (v := (-1)) hx hb d_X10_byteAt_34 (by decide) ?_
          refine W.widen (k := 0) (n := 0) (Nat.le_of_ble_eq_true rfl) (Nat.le_of_ble_eq_true rfl) ?_
          exact k_iret (X := Unit) (w1 := fun _ => wB cy r σ0) () hx hb hr d_X10_byteAt_35 hlocks hP hK hD hS trivial
        · -- not taken at 18
          refine lv_aload_n hx hb d_X10_byteAt_21 rfl (lv_at hl 0 rfl) ?_
          refine va_get (D := D) (ci := 10) (v := .ref (r 1)) (C := "LinkedUnits$Tokens") (T := TX10) (N := 10) hx hb hg iwX10 hown hK hP 1 rfl rfl 0 (by decide) (hg _ m_41) (fun _ h9 => h9) rfl d_X10_byteAt_22 ?_
          refine lv_iload_n hx hb d_X10_byteAt_25 rfl (lv_at hl 1 rfl) ?_
          refine va_bald hx hb hK hP 0 0 rfl rfl (k_in (n := 16000) (by decide) c_1 c_18) d_X10_byteAt_26 ?_
          refine k_any (fun v1 => ?_)
          refine lv_sipush (v := 255) hx hb d_X10_byteAt_27 (by decide) ?_
          refine lv_iand hx hb d_X10_byteAt_30 ?_
          refine lv_goto (tgt := 35) hx hb d_X10_byteAt_31 (by decide) ?_
          refine W.widen (k := 0) (n := 0) (Nat.le_of_ble_eq_true rfl) (Nat.le_of_ble_eq_true rfl) ?_
          exact k_iret (X := Unit) (w1 := fun _ => wB cy r σ0) () hx hb hr d_X10_byteAt_35 hlocks hP hK hD hS trivial
  rw [hH] at hgoal
  exact hgoal
set_option maxHeartbeats 4000000 in
set_option maxRecDepth 100000 in
theorem s_X10_mayOccur (l : Launch) (D : va_G) (cy : Nat → ClassId) (sz : Nat) (a0 : Int32) : Met l y_X10_mayOccur (Cond.code y_X10_mayOccur b_X10_mayOccur 1 (some .boolean) :: GW) ({ frames := 0, cells := 0, slots := 0, locals := 0 } : Room) (va_Pc [.int a0] (kPre D cy sz [])) ((fun A : Nat → Prop => va_Qi (S := Unit) (fun (v9 : Int32) (_ : Unit) => (v9 = 0 ∨ v9 = 1) ∧ True) (fun _ => kPost D cy A []) A) (va_A [] sz)) 0 0 (va_A [] sz) := by
  refine k_ofW (Qc := fun A => va_Qi (S := Unit) (fun (v9 : Int32) (_ : Unit) => (v9 = 0 ∨ v9 = 1) ∧ True) (fun _ => kPost D cy A []) A) (by decide) (Nat.le_of_ble_eq_true rfl) ?_
  intro p e s m below meth c A ls hx hb hr hml hown hlocks hin hg hNW hK hP hD hA hS hl
  have hl : lv_has ls 1 [(0, .int a0)] := hl
  have hown : s.vm.findClass "LinkedUnits$Tokens" = some m.cls := hown
  obtain ⟨H, hH⟩ : ∃ H, H = s.heap := ⟨_, rfl⟩
  rw [← hH] at hP
  have hS : va_S A s.heap H [] := by rw [hH]; exact va_S.rf
  have hgoal : W p l e ({ frames := 0, cells := 0, slots := 0, locals := 0 } : Room) s m (([.int a0] : List Value).toArray) below meth c H [] 0 0 (MQ below (va_Qi (S := Unit) (fun (v9 : Int32) (_ : Unit) => (v9 = 0 ∨ v9 = 1) ∧ True) (fun _ => kPost D cy A []) A) (([.int a0] : List Value).toArray) s 0 0 A) (F0 m 0 ls []) := by
    refine lv_iload_n hx hb d_X10_mayOccur_0 rfl (lv_at hl 0 rfl) ?_
    refine lv_bipush (v := 32) hx hb d_X10_mayOccur_1 (by decide) ?_
    refine lv_icmp_lt (tgt := 12) hx hb d_X10_mayOccur_3 (by decide) (fun c_3 => ?_) (fun c_3 => ?_)
    · -- taken at 3
      refine lv_iload_n hx hb d_X10_mayOccur_12 rfl (lv_at hl 0 rfl) ?_
      refine lv_bipush (v := 9) hx hb d_X10_mayOccur_13 (by decide) ?_
      refine lv_icmp_eq (tgt := 30) hx hb d_X10_mayOccur_15 (by decide) (fun c_15 => ?_) (fun c_15 => ?_)
      · -- taken at 15
        refine lv_iconst (v := 1) hx hb d_X10_mayOccur_30 (by decide) ?_
        refine lv_goto (tgt := 35) hx hb d_X10_mayOccur_31 (by decide) ?_
        refine W.widen (k := 0) (n := 0) (Nat.le_of_ble_eq_true rfl) (Nat.le_of_ble_eq_true rfl) ?_
        exact k_zret (X := Unit) (w1 := fun _ => []) () hx hb hr (k_nz (Or.inr rfl)) d_X10_mayOccur_35 hlocks hP hK hD hS ⟨(Or.inr rfl), trivial⟩
      · -- not taken at 15
        refine lv_iload_n hx hb d_X10_mayOccur_18 rfl (lv_at hl 0 rfl) ?_
        refine lv_bipush (v := 10) hx hb d_X10_mayOccur_19 (by decide) ?_
        refine lv_icmp_eq (tgt := 30) hx hb d_X10_mayOccur_21 (by decide) (fun c_21 => ?_) (fun c_21 => ?_)
        · -- taken at 21
          refine lv_iconst (v := 1) hx hb d_X10_mayOccur_30 (by decide) ?_
          refine lv_goto (tgt := 35) hx hb d_X10_mayOccur_31 (by decide) ?_
          refine W.widen (k := 0) (n := 0) (Nat.le_of_ble_eq_true rfl) (Nat.le_of_ble_eq_true rfl) ?_
          exact k_zret (X := Unit) (w1 := fun _ => []) () hx hb hr (k_nz (Or.inr rfl)) d_X10_mayOccur_35 hlocks hP hK hD hS ⟨(Or.inr rfl), trivial⟩
        · -- not taken at 21
          refine lv_iload_n hx hb d_X10_mayOccur_24 rfl (lv_at hl 0 rfl) ?_
          refine lv_bipush (v := 13) hx hb d_X10_mayOccur_25 (by decide) ?_
          refine lv_icmp_ne (tgt := 34) hx hb d_X10_mayOccur_27 (by decide) (fun c_27 => ?_) (fun c_27 => ?_)
          · -- taken at 27
            refine lv_iconst (v := 0) hx hb d_X10_mayOccur_34 (by decide) ?_
            refine W.widen (k := 0) (n := 0) (Nat.le_of_ble_eq_true rfl) (Nat.le_of_ble_eq_true rfl) ?_
            exact k_zret (X := Unit) (w1 := fun _ => []) () hx hb hr (k_nz (Or.inl rfl)) d_X10_mayOccur_35 hlocks hP hK hD hS ⟨(Or.inl rfl), trivial⟩
          · -- not taken at 27
            refine lv_iconst (v := 1) hx hb d_X10_mayOccur_30 (by decide) ?_
            refine lv_goto (tgt := 35) hx hb d_X10_mayOccur_31 (by decide) ?_
            refine W.widen (k := 0) (n := 0) (Nat.le_of_ble_eq_true rfl) (Nat.le_of_ble_eq_true rfl) ?_
            exact k_zret (X := Unit) (w1 := fun _ => []) () hx hb hr (k_nz (Or.inr rfl)) d_X10_mayOccur_35 hlocks hP hK hD hS ⟨(Or.inr rfl), trivial⟩
    · -- not taken at 3
      refine lv_iload_n hx hb d_X10_mayOccur_6 rfl (lv_at hl 0 rfl) ?_
      refine lv_bipush (v := 126) hx hb d_X10_mayOccur_7 (by decide) ?_
      refine lv_icmp_le (tgt := 30) hx hb d_X10_mayOccur_9 (by decide) (fun c_9 => ?_) (fun c_9 => ?_)
      · -- taken at 9
        refine lv_iconst (v := 1) hx hb d_X10_mayOccur_30 (by decide) ?_
        refine lv_goto (tgt := 35) hx hb d_X10_mayOccur_31 (by decide) ?_
        refine W.widen (k := 0) (n := 0) (Nat.le_of_ble_eq_true rfl) (Nat.le_of_ble_eq_true rfl) ?_
        exact k_zret (X := Unit) (w1 := fun _ => []) () hx hb hr (k_nz (Or.inr rfl)) d_X10_mayOccur_35 hlocks hP hK hD hS ⟨(Or.inr rfl), trivial⟩
      · -- not taken at 9
        refine lv_iload_n hx hb d_X10_mayOccur_12 rfl (lv_at hl 0 rfl) ?_
        refine lv_bipush (v := 9) hx hb d_X10_mayOccur_13 (by decide) ?_
        refine lv_icmp_eq (tgt := 30) hx hb d_X10_mayOccur_15 (by decide) (fun c_15 => ?_) (fun c_15 => ?_)
        · -- taken at 15
          refine lv_iconst (v := 1) hx hb d_X10_mayOccur_30 (by decide) ?_
          refine lv_goto (tgt := 35) hx hb d_X10_mayOccur_31 (by decide) ?_
          refine W.widen (k := 0) (n := 0) (Nat.le_of_ble_eq_true rfl) (Nat.le_of_ble_eq_true rfl) ?_
          exact k_zret (X := Unit) (w1 := fun _ => []) () hx hb hr (k_nz (Or.inr rfl)) d_X10_mayOccur_35 hlocks hP hK hD hS ⟨(Or.inr rfl), trivial⟩
        · -- not taken at 15
          refine lv_iload_n hx hb d_X10_mayOccur_18 rfl (lv_at hl 0 rfl) ?_
          refine lv_bipush (v := 10) hx hb d_X10_mayOccur_19 (by decide) ?_
          refine lv_icmp_eq (tgt := 30) hx hb d_X10_mayOccur_21 (by decide) (fun c_21 => ?_) (fun c_21 => ?_)
          · -- taken at 21
            refine lv_iconst (v := 1) hx hb d_X10_mayOccur_30 (by decide) ?_
            refine lv_goto (tgt := 35) hx hb d_X10_mayOccur_31 (by decide) ?_
            refine W.widen (k := 0) (n := 0) (Nat.le_of_ble_eq_true rfl) (Nat.le_of_ble_eq_true rfl) ?_
            exact k_zret (X := Unit) (w1 := fun _ => []) () hx hb hr (k_nz (Or.inr rfl)) d_X10_mayOccur_35 hlocks hP hK hD hS ⟨(Or.inr rfl), trivial⟩
          · -- not taken at 21
            refine lv_iload_n hx hb d_X10_mayOccur_24 rfl (lv_at hl 0 rfl) ?_
            refine lv_bipush (v := 13) hx hb d_X10_mayOccur_25 (by decide) ?_
            refine lv_icmp_ne (tgt := 34) hx hb d_X10_mayOccur_27 (by decide) (fun c_27 => ?_) (fun c_27 => ?_)
            · -- taken at 27
              refine lv_iconst (v := 0) hx hb d_X10_mayOccur_34 (by decide) ?_
              refine W.widen (k := 0) (n := 0) (Nat.le_of_ble_eq_true rfl) (Nat.le_of_ble_eq_true rfl) ?_
              exact k_zret (X := Unit) (w1 := fun _ => []) () hx hb hr (k_nz (Or.inl rfl)) d_X10_mayOccur_35 hlocks hP hK hD hS ⟨(Or.inl rfl), trivial⟩
            · -- not taken at 27
              refine lv_iconst (v := 1) hx hb d_X10_mayOccur_30 (by decide) ?_
              refine lv_goto (tgt := 35) hx hb d_X10_mayOccur_31 (by decide) ?_
              refine W.widen (k := 0) (n := 0) (Nat.le_of_ble_eq_true rfl) (Nat.le_of_ble_eq_true rfl) ?_
              exact k_zret (X := Unit) (w1 := fun _ => []) () hx hb hr (k_nz (Or.inr rfl)) d_X10_mayOccur_35 hlocks hP hK hD hS ⟨(Or.inr rfl), trivial⟩
  rw [hH] at hgoal
  exact hgoal
set_option maxHeartbeats 4000000 in
set_option maxRecDepth 100000 in
theorem s_X10_add (l : Launch) (D : va_G) (cy : Nat → ClassId) (sz : Nat) (w : Nat → Nat) (g : Nat → Nat → Int32) (r : Nat → Nat) (σ0 : St) (a1 : Int32) (a2 : Int32) (a3 : Int32) (i0 : Inv σ0) : Met l y_X10_add (Cond.code y_X10_add b_X10_add 4 (some .boolean) :: GW) ({ frames := 0, cells := 0, slots := 0, locals := 0 } : Room) (va_Pc [.ref (r 2), .int a1, .int a2, .int a3] (kPreE D cy sz (wB cy r σ0) (gE w g))) ((fun A : Nat → Prop => va_Qi (S := St) (fun (v9 : Int32) (τ : St) => (v9 = 0 ∨ v9 = 1) ∧ (Inv τ ∧ Keep [(2, 2), (2, 4)] [13, 14, 15, 16] σ0 τ)) (fun τ => kPost D cy A (wB cy r τ)) A) (va_A (wB cy r σ0) sz)) 0 0 (va_A (wB cy r σ0) sz) := by
  refine k_ofWE (Qc := fun A => va_Qi (S := St) (fun (v9 : Int32) (τ : St) => (v9 = 0 ∨ v9 = 1) ∧ (Inv τ ∧ Keep [(2, 2), (2, 4)] [13, 14, 15, 16] σ0 τ)) (fun τ => kPost D cy A (wB cy r τ)) A) (by decide) (Nat.le_of_ble_eq_true rfl) ?_
  intro p e s m below meth c A ls hx hb hr hml hown hlocks hin hg hNW hK hP hD hA hS hl hE
  have hl : lv_has ls 4 [(0, .ref (r 2)), (1, .int a1), (2, .int a2), (3, .int a3)] := hl
  have hown : s.vm.findClass "LinkedUnits$Tokens" = some m.cls := hown
  have kp : Keep [(2, 2), (2, 4)] [13, 14, 15, 16] σ0 σ0 := keep_rf
  obtain ⟨H, hH⟩ : ∃ H, H = s.heap := ⟨_, rfl⟩
  rw [← hH] at hP
  have hS : va_S A s.heap H [] := by rw [hH]; exact va_S.rf
  have hgoal : W p l e ({ frames := 0, cells := 0, slots := 0, locals := 0 } : Room) s m (([.ref (r 2), .int a1, .int a2, .int a3] : List Value).toArray) below meth c H [] 0 0 (MQ below (va_Qi (S := St) (fun (v9 : Int32) (τ : St) => (v9 = 0 ∨ v9 = 1) ∧ (Inv τ ∧ Keep [(2, 2), (2, 4)] [13, 14, 15, 16] σ0 τ)) (fun τ => kPost D cy A (wB cy r τ)) A) (([.ref (r 2), .int a1, .int a2, .int a3] : List Value).toArray) s 0 0 A) (F0 m 0 ls []) := by
    refine lv_aload_n hx hb d_X10_add_0 rfl (lv_at hl 0 rfl) ?_
    refine va_get (D := D) (ci := 10) (v := .int (σ0 2 4)) (C := "LinkedUnits$Tokens") (T := TX10) (N := 10) hx hb hg iwX10 hown hK hP 1 rfl rfl 4 (by decide) (hg _ m_46) (fun _ h9 => h9) rfl d_X10_add_1 ?_
    refine lv_if_lt (tgt := 111) hx hb d_X10_add_4 (by decide) (fun c_4 => ?_) (fun c_4 => ?_)
    · -- taken at 4
      refine lv_aload_n hx hb d_X10_add_111 rfl (lv_at hl 0 rfl) ?_
      refine lv_dup hx hb d_X10_add_112 rfl ?_
      refine va_get (D := D) (ci := 10) (v := .int (σ0 2 2)) (C := "LinkedUnits$Tokens") (T := TX10) (N := 10) hx hb hg iwX10 hown hK hP 1 rfl rfl 2 (by decide) (hg _ m_44) (fun _ h9 => h9) rfl d_X10_add_113 ?_
      refine lv_iload_n hx hb d_X10_add_116 rfl (lv_at hl 3 rfl) ?_
      refine lv_iadd hx hb d_X10_add_117 ?_
      refine va_put (D := D) (ci := 10) (v := .int ((σ0 2 2) + a3)) (ty := .int) (C := "LinkedUnits$Tokens") (T := TX10) (N := 10) hx hb hg iwX10 tyX10 tyX10_ok nmX10 hown hK hP hD hS 1 rfl rfl 2 (by decide) (hg _ m_44) (fun _ h9 => h9) rfl (by decide +kernel) rfl rfl (Nat.le_of_ble_eq_true rfl) d_X10_add_118 (fun H locs hP hD hS => ?_)
      have hP : va_P D vwCl (wB cy r (upC σ0 2 2 ((σ0 2 2) + a3))) H := hP
      have hD : va_D A (wB cy r (upC σ0 2 2 ((σ0 2 2) + a3))) := hD
      have kp : Keep [(2, 2), (2, 4)] [13, 14, 15, 16] σ0 (upC σ0 2 2 ((σ0 2 2) + a3)) := keep_f kp (by decide)
      refine lv_iconst (v := 1) hx hb d_X10_add_121 (by decide) ?_
      refine W.widen (k := 0) (n := 0) (Nat.le_of_ble_eq_true rfl) (Nat.le_of_ble_eq_true rfl) ?_
      exact k_zret (X := St) (w1 := fun τ => wB cy r τ) (upC σ0 2 2 ((σ0 2 2) + a3)) hx hb hr (k_nz (Or.inr rfl)) d_X10_add_122 hlocks hP hK hD hS ⟨(Or.inr rfl), ⟨i0, kp⟩⟩
    · -- not taken at 4
      refine lv_aload_n hx hb d_X10_add_7 rfl (lv_at hl 0 rfl) ?_
      refine va_get (D := D) (ci := 10) (v := .int (σ0 2 4)) (C := "LinkedUnits$Tokens") (T := TX10) (N := 10) hx hb hg iwX10 hown hK hP 1 rfl rfl 4 (by decide) (hg _ m_46) (fun _ h9 => h9) rfl d_X10_add_8 ?_
      refine lv_aload_n hx hb d_X10_add_11 rfl (lv_at hl 0 rfl) ?_
      refine va_get (D := D) (ci := 10) (v := .ref (r 13)) (C := "LinkedUnits$Tokens") (T := TX10) (N := 10) hx hb hg iwX10 hown hK hP 1 rfl rfl 5 (by decide) (hg _ m_48) (fun _ h9 => h9) rfl d_X10_add_12 ?_
      refine va_alen hx hb hK hP 12 1 rfl rfl (v := 16002) (by show Int32.ofNat 16002 = 16002; decide) d_X10_add_15 ?_
      refine lv_icmp_ge (tgt := 111) hx hb d_X10_add_16 (by decide) (fun c_16 => ?_) (fun c_16 => ?_)
      · -- taken at 16
        refine lv_aload_n hx hb d_X10_add_111 rfl (lv_at hl 0 rfl) ?_
        refine lv_dup hx hb d_X10_add_112 rfl ?_
        refine va_get (D := D) (ci := 10) (v := .int (σ0 2 2)) (C := "LinkedUnits$Tokens") (T := TX10) (N := 10) hx hb hg iwX10 hown hK hP 1 rfl rfl 2 (by decide) (hg _ m_44) (fun _ h9 => h9) rfl d_X10_add_113 ?_
        refine lv_iload_n hx hb d_X10_add_116 rfl (lv_at hl 3 rfl) ?_
        refine lv_iadd hx hb d_X10_add_117 ?_
        refine va_put (D := D) (ci := 10) (v := .int ((σ0 2 2) + a3)) (ty := .int) (C := "LinkedUnits$Tokens") (T := TX10) (N := 10) hx hb hg iwX10 tyX10 tyX10_ok nmX10 hown hK hP hD hS 1 rfl rfl 2 (by decide) (hg _ m_44) (fun _ h9 => h9) rfl (by decide +kernel) rfl rfl (Nat.le_of_ble_eq_true rfl) d_X10_add_118 (fun H locs hP hD hS => ?_)
        have hP : va_P D vwCl (wB cy r (upC σ0 2 2 ((σ0 2 2) + a3))) H := hP
        have hD : va_D A (wB cy r (upC σ0 2 2 ((σ0 2 2) + a3))) := hD
        have kp : Keep [(2, 2), (2, 4)] [13, 14, 15, 16] σ0 (upC σ0 2 2 ((σ0 2 2) + a3)) := keep_f kp (by decide)
        refine lv_iconst (v := 1) hx hb d_X10_add_121 (by decide) ?_
        refine W.widen (k := 0) (n := 0) (Nat.le_of_ble_eq_true rfl) (Nat.le_of_ble_eq_true rfl) ?_
        exact k_zret (X := St) (w1 := fun τ => wB cy r τ) (upC σ0 2 2 ((σ0 2 2) + a3)) hx hb hr (k_nz (Or.inr rfl)) d_X10_add_122 hlocks hP hK hD hS ⟨(Or.inr rfl), ⟨i0, kp⟩⟩
      · -- not taken at 16
        refine lv_aload_n hx hb d_X10_add_19 rfl (lv_at hl 0 rfl) ?_
        refine va_get (D := D) (ci := 10) (v := .int (σ0 2 4)) (C := "LinkedUnits$Tokens") (T := TX10) (N := 10) hx hb hg iwX10 hown hK hP 1 rfl rfl 4 (by decide) (hg _ m_46) (fun _ h9 => h9) rfl d_X10_add_20 ?_
        refine lv_aload_n hx hb d_X10_add_23 rfl (lv_at hl 0 rfl) ?_
        refine va_get (D := D) (ci := 10) (v := .ref (r 14)) (C := "LinkedUnits$Tokens") (T := TX10) (N := 10) hx hb hg iwX10 hown hK hP 1 rfl rfl 6 (by decide) (hg _ m_52) (fun _ h9 => h9) rfl d_X10_add_24 ?_
        refine va_alen hx hb hK hP 13 1 rfl rfl (v := 16002) (by show Int32.ofNat 16002 = 16002; decide) d_X10_add_27 ?_
        refine lv_icmp_ge (tgt := 111) hx hb d_X10_add_28 (by decide) (fun c_28 => ?_) (fun c_28 => ?_)
        · -- taken at 28
          refine lv_aload_n hx hb d_X10_add_111 rfl (lv_at hl 0 rfl) ?_
          refine lv_dup hx hb d_X10_add_112 rfl ?_
          refine va_get (D := D) (ci := 10) (v := .int (σ0 2 2)) (C := "LinkedUnits$Tokens") (T := TX10) (N := 10) hx hb hg iwX10 hown hK hP 1 rfl rfl 2 (by decide) (hg _ m_44) (fun _ h9 => h9) rfl d_X10_add_113 ?_
          refine lv_iload_n hx hb d_X10_add_116 rfl (lv_at hl 3 rfl) ?_
          refine lv_iadd hx hb d_X10_add_117 ?_
          refine va_put (D := D) (ci := 10) (v := .int ((σ0 2 2) + a3)) (ty := .int) (C := "LinkedUnits$Tokens") (T := TX10) (N := 10) hx hb hg iwX10 tyX10 tyX10_ok nmX10 hown hK hP hD hS 1 rfl rfl 2 (by decide) (hg _ m_44) (fun _ h9 => h9) rfl (by decide +kernel) rfl rfl (Nat.le_of_ble_eq_true rfl) d_X10_add_118 (fun H locs hP hD hS => ?_)
          have hP : va_P D vwCl (wB cy r (upC σ0 2 2 ((σ0 2 2) + a3))) H := hP
          have hD : va_D A (wB cy r (upC σ0 2 2 ((σ0 2 2) + a3))) := hD
          have kp : Keep [(2, 2), (2, 4)] [13, 14, 15, 16] σ0 (upC σ0 2 2 ((σ0 2 2) + a3)) := keep_f kp (by decide)
          refine lv_iconst (v := 1) hx hb d_X10_add_121 (by decide) ?_
          refine W.widen (k := 0) (n := 0) (Nat.le_of_ble_eq_true rfl) (Nat.le_of_ble_eq_true rfl) ?_
          exact k_zret (X := St) (w1 := fun τ => wB cy r τ) (upC σ0 2 2 ((σ0 2 2) + a3)) hx hb hr (k_nz (Or.inr rfl)) d_X10_add_122 hlocks hP hK hD hS ⟨(Or.inr rfl), ⟨i0, kp⟩⟩
        · -- not taken at 28
          refine lv_aload_n hx hb d_X10_add_31 rfl (lv_at hl 0 rfl) ?_
          refine va_get (D := D) (ci := 10) (v := .int (σ0 2 4)) (C := "LinkedUnits$Tokens") (T := TX10) (N := 10) hx hb hg iwX10 hown hK hP 1 rfl rfl 4 (by decide) (hg _ m_46) (fun _ h9 => h9) rfl d_X10_add_32 ?_
          refine lv_aload_n hx hb d_X10_add_35 rfl (lv_at hl 0 rfl) ?_
          refine va_get (D := D) (ci := 10) (v := .ref (r 15)) (C := "LinkedUnits$Tokens") (T := TX10) (N := 10) hx hb hg iwX10 hown hK hP 1 rfl rfl 7 (by decide) (hg _ m_56) (fun _ h9 => h9) rfl d_X10_add_36 ?_
          refine va_alen hx hb hK hP 14 1 rfl rfl (v := 16002) (by show Int32.ofNat 16002 = 16002; decide) d_X10_add_39 ?_
          refine lv_icmp_ge (tgt := 111) hx hb d_X10_add_40 (by decide) (fun c_40 => ?_) (fun c_40 => ?_)
          · -- taken at 40
            refine lv_aload_n hx hb d_X10_add_111 rfl (lv_at hl 0 rfl) ?_
            refine lv_dup hx hb d_X10_add_112 rfl ?_
            refine va_get (D := D) (ci := 10) (v := .int (σ0 2 2)) (C := "LinkedUnits$Tokens") (T := TX10) (N := 10) hx hb hg iwX10 hown hK hP 1 rfl rfl 2 (by decide) (hg _ m_44) (fun _ h9 => h9) rfl d_X10_add_113 ?_
            refine lv_iload_n hx hb d_X10_add_116 rfl (lv_at hl 3 rfl) ?_
            refine lv_iadd hx hb d_X10_add_117 ?_
            refine va_put (D := D) (ci := 10) (v := .int ((σ0 2 2) + a3)) (ty := .int) (C := "LinkedUnits$Tokens") (T := TX10) (N := 10) hx hb hg iwX10 tyX10 tyX10_ok nmX10 hown hK hP hD hS 1 rfl rfl 2 (by decide) (hg _ m_44) (fun _ h9 => h9) rfl (by decide +kernel) rfl rfl (Nat.le_of_ble_eq_true rfl) d_X10_add_118 (fun H locs hP hD hS => ?_)
            have hP : va_P D vwCl (wB cy r (upC σ0 2 2 ((σ0 2 2) + a3))) H := hP
            have hD : va_D A (wB cy r (upC σ0 2 2 ((σ0 2 2) + a3))) := hD
            have kp : Keep [(2, 2), (2, 4)] [13, 14, 15, 16] σ0 (upC σ0 2 2 ((σ0 2 2) + a3)) := keep_f kp (by decide)
            refine lv_iconst (v := 1) hx hb d_X10_add_121 (by decide) ?_
            refine W.widen (k := 0) (n := 0) (Nat.le_of_ble_eq_true rfl) (Nat.le_of_ble_eq_true rfl) ?_
            exact k_zret (X := St) (w1 := fun τ => wB cy r τ) (upC σ0 2 2 ((σ0 2 2) + a3)) hx hb hr (k_nz (Or.inr rfl)) d_X10_add_122 hlocks hP hK hD hS ⟨(Or.inr rfl), ⟨i0, kp⟩⟩
          · -- not taken at 40
            refine lv_aload_n hx hb d_X10_add_43 rfl (lv_at hl 0 rfl) ?_
            refine va_get (D := D) (ci := 10) (v := .int (σ0 2 4)) (C := "LinkedUnits$Tokens") (T := TX10) (N := 10) hx hb hg iwX10 hown hK hP 1 rfl rfl 4 (by decide) (hg _ m_46) (fun _ h9 => h9) rfl d_X10_add_44 ?_
            refine lv_aload_n hx hb d_X10_add_47 rfl (lv_at hl 0 rfl) ?_
            refine va_get (D := D) (ci := 10) (v := .ref (r 16)) (C := "LinkedUnits$Tokens") (T := TX10) (N := 10) hx hb hg iwX10 hown hK hP 1 rfl rfl 8 (by decide) (hg _ m_59) (fun _ h9 => h9) rfl d_X10_add_48 ?_
            refine va_alen hx hb hK hP 15 1 rfl rfl (v := 16002) (by show Int32.ofNat 16002 = 16002; decide) d_X10_add_51 ?_
            refine lv_icmp_ge (tgt := 111) hx hb d_X10_add_52 (by decide) (fun c_52 => ?_) (fun c_52 => ?_)
            · -- taken at 52
              refine lv_aload_n hx hb d_X10_add_111 rfl (lv_at hl 0 rfl) ?_
              refine lv_dup hx hb d_X10_add_112 rfl ?_
              refine va_get (D := D) (ci := 10) (v := .int (σ0 2 2)) (C := "LinkedUnits$Tokens") (T := TX10) (N := 10) hx hb hg iwX10 hown hK hP 1 rfl rfl 2 (by decide) (hg _ m_44) (fun _ h9 => h9) rfl d_X10_add_113 ?_
              refine lv_iload_n hx hb d_X10_add_116 rfl (lv_at hl 3 rfl) ?_
              refine lv_iadd hx hb d_X10_add_117 ?_
              refine va_put (D := D) (ci := 10) (v := .int ((σ0 2 2) + a3)) (ty := .int) (C := "LinkedUnits$Tokens") (T := TX10) (N := 10) hx hb hg iwX10 tyX10 tyX10_ok nmX10 hown hK hP hD hS 1 rfl rfl 2 (by decide) (hg _ m_44) (fun _ h9 => h9) rfl (by decide +kernel) rfl rfl (Nat.le_of_ble_eq_true rfl) d_X10_add_118 (fun H locs hP hD hS => ?_)
              have hP : va_P D vwCl (wB cy r (upC σ0 2 2 ((σ0 2 2) + a3))) H := hP
              have hD : va_D A (wB cy r (upC σ0 2 2 ((σ0 2 2) + a3))) := hD
              have kp : Keep [(2, 2), (2, 4)] [13, 14, 15, 16] σ0 (upC σ0 2 2 ((σ0 2 2) + a3)) := keep_f kp (by decide)
              refine lv_iconst (v := 1) hx hb d_X10_add_121 (by decide) ?_
              refine W.widen (k := 0) (n := 0) (Nat.le_of_ble_eq_true rfl) (Nat.le_of_ble_eq_true rfl) ?_
              exact k_zret (X := St) (w1 := fun τ => wB cy r τ) (upC σ0 2 2 ((σ0 2 2) + a3)) hx hb hr (k_nz (Or.inr rfl)) d_X10_add_122 hlocks hP hK hD hS ⟨(Or.inr rfl), ⟨i0, kp⟩⟩
            · -- not taken at 52
              refine lv_aload_n hx hb d_X10_add_55 rfl (lv_at hl 0 rfl) ?_
              refine va_get (D := D) (ci := 10) (v := .ref (r 13)) (C := "LinkedUnits$Tokens") (T := TX10) (N := 10) hx hb hg iwX10 hown hK hP 1 rfl rfl 5 (by decide) (hg _ m_48) (fun _ h9 => h9) rfl d_X10_add_56 ?_
              refine lv_aload_n hx hb d_X10_add_59 rfl (lv_at hl 0 rfl) ?_
              refine va_get (D := D) (ci := 10) (v := .int (σ0 2 4)) (C := "LinkedUnits$Tokens") (T := TX10) (N := 10) hx hb hg iwX10 hown hK hP 1 rfl rfl 4 (by decide) (hg _ m_46) (fun _ h9 => h9) rfl d_X10_add_60 ?_
              refine lv_iload_n hx hb d_X10_add_63 rfl (lv_at hl 1 rfl) ?_
              refine va_iast hx hb hK hP hD hS 12 1 rfl rfl (k_in (n := 16002) (by decide) c_4 c_52) d_X10_add_64 (fun H locs hP hD hS => ?_)
              have hP : va_P D vwCl (wB cy r (upF σ0 13 (upd (σ0 13) ((σ0 2 4)).toNatClampNeg a1))) H := hP
              have hD : va_D A (wB cy r (upF σ0 13 (upd (σ0 13) ((σ0 2 4)).toNatClampNeg a1))) := hD
              have kp : Keep [(2, 2), (2, 4)] [13, 14, 15, 16] σ0 (upF σ0 13 (upd (σ0 13) ((σ0 2 4)).toNatClampNeg a1)) := keep_a kp (by decide)
              refine lv_aload_n hx hb d_X10_add_65 rfl (lv_at hl 0 rfl) ?_
              refine va_get (D := D) (ci := 10) (v := .ref (r 14)) (C := "LinkedUnits$Tokens") (T := TX10) (N := 10) hx hb hg iwX10 hown hK hP 1 rfl rfl 6 (by decide) (hg _ m_52) (fun _ h9 => h9) rfl d_X10_add_66 ?_
              refine lv_aload_n hx hb d_X10_add_69 rfl (lv_at hl 0 rfl) ?_
              refine va_get (D := D) (ci := 10) (v := .int (σ0 2 4)) (C := "LinkedUnits$Tokens") (T := TX10) (N := 10) hx hb hg iwX10 hown hK hP 1 rfl rfl 4 (by decide) (hg _ m_46) (fun _ h9 => h9) rfl d_X10_add_70 ?_
              refine lv_iload_n hx hb d_X10_add_73 rfl (lv_at hl 2 rfl) ?_
              refine va_iast hx hb hK hP hD hS 13 1 rfl rfl (k_in (n := 16002) (by decide) c_4 c_52) d_X10_add_74 (fun H locs hP hD hS => ?_)
              have hP : va_P D vwCl (wB cy r (upF (upF σ0 13 (upd (σ0 13) ((σ0 2 4)).toNatClampNeg a1)) 14 (upd ((upF σ0 13 (upd (σ0 13) ((σ0 2 4)).toNatClampNeg a1)) 14) ((σ0 2 4)).toNatClampNeg a2))) H := hP
              have hD : va_D A (wB cy r (upF (upF σ0 13 (upd (σ0 13) ((σ0 2 4)).toNatClampNeg a1)) 14 (upd ((upF σ0 13 (upd (σ0 13) ((σ0 2 4)).toNatClampNeg a1)) 14) ((σ0 2 4)).toNatClampNeg a2))) := hD
              have kp : Keep [(2, 2), (2, 4)] [13, 14, 15, 16] σ0 (upF (upF σ0 13 (upd (σ0 13) ((σ0 2 4)).toNatClampNeg a1)) 14 (upd ((upF σ0 13 (upd (σ0 13) ((σ0 2 4)).toNatClampNeg a1)) 14) ((σ0 2 4)).toNatClampNeg a2)) := keep_a kp (by decide)
              refine lv_aload_n hx hb d_X10_add_75 rfl (lv_at hl 0 rfl) ?_
              refine va_get (D := D) (ci := 10) (v := .ref (r 15)) (C := "LinkedUnits$Tokens") (T := TX10) (N := 10) hx hb hg iwX10 hown hK hP 1 rfl rfl 7 (by decide) (hg _ m_56) (fun _ h9 => h9) rfl d_X10_add_76 ?_
              refine lv_aload_n hx hb d_X10_add_79 rfl (lv_at hl 0 rfl) ?_
              refine va_get (D := D) (ci := 10) (v := .int (σ0 2 4)) (C := "LinkedUnits$Tokens") (T := TX10) (N := 10) hx hb hg iwX10 hown hK hP 1 rfl rfl 4 (by decide) (hg _ m_46) (fun _ h9 => h9) rfl d_X10_add_80 ?_
              refine lv_aload_n hx hb d_X10_add_83 rfl (lv_at hl 0 rfl) ?_
              refine va_get (D := D) (ci := 10) (v := .int (σ0 2 2)) (C := "LinkedUnits$Tokens") (T := TX10) (N := 10) hx hb hg iwX10 hown hK hP 1 rfl rfl 2 (by decide) (hg _ m_44) (fun _ h9 => h9) rfl d_X10_add_84 ?_
              refine va_iast hx hb hK hP hD hS 14 1 rfl rfl (k_in (n := 16002) (by decide) c_4 c_52) d_X10_add_87 (fun H locs hP hD hS => ?_)
              have hP : va_P D vwCl (wB cy r (upF (upF (upF σ0 13 (upd (σ0 13) ((σ0 2 4)).toNatClampNeg a1)) 14 (upd ((upF σ0 13 (upd (σ0 13) ((σ0 2 4)).toNatClampNeg a1)) 14) ((σ0 2 4)).toNatClampNeg a2)) 15 (upd ((upF (upF σ0 13 (upd (σ0 13) ((σ0 2 4)).toNatClampNeg a1)) 14 (upd ((upF σ0 13 (upd (σ0 13) ((σ0 2 4)).toNatClampNeg a1)) 14) ((σ0 2 4)).toNatClampNeg a2)) 15) ((σ0 2 4)).toNatClampNeg (σ0 2 2)))) H := hP
              have hD : va_D A (wB cy r (upF (upF (upF σ0 13 (upd (σ0 13) ((σ0 2 4)).toNatClampNeg a1)) 14 (upd ((upF σ0 13 (upd (σ0 13) ((σ0 2 4)).toNatClampNeg a1)) 14) ((σ0 2 4)).toNatClampNeg a2)) 15 (upd ((upF (upF σ0 13 (upd (σ0 13) ((σ0 2 4)).toNatClampNeg a1)) 14 (upd ((upF σ0 13 (upd (σ0 13) ((σ0 2 4)).toNatClampNeg a1)) 14) ((σ0 2 4)).toNatClampNeg a2)) 15) ((σ0 2 4)).toNatClampNeg (σ0 2 2)))) := hD
              have kp : Keep [(2, 2), (2, 4)] [13, 14, 15, 16] σ0 (upF (upF (upF σ0 13 (upd (σ0 13) ((σ0 2 4)).toNatClampNeg a1)) 14 (upd ((upF σ0 13 (upd (σ0 13) ((σ0 2 4)).toNatClampNeg a1)) 14) ((σ0 2 4)).toNatClampNeg a2)) 15 (upd ((upF (upF σ0 13 (upd (σ0 13) ((σ0 2 4)).toNatClampNeg a1)) 14 (upd ((upF σ0 13 (upd (σ0 13) ((σ0 2 4)).toNatClampNeg a1)) 14) ((σ0 2 4)).toNatClampNeg a2)) 15) ((σ0 2 4)).toNatClampNeg (σ0 2 2))) := keep_a kp (by decide)
              refine lv_aload_n hx hb d_X10_add_88 rfl (lv_at hl 0 rfl) ?_
              refine va_get (D := D) (ci := 10) (v := .ref (r 16)) (C := "LinkedUnits$Tokens") (T := TX10) (N := 10) hx hb hg iwX10 hown hK hP 1 rfl rfl 8 (by decide) (hg _ m_59) (fun _ h9 => h9) rfl d_X10_add_89 ?_
              refine lv_aload_n hx hb d_X10_add_92 rfl (lv_at hl 0 rfl) ?_
              refine va_get (D := D) (ci := 10) (v := .int (σ0 2 4)) (C := "LinkedUnits$Tokens") (T := TX10) (N := 10) hx hb hg iwX10 hown hK hP 1 rfl rfl 4 (by decide) (hg _ m_46) (fun _ h9 => h9) rfl d_X10_add_93 ?_
              refine lv_aload_n hx hb d_X10_add_96 rfl (lv_at hl 0 rfl) ?_
              refine va_get (D := D) (ci := 10) (v := .int (σ0 2 3)) (C := "LinkedUnits$Tokens") (T := TX10) (N := 10) hx hb hg iwX10 hown hK hP 1 rfl rfl 3 (by decide) (hg _ m_45) (fun _ h9 => h9) rfl d_X10_add_97 ?_
              refine va_iast hx hb hK hP hD hS 15 1 rfl rfl (k_in (n := 16002) (by decide) c_4 c_52) d_X10_add_100 (fun H locs hP hD hS => ?_)
              have hP : va_P D vwCl (wB cy r (upF (upF (upF (upF σ0 13 (upd (σ0 13) ((σ0 2 4)).toNatClampNeg a1)) 14 (upd ((upF σ0 13 (upd (σ0 13) ((σ0 2 4)).toNatClampNeg a1)) 14) ((σ0 2 4)).toNatClampNeg a2)) 15 (upd ((upF (upF σ0 13 (upd (σ0 13) ((σ0 2 4)).toNatClampNeg a1)) 14 (upd ((upF σ0 13 (upd (σ0 13) ((σ0 2 4)).toNatClampNeg a1)) 14) ((σ0 2 4)).toNatClampNeg a2)) 15) ((σ0 2 4)).toNatClampNeg (σ0 2 2))) 16 (upd ((upF (upF (upF σ0 13 (upd (σ0 13) ((σ0 2 4)).toNatClampNeg a1)) 14 (upd ((upF σ0 13 (upd (σ0 13) ((σ0 2 4)).toNatClampNeg a1)) 14) ((σ0 2 4)).toNatClampNeg a2)) 15 (upd ((upF (upF σ0 13 (upd (σ0 13) ((σ0 2 4)).toNatClampNeg a1)) 14 (upd ((upF σ0 13 (upd (σ0 13) ((σ0 2 4)).toNatClampNeg a1)) 14) ((σ0 2 4)).toNatClampNeg a2)) 15) ((σ0 2 4)).toNatClampNeg (σ0 2 2))) 16) ((σ0 2 4)).toNatClampNeg (σ0 2 3)))) H := hP
              have hD : va_D A (wB cy r (upF (upF (upF (upF σ0 13 (upd (σ0 13) ((σ0 2 4)).toNatClampNeg a1)) 14 (upd ((upF σ0 13 (upd (σ0 13) ((σ0 2 4)).toNatClampNeg a1)) 14) ((σ0 2 4)).toNatClampNeg a2)) 15 (upd ((upF (upF σ0 13 (upd (σ0 13) ((σ0 2 4)).toNatClampNeg a1)) 14 (upd ((upF σ0 13 (upd (σ0 13) ((σ0 2 4)).toNatClampNeg a1)) 14) ((σ0 2 4)).toNatClampNeg a2)) 15) ((σ0 2 4)).toNatClampNeg (σ0 2 2))) 16 (upd ((upF (upF (upF σ0 13 (upd (σ0 13) ((σ0 2 4)).toNatClampNeg a1)) 14 (upd ((upF σ0 13 (upd (σ0 13) ((σ0 2 4)).toNatClampNeg a1)) 14) ((σ0 2 4)).toNatClampNeg a2)) 15 (upd ((upF (upF σ0 13 (upd (σ0 13) ((σ0 2 4)).toNatClampNeg a1)) 14 (upd ((upF σ0 13 (upd (σ0 13) ((σ0 2 4)).toNatClampNeg a1)) 14) ((σ0 2 4)).toNatClampNeg a2)) 15) ((σ0 2 4)).toNatClampNeg (σ0 2 2))) 16) ((σ0 2 4)).toNatClampNeg (σ0 2 3)))) := hD
              have kp : Keep [(2, 2), (2, 4)] [13, 14, 15, 16] σ0 (upF (upF (upF (upF σ0 13 (upd (σ0 13) ((σ0 2 4)).toNatClampNeg a1)) 14 (upd ((upF σ0 13 (upd (σ0 13) ((σ0 2 4)).toNatClampNeg a1)) 14) ((σ0 2 4)).toNatClampNeg a2)) 15 (upd ((upF (upF σ0 13 (upd (σ0 13) ((σ0 2 4)).toNatClampNeg a1)) 14 (upd ((upF σ0 13 (upd (σ0 13) ((σ0 2 4)).toNatClampNeg a1)) 14) ((σ0 2 4)).toNatClampNeg a2)) 15) ((σ0 2 4)).toNatClampNeg (σ0 2 2))) 16 (upd ((upF (upF (upF σ0 13 (upd (σ0 13) ((σ0 2 4)).toNatClampNeg a1)) 14 (upd ((upF σ0 13 (upd (σ0 13) ((σ0 2 4)).toNatClampNeg a1)) 14) ((σ0 2 4)).toNatClampNeg a2)) 15 (upd ((upF (upF σ0 13 (upd (σ0 13) ((σ0 2 4)).toNatClampNeg a1)) 14 (upd ((upF σ0 13 (upd (σ0 13) ((σ0 2 4)).toNatClampNeg a1)) 14) ((σ0 2 4)).toNatClampNeg a2)) 15) ((σ0 2 4)).toNatClampNeg (σ0 2 2))) 16) ((σ0 2 4)).toNatClampNeg (σ0 2 3))) := keep_a kp (by decide)
              refine lv_aload_n hx hb d_X10_add_101 rfl (lv_at hl 0 rfl) ?_
              refine lv_dup hx hb d_X10_add_102 rfl ?_
              refine va_get (D := D) (ci := 10) (v := .int (σ0 2 4)) (C := "LinkedUnits$Tokens") (T := TX10) (N := 10) hx hb hg iwX10 hown hK hP 1 rfl rfl 4 (by decide) (hg _ m_46) (fun _ h9 => h9) rfl d_X10_add_103 ?_
              refine lv_iconst (v := 1) hx hb d_X10_add_106 (by decide) ?_
              refine lv_iadd hx hb d_X10_add_107 ?_
              refine va_put (D := D) (ci := 10) (v := .int ((σ0 2 4) + 1)) (ty := .int) (C := "LinkedUnits$Tokens") (T := TX10) (N := 10) hx hb hg iwX10 tyX10 tyX10_ok nmX10 hown hK hP hD hS 1 rfl rfl 4 (by decide) (hg _ m_46) (fun _ h9 => h9) rfl (by decide +kernel) rfl rfl (Nat.le_of_ble_eq_true rfl) d_X10_add_108 (fun H locs hP hD hS => ?_)
              have hP : va_P D vwCl (wB cy r (upC (upF (upF (upF (upF σ0 13 (upd (σ0 13) ((σ0 2 4)).toNatClampNeg a1)) 14 (upd ((upF σ0 13 (upd (σ0 13) ((σ0 2 4)).toNatClampNeg a1)) 14) ((σ0 2 4)).toNatClampNeg a2)) 15 (upd ((upF (upF σ0 13 (upd (σ0 13) ((σ0 2 4)).toNatClampNeg a1)) 14 (upd ((upF σ0 13 (upd (σ0 13) ((σ0 2 4)).toNatClampNeg a1)) 14) ((σ0 2 4)).toNatClampNeg a2)) 15) ((σ0 2 4)).toNatClampNeg (σ0 2 2))) 16 (upd ((upF (upF (upF σ0 13 (upd (σ0 13) ((σ0 2 4)).toNatClampNeg a1)) 14 (upd ((upF σ0 13 (upd (σ0 13) ((σ0 2 4)).toNatClampNeg a1)) 14) ((σ0 2 4)).toNatClampNeg a2)) 15 (upd ((upF (upF σ0 13 (upd (σ0 13) ((σ0 2 4)).toNatClampNeg a1)) 14 (upd ((upF σ0 13 (upd (σ0 13) ((σ0 2 4)).toNatClampNeg a1)) 14) ((σ0 2 4)).toNatClampNeg a2)) 15) ((σ0 2 4)).toNatClampNeg (σ0 2 2))) 16) ((σ0 2 4)).toNatClampNeg (σ0 2 3))) 2 4 ((σ0 2 4) + 1))) H := hP
              have hD : va_D A (wB cy r (upC (upF (upF (upF (upF σ0 13 (upd (σ0 13) ((σ0 2 4)).toNatClampNeg a1)) 14 (upd ((upF σ0 13 (upd (σ0 13) ((σ0 2 4)).toNatClampNeg a1)) 14) ((σ0 2 4)).toNatClampNeg a2)) 15 (upd ((upF (upF σ0 13 (upd (σ0 13) ((σ0 2 4)).toNatClampNeg a1)) 14 (upd ((upF σ0 13 (upd (σ0 13) ((σ0 2 4)).toNatClampNeg a1)) 14) ((σ0 2 4)).toNatClampNeg a2)) 15) ((σ0 2 4)).toNatClampNeg (σ0 2 2))) 16 (upd ((upF (upF (upF σ0 13 (upd (σ0 13) ((σ0 2 4)).toNatClampNeg a1)) 14 (upd ((upF σ0 13 (upd (σ0 13) ((σ0 2 4)).toNatClampNeg a1)) 14) ((σ0 2 4)).toNatClampNeg a2)) 15 (upd ((upF (upF σ0 13 (upd (σ0 13) ((σ0 2 4)).toNatClampNeg a1)) 14 (upd ((upF σ0 13 (upd (σ0 13) ((σ0 2 4)).toNatClampNeg a1)) 14) ((σ0 2 4)).toNatClampNeg a2)) 15) ((σ0 2 4)).toNatClampNeg (σ0 2 2))) 16) ((σ0 2 4)).toNatClampNeg (σ0 2 3))) 2 4 ((σ0 2 4) + 1))) := hD
              have kp : Keep [(2, 2), (2, 4)] [13, 14, 15, 16] σ0 (upC (upF (upF (upF (upF σ0 13 (upd (σ0 13) ((σ0 2 4)).toNatClampNeg a1)) 14 (upd ((upF σ0 13 (upd (σ0 13) ((σ0 2 4)).toNatClampNeg a1)) 14) ((σ0 2 4)).toNatClampNeg a2)) 15 (upd ((upF (upF σ0 13 (upd (σ0 13) ((σ0 2 4)).toNatClampNeg a1)) 14 (upd ((upF σ0 13 (upd (σ0 13) ((σ0 2 4)).toNatClampNeg a1)) 14) ((σ0 2 4)).toNatClampNeg a2)) 15) ((σ0 2 4)).toNatClampNeg (σ0 2 2))) 16 (upd ((upF (upF (upF σ0 13 (upd (σ0 13) ((σ0 2 4)).toNatClampNeg a1)) 14 (upd ((upF σ0 13 (upd (σ0 13) ((σ0 2 4)).toNatClampNeg a1)) 14) ((σ0 2 4)).toNatClampNeg a2)) 15 (upd ((upF (upF σ0 13 (upd (σ0 13) ((σ0 2 4)).toNatClampNeg a1)) 14 (upd ((upF σ0 13 (upd (σ0 13) ((σ0 2 4)).toNatClampNeg a1)) 14) ((σ0 2 4)).toNatClampNeg a2)) 15) ((σ0 2 4)).toNatClampNeg (σ0 2 2))) 16) ((σ0 2 4)).toNatClampNeg (σ0 2 3))) 2 4 ((σ0 2 4) + 1)) := keep_f kp (by decide)
              refine lv_aload_n hx hb d_X10_add_111 rfl (lv_at hl 0 rfl) ?_
              refine lv_dup hx hb d_X10_add_112 rfl ?_
              refine va_get (D := D) (ci := 10) (v := .int (σ0 2 2)) (C := "LinkedUnits$Tokens") (T := TX10) (N := 10) hx hb hg iwX10 hown hK hP 1 rfl rfl 2 (by decide) (hg _ m_44) (fun _ h9 => h9) rfl d_X10_add_113 ?_
              refine lv_iload_n hx hb d_X10_add_116 rfl (lv_at hl 3 rfl) ?_
              refine lv_iadd hx hb d_X10_add_117 ?_
              refine va_put (D := D) (ci := 10) (v := .int ((σ0 2 2) + a3)) (ty := .int) (C := "LinkedUnits$Tokens") (T := TX10) (N := 10) hx hb hg iwX10 tyX10 tyX10_ok nmX10 hown hK hP hD hS 1 rfl rfl 2 (by decide) (hg _ m_44) (fun _ h9 => h9) rfl (by decide +kernel) rfl rfl (Nat.le_of_ble_eq_true rfl) d_X10_add_118 (fun H locs hP hD hS => ?_)
              have hP : va_P D vwCl (wB cy r (upC (upC (upF (upF (upF (upF σ0 13 (upd (σ0 13) ((σ0 2 4)).toNatClampNeg a1)) 14 (upd ((upF σ0 13 (upd (σ0 13) ((σ0 2 4)).toNatClampNeg a1)) 14) ((σ0 2 4)).toNatClampNeg a2)) 15 (upd ((upF (upF σ0 13 (upd (σ0 13) ((σ0 2 4)).toNatClampNeg a1)) 14 (upd ((upF σ0 13 (upd (σ0 13) ((σ0 2 4)).toNatClampNeg a1)) 14) ((σ0 2 4)).toNatClampNeg a2)) 15) ((σ0 2 4)).toNatClampNeg (σ0 2 2))) 16 (upd ((upF (upF (upF σ0 13 (upd (σ0 13) ((σ0 2 4)).toNatClampNeg a1)) 14 (upd ((upF σ0 13 (upd (σ0 13) ((σ0 2 4)).toNatClampNeg a1)) 14) ((σ0 2 4)).toNatClampNeg a2)) 15 (upd ((upF (upF σ0 13 (upd (σ0 13) ((σ0 2 4)).toNatClampNeg a1)) 14 (upd ((upF σ0 13 (upd (σ0 13) ((σ0 2 4)).toNatClampNeg a1)) 14) ((σ0 2 4)).toNatClampNeg a2)) 15) ((σ0 2 4)).toNatClampNeg (σ0 2 2))) 16) ((σ0 2 4)).toNatClampNeg (σ0 2 3))) 2 4 ((σ0 2 4) + 1)) 2 2 ((σ0 2 2) + a3))) H := hP
              have hD : va_D A (wB cy r (upC (upC (upF (upF (upF (upF σ0 13 (upd (σ0 13) ((σ0 2 4)).toNatClampNeg a1)) 14 (upd ((upF σ0 13 (upd (σ0 13) ((σ0 2 4)).toNatClampNeg a1)) 14) ((σ0 2 4)).toNatClampNeg a2)) 15 (upd ((upF (upF σ0 13 (upd (σ0 13) ((σ0 2 4)).toNatClampNeg a1)) 14 (upd ((upF σ0 13 (upd (σ0 13) ((σ0 2 4)).toNatClampNeg a1)) 14) ((σ0 2 4)).toNatClampNeg a2)) 15) ((σ0 2 4)).toNatClampNeg (σ0 2 2))) 16 (upd ((upF (upF (upF σ0 13 (upd (σ0 13) ((σ0 2 4)).toNatClampNeg a1)) 14 (upd ((upF σ0 13 (upd (σ0 13) ((σ0 2 4)).toNatClampNeg a1)) 14) ((σ0 2 4)).toNatClampNeg a2)) 15 (upd ((upF (upF σ0 13 (upd (σ0 13) ((σ0 2 4)).toNatClampNeg a1)) 14 (upd ((upF σ0 13 (upd (σ0 13) ((σ0 2 4)).toNatClampNeg a1)) 14) ((σ0 2 4)).toNatClampNeg a2)) 15) ((σ0 2 4)).toNatClampNeg (σ0 2 2))) 16) ((σ0 2 4)).toNatClampNeg (σ0 2 3))) 2 4 ((σ0 2 4) + 1)) 2 2 ((σ0 2 2) + a3))) := hD
              have kp : Keep [(2, 2), (2, 4)] [13, 14, 15, 16] σ0 (upC (upC (upF (upF (upF (upF σ0 13 (upd (σ0 13) ((σ0 2 4)).toNatClampNeg a1)) 14 (upd ((upF σ0 13 (upd (σ0 13) ((σ0 2 4)).toNatClampNeg a1)) 14) ((σ0 2 4)).toNatClampNeg a2)) 15 (upd ((upF (upF σ0 13 (upd (σ0 13) ((σ0 2 4)).toNatClampNeg a1)) 14 (upd ((upF σ0 13 (upd (σ0 13) ((σ0 2 4)).toNatClampNeg a1)) 14) ((σ0 2 4)).toNatClampNeg a2)) 15) ((σ0 2 4)).toNatClampNeg (σ0 2 2))) 16 (upd ((upF (upF (upF σ0 13 (upd (σ0 13) ((σ0 2 4)).toNatClampNeg a1)) 14 (upd ((upF σ0 13 (upd (σ0 13) ((σ0 2 4)).toNatClampNeg a1)) 14) ((σ0 2 4)).toNatClampNeg a2)) 15 (upd ((upF (upF σ0 13 (upd (σ0 13) ((σ0 2 4)).toNatClampNeg a1)) 14 (upd ((upF σ0 13 (upd (σ0 13) ((σ0 2 4)).toNatClampNeg a1)) 14) ((σ0 2 4)).toNatClampNeg a2)) 15) ((σ0 2 4)).toNatClampNeg (σ0 2 2))) 16) ((σ0 2 4)).toNatClampNeg (σ0 2 3))) 2 4 ((σ0 2 4) + 1)) 2 2 ((σ0 2 2) + a3)) := keep_f kp (by decide)
              refine lv_iconst (v := 1) hx hb d_X10_add_121 (by decide) ?_
              refine W.widen (k := 0) (n := 0) (Nat.le_of_ble_eq_true rfl) (Nat.le_of_ble_eq_true rfl) ?_
              exact k_zret (X := St) (w1 := fun τ => wB cy r τ) (upC (upC (upF (upF (upF (upF σ0 13 (upd (σ0 13) ((σ0 2 4)).toNatClampNeg a1)) 14 (upd ((upF σ0 13 (upd (σ0 13) ((σ0 2 4)).toNatClampNeg a1)) 14) ((σ0 2 4)).toNatClampNeg a2)) 15 (upd ((upF (upF σ0 13 (upd (σ0 13) ((σ0 2 4)).toNatClampNeg a1)) 14 (upd ((upF σ0 13 (upd (σ0 13) ((σ0 2 4)).toNatClampNeg a1)) 14) ((σ0 2 4)).toNatClampNeg a2)) 15) ((σ0 2 4)).toNatClampNeg (σ0 2 2))) 16 (upd ((upF (upF (upF σ0 13 (upd (σ0 13) ((σ0 2 4)).toNatClampNeg a1)) 14 (upd ((upF σ0 13 (upd (σ0 13) ((σ0 2 4)).toNatClampNeg a1)) 14) ((σ0 2 4)).toNatClampNeg a2)) 15 (upd ((upF (upF σ0 13 (upd (σ0 13) ((σ0 2 4)).toNatClampNeg a1)) 14 (upd ((upF σ0 13 (upd (σ0 13) ((σ0 2 4)).toNatClampNeg a1)) 14) ((σ0 2 4)).toNatClampNeg a2)) 15) ((σ0 2 4)).toNatClampNeg (σ0 2 2))) 16) ((σ0 2 4)).toNatClampNeg (σ0 2 3))) 2 4 ((σ0 2 4) + 1)) 2 2 ((σ0 2 2) + a3)) hx hb hr (k_nz (Or.inr rfl)) d_X10_add_122 hlocks hP hK hD hS ⟨(Or.inr rfl), ⟨i0, kp⟩⟩
  rw [hH] at hgoal
  exact hgoal
set_option maxHeartbeats 4000000 in
set_option maxRecDepth 100000 in
theorem s_X10_isLetter (l : Launch) (D : va_G) (cy : Nat → ClassId) (sz : Nat) (a0 : Int32) : Met l y_X10_isLetter (Cond.code y_X10_isLetter b_X10_isLetter 1 (some .boolean) :: GW) ({ frames := 0, cells := 0, slots := 0, locals := 0 } : Room) (va_Pc [.int a0] (kPre D cy sz [])) ((fun A : Nat → Prop => va_Qi (S := Unit) (fun (v9 : Int32) (_ : Unit) => (v9 = 0 ∨ v9 = 1) ∧ True) (fun _ => kPost D cy A []) A) (va_A [] sz)) 0 0 (va_A [] sz) := by
  refine k_ofW (Qc := fun A => va_Qi (S := Unit) (fun (v9 : Int32) (_ : Unit) => (v9 = 0 ∨ v9 = 1) ∧ True) (fun _ => kPost D cy A []) A) (by decide) (Nat.le_of_ble_eq_true rfl) ?_
  intro p e s m below meth c A ls hx hb hr hml hown hlocks hin hg hNW hK hP hD hA hS hl
  have hl : lv_has ls 1 [(0, .int a0)] := hl
  have hown : s.vm.findClass "LinkedUnits$Tokens" = some m.cls := hown
  obtain ⟨H, hH⟩ : ∃ H, H = s.heap := ⟨_, rfl⟩
  rw [← hH] at hP
  have hS : va_S A s.heap H [] := by rw [hH]; exact va_S.rf
  have hgoal : W p l e ({ frames := 0, cells := 0, slots := 0, locals := 0 } : Room) s m (([.int a0] : List Value).toArray) below meth c H [] 0 0 (MQ below (va_Qi (S := Unit) (fun (v9 : Int32) (_ : Unit) => (v9 = 0 ∨ v9 = 1) ∧ True) (fun _ => kPost D cy A []) A) (([.int a0] : List Value).toArray) s 0 0 A) (F0 m 0 ls []) := by
    refine lv_iload_n hx hb d_X10_isLetter_0 rfl (lv_at hl 0 rfl) ?_
    refine lv_bipush (v := 97) hx hb d_X10_isLetter_1 (by decide) ?_
    refine lv_icmp_lt (tgt := 12) hx hb d_X10_isLetter_3 (by decide) (fun c_3 => ?_) (fun c_3 => ?_)
    · -- taken at 3
      refine lv_iload_n hx hb d_X10_isLetter_12 rfl (lv_at hl 0 rfl) ?_
      refine lv_bipush (v := 65) hx hb d_X10_isLetter_13 (by decide) ?_
      refine lv_icmp_lt (tgt := 24) hx hb d_X10_isLetter_15 (by decide) (fun c_15 => ?_) (fun c_15 => ?_)
      · -- taken at 15
        refine lv_iload_n hx hb d_X10_isLetter_24 rfl (lv_at hl 0 rfl) ?_
        refine lv_bipush (v := 95) hx hb d_X10_isLetter_25 (by decide) ?_
        refine lv_icmp_ne (tgt := 34) hx hb d_X10_isLetter_27 (by decide) (fun c_27 => ?_) (fun c_27 => ?_)
        · -- taken at 27
          refine lv_iconst (v := 0) hx hb d_X10_isLetter_34 (by decide) ?_
          refine W.widen (k := 0) (n := 0) (Nat.le_of_ble_eq_true rfl) (Nat.le_of_ble_eq_true rfl) ?_
          exact k_zret (X := Unit) (w1 := fun _ => []) () hx hb hr (k_nz (Or.inl rfl)) d_X10_isLetter_35 hlocks hP hK hD hS ⟨(Or.inl rfl), trivial⟩
        · -- not taken at 27
          refine lv_iconst (v := 1) hx hb d_X10_isLetter_30 (by decide) ?_
          refine lv_goto (tgt := 35) hx hb d_X10_isLetter_31 (by decide) ?_
          refine W.widen (k := 0) (n := 0) (Nat.le_of_ble_eq_true rfl) (Nat.le_of_ble_eq_true rfl) ?_
          exact k_zret (X := Unit) (w1 := fun _ => []) () hx hb hr (k_nz (Or.inr rfl)) d_X10_isLetter_35 hlocks hP hK hD hS ⟨(Or.inr rfl), trivial⟩
      · -- not taken at 15
        refine lv_iload_n hx hb d_X10_isLetter_18 rfl (lv_at hl 0 rfl) ?_
        refine lv_bipush (v := 90) hx hb d_X10_isLetter_19 (by decide) ?_
        refine lv_icmp_le (tgt := 30) hx hb d_X10_isLetter_21 (by decide) (fun c_21 => ?_) (fun c_21 => ?_)
        · -- taken at 21
          refine lv_iconst (v := 1) hx hb d_X10_isLetter_30 (by decide) ?_
          refine lv_goto (tgt := 35) hx hb d_X10_isLetter_31 (by decide) ?_
          refine W.widen (k := 0) (n := 0) (Nat.le_of_ble_eq_true rfl) (Nat.le_of_ble_eq_true rfl) ?_
          exact k_zret (X := Unit) (w1 := fun _ => []) () hx hb hr (k_nz (Or.inr rfl)) d_X10_isLetter_35 hlocks hP hK hD hS ⟨(Or.inr rfl), trivial⟩
        · -- not taken at 21
          refine lv_iload_n hx hb d_X10_isLetter_24 rfl (lv_at hl 0 rfl) ?_
          refine lv_bipush (v := 95) hx hb d_X10_isLetter_25 (by decide) ?_
          refine lv_icmp_ne (tgt := 34) hx hb d_X10_isLetter_27 (by decide) (fun c_27 => ?_) (fun c_27 => ?_)
          · -- taken at 27
            refine lv_iconst (v := 0) hx hb d_X10_isLetter_34 (by decide) ?_
            refine W.widen (k := 0) (n := 0) (Nat.le_of_ble_eq_true rfl) (Nat.le_of_ble_eq_true rfl) ?_
            exact k_zret (X := Unit) (w1 := fun _ => []) () hx hb hr (k_nz (Or.inl rfl)) d_X10_isLetter_35 hlocks hP hK hD hS ⟨(Or.inl rfl), trivial⟩
          · -- not taken at 27
            refine lv_iconst (v := 1) hx hb d_X10_isLetter_30 (by decide) ?_
            refine lv_goto (tgt := 35) hx hb d_X10_isLetter_31 (by decide) ?_
            refine W.widen (k := 0) (n := 0) (Nat.le_of_ble_eq_true rfl) (Nat.le_of_ble_eq_true rfl) ?_
            exact k_zret (X := Unit) (w1 := fun _ => []) () hx hb hr (k_nz (Or.inr rfl)) d_X10_isLetter_35 hlocks hP hK hD hS ⟨(Or.inr rfl), trivial⟩
    · -- not taken at 3
      refine lv_iload_n hx hb d_X10_isLetter_6 rfl (lv_at hl 0 rfl) ?_
      refine lv_bipush (v := 122) hx hb d_X10_isLetter_7 (by decide) ?_
      refine lv_icmp_le (tgt := 30) hx hb d_X10_isLetter_9 (by decide) (fun c_9 => ?_) (fun c_9 => ?_)
      · -- taken at 9
        refine lv_iconst (v := 1) hx hb d_X10_isLetter_30 (by decide) ?_
        refine lv_goto (tgt := 35) hx hb d_X10_isLetter_31 (by decide) ?_
        refine W.widen (k := 0) (n := 0) (Nat.le_of_ble_eq_true rfl) (Nat.le_of_ble_eq_true rfl) ?_
        exact k_zret (X := Unit) (w1 := fun _ => []) () hx hb hr (k_nz (Or.inr rfl)) d_X10_isLetter_35 hlocks hP hK hD hS ⟨(Or.inr rfl), trivial⟩
      · -- not taken at 9
        refine lv_iload_n hx hb d_X10_isLetter_12 rfl (lv_at hl 0 rfl) ?_
        refine lv_bipush (v := 65) hx hb d_X10_isLetter_13 (by decide) ?_
        refine lv_icmp_lt (tgt := 24) hx hb d_X10_isLetter_15 (by decide) (fun c_15 => ?_) (fun c_15 => ?_)
        · -- taken at 15
          refine lv_iload_n hx hb d_X10_isLetter_24 rfl (lv_at hl 0 rfl) ?_
          refine lv_bipush (v := 95) hx hb d_X10_isLetter_25 (by decide) ?_
          refine lv_icmp_ne (tgt := 34) hx hb d_X10_isLetter_27 (by decide) (fun c_27 => ?_) (fun c_27 => ?_)
          · -- taken at 27
            refine lv_iconst (v := 0) hx hb d_X10_isLetter_34 (by decide) ?_
            refine W.widen (k := 0) (n := 0) (Nat.le_of_ble_eq_true rfl) (Nat.le_of_ble_eq_true rfl) ?_
            exact k_zret (X := Unit) (w1 := fun _ => []) () hx hb hr (k_nz (Or.inl rfl)) d_X10_isLetter_35 hlocks hP hK hD hS ⟨(Or.inl rfl), trivial⟩
          · -- not taken at 27
            refine lv_iconst (v := 1) hx hb d_X10_isLetter_30 (by decide) ?_
            refine lv_goto (tgt := 35) hx hb d_X10_isLetter_31 (by decide) ?_
            refine W.widen (k := 0) (n := 0) (Nat.le_of_ble_eq_true rfl) (Nat.le_of_ble_eq_true rfl) ?_
            exact k_zret (X := Unit) (w1 := fun _ => []) () hx hb hr (k_nz (Or.inr rfl)) d_X10_isLetter_35 hlocks hP hK hD hS ⟨(Or.inr rfl), trivial⟩
        · -- not taken at 15
          refine lv_iload_n hx hb d_X10_isLetter_18 rfl (lv_at hl 0 rfl) ?_
          refine lv_bipush (v := 90) hx hb d_X10_isLetter_19 (by decide) ?_
          refine lv_icmp_le (tgt := 30) hx hb d_X10_isLetter_21 (by decide) (fun c_21 => ?_) (fun c_21 => ?_)
          · -- taken at 21
            refine lv_iconst (v := 1) hx hb d_X10_isLetter_30 (by decide) ?_
            refine lv_goto (tgt := 35) hx hb d_X10_isLetter_31 (by decide) ?_
            refine W.widen (k := 0) (n := 0) (Nat.le_of_ble_eq_true rfl) (Nat.le_of_ble_eq_true rfl) ?_
            exact k_zret (X := Unit) (w1 := fun _ => []) () hx hb hr (k_nz (Or.inr rfl)) d_X10_isLetter_35 hlocks hP hK hD hS ⟨(Or.inr rfl), trivial⟩
          · -- not taken at 21
            refine lv_iload_n hx hb d_X10_isLetter_24 rfl (lv_at hl 0 rfl) ?_
            refine lv_bipush (v := 95) hx hb d_X10_isLetter_25 (by decide) ?_
            refine lv_icmp_ne (tgt := 34) hx hb d_X10_isLetter_27 (by decide) (fun c_27 => ?_) (fun c_27 => ?_)
            · -- taken at 27
              refine lv_iconst (v := 0) hx hb d_X10_isLetter_34 (by decide) ?_
              refine W.widen (k := 0) (n := 0) (Nat.le_of_ble_eq_true rfl) (Nat.le_of_ble_eq_true rfl) ?_
              exact k_zret (X := Unit) (w1 := fun _ => []) () hx hb hr (k_nz (Or.inl rfl)) d_X10_isLetter_35 hlocks hP hK hD hS ⟨(Or.inl rfl), trivial⟩
            · -- not taken at 27
              refine lv_iconst (v := 1) hx hb d_X10_isLetter_30 (by decide) ?_
              refine lv_goto (tgt := 35) hx hb d_X10_isLetter_31 (by decide) ?_
              refine W.widen (k := 0) (n := 0) (Nat.le_of_ble_eq_true rfl) (Nat.le_of_ble_eq_true rfl) ?_
              exact k_zret (X := Unit) (w1 := fun _ => []) () hx hb hr (k_nz (Or.inr rfl)) d_X10_isLetter_35 hlocks hP hK hD hS ⟨(Or.inr rfl), trivial⟩
  rw [hH] at hgoal
  exact hgoal
set_option maxHeartbeats 4000000 in
set_option maxRecDepth 100000 in
theorem s_X10_isDigit (l : Launch) (D : va_G) (cy : Nat → ClassId) (sz : Nat) (a0 : Int32) : Met l y_X10_isDigit (Cond.code y_X10_isDigit b_X10_isDigit 1 (some .boolean) :: GW) ({ frames := 0, cells := 0, slots := 0, locals := 0 } : Room) (va_Pc [.int a0] (kPre D cy sz [])) ((fun A : Nat → Prop => va_Qi (S := Unit) (fun (v9 : Int32) (_ : Unit) => (v9 = 0 ∨ v9 = 1) ∧ True) (fun _ => kPost D cy A []) A) (va_A [] sz)) 0 0 (va_A [] sz) := by
  refine k_ofW (Qc := fun A => va_Qi (S := Unit) (fun (v9 : Int32) (_ : Unit) => (v9 = 0 ∨ v9 = 1) ∧ True) (fun _ => kPost D cy A []) A) (by decide) (Nat.le_of_ble_eq_true rfl) ?_
  intro p e s m below meth c A ls hx hb hr hml hown hlocks hin hg hNW hK hP hD hA hS hl
  have hl : lv_has ls 1 [(0, .int a0)] := hl
  have hown : s.vm.findClass "LinkedUnits$Tokens" = some m.cls := hown
  obtain ⟨H, hH⟩ : ∃ H, H = s.heap := ⟨_, rfl⟩
  rw [← hH] at hP
  have hS : va_S A s.heap H [] := by rw [hH]; exact va_S.rf
  have hgoal : W p l e ({ frames := 0, cells := 0, slots := 0, locals := 0 } : Room) s m (([.int a0] : List Value).toArray) below meth c H [] 0 0 (MQ below (va_Qi (S := Unit) (fun (v9 : Int32) (_ : Unit) => (v9 = 0 ∨ v9 = 1) ∧ True) (fun _ => kPost D cy A []) A) (([.int a0] : List Value).toArray) s 0 0 A) (F0 m 0 ls []) := by
    refine lv_iload_n hx hb d_X10_isDigit_0 rfl (lv_at hl 0 rfl) ?_
    refine lv_bipush (v := 48) hx hb d_X10_isDigit_1 (by decide) ?_
    refine lv_icmp_lt (tgt := 16) hx hb d_X10_isDigit_3 (by decide) (fun c_3 => ?_) (fun c_3 => ?_)
    · -- taken at 3
      refine lv_iconst (v := 0) hx hb d_X10_isDigit_16 (by decide) ?_
      refine W.widen (k := 0) (n := 0) (Nat.le_of_ble_eq_true rfl) (Nat.le_of_ble_eq_true rfl) ?_
      exact k_zret (X := Unit) (w1 := fun _ => []) () hx hb hr (k_nz (Or.inl rfl)) d_X10_isDigit_17 hlocks hP hK hD hS ⟨(Or.inl rfl), trivial⟩
    · -- not taken at 3
      refine lv_iload_n hx hb d_X10_isDigit_6 rfl (lv_at hl 0 rfl) ?_
      refine lv_bipush (v := 57) hx hb d_X10_isDigit_7 (by decide) ?_
      refine lv_icmp_gt (tgt := 16) hx hb d_X10_isDigit_9 (by decide) (fun c_9 => ?_) (fun c_9 => ?_)
      · -- taken at 9
        refine lv_iconst (v := 0) hx hb d_X10_isDigit_16 (by decide) ?_
        refine W.widen (k := 0) (n := 0) (Nat.le_of_ble_eq_true rfl) (Nat.le_of_ble_eq_true rfl) ?_
        exact k_zret (X := Unit) (w1 := fun _ => []) () hx hb hr (k_nz (Or.inl rfl)) d_X10_isDigit_17 hlocks hP hK hD hS ⟨(Or.inl rfl), trivial⟩
      · -- not taken at 9
        refine lv_iconst (v := 1) hx hb d_X10_isDigit_12 (by decide) ?_
        refine lv_goto (tgt := 17) hx hb d_X10_isDigit_13 (by decide) ?_
        refine W.widen (k := 0) (n := 0) (Nat.le_of_ble_eq_true rfl) (Nat.le_of_ble_eq_true rfl) ?_
        exact k_zret (X := Unit) (w1 := fun _ => []) () hx hb hr (k_nz (Or.inr rfl)) d_X10_isDigit_17 hlocks hP hK hD hS ⟨(Or.inr rfl), trivial⟩
  rw [hH] at hgoal
  exact hgoal
set_option maxHeartbeats 4000000 in
set_option maxRecDepth 100000 in
theorem s_X10_sixteenth (l : Launch) (D : va_G) (cy : Nat → ClassId) (sz : Nat) (a0 : Int32) : Met l y_X10_sixteenth (Cond.code y_X10_sixteenth b_X10_sixteenth 1 (some .int) :: GW) ({ frames := 1, cells := 0, slots := 0, locals := 20 } : Room) (va_Pc [.int a0] (kPre D cy sz [])) ((fun A : Nat → Prop => va_Qi (S := Unit) (fun (_ : Int32) (_ : Unit) => True) (fun _ => kPost D cy A []) A) (va_A [] sz)) 0 0 (va_A [] sz) := by
  refine k_ofW (Qc := fun A => va_Qi (S := Unit) (fun (_ : Int32) (_ : Unit) => True) (fun _ => kPost D cy A []) A) (by decide) (Nat.le_of_ble_eq_true rfl) ?_
  intro p e s m below meth c A ls hx hb hr hml hown hlocks hin hg hNW hK hP hD hA hS hl
  have hl : lv_has ls 1 [(0, .int a0)] := hl
  have hown : s.vm.findClass "LinkedUnits$Tokens" = some m.cls := hown
  obtain ⟨H, hH⟩ : ∃ H, H = s.heap := ⟨_, rfl⟩
  rw [← hH] at hP
  have hS : va_S A s.heap H [] := by rw [hH]; exact va_S.rf
  have hgoal : W p l e ({ frames := 1, cells := 0, slots := 0, locals := 20 } : Room) s m (([.int a0] : List Value).toArray) below meth c H [] 0 0 (MQ below (va_Qi (S := Unit) (fun (_ : Int32) (_ : Unit) => True) (fun _ => kPost D cy A []) A) (([.int a0] : List Value).toArray) s 0 0 A) (F0 m 0 ls []) := by
    refine lv_iload_n hx hb d_X10_sixteenth_0 rfl (lv_at hl 0 rfl) ?_
    refine s_call0 (va_runS (As := [.int a0]) (rest := []) ⟨hx, hb, hml, hown, hg⟩ (s_X10_isDigit l D cy H.size a0 ) (cwS 1 hg (gw_S m_840 m_841 m_2 m_842) rfl rfl rfl (by decide +kernel) ⟨(Nat.le_of_ble_eq_true rfl), (Nat.le_of_ble_eq_true rfl)⟩) (s_pre (ws := []) (A := A) (fun k q h => by simp at h) ⟨fun i j p q h => by simp at h, fun k q h => by simp at h⟩ hK hNW) rfl rfl hl.1 rfl (lv_room (Nat.le_of_ble_eq_true rfl)) d_X10_sixteenth_1 ⟨(Nat.le_of_ble_eq_true rfl), (Nat.le_of_ble_eq_true rfl)⟩) hP hD hS hA (fun r1 u1 H locs hw hP hD hS => ?_)
    have hP : va_P D vwCl [] H := hP
    have hD : va_D A [] := hD
    have hz1 : r1 = 0 ∨ r1 = 1 := hw.1
    refine lv_if_eq (tgt := 12) hx hb d_X10_sixteenth_4 (by decide) (fun c_4 => ?_) (fun c_4 => ?_)
    · -- taken at 4
      refine lv_iload_n hx hb d_X10_sixteenth_12 rfl (lv_at hl 0 rfl) ?_
      refine lv_bipush (v := 97) hx hb d_X10_sixteenth_13 (by decide) ?_
      refine lv_icmp_lt (tgt := 32) hx hb d_X10_sixteenth_15 (by decide) (fun c_15 => ?_) (fun c_15 => ?_)
      · -- taken at 15
        refine lv_iload_n hx hb d_X10_sixteenth_32 rfl (lv_at hl 0 rfl) ?_
        refine lv_bipush (v := 65) hx hb d_X10_sixteenth_33 (by decide) ?_
        refine lv_icmp_lt (tgt := 54) hx hb d_X10_sixteenth_35 (by decide) (fun c_35 => ?_) (fun c_35 => ?_)
        · -- taken at 35
          refine lv_iconst (v := (-1)) hx hb d_X10_sixteenth_54 (by decide) ?_
          refine W.widen (k := 0) (n := 0) (Nat.le_of_ble_eq_true rfl) (Nat.le_of_ble_eq_true rfl) ?_
          exact k_iret (X := Unit) (w1 := fun _ => []) () hx hb hr d_X10_sixteenth_55 hlocks hP hK hD hS trivial
        · -- not taken at 35
          refine lv_iload_n hx hb d_X10_sixteenth_38 rfl (lv_at hl 0 rfl) ?_
          refine lv_bipush (v := 70) hx hb d_X10_sixteenth_39 (by decide) ?_
          refine lv_icmp_gt (tgt := 54) hx hb d_X10_sixteenth_41 (by decide) (fun c_41 => ?_) (fun c_41 => ?_)
          · -- taken at 41
            refine lv_iconst (v := (-1)) hx hb d_X10_sixteenth_54 (by decide) ?_
            refine W.widen (k := 0) (n := 0) (Nat.le_of_ble_eq_true rfl) (Nat.le_of_ble_eq_true rfl) ?_
            exact k_iret (X := Unit) (w1 := fun _ => []) () hx hb hr d_X10_sixteenth_55 hlocks hP hK hD hS trivial
          · -- not taken at 41
            refine lv_iload_n hx hb d_X10_sixteenth_44 rfl (lv_at hl 0 rfl) ?_
            refine lv_bipush (v := 65) hx hb d_X10_sixteenth_45 (by decide) ?_
            refine lv_isub hx hb d_X10_sixteenth_47 ?_
            refine lv_bipush (v := 10) hx hb d_X10_sixteenth_48 (by decide) ?_
            refine lv_iadd hx hb d_X10_sixteenth_50 ?_
            refine lv_goto (tgt := 55) hx hb d_X10_sixteenth_51 (by decide) ?_
            refine W.widen (k := 0) (n := 0) (Nat.le_of_ble_eq_true rfl) (Nat.le_of_ble_eq_true rfl) ?_
            exact k_iret (X := Unit) (w1 := fun _ => []) () hx hb hr d_X10_sixteenth_55 hlocks hP hK hD hS trivial
      · -- not taken at 15
        refine lv_iload_n hx hb d_X10_sixteenth_18 rfl (lv_at hl 0 rfl) ?_
        refine lv_bipush (v := 102) hx hb d_X10_sixteenth_19 (by decide) ?_
        refine lv_icmp_gt (tgt := 32) hx hb d_X10_sixteenth_21 (by decide) (fun c_21 => ?_) (fun c_21 => ?_)
        · -- taken at 21
          refine lv_iload_n hx hb d_X10_sixteenth_32 rfl (lv_at hl 0 rfl) ?_
          refine lv_bipush (v := 65) hx hb d_X10_sixteenth_33 (by decide) ?_
          refine lv_icmp_lt (tgt := 54) hx hb d_X10_sixteenth_35 (by decide) (fun c_35 => ?_) (fun c_35 => ?_)
          · -- taken at 35
            refine lv_iconst (v := (-1)) hx hb d_X10_sixteenth_54 (by decide) ?_
            refine W.widen (k := 0) (n := 0) (Nat.le_of_ble_eq_true rfl) (Nat.le_of_ble_eq_true rfl) ?_
            exact k_iret (X := Unit) (w1 := fun _ => []) () hx hb hr d_X10_sixteenth_55 hlocks hP hK hD hS trivial
          · -- not taken at 35
            refine lv_iload_n hx hb d_X10_sixteenth_38 rfl (lv_at hl 0 rfl) ?_
            refine lv_bipush (v := 70) hx hb d_X10_sixteenth_39 (by decide) ?_
            refine lv_icmp_gt (tgt := 54) hx hb d_X10_sixteenth_41 (by decide) (fun c_41 => ?_) (fun c_41 => ?_)
            · -- taken at 41
              refine lv_iconst (v := (-1)) hx hb d_X10_sixteenth_54 (by decide) ?_
              refine W.widen (k := 0) (n := 0) (Nat.le_of_ble_eq_true rfl) (Nat.le_of_ble_eq_true rfl) ?_
              exact k_iret (X := Unit) (w1 := fun _ => []) () hx hb hr d_X10_sixteenth_55 hlocks hP hK hD hS trivial
            · -- not taken at 41
              refine lv_iload_n hx hb d_X10_sixteenth_44 rfl (lv_at hl 0 rfl) ?_
              refine lv_bipush (v := 65) hx hb d_X10_sixteenth_45 (by decide) ?_
              refine lv_isub hx hb d_X10_sixteenth_47 ?_
              refine lv_bipush (v := 10) hx hb d_X10_sixteenth_48 (by decide) ?_
              refine lv_iadd hx hb d_X10_sixteenth_50 ?_
              refine lv_goto (tgt := 55) hx hb d_X10_sixteenth_51 (by decide) ?_
              refine W.widen (k := 0) (n := 0) (Nat.le_of_ble_eq_true rfl) (Nat.le_of_ble_eq_true rfl) ?_
              exact k_iret (X := Unit) (w1 := fun _ => []) () hx hb hr d_X10_sixteenth_55 hlocks hP hK hD hS trivial
        · -- not taken at 21
          refine lv_iload_n hx hb d_X10_sixteenth_24 rfl (lv_at hl 0 rfl) ?_
          refine lv_bipush (v := 97) hx hb d_X10_sixteenth_25 (by decide) ?_
          refine lv_isub hx hb d_X10_sixteenth_27 ?_
          refine lv_bipush (v := 10) hx hb d_X10_sixteenth_28 (by decide) ?_
          refine lv_iadd hx hb d_X10_sixteenth_30 ?_
          refine W.widen (k := 0) (n := 0) (Nat.le_of_ble_eq_true rfl) (Nat.le_of_ble_eq_true rfl) ?_
          exact k_iret (X := Unit) (w1 := fun _ => []) () hx hb hr d_X10_sixteenth_31 hlocks hP hK hD hS trivial
    · -- not taken at 4
      refine lv_iload_n hx hb d_X10_sixteenth_7 rfl (lv_at hl 0 rfl) ?_
      refine lv_bipush (v := 48) hx hb d_X10_sixteenth_8 (by decide) ?_
      refine lv_isub hx hb d_X10_sixteenth_10 ?_
      refine W.widen (k := 0) (n := 0) (Nat.le_of_ble_eq_true rfl) (Nat.le_of_ble_eq_true rfl) ?_
      exact k_iret (X := Unit) (w1 := fun _ => []) () hx hb hr d_X10_sixteenth_11 hlocks hP hK hD hS trivial
  rw [hH] at hgoal
  exact hgoal
set_option maxHeartbeats 4000000 in
set_option maxRecDepth 100000 in
theorem s_X10_codeAt (l : Launch) (D : va_G) (cy : Nat → ClassId) (sz : Nat) (w : Nat → Nat) (g : Nat → Nat → Int32) (r : Nat → Nat) (σ0 : St) (a1 : Int32) (a2 : Int32) (i0 : Inv σ0) : Met l y_X10_codeAt (Cond.code y_X10_codeAt b_X10_codeAt 5 (some .int) :: GW) ({ frames := 1, cells := 0, slots := 0, locals := 21 } : Room) (va_Pc [.ref (r 2), .int a1, .int a2] (kPreE D cy sz (wB cy r σ0) (gE w g))) ((fun A : Nat → Prop => va_Qi (S := Unit) (fun (_ : Int32) (_ : Unit) => True) (fun _ => kPost D cy A (wB cy r σ0)) A) (va_A (wB cy r σ0) sz)) 0 0 (va_A (wB cy r σ0) sz) := by
  refine k_ofWE (Qc := fun A => va_Qi (S := Unit) (fun (_ : Int32) (_ : Unit) => True) (fun _ => kPost D cy A (wB cy r σ0)) A) (by decide) (Nat.le_of_ble_eq_true rfl) ?_
  intro p e s m below meth c A ls hx hb hr hml hown hlocks hin hg hNW hK hP hD hA hS hl hE
  have hl : lv_has ls 5 [(0, .ref (r 2)), (1, .int a1), (2, .int a2)] := hl
  have hown : s.vm.findClass "LinkedUnits$Tokens" = some m.cls := hown
  obtain ⟨H, hH⟩ : ∃ H, H = s.heap := ⟨_, rfl⟩
  rw [← hH] at hP
  have hS : va_S A s.heap H [] := by rw [hH]; exact va_S.rf
  have hgoal : W p l e ({ frames := 1, cells := 0, slots := 0, locals := 21 } : Room) s m (([.ref (r 2), .int a1, .int a2] : List Value).toArray) below meth c H [] 0 0 (MQ below (va_Qi (S := Unit) (fun (_ : Int32) (_ : Unit) => True) (fun _ => kPost D cy A (wB cy r σ0)) A) (([.ref (r 2), .int a1, .int a2] : List Value).toArray) s 0 0 A) (F0 m 0 ls []) := by
    refine lv_aload_n hx hb d_X10_codeAt_0 rfl (lv_at hl 0 rfl) ?_
    refine lv_iload_n hx hb d_X10_codeAt_1 rfl (lv_at hl 1 rfl) ?_
    refine s_calli (X := Unit) (w1 := fun _ => wB cy r σ0) (va_runV (As := [.int a1]) (rest := []) ⟨hx, hb, hml, hown, hg⟩ (s_X10_byteAt l D cy H.size w g r σ0 a1 i0 ) (cwV 1 hg (gw_V m_806 m_808 ms_X10_byteAt m_2 m_809) rfl rfl rfl (by decide +kernel) ⟨(Nat.le_of_ble_eq_true rfl), (Nat.le_of_ble_eq_true rfl)⟩) (s_preVE (As := [.int a1]) (gE_ok w g) hS hA hE hP hD hK hNW 1 rfl rfl) rfl rfl hl.1 rfl (lv_room (Nat.le_of_ble_eq_true rfl)) d_X10_codeAt_2 ⟨(Nat.le_of_ble_eq_true rfl), (Nat.le_of_ble_eq_true rfl)⟩) hP hD hS hA (fun r1 u1 H locs hw hP hD hS => ?_)
    have hP : va_P D vwCl (wB cy r σ0) H := hP
    have hD : va_D A (wB cy r σ0) := hD
    refine lv_istore_n (lv' := [(3, .int r1), (0, .ref (r 2)), (1, .int a1), (2, .int a2)]) hx hb d_X10_codeAt_5 rfl hl (by decide) rfl (fun ls hl => ?_)
    refine lv_iload_n hx hb d_X10_codeAt_6 rfl (lv_at hl 0 rfl) ?_
    refine lv_bipush (v := 92) hx hb d_X10_codeAt_7 (by decide) ?_
    refine lv_icmp_eq (tgt := 35) hx hb d_X10_codeAt_9 (by decide) (fun c_9 => ?_) (fun c_9 => ?_)
    · -- taken at 9
      refine lv_aload_n hx hb d_X10_codeAt_35 rfl (lv_at hl 1 rfl) ?_
      refine lv_iload_n hx hb d_X10_codeAt_36 rfl (lv_at hl 2 rfl) ?_
      refine lv_iconst (v := 1) hx hb d_X10_codeAt_37 (by decide) ?_
      refine lv_iadd hx hb d_X10_codeAt_38 ?_
      refine s_calli (X := Unit) (w1 := fun _ => wB cy r σ0) (va_runV (As := [.int (a1 + 1)]) (rest := []) ⟨hx, hb, hml, hown, hg⟩ (s_X10_byteAt l D cy H.size w g r σ0 (a1 + 1) i0 ) (cwV 1 hg (gw_V m_806 m_808 ms_X10_byteAt m_2 m_809) rfl rfl rfl (by decide +kernel) ⟨(Nat.le_of_ble_eq_true rfl), (Nat.le_of_ble_eq_true rfl)⟩) (s_preVE (As := [.int (a1 + 1)]) (gE_ok w g) hS hA hE hP hD hK hNW 1 rfl rfl) rfl rfl hl.1 rfl (lv_room (Nat.le_of_ble_eq_true rfl)) d_X10_codeAt_39 ⟨(Nat.le_of_ble_eq_true rfl), (Nat.le_of_ble_eq_true rfl)⟩) hP hD hS hA (fun r2 u2 H locs hw hP hD hS => ?_)
      have hP : va_P D vwCl (wB cy r σ0) H := hP
      have hD : va_D A (wB cy r σ0) := hD
      refine lv_istore (lv' := [(4, .int r2), (3, .int r1), (0, .ref (r 2)), (1, .int a1), (2, .int a2)]) hx hb d_X10_codeAt_42 hl (by decide) rfl (fun ls hl => ?_)
      refine lv_iload hx hb d_X10_codeAt_44 (lv_at hl 0 rfl) ?_
      refine (Decidable.em (r2 = 34)).elim (fun q46_0 => ?_) (fun q46_0 => ?_)
      · refine k_topi 34 q46_0 ?_
        refine lv_lookup (off := 55) (tgt := 101) hx hb d_X10_codeAt_46 (by decide +kernel) (by decide +kernel) (by decide) ?_
        refine lv_iload hx hb d_X10_codeAt_101 (lv_at hl 0 rfl) ?_
        refine W.widen (k := 0) (n := 0) (Nat.le_of_ble_eq_true rfl) (Nat.le_of_ble_eq_true rfl) ?_
        exact k_iret (X := Unit) (w1 := fun _ => wB cy r σ0) () hx hb hr d_X10_codeAt_103 hlocks hP hK hD hS trivial
      refine (Decidable.em (r2 = 39)).elim (fun q46_1 => ?_) (fun q46_1 => ?_)
      · refine k_topi 39 q46_1 ?_
        refine lv_lookup (off := 55) (tgt := 101) hx hb d_X10_codeAt_46 (by decide +kernel) (by decide +kernel) (by decide) ?_
        refine lv_iload hx hb d_X10_codeAt_101 (lv_at hl 0 rfl) ?_
        refine W.widen (k := 0) (n := 0) (Nat.le_of_ble_eq_true rfl) (Nat.le_of_ble_eq_true rfl) ?_
        exact k_iret (X := Unit) (w1 := fun _ => wB cy r σ0) () hx hb hr d_X10_codeAt_103 hlocks hP hK hD hS trivial
      refine (Decidable.em (r2 = 48)).elim (fun q46_2 => ?_) (fun q46_2 => ?_)
      · refine k_topi 48 q46_2 ?_
        refine lv_lookup (off := 53) (tgt := 99) hx hb d_X10_codeAt_46 (by decide +kernel) (by decide +kernel) (by decide) ?_
        refine lv_iconst (v := 0) hx hb d_X10_codeAt_99 (by decide) ?_
        refine W.widen (k := 0) (n := 0) (Nat.le_of_ble_eq_true rfl) (Nat.le_of_ble_eq_true rfl) ?_
        exact k_iret (X := Unit) (w1 := fun _ => wB cy r σ0) () hx hb hr d_X10_codeAt_100 hlocks hP hK hD hS trivial
      refine (Decidable.em (r2 = 92)).elim (fun q46_3 => ?_) (fun q46_3 => ?_)
      · refine k_topi 92 q46_3 ?_
        refine lv_lookup (off := 55) (tgt := 101) hx hb d_X10_codeAt_46 (by decide +kernel) (by decide +kernel) (by decide) ?_
        refine lv_iload hx hb d_X10_codeAt_101 (lv_at hl 0 rfl) ?_
        refine W.widen (k := 0) (n := 0) (Nat.le_of_ble_eq_true rfl) (Nat.le_of_ble_eq_true rfl) ?_
        exact k_iret (X := Unit) (w1 := fun _ => wB cy r σ0) () hx hb hr d_X10_codeAt_103 hlocks hP hK hD hS trivial
      refine (Decidable.em (r2 = 110)).elim (fun q46_4 => ?_) (fun q46_4 => ?_)
      · refine k_topi 110 q46_4 ?_
        refine lv_lookup (off := 50) (tgt := 96) hx hb d_X10_codeAt_46 (by decide +kernel) (by decide +kernel) (by decide) ?_
        refine lv_bipush (v := 10) hx hb d_X10_codeAt_96 (by decide) ?_
        refine W.widen (k := 0) (n := 0) (Nat.le_of_ble_eq_true rfl) (Nat.le_of_ble_eq_true rfl) ?_
        exact k_iret (X := Unit) (w1 := fun _ => wB cy r σ0) () hx hb hr d_X10_codeAt_98 hlocks hP hK hD hS trivial
      refine lv_lookup (off := 58) (tgt := 104) hx hb d_X10_codeAt_46 (by decide +kernel) ((lv_osw q46_0 (show (34 : Int32).toInt = 34 by decide)).trans ((lv_osw q46_1 (show (39 : Int32).toInt = 39 by decide)).trans ((lv_osw q46_2 (show (48 : Int32).toInt = 48 by decide)).trans ((lv_osw q46_3 (show (92 : Int32).toInt = 92 by decide)).trans ((lv_osw q46_4 (show (110 : Int32).toInt = 110 by decide)).trans rfl))))) (by decide) ?_
      refine lv_iconst (v := (-1)) hx hb d_X10_codeAt_104 (by decide) ?_
      refine W.widen (k := 0) (n := 0) (Nat.le_of_ble_eq_true rfl) (Nat.le_of_ble_eq_true rfl) ?_
      exact k_iret (X := Unit) (w1 := fun _ => wB cy r σ0) () hx hb hr d_X10_codeAt_105 hlocks hP hK hD hS trivial
    · -- not taken at 9
      refine lv_iload_n hx hb d_X10_codeAt_12 rfl (lv_at hl 0 rfl) ?_
      refine lv_bipush (v := 32) hx hb d_X10_codeAt_13 (by decide) ?_
      refine lv_icmp_lt (tgt := 29) hx hb d_X10_codeAt_15 (by decide) (fun c_15 => ?_) (fun c_15 => ?_)
      · -- taken at 15
        refine lv_iconst (v := (-1)) hx hb d_X10_codeAt_29 (by decide) ?_
        refine lv_goto (tgt := 34) hx hb d_X10_codeAt_30 (by decide) ?_
        refine W.widen (k := 0) (n := 0) (Nat.le_of_ble_eq_true rfl) (Nat.le_of_ble_eq_true rfl) ?_
        exact k_iret (X := Unit) (w1 := fun _ => wB cy r σ0) () hx hb hr d_X10_codeAt_34 hlocks hP hK hD hS trivial
      · -- not taken at 15
        refine lv_iload_n hx hb d_X10_codeAt_18 rfl (lv_at hl 0 rfl) ?_
        refine lv_bipush (v := 126) hx hb d_X10_codeAt_19 (by decide) ?_
        refine lv_icmp_gt (tgt := 29) hx hb d_X10_codeAt_21 (by decide) (fun c_21 => ?_) (fun c_21 => ?_)
        · -- taken at 21
          refine lv_iconst (v := (-1)) hx hb d_X10_codeAt_29 (by decide) ?_
          refine lv_goto (tgt := 34) hx hb d_X10_codeAt_30 (by decide) ?_
          refine W.widen (k := 0) (n := 0) (Nat.le_of_ble_eq_true rfl) (Nat.le_of_ble_eq_true rfl) ?_
          exact k_iret (X := Unit) (w1 := fun _ => wB cy r σ0) () hx hb hr d_X10_codeAt_34 hlocks hP hK hD hS trivial
        · -- not taken at 21
          refine lv_iload_n hx hb d_X10_codeAt_24 rfl (lv_at hl 0 rfl) ?_
          refine lv_iload_n hx hb d_X10_codeAt_25 rfl (lv_at hl 3 rfl) ?_
          refine lv_icmp_ne (tgt := 33) hx hb d_X10_codeAt_26 (by decide) (fun c_26 => ?_) (fun c_26 => ?_)
          · -- taken at 26
            refine lv_iload_n hx hb d_X10_codeAt_33 rfl (lv_at hl 0 rfl) ?_
            refine W.widen (k := 0) (n := 0) (Nat.le_of_ble_eq_true rfl) (Nat.le_of_ble_eq_true rfl) ?_
            exact k_iret (X := Unit) (w1 := fun _ => wB cy r σ0) () hx hb hr d_X10_codeAt_34 hlocks hP hK hD hS trivial
          · -- not taken at 26
            refine lv_iconst (v := (-1)) hx hb d_X10_codeAt_29 (by decide) ?_
            refine lv_goto (tgt := 34) hx hb d_X10_codeAt_30 (by decide) ?_
            refine W.widen (k := 0) (n := 0) (Nat.le_of_ble_eq_true rfl) (Nat.le_of_ble_eq_true rfl) ?_
            exact k_iret (X := Unit) (w1 := fun _ => wB cy r σ0) () hx hb hr d_X10_codeAt_34 hlocks hP hK hD hS trivial
  rw [hH] at hgoal
  exact hgoal
set_option maxHeartbeats 4000000 in
set_option maxRecDepth 100000 in
theorem s_X10_widthAt (l : Launch) (D : va_G) (cy : Nat → ClassId) (sz : Nat) (w : Nat → Nat) (g : Nat → Nat → Int32) (r : Nat → Nat) (σ0 : St) (a1 : Int32) (i0 : Inv σ0) : Met l y_X10_widthAt (Cond.code y_X10_widthAt b_X10_widthAt 2 (some .int) :: GW) ({ frames := 1, cells := 0, slots := 0, locals := 21 } : Room) (va_Pc [.ref (r 2), .int a1] (kPreE D cy sz (wB cy r σ0) (gE w g))) ((fun A : Nat → Prop => va_Qi (S := Unit) (fun (_ : Int32) (_ : Unit) => True) (fun _ => kPost D cy A (wB cy r σ0)) A) (va_A (wB cy r σ0) sz)) 0 0 (va_A (wB cy r σ0) sz) := by
  refine k_ofWE (Qc := fun A => va_Qi (S := Unit) (fun (_ : Int32) (_ : Unit) => True) (fun _ => kPost D cy A (wB cy r σ0)) A) (by decide) (Nat.le_of_ble_eq_true rfl) ?_
  intro p e s m below meth c A ls hx hb hr hml hown hlocks hin hg hNW hK hP hD hA hS hl hE
  have hl : lv_has ls 2 [(0, .ref (r 2)), (1, .int a1)] := hl
  have hown : s.vm.findClass "LinkedUnits$Tokens" = some m.cls := hown
  obtain ⟨H, hH⟩ : ∃ H, H = s.heap := ⟨_, rfl⟩
  rw [← hH] at hP
  have hS : va_S A s.heap H [] := by rw [hH]; exact va_S.rf
  have hgoal : W p l e ({ frames := 1, cells := 0, slots := 0, locals := 21 } : Room) s m (([.ref (r 2), .int a1] : List Value).toArray) below meth c H [] 0 0 (MQ below (va_Qi (S := Unit) (fun (_ : Int32) (_ : Unit) => True) (fun _ => kPost D cy A (wB cy r σ0)) A) (([.ref (r 2), .int a1] : List Value).toArray) s 0 0 A) (F0 m 0 ls []) := by
    refine lv_aload_n hx hb d_X10_widthAt_0 rfl (lv_at hl 0 rfl) ?_
    refine lv_iload_n hx hb d_X10_widthAt_1 rfl (lv_at hl 1 rfl) ?_
    refine s_calli (X := Unit) (w1 := fun _ => wB cy r σ0) (va_runV (As := [.int a1]) (rest := []) ⟨hx, hb, hml, hown, hg⟩ (s_X10_byteAt l D cy H.size w g r σ0 a1 i0 ) (cwV 1 hg (gw_V m_806 m_808 ms_X10_byteAt m_2 m_809) rfl rfl rfl (by decide +kernel) ⟨(Nat.le_of_ble_eq_true rfl), (Nat.le_of_ble_eq_true rfl)⟩) (s_preVE (As := [.int a1]) (gE_ok w g) hS hA hE hP hD hK hNW 1 rfl rfl) rfl rfl hl.1 rfl (lv_room (Nat.le_of_ble_eq_true rfl)) d_X10_widthAt_2 ⟨(Nat.le_of_ble_eq_true rfl), (Nat.le_of_ble_eq_true rfl)⟩) hP hD hS hA (fun r1 u1 H locs hw hP hD hS => ?_)
    have hP : va_P D vwCl (wB cy r σ0) H := hP
    have hD : va_D A (wB cy r σ0) := hD
    refine lv_bipush (v := 92) hx hb d_X10_widthAt_5 (by decide) ?_
    refine lv_icmp_ne (tgt := 14) hx hb d_X10_widthAt_7 (by decide) (fun c_7 => ?_) (fun c_7 => ?_)
    · -- taken at 7
      refine lv_iconst (v := 1) hx hb d_X10_widthAt_14 (by decide) ?_
      refine W.widen (k := 0) (n := 0) (Nat.le_of_ble_eq_true rfl) (Nat.le_of_ble_eq_true rfl) ?_
      exact k_iret (X := Unit) (w1 := fun _ => wB cy r σ0) () hx hb hr d_X10_widthAt_15 hlocks hP hK hD hS trivial
    · -- not taken at 7
      refine lv_iconst (v := 2) hx hb d_X10_widthAt_10 (by decide) ?_
      refine lv_goto (tgt := 15) hx hb d_X10_widthAt_11 (by decide) ?_
      refine W.widen (k := 0) (n := 0) (Nat.le_of_ble_eq_true rfl) (Nat.le_of_ble_eq_true rfl) ?_
      exact k_iret (X := Unit) (w1 := fun _ => wB cy r σ0) () hx hb hr d_X10_widthAt_15 hlocks hP hK hD hS trivial
  rw [hH] at hgoal
  exact hgoal
set_option maxHeartbeats 4000000 in
set_option maxRecDepth 100000 in
theorem s_X10_mayGoOn (l : Launch) (D : va_G) (cy : Nat → ClassId) (sz : Nat) (a0 : Int32) : Met l y_X10_mayGoOn (Cond.code y_X10_mayGoOn b_X10_mayGoOn 1 (some .boolean) :: GW) ({ frames := 0, cells := 0, slots := 0, locals := 0 } : Room) (va_Pc [.int a0] (kPre D cy sz [])) ((fun A : Nat → Prop => va_Qi (S := Unit) (fun (v9 : Int32) (_ : Unit) => (v9 = 0 ∨ v9 = 1) ∧ True) (fun _ => kPost D cy A []) A) (va_A [] sz)) 0 0 (va_A [] sz) := by
  refine k_ofW (Qc := fun A => va_Qi (S := Unit) (fun (v9 : Int32) (_ : Unit) => (v9 = 0 ∨ v9 = 1) ∧ True) (fun _ => kPost D cy A []) A) (by decide) (Nat.le_of_ble_eq_true rfl) ?_
  intro p e s m below meth c A ls hx hb hr hml hown hlocks hin hg hNW hK hP hD hA hS hl
  have hl : lv_has ls 1 [(0, .int a0)] := hl
  have hown : s.vm.findClass "LinkedUnits$Tokens" = some m.cls := hown
  obtain ⟨H, hH⟩ : ∃ H, H = s.heap := ⟨_, rfl⟩
  rw [← hH] at hP
  have hS : va_S A s.heap H [] := by rw [hH]; exact va_S.rf
  have hgoal : W p l e ({ frames := 0, cells := 0, slots := 0, locals := 0 } : Room) s m (([.int a0] : List Value).toArray) below meth c H [] 0 0 (MQ below (va_Qi (S := Unit) (fun (v9 : Int32) (_ : Unit) => (v9 = 0 ∨ v9 = 1) ∧ True) (fun _ => kPost D cy A []) A) (([.int a0] : List Value).toArray) s 0 0 A) (F0 m 0 ls []) := by
    refine lv_iload_n hx hb d_X10_mayGoOn_0 rfl (lv_at hl 0 rfl) ?_
    refine lv_bipush (v := 61) hx hb d_X10_mayGoOn_1 (by decide) ?_
    refine lv_icmp_eq (tgt := 42) hx hb d_X10_mayGoOn_3 (by decide) (fun c_3 => ?_) (fun c_3 => ?_)
    · -- taken at 3
      refine lv_iconst (v := 1) hx hb d_X10_mayGoOn_42 (by decide) ?_
      refine lv_goto (tgt := 47) hx hb d_X10_mayGoOn_43 (by decide) ?_
      refine W.widen (k := 0) (n := 0) (Nat.le_of_ble_eq_true rfl) (Nat.le_of_ble_eq_true rfl) ?_
      exact k_zret (X := Unit) (w1 := fun _ => []) () hx hb hr (k_nz (Or.inr rfl)) d_X10_mayGoOn_47 hlocks hP hK hD hS ⟨(Or.inr rfl), trivial⟩
    · -- not taken at 3
      refine lv_iload_n hx hb d_X10_mayGoOn_6 rfl (lv_at hl 0 rfl) ?_
      refine lv_bipush (v := 60) hx hb d_X10_mayGoOn_7 (by decide) ?_
      refine lv_icmp_eq (tgt := 42) hx hb d_X10_mayGoOn_9 (by decide) (fun c_9 => ?_) (fun c_9 => ?_)
      · -- taken at 9
        refine lv_iconst (v := 1) hx hb d_X10_mayGoOn_42 (by decide) ?_
        refine lv_goto (tgt := 47) hx hb d_X10_mayGoOn_43 (by decide) ?_
        refine W.widen (k := 0) (n := 0) (Nat.le_of_ble_eq_true rfl) (Nat.le_of_ble_eq_true rfl) ?_
        exact k_zret (X := Unit) (w1 := fun _ => []) () hx hb hr (k_nz (Or.inr rfl)) d_X10_mayGoOn_47 hlocks hP hK hD hS ⟨(Or.inr rfl), trivial⟩
      · -- not taken at 9
        refine lv_iload_n hx hb d_X10_mayGoOn_12 rfl (lv_at hl 0 rfl) ?_
        refine lv_bipush (v := 62) hx hb d_X10_mayGoOn_13 (by decide) ?_
        refine lv_icmp_eq (tgt := 42) hx hb d_X10_mayGoOn_15 (by decide) (fun c_15 => ?_) (fun c_15 => ?_)
        · -- taken at 15
          refine lv_iconst (v := 1) hx hb d_X10_mayGoOn_42 (by decide) ?_
          refine lv_goto (tgt := 47) hx hb d_X10_mayGoOn_43 (by decide) ?_
          refine W.widen (k := 0) (n := 0) (Nat.le_of_ble_eq_true rfl) (Nat.le_of_ble_eq_true rfl) ?_
          exact k_zret (X := Unit) (w1 := fun _ => []) () hx hb hr (k_nz (Or.inr rfl)) d_X10_mayGoOn_47 hlocks hP hK hD hS ⟨(Or.inr rfl), trivial⟩
        · -- not taken at 15
          refine lv_iload_n hx hb d_X10_mayGoOn_18 rfl (lv_at hl 0 rfl) ?_
          refine lv_bipush (v := 43) hx hb d_X10_mayGoOn_19 (by decide) ?_
          refine lv_icmp_eq (tgt := 42) hx hb d_X10_mayGoOn_21 (by decide) (fun c_21 => ?_) (fun c_21 => ?_)
          · -- taken at 21
            refine lv_iconst (v := 1) hx hb d_X10_mayGoOn_42 (by decide) ?_
            refine lv_goto (tgt := 47) hx hb d_X10_mayGoOn_43 (by decide) ?_
            refine W.widen (k := 0) (n := 0) (Nat.le_of_ble_eq_true rfl) (Nat.le_of_ble_eq_true rfl) ?_
            exact k_zret (X := Unit) (w1 := fun _ => []) () hx hb hr (k_nz (Or.inr rfl)) d_X10_mayGoOn_47 hlocks hP hK hD hS ⟨(Or.inr rfl), trivial⟩
          · -- not taken at 21
            refine lv_iload_n hx hb d_X10_mayGoOn_24 rfl (lv_at hl 0 rfl) ?_
            refine lv_bipush (v := 45) hx hb d_X10_mayGoOn_25 (by decide) ?_
            refine lv_icmp_eq (tgt := 42) hx hb d_X10_mayGoOn_27 (by decide) (fun c_27 => ?_) (fun c_27 => ?_)
            · -- taken at 27
              refine lv_iconst (v := 1) hx hb d_X10_mayGoOn_42 (by decide) ?_
              refine lv_goto (tgt := 47) hx hb d_X10_mayGoOn_43 (by decide) ?_
              refine W.widen (k := 0) (n := 0) (Nat.le_of_ble_eq_true rfl) (Nat.le_of_ble_eq_true rfl) ?_
              exact k_zret (X := Unit) (w1 := fun _ => []) () hx hb hr (k_nz (Or.inr rfl)) d_X10_mayGoOn_47 hlocks hP hK hD hS ⟨(Or.inr rfl), trivial⟩
            · -- not taken at 27
              refine lv_iload_n hx hb d_X10_mayGoOn_30 rfl (lv_at hl 0 rfl) ?_
              refine lv_bipush (v := 38) hx hb d_X10_mayGoOn_31 (by decide) ?_
              refine lv_icmp_eq (tgt := 42) hx hb d_X10_mayGoOn_33 (by decide) (fun c_33 => ?_) (fun c_33 => ?_)
              · -- taken at 33
                refine lv_iconst (v := 1) hx hb d_X10_mayGoOn_42 (by decide) ?_
                refine lv_goto (tgt := 47) hx hb d_X10_mayGoOn_43 (by decide) ?_
                refine W.widen (k := 0) (n := 0) (Nat.le_of_ble_eq_true rfl) (Nat.le_of_ble_eq_true rfl) ?_
                exact k_zret (X := Unit) (w1 := fun _ => []) () hx hb hr (k_nz (Or.inr rfl)) d_X10_mayGoOn_47 hlocks hP hK hD hS ⟨(Or.inr rfl), trivial⟩
              · -- not taken at 33
                refine lv_iload_n hx hb d_X10_mayGoOn_36 rfl (lv_at hl 0 rfl) ?_
                refine lv_bipush (v := 124) hx hb d_X10_mayGoOn_37 (by decide) ?_
                refine lv_icmp_ne (tgt := 46) hx hb d_X10_mayGoOn_39 (by decide) (fun c_39 => ?_) (fun c_39 => ?_)
                · -- taken at 39
                  refine lv_iconst (v := 0) hx hb d_X10_mayGoOn_46 (by decide) ?_
                  refine W.widen (k := 0) (n := 0) (Nat.le_of_ble_eq_true rfl) (Nat.le_of_ble_eq_true rfl) ?_
                  exact k_zret (X := Unit) (w1 := fun _ => []) () hx hb hr (k_nz (Or.inl rfl)) d_X10_mayGoOn_47 hlocks hP hK hD hS ⟨(Or.inl rfl), trivial⟩
                · -- not taken at 39
                  refine lv_iconst (v := 1) hx hb d_X10_mayGoOn_42 (by decide) ?_
                  refine lv_goto (tgt := 47) hx hb d_X10_mayGoOn_43 (by decide) ?_
                  refine W.widen (k := 0) (n := 0) (Nat.le_of_ble_eq_true rfl) (Nat.le_of_ble_eq_true rfl) ?_
                  exact k_zret (X := Unit) (w1 := fun _ => []) () hx hb hr (k_nz (Or.inr rfl)) d_X10_mayGoOn_47 hlocks hP hK hD hS ⟨(Or.inr rfl), trivial⟩
  rw [hH] at hgoal
  exact hgoal
set_option maxHeartbeats 4000000 in
set_option maxRecDepth 100000 in
theorem s_X3_advance (l : Launch) (D : va_G) (cy : Nat → ClassId) (sz : Nat) (w : Nat → Nat) (g : Nat → Nat → Int32) (r : Nat → Nat) (σ0 : St) (i0 : Inv σ0) : Met l y_X3_advance (Cond.code y_X3_advance b_X3_advance 2 none :: GW) ({ frames := 0, cells := 0, slots := 0, locals := 0 } : Room) (va_Pc [.ref (r 3)] (kPreE D cy sz (wB cy r σ0) (gE w g))) ((fun A : Nat → Prop => va_Qv (S := St) (fun (τ : St) => (Inv τ ∧ Keep [(3, 1), (3, 2)] [] σ0 τ)) (fun τ => kPost D cy A (wB cy r τ)) A) (va_A (wB cy r σ0) sz)) 0 0 (va_A (wB cy r σ0) sz) := by
  refine k_ofWE (Qc := fun A => va_Qv (S := St) (fun (τ : St) => (Inv τ ∧ Keep [(3, 1), (3, 2)] [] σ0 τ)) (fun τ => kPost D cy A (wB cy r τ)) A) (by decide) (Nat.le_of_ble_eq_true rfl) ?_
  intro p e s m below meth c A ls hx hb hr hml hown hlocks hin hg hNW hK hP hD hA hS hl hE
  have hl : lv_has ls 2 [(0, .ref (r 3))] := hl
  have hown : s.vm.findClass "LinkedUnits$Grammar" = some m.cls := hown
  have kp : Keep [(3, 1), (3, 2)] [] σ0 σ0 := keep_rf
  obtain ⟨H, hH⟩ : ∃ H, H = s.heap := ⟨_, rfl⟩
  rw [← hH] at hP
  have hS : va_S A s.heap H [] := by rw [hH]; exact va_S.rf
  have hgoal : W p l e ({ frames := 0, cells := 0, slots := 0, locals := 0 } : Room) s m (([.ref (r 3)] : List Value).toArray) below meth c H [] 0 0 (MQ below (va_Qv (S := St) (fun (τ : St) => (Inv τ ∧ Keep [(3, 1), (3, 2)] [] σ0 τ)) (fun τ => kPost D cy A (wB cy r τ)) A) (([.ref (r 3)] : List Value).toArray) s 0 0 A) (F0 m 0 ls []) := by
    refine lv_aload_n hx hb d_X3_advance_0 rfl (lv_at hl 0 rfl) ?_
    refine lv_dup hx hb d_X3_advance_1 rfl ?_
    refine va_get (D := D) (ci := 3) (v := .int (σ0 3 1)) (C := "LinkedUnits$Grammar") (T := TX3) (N := 12) hx hb hg iwX3 hown hK hP 2 rfl rfl 1 (by decide) (hg _ m_95) (fun _ h9 => h9) rfl d_X3_advance_2 ?_
    refine lv_iconst (v := 1) hx hb d_X3_advance_5 (by decide) ?_
    refine lv_iadd hx hb d_X3_advance_6 ?_
    refine va_put (D := D) (ci := 3) (v := .int ((σ0 3 1) + 1)) (ty := .int) (C := "LinkedUnits$Grammar") (T := TX3) (N := 12) hx hb hg iwX3 tyX3 tyX3_ok nmX3 hown hK hP hD hS 2 rfl rfl 1 (by decide) (hg _ m_95) (fun _ h9 => h9) rfl (by decide +kernel) rfl rfl (Nat.le_of_ble_eq_true rfl) d_X3_advance_7 (fun H locs hP hD hS => ?_)
    have hP : va_P D vwCl (wB cy r (upC σ0 3 1 ((σ0 3 1) + 1))) H := hP
    have hD : va_D A (wB cy r (upC σ0 3 1 ((σ0 3 1) + 1))) := hD
    have kp : Keep [(3, 1), (3, 2)] [] σ0 (upC σ0 3 1 ((σ0 3 1) + 1)) := keep_f kp (by decide)
    refine lv_aload_n hx hb d_X3_advance_10 rfl (lv_at hl 0 rfl) ?_
    refine va_get (D := D) (ci := 3) (v := .int ((σ0 3 1) + 1)) (C := "LinkedUnits$Grammar") (T := TX3) (N := 12) hx hb hg iwX3 hown hK hP 2 rfl rfl 1 (by decide) (hg _ m_95) (fun _ h9 => h9) rfl d_X3_advance_11 ?_
    refine lv_if_lt (tgt := 50) hx hb d_X3_advance_14 (by decide) (fun c_14 => ?_) (fun c_14 => ?_)
    · -- taken at 14
      refine lv_iconst (v := 0) hx hb d_X3_advance_50 (by decide) ?_
      refine lv_istore_n (lv' := [(1, .int 0), (0, .ref (r 3))]) hx hb d_X3_advance_51 rfl hl (by decide) rfl (fun ls hl => ?_)
      refine lv_aload_n hx hb d_X3_advance_52 rfl (lv_at hl 1 rfl) ?_
      refine lv_iload_n hx hb d_X3_advance_53 rfl (lv_at hl 0 rfl) ?_
      refine lv_if_eq (tgt := 72) hx hb d_X3_advance_54 (by decide) (fun _ => ?_) (fun c_54 => False.elim (by revert c_54; decide))
      refine lv_iconst (v := 0) hx hb d_X3_advance_72 (by decide) ?_
      refine va_put (D := D) (ci := 3) (v := .int 0) (ty := .int) (C := "LinkedUnits$Grammar") (T := TX3) (N := 12) hx hb hg iwX3 tyX3 tyX3_ok nmX3 hown hK hP hD hS 2 rfl rfl 2 (by decide) (hg _ m_96) (fun _ h9 => h9) rfl (by decide +kernel) rfl rfl (Nat.le_of_ble_eq_true rfl) d_X3_advance_73 (fun H locs hP hD hS => ?_)
      have hP : va_P D vwCl (wB cy r (upC (upC σ0 3 1 ((σ0 3 1) + 1)) 3 2 0)) H := hP
      have hD : va_D A (wB cy r (upC (upC σ0 3 1 ((σ0 3 1) + 1)) 3 2 0)) := hD
      have kp : Keep [(3, 1), (3, 2)] [] σ0 (upC (upC σ0 3 1 ((σ0 3 1) + 1)) 3 2 0) := keep_f kp (by decide)
      refine W.widen (k := 0) (n := 0) (Nat.le_of_ble_eq_true rfl) (Nat.le_of_ble_eq_true rfl) ?_
      exact k_vret (X := St) (w1 := fun τ => wB cy r τ) (upC (upC σ0 3 1 ((σ0 3 1) + 1)) 3 2 0) hx hb hr d_X3_advance_76 hlocks hP hK hD hS ⟨i0, kp⟩
    · -- not taken at 14
      refine lv_aload_n hx hb d_X3_advance_17 rfl (lv_at hl 0 rfl) ?_
      refine va_get (D := D) (ci := 3) (v := .int ((σ0 3 1) + 1)) (C := "LinkedUnits$Grammar") (T := TX3) (N := 12) hx hb hg iwX3 hown hK hP 2 rfl rfl 1 (by decide) (hg _ m_95) (fun _ h9 => h9) rfl d_X3_advance_18 ?_
      refine lv_aload_n hx hb d_X3_advance_21 rfl (lv_at hl 0 rfl) ?_
      refine va_get (D := D) (ci := 3) (v := .ref (r 2)) (C := "LinkedUnits$Grammar") (T := TX3) (N := 12) hx hb hg iwX3 hown hK hP 2 rfl rfl 0 (by decide) (hg _ m_94) (fun _ h9 => h9) rfl d_X3_advance_22 ?_
      refine va_getN (D := D) (ci := 10) (v := .int (σ0 2 4)) (C := "LinkedUnits$Tokens") (T := TX10) (N := 10) hx hb hg iwX10 hown hK hP 1 rfl rfl 4 (by decide) (va_Nw.use rfl (hNW.1 _ nm_47)) (fun _ h9 => h9) rfl d_X3_advance_25 ?_
      refine lv_icmp_ge (tgt := 50) hx hb d_X3_advance_28 (by decide) (fun c_28 => ?_) (fun c_28 => ?_)
      · -- taken at 28
        refine lv_iconst (v := 0) hx hb d_X3_advance_50 (by decide) ?_
        refine lv_istore_n (lv' := [(1, .int 0), (0, .ref (r 3))]) hx hb d_X3_advance_51 rfl hl (by decide) rfl (fun ls hl => ?_)
        refine lv_aload_n hx hb d_X3_advance_52 rfl (lv_at hl 1 rfl) ?_
        refine lv_iload_n hx hb d_X3_advance_53 rfl (lv_at hl 0 rfl) ?_
        refine lv_if_eq (tgt := 72) hx hb d_X3_advance_54 (by decide) (fun _ => ?_) (fun c_54 => False.elim (by revert c_54; decide))
        refine lv_iconst (v := 0) hx hb d_X3_advance_72 (by decide) ?_
        refine va_put (D := D) (ci := 3) (v := .int 0) (ty := .int) (C := "LinkedUnits$Grammar") (T := TX3) (N := 12) hx hb hg iwX3 tyX3 tyX3_ok nmX3 hown hK hP hD hS 2 rfl rfl 2 (by decide) (hg _ m_96) (fun _ h9 => h9) rfl (by decide +kernel) rfl rfl (Nat.le_of_ble_eq_true rfl) d_X3_advance_73 (fun H locs hP hD hS => ?_)
        have hP : va_P D vwCl (wB cy r (upC (upC σ0 3 1 ((σ0 3 1) + 1)) 3 2 0)) H := hP
        have hD : va_D A (wB cy r (upC (upC σ0 3 1 ((σ0 3 1) + 1)) 3 2 0)) := hD
        have kp : Keep [(3, 1), (3, 2)] [] σ0 (upC (upC σ0 3 1 ((σ0 3 1) + 1)) 3 2 0) := keep_f kp (by decide)
        refine W.widen (k := 0) (n := 0) (Nat.le_of_ble_eq_true rfl) (Nat.le_of_ble_eq_true rfl) ?_
        exact k_vret (X := St) (w1 := fun τ => wB cy r τ) (upC (upC σ0 3 1 ((σ0 3 1) + 1)) 3 2 0) hx hb hr d_X3_advance_76 hlocks hP hK hD hS ⟨i0, kp⟩
      · -- not taken at 28
        refine lv_aload_n hx hb d_X3_advance_31 rfl (lv_at hl 0 rfl) ?_
        refine va_get (D := D) (ci := 3) (v := .int ((σ0 3 1) + 1)) (C := "LinkedUnits$Grammar") (T := TX3) (N := 12) hx hb hg iwX3 hown hK hP 2 rfl rfl 1 (by decide) (hg _ m_95) (fun _ h9 => h9) rfl d_X3_advance_32 ?_
        refine lv_aload_n hx hb d_X3_advance_35 rfl (lv_at hl 0 rfl) ?_
        refine va_get (D := D) (ci := 3) (v := .ref (r 2)) (C := "LinkedUnits$Grammar") (T := TX3) (N := 12) hx hb hg iwX3 hown hK hP 2 rfl rfl 0 (by decide) (hg _ m_94) (fun _ h9 => h9) rfl d_X3_advance_36 ?_
        refine va_getN (D := D) (ci := 10) (v := .ref (r 13)) (C := "LinkedUnits$Tokens") (T := TX10) (N := 10) hx hb hg iwX10 hown hK hP 1 rfl rfl 5 (by decide) (va_Nw.use rfl (hNW.1 _ nm_50)) (fun _ h9 => h9) rfl d_X3_advance_39 ?_
        refine va_alen hx hb hK hP 12 1 rfl rfl (v := 16002) (by show Int32.ofNat 16002 = 16002; decide) d_X3_advance_42 ?_
        refine lv_icmp_ge (tgt := 50) hx hb d_X3_advance_43 (by decide) (fun c_43 => ?_) (fun c_43 => ?_)
        · -- taken at 43
          refine lv_iconst (v := 0) hx hb d_X3_advance_50 (by decide) ?_
          refine lv_istore_n (lv' := [(1, .int 0), (0, .ref (r 3))]) hx hb d_X3_advance_51 rfl hl (by decide) rfl (fun ls hl => ?_)
          refine lv_aload_n hx hb d_X3_advance_52 rfl (lv_at hl 1 rfl) ?_
          refine lv_iload_n hx hb d_X3_advance_53 rfl (lv_at hl 0 rfl) ?_
          refine lv_if_eq (tgt := 72) hx hb d_X3_advance_54 (by decide) (fun _ => ?_) (fun c_54 => False.elim (by revert c_54; decide))
          refine lv_iconst (v := 0) hx hb d_X3_advance_72 (by decide) ?_
          refine va_put (D := D) (ci := 3) (v := .int 0) (ty := .int) (C := "LinkedUnits$Grammar") (T := TX3) (N := 12) hx hb hg iwX3 tyX3 tyX3_ok nmX3 hown hK hP hD hS 2 rfl rfl 2 (by decide) (hg _ m_96) (fun _ h9 => h9) rfl (by decide +kernel) rfl rfl (Nat.le_of_ble_eq_true rfl) d_X3_advance_73 (fun H locs hP hD hS => ?_)
          have hP : va_P D vwCl (wB cy r (upC (upC σ0 3 1 ((σ0 3 1) + 1)) 3 2 0)) H := hP
          have hD : va_D A (wB cy r (upC (upC σ0 3 1 ((σ0 3 1) + 1)) 3 2 0)) := hD
          have kp : Keep [(3, 1), (3, 2)] [] σ0 (upC (upC σ0 3 1 ((σ0 3 1) + 1)) 3 2 0) := keep_f kp (by decide)
          refine W.widen (k := 0) (n := 0) (Nat.le_of_ble_eq_true rfl) (Nat.le_of_ble_eq_true rfl) ?_
          exact k_vret (X := St) (w1 := fun τ => wB cy r τ) (upC (upC σ0 3 1 ((σ0 3 1) + 1)) 3 2 0) hx hb hr d_X3_advance_76 hlocks hP hK hD hS ⟨i0, kp⟩
        · -- not taken at 43
          refine lv_iconst (v := 1) hx hb d_X3_advance_46 (by decide) ?_
          refine lv_goto (tgt := 51) hx hb d_X3_advance_47 (by decide) ?_
          refine lv_istore_n (lv' := [(1, .int 1), (0, .ref (r 3))]) hx hb d_X3_advance_51 rfl hl (by decide) rfl (fun ls hl => ?_)
          refine lv_aload_n hx hb d_X3_advance_52 rfl (lv_at hl 1 rfl) ?_
          refine lv_iload_n hx hb d_X3_advance_53 rfl (lv_at hl 0 rfl) ?_
          refine lv_if_eq (tgt := 72) hx hb d_X3_advance_54 (by decide) (fun c_54 => absurd c_54 (by decide)) (fun _ => ?_)
          refine lv_aload_n hx hb d_X3_advance_57 rfl (lv_at hl 1 rfl) ?_
          refine va_get (D := D) (ci := 3) (v := .ref (r 2)) (C := "LinkedUnits$Grammar") (T := TX3) (N := 12) hx hb hg iwX3 hown hK hP 2 rfl rfl 0 (by decide) (hg _ m_94) (fun _ h9 => h9) rfl d_X3_advance_58 ?_
          refine va_getN (D := D) (ci := 10) (v := .ref (r 13)) (C := "LinkedUnits$Tokens") (T := TX10) (N := 10) hx hb hg iwX10 hown hK hP 1 rfl rfl 5 (by decide) (va_Nw.use rfl (hNW.1 _ nm_50)) (fun _ h9 => h9) rfl d_X3_advance_61 ?_
          refine lv_aload_n hx hb d_X3_advance_64 rfl (lv_at hl 1 rfl) ?_
          refine va_get (D := D) (ci := 3) (v := .int ((σ0 3 1) + 1)) (C := "LinkedUnits$Grammar") (T := TX3) (N := 12) hx hb hg iwX3 hown hK hP 2 rfl rfl 1 (by decide) (hg _ m_95) (fun _ h9 => h9) rfl d_X3_advance_65 ?_
          refine va_iald hx hb hK hP 12 1 rfl rfl (k_in (n := 16002) (by decide) c_14 c_43) d_X3_advance_68 ?_
          refine k_any (fun v1 => ?_)
          refine lv_goto (tgt := 73) hx hb d_X3_advance_69 (by decide) ?_
          refine va_put (D := D) (ci := 3) (v := .int v1) (ty := .int) (C := "LinkedUnits$Grammar") (T := TX3) (N := 12) hx hb hg iwX3 tyX3 tyX3_ok nmX3 hown hK hP hD hS 2 rfl rfl 2 (by decide) (hg _ m_96) (fun _ h9 => h9) rfl (by decide +kernel) rfl rfl (Nat.le_of_ble_eq_true rfl) d_X3_advance_73 (fun H locs hP hD hS => ?_)
          have hP : va_P D vwCl (wB cy r (upC (upC σ0 3 1 ((σ0 3 1) + 1)) 3 2 v1)) H := hP
          have hD : va_D A (wB cy r (upC (upC σ0 3 1 ((σ0 3 1) + 1)) 3 2 v1)) := hD
          have kp : Keep [(3, 1), (3, 2)] [] σ0 (upC (upC σ0 3 1 ((σ0 3 1) + 1)) 3 2 v1) := keep_f kp (by decide)
          refine W.widen (k := 0) (n := 0) (Nat.le_of_ble_eq_true rfl) (Nat.le_of_ble_eq_true rfl) ?_
          exact k_vret (X := St) (w1 := fun τ => wB cy r τ) (upC (upC σ0 3 1 ((σ0 3 1) + 1)) 3 2 v1) hx hb hr d_X3_advance_76 hlocks hP hK hD hS ⟨i0, kp⟩
  rw [hH] at hgoal
  exact hgoal
