set_option maxHeartbeats 4000000 in
set_option maxRecDepth 100000 in
theorem s_X3_advance (l : Launch) (D : va_G) (cy : Nat → ClassId) (sz : Nat) (r : Nat → Nat) (σ : St) (inv : Inv σ) : Met l y_X3_advance (Cond.code y_X3_advance b_X3_advance 2 none :: GW) ({ frames := 0, cells := 0, slots := 0, locals := 0 } : Room) (va_Pc [.ref (r 3)] (kPre D cy sz (wB cy r σ))) ((fun A : Nat → Prop => va_Qv (S := St) (fun (τ : St) => Inv τ) (fun τ => kPost D cy A (wB cy r τ)) A) (va_A (wB cy r σ) sz)) 0 0 (va_A (wB cy r σ) sz) := by
  refine k_ofW (Qc := fun A => va_Qv (S := St) (fun (τ : St) => Inv τ) (fun τ => kPost D cy A (wB cy r τ)) A) (by decide) (Nat.le_of_ble_eq_true rfl) ?_
  intro p e s m below meth c A ls hx hb hr hml hown hlocks hin hg hNW hK hP hD hA hS hl
  have hl : lv_has ls 2 [(0, .ref (r 3))] := hl
  have hown : s.vm.findClass "LinkedUnits$Grammar" = some m.cls := hown
  obtain ⟨H, hH⟩ : ∃ H, H = s.heap := ⟨_, rfl⟩
  rw [← hH] at hP
  have hS : va_S A s.heap H [] := by rw [hH]; exact va_S.rf
  have hgoal : W p l e ({ frames := 0, cells := 0, slots := 0, locals := 0 } : Room) s m (([.ref (r 3)] : List Value).toArray) below meth c H [] 0 0 (MQ below (va_Qv (S := St) (fun (τ : St) => Inv τ) (fun τ => kPost D cy A (wB cy r τ)) A) (([.ref (r 3)] : List Value).toArray) s 0 0 A) (F0 m 0 ls []) := by
    refine lv_aload_n hx hb d_X3_advance_0 rfl (lv_at hl 0 rfl) ?_
    refine lv_dup hx hb d_X3_advance_1 rfl ?_
    refine va_get (D := D) (ci := 3) (v := .int (σ 3 1)) (C := "LinkedUnits$Grammar") (T := TX3) (N := 12) hx hb hg iwX3 hown hK hP 2 rfl rfl 1 (by decide) (hg _ m_95) (fun _ h9 => h9) rfl d_X3_advance_2 ?_
    refine lv_iconst (v := 1) hx hb d_X3_advance_5 (by decide) ?_
    refine lv_iadd hx hb d_X3_advance_6 ?_
    refine va_put (D := D) (ci := 3) (v := .int ((σ 3 1) + 1)) (ty := .int) (C := "LinkedUnits$Grammar") (T := TX3) (N := 12) hx hb hg iwX3 tyX3 tyX3_ok nmX3 hown hK hP hD hS 2 rfl rfl 1 (by decide) (hg _ m_95) (fun _ h9 => h9) rfl (by decide +kernel) rfl rfl (Nat.le_of_ble_eq_true rfl) d_X3_advance_7 (fun H locs hP hD hS => ?_)
    have hP : va_P D vwCl (wB cy r (upC σ 3 1 ((σ 3 1) + 1))) H := hP
    have hD : va_D A (wB cy r (upC σ 3 1 ((σ 3 1) + 1))) := hD
    refine lv_aload_n hx hb d_X3_advance_10 rfl (lv_at hl 0 rfl) ?_
    refine va_get (D := D) (ci := 3) (v := .int ((σ 3 1) + 1)) (C := "LinkedUnits$Grammar") (T := TX3) (N := 12) hx hb hg iwX3 hown hK hP 2 rfl rfl 1 (by decide) (hg _ m_95) (fun _ h9 => h9) rfl d_X3_advance_11 ?_
    refine lv_if_lt (tgt := 50) hx hb d_X3_advance_14 (by decide) (fun c_14 => ?_) (fun c_14 => ?_)
    · -- taken at 14
      refine lv_iconst (v := 0) hx hb d_X3_advance_50 (by decide) ?_
      refine lv_istore_n (lv' := [(1, .int 0), (0, .ref (r 3))]) hx hb d_X3_advance_51 rfl hl (by decide) rfl (fun ls hl => ?_)
      refine lv_aload_n hx hb d_X3_advance_52 rfl (lv_at hl 1 rfl) ?_
      refine lv_iload_n hx hb d_X3_advance_53 rfl (lv_at hl 0 rfl) ?_
      refine lv_if_eq (tgt := 72) hx hb d_X3_advance_54 (by decide) (fun _ => ?_) (fun c_54 => False.elim (by revert c_54; decide))
      refine lv_iconst (v := 0) hx hb d_X3_advance_72 (by decide) ?_
      refine va_put (D := D) (ci := 3) (v := .int 0) (ty := .int) (C := "LinkedUnits$Grammar") (T := TX3) (N := 12) hx hb hg iwX3 tyX3 tyX3_ok nmX3 hown hK hP hD hS 2 rfl rfl 2 (by decide) (hg _ m_96) (fun _ h9 => h9) rfl (by decide +kernel) rfl rfl (Nat.le_of_ble_eq_true rfl) d_X3_advance_73 (fun H locs hP hD hS => ?_)
      have hP : va_P D vwCl (wB cy r (upC (upC σ 3 1 ((σ 3 1) + 1)) 3 2 0)) H := hP
      have hD : va_D A (wB cy r (upC (upC σ 3 1 ((σ 3 1) + 1)) 3 2 0)) := hD
      refine W.widen (k := 0) (n := 0) (Nat.le_of_ble_eq_true rfl) (Nat.le_of_ble_eq_true rfl) ?_
      exact k_vret (X := St) (w1 := fun τ => wB cy r τ) (upC (upC σ 3 1 ((σ 3 1) + 1)) 3 2 0) hx hb hr d_X3_advance_76 hlocks hP hK hD hS inv
    · -- not taken at 14
      refine lv_aload_n hx hb d_X3_advance_17 rfl (lv_at hl 0 rfl) ?_
      refine va_get (D := D) (ci := 3) (v := .int ((σ 3 1) + 1)) (C := "LinkedUnits$Grammar") (T := TX3) (N := 12) hx hb hg iwX3 hown hK hP 2 rfl rfl 1 (by decide) (hg _ m_95) (fun _ h9 => h9) rfl d_X3_advance_18 ?_
      refine lv_aload_n hx hb d_X3_advance_21 rfl (lv_at hl 0 rfl) ?_
      refine va_get (D := D) (ci := 3) (v := .ref (r 2)) (C := "LinkedUnits$Grammar") (T := TX3) (N := 12) hx hb hg iwX3 hown hK hP 2 rfl rfl 0 (by decide) (hg _ m_94) (fun _ h9 => h9) rfl d_X3_advance_22 ?_
      refine va_getN (D := D) (ci := 10) (v := .int (σ 2 4)) (C := "LinkedUnits$Tokens") (T := TX10) (N := 10) hx hb hg iwX10 hown hK hP 1 rfl rfl 4 (by decide) (va_Nw.use rfl (hNW.1 _ nm_47)) (fun _ h9 => h9) rfl rfl d_X3_advance_25 ?_
      refine lv_icmp_ge (tgt := 50) hx hb d_X3_advance_28 (by decide) (fun c_28 => ?_) (fun c_28 => ?_)
      · -- taken at 28
        refine lv_iconst (v := 0) hx hb d_X3_advance_50 (by decide) ?_
        refine lv_istore_n (lv' := [(1, .int 0), (0, .ref (r 3))]) hx hb d_X3_advance_51 rfl hl (by decide) rfl (fun ls hl => ?_)
        refine lv_aload_n hx hb d_X3_advance_52 rfl (lv_at hl 1 rfl) ?_
        refine lv_iload_n hx hb d_X3_advance_53 rfl (lv_at hl 0 rfl) ?_
        refine lv_if_eq (tgt := 72) hx hb d_X3_advance_54 (by decide) (fun _ => ?_) (fun c_54 => False.elim (by revert c_54; decide))
        refine lv_iconst (v := 0) hx hb d_X3_advance_72 (by decide) ?_
        refine va_put (D := D) (ci := 3) (v := .int 0) (ty := .int) (C := "LinkedUnits$Grammar") (T := TX3) (N := 12) hx hb hg iwX3 tyX3 tyX3_ok nmX3 hown hK hP hD hS 2 rfl rfl 2 (by decide) (hg _ m_96) (fun _ h9 => h9) rfl (by decide +kernel) rfl rfl (Nat.le_of_ble_eq_true rfl) d_X3_advance_73 (fun H locs hP hD hS => ?_)
        have hP : va_P D vwCl (wB cy r (upC (upC σ 3 1 ((σ 3 1) + 1)) 3 2 0)) H := hP
        have hD : va_D A (wB cy r (upC (upC σ 3 1 ((σ 3 1) + 1)) 3 2 0)) := hD
        refine W.widen (k := 0) (n := 0) (Nat.le_of_ble_eq_true rfl) (Nat.le_of_ble_eq_true rfl) ?_
        exact k_vret (X := St) (w1 := fun τ => wB cy r τ) (upC (upC σ 3 1 ((σ 3 1) + 1)) 3 2 0) hx hb hr d_X3_advance_76 hlocks hP hK hD hS inv
      · -- not taken at 28
        refine lv_aload_n hx hb d_X3_advance_31 rfl (lv_at hl 0 rfl) ?_
        refine va_get (D := D) (ci := 3) (v := .int ((σ 3 1) + 1)) (C := "LinkedUnits$Grammar") (T := TX3) (N := 12) hx hb hg iwX3 hown hK hP 2 rfl rfl 1 (by decide) (hg _ m_95) (fun _ h9 => h9) rfl d_X3_advance_32 ?_
        refine lv_aload_n hx hb d_X3_advance_35 rfl (lv_at hl 0 rfl) ?_
        refine va_get (D := D) (ci := 3) (v := .ref (r 2)) (C := "LinkedUnits$Grammar") (T := TX3) (N := 12) hx hb hg iwX3 hown hK hP 2 rfl rfl 0 (by decide) (hg _ m_94) (fun _ h9 => h9) rfl d_X3_advance_36 ?_
        refine va_getN (D := D) (ci := 10) (v := .ref (r 13)) (C := "LinkedUnits$Tokens") (T := TX10) (N := 10) hx hb hg iwX10 hown hK hP 1 rfl rfl 5 (by decide) (va_Nw.use rfl (hNW.1 _ nm_50)) (fun _ h9 => h9) rfl rfl d_X3_advance_39 ?_
        refine va_alen hx hb hK hP 12 1 rfl rfl (v := 16002) (by show Int32.ofNat 16002 = 16002; decide) d_X3_advance_42 ?_
        refine lv_icmp_ge (tgt := 50) hx hb d_X3_advance_43 (by decide) (fun c_43 => ?_) (fun c_43 => ?_)
        · -- taken at 43
          refine lv_iconst (v := 0) hx hb d_X3_advance_50 (by decide) ?_
          refine lv_istore_n (lv' := [(1, .int 0), (0, .ref (r 3))]) hx hb d_X3_advance_51 rfl hl (by decide) rfl (fun ls hl => ?_)
          refine lv_aload_n hx hb d_X3_advance_52 rfl (lv_at hl 1 rfl) ?_
          refine lv_iload_n hx hb d_X3_advance_53 rfl (lv_at hl 0 rfl) ?_
          refine lv_if_eq (tgt := 72) hx hb d_X3_advance_54 (by decide) (fun _ => ?_) (fun c_54 => False.elim (by revert c_54; decide))
          refine lv_iconst (v := 0) hx hb d_X3_advance_72 (by decide) ?_
          refine va_put (D := D) (ci := 3) (v := .int 0) (ty := .int) (C := "LinkedUnits$Grammar") (T := TX3) (N := 12) hx hb hg iwX3 tyX3 tyX3_ok nmX3 hown hK hP hD hS 2 rfl rfl 2 (by decide) (hg _ m_96) (fun _ h9 => h9) rfl (by decide +kernel) rfl rfl (Nat.le_of_ble_eq_true rfl) d_X3_advance_73 (fun H locs hP hD hS => ?_)
          have hP : va_P D vwCl (wB cy r (upC (upC σ 3 1 ((σ 3 1) + 1)) 3 2 0)) H := hP
          have hD : va_D A (wB cy r (upC (upC σ 3 1 ((σ 3 1) + 1)) 3 2 0)) := hD
          refine W.widen (k := 0) (n := 0) (Nat.le_of_ble_eq_true rfl) (Nat.le_of_ble_eq_true rfl) ?_
          exact k_vret (X := St) (w1 := fun τ => wB cy r τ) (upC (upC σ 3 1 ((σ 3 1) + 1)) 3 2 0) hx hb hr d_X3_advance_76 hlocks hP hK hD hS inv
        · -- not taken at 43
          refine lv_iconst (v := 1) hx hb d_X3_advance_46 (by decide) ?_
          refine lv_goto (tgt := 51) hx hb d_X3_advance_47 (by decide) ?_
          refine lv_istore_n (lv' := [(1, .int 1), (0, .ref (r 3))]) hx hb d_X3_advance_51 rfl hl (by decide) rfl (fun ls hl => ?_)
          refine lv_aload_n hx hb d_X3_advance_52 rfl (lv_at hl 1 rfl) ?_
          refine lv_iload_n hx hb d_X3_advance_53 rfl (lv_at hl 0 rfl) ?_
          refine lv_if_eq (tgt := 72) hx hb d_X3_advance_54 (by decide) (fun c_54 => absurd c_54 (by decide)) (fun _ => ?_)
          refine lv_aload_n hx hb d_X3_advance_57 rfl (lv_at hl 1 rfl) ?_
          refine va_get (D := D) (ci := 3) (v := .ref (r 2)) (C := "LinkedUnits$Grammar") (T := TX3) (N := 12) hx hb hg iwX3 hown hK hP 2 rfl rfl 0 (by decide) (hg _ m_94) (fun _ h9 => h9) rfl d_X3_advance_58 ?_
          refine va_getN (D := D) (ci := 10) (v := .ref (r 13)) (C := "LinkedUnits$Tokens") (T := TX10) (N := 10) hx hb hg iwX10 hown hK hP 1 rfl rfl 5 (by decide) (va_Nw.use rfl (hNW.1 _ nm_50)) (fun _ h9 => h9) rfl rfl d_X3_advance_61 ?_
          refine lv_aload_n hx hb d_X3_advance_64 rfl (lv_at hl 1 rfl) ?_
          refine va_get (D := D) (ci := 3) (v := .int ((σ 3 1) + 1)) (C := "LinkedUnits$Grammar") (T := TX3) (N := 12) hx hb hg iwX3 hown hK hP 2 rfl rfl 1 (by decide) (hg _ m_95) (fun _ h9 => h9) rfl d_X3_advance_65 ?_
          refine va_iald hx hb hK hP 12 1 rfl rfl (k_in (n := 16002) (by decide) c_14 c_43) d_X3_advance_68 ?_
          refine k_any (fun v1 => ?_)
          refine lv_goto (tgt := 73) hx hb d_X3_advance_69 (by decide) ?_
          refine va_put (D := D) (ci := 3) (v := .int v1) (ty := .int) (C := "LinkedUnits$Grammar") (T := TX3) (N := 12) hx hb hg iwX3 tyX3 tyX3_ok nmX3 hown hK hP hD hS 2 rfl rfl 2 (by decide) (hg _ m_96) (fun _ h9 => h9) rfl (by decide +kernel) rfl rfl (Nat.le_of_ble_eq_true rfl) d_X3_advance_73 (fun H locs hP hD hS => ?_)
          have hP : va_P D vwCl (wB cy r (upC (upC σ 3 1 ((σ 3 1) + 1)) 3 2 v1)) H := hP
          have hD : va_D A (wB cy r (upC (upC σ 3 1 ((σ 3 1) + 1)) 3 2 v1)) := hD
          refine W.widen (k := 0) (n := 0) (Nat.le_of_ble_eq_true rfl) (Nat.le_of_ble_eq_true rfl) ?_
          exact k_vret (X := St) (w1 := fun τ => wB cy r τ) (upC (upC σ 3 1 ((σ 3 1) + 1)) 3 2 v1) hx hb hr d_X3_advance_76 hlocks hP hK hD hS inv
  rw [hH] at hgoal
  exact hgoal
set_option maxHeartbeats 4000000 in
set_option maxRecDepth 100000 in
theorem s_X3_fail (l : Launch) (D : va_G) (cy : Nat → ClassId) (sz : Nat) (r : Nat → Nat) (σ : St) (inv : Inv σ) : Met l y_X3_fail (Cond.code y_X3_fail b_X3_fail 1 none :: GW) ({ frames := 0, cells := 0, slots := 0, locals := 0 } : Room) (va_Pc [.ref (r 3)] (kPre D cy sz (wB cy r σ))) ((fun A : Nat → Prop => va_Qv (S := St) (fun (τ : St) => Inv τ) (fun τ => kPost D cy A (wB cy r τ)) A) (va_A (wB cy r σ) sz)) 0 0 (va_A (wB cy r σ) sz) := by
  refine k_ofW (Qc := fun A => va_Qv (S := St) (fun (τ : St) => Inv τ) (fun τ => kPost D cy A (wB cy r τ)) A) (by decide) (Nat.le_of_ble_eq_true rfl) ?_
  intro p e s m below meth c A ls hx hb hr hml hown hlocks hin hg hNW hK hP hD hA hS hl
  have hl : lv_has ls 1 [(0, .ref (r 3))] := hl
  have hown : s.vm.findClass "LinkedUnits$Grammar" = some m.cls := hown
  obtain ⟨H, hH⟩ : ∃ H, H = s.heap := ⟨_, rfl⟩
  rw [← hH] at hP
  have hS : va_S A s.heap H [] := by rw [hH]; exact va_S.rf
  have hgoal : W p l e ({ frames := 0, cells := 0, slots := 0, locals := 0 } : Room) s m (([.ref (r 3)] : List Value).toArray) below meth c H [] 0 0 (MQ below (va_Qv (S := St) (fun (τ : St) => Inv τ) (fun τ => kPost D cy A (wB cy r τ)) A) (([.ref (r 3)] : List Value).toArray) s 0 0 A) (F0 m 0 ls []) := by
    refine lv_aload_n hx hb d_X3_fail_0 rfl (lv_at hl 0 rfl) ?_
    refine va_get (D := D) (ci := 3) (v := .int (σ 3 3)) (C := "LinkedUnits$Grammar") (T := TX3) (N := 12) hx hb hg iwX3 hown hK hP 2 rfl rfl 3 (by decide) (hg _ m_97) (fun _ h9 => h9) rfl d_X3_fail_1 ?_
    refine lv_if_ge (tgt := 15) hx hb d_X3_fail_4 (by decide) (fun c_4 => ?_) (fun c_4 => ?_)
    · -- taken at 4
      refine lv_aload_n hx hb d_X3_fail_15 rfl (lv_at hl 0 rfl) ?_
      refine lv_iconst (v := (-1)) hx hb d_X3_fail_16 (by decide) ?_
      refine va_put (D := D) (ci := 3) (v := .int (-1)) (ty := .int) (C := "LinkedUnits$Grammar") (T := TX3) (N := 12) hx hb hg iwX3 tyX3 tyX3_ok nmX3 hown hK hP hD hS 2 rfl rfl 2 (by decide) (hg _ m_96) (fun _ h9 => h9) rfl (by decide +kernel) rfl rfl (Nat.le_of_ble_eq_true rfl) d_X3_fail_17 (fun H locs hP hD hS => ?_)
      have hP : va_P D vwCl (wB cy r (upC σ 3 2 (-1))) H := hP
      have hD : va_D A (wB cy r (upC σ 3 2 (-1))) := hD
      refine W.widen (k := 0) (n := 0) (Nat.le_of_ble_eq_true rfl) (Nat.le_of_ble_eq_true rfl) ?_
      exact k_vret (X := St) (w1 := fun τ => wB cy r τ) (upC σ 3 2 (-1)) hx hb hr d_X3_fail_20 hlocks hP hK hD hS inv
    · -- not taken at 4
      refine lv_aload_n hx hb d_X3_fail_7 rfl (lv_at hl 0 rfl) ?_
      refine lv_aload_n hx hb d_X3_fail_8 rfl (lv_at hl 0 rfl) ?_
      refine va_get (D := D) (ci := 3) (v := .int (σ 3 1)) (C := "LinkedUnits$Grammar") (T := TX3) (N := 12) hx hb hg iwX3 hown hK hP 2 rfl rfl 1 (by decide) (hg _ m_95) (fun _ h9 => h9) rfl d_X3_fail_9 ?_
      refine va_put (D := D) (ci := 3) (v := .int (σ 3 1)) (ty := .int) (C := "LinkedUnits$Grammar") (T := TX3) (N := 12) hx hb hg iwX3 tyX3 tyX3_ok nmX3 hown hK hP hD hS 2 rfl rfl 3 (by decide) (hg _ m_97) (fun _ h9 => h9) rfl (by decide +kernel) rfl rfl (Nat.le_of_ble_eq_true rfl) d_X3_fail_12 (fun H locs hP hD hS => ?_)
      have hP : va_P D vwCl (wB cy r (upC σ 3 3 (σ 3 1))) H := hP
      have hD : va_D A (wB cy r (upC σ 3 3 (σ 3 1))) := hD
      refine lv_aload_n hx hb d_X3_fail_15 rfl (lv_at hl 0 rfl) ?_
      refine lv_iconst (v := (-1)) hx hb d_X3_fail_16 (by decide) ?_
      refine va_put (D := D) (ci := 3) (v := .int (-1)) (ty := .int) (C := "LinkedUnits$Grammar") (T := TX3) (N := 12) hx hb hg iwX3 tyX3 tyX3_ok nmX3 hown hK hP hD hS 2 rfl rfl 2 (by decide) (hg _ m_96) (fun _ h9 => h9) rfl (by decide +kernel) rfl rfl (Nat.le_of_ble_eq_true rfl) d_X3_fail_17 (fun H locs hP hD hS => ?_)
      have hP : va_P D vwCl (wB cy r (upC (upC σ 3 3 (σ 3 1)) 3 2 (-1))) H := hP
      have hD : va_D A (wB cy r (upC (upC σ 3 3 (σ 3 1)) 3 2 (-1))) := hD
      refine W.widen (k := 0) (n := 0) (Nat.le_of_ble_eq_true rfl) (Nat.le_of_ble_eq_true rfl) ?_
      exact k_vret (X := St) (w1 := fun τ => wB cy r τ) (upC (upC σ 3 3 (σ 3 1)) 3 2 (-1)) hx hb hr d_X3_fail_20 hlocks hP hK hD hS inv
  rw [hH] at hgoal
  exact hgoal
set_option maxHeartbeats 4000000 in
set_option maxRecDepth 100000 in
theorem s_X3_stars (l : Launch) (D : va_G) (cy : Nat → ClassId) (sz : Nat) (r : Nat → Nat) (σ : St) (inv : Inv σ) : Met l y_X3_stars (Cond.code y_X3_stars b_X3_stars 2 (some .int) :: GW) ({ frames := 1, cells := 0, slots := 0, locals := 21 } : Room) (va_Pc [.ref (r 3)] (kPre D cy sz (wB cy r σ))) ((fun A : Nat → Prop => va_Qi (S := St) (fun (_ : Int32) (τ : St) => Inv τ) (fun τ => kPost D cy A (wB cy r τ)) A) (va_A (wB cy r σ) sz)) 0 0 (va_A (wB cy r σ) sz) := by
  refine k_ofW (Qc := fun A => va_Qi (S := St) (fun (_ : Int32) (τ : St) => Inv τ) (fun τ => kPost D cy A (wB cy r τ)) A) (by decide) (Nat.le_of_ble_eq_true rfl) ?_
  intro p e s m below meth c A ls hx hb hr hml hown hlocks hin hg hNW hK hP hD hA hS hl
  have hl : lv_has ls 2 [(0, .ref (r 3))] := hl
  have hown : s.vm.findClass "LinkedUnits$Grammar" = some m.cls := hown
  have b2 : ∀ (N : Nat) (σ : St) (x1 : Int32) (H : Heap) (locs : List Loc) (ls : Array Slot), upm x1 = N → Inv σ → va_P D vwCl (wB cy r σ) H → va_D A (wB cy r σ) → va_S A s.heap H locs → lv_has ls 2 [(0, .ref (r 3)), (1, .int x1)] → W p l e ({ frames := 1, cells := 0, slots := 0, locals := 21 } : Room) s m (([.ref (r 3)] : List Value).toArray) below meth c H locs 0 0 (MQ below (va_Qi (S := St) (fun (_ : Int32) (τ : St) => Inv τ) (fun τ => kPost D cy A (wB cy r τ)) A) (([.ref (r 3)] : List Value).toArray) s 0 0 A) (F0 m 2 ls []) := by
    intro N
    induction N using Nat.strongRecOn with
    | _ N ih2 =>
      intro σ x1 H locs ls N2 inv hP hD hS hl
      refine lv_iload_n hx hb d_X3_stars_2 rfl (lv_at hl 1 rfl) ?_
      refine lv_iconst (v := 5) hx hb d_X3_stars_3 (by decide) ?_
      refine lv_icmp_ge (tgt := 26) hx hb d_X3_stars_4 (by decide) (fun c_4 => ?_) (fun c_4 => ?_)
      · -- taken at 4
        refine lv_aload_n hx hb d_X3_stars_26 rfl (lv_at hl 0 rfl) ?_
        refine va_get (D := D) (ci := 3) (v := .int (σ 3 2)) (C := "LinkedUnits$Grammar") (T := TX3) (N := 12) hx hb hg iwX3 hown hK hP 2 rfl rfl 2 (by decide) (hg _ m_96) (fun _ h9 => h9) rfl d_X3_stars_27 ?_
        refine lv_bipush (v := 45) hx hb d_X3_stars_30 (by decide) ?_
        refine lv_icmp_ne (tgt := 39) hx hb d_X3_stars_32 (by decide) (fun c_32 => ?_) (fun c_32 => ?_)
        · -- taken at 32
          refine lv_iload_n hx hb d_X3_stars_39 rfl (lv_at hl 1 rfl) ?_
          refine W.widen (k := 0) (n := 0) (Nat.le_of_ble_eq_true rfl) (Nat.le_of_ble_eq_true rfl) ?_
          exact k_iret (X := St) (w1 := fun τ => wB cy r τ) σ hx hb hr d_X3_stars_40 hlocks hP hK hD hS inv
        · -- not taken at 32
          refine lv_aload_n hx hb d_X3_stars_35 rfl (lv_at hl 0 rfl) ?_
          refine s_callv (X := St) (w1 := fun τ => wB cy r τ) (va_runV (As := []) (rest := []) ⟨hx, hb, hml, hown, hg⟩ (s_X3_fail l D cy H.size r σ  inv ) (cwV 0 hg (gw_V m_907 m_909 ms_X3_fail m_3 m_910) rfl rfl rfl (by decide +kernel) ⟨(Nat.le_of_ble_eq_true rfl), (Nat.le_of_ble_eq_true rfl)⟩) (s_preV (As := []) hP hD hK hNW 2 rfl rfl) rfl rfl hl.1 rfl (lv_room (Nat.le_of_ble_eq_true rfl)) d_X3_stars_36 ⟨(Nat.le_of_ble_eq_true rfl), (Nat.le_of_ble_eq_true rfl)⟩) hP hD hS hA (fun σ1 H locs hw hP hD hS => ?_)
          have hP : va_P D vwCl (wB cy r σ1) H := hP
          have hD : va_D A (wB cy r σ1) := hD
          have i1 : Inv σ1 := hw
          refine lv_iload_n hx hb d_X3_stars_39 rfl (lv_at hl 1 rfl) ?_
          refine W.widen (k := 0) (n := 0) (Nat.le_of_ble_eq_true rfl) (Nat.le_of_ble_eq_true rfl) ?_
          exact k_iret (X := St) (w1 := fun τ => wB cy r τ) σ1 hx hb hr d_X3_stars_40 hlocks hP hK hD hS i1
      · -- not taken at 4
        refine lv_aload_n hx hb d_X3_stars_7 rfl (lv_at hl 0 rfl) ?_
        refine va_get (D := D) (ci := 3) (v := .int (σ 3 2)) (C := "LinkedUnits$Grammar") (T := TX3) (N := 12) hx hb hg iwX3 hown hK hP 2 rfl rfl 2 (by decide) (hg _ m_96) (fun _ h9 => h9) rfl d_X3_stars_8 ?_
        refine lv_bipush (v := 45) hx hb d_X3_stars_11 (by decide) ?_
        refine lv_icmp_ne (tgt := 26) hx hb d_X3_stars_13 (by decide) (fun c_13 => ?_) (fun c_13 => ?_)
        · -- taken at 13
          refine lv_aload_n hx hb d_X3_stars_26 rfl (lv_at hl 0 rfl) ?_
          refine va_get (D := D) (ci := 3) (v := .int (σ 3 2)) (C := "LinkedUnits$Grammar") (T := TX3) (N := 12) hx hb hg iwX3 hown hK hP 2 rfl rfl 2 (by decide) (hg _ m_96) (fun _ h9 => h9) rfl d_X3_stars_27 ?_
          refine lv_bipush (v := 45) hx hb d_X3_stars_30 (by decide) ?_
          refine lv_icmp_ne (tgt := 39) hx hb d_X3_stars_32 (by decide) (fun c_32 => ?_) (fun c_32 => ?_)
          · -- taken at 32
            refine lv_iload_n hx hb d_X3_stars_39 rfl (lv_at hl 1 rfl) ?_
            refine W.widen (k := 0) (n := 0) (Nat.le_of_ble_eq_true rfl) (Nat.le_of_ble_eq_true rfl) ?_
            exact k_iret (X := St) (w1 := fun τ => wB cy r τ) σ hx hb hr d_X3_stars_40 hlocks hP hK hD hS inv
          · -- not taken at 32
            refine lv_aload_n hx hb d_X3_stars_35 rfl (lv_at hl 0 rfl) ?_
            refine s_callv (X := St) (w1 := fun τ => wB cy r τ) (va_runV (As := []) (rest := []) ⟨hx, hb, hml, hown, hg⟩ (s_X3_fail l D cy H.size r σ  inv ) (cwV 0 hg (gw_V m_907 m_909 ms_X3_fail m_3 m_910) rfl rfl rfl (by decide +kernel) ⟨(Nat.le_of_ble_eq_true rfl), (Nat.le_of_ble_eq_true rfl)⟩) (s_preV (As := []) hP hD hK hNW 2 rfl rfl) rfl rfl hl.1 rfl (lv_room (Nat.le_of_ble_eq_true rfl)) d_X3_stars_36 ⟨(Nat.le_of_ble_eq_true rfl), (Nat.le_of_ble_eq_true rfl)⟩) hP hD hS hA (fun σ2 H locs hw hP hD hS => ?_)
            have hP : va_P D vwCl (wB cy r σ2) H := hP
            have hD : va_D A (wB cy r σ2) := hD
            have i2 : Inv σ2 := hw
            refine lv_iload_n hx hb d_X3_stars_39 rfl (lv_at hl 1 rfl) ?_
            refine W.widen (k := 0) (n := 0) (Nat.le_of_ble_eq_true rfl) (Nat.le_of_ble_eq_true rfl) ?_
            exact k_iret (X := St) (w1 := fun τ => wB cy r τ) σ2 hx hb hr d_X3_stars_40 hlocks hP hK hD hS i2
        · -- not taken at 13
          refine lv_aload_n hx hb d_X3_stars_16 rfl (lv_at hl 0 rfl) ?_
          refine s_callv (X := St) (w1 := fun τ => wB cy r τ) (va_runV (As := []) (rest := []) ⟨hx, hb, hml, hown, hg⟩ (s_X3_advance l D cy H.size r σ  inv ) (cwV 0 hg (gw_V m_899 m_901 ms_X3_advance m_3 m_902) rfl rfl rfl (by decide +kernel) ⟨(Nat.le_of_ble_eq_true rfl), (Nat.le_of_ble_eq_true rfl)⟩) (s_preV (As := []) hP hD hK hNW 2 rfl rfl) rfl rfl hl.1 rfl (lv_room (Nat.le_of_ble_eq_true rfl)) d_X3_stars_17 ⟨(Nat.le_of_ble_eq_true rfl), (Nat.le_of_ble_eq_true rfl)⟩) hP hD hS hA (fun σ3 H locs hw hP hD hS => ?_)
          have hP : va_P D vwCl (wB cy r σ3) H := hP
          have hD : va_D A (wB cy r σ3) := hD
          have i3 : Inv σ3 := hw
          refine lv_iinc (v := (x1 + 1)) (lv' := [(1, .int (x1 + 1)), (0, .ref (r 3))]) hx hb d_X3_stars_20 hl (k := 1) rfl rfl (by decide) rfl (fun ls hl => ?_)
          refine lv_goto (tgt := 2) hx hb d_X3_stars_23 (by decide) ?_
          exact ih2 _ (N2 ▸ upm_lt c_4) σ3 (x1 + 1) _ _ _ rfl i3 hP hD hS (lv_sub hl [1, 0] rfl)
  obtain ⟨H, hH⟩ : ∃ H, H = s.heap := ⟨_, rfl⟩
  rw [← hH] at hP
  have hS : va_S A s.heap H [] := by rw [hH]; exact va_S.rf
  have hgoal : W p l e ({ frames := 1, cells := 0, slots := 0, locals := 21 } : Room) s m (([.ref (r 3)] : List Value).toArray) below meth c H [] 0 0 (MQ below (va_Qi (S := St) (fun (_ : Int32) (τ : St) => Inv τ) (fun τ => kPost D cy A (wB cy r τ)) A) (([.ref (r 3)] : List Value).toArray) s 0 0 A) (F0 m 0 ls []) := by
    refine lv_iconst (v := 0) hx hb d_X3_stars_0 (by decide) ?_
    refine lv_istore_n (lv' := [(1, .int 0), (0, .ref (r 3))]) hx hb d_X3_stars_1 rfl hl (by decide) rfl (fun ls hl => ?_)
    exact b2 _ σ (0 : Int32) _ _ _ rfl inv hP hD hS (lv_sub hl [1, 0] rfl)
  rw [hH] at hgoal
  exact hgoal
set_option maxHeartbeats 4000000 in
set_option maxRecDepth 100000 in
theorem s_X3_add (l : Launch) (D : va_G) (cy : Nat → ClassId) (sz : Nat) (r : Nat → Nat) (σ : St) (x1 : Int32) (x2 : Int32) (x3 : Int32) (x4 : Int32) (inv : Inv σ) : Met l y_X3_add (Cond.code y_X3_add b_X3_add 6 (some .int) :: GW) ({ frames := 0, cells := 0, slots := 0, locals := 0 } : Room) (va_Pc [.ref (r 3), .int x1, .int x2, .int x3, .int x4] (kPre D cy sz (wB cy r σ))) ((fun A : Nat → Prop => va_Qi (S := St) (fun (_ : Int32) (τ : St) => Inv τ) (fun τ => kPost D cy A (wB cy r τ)) A) (va_A (wB cy r σ) sz)) 0 0 (va_A (wB cy r σ) sz) := by
  refine k_ofW (Qc := fun A => va_Qi (S := St) (fun (_ : Int32) (τ : St) => Inv τ) (fun τ => kPost D cy A (wB cy r τ)) A) (by decide) (Nat.le_of_ble_eq_true rfl) ?_
  intro p e s m below meth c A ls hx hb hr hml hown hlocks hin hg hNW hK hP hD hA hS hl
  have hl : lv_has ls 6 [(0, .ref (r 3)), (1, .int x1), (2, .int x2), (3, .int x3), (4, .int x4)] := hl
  have hown : s.vm.findClass "LinkedUnits$Grammar" = some m.cls := hown
  obtain ⟨H, hH⟩ : ∃ H, H = s.heap := ⟨_, rfl⟩
  rw [← hH] at hP
  have hS : va_S A s.heap H [] := by rw [hH]; exact va_S.rf
  have hgoal : W p l e ({ frames := 0, cells := 0, slots := 0, locals := 0 } : Room) s m (([.ref (r 3), .int x1, .int x2, .int x3, .int x4] : List Value).toArray) below meth c H [] 0 0 (MQ below (va_Qi (S := St) (fun (_ : Int32) (τ : St) => Inv τ) (fun τ => kPost D cy A (wB cy r τ)) A) (([.ref (r 3), .int x1, .int x2, .int x3, .int x4] : List Value).toArray) s 0 0 A) (F0 m 0 ls []) := by
    refine lv_aload_n hx hb d_X3_add_0 rfl (lv_at hl 0 rfl) ?_
    refine va_get (D := D) (ci := 3) (v := .int (σ 3 4)) (C := "LinkedUnits$Grammar") (T := TX3) (N := 12) hx hb hg iwX3 hown hK hP 2 rfl rfl 4 (by decide) (hg _ m_99) (fun _ h9 => h9) rfl d_X3_add_1 ?_
    refine lv_istore (lv' := [(5, .int (σ 3 4)), (0, .ref (r 3)), (1, .int x1), (2, .int x2), (3, .int x3), (4, .int x4)]) hx hb d_X3_add_4 hl (by decide) rfl (fun ls hl => ?_)
    refine lv_iload hx hb d_X3_add_6 (lv_at hl 0 rfl) ?_
    refine lv_if_lt (tgt := 94) hx hb d_X3_add_8 (by decide) (fun c_8 => ?_) (fun c_8 => ?_)
    · -- taken at 8
      refine lv_iload hx hb d_X3_add_94 (lv_at hl 0 rfl) ?_
      refine W.widen (k := 0) (n := 0) (Nat.le_of_ble_eq_true rfl) (Nat.le_of_ble_eq_true rfl) ?_
      exact k_iret (X := St) (w1 := fun τ => wB cy r τ) σ hx hb hr d_X3_add_96 hlocks hP hK hD hS inv
    · -- not taken at 8
      refine lv_iload hx hb d_X3_add_11 (lv_at hl 0 rfl) ?_
      refine lv_aload_n hx hb d_X3_add_13 rfl (lv_at hl 1 rfl) ?_
      refine va_get (D := D) (ci := 3) (v := .ref (r 18)) (C := "LinkedUnits$Grammar") (T := TX3) (N := 12) hx hb hg iwX3 hown hK hP 2 rfl rfl 5 (by decide) (hg _ m_101) (fun _ h9 => h9) rfl d_X3_add_14 ?_
      refine va_alen hx hb hK hP 17 1 rfl rfl (v := 32100) (by show Int32.ofNat 32100 = 32100; decide) d_X3_add_17 ?_
      refine lv_icmp_ge (tgt := 94) hx hb d_X3_add_18 (by decide) (fun c_18 => ?_) (fun c_18 => ?_)
      · -- taken at 18
        refine lv_iload hx hb d_X3_add_94 (lv_at hl 0 rfl) ?_
        refine W.widen (k := 0) (n := 0) (Nat.le_of_ble_eq_true rfl) (Nat.le_of_ble_eq_true rfl) ?_
        exact k_iret (X := St) (w1 := fun τ => wB cy r τ) σ hx hb hr d_X3_add_96 hlocks hP hK hD hS inv
      · -- not taken at 18
        refine lv_iload hx hb d_X3_add_21 (lv_at hl 0 rfl) ?_
        refine lv_aload_n hx hb d_X3_add_23 rfl (lv_at hl 1 rfl) ?_
        refine va_get (D := D) (ci := 3) (v := .ref (r 19)) (C := "LinkedUnits$Grammar") (T := TX3) (N := 12) hx hb hg iwX3 hown hK hP 2 rfl rfl 6 (by decide) (hg _ m_104) (fun _ h9 => h9) rfl d_X3_add_24 ?_
        refine va_alen hx hb hK hP 18 1 rfl rfl (v := 32100) (by show Int32.ofNat 32100 = 32100; decide) d_X3_add_27 ?_
        refine lv_icmp_ge (tgt := 94) hx hb d_X3_add_28 (by decide) (fun c_28 => ?_) (fun c_28 => ?_)
        · -- taken at 28
          refine lv_iload hx hb d_X3_add_94 (lv_at hl 0 rfl) ?_
          refine W.widen (k := 0) (n := 0) (Nat.le_of_ble_eq_true rfl) (Nat.le_of_ble_eq_true rfl) ?_
          exact k_iret (X := St) (w1 := fun τ => wB cy r τ) σ hx hb hr d_X3_add_96 hlocks hP hK hD hS inv
        · -- not taken at 28
          refine lv_iload hx hb d_X3_add_31 (lv_at hl 0 rfl) ?_
          refine lv_aload_n hx hb d_X3_add_33 rfl (lv_at hl 1 rfl) ?_
          refine va_get (D := D) (ci := 3) (v := .ref (r 20)) (C := "LinkedUnits$Grammar") (T := TX3) (N := 12) hx hb hg iwX3 hown hK hP 2 rfl rfl 7 (by decide) (hg _ m_108) (fun _ h9 => h9) rfl d_X3_add_34 ?_
          refine va_alen hx hb hK hP 19 1 rfl rfl (v := 32100) (by show Int32.ofNat 32100 = 32100; decide) d_X3_add_37 ?_
          refine lv_icmp_ge (tgt := 94) hx hb d_X3_add_38 (by decide) (fun c_38 => ?_) (fun c_38 => ?_)
          · -- taken at 38
            refine lv_iload hx hb d_X3_add_94 (lv_at hl 0 rfl) ?_
            refine W.widen (k := 0) (n := 0) (Nat.le_of_ble_eq_true rfl) (Nat.le_of_ble_eq_true rfl) ?_
            exact k_iret (X := St) (w1 := fun τ => wB cy r τ) σ hx hb hr d_X3_add_96 hlocks hP hK hD hS inv
          · -- not taken at 38
            refine lv_iload hx hb d_X3_add_41 (lv_at hl 0 rfl) ?_
            refine lv_aload_n hx hb d_X3_add_43 rfl (lv_at hl 1 rfl) ?_
            refine va_get (D := D) (ci := 3) (v := .ref (r 21)) (C := "LinkedUnits$Grammar") (T := TX3) (N := 12) hx hb hg iwX3 hown hK hP 2 rfl rfl 8 (by decide) (hg _ m_112) (fun _ h9 => h9) rfl d_X3_add_44 ?_
            refine va_alen hx hb hK hP 20 1 rfl rfl (v := 32100) (by show Int32.ofNat 32100 = 32100; decide) d_X3_add_47 ?_
            refine lv_icmp_ge (tgt := 94) hx hb d_X3_add_48 (by decide) (fun c_48 => ?_) (fun c_48 => ?_)
            · -- taken at 48
              refine lv_iload hx hb d_X3_add_94 (lv_at hl 0 rfl) ?_
              refine W.widen (k := 0) (n := 0) (Nat.le_of_ble_eq_true rfl) (Nat.le_of_ble_eq_true rfl) ?_
              exact k_iret (X := St) (w1 := fun τ => wB cy r τ) σ hx hb hr d_X3_add_96 hlocks hP hK hD hS inv
            · -- not taken at 48
              refine lv_aload_n hx hb d_X3_add_51 rfl (lv_at hl 1 rfl) ?_
              refine va_get (D := D) (ci := 3) (v := .ref (r 18)) (C := "LinkedUnits$Grammar") (T := TX3) (N := 12) hx hb hg iwX3 hown hK hP 2 rfl rfl 5 (by decide) (hg _ m_101) (fun _ h9 => h9) rfl d_X3_add_52 ?_
              refine lv_iload hx hb d_X3_add_55 (lv_at hl 0 rfl) ?_
              refine lv_iload_n hx hb d_X3_add_57 rfl (lv_at hl 2 rfl) ?_
              refine va_iast hx hb hK hP hD hS 17 1 rfl rfl (k_in (n := 32100) (by decide) c_8 c_48) d_X3_add_58 (fun H locs hP hD hS => ?_)
              have hP : va_P D vwCl (wB cy r (upF σ 18 (upd (σ 18) ((σ 3 4)).toNatClampNeg x1))) H := hP
              have hD : va_D A (wB cy r (upF σ 18 (upd (σ 18) ((σ 3 4)).toNatClampNeg x1))) := hD
              refine lv_aload_n hx hb d_X3_add_59 rfl (lv_at hl 1 rfl) ?_
              refine va_get (D := D) (ci := 3) (v := .ref (r 19)) (C := "LinkedUnits$Grammar") (T := TX3) (N := 12) hx hb hg iwX3 hown hK hP 2 rfl rfl 6 (by decide) (hg _ m_104) (fun _ h9 => h9) rfl d_X3_add_60 ?_
              refine lv_iload hx hb d_X3_add_63 (lv_at hl 0 rfl) ?_
              refine lv_iload_n hx hb d_X3_add_65 rfl (lv_at hl 3 rfl) ?_
              refine va_iast hx hb hK hP hD hS 18 1 rfl rfl (k_in (n := 32100) (by decide) c_8 c_48) d_X3_add_66 (fun H locs hP hD hS => ?_)
              have hP : va_P D vwCl (wB cy r (upF (upF σ 18 (upd (σ 18) ((σ 3 4)).toNatClampNeg x1)) 19 (upd ((upF σ 18 (upd (σ 18) ((σ 3 4)).toNatClampNeg x1)) 19) ((σ 3 4)).toNatClampNeg x2))) H := hP
              have hD : va_D A (wB cy r (upF (upF σ 18 (upd (σ 18) ((σ 3 4)).toNatClampNeg x1)) 19 (upd ((upF σ 18 (upd (σ 18) ((σ 3 4)).toNatClampNeg x1)) 19) ((σ 3 4)).toNatClampNeg x2))) := hD
              refine lv_aload_n hx hb d_X3_add_67 rfl (lv_at hl 1 rfl) ?_
              refine va_get (D := D) (ci := 3) (v := .ref (r 20)) (C := "LinkedUnits$Grammar") (T := TX3) (N := 12) hx hb hg iwX3 hown hK hP 2 rfl rfl 7 (by decide) (hg _ m_108) (fun _ h9 => h9) rfl d_X3_add_68 ?_
              refine lv_iload hx hb d_X3_add_71 (lv_at hl 0 rfl) ?_
              refine lv_iload_n hx hb d_X3_add_73 rfl (lv_at hl 4 rfl) ?_
              refine va_iast hx hb hK hP hD hS 19 1 rfl rfl (k_in (n := 32100) (by decide) c_8 c_48) d_X3_add_74 (fun H locs hP hD hS => ?_)
              have hP : va_P D vwCl (wB cy r (upF (upF (upF σ 18 (upd (σ 18) ((σ 3 4)).toNatClampNeg x1)) 19 (upd ((upF σ 18 (upd (σ 18) ((σ 3 4)).toNatClampNeg x1)) 19) ((σ 3 4)).toNatClampNeg x2)) 20 (upd ((upF (upF σ 18 (upd (σ 18) ((σ 3 4)).toNatClampNeg x1)) 19 (upd ((upF σ 18 (upd (σ 18) ((σ 3 4)).toNatClampNeg x1)) 19) ((σ 3 4)).toNatClampNeg x2)) 20) ((σ 3 4)).toNatClampNeg x3))) H := hP
              have hD : va_D A (wB cy r (upF (upF (upF σ 18 (upd (σ 18) ((σ 3 4)).toNatClampNeg x1)) 19 (upd ((upF σ 18 (upd (σ 18) ((σ 3 4)).toNatClampNeg x1)) 19) ((σ 3 4)).toNatClampNeg x2)) 20 (upd ((upF (upF σ 18 (upd (σ 18) ((σ 3 4)).toNatClampNeg x1)) 19 (upd ((upF σ 18 (upd (σ 18) ((σ 3 4)).toNatClampNeg x1)) 19) ((σ 3 4)).toNatClampNeg x2)) 20) ((σ 3 4)).toNatClampNeg x3))) := hD
              refine lv_aload_n hx hb d_X3_add_75 rfl (lv_at hl 1 rfl) ?_
              refine va_get (D := D) (ci := 3) (v := .ref (r 21)) (C := "LinkedUnits$Grammar") (T := TX3) (N := 12) hx hb hg iwX3 hown hK hP 2 rfl rfl 8 (by decide) (hg _ m_112) (fun _ h9 => h9) rfl d_X3_add_76 ?_
              refine lv_iload hx hb d_X3_add_79 (lv_at hl 0 rfl) ?_
              refine lv_iload hx hb d_X3_add_81 (lv_at hl 5 rfl) ?_
              refine va_iast hx hb hK hP hD hS 20 1 rfl rfl (k_in (n := 32100) (by decide) c_8 c_48) d_X3_add_83 (fun H locs hP hD hS => ?_)
              have hP : va_P D vwCl (wB cy r (upF (upF (upF (upF σ 18 (upd (σ 18) ((σ 3 4)).toNatClampNeg x1)) 19 (upd ((upF σ 18 (upd (σ 18) ((σ 3 4)).toNatClampNeg x1)) 19) ((σ 3 4)).toNatClampNeg x2)) 20 (upd ((upF (upF σ 18 (upd (σ 18) ((σ 3 4)).toNatClampNeg x1)) 19 (upd ((upF σ 18 (upd (σ 18) ((σ 3 4)).toNatClampNeg x1)) 19) ((σ 3 4)).toNatClampNeg x2)) 20) ((σ 3 4)).toNatClampNeg x3)) 21 (upd ((upF (upF (upF σ 18 (upd (σ 18) ((σ 3 4)).toNatClampNeg x1)) 19 (upd ((upF σ 18 (upd (σ 18) ((σ 3 4)).toNatClampNeg x1)) 19) ((σ 3 4)).toNatClampNeg x2)) 20 (upd ((upF (upF σ 18 (upd (σ 18) ((σ 3 4)).toNatClampNeg x1)) 19 (upd ((upF σ 18 (upd (σ 18) ((σ 3 4)).toNatClampNeg x1)) 19) ((σ 3 4)).toNatClampNeg x2)) 20) ((σ 3 4)).toNatClampNeg x3)) 21) ((σ 3 4)).toNatClampNeg x4))) H := hP
              have hD : va_D A (wB cy r (upF (upF (upF (upF σ 18 (upd (σ 18) ((σ 3 4)).toNatClampNeg x1)) 19 (upd ((upF σ 18 (upd (σ 18) ((σ 3 4)).toNatClampNeg x1)) 19) ((σ 3 4)).toNatClampNeg x2)) 20 (upd ((upF (upF σ 18 (upd (σ 18) ((σ 3 4)).toNatClampNeg x1)) 19 (upd ((upF σ 18 (upd (σ 18) ((σ 3 4)).toNatClampNeg x1)) 19) ((σ 3 4)).toNatClampNeg x2)) 20) ((σ 3 4)).toNatClampNeg x3)) 21 (upd ((upF (upF (upF σ 18 (upd (σ 18) ((σ 3 4)).toNatClampNeg x1)) 19 (upd ((upF σ 18 (upd (σ 18) ((σ 3 4)).toNatClampNeg x1)) 19) ((σ 3 4)).toNatClampNeg x2)) 20 (upd ((upF (upF σ 18 (upd (σ 18) ((σ 3 4)).toNatClampNeg x1)) 19 (upd ((upF σ 18 (upd (σ 18) ((σ 3 4)).toNatClampNeg x1)) 19) ((σ 3 4)).toNatClampNeg x2)) 20) ((σ 3 4)).toNatClampNeg x3)) 21) ((σ 3 4)).toNatClampNeg x4))) := hD
              refine lv_aload_n hx hb d_X3_add_84 rfl (lv_at hl 1 rfl) ?_
              refine lv_dup hx hb d_X3_add_85 rfl ?_
              refine va_get (D := D) (ci := 3) (v := .int (σ 3 4)) (C := "LinkedUnits$Grammar") (T := TX3) (N := 12) hx hb hg iwX3 hown hK hP 2 rfl rfl 4 (by decide) (hg _ m_99) (fun _ h9 => h9) rfl d_X3_add_86 ?_
              refine lv_iconst (v := 1) hx hb d_X3_add_89 (by decide) ?_
              refine lv_iadd hx hb d_X3_add_90 ?_
              refine va_put (D := D) (ci := 3) (v := .int ((σ 3 4) + 1)) (ty := .int) (C := "LinkedUnits$Grammar") (T := TX3) (N := 12) hx hb hg iwX3 tyX3 tyX3_ok nmX3 hown hK hP hD hS 2 rfl rfl 4 (by decide) (hg _ m_99) (fun _ h9 => h9) rfl (by decide +kernel) rfl rfl (Nat.le_of_ble_eq_true rfl) d_X3_add_91 (fun H locs hP hD hS => ?_)
              have hP : va_P D vwCl (wB cy r (upC (upF (upF (upF (upF σ 18 (upd (σ 18) ((σ 3 4)).toNatClampNeg x1)) 19 (upd ((upF σ 18 (upd (σ 18) ((σ 3 4)).toNatClampNeg x1)) 19) ((σ 3 4)).toNatClampNeg x2)) 20 (upd ((upF (upF σ 18 (upd (σ 18) ((σ 3 4)).toNatClampNeg x1)) 19 (upd ((upF σ 18 (upd (σ 18) ((σ 3 4)).toNatClampNeg x1)) 19) ((σ 3 4)).toNatClampNeg x2)) 20) ((σ 3 4)).toNatClampNeg x3)) 21 (upd ((upF (upF (upF σ 18 (upd (σ 18) ((σ 3 4)).toNatClampNeg x1)) 19 (upd ((upF σ 18 (upd (σ 18) ((σ 3 4)).toNatClampNeg x1)) 19) ((σ 3 4)).toNatClampNeg x2)) 20 (upd ((upF (upF σ 18 (upd (σ 18) ((σ 3 4)).toNatClampNeg x1)) 19 (upd ((upF σ 18 (upd (σ 18) ((σ 3 4)).toNatClampNeg x1)) 19) ((σ 3 4)).toNatClampNeg x2)) 20) ((σ 3 4)).toNatClampNeg x3)) 21) ((σ 3 4)).toNatClampNeg x4)) 3 4 ((σ 3 4) + 1))) H := hP
              have hD : va_D A (wB cy r (upC (upF (upF (upF (upF σ 18 (upd (σ 18) ((σ 3 4)).toNatClampNeg x1)) 19 (upd ((upF σ 18 (upd (σ 18) ((σ 3 4)).toNatClampNeg x1)) 19) ((σ 3 4)).toNatClampNeg x2)) 20 (upd ((upF (upF σ 18 (upd (σ 18) ((σ 3 4)).toNatClampNeg x1)) 19 (upd ((upF σ 18 (upd (σ 18) ((σ 3 4)).toNatClampNeg x1)) 19) ((σ 3 4)).toNatClampNeg x2)) 20) ((σ 3 4)).toNatClampNeg x3)) 21 (upd ((upF (upF (upF σ 18 (upd (σ 18) ((σ 3 4)).toNatClampNeg x1)) 19 (upd ((upF σ 18 (upd (σ 18) ((σ 3 4)).toNatClampNeg x1)) 19) ((σ 3 4)).toNatClampNeg x2)) 20 (upd ((upF (upF σ 18 (upd (σ 18) ((σ 3 4)).toNatClampNeg x1)) 19 (upd ((upF σ 18 (upd (σ 18) ((σ 3 4)).toNatClampNeg x1)) 19) ((σ 3 4)).toNatClampNeg x2)) 20) ((σ 3 4)).toNatClampNeg x3)) 21) ((σ 3 4)).toNatClampNeg x4)) 3 4 ((σ 3 4) + 1))) := hD
              refine lv_iload hx hb d_X3_add_94 (lv_at hl 0 rfl) ?_
              refine W.widen (k := 0) (n := 0) (Nat.le_of_ble_eq_true rfl) (Nat.le_of_ble_eq_true rfl) ?_
              exact k_iret (X := St) (w1 := fun τ => wB cy r τ) (upC (upF (upF (upF (upF σ 18 (upd (σ 18) ((σ 3 4)).toNatClampNeg x1)) 19 (upd ((upF σ 18 (upd (σ 18) ((σ 3 4)).toNatClampNeg x1)) 19) ((σ 3 4)).toNatClampNeg x2)) 20 (upd ((upF (upF σ 18 (upd (σ 18) ((σ 3 4)).toNatClampNeg x1)) 19 (upd ((upF σ 18 (upd (σ 18) ((σ 3 4)).toNatClampNeg x1)) 19) ((σ 3 4)).toNatClampNeg x2)) 20) ((σ 3 4)).toNatClampNeg x3)) 21 (upd ((upF (upF (upF σ 18 (upd (σ 18) ((σ 3 4)).toNatClampNeg x1)) 19 (upd ((upF σ 18 (upd (σ 18) ((σ 3 4)).toNatClampNeg x1)) 19) ((σ 3 4)).toNatClampNeg x2)) 20 (upd ((upF (upF σ 18 (upd (σ 18) ((σ 3 4)).toNatClampNeg x1)) 19 (upd ((upF σ 18 (upd (σ 18) ((σ 3 4)).toNatClampNeg x1)) 19) ((σ 3 4)).toNatClampNeg x2)) 20) ((σ 3 4)).toNatClampNeg x3)) 21) ((σ 3 4)).toNatClampNeg x4)) 3 4 ((σ 3 4) + 1)) hx hb hr d_X3_add_96 hlocks hP hK hD hS inv
  rw [hH] at hgoal
  exact hgoal
set_option maxHeartbeats 4000000 in
set_option maxRecDepth 100000 in
theorem s_X3_deeper (l : Launch) (D : va_G) (cy : Nat → ClassId) (sz : Nat) (r : Nat → Nat) (σ : St) (x1 : Int32) (inv : Inv σ) : Met l y_X3_deeper (Cond.code y_X3_deeper b_X3_deeper 3 (some .boolean) :: GW) ({ frames := 1, cells := 0, slots := 0, locals := 21 } : Room) (va_Pc [.ref (r 3), .int x1] (kPre D cy sz (wB cy r σ))) ((fun A : Nat → Prop => va_Qi (S := St) (fun (v9 : Int32) (τ : St) => (v9 = 0 ∨ v9 = 1) ∧ Inv τ) (fun τ => kPost D cy A (wB cy r τ)) A) (va_A (wB cy r σ) sz)) 0 0 (va_A (wB cy r σ) sz) := by
  refine k_ofW (Qc := fun A => va_Qi (S := St) (fun (v9 : Int32) (τ : St) => (v9 = 0 ∨ v9 = 1) ∧ Inv τ) (fun τ => kPost D cy A (wB cy r τ)) A) (by decide) (Nat.le_of_ble_eq_true rfl) ?_
  intro p e s m below meth c A ls hx hb hr hml hown hlocks hin hg hNW hK hP hD hA hS hl
  have hl : lv_has ls 3 [(0, .ref (r 3)), (1, .int x1)] := hl
  have hown : s.vm.findClass "LinkedUnits$Grammar" = some m.cls := hown
  obtain ⟨H, hH⟩ : ∃ H, H = s.heap := ⟨_, rfl⟩
  rw [← hH] at hP
  have hS : va_S A s.heap H [] := by rw [hH]; exact va_S.rf
  have hgoal : W p l e ({ frames := 1, cells := 0, slots := 0, locals := 21 } : Room) s m (([.ref (r 3), .int x1] : List Value).toArray) below meth c H [] 0 0 (MQ below (va_Qi (S := St) (fun (v9 : Int32) (τ : St) => (v9 = 0 ∨ v9 = 1) ∧ Inv τ) (fun τ => kPost D cy A (wB cy r τ)) A) (([.ref (r 3), .int x1] : List Value).toArray) s 0 0 A) (F0 m 0 ls []) := by
    refine lv_iload_n hx hb d_X3_deeper_0 rfl (lv_at hl 1 rfl) ?_
    refine lv_bipush (v := 25) hx hb d_X3_deeper_1 (by decide) ?_
    refine lv_icmp_ge (tgt := 10) hx hb d_X3_deeper_3 (by decide) (fun c_3 => ?_) (fun c_3 => ?_)
    · -- taken at 3
      refine lv_iconst (v := 0) hx hb d_X3_deeper_10 (by decide) ?_
      refine lv_istore_n (lv' := [(2, .int 0), (0, .ref (r 3)), (1, .int x1)]) hx hb d_X3_deeper_11 rfl hl (by decide) rfl (fun ls hl => ?_)
      refine lv_iload_n hx hb d_X3_deeper_12 rfl (lv_at hl 0 rfl) ?_
      refine lv_if_eq (tgt := 23) hx hb d_X3_deeper_13 (by decide) (fun _ => ?_) (fun c_13 => False.elim (by revert c_13; decide))
      refine lv_aload_n hx hb d_X3_deeper_23 rfl (lv_at hl 1 rfl) ?_
      refine s_callv (X := St) (w1 := fun τ => wB cy r τ) (va_runV (As := []) (rest := []) ⟨hx, hb, hml, hown, hg⟩ (s_X3_fail l D cy H.size r σ  inv ) (cwV 0 hg (gw_V m_907 m_909 ms_X3_fail m_3 m_910) rfl rfl rfl (by decide +kernel) ⟨(Nat.le_of_ble_eq_true rfl), (Nat.le_of_ble_eq_true rfl)⟩) (s_preV (As := []) hP hD hK hNW 2 rfl rfl) rfl rfl hl.1 rfl (lv_room (Nat.le_of_ble_eq_true rfl)) d_X3_deeper_24 ⟨(Nat.le_of_ble_eq_true rfl), (Nat.le_of_ble_eq_true rfl)⟩) hP hD hS hA (fun σ1 H locs hw hP hD hS => ?_)
      have hP : va_P D vwCl (wB cy r σ1) H := hP
      have hD : va_D A (wB cy r σ1) := hD
      have i1 : Inv σ1 := hw
      refine lv_iload_n hx hb d_X3_deeper_27 rfl (lv_at hl 0 rfl) ?_
      refine W.widen (k := 0) (n := 0) (Nat.le_of_ble_eq_true rfl) (Nat.le_of_ble_eq_true rfl) ?_
      exact k_zret (X := St) (w1 := fun τ => wB cy r τ) σ1 hx hb hr (k_nz (Or.inl rfl)) d_X3_deeper_28 hlocks hP hK hD hS ⟨(Or.inl rfl), i1⟩
    · -- not taken at 3
      refine lv_iconst (v := 1) hx hb d_X3_deeper_6 (by decide) ?_
      refine lv_goto (tgt := 11) hx hb d_X3_deeper_7 (by decide) ?_
      refine lv_istore_n (lv' := [(2, .int 1), (0, .ref (r 3)), (1, .int x1)]) hx hb d_X3_deeper_11 rfl hl (by decide) rfl (fun ls hl => ?_)
      refine lv_iload_n hx hb d_X3_deeper_12 rfl (lv_at hl 0 rfl) ?_
      refine lv_if_eq (tgt := 23) hx hb d_X3_deeper_13 (by decide) (fun c_13 => absurd c_13 (by decide)) (fun _ => ?_)
      refine lv_aload_n hx hb d_X3_deeper_16 rfl (lv_at hl 1 rfl) ?_
      refine s_callv (X := St) (w1 := fun τ => wB cy r τ) (va_runV (As := []) (rest := []) ⟨hx, hb, hml, hown, hg⟩ (s_X3_advance l D cy H.size r σ  inv ) (cwV 0 hg (gw_V m_899 m_901 ms_X3_advance m_3 m_902) rfl rfl rfl (by decide +kernel) ⟨(Nat.le_of_ble_eq_true rfl), (Nat.le_of_ble_eq_true rfl)⟩) (s_preV (As := []) hP hD hK hNW 2 rfl rfl) rfl rfl hl.1 rfl (lv_room (Nat.le_of_ble_eq_true rfl)) d_X3_deeper_17 ⟨(Nat.le_of_ble_eq_true rfl), (Nat.le_of_ble_eq_true rfl)⟩) hP hD hS hA (fun σ2 H locs hw hP hD hS => ?_)
      have hP : va_P D vwCl (wB cy r σ2) H := hP
      have hD : va_D A (wB cy r σ2) := hD
      have i2 : Inv σ2 := hw
      refine lv_goto (tgt := 27) hx hb d_X3_deeper_20 (by decide) ?_
      refine lv_iload_n hx hb d_X3_deeper_27 rfl (lv_at hl 0 rfl) ?_
      refine W.widen (k := 0) (n := 0) (Nat.le_of_ble_eq_true rfl) (Nat.le_of_ble_eq_true rfl) ?_
      exact k_zret (X := St) (w1 := fun τ => wB cy r τ) σ2 hx hb hr (k_nz (Or.inr rfl)) d_X3_deeper_28 hlocks hP hK hD hS ⟨(Or.inr rfl), i2⟩
  rw [hH] at hgoal
  exact hgoal
set_option maxHeartbeats 4000000 in
set_option maxRecDepth 100000 in
theorem s_X3_accept (l : Launch) (D : va_G) (cy : Nat → ClassId) (sz : Nat) (r : Nat → Nat) (σ : St) (x1 : Int32) (inv : Inv σ) : Met l y_X3_accept (Cond.code y_X3_accept b_X3_accept 3 (some .boolean) :: GW) ({ frames := 1, cells := 0, slots := 0, locals := 21 } : Room) (va_Pc [.ref (r 3), .int x1] (kPre D cy sz (wB cy r σ))) ((fun A : Nat → Prop => va_Qi (S := St) (fun (v9 : Int32) (τ : St) => (v9 = 0 ∨ v9 = 1) ∧ Inv τ) (fun τ => kPost D cy A (wB cy r τ)) A) (va_A (wB cy r σ) sz)) 0 0 (va_A (wB cy r σ) sz) := by
  refine k_ofW (Qc := fun A => va_Qi (S := St) (fun (v9 : Int32) (τ : St) => (v9 = 0 ∨ v9 = 1) ∧ Inv τ) (fun τ => kPost D cy A (wB cy r τ)) A) (by decide) (Nat.le_of_ble_eq_true rfl) ?_
  intro p e s m below meth c A ls hx hb hr hml hown hlocks hin hg hNW hK hP hD hA hS hl
  have hl : lv_has ls 3 [(0, .ref (r 3)), (1, .int x1)] := hl
  have hown : s.vm.findClass "LinkedUnits$Grammar" = some m.cls := hown
  obtain ⟨H, hH⟩ : ∃ H, H = s.heap := ⟨_, rfl⟩
  rw [← hH] at hP
  have hS : va_S A s.heap H [] := by rw [hH]; exact va_S.rf
  have hgoal : W p l e ({ frames := 1, cells := 0, slots := 0, locals := 21 } : Room) s m (([.ref (r 3), .int x1] : List Value).toArray) below meth c H [] 0 0 (MQ below (va_Qi (S := St) (fun (v9 : Int32) (τ : St) => (v9 = 0 ∨ v9 = 1) ∧ Inv τ) (fun τ => kPost D cy A (wB cy r τ)) A) (([.ref (r 3), .int x1] : List Value).toArray) s 0 0 A) (F0 m 0 ls []) := by
    refine lv_aload_n hx hb d_X3_accept_0 rfl (lv_at hl 0 rfl) ?_
    refine va_get (D := D) (ci := 3) (v := .int (σ 3 2)) (C := "LinkedUnits$Grammar") (T := TX3) (N := 12) hx hb hg iwX3 hown hK hP 2 rfl rfl 2 (by decide) (hg _ m_96) (fun _ h9 => h9) rfl d_X3_accept_1 ?_
    refine lv_iload_n hx hb d_X3_accept_4 rfl (lv_at hl 1 rfl) ?_
    refine lv_icmp_ne (tgt := 12) hx hb d_X3_accept_5 (by decide) (fun c_5 => ?_) (fun c_5 => ?_)
    · -- taken at 5
      refine lv_iconst (v := 0) hx hb d_X3_accept_12 (by decide) ?_
      refine lv_istore_n (lv' := [(2, .int 0), (0, .ref (r 3)), (1, .int x1)]) hx hb d_X3_accept_13 rfl hl (by decide) rfl (fun ls hl => ?_)
      refine lv_iload_n hx hb d_X3_accept_14 rfl (lv_at hl 0 rfl) ?_
      refine lv_if_eq (tgt := 22) hx hb d_X3_accept_15 (by decide) (fun _ => ?_) (fun c_15 => False.elim (by revert c_15; decide))
      refine lv_iload_n hx hb d_X3_accept_22 rfl (lv_at hl 0 rfl) ?_
      refine W.widen (k := 0) (n := 0) (Nat.le_of_ble_eq_true rfl) (Nat.le_of_ble_eq_true rfl) ?_
      exact k_zret (X := St) (w1 := fun τ => wB cy r τ) σ hx hb hr (k_nz (Or.inl rfl)) d_X3_accept_23 hlocks hP hK hD hS ⟨(Or.inl rfl), inv⟩
    · -- not taken at 5
      refine lv_iconst (v := 1) hx hb d_X3_accept_8 (by decide) ?_
      refine lv_goto (tgt := 13) hx hb d_X3_accept_9 (by decide) ?_
      refine lv_istore_n (lv' := [(2, .int 1), (0, .ref (r 3)), (1, .int x1)]) hx hb d_X3_accept_13 rfl hl (by decide) rfl (fun ls hl => ?_)
      refine lv_iload_n hx hb d_X3_accept_14 rfl (lv_at hl 0 rfl) ?_
      refine lv_if_eq (tgt := 22) hx hb d_X3_accept_15 (by decide) (fun c_15 => absurd c_15 (by decide)) (fun _ => ?_)
      refine lv_aload_n hx hb d_X3_accept_18 rfl (lv_at hl 1 rfl) ?_
      refine s_callv (X := St) (w1 := fun τ => wB cy r τ) (va_runV (As := []) (rest := []) ⟨hx, hb, hml, hown, hg⟩ (s_X3_advance l D cy H.size r σ  inv ) (cwV 0 hg (gw_V m_899 m_901 ms_X3_advance m_3 m_902) rfl rfl rfl (by decide +kernel) ⟨(Nat.le_of_ble_eq_true rfl), (Nat.le_of_ble_eq_true rfl)⟩) (s_preV (As := []) hP hD hK hNW 2 rfl rfl) rfl rfl hl.1 rfl (lv_room (Nat.le_of_ble_eq_true rfl)) d_X3_accept_19 ⟨(Nat.le_of_ble_eq_true rfl), (Nat.le_of_ble_eq_true rfl)⟩) hP hD hS hA (fun σ1 H locs hw hP hD hS => ?_)
      have hP : va_P D vwCl (wB cy r σ1) H := hP
      have hD : va_D A (wB cy r σ1) := hD
      have i1 : Inv σ1 := hw
      refine lv_iload_n hx hb d_X3_accept_22 rfl (lv_at hl 0 rfl) ?_
      refine W.widen (k := 0) (n := 0) (Nat.le_of_ble_eq_true rfl) (Nat.le_of_ble_eq_true rfl) ?_
      exact k_zret (X := St) (w1 := fun τ => wB cy r τ) σ1 hx hb hr (k_nz (Or.inr rfl)) d_X3_accept_23 hlocks hP hK hD hS ⟨(Or.inr rfl), i1⟩
  rw [hH] at hgoal
  exact hgoal
set_option maxHeartbeats 4000000 in
set_option maxRecDepth 100000 in
theorem s_X3_expect (l : Launch) (D : va_G) (cy : Nat → ClassId) (sz : Nat) (r : Nat → Nat) (σ : St) (x1 : Int32) (inv : Inv σ) : Met l y_X3_expect (Cond.code y_X3_expect b_X3_expect 2 none :: GW) ({ frames := 1, cells := 0, slots := 0, locals := 21 } : Room) (va_Pc [.ref (r 3), .int x1] (kPre D cy sz (wB cy r σ))) ((fun A : Nat → Prop => va_Qv (S := St) (fun (τ : St) => Inv τ) (fun τ => kPost D cy A (wB cy r τ)) A) (va_A (wB cy r σ) sz)) 0 0 (va_A (wB cy r σ) sz) := by
  refine k_ofW (Qc := fun A => va_Qv (S := St) (fun (τ : St) => Inv τ) (fun τ => kPost D cy A (wB cy r τ)) A) (by decide) (Nat.le_of_ble_eq_true rfl) ?_
  intro p e s m below meth c A ls hx hb hr hml hown hlocks hin hg hNW hK hP hD hA hS hl
  have hl : lv_has ls 2 [(0, .ref (r 3)), (1, .int x1)] := hl
  have hown : s.vm.findClass "LinkedUnits$Grammar" = some m.cls := hown
  obtain ⟨H, hH⟩ : ∃ H, H = s.heap := ⟨_, rfl⟩
  rw [← hH] at hP
  have hS : va_S A s.heap H [] := by rw [hH]; exact va_S.rf
  have hgoal : W p l e ({ frames := 1, cells := 0, slots := 0, locals := 21 } : Room) s m (([.ref (r 3), .int x1] : List Value).toArray) below meth c H [] 0 0 (MQ below (va_Qv (S := St) (fun (τ : St) => Inv τ) (fun τ => kPost D cy A (wB cy r τ)) A) (([.ref (r 3), .int x1] : List Value).toArray) s 0 0 A) (F0 m 0 ls []) := by
    refine lv_aload_n hx hb d_X3_expect_0 rfl (lv_at hl 0 rfl) ?_
    refine va_get (D := D) (ci := 3) (v := .int (σ 3 2)) (C := "LinkedUnits$Grammar") (T := TX3) (N := 12) hx hb hg iwX3 hown hK hP 2 rfl rfl 2 (by decide) (hg _ m_96) (fun _ h9 => h9) rfl d_X3_expect_1 ?_
    refine lv_iload_n hx hb d_X3_expect_4 rfl (lv_at hl 1 rfl) ?_
    refine lv_icmp_ne (tgt := 15) hx hb d_X3_expect_5 (by decide) (fun c_5 => ?_) (fun c_5 => ?_)
    · -- taken at 5
      refine lv_aload_n hx hb d_X3_expect_15 rfl (lv_at hl 0 rfl) ?_
      refine s_callv (X := St) (w1 := fun τ => wB cy r τ) (va_runV (As := []) (rest := []) ⟨hx, hb, hml, hown, hg⟩ (s_X3_fail l D cy H.size r σ  inv ) (cwV 0 hg (gw_V m_907 m_909 ms_X3_fail m_3 m_910) rfl rfl rfl (by decide +kernel) ⟨(Nat.le_of_ble_eq_true rfl), (Nat.le_of_ble_eq_true rfl)⟩) (s_preV (As := []) hP hD hK hNW 2 rfl rfl) rfl rfl hl.1 rfl (lv_room (Nat.le_of_ble_eq_true rfl)) d_X3_expect_16 ⟨(Nat.le_of_ble_eq_true rfl), (Nat.le_of_ble_eq_true rfl)⟩) hP hD hS hA (fun σ1 H locs hw hP hD hS => ?_)
      have hP : va_P D vwCl (wB cy r σ1) H := hP
      have hD : va_D A (wB cy r σ1) := hD
      have i1 : Inv σ1 := hw
      refine W.widen (k := 0) (n := 0) (Nat.le_of_ble_eq_true rfl) (Nat.le_of_ble_eq_true rfl) ?_
      exact k_vret (X := St) (w1 := fun τ => wB cy r τ) σ1 hx hb hr d_X3_expect_19 hlocks hP hK hD hS i1
    · -- not taken at 5
      refine lv_aload_n hx hb d_X3_expect_8 rfl (lv_at hl 0 rfl) ?_
      refine s_callv (X := St) (w1 := fun τ => wB cy r τ) (va_runV (As := []) (rest := []) ⟨hx, hb, hml, hown, hg⟩ (s_X3_advance l D cy H.size r σ  inv ) (cwV 0 hg (gw_V m_899 m_901 ms_X3_advance m_3 m_902) rfl rfl rfl (by decide +kernel) ⟨(Nat.le_of_ble_eq_true rfl), (Nat.le_of_ble_eq_true rfl)⟩) (s_preV (As := []) hP hD hK hNW 2 rfl rfl) rfl rfl hl.1 rfl (lv_room (Nat.le_of_ble_eq_true rfl)) d_X3_expect_9 ⟨(Nat.le_of_ble_eq_true rfl), (Nat.le_of_ble_eq_true rfl)⟩) hP hD hS hA (fun σ2 H locs hw hP hD hS => ?_)
      have hP : va_P D vwCl (wB cy r σ2) H := hP
      have hD : va_D A (wB cy r σ2) := hD
      have i2 : Inv σ2 := hw
      refine lv_goto (tgt := 19) hx hb d_X3_expect_12 (by decide) ?_
      refine W.widen (k := 0) (n := 0) (Nat.le_of_ble_eq_true rfl) (Nat.le_of_ble_eq_true rfl) ?_
      exact k_vret (X := St) (w1 := fun τ => wB cy r τ) σ2 hx hb hr d_X3_expect_19 hlocks hP hK hD hS i2
  rw [hH] at hgoal
  exact hgoal
set_option maxHeartbeats 4000000 in
set_option maxRecDepth 100000 in
theorem s_X3_parameters (l : Launch) (D : va_G) (cy : Nat → ClassId) (sz : Nat) (r : Nat → Nat) (σ : St) (inv : Inv σ) : Met l y_X3_parameters (Cond.code y_X3_parameters b_X3_parameters 7 (some .int) :: GW) ({ frames := 2, cells := 0, slots := 0, locals := 43 } : Room) (va_Pc [.ref (r 3)] (kPre D cy sz (wB cy r σ))) ((fun A : Nat → Prop => va_Qi (S := St) (fun (_ : Int32) (τ : St) => Inv τ) (fun τ => kPost D cy A (wB cy r τ)) A) (va_A (wB cy r σ) sz)) 0 0 (va_A (wB cy r σ) sz) := by
  refine k_ofW (Qc := fun A => va_Qi (S := St) (fun (_ : Int32) (τ : St) => Inv τ) (fun τ => kPost D cy A (wB cy r τ)) A) (by decide) (Nat.le_of_ble_eq_true rfl) ?_
  intro p e s m below meth c A ls hx hb hr hml hown hlocks hin hg hNW hK hP hD hA hS hl
  have hl : lv_has ls 7 [(0, .ref (r 3))] := hl
  have hown : s.vm.findClass "LinkedUnits$Grammar" = some m.cls := hown
  have b6 : ∀ (N : Nat) (σ : St) (x1 : Int32) (x2 : Int32) (x3 : Int32) (H : Heap) (locs : List Loc) (ls : Array Slot), upm x2 = N → Inv σ → x3 = 0 ∨ x3 = 1 → va_P D vwCl (wB cy r σ) H → va_D A (wB cy r σ) → va_S A s.heap H locs → lv_has ls 7 [(0, .ref (r 3)), (1, .int x1), (2, .int x2), (3, .int x3)] → W p l e ({ frames := 2, cells := 0, slots := 0, locals := 43 } : Room) s m (([.ref (r 3)] : List Value).toArray) below meth c H locs 0 0 (MQ below (va_Qi (S := St) (fun (_ : Int32) (τ : St) => Inv τ) (fun τ => kPost D cy A (wB cy r τ)) A) (([.ref (r 3)] : List Value).toArray) s 0 0 A) (F0 m 6 ls []) := by
    intro N
    induction N using Nat.strongRecOn with
    | _ N ih6 =>
      intro σ x1 x2 x3 H locs ls N6 inv z_x3 hP hD hS hl
      refine lv_iload_n hx hb d_X3_parameters_6 rfl (lv_at hl 2 rfl) ?_
      refine lv_bipush (v := 8) hx hb d_X3_parameters_7 (by decide) ?_
      refine lv_icmp_ge (tgt := 100) hx hb d_X3_parameters_9 (by decide) (fun c_9 => ?_) (fun c_9 => ?_)
      · -- taken at 9
        refine lv_iload_n hx hb d_X3_parameters_100 rfl (lv_at hl 3 rfl) ?_
        refine lv_if_eq (tgt := 108) hx hb d_X3_parameters_101 (by decide) (fun c_101 => ?_) (fun c_101 => ?_)
        · -- taken at 101
          refine lv_iload_n hx hb d_X3_parameters_108 rfl (lv_at hl 1 rfl) ?_
          refine W.widen (k := 0) (n := 0) (Nat.le_of_ble_eq_true rfl) (Nat.le_of_ble_eq_true rfl) ?_
          exact k_iret (X := St) (w1 := fun τ => wB cy r τ) σ hx hb hr d_X3_parameters_109 hlocks hP hK hD hS inv
        · -- not taken at 101
          refine lv_aload_n hx hb d_X3_parameters_104 rfl (lv_at hl 0 rfl) ?_
          refine s_callv (X := St) (w1 := fun τ => wB cy r τ) (va_runV (As := []) (rest := []) ⟨hx, hb, hml, hown, hg⟩ (s_X3_fail l D cy H.size r σ  inv ) (cwV 0 hg (gw_V m_907 m_909 ms_X3_fail m_3 m_910) rfl rfl rfl (by decide +kernel) ⟨(Nat.le_of_ble_eq_true rfl), (Nat.le_of_ble_eq_true rfl)⟩) (s_preV (As := []) hP hD hK hNW 2 rfl rfl) rfl rfl hl.1 rfl (lv_room (Nat.le_of_ble_eq_true rfl)) d_X3_parameters_105 ⟨(Nat.le_of_ble_eq_true rfl), (Nat.le_of_ble_eq_true rfl)⟩) hP hD hS hA (fun σ1 H locs hw hP hD hS => ?_)
          have hP : va_P D vwCl (wB cy r σ1) H := hP
          have hD : va_D A (wB cy r σ1) := hD
          have i1 : Inv σ1 := hw
          refine lv_iload_n hx hb d_X3_parameters_108 rfl (lv_at hl 1 rfl) ?_
          refine W.widen (k := 0) (n := 0) (Nat.le_of_ble_eq_true rfl) (Nat.le_of_ble_eq_true rfl) ?_
          exact k_iret (X := St) (w1 := fun τ => wB cy r τ) σ1 hx hb hr d_X3_parameters_109 hlocks hP hK hD hS i1
      · -- not taken at 9
        refine lv_iload_n hx hb d_X3_parameters_12 rfl (lv_at hl 3 rfl) ?_
        refine lv_if_eq (tgt := 100) hx hb d_X3_parameters_13 (by decide) (fun c_13 => ?_) (fun c_13 => ?_)
        · -- taken at 13
          refine lv_iload_n hx hb d_X3_parameters_100 rfl (lv_at hl 3 rfl) ?_
          refine lv_if_eq (tgt := 108) hx hb d_X3_parameters_101 (by decide) (fun c_101 => ?_) (fun c_101 => ?_)
          · -- taken at 101
            refine lv_iload_n hx hb d_X3_parameters_108 rfl (lv_at hl 1 rfl) ?_
            refine W.widen (k := 0) (n := 0) (Nat.le_of_ble_eq_true rfl) (Nat.le_of_ble_eq_true rfl) ?_
            exact k_iret (X := St) (w1 := fun τ => wB cy r τ) σ hx hb hr d_X3_parameters_109 hlocks hP hK hD hS inv
          · -- not taken at 101
            refine lv_aload_n hx hb d_X3_parameters_104 rfl (lv_at hl 0 rfl) ?_
            refine s_callv (X := St) (w1 := fun τ => wB cy r τ) (va_runV (As := []) (rest := []) ⟨hx, hb, hml, hown, hg⟩ (s_X3_fail l D cy H.size r σ  inv ) (cwV 0 hg (gw_V m_907 m_909 ms_X3_fail m_3 m_910) rfl rfl rfl (by decide +kernel) ⟨(Nat.le_of_ble_eq_true rfl), (Nat.le_of_ble_eq_true rfl)⟩) (s_preV (As := []) hP hD hK hNW 2 rfl rfl) rfl rfl hl.1 rfl (lv_room (Nat.le_of_ble_eq_true rfl)) d_X3_parameters_105 ⟨(Nat.le_of_ble_eq_true rfl), (Nat.le_of_ble_eq_true rfl)⟩) hP hD hS hA (fun σ2 H locs hw hP hD hS => ?_)
            have hP : va_P D vwCl (wB cy r σ2) H := hP
            have hD : va_D A (wB cy r σ2) := hD
            have i2 : Inv σ2 := hw
            refine lv_iload_n hx hb d_X3_parameters_108 rfl (lv_at hl 1 rfl) ?_
            refine W.widen (k := 0) (n := 0) (Nat.le_of_ble_eq_true rfl) (Nat.le_of_ble_eq_true rfl) ?_
            exact k_iret (X := St) (w1 := fun τ => wB cy r τ) σ2 hx hb hr d_X3_parameters_109 hlocks hP hK hD hS i2
        · -- not taken at 13
          refine lv_aload_n hx hb d_X3_parameters_16 rfl (lv_at hl 0 rfl) ?_
          refine lv_iconst (v := 5) hx hb d_X3_parameters_17 (by decide) ?_
          refine s_callv (X := St) (w1 := fun τ => wB cy r τ) (va_runV (As := [.int 5]) (rest := []) ⟨hx, hb, hml, hown, hg⟩ (s_X3_expect l D cy H.size r σ (5 : Int32) inv ) (cwV 1 hg (gw_V m_903 m_905 ms_X3_expect m_3 m_906) rfl rfl rfl (by decide +kernel) ⟨(Nat.le_of_ble_eq_true rfl), (Nat.le_of_ble_eq_true rfl)⟩) (s_preV (As := [.int 5]) hP hD hK hNW 2 rfl rfl) rfl rfl hl.1 rfl (lv_room (Nat.le_of_ble_eq_true rfl)) d_X3_parameters_18 ⟨(Nat.le_of_ble_eq_true rfl), (Nat.le_of_ble_eq_true rfl)⟩) hP hD hS hA (fun σ3 H locs hw hP hD hS => ?_)
          have hP : va_P D vwCl (wB cy r σ3) H := hP
          have hD : va_D A (wB cy r σ3) := hD
          have i3 : Inv σ3 := hw
          refine lv_aload_n hx hb d_X3_parameters_21 rfl (lv_at hl 0 rfl) ?_
          refine s_calli (X := St) (w1 := fun τ => wB cy r τ) (va_runV (As := []) (rest := []) ⟨hx, hb, hml, hown, hg⟩ (s_X3_stars l D cy H.size r σ3  i3 ) (cwV 0 hg (gw_V m_911 m_913 ms_X3_stars m_3 m_914) rfl rfl rfl (by decide +kernel) ⟨(Nat.le_of_ble_eq_true rfl), (Nat.le_of_ble_eq_true rfl)⟩) (s_preV (As := []) hP hD hK hNW 2 rfl rfl) rfl rfl hl.1 rfl (lv_room (Nat.le_of_ble_eq_true rfl)) d_X3_parameters_22 ⟨(Nat.le_of_ble_eq_true rfl), (Nat.le_of_ble_eq_true rfl)⟩) hP hD hS hA (fun r4 σ4 H locs hw hP hD hS => ?_)
          have hP : va_P D vwCl (wB cy r σ4) H := hP
          have hD : va_D A (wB cy r σ4) := hD
          have i4 : Inv σ4 := hw
          refine lv_istore (lv' := [(4, .int r4), (0, .ref (r 3)), (1, .int x1), (2, .int x2), (3, .int x3)]) hx hb d_X3_parameters_25 hl (by decide) rfl (fun ls hl => ?_)
          refine lv_aload_n hx hb d_X3_parameters_27 rfl (lv_at hl 1 rfl) ?_
          refine va_get (D := D) (ci := 3) (v := .int (σ4 3 1)) (C := "LinkedUnits$Grammar") (T := TX3) (N := 12) hx hb hg iwX3 hown hK hP 2 rfl rfl 1 (by decide) (hg _ m_95) (fun _ h9 => h9) rfl d_X3_parameters_28 ?_
          refine lv_istore (lv' := [(5, .int (σ4 3 1)), (4, .int r4), (0, .ref (r 3)), (1, .int x1), (2, .int x2), (3, .int x3)]) hx hb d_X3_parameters_31 hl (by decide) rfl (fun ls hl => ?_)
          refine lv_aload_n hx hb d_X3_parameters_33 rfl (lv_at hl 2 rfl) ?_
          refine lv_iconst (v := 2) hx hb d_X3_parameters_34 (by decide) ?_
          refine s_calli (X := St) (w1 := fun τ => wB cy r τ) (va_runV (As := [.int 2]) (rest := []) ⟨hx, hb, hml, hown, hg⟩ (s_X3_accept l D cy H.size r σ4 (2 : Int32) i4 ) (cwV 1 hg (gw_V m_966 m_968 ms_X3_accept m_3 m_969) rfl rfl rfl (by decide +kernel) ⟨(Nat.le_of_ble_eq_true rfl), (Nat.le_of_ble_eq_true rfl)⟩) (s_preV (As := [.int 2]) hP hD hK hNW 2 rfl rfl) rfl rfl hl.1 rfl (lv_room (Nat.le_of_ble_eq_true rfl)) d_X3_parameters_35 ⟨(Nat.le_of_ble_eq_true rfl), (Nat.le_of_ble_eq_true rfl)⟩) hP hD hS hA (fun r5 σ5 H locs hw hP hD hS => ?_)
          have hP : va_P D vwCl (wB cy r σ5) H := hP
          have hD : va_D A (wB cy r σ5) := hD
          have i5 : Inv σ5 := hw.2
          have hz5 : r5 = 0 ∨ r5 = 1 := hw.1
          refine lv_istore (lv' := [(6, .int r5), (5, .int (σ4 3 1)), (4, .int r4), (0, .ref (r 3)), (1, .int x1), (2, .int x2), (3, .int x3)]) hx hb d_X3_parameters_38 hl (by decide) rfl (fun ls hl => ?_)
          refine lv_aload_n hx hb d_X3_parameters_40 rfl (lv_at hl 3 rfl) ?_
          refine lv_bipush (v := 24) hx hb d_X3_parameters_41 (by decide) ?_
          refine s_calli (X := St) (w1 := fun τ => wB cy r τ) (va_runV (As := [.int 24]) (rest := []) ⟨hx, hb, hml, hown, hg⟩ (s_X3_accept l D cy H.size r σ5 (24 : Int32) i5 ) (cwV 1 hg (gw_V m_966 m_968 ms_X3_accept m_3 m_969) rfl rfl rfl (by decide +kernel) ⟨(Nat.le_of_ble_eq_true rfl), (Nat.le_of_ble_eq_true rfl)⟩) (s_preV (As := [.int 24]) hP hD hK hNW 2 rfl rfl) rfl rfl hl.1 rfl (lv_room (Nat.le_of_ble_eq_true rfl)) d_X3_parameters_43 ⟨(Nat.le_of_ble_eq_true rfl), (Nat.le_of_ble_eq_true rfl)⟩) hP hD hS hA (fun r6 σ6 H locs hw hP hD hS => ?_)
          have hP : va_P D vwCl (wB cy r σ6) H := hP
          have hD : va_D A (wB cy r σ6) := hD
          have i6 : Inv σ6 := hw.2
          have hz6 : r6 = 0 ∨ r6 = 1 := hw.1
          refine lv_if_eq (tgt := 58) hx hb d_X3_parameters_46 (by decide) (fun c_46 => ?_) (fun c_46 => ?_)
          · -- taken at 46
            refine lv_aload_n hx hb d_X3_parameters_58 rfl (lv_at hl 3 rfl) ?_
            refine va_get (D := D) (ci := 3) (v := .ref (r 23)) (C := "LinkedUnits$Grammar") (T := TX3) (N := 12) hx hb hg iwX3 hown hK hP 2 rfl rfl 11 (by decide) (hg _ m_116) (fun _ h9 => h9) rfl d_X3_parameters_59 ?_
            refine lv_iload_n hx hb d_X3_parameters_62 rfl (lv_at hl 5 rfl) ?_
            refine lv_iload hx hb d_X3_parameters_63 (lv_at hl 0 rfl) ?_
            refine lv_if_eq (tgt := 73) hx hb d_X3_parameters_65 (by decide) (fun c_65 => ?_) (fun c_65 => ?_)
            · -- taken at 65
              refine lv_aload_n hx hb d_X3_parameters_73 rfl (lv_at hl 3 rfl) ?_
              refine va_get (D := D) (ci := 3) (v := .int (σ6 3 1)) (C := "LinkedUnits$Grammar") (T := TX3) (N := 12) hx hb hg iwX3 hown hK hP 2 rfl rfl 1 (by decide) (hg _ m_95) (fun _ h9 => h9) rfl d_X3_parameters_74 ?_
              refine s_set1 (X := Nat → Int32) (w := fun g => .inl (cy 1, 8, .inl g)) 22 rfl (va_runSN (As := [.ref (r 23), .int x2, .int (σ6 3 1)]) (rest := []) ⟨hx, hb, hml, hown, hg⟩ (c_set_any l D cy H.size (r 23) 8 (σ6 23) x2 (σ6 3 1) (Nat.le_of_ble_eq_true rfl)) ⟨(va_cnB 3 hg (gw_c m_981) rfl rfl rfl (hNW.1 _ nm_979) (hg _ m_1) (by decide +kernel) ⟨(Nat.le_of_ble_eq_true rfl), (Nat.le_of_ble_eq_true rfl)⟩), hg _ m_980, trivial⟩ (s_pre (ws := [((r 23), .inl (cy 1, 8, .inl (σ6 23)))]) (s_sub1 22 hP rfl) (s_subD 22 hD rfl) hK hNW) rfl rfl hl.1 rfl (lv_room (Nat.le_of_ble_eq_true rfl)) d_X3_parameters_77 ⟨(Nat.le_of_ble_eq_true rfl), (Nat.le_of_ble_eq_true rfl)⟩) hP hD hS hA (fun g7 H locs hw hP hD hS => ?_)
              have hP : va_P D vwCl (wB cy r (upF σ6 23 g7)) H := hP
              have hD : va_D A (wB cy r (upF σ6 23 g7)) := hD
              refine lv_iload_n hx hb d_X3_parameters_80 rfl (lv_at hl 4 rfl) ?_
              refine lv_iload hx hb d_X3_parameters_81 (lv_at hl 2 rfl) ?_
              refine s_call0 (va_runSN (As := [.int x1, .int r4]) (rest := []) ⟨hx, hb, hml, hown, hg⟩ (s_X8_withParameter l D cy H.size x1 r4 ) ⟨(va_cnB 2 hg (gw_c m_996) rfl rfl rfl (hNW.1 _ nm_994) (hg _ m_5) (by decide +kernel) ⟨(Nat.le_of_ble_eq_true rfl), (Nat.le_of_ble_eq_true rfl)⟩), hg _ m_995, trivial⟩ (s_pre (ws := []) (fun k q h => by simp at h) ⟨fun i j p q h => by simp at h, fun k q h => by simp at h⟩ hK hNW) rfl rfl hl.1 rfl (lv_room (Nat.le_of_ble_eq_true rfl)) d_X3_parameters_83 ⟨(Nat.le_of_ble_eq_true rfl), (Nat.le_of_ble_eq_true rfl)⟩) hP hD hS hA (fun r8 u8 H locs hw hP hD hS => ?_)
              have hP : va_P D vwCl (wB cy r (upF σ6 23 g7)) H := hP
              have hD : va_D A (wB cy r (upF σ6 23 g7)) := hD
              refine lv_istore_n (lv' := [(1, .int r8), (6, .int r5), (5, .int (σ4 3 1)), (4, .int r4), (0, .ref (r 3)), (2, .int x2), (3, .int x3)]) hx hb d_X3_parameters_86 rfl hl (by decide) rfl (fun ls hl => ?_)
              refine lv_aload_n hx hb d_X3_parameters_87 rfl (lv_at hl 4 rfl) ?_
              refine lv_bipush (v := 26) hx hb d_X3_parameters_88 (by decide) ?_
              refine s_calli (X := St) (w1 := fun τ => wB cy r τ) (va_runV (As := [.int 26]) (rest := []) ⟨hx, hb, hml, hown, hg⟩ (s_X3_accept l D cy H.size r (upF σ6 23 g7) (26 : Int32) i6 ) (cwV 1 hg (gw_V m_966 m_968 ms_X3_accept m_3 m_969) rfl rfl rfl (by decide +kernel) ⟨(Nat.le_of_ble_eq_true rfl), (Nat.le_of_ble_eq_true rfl)⟩) (s_preV (As := [.int 26]) hP hD hK hNW 2 rfl rfl) rfl rfl hl.1 rfl (lv_room (Nat.le_of_ble_eq_true rfl)) d_X3_parameters_90 ⟨(Nat.le_of_ble_eq_true rfl), (Nat.le_of_ble_eq_true rfl)⟩) hP hD hS hA (fun r9 σ9 H locs hw hP hD hS => ?_)
              have hP : va_P D vwCl (wB cy r σ9) H := hP
              have hD : va_D A (wB cy r σ9) := hD
              have i9 : Inv σ9 := hw.2
              have hz9 : r9 = 0 ∨ r9 = 1 := hw.1
              refine lv_istore_n (lv' := [(3, .int r9), (1, .int r8), (6, .int r5), (5, .int (σ4 3 1)), (4, .int r4), (0, .ref (r 3)), (2, .int x2)]) hx hb d_X3_parameters_93 rfl hl (by decide) rfl (fun ls hl => ?_)
              refine lv_iinc (v := (x2 + 1)) (lv' := [(2, .int (x2 + 1)), (3, .int r9), (1, .int r8), (6, .int r5), (5, .int (σ4 3 1)), (4, .int r4), (0, .ref (r 3))]) hx hb d_X3_parameters_94 hl (k := 6) rfl rfl (by decide) rfl (fun ls hl => ?_)
              refine lv_goto (tgt := 6) hx hb d_X3_parameters_97 (by decide) ?_
              exact ih6 _ (N6 ▸ upm_lt c_9) σ9 r8 (x2 + 1) r9 _ _ _ rfl i9 hz9 hP hD hS (lv_sub hl [6, 2, 0, 1] rfl)
            · -- not taken at 65
              refine lv_iload hx hb d_X3_parameters_68 (lv_at hl 1 rfl) ?_
              refine lv_goto (tgt := 77) hx hb d_X3_parameters_70 (by decide) ?_
              refine s_set1 (X := Nat → Int32) (w := fun g => .inl (cy 1, 8, .inl g)) 22 rfl (va_runSN (As := [.ref (r 23), .int x2, .int (σ4 3 1)]) (rest := []) ⟨hx, hb, hml, hown, hg⟩ (c_set_any l D cy H.size (r 23) 8 (σ6 23) x2 (σ4 3 1) (Nat.le_of_ble_eq_true rfl)) ⟨(va_cnB 3 hg (gw_c m_981) rfl rfl rfl (hNW.1 _ nm_979) (hg _ m_1) (by decide +kernel) ⟨(Nat.le_of_ble_eq_true rfl), (Nat.le_of_ble_eq_true rfl)⟩), hg _ m_980, trivial⟩ (s_pre (ws := [((r 23), .inl (cy 1, 8, .inl (σ6 23)))]) (s_sub1 22 hP rfl) (s_subD 22 hD rfl) hK hNW) rfl rfl hl.1 rfl (lv_room (Nat.le_of_ble_eq_true rfl)) d_X3_parameters_77 ⟨(Nat.le_of_ble_eq_true rfl), (Nat.le_of_ble_eq_true rfl)⟩) hP hD hS hA (fun g10 H locs hw hP hD hS => ?_)
              have hP : va_P D vwCl (wB cy r (upF σ6 23 g10)) H := hP
              have hD : va_D A (wB cy r (upF σ6 23 g10)) := hD
              refine lv_iload_n hx hb d_X3_parameters_80 rfl (lv_at hl 4 rfl) ?_
              refine lv_iload hx hb d_X3_parameters_81 (lv_at hl 2 rfl) ?_
              refine s_call0 (va_runSN (As := [.int x1, .int r4]) (rest := []) ⟨hx, hb, hml, hown, hg⟩ (s_X8_withParameter l D cy H.size x1 r4 ) ⟨(va_cnB 2 hg (gw_c m_996) rfl rfl rfl (hNW.1 _ nm_994) (hg _ m_5) (by decide +kernel) ⟨(Nat.le_of_ble_eq_true rfl), (Nat.le_of_ble_eq_true rfl)⟩), hg _ m_995, trivial⟩ (s_pre (ws := []) (fun k q h => by simp at h) ⟨fun i j p q h => by simp at h, fun k q h => by simp at h⟩ hK hNW) rfl rfl hl.1 rfl (lv_room (Nat.le_of_ble_eq_true rfl)) d_X3_parameters_83 ⟨(Nat.le_of_ble_eq_true rfl), (Nat.le_of_ble_eq_true rfl)⟩) hP hD hS hA (fun r11 u11 H locs hw hP hD hS => ?_)
              have hP : va_P D vwCl (wB cy r (upF σ6 23 g10)) H := hP
              have hD : va_D A (wB cy r (upF σ6 23 g10)) := hD
              refine lv_istore_n (lv' := [(1, .int r11), (6, .int r5), (5, .int (σ4 3 1)), (4, .int r4), (0, .ref (r 3)), (2, .int x2), (3, .int x3)]) hx hb d_X3_parameters_86 rfl hl (by decide) rfl (fun ls hl => ?_)
              refine lv_aload_n hx hb d_X3_parameters_87 rfl (lv_at hl 4 rfl) ?_
              refine lv_bipush (v := 26) hx hb d_X3_parameters_88 (by decide) ?_
              refine s_calli (X := St) (w1 := fun τ => wB cy r τ) (va_runV (As := [.int 26]) (rest := []) ⟨hx, hb, hml, hown, hg⟩ (s_X3_accept l D cy H.size r (upF σ6 23 g10) (26 : Int32) i6 ) (cwV 1 hg (gw_V m_966 m_968 ms_X3_accept m_3 m_969) rfl rfl rfl (by decide +kernel) ⟨(Nat.le_of_ble_eq_true rfl), (Nat.le_of_ble_eq_true rfl)⟩) (s_preV (As := [.int 26]) hP hD hK hNW 2 rfl rfl) rfl rfl hl.1 rfl (lv_room (Nat.le_of_ble_eq_true rfl)) d_X3_parameters_90 ⟨(Nat.le_of_ble_eq_true rfl), (Nat.le_of_ble_eq_true rfl)⟩) hP hD hS hA (fun r12 σ12 H locs hw hP hD hS => ?_)
              have hP : va_P D vwCl (wB cy r σ12) H := hP
              have hD : va_D A (wB cy r σ12) := hD
              have i12 : Inv σ12 := hw.2
              have hz12 : r12 = 0 ∨ r12 = 1 := hw.1
              refine lv_istore_n (lv' := [(3, .int r12), (1, .int r11), (6, .int r5), (5, .int (σ4 3 1)), (4, .int r4), (0, .ref (r 3)), (2, .int x2)]) hx hb d_X3_parameters_93 rfl hl (by decide) rfl (fun ls hl => ?_)
              refine lv_iinc (v := (x2 + 1)) (lv' := [(2, .int (x2 + 1)), (3, .int r12), (1, .int r11), (6, .int r5), (5, .int (σ4 3 1)), (4, .int r4), (0, .ref (r 3))]) hx hb d_X3_parameters_94 hl (k := 6) rfl rfl (by decide) rfl (fun ls hl => ?_)
              refine lv_goto (tgt := 6) hx hb d_X3_parameters_97 (by decide) ?_
              exact ih6 _ (N6 ▸ upm_lt c_9) σ12 r11 (x2 + 1) r12 _ _ _ rfl i12 hz12 hP hD hS (lv_sub hl [6, 2, 0, 1] rfl)
          · -- not taken at 46
            refine lv_aload_n hx hb d_X3_parameters_49 rfl (lv_at hl 3 rfl) ?_
            refine lv_bipush (v := 25) hx hb d_X3_parameters_50 (by decide) ?_
            refine s_callv (X := St) (w1 := fun τ => wB cy r τ) (va_runV (As := [.int 25]) (rest := []) ⟨hx, hb, hml, hown, hg⟩ (s_X3_expect l D cy H.size r σ6 (25 : Int32) i6 ) (cwV 1 hg (gw_V m_903 m_905 ms_X3_expect m_3 m_906) rfl rfl rfl (by decide +kernel) ⟨(Nat.le_of_ble_eq_true rfl), (Nat.le_of_ble_eq_true rfl)⟩) (s_preV (As := [.int 25]) hP hD hK hNW 2 rfl rfl) rfl rfl hl.1 rfl (lv_room (Nat.le_of_ble_eq_true rfl)) d_X3_parameters_52 ⟨(Nat.le_of_ble_eq_true rfl), (Nat.le_of_ble_eq_true rfl)⟩) hP hD hS hA (fun σ13 H locs hw hP hD hS => ?_)
            have hP : va_P D vwCl (wB cy r σ13) H := hP
            have hD : va_D A (wB cy r σ13) := hD
            have i13 : Inv σ13 := hw
            refine lv_iinc (v := (r4 + 1)) (lv' := [(4, .int (r4 + 1)), (6, .int r5), (5, .int (σ4 3 1)), (0, .ref (r 3)), (1, .int x1), (2, .int x2), (3, .int x3)]) hx hb d_X3_parameters_55 hl (k := 2) rfl rfl (by decide) rfl (fun ls hl => ?_)
            refine lv_aload_n hx hb d_X3_parameters_58 rfl (lv_at hl 3 rfl) ?_
            refine va_get (D := D) (ci := 3) (v := .ref (r 23)) (C := "LinkedUnits$Grammar") (T := TX3) (N := 12) hx hb hg iwX3 hown hK hP 2 rfl rfl 11 (by decide) (hg _ m_116) (fun _ h9 => h9) rfl d_X3_parameters_59 ?_
            refine lv_iload_n hx hb d_X3_parameters_62 rfl (lv_at hl 5 rfl) ?_
            refine lv_iload hx hb d_X3_parameters_63 (lv_at hl 1 rfl) ?_
            refine lv_if_eq (tgt := 73) hx hb d_X3_parameters_65 (by decide) (fun c_65 => ?_) (fun c_65 => ?_)
            · -- taken at 65
              refine lv_aload_n hx hb d_X3_parameters_73 rfl (lv_at hl 3 rfl) ?_
              refine va_get (D := D) (ci := 3) (v := .int (σ13 3 1)) (C := "LinkedUnits$Grammar") (T := TX3) (N := 12) hx hb hg iwX3 hown hK hP 2 rfl rfl 1 (by decide) (hg _ m_95) (fun _ h9 => h9) rfl d_X3_parameters_74 ?_
              refine s_set1 (X := Nat → Int32) (w := fun g => .inl (cy 1, 8, .inl g)) 22 rfl (va_runSN (As := [.ref (r 23), .int x2, .int (σ13 3 1)]) (rest := []) ⟨hx, hb, hml, hown, hg⟩ (c_set_any l D cy H.size (r 23) 8 (σ13 23) x2 (σ13 3 1) (Nat.le_of_ble_eq_true rfl)) ⟨(va_cnB 3 hg (gw_c m_981) rfl rfl rfl (hNW.1 _ nm_979) (hg _ m_1) (by decide +kernel) ⟨(Nat.le_of_ble_eq_true rfl), (Nat.le_of_ble_eq_true rfl)⟩), hg _ m_980, trivial⟩ (s_pre (ws := [((r 23), .inl (cy 1, 8, .inl (σ13 23)))]) (s_sub1 22 hP rfl) (s_subD 22 hD rfl) hK hNW) rfl rfl hl.1 rfl (lv_room (Nat.le_of_ble_eq_true rfl)) d_X3_parameters_77 ⟨(Nat.le_of_ble_eq_true rfl), (Nat.le_of_ble_eq_true rfl)⟩) hP hD hS hA (fun g14 H locs hw hP hD hS => ?_)
              have hP : va_P D vwCl (wB cy r (upF σ13 23 g14)) H := hP
              have hD : va_D A (wB cy r (upF σ13 23 g14)) := hD
              refine lv_iload_n hx hb d_X3_parameters_80 rfl (lv_at hl 4 rfl) ?_
              refine lv_iload hx hb d_X3_parameters_81 (lv_at hl 0 rfl) ?_
              refine s_call0 (va_runSN (As := [.int x1, .int (r4 + 1)]) (rest := []) ⟨hx, hb, hml, hown, hg⟩ (s_X8_withParameter l D cy H.size x1 (r4 + 1) ) ⟨(va_cnB 2 hg (gw_c m_996) rfl rfl rfl (hNW.1 _ nm_994) (hg _ m_5) (by decide +kernel) ⟨(Nat.le_of_ble_eq_true rfl), (Nat.le_of_ble_eq_true rfl)⟩), hg _ m_995, trivial⟩ (s_pre (ws := []) (fun k q h => by simp at h) ⟨fun i j p q h => by simp at h, fun k q h => by simp at h⟩ hK hNW) rfl rfl hl.1 rfl (lv_room (Nat.le_of_ble_eq_true rfl)) d_X3_parameters_83 ⟨(Nat.le_of_ble_eq_true rfl), (Nat.le_of_ble_eq_true rfl)⟩) hP hD hS hA (fun r15 u15 H locs hw hP hD hS => ?_)
              have hP : va_P D vwCl (wB cy r (upF σ13 23 g14)) H := hP
              have hD : va_D A (wB cy r (upF σ13 23 g14)) := hD
              refine lv_istore_n (lv' := [(1, .int r15), (4, .int (r4 + 1)), (6, .int r5), (5, .int (σ4 3 1)), (0, .ref (r 3)), (2, .int x2), (3, .int x3)]) hx hb d_X3_parameters_86 rfl hl (by decide) rfl (fun ls hl => ?_)
              refine lv_aload_n hx hb d_X3_parameters_87 rfl (lv_at hl 4 rfl) ?_
              refine lv_bipush (v := 26) hx hb d_X3_parameters_88 (by decide) ?_
              refine s_calli (X := St) (w1 := fun τ => wB cy r τ) (va_runV (As := [.int 26]) (rest := []) ⟨hx, hb, hml, hown, hg⟩ (s_X3_accept l D cy H.size r (upF σ13 23 g14) (26 : Int32) i13 ) (cwV 1 hg (gw_V m_966 m_968 ms_X3_accept m_3 m_969) rfl rfl rfl (by decide +kernel) ⟨(Nat.le_of_ble_eq_true rfl), (Nat.le_of_ble_eq_true rfl)⟩) (s_preV (As := [.int 26]) hP hD hK hNW 2 rfl rfl) rfl rfl hl.1 rfl (lv_room (Nat.le_of_ble_eq_true rfl)) d_X3_parameters_90 ⟨(Nat.le_of_ble_eq_true rfl), (Nat.le_of_ble_eq_true rfl)⟩) hP hD hS hA (fun r16 σ16 H locs hw hP hD hS => ?_)
              have hP : va_P D vwCl (wB cy r σ16) H := hP
              have hD : va_D A (wB cy r σ16) := hD
              have i16 : Inv σ16 := hw.2
              have hz16 : r16 = 0 ∨ r16 = 1 := hw.1
              refine lv_istore_n (lv' := [(3, .int r16), (1, .int r15), (4, .int (r4 + 1)), (6, .int r5), (5, .int (σ4 3 1)), (0, .ref (r 3)), (2, .int x2)]) hx hb d_X3_parameters_93 rfl hl (by decide) rfl (fun ls hl => ?_)
              refine lv_iinc (v := (x2 + 1)) (lv' := [(2, .int (x2 + 1)), (3, .int r16), (1, .int r15), (4, .int (r4 + 1)), (6, .int r5), (5, .int (σ4 3 1)), (0, .ref (r 3))]) hx hb d_X3_parameters_94 hl (k := 6) rfl rfl (by decide) rfl (fun ls hl => ?_)
              refine lv_goto (tgt := 6) hx hb d_X3_parameters_97 (by decide) ?_
              exact ih6 _ (N6 ▸ upm_lt c_9) σ16 r15 (x2 + 1) r16 _ _ _ rfl i16 hz16 hP hD hS (lv_sub hl [6, 2, 0, 1] rfl)
            · -- not taken at 65
              refine lv_iload hx hb d_X3_parameters_68 (lv_at hl 2 rfl) ?_
              refine lv_goto (tgt := 77) hx hb d_X3_parameters_70 (by decide) ?_
              refine s_set1 (X := Nat → Int32) (w := fun g => .inl (cy 1, 8, .inl g)) 22 rfl (va_runSN (As := [.ref (r 23), .int x2, .int (σ4 3 1)]) (rest := []) ⟨hx, hb, hml, hown, hg⟩ (c_set_any l D cy H.size (r 23) 8 (σ13 23) x2 (σ4 3 1) (Nat.le_of_ble_eq_true rfl)) ⟨(va_cnB 3 hg (gw_c m_981) rfl rfl rfl (hNW.1 _ nm_979) (hg _ m_1) (by decide +kernel) ⟨(Nat.le_of_ble_eq_true rfl), (Nat.le_of_ble_eq_true rfl)⟩), hg _ m_980, trivial⟩ (s_pre (ws := [((r 23), .inl (cy 1, 8, .inl (σ13 23)))]) (s_sub1 22 hP rfl) (s_subD 22 hD rfl) hK hNW) rfl rfl hl.1 rfl (lv_room (Nat.le_of_ble_eq_true rfl)) d_X3_parameters_77 ⟨(Nat.le_of_ble_eq_true rfl), (Nat.le_of_ble_eq_true rfl)⟩) hP hD hS hA (fun g17 H locs hw hP hD hS => ?_)
              have hP : va_P D vwCl (wB cy r (upF σ13 23 g17)) H := hP
              have hD : va_D A (wB cy r (upF σ13 23 g17)) := hD
              refine lv_iload_n hx hb d_X3_parameters_80 rfl (lv_at hl 4 rfl) ?_
              refine lv_iload hx hb d_X3_parameters_81 (lv_at hl 0 rfl) ?_
              refine s_call0 (va_runSN (As := [.int x1, .int (r4 + 1)]) (rest := []) ⟨hx, hb, hml, hown, hg⟩ (s_X8_withParameter l D cy H.size x1 (r4 + 1) ) ⟨(va_cnB 2 hg (gw_c m_996) rfl rfl rfl (hNW.1 _ nm_994) (hg _ m_5) (by decide +kernel) ⟨(Nat.le_of_ble_eq_true rfl), (Nat.le_of_ble_eq_true rfl)⟩), hg _ m_995, trivial⟩ (s_pre (ws := []) (fun k q h => by simp at h) ⟨fun i j p q h => by simp at h, fun k q h => by simp at h⟩ hK hNW) rfl rfl hl.1 rfl (lv_room (Nat.le_of_ble_eq_true rfl)) d_X3_parameters_83 ⟨(Nat.le_of_ble_eq_true rfl), (Nat.le_of_ble_eq_true rfl)⟩) hP hD hS hA (fun r18 u18 H locs hw hP hD hS => ?_)
              have hP : va_P D vwCl (wB cy r (upF σ13 23 g17)) H := hP
              have hD : va_D A (wB cy r (upF σ13 23 g17)) := hD
              refine lv_istore_n (lv' := [(1, .int r18), (4, .int (r4 + 1)), (6, .int r5), (5, .int (σ4 3 1)), (0, .ref (r 3)), (2, .int x2), (3, .int x3)]) hx hb d_X3_parameters_86 rfl hl (by decide) rfl (fun ls hl => ?_)
              refine lv_aload_n hx hb d_X3_parameters_87 rfl (lv_at hl 4 rfl) ?_
              refine lv_bipush (v := 26) hx hb d_X3_parameters_88 (by decide) ?_
              refine s_calli (X := St) (w1 := fun τ => wB cy r τ) (va_runV (As := [.int 26]) (rest := []) ⟨hx, hb, hml, hown, hg⟩ (s_X3_accept l D cy H.size r (upF σ13 23 g17) (26 : Int32) i13 ) (cwV 1 hg (gw_V m_966 m_968 ms_X3_accept m_3 m_969) rfl rfl rfl (by decide +kernel) ⟨(Nat.le_of_ble_eq_true rfl), (Nat.le_of_ble_eq_true rfl)⟩) (s_preV (As := [.int 26]) hP hD hK hNW 2 rfl rfl) rfl rfl hl.1 rfl (lv_room (Nat.le_of_ble_eq_true rfl)) d_X3_parameters_90 ⟨(Nat.le_of_ble_eq_true rfl), (Nat.le_of_ble_eq_true rfl)⟩) hP hD hS hA (fun r19 σ19 H locs hw hP hD hS => ?_)
              have hP : va_P D vwCl (wB cy r σ19) H := hP
              have hD : va_D A (wB cy r σ19) := hD
              have i19 : Inv σ19 := hw.2
              have hz19 : r19 = 0 ∨ r19 = 1 := hw.1
              refine lv_istore_n (lv' := [(3, .int r19), (1, .int r18), (4, .int (r4 + 1)), (6, .int r5), (5, .int (σ4 3 1)), (0, .ref (r 3)), (2, .int x2)]) hx hb d_X3_parameters_93 rfl hl (by decide) rfl (fun ls hl => ?_)
              refine lv_iinc (v := (x2 + 1)) (lv' := [(2, .int (x2 + 1)), (3, .int r19), (1, .int r18), (4, .int (r4 + 1)), (6, .int r5), (5, .int (σ4 3 1)), (0, .ref (r 3))]) hx hb d_X3_parameters_94 hl (k := 6) rfl rfl (by decide) rfl (fun ls hl => ?_)
              refine lv_goto (tgt := 6) hx hb d_X3_parameters_97 (by decide) ?_
              exact ih6 _ (N6 ▸ upm_lt c_9) σ19 r18 (x2 + 1) r19 _ _ _ rfl i19 hz19 hP hD hS (lv_sub hl [6, 2, 0, 1] rfl)
  obtain ⟨H, hH⟩ : ∃ H, H = s.heap := ⟨_, rfl⟩
  rw [← hH] at hP
  have hS : va_S A s.heap H [] := by rw [hH]; exact va_S.rf
  have hgoal : W p l e ({ frames := 2, cells := 0, slots := 0, locals := 43 } : Room) s m (([.ref (r 3)] : List Value).toArray) below meth c H [] 0 0 (MQ below (va_Qi (S := St) (fun (_ : Int32) (τ : St) => Inv τ) (fun τ => kPost D cy A (wB cy r τ)) A) (([.ref (r 3)] : List Value).toArray) s 0 0 A) (F0 m 0 ls []) := by
    refine lv_iconst (v := 0) hx hb d_X3_parameters_0 (by decide) ?_
    refine lv_istore_n (lv' := [(1, .int 0), (0, .ref (r 3))]) hx hb d_X3_parameters_1 rfl hl (by decide) rfl (fun ls hl => ?_)
    refine lv_iconst (v := 0) hx hb d_X3_parameters_2 (by decide) ?_
    refine lv_istore_n (lv' := [(2, .int 0), (1, .int 0), (0, .ref (r 3))]) hx hb d_X3_parameters_3 rfl hl (by decide) rfl (fun ls hl => ?_)
    refine lv_iconst (v := 1) hx hb d_X3_parameters_4 (by decide) ?_
    refine lv_istore_n (lv' := [(3, .int 1), (2, .int 0), (1, .int 0), (0, .ref (r 3))]) hx hb d_X3_parameters_5 rfl hl (by decide) rfl (fun ls hl => ?_)
    exact b6 _ σ (0 : Int32) (0 : Int32) (1 : Int32) _ _ _ rfl inv (Or.inr rfl) hP hD hS (lv_sub hl [3, 2, 1, 0] rfl)
  rw [hH] at hgoal
  exact hgoal
set_option maxHeartbeats 4000000 in
set_option maxRecDepth 100000 in
theorem s_X3_head (l : Launch) (D : va_G) (cy : Nat → ClassId) (sz : Nat) (r : Nat → Nat) (σ : St) (x1 : Int32) (x2 : Int32) (x3 : Int32) (inv : Inv σ) : Met l y_X3_head (Cond.code y_X3_head b_X3_head 7 (some .boolean) :: GW) ({ frames := 3, cells := 0, slots := 0, locals := 69 } : Room) (va_Pc [.ref (r 3), .int x1, .int x2, .int x3] (kPre D cy sz (wB cy r σ))) ((fun A : Nat → Prop => va_Qi (S := St) (fun (v9 : Int32) (τ : St) => (v9 = 0 ∨ v9 = 1) ∧ Inv τ) (fun τ => kPost D cy A (wB cy r τ)) A) (va_A (wB cy r σ) sz)) 0 0 (va_A (wB cy r σ) sz) := by
  refine k_ofW (Qc := fun A => va_Qi (S := St) (fun (v9 : Int32) (τ : St) => (v9 = 0 ∨ v9 = 1) ∧ Inv τ) (fun τ => kPost D cy A (wB cy r τ)) A) (by decide) (Nat.le_of_ble_eq_true rfl) ?_
  intro p e s m below meth c A ls hx hb hr hml hown hlocks hin hg hNW hK hP hD hA hS hl
  have hl : lv_has ls 7 [(0, .ref (r 3)), (1, .int x1), (2, .int x2), (3, .int x3)] := hl
  have hown : s.vm.findClass "LinkedUnits$Grammar" = some m.cls := hown
  have b105 : ∀ (N : Nat) (σ : St) (x1 : Int32) (x2 : Int32) (x3 : Int32) (x4 : Int32) (x5 : Int32) (x6 : Int32) (H : Heap) (locs : List Loc) (ls : Array Slot), upm x6 = N → Inv σ → x5 = 0 ∨ x5 = 1 → va_P D vwCl (wB cy r σ) H → va_D A (wB cy r σ) → va_S A s.heap H locs → lv_has ls 7 [(0, .ref (r 3)), (1, .int x1), (2, .int x2), (3, .int x3), (4, .int x4), (5, .int x5), (6, .int x6)] → W p l e ({ frames := 3, cells := 0, slots := 0, locals := 69 } : Room) s m (([.ref (r 3), .int x1, .int x2, .int x3] : List Value).toArray) below meth c H locs 0 0 (MQ below (va_Qi (S := St) (fun (v9 : Int32) (τ : St) => (v9 = 0 ∨ v9 = 1) ∧ Inv τ) (fun τ => kPost D cy A (wB cy r τ)) A) (([.ref (r 3), .int x1, .int x2, .int x3] : List Value).toArray) s 0 0 A) (F0 m 105 ls []) := by
    intro N
    induction N using Nat.strongRecOn with
    | _ N ih105 =>
      intro σ x1 x2 x3 x4 x5 x6 H locs ls N105 inv z_x5 hP hD hS hl
      refine lv_iload hx hb d_X3_head_105 (lv_at hl 6 rfl) ?_
      refine lv_iload hx hb d_X3_head_107 (lv_at hl 4 rfl) ?_
      refine s_call0 (va_runSN (As := [.int x4]) (rest := [.int x6]) ⟨hx, hb, hml, hown, hg⟩ (s_X8_parameters l D cy H.size x4 ) ⟨(va_cnB 1 hg (gw_c m_999) rfl rfl rfl (hNW.1 _ nm_1000) (hg _ m_5) (by decide +kernel) ⟨(Nat.le_of_ble_eq_true rfl), (Nat.le_of_ble_eq_true rfl)⟩), hg _ m_998, trivial⟩ (s_pre (ws := []) (fun k q h => by simp at h) ⟨fun i j p q h => by simp at h, fun k q h => by simp at h⟩ hK hNW) rfl rfl hl.1 rfl (lv_room (Nat.le_of_ble_eq_true rfl)) d_X3_head_109 ⟨(Nat.le_of_ble_eq_true rfl), (Nat.le_of_ble_eq_true rfl)⟩) hP hD hS hA (fun r1 u1 H locs hw hP hD hS => ?_)
      have hP : va_P D vwCl (wB cy r σ) H := hP
      have hD : va_D A (wB cy r σ) := hD
      refine lv_icmp_ge (tgt := 150) hx hb d_X3_head_112 (by decide) (fun c_112 => ?_) (fun c_112 => ?_)
      · -- taken at 112
        refine lv_iload hx hb d_X3_head_150 (lv_at hl 5 rfl) ?_
        refine W.widen (k := 0) (n := 0) (Nat.le_of_ble_eq_true rfl) (Nat.le_of_ble_eq_true rfl) ?_
        exact k_zret (X := St) (w1 := fun τ => wB cy r τ) σ hx hb hr (k_nz z_x5) d_X3_head_152 hlocks hP hK hD hS ⟨z_x5, inv⟩
      · -- not taken at 112
        refine lv_iload hx hb d_X3_head_115 (lv_at hl 5 rfl) ?_
        refine lv_if_eq (tgt := 150) hx hb d_X3_head_117 (by decide) (fun c_117 => ?_) (fun c_117 => ?_)
        · -- taken at 117
          refine lv_iload hx hb d_X3_head_150 (lv_at hl 5 rfl) ?_
          refine W.widen (k := 0) (n := 0) (Nat.le_of_ble_eq_true rfl) (Nat.le_of_ble_eq_true rfl) ?_
          exact k_zret (X := St) (w1 := fun τ => wB cy r τ) σ hx hb hr (k_nz z_x5) d_X3_head_152 hlocks hP hK hD hS ⟨z_x5, inv⟩
        · -- not taken at 117
          refine lv_aload_n hx hb d_X3_head_120 rfl (lv_at hl 0 rfl) ?_
          refine lv_bipush (v := 48) hx hb d_X3_head_121 (by decide) ?_
          refine lv_aload_n hx hb d_X3_head_123 rfl (lv_at hl 0 rfl) ?_
          refine va_get (D := D) (ci := 3) (v := .ref (r 23)) (C := "LinkedUnits$Grammar") (T := TX3) (N := 12) hx hb hg iwX3 hown hK hP 2 rfl rfl 11 (by decide) (hg _ m_116) (fun _ h9 => h9) rfl d_X3_head_124 ?_
          refine lv_iload hx hb d_X3_head_127 (lv_at hl 6 rfl) ?_
          refine s_call1 (x := ((r 23), .inl (cy 1, 8, .inl (σ 23)))) 22 rfl (va_runSN (As := [.ref (r 23), .int x6]) (rest := [.int 48, .ref (r 3)]) ⟨hx, hb, hml, hown, hg⟩ (c_at_any l D cy H.size (r 23) 8 (σ 23) x6 (Nat.le_of_ble_eq_true rfl)) ⟨(va_cnB 2 hg (gw_c m_949) rfl rfl rfl (hNW.1 _ nm_947) (hg _ m_1) (by decide +kernel) ⟨(Nat.le_of_ble_eq_true rfl), (Nat.le_of_ble_eq_true rfl)⟩), hg _ m_948, trivial⟩ (s_pre (ws := [((r 23), .inl (cy 1, 8, .inl (σ 23)))]) (s_sub1 22 hP rfl) (s_subD 22 hD rfl) hK hNW) rfl rfl hl.1 rfl (lv_room (Nat.le_of_ble_eq_true rfl)) d_X3_head_129 ⟨(Nat.le_of_ble_eq_true rfl), (Nat.le_of_ble_eq_true rfl)⟩) hP hD hS hA (fun r2 u2 H locs hw hP hD hS => ?_)
          have hP : va_P D vwCl (wB cy r σ) H := hP
          have hD : va_D A (wB cy r σ) := hD
          refine lv_iload hx hb d_X3_head_132 (lv_at hl 4 rfl) ?_
          refine lv_iload hx hb d_X3_head_134 (lv_at hl 6 rfl) ?_
          refine s_call0 (va_runSN (As := [.int x4, .int x6]) (rest := [.int r2, .int 48, .ref (r 3)]) ⟨hx, hb, hml, hown, hg⟩ (s_X8_parameter l D cy H.size x4 x6 ) ⟨(va_cnB 2 hg (gw_c m_1003) rfl rfl rfl (hNW.1 _ nm_1001) (hg _ m_5) (by decide +kernel) ⟨(Nat.le_of_ble_eq_true rfl), (Nat.le_of_ble_eq_true rfl)⟩), hg _ m_1002, trivial⟩ (s_pre (ws := []) (fun k q h => by simp at h) ⟨fun i j p q h => by simp at h, fun k q h => by simp at h⟩ hK hNW) rfl rfl hl.1 rfl (lv_room (Nat.le_of_ble_eq_true rfl)) d_X3_head_136 ⟨(Nat.le_of_ble_eq_true rfl), (Nat.le_of_ble_eq_true rfl)⟩) hP hD hS hA (fun r3 u3 H locs hw hP hD hS => ?_)
          have hP : va_P D vwCl (wB cy r σ) H := hP
          have hD : va_D A (wB cy r σ) := hD
          refine lv_iconst (v := 0) hx hb d_X3_head_139 (by decide) ?_
          refine s_calli (X := St) (w1 := fun τ => wB cy r τ) (va_runV (As := [.int 48, .int r2, .int r3, .int 0]) (rest := []) ⟨hx, hb, hml, hown, hg⟩ (s_X3_add l D cy H.size r σ (48 : Int32) r2 r3 (0 : Int32) inv ) (cwV 4 hg (gw_V m_923 m_925 ms_X3_add m_3 m_926) rfl rfl rfl (by decide +kernel) ⟨(Nat.le_of_ble_eq_true rfl), (Nat.le_of_ble_eq_true rfl)⟩) (s_preV (As := [.int 48, .int r2, .int r3, .int 0]) hP hD hK hNW 2 rfl rfl) rfl rfl hl.1 rfl (lv_room (Nat.le_of_ble_eq_true rfl)) d_X3_head_140 ⟨(Nat.le_of_ble_eq_true rfl), (Nat.le_of_ble_eq_true rfl)⟩) hP hD hS hA (fun r4 σ4 H locs hw hP hD hS => ?_)
          have hP : va_P D vwCl (wB cy r σ4) H := hP
          have hD : va_D A (wB cy r σ4) := hD
          have i4 : Inv σ4 := hw
          refine lv_pop hx hb d_X3_head_143 rfl ?_
          refine lv_iinc (v := (x6 + 1)) (lv' := [(6, .int (x6 + 1)), (0, .ref (r 3)), (1, .int x1), (2, .int x2), (3, .int x3), (4, .int x4), (5, .int x5)]) hx hb d_X3_head_144 hl (k := 6) rfl rfl (by decide) rfl (fun ls hl => ?_)
          refine lv_goto (tgt := 105) hx hb d_X3_head_147 (by decide) ?_
          exact ih105 _ (N105 ▸ upm_lt c_112) σ4 x1 x2 x3 x4 x5 (x6 + 1) _ _ _ rfl i4 z_x5 hP hD hS (lv_sub hl [1, 2, 3, 4, 5, 6, 0] rfl)
  obtain ⟨H, hH⟩ : ∃ H, H = s.heap := ⟨_, rfl⟩
  rw [← hH] at hP
  have hS : va_S A s.heap H [] := by rw [hH]; exact va_S.rf
  have hgoal : W p l e ({ frames := 3, cells := 0, slots := 0, locals := 69 } : Room) s m (([.ref (r 3), .int x1, .int x2, .int x3] : List Value).toArray) below meth c H [] 0 0 (MQ below (va_Qi (S := St) (fun (v9 : Int32) (τ : St) => (v9 = 0 ∨ v9 = 1) ∧ Inv τ) (fun τ => kPost D cy A (wB cy r τ)) A) (([.ref (r 3), .int x1, .int x2, .int x3] : List Value).toArray) s 0 0 A) (F0 m 0 ls []) := by
    refine lv_aload_n hx hb d_X3_head_0 rfl (lv_at hl 0 rfl) ?_
    refine lv_bipush (v := 20) hx hb d_X3_head_1 (by decide) ?_
    refine s_callv (X := St) (w1 := fun τ => wB cy r τ) (va_runV (As := [.int 20]) (rest := []) ⟨hx, hb, hml, hown, hg⟩ (s_X3_expect l D cy H.size r σ (20 : Int32) inv ) (cwV 1 hg (gw_V m_903 m_905 ms_X3_expect m_3 m_906) rfl rfl rfl (by decide +kernel) ⟨(Nat.le_of_ble_eq_true rfl), (Nat.le_of_ble_eq_true rfl)⟩) (s_preV (As := [.int 20]) hP hD hK hNW 2 rfl rfl) rfl rfl hl.1 rfl (lv_room (Nat.le_of_ble_eq_true rfl)) d_X3_head_3 ⟨(Nat.le_of_ble_eq_true rfl), (Nat.le_of_ble_eq_true rfl)⟩) hP hD hS hA (fun σ5 H locs hw hP hD hS => ?_)
    have hP : va_P D vwCl (wB cy r σ5) H := hP
    have hD : va_D A (wB cy r σ5) := hD
    have i5 : Inv σ5 := hw
    refine lv_iconst (v := 0) hx hb d_X3_head_6 (by decide) ?_
    refine lv_istore (lv' := [(4, .int 0), (0, .ref (r 3)), (1, .int x1), (2, .int x2), (3, .int x3)]) hx hb d_X3_head_7 hl (by decide) rfl (fun ls hl => ?_)
    refine lv_aload_n hx hb d_X3_head_9 rfl (lv_at hl 1 rfl) ?_
    refine va_get (D := D) (ci := 3) (v := .int (σ5 3 2)) (C := "LinkedUnits$Grammar") (T := TX3) (N := 12) hx hb hg iwX3 hown hK hP 2 rfl rfl 2 (by decide) (hg _ m_96) (fun _ h9 => h9) rfl d_X3_head_10 ?_
    refine lv_bipush (v := 6) hx hb d_X3_head_13 (by decide) ?_
    refine lv_icmp_ne (tgt := 25) hx hb d_X3_head_15 (by decide) (fun c_15 => ?_) (fun c_15 => ?_)
    · -- taken at 15
      refine lv_aload_n hx hb d_X3_head_25 rfl (lv_at hl 1 rfl) ?_
      refine va_get (D := D) (ci := 3) (v := .int (σ5 3 2)) (C := "LinkedUnits$Grammar") (T := TX3) (N := 12) hx hb hg iwX3 hown hK hP 2 rfl rfl 2 (by decide) (hg _ m_96) (fun _ h9 => h9) rfl d_X3_head_26 ?_
      refine lv_bipush (v := 21) hx hb d_X3_head_29 (by decide) ?_
      refine lv_icmp_eq (tgt := 40) hx hb d_X3_head_31 (by decide) (fun c_31 => ?_) (fun c_31 => ?_)
      · -- taken at 31
        refine lv_aload_n hx hb d_X3_head_40 rfl (lv_at hl 1 rfl) ?_
        refine lv_bipush (v := 21) hx hb d_X3_head_41 (by decide) ?_
        refine s_callv (X := St) (w1 := fun τ => wB cy r τ) (va_runV (As := [.int 21]) (rest := []) ⟨hx, hb, hml, hown, hg⟩ (s_X3_expect l D cy H.size r σ5 (21 : Int32) i5 ) (cwV 1 hg (gw_V m_903 m_905 ms_X3_expect m_3 m_906) rfl rfl rfl (by decide +kernel) ⟨(Nat.le_of_ble_eq_true rfl), (Nat.le_of_ble_eq_true rfl)⟩) (s_preV (As := [.int 21]) hP hD hK hNW 2 rfl rfl) rfl rfl hl.1 rfl (lv_room (Nat.le_of_ble_eq_true rfl)) d_X3_head_43 ⟨(Nat.le_of_ble_eq_true rfl), (Nat.le_of_ble_eq_true rfl)⟩) hP hD hS hA (fun σ6 H locs hw hP hD hS => ?_)
        have hP : va_P D vwCl (wB cy r σ6) H := hP
        have hD : va_D A (wB cy r σ6) := hD
        have i6 : Inv σ6 := hw
        refine lv_aload_n hx hb d_X3_head_46 rfl (lv_at hl 1 rfl) ?_
        refine va_get (D := D) (ci := 3) (v := .int (σ6 3 2)) (C := "LinkedUnits$Grammar") (T := TX3) (N := 12) hx hb hg iwX3 hown hK hP 2 rfl rfl 2 (by decide) (hg _ m_96) (fun _ h9 => h9) rfl d_X3_head_47 ?_
        refine lv_bipush (v := 22) hx hb d_X3_head_50 (by decide) ?_
        refine lv_icmp_ne (tgt := 59) hx hb d_X3_head_52 (by decide) (fun c_52 => ?_) (fun c_52 => ?_)
        · -- taken at 52
          refine lv_iconst (v := 0) hx hb d_X3_head_59 (by decide) ?_
          refine lv_istore (lv' := [(5, .int 0), (4, .int 0), (0, .ref (r 3)), (1, .int x1), (2, .int x2), (3, .int x3)]) hx hb d_X3_head_60 hl (by decide) rfl (fun ls hl => ?_)
          refine lv_aload_n hx hb d_X3_head_62 rfl (lv_at hl 2 rfl) ?_
          refine lv_bipush (v := 47) hx hb d_X3_head_63 (by decide) ?_
          refine lv_iload_n hx hb d_X3_head_65 rfl (lv_at hl 3 rfl) ?_
          refine lv_iload hx hb d_X3_head_66 (lv_at hl 1 rfl) ?_
          refine lv_iload_n hx hb d_X3_head_68 rfl (lv_at hl 4 rfl) ?_
          refine lv_iconst (v := 1) hx hb d_X3_head_69 (by decide) ?_
          refine lv_iadd hx hb d_X3_head_70 ?_
          refine lv_bipush (v := 8) hx hb d_X3_head_71 (by decide) ?_
          refine lv_imul hx hb d_X3_head_73 ?_
          refine lv_iload_n hx hb d_X3_head_74 rfl (lv_at hl 5 rfl) ?_
          refine lv_iadd hx hb d_X3_head_75 ?_
          refine lv_iload hx hb d_X3_head_76 (lv_at hl 0 rfl) ?_
          refine lv_if_eq (tgt := 85) hx hb d_X3_head_78 (by decide) (fun _ => ?_) (fun c_78 => False.elim (by revert c_78; decide))
          refine lv_iconst (v := 0) hx hb d_X3_head_85 (by decide) ?_
          refine lv_iadd hx hb d_X3_head_86 ?_
          refine s_calli (X := St) (w1 := fun τ => wB cy r τ) (va_runV (As := [.int 47, .int x1, .int 0, .int ((((x2 + 1) * 8) + x3) + 0)]) (rest := []) ⟨hx, hb, hml, hown, hg⟩ (s_X3_add l D cy H.size r σ6 (47 : Int32) x1 (0 : Int32) ((((x2 + 1) * 8) + x3) + 0) i6 ) (cwV 4 hg (gw_V m_923 m_925 ms_X3_add m_3 m_926) rfl rfl rfl (by decide +kernel) ⟨(Nat.le_of_ble_eq_true rfl), (Nat.le_of_ble_eq_true rfl)⟩) (s_preV (As := [.int 47, .int x1, .int 0, .int ((((x2 + 1) * 8) + x3) + 0)]) hP hD hK hNW 2 rfl rfl) rfl rfl hl.1 rfl (lv_room (Nat.le_of_ble_eq_true rfl)) d_X3_head_87 ⟨(Nat.le_of_ble_eq_true rfl), (Nat.le_of_ble_eq_true rfl)⟩) hP hD hS hA (fun r7 σ7 H locs hw hP hD hS => ?_)
          have hP : va_P D vwCl (wB cy r σ7) H := hP
          have hD : va_D A (wB cy r σ7) := hD
          have i7 : Inv σ7 := hw
          refine lv_pop hx hb d_X3_head_90 rfl ?_
          refine lv_iload hx hb d_X3_head_91 (lv_at hl 0 rfl) ?_
          refine lv_if_ne (tgt := 102) hx hb d_X3_head_93 (by decide) (fun c_93 => absurd c_93 (by decide)) (fun _ => ?_)
          refine lv_aload_n hx hb d_X3_head_96 rfl (lv_at hl 2 rfl) ?_
          refine lv_bipush (v := 27) hx hb d_X3_head_97 (by decide) ?_
          refine s_callv (X := St) (w1 := fun τ => wB cy r τ) (va_runV (As := [.int 27]) (rest := []) ⟨hx, hb, hml, hown, hg⟩ (s_X3_expect l D cy H.size r σ7 (27 : Int32) i7 ) (cwV 1 hg (gw_V m_903 m_905 ms_X3_expect m_3 m_906) rfl rfl rfl (by decide +kernel) ⟨(Nat.le_of_ble_eq_true rfl), (Nat.le_of_ble_eq_true rfl)⟩) (s_preV (As := [.int 27]) hP hD hK hNW 2 rfl rfl) rfl rfl hl.1 rfl (lv_room (Nat.le_of_ble_eq_true rfl)) d_X3_head_99 ⟨(Nat.le_of_ble_eq_true rfl), (Nat.le_of_ble_eq_true rfl)⟩) hP hD hS hA (fun σ8 H locs hw hP hD hS => ?_)
          have hP : va_P D vwCl (wB cy r σ8) H := hP
          have hD : va_D A (wB cy r σ8) := hD
          have i8 : Inv σ8 := hw
          refine lv_iconst (v := 0) hx hb d_X3_head_102 (by decide) ?_
          refine lv_istore (lv' := [(6, .int 0), (5, .int 0), (4, .int 0), (0, .ref (r 3)), (1, .int x1), (2, .int x2), (3, .int x3)]) hx hb d_X3_head_103 hl (by decide) rfl (fun ls hl => ?_)
          exact b105 _ σ8 x1 x2 x3 (0 : Int32) (0 : Int32) (0 : Int32) _ _ _ rfl i8 (Or.inl rfl) hP hD hS (lv_sub hl [3, 4, 5, 6, 2, 1, 0] rfl)
        · -- not taken at 52
          refine lv_iconst (v := 1) hx hb d_X3_head_55 (by decide) ?_
          refine lv_goto (tgt := 60) hx hb d_X3_head_56 (by decide) ?_
          refine lv_istore (lv' := [(5, .int 1), (4, .int 0), (0, .ref (r 3)), (1, .int x1), (2, .int x2), (3, .int x3)]) hx hb d_X3_head_60 hl (by decide) rfl (fun ls hl => ?_)
          refine lv_aload_n hx hb d_X3_head_62 rfl (lv_at hl 2 rfl) ?_
          refine lv_bipush (v := 47) hx hb d_X3_head_63 (by decide) ?_
          refine lv_iload_n hx hb d_X3_head_65 rfl (lv_at hl 3 rfl) ?_
          refine lv_iload hx hb d_X3_head_66 (lv_at hl 1 rfl) ?_
          refine lv_iload_n hx hb d_X3_head_68 rfl (lv_at hl 4 rfl) ?_
          refine lv_iconst (v := 1) hx hb d_X3_head_69 (by decide) ?_
          refine lv_iadd hx hb d_X3_head_70 ?_
          refine lv_bipush (v := 8) hx hb d_X3_head_71 (by decide) ?_
          refine lv_imul hx hb d_X3_head_73 ?_
          refine lv_iload_n hx hb d_X3_head_74 rfl (lv_at hl 5 rfl) ?_
          refine lv_iadd hx hb d_X3_head_75 ?_
          refine lv_iload hx hb d_X3_head_76 (lv_at hl 0 rfl) ?_
          refine lv_if_eq (tgt := 85) hx hb d_X3_head_78 (by decide) (fun c_78 => absurd c_78 (by decide)) (fun _ => ?_)
          refine lv_iconst (v := 4) hx hb d_X3_head_81 (by decide) ?_
          refine lv_goto (tgt := 86) hx hb d_X3_head_82 (by decide) ?_
          refine lv_iadd hx hb d_X3_head_86 ?_
          refine s_calli (X := St) (w1 := fun τ => wB cy r τ) (va_runV (As := [.int 47, .int x1, .int 0, .int ((((x2 + 1) * 8) + x3) + 4)]) (rest := []) ⟨hx, hb, hml, hown, hg⟩ (s_X3_add l D cy H.size r σ6 (47 : Int32) x1 (0 : Int32) ((((x2 + 1) * 8) + x3) + 4) i6 ) (cwV 4 hg (gw_V m_923 m_925 ms_X3_add m_3 m_926) rfl rfl rfl (by decide +kernel) ⟨(Nat.le_of_ble_eq_true rfl), (Nat.le_of_ble_eq_true rfl)⟩) (s_preV (As := [.int 47, .int x1, .int 0, .int ((((x2 + 1) * 8) + x3) + 4)]) hP hD hK hNW 2 rfl rfl) rfl rfl hl.1 rfl (lv_room (Nat.le_of_ble_eq_true rfl)) d_X3_head_87 ⟨(Nat.le_of_ble_eq_true rfl), (Nat.le_of_ble_eq_true rfl)⟩) hP hD hS hA (fun r9 σ9 H locs hw hP hD hS => ?_)
          have hP : va_P D vwCl (wB cy r σ9) H := hP
          have hD : va_D A (wB cy r σ9) := hD
          have i9 : Inv σ9 := hw
          refine lv_pop hx hb d_X3_head_90 rfl ?_
          refine lv_iload hx hb d_X3_head_91 (lv_at hl 0 rfl) ?_
          refine lv_if_ne (tgt := 102) hx hb d_X3_head_93 (by decide) (fun _ => ?_) (fun c_93 => False.elim (by revert c_93; decide))
          refine lv_iconst (v := 0) hx hb d_X3_head_102 (by decide) ?_
          refine lv_istore (lv' := [(6, .int 0), (5, .int 1), (4, .int 0), (0, .ref (r 3)), (1, .int x1), (2, .int x2), (3, .int x3)]) hx hb d_X3_head_103 hl (by decide) rfl (fun ls hl => ?_)
          exact b105 _ σ9 x1 x2 x3 (0 : Int32) (1 : Int32) (0 : Int32) _ _ _ rfl i9 (Or.inr rfl) hP hD hS (lv_sub hl [3, 4, 5, 6, 2, 1, 0] rfl)
      · -- not taken at 31
        refine lv_aload_n hx hb d_X3_head_34 rfl (lv_at hl 1 rfl) ?_
        refine s_calli (X := St) (w1 := fun τ => wB cy r τ) (va_runV (As := []) (rest := []) ⟨hx, hb, hml, hown, hg⟩ (s_X3_parameters l D cy H.size r σ5  i5 ) (cwV 0 hg (gw_V m_990 m_992 ms_X3_parameters m_3 m_993) rfl rfl rfl (by decide +kernel) ⟨(Nat.le_of_ble_eq_true rfl), (Nat.le_of_ble_eq_true rfl)⟩) (s_preV (As := []) hP hD hK hNW 2 rfl rfl) rfl rfl hl.1 rfl (lv_room (Nat.le_of_ble_eq_true rfl)) d_X3_head_35 ⟨(Nat.le_of_ble_eq_true rfl), (Nat.le_of_ble_eq_true rfl)⟩) hP hD hS hA (fun r10 σ10 H locs hw hP hD hS => ?_)
        have hP : va_P D vwCl (wB cy r σ10) H := hP
        have hD : va_D A (wB cy r σ10) := hD
        have i10 : Inv σ10 := hw
        refine lv_istore (lv' := [(4, .int r10), (0, .ref (r 3)), (1, .int x1), (2, .int x2), (3, .int x3)]) hx hb d_X3_head_38 hl (by decide) rfl (fun ls hl => ?_)
        refine lv_aload_n hx hb d_X3_head_40 rfl (lv_at hl 1 rfl) ?_
        refine lv_bipush (v := 21) hx hb d_X3_head_41 (by decide) ?_
        refine s_callv (X := St) (w1 := fun τ => wB cy r τ) (va_runV (As := [.int 21]) (rest := []) ⟨hx, hb, hml, hown, hg⟩ (s_X3_expect l D cy H.size r σ10 (21 : Int32) i10 ) (cwV 1 hg (gw_V m_903 m_905 ms_X3_expect m_3 m_906) rfl rfl rfl (by decide +kernel) ⟨(Nat.le_of_ble_eq_true rfl), (Nat.le_of_ble_eq_true rfl)⟩) (s_preV (As := [.int 21]) hP hD hK hNW 2 rfl rfl) rfl rfl hl.1 rfl (lv_room (Nat.le_of_ble_eq_true rfl)) d_X3_head_43 ⟨(Nat.le_of_ble_eq_true rfl), (Nat.le_of_ble_eq_true rfl)⟩) hP hD hS hA (fun σ11 H locs hw hP hD hS => ?_)
        have hP : va_P D vwCl (wB cy r σ11) H := hP
        have hD : va_D A (wB cy r σ11) := hD
        have i11 : Inv σ11 := hw
        refine lv_aload_n hx hb d_X3_head_46 rfl (lv_at hl 1 rfl) ?_
        refine va_get (D := D) (ci := 3) (v := .int (σ11 3 2)) (C := "LinkedUnits$Grammar") (T := TX3) (N := 12) hx hb hg iwX3 hown hK hP 2 rfl rfl 2 (by decide) (hg _ m_96) (fun _ h9 => h9) rfl d_X3_head_47 ?_
        refine lv_bipush (v := 22) hx hb d_X3_head_50 (by decide) ?_
        refine lv_icmp_ne (tgt := 59) hx hb d_X3_head_52 (by decide) (fun c_52 => ?_) (fun c_52 => ?_)
        · -- taken at 52
          refine lv_iconst (v := 0) hx hb d_X3_head_59 (by decide) ?_
          refine lv_istore (lv' := [(5, .int 0), (4, .int r10), (0, .ref (r 3)), (1, .int x1), (2, .int x2), (3, .int x3)]) hx hb d_X3_head_60 hl (by decide) rfl (fun ls hl => ?_)
          refine lv_aload_n hx hb d_X3_head_62 rfl (lv_at hl 2 rfl) ?_
          refine lv_bipush (v := 47) hx hb d_X3_head_63 (by decide) ?_
          refine lv_iload_n hx hb d_X3_head_65 rfl (lv_at hl 3 rfl) ?_
          refine lv_iload hx hb d_X3_head_66 (lv_at hl 1 rfl) ?_
          refine lv_iload_n hx hb d_X3_head_68 rfl (lv_at hl 4 rfl) ?_
          refine lv_iconst (v := 1) hx hb d_X3_head_69 (by decide) ?_
          refine lv_iadd hx hb d_X3_head_70 ?_
          refine lv_bipush (v := 8) hx hb d_X3_head_71 (by decide) ?_
          refine lv_imul hx hb d_X3_head_73 ?_
          refine lv_iload_n hx hb d_X3_head_74 rfl (lv_at hl 5 rfl) ?_
          refine lv_iadd hx hb d_X3_head_75 ?_
          refine lv_iload hx hb d_X3_head_76 (lv_at hl 0 rfl) ?_
          refine lv_if_eq (tgt := 85) hx hb d_X3_head_78 (by decide) (fun _ => ?_) (fun c_78 => False.elim (by revert c_78; decide))
          refine lv_iconst (v := 0) hx hb d_X3_head_85 (by decide) ?_
          refine lv_iadd hx hb d_X3_head_86 ?_
          refine s_calli (X := St) (w1 := fun τ => wB cy r τ) (va_runV (As := [.int 47, .int x1, .int r10, .int ((((x2 + 1) * 8) + x3) + 0)]) (rest := []) ⟨hx, hb, hml, hown, hg⟩ (s_X3_add l D cy H.size r σ11 (47 : Int32) x1 r10 ((((x2 + 1) * 8) + x3) + 0) i11 ) (cwV 4 hg (gw_V m_923 m_925 ms_X3_add m_3 m_926) rfl rfl rfl (by decide +kernel) ⟨(Nat.le_of_ble_eq_true rfl), (Nat.le_of_ble_eq_true rfl)⟩) (s_preV (As := [.int 47, .int x1, .int r10, .int ((((x2 + 1) * 8) + x3) + 0)]) hP hD hK hNW 2 rfl rfl) rfl rfl hl.1 rfl (lv_room (Nat.le_of_ble_eq_true rfl)) d_X3_head_87 ⟨(Nat.le_of_ble_eq_true rfl), (Nat.le_of_ble_eq_true rfl)⟩) hP hD hS hA (fun r12 σ12 H locs hw hP hD hS => ?_)
          have hP : va_P D vwCl (wB cy r σ12) H := hP
          have hD : va_D A (wB cy r σ12) := hD
          have i12 : Inv σ12 := hw
          refine lv_pop hx hb d_X3_head_90 rfl ?_
          refine lv_iload hx hb d_X3_head_91 (lv_at hl 0 rfl) ?_
          refine lv_if_ne (tgt := 102) hx hb d_X3_head_93 (by decide) (fun c_93 => absurd c_93 (by decide)) (fun _ => ?_)
          refine lv_aload_n hx hb d_X3_head_96 rfl (lv_at hl 2 rfl) ?_
          refine lv_bipush (v := 27) hx hb d_X3_head_97 (by decide) ?_
          refine s_callv (X := St) (w1 := fun τ => wB cy r τ) (va_runV (As := [.int 27]) (rest := []) ⟨hx, hb, hml, hown, hg⟩ (s_X3_expect l D cy H.size r σ12 (27 : Int32) i12 ) (cwV 1 hg (gw_V m_903 m_905 ms_X3_expect m_3 m_906) rfl rfl rfl (by decide +kernel) ⟨(Nat.le_of_ble_eq_true rfl), (Nat.le_of_ble_eq_true rfl)⟩) (s_preV (As := [.int 27]) hP hD hK hNW 2 rfl rfl) rfl rfl hl.1 rfl (lv_room (Nat.le_of_ble_eq_true rfl)) d_X3_head_99 ⟨(Nat.le_of_ble_eq_true rfl), (Nat.le_of_ble_eq_true rfl)⟩) hP hD hS hA (fun σ13 H locs hw hP hD hS => ?_)
          have hP : va_P D vwCl (wB cy r σ13) H := hP
          have hD : va_D A (wB cy r σ13) := hD
          have i13 : Inv σ13 := hw
          refine lv_iconst (v := 0) hx hb d_X3_head_102 (by decide) ?_
          refine lv_istore (lv' := [(6, .int 0), (5, .int 0), (4, .int r10), (0, .ref (r 3)), (1, .int x1), (2, .int x2), (3, .int x3)]) hx hb d_X3_head_103 hl (by decide) rfl (fun ls hl => ?_)
          exact b105 _ σ13 x1 x2 x3 r10 (0 : Int32) (0 : Int32) _ _ _ rfl i13 (Or.inl rfl) hP hD hS (lv_sub hl [3, 4, 5, 6, 2, 1, 0] rfl)
        · -- not taken at 52
          refine lv_iconst (v := 1) hx hb d_X3_head_55 (by decide) ?_
          refine lv_goto (tgt := 60) hx hb d_X3_head_56 (by decide) ?_
          refine lv_istore (lv' := [(5, .int 1), (4, .int r10), (0, .ref (r 3)), (1, .int x1), (2, .int x2), (3, .int x3)]) hx hb d_X3_head_60 hl (by decide) rfl (fun ls hl => ?_)
          refine lv_aload_n hx hb d_X3_head_62 rfl (lv_at hl 2 rfl) ?_
          refine lv_bipush (v := 47) hx hb d_X3_head_63 (by decide) ?_
          refine lv_iload_n hx hb d_X3_head_65 rfl (lv_at hl 3 rfl) ?_
          refine lv_iload hx hb d_X3_head_66 (lv_at hl 1 rfl) ?_
          refine lv_iload_n hx hb d_X3_head_68 rfl (lv_at hl 4 rfl) ?_
          refine lv_iconst (v := 1) hx hb d_X3_head_69 (by decide) ?_
          refine lv_iadd hx hb d_X3_head_70 ?_
          refine lv_bipush (v := 8) hx hb d_X3_head_71 (by decide) ?_
          refine lv_imul hx hb d_X3_head_73 ?_
          refine lv_iload_n hx hb d_X3_head_74 rfl (lv_at hl 5 rfl) ?_
          refine lv_iadd hx hb d_X3_head_75 ?_
          refine lv_iload hx hb d_X3_head_76 (lv_at hl 0 rfl) ?_
          refine lv_if_eq (tgt := 85) hx hb d_X3_head_78 (by decide) (fun c_78 => absurd c_78 (by decide)) (fun _ => ?_)
          refine lv_iconst (v := 4) hx hb d_X3_head_81 (by decide) ?_
          refine lv_goto (tgt := 86) hx hb d_X3_head_82 (by decide) ?_
          refine lv_iadd hx hb d_X3_head_86 ?_
          refine s_calli (X := St) (w1 := fun τ => wB cy r τ) (va_runV (As := [.int 47, .int x1, .int r10, .int ((((x2 + 1) * 8) + x3) + 4)]) (rest := []) ⟨hx, hb, hml, hown, hg⟩ (s_X3_add l D cy H.size r σ11 (47 : Int32) x1 r10 ((((x2 + 1) * 8) + x3) + 4) i11 ) (cwV 4 hg (gw_V m_923 m_925 ms_X3_add m_3 m_926) rfl rfl rfl (by decide +kernel) ⟨(Nat.le_of_ble_eq_true rfl), (Nat.le_of_ble_eq_true rfl)⟩) (s_preV (As := [.int 47, .int x1, .int r10, .int ((((x2 + 1) * 8) + x3) + 4)]) hP hD hK hNW 2 rfl rfl) rfl rfl hl.1 rfl (lv_room (Nat.le_of_ble_eq_true rfl)) d_X3_head_87 ⟨(Nat.le_of_ble_eq_true rfl), (Nat.le_of_ble_eq_true rfl)⟩) hP hD hS hA (fun r14 σ14 H locs hw hP hD hS => ?_)
          have hP : va_P D vwCl (wB cy r σ14) H := hP
          have hD : va_D A (wB cy r σ14) := hD
          have i14 : Inv σ14 := hw
          refine lv_pop hx hb d_X3_head_90 rfl ?_
          refine lv_iload hx hb d_X3_head_91 (lv_at hl 0 rfl) ?_
          refine lv_if_ne (tgt := 102) hx hb d_X3_head_93 (by decide) (fun _ => ?_) (fun c_93 => False.elim (by revert c_93; decide))
          refine lv_iconst (v := 0) hx hb d_X3_head_102 (by decide) ?_
          refine lv_istore (lv' := [(6, .int 0), (5, .int 1), (4, .int r10), (0, .ref (r 3)), (1, .int x1), (2, .int x2), (3, .int x3)]) hx hb d_X3_head_103 hl (by decide) rfl (fun ls hl => ?_)
          exact b105 _ σ14 x1 x2 x3 r10 (1 : Int32) (0 : Int32) _ _ _ rfl i14 (Or.inr rfl) hP hD hS (lv_sub hl [3, 4, 5, 6, 2, 1, 0] rfl)
    · -- not taken at 15
      refine lv_aload_n hx hb d_X3_head_18 rfl (lv_at hl 1 rfl) ?_
      refine s_callv (X := St) (w1 := fun τ => wB cy r τ) (va_runV (As := []) (rest := []) ⟨hx, hb, hml, hown, hg⟩ (s_X3_advance l D cy H.size r σ5  i5 ) (cwV 0 hg (gw_V m_899 m_901 ms_X3_advance m_3 m_902) rfl rfl rfl (by decide +kernel) ⟨(Nat.le_of_ble_eq_true rfl), (Nat.le_of_ble_eq_true rfl)⟩) (s_preV (As := []) hP hD hK hNW 2 rfl rfl) rfl rfl hl.1 rfl (lv_room (Nat.le_of_ble_eq_true rfl)) d_X3_head_19 ⟨(Nat.le_of_ble_eq_true rfl), (Nat.le_of_ble_eq_true rfl)⟩) hP hD hS hA (fun σ15 H locs hw hP hD hS => ?_)
      have hP : va_P D vwCl (wB cy r σ15) H := hP
      have hD : va_D A (wB cy r σ15) := hD
      have i15 : Inv σ15 := hw
      refine lv_goto (tgt := 40) hx hb d_X3_head_22 (by decide) ?_
      refine lv_aload_n hx hb d_X3_head_40 rfl (lv_at hl 1 rfl) ?_
      refine lv_bipush (v := 21) hx hb d_X3_head_41 (by decide) ?_
      refine s_callv (X := St) (w1 := fun τ => wB cy r τ) (va_runV (As := [.int 21]) (rest := []) ⟨hx, hb, hml, hown, hg⟩ (s_X3_expect l D cy H.size r σ15 (21 : Int32) i15 ) (cwV 1 hg (gw_V m_903 m_905 ms_X3_expect m_3 m_906) rfl rfl rfl (by decide +kernel) ⟨(Nat.le_of_ble_eq_true rfl), (Nat.le_of_ble_eq_true rfl)⟩) (s_preV (As := [.int 21]) hP hD hK hNW 2 rfl rfl) rfl rfl hl.1 rfl (lv_room (Nat.le_of_ble_eq_true rfl)) d_X3_head_43 ⟨(Nat.le_of_ble_eq_true rfl), (Nat.le_of_ble_eq_true rfl)⟩) hP hD hS hA (fun σ16 H locs hw hP hD hS => ?_)
      have hP : va_P D vwCl (wB cy r σ16) H := hP
      have hD : va_D A (wB cy r σ16) := hD
      have i16 : Inv σ16 := hw
      refine lv_aload_n hx hb d_X3_head_46 rfl (lv_at hl 1 rfl) ?_
      refine va_get (D := D) (ci := 3) (v := .int (σ16 3 2)) (C := "LinkedUnits$Grammar") (T := TX3) (N := 12) hx hb hg iwX3 hown hK hP 2 rfl rfl 2 (by decide) (hg _ m_96) (fun _ h9 => h9) rfl d_X3_head_47 ?_
      refine lv_bipush (v := 22) hx hb d_X3_head_50 (by decide) ?_
      refine lv_icmp_ne (tgt := 59) hx hb d_X3_head_52 (by decide) (fun c_52 => ?_) (fun c_52 => ?_)
      · -- taken at 52
        refine lv_iconst (v := 0) hx hb d_X3_head_59 (by decide) ?_
        refine lv_istore (lv' := [(5, .int 0), (4, .int 0), (0, .ref (r 3)), (1, .int x1), (2, .int x2), (3, .int x3)]) hx hb d_X3_head_60 hl (by decide) rfl (fun ls hl => ?_)
        refine lv_aload_n hx hb d_X3_head_62 rfl (lv_at hl 2 rfl) ?_
        refine lv_bipush (v := 47) hx hb d_X3_head_63 (by decide) ?_
        refine lv_iload_n hx hb d_X3_head_65 rfl (lv_at hl 3 rfl) ?_
        refine lv_iload hx hb d_X3_head_66 (lv_at hl 1 rfl) ?_
        refine lv_iload_n hx hb d_X3_head_68 rfl (lv_at hl 4 rfl) ?_
        refine lv_iconst (v := 1) hx hb d_X3_head_69 (by decide) ?_
        refine lv_iadd hx hb d_X3_head_70 ?_
        refine lv_bipush (v := 8) hx hb d_X3_head_71 (by decide) ?_
        refine lv_imul hx hb d_X3_head_73 ?_
        refine lv_iload_n hx hb d_X3_head_74 rfl (lv_at hl 5 rfl) ?_
        refine lv_iadd hx hb d_X3_head_75 ?_
        refine lv_iload hx hb d_X3_head_76 (lv_at hl 0 rfl) ?_
        refine lv_if_eq (tgt := 85) hx hb d_X3_head_78 (by decide) (fun _ => ?_) (fun c_78 => False.elim (by revert c_78; decide))
        refine lv_iconst (v := 0) hx hb d_X3_head_85 (by decide) ?_
        refine lv_iadd hx hb d_X3_head_86 ?_
        refine s_calli (X := St) (w1 := fun τ => wB cy r τ) (va_runV (As := [.int 47, .int x1, .int 0, .int ((((x2 + 1) * 8) + x3) + 0)]) (rest := []) ⟨hx, hb, hml, hown, hg⟩ (s_X3_add l D cy H.size r σ16 (47 : Int32) x1 (0 : Int32) ((((x2 + 1) * 8) + x3) + 0) i16 ) (cwV 4 hg (gw_V m_923 m_925 ms_X3_add m_3 m_926) rfl rfl rfl (by decide +kernel) ⟨(Nat.le_of_ble_eq_true rfl), (Nat.le_of_ble_eq_true rfl)⟩) (s_preV (As := [.int 47, .int x1, .int 0, .int ((((x2 + 1) * 8) + x3) + 0)]) hP hD hK hNW 2 rfl rfl) rfl rfl hl.1 rfl (lv_room (Nat.le_of_ble_eq_true rfl)) d_X3_head_87 ⟨(Nat.le_of_ble_eq_true rfl), (Nat.le_of_ble_eq_true rfl)⟩) hP hD hS hA (fun r17 σ17 H locs hw hP hD hS => ?_)
        have hP : va_P D vwCl (wB cy r σ17) H := hP
        have hD : va_D A (wB cy r σ17) := hD
        have i17 : Inv σ17 := hw
        refine lv_pop hx hb d_X3_head_90 rfl ?_
        refine lv_iload hx hb d_X3_head_91 (lv_at hl 0 rfl) ?_
        refine lv_if_ne (tgt := 102) hx hb d_X3_head_93 (by decide) (fun c_93 => absurd c_93 (by decide)) (fun _ => ?_)
        refine lv_aload_n hx hb d_X3_head_96 rfl (lv_at hl 2 rfl) ?_
        refine lv_bipush (v := 27) hx hb d_X3_head_97 (by decide) ?_
        refine s_callv (X := St) (w1 := fun τ => wB cy r τ) (va_runV (As := [.int 27]) (rest := []) ⟨hx, hb, hml, hown, hg⟩ (s_X3_expect l D cy H.size r σ17 (27 : Int32) i17 ) (cwV 1 hg (gw_V m_903 m_905 ms_X3_expect m_3 m_906) rfl rfl rfl (by decide +kernel) ⟨(Nat.le_of_ble_eq_true rfl), (Nat.le_of_ble_eq_true rfl)⟩) (s_preV (As := [.int 27]) hP hD hK hNW 2 rfl rfl) rfl rfl hl.1 rfl (lv_room (Nat.le_of_ble_eq_true rfl)) d_X3_head_99 ⟨(Nat.le_of_ble_eq_true rfl), (Nat.le_of_ble_eq_true rfl)⟩) hP hD hS hA (fun σ18 H locs hw hP hD hS => ?_)
        have hP : va_P D vwCl (wB cy r σ18) H := hP
        have hD : va_D A (wB cy r σ18) := hD
        have i18 : Inv σ18 := hw
        refine lv_iconst (v := 0) hx hb d_X3_head_102 (by decide) ?_
        refine lv_istore (lv' := [(6, .int 0), (5, .int 0), (4, .int 0), (0, .ref (r 3)), (1, .int x1), (2, .int x2), (3, .int x3)]) hx hb d_X3_head_103 hl (by decide) rfl (fun ls hl => ?_)
        exact b105 _ σ18 x1 x2 x3 (0 : Int32) (0 : Int32) (0 : Int32) _ _ _ rfl i18 (Or.inl rfl) hP hD hS (lv_sub hl [3, 4, 5, 6, 2, 1, 0] rfl)
      · -- not taken at 52
        refine lv_iconst (v := 1) hx hb d_X3_head_55 (by decide) ?_
        refine lv_goto (tgt := 60) hx hb d_X3_head_56 (by decide) ?_
        refine lv_istore (lv' := [(5, .int 1), (4, .int 0), (0, .ref (r 3)), (1, .int x1), (2, .int x2), (3, .int x3)]) hx hb d_X3_head_60 hl (by decide) rfl (fun ls hl => ?_)
        refine lv_aload_n hx hb d_X3_head_62 rfl (lv_at hl 2 rfl) ?_
        refine lv_bipush (v := 47) hx hb d_X3_head_63 (by decide) ?_
        refine lv_iload_n hx hb d_X3_head_65 rfl (lv_at hl 3 rfl) ?_
        refine lv_iload hx hb d_X3_head_66 (lv_at hl 1 rfl) ?_
        refine lv_iload_n hx hb d_X3_head_68 rfl (lv_at hl 4 rfl) ?_
        refine lv_iconst (v := 1) hx hb d_X3_head_69 (by decide) ?_
        refine lv_iadd hx hb d_X3_head_70 ?_
        refine lv_bipush (v := 8) hx hb d_X3_head_71 (by decide) ?_
        refine lv_imul hx hb d_X3_head_73 ?_
        refine lv_iload_n hx hb d_X3_head_74 rfl (lv_at hl 5 rfl) ?_
        refine lv_iadd hx hb d_X3_head_75 ?_
        refine lv_iload hx hb d_X3_head_76 (lv_at hl 0 rfl) ?_
        refine lv_if_eq (tgt := 85) hx hb d_X3_head_78 (by decide) (fun c_78 => absurd c_78 (by decide)) (fun _ => ?_)
        refine lv_iconst (v := 4) hx hb d_X3_head_81 (by decide) ?_
        refine lv_goto (tgt := 86) hx hb d_X3_head_82 (by decide) ?_
        refine lv_iadd hx hb d_X3_head_86 ?_
        refine s_calli (X := St) (w1 := fun τ => wB cy r τ) (va_runV (As := [.int 47, .int x1, .int 0, .int ((((x2 + 1) * 8) + x3) + 4)]) (rest := []) ⟨hx, hb, hml, hown, hg⟩ (s_X3_add l D cy H.size r σ16 (47 : Int32) x1 (0 : Int32) ((((x2 + 1) * 8) + x3) + 4) i16 ) (cwV 4 hg (gw_V m_923 m_925 ms_X3_add m_3 m_926) rfl rfl rfl (by decide +kernel) ⟨(Nat.le_of_ble_eq_true rfl), (Nat.le_of_ble_eq_true rfl)⟩) (s_preV (As := [.int 47, .int x1, .int 0, .int ((((x2 + 1) * 8) + x3) + 4)]) hP hD hK hNW 2 rfl rfl) rfl rfl hl.1 rfl (lv_room (Nat.le_of_ble_eq_true rfl)) d_X3_head_87 ⟨(Nat.le_of_ble_eq_true rfl), (Nat.le_of_ble_eq_true rfl)⟩) hP hD hS hA (fun r19 σ19 H locs hw hP hD hS => ?_)
        have hP : va_P D vwCl (wB cy r σ19) H := hP
        have hD : va_D A (wB cy r σ19) := hD
        have i19 : Inv σ19 := hw
        refine lv_pop hx hb d_X3_head_90 rfl ?_
        refine lv_iload hx hb d_X3_head_91 (lv_at hl 0 rfl) ?_
        refine lv_if_ne (tgt := 102) hx hb d_X3_head_93 (by decide) (fun _ => ?_) (fun c_93 => False.elim (by revert c_93; decide))
        refine lv_iconst (v := 0) hx hb d_X3_head_102 (by decide) ?_
        refine lv_istore (lv' := [(6, .int 0), (5, .int 1), (4, .int 0), (0, .ref (r 3)), (1, .int x1), (2, .int x2), (3, .int x3)]) hx hb d_X3_head_103 hl (by decide) rfl (fun ls hl => ?_)
        exact b105 _ σ19 x1 x2 x3 (0 : Int32) (1 : Int32) (0 : Int32) _ _ _ rfl i19 (Or.inr rfl) hP hD hS (lv_sub hl [3, 4, 5, 6, 2, 1, 0] rfl)
  rw [hH] at hgoal
  exact hgoal
