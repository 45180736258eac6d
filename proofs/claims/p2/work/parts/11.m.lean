set_option maxHeartbeats 4000000 in
set_option maxRecDepth 100000 in
theorem s_X3_fail (l : Launch) (D : va_G) (cy : Nat → ClassId) (sz : Nat) (w : Nat → Nat) (g : Nat → Nat → Int32) (r : Nat → Nat) (σ0 : St) (i0 : Inv σ0) : Met l y_X3_fail (Cond.code y_X3_fail b_X3_fail 1 none :: GW) ({ frames := 0, cells := 0, slots := 0, locals := 0 } : Room) (va_Pc [.ref (r 3)] (kPreE D cy sz (wB cy r σ0) (gE w g))) ((fun A : Nat → Prop => va_Qv (S := St) (fun (τ : St) => (Inv τ ∧ Keep [(3, 2), (3, 3)] [] σ0 τ)) (fun τ => kPost D cy A (wB cy r τ)) A) (va_A (wB cy r σ0) sz)) 0 0 (va_A (wB cy r σ0) sz) := by
  refine k_ofWE (Qc := fun A => va_Qv (S := St) (fun (τ : St) => (Inv τ ∧ Keep [(3, 2), (3, 3)] [] σ0 τ)) (fun τ => kPost D cy A (wB cy r τ)) A) (by decide) (Nat.le_of_ble_eq_true rfl) ?_
  intro p e s m below meth c A ls hx hb hr hml hown hlocks hin hg hNW hK hP hD hA hS hl hE
  have hl : lv_has ls 1 [(0, .ref (r 3))] := hl
  have hown : s.vm.findClass "LinkedUnits$Grammar" = some m.cls := hown
  have kp : Keep [(3, 2), (3, 3)] [] σ0 σ0 := keep_rf
  obtain ⟨H, hH⟩ : ∃ H, H = s.heap := ⟨_, rfl⟩
  rw [← hH] at hP
  have hS : va_S A s.heap H [] := by rw [hH]; exact va_S.rf
  have hgoal : W p l e ({ frames := 0, cells := 0, slots := 0, locals := 0 } : Room) s m (([.ref (r 3)] : List Value).toArray) below meth c H [] 0 0 (MQ below (va_Qv (S := St) (fun (τ : St) => (Inv τ ∧ Keep [(3, 2), (3, 3)] [] σ0 τ)) (fun τ => kPost D cy A (wB cy r τ)) A) (([.ref (r 3)] : List Value).toArray) s 0 0 A) (F0 m 0 ls []) := by
    refine lv_aload_n hx hb d_X3_fail_0 rfl (lv_at hl 0 rfl) ?_
    refine va_get (D := D) (ci := 3) (v := .int (σ0 3 3)) (C := "LinkedUnits$Grammar") (T := TX3) (N := 12) hx hb hg iwX3 hown hK hP 2 rfl rfl 3 (by decide) (hg _ m_97) (fun _ h9 => h9) rfl d_X3_fail_1 ?_
    refine lv_if_ge (tgt := 15) hx hb d_X3_fail_4 (by decide) (fun c_4 => ?_) (fun c_4 => ?_)
    · -- taken at 4
      refine lv_aload_n hx hb d_X3_fail_15 rfl (lv_at hl 0 rfl) ?_
      refine lv_iconst (v := (-1)) hx hb d_X3_fail_16 (by decide) ?_
      refine va_put (D := D) (ci := 3) (v := .int (-1)) (ty := .int) (C := "LinkedUnits$Grammar") (T := TX3) (N := 12) hx hb hg iwX3 tyX3 tyX3_ok nmX3 hown hK hP hD hS 2 rfl rfl 2 (by decide) (hg _ m_96) (fun _ h9 => h9) rfl (by decide +kernel) rfl rfl (Nat.le_of_ble_eq_true rfl) d_X3_fail_17 (fun H locs hP hD hS => ?_)
      have hP : va_P D vwCl (wB cy r (upC σ0 3 2 (-1))) H := hP
      have hD : va_D A (wB cy r (upC σ0 3 2 (-1))) := hD
      have kp : Keep [(3, 2), (3, 3)] [] σ0 (upC σ0 3 2 (-1)) := keep_f kp (by decide)
      refine W.widen (k := 0) (n := 0) (Nat.le_of_ble_eq_true rfl) (Nat.le_of_ble_eq_true rfl) ?_
      exact k_vret (X := St) (w1 := fun τ => wB cy r τ) (upC σ0 3 2 (-1)) hx hb hr d_X3_fail_20 hlocks hP hK hD hS ⟨i0, kp⟩
    · -- not taken at 4
      refine lv_aload_n hx hb d_X3_fail_7 rfl (lv_at hl 0 rfl) ?_
      refine lv_aload_n hx hb d_X3_fail_8 rfl (lv_at hl 0 rfl) ?_
      refine va_get (D := D) (ci := 3) (v := .int (σ0 3 1)) (C := "LinkedUnits$Grammar") (T := TX3) (N := 12) hx hb hg iwX3 hown hK hP 2 rfl rfl 1 (by decide) (hg _ m_95) (fun _ h9 => h9) rfl d_X3_fail_9 ?_
      refine va_put (D := D) (ci := 3) (v := .int (σ0 3 1)) (ty := .int) (C := "LinkedUnits$Grammar") (T := TX3) (N := 12) hx hb hg iwX3 tyX3 tyX3_ok nmX3 hown hK hP hD hS 2 rfl rfl 3 (by decide) (hg _ m_97) (fun _ h9 => h9) rfl (by decide +kernel) rfl rfl (Nat.le_of_ble_eq_true rfl) d_X3_fail_12 (fun H locs hP hD hS => ?_)
      have hP : va_P D vwCl (wB cy r (upC σ0 3 3 (σ0 3 1))) H := hP
      have hD : va_D A (wB cy r (upC σ0 3 3 (σ0 3 1))) := hD
      have kp : Keep [(3, 2), (3, 3)] [] σ0 (upC σ0 3 3 (σ0 3 1)) := keep_f kp (by decide)
      refine lv_aload_n hx hb d_X3_fail_15 rfl (lv_at hl 0 rfl) ?_
      refine lv_iconst (v := (-1)) hx hb d_X3_fail_16 (by decide) ?_
      refine va_put (D := D) (ci := 3) (v := .int (-1)) (ty := .int) (C := "LinkedUnits$Grammar") (T := TX3) (N := 12) hx hb hg iwX3 tyX3 tyX3_ok nmX3 hown hK hP hD hS 2 rfl rfl 2 (by decide) (hg _ m_96) (fun _ h9 => h9) rfl (by decide +kernel) rfl rfl (Nat.le_of_ble_eq_true rfl) d_X3_fail_17 (fun H locs hP hD hS => ?_)
      have hP : va_P D vwCl (wB cy r (upC (upC σ0 3 3 (σ0 3 1)) 3 2 (-1))) H := hP
      have hD : va_D A (wB cy r (upC (upC σ0 3 3 (σ0 3 1)) 3 2 (-1))) := hD
      have kp : Keep [(3, 2), (3, 3)] [] σ0 (upC (upC σ0 3 3 (σ0 3 1)) 3 2 (-1)) := keep_f kp (by decide)
      refine W.widen (k := 0) (n := 0) (Nat.le_of_ble_eq_true rfl) (Nat.le_of_ble_eq_true rfl) ?_
      exact k_vret (X := St) (w1 := fun τ => wB cy r τ) (upC (upC σ0 3 3 (σ0 3 1)) 3 2 (-1)) hx hb hr d_X3_fail_20 hlocks hP hK hD hS ⟨i0, kp⟩
  rw [hH] at hgoal
  exact hgoal
set_option maxHeartbeats 4000000 in
set_option maxRecDepth 100000 in
theorem s_X3_stars (l : Launch) (D : va_G) (cy : Nat → ClassId) (sz : Nat) (w : Nat → Nat) (g : Nat → Nat → Int32) (r : Nat → Nat) (σ0 : St) (i0 : Inv σ0) : Met l y_X3_stars (Cond.code y_X3_stars b_X3_stars 2 (some .int) :: GW) ({ frames := 1, cells := 0, slots := 0, locals := 21 } : Room) (va_Pc [.ref (r 3)] (kPreE D cy sz (wB cy r σ0) (gE w g))) ((fun A : Nat → Prop => va_Qi (S := St) (fun (_ : Int32) (τ : St) => (Inv τ ∧ Keep [(3, 1), (3, 2), (3, 3)] [] σ0 τ)) (fun τ => kPost D cy A (wB cy r τ)) A) (va_A (wB cy r σ0) sz)) 0 0 (va_A (wB cy r σ0) sz) := by
  refine k_ofWE (Qc := fun A => va_Qi (S := St) (fun (_ : Int32) (τ : St) => (Inv τ ∧ Keep [(3, 1), (3, 2), (3, 3)] [] σ0 τ)) (fun τ => kPost D cy A (wB cy r τ)) A) (by decide) (Nat.le_of_ble_eq_true rfl) ?_
  intro p e s m below meth c A ls hx hb hr hml hown hlocks hin hg hNW hK hP hD hA hS hl hE
  have hl : lv_has ls 2 [(0, .ref (r 3))] := hl
  have hown : s.vm.findClass "LinkedUnits$Grammar" = some m.cls := hown
  have b2 : ∀ (N : Nat) (σ : St) (x1 : Int32) (H : Heap) (locs : List Loc) (ls : Array Slot), upm x1 = N → Inv σ → Keep [(3, 1), (3, 2), (3, 3)] [] σ0 σ → va_P D vwCl (wB cy r σ) H → va_D A (wB cy r σ) → va_S A s.heap H locs → lv_has ls 2 [(0, .ref (r 3)), (1, .int x1)] → W p l e ({ frames := 1, cells := 0, slots := 0, locals := 21 } : Room) s m (([.ref (r 3)] : List Value).toArray) below meth c H locs 0 0 (MQ below (va_Qi (S := St) (fun (_ : Int32) (τ : St) => (Inv τ ∧ Keep [(3, 1), (3, 2), (3, 3)] [] σ0 τ)) (fun τ => kPost D cy A (wB cy r τ)) A) (([.ref (r 3)] : List Value).toArray) s 0 0 A) (F0 m 2 ls []) := by
    intro M2
    induction M2 using Nat.strongRecOn with
    | _ M2 ih2 =>
      intro σ x1 H locs ls N2 inv kp hP hD hS hl
      refine lv_iload_n hx hb d_X3_stars_2 rfl (lv_at hl 1 rfl) ?_
      refine lv_iconst (v := 5) hx hb d_X3_stars_3 (by decide) ?_
      refine lv_icmp_ge (tgt := 26) hx hb d_X3_stars_4 (by decide) (fun c_4 => ?_) (fun c_4 => ?_)
      · -- taken at 4
        refine lv_aload_n hx hb d_X3_stars_26 rfl (lv_at hl 0 rfl) ?_
        refine va_get (D := D) (ci := 3) (v := .int (σ 3 2)) (C := "LinkedUnits$Grammar") (T := TX3) (N := 12) hx hb hg iwX3 hown hK hP 2 rfl rfl 2 (by decide) (hg _ m_96) (fun _ h9 => h9) rfl d_X3_stars_27 ?_
        refine lv_bipush (v := 45) hx hb d_X3_stars_30 (by decide) ?_
        refine lv_icmp_ne (tgt := 39) hx hb d_X3_stars_32 (by decide) (fun c_32 => ?_) (fun c_32 => ?_)
        · -- taken at 32
          refine lv_iload_n hx hb d_X3_stars_39 rfl (lv_at hl 1 rfl) ?_
          refine W.widen (k := 0) (n := 0) (Nat.le_of_ble_eq_true rfl) (Nat.le_of_ble_eq_true rfl) ?_
          exact k_iret (X := St) (w1 := fun τ => wB cy r τ) σ hx hb hr d_X3_stars_40 hlocks hP hK hD hS ⟨inv, kp⟩
        · -- not taken at 32
          refine lv_aload_n hx hb d_X3_stars_35 rfl (lv_at hl 0 rfl) ?_
          refine s_callv (X := St) (w1 := fun τ => wB cy r τ) (va_runV (As := []) (rest := []) ⟨hx, hb, hml, hown, hg⟩ (s_X3_fail l D cy H.size w g r σ  inv ) (cwV 0 hg (gw_V m_907 m_909 ms_X3_fail m_3 m_910) rfl rfl rfl (by decide +kernel) ⟨(Nat.le_of_ble_eq_true rfl), (Nat.le_of_ble_eq_true rfl)⟩) (s_preVE (As := []) (gE_ok w g) hS hA hE hP hD hK hNW 2 rfl rfl) rfl rfl hl.1 rfl (lv_room (Nat.le_of_ble_eq_true rfl)) d_X3_stars_36 ⟨(Nat.le_of_ble_eq_true rfl), (Nat.le_of_ble_eq_true rfl)⟩) hP hD hS hA (fun σ1 H locs hw hP hD hS => ?_)
          have hP : va_P D vwCl (wB cy r σ1) H := hP
          have hD : va_D A (wB cy r σ1) := hD
          have ik1 : Keep [(3, 2), (3, 3)] [] σ σ1 := hw.2
          have kp : Keep [(3, 1), (3, 2), (3, 3)] [] σ0 σ1 := keep_c kp ik1 (by decide) (by decide)
          have i1 : Inv σ1 := hw.1
          refine lv_iload_n hx hb d_X3_stars_39 rfl (lv_at hl 1 rfl) ?_
          refine W.widen (k := 0) (n := 0) (Nat.le_of_ble_eq_true rfl) (Nat.le_of_ble_eq_true rfl) ?_
          exact k_iret (X := St) (w1 := fun τ => wB cy r τ) σ1 hx hb hr d_X3_stars_40 hlocks hP hK hD hS ⟨i1, kp⟩
      · -- not taken at 4
        refine lv_aload_n hx hb d_X3_stars_7 rfl (lv_at hl 0 rfl) ?_
        refine va_get (D := D) (ci := 3) (v := .int (σ 3 2)) (C := "LinkedUnits$Grammar") (T := TX3) (N := 12) hx hb hg iwX3 hown hK hP 2 rfl rfl 2 (by decide) (hg _ m_96) (fun _ h9 => h9) rfl d_X3_stars_8 ?_
        refine lv_bipush (v := 45) hx hb d_X3_stars_11 (by decide) ?_
        refine lv_icmp_ne (tgt := 26) hx hb d_X3_stars_13 (by decide) (fun c_13 => ?_) (fun c_13 => ?_)
        · -- taken at 13
          refine lv_aload_n hx hb d_X3_stars_26 rfl (lv_at hl 0 rfl) ?_
          refine va_get (D := D) (ci := 3) (v := .int (σ 3 2)) (C := "LinkedUnits$Grammar") (T := TX3) (N := 12) hx hb hg iwX3 hown hK hP 2 rfl rfl 2 (by decide) (hg _ m_96) (fun _ h9 => h9) rfl d_X3_stars_27 ?_
          refine lv_bipush (v := 45) hx hb d_X3_stars_30 (by decide) ?_
          refine lv_icmp_ne (tgt := 39) hx hb d_X3_stars_32 (by decide) (fun c_32 => ?_) (fun c_32 => ?_)
          · -- taken at 32
            refine lv_iload_n hx hb d_X3_stars_39 rfl (lv_at hl 1 rfl) ?_
            refine W.widen (k := 0) (n := 0) (Nat.le_of_ble_eq_true rfl) (Nat.le_of_ble_eq_true rfl) ?_
            exact k_iret (X := St) (w1 := fun τ => wB cy r τ) σ hx hb hr d_X3_stars_40 hlocks hP hK hD hS ⟨inv, kp⟩
          · -- not taken at 32
            refine lv_aload_n hx hb d_X3_stars_35 rfl (lv_at hl 0 rfl) ?_
            refine s_callv (X := St) (w1 := fun τ => wB cy r τ) (va_runV (As := []) (rest := []) ⟨hx, hb, hml, hown, hg⟩ (s_X3_fail l D cy H.size w g r σ  inv ) (cwV 0 hg (gw_V m_907 m_909 ms_X3_fail m_3 m_910) rfl rfl rfl (by decide +kernel) ⟨(Nat.le_of_ble_eq_true rfl), (Nat.le_of_ble_eq_true rfl)⟩) (s_preVE (As := []) (gE_ok w g) hS hA hE hP hD hK hNW 2 rfl rfl) rfl rfl hl.1 rfl (lv_room (Nat.le_of_ble_eq_true rfl)) d_X3_stars_36 ⟨(Nat.le_of_ble_eq_true rfl), (Nat.le_of_ble_eq_true rfl)⟩) hP hD hS hA (fun σ2 H locs hw hP hD hS => ?_)
            have hP : va_P D vwCl (wB cy r σ2) H := hP
            have hD : va_D A (wB cy r σ2) := hD
            have ik2 : Keep [(3, 2), (3, 3)] [] σ σ2 := hw.2
            have kp : Keep [(3, 1), (3, 2), (3, 3)] [] σ0 σ2 := keep_c kp ik2 (by decide) (by decide)
            have i2 : Inv σ2 := hw.1
            refine lv_iload_n hx hb d_X3_stars_39 rfl (lv_at hl 1 rfl) ?_
            refine W.widen (k := 0) (n := 0) (Nat.le_of_ble_eq_true rfl) (Nat.le_of_ble_eq_true rfl) ?_
            exact k_iret (X := St) (w1 := fun τ => wB cy r τ) σ2 hx hb hr d_X3_stars_40 hlocks hP hK hD hS ⟨i2, kp⟩
        · -- not taken at 13
          refine lv_aload_n hx hb d_X3_stars_16 rfl (lv_at hl 0 rfl) ?_
          refine s_callv (X := St) (w1 := fun τ => wB cy r τ) (va_runV (As := []) (rest := []) ⟨hx, hb, hml, hown, hg⟩ (s_X3_advance l D cy H.size w g r σ  inv ) (cwV 0 hg (gw_V m_899 m_901 ms_X3_advance m_3 m_902) rfl rfl rfl (by decide +kernel) ⟨(Nat.le_of_ble_eq_true rfl), (Nat.le_of_ble_eq_true rfl)⟩) (s_preVE (As := []) (gE_ok w g) hS hA hE hP hD hK hNW 2 rfl rfl) rfl rfl hl.1 rfl (lv_room (Nat.le_of_ble_eq_true rfl)) d_X3_stars_17 ⟨(Nat.le_of_ble_eq_true rfl), (Nat.le_of_ble_eq_true rfl)⟩) hP hD hS hA (fun σ3 H locs hw hP hD hS => ?_)
          have hP : va_P D vwCl (wB cy r σ3) H := hP
          have hD : va_D A (wB cy r σ3) := hD
          have ik3 : Keep [(3, 1), (3, 2)] [] σ σ3 := hw.2
          have kp : Keep [(3, 1), (3, 2), (3, 3)] [] σ0 σ3 := keep_c kp ik3 (by decide) (by decide)
          have i3 : Inv σ3 := hw.1
          refine lv_iinc (v := (x1 + 1)) (lv' := [(1, .int (x1 + 1)), (0, .ref (r 3))]) hx hb d_X3_stars_20 hl (k := 1) rfl rfl (by decide) rfl (fun ls hl => ?_)
          refine lv_goto (tgt := 2) hx hb d_X3_stars_23 (by decide) ?_
          exact ih2 _ (Nat.lt_of_lt_of_eq (upm_lt c_4) N2) σ3 (x1 + 1) _ _ _ rfl i3 kp hP hD hS (lv_sub hl [1, 0] rfl)
  have kp : Keep [(3, 1), (3, 2), (3, 3)] [] σ0 σ0 := keep_rf
  obtain ⟨H, hH⟩ : ∃ H, H = s.heap := ⟨_, rfl⟩
  rw [← hH] at hP
  have hS : va_S A s.heap H [] := by rw [hH]; exact va_S.rf
  have hgoal : W p l e ({ frames := 1, cells := 0, slots := 0, locals := 21 } : Room) s m (([.ref (r 3)] : List Value).toArray) below meth c H [] 0 0 (MQ below (va_Qi (S := St) (fun (_ : Int32) (τ : St) => (Inv τ ∧ Keep [(3, 1), (3, 2), (3, 3)] [] σ0 τ)) (fun τ => kPost D cy A (wB cy r τ)) A) (([.ref (r 3)] : List Value).toArray) s 0 0 A) (F0 m 0 ls []) := by
    refine lv_iconst (v := 0) hx hb d_X3_stars_0 (by decide) ?_
    refine lv_istore_n (lv' := [(1, .int 0), (0, .ref (r 3))]) hx hb d_X3_stars_1 rfl hl (by decide) rfl (fun ls hl => ?_)
    exact b2 _ σ0 (0 : Int32) _ _ _ rfl i0 kp hP hD hS (lv_sub hl [1, 0] rfl)
  rw [hH] at hgoal
  exact hgoal
set_option maxHeartbeats 4000000 in
set_option maxRecDepth 100000 in
theorem s_X3_add (l : Launch) (D : va_G) (cy : Nat → ClassId) (sz : Nat) (w : Nat → Nat) (g : Nat → Nat → Int32) (r : Nat → Nat) (σ0 : St) (a1 : Int32) (a2 : Int32) (a3 : Int32) (a4 : Int32) (i0 : Inv σ0) : Met l y_X3_add (Cond.code y_X3_add b_X3_add 6 (some .int) :: GW) ({ frames := 0, cells := 0, slots := 0, locals := 0 } : Room) (va_Pc [.ref (r 3), .int a1, .int a2, .int a3, .int a4] (kPreE D cy sz (wB cy r σ0) (gE w g))) ((fun A : Nat → Prop => va_Qi (S := St) (fun (_ : Int32) (τ : St) => (Inv τ ∧ Keep [(3, 4)] [18, 19, 20, 21] σ0 τ)) (fun τ => kPost D cy A (wB cy r τ)) A) (va_A (wB cy r σ0) sz)) 0 0 (va_A (wB cy r σ0) sz) := by
  refine k_ofWE (Qc := fun A => va_Qi (S := St) (fun (_ : Int32) (τ : St) => (Inv τ ∧ Keep [(3, 4)] [18, 19, 20, 21] σ0 τ)) (fun τ => kPost D cy A (wB cy r τ)) A) (by decide) (Nat.le_of_ble_eq_true rfl) ?_
  intro p e s m below meth c A ls hx hb hr hml hown hlocks hin hg hNW hK hP hD hA hS hl hE
  have hl : lv_has ls 6 [(0, .ref (r 3)), (1, .int a1), (2, .int a2), (3, .int a3), (4, .int a4)] := hl
  have hown : s.vm.findClass "LinkedUnits$Grammar" = some m.cls := hown
  have kp : Keep [(3, 4)] [18, 19, 20, 21] σ0 σ0 := keep_rf
  obtain ⟨H, hH⟩ : ∃ H, H = s.heap := ⟨_, rfl⟩
  rw [← hH] at hP
  have hS : va_S A s.heap H [] := by rw [hH]; exact va_S.rf
  have hgoal : W p l e ({ frames := 0, cells := 0, slots := 0, locals := 0 } : Room) s m (([.ref (r 3), .int a1, .int a2, .int a3, .int a4] : List Value).toArray) below meth c H [] 0 0 (MQ below (va_Qi (S := St) (fun (_ : Int32) (τ : St) => (Inv τ ∧ Keep [(3, 4)] [18, 19, 20, 21] σ0 τ)) (fun τ => kPost D cy A (wB cy r τ)) A) (([.ref (r 3), .int a1, .int a2, .int a3, .int a4] : List Value).toArray) s 0 0 A) (F0 m 0 ls []) := by
    refine lv_aload_n hx hb d_X3_add_0 rfl (lv_at hl 0 rfl) ?_
    refine va_get (D := D) (ci := 3) (v := .int (σ0 3 4)) (C := "LinkedUnits$Grammar") (T := TX3) (N := 12) hx hb hg iwX3 hown hK hP 2 rfl rfl 4 (by decide) (hg _ m_99) (fun _ h9 => h9) rfl d_X3_add_1 ?_
    refine lv_istore (lv' := [(5, .int (σ0 3 4)), (0, .ref (r 3)), (1, .int a1), (2, .int a2), (3, .int a3), (4, .int a4)]) hx hb d_X3_add_4 hl (by decide) rfl (fun ls hl => ?_)
    refine lv_iload hx hb d_X3_add_6 (lv_at hl 0 rfl) ?_
    refine lv_if_lt (tgt := 94) hx hb d_X3_add_8 (by decide) (fun c_8 => ?_) (fun c_8 => ?_)
    · -- taken at 8
      refine lv_iload hx hb d_X3_add_94 (lv_at hl 0 rfl) ?_
      refine W.widen (k := 0) (n := 0) (Nat.le_of_ble_eq_true rfl) (Nat.le_of_ble_eq_true rfl) ?_
      exact k_iret (X := St) (w1 := fun τ => wB cy r τ) σ0 hx hb hr d_X3_add_96 hlocks hP hK hD hS ⟨i0, kp⟩
    · -- not taken at 8
      refine lv_iload hx hb d_X3_add_11 (lv_at hl 0 rfl) ?_
      refine lv_aload_n hx hb d_X3_add_13 rfl (lv_at hl 1 rfl) ?_
      refine va_get (D := D) (ci := 3) (v := .ref (r 18)) (C := "LinkedUnits$Grammar") (T := TX3) (N := 12) hx hb hg iwX3 hown hK hP 2 rfl rfl 5 (by decide) (hg _ m_101) (fun _ h9 => h9) rfl d_X3_add_14 ?_
      refine va_alen hx hb hK hP 17 1 rfl rfl (v := 32100) (by show Int32.ofNat 32100 = 32100; decide) d_X3_add_17 ?_
      refine lv_icmp_ge (tgt := 94) hx hb d_X3_add_18 (by decide) (fun c_18 => ?_) (fun c_18 => ?_)
      · -- taken at 18
        refine lv_iload hx hb d_X3_add_94 (lv_at hl 0 rfl) ?_
        refine W.widen (k := 0) (n := 0) (Nat.le_of_ble_eq_true rfl) (Nat.le_of_ble_eq_true rfl) ?_
        exact k_iret (X := St) (w1 := fun τ => wB cy r τ) σ0 hx hb hr d_X3_add_96 hlocks hP hK hD hS ⟨i0, kp⟩
      · -- not taken at 18
        refine lv_iload hx hb d_X3_add_21 (lv_at hl 0 rfl) ?_
        refine lv_aload_n hx hb d_X3_add_23 rfl (lv_at hl 1 rfl) ?_
        refine va_get (D := D) (ci := 3) (v := .ref (r 19)) (C := "LinkedUnits$Grammar") (T := TX3) (N := 12) hx hb hg iwX3 hown hK hP 2 rfl rfl 6 (by decide) (hg _ m_104) (fun _ h9 => h9) rfl d_X3_add_24 ?_
        refine va_alen hx hb hK hP 18 1 rfl rfl (v := 32100) (by show Int32.ofNat 32100 = 32100; decide) d_X3_add_27 ?_
        refine lv_icmp_ge (tgt := 94) hx hb d_X3_add_28 (by decide) (fun c_28 => ?_) (fun c_28 => ?_)
        · -- taken at 28
          refine lv_iload hx hb d_X3_add_94 (lv_at hl 0 rfl) ?_
          refine W.widen (k := 0) (n := 0) (Nat.le_of_ble_eq_true rfl) (Nat.le_of_ble_eq_true rfl) ?_
          exact k_iret (X := St) (w1 := fun τ => wB cy r τ) σ0 hx hb hr d_X3_add_96 hlocks hP hK hD hS ⟨i0, kp⟩
        · -- not taken at 28
          refine lv_iload hx hb d_X3_add_31 (lv_at hl 0 rfl) ?_
          refine lv_aload_n hx hb d_X3_add_33 rfl (lv_at hl 1 rfl) ?_
          refine va_get (D := D) (ci := 3) (v := .ref (r 20)) (C := "LinkedUnits$Grammar") (T := TX3) (N := 12) hx hb hg iwX3 hown hK hP 2 rfl rfl 7 (by decide) (hg _ m_108) (fun _ h9 => h9) rfl d_X3_add_34 ?_
          refine va_alen hx hb hK hP 19 1 rfl rfl (v := 32100) (by show Int32.ofNat 32100 = 32100; decide) d_X3_add_37 ?_
          refine lv_icmp_ge (tgt := 94) hx hb d_X3_add_38 (by decide) (fun c_38 => ?_) (fun c_38 => ?_)
          · -- taken at 38
            refine lv_iload hx hb d_X3_add_94 (lv_at hl 0 rfl) ?_
            refine W.widen (k := 0) (n := 0) (Nat.le_of_ble_eq_true rfl) (Nat.le_of_ble_eq_true rfl) ?_
            exact k_iret (X := St) (w1 := fun τ => wB cy r τ) σ0 hx hb hr d_X3_add_96 hlocks hP hK hD hS ⟨i0, kp⟩
          · -- not taken at 38
            refine lv_iload hx hb d_X3_add_41 (lv_at hl 0 rfl) ?_
            refine lv_aload_n hx hb d_X3_add_43 rfl (lv_at hl 1 rfl) ?_
            refine va_get (D := D) (ci := 3) (v := .ref (r 21)) (C := "LinkedUnits$Grammar") (T := TX3) (N := 12) hx hb hg iwX3 hown hK hP 2 rfl rfl 8 (by decide) (hg _ m_112) (fun _ h9 => h9) rfl d_X3_add_44 ?_
            refine va_alen hx hb hK hP 20 1 rfl rfl (v := 32100) (by show Int32.ofNat 32100 = 32100; decide) d_X3_add_47 ?_
            refine lv_icmp_ge (tgt := 94) hx hb d_X3_add_48 (by decide) (fun c_48 => ?_) (fun c_48 => ?_)
            · -- taken at 48
              refine lv_iload hx hb d_X3_add_94 (lv_at hl 0 rfl) ?_
              refine W.widen (k := 0) (n := 0) (Nat.le_of_ble_eq_true rfl) (Nat.le_of_ble_eq_true rfl) ?_
              exact k_iret (X := St) (w1 := fun τ => wB cy r τ) σ0 hx hb hr d_X3_add_96 hlocks hP hK hD hS ⟨i0, kp⟩
            · -- not taken at 48
              refine lv_aload_n hx hb d_X3_add_51 rfl (lv_at hl 1 rfl) ?_
              refine va_get (D := D) (ci := 3) (v := .ref (r 18)) (C := "LinkedUnits$Grammar") (T := TX3) (N := 12) hx hb hg iwX3 hown hK hP 2 rfl rfl 5 (by decide) (hg _ m_101) (fun _ h9 => h9) rfl d_X3_add_52 ?_
              refine lv_iload hx hb d_X3_add_55 (lv_at hl 0 rfl) ?_
              refine lv_iload_n hx hb d_X3_add_57 rfl (lv_at hl 2 rfl) ?_
              refine va_iast hx hb hK hP hD hS 17 1 rfl rfl (k_in (n := 32100) (by decide) c_8 c_48) d_X3_add_58 (fun H locs hP hD hS => ?_)
              have hP : va_P D vwCl (wB cy r (upF σ0 18 (upd (σ0 18) ((σ0 3 4)).toNatClampNeg a1))) H := hP
              have hD : va_D A (wB cy r (upF σ0 18 (upd (σ0 18) ((σ0 3 4)).toNatClampNeg a1))) := hD
              have kp : Keep [(3, 4)] [18, 19, 20, 21] σ0 (upF σ0 18 (upd (σ0 18) ((σ0 3 4)).toNatClampNeg a1)) := keep_a kp (by decide)
              refine lv_aload_n hx hb d_X3_add_59 rfl (lv_at hl 1 rfl) ?_
              refine va_get (D := D) (ci := 3) (v := .ref (r 19)) (C := "LinkedUnits$Grammar") (T := TX3) (N := 12) hx hb hg iwX3 hown hK hP 2 rfl rfl 6 (by decide) (hg _ m_104) (fun _ h9 => h9) rfl d_X3_add_60 ?_
              refine lv_iload hx hb d_X3_add_63 (lv_at hl 0 rfl) ?_
              refine lv_iload_n hx hb d_X3_add_65 rfl (lv_at hl 3 rfl) ?_
              refine va_iast hx hb hK hP hD hS 18 1 rfl rfl (k_in (n := 32100) (by decide) c_8 c_48) d_X3_add_66 (fun H locs hP hD hS => ?_)
              have hP : va_P D vwCl (wB cy r (upF (upF σ0 18 (upd (σ0 18) ((σ0 3 4)).toNatClampNeg a1)) 19 (upd ((upF σ0 18 (upd (σ0 18) ((σ0 3 4)).toNatClampNeg a1)) 19) ((σ0 3 4)).toNatClampNeg a2))) H := hP
              have hD : va_D A (wB cy r (upF (upF σ0 18 (upd (σ0 18) ((σ0 3 4)).toNatClampNeg a1)) 19 (upd ((upF σ0 18 (upd (σ0 18) ((σ0 3 4)).toNatClampNeg a1)) 19) ((σ0 3 4)).toNatClampNeg a2))) := hD
              have kp : Keep [(3, 4)] [18, 19, 20, 21] σ0 (upF (upF σ0 18 (upd (σ0 18) ((σ0 3 4)).toNatClampNeg a1)) 19 (upd ((upF σ0 18 (upd (σ0 18) ((σ0 3 4)).toNatClampNeg a1)) 19) ((σ0 3 4)).toNatClampNeg a2)) := keep_a kp (by decide)
              refine lv_aload_n hx hb d_X3_add_67 rfl (lv_at hl 1 rfl) ?_
              refine va_get (D := D) (ci := 3) (v := .ref (r 20)) (C := "LinkedUnits$Grammar") (T := TX3) (N := 12) hx hb hg iwX3 hown hK hP 2 rfl rfl 7 (by decide) (hg _ m_108) (fun _ h9 => h9) rfl d_X3_add_68 ?_
              refine lv_iload hx hb d_X3_add_71 (lv_at hl 0 rfl) ?_
              refine lv_iload_n hx hb d_X3_add_73 rfl (lv_at hl 4 rfl) ?_
              refine va_iast hx hb hK hP hD hS 19 1 rfl rfl (k_in (n := 32100) (by decide) c_8 c_48) d_X3_add_74 (fun H locs hP hD hS => ?_)
              have hP : va_P D vwCl (wB cy r (upF (upF (upF σ0 18 (upd (σ0 18) ((σ0 3 4)).toNatClampNeg a1)) 19 (upd ((upF σ0 18 (upd (σ0 18) ((σ0 3 4)).toNatClampNeg a1)) 19) ((σ0 3 4)).toNatClampNeg a2)) 20 (upd ((upF (upF σ0 18 (upd (σ0 18) ((σ0 3 4)).toNatClampNeg a1)) 19 (upd ((upF σ0 18 (upd (σ0 18) ((σ0 3 4)).toNatClampNeg a1)) 19) ((σ0 3 4)).toNatClampNeg a2)) 20) ((σ0 3 4)).toNatClampNeg a3))) H := hP
              have hD : va_D A (wB cy r (upF (upF (upF σ0 18 (upd (σ0 18) ((σ0 3 4)).toNatClampNeg a1)) 19 (upd ((upF σ0 18 (upd (σ0 18) ((σ0 3 4)).toNatClampNeg a1)) 19) ((σ0 3 4)).toNatClampNeg a2)) 20 (upd ((upF (upF σ0 18 (upd (σ0 18) ((σ0 3 4)).toNatClampNeg a1)) 19 (upd ((upF σ0 18 (upd (σ0 18) ((σ0 3 4)).toNatClampNeg a1)) 19) ((σ0 3 4)).toNatClampNeg a2)) 20) ((σ0 3 4)).toNatClampNeg a3))) := hD
              have kp : Keep [(3, 4)] [18, 19, 20, 21] σ0 (upF (upF (upF σ0 18 (upd (σ0 18) ((σ0 3 4)).toNatClampNeg a1)) 19 (upd ((upF σ0 18 (upd (σ0 18) ((σ0 3 4)).toNatClampNeg a1)) 19) ((σ0 3 4)).toNatClampNeg a2)) 20 (upd ((upF (upF σ0 18 (upd (σ0 18) ((σ0 3 4)).toNatClampNeg a1)) 19 (upd ((upF σ0 18 (upd (σ0 18) ((σ0 3 4)).toNatClampNeg a1)) 19) ((σ0 3 4)).toNatClampNeg a2)) 20) ((σ0 3 4)).toNatClampNeg a3)) := keep_a kp (by decide)
              refine lv_aload_n hx hb d_X3_add_75 rfl (lv_at hl 1 rfl) ?_
              refine va_get (D := D) (ci := 3) (v := .ref (r 21)) (C := "LinkedUnits$Grammar") (T := TX3) (N := 12) hx hb hg iwX3 hown hK hP 2 rfl rfl 8 (by decide) (hg _ m_112) (fun _ h9 => h9) rfl d_X3_add_76 ?_
              refine lv_iload hx hb d_X3_add_79 (lv_at hl 0 rfl) ?_
              refine lv_iload hx hb d_X3_add_81 (lv_at hl 5 rfl) ?_
              refine va_iast hx hb hK hP hD hS 20 1 rfl rfl (k_in (n := 32100) (by decide) c_8 c_48) d_X3_add_83 (fun H locs hP hD hS => ?_)
              have hP : va_P D vwCl (wB cy r (upF (upF (upF (upF σ0 18 (upd (σ0 18) ((σ0 3 4)).toNatClampNeg a1)) 19 (upd ((upF σ0 18 (upd (σ0 18) ((σ0 3 4)).toNatClampNeg a1)) 19) ((σ0 3 4)).toNatClampNeg a2)) 20 (upd ((upF (upF σ0 18 (upd (σ0 18) ((σ0 3 4)).toNatClampNeg a1)) 19 (upd ((upF σ0 18 (upd (σ0 18) ((σ0 3 4)).toNatClampNeg a1)) 19) ((σ0 3 4)).toNatClampNeg a2)) 20) ((σ0 3 4)).toNatClampNeg a3)) 21 (upd ((upF (upF (upF σ0 18 (upd (σ0 18) ((σ0 3 4)).toNatClampNeg a1)) 19 (upd ((upF σ0 18 (upd (σ0 18) ((σ0 3 4)).toNatClampNeg a1)) 19) ((σ0 3 4)).toNatClampNeg a2)) 20 (upd ((upF (upF σ0 18 (upd (σ0 18) ((σ0 3 4)).toNatClampNeg a1)) 19 (upd ((upF σ0 18 (upd (σ0 18) ((σ0 3 4)).toNatClampNeg a1)) 19) ((σ0 3 4)).toNatClampNeg a2)) 20) ((σ0 3 4)).toNatClampNeg a3)) 21) ((σ0 3 4)).toNatClampNeg a4))) H := hP
              have hD : va_D A (wB cy r (upF (upF (upF (upF σ0 18 (upd (σ0 18) ((σ0 3 4)).toNatClampNeg a1)) 19 (upd ((upF σ0 18 (upd (σ0 18) ((σ0 3 4)).toNatClampNeg a1)) 19) ((σ0 3 4)).toNatClampNeg a2)) 20 (upd ((upF (upF σ0 18 (upd (σ0 18) ((σ0 3 4)).toNatClampNeg a1)) 19 (upd ((upF σ0 18 (upd (σ0 18) ((σ0 3 4)).toNatClampNeg a1)) 19) ((σ0 3 4)).toNatClampNeg a2)) 20) ((σ0 3 4)).toNatClampNeg a3)) 21 (upd ((upF (upF (upF σ0 18 (upd (σ0 18) ((σ0 3 4)).toNatClampNeg a1)) 19 (upd ((upF σ0 18 (upd (σ0 18) ((σ0 3 4)).toNatClampNeg a1)) 19) ((σ0 3 4)).toNatClampNeg a2)) 20 (upd ((upF (upF σ0 18 (upd (σ0 18) ((σ0 3 4)).toNatClampNeg a1)) 19 (upd ((upF σ0 18 (upd (σ0 18) ((σ0 3 4)).toNatClampNeg a1)) 19) ((σ0 3 4)).toNatClampNeg a2)) 20) ((σ0 3 4)).toNatClampNeg a3)) 21) ((σ0 3 4)).toNatClampNeg a4))) := hD
              have kp : Keep [(3, 4)] [18, 19, 20, 21] σ0 (upF (upF (upF (upF σ0 18 (upd (σ0 18) ((σ0 3 4)).toNatClampNeg a1)) 19 (upd ((upF σ0 18 (upd (σ0 18) ((σ0 3 4)).toNatClampNeg a1)) 19) ((σ0 3 4)).toNatClampNeg a2)) 20 (upd ((upF (upF σ0 18 (upd (σ0 18) ((σ0 3 4)).toNatClampNeg a1)) 19 (upd ((upF σ0 18 (upd (σ0 18) ((σ0 3 4)).toNatClampNeg a1)) 19) ((σ0 3 4)).toNatClampNeg a2)) 20) ((σ0 3 4)).toNatClampNeg a3)) 21 (upd ((upF (upF (upF σ0 18 (upd (σ0 18) ((σ0 3 4)).toNatClampNeg a1)) 19 (upd ((upF σ0 18 (upd (σ0 18) ((σ0 3 4)).toNatClampNeg a1)) 19) ((σ0 3 4)).toNatClampNeg a2)) 20 (upd ((upF (upF σ0 18 (upd (σ0 18) ((σ0 3 4)).toNatClampNeg a1)) 19 (upd ((upF σ0 18 (upd (σ0 18) ((σ0 3 4)).toNatClampNeg a1)) 19) ((σ0 3 4)).toNatClampNeg a2)) 20) ((σ0 3 4)).toNatClampNeg a3)) 21) ((σ0 3 4)).toNatClampNeg a4)) := keep_a kp (by decide)
              refine lv_aload_n hx hb d_X3_add_84 rfl (lv_at hl 1 rfl) ?_
              refine lv_dup hx hb d_X3_add_85 rfl ?_
              refine va_get (D := D) (ci := 3) (v := .int (σ0 3 4)) (C := "LinkedUnits$Grammar") (T := TX3) (N := 12) hx hb hg iwX3 hown hK hP 2 rfl rfl 4 (by decide) (hg _ m_99) (fun _ h9 => h9) rfl d_X3_add_86 ?_
              refine lv_iconst (v := 1) hx hb d_X3_add_89 (by decide) ?_
              refine lv_iadd hx hb d_X3_add_90 ?_
              refine va_put (D := D) (ci := 3) (v := .int ((σ0 3 4) + 1)) (ty := .int) (C := "LinkedUnits$Grammar") (T := TX3) (N := 12) hx hb hg iwX3 tyX3 tyX3_ok nmX3 hown hK hP hD hS 2 rfl rfl 4 (by decide) (hg _ m_99) (fun _ h9 => h9) rfl (by decide +kernel) rfl rfl (Nat.le_of_ble_eq_true rfl) d_X3_add_91 (fun H locs hP hD hS => ?_)
              have hP : va_P D vwCl (wB cy r (upC (upF (upF (upF (upF σ0 18 (upd (σ0 18) ((σ0 3 4)).toNatClampNeg a1)) 19 (upd ((upF σ0 18 (upd (σ0 18) ((σ0 3 4)).toNatClampNeg a1)) 19) ((σ0 3 4)).toNatClampNeg a2)) 20 (upd ((upF (upF σ0 18 (upd (σ0 18) ((σ0 3 4)).toNatClampNeg a1)) 19 (upd ((upF σ0 18 (upd (σ0 18) ((σ0 3 4)).toNatClampNeg a1)) 19) ((σ0 3 4)).toNatClampNeg a2)) 20) ((σ0 3 4)).toNatClampNeg a3)) 21 (upd ((upF (upF (upF σ0 18 (upd (σ0 18) ((σ0 3 4)).toNatClampNeg a1)) 19 (upd ((upF σ0 18 (upd (σ0 18) ((σ0 3 4)).toNatClampNeg a1)) 19) ((σ0 3 4)).toNatClampNeg a2)) 20 (upd ((upF (upF σ0 18 (upd (σ0 18) ((σ0 3 4)).toNatClampNeg a1)) 19 (upd ((upF σ0 18 (upd (σ0 18) ((σ0 3 4)).toNatClampNeg a1)) 19) ((σ0 3 4)).toNatClampNeg a2)) 20) ((σ0 3 4)).toNatClampNeg a3)) 21) ((σ0 3 4)).toNatClampNeg a4)) 3 4 ((σ0 3 4) + 1))) H := hP
              have hD : va_D A (wB cy r (upC (upF (upF (upF (upF σ0 18 (upd (σ0 18) ((σ0 3 4)).toNatClampNeg a1)) 19 (upd ((upF σ0 18 (upd (σ0 18) ((σ0 3 4)).toNatClampNeg a1)) 19) ((σ0 3 4)).toNatClampNeg a2)) 20 (upd ((upF (upF σ0 18 (upd (σ0 18) ((σ0 3 4)).toNatClampNeg a1)) 19 (upd ((upF σ0 18 (upd (σ0 18) ((σ0 3 4)).toNatClampNeg a1)) 19) ((σ0 3 4)).toNatClampNeg a2)) 20) ((σ0 3 4)).toNatClampNeg a3)) 21 (upd ((upF (upF (upF σ0 18 (upd (σ0 18) ((σ0 3 4)).toNatClampNeg a1)) 19 (upd ((upF σ0 18 (upd (σ0 18) ((σ0 3 4)).toNatClampNeg a1)) 19) ((σ0 3 4)).toNatClampNeg a2)) 20 (upd ((upF (upF σ0 18 (upd (σ0 18) ((σ0 3 4)).toNatClampNeg a1)) 19 (upd ((upF σ0 18 (upd (σ0 18) ((σ0 3 4)).toNatClampNeg a1)) 19) ((σ0 3 4)).toNatClampNeg a2)) 20) ((σ0 3 4)).toNatClampNeg a3)) 21) ((σ0 3 4)).toNatClampNeg a4)) 3 4 ((σ0 3 4) + 1))) := hD
              have kp : Keep [(3, 4)] [18, 19, 20, 21] σ0 (upC (upF (upF (upF (upF σ0 18 (upd (σ0 18) ((σ0 3 4)).toNatClampNeg a1)) 19 (upd ((upF σ0 18 (upd (σ0 18) ((σ0 3 4)).toNatClampNeg a1)) 19) ((σ0 3 4)).toNatClampNeg a2)) 20 (upd ((upF (upF σ0 18 (upd (σ0 18) ((σ0 3 4)).toNatClampNeg a1)) 19 (upd ((upF σ0 18 (upd (σ0 18) ((σ0 3 4)).toNatClampNeg a1)) 19) ((σ0 3 4)).toNatClampNeg a2)) 20) ((σ0 3 4)).toNatClampNeg a3)) 21 (upd ((upF (upF (upF σ0 18 (upd (σ0 18) ((σ0 3 4)).toNatClampNeg a1)) 19 (upd ((upF σ0 18 (upd (σ0 18) ((σ0 3 4)).toNatClampNeg a1)) 19) ((σ0 3 4)).toNatClampNeg a2)) 20 (upd ((upF (upF σ0 18 (upd (σ0 18) ((σ0 3 4)).toNatClampNeg a1)) 19 (upd ((upF σ0 18 (upd (σ0 18) ((σ0 3 4)).toNatClampNeg a1)) 19) ((σ0 3 4)).toNatClampNeg a2)) 20) ((σ0 3 4)).toNatClampNeg a3)) 21) ((σ0 3 4)).toNatClampNeg a4)) 3 4 ((σ0 3 4) + 1)) := keep_f kp (by decide)
              refine lv_iload hx hb d_X3_add_94 (lv_at hl 0 rfl) ?_
              refine W.widen (k := 0) (n := 0) (Nat.le_of_ble_eq_true rfl) (Nat.le_of_ble_eq_true rfl) ?_
              exact k_iret (X := St) (w1 := fun τ => wB cy r τ) (upC (upF (upF (upF (upF σ0 18 (upd (σ0 18) ((σ0 3 4)).toNatClampNeg a1)) 19 (upd ((upF σ0 18 (upd (σ0 18) ((σ0 3 4)).toNatClampNeg a1)) 19) ((σ0 3 4)).toNatClampNeg a2)) 20 (upd ((upF (upF σ0 18 (upd (σ0 18) ((σ0 3 4)).toNatClampNeg a1)) 19 (upd ((upF σ0 18 (upd (σ0 18) ((σ0 3 4)).toNatClampNeg a1)) 19) ((σ0 3 4)).toNatClampNeg a2)) 20) ((σ0 3 4)).toNatClampNeg a3)) 21 (upd ((upF (upF (upF σ0 18 (upd (σ0 18) ((σ0 3 4)).toNatClampNeg a1)) 19 (upd ((upF σ0 18 (upd (σ0 18) ((σ0 3 4)).toNatClampNeg a1)) 19) ((σ0 3 4)).toNatClampNeg a2)) 20 (upd ((upF (upF σ0 18 (upd (σ0 18) ((σ0 3 4)).toNatClampNeg a1)) 19 (upd ((upF σ0 18 (upd (σ0 18) ((σ0 3 4)).toNatClampNeg a1)) 19) ((σ0 3 4)).toNatClampNeg a2)) 20) ((σ0 3 4)).toNatClampNeg a3)) 21) ((σ0 3 4)).toNatClampNeg a4)) 3 4 ((σ0 3 4) + 1)) hx hb hr d_X3_add_96 hlocks hP hK hD hS ⟨i0, kp⟩
  rw [hH] at hgoal
  exact hgoal
set_option maxHeartbeats 4000000 in
set_option maxRecDepth 100000 in
theorem s_X3_deeper (l : Launch) (D : va_G) (cy : Nat → ClassId) (sz : Nat) (w : Nat → Nat) (g : Nat → Nat → Int32) (r : Nat → Nat) (σ0 : St) (a1 : Int32) (i0 : Inv σ0) : Met l y_X3_deeper (Cond.code y_X3_deeper b_X3_deeper 3 (some .boolean) :: GW) ({ frames := 1, cells := 0, slots := 0, locals := 21 } : Room) (va_Pc [.ref (r 3), .int a1] (kPreE D cy sz (wB cy r σ0) (gE w g))) ((fun A : Nat → Prop => va_Qi (S := St) (fun (v9 : Int32) (τ : St) => (v9 = 0 ∨ v9 = 1) ∧ (Inv τ ∧ Keep [(3, 1), (3, 2), (3, 3)] [] σ0 τ)) (fun τ => kPost D cy A (wB cy r τ)) A) (va_A (wB cy r σ0) sz)) 0 0 (va_A (wB cy r σ0) sz) := by
  refine k_ofWE (Qc := fun A => va_Qi (S := St) (fun (v9 : Int32) (τ : St) => (v9 = 0 ∨ v9 = 1) ∧ (Inv τ ∧ Keep [(3, 1), (3, 2), (3, 3)] [] σ0 τ)) (fun τ => kPost D cy A (wB cy r τ)) A) (by decide) (Nat.le_of_ble_eq_true rfl) ?_
  intro p e s m below meth c A ls hx hb hr hml hown hlocks hin hg hNW hK hP hD hA hS hl hE
  have hl : lv_has ls 3 [(0, .ref (r 3)), (1, .int a1)] := hl
  have hown : s.vm.findClass "LinkedUnits$Grammar" = some m.cls := hown
  have kp : Keep [(3, 1), (3, 2), (3, 3)] [] σ0 σ0 := keep_rf
  obtain ⟨H, hH⟩ : ∃ H, H = s.heap := ⟨_, rfl⟩
  rw [← hH] at hP
  have hS : va_S A s.heap H [] := by rw [hH]; exact va_S.rf
  have hgoal : W p l e ({ frames := 1, cells := 0, slots := 0, locals := 21 } : Room) s m (([.ref (r 3), .int a1] : List Value).toArray) below meth c H [] 0 0 (MQ below (va_Qi (S := St) (fun (v9 : Int32) (τ : St) => (v9 = 0 ∨ v9 = 1) ∧ (Inv τ ∧ Keep [(3, 1), (3, 2), (3, 3)] [] σ0 τ)) (fun τ => kPost D cy A (wB cy r τ)) A) (([.ref (r 3), .int a1] : List Value).toArray) s 0 0 A) (F0 m 0 ls []) := by
    refine lv_iload_n hx hb d_X3_deeper_0 rfl (lv_at hl 1 rfl) ?_
    refine lv_bipush (v := 25) hx hb d_X3_deeper_1 (by decide) ?_
    refine lv_icmp_ge (tgt := 10) hx hb d_X3_deeper_3 (by decide) (fun c_3 => ?_) (fun c_3 => ?_)
    · -- taken at 3
      refine lv_iconst (v := 0) hx hb d_X3_deeper_10 (by decide) ?_
      refine lv_istore_n (lv' := [(2, .int 0), (0, .ref (r 3)), (1, .int a1)]) hx hb d_X3_deeper_11 rfl hl (by decide) rfl (fun ls hl => ?_)
      refine lv_iload_n hx hb d_X3_deeper_12 rfl (lv_at hl 0 rfl) ?_
      refine lv_if_eq (tgt := 23) hx hb d_X3_deeper_13 (by decide) (fun _ => ?_) (fun c_13 => False.elim (by revert c_13; decide))
      refine lv_aload_n hx hb d_X3_deeper_23 rfl (lv_at hl 1 rfl) ?_
      refine s_callv (X := St) (w1 := fun τ => wB cy r τ) (va_runV (As := []) (rest := []) ⟨hx, hb, hml, hown, hg⟩ (s_X3_fail l D cy H.size w g r σ0  i0 ) (cwV 0 hg (gw_V m_907 m_909 ms_X3_fail m_3 m_910) rfl rfl rfl (by decide +kernel) ⟨(Nat.le_of_ble_eq_true rfl), (Nat.le_of_ble_eq_true rfl)⟩) (s_preVE (As := []) (gE_ok w g) hS hA hE hP hD hK hNW 2 rfl rfl) rfl rfl hl.1 rfl (lv_room (Nat.le_of_ble_eq_true rfl)) d_X3_deeper_24 ⟨(Nat.le_of_ble_eq_true rfl), (Nat.le_of_ble_eq_true rfl)⟩) hP hD hS hA (fun σ1 H locs hw hP hD hS => ?_)
      have hP : va_P D vwCl (wB cy r σ1) H := hP
      have hD : va_D A (wB cy r σ1) := hD
      have ik1 : Keep [(3, 2), (3, 3)] [] σ0 σ1 := hw.2
      have kp : Keep [(3, 1), (3, 2), (3, 3)] [] σ0 σ1 := keep_c kp ik1 (by decide) (by decide)
      have i1 : Inv σ1 := hw.1
      refine lv_iload_n hx hb d_X3_deeper_27 rfl (lv_at hl 0 rfl) ?_
      refine W.widen (k := 0) (n := 0) (Nat.le_of_ble_eq_true rfl) (Nat.le_of_ble_eq_true rfl) ?_
      exact k_zret (X := St) (w1 := fun τ => wB cy r τ) σ1 hx hb hr (k_nz (Or.inl rfl)) d_X3_deeper_28 hlocks hP hK hD hS ⟨(Or.inl rfl), ⟨i1, kp⟩⟩
    · -- not taken at 3
      refine lv_iconst (v := 1) hx hb d_X3_deeper_6 (by decide) ?_
      refine lv_goto (tgt := 11) hx hb d_X3_deeper_7 (by decide) ?_
      refine lv_istore_n (lv' := [(2, .int 1), (0, .ref (r 3)), (1, .int a1)]) hx hb d_X3_deeper_11 rfl hl (by decide) rfl (fun ls hl => ?_)
      refine lv_iload_n hx hb d_X3_deeper_12 rfl (lv_at hl 0 rfl) ?_
      refine lv_if_eq (tgt := 23) hx hb d_X3_deeper_13 (by decide) (fun c_13 => absurd c_13 (by decide)) (fun _ => ?_)
      refine lv_aload_n hx hb d_X3_deeper_16 rfl (lv_at hl 1 rfl) ?_
      refine s_callv (X := St) (w1 := fun τ => wB cy r τ) (va_runV (As := []) (rest := []) ⟨hx, hb, hml, hown, hg⟩ (s_X3_advance l D cy H.size w g r σ0  i0 ) (cwV 0 hg (gw_V m_899 m_901 ms_X3_advance m_3 m_902) rfl rfl rfl (by decide +kernel) ⟨(Nat.le_of_ble_eq_true rfl), (Nat.le_of_ble_eq_true rfl)⟩) (s_preVE (As := []) (gE_ok w g) hS hA hE hP hD hK hNW 2 rfl rfl) rfl rfl hl.1 rfl (lv_room (Nat.le_of_ble_eq_true rfl)) d_X3_deeper_17 ⟨(Nat.le_of_ble_eq_true rfl), (Nat.le_of_ble_eq_true rfl)⟩) hP hD hS hA (fun σ2 H locs hw hP hD hS => ?_)
      have hP : va_P D vwCl (wB cy r σ2) H := hP
      have hD : va_D A (wB cy r σ2) := hD
      have ik2 : Keep [(3, 1), (3, 2)] [] σ0 σ2 := hw.2
      have kp : Keep [(3, 1), (3, 2), (3, 3)] [] σ0 σ2 := keep_c kp ik2 (by decide) (by decide)
      have i2 : Inv σ2 := hw.1
      refine lv_goto (tgt := 27) hx hb d_X3_deeper_20 (by decide) ?_
      refine lv_iload_n hx hb d_X3_deeper_27 rfl (lv_at hl 0 rfl) ?_
      refine W.widen (k := 0) (n := 0) (Nat.le_of_ble_eq_true rfl) (Nat.le_of_ble_eq_true rfl) ?_
      exact k_zret (X := St) (w1 := fun τ => wB cy r τ) σ2 hx hb hr (k_nz (Or.inr rfl)) d_X3_deeper_28 hlocks hP hK hD hS ⟨(Or.inr rfl), ⟨i2, kp⟩⟩
  rw [hH] at hgoal
  exact hgoal
set_option maxHeartbeats 4000000 in
set_option maxRecDepth 100000 in
theorem s_X3_accept (l : Launch) (D : va_G) (cy : Nat → ClassId) (sz : Nat) (w : Nat → Nat) (g : Nat → Nat → Int32) (r : Nat → Nat) (σ0 : St) (a1 : Int32) (i0 : Inv σ0) : Met l y_X3_accept (Cond.code y_X3_accept b_X3_accept 3 (some .boolean) :: GW) ({ frames := 1, cells := 0, slots := 0, locals := 21 } : Room) (va_Pc [.ref (r 3), .int a1] (kPreE D cy sz (wB cy r σ0) (gE w g))) ((fun A : Nat → Prop => va_Qi (S := St) (fun (v9 : Int32) (τ : St) => (v9 = 0 ∨ v9 = 1) ∧ (Inv τ ∧ Keep [(3, 1), (3, 2)] [] σ0 τ)) (fun τ => kPost D cy A (wB cy r τ)) A) (va_A (wB cy r σ0) sz)) 0 0 (va_A (wB cy r σ0) sz) := by
  refine k_ofWE (Qc := fun A => va_Qi (S := St) (fun (v9 : Int32) (τ : St) => (v9 = 0 ∨ v9 = 1) ∧ (Inv τ ∧ Keep [(3, 1), (3, 2)] [] σ0 τ)) (fun τ => kPost D cy A (wB cy r τ)) A) (by decide) (Nat.le_of_ble_eq_true rfl) ?_
  intro p e s m below meth c A ls hx hb hr hml hown hlocks hin hg hNW hK hP hD hA hS hl hE
  have hl : lv_has ls 3 [(0, .ref (r 3)), (1, .int a1)] := hl
  have hown : s.vm.findClass "LinkedUnits$Grammar" = some m.cls := hown
  have kp : Keep [(3, 1), (3, 2)] [] σ0 σ0 := keep_rf
  obtain ⟨H, hH⟩ : ∃ H, H = s.heap := ⟨_, rfl⟩
  rw [← hH] at hP
  have hS : va_S A s.heap H [] := by rw [hH]; exact va_S.rf
  have hgoal : W p l e ({ frames := 1, cells := 0, slots := 0, locals := 21 } : Room) s m (([.ref (r 3), .int a1] : List Value).toArray) below meth c H [] 0 0 (MQ below (va_Qi (S := St) (fun (v9 : Int32) (τ : St) => (v9 = 0 ∨ v9 = 1) ∧ (Inv τ ∧ Keep [(3, 1), (3, 2)] [] σ0 τ)) (fun τ => kPost D cy A (wB cy r τ)) A) (([.ref (r 3), .int a1] : List Value).toArray) s 0 0 A) (F0 m 0 ls []) := by
    refine lv_aload_n hx hb d_X3_accept_0 rfl (lv_at hl 0 rfl) ?_
    refine va_get (D := D) (ci := 3) (v := .int (σ0 3 2)) (C := "LinkedUnits$Grammar") (T := TX3) (N := 12) hx hb hg iwX3 hown hK hP 2 rfl rfl 2 (by decide) (hg _ m_96) (fun _ h9 => h9) rfl d_X3_accept_1 ?_
    refine lv_iload_n hx hb d_X3_accept_4 rfl (lv_at hl 1 rfl) ?_
    refine lv_icmp_ne (tgt := 12) hx hb d_X3_accept_5 (by decide) (fun c_5 => ?_) (fun c_5 => ?_)
    · -- taken at 5
      refine lv_iconst (v := 0) hx hb d_X3_accept_12 (by decide) ?_
      refine lv_istore_n (lv' := [(2, .int 0), (0, .ref (r 3)), (1, .int a1)]) hx hb d_X3_accept_13 rfl hl (by decide) rfl (fun ls hl => ?_)
      refine lv_iload_n hx hb d_X3_accept_14 rfl (lv_at hl 0 rfl) ?_
      refine lv_if_eq (tgt := 22) hx hb d_X3_accept_15 (by decide) (fun _ => ?_) (fun c_15 => False.elim (by revert c_15; decide))
      refine lv_iload_n hx hb d_X3_accept_22 rfl (lv_at hl 0 rfl) ?_
      refine W.widen (k := 0) (n := 0) (Nat.le_of_ble_eq_true rfl) (Nat.le_of_ble_eq_true rfl) ?_
      exact k_zret (X := St) (w1 := fun τ => wB cy r τ) σ0 hx hb hr (k_nz (Or.inl rfl)) d_X3_accept_23 hlocks hP hK hD hS ⟨(Or.inl rfl), ⟨i0, kp⟩⟩
    · -- not taken at 5
      refine lv_iconst (v := 1) hx hb d_X3_accept_8 (by decide) ?_
      refine lv_goto (tgt := 13) hx hb d_X3_accept_9 (by decide) ?_
      refine lv_istore_n (lv' := [(2, .int 1), (0, .ref (r 3)), (1, .int a1)]) hx hb d_X3_accept_13 rfl hl (by decide) rfl (fun ls hl => ?_)
      refine lv_iload_n hx hb d_X3_accept_14 rfl (lv_at hl 0 rfl) ?_
      refine lv_if_eq (tgt := 22) hx hb d_X3_accept_15 (by decide) (fun c_15 => absurd c_15 (by decide)) (fun _ => ?_)
      refine lv_aload_n hx hb d_X3_accept_18 rfl (lv_at hl 1 rfl) ?_
      refine s_callv (X := St) (w1 := fun τ => wB cy r τ) (va_runV (As := []) (rest := []) ⟨hx, hb, hml, hown, hg⟩ (s_X3_advance l D cy H.size w g r σ0  i0 ) (cwV 0 hg (gw_V m_899 m_901 ms_X3_advance m_3 m_902) rfl rfl rfl (by decide +kernel) ⟨(Nat.le_of_ble_eq_true rfl), (Nat.le_of_ble_eq_true rfl)⟩) (s_preVE (As := []) (gE_ok w g) hS hA hE hP hD hK hNW 2 rfl rfl) rfl rfl hl.1 rfl (lv_room (Nat.le_of_ble_eq_true rfl)) d_X3_accept_19 ⟨(Nat.le_of_ble_eq_true rfl), (Nat.le_of_ble_eq_true rfl)⟩) hP hD hS hA (fun σ1 H locs hw hP hD hS => ?_)
      have hP : va_P D vwCl (wB cy r σ1) H := hP
      have hD : va_D A (wB cy r σ1) := hD
      have ik1 : Keep [(3, 1), (3, 2)] [] σ0 σ1 := hw.2
      have kp : Keep [(3, 1), (3, 2)] [] σ0 σ1 := keep_c kp ik1 (by decide) (by decide)
      have i1 : Inv σ1 := hw.1
      refine lv_iload_n hx hb d_X3_accept_22 rfl (lv_at hl 0 rfl) ?_
      refine W.widen (k := 0) (n := 0) (Nat.le_of_ble_eq_true rfl) (Nat.le_of_ble_eq_true rfl) ?_
      exact k_zret (X := St) (w1 := fun τ => wB cy r τ) σ1 hx hb hr (k_nz (Or.inr rfl)) d_X3_accept_23 hlocks hP hK hD hS ⟨(Or.inr rfl), ⟨i1, kp⟩⟩
  rw [hH] at hgoal
  exact hgoal
set_option maxHeartbeats 4000000 in
set_option maxRecDepth 100000 in
theorem s_X8_parameters (l : Launch) (D : va_G) (cy : Nat → ClassId) (sz : Nat) (a0 : Int32) : Met l y_X8_parameters (Cond.code y_X8_parameters b_X8_parameters 1 (some .int) :: GW) ({ frames := 0, cells := 0, slots := 0, locals := 0 } : Room) (va_Pc [.int a0] (kPre D cy sz [])) ((fun A : Nat → Prop => va_Qi (S := Unit) (fun (_ : Int32) (_ : Unit) => True) (fun _ => kPost D cy A []) A) (va_A [] sz)) 0 0 (va_A [] sz) := by
  refine k_ofW (Qc := fun A => va_Qi (S := Unit) (fun (_ : Int32) (_ : Unit) => True) (fun _ => kPost D cy A []) A) (by decide) (Nat.le_of_ble_eq_true rfl) ?_
  intro p e s m below meth c A ls hx hb hr hml hown hlocks hin hg hNW hK hP hD hA hS hl
  have hl : lv_has ls 1 [(0, .int a0)] := hl
  have hown : s.vm.findClass "LinkedUnits$Store" = some m.cls := hown
  obtain ⟨H, hH⟩ : ∃ H, H = s.heap := ⟨_, rfl⟩
  rw [← hH] at hP
  have hS : va_S A s.heap H [] := by rw [hH]; exact va_S.rf
  have hgoal : W p l e ({ frames := 0, cells := 0, slots := 0, locals := 0 } : Room) s m (([.int a0] : List Value).toArray) below meth c H [] 0 0 (MQ below (va_Qi (S := Unit) (fun (_ : Int32) (_ : Unit) => True) (fun _ => kPost D cy A []) A) (([.int a0] : List Value).toArray) s 0 0 A) (F0 m 0 ls []) := by
    refine lv_iload_n hx hb d_X8_parameters_0 rfl (lv_at hl 0 rfl) ?_
    refine lv_bipush (v := 24) hx hb d_X8_parameters_1 (by decide) ?_
    refine lv_iushr hx hb d_X8_parameters_3 rfl ?_
    refine k_any (fun v1 => ?_)
    refine W.widen (k := 0) (n := 0) (Nat.le_of_ble_eq_true rfl) (Nat.le_of_ble_eq_true rfl) ?_
    exact k_iret (X := Unit) (w1 := fun _ => []) () hx hb hr d_X8_parameters_4 hlocks hP hK hD hS trivial
  rw [hH] at hgoal
  exact hgoal
set_option maxHeartbeats 4000000 in
set_option maxRecDepth 100000 in
theorem s_X8_parameter (l : Launch) (D : va_G) (cy : Nat → ClassId) (sz : Nat) (a0 : Int32) (a1 : Int32) : Met l y_X8_parameter (Cond.code y_X8_parameter b_X8_parameter 2 (some .int) :: GW) ({ frames := 0, cells := 0, slots := 0, locals := 0 } : Room) (va_Pc [.int a0, .int a1] (kPre D cy sz [])) ((fun A : Nat → Prop => va_Qi (S := Unit) (fun (_ : Int32) (_ : Unit) => True) (fun _ => kPost D cy A []) A) (va_A [] sz)) 0 0 (va_A [] sz) := by
  refine k_ofW (Qc := fun A => va_Qi (S := Unit) (fun (_ : Int32) (_ : Unit) => True) (fun _ => kPost D cy A []) A) (by decide) (Nat.le_of_ble_eq_true rfl) ?_
  intro p e s m below meth c A ls hx hb hr hml hown hlocks hin hg hNW hK hP hD hA hS hl
  have hl : lv_has ls 2 [(0, .int a0), (1, .int a1)] := hl
  have hown : s.vm.findClass "LinkedUnits$Store" = some m.cls := hown
  obtain ⟨H, hH⟩ : ∃ H, H = s.heap := ⟨_, rfl⟩
  rw [← hH] at hP
  have hS : va_S A s.heap H [] := by rw [hH]; exact va_S.rf
  have hgoal : W p l e ({ frames := 0, cells := 0, slots := 0, locals := 0 } : Room) s m (([.int a0, .int a1] : List Value).toArray) below meth c H [] 0 0 (MQ below (va_Qi (S := Unit) (fun (_ : Int32) (_ : Unit) => True) (fun _ => kPost D cy A []) A) (([.int a0, .int a1] : List Value).toArray) s 0 0 A) (F0 m 0 ls []) := by
    refine lv_iload_n hx hb d_X8_parameter_0 rfl (lv_at hl 0 rfl) ?_
    refine lv_iconst (v := 3) hx hb d_X8_parameter_1 (by decide) ?_
    refine lv_iload_n hx hb d_X8_parameter_2 rfl (lv_at hl 1 rfl) ?_
    refine lv_imul hx hb d_X8_parameter_3 ?_
    refine lv_iushr hx hb d_X8_parameter_4 rfl ?_
    refine k_any (fun v1 => ?_)
    refine lv_bipush (v := 7) hx hb d_X8_parameter_5 (by decide) ?_
    refine lv_iand hx hb d_X8_parameter_7 ?_
    refine W.widen (k := 0) (n := 0) (Nat.le_of_ble_eq_true rfl) (Nat.le_of_ble_eq_true rfl) ?_
    exact k_iret (X := Unit) (w1 := fun _ => []) () hx hb hr d_X8_parameter_8 hlocks hP hK hD hS trivial
  rw [hH] at hgoal
  exact hgoal
set_option maxHeartbeats 4000000 in
set_option maxRecDepth 100000 in
theorem s_X11_leave (l : Launch) (D : va_G) (cy : Nat → ClassId) (sz : Nat) (w : Nat → Nat) (g : Nat → Nat → Int32) (r : Nat → Nat) (σ0 : St) (i0 : Inv σ0) : Met l y_X11_leave (Cond.code y_X11_leave b_X11_leave 1 none :: GW) ({ frames := 0, cells := 0, slots := 0, locals := 0 } : Room) (va_Pc [.ref (r 6)] (kPreE D cy sz (wB cy r σ0) (gE w g))) ((fun A : Nat → Prop => va_Qv (S := St) (fun (τ : St) => (Inv τ ∧ Keep [(6, 6), (6, 10), (6, 15), (6, 17)] [] σ0 τ)) (fun τ => kPost D cy A (wB cy r τ)) A) (va_A (wB cy r σ0) sz)) 0 0 (va_A (wB cy r σ0) sz) := by
  refine k_ofWE (Qc := fun A => va_Qv (S := St) (fun (τ : St) => (Inv τ ∧ Keep [(6, 6), (6, 10), (6, 15), (6, 17)] [] σ0 τ)) (fun τ => kPost D cy A (wB cy r τ)) A) (by decide) (Nat.le_of_ble_eq_true rfl) ?_
  intro p e s m below meth c A ls hx hb hr hml hown hlocks hin hg hNW hK hP hD hA hS hl hE
  have hl : lv_has ls 1 [(0, .ref (r 6))] := hl
  have hown : s.vm.findClass "LinkedUnits$Unit" = some m.cls := hown
  have kp : Keep [(6, 6), (6, 10), (6, 15), (6, 17)] [] σ0 σ0 := keep_rf
  obtain ⟨H, hH⟩ : ∃ H, H = s.heap := ⟨_, rfl⟩
  rw [← hH] at hP
  have hS : va_S A s.heap H [] := by rw [hH]; exact va_S.rf
  have hgoal : W p l e ({ frames := 0, cells := 0, slots := 0, locals := 0 } : Room) s m (([.ref (r 6)] : List Value).toArray) below meth c H [] 0 0 (MQ below (va_Qv (S := St) (fun (τ : St) => (Inv τ ∧ Keep [(6, 6), (6, 10), (6, 15), (6, 17)] [] σ0 τ)) (fun τ => kPost D cy A (wB cy r τ)) A) (([.ref (r 6)] : List Value).toArray) s 0 0 A) (F0 m 0 ls []) := by
    refine lv_aload_n hx hb d_X11_leave_0 rfl (lv_at hl 0 rfl) ?_
    refine lv_iconst (v := (-1)) hx hb d_X11_leave_1 (by decide) ?_
    refine va_put (D := D) (ci := 11) (v := .int (-1)) (ty := .int) (C := "LinkedUnits$Unit") (T := TX11) (N := 19) hx hb hg iwX11 tyX11 tyX11_ok nmX11 hown hK hP hD hS 5 rfl rfl 6 (by decide) (hg _ m_324) (fun _ h9 => h9) rfl (by decide +kernel) rfl rfl (Nat.le_of_ble_eq_true rfl) d_X11_leave_2 (fun H locs hP hD hS => ?_)
    have hP : va_P D vwCl (wB cy r (upC σ0 6 6 (-1))) H := hP
    have hD : va_D A (wB cy r (upC σ0 6 6 (-1))) := hD
    have kp : Keep [(6, 6), (6, 10), (6, 15), (6, 17)] [] σ0 (upC σ0 6 6 (-1)) := keep_f kp (by decide)
    refine lv_aload_n hx hb d_X11_leave_5 rfl (lv_at hl 0 rfl) ?_
    refine lv_iconst (v := 0) hx hb d_X11_leave_6 (by decide) ?_
    refine va_put (D := D) (ci := 11) (v := .int 0) (ty := .int) (C := "LinkedUnits$Unit") (T := TX11) (N := 19) hx hb hg iwX11 tyX11 tyX11_ok nmX11 hown hK hP hD hS 5 rfl rfl 10 (by decide) (hg _ m_331) (fun _ h9 => h9) rfl (by decide +kernel) rfl rfl (Nat.le_of_ble_eq_true rfl) d_X11_leave_7 (fun H locs hP hD hS => ?_)
    have hP : va_P D vwCl (wB cy r (upC (upC σ0 6 6 (-1)) 6 10 0)) H := hP
    have hD : va_D A (wB cy r (upC (upC σ0 6 6 (-1)) 6 10 0)) := hD
    have kp : Keep [(6, 6), (6, 10), (6, 15), (6, 17)] [] σ0 (upC (upC σ0 6 6 (-1)) 6 10 0) := keep_f kp (by decide)
    refine lv_aload_n hx hb d_X11_leave_10 rfl (lv_at hl 0 rfl) ?_
    refine lv_iconst (v := 0) hx hb d_X11_leave_11 (by decide) ?_
    refine va_put (D := D) (ci := 11) (v := .int 0) (ty := .int) (C := "LinkedUnits$Unit") (T := TX11) (N := 19) hx hb hg iwX11 tyX11 tyX11_ok nmX11 hown hK hP hD hS 5 rfl rfl 15 (by decide) (hg _ m_342) (fun _ h9 => h9) rfl (by decide +kernel) rfl rfl (Nat.le_of_ble_eq_true rfl) d_X11_leave_12 (fun H locs hP hD hS => ?_)
    have hP : va_P D vwCl (wB cy r (upC (upC (upC σ0 6 6 (-1)) 6 10 0) 6 15 0)) H := hP
    have hD : va_D A (wB cy r (upC (upC (upC σ0 6 6 (-1)) 6 10 0) 6 15 0)) := hD
    have kp : Keep [(6, 6), (6, 10), (6, 15), (6, 17)] [] σ0 (upC (upC (upC σ0 6 6 (-1)) 6 10 0) 6 15 0) := keep_f kp (by decide)
    refine lv_aload_n hx hb d_X11_leave_15 rfl (lv_at hl 0 rfl) ?_
    refine lv_iconst (v := 0) hx hb d_X11_leave_16 (by decide) ?_
    refine va_put (D := D) (ci := 11) (v := .int 0) (ty := .int) (C := "LinkedUnits$Unit") (T := TX11) (N := 19) hx hb hg iwX11 tyX11 tyX11_ok nmX11 hown hK hP hD hS 5 rfl rfl 17 (by decide) (hg _ m_344) (fun _ h9 => h9) rfl (by decide +kernel) rfl rfl (Nat.le_of_ble_eq_true rfl) d_X11_leave_17 (fun H locs hP hD hS => ?_)
    have hP : va_P D vwCl (wB cy r (upC (upC (upC (upC σ0 6 6 (-1)) 6 10 0) 6 15 0) 6 17 0)) H := hP
    have hD : va_D A (wB cy r (upC (upC (upC (upC σ0 6 6 (-1)) 6 10 0) 6 15 0) 6 17 0)) := hD
    have kp : Keep [(6, 6), (6, 10), (6, 15), (6, 17)] [] σ0 (upC (upC (upC (upC σ0 6 6 (-1)) 6 10 0) 6 15 0) 6 17 0) := keep_f kp (by decide)
    refine W.widen (k := 0) (n := 0) (Nat.le_of_ble_eq_true rfl) (Nat.le_of_ble_eq_true rfl) ?_
    exact k_vret (X := St) (w1 := fun τ => wB cy r τ) (upC (upC (upC (upC σ0 6 6 (-1)) 6 10 0) 6 15 0) 6 17 0) hx hb hr d_X11_leave_20 hlocks hP hK hD hS ⟨i0, kp⟩
  rw [hH] at hgoal
  exact hgoal
set_option maxHeartbeats 4000000 in
set_option maxRecDepth 100000 in
theorem s_X1_begin (l : Launch) (D : va_G) (cy : Nat → ClassId) (sz : Nat) (w : Nat → Nat) (g : Nat → Nat → Int32) (r : Nat → Nat) (σ0 : St) (i0 : Inv σ0) : Met l y_X1_begin (Cond.code y_X1_begin b_X1_begin 1 none :: GW) ({ frames := 0, cells := 0, slots := 0, locals := 0 } : Room) (va_Pc [.ref (r 8)] (kPreE D cy sz (wB cy r σ0) (gE w g))) ((fun A : Nat → Prop => va_Qv (S := St) (fun (τ : St) => (Inv τ ∧ Keep [(8, 6), (8, 8)] [] σ0 τ)) (fun τ => kPost D cy A (wB cy r τ)) A) (va_A (wB cy r σ0) sz)) 0 0 (va_A (wB cy r σ0) sz) := by
  refine k_ofWE (Qc := fun A => va_Qv (S := St) (fun (τ : St) => (Inv τ ∧ Keep [(8, 6), (8, 8)] [] σ0 τ)) (fun τ => kPost D cy A (wB cy r τ)) A) (by decide) (Nat.le_of_ble_eq_true rfl) ?_
  intro p e s m below meth c A ls hx hb hr hml hown hlocks hin hg hNW hK hP hD hA hS hl hE
  have hl : lv_has ls 1 [(0, .ref (r 8))] := hl
  have hown : s.vm.findClass "LinkedUnits$Declarations" = some m.cls := hown
  have kp : Keep [(8, 6), (8, 8)] [] σ0 σ0 := keep_rf
  obtain ⟨H, hH⟩ : ∃ H, H = s.heap := ⟨_, rfl⟩
  rw [← hH] at hP
  have hS : va_S A s.heap H [] := by rw [hH]; exact va_S.rf
  have hgoal : W p l e ({ frames := 0, cells := 0, slots := 0, locals := 0 } : Room) s m (([.ref (r 8)] : List Value).toArray) below meth c H [] 0 0 (MQ below (va_Qv (S := St) (fun (τ : St) => (Inv τ ∧ Keep [(8, 6), (8, 8)] [] σ0 τ)) (fun τ => kPost D cy A (wB cy r τ)) A) (([.ref (r 8)] : List Value).toArray) s 0 0 A) (F0 m 0 ls []) := by
    refine lv_aload_n hx hb d_X1_begin_0 rfl (lv_at hl 0 rfl) ?_
    refine lv_iconst (v := (-1)) hx hb d_X1_begin_1 (by decide) ?_
    refine va_put (D := D) (ci := 1) (v := .int (-1)) (ty := .int) (C := "LinkedUnits$Declarations") (T := TX1) (N := 18) hx hb hg iwX1 tyX1 tyX1_ok nmX1 hown hK hP hD hS 7 rfl rfl 6 (by decide) (hg _ m_497) (fun _ h9 => h9) rfl (by decide +kernel) rfl rfl (Nat.le_of_ble_eq_true rfl) d_X1_begin_2 (fun H locs hP hD hS => ?_)
    have hP : va_P D vwCl (wB cy r (upC σ0 8 6 (-1))) H := hP
    have hD : va_D A (wB cy r (upC σ0 8 6 (-1))) := hD
    have kp : Keep [(8, 6), (8, 8)] [] σ0 (upC σ0 8 6 (-1)) := keep_f kp (by decide)
    refine lv_aload_n hx hb d_X1_begin_5 rfl (lv_at hl 0 rfl) ?_
    refine lv_iconst (v := 0) hx hb d_X1_begin_6 (by decide) ?_
    refine va_put (D := D) (ci := 1) (v := .int 0) (ty := .int) (C := "LinkedUnits$Declarations") (T := TX1) (N := 18) hx hb hg iwX1 tyX1 tyX1_ok nmX1 hown hK hP hD hS 7 rfl rfl 8 (by decide) (hg _ m_499) (fun _ h9 => h9) rfl (by decide +kernel) rfl rfl (Nat.le_of_ble_eq_true rfl) d_X1_begin_7 (fun H locs hP hD hS => ?_)
    have hP : va_P D vwCl (wB cy r (upC (upC σ0 8 6 (-1)) 8 8 0)) H := hP
    have hD : va_D A (wB cy r (upC (upC σ0 8 6 (-1)) 8 8 0)) := hD
    have kp : Keep [(8, 6), (8, 8)] [] σ0 (upC (upC σ0 8 6 (-1)) 8 8 0) := keep_f kp (by decide)
    refine W.widen (k := 0) (n := 0) (Nat.le_of_ble_eq_true rfl) (Nat.le_of_ble_eq_true rfl) ?_
    exact k_vret (X := St) (w1 := fun τ => wB cy r τ) (upC (upC σ0 8 6 (-1)) 8 8 0) hx hb hr d_X1_begin_10 hlocks hP hK hD hS ⟨i0, kp⟩
  rw [hH] at hgoal
  exact hgoal
set_option maxHeartbeats 4000000 in
set_option maxRecDepth 100000 in
theorem s_X11_fail (l : Launch) (D : va_G) (cy : Nat → ClassId) (sz : Nat) (w : Nat → Nat) (g : Nat → Nat → Int32) (r : Nat → Nat) (σ0 : St) (a1 : Int32) (a2 : Int32) (i0 : Inv σ0) : Met l y_X11_fail (Cond.code y_X11_fail b_X11_fail 3 none :: GW) ({ frames := 0, cells := 0, slots := 0, locals := 0 } : Room) (va_Pc [.ref (r 6), .int a1, .int a2] (kPreE D cy sz (wB cy r σ0) (gE w g))) ((fun A : Nat → Prop => va_Qv (S := St) (fun (τ : St) => (Inv τ ∧ Keep [(6, 3), (6, 4)] [] σ0 τ)) (fun τ => kPost D cy A (wB cy r τ)) A) (va_A (wB cy r σ0) sz)) 0 0 (va_A (wB cy r σ0) sz) := by
  refine k_ofWE (Qc := fun A => va_Qv (S := St) (fun (τ : St) => (Inv τ ∧ Keep [(6, 3), (6, 4)] [] σ0 τ)) (fun τ => kPost D cy A (wB cy r τ)) A) (by decide) (Nat.le_of_ble_eq_true rfl) ?_
  intro p e s m below meth c A ls hx hb hr hml hown hlocks hin hg hNW hK hP hD hA hS hl hE
  have hl : lv_has ls 3 [(0, .ref (r 6)), (1, .int a1), (2, .int a2)] := hl
  have hown : s.vm.findClass "LinkedUnits$Unit" = some m.cls := hown
  have kp : Keep [(6, 3), (6, 4)] [] σ0 σ0 := keep_rf
  obtain ⟨H, hH⟩ : ∃ H, H = s.heap := ⟨_, rfl⟩
  rw [← hH] at hP
  have hS : va_S A s.heap H [] := by rw [hH]; exact va_S.rf
  have hgoal : W p l e ({ frames := 0, cells := 0, slots := 0, locals := 0 } : Room) s m (([.ref (r 6), .int a1, .int a2] : List Value).toArray) below meth c H [] 0 0 (MQ below (va_Qv (S := St) (fun (τ : St) => (Inv τ ∧ Keep [(6, 3), (6, 4)] [] σ0 τ)) (fun τ => kPost D cy A (wB cy r τ)) A) (([.ref (r 6), .int a1, .int a2] : List Value).toArray) s 0 0 A) (F0 m 0 ls []) := by
    refine lv_aload_n hx hb d_X11_fail_0 rfl (lv_at hl 0 rfl) ?_
    refine va_get (D := D) (ci := 11) (v := .int (σ0 6 3)) (C := "LinkedUnits$Unit") (T := TX11) (N := 19) hx hb hg iwX11 hown hK hP 5 rfl rfl 3 (by decide) (hg _ m_314) (fun _ h9 => h9) rfl d_X11_fail_1 ?_
    refine lv_if_ne (tgt := 17) hx hb d_X11_fail_4 (by decide) (fun c_4 => ?_) (fun c_4 => ?_)
    · -- taken at 4
      refine W.widen (k := 0) (n := 0) (Nat.le_of_ble_eq_true rfl) (Nat.le_of_ble_eq_true rfl) ?_
      exact k_vret (X := St) (w1 := fun τ => wB cy r τ) σ0 hx hb hr d_X11_fail_17 hlocks hP hK hD hS ⟨i0, kp⟩
    · -- not taken at 4
      refine lv_aload_n hx hb d_X11_fail_7 rfl (lv_at hl 0 rfl) ?_
      refine lv_iload_n hx hb d_X11_fail_8 rfl (lv_at hl 1 rfl) ?_
      refine va_put (D := D) (ci := 11) (v := .int a1) (ty := .int) (C := "LinkedUnits$Unit") (T := TX11) (N := 19) hx hb hg iwX11 tyX11 tyX11_ok nmX11 hown hK hP hD hS 5 rfl rfl 3 (by decide) (hg _ m_314) (fun _ h9 => h9) rfl (by decide +kernel) rfl rfl (Nat.le_of_ble_eq_true rfl) d_X11_fail_9 (fun H locs hP hD hS => ?_)
      have hP : va_P D vwCl (wB cy r (upC σ0 6 3 a1)) H := hP
      have hD : va_D A (wB cy r (upC σ0 6 3 a1)) := hD
      have kp : Keep [(6, 3), (6, 4)] [] σ0 (upC σ0 6 3 a1) := keep_f kp (by decide)
      refine lv_aload_n hx hb d_X11_fail_12 rfl (lv_at hl 0 rfl) ?_
      refine lv_iload_n hx hb d_X11_fail_13 rfl (lv_at hl 2 rfl) ?_
      refine va_put (D := D) (ci := 11) (v := .int a2) (ty := .int) (C := "LinkedUnits$Unit") (T := TX11) (N := 19) hx hb hg iwX11 tyX11 tyX11_ok nmX11 hown hK hP hD hS 5 rfl rfl 4 (by decide) (hg _ m_318) (fun _ h9 => h9) rfl (by decide +kernel) rfl rfl (Nat.le_of_ble_eq_true rfl) d_X11_fail_14 (fun H locs hP hD hS => ?_)
      have hP : va_P D vwCl (wB cy r (upC (upC σ0 6 3 a1) 6 4 a2)) H := hP
      have hD : va_D A (wB cy r (upC (upC σ0 6 3 a1) 6 4 a2)) := hD
      have kp : Keep [(6, 3), (6, 4)] [] σ0 (upC (upC σ0 6 3 a1) 6 4 a2) := keep_f kp (by decide)
      refine W.widen (k := 0) (n := 0) (Nat.le_of_ble_eq_true rfl) (Nat.le_of_ble_eq_true rfl) ?_
      exact k_vret (X := St) (w1 := fun τ => wB cy r τ) (upC (upC σ0 6 3 a1) 6 4 a2) hx hb hr d_X11_fail_17 hlocks hP hK hD hS ⟨i0, kp⟩
  rw [hH] at hgoal
  exact hgoal
set_option maxHeartbeats 4000000 in
set_option maxRecDepth 100000 in
theorem s_X8_is (l : Launch) (D : va_G) (cy : Nat → ClassId) (sz : Nat) (w : Nat → Nat) (g : Nat → Nat → Int32) (r : Nat → Nat) (σ0 : St) (a1 : Int32) (a2 : Int32) (i0 : Inv σ0) : Met l y_X8_is (Cond.code y_X8_is b_X8_is 3 (some .boolean) :: GW) ({ frames := 1, cells := 0, slots := 0, locals := 21 } : Room) (va_Pc [.ref (r 5), .int a1, .int a2] (kPreE D cy sz (wB cy r σ0) (gE w g))) ((fun A : Nat → Prop => va_Qi (S := Unit) (fun (v9 : Int32) (_ : Unit) => (v9 = 0 ∨ v9 = 1) ∧ True) (fun _ => kPost D cy A (wB cy r σ0)) A) (va_A (wB cy r σ0) sz)) 0 0 (va_A (wB cy r σ0) sz) := by
  refine k_ofWE (Qc := fun A => va_Qi (S := Unit) (fun (v9 : Int32) (_ : Unit) => (v9 = 0 ∨ v9 = 1) ∧ True) (fun _ => kPost D cy A (wB cy r σ0)) A) (by decide) (Nat.le_of_ble_eq_true rfl) ?_
  intro p e s m below meth c A ls hx hb hr hml hown hlocks hin hg hNW hK hP hD hA hS hl hE
  have hl : lv_has ls 3 [(0, .ref (r 5)), (1, .int a1), (2, .int a2)] := hl
  have hown : s.vm.findClass "LinkedUnits$Store" = some m.cls := hown
  obtain ⟨H, hH⟩ : ∃ H, H = s.heap := ⟨_, rfl⟩
  rw [← hH] at hP
  have hS : va_S A s.heap H [] := by rw [hH]; exact va_S.rf
  have hgoal : W p l e ({ frames := 1, cells := 0, slots := 0, locals := 21 } : Room) s m (([.ref (r 5), .int a1, .int a2] : List Value).toArray) below meth c H [] 0 0 (MQ below (va_Qi (S := Unit) (fun (v9 : Int32) (_ : Unit) => (v9 = 0 ∨ v9 = 1) ∧ True) (fun _ => kPost D cy A (wB cy r σ0)) A) (([.ref (r 5), .int a1, .int a2] : List Value).toArray) s 0 0 A) (F0 m 0 ls []) := by
    refine lv_aload_n hx hb d_X8_is_0 rfl (lv_at hl 0 rfl) ?_
    refine va_get (D := D) (ci := 8) (v := .ref (r 25)) (C := "LinkedUnits$Store") (T := TX8) (N := 18) hx hb hg iwX8 hown hK hP 4 rfl rfl 2 (by decide) (hg _ m_224) (fun _ h9 => h9) rfl d_X8_is_1 ?_
    refine lv_iload_n hx hb d_X8_is_4 rfl (lv_at hl 1 rfl) ?_
    refine s_call1 (x := ((r 25), .inl (cy 1, 10100, .inl (σ0 25)))) 24 rfl (va_runSN (As := [.ref (r 25), .int a1]) (rest := []) ⟨hx, hb, hml, hown, hg⟩ (c_at_any l D cy H.size (r 25) 10100 (σ0 25) a1 (Nat.le_of_ble_eq_true rfl)) ⟨(va_cnB 2 hg (gw_c m_949) rfl rfl rfl (hNW.1 _ nm_1125) (hg _ m_1) (by decide +kernel) ⟨(Nat.le_of_ble_eq_true rfl), (Nat.le_of_ble_eq_true rfl)⟩), hg _ m_948, trivial⟩ (s_pre (ws := [((r 25), .inl (cy 1, 10100, .inl (σ0 25)))]) (s_sub1 24 hP rfl) (s_subD 24 hD rfl) hK hNW) rfl rfl hl.1 rfl (lv_room (Nat.le_of_ble_eq_true rfl)) d_X8_is_5 ⟨(Nat.le_of_ble_eq_true rfl), (Nat.le_of_ble_eq_true rfl)⟩) hP hD hS hA (fun r1 u1 H locs hw hP hD hS => ?_)
    have hP : va_P D vwCl (wB cy r σ0) H := hP
    have hD : va_D A (wB cy r σ0) := hD
    refine lv_iload_n hx hb d_X8_is_8 rfl (lv_at hl 2 rfl) ?_
    refine lv_iand hx hb d_X8_is_9 ?_
    refine lv_if_eq (tgt := 17) hx hb d_X8_is_10 (by decide) (fun c_10 => ?_) (fun c_10 => ?_)
    · -- taken at 10
      refine lv_iconst (v := 0) hx hb d_X8_is_17 (by decide) ?_
      refine W.widen (k := 0) (n := 0) (Nat.le_of_ble_eq_true rfl) (Nat.le_of_ble_eq_true rfl) ?_
      exact k_zret (X := Unit) (w1 := fun _ => wB cy r σ0) () hx hb hr (k_nz (Or.inl rfl)) d_X8_is_18 hlocks hP hK hD hS ⟨(Or.inl rfl), trivial⟩
    · -- not taken at 10
      refine lv_iconst (v := 1) hx hb d_X8_is_13 (by decide) ?_
      refine lv_goto (tgt := 18) hx hb d_X8_is_14 (by decide) ?_
      refine W.widen (k := 0) (n := 0) (Nat.le_of_ble_eq_true rfl) (Nat.le_of_ble_eq_true rfl) ?_
      exact k_zret (X := Unit) (w1 := fun _ => wB cy r σ0) () hx hb hr (k_nz (Or.inr rfl)) d_X8_is_18 hlocks hP hK hD hS ⟨(Or.inr rfl), trivial⟩
  rw [hH] at hgoal
  exact hgoal
set_option maxHeartbeats 4000000 in
set_option maxRecDepth 100000 in
theorem s_X2_refuse (l : Launch) (D : va_G) (cy : Nat → ClassId) (sz : Nat) (w : Nat → Nat) (g : Nat → Nat → Int32) (r : Nat → Nat) (σ0 : St) (a1 : Int32) (i0 : Inv σ0) : Met l y_X2_refuse (Cond.code y_X2_refuse b_X2_refuse 2 none :: GW) ({ frames := 1, cells := 0, slots := 0, locals := 22 } : Room) (va_Pc [.ref (r 7), .int a1] (kPreE D cy sz (wB cy r σ0) (gE w g))) ((fun A : Nat → Prop => va_Qv (S := St) (fun (τ : St) => (Inv τ ∧ Keep [(6, 3), (6, 4)] [] σ0 τ)) (fun τ => kPost D cy A (wB cy r τ)) A) (va_A (wB cy r σ0) sz)) 0 0 (va_A (wB cy r σ0) sz) := by
  refine k_ofWE (Qc := fun A => va_Qv (S := St) (fun (τ : St) => (Inv τ ∧ Keep [(6, 3), (6, 4)] [] σ0 τ)) (fun τ => kPost D cy A (wB cy r τ)) A) (by decide) (Nat.le_of_ble_eq_true rfl) ?_
  intro p e s m below meth c A ls hx hb hr hml hown hlocks hin hg hNW hK hP hD hA hS hl hE
  have hl : lv_has ls 2 [(0, .ref (r 7)), (1, .int a1)] := hl
  have hown : s.vm.findClass "LinkedUnits$Expressions" = some m.cls := hown
  have kp : Keep [(6, 3), (6, 4)] [] σ0 σ0 := keep_rf
  obtain ⟨H, hH⟩ : ∃ H, H = s.heap := ⟨_, rfl⟩
  rw [← hH] at hP
  have hS : va_S A s.heap H [] := by rw [hH]; exact va_S.rf
  have hgoal : W p l e ({ frames := 1, cells := 0, slots := 0, locals := 22 } : Room) s m (([.ref (r 7), .int a1] : List Value).toArray) below meth c H [] 0 0 (MQ below (va_Qv (S := St) (fun (τ : St) => (Inv τ ∧ Keep [(6, 3), (6, 4)] [] σ0 τ)) (fun τ => kPost D cy A (wB cy r τ)) A) (([.ref (r 7), .int a1] : List Value).toArray) s 0 0 A) (F0 m 0 ls []) := by
    refine lv_aload_n hx hb d_X2_refuse_0 rfl (lv_at hl 0 rfl) ?_
    refine va_get (D := D) (ci := 2) (v := .ref (r 6)) (C := "LinkedUnits$Expressions") (T := TX2) (N := 8) hx hb hg iwX2 hown hK hP 6 rfl rfl 2 (by decide) (hg _ m_458) (fun _ h9 => h9) rfl d_X2_refuse_1 ?_
    refine lv_iconst (v := 2) hx hb d_X2_refuse_4 (by decide) ?_
    refine lv_iload_n hx hb d_X2_refuse_5 rfl (lv_at hl 1 rfl) ?_
    refine s_callv (X := St) (w1 := fun τ => wB cy r τ) (va_runVN (As := [.int 2, .int a1]) (rest := []) ⟨hx, hb, hml, hown, hg⟩ (s_X11_fail l D cy H.size w g r σ0 (2 : Int32) a1 i0 ) ⟨(va_cnB 2 hg (gw_c m_1093) rfl rfl rfl (hNW.1 _ nm_1090) (hg _ m_10) (by decide +kernel) ⟨(Nat.le_of_ble_eq_true rfl), (Nat.le_of_ble_eq_true rfl)⟩), (hg _ m_1092), hg _ ms_X11_fail⟩ (s_preVE (As := [.int 2, .int a1]) (gE_ok w g) hS hA hE hP hD hK hNW 5 rfl rfl) rfl rfl hl.1 rfl (lv_room (Nat.le_of_ble_eq_true rfl)) d_X2_refuse_6 ⟨(Nat.le_of_ble_eq_true rfl), (Nat.le_of_ble_eq_true rfl)⟩) hP hD hS hA (fun σ1 H locs hw hP hD hS => ?_)
    have hP : va_P D vwCl (wB cy r σ1) H := hP
    have hD : va_D A (wB cy r σ1) := hD
    have ik1 : Keep [(6, 3), (6, 4)] [] σ0 σ1 := hw.2
    have kp : Keep [(6, 3), (6, 4)] [] σ0 σ1 := keep_c kp ik1 (by decide) (by decide)
    have i1 : Inv σ1 := hw.1
    refine W.widen (k := 0) (n := 0) (Nat.le_of_ble_eq_true rfl) (Nat.le_of_ble_eq_true rfl) ?_
    exact k_vret (X := St) (w1 := fun τ => wB cy r τ) σ1 hx hb hr d_X2_refuse_9 hlocks hP hK hD hS ⟨i1, kp⟩
  rw [hH] at hgoal
  exact hgoal
set_option maxHeartbeats 4000000 in
set_option maxRecDepth 100000 in
theorem s_X8_mark (l : Launch) (D : va_G) (cy : Nat → ClassId) (sz : Nat) (w : Nat → Nat) (g : Nat → Nat → Int32) (r : Nat → Nat) (σ0 : St) (a1 : Int32) (a2 : Int32) (i0 : Inv σ0) : Met l y_X8_mark (Cond.code y_X8_mark b_X8_mark 3 none :: GW) ({ frames := 1, cells := 0, slots := 0, locals := 22 } : Room) (va_Pc [.ref (r 5), .int a1, .int a2] (kPreE D cy sz (wB cy r σ0) (gE w g))) ((fun A : Nat → Prop => va_Qv (S := St) (fun (τ : St) => (Inv τ ∧ Keep [] [25] σ0 τ)) (fun τ => kPost D cy A (wB cy r τ)) A) (va_A (wB cy r σ0) sz)) 0 0 (va_A (wB cy r σ0) sz) := by
  refine k_ofWE (Qc := fun A => va_Qv (S := St) (fun (τ : St) => (Inv τ ∧ Keep [] [25] σ0 τ)) (fun τ => kPost D cy A (wB cy r τ)) A) (by decide) (Nat.le_of_ble_eq_true rfl) ?_
  intro p e s m below meth c A ls hx hb hr hml hown hlocks hin hg hNW hK hP hD hA hS hl hE
  have hl : lv_has ls 3 [(0, .ref (r 5)), (1, .int a1), (2, .int a2)] := hl
  have hown : s.vm.findClass "LinkedUnits$Store" = some m.cls := hown
  have kp : Keep [] [25] σ0 σ0 := keep_rf
  obtain ⟨H, hH⟩ : ∃ H, H = s.heap := ⟨_, rfl⟩
  rw [← hH] at hP
  have hS : va_S A s.heap H [] := by rw [hH]; exact va_S.rf
  have hgoal : W p l e ({ frames := 1, cells := 0, slots := 0, locals := 22 } : Room) s m (([.ref (r 5), .int a1, .int a2] : List Value).toArray) below meth c H [] 0 0 (MQ below (va_Qv (S := St) (fun (τ : St) => (Inv τ ∧ Keep [] [25] σ0 τ)) (fun τ => kPost D cy A (wB cy r τ)) A) (([.ref (r 5), .int a1, .int a2] : List Value).toArray) s 0 0 A) (F0 m 0 ls []) := by
    refine lv_aload_n hx hb d_X8_mark_0 rfl (lv_at hl 0 rfl) ?_
    refine va_get (D := D) (ci := 8) (v := .ref (r 25)) (C := "LinkedUnits$Store") (T := TX8) (N := 18) hx hb hg iwX8 hown hK hP 4 rfl rfl 2 (by decide) (hg _ m_224) (fun _ h9 => h9) rfl d_X8_mark_1 ?_
    refine lv_iload_n hx hb d_X8_mark_4 rfl (lv_at hl 1 rfl) ?_
    refine lv_aload_n hx hb d_X8_mark_5 rfl (lv_at hl 0 rfl) ?_
    refine va_get (D := D) (ci := 8) (v := .ref (r 25)) (C := "LinkedUnits$Store") (T := TX8) (N := 18) hx hb hg iwX8 hown hK hP 4 rfl rfl 2 (by decide) (hg _ m_224) (fun _ h9 => h9) rfl d_X8_mark_6 ?_
    refine lv_iload_n hx hb d_X8_mark_9 rfl (lv_at hl 1 rfl) ?_
    refine s_call1 (x := ((r 25), .inl (cy 1, 10100, .inl (σ0 25)))) 24 rfl (va_runSN (As := [.ref (r 25), .int a1]) (rest := [.int a1, .ref (r 25)]) ⟨hx, hb, hml, hown, hg⟩ (c_at_any l D cy H.size (r 25) 10100 (σ0 25) a1 (Nat.le_of_ble_eq_true rfl)) ⟨(va_cnB 2 hg (gw_c m_949) rfl rfl rfl (hNW.1 _ nm_1125) (hg _ m_1) (by decide +kernel) ⟨(Nat.le_of_ble_eq_true rfl), (Nat.le_of_ble_eq_true rfl)⟩), hg _ m_948, trivial⟩ (s_pre (ws := [((r 25), .inl (cy 1, 10100, .inl (σ0 25)))]) (s_sub1 24 hP rfl) (s_subD 24 hD rfl) hK hNW) rfl rfl hl.1 rfl (lv_room (Nat.le_of_ble_eq_true rfl)) d_X8_mark_10 ⟨(Nat.le_of_ble_eq_true rfl), (Nat.le_of_ble_eq_true rfl)⟩) hP hD hS hA (fun r1 u1 H locs hw hP hD hS => ?_)
    have hP : va_P D vwCl (wB cy r σ0) H := hP
    have hD : va_D A (wB cy r σ0) := hD
    refine lv_iload_n hx hb d_X8_mark_13 rfl (lv_at hl 2 rfl) ?_
    refine lv_ior hx hb d_X8_mark_14 ?_
    refine s_set1 (X := Nat → Int32) (w := fun g => .inl (cy 1, 10100, .inl g)) 24 rfl (va_runSN (As := [.ref (r 25), .int a1, .int (r1 ||| a2)]) (rest := []) ⟨hx, hb, hml, hown, hg⟩ (c_set_any l D cy H.size (r 25) 10100 (σ0 25) a1 (r1 ||| a2) (Nat.le_of_ble_eq_true rfl)) ⟨(va_cnB 3 hg (gw_c m_981) rfl rfl rfl (hNW.1 _ nm_1098) (hg _ m_1) (by decide +kernel) ⟨(Nat.le_of_ble_eq_true rfl), (Nat.le_of_ble_eq_true rfl)⟩), hg _ m_980, trivial⟩ (s_pre (ws := [((r 25), .inl (cy 1, 10100, .inl (σ0 25)))]) (s_sub1 24 hP rfl) (s_subD 24 hD rfl) hK hNW) rfl rfl hl.1 rfl (lv_room (Nat.le_of_ble_eq_true rfl)) d_X8_mark_15 ⟨(Nat.le_of_ble_eq_true rfl), (Nat.le_of_ble_eq_true rfl)⟩) hP hD hS hA (fun g2 H locs hw hP hD hS => ?_)
    have hP : va_P D vwCl (wB cy r (upF σ0 25 g2)) H := hP
    have hD : va_D A (wB cy r (upF σ0 25 g2)) := hD
    have kp : Keep [] [25] σ0 (upF σ0 25 g2) := keep_a kp (by decide)
    refine W.widen (k := 0) (n := 0) (Nat.le_of_ble_eq_true rfl) (Nat.le_of_ble_eq_true rfl) ?_
    exact k_vret (X := St) (w1 := fun τ => wB cy r τ) (upF σ0 25 g2) hx hb hr d_X8_mark_18 hlocks hP hK hD hS ⟨i0, kp⟩
  rw [hH] at hgoal
  exact hgoal
set_option maxHeartbeats 4000000 in
set_option maxRecDepth 100000 in
theorem s_X11_mentionCall (l : Launch) (D : va_G) (cy : Nat → ClassId) (sz : Nat) (w : Nat → Nat) (g : Nat → Nat → Int32) (r : Nat → Nat) (σ0 : St) (a1 : Int32) (a2 : Int32) (i0 : Inv σ0) : Met l y_X11_mentionCall (Cond.code y_X11_mentionCall b_X11_mentionCall 4 none :: GW) ({ frames := 2, cells := 0, slots := 0, locals := 44 } : Room) (va_Pc [.ref (r 6), .int a1, .int a2] (kPreE D cy sz (wB cy r σ0) (gE w g))) ((fun A : Nat → Prop => va_Qv (S := St) (fun (τ : St) => (Inv τ ∧ Keep [] [25, 39] σ0 τ)) (fun τ => kPost D cy A (wB cy r τ)) A) (va_A (wB cy r σ0) sz)) 0 0 (va_A (wB cy r σ0) sz) := by
  refine k_ofWE (Qc := fun A => va_Qv (S := St) (fun (τ : St) => (Inv τ ∧ Keep [] [25, 39] σ0 τ)) (fun τ => kPost D cy A (wB cy r τ)) A) (by decide) (Nat.le_of_ble_eq_true rfl) ?_
  intro p e s m below meth c A ls hx hb hr hml hown hlocks hin hg hNW hK hP hD hA hS hl hE
  have hl : lv_has ls 4 [(0, .ref (r 6)), (1, .int a1), (2, .int a2)] := hl
  have hown : s.vm.findClass "LinkedUnits$Unit" = some m.cls := hown
  have kp : Keep [] [25, 39] σ0 σ0 := keep_rf
  obtain ⟨H, hH⟩ : ∃ H, H = s.heap := ⟨_, rfl⟩
  rw [← hH] at hP
  have hS : va_S A s.heap H [] := by rw [hH]; exact va_S.rf
  have hgoal : W p l e ({ frames := 2, cells := 0, slots := 0, locals := 44 } : Room) s m (([.ref (r 6), .int a1, .int a2] : List Value).toArray) below meth c H [] 0 0 (MQ below (va_Qv (S := St) (fun (τ : St) => (Inv τ ∧ Keep [] [25, 39] σ0 τ)) (fun τ => kPost D cy A (wB cy r τ)) A) (([.ref (r 6), .int a1, .int a2] : List Value).toArray) s 0 0 A) (F0 m 0 ls []) := by
    refine lv_iload_n hx hb d_X11_mentionCall_0 rfl (lv_at hl 1 rfl) ?_
    refine lv_aload_n hx hb d_X11_mentionCall_1 rfl (lv_at hl 0 rfl) ?_
    refine va_get (D := D) (ci := 11) (v := .ref (r 5)) (C := "LinkedUnits$Unit") (T := TX11) (N := 19) hx hb hg iwX11 hown hK hP 5 rfl rfl 1 (by decide) (hg _ m_309) (fun _ h9 => h9) rfl d_X11_mentionCall_2 ?_
    refine va_getN (D := D) (ci := 8) (v := .int (σ0 5 1)) (C := "LinkedUnits$Store") (T := TX8) (N := 18) hx hb hg iwX8 hown hK hP 4 rfl rfl 1 (by decide) (va_Nw.use rfl (hNW.1 _ nm_223)) (fun _ h9 => h9) rfl d_X11_mentionCall_5 ?_
    refine lv_aload_n hx hb d_X11_mentionCall_8 rfl (lv_at hl 0 rfl) ?_
    refine va_get (D := D) (ci := 11) (v := .int (σ0 6 7)) (C := "LinkedUnits$Unit") (T := TX11) (N := 19) hx hb hg iwX11 hown hK hP 5 rfl rfl 7 (by decide) (hg _ m_327) (fun _ h9 => h9) rfl d_X11_mentionCall_9 ?_
    refine lv_isub hx hb d_X11_mentionCall_12 ?_
    refine lv_isub hx hb d_X11_mentionCall_13 ?_
    refine lv_istore_n (lv' := [(3, .int (a1 - ((σ0 5 1) - (σ0 6 7)))), (0, .ref (r 6)), (1, .int a1), (2, .int a2)]) hx hb d_X11_mentionCall_14 rfl hl (by decide) rfl (fun ls hl => ?_)
    refine lv_aload_n hx hb d_X11_mentionCall_15 rfl (lv_at hl 1 rfl) ?_
    refine va_get (D := D) (ci := 11) (v := .ref (r 5)) (C := "LinkedUnits$Unit") (T := TX11) (N := 19) hx hb hg iwX11 hown hK hP 5 rfl rfl 1 (by decide) (hg _ m_309) (fun _ h9 => h9) rfl d_X11_mentionCall_16 ?_
    refine lv_iload_n hx hb d_X11_mentionCall_19 rfl (lv_at hl 2 rfl) ?_
    refine lv_bipush (v := 8) hx hb d_X11_mentionCall_20 (by decide) ?_
    refine s_callv (X := St) (w1 := fun τ => wB cy r τ) (va_runVN (As := [.int a1, .int 8]) (rest := []) ⟨hx, hb, hml, hown, hg⟩ (s_X8_mark l D cy H.size w g r σ0 a1 (8 : Int32) i0 ) ⟨(va_cnB 2 hg (gw_c m_1136) rfl rfl rfl (hNW.1 _ nm_1150) (hg _ m_5) (by decide +kernel) ⟨(Nat.le_of_ble_eq_true rfl), (Nat.le_of_ble_eq_true rfl)⟩), (hg _ m_1135), hg _ ms_X8_mark⟩ (s_preVE (As := [.int a1, .int 8]) (gE_ok w g) hS hA hE hP hD hK hNW 4 rfl rfl) rfl rfl hl.1 rfl (lv_room (Nat.le_of_ble_eq_true rfl)) d_X11_mentionCall_22 ⟨(Nat.le_of_ble_eq_true rfl), (Nat.le_of_ble_eq_true rfl)⟩) hP hD hS hA (fun σ1 H locs hw hP hD hS => ?_)
    have hP : va_P D vwCl (wB cy r σ1) H := hP
    have hD : va_D A (wB cy r σ1) := hD
    have ik1 : Keep [] [25] σ0 σ1 := hw.2
    have kp : Keep [] [25, 39] σ0 σ1 := keep_c kp ik1 (by decide) (by decide)
    have i1 : Inv σ1 := hw.1
    refine lv_aload_n hx hb d_X11_mentionCall_25 rfl (lv_at hl 1 rfl) ?_
    refine va_get (D := D) (ci := 11) (v := .ref (r 39)) (C := "LinkedUnits$Unit") (T := TX11) (N := 19) hx hb hg iwX11 hown hK hP 5 rfl rfl 9 (by decide) (hg _ m_330) (fun _ h9 => h9) rfl d_X11_mentionCall_26 ?_
    refine lv_iload_n hx hb d_X11_mentionCall_29 rfl (lv_at hl 0 rfl) ?_
    refine s_call1 (x := ((r 39), .inl (cy 1, 100, .inl (σ1 39)))) 38 rfl (va_runSN (As := [.ref (r 39), .int (a1 - ((σ0 5 1) - (σ0 6 7)))]) (rest := []) ⟨hx, hb, hml, hown, hg⟩ (c_at_any l D cy H.size (r 39) 100 (σ1 39) (a1 - ((σ0 5 1) - (σ0 6 7))) (Nat.le_of_ble_eq_true rfl)) ⟨(va_cnB 2 hg (gw_c m_949) rfl rfl rfl (hNW.1 _ nm_1112) (hg _ m_1) (by decide +kernel) ⟨(Nat.le_of_ble_eq_true rfl), (Nat.le_of_ble_eq_true rfl)⟩), hg _ m_948, trivial⟩ (s_pre (ws := [((r 39), .inl (cy 1, 100, .inl (σ1 39)))]) (s_sub1 38 hP rfl) (s_subD 38 hD rfl) hK hNW) rfl rfl hl.1 rfl (lv_room (Nat.le_of_ble_eq_true rfl)) d_X11_mentionCall_30 ⟨(Nat.le_of_ble_eq_true rfl), (Nat.le_of_ble_eq_true rfl)⟩) hP hD hS hA (fun r2 u2 H locs hw hP hD hS => ?_)
    have hP : va_P D vwCl (wB cy r σ1) H := hP
    have hD : va_D A (wB cy r σ1) := hD
    refine lv_if_ge (tgt := 45) hx hb d_X11_mentionCall_33 (by decide) (fun c_33 => ?_) (fun c_33 => ?_)
    · -- taken at 33
      refine W.widen (k := 0) (n := 0) (Nat.le_of_ble_eq_true rfl) (Nat.le_of_ble_eq_true rfl) ?_
      exact k_vret (X := St) (w1 := fun τ => wB cy r τ) σ1 hx hb hr d_X11_mentionCall_45 hlocks hP hK hD hS ⟨i1, kp⟩
    · -- not taken at 33
      refine lv_aload_n hx hb d_X11_mentionCall_36 rfl (lv_at hl 1 rfl) ?_
      refine va_get (D := D) (ci := 11) (v := .ref (r 39)) (C := "LinkedUnits$Unit") (T := TX11) (N := 19) hx hb hg iwX11 hown hK hP 5 rfl rfl 9 (by decide) (hg _ m_330) (fun _ h9 => h9) rfl d_X11_mentionCall_37 ?_
      refine lv_iload_n hx hb d_X11_mentionCall_40 rfl (lv_at hl 0 rfl) ?_
      refine lv_iload_n hx hb d_X11_mentionCall_41 rfl (lv_at hl 3 rfl) ?_
      refine s_set1 (X := Nat → Int32) (w := fun g => .inl (cy 1, 100, .inl g)) 38 rfl (va_runSN (As := [.ref (r 39), .int (a1 - ((σ0 5 1) - (σ0 6 7))), .int a2]) (rest := []) ⟨hx, hb, hml, hown, hg⟩ (c_set_any l D cy H.size (r 39) 100 (σ1 39) (a1 - ((σ0 5 1) - (σ0 6 7))) a2 (Nat.le_of_ble_eq_true rfl)) ⟨(va_cnB 3 hg (gw_c m_981) rfl rfl rfl (hNW.1 _ nm_1151) (hg _ m_1) (by decide +kernel) ⟨(Nat.le_of_ble_eq_true rfl), (Nat.le_of_ble_eq_true rfl)⟩), hg _ m_980, trivial⟩ (s_pre (ws := [((r 39), .inl (cy 1, 100, .inl (σ1 39)))]) (s_sub1 38 hP rfl) (s_subD 38 hD rfl) hK hNW) rfl rfl hl.1 rfl (lv_room (Nat.le_of_ble_eq_true rfl)) d_X11_mentionCall_42 ⟨(Nat.le_of_ble_eq_true rfl), (Nat.le_of_ble_eq_true rfl)⟩) hP hD hS hA (fun g3 H locs hw hP hD hS => ?_)
      have hP : va_P D vwCl (wB cy r (upF σ1 39 g3)) H := hP
      have hD : va_D A (wB cy r (upF σ1 39 g3)) := hD
      have kp : Keep [] [25, 39] σ0 (upF σ1 39 g3) := keep_a kp (by decide)
      refine W.widen (k := 0) (n := 0) (Nat.le_of_ble_eq_true rfl) (Nat.le_of_ble_eq_true rfl) ?_
      exact k_vret (X := St) (w1 := fun τ => wB cy r τ) (upF σ1 39 g3) hx hb hr d_X11_mentionCall_45 hlocks hP hK hD hS ⟨i1, kp⟩
  rw [hH] at hgoal
  exact hgoal
