set_option maxHeartbeats 4000000 in
set_option maxRecDepth 100000 in
theorem s_X0_aim (l : Launch) (D : va_G) (cy : Nat → ClassId) (sz : Nat) (r : Nat → Nat) (σ : St) (x1 : Int32) (x2 : Int32) (inv : Inv σ) : Met l y_X0_aim (Cond.code y_X0_aim b_X0_aim 6 none :: GW) ({ frames := 1, cells := 0, slots := 0, locals := 22 } : Room) (va_Pc [.ref (r 4), .int x1, .int x2] (kPre D cy sz (wB cy r σ))) ((fun A : Nat → Prop => va_Qv (S := St) (fun (τ : St) => Inv τ) (fun τ => kPost D cy A (wB cy r τ)) A) (va_A (wB cy r σ) sz)) 0 0 (va_A (wB cy r σ) sz) := by
  refine k_ofW (Qc := fun A => va_Qv (S := St) (fun (τ : St) => Inv τ) (fun τ => kPost D cy A (wB cy r τ)) A) (by decide) (Nat.le_of_ble_eq_true rfl) ?_
  intro p e s m below meth c A ls hx hb hr hml hown hlocks hin hg hNW hK hP hD hA hS hl
  have hl : lv_has ls 6 [(0, .ref (r 4)), (1, .int x1), (2, .int x2)] := hl
  have hown : s.vm.findClass "LinkedUnits$Code" = some m.cls := hown
  have b8 : ∀ (N : Nat) (σ : St) (x1 : Int32) (x2 : Int32) (x3 : Int32) (x4 : Int32) (H : Heap) (locs : List Loc) (ls : Array Slot), dn x4 = N → Inv σ → va_P D vwCl (wB cy r σ) H → va_D A (wB cy r σ) → va_S A s.heap H locs → lv_has ls 6 [(0, .ref (r 4)), (1, .int x1), (2, .int x2), (3, .int x3), (4, .int x4)] → W p l e ({ frames := 1, cells := 0, slots := 0, locals := 22 } : Room) s m (([.ref (r 4), .int x1, .int x2] : List Value).toArray) below meth c H locs 0 0 (MQ below (va_Qv (S := St) (fun (τ : St) => Inv τ) (fun τ => kPost D cy A (wB cy r τ)) A) (([.ref (r 4), .int x1, .int x2] : List Value).toArray) s 0 0 A) (F0 m 8 ls []) := by
    intro N
    induction N using Nat.strongRecOn with
    | _ N ih8 =>
      intro σ x1 x2 x3 x4 H locs ls N8 inv hP hD hS hl
      refine lv_iload hx hb d_X0_aim_8 (lv_at hl 4 rfl) ?_
      refine lv_if_le (tgt := 49) hx hb d_X0_aim_10 (by decide) (fun c_10 => ?_) (fun c_10 => ?_)
      · -- taken at 10
        refine W.widen (k := 0) (n := 0) (Nat.le_of_ble_eq_true rfl) (Nat.le_of_ble_eq_true rfl) ?_
        exact k_vret (X := St) (w1 := fun τ => wB cy r τ) σ hx hb hr d_X0_aim_49 hlocks hP hK hD hS inv
      · -- not taken at 10
        refine lv_iload_n hx hb d_X0_aim_13 rfl (lv_at hl 3 rfl) ?_
        refine lv_if_lt (tgt := 49) hx hb d_X0_aim_14 (by decide) (fun c_14 => ?_) (fun c_14 => ?_)
        · -- taken at 14
          refine W.widen (k := 0) (n := 0) (Nat.le_of_ble_eq_true rfl) (Nat.le_of_ble_eq_true rfl) ?_
          exact k_vret (X := St) (w1 := fun τ => wB cy r τ) σ hx hb hr d_X0_aim_49 hlocks hP hK hD hS inv
        · -- not taken at 14
          refine lv_aload_n hx hb d_X0_aim_17 rfl (lv_at hl 0 rfl) ?_
          refine va_get (D := D) (ci := 0) (v := .ref (r 24)) (C := "LinkedUnits$Code") (T := TX0) (N := 2) hx hb hg iwX0 hown hK hP 3 rfl rfl 0 (by decide) (hg _ m_149) (fun _ h9 => h9) rfl d_X0_aim_18 ?_
          refine lv_iload_n hx hb d_X0_aim_21 rfl (lv_at hl 3 rfl) ?_
          refine lv_iconst (v := 1) hx hb d_X0_aim_22 (by decide) ?_
          refine lv_iadd hx hb d_X0_aim_23 ?_
          refine s_call1 (x := ((r 24), .inl (cy 1, 262208, .inl (σ 24)))) 23 rfl (va_runSN (As := [.ref (r 24), .int (x3 + 1)]) (rest := []) ⟨hx, hb, hml, hown, hg⟩ (c_at_any l D cy H.size (r 24) 262208 (σ 24) (x3 + 1) (Nat.le_of_ble_eq_true rfl)) ⟨(va_cnB 2 hg (gw_c m_949) rfl rfl rfl (hNW.1 _ nm_1213) (hg _ m_1) (by decide +kernel) ⟨(Nat.le_of_ble_eq_true rfl), (Nat.le_of_ble_eq_true rfl)⟩), hg _ m_948, trivial⟩ (s_pre (ws := [((r 24), .inl (cy 1, 262208, .inl (σ 24)))]) (s_sub1 23 hP rfl) (s_subD 23 hD rfl) hK hNW) rfl rfl hl.1 rfl (lv_room (Nat.le_of_ble_eq_true rfl)) d_X0_aim_24 ⟨(Nat.le_of_ble_eq_true rfl), (Nat.le_of_ble_eq_true rfl)⟩) hP hD hS hA (fun r1 u1 H locs hw hP hD hS => ?_)
          have hP : va_P D vwCl (wB cy r σ) H := hP
          have hD : va_D A (wB cy r σ) := hD
          refine lv_istore (lv' := [(5, .int r1), (0, .ref (r 4)), (1, .int x1), (2, .int x2), (3, .int x3), (4, .int x4)]) hx hb d_X0_aim_27 hl (by decide) rfl (fun ls hl => ?_)
          refine lv_aload_n hx hb d_X0_aim_29 rfl (lv_at hl 1 rfl) ?_
          refine va_get (D := D) (ci := 0) (v := .ref (r 24)) (C := "LinkedUnits$Code") (T := TX0) (N := 2) hx hb hg iwX0 hown hK hP 3 rfl rfl 0 (by decide) (hg _ m_149) (fun _ h9 => h9) rfl d_X0_aim_30 ?_
          refine lv_iload_n hx hb d_X0_aim_33 rfl (lv_at hl 4 rfl) ?_
          refine lv_iconst (v := 1) hx hb d_X0_aim_34 (by decide) ?_
          refine lv_iadd hx hb d_X0_aim_35 ?_
          refine lv_iload_n hx hb d_X0_aim_36 rfl (lv_at hl 3 rfl) ?_
          refine s_set1 (X := Nat → Int32) (w := fun g => .inl (cy 1, 262208, .inl g)) 23 rfl (va_runSN (As := [.ref (r 24), .int (x3 + 1), .int x2]) (rest := []) ⟨hx, hb, hml, hown, hg⟩ (c_set_any l D cy H.size (r 24) 262208 (σ 24) (x3 + 1) x2 (Nat.le_of_ble_eq_true rfl)) ⟨(va_cnB 3 hg (gw_c m_981) rfl rfl rfl (hNW.1 _ nm_1214) (hg _ m_1) (by decide +kernel) ⟨(Nat.le_of_ble_eq_true rfl), (Nat.le_of_ble_eq_true rfl)⟩), hg _ m_980, trivial⟩ (s_pre (ws := [((r 24), .inl (cy 1, 262208, .inl (σ 24)))]) (s_sub1 23 hP rfl) (s_subD 23 hD rfl) hK hNW) rfl rfl hl.1 rfl (lv_room (Nat.le_of_ble_eq_true rfl)) d_X0_aim_37 ⟨(Nat.le_of_ble_eq_true rfl), (Nat.le_of_ble_eq_true rfl)⟩) hP hD hS hA (fun g2 H locs hw hP hD hS => ?_)
          have hP : va_P D vwCl (wB cy r (upF σ 24 g2)) H := hP
          have hD : va_D A (wB cy r (upF σ 24 g2)) := hD
          refine lv_iload hx hb d_X0_aim_40 (lv_at hl 0 rfl) ?_
          refine lv_istore_n (lv' := [(3, .int r1), (5, .int r1), (0, .ref (r 4)), (1, .int x1), (2, .int x2), (4, .int x4)]) hx hb d_X0_aim_42 rfl hl (by decide) rfl (fun ls hl => ?_)
          refine lv_iinc (v := (x4 + (-1))) (lv' := [(4, .int (x4 + (-1))), (3, .int r1), (5, .int r1), (0, .ref (r 4)), (1, .int x1), (2, .int x2)]) hx hb d_X0_aim_43 hl (k := 5) rfl rfl (by decide) rfl (fun ls hl => ?_)
          refine lv_goto (tgt := 8) hx hb d_X0_aim_46 (by decide) ?_
          exact ih8 _ (N8 ▸ dn_lt c_10) (upF σ 24 g2) x1 x2 r1 (x4 + (-1)) _ _ _ rfl inv hP hD hS (lv_sub hl [3, 4, 5, 1, 0] rfl)
  obtain ⟨H, hH⟩ : ∃ H, H = s.heap := ⟨_, rfl⟩
  rw [← hH] at hP
  have hS : va_S A s.heap H [] := by rw [hH]; exact va_S.rf
  have hgoal : W p l e ({ frames := 1, cells := 0, slots := 0, locals := 22 } : Room) s m (([.ref (r 4), .int x1, .int x2] : List Value).toArray) below meth c H [] 0 0 (MQ below (va_Qv (S := St) (fun (τ : St) => Inv τ) (fun τ => kPost D cy A (wB cy r τ)) A) (([.ref (r 4), .int x1, .int x2] : List Value).toArray) s 0 0 A) (F0 m 0 ls []) := by
    refine lv_iload_n hx hb d_X0_aim_0 rfl (lv_at hl 1 rfl) ?_
    refine lv_istore_n (lv' := [(3, .int x1), (0, .ref (r 4)), (1, .int x1), (2, .int x2)]) hx hb d_X0_aim_1 rfl hl (by decide) rfl (fun ls hl => ?_)
    refine lv_aload_n hx hb d_X0_aim_2 rfl (lv_at hl 1 rfl) ?_
    refine va_get (D := D) (ci := 0) (v := .int (σ 4 1)) (C := "LinkedUnits$Code") (T := TX0) (N := 2) hx hb hg iwX0 hown hK hP 3 rfl rfl 1 (by decide) (hg _ m_152) (fun _ h9 => h9) rfl d_X0_aim_3 ?_
    refine lv_istore (lv' := [(4, .int (σ 4 1)), (3, .int x1), (0, .ref (r 4)), (1, .int x1), (2, .int x2)]) hx hb d_X0_aim_6 hl (by decide) rfl (fun ls hl => ?_)
    exact b8 _ σ x1 x2 x1 (σ 4 1) _ _ _ rfl inv hP hD hS (lv_sub hl [2, 3, 4, 1, 0] rfl)
  rw [hH] at hgoal
  exact hgoal
set_option maxHeartbeats 4000000 in
set_option maxRecDepth 100000 in
theorem s_X0_header (l : Launch) (D : va_G) (cy : Nat → ClassId) (sz : Nat) (r : Nat → Nat) (σ : St) (inv : Inv σ) : Met l y_X0_header (Cond.code y_X0_header b_X0_header 2 (some .int) :: GW) ({ frames := 0, cells := 0, slots := 0, locals := 0 } : Room) (va_Pc [.ref (r 4)] (kPre D cy sz (wB cy r σ))) ((fun A : Nat → Prop => va_Qi (S := St) (fun (_ : Int32) (τ : St) => Inv τ) (fun τ => kPost D cy A (wB cy r τ)) A) (va_A (wB cy r σ) sz)) 0 0 (va_A (wB cy r σ) sz) := by
  refine k_ofW (Qc := fun A => va_Qi (S := St) (fun (_ : Int32) (τ : St) => Inv τ) (fun τ => kPost D cy A (wB cy r τ)) A) (by decide) (Nat.le_of_ble_eq_true rfl) ?_
  intro p e s m below meth c A ls hx hb hr hml hown hlocks hin hg hNW hK hP hD hA hS hl
  have hl : lv_has ls 2 [(0, .ref (r 4))] := hl
  have hown : s.vm.findClass "LinkedUnits$Code" = some m.cls := hown
  obtain ⟨H, hH⟩ : ∃ H, H = s.heap := ⟨_, rfl⟩
  rw [← hH] at hP
  have hS : va_S A s.heap H [] := by rw [hH]; exact va_S.rf
  have hgoal : W p l e ({ frames := 0, cells := 0, slots := 0, locals := 0 } : Room) s m (([.ref (r 4)] : List Value).toArray) below meth c H [] 0 0 (MQ below (va_Qi (S := St) (fun (_ : Int32) (τ : St) => Inv τ) (fun τ => kPost D cy A (wB cy r τ)) A) (([.ref (r 4)] : List Value).toArray) s 0 0 A) (F0 m 0 ls []) := by
    refine lv_aload_n hx hb d_X0_header_0 rfl (lv_at hl 0 rfl) ?_
    refine va_get (D := D) (ci := 0) (v := .int (σ 4 1)) (C := "LinkedUnits$Code") (T := TX0) (N := 2) hx hb hg iwX0 hown hK hP 3 rfl rfl 1 (by decide) (hg _ m_152) (fun _ h9 => h9) rfl d_X0_header_1 ?_
    refine lv_istore_n (lv' := [(1, .int (σ 4 1)), (0, .ref (r 4))]) hx hb d_X0_header_4 rfl hl (by decide) rfl (fun ls hl => ?_)
    refine lv_aload_n hx hb d_X0_header_5 rfl (lv_at hl 1 rfl) ?_
    refine lv_dup hx hb d_X0_header_6 rfl ?_
    refine va_get (D := D) (ci := 0) (v := .int (σ 4 1)) (C := "LinkedUnits$Code") (T := TX0) (N := 2) hx hb hg iwX0 hown hK hP 3 rfl rfl 1 (by decide) (hg _ m_152) (fun _ h9 => h9) rfl d_X0_header_7 ?_
    refine lv_iload_n hx hb d_X0_header_10 rfl (lv_at hl 0 rfl) ?_
    refine lv_aload_n hx hb d_X0_header_11 rfl (lv_at hl 1 rfl) ?_
    refine va_get (D := D) (ci := 0) (v := .ref (r 24)) (C := "LinkedUnits$Code") (T := TX0) (N := 2) hx hb hg iwX0 hown hK hP 3 rfl rfl 0 (by decide) (hg _ m_149) (fun _ h9 => h9) rfl d_X0_header_12 ?_
    refine va_alen hx hb hK hP 23 1 rfl rfl (v := 262208) (by show Int32.ofNat 262208 = 262208; decide) d_X0_header_15 ?_
    refine lv_iconst (v := 4) hx hb d_X0_header_16 (by decide) ?_
    refine lv_isub hx hb d_X0_header_17 ?_
    refine k_topi 262204 (by decide) ?_
    refine lv_icmp_ge (tgt := 25) hx hb d_X0_header_18 (by decide) (fun c_18 => ?_) (fun c_18 => ?_)
    · -- taken at 18
      refine lv_iconst (v := 0) hx hb d_X0_header_25 (by decide) ?_
      refine lv_iadd hx hb d_X0_header_26 ?_
      refine va_put (D := D) (ci := 0) (v := .int ((σ 4 1) + 0)) (ty := .int) (C := "LinkedUnits$Code") (T := TX0) (N := 2) hx hb hg iwX0 tyX0 tyX0_ok nmX0 hown hK hP hD hS 3 rfl rfl 1 (by decide) (hg _ m_152) (fun _ h9 => h9) rfl (by decide +kernel) rfl rfl (Nat.le_of_ble_eq_true rfl) d_X0_header_27 (fun H locs hP hD hS => ?_)
      have hP : va_P D vwCl (wB cy r (upC σ 4 1 ((σ 4 1) + 0))) H := hP
      have hD : va_D A (wB cy r (upC σ 4 1 ((σ 4 1) + 0))) := hD
      refine lv_iload_n hx hb d_X0_header_30 rfl (lv_at hl 0 rfl) ?_
      refine W.widen (k := 0) (n := 0) (Nat.le_of_ble_eq_true rfl) (Nat.le_of_ble_eq_true rfl) ?_
      exact k_iret (X := St) (w1 := fun τ => wB cy r τ) (upC σ 4 1 ((σ 4 1) + 0)) hx hb hr d_X0_header_31 hlocks hP hK hD hS inv
    · -- not taken at 18
      refine lv_iconst (v := 4) hx hb d_X0_header_21 (by decide) ?_
      refine lv_goto (tgt := 26) hx hb d_X0_header_22 (by decide) ?_
      refine lv_iadd hx hb d_X0_header_26 ?_
      refine va_put (D := D) (ci := 0) (v := .int ((σ 4 1) + 4)) (ty := .int) (C := "LinkedUnits$Code") (T := TX0) (N := 2) hx hb hg iwX0 tyX0 tyX0_ok nmX0 hown hK hP hD hS 3 rfl rfl 1 (by decide) (hg _ m_152) (fun _ h9 => h9) rfl (by decide +kernel) rfl rfl (Nat.le_of_ble_eq_true rfl) d_X0_header_27 (fun H locs hP hD hS => ?_)
      have hP : va_P D vwCl (wB cy r (upC σ 4 1 ((σ 4 1) + 4))) H := hP
      have hD : va_D A (wB cy r (upC σ 4 1 ((σ 4 1) + 4))) := hD
      refine lv_iload_n hx hb d_X0_header_30 rfl (lv_at hl 0 rfl) ?_
      refine W.widen (k := 0) (n := 0) (Nat.le_of_ble_eq_true rfl) (Nat.le_of_ble_eq_true rfl) ?_
      exact k_iret (X := St) (w1 := fun τ => wB cy r τ) (upC σ 4 1 ((σ 4 1) + 4)) hx hb hr d_X0_header_31 hlocks hP hK hD hS inv
  rw [hH] at hgoal
  exact hgoal
