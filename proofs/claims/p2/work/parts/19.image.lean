set_option maxHeartbeats 4000000 in
set_option maxRecDepth 100000 in
theorem s_X4_choose (l : Launch) (D : va_G) (cy : Nat → ClassId) (sz : Nat) (r : Nat → Nat) (σ : St) (x1 : Int32) (inv : Inv σ) : Met l y_X4_choose (Cond.code y_X4_choose b_X4_choose 3 (some .int) :: GW) ({ frames := 1, cells := 0, slots := 0, locals := 22 } : Room) (va_Pc [.ref (r 10), .int x1] (kPre D cy sz (wB cy r σ))) ((fun A : Nat → Prop => va_Qi (S := St) (fun (_ : Int32) (τ : St) => Inv τ) (fun τ => kPost D cy A (wB cy r τ)) A) (va_A (wB cy r σ) sz)) 0 0 (va_A (wB cy r σ) sz) := by
  refine k_ofW (Qc := fun A => va_Qi (S := St) (fun (_ : Int32) (τ : St) => Inv τ) (fun τ => kPost D cy A (wB cy r τ)) A) (by decide) (Nat.le_of_ble_eq_true rfl) ?_
  intro p e s m below meth c A ls hx hb hr hml hown hlocks hin hg hNW hK hP hD hA hS hl
  have hl : lv_has ls 3 [(0, .ref (r 10)), (1, .int x1)] := hl
  have hown : s.vm.findClass "LinkedUnits$Image" = some m.cls := hown
  have b2 : ∀ (N : Nat) (σ : St) (x1 : Int32) (x2 : Int32) (H : Heap) (locs : List Loc) (ls : Array Slot), upm x2 = N → Inv σ → va_P D vwCl (wB cy r σ) H → va_D A (wB cy r σ) → va_S A s.heap H locs → lv_has ls 3 [(0, .ref (r 10)), (1, .int x1), (2, .int x2)] → W p l e ({ frames := 1, cells := 0, slots := 0, locals := 22 } : Room) s m (([.ref (r 10), .int x1] : List Value).toArray) below meth c H locs 0 0 (MQ below (va_Qi (S := St) (fun (_ : Int32) (τ : St) => Inv τ) (fun τ => kPost D cy A (wB cy r τ)) A) (([.ref (r 10), .int x1] : List Value).toArray) s 0 0 A) (F0 m 2 ls []) := by
    intro N
    induction N using Nat.strongRecOn with
    | _ N ih2 =>
      intro σ x1 x2 H locs ls N2 inv hP hD hS hl
      refine lv_iload_n hx hb d_X4_choose_2 rfl (lv_at hl 2 rfl) ?_
      refine lv_aload_n hx hb d_X4_choose_3 rfl (lv_at hl 0 rfl) ?_
      refine va_get (D := D) (ci := 4) (v := .int (σ 10 5)) (C := "LinkedUnits$Image") (T := TX4) (N := 12) hx hb hg iwX4 hown hK hP 9 rfl rfl 5 (by decide) (hg _ m_605) (fun _ h9 => h9) rfl d_X4_choose_4 ?_
      refine lv_icmp_ge (tgt := 30) hx hb d_X4_choose_7 (by decide) (fun c_7 => ?_) (fun c_7 => ?_)
      · -- taken at 7
        refine lv_aload_n hx hb d_X4_choose_30 rfl (lv_at hl 0 rfl) ?_
        refine va_get (D := D) (ci := 4) (v := .ref (r 56)) (C := "LinkedUnits$Image") (T := TX4) (N := 12) hx hb hg iwX4 hown hK hP 9 rfl rfl 6 (by decide) (hg _ m_606) (fun _ h9 => h9) rfl d_X4_choose_31 ?_
        refine lv_aload_n hx hb d_X4_choose_34 rfl (lv_at hl 0 rfl) ?_
        refine va_get (D := D) (ci := 4) (v := .int (σ 10 5)) (C := "LinkedUnits$Image") (T := TX4) (N := 12) hx hb hg iwX4 hown hK hP 9 rfl rfl 5 (by decide) (hg _ m_605) (fun _ h9 => h9) rfl d_X4_choose_35 ?_
        refine lv_iload_n hx hb d_X4_choose_38 rfl (lv_at hl 1 rfl) ?_
        refine s_set1 (X := Nat → Int32) (w := fun g => .inl (cy 1, 101, .inl g)) 53 rfl (va_runSN (As := [.ref (r 56), .int (σ 10 5), .int x1]) (rest := []) ⟨hx, hb, hml, hown, hg⟩ (c_set_any l D cy H.size (r 56) 101 (σ 56) (σ 10 5) x1 (Nat.le_of_ble_eq_true rfl)) ⟨(va_cnB 3 hg (gw_c m_981) rfl rfl rfl (hNW.1 _ nm_1553) (hg _ m_1) (by decide +kernel) ⟨(Nat.le_of_ble_eq_true rfl), (Nat.le_of_ble_eq_true rfl)⟩), hg _ m_980, trivial⟩ (s_pre (ws := [((r 56), .inl (cy 1, 101, .inl (σ 56)))]) (s_sub1 53 hP rfl) (s_subD 53 hD rfl) hK hNW) rfl rfl hl.1 rfl (lv_room (Nat.le_of_ble_eq_true rfl)) d_X4_choose_39 ⟨(Nat.le_of_ble_eq_true rfl), (Nat.le_of_ble_eq_true rfl)⟩) hP hD hS hA (fun g1 H locs hw hP hD hS => ?_)
        have hP : va_P D vwCl (wB cy r (upF σ 56 g1)) H := hP
        have hD : va_D A (wB cy r (upF σ 56 g1)) := hD
        refine lv_aload_n hx hb d_X4_choose_42 rfl (lv_at hl 0 rfl) ?_
        refine lv_dup hx hb d_X4_choose_43 rfl ?_
        refine va_get (D := D) (ci := 4) (v := .int (σ 10 5)) (C := "LinkedUnits$Image") (T := TX4) (N := 12) hx hb hg iwX4 hown hK hP 9 rfl rfl 5 (by decide) (hg _ m_605) (fun _ h9 => h9) rfl d_X4_choose_44 ?_
        refine lv_iconst (v := 1) hx hb d_X4_choose_47 (by decide) ?_
        refine lv_iadd hx hb d_X4_choose_48 ?_
        refine va_put (D := D) (ci := 4) (v := .int ((σ 10 5) + 1)) (ty := .int) (C := "LinkedUnits$Image") (T := TX4) (N := 12) hx hb hg iwX4 tyX4 tyX4_ok nmX4 hown hK hP hD hS 9 rfl rfl 5 (by decide) (hg _ m_605) (fun _ h9 => h9) rfl (by decide +kernel) rfl rfl (Nat.le_of_ble_eq_true rfl) d_X4_choose_49 (fun H locs hP hD hS => ?_)
        have hP : va_P D vwCl (wB cy r (upC (upF σ 56 g1) 10 5 ((σ 10 5) + 1))) H := hP
        have hD : va_D A (wB cy r (upC (upF σ 56 g1) 10 5 ((σ 10 5) + 1))) := hD
        refine lv_aload_n hx hb d_X4_choose_52 rfl (lv_at hl 0 rfl) ?_
        refine va_get (D := D) (ci := 4) (v := .int ((σ 10 5) + 1)) (C := "LinkedUnits$Image") (T := TX4) (N := 12) hx hb hg iwX4 hown hK hP 9 rfl rfl 5 (by decide) (hg _ m_605) (fun _ h9 => h9) rfl d_X4_choose_53 ?_
        refine lv_iconst (v := 1) hx hb d_X4_choose_56 (by decide) ?_
        refine lv_isub hx hb d_X4_choose_57 ?_
        refine W.widen (k := 0) (n := 0) (Nat.le_of_ble_eq_true rfl) (Nat.le_of_ble_eq_true rfl) ?_
        exact k_iret (X := St) (w1 := fun τ => wB cy r τ) (upC (upF σ 56 g1) 10 5 ((σ 10 5) + 1)) hx hb hr d_X4_choose_58 hlocks hP hK hD hS inv
      · -- not taken at 7
        refine lv_aload_n hx hb d_X4_choose_10 rfl (lv_at hl 0 rfl) ?_
        refine va_get (D := D) (ci := 4) (v := .ref (r 56)) (C := "LinkedUnits$Image") (T := TX4) (N := 12) hx hb hg iwX4 hown hK hP 9 rfl rfl 6 (by decide) (hg _ m_606) (fun _ h9 => h9) rfl d_X4_choose_11 ?_
        refine lv_iload_n hx hb d_X4_choose_14 rfl (lv_at hl 2 rfl) ?_
        refine s_call1 (x := ((r 56), .inl (cy 1, 101, .inl (σ 56)))) 53 rfl (va_runSN (As := [.ref (r 56), .int x2]) (rest := []) ⟨hx, hb, hml, hown, hg⟩ (c_at_any l D cy H.size (r 56) 101 (σ 56) x2 (Nat.le_of_ble_eq_true rfl)) ⟨(va_cnB 2 hg (gw_c m_949) rfl rfl rfl (hNW.1 _ nm_1552) (hg _ m_1) (by decide +kernel) ⟨(Nat.le_of_ble_eq_true rfl), (Nat.le_of_ble_eq_true rfl)⟩), hg _ m_948, trivial⟩ (s_pre (ws := [((r 56), .inl (cy 1, 101, .inl (σ 56)))]) (s_sub1 53 hP rfl) (s_subD 53 hD rfl) hK hNW) rfl rfl hl.1 rfl (lv_room (Nat.le_of_ble_eq_true rfl)) d_X4_choose_15 ⟨(Nat.le_of_ble_eq_true rfl), (Nat.le_of_ble_eq_true rfl)⟩) hP hD hS hA (fun r2 u2 H locs hw hP hD hS => ?_)
        have hP : va_P D vwCl (wB cy r σ) H := hP
        have hD : va_D A (wB cy r σ) := hD
        refine lv_iload_n hx hb d_X4_choose_18 rfl (lv_at hl 1 rfl) ?_
        refine lv_icmp_ne (tgt := 24) hx hb d_X4_choose_19 (by decide) (fun c_19 => ?_) (fun c_19 => ?_)
        · -- taken at 19
          refine lv_iinc (v := (x2 + 1)) (lv' := [(2, .int (x2 + 1)), (0, .ref (r 10)), (1, .int x1)]) hx hb d_X4_choose_24 hl (k := 2) rfl rfl (by decide) rfl (fun ls hl => ?_)
          refine lv_goto (tgt := 2) hx hb d_X4_choose_27 (by decide) ?_
          exact ih2 _ (N2 ▸ upm_lt c_7) σ x1 (x2 + 1) _ _ _ rfl inv hP hD hS (lv_sub hl [1, 2, 0] rfl)
        · -- not taken at 19
          refine lv_iconst (v := (-1)) hx hb d_X4_choose_22 (by decide) ?_
          refine W.widen (k := 0) (n := 0) (Nat.le_of_ble_eq_true rfl) (Nat.le_of_ble_eq_true rfl) ?_
          exact k_iret (X := St) (w1 := fun τ => wB cy r τ) σ hx hb hr d_X4_choose_23 hlocks hP hK hD hS inv
  obtain ⟨H, hH⟩ : ∃ H, H = s.heap := ⟨_, rfl⟩
  rw [← hH] at hP
  have hS : va_S A s.heap H [] := by rw [hH]; exact va_S.rf
  have hgoal : W p l e ({ frames := 1, cells := 0, slots := 0, locals := 22 } : Room) s m (([.ref (r 10), .int x1] : List Value).toArray) below meth c H [] 0 0 (MQ below (va_Qi (S := St) (fun (_ : Int32) (τ : St) => Inv τ) (fun τ => kPost D cy A (wB cy r τ)) A) (([.ref (r 10), .int x1] : List Value).toArray) s 0 0 A) (F0 m 0 ls []) := by
    refine lv_iconst (v := 1) hx hb d_X4_choose_0 (by decide) ?_
    refine lv_istore_n (lv' := [(2, .int 1), (0, .ref (r 10)), (1, .int x1)]) hx hb d_X4_choose_1 rfl hl (by decide) rfl (fun ls hl => ?_)
    exact b2 _ σ x1 (1 : Int32) _ _ _ rfl inv hP hD hS (lv_sub hl [1, 2, 0] rfl)
  rw [hH] at hgoal
  exact hgoal
set_option maxHeartbeats 4000000 in
set_option maxRecDepth 100000 in
theorem s_X4_agrees (l : Launch) (D : va_G) (cy : Nat → ClassId) (sz : Nat) (r : Nat → Nat) (σ : St) (x1 : Int32) (x2 : Int32) (inv : Inv σ) : Met l y_X4_agrees (Cond.code y_X4_agrees b_X4_agrees 7 (some .boolean) :: GW) ({ frames := 2, cells := 0, slots := 0, locals := 43 } : Room) (va_Pc [.ref (r 10), .int x1, .int x2] (kPre D cy sz (wB cy r σ))) ((fun A : Nat → Prop => va_Qi (S := Unit) (fun (v9 : Int32) (_ : Unit) => (v9 = 0 ∨ v9 = 1) ∧ True) (fun _ => kPost D cy A (wB cy r σ)) A) (va_A (wB cy r σ) sz)) 0 0 (va_A (wB cy r σ) sz) := by
  refine k_ofW (Qc := fun A => va_Qi (S := Unit) (fun (v9 : Int32) (_ : Unit) => (v9 = 0 ∨ v9 = 1) ∧ True) (fun _ => kPost D cy A (wB cy r σ)) A) (by decide) (Nat.le_of_ble_eq_true rfl) ?_
  intro p e s m below meth c A ls hx hb hr hml hown hlocks hin hg hNW hK hP hD hA hS hl
  have hl : lv_has ls 7 [(0, .ref (r 10)), (1, .int x1), (2, .int x2)] := hl
  have hown : s.vm.findClass "LinkedUnits$Image" = some m.cls := hown
  obtain ⟨H, hH⟩ : ∃ H, H = s.heap := ⟨_, rfl⟩
  rw [← hH] at hP
  have hS : va_S A s.heap H [] := by rw [hH]; exact va_S.rf
  have hgoal : W p l e ({ frames := 2, cells := 0, slots := 0, locals := 43 } : Room) s m (([.ref (r 10), .int x1, .int x2] : List Value).toArray) below meth c H [] 0 0 (MQ below (va_Qi (S := Unit) (fun (v9 : Int32) (_ : Unit) => (v9 = 0 ∨ v9 = 1) ∧ True) (fun _ => kPost D cy A (wB cy r σ)) A) (([.ref (r 10), .int x1, .int x2] : List Value).toArray) s 0 0 A) (F0 m 0 ls []) := by
    refine lv_aload_n hx hb d_X4_agrees_0 rfl (lv_at hl 0 rfl) ?_
    refine va_get (D := D) (ci := 4) (v := .ref (r 5)) (C := "LinkedUnits$Image") (T := TX4) (N := 12) hx hb hg iwX4 hown hK hP 9 rfl rfl 0 (by decide) (hg _ m_597) (fun _ h9 => h9) rfl d_X4_agrees_1 ?_
    refine va_getN (D := D) (ci := 8) (v := .ref (r 27)) (C := "LinkedUnits$Store") (T := TX8) (N := 18) hx hb hg iwX8 hown hK hP 4 rfl rfl 4 (by decide) (va_Nw.use rfl (hNW.1 _ nm_231)) (fun _ h9 => h9) rfl rfl d_X4_agrees_4 ?_
    refine lv_iload_n hx hb d_X4_agrees_7 rfl (lv_at hl 1 rfl) ?_
    refine s_call1 (x := ((r 27), .inl (cy 1, 10100, .inl (σ 27)))) 26 rfl (va_runSN (As := [.ref (r 27), .int x1]) (rest := []) ⟨hx, hb, hml, hown, hg⟩ (c_at_any l D cy H.size (r 27) 10100 (σ 27) x1 (Nat.le_of_ble_eq_true rfl)) ⟨(va_cnB 2 hg (gw_c m_949) rfl rfl rfl (hNW.1 _ nm_1552) (hg _ m_1) (by decide +kernel) ⟨(Nat.le_of_ble_eq_true rfl), (Nat.le_of_ble_eq_true rfl)⟩), hg _ m_948, trivial⟩ (s_pre (ws := [((r 27), .inl (cy 1, 10100, .inl (σ 27)))]) (s_sub1 26 hP rfl) (s_subD 26 hD rfl) hK hNW) rfl rfl hl.1 rfl (lv_room (Nat.le_of_ble_eq_true rfl)) d_X4_agrees_8 ⟨(Nat.le_of_ble_eq_true rfl), (Nat.le_of_ble_eq_true rfl)⟩) hP hD hS hA (fun r1 u1 H locs hw hP hD hS => ?_)
    have hP : va_P D vwCl (wB cy r σ) H := hP
    have hD : va_D A (wB cy r σ) := hD
    refine lv_istore_n (lv' := [(3, .int r1), (0, .ref (r 10)), (1, .int x1), (2, .int x2)]) hx hb d_X4_agrees_11 rfl hl (by decide) rfl (fun ls hl => ?_)
    refine lv_aload_n hx hb d_X4_agrees_12 rfl (lv_at hl 1 rfl) ?_
    refine va_get (D := D) (ci := 4) (v := .ref (r 5)) (C := "LinkedUnits$Image") (T := TX4) (N := 12) hx hb hg iwX4 hown hK hP 9 rfl rfl 0 (by decide) (hg _ m_597) (fun _ h9 => h9) rfl d_X4_agrees_13 ?_
    refine va_getN (D := D) (ci := 8) (v := .ref (r 27)) (C := "LinkedUnits$Store") (T := TX8) (N := 18) hx hb hg iwX8 hown hK hP 4 rfl rfl 4 (by decide) (va_Nw.use rfl (hNW.1 _ nm_231)) (fun _ h9 => h9) rfl rfl d_X4_agrees_16 ?_
    refine lv_iload_n hx hb d_X4_agrees_19 rfl (lv_at hl 3 rfl) ?_
    refine s_call1 (x := ((r 27), .inl (cy 1, 10100, .inl (σ 27)))) 26 rfl (va_runSN (As := [.ref (r 27), .int x2]) (rest := []) ⟨hx, hb, hml, hown, hg⟩ (c_at_any l D cy H.size (r 27) 10100 (σ 27) x2 (Nat.le_of_ble_eq_true rfl)) ⟨(va_cnB 2 hg (gw_c m_949) rfl rfl rfl (hNW.1 _ nm_1552) (hg _ m_1) (by decide +kernel) ⟨(Nat.le_of_ble_eq_true rfl), (Nat.le_of_ble_eq_true rfl)⟩), hg _ m_948, trivial⟩ (s_pre (ws := [((r 27), .inl (cy 1, 10100, .inl (σ 27)))]) (s_sub1 26 hP rfl) (s_subD 26 hD rfl) hK hNW) rfl rfl hl.1 rfl (lv_room (Nat.le_of_ble_eq_true rfl)) d_X4_agrees_20 ⟨(Nat.le_of_ble_eq_true rfl), (Nat.le_of_ble_eq_true rfl)⟩) hP hD hS hA (fun r2 u2 H locs hw hP hD hS => ?_)
    have hP : va_P D vwCl (wB cy r σ) H := hP
    have hD : va_D A (wB cy r σ) := hD
    refine lv_istore (lv' := [(4, .int r2), (3, .int r1), (0, .ref (r 10)), (1, .int x1), (2, .int x2)]) hx hb d_X4_agrees_23 hl (by decide) rfl (fun ls hl => ?_)
    refine lv_aload_n hx hb d_X4_agrees_25 rfl (lv_at hl 2 rfl) ?_
    refine va_get (D := D) (ci := 4) (v := .ref (r 5)) (C := "LinkedUnits$Image") (T := TX4) (N := 12) hx hb hg iwX4 hown hK hP 9 rfl rfl 0 (by decide) (hg _ m_597) (fun _ h9 => h9) rfl d_X4_agrees_26 ?_
    refine lv_iload_n hx hb d_X4_agrees_29 rfl (lv_at hl 3 rfl) ?_
    refine lv_iconst (v := 1) hx hb d_X4_agrees_30 (by decide) ?_
    refine s_calli (X := Unit) (w1 := fun _ => wB cy r σ) (va_runVN (As := [.int x1, .int 1]) (rest := []) ⟨hx, hb, hml, hown, hg⟩ (s_X8_is l D cy H.size r σ x1 (1 : Int32) inv ) ⟨(va_cnB 2 hg (gw_c m_1124) rfl rfl rfl (hNW.1 _ nm_1567) (hg _ m_5) (by decide +kernel) ⟨(Nat.le_of_ble_eq_true rfl), (Nat.le_of_ble_eq_true rfl)⟩), (hg _ m_1123), hg _ ms_X8_is⟩ (s_preV (As := [.int x1, .int 1]) hP hD hK hNW 4 rfl rfl) rfl rfl hl.1 rfl (lv_room (Nat.le_of_ble_eq_true rfl)) d_X4_agrees_31 ⟨(Nat.le_of_ble_eq_true rfl), (Nat.le_of_ble_eq_true rfl)⟩) hP hD hS hA (fun r3 u3 H locs hw hP hD hS => ?_)
    have hP : va_P D vwCl (wB cy r σ) H := hP
    have hD : va_D A (wB cy r σ) := hD
    have hz3 : r3 = 0 ∨ r3 = 1 := hw.1
    refine lv_istore (lv' := [(5, .int r3), (4, .int r2), (3, .int r1), (0, .ref (r 10)), (1, .int x1), (2, .int x2)]) hx hb d_X4_agrees_34 hl (by decide) rfl (fun ls hl => ?_)
    refine lv_iload hx hb d_X4_agrees_36 (lv_at hl 0 rfl) ?_
    refine lv_if_ne (tgt := 54) hx hb d_X4_agrees_38 (by decide) (fun c_38 => ?_) (fun c_38 => ?_)
    · -- taken at 38
      refine lv_iconst (v := 0) hx hb d_X4_agrees_54 (by decide) ?_
      refine lv_istore (lv' := [(6, .int 0), (5, .int r3), (4, .int r2), (3, .int r1), (0, .ref (r 10)), (1, .int x1), (2, .int x2)]) hx hb d_X4_agrees_55 hl (by decide) rfl (fun ls hl => ?_)
      refine lv_iload_n hx hb d_X4_agrees_57 rfl (lv_at hl 6 rfl) ?_
      refine lv_if_lt (tgt := 111) hx hb d_X4_agrees_58 (by decide) (fun c_58 => ?_) (fun c_58 => ?_)
      · -- taken at 58
        refine lv_iconst (v := 1) hx hb d_X4_agrees_111 (by decide) ?_
        refine lv_goto (tgt := 116) hx hb d_X4_agrees_112 (by decide) ?_
        refine W.widen (k := 0) (n := 0) (Nat.le_of_ble_eq_true rfl) (Nat.le_of_ble_eq_true rfl) ?_
        exact k_zret (X := Unit) (w1 := fun _ => wB cy r σ) () hx hb hr (k_nz (Or.inr rfl)) d_X4_agrees_116 hlocks hP hK hD hS ⟨(Or.inr rfl), trivial⟩
      · -- not taken at 58
        refine lv_iload hx hb d_X4_agrees_61 (lv_at hl 1 rfl) ?_
        refine lv_aload_n hx hb d_X4_agrees_63 rfl (lv_at hl 4 rfl) ?_
        refine va_get (D := D) (ci := 4) (v := .ref (r 5)) (C := "LinkedUnits$Image") (T := TX4) (N := 12) hx hb hg iwX4 hown hK hP 9 rfl rfl 0 (by decide) (hg _ m_597) (fun _ h9 => h9) rfl d_X4_agrees_64 ?_
        refine lv_iload_n hx hb d_X4_agrees_67 rfl (lv_at hl 6 rfl) ?_
        refine lv_iconst (v := 1) hx hb d_X4_agrees_68 (by decide) ?_
        refine s_calli (X := Unit) (w1 := fun _ => wB cy r σ) (va_runVN (As := [.int x2, .int 1]) (rest := [.int r3]) ⟨hx, hb, hml, hown, hg⟩ (s_X8_is l D cy H.size r σ x2 (1 : Int32) inv ) ⟨(va_cnB 2 hg (gw_c m_1124) rfl rfl rfl (hNW.1 _ nm_1567) (hg _ m_5) (by decide +kernel) ⟨(Nat.le_of_ble_eq_true rfl), (Nat.le_of_ble_eq_true rfl)⟩), (hg _ m_1123), hg _ ms_X8_is⟩ (s_preV (As := [.int x2, .int 1]) hP hD hK hNW 4 rfl rfl) rfl rfl hl.1 rfl (lv_room (Nat.le_of_ble_eq_true rfl)) d_X4_agrees_69 ⟨(Nat.le_of_ble_eq_true rfl), (Nat.le_of_ble_eq_true rfl)⟩) hP hD hS hA (fun r4 u4 H locs hw hP hD hS => ?_)
        have hP : va_P D vwCl (wB cy r σ) H := hP
        have hD : va_D A (wB cy r σ) := hD
        have hz4 : r4 = 0 ∨ r4 = 1 := hw.1
        refine lv_icmp_ne (tgt := 115) hx hb d_X4_agrees_72 (by decide) (fun c_72 => ?_) (fun c_72 => ?_)
        · -- taken at 72
          refine lv_iconst (v := 0) hx hb d_X4_agrees_115 (by decide) ?_
          refine W.widen (k := 0) (n := 0) (Nat.le_of_ble_eq_true rfl) (Nat.le_of_ble_eq_true rfl) ?_
          exact k_zret (X := Unit) (w1 := fun _ => wB cy r σ) () hx hb hr (k_nz (Or.inl rfl)) d_X4_agrees_116 hlocks hP hK hD hS ⟨(Or.inl rfl), trivial⟩
        · -- not taken at 72
          refine lv_aload_n hx hb d_X4_agrees_75 rfl (lv_at hl 4 rfl) ?_
          refine va_get (D := D) (ci := 4) (v := .ref (r 5)) (C := "LinkedUnits$Image") (T := TX4) (N := 12) hx hb hg iwX4 hown hK hP 9 rfl rfl 0 (by decide) (hg _ m_597) (fun _ h9 => h9) rfl d_X4_agrees_76 ?_
          refine va_getN (D := D) (ci := 8) (v := .ref (r 26)) (C := "LinkedUnits$Store") (T := TX8) (N := 18) hx hb hg iwX8 hown hK hP 4 rfl rfl 3 (by decide) (va_Nw.use rfl (hNW.1 _ nm_226)) (fun _ h9 => h9) rfl rfl d_X4_agrees_79 ?_
          refine lv_iload_n hx hb d_X4_agrees_82 rfl (lv_at hl 5 rfl) ?_
          refine s_call1 (x := ((r 26), .inl (cy 1, 10100, .inl (σ 26)))) 25 rfl (va_runSN (As := [.ref (r 26), .int x1]) (rest := []) ⟨hx, hb, hml, hown, hg⟩ (c_at_any l D cy H.size (r 26) 10100 (σ 26) x1 (Nat.le_of_ble_eq_true rfl)) ⟨(va_cnB 2 hg (gw_c m_949) rfl rfl rfl (hNW.1 _ nm_1552) (hg _ m_1) (by decide +kernel) ⟨(Nat.le_of_ble_eq_true rfl), (Nat.le_of_ble_eq_true rfl)⟩), hg _ m_948, trivial⟩ (s_pre (ws := [((r 26), .inl (cy 1, 10100, .inl (σ 26)))]) (s_sub1 25 hP rfl) (s_subD 25 hD rfl) hK hNW) rfl rfl hl.1 rfl (lv_room (Nat.le_of_ble_eq_true rfl)) d_X4_agrees_83 ⟨(Nat.le_of_ble_eq_true rfl), (Nat.le_of_ble_eq_true rfl)⟩) hP hD hS hA (fun r5 u5 H locs hw hP hD hS => ?_)
          have hP : va_P D vwCl (wB cy r σ) H := hP
          have hD : va_D A (wB cy r σ) := hD
          refine lv_aload_n hx hb d_X4_agrees_86 rfl (lv_at hl 4 rfl) ?_
          refine va_get (D := D) (ci := 4) (v := .ref (r 5)) (C := "LinkedUnits$Image") (T := TX4) (N := 12) hx hb hg iwX4 hown hK hP 9 rfl rfl 0 (by decide) (hg _ m_597) (fun _ h9 => h9) rfl d_X4_agrees_87 ?_
          refine va_getN (D := D) (ci := 8) (v := .ref (r 26)) (C := "LinkedUnits$Store") (T := TX8) (N := 18) hx hb hg iwX8 hown hK hP 4 rfl rfl 3 (by decide) (va_Nw.use rfl (hNW.1 _ nm_226)) (fun _ h9 => h9) rfl rfl d_X4_agrees_90 ?_
          refine lv_iload_n hx hb d_X4_agrees_93 rfl (lv_at hl 6 rfl) ?_
          refine s_call1 (x := ((r 26), .inl (cy 1, 10100, .inl (σ 26)))) 25 rfl (va_runSN (As := [.ref (r 26), .int x2]) (rest := [.int r5]) ⟨hx, hb, hml, hown, hg⟩ (c_at_any l D cy H.size (r 26) 10100 (σ 26) x2 (Nat.le_of_ble_eq_true rfl)) ⟨(va_cnB 2 hg (gw_c m_949) rfl rfl rfl (hNW.1 _ nm_1552) (hg _ m_1) (by decide +kernel) ⟨(Nat.le_of_ble_eq_true rfl), (Nat.le_of_ble_eq_true rfl)⟩), hg _ m_948, trivial⟩ (s_pre (ws := [((r 26), .inl (cy 1, 10100, .inl (σ 26)))]) (s_sub1 25 hP rfl) (s_subD 25 hD rfl) hK hNW) rfl rfl hl.1 rfl (lv_room (Nat.le_of_ble_eq_true rfl)) d_X4_agrees_94 ⟨(Nat.le_of_ble_eq_true rfl), (Nat.le_of_ble_eq_true rfl)⟩) hP hD hS hA (fun r6 u6 H locs hw hP hD hS => ?_)
          have hP : va_P D vwCl (wB cy r σ) H := hP
          have hD : va_D A (wB cy r σ) := hD
          refine lv_icmp_ne (tgt := 115) hx hb d_X4_agrees_97 (by decide) (fun c_97 => ?_) (fun c_97 => ?_)
          · -- taken at 97
            refine lv_iconst (v := 0) hx hb d_X4_agrees_115 (by decide) ?_
            refine W.widen (k := 0) (n := 0) (Nat.le_of_ble_eq_true rfl) (Nat.le_of_ble_eq_true rfl) ?_
            exact k_zret (X := Unit) (w1 := fun _ => wB cy r σ) () hx hb hr (k_nz (Or.inl rfl)) d_X4_agrees_116 hlocks hP hK hD hS ⟨(Or.inl rfl), trivial⟩
          · -- not taken at 97
            refine lv_iload_n hx hb d_X4_agrees_100 rfl (lv_at hl 3 rfl) ?_
            refine lv_iload hx hb d_X4_agrees_101 (lv_at hl 2 rfl) ?_
            refine lv_icmp_eq (tgt := 111) hx hb d_X4_agrees_103 (by decide) (fun c_103 => ?_) (fun c_103 => ?_)
            · -- taken at 103
              refine lv_iconst (v := 1) hx hb d_X4_agrees_111 (by decide) ?_
              refine lv_goto (tgt := 116) hx hb d_X4_agrees_112 (by decide) ?_
              refine W.widen (k := 0) (n := 0) (Nat.le_of_ble_eq_true rfl) (Nat.le_of_ble_eq_true rfl) ?_
              exact k_zret (X := Unit) (w1 := fun _ => wB cy r σ) () hx hb hr (k_nz (Or.inr rfl)) d_X4_agrees_116 hlocks hP hK hD hS ⟨(Or.inr rfl), trivial⟩
            · -- not taken at 103
              refine lv_iload hx hb d_X4_agrees_106 (lv_at hl 0 rfl) ?_
              refine lv_if_eq (tgt := 115) hx hb d_X4_agrees_108 (by decide) (fun _ => ?_) (fun c_108 => False.elim (by revert c_108; decide))
              refine lv_iconst (v := 0) hx hb d_X4_agrees_115 (by decide) ?_
              refine W.widen (k := 0) (n := 0) (Nat.le_of_ble_eq_true rfl) (Nat.le_of_ble_eq_true rfl) ?_
              exact k_zret (X := Unit) (w1 := fun _ => wB cy r σ) () hx hb hr (k_nz (Or.inl rfl)) d_X4_agrees_116 hlocks hP hK hD hS ⟨(Or.inl rfl), trivial⟩
    · -- not taken at 38
      refine lv_iload_n hx hb d_X4_agrees_41 rfl (lv_at hl 2 rfl) ?_
      refine lv_if_ne (tgt := 54) hx hb d_X4_agrees_42 (by decide) (fun c_42 => ?_) (fun c_42 => ?_)
      · -- taken at 42
        refine lv_iconst (v := 0) hx hb d_X4_agrees_54 (by decide) ?_
        refine lv_istore (lv' := [(6, .int 0), (5, .int r3), (4, .int r2), (3, .int r1), (0, .ref (r 10)), (1, .int x1), (2, .int x2)]) hx hb d_X4_agrees_55 hl (by decide) rfl (fun ls hl => ?_)
        refine lv_iload_n hx hb d_X4_agrees_57 rfl (lv_at hl 6 rfl) ?_
        refine lv_if_lt (tgt := 111) hx hb d_X4_agrees_58 (by decide) (fun c_58 => ?_) (fun c_58 => ?_)
        · -- taken at 58
          refine lv_iconst (v := 1) hx hb d_X4_agrees_111 (by decide) ?_
          refine lv_goto (tgt := 116) hx hb d_X4_agrees_112 (by decide) ?_
          refine W.widen (k := 0) (n := 0) (Nat.le_of_ble_eq_true rfl) (Nat.le_of_ble_eq_true rfl) ?_
          exact k_zret (X := Unit) (w1 := fun _ => wB cy r σ) () hx hb hr (k_nz (Or.inr rfl)) d_X4_agrees_116 hlocks hP hK hD hS ⟨(Or.inr rfl), trivial⟩
        · -- not taken at 58
          refine lv_iload hx hb d_X4_agrees_61 (lv_at hl 1 rfl) ?_
          refine lv_aload_n hx hb d_X4_agrees_63 rfl (lv_at hl 4 rfl) ?_
          refine va_get (D := D) (ci := 4) (v := .ref (r 5)) (C := "LinkedUnits$Image") (T := TX4) (N := 12) hx hb hg iwX4 hown hK hP 9 rfl rfl 0 (by decide) (hg _ m_597) (fun _ h9 => h9) rfl d_X4_agrees_64 ?_
          refine lv_iload_n hx hb d_X4_agrees_67 rfl (lv_at hl 6 rfl) ?_
          refine lv_iconst (v := 1) hx hb d_X4_agrees_68 (by decide) ?_
          refine s_calli (X := Unit) (w1 := fun _ => wB cy r σ) (va_runVN (As := [.int x2, .int 1]) (rest := [.int r3]) ⟨hx, hb, hml, hown, hg⟩ (s_X8_is l D cy H.size r σ x2 (1 : Int32) inv ) ⟨(va_cnB 2 hg (gw_c m_1124) rfl rfl rfl (hNW.1 _ nm_1567) (hg _ m_5) (by decide +kernel) ⟨(Nat.le_of_ble_eq_true rfl), (Nat.le_of_ble_eq_true rfl)⟩), (hg _ m_1123), hg _ ms_X8_is⟩ (s_preV (As := [.int x2, .int 1]) hP hD hK hNW 4 rfl rfl) rfl rfl hl.1 rfl (lv_room (Nat.le_of_ble_eq_true rfl)) d_X4_agrees_69 ⟨(Nat.le_of_ble_eq_true rfl), (Nat.le_of_ble_eq_true rfl)⟩) hP hD hS hA (fun r7 u7 H locs hw hP hD hS => ?_)
          have hP : va_P D vwCl (wB cy r σ) H := hP
          have hD : va_D A (wB cy r σ) := hD
          have hz7 : r7 = 0 ∨ r7 = 1 := hw.1
          refine lv_icmp_ne (tgt := 115) hx hb d_X4_agrees_72 (by decide) (fun c_72 => ?_) (fun c_72 => ?_)
          · -- taken at 72
            refine lv_iconst (v := 0) hx hb d_X4_agrees_115 (by decide) ?_
            refine W.widen (k := 0) (n := 0) (Nat.le_of_ble_eq_true rfl) (Nat.le_of_ble_eq_true rfl) ?_
            exact k_zret (X := Unit) (w1 := fun _ => wB cy r σ) () hx hb hr (k_nz (Or.inl rfl)) d_X4_agrees_116 hlocks hP hK hD hS ⟨(Or.inl rfl), trivial⟩
          · -- not taken at 72
            refine lv_aload_n hx hb d_X4_agrees_75 rfl (lv_at hl 4 rfl) ?_
            refine va_get (D := D) (ci := 4) (v := .ref (r 5)) (C := "LinkedUnits$Image") (T := TX4) (N := 12) hx hb hg iwX4 hown hK hP 9 rfl rfl 0 (by decide) (hg _ m_597) (fun _ h9 => h9) rfl d_X4_agrees_76 ?_
            refine va_getN (D := D) (ci := 8) (v := .ref (r 26)) (C := "LinkedUnits$Store") (T := TX8) (N := 18) hx hb hg iwX8 hown hK hP 4 rfl rfl 3 (by decide) (va_Nw.use rfl (hNW.1 _ nm_226)) (fun _ h9 => h9) rfl rfl d_X4_agrees_79 ?_
            refine lv_iload_n hx hb d_X4_agrees_82 rfl (lv_at hl 5 rfl) ?_
            refine s_call1 (x := ((r 26), .inl (cy 1, 10100, .inl (σ 26)))) 25 rfl (va_runSN (As := [.ref (r 26), .int x1]) (rest := []) ⟨hx, hb, hml, hown, hg⟩ (c_at_any l D cy H.size (r 26) 10100 (σ 26) x1 (Nat.le_of_ble_eq_true rfl)) ⟨(va_cnB 2 hg (gw_c m_949) rfl rfl rfl (hNW.1 _ nm_1552) (hg _ m_1) (by decide +kernel) ⟨(Nat.le_of_ble_eq_true rfl), (Nat.le_of_ble_eq_true rfl)⟩), hg _ m_948, trivial⟩ (s_pre (ws := [((r 26), .inl (cy 1, 10100, .inl (σ 26)))]) (s_sub1 25 hP rfl) (s_subD 25 hD rfl) hK hNW) rfl rfl hl.1 rfl (lv_room (Nat.le_of_ble_eq_true rfl)) d_X4_agrees_83 ⟨(Nat.le_of_ble_eq_true rfl), (Nat.le_of_ble_eq_true rfl)⟩) hP hD hS hA (fun r8 u8 H locs hw hP hD hS => ?_)
            have hP : va_P D vwCl (wB cy r σ) H := hP
            have hD : va_D A (wB cy r σ) := hD
            refine lv_aload_n hx hb d_X4_agrees_86 rfl (lv_at hl 4 rfl) ?_
            refine va_get (D := D) (ci := 4) (v := .ref (r 5)) (C := "LinkedUnits$Image") (T := TX4) (N := 12) hx hb hg iwX4 hown hK hP 9 rfl rfl 0 (by decide) (hg _ m_597) (fun _ h9 => h9) rfl d_X4_agrees_87 ?_
            refine va_getN (D := D) (ci := 8) (v := .ref (r 26)) (C := "LinkedUnits$Store") (T := TX8) (N := 18) hx hb hg iwX8 hown hK hP 4 rfl rfl 3 (by decide) (va_Nw.use rfl (hNW.1 _ nm_226)) (fun _ h9 => h9) rfl rfl d_X4_agrees_90 ?_
            refine lv_iload_n hx hb d_X4_agrees_93 rfl (lv_at hl 6 rfl) ?_
            refine s_call1 (x := ((r 26), .inl (cy 1, 10100, .inl (σ 26)))) 25 rfl (va_runSN (As := [.ref (r 26), .int x2]) (rest := [.int r8]) ⟨hx, hb, hml, hown, hg⟩ (c_at_any l D cy H.size (r 26) 10100 (σ 26) x2 (Nat.le_of_ble_eq_true rfl)) ⟨(va_cnB 2 hg (gw_c m_949) rfl rfl rfl (hNW.1 _ nm_1552) (hg _ m_1) (by decide +kernel) ⟨(Nat.le_of_ble_eq_true rfl), (Nat.le_of_ble_eq_true rfl)⟩), hg _ m_948, trivial⟩ (s_pre (ws := [((r 26), .inl (cy 1, 10100, .inl (σ 26)))]) (s_sub1 25 hP rfl) (s_subD 25 hD rfl) hK hNW) rfl rfl hl.1 rfl (lv_room (Nat.le_of_ble_eq_true rfl)) d_X4_agrees_94 ⟨(Nat.le_of_ble_eq_true rfl), (Nat.le_of_ble_eq_true rfl)⟩) hP hD hS hA (fun r9 u9 H locs hw hP hD hS => ?_)
            have hP : va_P D vwCl (wB cy r σ) H := hP
            have hD : va_D A (wB cy r σ) := hD
            refine lv_icmp_ne (tgt := 115) hx hb d_X4_agrees_97 (by decide) (fun c_97 => ?_) (fun c_97 => ?_)
            · -- taken at 97
              refine lv_iconst (v := 0) hx hb d_X4_agrees_115 (by decide) ?_
              refine W.widen (k := 0) (n := 0) (Nat.le_of_ble_eq_true rfl) (Nat.le_of_ble_eq_true rfl) ?_
              exact k_zret (X := Unit) (w1 := fun _ => wB cy r σ) () hx hb hr (k_nz (Or.inl rfl)) d_X4_agrees_116 hlocks hP hK hD hS ⟨(Or.inl rfl), trivial⟩
            · -- not taken at 97
              refine lv_iload_n hx hb d_X4_agrees_100 rfl (lv_at hl 3 rfl) ?_
              refine lv_iload hx hb d_X4_agrees_101 (lv_at hl 2 rfl) ?_
              refine lv_icmp_eq (tgt := 111) hx hb d_X4_agrees_103 (by decide) (fun c_103 => ?_) (fun c_103 => ?_)
              · -- taken at 103
                refine lv_iconst (v := 1) hx hb d_X4_agrees_111 (by decide) ?_
                refine lv_goto (tgt := 116) hx hb d_X4_agrees_112 (by decide) ?_
                refine W.widen (k := 0) (n := 0) (Nat.le_of_ble_eq_true rfl) (Nat.le_of_ble_eq_true rfl) ?_
                exact k_zret (X := Unit) (w1 := fun _ => wB cy r σ) () hx hb hr (k_nz (Or.inr rfl)) d_X4_agrees_116 hlocks hP hK hD hS ⟨(Or.inr rfl), trivial⟩
              · -- not taken at 103
                refine lv_iload hx hb d_X4_agrees_106 (lv_at hl 0 rfl) ?_
                refine lv_if_eq (tgt := 115) hx hb d_X4_agrees_108 (by decide) (fun _ => ?_) (fun c_108 => False.elim (by revert c_108; decide))
                refine lv_iconst (v := 0) hx hb d_X4_agrees_115 (by decide) ?_
                refine W.widen (k := 0) (n := 0) (Nat.le_of_ble_eq_true rfl) (Nat.le_of_ble_eq_true rfl) ?_
                exact k_zret (X := Unit) (w1 := fun _ => wB cy r σ) () hx hb hr (k_nz (Or.inl rfl)) d_X4_agrees_116 hlocks hP hK hD hS ⟨(Or.inl rfl), trivial⟩
      · -- not taken at 42
        refine lv_iload hx hb d_X4_agrees_45 (lv_at hl 1 rfl) ?_
        refine lv_if_le (tgt := 54) hx hb d_X4_agrees_47 (by decide) (fun c_47 => ?_) (fun c_47 => ?_)
        · -- taken at 47
          refine lv_iconst (v := 0) hx hb d_X4_agrees_54 (by decide) ?_
          refine lv_istore (lv' := [(6, .int 0), (5, .int r3), (4, .int r2), (3, .int r1), (0, .ref (r 10)), (1, .int x1), (2, .int x2)]) hx hb d_X4_agrees_55 hl (by decide) rfl (fun ls hl => ?_)
          refine lv_iload_n hx hb d_X4_agrees_57 rfl (lv_at hl 6 rfl) ?_
          refine lv_if_lt (tgt := 111) hx hb d_X4_agrees_58 (by decide) (fun c_58 => ?_) (fun c_58 => ?_)
          · -- taken at 58
            refine lv_iconst (v := 1) hx hb d_X4_agrees_111 (by decide) ?_
            refine lv_goto (tgt := 116) hx hb d_X4_agrees_112 (by decide) ?_
            refine W.widen (k := 0) (n := 0) (Nat.le_of_ble_eq_true rfl) (Nat.le_of_ble_eq_true rfl) ?_
            exact k_zret (X := Unit) (w1 := fun _ => wB cy r σ) () hx hb hr (k_nz (Or.inr rfl)) d_X4_agrees_116 hlocks hP hK hD hS ⟨(Or.inr rfl), trivial⟩
          · -- not taken at 58
            refine lv_iload hx hb d_X4_agrees_61 (lv_at hl 1 rfl) ?_
            refine lv_aload_n hx hb d_X4_agrees_63 rfl (lv_at hl 4 rfl) ?_
            refine va_get (D := D) (ci := 4) (v := .ref (r 5)) (C := "LinkedUnits$Image") (T := TX4) (N := 12) hx hb hg iwX4 hown hK hP 9 rfl rfl 0 (by decide) (hg _ m_597) (fun _ h9 => h9) rfl d_X4_agrees_64 ?_
            refine lv_iload_n hx hb d_X4_agrees_67 rfl (lv_at hl 6 rfl) ?_
            refine lv_iconst (v := 1) hx hb d_X4_agrees_68 (by decide) ?_
            refine s_calli (X := Unit) (w1 := fun _ => wB cy r σ) (va_runVN (As := [.int x2, .int 1]) (rest := [.int r3]) ⟨hx, hb, hml, hown, hg⟩ (s_X8_is l D cy H.size r σ x2 (1 : Int32) inv ) ⟨(va_cnB 2 hg (gw_c m_1124) rfl rfl rfl (hNW.1 _ nm_1567) (hg _ m_5) (by decide +kernel) ⟨(Nat.le_of_ble_eq_true rfl), (Nat.le_of_ble_eq_true rfl)⟩), (hg _ m_1123), hg _ ms_X8_is⟩ (s_preV (As := [.int x2, .int 1]) hP hD hK hNW 4 rfl rfl) rfl rfl hl.1 rfl (lv_room (Nat.le_of_ble_eq_true rfl)) d_X4_agrees_69 ⟨(Nat.le_of_ble_eq_true rfl), (Nat.le_of_ble_eq_true rfl)⟩) hP hD hS hA (fun r10 u10 H locs hw hP hD hS => ?_)
            have hP : va_P D vwCl (wB cy r σ) H := hP
            have hD : va_D A (wB cy r σ) := hD
            have hz10 : r10 = 0 ∨ r10 = 1 := hw.1
            refine lv_icmp_ne (tgt := 115) hx hb d_X4_agrees_72 (by decide) (fun c_72 => ?_) (fun c_72 => ?_)
            · -- taken at 72
              refine lv_iconst (v := 0) hx hb d_X4_agrees_115 (by decide) ?_
              refine W.widen (k := 0) (n := 0) (Nat.le_of_ble_eq_true rfl) (Nat.le_of_ble_eq_true rfl) ?_
              exact k_zret (X := Unit) (w1 := fun _ => wB cy r σ) () hx hb hr (k_nz (Or.inl rfl)) d_X4_agrees_116 hlocks hP hK hD hS ⟨(Or.inl rfl), trivial⟩
            · -- not taken at 72
              refine lv_aload_n hx hb d_X4_agrees_75 rfl (lv_at hl 4 rfl) ?_
              refine va_get (D := D) (ci := 4) (v := .ref (r 5)) (C := "LinkedUnits$Image") (T := TX4) (N := 12) hx hb hg iwX4 hown hK hP 9 rfl rfl 0 (by decide) (hg _ m_597) (fun _ h9 => h9) rfl d_X4_agrees_76 ?_
              refine va_getN (D := D) (ci := 8) (v := .ref (r 26)) (C := "LinkedUnits$Store") (T := TX8) (N := 18) hx hb hg iwX8 hown hK hP 4 rfl rfl 3 (by decide) (va_Nw.use rfl (hNW.1 _ nm_226)) (fun _ h9 => h9) rfl rfl d_X4_agrees_79 ?_
              refine lv_iload_n hx hb d_X4_agrees_82 rfl (lv_at hl 5 rfl) ?_
              refine s_call1 (x := ((r 26), .inl (cy 1, 10100, .inl (σ 26)))) 25 rfl (va_runSN (As := [.ref (r 26), .int x1]) (rest := []) ⟨hx, hb, hml, hown, hg⟩ (c_at_any l D cy H.size (r 26) 10100 (σ 26) x1 (Nat.le_of_ble_eq_true rfl)) ⟨(va_cnB 2 hg (gw_c m_949) rfl rfl rfl (hNW.1 _ nm_1552) (hg _ m_1) (by decide +kernel) ⟨(Nat.le_of_ble_eq_true rfl), (Nat.le_of_ble_eq_true rfl)⟩), hg _ m_948, trivial⟩ (s_pre (ws := [((r 26), .inl (cy 1, 10100, .inl (σ 26)))]) (s_sub1 25 hP rfl) (s_subD 25 hD rfl) hK hNW) rfl rfl hl.1 rfl (lv_room (Nat.le_of_ble_eq_true rfl)) d_X4_agrees_83 ⟨(Nat.le_of_ble_eq_true rfl), (Nat.le_of_ble_eq_true rfl)⟩) hP hD hS hA (fun r11 u11 H locs hw hP hD hS => ?_)
              have hP : va_P D vwCl (wB cy r σ) H := hP
              have hD : va_D A (wB cy r σ) := hD
              refine lv_aload_n hx hb d_X4_agrees_86 rfl (lv_at hl 4 rfl) ?_
              refine va_get (D := D) (ci := 4) (v := .ref (r 5)) (C := "LinkedUnits$Image") (T := TX4) (N := 12) hx hb hg iwX4 hown hK hP 9 rfl rfl 0 (by decide) (hg _ m_597) (fun _ h9 => h9) rfl d_X4_agrees_87 ?_
              refine va_getN (D := D) (ci := 8) (v := .ref (r 26)) (C := "LinkedUnits$Store") (T := TX8) (N := 18) hx hb hg iwX8 hown hK hP 4 rfl rfl 3 (by decide) (va_Nw.use rfl (hNW.1 _ nm_226)) (fun _ h9 => h9) rfl rfl d_X4_agrees_90 ?_
              refine lv_iload_n hx hb d_X4_agrees_93 rfl (lv_at hl 6 rfl) ?_
              refine s_call1 (x := ((r 26), .inl (cy 1, 10100, .inl (σ 26)))) 25 rfl (va_runSN (As := [.ref (r 26), .int x2]) (rest := [.int r11]) ⟨hx, hb, hml, hown, hg⟩ (c_at_any l D cy H.size (r 26) 10100 (σ 26) x2 (Nat.le_of_ble_eq_true rfl)) ⟨(va_cnB 2 hg (gw_c m_949) rfl rfl rfl (hNW.1 _ nm_1552) (hg _ m_1) (by decide +kernel) ⟨(Nat.le_of_ble_eq_true rfl), (Nat.le_of_ble_eq_true rfl)⟩), hg _ m_948, trivial⟩ (s_pre (ws := [((r 26), .inl (cy 1, 10100, .inl (σ 26)))]) (s_sub1 25 hP rfl) (s_subD 25 hD rfl) hK hNW) rfl rfl hl.1 rfl (lv_room (Nat.le_of_ble_eq_true rfl)) d_X4_agrees_94 ⟨(Nat.le_of_ble_eq_true rfl), (Nat.le_of_ble_eq_true rfl)⟩) hP hD hS hA (fun r12 u12 H locs hw hP hD hS => ?_)
              have hP : va_P D vwCl (wB cy r σ) H := hP
              have hD : va_D A (wB cy r σ) := hD
              refine lv_icmp_ne (tgt := 115) hx hb d_X4_agrees_97 (by decide) (fun c_97 => ?_) (fun c_97 => ?_)
              · -- taken at 97
                refine lv_iconst (v := 0) hx hb d_X4_agrees_115 (by decide) ?_
                refine W.widen (k := 0) (n := 0) (Nat.le_of_ble_eq_true rfl) (Nat.le_of_ble_eq_true rfl) ?_
                exact k_zret (X := Unit) (w1 := fun _ => wB cy r σ) () hx hb hr (k_nz (Or.inl rfl)) d_X4_agrees_116 hlocks hP hK hD hS ⟨(Or.inl rfl), trivial⟩
              · -- not taken at 97
                refine lv_iload_n hx hb d_X4_agrees_100 rfl (lv_at hl 3 rfl) ?_
                refine lv_iload hx hb d_X4_agrees_101 (lv_at hl 2 rfl) ?_
                refine lv_icmp_eq (tgt := 111) hx hb d_X4_agrees_103 (by decide) (fun c_103 => ?_) (fun c_103 => ?_)
                · -- taken at 103
                  refine lv_iconst (v := 1) hx hb d_X4_agrees_111 (by decide) ?_
                  refine lv_goto (tgt := 116) hx hb d_X4_agrees_112 (by decide) ?_
                  refine W.widen (k := 0) (n := 0) (Nat.le_of_ble_eq_true rfl) (Nat.le_of_ble_eq_true rfl) ?_
                  exact k_zret (X := Unit) (w1 := fun _ => wB cy r σ) () hx hb hr (k_nz (Or.inr rfl)) d_X4_agrees_116 hlocks hP hK hD hS ⟨(Or.inr rfl), trivial⟩
                · -- not taken at 103
                  refine lv_iload hx hb d_X4_agrees_106 (lv_at hl 0 rfl) ?_
                  refine lv_if_eq (tgt := 115) hx hb d_X4_agrees_108 (by decide) (fun _ => ?_) (fun c_108 => False.elim (by revert c_108; decide))
                  refine lv_iconst (v := 0) hx hb d_X4_agrees_115 (by decide) ?_
                  refine W.widen (k := 0) (n := 0) (Nat.le_of_ble_eq_true rfl) (Nat.le_of_ble_eq_true rfl) ?_
                  exact k_zret (X := Unit) (w1 := fun _ => wB cy r σ) () hx hb hr (k_nz (Or.inl rfl)) d_X4_agrees_116 hlocks hP hK hD hS ⟨(Or.inl rfl), trivial⟩
        · -- not taken at 47
          refine lv_iconst (v := 1) hx hb d_X4_agrees_50 (by decide) ?_
          refine lv_goto (tgt := 55) hx hb d_X4_agrees_51 (by decide) ?_
          refine lv_istore (lv' := [(6, .int 1), (5, .int r3), (4, .int r2), (3, .int r1), (0, .ref (r 10)), (1, .int x1), (2, .int x2)]) hx hb d_X4_agrees_55 hl (by decide) rfl (fun ls hl => ?_)
          refine lv_iload_n hx hb d_X4_agrees_57 rfl (lv_at hl 6 rfl) ?_
          refine lv_if_lt (tgt := 111) hx hb d_X4_agrees_58 (by decide) (fun c_58 => ?_) (fun c_58 => ?_)
          · -- taken at 58
            refine lv_iconst (v := 1) hx hb d_X4_agrees_111 (by decide) ?_
            refine lv_goto (tgt := 116) hx hb d_X4_agrees_112 (by decide) ?_
            refine W.widen (k := 0) (n := 0) (Nat.le_of_ble_eq_true rfl) (Nat.le_of_ble_eq_true rfl) ?_
            exact k_zret (X := Unit) (w1 := fun _ => wB cy r σ) () hx hb hr (k_nz (Or.inr rfl)) d_X4_agrees_116 hlocks hP hK hD hS ⟨(Or.inr rfl), trivial⟩
          · -- not taken at 58
            refine lv_iload hx hb d_X4_agrees_61 (lv_at hl 1 rfl) ?_
            refine lv_aload_n hx hb d_X4_agrees_63 rfl (lv_at hl 4 rfl) ?_
            refine va_get (D := D) (ci := 4) (v := .ref (r 5)) (C := "LinkedUnits$Image") (T := TX4) (N := 12) hx hb hg iwX4 hown hK hP 9 rfl rfl 0 (by decide) (hg _ m_597) (fun _ h9 => h9) rfl d_X4_agrees_64 ?_
            refine lv_iload_n hx hb d_X4_agrees_67 rfl (lv_at hl 6 rfl) ?_
            refine lv_iconst (v := 1) hx hb d_X4_agrees_68 (by decide) ?_
            refine s_calli (X := Unit) (w1 := fun _ => wB cy r σ) (va_runVN (As := [.int x2, .int 1]) (rest := [.int r3]) ⟨hx, hb, hml, hown, hg⟩ (s_X8_is l D cy H.size r σ x2 (1 : Int32) inv ) ⟨(va_cnB 2 hg (gw_c m_1124) rfl rfl rfl (hNW.1 _ nm_1567) (hg _ m_5) (by decide +kernel) ⟨(Nat.le_of_ble_eq_true rfl), (Nat.le_of_ble_eq_true rfl)⟩), (hg _ m_1123), hg _ ms_X8_is⟩ (s_preV (As := [.int x2, .int 1]) hP hD hK hNW 4 rfl rfl) rfl rfl hl.1 rfl (lv_room (Nat.le_of_ble_eq_true rfl)) d_X4_agrees_69 ⟨(Nat.le_of_ble_eq_true rfl), (Nat.le_of_ble_eq_true rfl)⟩) hP hD hS hA (fun r13 u13 H locs hw hP hD hS => ?_)
            have hP : va_P D vwCl (wB cy r σ) H := hP
            have hD : va_D A (wB cy r σ) := hD
            have hz13 : r13 = 0 ∨ r13 = 1 := hw.1
            refine lv_icmp_ne (tgt := 115) hx hb d_X4_agrees_72 (by decide) (fun c_72 => ?_) (fun c_72 => ?_)
            · -- taken at 72
              refine lv_iconst (v := 0) hx hb d_X4_agrees_115 (by decide) ?_
              refine W.widen (k := 0) (n := 0) (Nat.le_of_ble_eq_true rfl) (Nat.le_of_ble_eq_true rfl) ?_
              exact k_zret (X := Unit) (w1 := fun _ => wB cy r σ) () hx hb hr (k_nz (Or.inl rfl)) d_X4_agrees_116 hlocks hP hK hD hS ⟨(Or.inl rfl), trivial⟩
            · -- not taken at 72
              refine lv_aload_n hx hb d_X4_agrees_75 rfl (lv_at hl 4 rfl) ?_
              refine va_get (D := D) (ci := 4) (v := .ref (r 5)) (C := "LinkedUnits$Image") (T := TX4) (N := 12) hx hb hg iwX4 hown hK hP 9 rfl rfl 0 (by decide) (hg _ m_597) (fun _ h9 => h9) rfl d_X4_agrees_76 ?_
              refine va_getN (D := D) (ci := 8) (v := .ref (r 26)) (C := "LinkedUnits$Store") (T := TX8) (N := 18) hx hb hg iwX8 hown hK hP 4 rfl rfl 3 (by decide) (va_Nw.use rfl (hNW.1 _ nm_226)) (fun _ h9 => h9) rfl rfl d_X4_agrees_79 ?_
              refine lv_iload_n hx hb d_X4_agrees_82 rfl (lv_at hl 5 rfl) ?_
              refine s_call1 (x := ((r 26), .inl (cy 1, 10100, .inl (σ 26)))) 25 rfl (va_runSN (As := [.ref (r 26), .int x1]) (rest := []) ⟨hx, hb, hml, hown, hg⟩ (c_at_any l D cy H.size (r 26) 10100 (σ 26) x1 (Nat.le_of_ble_eq_true rfl)) ⟨(va_cnB 2 hg (gw_c m_949) rfl rfl rfl (hNW.1 _ nm_1552) (hg _ m_1) (by decide +kernel) ⟨(Nat.le_of_ble_eq_true rfl), (Nat.le_of_ble_eq_true rfl)⟩), hg _ m_948, trivial⟩ (s_pre (ws := [((r 26), .inl (cy 1, 10100, .inl (σ 26)))]) (s_sub1 25 hP rfl) (s_subD 25 hD rfl) hK hNW) rfl rfl hl.1 rfl (lv_room (Nat.le_of_ble_eq_true rfl)) d_X4_agrees_83 ⟨(Nat.le_of_ble_eq_true rfl), (Nat.le_of_ble_eq_true rfl)⟩) hP hD hS hA (fun r14 u14 H locs hw hP hD hS => ?_)
              have hP : va_P D vwCl (wB cy r σ) H := hP
              have hD : va_D A (wB cy r σ) := hD
              refine lv_aload_n hx hb d_X4_agrees_86 rfl (lv_at hl 4 rfl) ?_
              refine va_get (D := D) (ci := 4) (v := .ref (r 5)) (C := "LinkedUnits$Image") (T := TX4) (N := 12) hx hb hg iwX4 hown hK hP 9 rfl rfl 0 (by decide) (hg _ m_597) (fun _ h9 => h9) rfl d_X4_agrees_87 ?_
              refine va_getN (D := D) (ci := 8) (v := .ref (r 26)) (C := "LinkedUnits$Store") (T := TX8) (N := 18) hx hb hg iwX8 hown hK hP 4 rfl rfl 3 (by decide) (va_Nw.use rfl (hNW.1 _ nm_226)) (fun _ h9 => h9) rfl rfl d_X4_agrees_90 ?_
              refine lv_iload_n hx hb d_X4_agrees_93 rfl (lv_at hl 6 rfl) ?_
              refine s_call1 (x := ((r 26), .inl (cy 1, 10100, .inl (σ 26)))) 25 rfl (va_runSN (As := [.ref (r 26), .int x2]) (rest := [.int r14]) ⟨hx, hb, hml, hown, hg⟩ (c_at_any l D cy H.size (r 26) 10100 (σ 26) x2 (Nat.le_of_ble_eq_true rfl)) ⟨(va_cnB 2 hg (gw_c m_949) rfl rfl rfl (hNW.1 _ nm_1552) (hg _ m_1) (by decide +kernel) ⟨(Nat.le_of_ble_eq_true rfl), (Nat.le_of_ble_eq_true rfl)⟩), hg _ m_948, trivial⟩ (s_pre (ws := [((r 26), .inl (cy 1, 10100, .inl (σ 26)))]) (s_sub1 25 hP rfl) (s_subD 25 hD rfl) hK hNW) rfl rfl hl.1 rfl (lv_room (Nat.le_of_ble_eq_true rfl)) d_X4_agrees_94 ⟨(Nat.le_of_ble_eq_true rfl), (Nat.le_of_ble_eq_true rfl)⟩) hP hD hS hA (fun r15 u15 H locs hw hP hD hS => ?_)
              have hP : va_P D vwCl (wB cy r σ) H := hP
              have hD : va_D A (wB cy r σ) := hD
              refine lv_icmp_ne (tgt := 115) hx hb d_X4_agrees_97 (by decide) (fun c_97 => ?_) (fun c_97 => ?_)
              · -- taken at 97
                refine lv_iconst (v := 0) hx hb d_X4_agrees_115 (by decide) ?_
                refine W.widen (k := 0) (n := 0) (Nat.le_of_ble_eq_true rfl) (Nat.le_of_ble_eq_true rfl) ?_
                exact k_zret (X := Unit) (w1 := fun _ => wB cy r σ) () hx hb hr (k_nz (Or.inl rfl)) d_X4_agrees_116 hlocks hP hK hD hS ⟨(Or.inl rfl), trivial⟩
              · -- not taken at 97
                refine lv_iload_n hx hb d_X4_agrees_100 rfl (lv_at hl 3 rfl) ?_
                refine lv_iload hx hb d_X4_agrees_101 (lv_at hl 2 rfl) ?_
                refine lv_icmp_eq (tgt := 111) hx hb d_X4_agrees_103 (by decide) (fun c_103 => ?_) (fun c_103 => ?_)
                · -- taken at 103
                  refine lv_iconst (v := 1) hx hb d_X4_agrees_111 (by decide) ?_
                  refine lv_goto (tgt := 116) hx hb d_X4_agrees_112 (by decide) ?_
                  refine W.widen (k := 0) (n := 0) (Nat.le_of_ble_eq_true rfl) (Nat.le_of_ble_eq_true rfl) ?_
                  exact k_zret (X := Unit) (w1 := fun _ => wB cy r σ) () hx hb hr (k_nz (Or.inr rfl)) d_X4_agrees_116 hlocks hP hK hD hS ⟨(Or.inr rfl), trivial⟩
                · -- not taken at 103
                  refine lv_iload hx hb d_X4_agrees_106 (lv_at hl 0 rfl) ?_
                  refine lv_if_eq (tgt := 115) hx hb d_X4_agrees_108 (by decide) (fun c_108 => absurd c_108 (by decide)) (fun _ => ?_)
                  refine lv_iconst (v := 1) hx hb d_X4_agrees_111 (by decide) ?_
                  refine lv_goto (tgt := 116) hx hb d_X4_agrees_112 (by decide) ?_
                  refine W.widen (k := 0) (n := 0) (Nat.le_of_ble_eq_true rfl) (Nat.le_of_ble_eq_true rfl) ?_
                  exact k_zret (X := Unit) (w1 := fun _ => wB cy r σ) () hx hb hr (k_nz (Or.inr rfl)) d_X4_agrees_116 hlocks hP hK hD hS ⟨(Or.inr rfl), trivial⟩
  rw [hH] at hgoal
  exact hgoal
set_option maxHeartbeats 4000000 in
set_option maxRecDepth 100000 in
theorem s_X4_isMain (l : Launch) (D : va_G) (cy : Nat → ClassId) (sz : Nat) (r : Nat → Nat) (σ : St) (x1 : Int32) (inv : Inv σ) : Met l y_X4_isMain (Cond.code y_X4_isMain b_X4_isMain 2 (some .boolean) :: GW) ({ frames := 2, cells := 0, slots := 0, locals := 43 } : Room) (va_Pc [.ref (r 10), .int x1] (kPre D cy sz (wB cy r σ))) ((fun A : Nat → Prop => va_Qi (S := Unit) (fun (v9 : Int32) (_ : Unit) => (v9 = 0 ∨ v9 = 1) ∧ True) (fun _ => kPost D cy A (wB cy r σ)) A) (va_A (wB cy r σ) sz)) 0 0 (va_A (wB cy r σ) sz) := by
  refine k_ofW (Qc := fun A => va_Qi (S := Unit) (fun (v9 : Int32) (_ : Unit) => (v9 = 0 ∨ v9 = 1) ∧ True) (fun _ => kPost D cy A (wB cy r σ)) A) (by decide) (Nat.le_of_ble_eq_true rfl) ?_
  intro p e s m below meth c A ls hx hb hr hml hown hlocks hin hg hNW hK hP hD hA hS hl
  have hl : lv_has ls 2 [(0, .ref (r 10)), (1, .int x1)] := hl
  have hown : s.vm.findClass "LinkedUnits$Image" = some m.cls := hown
  obtain ⟨H, hH⟩ : ∃ H, H = s.heap := ⟨_, rfl⟩
  rw [← hH] at hP
  have hS : va_S A s.heap H [] := by rw [hH]; exact va_S.rf
  have hgoal : W p l e ({ frames := 2, cells := 0, slots := 0, locals := 43 } : Room) s m (([.ref (r 10), .int x1] : List Value).toArray) below meth c H [] 0 0 (MQ below (va_Qi (S := Unit) (fun (v9 : Int32) (_ : Unit) => (v9 = 0 ∨ v9 = 1) ∧ True) (fun _ => kPost D cy A (wB cy r σ)) A) (([.ref (r 10), .int x1] : List Value).toArray) s 0 0 A) (F0 m 0 ls []) := by
    refine lv_iload_n hx hb d_X4_isMain_0 rfl (lv_at hl 1 rfl) ?_
    refine lv_if_lt (tgt := 48) hx hb d_X4_isMain_1 (by decide) (fun c_1 => ?_) (fun c_1 => ?_)
    · -- taken at 1
      refine lv_iconst (v := 0) hx hb d_X4_isMain_48 (by decide) ?_
      refine W.widen (k := 0) (n := 0) (Nat.le_of_ble_eq_true rfl) (Nat.le_of_ble_eq_true rfl) ?_
      exact k_zret (X := Unit) (w1 := fun _ => wB cy r σ) () hx hb hr (k_nz (Or.inl rfl)) d_X4_isMain_49 hlocks hP hK hD hS ⟨(Or.inl rfl), trivial⟩
    · -- not taken at 1
      refine lv_aload_n hx hb d_X4_isMain_4 rfl (lv_at hl 0 rfl) ?_
      refine va_get (D := D) (ci := 4) (v := .ref (r 5)) (C := "LinkedUnits$Image") (T := TX4) (N := 12) hx hb hg iwX4 hown hK hP 9 rfl rfl 0 (by decide) (hg _ m_597) (fun _ h9 => h9) rfl d_X4_isMain_5 ?_
      refine lv_iload_n hx hb d_X4_isMain_8 rfl (lv_at hl 1 rfl) ?_
      refine lv_iconst (v := 1) hx hb d_X4_isMain_9 (by decide) ?_
      refine s_calli (X := Unit) (w1 := fun _ => wB cy r σ) (va_runVN (As := [.int x1, .int 1]) (rest := []) ⟨hx, hb, hml, hown, hg⟩ (s_X8_is l D cy H.size r σ x1 (1 : Int32) inv ) ⟨(va_cnB 2 hg (gw_c m_1124) rfl rfl rfl (hNW.1 _ nm_1567) (hg _ m_5) (by decide +kernel) ⟨(Nat.le_of_ble_eq_true rfl), (Nat.le_of_ble_eq_true rfl)⟩), (hg _ m_1123), hg _ ms_X8_is⟩ (s_preV (As := [.int x1, .int 1]) hP hD hK hNW 4 rfl rfl) rfl rfl hl.1 rfl (lv_room (Nat.le_of_ble_eq_true rfl)) d_X4_isMain_10 ⟨(Nat.le_of_ble_eq_true rfl), (Nat.le_of_ble_eq_true rfl)⟩) hP hD hS hA (fun r1 u1 H locs hw hP hD hS => ?_)
      have hP : va_P D vwCl (wB cy r σ) H := hP
      have hD : va_D A (wB cy r σ) := hD
      have hz1 : r1 = 0 ∨ r1 = 1 := hw.1
      refine lv_if_eq (tgt := 48) hx hb d_X4_isMain_13 (by decide) (fun c_13 => ?_) (fun c_13 => ?_)
      · -- taken at 13
        refine lv_iconst (v := 0) hx hb d_X4_isMain_48 (by decide) ?_
        refine W.widen (k := 0) (n := 0) (Nat.le_of_ble_eq_true rfl) (Nat.le_of_ble_eq_true rfl) ?_
        exact k_zret (X := Unit) (w1 := fun _ => wB cy r σ) () hx hb hr (k_nz (Or.inl rfl)) d_X4_isMain_49 hlocks hP hK hD hS ⟨(Or.inl rfl), trivial⟩
      · -- not taken at 13
        refine lv_aload_n hx hb d_X4_isMain_16 rfl (lv_at hl 0 rfl) ?_
        refine va_get (D := D) (ci := 4) (v := .ref (r 5)) (C := "LinkedUnits$Image") (T := TX4) (N := 12) hx hb hg iwX4 hown hK hP 9 rfl rfl 0 (by decide) (hg _ m_597) (fun _ h9 => h9) rfl d_X4_isMain_17 ?_
        refine va_getN (D := D) (ci := 8) (v := .ref (r 26)) (C := "LinkedUnits$Store") (T := TX8) (N := 18) hx hb hg iwX8 hown hK hP 4 rfl rfl 3 (by decide) (va_Nw.use rfl (hNW.1 _ nm_226)) (fun _ h9 => h9) rfl rfl d_X4_isMain_20 ?_
        refine lv_iload_n hx hb d_X4_isMain_23 rfl (lv_at hl 1 rfl) ?_
        refine s_call1 (x := ((r 26), .inl (cy 1, 10100, .inl (σ 26)))) 25 rfl (va_runSN (As := [.ref (r 26), .int x1]) (rest := []) ⟨hx, hb, hml, hown, hg⟩ (c_at_any l D cy H.size (r 26) 10100 (σ 26) x1 (Nat.le_of_ble_eq_true rfl)) ⟨(va_cnB 2 hg (gw_c m_949) rfl rfl rfl (hNW.1 _ nm_1552) (hg _ m_1) (by decide +kernel) ⟨(Nat.le_of_ble_eq_true rfl), (Nat.le_of_ble_eq_true rfl)⟩), hg _ m_948, trivial⟩ (s_pre (ws := [((r 26), .inl (cy 1, 10100, .inl (σ 26)))]) (s_sub1 25 hP rfl) (s_subD 25 hD rfl) hK hNW) rfl rfl hl.1 rfl (lv_room (Nat.le_of_ble_eq_true rfl)) d_X4_isMain_24 ⟨(Nat.le_of_ble_eq_true rfl), (Nat.le_of_ble_eq_true rfl)⟩) hP hD hS hA (fun r2 u2 H locs hw hP hD hS => ?_)
        have hP : va_P D vwCl (wB cy r σ) H := hP
        have hD : va_D A (wB cy r σ) := hD
        refine lv_if_ne (tgt := 48) hx hb d_X4_isMain_27 (by decide) (fun c_27 => ?_) (fun c_27 => ?_)
        · -- taken at 27
          refine lv_iconst (v := 0) hx hb d_X4_isMain_48 (by decide) ?_
          refine W.widen (k := 0) (n := 0) (Nat.le_of_ble_eq_true rfl) (Nat.le_of_ble_eq_true rfl) ?_
          exact k_zret (X := Unit) (w1 := fun _ => wB cy r σ) () hx hb hr (k_nz (Or.inl rfl)) d_X4_isMain_49 hlocks hP hK hD hS ⟨(Or.inl rfl), trivial⟩
        · -- not taken at 27
          refine lv_aload_n hx hb d_X4_isMain_30 rfl (lv_at hl 0 rfl) ?_
          refine va_get (D := D) (ci := 4) (v := .ref (r 5)) (C := "LinkedUnits$Image") (T := TX4) (N := 12) hx hb hg iwX4 hown hK hP 9 rfl rfl 0 (by decide) (hg _ m_597) (fun _ h9 => h9) rfl d_X4_isMain_31 ?_
          refine va_getN (D := D) (ci := 8) (v := .ref (r 27)) (C := "LinkedUnits$Store") (T := TX8) (N := 18) hx hb hg iwX8 hown hK hP 4 rfl rfl 4 (by decide) (va_Nw.use rfl (hNW.1 _ nm_231)) (fun _ h9 => h9) rfl rfl d_X4_isMain_34 ?_
          refine lv_iload_n hx hb d_X4_isMain_37 rfl (lv_at hl 1 rfl) ?_
          refine s_call1 (x := ((r 27), .inl (cy 1, 10100, .inl (σ 27)))) 26 rfl (va_runSN (As := [.ref (r 27), .int x1]) (rest := []) ⟨hx, hb, hml, hown, hg⟩ (c_at_any l D cy H.size (r 27) 10100 (σ 27) x1 (Nat.le_of_ble_eq_true rfl)) ⟨(va_cnB 2 hg (gw_c m_949) rfl rfl rfl (hNW.1 _ nm_1552) (hg _ m_1) (by decide +kernel) ⟨(Nat.le_of_ble_eq_true rfl), (Nat.le_of_ble_eq_true rfl)⟩), hg _ m_948, trivial⟩ (s_pre (ws := [((r 27), .inl (cy 1, 10100, .inl (σ 27)))]) (s_sub1 26 hP rfl) (s_subD 26 hD rfl) hK hNW) rfl rfl hl.1 rfl (lv_room (Nat.le_of_ble_eq_true rfl)) d_X4_isMain_38 ⟨(Nat.le_of_ble_eq_true rfl), (Nat.le_of_ble_eq_true rfl)⟩) hP hD hS hA (fun r3 u3 H locs hw hP hD hS => ?_)
          have hP : va_P D vwCl (wB cy r σ) H := hP
          have hD : va_D A (wB cy r σ) := hD
          refine lv_if_ne (tgt := 48) hx hb d_X4_isMain_41 (by decide) (fun c_41 => ?_) (fun c_41 => ?_)
          · -- taken at 41
            refine lv_iconst (v := 0) hx hb d_X4_isMain_48 (by decide) ?_
            refine W.widen (k := 0) (n := 0) (Nat.le_of_ble_eq_true rfl) (Nat.le_of_ble_eq_true rfl) ?_
            exact k_zret (X := Unit) (w1 := fun _ => wB cy r σ) () hx hb hr (k_nz (Or.inl rfl)) d_X4_isMain_49 hlocks hP hK hD hS ⟨(Or.inl rfl), trivial⟩
          · -- not taken at 41
            refine lv_iconst (v := 1) hx hb d_X4_isMain_44 (by decide) ?_
            refine lv_goto (tgt := 49) hx hb d_X4_isMain_45 (by decide) ?_
            refine W.widen (k := 0) (n := 0) (Nat.le_of_ble_eq_true rfl) (Nat.le_of_ble_eq_true rfl) ?_
            exact k_zret (X := Unit) (w1 := fun _ => wB cy r σ) () hx hb hr (k_nz (Or.inr rfl)) d_X4_isMain_49 hlocks hP hK hD hS ⟨(Or.inr rfl), trivial⟩
  rw [hH] at hgoal
  exact hgoal
set_option maxHeartbeats 4000000 in
set_option maxRecDepth 100000 in
theorem s_X4_dataCells (l : Launch) (D : va_G) (cy : Nat → ClassId) (sz : Nat) (r : Nat → Nat) (σ : St) (inv : Inv σ) : Met l y_X4_dataCells (Cond.code y_X4_dataCells b_X4_dataCells 3 (some .int) :: GW) ({ frames := 1, cells := 0, slots := 0, locals := 21 } : Room) (va_Pc [.ref (r 10)] (kPre D cy sz (wB cy r σ))) ((fun A : Nat → Prop => va_Qi (S := Unit) (fun (_ : Int32) (_ : Unit) => True) (fun _ => kPost D cy A (wB cy r σ)) A) (va_A (wB cy r σ) sz)) 0 0 (va_A (wB cy r σ) sz) := by
  refine k_ofW (Qc := fun A => va_Qi (S := Unit) (fun (_ : Int32) (_ : Unit) => True) (fun _ => kPost D cy A (wB cy r σ)) A) (by decide) (Nat.le_of_ble_eq_true rfl) ?_
  intro p e s m below meth c A ls hx hb hr hml hown hlocks hin hg hNW hK hP hD hA hS hl
  have hl : lv_has ls 3 [(0, .ref (r 10))] := hl
  have hown : s.vm.findClass "LinkedUnits$Image" = some m.cls := hown
  have b4 : ∀ (N : Nat) (x1 : Int32) (x2 : Int32) (H : Heap) (locs : List Loc) (ls : Array Slot), upm x2 = N → va_P D vwCl (wB cy r σ) H → va_D A (wB cy r σ) → va_S A s.heap H locs → lv_has ls 3 [(0, .ref (r 10)), (1, .int x1), (2, .int x2)] → W p l e ({ frames := 1, cells := 0, slots := 0, locals := 21 } : Room) s m (([.ref (r 10)] : List Value).toArray) below meth c H locs 0 0 (MQ below (va_Qi (S := Unit) (fun (_ : Int32) (_ : Unit) => True) (fun _ => kPost D cy A (wB cy r σ)) A) (([.ref (r 10)] : List Value).toArray) s 0 0 A) (F0 m 4 ls []) := by
    intro N
    induction N using Nat.strongRecOn with
    | _ N ih4 =>
      intro x1 x2 H locs ls N4 hP hD hS hl
      refine lv_iload_n hx hb d_X4_dataCells_4 rfl (lv_at hl 2 rfl) ?_
      refine lv_aload_n hx hb d_X4_dataCells_5 rfl (lv_at hl 0 rfl) ?_
      refine va_get (D := D) (ci := 4) (v := .int (σ 10 5)) (C := "LinkedUnits$Image") (T := TX4) (N := 12) hx hb hg iwX4 hown hK hP 9 rfl rfl 5 (by decide) (hg _ m_605) (fun _ h9 => h9) rfl d_X4_dataCells_6 ?_
      refine lv_icmp_ge (tgt := 39) hx hb d_X4_dataCells_9 (by decide) (fun c_9 => ?_) (fun c_9 => ?_)
      · -- taken at 9
        refine lv_iload_n hx hb d_X4_dataCells_39 rfl (lv_at hl 1 rfl) ?_
        refine W.widen (k := 0) (n := 0) (Nat.le_of_ble_eq_true rfl) (Nat.le_of_ble_eq_true rfl) ?_
        exact k_iret (X := Unit) (w1 := fun _ => wB cy r σ) () hx hb hr d_X4_dataCells_40 hlocks hP hK hD hS trivial
      · -- not taken at 9
        refine lv_iload_n hx hb d_X4_dataCells_12 rfl (lv_at hl 1 rfl) ?_
        refine lv_aload_n hx hb d_X4_dataCells_13 rfl (lv_at hl 0 rfl) ?_
        refine va_get (D := D) (ci := 4) (v := .ref (r 5)) (C := "LinkedUnits$Image") (T := TX4) (N := 12) hx hb hg iwX4 hown hK hP 9 rfl rfl 0 (by decide) (hg _ m_597) (fun _ h9 => h9) rfl d_X4_dataCells_14 ?_
        refine va_getN (D := D) (ci := 8) (v := .ref (r 37)) (C := "LinkedUnits$Store") (T := TX8) (N := 18) hx hb hg iwX8 hown hK hP 4 rfl rfl 17 (by decide) (va_Nw.use rfl (hNW.1 _ nm_258)) (fun _ h9 => h9) rfl rfl d_X4_dataCells_17 ?_
        refine lv_aload_n hx hb d_X4_dataCells_20 rfl (lv_at hl 0 rfl) ?_
        refine va_get (D := D) (ci := 4) (v := .ref (r 56)) (C := "LinkedUnits$Image") (T := TX4) (N := 12) hx hb hg iwX4 hown hK hP 9 rfl rfl 6 (by decide) (hg _ m_606) (fun _ h9 => h9) rfl d_X4_dataCells_21 ?_
        refine lv_iload_n hx hb d_X4_dataCells_24 rfl (lv_at hl 2 rfl) ?_
        refine s_call1 (x := ((r 56), .inl (cy 1, 101, .inl (σ 56)))) 53 rfl (va_runSN (As := [.ref (r 56), .int x2]) (rest := [.ref (r 37), .int x1]) ⟨hx, hb, hml, hown, hg⟩ (c_at_any l D cy H.size (r 56) 101 (σ 56) x2 (Nat.le_of_ble_eq_true rfl)) ⟨(va_cnB 2 hg (gw_c m_949) rfl rfl rfl (hNW.1 _ nm_1552) (hg _ m_1) (by decide +kernel) ⟨(Nat.le_of_ble_eq_true rfl), (Nat.le_of_ble_eq_true rfl)⟩), hg _ m_948, trivial⟩ (s_pre (ws := [((r 56), .inl (cy 1, 101, .inl (σ 56)))]) (s_sub1 53 hP rfl) (s_subD 53 hD rfl) hK hNW) rfl rfl hl.1 rfl (lv_room (Nat.le_of_ble_eq_true rfl)) d_X4_dataCells_25 ⟨(Nat.le_of_ble_eq_true rfl), (Nat.le_of_ble_eq_true rfl)⟩) hP hD hS hA (fun r1 u1 H locs hw hP hD hS => ?_)
        have hP : va_P D vwCl (wB cy r σ) H := hP
        have hD : va_D A (wB cy r σ) := hD
        refine s_call1 (x := ((r 37), .inl (cy 1, 101, .inl (σ 37)))) 36 rfl (va_runSN (As := [.ref (r 37), .int r1]) (rest := [.int x1]) ⟨hx, hb, hml, hown, hg⟩ (c_at_any l D cy H.size (r 37) 101 (σ 37) r1 (Nat.le_of_ble_eq_true rfl)) ⟨(va_cnB 2 hg (gw_c m_949) rfl rfl rfl (hNW.1 _ nm_1552) (hg _ m_1) (by decide +kernel) ⟨(Nat.le_of_ble_eq_true rfl), (Nat.le_of_ble_eq_true rfl)⟩), hg _ m_948, trivial⟩ (s_pre (ws := [((r 37), .inl (cy 1, 101, .inl (σ 37)))]) (s_sub1 36 hP rfl) (s_subD 36 hD rfl) hK hNW) rfl rfl hl.1 rfl (lv_room (Nat.le_of_ble_eq_true rfl)) d_X4_dataCells_28 ⟨(Nat.le_of_ble_eq_true rfl), (Nat.le_of_ble_eq_true rfl)⟩) hP hD hS hA (fun r2 u2 H locs hw hP hD hS => ?_)
        have hP : va_P D vwCl (wB cy r σ) H := hP
        have hD : va_D A (wB cy r σ) := hD
        refine lv_iadd hx hb d_X4_dataCells_31 ?_
        refine lv_istore_n (lv' := [(1, .int (x1 + r2)), (0, .ref (r 10)), (2, .int x2)]) hx hb d_X4_dataCells_32 rfl hl (by decide) rfl (fun ls hl => ?_)
        refine lv_iinc (v := (x2 + 1)) (lv' := [(2, .int (x2 + 1)), (1, .int (x1 + r2)), (0, .ref (r 10))]) hx hb d_X4_dataCells_33 hl (k := 2) rfl rfl (by decide) rfl (fun ls hl => ?_)
        refine lv_goto (tgt := 4) hx hb d_X4_dataCells_36 (by decide) ?_
        exact ih4 _ (N4 ▸ upm_lt c_9) (x1 + r2) (x2 + 1) _ _ _ rfl hP hD hS (lv_sub hl [2, 1, 0] rfl)
  obtain ⟨H, hH⟩ : ∃ H, H = s.heap := ⟨_, rfl⟩
  rw [← hH] at hP
  have hS : va_S A s.heap H [] := by rw [hH]; exact va_S.rf
  have hgoal : W p l e ({ frames := 1, cells := 0, slots := 0, locals := 21 } : Room) s m (([.ref (r 10)] : List Value).toArray) below meth c H [] 0 0 (MQ below (va_Qi (S := Unit) (fun (_ : Int32) (_ : Unit) => True) (fun _ => kPost D cy A (wB cy r σ)) A) (([.ref (r 10)] : List Value).toArray) s 0 0 A) (F0 m 0 ls []) := by
    refine lv_iconst (v := 0) hx hb d_X4_dataCells_0 (by decide) ?_
    refine lv_istore_n (lv' := [(1, .int 0), (0, .ref (r 10))]) hx hb d_X4_dataCells_1 rfl hl (by decide) rfl (fun ls hl => ?_)
    refine lv_iconst (v := 1) hx hb d_X4_dataCells_2 (by decide) ?_
    refine lv_istore_n (lv' := [(2, .int 1), (1, .int 0), (0, .ref (r 10))]) hx hb d_X4_dataCells_3 rfl hl (by decide) rfl (fun ls hl => ?_)
    exact b4 _ (0 : Int32) (1 : Int32) _ _ _ rfl hP hD hS (lv_sub hl [2, 1, 0] rfl)
  rw [hH] at hgoal
  exact hgoal
