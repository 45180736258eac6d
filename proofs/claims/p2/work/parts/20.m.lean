set_option maxHeartbeats 4000000 in
set_option maxRecDepth 100000 in
theorem s_X3_settle (l : Launch) (D : va_G) (cy : Nat → ClassId) (sz : Nat) (w : Nat → Nat) (g : Nat → Nat → Int32) (r : Nat → Nat) (σ0 : St) (x1 : Int32) (x2 : Int32) (i0 : Inv σ0) : Met l y_X3_settle (Cond.code y_X3_settle b_X3_settle 4 none :: GW) ({ frames := 1, cells := 0, slots := 0, locals := 25 } : Room) (va_Pc [.ref (r 3), .int x1, .int x2] (kPreE D cy sz (wB cy r σ0) (gE w g))) ((fun A : Nat → Prop => va_Qv (S := St) (fun (τ : St) => (Inv τ ∧ Keep [(3, 4), (3, 9)] [18, 19, 20, 21] σ0 τ)) (fun τ => kPost D cy A (wB cy r τ)) A) (va_A (wB cy r σ0) sz)) 0 0 (va_A (wB cy r σ0) sz) := by
  refine k_ofWE (Qc := fun A => va_Qv (S := St) (fun (τ : St) => (Inv τ ∧ Keep [(3, 4), (3, 9)] [18, 19, 20, 21] σ0 τ)) (fun τ => kPost D cy A (wB cy r τ)) A) (by decide) (Nat.le_of_ble_eq_true rfl) ?_
  intro p e s m below meth c A ls hx hb hr hml hown hlocks hin hg hNW hK hP hD hA hS hl hE
  have hl : lv_has ls 4 [(0, .ref (r 3)), (1, .int x1), (2, .int x2)] := hl
  have hown : s.vm.findClass "LinkedUnits$Grammar" = some m.cls := hown
  have b0 : ∀ (N : Nat) (σ : St) (x1 : Int32) (x2 : Int32) (H : Heap) (locs : List Loc) (ls : Array Slot), dnm (σ 3 9) = N → Inv σ → Keep [(3, 4), (3, 9)] [18, 19, 20, 21] σ0 σ → va_P D vwCl (wB cy r σ) H → va_D A (wB cy r σ) → va_S A s.heap H locs → lv_has ls 4 [(0, .ref (r 3)), (1, .int x1), (2, .int x2)] → W p l e ({ frames := 1, cells := 0, slots := 0, locals := 25 } : Room) s m (([.ref (r 3), .int x1, .int x2] : List Value).toArray) below meth c H locs 0 0 (MQ below (va_Qv (S := St) (fun (τ : St) => (Inv τ ∧ Keep [(3, 4), (3, 9)] [18, 19, 20, 21] σ0 τ)) (fun τ => kPost D cy A (wB cy r τ)) A) (([.ref (r 3), .int x1, .int x2] : List Value).toArray) s 0 0 A) (F0 m 0 ls []) := by
    intro M0
    induction M0 using Nat.strongRecOn with
    | _ M0 ih0 =>
      intro σ x1 x2 H locs ls N0 inv kp hP hD hS hl
      refine lv_aload_n hx hb d_X3_settle_0 rfl (lv_at hl 0 rfl) ?_
      refine va_get (D := D) (ci := 3) (v := .int (σ 3 9)) (C := "LinkedUnits$Grammar") (T := TX3) (N := 12) hx hb hg iwX3 hown hK hP 2 rfl rfl 9 (by decide) (hg _ m_114) (fun _ h9 => h9) rfl d_X3_settle_1 ?_
      refine lv_iload_n hx hb d_X3_settle_4 rfl (lv_at hl 1 rfl) ?_
      refine lv_icmp_le (tgt := 64) hx hb d_X3_settle_5 (by decide) (fun c_5 => ?_) (fun c_5 => ?_)
      · -- taken at 5
        refine W.widen (k := 0) (n := 0) (Nat.le_of_ble_eq_true rfl) (Nat.le_of_ble_eq_true rfl) ?_
        exact k_vret (X := St) (w1 := fun τ => wB cy r τ) σ hx hb hr d_X3_settle_64 hlocks hP hK hD hS ⟨inv, kp⟩
      · -- not taken at 5
        refine lv_aload_n hx hb d_X3_settle_8 rfl (lv_at hl 0 rfl) ?_
        refine va_get (D := D) (ci := 3) (v := .ref (r 22)) (C := "LinkedUnits$Grammar") (T := TX3) (N := 12) hx hb hg iwX3 hown hK hP 2 rfl rfl 10 (by decide) (hg _ m_115) (fun _ h9 => h9) rfl d_X3_settle_9 ?_
        refine lv_aload_n hx hb d_X3_settle_12 rfl (lv_at hl 0 rfl) ?_
        refine va_get (D := D) (ci := 3) (v := .int (σ 3 9)) (C := "LinkedUnits$Grammar") (T := TX3) (N := 12) hx hb hg iwX3 hown hK hP 2 rfl rfl 9 (by decide) (hg _ m_114) (fun _ h9 => h9) rfl d_X3_settle_13 ?_
        refine lv_iconst (v := 1) hx hb d_X3_settle_16 (by decide) ?_
        refine lv_isub hx hb d_X3_settle_17 ?_
        refine s_call1 (x := ((r 22), .inl (cy 1, 400, .inl (σ 22)))) 21 rfl (va_runSN (As := [.ref (r 22), .int ((σ 3 9) - 1)]) (rest := []) ⟨hx, hb, hml, hown, hg⟩ (c_at_any l D cy H.size (r 22) 400 (σ 22) ((σ 3 9) - 1) (Nat.le_of_ble_eq_true rfl)) ⟨(va_cnB 2 hg (gw_c m_949) rfl rfl rfl (hNW.1 _ nm_947) (hg _ m_1) (by decide +kernel) ⟨(Nat.le_of_ble_eq_true rfl), (Nat.le_of_ble_eq_true rfl)⟩), hg _ m_948, trivial⟩ (s_pre (ws := [((r 22), .inl (cy 1, 400, .inl (σ 22)))]) (s_sub1 21 hP rfl) (s_subD 21 hD rfl) hK hNW) rfl rfl hl.1 rfl (lv_room (Nat.le_of_ble_eq_true rfl)) d_X3_settle_18 ⟨(Nat.le_of_ble_eq_true rfl), (Nat.le_of_ble_eq_true rfl)⟩) hP hD hS hA (fun r1 u1 H locs hw hP hD hS => ?_)
        have hP : va_P D vwCl (wB cy r σ) H := hP
        have hD : va_D A (wB cy r σ) := hD
        refine lv_istore_n (lv' := [(3, .int r1), (0, .ref (r 3)), (1, .int x1), (2, .int x2)]) hx hb d_X3_settle_21 rfl hl (by decide) rfl (fun ls hl => ?_)
        refine lv_aload_n hx hb d_X3_settle_22 rfl (lv_at hl 1 rfl) ?_
        refine va_get (D := D) (ci := 3) (v := .ref (r 2)) (C := "LinkedUnits$Grammar") (T := TX3) (N := 12) hx hb hg iwX3 hown hK hP 2 rfl rfl 0 (by decide) (hg _ m_94) (fun _ h9 => h9) rfl d_X3_settle_23 ?_
        refine va_getN (D := D) (ci := 10) (v := .ref (r 13)) (C := "LinkedUnits$Tokens") (T := TX10) (N := 10) hx hb hg iwX10 hown hK hP 1 rfl rfl 5 (by decide) (va_Nw.use rfl (hNW.1 _ nm_50)) (fun _ h9 => h9) rfl d_X3_settle_26 ?_
        refine lv_iload_n hx hb d_X3_settle_29 rfl (lv_at hl 0 rfl) ?_
        refine s_call1 (x := ((r 13), .inl (cy 1, 16002, .inl (σ 13)))) 12 rfl (va_runSN (As := [.ref (r 13), .int r1]) (rest := []) ⟨hx, hb, hml, hown, hg⟩ (c_at_any l D cy H.size (r 13) 16002 (σ 13) r1 (Nat.le_of_ble_eq_true rfl)) ⟨(va_cnB 2 hg (gw_c m_949) rfl rfl rfl (hNW.1 _ nm_947) (hg _ m_1) (by decide +kernel) ⟨(Nat.le_of_ble_eq_true rfl), (Nat.le_of_ble_eq_true rfl)⟩), hg _ m_948, trivial⟩ (s_pre (ws := [((r 13), .inl (cy 1, 16002, .inl (σ 13)))]) (s_sub1 12 hP rfl) (s_subD 12 hD rfl) hK hNW) rfl rfl hl.1 rfl (lv_room (Nat.le_of_ble_eq_true rfl)) d_X3_settle_30 ⟨(Nat.le_of_ble_eq_true rfl), (Nat.le_of_ble_eq_true rfl)⟩) hP hD hS hA (fun r2 u2 H locs hw hP hD hS => ?_)
        have hP : va_P D vwCl (wB cy r σ) H := hP
        have hD : va_D A (wB cy r σ) := hD
        refine s_call0 (va_runS (As := [.int r2]) (rest := []) ⟨hx, hb, hml, hown, hg⟩ (s_X3_levelOf l D cy H.size r2 ) (cwS 1 hg (gw_S m_970 m_971 m_3 m_972) rfl rfl rfl (by decide +kernel) ⟨(Nat.le_of_ble_eq_true rfl), (Nat.le_of_ble_eq_true rfl)⟩) (s_pre (ws := []) (A := A) (fun k q h => by simp at h) ⟨fun i j p q h => by simp at h, fun k q h => by simp at h⟩ hK hNW) rfl rfl hl.1 rfl (lv_room (Nat.le_of_ble_eq_true rfl)) d_X3_settle_33 ⟨(Nat.le_of_ble_eq_true rfl), (Nat.le_of_ble_eq_true rfl)⟩) hP hD hS hA (fun r3 u3 H locs hw hP hD hS => ?_)
        have hP : va_P D vwCl (wB cy r σ) H := hP
        have hD : va_D A (wB cy r σ) := hD
        refine lv_iload_n hx hb d_X3_settle_36 rfl (lv_at hl 3 rfl) ?_
        refine lv_icmp_ge (tgt := 41) hx hb d_X3_settle_37 (by decide) (fun c_37 => ?_) (fun c_37 => ?_)
        · -- taken at 37
          refine lv_aload_n hx hb d_X3_settle_41 rfl (lv_at hl 1 rfl) ?_
          refine lv_bipush (v := 8) hx hb d_X3_settle_42 (by decide) ?_
          refine lv_iload_n hx hb d_X3_settle_44 rfl (lv_at hl 0 rfl) ?_
          refine lv_iconst (v := 0) hx hb d_X3_settle_45 (by decide) ?_
          refine lv_iconst (v := 0) hx hb d_X3_settle_46 (by decide) ?_
          refine s_calli (X := St) (w1 := fun τ => wB cy r τ) (va_runV (As := [.int 8, .int r1, .int 0, .int 0]) (rest := []) ⟨hx, hb, hml, hown, hg⟩ (s_X3_add l D cy H.size w g r σ (8 : Int32) r1 (0 : Int32) (0 : Int32) inv ) (cwV 4 hg (gw_V m_923 m_925 ms_X3_add m_3 m_926) rfl rfl rfl (by decide +kernel) ⟨(Nat.le_of_ble_eq_true rfl), (Nat.le_of_ble_eq_true rfl)⟩) (s_preVE (As := [.int 8, .int r1, .int 0, .int 0]) (gE_ok w g) hS hA hE hP hD hK hNW 2 rfl rfl) rfl rfl hl.1 rfl (lv_room (Nat.le_of_ble_eq_true rfl)) d_X3_settle_47 ⟨(Nat.le_of_ble_eq_true rfl), (Nat.le_of_ble_eq_true rfl)⟩) hP hD hS hA (fun r4 σ4 H locs hw hP hD hS => ?_)
          have hP : va_P D vwCl (wB cy r σ4) H := hP
          have hD : va_D A (wB cy r σ4) := hD
          have ik4 : Keep [(3, 4)] [18, 19, 20, 21] σ σ4 := hw.2
          have kp : Keep [(3, 4), (3, 9)] [18, 19, 20, 21] σ0 σ4 := keep_c kp ik4 (by decide) (by decide)
          have i4 : Inv σ4 := hw.1
          refine lv_pop hx hb d_X3_settle_50 rfl ?_
          refine lv_aload_n hx hb d_X3_settle_51 rfl (lv_at hl 1 rfl) ?_
          refine lv_dup hx hb d_X3_settle_52 rfl ?_
          refine va_get (D := D) (ci := 3) (v := .int (σ4 3 9)) (C := "LinkedUnits$Grammar") (T := TX3) (N := 12) hx hb hg iwX3 hown hK hP 2 rfl rfl 9 (by decide) (hg _ m_114) (fun _ h9 => h9) rfl d_X3_settle_53 ?_
          refine k_topi (σ 3 9) (ik4 3 9 rfl rfl) ?_
          refine lv_iconst (v := 1) hx hb d_X3_settle_56 (by decide) ?_
          refine lv_isub hx hb d_X3_settle_57 ?_
          refine va_put (D := D) (ci := 3) (v := .int ((σ 3 9) - 1)) (ty := .int) (C := "LinkedUnits$Grammar") (T := TX3) (N := 12) hx hb hg iwX3 tyX3 tyX3_ok nmX3 hown hK hP hD hS 2 rfl rfl 9 (by decide) (hg _ m_114) (fun _ h9 => h9) rfl (by decide +kernel) rfl rfl (Nat.le_of_ble_eq_true rfl) d_X3_settle_58 (fun H locs hP hD hS => ?_)
          have hP : va_P D vwCl (wB cy r (upC σ4 3 9 ((σ 3 9) - 1))) H := hP
          have hD : va_D A (wB cy r (upC σ4 3 9 ((σ 3 9) - 1))) := hD
          have kp : Keep [(3, 4), (3, 9)] [18, 19, 20, 21] σ0 (upC σ4 3 9 ((σ 3 9) - 1)) := keep_f kp (by decide)
          refine lv_goto (tgt := 0) hx hb d_X3_settle_61 (by decide) ?_
          exact ih0 _ (by show dnm ((σ 3 9) - 1) < _; have hN := N0; unfold dnm at hN ⊢; have e0 := s_rng (σ 3 9); have e1 : (1 : Int32).toInt = 1 := by decide; obtain ⟨k2, e2⟩ := s_sub (σ 3 9) (1 : Int32); have e3 := s_rng ((σ 3 9) - 1); have e4 := s_rng x1; have e5 := s_nle c_5; omega) (upC σ4 3 9 ((σ 3 9) - 1)) x1 x2 _ _ _ rfl i4 kp hP hD hS (lv_sub hl [1, 2, 3] rfl)
        · -- not taken at 37
          refine W.widen (k := 0) (n := 0) (Nat.le_of_ble_eq_true rfl) (Nat.le_of_ble_eq_true rfl) ?_
          exact k_vret (X := St) (w1 := fun τ => wB cy r τ) σ hx hb hr d_X3_settle_40 hlocks hP hK hD hS ⟨inv, kp⟩
  have kp : Keep [(3, 4), (3, 9)] [18, 19, 20, 21] σ0 σ0 := keep_rf
  obtain ⟨H, hH⟩ : ∃ H, H = s.heap := ⟨_, rfl⟩
  rw [← hH] at hP
  have hS : va_S A s.heap H [] := by rw [hH]; exact va_S.rf
  have hgoal : W p l e ({ frames := 1, cells := 0, slots := 0, locals := 25 } : Room) s m (([.ref (r 3), .int x1, .int x2] : List Value).toArray) below meth c H [] 0 0 (MQ below (va_Qv (S := St) (fun (τ : St) => (Inv τ ∧ Keep [(3, 4), (3, 9)] [18, 19, 20, 21] σ0 τ)) (fun τ => kPost D cy A (wB cy r τ)) A) (([.ref (r 3), .int x1, .int x2] : List Value).toArray) s 0 0 A) (F0 m 0 ls []) := by
    exact b0 _ σ0 x1 x2 _ _ _ rfl i0 kp hP hD hS (lv_sub hl [0, 1, 2] rfl)
  rw [hH] at hgoal
  exact hgoal
set_option maxHeartbeats 4000000 in
set_option maxRecDepth 100000 in
theorem s_X11_localFrom (l : Launch) (D : va_G) (cy : Nat → ClassId) (sz : Nat) (w : Nat → Nat) (g : Nat → Nat → Int32) (r : Nat → Nat) (σ0 : St) (x1 : Int32) (x2 : Int32) (i0 : Inv σ0) : Met l y_X11_localFrom (Cond.code y_X11_localFrom b_X11_localFrom 5 (some .int) :: GW) ({ frames := 2, cells := 0, slots := 0, locals := 47 } : Room) (va_Pc [.ref (r 6), .int x1, .int x2] (kPreE D cy sz (wB cy r σ0) (gE w g))) ((fun A : Nat → Prop => va_Qi (S := Unit) (fun (_ : Int32) (_ : Unit) => True) (fun _ => kPost D cy A (wB cy r σ0)) A) (va_A (wB cy r σ0) sz)) 0 0 (va_A (wB cy r σ0) sz) := by
  refine k_ofWE (Qc := fun A => va_Qi (S := Unit) (fun (_ : Int32) (_ : Unit) => True) (fun _ => kPost D cy A (wB cy r σ0)) A) (by decide) (Nat.le_of_ble_eq_true rfl) ?_
  intro p e s m below meth c A ls hx hb hr hml hown hlocks hin hg hNW hK hP hD hA hS hl hE
  have hl : lv_has ls 5 [(0, .ref (r 6)), (1, .int x1), (2, .int x2)] := hl
  have hown : s.vm.findClass "LinkedUnits$Unit" = some m.cls := hown
  have b7 : ∀ (N : Nat) (x1 : Int32) (x2 : Int32) (x3 : Int32) (H : Heap) (locs : List Loc) (ls : Array Slot), dnm x3 = N → va_P D vwCl (wB cy r σ0) H → va_D A (wB cy r σ0) → va_S A s.heap H locs → lv_has ls 5 [(0, .ref (r 6)), (1, .int x1), (2, .int x2), (3, .int x3)] → W p l e ({ frames := 2, cells := 0, slots := 0, locals := 47 } : Room) s m (([.ref (r 6), .int x1, .int x2] : List Value).toArray) below meth c H locs 0 0 (MQ below (va_Qi (S := Unit) (fun (_ : Int32) (_ : Unit) => True) (fun _ => kPost D cy A (wB cy r σ0)) A) (([.ref (r 6), .int x1, .int x2] : List Value).toArray) s 0 0 A) (F0 m 7 ls []) := by
    intro M7
    induction M7 using Nat.strongRecOn with
    | _ M7 ih7 =>
      intro x1 x2 x3 H locs ls N7 hP hD hS hl
      refine lv_iload_n hx hb d_X11_localFrom_7 rfl (lv_at hl 3 rfl) ?_
      refine lv_iload_n hx hb d_X11_localFrom_8 rfl (lv_at hl 1 rfl) ?_
      refine lv_icmp_lt (tgt := 51) hx hb d_X11_localFrom_9 (by decide) (fun c_9 => ?_) (fun c_9 => ?_)
      · -- taken at 9
        refine lv_iconst (v := (-1)) hx hb d_X11_localFrom_51 (by decide) ?_
        refine W.widen (k := 0) (n := 0) (Nat.le_of_ble_eq_true rfl) (Nat.le_of_ble_eq_true rfl) ?_
        exact k_iret (X := Unit) (w1 := fun _ => wB cy r σ0) () hx hb hr d_X11_localFrom_52 hlocks hP hK hD hS trivial
      · -- not taken at 9
        refine lv_aload_n hx hb d_X11_localFrom_12 rfl (lv_at hl 0 rfl) ?_
        refine va_get (D := D) (ci := 11) (v := .ref (r 44)) (C := "LinkedUnits$Unit") (T := TX11) (N := 19) hx hb hg iwX11 hown hK hP 5 rfl rfl 16 (by decide) (hg _ m_343) (fun _ h9 => h9) rfl d_X11_localFrom_13 ?_
        refine lv_iload_n hx hb d_X11_localFrom_16 rfl (lv_at hl 3 rfl) ?_
        refine s_call1 (x := ((r 44), .inl (cy 1, 100, .inl (σ0 44)))) 43 rfl (va_runSN (As := [.ref (r 44), .int x3]) (rest := []) ⟨hx, hb, hml, hown, hg⟩ (c_at_any l D cy H.size (r 44) 100 (σ0 44) x3 (Nat.le_of_ble_eq_true rfl)) ⟨(va_cnB 2 hg (gw_c m_949) rfl rfl rfl (hNW.1 _ nm_1112) (hg _ m_1) (by decide +kernel) ⟨(Nat.le_of_ble_eq_true rfl), (Nat.le_of_ble_eq_true rfl)⟩), hg _ m_948, trivial⟩ (s_pre (ws := [((r 44), .inl (cy 1, 100, .inl (σ0 44)))]) (s_sub1 43 hP rfl) (s_subD 43 hD rfl) hK hNW) rfl rfl hl.1 rfl (lv_room (Nat.le_of_ble_eq_true rfl)) d_X11_localFrom_17 ⟨(Nat.le_of_ble_eq_true rfl), (Nat.le_of_ble_eq_true rfl)⟩) hP hD hS hA (fun r1 u1 H locs hw hP hD hS => ?_)
        have hP : va_P D vwCl (wB cy r σ0) H := hP
        have hD : va_D A (wB cy r σ0) := hD
        refine lv_istore (lv' := [(4, .int r1), (0, .ref (r 6)), (1, .int x1), (2, .int x2), (3, .int x3)]) hx hb d_X11_localFrom_20 hl (by decide) rfl (fun ls hl => ?_)
        refine lv_aload_n hx hb d_X11_localFrom_22 rfl (lv_at hl 1 rfl) ?_
        refine va_get (D := D) (ci := 11) (v := .ref (r 2)) (C := "LinkedUnits$Unit") (T := TX11) (N := 19) hx hb hg iwX11 hown hK hP 5 rfl rfl 0 (by decide) (hg _ m_305) (fun _ h9 => h9) rfl d_X11_localFrom_23 ?_
        refine lv_aload_n hx hb d_X11_localFrom_26 rfl (lv_at hl 1 rfl) ?_
        refine va_get (D := D) (ci := 11) (v := .ref (r 40)) (C := "LinkedUnits$Unit") (T := TX11) (N := 19) hx hb hg iwX11 hown hK hP 5 rfl rfl 11 (by decide) (hg _ m_333) (fun _ h9 => h9) rfl d_X11_localFrom_27 ?_
        refine lv_iload hx hb d_X11_localFrom_30 (lv_at hl 0 rfl) ?_
        refine s_call1 (x := ((r 40), .inl (cy 1, 100, .inl (σ0 40)))) 39 rfl (va_runSN (As := [.ref (r 40), .int r1]) (rest := [.ref (r 2)]) ⟨hx, hb, hml, hown, hg⟩ (c_at_any l D cy H.size (r 40) 100 (σ0 40) r1 (Nat.le_of_ble_eq_true rfl)) ⟨(va_cnB 2 hg (gw_c m_949) rfl rfl rfl (hNW.1 _ nm_1112) (hg _ m_1) (by decide +kernel) ⟨(Nat.le_of_ble_eq_true rfl), (Nat.le_of_ble_eq_true rfl)⟩), hg _ m_948, trivial⟩ (s_pre (ws := [((r 40), .inl (cy 1, 100, .inl (σ0 40)))]) (s_sub1 39 hP rfl) (s_subD 39 hD rfl) hK hNW) rfl rfl hl.1 rfl (lv_room (Nat.le_of_ble_eq_true rfl)) d_X11_localFrom_32 ⟨(Nat.le_of_ble_eq_true rfl), (Nat.le_of_ble_eq_true rfl)⟩) hP hD hS hA (fun r2 u2 H locs hw hP hD hS => ?_)
        have hP : va_P D vwCl (wB cy r σ0) H := hP
        have hD : va_D A (wB cy r σ0) := hD
        refine lv_iload_n hx hb d_X11_localFrom_35 rfl (lv_at hl 3 rfl) ?_
        refine s_calli (X := Unit) (w1 := fun _ => wB cy r σ0) (va_runVN (As := [.int r2, .int x2]) (rest := []) ⟨hx, hb, hml, hown, hg⟩ (s_X10_sameName l D cy H.size w g r σ0 r2 x2 i0 ) ⟨(va_cnB 2 hg (gw_c m_1116) rfl rfl rfl (hNW.1 _ nm_1113) (hg _ m_2) (by decide +kernel) ⟨(Nat.le_of_ble_eq_true rfl), (Nat.le_of_ble_eq_true rfl)⟩), (hg _ m_1115), hg _ ms_X10_sameName⟩ (s_preVE (As := [.int r2, .int x2]) (gE_ok w g) hS hA hE hP hD hK hNW 1 rfl rfl) rfl rfl hl.1 rfl (lv_room (Nat.le_of_ble_eq_true rfl)) d_X11_localFrom_36 ⟨(Nat.le_of_ble_eq_true rfl), (Nat.le_of_ble_eq_true rfl)⟩) hP hD hS hA (fun r3 u3 H locs hw hP hD hS => ?_)
        have hP : va_P D vwCl (wB cy r σ0) H := hP
        have hD : va_D A (wB cy r σ0) := hD
        have hz3 : r3 = 0 ∨ r3 = 1 := hw.1
        refine lv_if_eq (tgt := 45) hx hb d_X11_localFrom_39 (by decide) (fun c_39 => ?_) (fun c_39 => ?_)
        · -- taken at 39
          refine lv_iinc (v := (x3 + (-1))) (lv' := [(3, .int (x3 + (-1))), (4, .int r1), (0, .ref (r 6)), (1, .int x1), (2, .int x2)]) hx hb d_X11_localFrom_45 hl (k := 4) rfl rfl (by decide) rfl (fun ls hl => ?_)
          refine lv_goto (tgt := 7) hx hb d_X11_localFrom_48 (by decide) ?_
          exact ih7 _ (by show dnm (x3 + (-1)) < _; have hN := N7; unfold dnm at hN ⊢; have e0 := s_rng x3; have e1 : ((-1) : Int32).toInt = -1 := by decide; obtain ⟨k2, e2⟩ := s_add x3 ((-1) : Int32); have e3 := s_rng (x3 + (-1)); have e4 := s_rng x1; have e5 := s_nlt c_9; omega) x1 x2 (x3 + (-1)) _ _ _ rfl hP hD hS (lv_sub hl [2, 3, 4, 0] rfl)
        · -- not taken at 39
          refine lv_iload hx hb d_X11_localFrom_42 (lv_at hl 0 rfl) ?_
          refine W.widen (k := 0) (n := 0) (Nat.le_of_ble_eq_true rfl) (Nat.le_of_ble_eq_true rfl) ?_
          exact k_iret (X := Unit) (w1 := fun _ => wB cy r σ0) () hx hb hr d_X11_localFrom_44 hlocks hP hK hD hS trivial
  obtain ⟨H, hH⟩ : ∃ H, H = s.heap := ⟨_, rfl⟩
  rw [← hH] at hP
  have hS : va_S A s.heap H [] := by rw [hH]; exact va_S.rf
  have hgoal : W p l e ({ frames := 2, cells := 0, slots := 0, locals := 47 } : Room) s m (([.ref (r 6), .int x1, .int x2] : List Value).toArray) below meth c H [] 0 0 (MQ below (va_Qi (S := Unit) (fun (_ : Int32) (_ : Unit) => True) (fun _ => kPost D cy A (wB cy r σ0)) A) (([.ref (r 6), .int x1, .int x2] : List Value).toArray) s 0 0 A) (F0 m 0 ls []) := by
    refine lv_aload_n hx hb d_X11_localFrom_0 rfl (lv_at hl 0 rfl) ?_
    refine va_get (D := D) (ci := 11) (v := .int (σ0 6 15)) (C := "LinkedUnits$Unit") (T := TX11) (N := 19) hx hb hg iwX11 hown hK hP 5 rfl rfl 15 (by decide) (hg _ m_342) (fun _ h9 => h9) rfl d_X11_localFrom_1 ?_
    refine lv_iconst (v := 1) hx hb d_X11_localFrom_4 (by decide) ?_
    refine lv_isub hx hb d_X11_localFrom_5 ?_
    refine lv_istore_n (lv' := [(3, .int ((σ0 6 15) - 1)), (0, .ref (r 6)), (1, .int x1), (2, .int x2)]) hx hb d_X11_localFrom_6 rfl hl (by decide) rfl (fun ls hl => ?_)
    exact b7 _ x1 x2 ((σ0 6 15) - 1) _ _ _ rfl hP hD hS (lv_sub hl [1, 2, 3, 0] rfl)
  rw [hH] at hgoal
  exact hgoal
set_option maxHeartbeats 4000000 in
set_option maxRecDepth 100000 in
theorem s_X1_parameter (l : Launch) (D : va_G) (cy : Nat → ClassId) (sz : Nat) (w : Nat → Nat) (g : Nat → Nat → Int32) (r : Nat → Nat) (σ0 : St) (x1 : Int32) (x2 : Int32) (i0 : Inv σ0) : Met l y_X1_parameter (Cond.code y_X1_parameter b_X1_parameter 3 none :: GW) ({ frames := 3, cells := 0, slots := 0, locals := 71 } : Room) (va_Pc [.ref (r 8), .int x1, .int x2] (kPreE D cy sz (wB cy r σ0) (gE w g))) ((fun A : Nat → Prop => va_Qv (S := St) (fun (τ : St) => (Inv τ ∧ Keep [(6, 3), (6, 4), (6, 10), (6, 15)] [40, 41, 42, 43, 44] σ0 τ)) (fun τ => kPost D cy A (wB cy r τ)) A) (va_A (wB cy r σ0) sz)) 0 0 (va_A (wB cy r σ0) sz) := by
  refine k_ofWE (Qc := fun A => va_Qv (S := St) (fun (τ : St) => (Inv τ ∧ Keep [(6, 3), (6, 4), (6, 10), (6, 15)] [40, 41, 42, 43, 44] σ0 τ)) (fun τ => kPost D cy A (wB cy r τ)) A) (by decide) (Nat.le_of_ble_eq_true rfl) ?_
  intro p e s m below meth c A ls hx hb hr hml hown hlocks hin hg hNW hK hP hD hA hS hl hE
  have hl : lv_has ls 3 [(0, .ref (r 8)), (1, .int x1), (2, .int x2)] := hl
  have hown : s.vm.findClass "LinkedUnits$Declarations" = some m.cls := hown
  have kp : Keep [(6, 3), (6, 4), (6, 10), (6, 15)] [40, 41, 42, 43, 44] σ0 σ0 := keep_rf
  obtain ⟨H, hH⟩ : ∃ H, H = s.heap := ⟨_, rfl⟩
  rw [← hH] at hP
  have hS : va_S A s.heap H [] := by rw [hH]; exact va_S.rf
  have hgoal : W p l e ({ frames := 3, cells := 0, slots := 0, locals := 71 } : Room) s m (([.ref (r 8), .int x1, .int x2] : List Value).toArray) below meth c H [] 0 0 (MQ below (va_Qv (S := St) (fun (τ : St) => (Inv τ ∧ Keep [(6, 3), (6, 4), (6, 10), (6, 15)] [40, 41, 42, 43, 44] σ0 τ)) (fun τ => kPost D cy A (wB cy r τ)) A) (([.ref (r 8), .int x1, .int x2] : List Value).toArray) s 0 0 A) (F0 m 0 ls []) := by
    refine lv_aload_n hx hb d_X1_parameter_0 rfl (lv_at hl 0 rfl) ?_
    refine va_get (D := D) (ci := 1) (v := .ref (r 2)) (C := "LinkedUnits$Declarations") (T := TX1) (N := 18) hx hb hg iwX1 hown hK hP 7 rfl rfl 1 (by decide) (hg _ m_490) (fun _ h9 => h9) rfl d_X1_parameter_1 ?_
    refine va_getN (D := D) (ci := 10) (v := .ref (r 13)) (C := "LinkedUnits$Tokens") (T := TX10) (N := 10) hx hb hg iwX10 hown hK hP 1 rfl rfl 5 (by decide) (va_Nw.use rfl (hNW.1 _ nm_51)) (fun _ h9 => h9) rfl d_X1_parameter_4 ?_
    refine lv_iload_n hx hb d_X1_parameter_7 rfl (lv_at hl 1 rfl) ?_
    refine s_call1 (x := ((r 13), .inl (cy 1, 16002, .inl (σ0 13)))) 12 rfl (va_runSN (As := [.ref (r 13), .int x1]) (rest := []) ⟨hx, hb, hml, hown, hg⟩ (c_at_any l D cy H.size (r 13) 16002 (σ0 13) x1 (Nat.le_of_ble_eq_true rfl)) ⟨(va_cnB 2 hg (gw_c m_949) rfl rfl rfl (hNW.1 _ nm_1356) (hg _ m_1) (by decide +kernel) ⟨(Nat.le_of_ble_eq_true rfl), (Nat.le_of_ble_eq_true rfl)⟩), hg _ m_948, trivial⟩ (s_pre (ws := [((r 13), .inl (cy 1, 16002, .inl (σ0 13)))]) (s_sub1 12 hP rfl) (s_subD 12 hD rfl) hK hNW) rfl rfl hl.1 rfl (lv_room (Nat.le_of_ble_eq_true rfl)) d_X1_parameter_8 ⟨(Nat.le_of_ble_eq_true rfl), (Nat.le_of_ble_eq_true rfl)⟩) hP hD hS hA (fun r1 u1 H locs hw hP hD hS => ?_)
    have hP : va_P D vwCl (wB cy r σ0) H := hP
    have hD : va_D A (wB cy r σ0) := hD
    refine lv_iconst (v := 2) hx hb d_X1_parameter_11 (by decide) ?_
    refine lv_icmp_ne (tgt := 27) hx hb d_X1_parameter_12 (by decide) (fun c_12 => ?_) (fun c_12 => ?_)
    · -- taken at 12
      refine lv_aload_n hx hb d_X1_parameter_27 rfl (lv_at hl 0 rfl) ?_
      refine va_get (D := D) (ci := 1) (v := .ref (r 6)) (C := "LinkedUnits$Declarations") (T := TX1) (N := 18) hx hb hg iwX1 hown hK hP 7 rfl rfl 2 (by decide) (hg _ m_491) (fun _ h9 => h9) rfl d_X1_parameter_28 ?_
      refine lv_iconst (v := 2) hx hb d_X1_parameter_31 (by decide) ?_
      refine lv_iload_n hx hb d_X1_parameter_32 rfl (lv_at hl 1 rfl) ?_
      refine s_callv (X := St) (w1 := fun τ => wB cy r τ) (va_runVN (As := [.int 2, .int x1]) (rest := []) ⟨hx, hb, hml, hown, hg⟩ (s_X11_fail l D cy H.size w g r σ0 (2 : Int32) x1 i0 ) ⟨(va_cnB 2 hg (gw_c m_1093) rfl rfl rfl (hNW.1 _ nm_1370) (hg _ m_10) (by decide +kernel) ⟨(Nat.le_of_ble_eq_true rfl), (Nat.le_of_ble_eq_true rfl)⟩), (hg _ m_1092), hg _ ms_X11_fail⟩ (s_preVE (As := [.int 2, .int x1]) (gE_ok w g) hS hA hE hP hD hK hNW 5 rfl rfl) rfl rfl hl.1 rfl (lv_room (Nat.le_of_ble_eq_true rfl)) d_X1_parameter_33 ⟨(Nat.le_of_ble_eq_true rfl), (Nat.le_of_ble_eq_true rfl)⟩) hP hD hS hA (fun σ2 H locs hw hP hD hS => ?_)
      have hP : va_P D vwCl (wB cy r σ2) H := hP
      have hD : va_D A (wB cy r σ2) := hD
      have ik2 : Keep [(6, 3), (6, 4)] [] σ0 σ2 := hw.2
      have kp : Keep [(6, 3), (6, 4), (6, 10), (6, 15)] [40, 41, 42, 43, 44] σ0 σ2 := keep_c kp ik2 (by decide) (by decide)
      have i2 : Inv σ2 := hw.1
      refine lv_goto (tgt := 49) hx hb d_X1_parameter_36 (by decide) ?_
      refine W.widen (k := 0) (n := 0) (Nat.le_of_ble_eq_true rfl) (Nat.le_of_ble_eq_true rfl) ?_
      exact k_vret (X := St) (w1 := fun τ => wB cy r τ) σ2 hx hb hr d_X1_parameter_49 hlocks hP hK hD hS ⟨i2, kp⟩
    · -- not taken at 12
      refine lv_aload_n hx hb d_X1_parameter_15 rfl (lv_at hl 0 rfl) ?_
      refine va_get (D := D) (ci := 1) (v := .ref (r 6)) (C := "LinkedUnits$Declarations") (T := TX1) (N := 18) hx hb hg iwX1 hown hK hP 7 rfl rfl 2 (by decide) (hg _ m_491) (fun _ h9 => h9) rfl d_X1_parameter_16 ?_
      refine lv_iconst (v := 0) hx hb d_X1_parameter_19 (by decide) ?_
      refine lv_iload_n hx hb d_X1_parameter_20 rfl (lv_at hl 1 rfl) ?_
      refine s_calli (X := Unit) (w1 := fun _ => wB cy r σ0) (va_runVN (As := [.int 0, .int x1]) (rest := []) ⟨hx, hb, hml, hown, hg⟩ (s_X11_localFrom l D cy H.size w g r σ0 (0 : Int32) x1 i0 ) ⟨(va_cnB 2 hg (gw_c m_1111) rfl rfl rfl (hNW.1 _ nm_1369) (hg _ m_10) (by decide +kernel) ⟨(Nat.le_of_ble_eq_true rfl), (Nat.le_of_ble_eq_true rfl)⟩), (hg _ m_1110), hg _ ms_X11_localFrom⟩ (s_preVE (As := [.int 0, .int x1]) (gE_ok w g) hS hA hE hP hD hK hNW 5 rfl rfl) rfl rfl hl.1 rfl (lv_room (Nat.le_of_ble_eq_true rfl)) d_X1_parameter_21 ⟨(Nat.le_of_ble_eq_true rfl), (Nat.le_of_ble_eq_true rfl)⟩) hP hD hS hA (fun r3 u3 H locs hw hP hD hS => ?_)
      have hP : va_P D vwCl (wB cy r σ0) H := hP
      have hD : va_D A (wB cy r σ0) := hD
      refine lv_if_lt (tgt := 39) hx hb d_X1_parameter_24 (by decide) (fun c_24 => ?_) (fun c_24 => ?_)
      · -- taken at 24
        refine lv_aload_n hx hb d_X1_parameter_39 rfl (lv_at hl 0 rfl) ?_
        refine va_get (D := D) (ci := 1) (v := .ref (r 6)) (C := "LinkedUnits$Declarations") (T := TX1) (N := 18) hx hb hg iwX1 hown hK hP 7 rfl rfl 2 (by decide) (hg _ m_491) (fun _ h9 => h9) rfl d_X1_parameter_40 ?_
        refine lv_iload_n hx hb d_X1_parameter_43 rfl (lv_at hl 1 rfl) ?_
        refine lv_iload_n hx hb d_X1_parameter_44 rfl (lv_at hl 2 rfl) ?_
        refine lv_iconst (v := (-1)) hx hb d_X1_parameter_45 (by decide) ?_
        refine s_callv (X := St) (w1 := fun τ => wB cy r τ) (va_runVN (As := [.int x1, .int x2, .int (-1)]) (rest := []) ⟨hx, hb, hml, hown, hg⟩ (s_X11_declareLocal l D cy H.size w g r σ0 x1 x2 ((-1) : Int32) i0 ) ⟨(va_cnB 3 hg (gw_c m_1378) rfl rfl rfl (hNW.1 _ nm_1375) (hg _ m_10) (by decide +kernel) ⟨(Nat.le_of_ble_eq_true rfl), (Nat.le_of_ble_eq_true rfl)⟩), (hg _ m_1377), hg _ ms_X11_declareLocal⟩ (s_preVE (As := [.int x1, .int x2, .int (-1)]) (gE_ok w g) hS hA hE hP hD hK hNW 5 rfl rfl) rfl rfl hl.1 rfl (lv_room (Nat.le_of_ble_eq_true rfl)) d_X1_parameter_46 ⟨(Nat.le_of_ble_eq_true rfl), (Nat.le_of_ble_eq_true rfl)⟩) hP hD hS hA (fun σ4 H locs hw hP hD hS => ?_)
        have hP : va_P D vwCl (wB cy r σ4) H := hP
        have hD : va_D A (wB cy r σ4) := hD
        have ik4 : Keep [(6, 10), (6, 15)] [40, 41, 42, 43, 44] σ0 σ4 := hw.2
        have kp : Keep [(6, 3), (6, 4), (6, 10), (6, 15)] [40, 41, 42, 43, 44] σ0 σ4 := keep_c kp ik4 (by decide) (by decide)
        have i4 : Inv σ4 := hw.1
        refine W.widen (k := 0) (n := 0) (Nat.le_of_ble_eq_true rfl) (Nat.le_of_ble_eq_true rfl) ?_
        exact k_vret (X := St) (w1 := fun τ => wB cy r τ) σ4 hx hb hr d_X1_parameter_49 hlocks hP hK hD hS ⟨i4, kp⟩
      · -- not taken at 24
        refine lv_aload_n hx hb d_X1_parameter_27 rfl (lv_at hl 0 rfl) ?_
        refine va_get (D := D) (ci := 1) (v := .ref (r 6)) (C := "LinkedUnits$Declarations") (T := TX1) (N := 18) hx hb hg iwX1 hown hK hP 7 rfl rfl 2 (by decide) (hg _ m_491) (fun _ h9 => h9) rfl d_X1_parameter_28 ?_
        refine lv_iconst (v := 2) hx hb d_X1_parameter_31 (by decide) ?_
        refine lv_iload_n hx hb d_X1_parameter_32 rfl (lv_at hl 1 rfl) ?_
        refine s_callv (X := St) (w1 := fun τ => wB cy r τ) (va_runVN (As := [.int 2, .int x1]) (rest := []) ⟨hx, hb, hml, hown, hg⟩ (s_X11_fail l D cy H.size w g r σ0 (2 : Int32) x1 i0 ) ⟨(va_cnB 2 hg (gw_c m_1093) rfl rfl rfl (hNW.1 _ nm_1370) (hg _ m_10) (by decide +kernel) ⟨(Nat.le_of_ble_eq_true rfl), (Nat.le_of_ble_eq_true rfl)⟩), (hg _ m_1092), hg _ ms_X11_fail⟩ (s_preVE (As := [.int 2, .int x1]) (gE_ok w g) hS hA hE hP hD hK hNW 5 rfl rfl) rfl rfl hl.1 rfl (lv_room (Nat.le_of_ble_eq_true rfl)) d_X1_parameter_33 ⟨(Nat.le_of_ble_eq_true rfl), (Nat.le_of_ble_eq_true rfl)⟩) hP hD hS hA (fun σ5 H locs hw hP hD hS => ?_)
        have hP : va_P D vwCl (wB cy r σ5) H := hP
        have hD : va_D A (wB cy r σ5) := hD
        have ik5 : Keep [(6, 3), (6, 4)] [] σ0 σ5 := hw.2
        have kp : Keep [(6, 3), (6, 4), (6, 10), (6, 15)] [40, 41, 42, 43, 44] σ0 σ5 := keep_c kp ik5 (by decide) (by decide)
        have i5 : Inv σ5 := hw.1
        refine lv_goto (tgt := 49) hx hb d_X1_parameter_36 (by decide) ?_
        refine W.widen (k := 0) (n := 0) (Nat.le_of_ble_eq_true rfl) (Nat.le_of_ble_eq_true rfl) ?_
        exact k_vret (X := St) (w1 := fun τ => wB cy r τ) σ5 hx hb hr d_X1_parameter_49 hlocks hP hK hD hS ⟨i5, kp⟩
  rw [hH] at hgoal
  exact hgoal
set_option maxHeartbeats 4000000 in
set_option maxRecDepth 100000 in
theorem s_X10_skipLine (l : Launch) (D : va_G) (cy : Nat → ClassId) (sz : Nat) (w : Nat → Nat) (g : Nat → Nat → Int32) (r : Nat → Nat) (σ0 : St) (i0 : Inv σ0) : Met l y_X10_skipLine (Cond.code y_X10_skipLine b_X10_skipLine 1 (some .boolean) :: GW) ({ frames := 2, cells := 0, slots := 0, locals := 44 } : Room) (va_Pc [.ref (r 2)] (kPreE D cy sz (wB cy r σ0) (gE w g))) ((fun A : Nat → Prop => va_Qi (S := St) (fun (v9 : Int32) (τ : St) => (v9 = 0 ∨ v9 = 1) ∧ (Inv τ ∧ Keep [(2, 2), (2, 4)] [13, 14, 15, 16] σ0 τ)) (fun τ => kPost D cy A (wB cy r τ)) A) (va_A (wB cy r σ0) sz)) 0 0 (va_A (wB cy r σ0) sz) := by
  refine k_ofWE (Qc := fun A => va_Qi (S := St) (fun (v9 : Int32) (τ : St) => (v9 = 0 ∨ v9 = 1) ∧ (Inv τ ∧ Keep [(2, 2), (2, 4)] [13, 14, 15, 16] σ0 τ)) (fun τ => kPost D cy A (wB cy r τ)) A) (by decide) (Nat.le_of_ble_eq_true rfl) ?_
  intro p e s m below meth c A ls hx hb hr hml hown hlocks hin hg hNW hK hP hD hA hS hl hE
  have hl : lv_has ls 1 [(0, .ref (r 2))] := hl
  have hown : s.vm.findClass "LinkedUnits$Tokens" = some m.cls := hown
  have b0 : ∀ (N : Nat) (σ : St) (H : Heap) (locs : List Loc) (ls : Array Slot), upm (σ 2 2) = N → Inv σ → Keep [(2, 2), (2, 4)] [13, 14, 15, 16] σ0 σ → va_P D vwCl (wB cy r σ) H → va_D A (wB cy r σ) → va_S A s.heap H locs → lv_has ls 1 [(0, .ref (r 2))] → W p l e ({ frames := 2, cells := 0, slots := 0, locals := 44 } : Room) s m (([.ref (r 2)] : List Value).toArray) below meth c H locs 0 0 (MQ below (va_Qi (S := St) (fun (v9 : Int32) (τ : St) => (v9 = 0 ∨ v9 = 1) ∧ (Inv τ ∧ Keep [(2, 2), (2, 4)] [13, 14, 15, 16] σ0 τ)) (fun τ => kPost D cy A (wB cy r τ)) A) (([.ref (r 2)] : List Value).toArray) s 0 0 A) (F0 m 0 ls []) := by
    intro M0
    induction M0 using Nat.strongRecOn with
    | _ M0 ih0 =>
      intro σ H locs ls N0 inv kp hP hD hS hl
      refine lv_aload_n hx hb d_X10_skipLine_0 rfl (lv_at hl 0 rfl) ?_
      refine va_get (D := D) (ci := 10) (v := .int (σ 2 2)) (C := "LinkedUnits$Tokens") (T := TX10) (N := 10) hx hb hg iwX10 hown hK hP 1 rfl rfl 2 (by decide) (hg _ m_44) (fun _ h9 => h9) rfl d_X10_skipLine_1 ?_
      refine lv_aload_n hx hb d_X10_skipLine_4 rfl (lv_at hl 0 rfl) ?_
      refine va_get (D := D) (ci := 10) (v := .int (σ 2 1)) (C := "LinkedUnits$Tokens") (T := TX10) (N := 10) hx hb hg iwX10 hown hK hP 1 rfl rfl 1 (by decide) (hg _ m_43) (fun _ h9 => h9) rfl d_X10_skipLine_5 ?_
      refine lv_icmp_ge (tgt := 60) hx hb d_X10_skipLine_8 (by decide) (fun c_8 => ?_) (fun c_8 => ?_)
      · -- taken at 8
        refine lv_iconst (v := 1) hx hb d_X10_skipLine_60 (by decide) ?_
        refine W.widen (k := 0) (n := 0) (Nat.le_of_ble_eq_true rfl) (Nat.le_of_ble_eq_true rfl) ?_
        exact k_zret (X := St) (w1 := fun τ => wB cy r τ) σ hx hb hr (k_nz (Or.inr rfl)) d_X10_skipLine_61 hlocks hP hK hD hS ⟨(Or.inr rfl), ⟨inv, kp⟩⟩
      · -- not taken at 8
        refine lv_aload_n hx hb d_X10_skipLine_11 rfl (lv_at hl 0 rfl) ?_
        refine lv_aload_n hx hb d_X10_skipLine_12 rfl (lv_at hl 0 rfl) ?_
        refine va_get (D := D) (ci := 10) (v := .int (σ 2 2)) (C := "LinkedUnits$Tokens") (T := TX10) (N := 10) hx hb hg iwX10 hown hK hP 1 rfl rfl 2 (by decide) (hg _ m_44) (fun _ h9 => h9) rfl d_X10_skipLine_13 ?_
        refine s_calli (X := Unit) (w1 := fun _ => wB cy r σ) (va_runV (As := [.int (σ 2 2)]) (rest := []) ⟨hx, hb, hml, hown, hg⟩ (s_X10_byteAt l D cy H.size w g r σ (σ 2 2) inv ) (cwV 1 hg (gw_V m_806 m_808 ms_X10_byteAt m_2 m_809) rfl rfl rfl (by decide +kernel) ⟨(Nat.le_of_ble_eq_true rfl), (Nat.le_of_ble_eq_true rfl)⟩) (s_preVE (As := [.int (σ 2 2)]) (gE_ok w g) hS hA hE hP hD hK hNW 1 rfl rfl) rfl rfl hl.1 rfl (lv_room (Nat.le_of_ble_eq_true rfl)) d_X10_skipLine_16 ⟨(Nat.le_of_ble_eq_true rfl), (Nat.le_of_ble_eq_true rfl)⟩) hP hD hS hA (fun r1 u1 H locs hw hP hD hS => ?_)
        have hP : va_P D vwCl (wB cy r σ) H := hP
        have hD : va_D A (wB cy r σ) := hD
        refine lv_bipush (v := 10) hx hb d_X10_skipLine_19 (by decide) ?_
        refine lv_icmp_eq (tgt := 60) hx hb d_X10_skipLine_21 (by decide) (fun c_21 => ?_) (fun c_21 => ?_)
        · -- taken at 21
          refine lv_iconst (v := 1) hx hb d_X10_skipLine_60 (by decide) ?_
          refine W.widen (k := 0) (n := 0) (Nat.le_of_ble_eq_true rfl) (Nat.le_of_ble_eq_true rfl) ?_
          exact k_zret (X := St) (w1 := fun τ => wB cy r τ) σ hx hb hr (k_nz (Or.inr rfl)) d_X10_skipLine_61 hlocks hP hK hD hS ⟨(Or.inr rfl), ⟨inv, kp⟩⟩
        · -- not taken at 21
          refine lv_aload_n hx hb d_X10_skipLine_24 rfl (lv_at hl 0 rfl) ?_
          refine lv_aload_n hx hb d_X10_skipLine_25 rfl (lv_at hl 0 rfl) ?_
          refine va_get (D := D) (ci := 10) (v := .int (σ 2 2)) (C := "LinkedUnits$Tokens") (T := TX10) (N := 10) hx hb hg iwX10 hown hK hP 1 rfl rfl 2 (by decide) (hg _ m_44) (fun _ h9 => h9) rfl d_X10_skipLine_26 ?_
          refine s_calli (X := Unit) (w1 := fun _ => wB cy r σ) (va_runV (As := [.int (σ 2 2)]) (rest := []) ⟨hx, hb, hml, hown, hg⟩ (s_X10_byteAt l D cy H.size w g r σ (σ 2 2) inv ) (cwV 1 hg (gw_V m_806 m_808 ms_X10_byteAt m_2 m_809) rfl rfl rfl (by decide +kernel) ⟨(Nat.le_of_ble_eq_true rfl), (Nat.le_of_ble_eq_true rfl)⟩) (s_preVE (As := [.int (σ 2 2)]) (gE_ok w g) hS hA hE hP hD hK hNW 1 rfl rfl) rfl rfl hl.1 rfl (lv_room (Nat.le_of_ble_eq_true rfl)) d_X10_skipLine_29 ⟨(Nat.le_of_ble_eq_true rfl), (Nat.le_of_ble_eq_true rfl)⟩) hP hD hS hA (fun r2 u2 H locs hw hP hD hS => ?_)
          have hP : va_P D vwCl (wB cy r σ) H := hP
          have hD : va_D A (wB cy r σ) := hD
          refine s_call0 (va_runS (As := [.int r2]) (rest := []) ⟨hx, hb, hml, hown, hg⟩ (s_X10_mayOccur l D cy H.size r2 ) (cwS 1 hg (gw_S m_814 m_815 m_2 m_816) rfl rfl rfl (by decide +kernel) ⟨(Nat.le_of_ble_eq_true rfl), (Nat.le_of_ble_eq_true rfl)⟩) (s_pre (ws := []) (A := A) (fun k q h => by simp at h) ⟨fun i j p q h => by simp at h, fun k q h => by simp at h⟩ hK hNW) rfl rfl hl.1 rfl (lv_room (Nat.le_of_ble_eq_true rfl)) d_X10_skipLine_32 ⟨(Nat.le_of_ble_eq_true rfl), (Nat.le_of_ble_eq_true rfl)⟩) hP hD hS hA (fun r3 u3 H locs hw hP hD hS => ?_)
          have hP : va_P D vwCl (wB cy r σ) H := hP
          have hD : va_D A (wB cy r σ) := hD
          have hz3 : r3 = 0 ∨ r3 = 1 := hw.1
          refine lv_if_ne (tgt := 47) hx hb d_X10_skipLine_35 (by decide) (fun c_35 => ?_) (fun c_35 => ?_)
          · -- taken at 35
            refine lv_aload_n hx hb d_X10_skipLine_47 rfl (lv_at hl 0 rfl) ?_
            refine lv_dup hx hb d_X10_skipLine_48 rfl ?_
            refine va_get (D := D) (ci := 10) (v := .int (σ 2 2)) (C := "LinkedUnits$Tokens") (T := TX10) (N := 10) hx hb hg iwX10 hown hK hP 1 rfl rfl 2 (by decide) (hg _ m_44) (fun _ h9 => h9) rfl d_X10_skipLine_49 ?_
            refine lv_iconst (v := 1) hx hb d_X10_skipLine_52 (by decide) ?_
            refine lv_iadd hx hb d_X10_skipLine_53 ?_
            refine va_put (D := D) (ci := 10) (v := .int ((σ 2 2) + 1)) (ty := .int) (C := "LinkedUnits$Tokens") (T := TX10) (N := 10) hx hb hg iwX10 tyX10 tyX10_ok nmX10 hown hK hP hD hS 1 rfl rfl 2 (by decide) (hg _ m_44) (fun _ h9 => h9) rfl (by decide +kernel) rfl rfl (Nat.le_of_ble_eq_true rfl) d_X10_skipLine_54 (fun H locs hP hD hS => ?_)
            have hP : va_P D vwCl (wB cy r (upC σ 2 2 ((σ 2 2) + 1))) H := hP
            have hD : va_D A (wB cy r (upC σ 2 2 ((σ 2 2) + 1))) := hD
            have kp : Keep [(2, 2), (2, 4)] [13, 14, 15, 16] σ0 (upC σ 2 2 ((σ 2 2) + 1)) := keep_f kp (by decide)
            refine lv_goto (tgt := 0) hx hb d_X10_skipLine_57 (by decide) ?_
            exact ih0 _ (by show upm ((σ 2 2) + 1) < _; have hN := N0; unfold upm at hN ⊢; have e0 := s_rng (σ 2 2); have e1 : (1 : Int32).toInt = 1 := by decide; obtain ⟨k2, e2⟩ := s_add (σ 2 2) (1 : Int32); have e3 := s_rng ((σ 2 2) + 1); have e4 := s_rng (σ 2 1); have e5 := inv.1; have e6 := s_nle c_8; omega) (upC σ 2 2 ((σ 2 2) + 1))  _ _ _ rfl inv kp hP hD hS (lv_sub hl [0] rfl)
          · -- not taken at 35
            refine lv_aload_n hx hb d_X10_skipLine_38 rfl (lv_at hl 0 rfl) ?_
            refine lv_aload_n hx hb d_X10_skipLine_39 rfl (lv_at hl 0 rfl) ?_
            refine va_get (D := D) (ci := 10) (v := .int (σ 2 2)) (C := "LinkedUnits$Tokens") (T := TX10) (N := 10) hx hb hg iwX10 hown hK hP 1 rfl rfl 2 (by decide) (hg _ m_44) (fun _ h9 => h9) rfl d_X10_skipLine_40 ?_
            refine s_calli (X := St) (w1 := fun τ => wB cy r τ) (va_runV (As := [.int (σ 2 2)]) (rest := []) ⟨hx, hb, hml, hown, hg⟩ (s_X10_bad l D cy H.size w g r σ (σ 2 2) inv ) (cwV 1 hg (gw_V m_817 m_819 ms_X10_bad m_2 m_820) rfl rfl rfl (by decide +kernel) ⟨(Nat.le_of_ble_eq_true rfl), (Nat.le_of_ble_eq_true rfl)⟩) (s_preVE (As := [.int (σ 2 2)]) (gE_ok w g) hS hA hE hP hD hK hNW 1 rfl rfl) rfl rfl hl.1 rfl (lv_room (Nat.le_of_ble_eq_true rfl)) d_X10_skipLine_43 ⟨(Nat.le_of_ble_eq_true rfl), (Nat.le_of_ble_eq_true rfl)⟩) hP hD hS hA (fun r4 σ4 H locs hw hP hD hS => ?_)
            have hP : va_P D vwCl (wB cy r σ4) H := hP
            have hD : va_D A (wB cy r σ4) := hD
            have ik4 : Keep [(2, 2), (2, 4)] [13, 14, 15, 16] σ σ4 := hw.2.2
            have kp : Keep [(2, 2), (2, 4)] [13, 14, 15, 16] σ0 σ4 := keep_c kp ik4 (by decide) (by decide)
            have i4 : Inv σ4 := hw.2.1
            have hz4 : r4 = 0 ∨ r4 = 1 := hw.1
            refine W.widen (k := 0) (n := 0) (Nat.le_of_ble_eq_true rfl) (Nat.le_of_ble_eq_true rfl) ?_
            exact k_zret (X := St) (w1 := fun τ => wB cy r τ) σ4 hx hb hr (k_nz hz4) d_X10_skipLine_46 hlocks hP hK hD hS ⟨hz4, ⟨i4, kp⟩⟩
  have kp : Keep [(2, 2), (2, 4)] [13, 14, 15, 16] σ0 σ0 := keep_rf
  obtain ⟨H, hH⟩ : ∃ H, H = s.heap := ⟨_, rfl⟩
  rw [← hH] at hP
  have hS : va_S A s.heap H [] := by rw [hH]; exact va_S.rf
  have hgoal : W p l e ({ frames := 2, cells := 0, slots := 0, locals := 44 } : Room) s m (([.ref (r 2)] : List Value).toArray) below meth c H [] 0 0 (MQ below (va_Qi (S := St) (fun (v9 : Int32) (τ : St) => (v9 = 0 ∨ v9 = 1) ∧ (Inv τ ∧ Keep [(2, 2), (2, 4)] [13, 14, 15, 16] σ0 τ)) (fun τ => kPost D cy A (wB cy r τ)) A) (([.ref (r 2)] : List Value).toArray) s 0 0 A) (F0 m 0 ls []) := by
    exact b0 _ σ0  _ _ _ rfl i0 kp hP hD hS (lv_sub hl [0] rfl)
  rw [hH] at hgoal
  exact hgoal
