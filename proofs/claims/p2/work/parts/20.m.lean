set_option maxHeartbeats 4000000 in
set_option maxRecDepth 100000 in
theorem s_X3_settle (l : Launch) (D : va_G) (cy : Nat → ClassId) (sz : Nat) (w : Nat → Nat) (g : Nat → Nat → Int32) (r : Nat → Nat) (σ0 : St) (a1 : Int32) (a2 : Int32) (i0 : Inv σ0) : Met l y_X3_settle (Cond.code y_X3_settle b_X3_settle 4 none :: GW) ({ frames := 1, cells := 0, slots := 0, locals := 25 } : Room) (va_Pc [.ref (r 3), .int a1, .int a2] (kPreE D cy sz (wB cy r σ0) (gE w g))) ((fun A : Nat → Prop => va_Qv (S := St) (fun (τ : St) => (Inv τ ∧ Keep [(3, 4), (3, 9)] [18, 19, 20, 21] σ0 τ)) (fun τ => kPost D cy A (wB cy r τ)) A) (va_A (wB cy r σ0) sz)) 0 0 (va_A (wB cy r σ0) sz) := by
  refine k_ofWE (Qc := fun A => va_Qv (S := St) (fun (τ : St) => (Inv τ ∧ Keep [(3, 4), (3, 9)] [18, 19, 20, 21] σ0 τ)) (fun τ => kPost D cy A (wB cy r τ)) A) (by decide) (Nat.le_of_ble_eq_true rfl) ?_
  intro p e s m below meth c A ls hx hb hr hml hown hlocks hin hg hNW hK hP hD hA hS hl hE
  have hl : lv_has ls 4 [(0, .ref (r 3)), (1, .int a1), (2, .int a2)] := hl
  have hown : s.vm.findClass "LinkedUnits$Grammar" = some m.cls := hown
  have b0 : ∀ (N : Nat) (σ : St) (x1 : Int32) (x2 : Int32) (H : Heap) (locs : List Loc) (ls : Array Slot), dnm (σ 3 9) = N → Inv σ → Keep [(3, 4), (3, 9)] [18, 19, 20, 21] σ0 σ → va_P D vwCl (wB cy r σ) H → va_D A (wB cy r σ) → va_S A s.heap H locs → lv_has ls 4 [(0, .ref (r 3)), (1, .int x1), (2, .int x2)] → W p l e ({ frames := 1, cells := 0, slots := 0, locals := 25 } : Room) s m (([.ref (r 3), .int a1, .int a2] : List Value).toArray) below meth c H locs 0 0 (MQ below (va_Qv (S := St) (fun (τ : St) => (Inv τ ∧ Keep [(3, 4), (3, 9)] [18, 19, 20, 21] σ0 τ)) (fun τ => kPost D cy A (wB cy r τ)) A) (([.ref (r 3), .int a1, .int a2] : List Value).toArray) s 0 0 A) (F0 m 0 ls []) := by
    intro M0
    induction M0 using Nat.strongRecOn with
    | _ M0 ih0 =>
      intro σ x1 x2 H locs ls N0 inv kp hP hD hS hl
      refine lv_aload_n hx hb d_X3_settle_0 rfl (lv_at hl 0 rfl) ?_
      refine va_get (D := D) (ci := 3) (v := .int (σ 3 9)) (C := "LinkedUnits$Grammar") (T := TX3) (N := 12) hx hb hg iwX3 hown hK hP 2 rfl rfl 9 (by decide) (hg _ m_114) (fun _ h9 => h9) rfl d_X3_settle_1 ?_
      refine lv_iload_n hx hb d_X3_settle_4 rfl (lv_at hl 1 rfl) ?_
      refine lv_icmp_le (tgt := 64) hx hb d_X3_settle_5 (by decide) (fun c_5 => ?_) (fun c_5 => ?_)
      · -- taken at 5
        refine W.widen (k := 0) (n := 0) (Nat.le_of_ble_eq_true rfl) (Nat.le_of_ble_eq_true rfl) ?_
        exact k_vret (X := St) (w1 := fun τ => wB cy r τ) σ hx hb hr d_X3_settle_64 hlocks hP hK hD hS ⟨inv, kp⟩
      · -- not taken at 5
        refine lv_aload_n hx hb d_X3_settle_8 rfl (lv_at hl 0 rfl) ?_
        refine va_get (D := D) (ci := 3) (v := .ref (r 22)) (C := "LinkedUnits$Grammar") (T := TX3) (N := 12) hx hb hg iwX3 hown hK hP 2 rfl rfl 10 (by decide) (hg _ m_115) (fun _ h9 => h9) rfl d_X3_settle_9 ?_
        refine lv_aload_n hx hb d_X3_settle_12 rfl (lv_at hl 0 rfl) ?_
        refine va_get (D := D) (ci := 3) (v := .int (σ 3 9)) (C := "LinkedUnits$Grammar") (T := TX3) (N := 12) hx hb hg iwX3 hown hK hP 2 rfl rfl 9 (by decide) (hg _ m_114) (fun _ h9 => h9) rfl d_X3_settle_13 ?_
        refine lv_iconst (v := 1) hx hb d_X3_settle_16 (by decide) ?_
        refine lv_isub hx hb d_X3_settle_17 ?_
        refine s_call1 (x := ((r 22), .inl (cy 1, 400, .inl (σ 22)))) 21 rfl (va_runSN (As := [.ref (r 22), .int ((σ 3 9) - 1)]) (rest := []) ⟨hx, hb, hml, hown, hg⟩ (c_at_any l D cy H.size (r 22) 400 (σ 22) ((σ 3 9) - 1) (Nat.le_of_ble_eq_true rfl)) ⟨(va_cnB 2 hg (gw_c m_949) rfl rfl rfl (hNW.1 _ nm_947) (hg _ m_1) (by decide +kernel) ⟨(Nat.le_of_ble_eq_true rfl), (Nat.le_of_ble_eq_true rfl)⟩), hg _ m_948, trivial⟩ (s_pre (ws := [((r 22), .inl (cy 1, 400, .inl (σ 22)))]) (s_sub1 21 hP rfl) (s_subD 21 hD rfl) hK hNW) rfl rfl hl.1 rfl (lv_room (Nat.le_of_ble_eq_true rfl)) d_X3_settle_18 ⟨(Nat.le_of_ble_eq_true rfl), (Nat.le_of_ble_eq_true rfl)⟩) hP hD hS hA (fun r1 u1 H locs hw hP hD hS => ?_)
        have hP : va_P D vwCl (wB cy r σ) H := hP
        have hD : va_D A (wB cy r σ) := hD
        refine lv_istore_n (lv' := [(3, .int r1), (0, .ref (r 3)), (1, .int x1), (2, .int x2)]) hx hb d_X3_settle_21 rfl hl (by decide) rfl (fun ls hl => ?_)
        refine lv_aload_n hx hb d_X3_settle_22 rfl (lv_at hl 1 rfl) ?_
        refine va_get (D := D) (ci := 3) (v := .ref (r 2)) (C := "LinkedUnits$Grammar") (T := TX3) (N := 12) hx hb hg iwX3 hown hK hP 2 rfl rfl 0 (by decide) (hg _ m_94) (fun _ h9 => h9) rfl d_X3_settle_23 ?_
        refine va_getN (D := D) (ci := 10) (v := .ref (r 13)) (C := "LinkedUnits$Tokens") (T := TX10) (N := 10) hx hb hg iwX10 hown hK hP 1 rfl rfl 5 (by decide) (va_Nw.use rfl (hNW.1 _ nm_50)) (fun _ h9 => h9) rfl d_X3_settle_26 ?_
        refine lv_iload_n hx hb d_X3_settle_29 rfl (lv_at hl 0 rfl) ?_
        refine s_call1 (x := ((r 13), .inl (cy 1, 16002, .inl (σ 13)))) 12 rfl (va_runSN (As := [.ref (r 13), .int r1]) (rest := []) ⟨hx, hb, hml, hown, hg⟩ (c_at_any l D cy H.size (r 13) 16002 (σ 13) r1 (Nat.le_of_ble_eq_true rfl)) ⟨(va_cnB 2 hg (gw_c m_949) rfl rfl rfl (hNW.1 _ nm_947) (hg _ m_1) (by decide +kernel) ⟨(Nat.le_of_ble_eq_true rfl), (Nat.le_of_ble_eq_true rfl)⟩), hg _ m_948, trivial⟩ (s_pre (ws := [((r 13), .inl (cy 1, 16002, .inl (σ 13)))]) (s_sub1 12 hP rfl) (s_subD 12 hD rfl) hK hNW) rfl rfl hl.1 rfl (lv_room (Nat.le_of_ble_eq_true rfl)) d_X3_settle_30 ⟨(Nat.le_of_ble_eq_true rfl), (Nat.le_of_ble_eq_true rfl)⟩) hP hD hS hA (fun r2 u2 H locs hw hP hD hS => ?_)
        have hP : va_P D vwCl (wB cy r σ) H := hP
        have hD : va_D A (wB cy r σ) := hD
        refine s_calli (X := Unit) (w1 := fun _ => wB cy r σ) (va_runS (As := [.int r2]) (rest := []) ⟨hx, hb, hml, hown, hg⟩ (s_X3_levelOf l D cy H.size w g r σ r2 inv ) (cwS 1 hg (gw_S m_970 m_971 m_3 m_972) rfl rfl rfl (by decide +kernel) ⟨(Nat.le_of_ble_eq_true rfl), (Nat.le_of_ble_eq_true rfl)⟩) (s_preE (gE_ok w g) hS hA hE hP hD hK hNW) rfl rfl hl.1 rfl (lv_room (Nat.le_of_ble_eq_true rfl)) d_X3_settle_33 ⟨(Nat.le_of_ble_eq_true rfl), (Nat.le_of_ble_eq_true rfl)⟩) hP hD hS hA (fun r3 u3 H locs hw hP hD hS => ?_)
        have hP : va_P D vwCl (wB cy r σ) H := hP
        have hD : va_D A (wB cy r σ) := hD
        refine lv_iload_n hx hb d_X3_settle_36 rfl (lv_at hl 3 rfl) ?_
        refine lv_icmp_ge (tgt := 41) hx hb d_X3_settle_37 (by decide) (fun c_37 => ?_) (fun c_37 => ?_)
        · -- taken at 37
          refine lv_aload_n hx hb d_X3_settle_41 rfl (lv_at hl 1 rfl) ?_
          refine lv_bipush (v := 8) hx hb d_X3_settle_42 (by decide) ?_
          refine lv_iload_n hx hb d_X3_settle_44 rfl (lv_at hl 0 rfl) ?_
          refine lv_iconst (v := 0) hx hb d_X3_settle_45 (by decide) ?_
          refine lv_iconst (v := 0) hx hb d_X3_settle_46 (by decide) ?_
          refine s_calli (X := St) (w1 := fun τ => wB cy r τ) (va_runV (As := [.int 8, .int r1, .int 0, .int 0]) (rest := []) ⟨hx, hb, hml, hown, hg⟩ (s_X3_add l D cy H.size w g r σ (8 : Int32) r1 (0 : Int32) (0 : Int32) inv ) (cwV 4 hg (gw_V m_923 m_925 ms_X3_add m_3 m_926) rfl rfl rfl (by decide +kernel) ⟨(Nat.le_of_ble_eq_true rfl), (Nat.le_of_ble_eq_true rfl)⟩) (s_preVE (As := [.int 8, .int r1, .int 0, .int 0]) (gE_ok w g) hS hA hE hP hD hK hNW 2 rfl rfl) rfl rfl hl.1 rfl (lv_room (Nat.le_of_ble_eq_true rfl)) d_X3_settle_47 ⟨(Nat.le_of_ble_eq_true rfl), (Nat.le_of_ble_eq_true rfl)⟩) hP hD hS hA (fun r4 σ4 H locs hw hP hD hS => ?_)
          have hP : va_P D vwCl (wB cy r σ4) H := hP
          have hD : va_D A (wB cy r σ4) := hD
          have ik4 : Keep [(3, 4)] [18, 19, 20, 21] σ σ4 := hw.2
          have kp : Keep [(3, 4), (3, 9)] [18, 19, 20, 21] σ0 σ4 := keep_c kp ik4 (by decide) (by decide)
          have i4 : Inv σ4 := hw.1
          refine lv_pop hx hb d_X3_settle_50 rfl ?_
          refine lv_aload_n hx hb d_X3_settle_51 rfl (lv_at hl 1 rfl) ?_
          refine lv_dup hx hb d_X3_settle_52 rfl ?_
          refine va_get (D := D) (ci := 3) (v := .int (σ4 3 9)) (C := "LinkedUnits$Grammar") (T := TX3) (N := 12) hx hb hg iwX3 hown hK hP 2 rfl rfl 9 (by decide) (hg _ m_114) (fun _ h9 => h9) rfl d_X3_settle_53 ?_
          refine k_topi (σ 3 9) (ik4 3 9 rfl rfl) ?_
          refine lv_iconst (v := 1) hx hb d_X3_settle_56 (by decide) ?_
          refine lv_isub hx hb d_X3_settle_57 ?_
          refine va_put (D := D) (ci := 3) (v := .int ((σ 3 9) - 1)) (ty := .int) (C := "LinkedUnits$Grammar") (T := TX3) (N := 12) hx hb hg iwX3 tyX3 tyX3_ok nmX3 hown hK hP hD hS 2 rfl rfl 9 (by decide) (hg _ m_114) (fun _ h9 => h9) rfl (by decide +kernel) rfl rfl (Nat.le_of_ble_eq_true rfl) d_X3_settle_58 (fun H locs hP hD hS => ?_)
          have hP : va_P D vwCl (wB cy r (upC σ4 3 9 ((σ 3 9) - 1))) H := hP
          have hD : va_D A (wB cy r (upC σ4 3 9 ((σ 3 9) - 1))) := hD
          have kp : Keep [(3, 4), (3, 9)] [18, 19, 20, 21] σ0 (upC σ4 3 9 ((σ 3 9) - 1)) := keep_f kp (by decide)
          refine lv_goto (tgt := 0) hx hb d_X3_settle_61 (by decide) ?_
          exact ih0 _ (by show dnm ((σ 3 9) - 1) < _; have hN := N0; unfold dnm at hN ⊢; have e0 := s_rng (σ 3 9); have e1 : (1 : Int32).toInt = 1 := (by decide); obtain ⟨k2, e2⟩ := s_sub (σ 3 9) (1 : Int32); have e3 := s_rng ((σ 3 9) - 1); have e4 := s_rng x1; have e5 := s_nle c_5; omega) (upC σ4 3 9 ((σ 3 9) - 1)) x1 x2 _ _ _ rfl i4 kp hP hD hS (lv_sub hl [1, 2, 3] rfl)
        · -- not taken at 37
          refine W.widen (k := 0) (n := 0) (Nat.le_of_ble_eq_true rfl) (Nat.le_of_ble_eq_true rfl) ?_
          exact k_vret (X := St) (w1 := fun τ => wB cy r τ) σ hx hb hr d_X3_settle_40 hlocks hP hK hD hS ⟨inv, kp⟩
  have kp : Keep [(3, 4), (3, 9)] [18, 19, 20, 21] σ0 σ0 := keep_rf
  obtain ⟨H, hH⟩ : ∃ H, H = s.heap := ⟨_, rfl⟩
  rw [← hH] at hP
  have hS : va_S A s.heap H [] := by rw [hH]; exact va_S.rf
  have hgoal : W p l e ({ frames := 1, cells := 0, slots := 0, locals := 25 } : Room) s m (([.ref (r 3), .int a1, .int a2] : List Value).toArray) below meth c H [] 0 0 (MQ below (va_Qv (S := St) (fun (τ : St) => (Inv τ ∧ Keep [(3, 4), (3, 9)] [18, 19, 20, 21] σ0 τ)) (fun τ => kPost D cy A (wB cy r τ)) A) (([.ref (r 3), .int a1, .int a2] : List Value).toArray) s 0 0 A) (F0 m 0 ls []) := by
    exact b0 _ σ0 a1 a2 _ _ _ rfl i0 kp hP hD hS (lv_sub hl [0, 1, 2] rfl)
  rw [hH] at hgoal
  exact hgoal
set_option maxHeartbeats 4000000 in
set_option maxRecDepth 100000 in
theorem s_X10_skipLine (l : Launch) (D : va_G) (cy : Nat → ClassId) (sz : Nat) (w : Nat → Nat) (g : Nat → Nat → Int32) (r : Nat → Nat) (σ0 : St) (i0 : Inv σ0) : Met l y_X10_skipLine (Cond.code y_X10_skipLine b_X10_skipLine 1 (some .boolean) :: GW) ({ frames := 2, cells := 0, slots := 0, locals := 44 } : Room) (va_Pc [.ref (r 2)] (kPreE D cy sz (wB cy r σ0) (gE w g))) ((fun A : Nat → Prop => va_Qi (S := St) (fun (v9 : Int32) (τ : St) => (v9 = 0 ∨ v9 = 1) ∧ (Inv τ ∧ Keep [(2, 2), (2, 4)] [13, 14, 15, 16] σ0 τ)) (fun τ => kPost D cy A (wB cy r τ)) A) (va_A (wB cy r σ0) sz)) 0 0 (va_A (wB cy r σ0) sz) := by
  refine k_ofWE (Qc := fun A => va_Qi (S := St) (fun (v9 : Int32) (τ : St) => (v9 = 0 ∨ v9 = 1) ∧ (Inv τ ∧ Keep [(2, 2), (2, 4)] [13, 14, 15, 16] σ0 τ)) (fun τ => kPost D cy A (wB cy r τ)) A) (by decide) (Nat.le_of_ble_eq_true rfl) ?_
  intro p e s m below meth c A ls hx hb hr hml hown hlocks hin hg hNW hK hP hD hA hS hl hE
  have hl : lv_has ls 1 [(0, .ref (r 2))] := hl
  have hown : s.vm.findClass "LinkedUnits$Tokens" = some m.cls := hown
  have b0 : ∀ (N : Nat) (σ : St) (H : Heap) (locs : List Loc) (ls : Array Slot), upm (σ 2 2) = N → Inv σ → Keep [(2, 2), (2, 4)] [13, 14, 15, 16] σ0 σ → va_P D vwCl (wB cy r σ) H → va_D A (wB cy r σ) → va_S A s.heap H locs → lv_has ls 1 [(0, .ref (r 2))] → W p l e ({ frames := 2, cells := 0, slots := 0, locals := 44 } : Room) s m (([.ref (r 2)] : List Value).toArray) below meth c H locs 0 0 (MQ below (va_Qi (S := St) (fun (v9 : Int32) (τ : St) => (v9 = 0 ∨ v9 = 1) ∧ (Inv τ ∧ Keep [(2, 2), (2, 4)] [13, 14, 15, 16] σ0 τ)) (fun τ => kPost D cy A (wB cy r τ)) A) (([.ref (r 2)] : List Value).toArray) s 0 0 A) (F0 m 0 ls []) := by
    intro M0
    induction M0 using Nat.strongRecOn with
    | _ M0 ih0 =>
      intro σ H locs ls N0 inv kp hP hD hS hl
      refine lv_aload_n hx hb d_X10_skipLine_0 rfl (lv_at hl 0 rfl) ?_
      refine va_get (D := D) (ci := 10) (v := .int (σ 2 2)) (C := "LinkedUnits$Tokens") (T := TX10) (N := 10) hx hb hg iwX10 hown hK hP 1 rfl rfl 2 (by decide) (hg _ m_44) (fun _ h9 => h9) rfl d_X10_skipLine_1 ?_
      refine lv_aload_n hx hb d_X10_skipLine_4 rfl (lv_at hl 0 rfl) ?_
      refine va_get (D := D) (ci := 10) (v := .int (σ 2 1)) (C := "LinkedUnits$Tokens") (T := TX10) (N := 10) hx hb hg iwX10 hown hK hP 1 rfl rfl 1 (by decide) (hg _ m_43) (fun _ h9 => h9) rfl d_X10_skipLine_5 ?_
      refine lv_icmp_ge (tgt := 60) hx hb d_X10_skipLine_8 (by decide) (fun c_8 => ?_) (fun c_8 => ?_)
      · -- taken at 8
        refine lv_iconst (v := 1) hx hb d_X10_skipLine_60 (by decide) ?_
        refine W.widen (k := 0) (n := 0) (Nat.le_of_ble_eq_true rfl) (Nat.le_of_ble_eq_true rfl) ?_
        exact k_zret (X := St) (w1 := fun τ => wB cy r τ) σ hx hb hr (k_nz (Or.inr rfl)) d_X10_skipLine_61 hlocks hP hK hD hS ⟨(Or.inr rfl), ⟨inv, kp⟩⟩
      · -- not taken at 8
        refine lv_aload_n hx hb d_X10_skipLine_11 rfl (lv_at hl 0 rfl) ?_
        refine lv_aload_n hx hb d_X10_skipLine_12 rfl (lv_at hl 0 rfl) ?_
        refine va_get (D := D) (ci := 10) (v := .int (σ 2 2)) (C := "LinkedUnits$Tokens") (T := TX10) (N := 10) hx hb hg iwX10 hown hK hP 1 rfl rfl 2 (by decide) (hg _ m_44) (fun _ h9 => h9) rfl d_X10_skipLine_13 ?_
        refine s_calli (X := Unit) (w1 := fun _ => wB cy r σ) (va_runV (As := [.int (σ 2 2)]) (rest := []) ⟨hx, hb, hml, hown, hg⟩ (s_X10_byteAt l D cy H.size w g r σ (σ 2 2) inv ) (cwV 1 hg (gw_V m_806 m_808 ms_X10_byteAt m_2 m_809) rfl rfl rfl (by decide +kernel) ⟨(Nat.le_of_ble_eq_true rfl), (Nat.le_of_ble_eq_true rfl)⟩) (s_preVE (As := [.int (σ 2 2)]) (gE_ok w g) hS hA hE hP hD hK hNW 1 rfl rfl) rfl rfl hl.1 rfl (lv_room (Nat.le_of_ble_eq_true rfl)) d_X10_skipLine_16 ⟨(Nat.le_of_ble_eq_true rfl), (Nat.le_of_ble_eq_true rfl)⟩) hP hD hS hA (fun r1 u1 H locs hw hP hD hS => ?_)
        have hP : va_P D vwCl (wB cy r σ) H := hP
        have hD : va_D A (wB cy r σ) := hD
        refine lv_bipush (v := 10) hx hb d_X10_skipLine_19 (by decide) ?_
        refine lv_icmp_eq (tgt := 60) hx hb d_X10_skipLine_21 (by decide) (fun c_21 => ?_) (fun c_21 => ?_)
        · -- taken at 21
          refine lv_iconst (v := 1) hx hb d_X10_skipLine_60 (by decide) ?_
          refine W.widen (k := 0) (n := 0) (Nat.le_of_ble_eq_true rfl) (Nat.le_of_ble_eq_true rfl) ?_
          exact k_zret (X := St) (w1 := fun τ => wB cy r τ) σ hx hb hr (k_nz (Or.inr rfl)) d_X10_skipLine_61 hlocks hP hK hD hS ⟨(Or.inr rfl), ⟨inv, kp⟩⟩
        · -- not taken at 21
          refine lv_aload_n hx hb d_X10_skipLine_24 rfl (lv_at hl 0 rfl) ?_
          refine lv_aload_n hx hb d_X10_skipLine_25 rfl (lv_at hl 0 rfl) ?_
          refine va_get (D := D) (ci := 10) (v := .int (σ 2 2)) (C := "LinkedUnits$Tokens") (T := TX10) (N := 10) hx hb hg iwX10 hown hK hP 1 rfl rfl 2 (by decide) (hg _ m_44) (fun _ h9 => h9) rfl d_X10_skipLine_26 ?_
          refine s_calli (X := Unit) (w1 := fun _ => wB cy r σ) (va_runV (As := [.int (σ 2 2)]) (rest := []) ⟨hx, hb, hml, hown, hg⟩ (s_X10_byteAt l D cy H.size w g r σ (σ 2 2) inv ) (cwV 1 hg (gw_V m_806 m_808 ms_X10_byteAt m_2 m_809) rfl rfl rfl (by decide +kernel) ⟨(Nat.le_of_ble_eq_true rfl), (Nat.le_of_ble_eq_true rfl)⟩) (s_preVE (As := [.int (σ 2 2)]) (gE_ok w g) hS hA hE hP hD hK hNW 1 rfl rfl) rfl rfl hl.1 rfl (lv_room (Nat.le_of_ble_eq_true rfl)) d_X10_skipLine_29 ⟨(Nat.le_of_ble_eq_true rfl), (Nat.le_of_ble_eq_true rfl)⟩) hP hD hS hA (fun r2 u2 H locs hw hP hD hS => ?_)
          have hP : va_P D vwCl (wB cy r σ) H := hP
          have hD : va_D A (wB cy r σ) := hD
          refine s_call0 (va_runS (As := [.int r2]) (rest := []) ⟨hx, hb, hml, hown, hg⟩ (s_X10_mayOccur l D cy H.size r2 ) (cwS 1 hg (gw_S m_814 m_815 m_2 m_816) rfl rfl rfl (by decide +kernel) ⟨(Nat.le_of_ble_eq_true rfl), (Nat.le_of_ble_eq_true rfl)⟩) (s_pre (ws := []) (A := A) (fun k q h => by simp at h) ⟨fun i j p q h => by simp at h, fun k q h => by simp at h⟩ hK hNW) rfl rfl hl.1 rfl (lv_room (Nat.le_of_ble_eq_true rfl)) d_X10_skipLine_32 ⟨(Nat.le_of_ble_eq_true rfl), (Nat.le_of_ble_eq_true rfl)⟩) hP hD hS hA (fun r3 u3 H locs hw hP hD hS => ?_)
          have hP : va_P D vwCl (wB cy r σ) H := hP
          have hD : va_D A (wB cy r σ) := hD
          have hz3 : r3 = 0 ∨ r3 = 1 := hw.1
          refine lv_if_ne (tgt := 47) hx hb d_X10_skipLine_35 (by decide) (fun c_35 => ?_) (fun c_35 => ?_)
          · -- taken at 35
            refine lv_aload_n hx hb d_X10_skipLine_47 rfl (lv_at hl 0 rfl) ?_
            refine lv_dup hx hb d_X10_skipLine_48 rfl ?_
            refine va_get (D := D) (ci := 10) (v := .int (σ 2 2)) (C := "LinkedUnits$Tokens") (T := TX10) (N := 10) hx hb hg iwX10 hown hK hP 1 rfl rfl 2 (by decide) (hg _ m_44) (fun _ h9 => h9) rfl d_X10_skipLine_49 ?_
            refine lv_iconst (v := 1) hx hb d_X10_skipLine_52 (by decide) ?_
            refine lv_iadd hx hb d_X10_skipLine_53 ?_
            refine va_put (D := D) (ci := 10) (v := .int ((σ 2 2) + 1)) (ty := .int) (C := "LinkedUnits$Tokens") (T := TX10) (N := 10) hx hb hg iwX10 tyX10 tyX10_ok nmX10 hown hK hP hD hS 1 rfl rfl 2 (by decide) (hg _ m_44) (fun _ h9 => h9) rfl (by decide +kernel) rfl rfl (Nat.le_of_ble_eq_true rfl) d_X10_skipLine_54 (fun H locs hP hD hS => ?_)
            have hP : va_P D vwCl (wB cy r (upC σ 2 2 ((σ 2 2) + 1))) H := hP
            have hD : va_D A (wB cy r (upC σ 2 2 ((σ 2 2) + 1))) := hD
            have kp : Keep [(2, 2), (2, 4)] [13, 14, 15, 16] σ0 (upC σ 2 2 ((σ 2 2) + 1)) := keep_f kp (by decide)
            refine lv_goto (tgt := 0) hx hb d_X10_skipLine_57 (by decide) ?_
            exact ih0 _ (by show upm ((σ 2 2) + 1) < _; have hN := N0; unfold upm at hN ⊢; have e0 := s_rng (σ 2 2); have e1 : (1 : Int32).toInt = 1 := (by decide); obtain ⟨k2, e2⟩ := s_add (σ 2 2) (1 : Int32); have e3 := s_rng ((σ 2 2) + 1); have e4 := s_rng (σ 2 1); have e5 := inv.1; have e6 := s_nle c_8; omega) (upC σ 2 2 ((σ 2 2) + 1))  _ _ _ rfl inv kp hP hD hS (lv_sub hl [0] rfl)
          · -- not taken at 35
            refine lv_aload_n hx hb d_X10_skipLine_38 rfl (lv_at hl 0 rfl) ?_
            refine lv_aload_n hx hb d_X10_skipLine_39 rfl (lv_at hl 0 rfl) ?_
            refine va_get (D := D) (ci := 10) (v := .int (σ 2 2)) (C := "LinkedUnits$Tokens") (T := TX10) (N := 10) hx hb hg iwX10 hown hK hP 1 rfl rfl 2 (by decide) (hg _ m_44) (fun _ h9 => h9) rfl d_X10_skipLine_40 ?_
            refine s_calli (X := St) (w1 := fun τ => wB cy r τ) (va_runV (As := [.int (σ 2 2)]) (rest := []) ⟨hx, hb, hml, hown, hg⟩ (s_X10_bad l D cy H.size w g r σ (σ 2 2) inv ) (cwV 1 hg (gw_V m_817 m_819 ms_X10_bad m_2 m_820) rfl rfl rfl (by decide +kernel) ⟨(Nat.le_of_ble_eq_true rfl), (Nat.le_of_ble_eq_true rfl)⟩) (s_preVE (As := [.int (σ 2 2)]) (gE_ok w g) hS hA hE hP hD hK hNW 1 rfl rfl) rfl rfl hl.1 rfl (lv_room (Nat.le_of_ble_eq_true rfl)) d_X10_skipLine_43 ⟨(Nat.le_of_ble_eq_true rfl), (Nat.le_of_ble_eq_true rfl)⟩) hP hD hS hA (fun r4 σ4 H locs hw hP hD hS => ?_)
            have hP : va_P D vwCl (wB cy r σ4) H := hP
            have hD : va_D A (wB cy r σ4) := hD
            have ik4 : Keep [(2, 2), (2, 4)] [13, 14, 15, 16] σ σ4 := hw.2.2
            have kp : Keep [(2, 2), (2, 4)] [13, 14, 15, 16] σ0 σ4 := keep_c kp ik4 (by decide) (by decide)
            have i4 : Inv σ4 := hw.2.1
            have hz4 : r4 = 0 ∨ r4 = 1 := hw.1
            refine W.widen (k := 0) (n := 0) (Nat.le_of_ble_eq_true rfl) (Nat.le_of_ble_eq_true rfl) ?_
            exact k_zret (X := St) (w1 := fun τ => wB cy r τ) σ4 hx hb hr (k_nz hz4) d_X10_skipLine_46 hlocks hP hK hD hS ⟨hz4, ⟨i4, kp⟩⟩
  have kp : Keep [(2, 2), (2, 4)] [13, 14, 15, 16] σ0 σ0 := keep_rf
  obtain ⟨H, hH⟩ : ∃ H, H = s.heap := ⟨_, rfl⟩
  rw [← hH] at hP
  have hS : va_S A s.heap H [] := by rw [hH]; exact va_S.rf
  have hgoal : W p l e ({ frames := 2, cells := 0, slots := 0, locals := 44 } : Room) s m (([.ref (r 2)] : List Value).toArray) below meth c H [] 0 0 (MQ below (va_Qi (S := St) (fun (v9 : Int32) (τ : St) => (v9 = 0 ∨ v9 = 1) ∧ (Inv τ ∧ Keep [(2, 2), (2, 4)] [13, 14, 15, 16] σ0 τ)) (fun τ => kPost D cy A (wB cy r τ)) A) (([.ref (r 2)] : List Value).toArray) s 0 0 A) (F0 m 0 ls []) := by
    exact b0 _ σ0  _ _ _ rfl i0 kp hP hD hS (lv_sub hl [0] rfl)
  rw [hH] at hgoal
  exact hgoal
