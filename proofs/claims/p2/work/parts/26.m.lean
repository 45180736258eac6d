set_option maxHeartbeats 4000000 in
set_option maxRecDepth 100000 in
theorem s_X5_plain (l : Launch) (D : va_G) (cy : Nat → ClassId) (sz : Nat) (w : Nat → Nat) (g : Nat → Nat → Int32) (r : Nat → Nat) (σ0 : St) (a1 : Int32) (a2 : Int32) (i0 : Inv σ0) : Met l y_X5_plain (Cond.code y_X5_plain b_X5_plain 5 none :: GW) ({ frames := 3, cells := 0, slots := 0, locals := 67 } : Room) (va_Pc [.ref (r 12), .int a1, .int a2] (kPreE D cy sz (wB cy r σ0) (gE w g))) ((fun A : Nat → Prop => va_Qv (S := St) (fun (τ : St) => (Inv τ ∧ Keep [(12, 9)] [62, 63] σ0 τ)) (fun τ => kPost D cy A (wB cy r τ)) A) (va_A (wB cy r σ0) sz)) 0 0 (va_A (wB cy r σ0) sz) := by
  refine k_ofWE (Qc := fun A => va_Qv (S := St) (fun (τ : St) => (Inv τ ∧ Keep [(12, 9)] [62, 63] σ0 τ)) (fun τ => kPost D cy A (wB cy r τ)) A) (by decide) (Nat.le_of_ble_eq_true rfl) ?_
  intro p e s m below meth c A ls hx hb hr hml hown hlocks hin hg hNW hK hP hD hA hS hl hE
  have hl : lv_has ls 5 [(0, .ref (r 12)), (1, .int a1), (2, .int a2)] := hl
  have hown : s.vm.findClass "LinkedUnits$Machine" = some m.cls := hown
  have kp : Keep [(12, 9)] [62, 63] σ0 σ0 := keep_rf
  obtain ⟨H, hH⟩ : ∃ H, H = s.heap := ⟨_, rfl⟩
  rw [← hH] at hP
  have hS : va_S A s.heap H [] := by rw [hH]; exact va_S.rf
  have hgoal : W p l e ({ frames := 3, cells := 0, slots := 0, locals := 67 } : Room) s m (([.ref (r 12), .int a1, .int a2] : List Value).toArray) below meth c H [] 0 0 (MQ below (va_Qv (S := St) (fun (τ : St) => (Inv τ ∧ Keep [(12, 9)] [62, 63] σ0 τ)) (fun τ => kPost D cy A (wB cy r τ)) A) (([.ref (r 12), .int a1, .int a2] : List Value).toArray) s 0 0 A) (F0 m 0 ls []) := by
    refine lv_aload_n hx hb d_X5_plain_0 rfl (lv_at hl 0 rfl) ?_
    refine va_get (D := D) (ci := 5) (v := .ref (r 24)) (C := "LinkedUnits$Machine") (T := TX5) (N := 19) hx hb hg iwX5 hown hK hP 11 rfl rfl 3 (by decide) (hg _ m_674) (fun _ h9 => h9) rfl d_X5_plain_1 ?_
    refine lv_iload_n hx hb d_X5_plain_4 rfl (lv_at hl 2 rfl) ?_
    refine lv_iconst (v := 1) hx hb d_X5_plain_5 (by decide) ?_
    refine lv_iadd hx hb d_X5_plain_6 ?_
    refine s_call1 (x := ((r 24), .inl (cy 1, 262208, .inl (σ0 24)))) 23 rfl (va_runSN (As := [.ref (r 24), .int (a2 + 1)]) (rest := []) ⟨hx, hb, hml, hown, hg⟩ (c_at_any l D cy H.size (r 24) 262208 (σ0 24) (a2 + 1) (Nat.le_of_ble_eq_true rfl)) ⟨(va_cnB 2 hg (gw_c m_949) rfl rfl rfl (hNW.1 _ nm_1660) (hg _ m_1) (by decide +kernel) ⟨(Nat.le_of_ble_eq_true rfl), (Nat.le_of_ble_eq_true rfl)⟩), hg _ m_948, trivial⟩ (s_pre (ws := [((r 24), .inl (cy 1, 262208, .inl (σ0 24)))]) (s_sub1 23 hP rfl) (s_subD 23 hD rfl) hK hNW) rfl rfl hl.1 rfl (lv_room (Nat.le_of_ble_eq_true rfl)) d_X5_plain_7 ⟨(Nat.le_of_ble_eq_true rfl), (Nat.le_of_ble_eq_true rfl)⟩) hP hD hS hA (fun r1 u1 H locs hw hP hD hS => ?_)
    have hP : va_P D vwCl (wB cy r σ0) H := hP
    have hD : va_D A (wB cy r σ0) := hD
    refine lv_istore_n (lv' := [(3, .int r1), (0, .ref (r 12)), (1, .int a1), (2, .int a2)]) hx hb d_X5_plain_10 rfl hl (by decide) rfl (fun ls hl => ?_)
    refine lv_aload_n hx hb d_X5_plain_11 rfl (lv_at hl 1 rfl) ?_
    refine va_get (D := D) (ci := 5) (v := .ref (r 24)) (C := "LinkedUnits$Machine") (T := TX5) (N := 19) hx hb hg iwX5 hown hK hP 11 rfl rfl 3 (by decide) (hg _ m_674) (fun _ h9 => h9) rfl d_X5_plain_12 ?_
    refine lv_iload_n hx hb d_X5_plain_15 rfl (lv_at hl 3 rfl) ?_
    refine lv_iconst (v := 2) hx hb d_X5_plain_16 (by decide) ?_
    refine lv_iadd hx hb d_X5_plain_17 ?_
    refine s_call1 (x := ((r 24), .inl (cy 1, 262208, .inl (σ0 24)))) 23 rfl (va_runSN (As := [.ref (r 24), .int (a2 + 2)]) (rest := []) ⟨hx, hb, hml, hown, hg⟩ (c_at_any l D cy H.size (r 24) 262208 (σ0 24) (a2 + 2) (Nat.le_of_ble_eq_true rfl)) ⟨(va_cnB 2 hg (gw_c m_949) rfl rfl rfl (hNW.1 _ nm_1660) (hg _ m_1) (by decide +kernel) ⟨(Nat.le_of_ble_eq_true rfl), (Nat.le_of_ble_eq_true rfl)⟩), hg _ m_948, trivial⟩ (s_pre (ws := [((r 24), .inl (cy 1, 262208, .inl (σ0 24)))]) (s_sub1 23 hP rfl) (s_subD 23 hD rfl) hK hNW) rfl rfl hl.1 rfl (lv_room (Nat.le_of_ble_eq_true rfl)) d_X5_plain_18 ⟨(Nat.le_of_ble_eq_true rfl), (Nat.le_of_ble_eq_true rfl)⟩) hP hD hS hA (fun r2 u2 H locs hw hP hD hS => ?_)
    have hP : va_P D vwCl (wB cy r σ0) H := hP
    have hD : va_D A (wB cy r σ0) := hD
    refine lv_istore (lv' := [(4, .int r2), (3, .int r1), (0, .ref (r 12)), (1, .int a1), (2, .int a2)]) hx hb d_X5_plain_21 hl (by decide) rfl (fun ls hl => ?_)
    refine lv_iload_n hx hb d_X5_plain_23 rfl (lv_at hl 3 rfl) ?_
    refine (Decidable.em (a1 = 1)).elim (fun q24_0 => ?_) (fun q24_0 => ?_)
    · refine k_topi 1 q24_0 ?_
      refine lv_tableIn (off := 52) (tgt := 76) hx hb d_X5_plain_24 (by decide +kernel) (by decide +kernel) (by decide +kernel) (by decide) ?_
      refine lv_aload_n hx hb d_X5_plain_76 rfl (lv_at hl 2 rfl) ?_
      refine lv_iload_n hx hb d_X5_plain_77 rfl (lv_at hl 1 rfl) ?_
      refine s_callv (X := St) (w1 := fun τ => wB cy r τ) (va_runV (As := [.int r1]) (rest := []) ⟨hx, hb, hml, hown, hg⟩ (s_X5_push l D cy H.size w g r σ0 r1 i0 ) (cwV 1 hg (gw_V m_1686 m_1688 ms_X5_push m_17 m_1689) rfl rfl rfl (by decide +kernel) ⟨(Nat.le_of_ble_eq_true rfl), (Nat.le_of_ble_eq_true rfl)⟩) (s_preVE (As := [.int r1]) (gE_ok w g) hS hA hE hP hD hK hNW 11 rfl rfl) rfl rfl hl.1 rfl (lv_room (Nat.le_of_ble_eq_true rfl)) d_X5_plain_78 ⟨(Nat.le_of_ble_eq_true rfl), (Nat.le_of_ble_eq_true rfl)⟩) hP hD hS hA (fun σ3 H locs hw hP hD hS => ?_)
      have hP : va_P D vwCl (wB cy r σ3) H := hP
      have hD : va_D A (wB cy r σ3) := hD
      have ik3 : Keep [(12, 9)] [63] σ0 σ3 := hw.2
      have kp : Keep [(12, 9)] [62, 63] σ0 σ3 := keep_c kp ik3 (by decide) (by decide)
      have i3 : Inv σ3 := hw.1
      refine lv_goto (tgt := 259) hx hb d_X5_plain_81 (by decide) ?_
      refine W.widen (k := 0) (n := 0) (Nat.le_of_ble_eq_true rfl) (Nat.le_of_ble_eq_true rfl) ?_
      exact k_vret (X := St) (w1 := fun τ => wB cy r τ) σ3 hx hb hr d_X5_plain_259 hlocks hP hK hD hS ⟨i3, kp⟩
    refine (Decidable.em (a1 = 2)).elim (fun q24_1 => ?_) (fun q24_1 => ?_)
    · refine k_topi 2 q24_1 ?_
      refine lv_tableIn (off := 60) (tgt := 84) hx hb d_X5_plain_24 (by decide +kernel) (by decide +kernel) (by decide +kernel) (by decide) ?_
      refine lv_aload_n hx hb d_X5_plain_84 rfl (lv_at hl 2 rfl) ?_
      refine s_calli (X := St) (w1 := fun τ => wB cy r τ) (va_runV (As := []) (rest := []) ⟨hx, hb, hml, hown, hg⟩ (s_X5_pop l D cy H.size w g r σ0  i0 ) (cwV 0 hg (gw_V m_1681 m_1683 ms_X5_pop m_17 m_1684) rfl rfl rfl (by decide +kernel) ⟨(Nat.le_of_ble_eq_true rfl), (Nat.le_of_ble_eq_true rfl)⟩) (s_preVE (As := []) (gE_ok w g) hS hA hE hP hD hK hNW 11 rfl rfl) rfl rfl hl.1 rfl (lv_room (Nat.le_of_ble_eq_true rfl)) d_X5_plain_85 ⟨(Nat.le_of_ble_eq_true rfl), (Nat.le_of_ble_eq_true rfl)⟩) hP hD hS hA (fun r4 σ4 H locs hw hP hD hS => ?_)
      have hP : va_P D vwCl (wB cy r σ4) H := hP
      have hD : va_D A (wB cy r σ4) := hD
      have ik4 : Keep [(12, 9)] [] σ0 σ4 := hw.2
      have kp : Keep [(12, 9)] [62, 63] σ0 σ4 := keep_c kp ik4 (by decide) (by decide)
      have i4 : Inv σ4 := hw.1
      refine lv_pop hx hb d_X5_plain_88 rfl ?_
      refine lv_goto (tgt := 259) hx hb d_X5_plain_89 (by decide) ?_
      refine W.widen (k := 0) (n := 0) (Nat.le_of_ble_eq_true rfl) (Nat.le_of_ble_eq_true rfl) ?_
      exact k_vret (X := St) (w1 := fun τ => wB cy r τ) σ4 hx hb hr d_X5_plain_259 hlocks hP hK hD hS ⟨i4, kp⟩
    refine (Decidable.em (a1 = 3)).elim (fun q24_2 => ?_) (fun q24_2 => ?_)
    · refine k_topi 3 q24_2 ?_
      refine lv_tableIn (off := 68) (tgt := 92) hx hb d_X5_plain_24 (by decide +kernel) (by decide +kernel) (by decide +kernel) (by decide) ?_
      refine lv_aload_n hx hb d_X5_plain_92 rfl (lv_at hl 2 rfl) ?_
      refine lv_aload_n hx hb d_X5_plain_93 rfl (lv_at hl 2 rfl) ?_
      refine va_get (D := D) (ci := 5) (v := .ref (r 10)) (C := "LinkedUnits$Machine") (T := TX5) (N := 19) hx hb hg iwX5 hown hK hP 11 rfl rfl 1 (by decide) (hg _ m_672) (fun _ h9 => h9) rfl d_X5_plain_94 ?_
      refine va_getN (D := D) (ci := 4) (v := .ref (r 58)) (C := "LinkedUnits$Image") (T := TX4) (N := 12) hx hb hg iwX4 hown hK hP 9 rfl rfl 9 (by decide) (va_Nw.use rfl (hNW.1 _ nm_610)) (fun _ h9 => h9) rfl d_X5_plain_97 ?_
      refine lv_iload_n hx hb d_X5_plain_100 rfl (lv_at hl 1 rfl) ?_
      refine s_call1 (x := ((r 58), .inl (cy 1, 101, .inl (σ0 58)))) 55 rfl (va_runSN (As := [.ref (r 58), .int r1]) (rest := [.ref (r 12)]) ⟨hx, hb, hml, hown, hg⟩ (c_at_any l D cy H.size (r 58) 101 (σ0 58) r1 (Nat.le_of_ble_eq_true rfl)) ⟨(va_cnB 2 hg (gw_c m_949) rfl rfl rfl (hNW.1 _ nm_1660) (hg _ m_1) (by decide +kernel) ⟨(Nat.le_of_ble_eq_true rfl), (Nat.le_of_ble_eq_true rfl)⟩), hg _ m_948, trivial⟩ (s_pre (ws := [((r 58), .inl (cy 1, 101, .inl (σ0 58)))]) (s_sub1 55 hP rfl) (s_subD 55 hD rfl) hK hNW) rfl rfl hl.1 rfl (lv_room (Nat.le_of_ble_eq_true rfl)) d_X5_plain_101 ⟨(Nat.le_of_ble_eq_true rfl), (Nat.le_of_ble_eq_true rfl)⟩) hP hD hS hA (fun r5 u5 H locs hw hP hD hS => ?_)
      have hP : va_P D vwCl (wB cy r σ0) H := hP
      have hD : va_D A (wB cy r σ0) := hD
      refine lv_iload hx hb d_X5_plain_104 (lv_at hl 0 rfl) ?_
      refine lv_iadd hx hb d_X5_plain_106 ?_
      refine s_callv (X := St) (w1 := fun τ => wB cy r τ) (va_runV (As := [.int (r5 + r2)]) (rest := []) ⟨hx, hb, hml, hown, hg⟩ (s_X5_push l D cy H.size w g r σ0 (r5 + r2) i0 ) (cwV 1 hg (gw_V m_1686 m_1688 ms_X5_push m_17 m_1689) rfl rfl rfl (by decide +kernel) ⟨(Nat.le_of_ble_eq_true rfl), (Nat.le_of_ble_eq_true rfl)⟩) (s_preVE (As := [.int (r5 + r2)]) (gE_ok w g) hS hA hE hP hD hK hNW 11 rfl rfl) rfl rfl hl.1 rfl (lv_room (Nat.le_of_ble_eq_true rfl)) d_X5_plain_107 ⟨(Nat.le_of_ble_eq_true rfl), (Nat.le_of_ble_eq_true rfl)⟩) hP hD hS hA (fun σ6 H locs hw hP hD hS => ?_)
      have hP : va_P D vwCl (wB cy r σ6) H := hP
      have hD : va_D A (wB cy r σ6) := hD
      have ik6 : Keep [(12, 9)] [63] σ0 σ6 := hw.2
      have kp : Keep [(12, 9)] [62, 63] σ0 σ6 := keep_c kp ik6 (by decide) (by decide)
      have i6 : Inv σ6 := hw.1
      refine lv_goto (tgt := 259) hx hb d_X5_plain_110 (by decide) ?_
      refine W.widen (k := 0) (n := 0) (Nat.le_of_ble_eq_true rfl) (Nat.le_of_ble_eq_true rfl) ?_
      exact k_vret (X := St) (w1 := fun τ => wB cy r τ) σ6 hx hb hr d_X5_plain_259 hlocks hP hK hD hS ⟨i6, kp⟩
    refine (Decidable.em (a1 = 4)).elim (fun q24_3 => ?_) (fun q24_3 => ?_)
    · refine k_topi 4 q24_3 ?_
      refine lv_tableIn (off := 89) (tgt := 113) hx hb d_X5_plain_24 (by decide +kernel) (by decide +kernel) (by decide +kernel) (by decide) ?_
      refine lv_aload_n hx hb d_X5_plain_113 rfl (lv_at hl 2 rfl) ?_
      refine lv_aload_n hx hb d_X5_plain_114 rfl (lv_at hl 2 rfl) ?_
      refine va_get (D := D) (ci := 5) (v := .ref (r 10)) (C := "LinkedUnits$Machine") (T := TX5) (N := 19) hx hb hg iwX5 hown hK hP 11 rfl rfl 1 (by decide) (hg _ m_672) (fun _ h9 => h9) rfl d_X5_plain_115 ?_
      refine va_getN (D := D) (ci := 4) (v := .ref (r 59)) (C := "LinkedUnits$Image") (T := TX4) (N := 12) hx hb hg iwX4 hown hK hP 9 rfl rfl 10 (by decide) (va_Nw.use rfl (hNW.1 _ nm_612)) (fun _ h9 => h9) rfl d_X5_plain_118 ?_
      refine lv_iload_n hx hb d_X5_plain_121 rfl (lv_at hl 1 rfl) ?_
      refine s_call1 (x := ((r 59), .inl (cy 1, 10100, .inl (σ0 59)))) 56 rfl (va_runSN (As := [.ref (r 59), .int r1]) (rest := [.ref (r 12)]) ⟨hx, hb, hml, hown, hg⟩ (c_at_any l D cy H.size (r 59) 10100 (σ0 59) r1 (Nat.le_of_ble_eq_true rfl)) ⟨(va_cnB 2 hg (gw_c m_949) rfl rfl rfl (hNW.1 _ nm_1660) (hg _ m_1) (by decide +kernel) ⟨(Nat.le_of_ble_eq_true rfl), (Nat.le_of_ble_eq_true rfl)⟩), hg _ m_948, trivial⟩ (s_pre (ws := [((r 59), .inl (cy 1, 10100, .inl (σ0 59)))]) (s_sub1 56 hP rfl) (s_subD 56 hD rfl) hK hNW) rfl rfl hl.1 rfl (lv_room (Nat.le_of_ble_eq_true rfl)) d_X5_plain_122 ⟨(Nat.le_of_ble_eq_true rfl), (Nat.le_of_ble_eq_true rfl)⟩) hP hD hS hA (fun r7 u7 H locs hw hP hD hS => ?_)
      have hP : va_P D vwCl (wB cy r σ0) H := hP
      have hD : va_D A (wB cy r σ0) := hD
      refine s_callv (X := St) (w1 := fun τ => wB cy r τ) (va_runV (As := [.int r7]) (rest := []) ⟨hx, hb, hml, hown, hg⟩ (s_X5_push l D cy H.size w g r σ0 r7 i0 ) (cwV 1 hg (gw_V m_1686 m_1688 ms_X5_push m_17 m_1689) rfl rfl rfl (by decide +kernel) ⟨(Nat.le_of_ble_eq_true rfl), (Nat.le_of_ble_eq_true rfl)⟩) (s_preVE (As := [.int r7]) (gE_ok w g) hS hA hE hP hD hK hNW 11 rfl rfl) rfl rfl hl.1 rfl (lv_room (Nat.le_of_ble_eq_true rfl)) d_X5_plain_125 ⟨(Nat.le_of_ble_eq_true rfl), (Nat.le_of_ble_eq_true rfl)⟩) hP hD hS hA (fun σ8 H locs hw hP hD hS => ?_)
      have hP : va_P D vwCl (wB cy r σ8) H := hP
      have hD : va_D A (wB cy r σ8) := hD
      have ik8 : Keep [(12, 9)] [63] σ0 σ8 := hw.2
      have kp : Keep [(12, 9)] [62, 63] σ0 σ8 := keep_c kp ik8 (by decide) (by decide)
      have i8 : Inv σ8 := hw.1
      refine lv_goto (tgt := 259) hx hb d_X5_plain_128 (by decide) ?_
      refine W.widen (k := 0) (n := 0) (Nat.le_of_ble_eq_true rfl) (Nat.le_of_ble_eq_true rfl) ?_
      exact k_vret (X := St) (w1 := fun τ => wB cy r τ) σ8 hx hb hr d_X5_plain_259 hlocks hP hK hD hS ⟨i8, kp⟩
    refine (Decidable.em (a1 = 5)).elim (fun q24_4 => ?_) (fun q24_4 => ?_)
    · refine k_topi 5 q24_4 ?_
      refine lv_tableIn (off := 107) (tgt := 131) hx hb d_X5_plain_24 (by decide +kernel) (by decide +kernel) (by decide +kernel) (by decide) ?_
      refine lv_aload_n hx hb d_X5_plain_131 rfl (lv_at hl 2 rfl) ?_
      refine lv_aload_n hx hb d_X5_plain_132 rfl (lv_at hl 2 rfl) ?_
      refine va_get (D := D) (ci := 5) (v := .ref (r 62)) (C := "LinkedUnits$Machine") (T := TX5) (N := 19) hx hb hg iwX5 hown hK hP 11 rfl rfl 4 (by decide) (hg _ m_675) (fun _ h9 => h9) rfl d_X5_plain_133 ?_
      refine lv_aload_n hx hb d_X5_plain_136 rfl (lv_at hl 2 rfl) ?_
      refine va_get (D := D) (ci := 5) (v := .ref (r 10)) (C := "LinkedUnits$Machine") (T := TX5) (N := 19) hx hb hg iwX5 hown hK hP 11 rfl rfl 1 (by decide) (hg _ m_672) (fun _ h9 => h9) rfl d_X5_plain_137 ?_
      refine va_getN (D := D) (ci := 4) (v := .ref (r 59)) (C := "LinkedUnits$Image") (T := TX4) (N := 12) hx hb hg iwX4 hown hK hP 9 rfl rfl 10 (by decide) (va_Nw.use rfl (hNW.1 _ nm_612)) (fun _ h9 => h9) rfl d_X5_plain_140 ?_
      refine lv_iload_n hx hb d_X5_plain_143 rfl (lv_at hl 1 rfl) ?_
      refine s_call1 (x := ((r 59), .inl (cy 1, 10100, .inl (σ0 59)))) 56 rfl (va_runSN (As := [.ref (r 59), .int r1]) (rest := [.ref (r 62), .ref (r 12)]) ⟨hx, hb, hml, hown, hg⟩ (c_at_any l D cy H.size (r 59) 10100 (σ0 59) r1 (Nat.le_of_ble_eq_true rfl)) ⟨(va_cnB 2 hg (gw_c m_949) rfl rfl rfl (hNW.1 _ nm_1660) (hg _ m_1) (by decide +kernel) ⟨(Nat.le_of_ble_eq_true rfl), (Nat.le_of_ble_eq_true rfl)⟩), hg _ m_948, trivial⟩ (s_pre (ws := [((r 59), .inl (cy 1, 10100, .inl (σ0 59)))]) (s_sub1 56 hP rfl) (s_subD 56 hD rfl) hK hNW) rfl rfl hl.1 rfl (lv_room (Nat.le_of_ble_eq_true rfl)) d_X5_plain_144 ⟨(Nat.le_of_ble_eq_true rfl), (Nat.le_of_ble_eq_true rfl)⟩) hP hD hS hA (fun r9 u9 H locs hw hP hD hS => ?_)
      have hP : va_P D vwCl (wB cy r σ0) H := hP
      have hD : va_D A (wB cy r σ0) := hD
      refine s_call1 (x := ((r 62), .inl (cy 1, 32768, .inl (σ0 62)))) 59 rfl (va_runSN (As := [.ref (r 62), .int r9]) (rest := [.ref (r 12)]) ⟨hx, hb, hml, hown, hg⟩ (c_at_any l D cy H.size (r 62) 32768 (σ0 62) r9 (Nat.le_of_ble_eq_true rfl)) ⟨(va_cnB 2 hg (gw_c m_949) rfl rfl rfl (hNW.1 _ nm_1660) (hg _ m_1) (by decide +kernel) ⟨(Nat.le_of_ble_eq_true rfl), (Nat.le_of_ble_eq_true rfl)⟩), hg _ m_948, trivial⟩ (s_pre (ws := [((r 62), .inl (cy 1, 32768, .inl (σ0 62)))]) (s_sub1 59 hP rfl) (s_subD 59 hD rfl) hK hNW) rfl rfl hl.1 rfl (lv_room (Nat.le_of_ble_eq_true rfl)) d_X5_plain_147 ⟨(Nat.le_of_ble_eq_true rfl), (Nat.le_of_ble_eq_true rfl)⟩) hP hD hS hA (fun r10 u10 H locs hw hP hD hS => ?_)
      have hP : va_P D vwCl (wB cy r σ0) H := hP
      have hD : va_D A (wB cy r σ0) := hD
      refine s_callv (X := St) (w1 := fun τ => wB cy r τ) (va_runV (As := [.int r10]) (rest := []) ⟨hx, hb, hml, hown, hg⟩ (s_X5_push l D cy H.size w g r σ0 r10 i0 ) (cwV 1 hg (gw_V m_1686 m_1688 ms_X5_push m_17 m_1689) rfl rfl rfl (by decide +kernel) ⟨(Nat.le_of_ble_eq_true rfl), (Nat.le_of_ble_eq_true rfl)⟩) (s_preVE (As := [.int r10]) (gE_ok w g) hS hA hE hP hD hK hNW 11 rfl rfl) rfl rfl hl.1 rfl (lv_room (Nat.le_of_ble_eq_true rfl)) d_X5_plain_150 ⟨(Nat.le_of_ble_eq_true rfl), (Nat.le_of_ble_eq_true rfl)⟩) hP hD hS hA (fun σ11 H locs hw hP hD hS => ?_)
      have hP : va_P D vwCl (wB cy r σ11) H := hP
      have hD : va_D A (wB cy r σ11) := hD
      have ik11 : Keep [(12, 9)] [63] σ0 σ11 := hw.2
      have kp : Keep [(12, 9)] [62, 63] σ0 σ11 := keep_c kp ik11 (by decide) (by decide)
      have i11 : Inv σ11 := hw.1
      refine lv_goto (tgt := 259) hx hb d_X5_plain_153 (by decide) ?_
      refine W.widen (k := 0) (n := 0) (Nat.le_of_ble_eq_true rfl) (Nat.le_of_ble_eq_true rfl) ?_
      exact k_vret (X := St) (w1 := fun τ => wB cy r τ) σ11 hx hb hr d_X5_plain_259 hlocks hP hK hD hS ⟨i11, kp⟩
    refine (Decidable.em (a1 = 6)).elim (fun q24_5 => ?_) (fun q24_5 => ?_)
    · refine k_topi 6 q24_5 ?_
      refine lv_tableIn (off := 132) (tgt := 156) hx hb d_X5_plain_24 (by decide +kernel) (by decide +kernel) (by decide +kernel) (by decide) ?_
      refine lv_aload_n hx hb d_X5_plain_156 rfl (lv_at hl 2 rfl) ?_
      refine va_get (D := D) (ci := 5) (v := .ref (r 62)) (C := "LinkedUnits$Machine") (T := TX5) (N := 19) hx hb hg iwX5 hown hK hP 11 rfl rfl 4 (by decide) (hg _ m_675) (fun _ h9 => h9) rfl d_X5_plain_157 ?_
      refine lv_aload_n hx hb d_X5_plain_160 rfl (lv_at hl 2 rfl) ?_
      refine va_get (D := D) (ci := 5) (v := .ref (r 10)) (C := "LinkedUnits$Machine") (T := TX5) (N := 19) hx hb hg iwX5 hown hK hP 11 rfl rfl 1 (by decide) (hg _ m_672) (fun _ h9 => h9) rfl d_X5_plain_161 ?_
      refine va_getN (D := D) (ci := 4) (v := .ref (r 59)) (C := "LinkedUnits$Image") (T := TX4) (N := 12) hx hb hg iwX4 hown hK hP 9 rfl rfl 10 (by decide) (va_Nw.use rfl (hNW.1 _ nm_612)) (fun _ h9 => h9) rfl d_X5_plain_164 ?_
      refine lv_iload_n hx hb d_X5_plain_167 rfl (lv_at hl 1 rfl) ?_
      refine s_call1 (x := ((r 59), .inl (cy 1, 10100, .inl (σ0 59)))) 56 rfl (va_runSN (As := [.ref (r 59), .int r1]) (rest := [.ref (r 62)]) ⟨hx, hb, hml, hown, hg⟩ (c_at_any l D cy H.size (r 59) 10100 (σ0 59) r1 (Nat.le_of_ble_eq_true rfl)) ⟨(va_cnB 2 hg (gw_c m_949) rfl rfl rfl (hNW.1 _ nm_1660) (hg _ m_1) (by decide +kernel) ⟨(Nat.le_of_ble_eq_true rfl), (Nat.le_of_ble_eq_true rfl)⟩), hg _ m_948, trivial⟩ (s_pre (ws := [((r 59), .inl (cy 1, 10100, .inl (σ0 59)))]) (s_sub1 56 hP rfl) (s_subD 56 hD rfl) hK hNW) rfl rfl hl.1 rfl (lv_room (Nat.le_of_ble_eq_true rfl)) d_X5_plain_168 ⟨(Nat.le_of_ble_eq_true rfl), (Nat.le_of_ble_eq_true rfl)⟩) hP hD hS hA (fun r12 u12 H locs hw hP hD hS => ?_)
      have hP : va_P D vwCl (wB cy r σ0) H := hP
      have hD : va_D A (wB cy r σ0) := hD
      refine lv_aload_n hx hb d_X5_plain_171 rfl (lv_at hl 2 rfl) ?_
      refine s_calli (X := Unit) (w1 := fun _ => wB cy r σ0) (va_runV (As := []) (rest := [.int r12, .ref (r 62)]) ⟨hx, hb, hml, hown, hg⟩ (s_X5_peeked l D cy H.size w g r σ0  i0 ) (cwV 0 hg (gw_V m_1744 m_1746 ms_X5_peeked m_17 m_1747) rfl rfl rfl (by decide +kernel) ⟨(Nat.le_of_ble_eq_true rfl), (Nat.le_of_ble_eq_true rfl)⟩) (s_preVE (As := []) (gE_ok w g) hS hA hE hP hD hK hNW 11 rfl rfl) rfl rfl hl.1 rfl (lv_room (Nat.le_of_ble_eq_true rfl)) d_X5_plain_172 ⟨(Nat.le_of_ble_eq_true rfl), (Nat.le_of_ble_eq_true rfl)⟩) hP hD hS hA (fun r13 u13 H locs hw hP hD hS => ?_)
      have hP : va_P D vwCl (wB cy r σ0) H := hP
      have hD : va_D A (wB cy r σ0) := hD
      refine s_set1 (X := Nat → Int32) (w := fun g => .inl (cy 1, 32768, .inl g)) 59 rfl (va_runSN (As := [.ref (r 62), .int r12, .int r13]) (rest := []) ⟨hx, hb, hml, hown, hg⟩ (c_set_any l D cy H.size (r 62) 32768 (σ0 62) r12 r13 (Nat.le_of_ble_eq_true rfl)) ⟨(va_cnB 3 hg (gw_c m_981) rfl rfl rfl (hNW.1 _ nm_1661) (hg _ m_1) (by decide +kernel) ⟨(Nat.le_of_ble_eq_true rfl), (Nat.le_of_ble_eq_true rfl)⟩), hg _ m_980, trivial⟩ (s_pre (ws := [((r 62), .inl (cy 1, 32768, .inl (σ0 62)))]) (s_sub1 59 hP rfl) (s_subD 59 hD rfl) hK hNW) rfl rfl hl.1 rfl (lv_room (Nat.le_of_ble_eq_true rfl)) d_X5_plain_175 ⟨(Nat.le_of_ble_eq_true rfl), (Nat.le_of_ble_eq_true rfl)⟩) hP hD hS hA (fun g14 H locs hw hP hD hS => ?_)
      have hP : va_P D vwCl (wB cy r (upF σ0 62 g14)) H := hP
      have hD : va_D A (wB cy r (upF σ0 62 g14)) := hD
      have kp : Keep [(12, 9)] [62, 63] σ0 (upF σ0 62 g14) := keep_a kp (by decide)
      refine lv_goto (tgt := 259) hx hb d_X5_plain_178 (by decide) ?_
      refine W.widen (k := 0) (n := 0) (Nat.le_of_ble_eq_true rfl) (Nat.le_of_ble_eq_true rfl) ?_
      exact k_vret (X := St) (w1 := fun τ => wB cy r τ) (upF σ0 62 g14) hx hb hr d_X5_plain_259 hlocks hP hK hD hS ⟨i0, kp⟩
    refine (Decidable.em (a1 = 7)).elim (fun q24_6 => ?_) (fun q24_6 => ?_)
    · refine k_topi 7 q24_6 ?_
      refine lv_tableIn (off := 157) (tgt := 181) hx hb d_X5_plain_24 (by decide +kernel) (by decide +kernel) (by decide +kernel) (by decide) ?_
      refine lv_aload_n hx hb d_X5_plain_181 rfl (lv_at hl 2 rfl) ?_
      refine lv_aload_n hx hb d_X5_plain_182 rfl (lv_at hl 2 rfl) ?_
      refine va_get (D := D) (ci := 5) (v := .ref (r 62)) (C := "LinkedUnits$Machine") (T := TX5) (N := 19) hx hb hg iwX5 hown hK hP 11 rfl rfl 4 (by decide) (hg _ m_675) (fun _ h9 => h9) rfl d_X5_plain_183 ?_
      refine lv_aload_n hx hb d_X5_plain_186 rfl (lv_at hl 2 rfl) ?_
      refine va_get (D := D) (ci := 5) (v := .ref (r 10)) (C := "LinkedUnits$Machine") (T := TX5) (N := 19) hx hb hg iwX5 hown hK hP 11 rfl rfl 1 (by decide) (hg _ m_672) (fun _ h9 => h9) rfl d_X5_plain_187 ?_
      refine va_getN (D := D) (ci := 4) (v := .ref (r 59)) (C := "LinkedUnits$Image") (T := TX4) (N := 12) hx hb hg iwX4 hown hK hP 9 rfl rfl 10 (by decide) (va_Nw.use rfl (hNW.1 _ nm_612)) (fun _ h9 => h9) rfl d_X5_plain_190 ?_
      refine lv_iload_n hx hb d_X5_plain_193 rfl (lv_at hl 1 rfl) ?_
      refine s_call1 (x := ((r 59), .inl (cy 1, 10100, .inl (σ0 59)))) 56 rfl (va_runSN (As := [.ref (r 59), .int r1]) (rest := [.ref (r 62), .ref (r 12)]) ⟨hx, hb, hml, hown, hg⟩ (c_at_any l D cy H.size (r 59) 10100 (σ0 59) r1 (Nat.le_of_ble_eq_true rfl)) ⟨(va_cnB 2 hg (gw_c m_949) rfl rfl rfl (hNW.1 _ nm_1660) (hg _ m_1) (by decide +kernel) ⟨(Nat.le_of_ble_eq_true rfl), (Nat.le_of_ble_eq_true rfl)⟩), hg _ m_948, trivial⟩ (s_pre (ws := [((r 59), .inl (cy 1, 10100, .inl (σ0 59)))]) (s_sub1 56 hP rfl) (s_subD 56 hD rfl) hK hNW) rfl rfl hl.1 rfl (lv_room (Nat.le_of_ble_eq_true rfl)) d_X5_plain_194 ⟨(Nat.le_of_ble_eq_true rfl), (Nat.le_of_ble_eq_true rfl)⟩) hP hD hS hA (fun r15 u15 H locs hw hP hD hS => ?_)
      have hP : va_P D vwCl (wB cy r σ0) H := hP
      have hD : va_D A (wB cy r σ0) := hD
      refine lv_iload_n hx hb d_X5_plain_197 rfl (lv_at hl 4 rfl) ?_
      refine s_callv (X := St) (w1 := fun τ => wB cy r τ) (va_runV (As := [.ref (r 62), .int r15, .int a2]) (rest := []) ⟨hx, hb, hml, hown, hg⟩ (s_X5_stepped_r12_r62 l D cy H.size w g r σ0 r15 a2 i0 ) (cwV 3 hg (gw_V m_1736 m_1738 ms_X5_stepped m_17 m_1739) rfl rfl rfl (by decide +kernel) ⟨(Nat.le_of_ble_eq_true rfl), (Nat.le_of_ble_eq_true rfl)⟩) (s_preVE (As := [.ref (r 62), .int r15, .int a2]) (gE_ok w g) hS hA hE hP hD hK hNW 11 rfl rfl) rfl rfl hl.1 rfl (lv_room (Nat.le_of_ble_eq_true rfl)) d_X5_plain_198 ⟨(Nat.le_of_ble_eq_true rfl), (Nat.le_of_ble_eq_true rfl)⟩) hP hD hS hA (fun σ16 H locs hw hP hD hS => ?_)
      have hP : va_P D vwCl (wB cy r σ16) H := hP
      have hD : va_D A (wB cy r σ16) := hD
      have ik16 : Keep [(12, 9)] [62, 63] σ0 σ16 := hw.2
      have kp : Keep [(12, 9)] [62, 63] σ0 σ16 := keep_c kp ik16 (by decide) (by decide)
      have i16 : Inv σ16 := hw.1
      refine lv_goto (tgt := 259) hx hb d_X5_plain_201 (by decide) ?_
      refine W.widen (k := 0) (n := 0) (Nat.le_of_ble_eq_true rfl) (Nat.le_of_ble_eq_true rfl) ?_
      exact k_vret (X := St) (w1 := fun τ => wB cy r τ) σ16 hx hb hr d_X5_plain_259 hlocks hP hK hD hS ⟨i16, kp⟩
    refine (Decidable.em (a1 = 8)).elim (fun q24_7 => ?_) (fun q24_7 => ?_)
    · refine k_topi 8 q24_7 ?_
      refine lv_tableIn (off := 180) (tgt := 204) hx hb d_X5_plain_24 (by decide +kernel) (by decide +kernel) (by decide +kernel) (by decide) ?_
      refine lv_aload_n hx hb d_X5_plain_204 rfl (lv_at hl 2 rfl) ?_
      refine lv_aload_n hx hb d_X5_plain_205 rfl (lv_at hl 2 rfl) ?_
      refine va_get (D := D) (ci := 5) (v := .ref (r 63)) (C := "LinkedUnits$Machine") (T := TX5) (N := 19) hx hb hg iwX5 hown hK hP 11 rfl rfl 5 (by decide) (hg _ m_677) (fun _ h9 => h9) rfl d_X5_plain_206 ?_
      refine lv_aload_n hx hb d_X5_plain_209 rfl (lv_at hl 2 rfl) ?_
      refine va_get (D := D) (ci := 5) (v := .int (σ0 12 10)) (C := "LinkedUnits$Machine") (T := TX5) (N := 19) hx hb hg iwX5 hown hK hP 11 rfl rfl 10 (by decide) (hg _ m_682) (fun _ h9 => h9) rfl d_X5_plain_210 ?_
      refine lv_iload_n hx hb d_X5_plain_213 rfl (lv_at hl 1 rfl) ?_
      refine lv_iadd hx hb d_X5_plain_214 ?_
      refine s_call1 (x := ((r 63), .inl (cy 1, 148496, .inl (σ0 63)))) 60 rfl (va_runSN (As := [.ref (r 63), .int ((σ0 12 10) + r1)]) (rest := [.ref (r 12)]) ⟨hx, hb, hml, hown, hg⟩ (c_at_any l D cy H.size (r 63) 148496 (σ0 63) ((σ0 12 10) + r1) (Nat.le_of_ble_eq_true rfl)) ⟨(va_cnB 2 hg (gw_c m_949) rfl rfl rfl (hNW.1 _ nm_1660) (hg _ m_1) (by decide +kernel) ⟨(Nat.le_of_ble_eq_true rfl), (Nat.le_of_ble_eq_true rfl)⟩), hg _ m_948, trivial⟩ (s_pre (ws := [((r 63), .inl (cy 1, 148496, .inl (σ0 63)))]) (s_sub1 60 hP rfl) (s_subD 60 hD rfl) hK hNW) rfl rfl hl.1 rfl (lv_room (Nat.le_of_ble_eq_true rfl)) d_X5_plain_215 ⟨(Nat.le_of_ble_eq_true rfl), (Nat.le_of_ble_eq_true rfl)⟩) hP hD hS hA (fun r17 u17 H locs hw hP hD hS => ?_)
      have hP : va_P D vwCl (wB cy r σ0) H := hP
      have hD : va_D A (wB cy r σ0) := hD
      refine s_callv (X := St) (w1 := fun τ => wB cy r τ) (va_runV (As := [.int r17]) (rest := []) ⟨hx, hb, hml, hown, hg⟩ (s_X5_push l D cy H.size w g r σ0 r17 i0 ) (cwV 1 hg (gw_V m_1686 m_1688 ms_X5_push m_17 m_1689) rfl rfl rfl (by decide +kernel) ⟨(Nat.le_of_ble_eq_true rfl), (Nat.le_of_ble_eq_true rfl)⟩) (s_preVE (As := [.int r17]) (gE_ok w g) hS hA hE hP hD hK hNW 11 rfl rfl) rfl rfl hl.1 rfl (lv_room (Nat.le_of_ble_eq_true rfl)) d_X5_plain_218 ⟨(Nat.le_of_ble_eq_true rfl), (Nat.le_of_ble_eq_true rfl)⟩) hP hD hS hA (fun σ18 H locs hw hP hD hS => ?_)
      have hP : va_P D vwCl (wB cy r σ18) H := hP
      have hD : va_D A (wB cy r σ18) := hD
      have ik18 : Keep [(12, 9)] [63] σ0 σ18 := hw.2
      have kp : Keep [(12, 9)] [62, 63] σ0 σ18 := keep_c kp ik18 (by decide) (by decide)
      have i18 : Inv σ18 := hw.1
      refine lv_goto (tgt := 259) hx hb d_X5_plain_221 (by decide) ?_
      refine W.widen (k := 0) (n := 0) (Nat.le_of_ble_eq_true rfl) (Nat.le_of_ble_eq_true rfl) ?_
      exact k_vret (X := St) (w1 := fun τ => wB cy r τ) σ18 hx hb hr d_X5_plain_259 hlocks hP hK hD hS ⟨i18, kp⟩
    refine (Decidable.em (a1 = 9)).elim (fun q24_8 => ?_) (fun q24_8 => ?_)
    · refine k_topi 9 q24_8 ?_
      refine lv_tableIn (off := 200) (tgt := 224) hx hb d_X5_plain_24 (by decide +kernel) (by decide +kernel) (by decide +kernel) (by decide) ?_
      refine lv_aload_n hx hb d_X5_plain_224 rfl (lv_at hl 2 rfl) ?_
      refine va_get (D := D) (ci := 5) (v := .ref (r 63)) (C := "LinkedUnits$Machine") (T := TX5) (N := 19) hx hb hg iwX5 hown hK hP 11 rfl rfl 5 (by decide) (hg _ m_677) (fun _ h9 => h9) rfl d_X5_plain_225 ?_
      refine lv_aload_n hx hb d_X5_plain_228 rfl (lv_at hl 2 rfl) ?_
      refine va_get (D := D) (ci := 5) (v := .int (σ0 12 10)) (C := "LinkedUnits$Machine") (T := TX5) (N := 19) hx hb hg iwX5 hown hK hP 11 rfl rfl 10 (by decide) (hg _ m_682) (fun _ h9 => h9) rfl d_X5_plain_229 ?_
      refine lv_iload_n hx hb d_X5_plain_232 rfl (lv_at hl 1 rfl) ?_
      refine lv_iadd hx hb d_X5_plain_233 ?_
      refine lv_aload_n hx hb d_X5_plain_234 rfl (lv_at hl 2 rfl) ?_
      refine s_calli (X := Unit) (w1 := fun _ => wB cy r σ0) (va_runV (As := []) (rest := [.int ((σ0 12 10) + r1), .ref (r 63)]) ⟨hx, hb, hml, hown, hg⟩ (s_X5_peeked l D cy H.size w g r σ0  i0 ) (cwV 0 hg (gw_V m_1744 m_1746 ms_X5_peeked m_17 m_1747) rfl rfl rfl (by decide +kernel) ⟨(Nat.le_of_ble_eq_true rfl), (Nat.le_of_ble_eq_true rfl)⟩) (s_preVE (As := []) (gE_ok w g) hS hA hE hP hD hK hNW 11 rfl rfl) rfl rfl hl.1 rfl (lv_room (Nat.le_of_ble_eq_true rfl)) d_X5_plain_235 ⟨(Nat.le_of_ble_eq_true rfl), (Nat.le_of_ble_eq_true rfl)⟩) hP hD hS hA (fun r19 u19 H locs hw hP hD hS => ?_)
      have hP : va_P D vwCl (wB cy r σ0) H := hP
      have hD : va_D A (wB cy r σ0) := hD
      refine s_set1 (X := Nat → Int32) (w := fun g => .inl (cy 1, 148496, .inl g)) 60 rfl (va_runSN (As := [.ref (r 63), .int ((σ0 12 10) + r1), .int r19]) (rest := []) ⟨hx, hb, hml, hown, hg⟩ (c_set_any l D cy H.size (r 63) 148496 (σ0 63) ((σ0 12 10) + r1) r19 (Nat.le_of_ble_eq_true rfl)) ⟨(va_cnB 3 hg (gw_c m_981) rfl rfl rfl (hNW.1 _ nm_1661) (hg _ m_1) (by decide +kernel) ⟨(Nat.le_of_ble_eq_true rfl), (Nat.le_of_ble_eq_true rfl)⟩), hg _ m_980, trivial⟩ (s_pre (ws := [((r 63), .inl (cy 1, 148496, .inl (σ0 63)))]) (s_sub1 60 hP rfl) (s_subD 60 hD rfl) hK hNW) rfl rfl hl.1 rfl (lv_room (Nat.le_of_ble_eq_true rfl)) d_X5_plain_238 ⟨(Nat.le_of_ble_eq_true rfl), (Nat.le_of_ble_eq_true rfl)⟩) hP hD hS hA (fun g20 H locs hw hP hD hS => ?_)
      have hP : va_P D vwCl (wB cy r (upF σ0 63 g20)) H := hP
      have hD : va_D A (wB cy r (upF σ0 63 g20)) := hD
      have kp : Keep [(12, 9)] [62, 63] σ0 (upF σ0 63 g20) := keep_a kp (by decide)
      refine lv_goto (tgt := 259) hx hb d_X5_plain_241 (by decide) ?_
      refine W.widen (k := 0) (n := 0) (Nat.le_of_ble_eq_true rfl) (Nat.le_of_ble_eq_true rfl) ?_
      exact k_vret (X := St) (w1 := fun τ => wB cy r τ) (upF σ0 63 g20) hx hb hr d_X5_plain_259 hlocks hP hK hD hS ⟨i0, kp⟩
    refine lv_tableOut (tgt := 244) hx hb d_X5_plain_24 (by have hq24_0 := lv_neT q24_0 (show (1 : Int32).toInt = 1 by decide); have hq24_1 := lv_neT q24_1 (show (2 : Int32).toInt = 2 by decide); have hq24_2 := lv_neT q24_2 (show (3 : Int32).toInt = 3 by decide); have hq24_3 := lv_neT q24_3 (show (4 : Int32).toInt = 4 by decide); have hq24_4 := lv_neT q24_4 (show (5 : Int32).toInt = 5 by decide); have hq24_5 := lv_neT q24_5 (show (6 : Int32).toInt = 6 by decide); have hq24_6 := lv_neT q24_6 (show (7 : Int32).toInt = 7 by decide); have hq24_7 := lv_neT q24_7 (show (8 : Int32).toInt = 8 by decide); have hq24_8 := lv_neT q24_8 (show (9 : Int32).toInt = 9 by decide); omega) (by decide) ?_
    refine lv_aload_n hx hb d_X5_plain_244 rfl (lv_at hl 2 rfl) ?_
    refine lv_aload_n hx hb d_X5_plain_245 rfl (lv_at hl 2 rfl) ?_
    refine va_get (D := D) (ci := 5) (v := .ref (r 63)) (C := "LinkedUnits$Machine") (T := TX5) (N := 19) hx hb hg iwX5 hown hK hP 11 rfl rfl 5 (by decide) (hg _ m_677) (fun _ h9 => h9) rfl d_X5_plain_246 ?_
    refine lv_aload_n hx hb d_X5_plain_249 rfl (lv_at hl 2 rfl) ?_
    refine va_get (D := D) (ci := 5) (v := .int (σ0 12 10)) (C := "LinkedUnits$Machine") (T := TX5) (N := 19) hx hb hg iwX5 hown hK hP 11 rfl rfl 10 (by decide) (hg _ m_682) (fun _ h9 => h9) rfl d_X5_plain_250 ?_
    refine lv_iload_n hx hb d_X5_plain_253 rfl (lv_at hl 1 rfl) ?_
    refine lv_iadd hx hb d_X5_plain_254 ?_
    refine lv_iload_n hx hb d_X5_plain_255 rfl (lv_at hl 4 rfl) ?_
    refine s_callv (X := St) (w1 := fun τ => wB cy r τ) (va_runV (As := [.ref (r 63), .int ((σ0 12 10) + r1), .int a2]) (rest := []) ⟨hx, hb, hml, hown, hg⟩ (s_X5_stepped_r12_r63 l D cy H.size w g r σ0 ((σ0 12 10) + r1) a2 i0 ) (cwV 3 hg (gw_V m_1736 m_1738 ms_X5_stepped m_17 m_1739) rfl rfl rfl (by decide +kernel) ⟨(Nat.le_of_ble_eq_true rfl), (Nat.le_of_ble_eq_true rfl)⟩) (s_preVE (As := [.ref (r 63), .int ((σ0 12 10) + r1), .int a2]) (gE_ok w g) hS hA hE hP hD hK hNW 11 rfl rfl) rfl rfl hl.1 rfl (lv_room (Nat.le_of_ble_eq_true rfl)) d_X5_plain_256 ⟨(Nat.le_of_ble_eq_true rfl), (Nat.le_of_ble_eq_true rfl)⟩) hP hD hS hA (fun σ21 H locs hw hP hD hS => ?_)
    have hP : va_P D vwCl (wB cy r σ21) H := hP
    have hD : va_D A (wB cy r σ21) := hD
    have ik21 : Keep [(12, 9)] [63] σ0 σ21 := hw.2
    have kp : Keep [(12, 9)] [62, 63] σ0 σ21 := keep_c kp ik21 (by decide) (by decide)
    have i21 : Inv σ21 := hw.1
    refine W.widen (k := 0) (n := 0) (Nat.le_of_ble_eq_true rfl) (Nat.le_of_ble_eq_true rfl) ?_
    exact k_vret (X := St) (w1 := fun τ => wB cy r τ) σ21 hx hb hr d_X5_plain_259 hlocks hP hK hD hS ⟨i21, kp⟩
  rw [hH] at hgoal
  exact hgoal
set_option maxHeartbeats 4000000 in
set_option maxRecDepth 100000 in
theorem s_X4_find_r10_r56_r30 (l : Launch) (D : va_G) (cy : Nat → ClassId) (sz : Nat) (w : Nat → Nat) (g : Nat → Nat → Int32) (r : Nat → Nat) (σ0 : St) (a2 : Int32) (a4 : Int32) (a5 : Int32) (i0 : Inv σ0) : Met l y_X4_find (Cond.code y_X4_find b_X4_find 9 (some .int) :: GW) ({ frames := 2, cells := 0, slots := 0, locals := 47 } : Room) (va_Pc [.ref (r 10), .ref (r 56), .int a2, .ref (r 30), .int a4, .int a5] (kPreE D cy sz (wB cy r σ0) (gE w g))) ((fun A : Nat → Prop => va_Qi (S := Unit) (fun (_ : Int32) (_ : Unit) => True) (fun _ => kPost D cy A (wB cy r σ0)) A) (va_A (wB cy r σ0) sz)) 0 0 (va_A (wB cy r σ0) sz) := by
  refine k_ofWE (Qc := fun A => va_Qi (S := Unit) (fun (_ : Int32) (_ : Unit) => True) (fun _ => kPost D cy A (wB cy r σ0)) A) (by decide) (Nat.le_of_ble_eq_true rfl) ?_
  intro p e s m below meth c A ls hx hb hr hml hown hlocks hin hg hNW hK hP hD hA hS hl hE
  have hl : lv_has ls 9 [(0, .ref (r 10)), (1, .ref (r 56)), (2, .int a2), (3, .ref (r 30)), (4, .int a4), (5, .int a5)] := hl
  have hown : s.vm.findClass "LinkedUnits$Image" = some m.cls := hown
  have b3 : ∀ (N : Nat) (x2 : Int32) (x4 : Int32) (x5 : Int32) (x6 : Int32) (H : Heap) (locs : List Loc) (ls : Array Slot), upm x6 = N → va_P D vwCl (wB cy r σ0) H → va_D A (wB cy r σ0) → va_S A s.heap H locs → lv_has ls 9 [(0, .ref (r 10)), (1, .ref (r 56)), (2, .int x2), (3, .ref (r 30)), (4, .int x4), (5, .int x5), (6, .int x6)] → W p l e ({ frames := 2, cells := 0, slots := 0, locals := 47 } : Room) s m (([.ref (r 10), .ref (r 56), .int a2, .ref (r 30), .int a4, .int a5] : List Value).toArray) below meth c H locs 0 0 (MQ below (va_Qi (S := Unit) (fun (_ : Int32) (_ : Unit) => True) (fun _ => kPost D cy A (wB cy r σ0)) A) (([.ref (r 10), .ref (r 56), .int a2, .ref (r 30), .int a4, .int a5] : List Value).toArray) s 0 0 A) (F0 m 3 ls []) := by
    intro M3
    induction M3 using Nat.strongRecOn with
    | _ M3 ih3 =>
      intro x2 x4 x5 x6 H locs ls N3 hP hD hS hl
      have b28 : ∀ (N : Nat) (x2 : Int32) (x4 : Int32) (x5 : Int32) (x6 : Int32) (x7 : Int32) (x8 : Int32) (H : Heap) (locs : List Loc) (ls : Array Slot), upm x8 = N → upm (x6 + 1) < M3 → va_P D vwCl (wB cy r σ0) H → va_D A (wB cy r σ0) → va_S A s.heap H locs → lv_has ls 9 [(0, .ref (r 10)), (1, .ref (r 56)), (2, .int x2), (3, .ref (r 30)), (4, .int x4), (5, .int x5), (6, .int x6), (7, .int x7), (8, .int x8)] → W p l e ({ frames := 2, cells := 0, slots := 0, locals := 47 } : Room) s m (([.ref (r 10), .ref (r 56), .int a2, .ref (r 30), .int a4, .int a5] : List Value).toArray) below meth c H locs 0 0 (MQ below (va_Qi (S := Unit) (fun (_ : Int32) (_ : Unit) => True) (fun _ => kPost D cy A (wB cy r σ0)) A) (([.ref (r 10), .ref (r 56), .int a2, .ref (r 30), .int a4, .int a5] : List Value).toArray) s 0 0 A) (F0 m 28 ls []) := by
        intro M28
        induction M28 using Nat.strongRecOn with
        | _ M28 ih28 =>
          intro x2 x4 x5 x6 x7 x8 H locs ls N28 g3 hP hD hS hl
          refine lv_iload hx hb d_X4_find_28 (lv_at hl 8 rfl) ?_
          refine lv_aload_n hx hb d_X4_find_30 rfl (lv_at hl 0 rfl) ?_
          refine va_get (D := D) (ci := 4) (v := .ref (r 5)) (C := "LinkedUnits$Image") (T := TX4) (N := 12) hx hb hg iwX4 hown hK hP 9 rfl rfl 0 (by decide) (hg _ m_597) (fun _ h9 => h9) rfl d_X4_find_31 ?_
          refine va_getN (D := D) (ci := 8) (v := .ref (r 34)) (C := "LinkedUnits$Store") (T := TX8) (N := 18) hx hb hg iwX8 hown hK hP 4 rfl rfl 14 (by decide) (va_Nw.use rfl (hNW.1 _ nm_253)) (fun _ h9 => h9) rfl d_X4_find_34 ?_
          refine lv_iload hx hb d_X4_find_37 (lv_at hl 7 rfl) ?_
          refine s_call1 (x := ((r 34), .inl (cy 1, 101, .inl (σ0 34)))) 33 rfl (va_runSN (As := [.ref (r 34), .int x7]) (rest := [.int x8]) ⟨hx, hb, hml, hown, hg⟩ (c_at_any l D cy H.size (r 34) 101 (σ0 34) x7 (Nat.le_of_ble_eq_true rfl)) ⟨(va_cnB 2 hg (gw_c m_949) rfl rfl rfl (hNW.1 _ nm_1552) (hg _ m_1) (by decide +kernel) ⟨(Nat.le_of_ble_eq_true rfl), (Nat.le_of_ble_eq_true rfl)⟩), hg _ m_948, trivial⟩ (s_pre (ws := [((r 34), .inl (cy 1, 101, .inl (σ0 34)))]) (s_sub1 33 hP rfl) (s_subD 33 hD rfl) hK hNW) rfl rfl hl.1 rfl (lv_room (Nat.le_of_ble_eq_true rfl)) d_X4_find_39 ⟨(Nat.le_of_ble_eq_true rfl), (Nat.le_of_ble_eq_true rfl)⟩) hP hD hS hA (fun r1 u1 H locs hw hP hD hS => ?_)
          have hP : va_P D vwCl (wB cy r σ0) H := hP
          have hD : va_D A (wB cy r σ0) := hD
          refine lv_icmp_ge (tgt := 97) hx hb d_X4_find_42 (by decide) (fun c_42 => ?_) (fun c_42 => ?_)
          · -- taken at 42
            refine lv_iinc (v := (x6 + 1)) (lv' := [(6, .int (x6 + 1)), (0, .ref (r 10)), (1, .ref (r 56)), (2, .int x2), (3, .ref (r 30)), (4, .int x4), (5, .int x5), (7, .int x7), (8, .int x8)]) hx hb d_X4_find_97 hl (k := 6) rfl rfl (by decide) rfl (fun ls hl => ?_)
            refine lv_goto (tgt := 3) hx hb d_X4_find_100 (by decide) ?_
            exact ih3 _ g3 x2 x4 x5 (x6 + 1) _ _ _ rfl hP hD hS (lv_sub hl [1, 2, 3, 4, 5, 6, 0] rfl)
          · -- not taken at 42
            refine lv_aload_n hx hb d_X4_find_45 rfl (lv_at hl 0 rfl) ?_
            refine va_get (D := D) (ci := 4) (v := .ref (r 5)) (C := "LinkedUnits$Image") (T := TX4) (N := 12) hx hb hg iwX4 hown hK hP 9 rfl rfl 0 (by decide) (hg _ m_597) (fun _ h9 => h9) rfl d_X4_find_46 ?_
            refine lv_iload hx hb d_X4_find_49 (lv_at hl 8 rfl) ?_
            refine lv_iconst (v := 4) hx hb d_X4_find_51 (by decide) ?_
            refine s_calli (X := Unit) (w1 := fun _ => wB cy r σ0) (va_runVN (As := [.int x8, .int 4]) (rest := []) ⟨hx, hb, hml, hown, hg⟩ (s_X8_is l D cy H.size w g r σ0 x8 (4 : Int32) i0 ) ⟨(va_cnB 2 hg (gw_c m_1124) rfl rfl rfl (hNW.1 _ nm_1567) (hg _ m_5) (by decide +kernel) ⟨(Nat.le_of_ble_eq_true rfl), (Nat.le_of_ble_eq_true rfl)⟩), (hg _ m_1123), hg _ ms_X8_is⟩ (s_preVE (As := [.int x8, .int 4]) (gE_ok w g) hS hA hE hP hD hK hNW 4 rfl rfl) rfl rfl hl.1 rfl (lv_room (Nat.le_of_ble_eq_true rfl)) d_X4_find_52 ⟨(Nat.le_of_ble_eq_true rfl), (Nat.le_of_ble_eq_true rfl)⟩) hP hD hS hA (fun r2 u2 H locs hw hP hD hS => ?_)
            have hP : va_P D vwCl (wB cy r σ0) H := hP
            have hD : va_D A (wB cy r σ0) := hD
            have hz2 : r2 = 0 ∨ r2 = 1 := hw.1
            refine lv_if_eq (tgt := 91) hx hb d_X4_find_55 (by decide) (fun c_55 => ?_) (fun c_55 => ?_)
            · -- taken at 55
              refine lv_iinc (v := (x8 + 1)) (lv' := [(8, .int (x8 + 1)), (0, .ref (r 10)), (1, .ref (r 56)), (2, .int x2), (3, .ref (r 30)), (4, .int x4), (5, .int x5), (6, .int x6), (7, .int x7)]) hx hb d_X4_find_91 hl (k := 8) rfl rfl (by decide) rfl (fun ls hl => ?_)
              refine lv_goto (tgt := 28) hx hb d_X4_find_94 (by decide) ?_
              exact ih28 _ (Nat.lt_of_lt_of_eq (upm_lt c_42) N28) x2 x4 x5 x6 x7 (x8 + 1) _ _ _ rfl g3 hP hD hS (lv_sub hl [1, 2, 3, 4, 5, 6, 7, 8, 0] rfl)
            · -- not taken at 55
              refine lv_aload_n hx hb d_X4_find_58 rfl (lv_at hl 0 rfl) ?_
              refine va_get (D := D) (ci := 4) (v := .ref (r 5)) (C := "LinkedUnits$Image") (T := TX4) (N := 12) hx hb hg iwX4 hown hK hP 9 rfl rfl 0 (by decide) (hg _ m_597) (fun _ h9 => h9) rfl d_X4_find_59 ?_
              refine lv_iload hx hb d_X4_find_62 (lv_at hl 8 rfl) ?_
              refine lv_iconst (v := 2) hx hb d_X4_find_64 (by decide) ?_
              refine s_calli (X := Unit) (w1 := fun _ => wB cy r σ0) (va_runVN (As := [.int x8, .int 2]) (rest := []) ⟨hx, hb, hml, hown, hg⟩ (s_X8_is l D cy H.size w g r σ0 x8 (2 : Int32) i0 ) ⟨(va_cnB 2 hg (gw_c m_1124) rfl rfl rfl (hNW.1 _ nm_1567) (hg _ m_5) (by decide +kernel) ⟨(Nat.le_of_ble_eq_true rfl), (Nat.le_of_ble_eq_true rfl)⟩), (hg _ m_1123), hg _ ms_X8_is⟩ (s_preVE (As := [.int x8, .int 2]) (gE_ok w g) hS hA hE hP hD hK hNW 4 rfl rfl) rfl rfl hl.1 rfl (lv_room (Nat.le_of_ble_eq_true rfl)) d_X4_find_65 ⟨(Nat.le_of_ble_eq_true rfl), (Nat.le_of_ble_eq_true rfl)⟩) hP hD hS hA (fun r3 u3 H locs hw hP hD hS => ?_)
              have hP : va_P D vwCl (wB cy r σ0) H := hP
              have hD : va_D A (wB cy r σ0) := hD
              have hz3 : r3 = 0 ∨ r3 = 1 := hw.1
              refine lv_if_ne (tgt := 91) hx hb d_X4_find_68 (by decide) (fun c_68 => ?_) (fun c_68 => ?_)
              · -- taken at 68
                refine lv_iinc (v := (x8 + 1)) (lv' := [(8, .int (x8 + 1)), (0, .ref (r 10)), (1, .ref (r 56)), (2, .int x2), (3, .ref (r 30)), (4, .int x4), (5, .int x5), (6, .int x6), (7, .int x7)]) hx hb d_X4_find_91 hl (k := 8) rfl rfl (by decide) rfl (fun ls hl => ?_)
                refine lv_goto (tgt := 28) hx hb d_X4_find_94 (by decide) ?_
                exact ih28 _ (Nat.lt_of_lt_of_eq (upm_lt c_42) N28) x2 x4 x5 x6 x7 (x8 + 1) _ _ _ rfl g3 hP hD hS (lv_sub hl [1, 2, 3, 4, 5, 6, 7, 8, 0] rfl)
              · -- not taken at 68
                refine lv_aload_n hx hb d_X4_find_71 rfl (lv_at hl 0 rfl) ?_
                refine va_get (D := D) (ci := 4) (v := .ref (r 5)) (C := "LinkedUnits$Image") (T := TX4) (N := 12) hx hb hg iwX4 hown hK hP 9 rfl rfl 0 (by decide) (hg _ m_597) (fun _ h9 => h9) rfl d_X4_find_72 ?_
                refine lv_iload hx hb d_X4_find_75 (lv_at hl 8 rfl) ?_
                refine lv_aload_n hx hb d_X4_find_77 rfl (lv_at hl 3 rfl) ?_
                refine lv_iload hx hb d_X4_find_78 (lv_at hl 4 rfl) ?_
                refine lv_iload hx hb d_X4_find_80 (lv_at hl 5 rfl) ?_
                refine s_calli (X := Unit) (w1 := fun _ => wB cy r σ0) (va_runVN (As := [.int x8, .ref (r 30), .int x4, .int x5]) (rest := []) ⟨hx, hb, hml, hown, hg⟩ (s_X8_isNamed_r5_r30 l D cy H.size w g r σ0 x8 x4 x5 i0 ) ⟨(va_cnB 4 hg (gw_c m_1571) rfl rfl rfl (hNW.1 _ nm_1568) (hg _ m_5) (by decide +kernel) ⟨(Nat.le_of_ble_eq_true rfl), (Nat.le_of_ble_eq_true rfl)⟩), (hg _ m_1570), hg _ ms_X8_isNamed⟩ (s_preVE (As := [.int x8, .ref (r 30), .int x4, .int x5]) (gE_ok w g) hS hA hE hP hD hK hNW 4 rfl rfl) rfl rfl hl.1 rfl (lv_room (Nat.le_of_ble_eq_true rfl)) d_X4_find_82 ⟨(Nat.le_of_ble_eq_true rfl), (Nat.le_of_ble_eq_true rfl)⟩) hP hD hS hA (fun r4 u4 H locs hw hP hD hS => ?_)
                have hP : va_P D vwCl (wB cy r σ0) H := hP
                have hD : va_D A (wB cy r σ0) := hD
                have hz4 : r4 = 0 ∨ r4 = 1 := hw.1
                refine lv_if_eq (tgt := 91) hx hb d_X4_find_85 (by decide) (fun c_85 => ?_) (fun c_85 => ?_)
                · -- taken at 85
                  refine lv_iinc (v := (x8 + 1)) (lv' := [(8, .int (x8 + 1)), (0, .ref (r 10)), (1, .ref (r 56)), (2, .int x2), (3, .ref (r 30)), (4, .int x4), (5, .int x5), (6, .int x6), (7, .int x7)]) hx hb d_X4_find_91 hl (k := 8) rfl rfl (by decide) rfl (fun ls hl => ?_)
                  refine lv_goto (tgt := 28) hx hb d_X4_find_94 (by decide) ?_
                  exact ih28 _ (Nat.lt_of_lt_of_eq (upm_lt c_42) N28) x2 x4 x5 x6 x7 (x8 + 1) _ _ _ rfl g3 hP hD hS (lv_sub hl [1, 2, 3, 4, 5, 6, 7, 8, 0] rfl)
                · -- not taken at 85
                  refine lv_iload hx hb d_X4_find_88 (lv_at hl 8 rfl) ?_
                  refine W.widen (k := 0) (n := 0) (Nat.le_of_ble_eq_true rfl) (Nat.le_of_ble_eq_true rfl) ?_
                  exact k_iret (X := Unit) (w1 := fun _ => wB cy r σ0) () hx hb hr d_X4_find_90 hlocks hP hK hD hS trivial
      refine lv_iload hx hb d_X4_find_3 (lv_at hl 6 rfl) ?_
      refine lv_iload_n hx hb d_X4_find_5 rfl (lv_at hl 2 rfl) ?_
      refine lv_icmp_ge (tgt := 103) hx hb d_X4_find_6 (by decide) (fun c_6 => ?_) (fun c_6 => ?_)
      · -- taken at 6
        refine lv_iconst (v := (-1)) hx hb d_X4_find_103 (by decide) ?_
        refine W.widen (k := 0) (n := 0) (Nat.le_of_ble_eq_true rfl) (Nat.le_of_ble_eq_true rfl) ?_
        exact k_iret (X := Unit) (w1 := fun _ => wB cy r σ0) () hx hb hr d_X4_find_104 hlocks hP hK hD hS trivial
      · -- not taken at 6
        refine lv_aload_n hx hb d_X4_find_9 rfl (lv_at hl 1 rfl) ?_
        refine lv_iload hx hb d_X4_find_10 (lv_at hl 6 rfl) ?_
        refine s_call1 (x := ((r 56), .inl (cy 1, 101, .inl (σ0 56)))) 53 rfl (va_runSN (As := [.ref (r 56), .int x6]) (rest := []) ⟨hx, hb, hml, hown, hg⟩ (c_at_any l D cy H.size (r 56) 101 (σ0 56) x6 (Nat.le_of_ble_eq_true rfl)) ⟨(va_cnB 2 hg (gw_c m_949) rfl rfl rfl (hNW.1 _ nm_1552) (hg _ m_1) (by decide +kernel) ⟨(Nat.le_of_ble_eq_true rfl), (Nat.le_of_ble_eq_true rfl)⟩), hg _ m_948, trivial⟩ (s_pre (ws := [((r 56), .inl (cy 1, 101, .inl (σ0 56)))]) (s_sub1 53 hP rfl) (s_subD 53 hD rfl) hK hNW) rfl rfl hl.1 rfl (lv_room (Nat.le_of_ble_eq_true rfl)) d_X4_find_12 ⟨(Nat.le_of_ble_eq_true rfl), (Nat.le_of_ble_eq_true rfl)⟩) hP hD hS hA (fun r5 u5 H locs hw hP hD hS => ?_)
        have hP : va_P D vwCl (wB cy r σ0) H := hP
        have hD : va_D A (wB cy r σ0) := hD
        refine lv_istore (lv' := [(7, .int r5), (0, .ref (r 10)), (1, .ref (r 56)), (2, .int x2), (3, .ref (r 30)), (4, .int x4), (5, .int x5), (6, .int x6)]) hx hb d_X4_find_15 hl (by decide) rfl (fun ls hl => ?_)
        refine lv_aload_n hx hb d_X4_find_17 rfl (lv_at hl 1 rfl) ?_
        refine va_get (D := D) (ci := 4) (v := .ref (r 5)) (C := "LinkedUnits$Image") (T := TX4) (N := 12) hx hb hg iwX4 hown hK hP 9 rfl rfl 0 (by decide) (hg _ m_597) (fun _ h9 => h9) rfl d_X4_find_18 ?_
        refine lv_iload hx hb d_X4_find_21 (lv_at hl 0 rfl) ?_
        refine s_calli (X := Unit) (w1 := fun _ => wB cy r σ0) (va_runVN (As := [.int r5]) (rest := []) ⟨hx, hb, hml, hown, hg⟩ (s_X8_firstOf l D cy H.size w g r σ0 r5 i0 ) ⟨(va_cnB 1 hg (gw_c m_1524) rfl rfl rfl (hNW.1 _ nm_1566) (hg _ m_5) (by decide +kernel) ⟨(Nat.le_of_ble_eq_true rfl), (Nat.le_of_ble_eq_true rfl)⟩), (hg _ m_1523), hg _ ms_X8_firstOf⟩ (s_preVE (As := [.int r5]) (gE_ok w g) hS hA hE hP hD hK hNW 4 rfl rfl) rfl rfl hl.1 rfl (lv_room (Nat.le_of_ble_eq_true rfl)) d_X4_find_23 ⟨(Nat.le_of_ble_eq_true rfl), (Nat.le_of_ble_eq_true rfl)⟩) hP hD hS hA (fun r6 u6 H locs hw hP hD hS => ?_)
        have hP : va_P D vwCl (wB cy r σ0) H := hP
        have hD : va_D A (wB cy r σ0) := hD
        refine lv_istore (lv' := [(8, .int r6), (7, .int r5), (0, .ref (r 10)), (1, .ref (r 56)), (2, .int x2), (3, .ref (r 30)), (4, .int x4), (5, .int x5), (6, .int x6)]) hx hb d_X4_find_26 hl (by decide) rfl (fun ls hl => ?_)
        exact b28 _ x2 x4 x5 x6 r5 r6 _ _ _ rfl (Nat.lt_of_lt_of_eq (upm_lt c_6) N3) hP hD hS (lv_sub hl [2, 3, 4, 5, 6, 7, 8, 1, 0] rfl)
  obtain ⟨H, hH⟩ : ∃ H, H = s.heap := ⟨_, rfl⟩
  rw [← hH] at hP
  have hS : va_S A s.heap H [] := by rw [hH]; exact va_S.rf
  have hgoal : W p l e ({ frames := 2, cells := 0, slots := 0, locals := 47 } : Room) s m (([.ref (r 10), .ref (r 56), .int a2, .ref (r 30), .int a4, .int a5] : List Value).toArray) below meth c H [] 0 0 (MQ below (va_Qi (S := Unit) (fun (_ : Int32) (_ : Unit) => True) (fun _ => kPost D cy A (wB cy r σ0)) A) (([.ref (r 10), .ref (r 56), .int a2, .ref (r 30), .int a4, .int a5] : List Value).toArray) s 0 0 A) (F0 m 0 ls []) := by
    refine lv_iconst (v := 0) hx hb d_X4_find_0 (by decide) ?_
    refine lv_istore (lv' := [(6, .int 0), (0, .ref (r 10)), (1, .ref (r 56)), (2, .int a2), (3, .ref (r 30)), (4, .int a4), (5, .int a5)]) hx hb d_X4_find_1 hl (by decide) rfl (fun ls hl => ?_)
    exact b3 _ a2 a4 a5 (0 : Int32) _ _ _ rfl hP hD hS (lv_sub hl [1, 2, 3, 4, 5, 6, 0] rfl)
  rw [hH] at hgoal
  exact hgoal
set_option maxHeartbeats 4000000 in
set_option maxRecDepth 100000 in
theorem s_X4_definition (l : Launch) (D : va_G) (cy : Nat → ClassId) (sz : Nat) (w : Nat → Nat) (g : Nat → Nat → Int32) (r : Nat → Nat) (σ0 : St) (a1 : Int32) (a2 : Int32) (i0 : Inv σ0) : Met l y_X4_definition (Cond.code y_X4_definition b_X4_definition 4 (some .int) :: GW) ({ frames := 3, cells := 0, slots := 0, locals := 75 } : Room) (va_Pc [.ref (r 10), .int a1, .int a2] (kPreE D cy sz (wB cy r σ0) (gE w g))) ((fun A : Nat → Prop => va_Qi (S := Unit) (fun (_ : Int32) (_ : Unit) => True) (fun _ => kPost D cy A (wB cy r σ0)) A) (va_A (wB cy r σ0) sz)) 0 0 (va_A (wB cy r σ0) sz) := by
  refine k_ofWE (Qc := fun A => va_Qi (S := Unit) (fun (_ : Int32) (_ : Unit) => True) (fun _ => kPost D cy A (wB cy r σ0)) A) (by decide) (Nat.le_of_ble_eq_true rfl) ?_
  intro p e s m below meth c A ls hx hb hr hml hown hlocks hin hg hNW hK hP hD hA hS hl hE
  have hl : lv_has ls 4 [(0, .ref (r 10)), (1, .int a1), (2, .int a2)] := hl
  have hown : s.vm.findClass "LinkedUnits$Image" = some m.cls := hown
  obtain ⟨H, hH⟩ : ∃ H, H = s.heap := ⟨_, rfl⟩
  rw [← hH] at hP
  have hS : va_S A s.heap H [] := by rw [hH]; exact va_S.rf
  have hgoal : W p l e ({ frames := 3, cells := 0, slots := 0, locals := 75 } : Room) s m (([.ref (r 10), .int a1, .int a2] : List Value).toArray) below meth c H [] 0 0 (MQ below (va_Qi (S := Unit) (fun (_ : Int32) (_ : Unit) => True) (fun _ => kPost D cy A (wB cy r σ0)) A) (([.ref (r 10), .int a1, .int a2] : List Value).toArray) s 0 0 A) (F0 m 0 ls []) := by
    refine lv_aload_n hx hb d_X4_definition_0 rfl (lv_at hl 0 rfl) ?_
    refine va_get (D := D) (ci := 4) (v := .ref (r 5)) (C := "LinkedUnits$Image") (T := TX4) (N := 12) hx hb hg iwX4 hown hK hP 9 rfl rfl 0 (by decide) (hg _ m_597) (fun _ h9 => h9) rfl d_X4_definition_1 ?_
    refine lv_iload_n hx hb d_X4_definition_4 rfl (lv_at hl 2 rfl) ?_
    refine s_calli (X := Unit) (w1 := fun _ => wB cy r σ0) (va_runVN (As := [.int a2]) (rest := []) ⟨hx, hb, hml, hown, hg⟩ (s_X8_nameStart l D cy H.size w g r σ0 a2 i0 ) ⟨(va_cnB 1 hg (gw_c m_1495) rfl rfl rfl (hNW.1 _ nm_1584) (hg _ m_5) (by decide +kernel) ⟨(Nat.le_of_ble_eq_true rfl), (Nat.le_of_ble_eq_true rfl)⟩), (hg _ m_1494), hg _ ms_X8_nameStart⟩ (s_preVE (As := [.int a2]) (gE_ok w g) hS hA hE hP hD hK hNW 4 rfl rfl) rfl rfl hl.1 rfl (lv_room (Nat.le_of_ble_eq_true rfl)) d_X4_definition_5 ⟨(Nat.le_of_ble_eq_true rfl), (Nat.le_of_ble_eq_true rfl)⟩) hP hD hS hA (fun r1 u1 H locs hw hP hD hS => ?_)
    have hP : va_P D vwCl (wB cy r σ0) H := hP
    have hD : va_D A (wB cy r σ0) := hD
    refine lv_istore_n (lv' := [(3, .int r1), (0, .ref (r 10)), (1, .int a1), (2, .int a2)]) hx hb d_X4_definition_8 rfl hl (by decide) rfl (fun ls hl => ?_)
    refine lv_aload_n hx hb d_X4_definition_9 rfl (lv_at hl 1 rfl) ?_
    refine lv_aload_n hx hb d_X4_definition_10 rfl (lv_at hl 1 rfl) ?_
    refine va_get (D := D) (ci := 4) (v := .ref (r 56)) (C := "LinkedUnits$Image") (T := TX4) (N := 12) hx hb hg iwX4 hown hK hP 9 rfl rfl 6 (by decide) (hg _ m_606) (fun _ h9 => h9) rfl d_X4_definition_11 ?_
    refine lv_iload_n hx hb d_X4_definition_14 rfl (lv_at hl 2 rfl) ?_
    refine lv_aload_n hx hb d_X4_definition_15 rfl (lv_at hl 1 rfl) ?_
    refine va_get (D := D) (ci := 4) (v := .ref (r 5)) (C := "LinkedUnits$Image") (T := TX4) (N := 12) hx hb hg iwX4 hown hK hP 9 rfl rfl 0 (by decide) (hg _ m_597) (fun _ h9 => h9) rfl d_X4_definition_16 ?_
    refine va_getN (D := D) (ci := 8) (v := .ref (r 30)) (C := "LinkedUnits$Store") (T := TX8) (N := 18) hx hb hg iwX8 hown hK hP 4 rfl rfl 8 (by decide) (va_Nw.use rfl (hNW.1 _ nm_241)) (fun _ h9 => h9) rfl d_X4_definition_19 ?_
    refine lv_iload_n hx hb d_X4_definition_22 rfl (lv_at hl 0 rfl) ?_
    refine lv_aload_n hx hb d_X4_definition_23 rfl (lv_at hl 1 rfl) ?_
    refine va_get (D := D) (ci := 4) (v := .ref (r 5)) (C := "LinkedUnits$Image") (T := TX4) (N := 12) hx hb hg iwX4 hown hK hP 9 rfl rfl 0 (by decide) (hg _ m_597) (fun _ h9 => h9) rfl d_X4_definition_24 ?_
    refine va_getN (D := D) (ci := 8) (v := .ref (r 29)) (C := "LinkedUnits$Store") (T := TX8) (N := 18) hx hb hg iwX8 hown hK hP 4 rfl rfl 6 (by decide) (va_Nw.use rfl (hNW.1 _ nm_238)) (fun _ h9 => h9) rfl d_X4_definition_27 ?_
    refine lv_iload_n hx hb d_X4_definition_30 rfl (lv_at hl 3 rfl) ?_
    refine s_call1 (x := ((r 29), .inl (cy 1, 10100, .inl (σ0 29)))) 28 rfl (va_runSN (As := [.ref (r 29), .int a2]) (rest := [.int r1, .ref (r 30), .int a1, .ref (r 56), .ref (r 10)]) ⟨hx, hb, hml, hown, hg⟩ (c_at_any l D cy H.size (r 29) 10100 (σ0 29) a2 (Nat.le_of_ble_eq_true rfl)) ⟨(va_cnB 2 hg (gw_c m_949) rfl rfl rfl (hNW.1 _ nm_1552) (hg _ m_1) (by decide +kernel) ⟨(Nat.le_of_ble_eq_true rfl), (Nat.le_of_ble_eq_true rfl)⟩), hg _ m_948, trivial⟩ (s_pre (ws := [((r 29), .inl (cy 1, 10100, .inl (σ0 29)))]) (s_sub1 28 hP rfl) (s_subD 28 hD rfl) hK hNW) rfl rfl hl.1 rfl (lv_room (Nat.le_of_ble_eq_true rfl)) d_X4_definition_31 ⟨(Nat.le_of_ble_eq_true rfl), (Nat.le_of_ble_eq_true rfl)⟩) hP hD hS hA (fun r2 u2 H locs hw hP hD hS => ?_)
    have hP : va_P D vwCl (wB cy r σ0) H := hP
    have hD : va_D A (wB cy r σ0) := hD
    refine lv_iload_n hx hb d_X4_definition_34 rfl (lv_at hl 0 rfl) ?_
    refine lv_isub hx hb d_X4_definition_35 ?_
    refine s_calli (X := Unit) (w1 := fun _ => wB cy r σ0) (va_runV (As := [.ref (r 56), .int a1, .ref (r 30), .int r1, .int (r2 - r1)]) (rest := []) ⟨hx, hb, hml, hown, hg⟩ (s_X4_find_r10_r56_r30 l D cy H.size w g r σ0 a1 r1 (r2 - r1) i0 ) (cwV 5 hg (gw_V m_1562 m_1564 ms_X4_find m_15 m_1565) rfl rfl rfl (by decide +kernel) ⟨(Nat.le_of_ble_eq_true rfl), (Nat.le_of_ble_eq_true rfl)⟩) (s_preVE (As := [.ref (r 56), .int a1, .ref (r 30), .int r1, .int (r2 - r1)]) (gE_ok w g) hS hA hE hP hD hK hNW 9 rfl rfl) rfl rfl hl.1 rfl (lv_room (Nat.le_of_ble_eq_true rfl)) d_X4_definition_36 ⟨(Nat.le_of_ble_eq_true rfl), (Nat.le_of_ble_eq_true rfl)⟩) hP hD hS hA (fun r3 u3 H locs hw hP hD hS => ?_)
    have hP : va_P D vwCl (wB cy r σ0) H := hP
    have hD : va_D A (wB cy r σ0) := hD
    refine W.widen (k := 0) (n := 0) (Nat.le_of_ble_eq_true rfl) (Nat.le_of_ble_eq_true rfl) ?_
    exact k_iret (X := Unit) (w1 := fun _ => wB cy r σ0) () hx hb hr d_X4_definition_39 hlocks hP hK hD hS trivial
  rw [hH] at hgoal
  exact hgoal
set_option maxHeartbeats 4000000 in
set_option maxRecDepth 100000 in
theorem s_X4_refer (l : Launch) (D : va_G) (cy : Nat → ClassId) (sz : Nat) (w : Nat → Nat) (g : Nat → Nat → Int32) (r : Nat → Nat) (σ0 : St) (a1 : Int32) (i0 : Inv σ0) : Met l y_X4_refer (Cond.code y_X4_refer b_X4_refer 3 none :: GW) ({ frames := 4, cells := 0, slots := 0, locals := 98 } : Room) (va_Pc [.ref (r 10), .int a1] (kPreE D cy sz (wB cy r σ0) (gE w g))) ((fun A : Nat → Prop => va_Qv (S := St) (fun (τ : St) => (Inv τ ∧ Keep [] [59] σ0 τ)) (fun τ => kPost D cy A (wB cy r τ)) A) (va_A (wB cy r σ0) sz)) 0 0 (va_A (wB cy r σ0) sz) := by
  refine k_ofWE (Qc := fun A => va_Qv (S := St) (fun (τ : St) => (Inv τ ∧ Keep [] [59] σ0 τ)) (fun τ => kPost D cy A (wB cy r τ)) A) (by decide) (Nat.le_of_ble_eq_true rfl) ?_
  intro p e s m below meth c A ls hx hb hr hml hown hlocks hin hg hNW hK hP hD hA hS hl hE
  have hl : lv_has ls 3 [(0, .ref (r 10)), (1, .int a1)] := hl
  have hown : s.vm.findClass "LinkedUnits$Image" = some m.cls := hown
  have b9 : ∀ (N : Nat) (σ : St) (x1 : Int32) (x2 : Int32) (H : Heap) (locs : List Loc) (ls : Array Slot), upm x2 = N → Inv σ → Keep [] [59] σ0 σ → va_P D vwCl (wB cy r σ) H → va_D A (wB cy r σ) → va_S A s.heap H locs → lv_has ls 3 [(0, .ref (r 10)), (1, .int x1), (2, .int x2)] → W p l e ({ frames := 4, cells := 0, slots := 0, locals := 98 } : Room) s m (([.ref (r 10), .int a1] : List Value).toArray) below meth c H locs 0 0 (MQ below (va_Qv (S := St) (fun (τ : St) => (Inv τ ∧ Keep [] [59] σ0 τ)) (fun τ => kPost D cy A (wB cy r τ)) A) (([.ref (r 10), .int a1] : List Value).toArray) s 0 0 A) (F0 m 9 ls []) := by
    intro M9
    induction M9 using Nat.strongRecOn with
    | _ M9 ih9 =>
      intro σ x1 x2 H locs ls N9 inv kp hP hD hS hl
      refine lv_iload_n hx hb d_X4_refer_9 rfl (lv_at hl 2 rfl) ?_
      refine lv_aload_n hx hb d_X4_refer_10 rfl (lv_at hl 0 rfl) ?_
      refine va_get (D := D) (ci := 4) (v := .ref (r 5)) (C := "LinkedUnits$Image") (T := TX4) (N := 12) hx hb hg iwX4 hown hK hP 9 rfl rfl 0 (by decide) (hg _ m_597) (fun _ h9 => h9) rfl d_X4_refer_11 ?_
      refine va_getN (D := D) (ci := 8) (v := .ref (r 34)) (C := "LinkedUnits$Store") (T := TX8) (N := 18) hx hb hg iwX8 hown hK hP 4 rfl rfl 14 (by decide) (va_Nw.use rfl (hNW.1 _ nm_253)) (fun _ h9 => h9) rfl d_X4_refer_14 ?_
      refine lv_iload_n hx hb d_X4_refer_17 rfl (lv_at hl 1 rfl) ?_
      refine s_call1 (x := ((r 34), .inl (cy 1, 101, .inl (σ 34)))) 33 rfl (va_runSN (As := [.ref (r 34), .int x1]) (rest := [.int x2]) ⟨hx, hb, hml, hown, hg⟩ (c_at_any l D cy H.size (r 34) 101 (σ 34) x1 (Nat.le_of_ble_eq_true rfl)) ⟨(va_cnB 2 hg (gw_c m_949) rfl rfl rfl (hNW.1 _ nm_1552) (hg _ m_1) (by decide +kernel) ⟨(Nat.le_of_ble_eq_true rfl), (Nat.le_of_ble_eq_true rfl)⟩), hg _ m_948, trivial⟩ (s_pre (ws := [((r 34), .inl (cy 1, 101, .inl (σ 34)))]) (s_sub1 33 hP rfl) (s_subD 33 hD rfl) hK hNW) rfl rfl hl.1 rfl (lv_room (Nat.le_of_ble_eq_true rfl)) d_X4_refer_18 ⟨(Nat.le_of_ble_eq_true rfl), (Nat.le_of_ble_eq_true rfl)⟩) hP hD hS hA (fun r1 u1 H locs hw hP hD hS => ?_)
      have hP : va_P D vwCl (wB cy r σ) H := hP
      have hD : va_D A (wB cy r σ) := hD
      refine lv_icmp_ge (tgt := 66) hx hb d_X4_refer_21 (by decide) (fun c_21 => ?_) (fun c_21 => ?_)
      · -- taken at 21
        refine W.widen (k := 0) (n := 0) (Nat.le_of_ble_eq_true rfl) (Nat.le_of_ble_eq_true rfl) ?_
        exact k_vret (X := St) (w1 := fun τ => wB cy r τ) σ hx hb hr d_X4_refer_66 hlocks hP hK hD hS ⟨inv, kp⟩
      · -- not taken at 21
        refine lv_aload_n hx hb d_X4_refer_24 rfl (lv_at hl 0 rfl) ?_
        refine va_get (D := D) (ci := 4) (v := .ref (r 5)) (C := "LinkedUnits$Image") (T := TX4) (N := 12) hx hb hg iwX4 hown hK hP 9 rfl rfl 0 (by decide) (hg _ m_597) (fun _ h9 => h9) rfl d_X4_refer_25 ?_
        refine lv_iload_n hx hb d_X4_refer_28 rfl (lv_at hl 2 rfl) ?_
        refine lv_iconst (v := 4) hx hb d_X4_refer_29 (by decide) ?_
        refine s_calli (X := Unit) (w1 := fun _ => wB cy r σ) (va_runVN (As := [.int x2, .int 4]) (rest := []) ⟨hx, hb, hml, hown, hg⟩ (s_X8_is l D cy H.size w g r σ x2 (4 : Int32) inv ) ⟨(va_cnB 2 hg (gw_c m_1124) rfl rfl rfl (hNW.1 _ nm_1567) (hg _ m_5) (by decide +kernel) ⟨(Nat.le_of_ble_eq_true rfl), (Nat.le_of_ble_eq_true rfl)⟩), (hg _ m_1123), hg _ ms_X8_is⟩ (s_preVE (As := [.int x2, .int 4]) (gE_ok w g) hS hA hE hP hD hK hNW 4 rfl rfl) rfl rfl hl.1 rfl (lv_room (Nat.le_of_ble_eq_true rfl)) d_X4_refer_30 ⟨(Nat.le_of_ble_eq_true rfl), (Nat.le_of_ble_eq_true rfl)⟩) hP hD hS hA (fun r2 u2 H locs hw hP hD hS => ?_)
        have hP : va_P D vwCl (wB cy r σ) H := hP
        have hD : va_D A (wB cy r σ) := hD
        have hz2 : r2 = 0 ∨ r2 = 1 := hw.1
        refine lv_if_ne (tgt := 60) hx hb d_X4_refer_33 (by decide) (fun c_33 => ?_) (fun c_33 => ?_)
        · -- taken at 33
          refine lv_iinc (v := (x2 + 1)) (lv' := [(2, .int (x2 + 1)), (0, .ref (r 10)), (1, .int x1)]) hx hb d_X4_refer_60 hl (k := 2) rfl rfl (by decide) rfl (fun ls hl => ?_)
          refine lv_goto (tgt := 9) hx hb d_X4_refer_63 (by decide) ?_
          exact ih9 _ (Nat.lt_of_lt_of_eq (upm_lt c_21) N9) σ x1 (x2 + 1) _ _ _ rfl inv kp hP hD hS (lv_sub hl [1, 2, 0] rfl)
        · -- not taken at 33
          refine lv_aload_n hx hb d_X4_refer_36 rfl (lv_at hl 0 rfl) ?_
          refine va_get (D := D) (ci := 4) (v := .ref (r 59)) (C := "LinkedUnits$Image") (T := TX4) (N := 12) hx hb hg iwX4 hown hK hP 9 rfl rfl 10 (by decide) (hg _ m_611) (fun _ h9 => h9) rfl d_X4_refer_37 ?_
          refine lv_iload_n hx hb d_X4_refer_40 rfl (lv_at hl 2 rfl) ?_
          refine lv_aload_n hx hb d_X4_refer_41 rfl (lv_at hl 0 rfl) ?_
          refine va_get (D := D) (ci := 4) (v := .ref (r 59)) (C := "LinkedUnits$Image") (T := TX4) (N := 12) hx hb hg iwX4 hown hK hP 9 rfl rfl 10 (by decide) (hg _ m_611) (fun _ h9 => h9) rfl d_X4_refer_42 ?_
          refine lv_aload_n hx hb d_X4_refer_45 rfl (lv_at hl 0 rfl) ?_
          refine lv_aload_n hx hb d_X4_refer_46 rfl (lv_at hl 0 rfl) ?_
          refine va_get (D := D) (ci := 4) (v := .int (σ 10 7)) (C := "LinkedUnits$Image") (T := TX4) (N := 12) hx hb hg iwX4 hown hK hP 9 rfl rfl 7 (by decide) (hg _ m_607) (fun _ h9 => h9) rfl d_X4_refer_47 ?_
          refine lv_iload_n hx hb d_X4_refer_50 rfl (lv_at hl 2 rfl) ?_
          refine s_calli (X := Unit) (w1 := fun _ => wB cy r σ) (va_runV (As := [.int (σ 10 7), .int x2]) (rest := [.ref (r 59), .int x2, .ref (r 59)]) ⟨hx, hb, hml, hown, hg⟩ (s_X4_definition l D cy H.size w g r σ (σ 10 7) x2 inv ) (cwV 2 hg (gw_V m_1580 m_1582 ms_X4_definition m_15 m_1583) rfl rfl rfl (by decide +kernel) ⟨(Nat.le_of_ble_eq_true rfl), (Nat.le_of_ble_eq_true rfl)⟩) (s_preVE (As := [.int (σ 10 7), .int x2]) (gE_ok w g) hS hA hE hP hD hK hNW 9 rfl rfl) rfl rfl hl.1 rfl (lv_room (Nat.le_of_ble_eq_true rfl)) d_X4_refer_51 ⟨(Nat.le_of_ble_eq_true rfl), (Nat.le_of_ble_eq_true rfl)⟩) hP hD hS hA (fun r3 u3 H locs hw hP hD hS => ?_)
          have hP : va_P D vwCl (wB cy r σ) H := hP
          have hD : va_D A (wB cy r σ) := hD
          refine s_call1 (x := ((r 59), .inl (cy 1, 10100, .inl (σ 59)))) 56 rfl (va_runSN (As := [.ref (r 59), .int r3]) (rest := [.int x2, .ref (r 59)]) ⟨hx, hb, hml, hown, hg⟩ (c_at_any l D cy H.size (r 59) 10100 (σ 59) r3 (Nat.le_of_ble_eq_true rfl)) ⟨(va_cnB 2 hg (gw_c m_949) rfl rfl rfl (hNW.1 _ nm_1552) (hg _ m_1) (by decide +kernel) ⟨(Nat.le_of_ble_eq_true rfl), (Nat.le_of_ble_eq_true rfl)⟩), hg _ m_948, trivial⟩ (s_pre (ws := [((r 59), .inl (cy 1, 10100, .inl (σ 59)))]) (s_sub1 56 hP rfl) (s_subD 56 hD rfl) hK hNW) rfl rfl hl.1 rfl (lv_room (Nat.le_of_ble_eq_true rfl)) d_X4_refer_54 ⟨(Nat.le_of_ble_eq_true rfl), (Nat.le_of_ble_eq_true rfl)⟩) hP hD hS hA (fun r4 u4 H locs hw hP hD hS => ?_)
          have hP : va_P D vwCl (wB cy r σ) H := hP
          have hD : va_D A (wB cy r σ) := hD
          refine s_set1 (X := Nat → Int32) (w := fun g => .inl (cy 1, 10100, .inl g)) 56 rfl (va_runSN (As := [.ref (r 59), .int x2, .int r4]) (rest := []) ⟨hx, hb, hml, hown, hg⟩ (c_set_any l D cy H.size (r 59) 10100 (σ 59) x2 r4 (Nat.le_of_ble_eq_true rfl)) ⟨(va_cnB 3 hg (gw_c m_981) rfl rfl rfl (hNW.1 _ nm_1553) (hg _ m_1) (by decide +kernel) ⟨(Nat.le_of_ble_eq_true rfl), (Nat.le_of_ble_eq_true rfl)⟩), hg _ m_980, trivial⟩ (s_pre (ws := [((r 59), .inl (cy 1, 10100, .inl (σ 59)))]) (s_sub1 56 hP rfl) (s_subD 56 hD rfl) hK hNW) rfl rfl hl.1 rfl (lv_room (Nat.le_of_ble_eq_true rfl)) d_X4_refer_57 ⟨(Nat.le_of_ble_eq_true rfl), (Nat.le_of_ble_eq_true rfl)⟩) hP hD hS hA (fun g5 H locs hw hP hD hS => ?_)
          have hP : va_P D vwCl (wB cy r (upF σ 59 g5)) H := hP
          have hD : va_D A (wB cy r (upF σ 59 g5)) := hD
          have kp : Keep [] [59] σ0 (upF σ 59 g5) := keep_a kp (by decide)
          refine lv_iinc (v := (x2 + 1)) (lv' := [(2, .int (x2 + 1)), (0, .ref (r 10)), (1, .int x1)]) hx hb d_X4_refer_60 hl (k := 2) rfl rfl (by decide) rfl (fun ls hl => ?_)
          refine lv_goto (tgt := 9) hx hb d_X4_refer_63 (by decide) ?_
          exact ih9 _ (Nat.lt_of_lt_of_eq (upm_lt c_21) N9) (upF σ 59 g5) x1 (x2 + 1) _ _ _ rfl inv kp hP hD hS (lv_sub hl [1, 2, 0] rfl)
  have kp : Keep [] [59] σ0 σ0 := keep_rf
  obtain ⟨H, hH⟩ : ∃ H, H = s.heap := ⟨_, rfl⟩
  rw [← hH] at hP
  have hS : va_S A s.heap H [] := by rw [hH]; exact va_S.rf
  have hgoal : W p l e ({ frames := 4, cells := 0, slots := 0, locals := 98 } : Room) s m (([.ref (r 10), .int a1] : List Value).toArray) below meth c H [] 0 0 (MQ below (va_Qv (S := St) (fun (τ : St) => (Inv τ ∧ Keep [] [59] σ0 τ)) (fun τ => kPost D cy A (wB cy r τ)) A) (([.ref (r 10), .int a1] : List Value).toArray) s 0 0 A) (F0 m 0 ls []) := by
    refine lv_aload_n hx hb d_X4_refer_0 rfl (lv_at hl 0 rfl) ?_
    refine va_get (D := D) (ci := 4) (v := .ref (r 5)) (C := "LinkedUnits$Image") (T := TX4) (N := 12) hx hb hg iwX4 hown hK hP 9 rfl rfl 0 (by decide) (hg _ m_597) (fun _ h9 => h9) rfl d_X4_refer_1 ?_
    refine lv_iload_n hx hb d_X4_refer_4 rfl (lv_at hl 1 rfl) ?_
    refine s_calli (X := Unit) (w1 := fun _ => wB cy r σ0) (va_runVN (As := [.int a1]) (rest := []) ⟨hx, hb, hml, hown, hg⟩ (s_X8_firstOf l D cy H.size w g r σ0 a1 i0 ) ⟨(va_cnB 1 hg (gw_c m_1524) rfl rfl rfl (hNW.1 _ nm_1566) (hg _ m_5) (by decide +kernel) ⟨(Nat.le_of_ble_eq_true rfl), (Nat.le_of_ble_eq_true rfl)⟩), (hg _ m_1523), hg _ ms_X8_firstOf⟩ (s_preVE (As := [.int a1]) (gE_ok w g) hS hA hE hP hD hK hNW 4 rfl rfl) rfl rfl hl.1 rfl (lv_room (Nat.le_of_ble_eq_true rfl)) d_X4_refer_5 ⟨(Nat.le_of_ble_eq_true rfl), (Nat.le_of_ble_eq_true rfl)⟩) hP hD hS hA (fun r6 u6 H locs hw hP hD hS => ?_)
    have hP : va_P D vwCl (wB cy r σ0) H := hP
    have hD : va_D A (wB cy r σ0) := hD
    refine lv_istore_n (lv' := [(2, .int r6), (0, .ref (r 10)), (1, .int a1)]) hx hb d_X4_refer_8 rfl hl (by decide) rfl (fun ls hl => ?_)
    exact b9 _ σ0 a1 r6 _ _ _ rfl i0 kp hP hD hS (lv_sub hl [1, 2, 0] rfl)
  rw [hH] at hgoal
  exact hgoal
set_option maxHeartbeats 4000000 in
set_option maxRecDepth 100000 in
theorem s_X4_isWrong (l : Launch) (D : va_G) (cy : Nat → ClassId) (sz : Nat) (w : Nat → Nat) (g : Nat → Nat → Int32) (r : Nat → Nat) (σ0 : St) (a1 : Int32) (a2 : Int32) (a3 : Int32) (i0 : Inv σ0) : Met l y_X4_isWrong (Cond.code y_X4_isWrong b_X4_isWrong 4 (some .boolean) :: GW) ({ frames := 4, cells := 0, slots := 0, locals := 98 } : Room) (va_Pc [.ref (r 10), .int a1, .int a2, .int a3] (kPreE D cy sz (wB cy r σ0) (gE w g))) ((fun A : Nat → Prop => va_Qi (S := Unit) (fun (v9 : Int32) (_ : Unit) => (v9 = 0 ∨ v9 = 1) ∧ True) (fun _ => kPost D cy A (wB cy r σ0)) A) (va_A (wB cy r σ0) sz)) 0 0 (va_A (wB cy r σ0) sz) := by
  refine k_ofWE (Qc := fun A => va_Qi (S := Unit) (fun (v9 : Int32) (_ : Unit) => (v9 = 0 ∨ v9 = 1) ∧ True) (fun _ => kPost D cy A (wB cy r σ0)) A) (by decide) (Nat.le_of_ble_eq_true rfl) ?_
  intro p e s m below meth c A ls hx hb hr hml hown hlocks hin hg hNW hK hP hD hA hS hl hE
  have hl : lv_has ls 4 [(0, .ref (r 10)), (1, .int a1), (2, .int a2), (3, .int a3)] := hl
  have hown : s.vm.findClass "LinkedUnits$Image" = some m.cls := hown
  obtain ⟨H, hH⟩ : ∃ H, H = s.heap := ⟨_, rfl⟩
  rw [← hH] at hP
  have hS : va_S A s.heap H [] := by rw [hH]; exact va_S.rf
  have hgoal : W p l e ({ frames := 4, cells := 0, slots := 0, locals := 98 } : Room) s m (([.ref (r 10), .int a1, .int a2, .int a3] : List Value).toArray) below meth c H [] 0 0 (MQ below (va_Qi (S := Unit) (fun (v9 : Int32) (_ : Unit) => (v9 = 0 ∨ v9 = 1) ∧ True) (fun _ => kPost D cy A (wB cy r σ0)) A) (([.ref (r 10), .int a1, .int a2, .int a3] : List Value).toArray) s 0 0 A) (F0 m 0 ls []) := by
    refine lv_aload_n hx hb d_X4_isWrong_0 rfl (lv_at hl 0 rfl) ?_
    refine va_get (D := D) (ci := 4) (v := .ref (r 5)) (C := "LinkedUnits$Image") (T := TX4) (N := 12) hx hb hg iwX4 hown hK hP 9 rfl rfl 0 (by decide) (hg _ m_597) (fun _ h9 => h9) rfl d_X4_isWrong_1 ?_
    refine lv_iload_n hx hb d_X4_isWrong_4 rfl (lv_at hl 3 rfl) ?_
    refine lv_iconst (v := 4) hx hb d_X4_isWrong_5 (by decide) ?_
    refine s_calli (X := Unit) (w1 := fun _ => wB cy r σ0) (va_runVN (As := [.int a3, .int 4]) (rest := []) ⟨hx, hb, hml, hown, hg⟩ (s_X8_is l D cy H.size w g r σ0 a3 (4 : Int32) i0 ) ⟨(va_cnB 2 hg (gw_c m_1124) rfl rfl rfl (hNW.1 _ nm_1567) (hg _ m_5) (by decide +kernel) ⟨(Nat.le_of_ble_eq_true rfl), (Nat.le_of_ble_eq_true rfl)⟩), (hg _ m_1123), hg _ ms_X8_is⟩ (s_preVE (As := [.int a3, .int 4]) (gE_ok w g) hS hA hE hP hD hK hNW 4 rfl rfl) rfl rfl hl.1 rfl (lv_room (Nat.le_of_ble_eq_true rfl)) d_X4_isWrong_6 ⟨(Nat.le_of_ble_eq_true rfl), (Nat.le_of_ble_eq_true rfl)⟩) hP hD hS hA (fun r1 u1 H locs hw hP hD hS => ?_)
    have hP : va_P D vwCl (wB cy r σ0) H := hP
    have hD : va_D A (wB cy r σ0) := hD
    have hz1 : r1 = 0 ∨ r1 = 1 := hw.1
    refine lv_if_eq (tgt := 33) hx hb d_X4_isWrong_9 (by decide) (fun c_9 => ?_) (fun c_9 => ?_)
    · -- taken at 9
      refine lv_iload_n hx hb d_X4_isWrong_33 rfl (lv_at hl 1 rfl) ?_
      refine lv_bipush (v := 32) hx hb d_X4_isWrong_34 (by decide) ?_
      refine lv_icmp_ne (tgt := 70) hx hb d_X4_isWrong_36 (by decide) (fun c_36 => ?_) (fun c_36 => ?_)
      · -- taken at 36
        refine lv_iload_n hx hb d_X4_isWrong_70 rfl (lv_at hl 1 rfl) ?_
        refine lv_bipush (v := 33) hx hb d_X4_isWrong_71 (by decide) ?_
        refine lv_icmp_ne (tgt := 97) hx hb d_X4_isWrong_73 (by decide) (fun c_73 => ?_) (fun c_73 => ?_)
        · -- taken at 73
          refine lv_iconst (v := 0) hx hb d_X4_isWrong_97 (by decide) ?_
          refine W.widen (k := 0) (n := 0) (Nat.le_of_ble_eq_true rfl) (Nat.le_of_ble_eq_true rfl) ?_
          exact k_zret (X := Unit) (w1 := fun _ => wB cy r σ0) () hx hb hr (k_nz (Or.inl rfl)) d_X4_isWrong_98 hlocks hP hK hD hS ⟨(Or.inl rfl), trivial⟩
        · -- not taken at 73
          refine lv_aload_n hx hb d_X4_isWrong_76 rfl (lv_at hl 0 rfl) ?_
          refine lv_iload_n hx hb d_X4_isWrong_77 rfl (lv_at hl 3 rfl) ?_
          refine lv_aload_n hx hb d_X4_isWrong_78 rfl (lv_at hl 0 rfl) ?_
          refine lv_aload_n hx hb d_X4_isWrong_79 rfl (lv_at hl 0 rfl) ?_
          refine va_get (D := D) (ci := 4) (v := .int (σ0 10 5)) (C := "LinkedUnits$Image") (T := TX4) (N := 12) hx hb hg iwX4 hown hK hP 9 rfl rfl 5 (by decide) (hg _ m_605) (fun _ h9 => h9) rfl d_X4_isWrong_80 ?_
          refine lv_iload_n hx hb d_X4_isWrong_83 rfl (lv_at hl 3 rfl) ?_
          refine s_calli (X := Unit) (w1 := fun _ => wB cy r σ0) (va_runV (As := [.int (σ0 10 5), .int a3]) (rest := [.int a3, .ref (r 10)]) ⟨hx, hb, hml, hown, hg⟩ (s_X4_definition l D cy H.size w g r σ0 (σ0 10 5) a3 i0 ) (cwV 2 hg (gw_V m_1580 m_1582 ms_X4_definition m_15 m_1583) rfl rfl rfl (by decide +kernel) ⟨(Nat.le_of_ble_eq_true rfl), (Nat.le_of_ble_eq_true rfl)⟩) (s_preVE (As := [.int (σ0 10 5), .int a3]) (gE_ok w g) hS hA hE hP hD hK hNW 9 rfl rfl) rfl rfl hl.1 rfl (lv_room (Nat.le_of_ble_eq_true rfl)) d_X4_isWrong_84 ⟨(Nat.le_of_ble_eq_true rfl), (Nat.le_of_ble_eq_true rfl)⟩) hP hD hS hA (fun r2 u2 H locs hw hP hD hS => ?_)
          have hP : va_P D vwCl (wB cy r σ0) H := hP
          have hD : va_D A (wB cy r σ0) := hD
          refine s_calli (X := Unit) (w1 := fun _ => wB cy r σ0) (va_runV (As := [.int a3, .int r2]) (rest := []) ⟨hx, hb, hml, hown, hg⟩ (s_X4_agrees l D cy H.size w g r σ0 a3 r2 i0 ) (cwV 2 hg (gw_V m_1585 m_1587 ms_X4_agrees m_15 m_1588) rfl rfl rfl (by decide +kernel) ⟨(Nat.le_of_ble_eq_true rfl), (Nat.le_of_ble_eq_true rfl)⟩) (s_preVE (As := [.int a3, .int r2]) (gE_ok w g) hS hA hE hP hD hK hNW 9 rfl rfl) rfl rfl hl.1 rfl (lv_room (Nat.le_of_ble_eq_true rfl)) d_X4_isWrong_87 ⟨(Nat.le_of_ble_eq_true rfl), (Nat.le_of_ble_eq_true rfl)⟩) hP hD hS hA (fun r3 u3 H locs hw hP hD hS => ?_)
          have hP : va_P D vwCl (wB cy r σ0) H := hP
          have hD : va_D A (wB cy r σ0) := hD
          have hz3 : r3 = 0 ∨ r3 = 1 := hw.1
          refine lv_if_ne (tgt := 97) hx hb d_X4_isWrong_90 (by decide) (fun c_90 => ?_) (fun c_90 => ?_)
          · -- taken at 90
            refine lv_iconst (v := 0) hx hb d_X4_isWrong_97 (by decide) ?_
            refine W.widen (k := 0) (n := 0) (Nat.le_of_ble_eq_true rfl) (Nat.le_of_ble_eq_true rfl) ?_
            exact k_zret (X := Unit) (w1 := fun _ => wB cy r σ0) () hx hb hr (k_nz (Or.inl rfl)) d_X4_isWrong_98 hlocks hP hK hD hS ⟨(Or.inl rfl), trivial⟩
          · -- not taken at 90
            refine lv_iconst (v := 1) hx hb d_X4_isWrong_93 (by decide) ?_
            refine lv_goto (tgt := 98) hx hb d_X4_isWrong_94 (by decide) ?_
            refine W.widen (k := 0) (n := 0) (Nat.le_of_ble_eq_true rfl) (Nat.le_of_ble_eq_true rfl) ?_
            exact k_zret (X := Unit) (w1 := fun _ => wB cy r σ0) () hx hb hr (k_nz (Or.inr rfl)) d_X4_isWrong_98 hlocks hP hK hD hS ⟨(Or.inr rfl), trivial⟩
      · -- not taken at 36
        refine lv_aload_n hx hb d_X4_isWrong_39 rfl (lv_at hl 0 rfl) ?_
        refine va_get (D := D) (ci := 4) (v := .ref (r 5)) (C := "LinkedUnits$Image") (T := TX4) (N := 12) hx hb hg iwX4 hown hK hP 9 rfl rfl 0 (by decide) (hg _ m_597) (fun _ h9 => h9) rfl d_X4_isWrong_40 ?_
        refine lv_iload_n hx hb d_X4_isWrong_43 rfl (lv_at hl 3 rfl) ?_
        refine lv_bipush (v := 8) hx hb d_X4_isWrong_44 (by decide) ?_
        refine s_calli (X := Unit) (w1 := fun _ => wB cy r σ0) (va_runVN (As := [.int a3, .int 8]) (rest := []) ⟨hx, hb, hml, hown, hg⟩ (s_X8_is l D cy H.size w g r σ0 a3 (8 : Int32) i0 ) ⟨(va_cnB 2 hg (gw_c m_1124) rfl rfl rfl (hNW.1 _ nm_1567) (hg _ m_5) (by decide +kernel) ⟨(Nat.le_of_ble_eq_true rfl), (Nat.le_of_ble_eq_true rfl)⟩), (hg _ m_1123), hg _ ms_X8_is⟩ (s_preVE (As := [.int a3, .int 8]) (gE_ok w g) hS hA hE hP hD hK hNW 4 rfl rfl) rfl rfl hl.1 rfl (lv_room (Nat.le_of_ble_eq_true rfl)) d_X4_isWrong_46 ⟨(Nat.le_of_ble_eq_true rfl), (Nat.le_of_ble_eq_true rfl)⟩) hP hD hS hA (fun r4 u4 H locs hw hP hD hS => ?_)
        have hP : va_P D vwCl (wB cy r σ0) H := hP
        have hD : va_D A (wB cy r σ0) := hD
        have hz4 : r4 = 0 ∨ r4 = 1 := hw.1
        refine lv_if_eq (tgt := 68) hx hb d_X4_isWrong_49 (by decide) (fun c_49 => ?_) (fun c_49 => ?_)
        · -- taken at 49
          refine lv_iconst (v := 0) hx hb d_X4_isWrong_68 (by decide) ?_
          refine W.widen (k := 0) (n := 0) (Nat.le_of_ble_eq_true rfl) (Nat.le_of_ble_eq_true rfl) ?_
          exact k_zret (X := Unit) (w1 := fun _ => wB cy r σ0) () hx hb hr (k_nz (Or.inl rfl)) d_X4_isWrong_69 hlocks hP hK hD hS ⟨(Or.inl rfl), trivial⟩
        · -- not taken at 49
          refine lv_aload_n hx hb d_X4_isWrong_52 rfl (lv_at hl 0 rfl) ?_
          refine lv_aload_n hx hb d_X4_isWrong_53 rfl (lv_at hl 0 rfl) ?_
          refine va_get (D := D) (ci := 4) (v := .int (σ0 10 5)) (C := "LinkedUnits$Image") (T := TX4) (N := 12) hx hb hg iwX4 hown hK hP 9 rfl rfl 5 (by decide) (hg _ m_605) (fun _ h9 => h9) rfl d_X4_isWrong_54 ?_
          refine lv_iload_n hx hb d_X4_isWrong_57 rfl (lv_at hl 3 rfl) ?_
          refine s_calli (X := Unit) (w1 := fun _ => wB cy r σ0) (va_runV (As := [.int (σ0 10 5), .int a3]) (rest := []) ⟨hx, hb, hml, hown, hg⟩ (s_X4_definition l D cy H.size w g r σ0 (σ0 10 5) a3 i0 ) (cwV 2 hg (gw_V m_1580 m_1582 ms_X4_definition m_15 m_1583) rfl rfl rfl (by decide +kernel) ⟨(Nat.le_of_ble_eq_true rfl), (Nat.le_of_ble_eq_true rfl)⟩) (s_preVE (As := [.int (σ0 10 5), .int a3]) (gE_ok w g) hS hA hE hP hD hK hNW 9 rfl rfl) rfl rfl hl.1 rfl (lv_room (Nat.le_of_ble_eq_true rfl)) d_X4_isWrong_58 ⟨(Nat.le_of_ble_eq_true rfl), (Nat.le_of_ble_eq_true rfl)⟩) hP hD hS hA (fun r5 u5 H locs hw hP hD hS => ?_)
          have hP : va_P D vwCl (wB cy r σ0) H := hP
          have hD : va_D A (wB cy r σ0) := hD
          refine lv_if_ge (tgt := 68) hx hb d_X4_isWrong_61 (by decide) (fun c_61 => ?_) (fun c_61 => ?_)
          · -- taken at 61
            refine lv_iconst (v := 0) hx hb d_X4_isWrong_68 (by decide) ?_
            refine W.widen (k := 0) (n := 0) (Nat.le_of_ble_eq_true rfl) (Nat.le_of_ble_eq_true rfl) ?_
            exact k_zret (X := Unit) (w1 := fun _ => wB cy r σ0) () hx hb hr (k_nz (Or.inl rfl)) d_X4_isWrong_69 hlocks hP hK hD hS ⟨(Or.inl rfl), trivial⟩
          · -- not taken at 61
            refine lv_iconst (v := 1) hx hb d_X4_isWrong_64 (by decide) ?_
            refine lv_goto (tgt := 69) hx hb d_X4_isWrong_65 (by decide) ?_
            refine W.widen (k := 0) (n := 0) (Nat.le_of_ble_eq_true rfl) (Nat.le_of_ble_eq_true rfl) ?_
            exact k_zret (X := Unit) (w1 := fun _ => wB cy r σ0) () hx hb hr (k_nz (Or.inr rfl)) d_X4_isWrong_69 hlocks hP hK hD hS ⟨(Or.inr rfl), trivial⟩
    · -- not taken at 9
      refine lv_iload_n hx hb d_X4_isWrong_12 rfl (lv_at hl 1 rfl) ?_
      refine lv_bipush (v := 31) hx hb d_X4_isWrong_13 (by decide) ?_
      refine lv_icmp_ne (tgt := 31) hx hb d_X4_isWrong_15 (by decide) (fun c_15 => ?_) (fun c_15 => ?_)
      · -- taken at 15
        refine lv_iconst (v := 0) hx hb d_X4_isWrong_31 (by decide) ?_
        refine W.widen (k := 0) (n := 0) (Nat.le_of_ble_eq_true rfl) (Nat.le_of_ble_eq_true rfl) ?_
        exact k_zret (X := Unit) (w1 := fun _ => wB cy r σ0) () hx hb hr (k_nz (Or.inl rfl)) d_X4_isWrong_32 hlocks hP hK hD hS ⟨(Or.inl rfl), trivial⟩
      · -- not taken at 15
        refine lv_aload_n hx hb d_X4_isWrong_18 rfl (lv_at hl 0 rfl) ?_
        refine lv_iload_n hx hb d_X4_isWrong_19 rfl (lv_at hl 2 rfl) ?_
        refine lv_iload_n hx hb d_X4_isWrong_20 rfl (lv_at hl 3 rfl) ?_
        refine s_calli (X := Unit) (w1 := fun _ => wB cy r σ0) (va_runV (As := [.int a2, .int a3]) (rest := []) ⟨hx, hb, hml, hown, hg⟩ (s_X4_definition l D cy H.size w g r σ0 a2 a3 i0 ) (cwV 2 hg (gw_V m_1580 m_1582 ms_X4_definition m_15 m_1583) rfl rfl rfl (by decide +kernel) ⟨(Nat.le_of_ble_eq_true rfl), (Nat.le_of_ble_eq_true rfl)⟩) (s_preVE (As := [.int a2, .int a3]) (gE_ok w g) hS hA hE hP hD hK hNW 9 rfl rfl) rfl rfl hl.1 rfl (lv_room (Nat.le_of_ble_eq_true rfl)) d_X4_isWrong_21 ⟨(Nat.le_of_ble_eq_true rfl), (Nat.le_of_ble_eq_true rfl)⟩) hP hD hS hA (fun r6 u6 H locs hw hP hD hS => ?_)
        have hP : va_P D vwCl (wB cy r σ0) H := hP
        have hD : va_D A (wB cy r σ0) := hD
        refine lv_if_lt (tgt := 31) hx hb d_X4_isWrong_24 (by decide) (fun c_24 => ?_) (fun c_24 => ?_)
        · -- taken at 24
          refine lv_iconst (v := 0) hx hb d_X4_isWrong_31 (by decide) ?_
          refine W.widen (k := 0) (n := 0) (Nat.le_of_ble_eq_true rfl) (Nat.le_of_ble_eq_true rfl) ?_
          exact k_zret (X := Unit) (w1 := fun _ => wB cy r σ0) () hx hb hr (k_nz (Or.inl rfl)) d_X4_isWrong_32 hlocks hP hK hD hS ⟨(Or.inl rfl), trivial⟩
        · -- not taken at 24
          refine lv_iconst (v := 1) hx hb d_X4_isWrong_27 (by decide) ?_
          refine lv_goto (tgt := 32) hx hb d_X4_isWrong_28 (by decide) ?_
          refine W.widen (k := 0) (n := 0) (Nat.le_of_ble_eq_true rfl) (Nat.le_of_ble_eq_true rfl) ?_
          exact k_zret (X := Unit) (w1 := fun _ => wB cy r σ0) () hx hb hr (k_nz (Or.inr rfl)) d_X4_isWrong_32 hlocks hP hK hD hS ⟨(Or.inr rfl), trivial⟩
  rw [hH] at hgoal
  exact hgoal
