set_option maxHeartbeats 4000000 in
set_option maxRecDepth 100000 in
theorem s_X4_agrees (l : Launch) (D : va_G) (cy : Nat → ClassId) (sz : Nat) (w : Nat → Nat) (g : Nat → Nat → Int32) (r : Nat → Nat) (σ0 : St) (a1 : Int32) (a2 : Int32) (i0 : Inv σ0) : Met l y_X4_agrees (Cond.code y_X4_agrees b_X4_agrees 7 (some .boolean) :: GW) ({ frames := 2, cells := 0, slots := 0, locals := 43 } : Room) (va_Pc [.ref (r 10), .int a1, .int a2] (kPreE D cy sz (wB cy r σ0) (gE w g))) ((fun A : Nat → Prop => va_Qi (S := Unit) (fun (v9 : Int32) (_ : Unit) => (v9 = 0 ∨ v9 = 1) ∧ True) (fun _ => kPost D cy A (wB cy r σ0)) A) (va_A (wB cy r σ0) sz)) 0 0 (va_A (wB cy r σ0) sz) := by
  refine k_ofWE (Qc := fun A => va_Qi (S := Unit) (fun (v9 : Int32) (_ : Unit) => (v9 = 0 ∨ v9 = 1) ∧ True) (fun _ => kPost D cy A (wB cy r σ0)) A) (by decide) (Nat.le_of_ble_eq_true rfl) ?_
  intro p e s m below meth c A ls hx hb hr hml hown hlocks hin hg hNW hK hP hD hA hS hl hE
  have hl : lv_has ls 7 [(0, .ref (r 10)), (1, .int a1), (2, .int a2)] := hl
  have hown : s.vm.findClass "LinkedUnits$Image" = some m.cls := hown
  obtain ⟨H, hH⟩ : ∃ H, H = s.heap := ⟨_, rfl⟩
  rw [← hH] at hP
  have hS : va_S A s.heap H [] := by rw [hH]; exact va_S.rf
  have hgoal : W p l e ({ frames := 2, cells := 0, slots := 0, locals := 43 } : Room) s m (([.ref (r 10), .int a1, .int a2] : List Value).toArray) below meth c H [] 0 0 (MQ below (va_Qi (S := Unit) (fun (v9 : Int32) (_ : Unit) => (v9 = 0 ∨ v9 = 1) ∧ True) (fun _ => kPost D cy A (wB cy r σ0)) A) (([.ref (r 10), .int a1, .int a2] : List Value).toArray) s 0 0 A) (F0 m 0 ls []) := by
    refine lv_aload_n hx hb d_X4_agrees_0 rfl (lv_at hl 0 rfl) ?_
    refine va_get (D := D) (ci := 4) (v := .ref (r 5)) (C := "LinkedUnits$Image") (T := TX4) (N := 12) hx hb hg iwX4 hown hK hP 9 rfl rfl 0 (by decide) (hg _ m_597) (fun _ h9 => h9) rfl d_X4_agrees_1 ?_
    refine va_getN (D := D) (ci := 8) (v := .ref (r 27)) (C := "LinkedUnits$Store") (T := TX8) (N := 18) hx hb hg iwX8 hown hK hP 4 rfl rfl 4 (by decide) (va_Nw.use rfl (hNW.1 _ nm_231)) (fun _ h9 => h9) rfl d_X4_agrees_4 ?_
    refine lv_iload_n hx hb d_X4_agrees_7 rfl (lv_at hl 1 rfl) ?_
    refine s_call1 (x := ((r 27), .inl (cy 1, 10100, .inl (σ0 27)))) 26 rfl (va_runSN (As := [.ref (r 27), .int a1]) (rest := []) ⟨hx, hb, hml, hown, hg⟩ (c_at_any l D cy H.size (r 27) 10100 (σ0 27) a1 (Nat.le_of_ble_eq_true rfl)) ⟨(va_cnB 2 hg (gw_c m_949) rfl rfl rfl (hNW.1 _ nm_1552) (hg _ m_1) (by decide +kernel) ⟨(Nat.le_of_ble_eq_true rfl), (Nat.le_of_ble_eq_true rfl)⟩), hg _ m_948, trivial⟩ (s_pre (ws := [((r 27), .inl (cy 1, 10100, .inl (σ0 27)))]) (s_sub1 26 hP rfl) (s_subD 26 hD rfl) hK hNW) rfl rfl hl.1 rfl (lv_room (Nat.le_of_ble_eq_true rfl)) d_X4_agrees_8 ⟨(Nat.le_of_ble_eq_true rfl), (Nat.le_of_ble_eq_true rfl)⟩) hP hD hS hA (fun r1 u1 H locs hw hP hD hS => ?_)
    have hP : va_P D vwCl (wB cy r σ0) H := hP
    have hD : va_D A (wB cy r σ0) := hD
    refine lv_istore_n (lv' := [(3, .int r1), (0, .ref (r 10)), (1, .int a1), (2, .int a2)]) hx hb d_X4_agrees_11 rfl hl (by decide) rfl (fun ls hl => ?_)
    refine lv_aload_n hx hb d_X4_agrees_12 rfl (lv_at hl 1 rfl) ?_
    refine va_get (D := D) (ci := 4) (v := .ref (r 5)) (C := "LinkedUnits$Image") (T := TX4) (N := 12) hx hb hg iwX4 hown hK hP 9 rfl rfl 0 (by decide) (hg _ m_597) (fun _ h9 => h9) rfl d_X4_agrees_13 ?_
    refine va_getN (D := D) (ci := 8) (v := .ref (r 27)) (C := "LinkedUnits$Store") (T := TX8) (N := 18) hx hb hg iwX8 hown hK hP 4 rfl rfl 4 (by decide) (va_Nw.use rfl (hNW.1 _ nm_231)) (fun _ h9 => h9) rfl d_X4_agrees_16 ?_
    refine lv_iload_n hx hb d_X4_agrees_19 rfl (lv_at hl 3 rfl) ?_
    refine s_call1 (x := ((r 27), .inl (cy 1, 10100, .inl (σ0 27)))) 26 rfl (va_runSN (As := [.ref (r 27), .int a2]) (rest := []) ⟨hx, hb, hml, hown, hg⟩ (c_at_any l D cy H.size (r 27) 10100 (σ0 27) a2 (Nat.le_of_ble_eq_true rfl)) ⟨(va_cnB 2 hg (gw_c m_949) rfl rfl rfl (hNW.1 _ nm_1552) (hg _ m_1) (by decide +kernel) ⟨(Nat.le_of_ble_eq_true rfl), (Nat.le_of_ble_eq_true rfl)⟩), hg _ m_948, trivial⟩ (s_pre (ws := [((r 27), .inl (cy 1, 10100, .inl (σ0 27)))]) (s_sub1 26 hP rfl) (s_subD 26 hD rfl) hK hNW) rfl rfl hl.1 rfl (lv_room (Nat.le_of_ble_eq_true rfl)) d_X4_agrees_20 ⟨(Nat.le_of_ble_eq_true rfl), (Nat.le_of_ble_eq_true rfl)⟩) hP hD hS hA (fun r2 u2 H locs hw hP hD hS => ?_)
    have hP : va_P D vwCl (wB cy r σ0) H := hP
    have hD : va_D A (wB cy r σ0) := hD
    refine lv_istore (lv' := [(4, .int r2), (3, .int r1), (0, .ref (r 10)), (1, .int a1), (2, .int a2)]) hx hb d_X4_agrees_23 hl (by decide) rfl (fun ls hl => ?_)
    refine lv_aload_n hx hb d_X4_agrees_25 rfl (lv_at hl 2 rfl) ?_
    refine va_get (D := D) (ci := 4) (v := .ref (r 5)) (C := "LinkedUnits$Image") (T := TX4) (N := 12) hx hb hg iwX4 hown hK hP 9 rfl rfl 0 (by decide) (hg _ m_597) (fun _ h9 => h9) rfl d_X4_agrees_26 ?_
    refine lv_iload_n hx hb d_X4_agrees_29 rfl (lv_at hl 3 rfl) ?_
    refine lv_iconst (v := 1) hx hb d_X4_agrees_30 (by decide) ?_
    refine s_calli (X := Unit) (w1 := fun _ => wB cy r σ0) (va_runVN (As := [.int a1, .int 1]) (rest := []) ⟨hx, hb, hml, hown, hg⟩ (s_X8_is l D cy H.size w g r σ0 a1 (1 : Int32) i0 ) ⟨(va_cnB 2 hg (gw_c m_1124) rfl rfl rfl (hNW.1 _ nm_1567) (hg _ m_5) (by decide +kernel) ⟨(Nat.le_of_ble_eq_true rfl), (Nat.le_of_ble_eq_true rfl)⟩), (hg _ m_1123), hg _ ms_X8_is⟩ (s_preVE (As := [.int a1, .int 1]) (gE_ok w g) hS hA hE hP hD hK hNW 4 rfl rfl) rfl rfl hl.1 rfl (lv_room (Nat.le_of_ble_eq_true rfl)) d_X4_agrees_31 ⟨(Nat.le_of_ble_eq_true rfl), (Nat.le_of_ble_eq_true rfl)⟩) hP hD hS hA (fun r3 u3 H locs hw hP hD hS => ?_)
    have hP : va_P D vwCl (wB cy r σ0) H := hP
    have hD : va_D A (wB cy r σ0) := hD
    have hz3 : r3 = 0 ∨ r3 = 1 := hw.1
    refine lv_istore (lv' := [(5, .int r3), (4, .int r2), (3, .int r1), (0, .ref (r 10)), (1, .int a1), (2, .int a2)]) hx hb d_X4_agrees_34 hl (by decide) rfl (fun ls hl => ?_)
    refine lv_iload hx hb d_X4_agrees_36 (lv_at hl 0 rfl) ?_
    refine lv_if_ne (tgt := 54) hx hb d_X4_agrees_38 (by decide) (fun c_38 => ?_) (fun c_38 => ?_)
    · -- taken at 38
      refine lv_iconst (v := 0) hx hb d_X4_agrees_54 (by decide) ?_
      refine lv_istore (lv' := [(6, .int 0), (5, .int r3), (4, .int r2), (3, .int r1), (0, .ref (r 10)), (1, .int a1), (2, .int a2)]) hx hb d_X4_agrees_55 hl (by decide) rfl (fun ls hl => ?_)
      refine lv_iload_n hx hb d_X4_agrees_57 rfl (lv_at hl 6 rfl) ?_
      refine lv_if_lt (tgt := 111) hx hb d_X4_agrees_58 (by decide) (fun c_58 => ?_) (fun c_58 => ?_)
      · -- taken at 58
        refine lv_iconst (v := 1) hx hb d_X4_agrees_111 (by decide) ?_
        refine lv_goto (tgt := 116) hx hb d_X4_agrees_112 (by decide) ?_
        refine W.widen (k := 0) (n := 0) (Nat.le_of_ble_eq_true rfl) (Nat.le_of_ble_eq_true rfl) ?_
        exact k_zret (X := Unit) (w1 := fun _ => wB cy r σ0) () hx hb hr (k_nz (Or.inr rfl)) d_X4_agrees_116 hlocks hP hK hD hS ⟨(Or.inr rfl), trivial⟩
      · -- not taken at 58
        refine lv_iload hx hb d_X4_agrees_61 (lv_at hl 1 rfl) ?_
        refine lv_aload_n hx hb d_X4_agrees_63 rfl (lv_at hl 4 rfl) ?_
        refine va_get (D := D) (ci := 4) (v := .ref (r 5)) (C := "LinkedUnits$Image") (T := TX4) (N := 12) hx hb hg iwX4 hown hK hP 9 rfl rfl 0 (by decide) (hg _ m_597) (fun _ h9 => h9) rfl d_X4_agrees_64 ?_
        refine lv_iload_n hx hb d_X4_agrees_67 rfl (lv_at hl 6 rfl) ?_
        refine lv_iconst (v := 1) hx hb d_X4_agrees_68 (by decide) ?_
        refine s_calli (X := Unit) (w1 := fun _ => wB cy r σ0) (va_runVN (As := [.int a2, .int 1]) (rest := [.int r3]) ⟨hx, hb, hml, hown, hg⟩ (s_X8_is l D cy H.size w g r σ0 a2 (1 : Int32) i0 ) ⟨(va_cnB 2 hg (gw_c m_1124) rfl rfl rfl (hNW.1 _ nm_1567) (hg _ m_5) (by decide +kernel) ⟨(Nat.le_of_ble_eq_true rfl), (Nat.le_of_ble_eq_true rfl)⟩), (hg _ m_1123), hg _ ms_X8_is⟩ (s_preVE (As := [.int a2, .int 1]) (gE_ok w g) hS hA hE hP hD hK hNW 4 rfl rfl) rfl rfl hl.1 rfl (lv_room (Nat.le_of_ble_eq_true rfl)) d_X4_agrees_69 ⟨(Nat.le_of_ble_eq_true rfl), (Nat.le_of_ble_eq_true rfl)⟩) hP hD hS hA (fun r4 u4 H locs hw hP hD hS => ?_)
        have hP : va_P D vwCl (wB cy r σ0) H := hP
        have hD : va_D A (wB cy r σ0) := hD
        have hz4 : r4 = 0 ∨ r4 = 1 := hw.1
        refine lv_icmp_ne (tgt := 115) hx hb d_X4_agrees_72 (by decide) (fun c_72 => ?_) (fun c_72 => ?_)
        · -- taken at 72
          refine lv_iconst (v := 0) hx hb d_X4_agrees_115 (by decide) ?_
          refine W.widen (k := 0) (n := 0) (Nat.le_of_ble_eq_true rfl) (Nat.le_of_ble_eq_true rfl) ?_
          exact k_zret (X := Unit) (w1 := fun _ => wB cy r σ0) () hx hb hr (k_nz (Or.inl rfl)) d_X4_agrees_116 hlocks hP hK hD hS ⟨(Or.inl rfl), trivial⟩
        · -- not taken at 72
          refine lv_aload_n hx hb d_X4_agrees_75 rfl (lv_at hl 4 rfl) ?_
          refine va_get (D := D) (ci := 4) (v := .ref (r 5)) (C := "LinkedUnits$Image") (T := TX4) (N := 12) hx hb hg iwX4 hown hK hP 9 rfl rfl 0 (by decide) (hg _ m_597) (fun _ h9 => h9) rfl d_X4_agrees_76 ?_
          refine va_getN (D := D) (ci := 8) (v := .ref (r 26)) (C := "LinkedUnits$Store") (T := TX8) (N := 18) hx hb hg iwX8 hown hK hP 4 rfl rfl 3 (by decide) (va_Nw.use rfl (hNW.1 _ nm_226)) (fun _ h9 => h9) rfl d_X4_agrees_79 ?_
          refine lv_iload_n hx hb d_X4_agrees_82 rfl (lv_at hl 5 rfl) ?_
          refine s_call1 (x := ((r 26), .inl (cy 1, 10100, .inl (σ0 26)))) 25 rfl (va_runSN (As := [.ref (r 26), .int a1]) (rest := []) ⟨hx, hb, hml, hown, hg⟩ (c_at_any l D cy H.size (r 26) 10100 (σ0 26) a1 (Nat.le_of_ble_eq_true rfl)) ⟨(va_cnB 2 hg (gw_c m_949) rfl rfl rfl (hNW.1 _ nm_1552) (hg _ m_1) (by decide +kernel) ⟨(Nat.le_of_ble_eq_true rfl), (Nat.le_of_ble_eq_true rfl)⟩), hg _ m_948, trivial⟩ (s_pre (ws := [((r 26), .inl (cy 1, 10100, .inl (σ0 26)))]) (s_sub1 25 hP rfl) (s_subD 25 hD rfl) hK hNW) rfl rfl hl.1 rfl (lv_room (Nat.le_of_ble_eq_true rfl)) d_X4_agrees_83 ⟨(Nat.le_of_ble_eq_true rfl), (Nat.le_of_ble_eq_true rfl)⟩) hP hD hS hA (fun r5 u5 H locs hw hP hD hS => ?_)
          have hP : va_P D vwCl (wB cy r σ0) H := hP
          have hD : va_D A (wB cy r σ0) := hD
          refine lv_aload_n hx hb d_X4_agrees_86 rfl (lv_at hl 4 rfl) ?_
          refine va_get (D := D) (ci := 4) (v := .ref (r 5)) (C := "LinkedUnits$Image") (T := TX4) (N := 12) hx hb hg iwX4 hown hK hP 9 rfl rfl 0 (by decide) (hg _ m_597) (fun _ h9 => h9) rfl d_X4_agrees_87 ?_
          refine va_getN (D := D) (ci := 8) (v := .ref (r 26)) (C := "LinkedUnits$Store") (T := TX8) (N := 18) hx hb hg iwX8 hown hK hP 4 rfl rfl 3 (by decide) (va_Nw.use rfl (hNW.1 _ nm_226)) (fun _ h9 => h9) rfl d_X4_agrees_90 ?_
          refine lv_iload_n hx hb d_X4_agrees_93 rfl (lv_at hl 6 rfl) ?_
          refine s_call1 (x := ((r 26), .inl (cy 1, 10100, .inl (σ0 26)))) 25 rfl (va_runSN (As := [.ref (r 26), .int a2]) (rest := [.int r5]) ⟨hx, hb, hml, hown, hg⟩ (c_at_any l D cy H.size (r 26) 10100 (σ0 26) a2 (Nat.le_of_ble_eq_true rfl)) ⟨(va_cnB 2 hg (gw_c m_949) rfl rfl rfl (hNW.1 _ nm_1552) (hg _ m_1) (by decide +kernel) ⟨(Nat.le_of_ble_eq_true rfl), (Nat.le_of_ble_eq_true rfl)⟩), hg _ m_948, trivial⟩ (s_pre (ws := [((r 26), .inl (cy 1, 10100, .inl (σ0 26)))]) (s_sub1 25 hP rfl) (s_subD 25 hD rfl) hK hNW) rfl rfl hl.1 rfl (lv_room (Nat.le_of_ble_eq_true rfl)) d_X4_agrees_94 ⟨(Nat.le_of_ble_eq_true rfl), (Nat.le_of_ble_eq_true rfl)⟩) hP hD hS hA (fun r6 u6 H locs hw hP hD hS => ?_)
          have hP : va_P D vwCl (wB cy r σ0) H := hP
          have hD : va_D A (wB cy r σ0) := hD
          refine lv_icmp_ne (tgt := 115) hx hb d_X4_agrees_97 (by decide) (fun c_97 => ?_) (fun c_97 => ?_)
          · -- taken at 97
            refine lv_iconst (v := 0) hx hb d_X4_agrees_115 (by decide) ?_
            refine W.widen (k := 0) (n := 0) (Nat.le_of_ble_eq_true rfl) (Nat.le_of_ble_eq_true rfl) ?_
            exact k_zret (X := Unit) (w1 := fun _ => wB cy r σ0) () hx hb hr (k_nz (Or.inl rfl)) d_X4_agrees_116 hlocks hP hK hD hS ⟨(Or.inl rfl), trivial⟩
          · -- not taken at 97
            refine lv_iload_n hx hb d_X4_agrees_100 rfl (lv_at hl 3 rfl) ?_
            refine lv_iload hx hb d_X4_agrees_101 (lv_at hl 2 rfl) ?_
            refine lv_icmp_eq (tgt := 111) hx hb d_X4_agrees_103 (by decide) (fun c_103 => ?_) (fun c_103 => ?_)
            · -- taken at 103
              refine lv_iconst (v := 1) hx hb d_X4_agrees_111 (by decide) ?_
              refine lv_goto (tgt := 116) hx hb d_X4_agrees_112 (by decide) ?_
              refine W.widen (k := 0) (n := 0) (Nat.le_of_ble_eq_true rfl) (Nat.le_of_ble_eq_true rfl) ?_
              exact k_zret (X := Unit) (w1 := fun _ => wB cy r σ0) () hx hb hr (k_nz (Or.inr rfl)) d_X4_agrees_116 hlocks hP hK hD hS ⟨(Or.inr rfl), trivial⟩
            · -- not taken at 103
              refine lv_iload hx hb d_X4_agrees_106 (lv_at hl 0 rfl) ?_
              refine lv_if_eq (tgt := 115) hx hb d_X4_agrees_108 (by decide) (fun _ => ?_) (fun c_108 => False.elim (by revert c_108; decide))
              refine lv_iconst (v := 0) hx hb d_X4_agrees_115 (by decide) ?_
              refine W.widen (k := 0) (n := 0) (Nat.le_of_ble_eq_true rfl) (Nat.le_of_ble_eq_true rfl) ?_
              exact k_zret (X := Unit) (w1 := fun _ => wB cy r σ0) () hx hb hr (k_nz (Or.inl rfl)) d_X4_agrees_116 hlocks hP hK hD hS ⟨(Or.inl rfl), trivial⟩
    · -- not taken at 38
      refine lv_iload_n hx hb d_X4_agrees_41 rfl (lv_at hl 2 rfl) ?_
      refine lv_if_ne (tgt := 54) hx hb d_X4_agrees_42 (by decide) (fun c_42 => ?_) (fun c_42 => ?_)
      · -- taken at 42
        refine lv_iconst (v := 0) hx hb d_X4_agrees_54 (by decide) ?_
        refine lv_istore (lv' := [(6, .int 0), (5, .int r3), (4, .int r2), (3, .int r1), (0, .ref (r 10)), (1, .int a1), (2, .int a2)]) hx hb d_X4_agrees_55 hl (by decide) rfl (fun ls hl => ?_)
        refine lv_iload_n hx hb d_X4_agrees_57 rfl (lv_at hl 6 rfl) ?_
        refine lv_if_lt (tgt := 111) hx hb d_X4_agrees_58 (by decide) (fun c_58 => ?_) (fun c_58 => ?_)
        · -- taken at 58
          refine lv_iconst (v := 1) hx hb d_X4_agrees_111 (by decide) ?_
          refine lv_goto (tgt := 116) hx hb d_X4_agrees_112 (by decide) ?_
          refine W.widen (k := 0) (n := 0) (Nat.le_of_ble_eq_true rfl) (Nat.le_of_ble_eq_true rfl) ?_
          exact k_zret (X := Unit) (w1 := fun _ => wB cy r σ0) () hx hb hr (k_nz (Or.inr rfl)) d_X4_agrees_116 hlocks hP hK hD hS ⟨(Or.inr rfl), trivial⟩
        · -- not taken at 58
          refine lv_iload hx hb d_X4_agrees_61 (lv_at hl 1 rfl) ?_
          refine lv_aload_n hx hb d_X4_agrees_63 rfl (lv_at hl 4 rfl) ?_
          refine va_get (D := D) (ci := 4) (v := .ref (r 5)) (C := "LinkedUnits$Image") (T := TX4) (N := 12) hx hb hg iwX4 hown hK hP 9 rfl rfl 0 (by decide) (hg _ m_597) (fun _ h9 => h9) rfl d_X4_agrees_64 ?_
          refine lv_iload_n hx hb d_X4_agrees_67 rfl (lv_at hl 6 rfl) ?_
          refine lv_iconst (v := 1) hx hb d_X4_agrees_68 (by decide) ?_
          refine s_calli (X := Unit) (w1 := fun _ => wB cy r σ0) (va_runVN (As := [.int a2, .int 1]) (rest := [.int r3]) ⟨hx, hb, hml, hown, hg⟩ (s_X8_is l D cy H.size w g r σ0 a2 (1 : Int32) i0 ) ⟨(va_cnB 2 hg (gw_c m_1124) rfl rfl rfl (hNW.1 _ nm_1567) (hg _ m_5) (by decide +kernel) ⟨(Nat.le_of_ble_eq_true rfl), (Nat.le_of_ble_eq_true rfl)⟩), (hg _ m_1123), hg _ ms_X8_is⟩ (s_preVE (As := [.int a2, .int 1]) (gE_ok w g) hS hA hE hP hD hK hNW 4 rfl rfl) rfl rfl hl.1 rfl (lv_room (Nat.le_of_ble_eq_true rfl)) d_X4_agrees_69 ⟨(Nat.le_of_ble_eq_true rfl), (Nat.le_of_ble_eq_true rfl)⟩) hP hD hS hA (fun r7 u7 H locs hw hP hD hS => ?_)
          have hP : va_P D vwCl (wB cy r σ0) H := hP
          have hD : va_D A (wB cy r σ0) := hD
          have hz7 : r7 = 0 ∨ r7 = 1 := hw.1
          refine lv_icmp_ne (tgt := 115) hx hb d_X4_agrees_72 (by decide) (fun c_72 => ?_) (fun c_72 => ?_)
          · -- taken at 72
            refine lv_iconst (v := 0) hx hb d_X4_agrees_115 (by decide) ?_
            refine W.widen (k := 0) (n := 0) (Nat.le_of_ble_eq_true rfl) (Nat.le_of_ble_eq_true rfl) ?_
            exact k_zret (X := Unit) (w1 := fun _ => wB cy r σ0) () hx hb hr (k_nz (Or.inl rfl)) d_X4_agrees_116 hlocks hP hK hD hS ⟨(Or.inl rfl), trivial⟩
          · -- not taken at 72
            refine lv_aload_n hx hb d_X4_agrees_75 rfl (lv_at hl 4 rfl) ?_
            refine va_get (D := D) (ci := 4) (v := .ref (r 5)) (C := "LinkedUnits$Image") (T := TX4) (N := 12) hx hb hg iwX4 hown hK hP 9 rfl rfl 0 (by decide) (hg _ m_597) (fun _ h9 => h9) rfl d_X4_agrees_76 ?_
            refine va_getN (D := D) (ci := 8) (v := .ref (r 26)) (C := "LinkedUnits$Store") (T := TX8) (N := 18) hx hb hg iwX8 hown hK hP 4 rfl rfl 3 (by decide) (va_Nw.use rfl (hNW.1 _ nm_226)) (fun _ h9 => h9) rfl d_X4_agrees_79 ?_
            refine lv_iload_n hx hb d_X4_agrees_82 rfl (lv_at hl 5 rfl) ?_
            refine s_call1 (x := ((r 26), .inl (cy 1, 10100, .inl (σ0 26)))) 25 rfl (va_runSN (As := [.ref (r 26), .int a1]) (rest := []) ⟨hx, hb, hml, hown, hg⟩ (c_at_any l D cy H.size (r 26) 10100 (σ0 26) a1 (Nat.le_of_ble_eq_true rfl)) ⟨(va_cnB 2 hg (gw_c m_949) rfl rfl rfl (hNW.1 _ nm_1552) (hg _ m_1) (by decide +kernel) ⟨(Nat.le_of_ble_eq_true rfl), (Nat.le_of_ble_eq_true rfl)⟩), hg _ m_948, trivial⟩ (s_pre (ws := [((r 26), .inl (cy 1, 10100, .inl (σ0 26)))]) (s_sub1 25 hP rfl) (s_subD 25 hD rfl) hK hNW) rfl rfl hl.1 rfl (lv_room (Nat.le_of_ble_eq_true rfl)) d_X4_agrees_83 ⟨(Nat.le_of_ble_eq_true rfl), (Nat.le_of_ble_eq_true rfl)⟩) hP hD hS hA (fun r8 u8 H locs hw hP hD hS => ?_)
            have hP : va_P D vwCl (wB cy r σ0) H := hP
            have hD : va_D A (wB cy r σ0) := hD
            refine lv_aload_n hx hb d_X4_agrees_86 rfl (lv_at hl 4 rfl) ?_
            refine va_get (D := D) (ci := 4) (v := .ref (r 5)) (C := "LinkedUnits$Image") (T := TX4) (N := 12) hx hb hg iwX4 hown hK hP 9 rfl rfl 0 (by decide) (hg _ m_597) (fun _ h9 => h9) rfl d_X4_agrees_87 ?_
            refine va_getN (D := D) (ci := 8) (v := .ref (r 26)) (C := "LinkedUnits$Store") (T := TX8) (N := 18) hx hb hg iwX8 hown hK hP 4 rfl rfl 3 (by decide) (va_Nw.use rfl (hNW.1 _ nm_226)) (fun _ h9 => h9) rfl d_X4_agrees_90 ?_
            refine lv_iload_n hx hb d_X4_agrees_93 rfl (lv_at hl 6 rfl) ?_
            refine s_call1 (x := ((r 26), .inl (cy 1, 10100, .inl (σ0 26)))) 25 rfl (va_runSN (As := [.ref (r 26), .int a2]) (rest := [.int r8]) ⟨hx, hb, hml, hown, hg⟩ (c_at_any l D cy H.size (r 26) 10100 (σ0 26) a2 (Nat.le_of_ble_eq_true rfl)) ⟨(va_cnB 2 hg (gw_c m_949) rfl rfl rfl (hNW.1 _ nm_1552) (hg _ m_1) (by decide +kernel) ⟨(Nat.le_of_ble_eq_true rfl), (Nat.le_of_ble_eq_true rfl)⟩), hg _ m_948, trivial⟩ (s_pre (ws := [((r 26), .inl (cy 1, 10100, .inl (σ0 26)))]) (s_sub1 25 hP rfl) (s_subD 25 hD rfl) hK hNW) rfl rfl hl.1 rfl (lv_room (Nat.le_of_ble_eq_true rfl)) d_X4_agrees_94 ⟨(Nat.le_of_ble_eq_true rfl), (Nat.le_of_ble_eq_true rfl)⟩) hP hD hS hA (fun r9 u9 H locs hw hP hD hS => ?_)
            have hP : va_P D vwCl (wB cy r σ0) H := hP
            have hD : va_D A (wB cy r σ0) := hD
            refine lv_icmp_ne (tgt := 115) hx hb d_X4_agrees_97 (by decide) (fun c_97 => ?_) (fun c_97 => ?_)
            · -- taken at 97
              refine lv_iconst (v := 0) hx hb d_X4_agrees_115 (by decide) ?_
              refine W.widen (k := 0) (n := 0) (Nat.le_of_ble_eq_true rfl) (Nat.le_of_ble_eq_true rfl) ?_
              exact k_zret (X := Unit) (w1 := fun _ => wB cy r σ0) () hx hb hr (k_nz (Or.inl rfl)) d_X4_agrees_116 hlocks hP hK hD hS ⟨(Or.inl rfl), trivial⟩
            · -- not taken at 97
              refine lv_iload_n hx hb d_X4_agrees_100 rfl (lv_at hl 3 rfl) ?_
              refine lv_iload hx hb d_X4_agrees_101 (lv_at hl 2 rfl) ?_
              refine lv_icmp_eq (tgt := 111) hx hb d_X4_agrees_103 (by decide) (fun c_103 => ?_) (fun c_103 => ?_)
              · -- taken at 103
                refine lv_iconst (v := 1) hx hb d_X4_agrees_111 (by decide) ?_
                refine lv_goto (tgt := 116) hx hb d_X4_agrees_112 (by decide) ?_
                refine W.widen (k := 0) (n := 0) (Nat.le_of_ble_eq_true rfl) (Nat.le_of_ble_eq_true rfl) ?_
                exact k_zret (X := Unit) (w1 := fun _ => wB cy r σ0) () hx hb hr (k_nz (Or.inr rfl)) d_X4_agrees_116 hlocks hP hK hD hS ⟨(Or.inr rfl), trivial⟩
              · -- not taken at 103
                refine lv_iload hx hb d_X4_agrees_106 (lv_at hl 0 rfl) ?_
                refine lv_if_eq (tgt := 115) hx hb d_X4_agrees_108 (by decide) (fun _ => ?_) (fun c_108 => False.elim (by revert c_108; decide))
                refine lv_iconst (v := 0) hx hb d_X4_agrees_115 (by decide) ?_
                refine W.widen (k := 0) (n := 0) (Nat.le_of_ble_eq_true rfl) (Nat.le_of_ble_eq_true rfl) ?_
                exact k_zret (X := Unit) (w1 := fun _ => wB cy r σ0) () hx hb hr (k_nz (Or.inl rfl)) d_X4_agrees_116 hlocks hP hK hD hS ⟨(Or.inl rfl), trivial⟩
      · -- not taken at 42
        refine lv_iload hx hb d_X4_agrees_45 (lv_at hl 1 rfl) ?_
        refine lv_if_le (tgt := 54) hx hb d_X4_agrees_47 (by decide) (fun c_47 => ?_) (fun c_47 => ?_)
        · -- taken at 47
          refine lv_iconst (v := 0) hx hb d_X4_agrees_54 (by decide) ?_
          refine lv_istore (lv' := [(6, .int 0), (5, .int r3), (4, .int r2), (3, .int r1), (0, .ref (r 10)), (1, .int a1), (2, .int a2)]) hx hb d_X4_agrees_55 hl (by decide) rfl (fun ls hl => ?_)
          refine lv_iload_n hx hb d_X4_agrees_57 rfl (lv_at hl 6 rfl) ?_
          refine lv_if_lt (tgt := 111) hx hb d_X4_agrees_58 (by decide) (fun c_58 => ?_) (fun c_58 => ?_)
          · -- taken at 58
            refine lv_iconst (v := 1) hx hb d_X4_agrees_111 (by decide) ?_
            refine lv_goto (tgt := 116) hx hb d_X4_agrees_112 (by decide) ?_
            refine W.widen (k := 0) (n := 0) (Nat.le_of_ble_eq_true rfl) (Nat.le_of_ble_eq_true rfl) ?_
            exact k_zret (X := Unit) (w1 := fun _ => wB cy r σ0) () hx hb hr (k_nz (Or.inr rfl)) d_X4_agrees_116 hlocks hP hK hD hS ⟨(Or.inr rfl), trivial⟩
          · -- not taken at 58
            refine lv_iload hx hb d_X4_agrees_61 (lv_at hl 1 rfl) ?_
            refine lv_aload_n hx hb d_X4_agrees_63 rfl (lv_at hl 4 rfl) ?_
            refine va_get (D := D) (ci := 4) (v := .ref (r 5)) (C := "LinkedUnits$Image") (T := TX4) (N := 12) hx hb hg iwX4 hown hK hP 9 rfl rfl 0 (by decide) (hg _ m_597) (fun _ h9 => h9) rfl d_X4_agrees_64 ?_
            refine lv_iload_n hx hb d_X4_agrees_67 rfl (lv_at hl 6 rfl) ?_
            refine lv_iconst (v := 1) hx hb d_X4_agrees_68 (by decide) ?_
            refine s_calli (X := Unit) (w1 := fun _ => wB cy r σ0) (va_runVN (As := [.int a2, .int 1]) (rest := [.int r3]) ⟨hx, hb, hml, hown, hg⟩ (s_X8_is l D cy H.size w g r σ0 a2 (1 : Int32) i0 ) ⟨(va_cnB 2 hg (gw_c m_1124) rfl rfl rfl (hNW.1 _ nm_1567) (hg _ m_5) (by decide +kernel) ⟨(Nat.le_of_ble_eq_true rfl), (Nat.le_of_ble_eq_true rfl)⟩), (hg _ m_1123), hg _ ms_X8_is⟩ (s_preVE (As := [.int a2, .int 1]) (gE_ok w g) hS hA hE hP hD hK hNW 4 rfl rfl) rfl rfl hl.1 rfl (lv_room (Nat.le_of_ble_eq_true rfl)) d_X4_agrees_69 ⟨(Nat.le_of_ble_eq_true rfl), (Nat.le_of_ble_eq_true rfl)⟩) hP hD hS hA (fun r10 u10 H locs hw hP hD hS => ?_)
            have hP : va_P D vwCl (wB cy r σ0) H := hP
            have hD : va_D A (wB cy r σ0) := hD
            have hz10 : r10 = 0 ∨ r10 = 1 := hw.1
            refine lv_icmp_ne (tgt := 115) hx hb d_X4_agrees_72 (by decide) (fun c_72 => ?_) (fun c_72 => ?_)
            · -- taken at 72
              refine lv_iconst (v := 0) hx hb d_X4_agrees_115 (by decide) ?_
              refine W.widen (k := 0) (n := 0) (Nat.le_of_ble_eq_true rfl) (Nat.le_of_ble_eq_true rfl) ?_
              exact k_zret (X := Unit) (w1 := fun _ => wB cy r σ0) () hx hb hr (k_nz (Or.inl rfl)) d_X4_agrees_116 hlocks hP hK hD hS ⟨(Or.inl rfl), trivial⟩
            · -- not taken at 72
              refine lv_aload_n hx hb d_X4_agrees_75 rfl (lv_at hl 4 rfl) ?_
              refine va_get (D := D) (ci := 4) (v := .ref (r 5)) (C := "LinkedUnits$Image") (T := TX4) (N := 12) hx hb hg iwX4 hown hK hP 9 rfl rfl 0 (by decide) (hg _ m_597) (fun _ h9 => h9) rfl d_X4_agrees_76 ?_
              refine va_getN (D := D) (ci := 8) (v := .ref (r 26)) (C := "LinkedUnits$Store") (T := TX8) (N := 18) hx hb hg iwX8 hown hK hP 4 rfl rfl 3 (by decide) (va_Nw.use rfl (hNW.1 _ nm_226)) (fun _ h9 => h9) rfl d_X4_agrees_79 ?_
              refine lv_iload_n hx hb d_X4_agrees_82 rfl (lv_at hl 5 rfl) ?_
              refine s_call1 (x := ((r 26), .inl (cy 1, 10100, .inl (σ0 26)))) 25 rfl (va_runSN (As := [.ref (r 26), .int a1]) (rest := []) ⟨hx, hb, hml, hown, hg⟩ (c_at_any l D cy H.size (r 26) 10100 (σ0 26) a1 (Nat.le_of_ble_eq_true rfl)) ⟨(va_cnB 2 hg (gw_c m_949) rfl rfl rfl (hNW.1 _ nm_1552) (hg _ m_1) (by decide +kernel) ⟨(Nat.le_of_ble_eq_true rfl), (Nat.le_of_ble_eq_true rfl)⟩), hg _ m_948, trivial⟩ (s_pre (ws := [((r 26), .inl (cy 1, 10100, .inl (σ0 26)))]) (s_sub1 25 hP rfl) (s_subD 25 hD rfl) hK hNW) rfl rfl hl.1 rfl (lv_room (Nat.le_of_ble_eq_true rfl)) d_X4_agrees_83 ⟨(Nat.le_of_ble_eq_true rfl), (Nat.le_of_ble_eq_true rfl)⟩) hP hD hS hA (fun r11 u11 H locs hw hP hD hS => ?_)
              have hP : va_P D vwCl (wB cy r σ0) H := hP
              have hD : va_D A (wB cy r σ0) := hD
              refine lv_aload_n hx hb d_X4_agrees_86 rfl (lv_at hl 4 rfl) ?_
              refine va_get (D := D) (ci := 4) (v := .ref (r 5)) (C := "LinkedUnits$Image") (T := TX4) (N := 12) hx hb hg iwX4 hown hK hP 9 rfl rfl 0 (by decide) (hg _ m_597) (fun _ h9 => h9) rfl d_X4_agrees_87 ?_
              refine va_getN (D := D) (ci := 8) (v := .ref (r 26)) (C := "LinkedUnits$Store") (T := TX8) (N := 18) hx hb hg iwX8 hown hK hP 4 rfl rfl 3 (by decide) (va_Nw.use rfl (hNW.1 _ nm_226)) (fun _ h9 => h9) rfl d_X4_agrees_90 ?_
              refine lv_iload_n hx hb d_X4_agrees_93 rfl (lv_at hl 6 rfl) ?_
              refine s_call1 (x := ((r 26), .inl (cy 1, 10100, .inl (σ0 26)))) 25 rfl (va_runSN (As := [.ref (r 26), .int a2]) (rest := [.int r11]) ⟨hx, hb, hml, hown, hg⟩ (c_at_any l D cy H.size (r 26) 10100 (σ0 26) a2 (Nat.le_of_ble_eq_true rfl)) ⟨(va_cnB 2 hg (gw_c m_949) rfl rfl rfl (hNW.1 _ nm_1552) (hg _ m_1) (by decide +kernel) ⟨(Nat.le_of_ble_eq_true rfl), (Nat.le_of_ble_eq_true rfl)⟩), hg _ m_948, trivial⟩ (s_pre (ws := [((r 26), .inl (cy 1, 10100, .inl (σ0 26)))]) (s_sub1 25 hP rfl) (s_subD 25 hD rfl) hK hNW) rfl rfl hl.1 rfl (lv_room (Nat.le_of_ble_eq_true rfl)) d_X4_agrees_94 ⟨(Nat.le_of_ble_eq_true rfl), (Nat.le_of_ble_eq_true rfl)⟩) hP hD hS hA (fun r12 u12 H locs hw hP hD hS => ?_)
              have hP : va_P D vwCl (wB cy r σ0) H := hP
              have hD : va_D A (wB cy r σ0) := hD
              refine lv_icmp_ne (tgt := 115) hx hb d_X4_agrees_97 (by decide) (fun c_97 => ?_) (fun c_97 => ?_)
              · -- taken at 97
                refine lv_iconst (v := 0) hx hb d_X4_agrees_115 (by decide) ?_
                refine W.widen (k := 0) (n := 0) (Nat.le_of_ble_eq_true rfl) (Nat.le_of_ble_eq_true rfl) ?_
                exact k_zret (X := Unit) (w1 := fun _ => wB cy r σ0) () hx hb hr (k_nz (Or.inl rfl)) d_X4_agrees_116 hlocks hP hK hD hS ⟨(Or.inl rfl), trivial⟩
              · -- not taken at 97
                refine lv_iload_n hx hb d_X4_agrees_100 rfl (lv_at hl 3 rfl) ?_
                refine lv_iload hx hb d_X4_agrees_101 (lv_at hl 2 rfl) ?_
                refine lv_icmp_eq (tgt := 111) hx hb d_X4_agrees_103 (by decide) (fun c_103 => ?_) (fun c_103 => ?_)
                · -- taken at 103
                  refine lv_iconst (v := 1) hx hb d_X4_agrees_111 (by decide) ?_
                  refine lv_goto (tgt := 116) hx hb d_X4_agrees_112 (by decide) ?_
                  refine W.widen (k := 0) (n := 0) (Nat.le_of_ble_eq_true rfl) (Nat.le_of_ble_eq_true rfl) ?_
                  exact k_zret (X := Unit) (w1 := fun _ => wB cy r σ0) () hx hb hr (k_nz (Or.inr rfl)) d_X4_agrees_116 hlocks hP hK hD hS ⟨(Or.inr rfl), trivial⟩
                · -- not taken at 103
                  refine lv_iload hx hb d_X4_agrees_106 (lv_at hl 0 rfl) ?_
                  refine lv_if_eq (tgt := 115) hx hb d_X4_agrees_108 (by decide) (fun _ => ?_) (fun c_108 => False.elim (by revert c_108; decide))
                  refine lv_iconst (v := 0) hx hb d_X4_agrees_115 (by decide) ?_
                  refine W.widen (k := 0) (n := 0) (Nat.le_of_ble_eq_true rfl) (Nat.le_of_ble_eq_true rfl) ?_
                  exact k_zret (X := Unit) (w1 := fun _ => wB cy r σ0) () hx hb hr (k_nz (Or.inl rfl)) d_X4_agrees_116 hlocks hP hK hD hS ⟨(Or.inl rfl), trivial⟩
        · -- not taken at 47
          refine lv_iconst (v := 1) hx hb d_X4_agrees_50 (by decide) ?_
          refine lv_goto (tgt := 55) hx hb d_X4_agrees_51 (by decide) ?_
          refine lv_istore (lv' := [(6, .int 1), (5, .int r3), (4, .int r2), (3, .int r1), (0, .ref (r 10)), (1, .int a1), (2, .int a2)]) hx hb d_X4_agrees_55 hl (by decide) rfl (fun ls hl => ?_)
          refine lv_iload_n hx hb d_X4_agrees_57 rfl (lv_at hl 6 rfl) ?_
          refine lv_if_lt (tgt := 111) hx hb d_X4_agrees_58 (by decide) (fun c_58 => ?_) (fun c_58 => ?_)
          · -- taken at 58
            refine lv_iconst (v := 1) hx hb d_X4_agrees_111 (by decide) ?_
            refine lv_goto (tgt := 116) hx hb d_X4_agrees_112 (by decide) ?_
            refine W.widen (k := 0) (n := 0) (Nat.le_of_ble_eq_true rfl) (Nat.le_of_ble_eq_true rfl) ?_
            exact k_zret (X := Unit) (w1 := fun _ => wB cy r σ0) () hx hb hr (k_nz (Or.inr rfl)) d_X4_agrees_116 hlocks hP hK hD hS ⟨(Or.inr rfl), trivial⟩
          · -- not taken at 58
            refine lv_iload hx hb d_X4_agrees_61 (lv_at hl 1 rfl) ?_
            refine lv_aload_n hx hb d_X4_agrees_63 rfl (lv_at hl 4 rfl) ?_
            refine va_get (D := D) (ci := 4) (v := .ref (r 5)) (C := "LinkedUnits$Image") (T := TX4) (N := 12) hx hb hg iwX4 hown hK hP 9 rfl rfl 0 (by decide) (hg _ m_597) (fun _ h9 => h9) rfl d_X4_agrees_64 ?_
            refine lv_iload_n hx hb d_X4_agrees_67 rfl (lv_at hl 6 rfl) ?_
            refine lv_iconst (v := 1) hx hb d_X4_agrees_68 (by decide) ?_
            refine s_calli (X := Unit) (w1 := fun _ => wB cy r σ0) (va_runVN (As := [.int a2, .int 1]) (rest := [.int r3]) ⟨hx, hb, hml, hown, hg⟩ (s_X8_is l D cy H.size w g r σ0 a2 (1 : Int32) i0 ) ⟨(va_cnB 2 hg (gw_c m_1124) rfl rfl rfl (hNW.1 _ nm_1567) (hg _ m_5) (by decide +kernel) ⟨(Nat.le_of_ble_eq_true rfl), (Nat.le_of_ble_eq_true rfl)⟩), (hg _ m_1123), hg _ ms_X8_is⟩ (s_preVE (As := [.int a2, .int 1]) (gE_ok w g) hS hA hE hP hD hK hNW 4 rfl rfl) rfl rfl hl.1 rfl (lv_room (Nat.le_of_ble_eq_true rfl)) d_X4_agrees_69 ⟨(Nat.le_of_ble_eq_true rfl), (Nat.le_of_ble_eq_true rfl)⟩) hP hD hS hA (fun r13 u13 H locs hw hP hD hS => ?_)
            have hP : va_P D vwCl (wB cy r σ0) H := hP
            have hD : va_D A (wB cy r σ0) := hD
            have hz13 : r13 = 0 ∨ r13 = 1 := hw.1
            refine lv_icmp_ne (tgt := 115) hx hb d_X4_agrees_72 (by decide) (fun c_72 => ?_) (fun c_72 => ?_)
            · -- taken at 72
              refine lv_iconst (v := 0) hx hb d_X4_agrees_115 (by decide) ?_
              refine W.widen (k := 0) (n := 0) (Nat.le_of_ble_eq_true rfl) (Nat.le_of_ble_eq_true rfl) ?_
              exact k_zret (X := Unit) (w1 := fun _ => wB cy r σ0) () hx hb hr (k_nz (Or.inl rfl)) d_X4_agrees_116 hlocks hP hK hD hS ⟨(Or.inl rfl), trivial⟩
            · -- not taken at 72
              refine lv_aload_n hx hb d_X4_agrees_75 rfl (lv_at hl 4 rfl) ?_
              refine va_get (D := D) (ci := 4) (v := .ref (r 5)) (C := "LinkedUnits$Image") (T := TX4) (N := 12) hx hb hg iwX4 hown hK hP 9 rfl rfl 0 (by decide) (hg _ m_597) (fun _ h9 => h9) rfl d_X4_agrees_76 ?_
              refine va_getN (D := D) (ci := 8) (v := .ref (r 26)) (C := "LinkedUnits$Store") (T := TX8) (N := 18) hx hb hg iwX8 hown hK hP 4 rfl rfl 3 (by decide) (va_Nw.use rfl (hNW.1 _ nm_226)) (fun _ h9 => h9) rfl d_X4_agrees_79 ?_
              refine lv_iload_n hx hb d_X4_agrees_82 rfl (lv_at hl 5 rfl) ?_
              refine s_call1 (x := ((r 26), .inl (cy 1, 10100, .inl (σ0 26)))) 25 rfl (va_runSN (As := [.ref (r 26), .int a1]) (rest := []) ⟨hx, hb, hml, hown, hg⟩ (c_at_any l D cy H.size (r 26) 10100 (σ0 26) a1 (Nat.le_of_ble_eq_true rfl)) ⟨(va_cnB 2 hg (gw_c m_949) rfl rfl rfl (hNW.1 _ nm_1552) (hg _ m_1) (by decide +kernel) ⟨(Nat.le_of_ble_eq_true rfl), (Nat.le_of_ble_eq_true rfl)⟩), hg _ m_948, trivial⟩ (s_pre (ws := [((r 26), .inl (cy 1, 10100, .inl (σ0 26)))]) (s_sub1 25 hP rfl) (s_subD 25 hD rfl) hK hNW) rfl rfl hl.1 rfl (lv_room (Nat.le_of_ble_eq_true rfl)) d_X4_agrees_83 ⟨(Nat.le_of_ble_eq_true rfl), (Nat.le_of_ble_eq_true rfl)⟩) hP hD hS hA (fun r14 u14 H locs hw hP hD hS => ?_)
              have hP : va_P D vwCl (wB cy r σ0) H := hP
              have hD : va_D A (wB cy r σ0) := hD
              refine lv_aload_n hx hb d_X4_agrees_86 rfl (lv_at hl 4 rfl) ?_
              refine va_get (D := D) (ci := 4) (v := .ref (r 5)) (C := "LinkedUnits$Image") (T := TX4) (N := 12) hx hb hg iwX4 hown hK hP 9 rfl rfl 0 (by decide) (hg _ m_597) (fun _ h9 => h9) rfl d_X4_agrees_87 ?_
              refine va_getN (D := D) (ci := 8) (v := .ref (r 26)) (C := "LinkedUnits$Store") (T := TX8) (N := 18) hx hb hg iwX8 hown hK hP 4 rfl rfl 3 (by decide) (va_Nw.use rfl (hNW.1 _ nm_226)) (fun _ h9 => h9) rfl d_X4_agrees_90 ?_
              refine lv_iload_n hx hb d_X4_agrees_93 rfl (lv_at hl 6 rfl) ?_
              refine s_call1 (x := ((r 26), .inl (cy 1, 10100, .inl (σ0 26)))) 25 rfl (va_runSN (As := [.ref (r 26), .int a2]) (rest := [.int r14]) ⟨hx, hb, hml, hown, hg⟩ (c_at_any l D cy H.size (r 26) 10100 (σ0 26) a2 (Nat.le_of_ble_eq_true rfl)) ⟨(va_cnB 2 hg (gw_c m_949) rfl rfl rfl (hNW.1 _ nm_1552) (hg _ m_1) (by decide +kernel) ⟨(Nat.le_of_ble_eq_true rfl), (Nat.le_of_ble_eq_true rfl)⟩), hg _ m_948, trivial⟩ (s_pre (ws := [((r 26), .inl (cy 1, 10100, .inl (σ0 26)))]) (s_sub1 25 hP rfl) (s_subD 25 hD rfl) hK hNW) rfl rfl hl.1 rfl (lv_room (Nat.le_of_ble_eq_true rfl)) d_X4_agrees_94 ⟨(Nat.le_of_ble_eq_true rfl), (Nat.le_of_ble_eq_true rfl)⟩) hP hD hS hA (fun r15 u15 H locs hw hP hD hS => ?_)
              have hP : va_P D vwCl (wB cy r σ0) H := hP
              have hD : va_D A (wB cy r σ0) := hD
              refine lv_icmp_ne (tgt := 115) hx hb d_X4_agrees_97 (by decide) (fun c_97 => ?_) (fun c_97 => ?_)
              · -- taken at 97
                refine lv_iconst (v := 0) hx hb d_X4_agrees_115 (by decide) ?_
                refine W.widen (k := 0) (n := 0) (Nat.le_of_ble_eq_true rfl) (Nat.le_of_ble_eq_true rfl) ?_
                exact k_zret (X := Unit) (w1 := fun _ => wB cy r σ0) () hx hb hr (k_nz (Or.inl rfl)) d_X4_agrees_116 hlocks hP hK hD hS ⟨(Or.inl rfl), trivial⟩
              · -- not taken at 97
                refine lv_iload_n hx hb d_X4_agrees_100 rfl (lv_at hl 3 rfl) ?_
                refine lv_iload hx hb d_X4_agrees_101 (lv_at hl 2 rfl) ?_
                refine lv_icmp_eq (tgt := 111) hx hb d_X4_agrees_103 (by decide) (fun c_103 => ?_) (fun c_103 => ?_)
                · -- taken at 103
                  refine lv_iconst (v := 1) hx hb d_X4_agrees_111 (by decide) ?_
                  refine lv_goto (tgt := 116) hx hb d_X4_agrees_112 (by decide) ?_
                  refine W.widen (k := 0) (n := 0) (Nat.le_of_ble_eq_true rfl) (Nat.le_of_ble_eq_true rfl) ?_
                  exact k_zret (X := Unit) (w1 := fun _ => wB cy r σ0) () hx hb hr (k_nz (Or.inr rfl)) d_X4_agrees_116 hlocks hP hK hD hS ⟨(Or.inr rfl), trivial⟩
                · -- not taken at 103
                  refine lv_iload hx hb d_X4_agrees_106 (lv_at hl 0 rfl) ?_
                  refine lv_if_eq (tgt := 115) hx hb d_X4_agrees_108 (by decide) (fun c_108 => absurd c_108 (by decide)) (fun _ => ?_)
                  refine lv_iconst (v := 1) hx hb d_X4_agrees_111 (by decide) ?_
                  refine lv_goto (tgt := 116) hx hb d_X4_agrees_112 (by decide) ?_
                  refine W.widen (k := 0) (n := 0) (Nat.le_of_ble_eq_true rfl) (Nat.le_of_ble_eq_true rfl) ?_
                  exact k_zret (X := Unit) (w1 := fun _ => wB cy r σ0) () hx hb hr (k_nz (Or.inr rfl)) d_X4_agrees_116 hlocks hP hK hD hS ⟨(Or.inr rfl), trivial⟩
  rw [hH] at hgoal
  exact hgoal
set_option maxHeartbeats 4000000 in
set_option maxRecDepth 100000 in
theorem s_X4_isMain (l : Launch) (D : va_G) (cy : Nat → ClassId) (sz : Nat) (w : Nat → Nat) (g : Nat → Nat → Int32) (r : Nat → Nat) (σ0 : St) (a1 : Int32) (i0 : Inv σ0) : Met l y_X4_isMain (Cond.code y_X4_isMain b_X4_isMain 2 (some .boolean) :: GW) ({ frames := 2, cells := 0, slots := 0, locals := 43 } : Room) (va_Pc [.ref (r 10), .int a1] (kPreE D cy sz (wB cy r σ0) (gE w g))) ((fun A : Nat → Prop => va_Qi (S := Unit) (fun (v9 : Int32) (_ : Unit) => (v9 = 0 ∨ v9 = 1) ∧ True) (fun _ => kPost D cy A (wB cy r σ0)) A) (va_A (wB cy r σ0) sz)) 0 0 (va_A (wB cy r σ0) sz) := by
  refine k_ofWE (Qc := fun A => va_Qi (S := Unit) (fun (v9 : Int32) (_ : Unit) => (v9 = 0 ∨ v9 = 1) ∧ True) (fun _ => kPost D cy A (wB cy r σ0)) A) (by decide) (Nat.le_of_ble_eq_true rfl) ?_
  intro p e s m below meth c A ls hx hb hr hml hown hlocks hin hg hNW hK hP hD hA hS hl hE
  have hl : lv_has ls 2 [(0, .ref (r 10)), (1, .int a1)] := hl
  have hown : s.vm.findClass "LinkedUnits$Image" = some m.cls := hown
  obtain ⟨H, hH⟩ : ∃ H, H = s.heap := ⟨_, rfl⟩
  rw [← hH] at hP
  have hS : va_S A s.heap H [] := by rw [hH]; exact va_S.rf
  have hgoal : W p l e ({ frames := 2, cells := 0, slots := 0, locals := 43 } : Room) s m (([.ref (r 10), .int a1] : List Value).toArray) below meth c H [] 0 0 (MQ below (va_Qi (S := Unit) (fun (v9 : Int32) (_ : Unit) => (v9 = 0 ∨ v9 = 1) ∧ True) (fun _ => kPost D cy A (wB cy r σ0)) A) (([.ref (r 10), .int a1] : List Value).toArray) s 0 0 A) (F0 m 0 ls []) := by
    refine lv_iload_n hx hb d_X4_isMain_0 rfl (lv_at hl 1 rfl) ?_
    refine lv_if_lt (tgt := 48) hx hb d_X4_isMain_1 (by decide) (fun c_1 => ?_) (fun c_1 => ?_)
    · -- taken at 1
      refine lv_iconst (v := 0) hx hb d_X4_isMain_48 (by decide) ?_
      refine W.widen (k := 0) (n := 0) (Nat.le_of_ble_eq_true rfl) (Nat.le_of_ble_eq_true rfl) ?_
      exact k_zret (X := Unit) (w1 := fun _ => wB cy r σ0) () hx hb hr (k_nz (Or.inl rfl)) d_X4_isMain_49 hlocks hP hK hD hS ⟨(Or.inl rfl), trivial⟩
    · -- not taken at 1
      refine lv_aload_n hx hb d_X4_isMain_4 rfl (lv_at hl 0 rfl) ?_
      refine va_get (D := D) (ci := 4) (v := .ref (r 5)) (C := "LinkedUnits$Image") (T := TX4) (N := 12) hx hb hg iwX4 hown hK hP 9 rfl rfl 0 (by decide) (hg _ m_597) (fun _ h9 => h9) rfl d_X4_isMain_5 ?_
      refine lv_iload_n hx hb d_X4_isMain_8 rfl (lv_at hl 1 rfl) ?_
      refine lv_iconst (v := 1) hx hb d_X4_isMain_9 (by decide) ?_
      refine s_calli (X := Unit) (w1 := fun _ => wB cy r σ0) (va_runVN (As := [.int a1, .int 1]) (rest := []) ⟨hx, hb, hml, hown, hg⟩ (s_X8_is l D cy H.size w g r σ0 a1 (1 : Int32) i0 ) ⟨(va_cnB 2 hg (gw_c m_1124) rfl rfl rfl (hNW.1 _ nm_1567) (hg _ m_5) (by decide +kernel) ⟨(Nat.le_of_ble_eq_true rfl), (Nat.le_of_ble_eq_true rfl)⟩), (hg _ m_1123), hg _ ms_X8_is⟩ (s_preVE (As := [.int a1, .int 1]) (gE_ok w g) hS hA hE hP hD hK hNW 4 rfl rfl) rfl rfl hl.1 rfl (lv_room (Nat.le_of_ble_eq_true rfl)) d_X4_isMain_10 ⟨(Nat.le_of_ble_eq_true rfl), (Nat.le_of_ble_eq_true rfl)⟩) hP hD hS hA (fun r1 u1 H locs hw hP hD hS => ?_)
      have hP : va_P D vwCl (wB cy r σ0) H := hP
      have hD : va_D A (wB cy r σ0) := hD
      have hz1 : r1 = 0 ∨ r1 = 1 := hw.1
      refine lv_if_eq (tgt := 48) hx hb d_X4_isMain_13 (by decide) (fun c_13 => ?_) (fun c_13 => ?_)
      · -- taken at 13
        refine lv_iconst (v := 0) hx hb d_X4_isMain_48 (by decide) ?_
        refine W.widen (k := 0) (n := 0) (Nat.le_of_ble_eq_true rfl) (Nat.le_of_ble_eq_true rfl) ?_
        exact k_zret (X := Unit) (w1 := fun _ => wB cy r σ0) () hx hb hr (k_nz (Or.inl rfl)) d_X4_isMain_49 hlocks hP hK hD hS ⟨(Or.inl rfl), trivial⟩
      · -- not taken at 13
        refine lv_aload_n hx hb d_X4_isMain_16 rfl (lv_at hl 0 rfl) ?_
        refine va_get (D := D) (ci := 4) (v := .ref (r 5)) (C := "LinkedUnits$Image") (T := TX4) (N := 12) hx hb hg iwX4 hown hK hP 9 rfl rfl 0 (by decide) (hg _ m_597) (fun _ h9 => h9) rfl d_X4_isMain_17 ?_
        refine va_getN (D := D) (ci := 8) (v := .ref (r 26)) (C := "LinkedUnits$Store") (T := TX8) (N := 18) hx hb hg iwX8 hown hK hP 4 rfl rfl 3 (by decide) (va_Nw.use rfl (hNW.1 _ nm_226)) (fun _ h9 => h9) rfl d_X4_isMain_20 ?_
        refine lv_iload_n hx hb d_X4_isMain_23 rfl (lv_at hl 1 rfl) ?_
        refine s_call1 (x := ((r 26), .inl (cy 1, 10100, .inl (σ0 26)))) 25 rfl (va_runSN (As := [.ref (r 26), .int a1]) (rest := []) ⟨hx, hb, hml, hown, hg⟩ (c_at_any l D cy H.size (r 26) 10100 (σ0 26) a1 (Nat.le_of_ble_eq_true rfl)) ⟨(va_cnB 2 hg (gw_c m_949) rfl rfl rfl (hNW.1 _ nm_1552) (hg _ m_1) (by decide +kernel) ⟨(Nat.le_of_ble_eq_true rfl), (Nat.le_of_ble_eq_true rfl)⟩), hg _ m_948, trivial⟩ (s_pre (ws := [((r 26), .inl (cy 1, 10100, .inl (σ0 26)))]) (s_sub1 25 hP rfl) (s_subD 25 hD rfl) hK hNW) rfl rfl hl.1 rfl (lv_room (Nat.le_of_ble_eq_true rfl)) d_X4_isMain_24 ⟨(Nat.le_of_ble_eq_true rfl), (Nat.le_of_ble_eq_true rfl)⟩) hP hD hS hA (fun r2 u2 H locs hw hP hD hS => ?_)
        have hP : va_P D vwCl (wB cy r σ0) H := hP
        have hD : va_D A (wB cy r σ0) := hD
        refine lv_if_ne (tgt := 48) hx hb d_X4_isMain_27 (by decide) (fun c_27 => ?_) (fun c_27 => ?_)
        · -- taken at 27
          refine lv_iconst (v := 0) hx hb d_X4_isMain_48 (by decide) ?_
          refine W.widen (k := 0) (n := 0) (Nat.le_of_ble_eq_true rfl) (Nat.le_of_ble_eq_true rfl) ?_
          exact k_zret (X := Unit) (w1 := fun _ => wB cy r σ0) () hx hb hr (k_nz (Or.inl rfl)) d_X4_isMain_49 hlocks hP hK hD hS ⟨(Or.inl rfl), trivial⟩
        · -- not taken at 27
          refine lv_aload_n hx hb d_X4_isMain_30 rfl (lv_at hl 0 rfl) ?_
          refine va_get (D := D) (ci := 4) (v := .ref (r 5)) (C := "LinkedUnits$Image") (T := TX4) (N := 12) hx hb hg iwX4 hown hK hP 9 rfl rfl 0 (by decide) (hg _ m_597) (fun _ h9 => h9) rfl d_X4_isMain_31 ?_
          refine va_getN (D := D) (ci := 8) (v := .ref (r 27)) (C := "LinkedUnits$Store") (T := TX8) (N := 18) hx hb hg iwX8 hown hK hP 4 rfl rfl 4 (by decide) (va_Nw.use rfl (hNW.1 _ nm_231)) (fun _ h9 => h9) rfl d_X4_isMain_34 ?_
          refine lv_iload_n hx hb d_X4_isMain_37 rfl (lv_at hl 1 rfl) ?_
          refine s_call1 (x := ((r 27), .inl (cy 1, 10100, .inl (σ0 27)))) 26 rfl (va_runSN (As := [.ref (r 27), .int a1]) (rest := []) ⟨hx, hb, hml, hown, hg⟩ (c_at_any l D cy H.size (r 27) 10100 (σ0 27) a1 (Nat.le_of_ble_eq_true rfl)) ⟨(va_cnB 2 hg (gw_c m_949) rfl rfl rfl (hNW.1 _ nm_1552) (hg _ m_1) (by decide +kernel) ⟨(Nat.le_of_ble_eq_true rfl), (Nat.le_of_ble_eq_true rfl)⟩), hg _ m_948, trivial⟩ (s_pre (ws := [((r 27), .inl (cy 1, 10100, .inl (σ0 27)))]) (s_sub1 26 hP rfl) (s_subD 26 hD rfl) hK hNW) rfl rfl hl.1 rfl (lv_room (Nat.le_of_ble_eq_true rfl)) d_X4_isMain_38 ⟨(Nat.le_of_ble_eq_true rfl), (Nat.le_of_ble_eq_true rfl)⟩) hP hD hS hA (fun r3 u3 H locs hw hP hD hS => ?_)
          have hP : va_P D vwCl (wB cy r σ0) H := hP
          have hD : va_D A (wB cy r σ0) := hD
          refine lv_if_ne (tgt := 48) hx hb d_X4_isMain_41 (by decide) (fun c_41 => ?_) (fun c_41 => ?_)
          · -- taken at 41
            refine lv_iconst (v := 0) hx hb d_X4_isMain_48 (by decide) ?_
            refine W.widen (k := 0) (n := 0) (Nat.le_of_ble_eq_true rfl) (Nat.le_of_ble_eq_true rfl) ?_
            exact k_zret (X := Unit) (w1 := fun _ => wB cy r σ0) () hx hb hr (k_nz (Or.inl rfl)) d_X4_isMain_49 hlocks hP hK hD hS ⟨(Or.inl rfl), trivial⟩
          · -- not taken at 41
            refine lv_iconst (v := 1) hx hb d_X4_isMain_44 (by decide) ?_
            refine lv_goto (tgt := 49) hx hb d_X4_isMain_45 (by decide) ?_
            refine W.widen (k := 0) (n := 0) (Nat.le_of_ble_eq_true rfl) (Nat.le_of_ble_eq_true rfl) ?_
            exact k_zret (X := Unit) (w1 := fun _ => wB cy r σ0) () hx hb hr (k_nz (Or.inr rfl)) d_X4_isMain_49 hlocks hP hK hD hS ⟨(Or.inr rfl), trivial⟩
  rw [hH] at hgoal
  exact hgoal
set_option maxHeartbeats 4000000 in
set_option maxRecDepth 100000 in
theorem s_X4_dataCells (l : Launch) (D : va_G) (cy : Nat → ClassId) (sz : Nat) (w : Nat → Nat) (g : Nat → Nat → Int32) (r : Nat → Nat) (σ0 : St) (i0 : Inv σ0) : Met l y_X4_dataCells (Cond.code y_X4_dataCells b_X4_dataCells 3 (some .int) :: GW) ({ frames := 1, cells := 0, slots := 0, locals := 21 } : Room) (va_Pc [.ref (r 10)] (kPreE D cy sz (wB cy r σ0) (gE w g))) ((fun A : Nat → Prop => va_Qi (S := Unit) (fun (_ : Int32) (_ : Unit) => True) (fun _ => kPost D cy A (wB cy r σ0)) A) (va_A (wB cy r σ0) sz)) 0 0 (va_A (wB cy r σ0) sz) := by
  refine k_ofWE (Qc := fun A => va_Qi (S := Unit) (fun (_ : Int32) (_ : Unit) => True) (fun _ => kPost D cy A (wB cy r σ0)) A) (by decide) (Nat.le_of_ble_eq_true rfl) ?_
  intro p e s m below meth c A ls hx hb hr hml hown hlocks hin hg hNW hK hP hD hA hS hl hE
  have hl : lv_has ls 3 [(0, .ref (r 10))] := hl
  have hown : s.vm.findClass "LinkedUnits$Image" = some m.cls := hown
  have b4 : ∀ (N : Nat) (x1 : Int32) (x2 : Int32) (H : Heap) (locs : List Loc) (ls : Array Slot), upm x2 = N → va_P D vwCl (wB cy r σ0) H → va_D A (wB cy r σ0) → va_S A s.heap H locs → lv_has ls 3 [(0, .ref (r 10)), (1, .int x1), (2, .int x2)] → W p l e ({ frames := 1, cells := 0, slots := 0, locals := 21 } : Room) s m (([.ref (r 10)] : List Value).toArray) below meth c H locs 0 0 (MQ below (va_Qi (S := Unit) (fun (_ : Int32) (_ : Unit) => True) (fun _ => kPost D cy A (wB cy r σ0)) A) (([.ref (r 10)] : List Value).toArray) s 0 0 A) (F0 m 4 ls []) := by
    intro M4
    induction M4 using Nat.strongRecOn with
    | _ M4 ih4 =>
      intro x1 x2 H locs ls N4 hP hD hS hl
      refine lv_iload_n hx hb d_X4_dataCells_4 rfl (lv_at hl 2 rfl) ?_
      refine lv_aload_n hx hb d_X4_dataCells_5 rfl (lv_at hl 0 rfl) ?_
      refine va_get (D := D) (ci := 4) (v := .int (σ0 10 5)) (C := "LinkedUnits$Image") (T := TX4) (N := 12) hx hb hg iwX4 hown hK hP 9 rfl rfl 5 (by decide) (hg _ m_605) (fun _ h9 => h9) rfl d_X4_dataCells_6 ?_
      refine lv_icmp_ge (tgt := 39) hx hb d_X4_dataCells_9 (by decide) (fun c_9 => ?_) (fun c_9 => ?_)
      · -- taken at 9
        refine lv_iload_n hx hb d_X4_dataCells_39 rfl (lv_at hl 1 rfl) ?_
        refine W.widen (k := 0) (n := 0) (Nat.le_of_ble_eq_true rfl) (Nat.le_of_ble_eq_true rfl) ?_
        exact k_iret (X := Unit) (w1 := fun _ => wB cy r σ0) () hx hb hr d_X4_dataCells_40 hlocks hP hK hD hS trivial
      · -- not taken at 9
        refine lv_iload_n hx hb d_X4_dataCells_12 rfl (lv_at hl 1 rfl) ?_
        refine lv_aload_n hx hb d_X4_dataCells_13 rfl (lv_at hl 0 rfl) ?_
        refine va_get (D := D) (ci := 4) (v := .ref (r 5)) (C := "LinkedUnits$Image") (T := TX4) (N := 12) hx hb hg iwX4 hown hK hP 9 rfl rfl 0 (by decide) (hg _ m_597) (fun _ h9 => h9) rfl d_X4_dataCells_14 ?_
        refine va_getN (D := D) (ci := 8) (v := .ref (r 37)) (C := "LinkedUnits$Store") (T := TX8) (N := 18) hx hb hg iwX8 hown hK hP 4 rfl rfl 17 (by decide) (va_Nw.use rfl (hNW.1 _ nm_258)) (fun _ h9 => h9) rfl d_X4_dataCells_17 ?_
        refine lv_aload_n hx hb d_X4_dataCells_20 rfl (lv_at hl 0 rfl) ?_
        refine va_get (D := D) (ci := 4) (v := .ref (r 56)) (C := "LinkedUnits$Image") (T := TX4) (N := 12) hx hb hg iwX4 hown hK hP 9 rfl rfl 6 (by decide) (hg _ m_606) (fun _ h9 => h9) rfl d_X4_dataCells_21 ?_
        refine lv_iload_n hx hb d_X4_dataCells_24 rfl (lv_at hl 2 rfl) ?_
        refine s_call1 (x := ((r 56), .inl (cy 1, 101, .inl (σ0 56)))) 53 rfl (va_runSN (As := [.ref (r 56), .int x2]) (rest := [.ref (r 37), .int x1]) ⟨hx, hb, hml, hown, hg⟩ (c_at_any l D cy H.size (r 56) 101 (σ0 56) x2 (Nat.le_of_ble_eq_true rfl)) ⟨(va_cnB 2 hg (gw_c m_949) rfl rfl rfl (hNW.1 _ nm_1552) (hg _ m_1) (by decide +kernel) ⟨(Nat.le_of_ble_eq_true rfl), (Nat.le_of_ble_eq_true rfl)⟩), hg _ m_948, trivial⟩ (s_pre (ws := [((r 56), .inl (cy 1, 101, .inl (σ0 56)))]) (s_sub1 53 hP rfl) (s_subD 53 hD rfl) hK hNW) rfl rfl hl.1 rfl (lv_room (Nat.le_of_ble_eq_true rfl)) d_X4_dataCells_25 ⟨(Nat.le_of_ble_eq_true rfl), (Nat.le_of_ble_eq_true rfl)⟩) hP hD hS hA (fun r1 u1 H locs hw hP hD hS => ?_)
        have hP : va_P D vwCl (wB cy r σ0) H := hP
        have hD : va_D A (wB cy r σ0) := hD
        refine s_call1 (x := ((r 37), .inl (cy 1, 101, .inl (σ0 37)))) 36 rfl (va_runSN (As := [.ref (r 37), .int r1]) (rest := [.int x1]) ⟨hx, hb, hml, hown, hg⟩ (c_at_any l D cy H.size (r 37) 101 (σ0 37) r1 (Nat.le_of_ble_eq_true rfl)) ⟨(va_cnB 2 hg (gw_c m_949) rfl rfl rfl (hNW.1 _ nm_1552) (hg _ m_1) (by decide +kernel) ⟨(Nat.le_of_ble_eq_true rfl), (Nat.le_of_ble_eq_true rfl)⟩), hg _ m_948, trivial⟩ (s_pre (ws := [((r 37), .inl (cy 1, 101, .inl (σ0 37)))]) (s_sub1 36 hP rfl) (s_subD 36 hD rfl) hK hNW) rfl rfl hl.1 rfl (lv_room (Nat.le_of_ble_eq_true rfl)) d_X4_dataCells_28 ⟨(Nat.le_of_ble_eq_true rfl), (Nat.le_of_ble_eq_true rfl)⟩) hP hD hS hA (fun r2 u2 H locs hw hP hD hS => ?_)
        have hP : va_P D vwCl (wB cy r σ0) H := hP
        have hD : va_D A (wB cy r σ0) := hD
        refine lv_iadd hx hb d_X4_dataCells_31 ?_
        refine lv_istore_n (lv' := [(1, .int (x1 + r2)), (0, .ref (r 10)), (2, .int x2)]) hx hb d_X4_dataCells_32 rfl hl (by decide) rfl (fun ls hl => ?_)
        refine lv_iinc (v := (x2 + 1)) (lv' := [(2, .int (x2 + 1)), (1, .int (x1 + r2)), (0, .ref (r 10))]) hx hb d_X4_dataCells_33 hl (k := 2) rfl rfl (by decide) rfl (fun ls hl => ?_)
        refine lv_goto (tgt := 4) hx hb d_X4_dataCells_36 (by decide) ?_
        exact ih4 _ (Nat.lt_of_lt_of_eq (upm_lt c_9) N4) (x1 + r2) (x2 + 1) _ _ _ rfl hP hD hS (lv_sub hl [2, 1, 0] rfl)
  obtain ⟨H, hH⟩ : ∃ H, H = s.heap := ⟨_, rfl⟩
  rw [← hH] at hP
  have hS : va_S A s.heap H [] := by rw [hH]; exact va_S.rf
  have hgoal : W p l e ({ frames := 1, cells := 0, slots := 0, locals := 21 } : Room) s m (([.ref (r 10)] : List Value).toArray) below meth c H [] 0 0 (MQ below (va_Qi (S := Unit) (fun (_ : Int32) (_ : Unit) => True) (fun _ => kPost D cy A (wB cy r σ0)) A) (([.ref (r 10)] : List Value).toArray) s 0 0 A) (F0 m 0 ls []) := by
    refine lv_iconst (v := 0) hx hb d_X4_dataCells_0 (by decide) ?_
    refine lv_istore_n (lv' := [(1, .int 0), (0, .ref (r 10))]) hx hb d_X4_dataCells_1 rfl hl (by decide) rfl (fun ls hl => ?_)
    refine lv_iconst (v := 1) hx hb d_X4_dataCells_2 (by decide) ?_
    refine lv_istore_n (lv' := [(2, .int 1), (1, .int 0), (0, .ref (r 10))]) hx hb d_X4_dataCells_3 rfl hl (by decide) rfl (fun ls hl => ?_)
    exact b4 _ (0 : Int32) (1 : Int32) _ _ _ rfl hP hD hS (lv_sub hl [2, 1, 0] rfl)
  rw [hH] at hgoal
  exact hgoal
set_option maxHeartbeats 4000000 in
set_option maxRecDepth 100000 in
theorem s_X9_give (l : Launch) (D : va_G) (cy : Nat → ClassId) (sz : Nat) (w : Nat → Nat) (g : Nat → Nat → Int32) (r : Nat → Nat) (σ0 : St) (a1 : Int32) (i0 : Inv σ0) : Met l y_X9_give (Cond.code y_X9_give b_X9_give 2 (some .int) :: GW) ({ frames := 0, cells := 0, slots := 0, locals := 0 } : Room) (va_Pc [.ref (r 11), .int a1] (kPreE D cy sz (wB cy r σ0) (gE w g))) ((fun A : Nat → Prop => va_Qi (S := St) (fun (_ : Int32) (τ : St) => (Inv τ ∧ Keep [(11, 0)] [60] σ0 τ)) (fun τ => kPost D cy A (wB cy r τ)) A) (va_A (wB cy r σ0) sz)) 0 0 (va_A (wB cy r σ0) sz) := by
  refine k_ofWE (Qc := fun A => va_Qi (S := St) (fun (_ : Int32) (τ : St) => (Inv τ ∧ Keep [(11, 0)] [60] σ0 τ)) (fun τ => kPost D cy A (wB cy r τ)) A) (by decide) (Nat.le_of_ble_eq_true rfl) ?_
  intro p e s m below meth c A ls hx hb hr hml hown hlocks hin hg hNW hK hP hD hA hS hl hE
  have hl : lv_has ls 2 [(0, .ref (r 11)), (1, .int a1)] := hl
  have hown : s.vm.findClass "LinkedUnits$Tape" = some m.cls := hown
  have kp : Keep [(11, 0)] [60] σ0 σ0 := keep_rf
  obtain ⟨H, hH⟩ : ∃ H, H = s.heap := ⟨_, rfl⟩
  rw [← hH] at hP
  have hS : va_S A s.heap H [] := by rw [hH]; exact va_S.rf
  have hgoal : W p l e ({ frames := 0, cells := 0, slots := 0, locals := 0 } : Room) s m (([.ref (r 11), .int a1] : List Value).toArray) below meth c H [] 0 0 (MQ below (va_Qi (S := St) (fun (_ : Int32) (τ : St) => (Inv τ ∧ Keep [(11, 0)] [60] σ0 τ)) (fun τ => kPost D cy A (wB cy r τ)) A) (([.ref (r 11), .int a1] : List Value).toArray) s 0 0 A) (F0 m 0 ls []) := by
    refine lv_aload_n hx hb d_X9_give_0 rfl (lv_at hl 0 rfl) ?_
    refine va_get (D := D) (ci := 9) (v := .int (σ0 11 0)) (C := "LinkedUnits$Tape") (T := TX9) (N := 5) hx hb hg iwX9 hown hK hP 10 rfl rfl 0 (by decide) (hg _ m_646) (fun _ h9 => h9) rfl d_X9_give_1 ?_
    refine lv_sipush (v := 4096) hx hb d_X9_give_4 (by decide) ?_
    refine lv_icmp_ge (tgt := 22) hx hb d_X9_give_7 (by decide) (fun c_7 => ?_) (fun c_7 => ?_)
    · -- taken at 7
      refine lv_iconst (v := (-1)) hx hb d_X9_give_22 (by decide) ?_
      refine W.widen (k := 0) (n := 0) (Nat.le_of_ble_eq_true rfl) (Nat.le_of_ble_eq_true rfl) ?_
      exact k_iret (X := St) (w1 := fun τ => wB cy r τ) σ0 hx hb hr d_X9_give_23 hlocks hP hK hD hS ⟨i0, kp⟩
    · -- not taken at 7
      refine lv_aload_n hx hb d_X9_give_10 rfl (lv_at hl 0 rfl) ?_
      refine va_get (D := D) (ci := 9) (v := .int (σ0 11 0)) (C := "LinkedUnits$Tape") (T := TX9) (N := 5) hx hb hg iwX9 hown hK hP 10 rfl rfl 0 (by decide) (hg _ m_646) (fun _ h9 => h9) rfl d_X9_give_11 ?_
      refine lv_aload_n hx hb d_X9_give_14 rfl (lv_at hl 0 rfl) ?_
      refine va_get (D := D) (ci := 9) (v := .ref (r 60)) (C := "LinkedUnits$Tape") (T := TX9) (N := 5) hx hb hg iwX9 hown hK hP 10 rfl rfl 3 (by decide) (hg _ m_650) (fun _ h9 => h9) rfl d_X9_give_15 ?_
      refine va_alen hx hb hK hP 57 0 rfl rfl (v := 4096) (by show Int32.ofNat 4096 = 4096; decide) d_X9_give_18 ?_
      refine lv_icmp_lt (tgt := 24) hx hb d_X9_give_19 (by decide) (fun c_19 => ?_) (fun c_19 => ?_)
      · -- taken at 19
        refine lv_aload_n hx hb d_X9_give_24 rfl (lv_at hl 0 rfl) ?_
        refine va_get (D := D) (ci := 9) (v := .ref (r 60)) (C := "LinkedUnits$Tape") (T := TX9) (N := 5) hx hb hg iwX9 hown hK hP 10 rfl rfl 3 (by decide) (hg _ m_650) (fun _ h9 => h9) rfl d_X9_give_25 ?_
        refine lv_aload_n hx hb d_X9_give_28 rfl (lv_at hl 0 rfl) ?_
        refine va_get (D := D) (ci := 9) (v := .int (σ0 11 0)) (C := "LinkedUnits$Tape") (T := TX9) (N := 5) hx hb hg iwX9 hown hK hP 10 rfl rfl 0 (by decide) (hg _ m_646) (fun _ h9 => h9) rfl d_X9_give_29 ?_
        refine lv_iload_n hx hb d_X9_give_32 rfl (lv_at hl 1 rfl) ?_
        refine lv_i2b (v := (a1).toInt8.toInt32) hx hb d_X9_give_33 rfl ?_
        refine va_bast hx hb hK hP hD hS 57 0 rfl rfl (by refine s_in (by decide) ?_ ?_ <;> (have e0 := s_rng (σ0 11 0); have e1 := i0.2.1; have e2 : (4096 : Int32).toInt = 4096 := (by decide); have e3 := s_nle c_7; have e4 := s_lt c_19; omega)) d_X9_give_34 (fun H locs hP hD hS => ?_)
        have hP : va_P D vwCl (wB cy r (upF σ0 60 (upd (σ0 60) ((σ0 11 0)).toNatClampNeg (vp_nar .byte ((a1).toInt8.toInt32))))) H := hP
        have hD : va_D A (wB cy r (upF σ0 60 (upd (σ0 60) ((σ0 11 0)).toNatClampNeg (vp_nar .byte ((a1).toInt8.toInt32))))) := hD
        have kp : Keep [(11, 0)] [60] σ0 (upF σ0 60 (upd (σ0 60) ((σ0 11 0)).toNatClampNeg (vp_nar .byte ((a1).toInt8.toInt32)))) := keep_a kp (by decide)
        refine lv_aload_n hx hb d_X9_give_35 rfl (lv_at hl 0 rfl) ?_
        refine lv_dup hx hb d_X9_give_36 rfl ?_
        refine va_get (D := D) (ci := 9) (v := .int (σ0 11 0)) (C := "LinkedUnits$Tape") (T := TX9) (N := 5) hx hb hg iwX9 hown hK hP 10 rfl rfl 0 (by decide) (hg _ m_646) (fun _ h9 => h9) rfl d_X9_give_37 ?_
        refine lv_iconst (v := 1) hx hb d_X9_give_40 (by decide) ?_
        refine lv_iadd hx hb d_X9_give_41 ?_
        refine va_put (D := D) (ci := 9) (v := .int ((σ0 11 0) + 1)) (ty := .int) (C := "LinkedUnits$Tape") (T := TX9) (N := 5) hx hb hg iwX9 tyX9 tyX9_ok nmX9 hown hK hP hD hS 10 rfl rfl 0 (by decide) (hg _ m_646) (fun _ h9 => h9) rfl (by decide +kernel) rfl rfl (Nat.le_of_ble_eq_true rfl) d_X9_give_42 (fun H locs hP hD hS => ?_)
        have hP : va_P D vwCl (wB cy r (upC (upF σ0 60 (upd (σ0 60) ((σ0 11 0)).toNatClampNeg (vp_nar .byte ((a1).toInt8.toInt32)))) 11 0 ((σ0 11 0) + 1))) H := hP
        have hD : va_D A (wB cy r (upC (upF σ0 60 (upd (σ0 60) ((σ0 11 0)).toNatClampNeg (vp_nar .byte ((a1).toInt8.toInt32)))) 11 0 ((σ0 11 0) + 1))) := hD
        have kp : Keep [(11, 0)] [60] σ0 (upC (upF σ0 60 (upd (σ0 60) ((σ0 11 0)).toNatClampNeg (vp_nar .byte ((a1).toInt8.toInt32)))) 11 0 ((σ0 11 0) + 1)) := keep_f kp (by decide)
        have j1 : Inv (upC (upF σ0 60 (upd (σ0 60) ((σ0 11 0)).toNatClampNeg (vp_nar .byte ((a1).toInt8.toInt32)))) 11 0 ((σ0 11 0) + 1)) := ⟨i0.1, (by show 0 ≤ ((σ0 11 0) + 1).toInt ∧ ((σ0 11 0) + 1).toInt ≤ 4096; have e0 := s_rng (σ0 11 0); have e1 := i0.2.1; have e2 : (1 : Int32).toInt = 1 := (by decide); obtain ⟨k3, e3⟩ := s_add (σ0 11 0) (1 : Int32); have e4 := s_rng ((σ0 11 0) + 1); have e5 : (4096 : Int32).toInt = 4096 := (by decide); have e6 := s_nle c_7; have e7 := s_lt c_19; omega), i0.2.2.1, i0.2.2.2.1, i0.2.2.2.2⟩
        refine lv_aload_n hx hb d_X9_give_45 rfl (lv_at hl 0 rfl) ?_
        refine va_get (D := D) (ci := 9) (v := .int ((σ0 11 0) + 1)) (C := "LinkedUnits$Tape") (T := TX9) (N := 5) hx hb hg iwX9 hown hK hP 10 rfl rfl 0 (by decide) (hg _ m_646) (fun _ h9 => h9) rfl d_X9_give_46 ?_
        refine W.widen (k := 0) (n := 0) (Nat.le_of_ble_eq_true rfl) (Nat.le_of_ble_eq_true rfl) ?_
        exact k_iret (X := St) (w1 := fun τ => wB cy r τ) (upC (upF σ0 60 (upd (σ0 60) ((σ0 11 0)).toNatClampNeg (vp_nar .byte ((a1).toInt8.toInt32)))) 11 0 ((σ0 11 0) + 1)) hx hb hr d_X9_give_49 hlocks hP hK hD hS ⟨j1, kp⟩
      · -- not taken at 19
        refine lv_iconst (v := (-1)) hx hb d_X9_give_22 (by decide) ?_
        refine W.widen (k := 0) (n := 0) (Nat.le_of_ble_eq_true rfl) (Nat.le_of_ble_eq_true rfl) ?_
        exact k_iret (X := St) (w1 := fun τ => wB cy r τ) σ0 hx hb hr d_X9_give_23 hlocks hP hK hD hS ⟨i0, kp⟩
  rw [hH] at hgoal
  exact hgoal
set_option maxHeartbeats 4000000 in
set_option maxRecDepth 100000 in
theorem s_X9_begin (l : Launch) (D : va_G) (cy : Nat → ClassId) (sz : Nat) (w : Nat → Nat) (g : Nat → Nat → Int32) (r : Nat → Nat) (σ0 : St) (i0 : Inv σ0) : Met l y_X9_begin (Cond.code y_X9_begin b_X9_begin 1 none :: GW) ({ frames := 0, cells := 0, slots := 0, locals := 0 } : Room) (va_Pc [.ref (r 11)] (kPreE D cy sz (wB cy r σ0) (gE w g))) ((fun A : Nat → Prop => va_Qv (S := St) (fun (τ : St) => (Inv τ ∧ Keep [(11, 1), (11, 2)] [] σ0 τ)) (fun τ => kPost D cy A (wB cy r τ)) A) (va_A (wB cy r σ0) sz)) 0 0 (va_A (wB cy r σ0) sz) := by
  refine k_ofWE (Qc := fun A => va_Qv (S := St) (fun (τ : St) => (Inv τ ∧ Keep [(11, 1), (11, 2)] [] σ0 τ)) (fun τ => kPost D cy A (wB cy r τ)) A) (by decide) (Nat.le_of_ble_eq_true rfl) ?_
  intro p e s m below meth c A ls hx hb hr hml hown hlocks hin hg hNW hK hP hD hA hS hl hE
  have hl : lv_has ls 1 [(0, .ref (r 11))] := hl
  have hown : s.vm.findClass "LinkedUnits$Tape" = some m.cls := hown
  have kp : Keep [(11, 1), (11, 2)] [] σ0 σ0 := keep_rf
  obtain ⟨H, hH⟩ : ∃ H, H = s.heap := ⟨_, rfl⟩
  rw [← hH] at hP
  have hS : va_S A s.heap H [] := by rw [hH]; exact va_S.rf
  have hgoal : W p l e ({ frames := 0, cells := 0, slots := 0, locals := 0 } : Room) s m (([.ref (r 11)] : List Value).toArray) below meth c H [] 0 0 (MQ below (va_Qv (S := St) (fun (τ : St) => (Inv τ ∧ Keep [(11, 1), (11, 2)] [] σ0 τ)) (fun τ => kPost D cy A (wB cy r τ)) A) (([.ref (r 11)] : List Value).toArray) s 0 0 A) (F0 m 0 ls []) := by
    refine lv_aload_n hx hb d_X9_begin_0 rfl (lv_at hl 0 rfl) ?_
    refine lv_iconst (v := 0) hx hb d_X9_begin_1 (by decide) ?_
    refine va_put (D := D) (ci := 9) (v := .int 0) (ty := .int) (C := "LinkedUnits$Tape") (T := TX9) (N := 5) hx hb hg iwX9 tyX9 tyX9_ok nmX9 hown hK hP hD hS 10 rfl rfl 1 (by decide) (hg _ m_647) (fun _ h9 => h9) rfl (by decide +kernel) rfl rfl (Nat.le_of_ble_eq_true rfl) d_X9_begin_2 (fun H locs hP hD hS => ?_)
    have hP : va_P D vwCl (wB cy r (upC σ0 11 1 0)) H := hP
    have hD : va_D A (wB cy r (upC σ0 11 1 0)) := hD
    have kp : Keep [(11, 1), (11, 2)] [] σ0 (upC σ0 11 1 0) := keep_f kp (by decide)
    have j1 : Inv (upC σ0 11 1 0) := ⟨i0.1, i0.2.1, (by show 0 ≤ (0 : Int32).toInt ∧ (0 : Int32).toInt ≤ 4096; have e0 : (0 : Int32).toInt = 0 := (by decide); omega), i0.2.2.2.1, i0.2.2.2.2⟩
    refine lv_aload_n hx hb d_X9_begin_5 rfl (lv_at hl 0 rfl) ?_
    refine lv_iconst (v := 0) hx hb d_X9_begin_6 (by decide) ?_
    refine va_put (D := D) (ci := 9) (v := .int 0) (ty := .int) (C := "LinkedUnits$Tape") (T := TX9) (N := 5) hx hb hg iwX9 tyX9 tyX9_ok nmX9 hown hK hP hD hS 10 rfl rfl 2 (by decide) (hg _ m_648) (fun _ h9 => h9) rfl (by decide +kernel) rfl rfl (Nat.le_of_ble_eq_true rfl) d_X9_begin_7 (fun H locs hP hD hS => ?_)
    have hP : va_P D vwCl (wB cy r (upC (upC σ0 11 1 0) 11 2 0)) H := hP
    have hD : va_D A (wB cy r (upC (upC σ0 11 1 0) 11 2 0)) := hD
    have kp : Keep [(11, 1), (11, 2)] [] σ0 (upC (upC σ0 11 1 0) 11 2 0) := keep_f kp (by decide)
    have j2 : Inv (upC (upC σ0 11 1 0) 11 2 0) := ⟨j1.1, j1.2.1, j1.2.2.1, (by show 0 ≤ (0 : Int32).toInt ∧ (0 : Int32).toInt ≤ 4096; have e0 : (0 : Int32).toInt = 0 := (by decide); omega), j1.2.2.2.2⟩
    refine W.widen (k := 0) (n := 0) (Nat.le_of_ble_eq_true rfl) (Nat.le_of_ble_eq_true rfl) ?_
    exact k_vret (X := St) (w1 := fun τ => wB cy r τ) (upC (upC σ0 11 1 0) 11 2 0) hx hb hr d_X9_begin_10 hlocks hP hK hD hS ⟨j2, kp⟩
  rw [hH] at hgoal
  exact hgoal
set_option maxHeartbeats 4000000 in
set_option maxRecDepth 100000 in
theorem s_X5_fail (l : Launch) (D : va_G) (cy : Nat → ClassId) (sz : Nat) (w : Nat → Nat) (g : Nat → Nat → Int32) (r : Nat → Nat) (σ0 : St) (a1 : Int32) (a2 : Int32) (i0 : Inv σ0) : Met l y_X5_fail (Cond.code y_X5_fail b_X5_fail 3 none :: GW) ({ frames := 0, cells := 0, slots := 0, locals := 0 } : Room) (va_Pc [.ref (r 12), .int a1, .int a2] (kPreE D cy sz (wB cy r σ0) (gE w g))) ((fun A : Nat → Prop => va_Qv (S := St) (fun (τ : St) => (Inv τ ∧ Keep [(12, 13), (12, 16), (12, 17)] [] σ0 τ)) (fun τ => kPost D cy A (wB cy r τ)) A) (va_A (wB cy r σ0) sz)) 0 0 (va_A (wB cy r σ0) sz) := by
  refine k_ofWE (Qc := fun A => va_Qv (S := St) (fun (τ : St) => (Inv τ ∧ Keep [(12, 13), (12, 16), (12, 17)] [] σ0 τ)) (fun τ => kPost D cy A (wB cy r τ)) A) (by decide) (Nat.le_of_ble_eq_true rfl) ?_
  intro p e s m below meth c A ls hx hb hr hml hown hlocks hin hg hNW hK hP hD hA hS hl hE
  have hl : lv_has ls 3 [(0, .ref (r 12)), (1, .int a1), (2, .int a2)] := hl
  have hown : s.vm.findClass "LinkedUnits$Machine" = some m.cls := hown
  have kp : Keep [(12, 13), (12, 16), (12, 17)] [] σ0 σ0 := keep_rf
  obtain ⟨H, hH⟩ : ∃ H, H = s.heap := ⟨_, rfl⟩
  rw [← hH] at hP
  have hS : va_S A s.heap H [] := by rw [hH]; exact va_S.rf
  have hgoal : W p l e ({ frames := 0, cells := 0, slots := 0, locals := 0 } : Room) s m (([.ref (r 12), .int a1, .int a2] : List Value).toArray) below meth c H [] 0 0 (MQ below (va_Qv (S := St) (fun (τ : St) => (Inv τ ∧ Keep [(12, 13), (12, 16), (12, 17)] [] σ0 τ)) (fun τ => kPost D cy A (wB cy r τ)) A) (([.ref (r 12), .int a1, .int a2] : List Value).toArray) s 0 0 A) (F0 m 0 ls []) := by
    refine lv_aload_n hx hb d_X5_fail_0 rfl (lv_at hl 0 rfl) ?_
    refine lv_iload_n hx hb d_X5_fail_1 rfl (lv_at hl 1 rfl) ?_
    refine va_put (D := D) (ci := 5) (v := .int a1) (ty := .int) (C := "LinkedUnits$Machine") (T := TX5) (N := 19) hx hb hg iwX5 tyX5 tyX5_ok nmX5 hown hK hP hD hS 11 rfl rfl 13 (by decide) (hg _ m_685) (fun _ h9 => h9) rfl (by decide +kernel) rfl rfl (Nat.le_of_ble_eq_true rfl) d_X5_fail_2 (fun H locs hP hD hS => ?_)
    have hP : va_P D vwCl (wB cy r (upC σ0 12 13 a1)) H := hP
    have hD : va_D A (wB cy r (upC σ0 12 13 a1)) := hD
    have kp : Keep [(12, 13), (12, 16), (12, 17)] [] σ0 (upC σ0 12 13 a1) := keep_f kp (by decide)
    refine lv_aload_n hx hb d_X5_fail_5 rfl (lv_at hl 0 rfl) ?_
    refine lv_aload_n hx hb d_X5_fail_6 rfl (lv_at hl 0 rfl) ?_
    refine va_get (D := D) (ci := 5) (v := .int (σ0 12 8)) (C := "LinkedUnits$Machine") (T := TX5) (N := 19) hx hb hg iwX5 hown hK hP 11 rfl rfl 8 (by decide) (hg _ m_680) (fun _ h9 => h9) rfl d_X5_fail_7 ?_
    refine lv_iconst (v := 1) hx hb d_X5_fail_10 (by decide) ?_
    refine lv_isub hx hb d_X5_fail_11 ?_
    refine va_put (D := D) (ci := 5) (v := .int ((σ0 12 8) - 1)) (ty := .int) (C := "LinkedUnits$Machine") (T := TX5) (N := 19) hx hb hg iwX5 tyX5 tyX5_ok nmX5 hown hK hP hD hS 11 rfl rfl 16 (by decide) (hg _ m_690) (fun _ h9 => h9) rfl (by decide +kernel) rfl rfl (Nat.le_of_ble_eq_true rfl) d_X5_fail_12 (fun H locs hP hD hS => ?_)
    have hP : va_P D vwCl (wB cy r (upC (upC σ0 12 13 a1) 12 16 ((σ0 12 8) - 1))) H := hP
    have hD : va_D A (wB cy r (upC (upC σ0 12 13 a1) 12 16 ((σ0 12 8) - 1))) := hD
    have kp : Keep [(12, 13), (12, 16), (12, 17)] [] σ0 (upC (upC σ0 12 13 a1) 12 16 ((σ0 12 8) - 1)) := keep_f kp (by decide)
    refine lv_aload_n hx hb d_X5_fail_15 rfl (lv_at hl 0 rfl) ?_
    refine lv_iload_n hx hb d_X5_fail_16 rfl (lv_at hl 2 rfl) ?_
    refine va_put (D := D) (ci := 5) (v := .int a2) (ty := .int) (C := "LinkedUnits$Machine") (T := TX5) (N := 19) hx hb hg iwX5 tyX5 tyX5_ok nmX5 hown hK hP hD hS 11 rfl rfl 17 (by decide) (hg _ m_692) (fun _ h9 => h9) rfl (by decide +kernel) rfl rfl (Nat.le_of_ble_eq_true rfl) d_X5_fail_17 (fun H locs hP hD hS => ?_)
    have hP : va_P D vwCl (wB cy r (upC (upC (upC σ0 12 13 a1) 12 16 ((σ0 12 8) - 1)) 12 17 a2)) H := hP
    have hD : va_D A (wB cy r (upC (upC (upC σ0 12 13 a1) 12 16 ((σ0 12 8) - 1)) 12 17 a2)) := hD
    have kp : Keep [(12, 13), (12, 16), (12, 17)] [] σ0 (upC (upC (upC σ0 12 13 a1) 12 16 ((σ0 12 8) - 1)) 12 17 a2) := keep_f kp (by decide)
    refine W.widen (k := 0) (n := 0) (Nat.le_of_ble_eq_true rfl) (Nat.le_of_ble_eq_true rfl) ?_
    exact k_vret (X := St) (w1 := fun τ => wB cy r τ) (upC (upC (upC σ0 12 13 a1) 12 16 ((σ0 12 8) - 1)) 12 17 a2) hx hb hr d_X5_fail_20 hlocks hP hK hD hS ⟨i0, kp⟩
  rw [hH] at hgoal
  exact hgoal
set_option maxHeartbeats 4000000 in
set_option maxRecDepth 100000 in
theorem s_X5_copyParameters (l : Launch) (D : va_G) (cy : Nat → ClassId) (sz : Nat) (w : Nat → Nat) (g : Nat → Nat → Int32) (r : Nat → Nat) (σ0 : St) (a1 : Int32) (a2 : Int32) (i0 : Inv σ0) : Met l y_X5_copyParameters (Cond.code y_X5_copyParameters b_X5_copyParameters 5 none :: GW) ({ frames := 1, cells := 0, slots := 0, locals := 22 } : Room) (va_Pc [.ref (r 12), .int a1, .int a2] (kPreE D cy sz (wB cy r σ0) (gE w g))) ((fun A : Nat → Prop => va_Qv (S := St) (fun (τ : St) => (Inv τ ∧ Keep [] [62] σ0 τ)) (fun τ => kPost D cy A (wB cy r τ)) A) (va_A (wB cy r σ0) sz)) 0 0 (va_A (wB cy r σ0) sz) := by
  refine k_ofWE (Qc := fun A => va_Qv (S := St) (fun (τ : St) => (Inv τ ∧ Keep [] [62] σ0 τ)) (fun τ => kPost D cy A (wB cy r τ)) A) (by decide) (Nat.le_of_ble_eq_true rfl) ?_
  intro p e s m below meth c A ls hx hb hr hml hown hlocks hin hg hNW hK hP hD hA hS hl hE
  have hl : lv_has ls 5 [(0, .ref (r 12)), (1, .int a1), (2, .int a2)] := hl
  have hown : s.vm.findClass "LinkedUnits$Machine" = some m.cls := hown
  have b8 : ∀ (N : Nat) (σ : St) (x1 : Int32) (x2 : Int32) (x3 : Int32) (x4 : Int32) (H : Heap) (locs : List Loc) (ls : Array Slot), upm x4 = N → Inv σ → Keep [] [62] σ0 σ → va_P D vwCl (wB cy r σ) H → va_D A (wB cy r σ) → va_S A s.heap H locs → lv_has ls 5 [(0, .ref (r 12)), (1, .int x1), (2, .int x2), (3, .int x3), (4, .int x4)] → W p l e ({ frames := 1, cells := 0, slots := 0, locals := 22 } : Room) s m (([.ref (r 12), .int a1, .int a2] : List Value).toArray) below meth c H locs 0 0 (MQ below (va_Qv (S := St) (fun (τ : St) => (Inv τ ∧ Keep [] [62] σ0 τ)) (fun τ => kPost D cy A (wB cy r τ)) A) (([.ref (r 12), .int a1, .int a2] : List Value).toArray) s 0 0 A) (F0 m 8 ls []) := by
    intro M8
    induction M8 using Nat.strongRecOn with
    | _ M8 ih8 =>
      intro σ x1 x2 x3 x4 H locs ls N8 inv kp hP hD hS hl
      refine lv_iload hx hb d_X5_copyParameters_8 (lv_at hl 4 rfl) ?_
      refine lv_iload_n hx hb d_X5_copyParameters_10 rfl (lv_at hl 1 rfl) ?_
      refine lv_icmp_ge (tgt := 54) hx hb d_X5_copyParameters_11 (by decide) (fun c_11 => ?_) (fun c_11 => ?_)
      · -- taken at 11
        refine W.widen (k := 0) (n := 0) (Nat.le_of_ble_eq_true rfl) (Nat.le_of_ble_eq_true rfl) ?_
        exact k_vret (X := St) (w1 := fun τ => wB cy r τ) σ hx hb hr d_X5_copyParameters_54 hlocks hP hK hD hS ⟨inv, kp⟩
      · -- not taken at 11
        refine lv_iload_n hx hb d_X5_copyParameters_14 rfl (lv_at hl 2 rfl) ?_
        refine lv_iload hx hb d_X5_copyParameters_15 (lv_at hl 4 rfl) ?_
        refine lv_ishr hx hb d_X5_copyParameters_17 ?_
        refine lv_iconst (v := 1) hx hb d_X5_copyParameters_18 (by decide) ?_
        refine lv_iand hx hb d_X5_copyParameters_19 ?_
        refine lv_if_eq (tgt := 48) hx hb d_X5_copyParameters_20 (by decide) (fun c_20 => ?_) (fun c_20 => ?_)
        · -- taken at 20
          refine lv_iinc (v := (x4 + 1)) (lv' := [(4, .int (x4 + 1)), (0, .ref (r 12)), (1, .int x1), (2, .int x2), (3, .int x3)]) hx hb d_X5_copyParameters_48 hl (k := 4) rfl rfl (by decide) rfl (fun ls hl => ?_)
          refine lv_goto (tgt := 8) hx hb d_X5_copyParameters_51 (by decide) ?_
          exact ih8 _ (Nat.lt_of_lt_of_eq (upm_lt c_11) N8) σ x1 x2 x3 (x4 + 1) _ _ _ rfl inv kp hP hD hS (lv_sub hl [1, 2, 3, 4, 0] rfl)
        · -- not taken at 20
          refine lv_aload_n hx hb d_X5_copyParameters_23 rfl (lv_at hl 0 rfl) ?_
          refine va_get (D := D) (ci := 5) (v := .ref (r 62)) (C := "LinkedUnits$Machine") (T := TX5) (N := 19) hx hb hg iwX5 hown hK hP 11 rfl rfl 4 (by decide) (hg _ m_675) (fun _ h9 => h9) rfl d_X5_copyParameters_24 ?_
          refine lv_iload_n hx hb d_X5_copyParameters_27 rfl (lv_at hl 3 rfl) ?_
          refine lv_aload_n hx hb d_X5_copyParameters_28 rfl (lv_at hl 0 rfl) ?_
          refine va_get (D := D) (ci := 5) (v := .ref (r 63)) (C := "LinkedUnits$Machine") (T := TX5) (N := 19) hx hb hg iwX5 hown hK hP 11 rfl rfl 5 (by decide) (hg _ m_677) (fun _ h9 => h9) rfl d_X5_copyParameters_29 ?_
          refine lv_aload_n hx hb d_X5_copyParameters_32 rfl (lv_at hl 0 rfl) ?_
          refine va_get (D := D) (ci := 5) (v := .int (σ 12 10)) (C := "LinkedUnits$Machine") (T := TX5) (N := 19) hx hb hg iwX5 hown hK hP 11 rfl rfl 10 (by decide) (hg _ m_682) (fun _ h9 => h9) rfl d_X5_copyParameters_33 ?_
          refine lv_iload hx hb d_X5_copyParameters_36 (lv_at hl 4 rfl) ?_
          refine lv_iadd hx hb d_X5_copyParameters_38 ?_
          refine s_call1 (x := ((r 63), .inl (cy 1, 148496, .inl (σ 63)))) 60 rfl (va_runSN (As := [.ref (r 63), .int ((σ 12 10) + x4)]) (rest := [.int x3, .ref (r 62)]) ⟨hx, hb, hml, hown, hg⟩ (c_at_any l D cy H.size (r 63) 148496 (σ 63) ((σ 12 10) + x4) (Nat.le_of_ble_eq_true rfl)) ⟨(va_cnB 2 hg (gw_c m_949) rfl rfl rfl (hNW.1 _ nm_1660) (hg _ m_1) (by decide +kernel) ⟨(Nat.le_of_ble_eq_true rfl), (Nat.le_of_ble_eq_true rfl)⟩), hg _ m_948, trivial⟩ (s_pre (ws := [((r 63), .inl (cy 1, 148496, .inl (σ 63)))]) (s_sub1 60 hP rfl) (s_subD 60 hD rfl) hK hNW) rfl rfl hl.1 rfl (lv_room (Nat.le_of_ble_eq_true rfl)) d_X5_copyParameters_39 ⟨(Nat.le_of_ble_eq_true rfl), (Nat.le_of_ble_eq_true rfl)⟩) hP hD hS hA (fun r1 u1 H locs hw hP hD hS => ?_)
          have hP : va_P D vwCl (wB cy r σ) H := hP
          have hD : va_D A (wB cy r σ) := hD
          refine s_set1 (X := Nat → Int32) (w := fun g => .inl (cy 1, 32768, .inl g)) 59 rfl (va_runSN (As := [.ref (r 62), .int x3, .int r1]) (rest := []) ⟨hx, hb, hml, hown, hg⟩ (c_set_any l D cy H.size (r 62) 32768 (σ 62) x3 r1 (Nat.le_of_ble_eq_true rfl)) ⟨(va_cnB 3 hg (gw_c m_981) rfl rfl rfl (hNW.1 _ nm_1661) (hg _ m_1) (by decide +kernel) ⟨(Nat.le_of_ble_eq_true rfl), (Nat.le_of_ble_eq_true rfl)⟩), hg _ m_980, trivial⟩ (s_pre (ws := [((r 62), .inl (cy 1, 32768, .inl (σ 62)))]) (s_sub1 59 hP rfl) (s_subD 59 hD rfl) hK hNW) rfl rfl hl.1 rfl (lv_room (Nat.le_of_ble_eq_true rfl)) d_X5_copyParameters_42 ⟨(Nat.le_of_ble_eq_true rfl), (Nat.le_of_ble_eq_true rfl)⟩) hP hD hS hA (fun g2 H locs hw hP hD hS => ?_)
          have hP : va_P D vwCl (wB cy r (upF σ 62 g2)) H := hP
          have hD : va_D A (wB cy r (upF σ 62 g2)) := hD
          have kp : Keep [] [62] σ0 (upF σ 62 g2) := keep_a kp (by decide)
          refine lv_iinc (v := (x3 + 1)) (lv' := [(3, .int (x3 + 1)), (0, .ref (r 12)), (1, .int x1), (2, .int x2), (4, .int x4)]) hx hb d_X5_copyParameters_45 hl (k := 3) rfl rfl (by decide) rfl (fun ls hl => ?_)
          refine lv_iinc (v := (x4 + 1)) (lv' := [(4, .int (x4 + 1)), (3, .int (x3 + 1)), (0, .ref (r 12)), (1, .int x1), (2, .int x2)]) hx hb d_X5_copyParameters_48 hl (k := 4) rfl rfl (by decide) rfl (fun ls hl => ?_)
          refine lv_goto (tgt := 8) hx hb d_X5_copyParameters_51 (by decide) ?_
          exact ih8 _ (Nat.lt_of_lt_of_eq (upm_lt c_11) N8) (upF σ 62 g2) x1 x2 (x3 + 1) (x4 + 1) _ _ _ rfl inv kp hP hD hS (lv_sub hl [2, 3, 4, 1, 0] rfl)
  have kp : Keep [] [62] σ0 σ0 := keep_rf
  obtain ⟨H, hH⟩ : ∃ H, H = s.heap := ⟨_, rfl⟩
  rw [← hH] at hP
  have hS : va_S A s.heap H [] := by rw [hH]; exact va_S.rf
  have hgoal : W p l e ({ frames := 1, cells := 0, slots := 0, locals := 22 } : Room) s m (([.ref (r 12), .int a1, .int a2] : List Value).toArray) below meth c H [] 0 0 (MQ below (va_Qv (S := St) (fun (τ : St) => (Inv τ ∧ Keep [] [62] σ0 τ)) (fun τ => kPost D cy A (wB cy r τ)) A) (([.ref (r 12), .int a1, .int a2] : List Value).toArray) s 0 0 A) (F0 m 0 ls []) := by
    refine lv_aload_n hx hb d_X5_copyParameters_0 rfl (lv_at hl 0 rfl) ?_
    refine va_get (D := D) (ci := 5) (v := .int (σ0 12 11)) (C := "LinkedUnits$Machine") (T := TX5) (N := 19) hx hb hg iwX5 hown hK hP 11 rfl rfl 11 (by decide) (hg _ m_683) (fun _ h9 => h9) rfl d_X5_copyParameters_1 ?_
    refine lv_istore_n (lv' := [(3, .int (σ0 12 11)), (0, .ref (r 12)), (1, .int a1), (2, .int a2)]) hx hb d_X5_copyParameters_4 rfl hl (by decide) rfl (fun ls hl => ?_)
    refine lv_iconst (v := 0) hx hb d_X5_copyParameters_5 (by decide) ?_
    refine lv_istore (lv' := [(4, .int 0), (3, .int (σ0 12 11)), (0, .ref (r 12)), (1, .int a1), (2, .int a2)]) hx hb d_X5_copyParameters_6 hl (by decide) rfl (fun ls hl => ?_)
    exact b8 _ σ0 a1 a2 (σ0 12 11) (0 : Int32) _ _ _ rfl i0 kp hP hD hS (lv_sub hl [2, 3, 4, 1, 0] rfl)
  rw [hH] at hgoal
  exact hgoal
set_option maxHeartbeats 4000000 in
set_option maxRecDepth 100000 in
theorem s_X5_stray (l : Launch) (D : va_G) (cy : Nat → ClassId) (sz : Nat) (w : Nat → Nat) (g : Nat → Nat → Int32) (r : Nat → Nat) (σ0 : St) (i0 : Inv σ0) : Met l y_X5_stray (Cond.code y_X5_stray b_X5_stray 1 none :: GW) ({ frames := 0, cells := 0, slots := 0, locals := 0 } : Room) (va_Pc [.ref (r 12)] (kPreE D cy sz (wB cy r σ0) (gE w g))) ((fun A : Nat → Prop => va_Qv (S := St) (fun (τ : St) => (Inv τ ∧ Keep [(12, 13), (12, 18)] [] σ0 τ)) (fun τ => kPost D cy A (wB cy r τ)) A) (va_A (wB cy r σ0) sz)) 0 0 (va_A (wB cy r σ0) sz) := by
  refine k_ofWE (Qc := fun A => va_Qv (S := St) (fun (τ : St) => (Inv τ ∧ Keep [(12, 13), (12, 18)] [] σ0 τ)) (fun τ => kPost D cy A (wB cy r τ)) A) (by decide) (Nat.le_of_ble_eq_true rfl) ?_
  intro p e s m below meth c A ls hx hb hr hml hown hlocks hin hg hNW hK hP hD hA hS hl hE
  have hl : lv_has ls 1 [(0, .ref (r 12))] := hl
  have hown : s.vm.findClass "LinkedUnits$Machine" = some m.cls := hown
  have kp : Keep [(12, 13), (12, 18)] [] σ0 σ0 := keep_rf
  obtain ⟨H, hH⟩ : ∃ H, H = s.heap := ⟨_, rfl⟩
  rw [← hH] at hP
  have hS : va_S A s.heap H [] := by rw [hH]; exact va_S.rf
  have hgoal : W p l e ({ frames := 0, cells := 0, slots := 0, locals := 0 } : Room) s m (([.ref (r 12)] : List Value).toArray) below meth c H [] 0 0 (MQ below (va_Qv (S := St) (fun (τ : St) => (Inv τ ∧ Keep [(12, 13), (12, 18)] [] σ0 τ)) (fun τ => kPost D cy A (wB cy r τ)) A) (([.ref (r 12)] : List Value).toArray) s 0 0 A) (F0 m 0 ls []) := by
    refine lv_aload_n hx hb d_X5_stray_0 rfl (lv_at hl 0 rfl) ?_
    refine lv_dup hx hb d_X5_stray_1 rfl ?_
    refine va_get (D := D) (ci := 5) (v := .int (σ0 12 18)) (C := "LinkedUnits$Machine") (T := TX5) (N := 19) hx hb hg iwX5 hown hK hP 11 rfl rfl 18 (by decide) (hg _ m_694) (fun _ h9 => h9) rfl d_X5_stray_2 ?_
    refine lv_iconst (v := 1) hx hb d_X5_stray_5 (by decide) ?_
    refine lv_iadd hx hb d_X5_stray_6 ?_
    refine va_put (D := D) (ci := 5) (v := .int ((σ0 12 18) + 1)) (ty := .int) (C := "LinkedUnits$Machine") (T := TX5) (N := 19) hx hb hg iwX5 tyX5 tyX5_ok nmX5 hown hK hP hD hS 11 rfl rfl 18 (by decide) (hg _ m_694) (fun _ h9 => h9) rfl (by decide +kernel) rfl rfl (Nat.le_of_ble_eq_true rfl) d_X5_stray_7 (fun H locs hP hD hS => ?_)
    have hP : va_P D vwCl (wB cy r (upC σ0 12 18 ((σ0 12 18) + 1))) H := hP
    have hD : va_D A (wB cy r (upC σ0 12 18 ((σ0 12 18) + 1))) := hD
    have kp : Keep [(12, 13), (12, 18)] [] σ0 (upC σ0 12 18 ((σ0 12 18) + 1)) := keep_f kp (by decide)
    refine lv_aload_n hx hb d_X5_stray_10 rfl (lv_at hl 0 rfl) ?_
    refine lv_iconst (v := 0) hx hb d_X5_stray_11 (by decide) ?_
    refine va_put (D := D) (ci := 5) (v := .int 0) (ty := .int) (C := "LinkedUnits$Machine") (T := TX5) (N := 19) hx hb hg iwX5 tyX5 tyX5_ok nmX5 hown hK hP hD hS 11 rfl rfl 13 (by decide) (hg _ m_685) (fun _ h9 => h9) rfl (by decide +kernel) rfl rfl (Nat.le_of_ble_eq_true rfl) d_X5_stray_12 (fun H locs hP hD hS => ?_)
    have hP : va_P D vwCl (wB cy r (upC (upC σ0 12 18 ((σ0 12 18) + 1)) 12 13 0)) H := hP
    have hD : va_D A (wB cy r (upC (upC σ0 12 18 ((σ0 12 18) + 1)) 12 13 0)) := hD
    have kp : Keep [(12, 13), (12, 18)] [] σ0 (upC (upC σ0 12 18 ((σ0 12 18) + 1)) 12 13 0) := keep_f kp (by decide)
    refine W.widen (k := 0) (n := 0) (Nat.le_of_ble_eq_true rfl) (Nat.le_of_ble_eq_true rfl) ?_
    exact k_vret (X := St) (w1 := fun τ => wB cy r τ) (upC (upC σ0 12 18 ((σ0 12 18) + 1)) 12 13 0) hx hb hr d_X5_stray_15 hlocks hP hK hD hS ⟨i0, kp⟩
  rw [hH] at hgoal
  exact hgoal
set_option maxHeartbeats 4000000 in
set_option maxRecDepth 100000 in
theorem s_X5_pop (l : Launch) (D : va_G) (cy : Nat → ClassId) (sz : Nat) (w : Nat → Nat) (g : Nat → Nat → Int32) (r : Nat → Nat) (σ0 : St) (i0 : Inv σ0) : Met l y_X5_pop (Cond.code y_X5_pop b_X5_pop 1 (some .int) :: GW) ({ frames := 1, cells := 0, slots := 0, locals := 21 } : Room) (va_Pc [.ref (r 12)] (kPreE D cy sz (wB cy r σ0) (gE w g))) ((fun A : Nat → Prop => va_Qi (S := St) (fun (_ : Int32) (τ : St) => (Inv τ ∧ Keep [(12, 9)] [] σ0 τ)) (fun τ => kPost D cy A (wB cy r τ)) A) (va_A (wB cy r σ0) sz)) 0 0 (va_A (wB cy r σ0) sz) := by
  refine k_ofWE (Qc := fun A => va_Qi (S := St) (fun (_ : Int32) (τ : St) => (Inv τ ∧ Keep [(12, 9)] [] σ0 τ)) (fun τ => kPost D cy A (wB cy r τ)) A) (by decide) (Nat.le_of_ble_eq_true rfl) ?_
  intro p e s m below meth c A ls hx hb hr hml hown hlocks hin hg hNW hK hP hD hA hS hl hE
  have hl : lv_has ls 1 [(0, .ref (r 12))] := hl
  have hown : s.vm.findClass "LinkedUnits$Machine" = some m.cls := hown
  have kp : Keep [(12, 9)] [] σ0 σ0 := keep_rf
  obtain ⟨H, hH⟩ : ∃ H, H = s.heap := ⟨_, rfl⟩
  rw [← hH] at hP
  have hS : va_S A s.heap H [] := by rw [hH]; exact va_S.rf
  have hgoal : W p l e ({ frames := 1, cells := 0, slots := 0, locals := 21 } : Room) s m (([.ref (r 12)] : List Value).toArray) below meth c H [] 0 0 (MQ below (va_Qi (S := St) (fun (_ : Int32) (τ : St) => (Inv τ ∧ Keep [(12, 9)] [] σ0 τ)) (fun τ => kPost D cy A (wB cy r τ)) A) (([.ref (r 12)] : List Value).toArray) s 0 0 A) (F0 m 0 ls []) := by
    refine lv_aload_n hx hb d_X5_pop_0 rfl (lv_at hl 0 rfl) ?_
    refine lv_dup hx hb d_X5_pop_1 rfl ?_
    refine va_get (D := D) (ci := 5) (v := .int (σ0 12 9)) (C := "LinkedUnits$Machine") (T := TX5) (N := 19) hx hb hg iwX5 hown hK hP 11 rfl rfl 9 (by decide) (hg _ m_681) (fun _ h9 => h9) rfl d_X5_pop_2 ?_
    refine lv_iconst (v := 1) hx hb d_X5_pop_5 (by decide) ?_
    refine lv_isub hx hb d_X5_pop_6 ?_
    refine va_put (D := D) (ci := 5) (v := .int ((σ0 12 9) - 1)) (ty := .int) (C := "LinkedUnits$Machine") (T := TX5) (N := 19) hx hb hg iwX5 tyX5 tyX5_ok nmX5 hown hK hP hD hS 11 rfl rfl 9 (by decide) (hg _ m_681) (fun _ h9 => h9) rfl (by decide +kernel) rfl rfl (Nat.le_of_ble_eq_true rfl) d_X5_pop_7 (fun H locs hP hD hS => ?_)
    have hP : va_P D vwCl (wB cy r (upC σ0 12 9 ((σ0 12 9) - 1))) H := hP
    have hD : va_D A (wB cy r (upC σ0 12 9 ((σ0 12 9) - 1))) := hD
    have kp : Keep [(12, 9)] [] σ0 (upC σ0 12 9 ((σ0 12 9) - 1)) := keep_f kp (by decide)
    refine lv_aload_n hx hb d_X5_pop_10 rfl (lv_at hl 0 rfl) ?_
    refine va_get (D := D) (ci := 5) (v := .ref (r 63)) (C := "LinkedUnits$Machine") (T := TX5) (N := 19) hx hb hg iwX5 hown hK hP 11 rfl rfl 5 (by decide) (hg _ m_677) (fun _ h9 => h9) rfl d_X5_pop_11 ?_
    refine lv_aload_n hx hb d_X5_pop_14 rfl (lv_at hl 0 rfl) ?_
    refine va_get (D := D) (ci := 5) (v := .int ((σ0 12 9) - 1)) (C := "LinkedUnits$Machine") (T := TX5) (N := 19) hx hb hg iwX5 hown hK hP 11 rfl rfl 9 (by decide) (hg _ m_681) (fun _ h9 => h9) rfl d_X5_pop_15 ?_
    refine s_call1 (x := ((r 63), .inl (cy 1, 148496, .inl ((upC σ0 12 9 ((σ0 12 9) - 1)) 63)))) 60 rfl (va_runSN (As := [.ref (r 63), .int ((σ0 12 9) - 1)]) (rest := []) ⟨hx, hb, hml, hown, hg⟩ (c_at_any l D cy H.size (r 63) 148496 ((upC σ0 12 9 ((σ0 12 9) - 1)) 63) ((σ0 12 9) - 1) (Nat.le_of_ble_eq_true rfl)) ⟨(va_cnB 2 hg (gw_c m_949) rfl rfl rfl (hNW.1 _ nm_1660) (hg _ m_1) (by decide +kernel) ⟨(Nat.le_of_ble_eq_true rfl), (Nat.le_of_ble_eq_true rfl)⟩), hg _ m_948, trivial⟩ (s_pre (ws := [((r 63), .inl (cy 1, 148496, .inl ((upC σ0 12 9 ((σ0 12 9) - 1)) 63)))]) (s_sub1 60 hP rfl) (s_subD 60 hD rfl) hK hNW) rfl rfl hl.1 rfl (lv_room (Nat.le_of_ble_eq_true rfl)) d_X5_pop_18 ⟨(Nat.le_of_ble_eq_true rfl), (Nat.le_of_ble_eq_true rfl)⟩) hP hD hS hA (fun r1 u1 H locs hw hP hD hS => ?_)
    have hP : va_P D vwCl (wB cy r (upC σ0 12 9 ((σ0 12 9) - 1))) H := hP
    have hD : va_D A (wB cy r (upC σ0 12 9 ((σ0 12 9) - 1))) := hD
    refine W.widen (k := 0) (n := 0) (Nat.le_of_ble_eq_true rfl) (Nat.le_of_ble_eq_true rfl) ?_
    exact k_iret (X := St) (w1 := fun τ => wB cy r τ) (upC σ0 12 9 ((σ0 12 9) - 1)) hx hb hr d_X5_pop_21 hlocks hP hK hD hS ⟨i0, kp⟩
  rw [hH] at hgoal
  exact hgoal
set_option maxHeartbeats 4000000 in
set_option maxRecDepth 100000 in
theorem s_X5_push (l : Launch) (D : va_G) (cy : Nat → ClassId) (sz : Nat) (w : Nat → Nat) (g : Nat → Nat → Int32) (r : Nat → Nat) (σ0 : St) (a1 : Int32) (i0 : Inv σ0) : Met l y_X5_push (Cond.code y_X5_push b_X5_push 2 none :: GW) ({ frames := 1, cells := 0, slots := 0, locals := 22 } : Room) (va_Pc [.ref (r 12), .int a1] (kPreE D cy sz (wB cy r σ0) (gE w g))) ((fun A : Nat → Prop => va_Qv (S := St) (fun (τ : St) => (Inv τ ∧ Keep [(12, 9)] [63] σ0 τ)) (fun τ => kPost D cy A (wB cy r τ)) A) (va_A (wB cy r σ0) sz)) 0 0 (va_A (wB cy r σ0) sz) := by
  refine k_ofWE (Qc := fun A => va_Qv (S := St) (fun (τ : St) => (Inv τ ∧ Keep [(12, 9)] [63] σ0 τ)) (fun τ => kPost D cy A (wB cy r τ)) A) (by decide) (Nat.le_of_ble_eq_true rfl) ?_
  intro p e s m below meth c A ls hx hb hr hml hown hlocks hin hg hNW hK hP hD hA hS hl hE
  have hl : lv_has ls 2 [(0, .ref (r 12)), (1, .int a1)] := hl
  have hown : s.vm.findClass "LinkedUnits$Machine" = some m.cls := hown
  have kp : Keep [(12, 9)] [63] σ0 σ0 := keep_rf
  obtain ⟨H, hH⟩ : ∃ H, H = s.heap := ⟨_, rfl⟩
  rw [← hH] at hP
  have hS : va_S A s.heap H [] := by rw [hH]; exact va_S.rf
  have hgoal : W p l e ({ frames := 1, cells := 0, slots := 0, locals := 22 } : Room) s m (([.ref (r 12), .int a1] : List Value).toArray) below meth c H [] 0 0 (MQ below (va_Qv (S := St) (fun (τ : St) => (Inv τ ∧ Keep [(12, 9)] [63] σ0 τ)) (fun τ => kPost D cy A (wB cy r τ)) A) (([.ref (r 12), .int a1] : List Value).toArray) s 0 0 A) (F0 m 0 ls []) := by
    refine lv_aload_n hx hb d_X5_push_0 rfl (lv_at hl 0 rfl) ?_
    refine va_get (D := D) (ci := 5) (v := .ref (r 63)) (C := "LinkedUnits$Machine") (T := TX5) (N := 19) hx hb hg iwX5 hown hK hP 11 rfl rfl 5 (by decide) (hg _ m_677) (fun _ h9 => h9) rfl d_X5_push_1 ?_
    refine lv_aload_n hx hb d_X5_push_4 rfl (lv_at hl 0 rfl) ?_
    refine va_get (D := D) (ci := 5) (v := .int (σ0 12 9)) (C := "LinkedUnits$Machine") (T := TX5) (N := 19) hx hb hg iwX5 hown hK hP 11 rfl rfl 9 (by decide) (hg _ m_681) (fun _ h9 => h9) rfl d_X5_push_5 ?_
    refine lv_iload_n hx hb d_X5_push_8 rfl (lv_at hl 1 rfl) ?_
    refine s_set1 (X := Nat → Int32) (w := fun g => .inl (cy 1, 148496, .inl g)) 60 rfl (va_runSN (As := [.ref (r 63), .int (σ0 12 9), .int a1]) (rest := []) ⟨hx, hb, hml, hown, hg⟩ (c_set_any l D cy H.size (r 63) 148496 (σ0 63) (σ0 12 9) a1 (Nat.le_of_ble_eq_true rfl)) ⟨(va_cnB 3 hg (gw_c m_981) rfl rfl rfl (hNW.1 _ nm_1661) (hg _ m_1) (by decide +kernel) ⟨(Nat.le_of_ble_eq_true rfl), (Nat.le_of_ble_eq_true rfl)⟩), hg _ m_980, trivial⟩ (s_pre (ws := [((r 63), .inl (cy 1, 148496, .inl (σ0 63)))]) (s_sub1 60 hP rfl) (s_subD 60 hD rfl) hK hNW) rfl rfl hl.1 rfl (lv_room (Nat.le_of_ble_eq_true rfl)) d_X5_push_9 ⟨(Nat.le_of_ble_eq_true rfl), (Nat.le_of_ble_eq_true rfl)⟩) hP hD hS hA (fun g1 H locs hw hP hD hS => ?_)
    have hP : va_P D vwCl (wB cy r (upF σ0 63 g1)) H := hP
    have hD : va_D A (wB cy r (upF σ0 63 g1)) := hD
    have kp : Keep [(12, 9)] [63] σ0 (upF σ0 63 g1) := keep_a kp (by decide)
    refine lv_aload_n hx hb d_X5_push_12 rfl (lv_at hl 0 rfl) ?_
    refine lv_dup hx hb d_X5_push_13 rfl ?_
    refine va_get (D := D) (ci := 5) (v := .int (σ0 12 9)) (C := "LinkedUnits$Machine") (T := TX5) (N := 19) hx hb hg iwX5 hown hK hP 11 rfl rfl 9 (by decide) (hg _ m_681) (fun _ h9 => h9) rfl d_X5_push_14 ?_
    refine lv_iconst (v := 1) hx hb d_X5_push_17 (by decide) ?_
    refine lv_iadd hx hb d_X5_push_18 ?_
    refine va_put (D := D) (ci := 5) (v := .int ((σ0 12 9) + 1)) (ty := .int) (C := "LinkedUnits$Machine") (T := TX5) (N := 19) hx hb hg iwX5 tyX5 tyX5_ok nmX5 hown hK hP hD hS 11 rfl rfl 9 (by decide) (hg _ m_681) (fun _ h9 => h9) rfl (by decide +kernel) rfl rfl (Nat.le_of_ble_eq_true rfl) d_X5_push_19 (fun H locs hP hD hS => ?_)
    have hP : va_P D vwCl (wB cy r (upC (upF σ0 63 g1) 12 9 ((σ0 12 9) + 1))) H := hP
    have hD : va_D A (wB cy r (upC (upF σ0 63 g1) 12 9 ((σ0 12 9) + 1))) := hD
    have kp : Keep [(12, 9)] [63] σ0 (upC (upF σ0 63 g1) 12 9 ((σ0 12 9) + 1)) := keep_f kp (by decide)
    refine W.widen (k := 0) (n := 0) (Nat.le_of_ble_eq_true rfl) (Nat.le_of_ble_eq_true rfl) ?_
    exact k_vret (X := St) (w1 := fun τ => wB cy r τ) (upC (upF σ0 63 g1) 12 9 ((σ0 12 9) + 1)) hx hb hr d_X5_push_22 hlocks hP hK hD hS ⟨i0, kp⟩
  rw [hH] at hgoal
  exact hgoal
