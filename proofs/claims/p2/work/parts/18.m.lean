set_option maxHeartbeats 4000000 in
set_option maxRecDepth 100000 in
theorem s_X5_enter (l : Launch) (D : va_G) (cy : Nat → ClassId) (sz : Nat) (w : Nat → Nat) (g : Nat → Nat → Int32) (r : Nat → Nat) (σ0 : St) (a1 : Int32) (a2 : Int32) (i0 : Inv σ0) : Met l y_X5_enter (Cond.code y_X5_enter b_X5_enter 4 none :: GW) ({ frames := 2, cells := 0, slots := 0, locals := 46 } : Room) (va_Pc [.ref (r 12), .int a1, .int a2] (kPreE D cy sz (wB cy r σ0) (gE w g))) ((fun A : Nat → Prop => va_Qv (S := St) (fun (τ : St) => (Inv τ ∧ Keep [(12, 7), (12, 8), (12, 9), (12, 10), (12, 11), (12, 13), (12, 14), (12, 16), (12, 17)] [62, 64] σ0 τ)) (fun τ => kPost D cy A (wB cy r τ)) A) (va_A (wB cy r σ0) sz)) 0 0 (va_A (wB cy r σ0) sz) := by
  refine k_ofWE (Qc := fun A => va_Qv (S := St) (fun (τ : St) => (Inv τ ∧ Keep [(12, 7), (12, 8), (12, 9), (12, 10), (12, 11), (12, 13), (12, 14), (12, 16), (12, 17)] [62, 64] σ0 τ)) (fun τ => kPost D cy A (wB cy r τ)) A) (by decide) (Nat.le_of_ble_eq_true rfl) ?_
  intro p e s m below meth c A ls hx hb hr hml hown hlocks hin hg hNW hK hP hD hA hS hl hE
  have hl : lv_has ls 4 [(0, .ref (r 12)), (1, .int a1), (2, .int a2)] := hl
  have hown : s.vm.findClass "LinkedUnits$Machine" = some m.cls := hown
  have kp : Keep [(12, 7), (12, 8), (12, 9), (12, 10), (12, 11), (12, 13), (12, 14), (12, 16), (12, 17)] [62, 64] σ0 σ0 := keep_rf
  obtain ⟨H, hH⟩ : ∃ H, H = s.heap := ⟨_, rfl⟩
  rw [← hH] at hP
  have hS : va_S A s.heap H [] := by rw [hH]; exact va_S.rf
  have hgoal : W p l e ({ frames := 2, cells := 0, slots := 0, locals := 46 } : Room) s m (([.ref (r 12), .int a1, .int a2] : List Value).toArray) below meth c H [] 0 0 (MQ below (va_Qv (S := St) (fun (τ : St) => (Inv τ ∧ Keep [(12, 7), (12, 8), (12, 9), (12, 10), (12, 11), (12, 13), (12, 14), (12, 16), (12, 17)] [62, 64] σ0 τ)) (fun τ => kPost D cy A (wB cy r τ)) A) (([.ref (r 12), .int a1, .int a2] : List Value).toArray) s 0 0 A) (F0 m 0 ls []) := by
    refine lv_aload_n hx hb d_X5_enter_0 rfl (lv_at hl 0 rfl) ?_
    refine lv_iload_n hx hb d_X5_enter_1 rfl (lv_at hl 2 rfl) ?_
    refine s_calli (X := St) (w1 := fun τ => wB cy r τ) (va_runV (As := [.int a2]) (rest := []) ⟨hx, hb, hml, hown, hg⟩ (s_X5_turn l D cy H.size w g r σ0 a2 i0 ) (cwV 1 hg (gw_V m_1652 m_1654 ms_X5_turn m_17 m_1655) rfl rfl rfl (by decide +kernel) ⟨(Nat.le_of_ble_eq_true rfl), (Nat.le_of_ble_eq_true rfl)⟩) (s_preVE (As := [.int a2]) (gE_ok w g) hS hA hE hP hD hK hNW 11 rfl rfl) rfl rfl hl.1 rfl (lv_room (Nat.le_of_ble_eq_true rfl)) d_X5_enter_2 ⟨(Nat.le_of_ble_eq_true rfl), (Nat.le_of_ble_eq_true rfl)⟩) hP hD hS hA (fun r1 σ1 H locs hw hP hD hS => ?_)
    have hP : va_P D vwCl (wB cy r σ1) H := hP
    have hD : va_D A (wB cy r σ1) := hD
    have ik1 : Keep [(12, 13), (12, 14), (12, 16), (12, 17)] [] σ0 σ1 := hw.2.2
    have kp : Keep [(12, 7), (12, 8), (12, 9), (12, 10), (12, 11), (12, 13), (12, 14), (12, 16), (12, 17)] [62, 64] σ0 σ1 := keep_c kp ik1 (by decide) (by decide)
    have i1 : Inv σ1 := hw.2.1
    have hz1 : r1 = 0 ∨ r1 = 1 := hw.1
    refine lv_if_ne (tgt := 9) hx hb d_X5_enter_5 (by decide) (fun c_5 => ?_) (fun c_5 => ?_)
    · -- taken at 5
      refine lv_aload_n hx hb d_X5_enter_9 rfl (lv_at hl 0 rfl) ?_
      refine va_get (D := D) (ci := 5) (v := .int (σ1 12 11)) (C := "LinkedUnits$Machine") (T := TX5) (N := 19) hx hb hg iwX5 hown hK hP 11 rfl rfl 11 (by decide) (hg _ m_683) (fun _ h9 => h9) rfl d_X5_enter_10 ?_
      refine k_topi (σ0 12 11) (ik1 12 11 rfl rfl) ?_
      refine lv_bipush (v := 32) hx hb d_X5_enter_13 (by decide) ?_
      refine lv_isub hx hb d_X5_enter_15 ?_
      refine lv_aload_n hx hb d_X5_enter_16 rfl (lv_at hl 0 rfl) ?_
      refine va_get (D := D) (ci := 5) (v := .ref (r 24)) (C := "LinkedUnits$Machine") (T := TX5) (N := 19) hx hb hg iwX5 hown hK hP 11 rfl rfl 3 (by decide) (hg _ m_674) (fun _ h9 => h9) rfl d_X5_enter_17 ?_
      refine lv_iload_n hx hb d_X5_enter_20 rfl (lv_at hl 1 rfl) ?_
      refine s_call1 (x := ((r 24), .inl (cy 1, 262208, .inl (σ1 24)))) 23 rfl (va_runSN (As := [.ref (r 24), .int a1]) (rest := [.int ((σ0 12 11) - 32)]) ⟨hx, hb, hml, hown, hg⟩ (c_at_any l D cy H.size (r 24) 262208 (σ1 24) a1 (Nat.le_of_ble_eq_true rfl)) ⟨(va_cnB 2 hg (gw_c m_949) rfl rfl rfl (hNW.1 _ nm_1660) (hg _ m_1) (by decide +kernel) ⟨(Nat.le_of_ble_eq_true rfl), (Nat.le_of_ble_eq_true rfl)⟩), hg _ m_948, trivial⟩ (s_pre (ws := [((r 24), .inl (cy 1, 262208, .inl (σ1 24)))]) (s_sub1 23 hP rfl) (s_subD 23 hD rfl) hK hNW) rfl rfl hl.1 rfl (lv_room (Nat.le_of_ble_eq_true rfl)) d_X5_enter_21 ⟨(Nat.le_of_ble_eq_true rfl), (Nat.le_of_ble_eq_true rfl)⟩) hP hD hS hA (fun r2 u2 H locs hw hP hD hS => ?_)
      have hP : va_P D vwCl (wB cy r σ1) H := hP
      have hD : va_D A (wB cy r σ1) := hD
      refine lv_isub hx hb d_X5_enter_24 ?_
      refine lv_istore_n (lv' := [(3, .int (((σ0 12 11) - 32) - r2)), (0, .ref (r 12)), (1, .int a1), (2, .int a2)]) hx hb d_X5_enter_25 rfl hl (by decide) rfl (fun ls hl => ?_)
      refine lv_iload_n hx hb d_X5_enter_26 rfl (lv_at hl 0 rfl) ?_
      refine lv_sipush (v := 24576) hx hb d_X5_enter_27 (by decide) ?_
      refine lv_icmp_ge (tgt := 40) hx hb d_X5_enter_30 (by decide) (fun c_30 => ?_) (fun c_30 => ?_)
      · -- taken at 30
        refine lv_aload_n hx hb d_X5_enter_40 rfl (lv_at hl 1 rfl) ?_
        refine va_get (D := D) (ci := 5) (v := .ref (r 64)) (C := "LinkedUnits$Machine") (T := TX5) (N := 19) hx hb hg iwX5 hown hK hP 11 rfl rfl 6 (by decide) (hg _ m_678) (fun _ h9 => h9) rfl d_X5_enter_41 ?_
        refine lv_iconst (v := 3) hx hb d_X5_enter_44 (by decide) ?_
        refine lv_aload_n hx hb d_X5_enter_45 rfl (lv_at hl 1 rfl) ?_
        refine va_get (D := D) (ci := 5) (v := .int (σ1 12 7)) (C := "LinkedUnits$Machine") (T := TX5) (N := 19) hx hb hg iwX5 hown hK hP 11 rfl rfl 7 (by decide) (hg _ m_679) (fun _ h9 => h9) rfl d_X5_enter_46 ?_
        refine k_topi (σ0 12 7) (ik1 12 7 rfl rfl) ?_
        refine lv_imul hx hb d_X5_enter_49 ?_
        refine lv_aload_n hx hb d_X5_enter_50 rfl (lv_at hl 1 rfl) ?_
        refine va_get (D := D) (ci := 5) (v := .int (σ1 12 8)) (C := "LinkedUnits$Machine") (T := TX5) (N := 19) hx hb hg iwX5 hown hK hP 11 rfl rfl 8 (by decide) (hg _ m_680) (fun _ h9 => h9) rfl d_X5_enter_51 ?_
        refine k_topi (σ0 12 8) (ik1 12 8 rfl rfl) ?_
        refine s_set1 (X := Nat → Int32) (w := fun g => .inl (cy 1, 771, .inl g)) 61 rfl (va_runSN (As := [.ref (r 64), .int (3 * (σ0 12 7)), .int (σ0 12 8)]) (rest := []) ⟨hx, hb, hml, hown, hg⟩ (c_set_any l D cy H.size (r 64) 771 (σ1 64) (3 * (σ0 12 7)) (σ0 12 8) (Nat.le_of_ble_eq_true rfl)) ⟨(va_cnB 3 hg (gw_c m_981) rfl rfl rfl (hNW.1 _ nm_1661) (hg _ m_1) (by decide +kernel) ⟨(Nat.le_of_ble_eq_true rfl), (Nat.le_of_ble_eq_true rfl)⟩), hg _ m_980, trivial⟩ (s_pre (ws := [((r 64), .inl (cy 1, 771, .inl (σ1 64)))]) (s_sub1 61 hP rfl) (s_subD 61 hD rfl) hK hNW) rfl rfl hl.1 rfl (lv_room (Nat.le_of_ble_eq_true rfl)) d_X5_enter_54 ⟨(Nat.le_of_ble_eq_true rfl), (Nat.le_of_ble_eq_true rfl)⟩) hP hD hS hA (fun g3 H locs hw hP hD hS => ?_)
        have hP : va_P D vwCl (wB cy r (upF σ1 64 g3)) H := hP
        have hD : va_D A (wB cy r (upF σ1 64 g3)) := hD
        have kp : Keep [(12, 7), (12, 8), (12, 9), (12, 10), (12, 11), (12, 13), (12, 14), (12, 16), (12, 17)] [62, 64] σ0 (upF σ1 64 g3) := keep_a kp (by decide)
        refine lv_aload_n hx hb d_X5_enter_57 rfl (lv_at hl 1 rfl) ?_
        refine va_get (D := D) (ci := 5) (v := .ref (r 64)) (C := "LinkedUnits$Machine") (T := TX5) (N := 19) hx hb hg iwX5 hown hK hP 11 rfl rfl 6 (by decide) (hg _ m_678) (fun _ h9 => h9) rfl d_X5_enter_58 ?_
        refine lv_iconst (v := 3) hx hb d_X5_enter_61 (by decide) ?_
        refine lv_aload_n hx hb d_X5_enter_62 rfl (lv_at hl 1 rfl) ?_
        refine va_get (D := D) (ci := 5) (v := .int (σ1 12 7)) (C := "LinkedUnits$Machine") (T := TX5) (N := 19) hx hb hg iwX5 hown hK hP 11 rfl rfl 7 (by decide) (hg _ m_679) (fun _ h9 => h9) rfl d_X5_enter_63 ?_
        refine k_topi (σ0 12 7) (ik1 12 7 rfl rfl) ?_
        refine lv_imul hx hb d_X5_enter_66 ?_
        refine lv_iconst (v := 1) hx hb d_X5_enter_67 (by decide) ?_
        refine lv_iadd hx hb d_X5_enter_68 ?_
        refine lv_aload_n hx hb d_X5_enter_69 rfl (lv_at hl 1 rfl) ?_
        refine va_get (D := D) (ci := 5) (v := .int (σ1 12 10)) (C := "LinkedUnits$Machine") (T := TX5) (N := 19) hx hb hg iwX5 hown hK hP 11 rfl rfl 10 (by decide) (hg _ m_682) (fun _ h9 => h9) rfl d_X5_enter_70 ?_
        refine k_topi (σ0 12 10) (ik1 12 10 rfl rfl) ?_
        refine s_set1 (X := Nat → Int32) (w := fun g => .inl (cy 1, 771, .inl g)) 61 rfl (va_runSN (As := [.ref (r 64), .int ((3 * (σ0 12 7)) + 1), .int (σ0 12 10)]) (rest := []) ⟨hx, hb, hml, hown, hg⟩ (c_set_any l D cy H.size (r 64) 771 ((upF σ1 64 g3) 64) ((3 * (σ0 12 7)) + 1) (σ0 12 10) (Nat.le_of_ble_eq_true rfl)) ⟨(va_cnB 3 hg (gw_c m_981) rfl rfl rfl (hNW.1 _ nm_1661) (hg _ m_1) (by decide +kernel) ⟨(Nat.le_of_ble_eq_true rfl), (Nat.le_of_ble_eq_true rfl)⟩), hg _ m_980, trivial⟩ (s_pre (ws := [((r 64), .inl (cy 1, 771, .inl ((upF σ1 64 g3) 64)))]) (s_sub1 61 hP rfl) (s_subD 61 hD rfl) hK hNW) rfl rfl hl.1 rfl (lv_room (Nat.le_of_ble_eq_true rfl)) d_X5_enter_73 ⟨(Nat.le_of_ble_eq_true rfl), (Nat.le_of_ble_eq_true rfl)⟩) hP hD hS hA (fun g4 H locs hw hP hD hS => ?_)
        have hP : va_P D vwCl (wB cy r (upF (upF σ1 64 g3) 64 g4)) H := hP
        have hD : va_D A (wB cy r (upF (upF σ1 64 g3) 64 g4)) := hD
        have kp : Keep [(12, 7), (12, 8), (12, 9), (12, 10), (12, 11), (12, 13), (12, 14), (12, 16), (12, 17)] [62, 64] σ0 (upF (upF σ1 64 g3) 64 g4) := keep_a kp (by decide)
        refine lv_aload_n hx hb d_X5_enter_76 rfl (lv_at hl 1 rfl) ?_
        refine va_get (D := D) (ci := 5) (v := .ref (r 64)) (C := "LinkedUnits$Machine") (T := TX5) (N := 19) hx hb hg iwX5 hown hK hP 11 rfl rfl 6 (by decide) (hg _ m_678) (fun _ h9 => h9) rfl d_X5_enter_77 ?_
        refine lv_iconst (v := 3) hx hb d_X5_enter_80 (by decide) ?_
        refine lv_aload_n hx hb d_X5_enter_81 rfl (lv_at hl 1 rfl) ?_
        refine va_get (D := D) (ci := 5) (v := .int (σ1 12 7)) (C := "LinkedUnits$Machine") (T := TX5) (N := 19) hx hb hg iwX5 hown hK hP 11 rfl rfl 7 (by decide) (hg _ m_679) (fun _ h9 => h9) rfl d_X5_enter_82 ?_
        refine k_topi (σ0 12 7) (ik1 12 7 rfl rfl) ?_
        refine lv_imul hx hb d_X5_enter_85 ?_
        refine lv_iconst (v := 2) hx hb d_X5_enter_86 (by decide) ?_
        refine lv_iadd hx hb d_X5_enter_87 ?_
        refine lv_aload_n hx hb d_X5_enter_88 rfl (lv_at hl 1 rfl) ?_
        refine va_get (D := D) (ci := 5) (v := .int (σ1 12 11)) (C := "LinkedUnits$Machine") (T := TX5) (N := 19) hx hb hg iwX5 hown hK hP 11 rfl rfl 11 (by decide) (hg _ m_683) (fun _ h9 => h9) rfl d_X5_enter_89 ?_
        refine k_topi (σ0 12 11) (ik1 12 11 rfl rfl) ?_
        refine s_set1 (X := Nat → Int32) (w := fun g => .inl (cy 1, 771, .inl g)) 61 rfl (va_runSN (As := [.ref (r 64), .int ((3 * (σ0 12 7)) + 2), .int (σ0 12 11)]) (rest := []) ⟨hx, hb, hml, hown, hg⟩ (c_set_any l D cy H.size (r 64) 771 ((upF (upF σ1 64 g3) 64 g4) 64) ((3 * (σ0 12 7)) + 2) (σ0 12 11) (Nat.le_of_ble_eq_true rfl)) ⟨(va_cnB 3 hg (gw_c m_981) rfl rfl rfl (hNW.1 _ nm_1661) (hg _ m_1) (by decide +kernel) ⟨(Nat.le_of_ble_eq_true rfl), (Nat.le_of_ble_eq_true rfl)⟩), hg _ m_980, trivial⟩ (s_pre (ws := [((r 64), .inl (cy 1, 771, .inl ((upF (upF σ1 64 g3) 64 g4) 64)))]) (s_sub1 61 hP rfl) (s_subD 61 hD rfl) hK hNW) rfl rfl hl.1 rfl (lv_room (Nat.le_of_ble_eq_true rfl)) d_X5_enter_92 ⟨(Nat.le_of_ble_eq_true rfl), (Nat.le_of_ble_eq_true rfl)⟩) hP hD hS hA (fun g5 H locs hw hP hD hS => ?_)
        have hP : va_P D vwCl (wB cy r (upF (upF (upF σ1 64 g3) 64 g4) 64 g5)) H := hP
        have hD : va_D A (wB cy r (upF (upF (upF σ1 64 g3) 64 g4) 64 g5)) := hD
        have kp : Keep [(12, 7), (12, 8), (12, 9), (12, 10), (12, 11), (12, 13), (12, 14), (12, 16), (12, 17)] [62, 64] σ0 (upF (upF (upF σ1 64 g3) 64 g4) 64 g5) := keep_a kp (by decide)
        refine lv_aload_n hx hb d_X5_enter_95 rfl (lv_at hl 1 rfl) ?_
        refine lv_dup hx hb d_X5_enter_96 rfl ?_
        refine va_get (D := D) (ci := 5) (v := .int (σ1 12 7)) (C := "LinkedUnits$Machine") (T := TX5) (N := 19) hx hb hg iwX5 hown hK hP 11 rfl rfl 7 (by decide) (hg _ m_679) (fun _ h9 => h9) rfl d_X5_enter_97 ?_
        refine k_topi (σ0 12 7) (ik1 12 7 rfl rfl) ?_
        refine lv_iconst (v := 1) hx hb d_X5_enter_100 (by decide) ?_
        refine lv_iadd hx hb d_X5_enter_101 ?_
        refine va_put (D := D) (ci := 5) (v := .int ((σ0 12 7) + 1)) (ty := .int) (C := "LinkedUnits$Machine") (T := TX5) (N := 19) hx hb hg iwX5 tyX5 tyX5_ok nmX5 hown hK hP hD hS 11 rfl rfl 7 (by decide) (hg _ m_679) (fun _ h9 => h9) rfl (by decide +kernel) rfl rfl (Nat.le_of_ble_eq_true rfl) d_X5_enter_102 (fun H locs hP hD hS => ?_)
        have hP : va_P D vwCl (wB cy r (upC (upF (upF (upF σ1 64 g3) 64 g4) 64 g5) 12 7 ((σ0 12 7) + 1))) H := hP
        have hD : va_D A (wB cy r (upC (upF (upF (upF σ1 64 g3) 64 g4) 64 g5) 12 7 ((σ0 12 7) + 1))) := hD
        have kp : Keep [(12, 7), (12, 8), (12, 9), (12, 10), (12, 11), (12, 13), (12, 14), (12, 16), (12, 17)] [62, 64] σ0 (upC (upF (upF (upF σ1 64 g3) 64 g4) 64 g5) 12 7 ((σ0 12 7) + 1)) := keep_f kp (by decide)
        refine lv_aload_n hx hb d_X5_enter_105 rfl (lv_at hl 1 rfl) ?_
        refine lv_aload_n hx hb d_X5_enter_106 rfl (lv_at hl 1 rfl) ?_
        refine va_get (D := D) (ci := 5) (v := .int (σ1 12 9)) (C := "LinkedUnits$Machine") (T := TX5) (N := 19) hx hb hg iwX5 hown hK hP 11 rfl rfl 9 (by decide) (hg _ m_681) (fun _ h9 => h9) rfl d_X5_enter_107 ?_
        refine k_topi (σ0 12 9) (ik1 12 9 rfl rfl) ?_
        refine lv_aload_n hx hb d_X5_enter_110 rfl (lv_at hl 1 rfl) ?_
        refine va_get (D := D) (ci := 5) (v := .ref (r 24)) (C := "LinkedUnits$Machine") (T := TX5) (N := 19) hx hb hg iwX5 hown hK hP 11 rfl rfl 3 (by decide) (hg _ m_674) (fun _ h9 => h9) rfl d_X5_enter_111 ?_
        refine lv_iload_n hx hb d_X5_enter_114 rfl (lv_at hl 2 rfl) ?_
        refine lv_iconst (v := 2) hx hb d_X5_enter_115 (by decide) ?_
        refine lv_iadd hx hb d_X5_enter_116 ?_
        refine s_call1 (x := ((r 24), .inl (cy 1, 262208, .inl ((upC (upF (upF (upF σ1 64 g3) 64 g4) 64 g5) 12 7 ((σ0 12 7) + 1)) 24)))) 23 rfl (va_runSN (As := [.ref (r 24), .int (a1 + 2)]) (rest := [.int (σ0 12 9), .ref (r 12)]) ⟨hx, hb, hml, hown, hg⟩ (c_at_any l D cy H.size (r 24) 262208 ((upC (upF (upF (upF σ1 64 g3) 64 g4) 64 g5) 12 7 ((σ0 12 7) + 1)) 24) (a1 + 2) (Nat.le_of_ble_eq_true rfl)) ⟨(va_cnB 2 hg (gw_c m_949) rfl rfl rfl (hNW.1 _ nm_1660) (hg _ m_1) (by decide +kernel) ⟨(Nat.le_of_ble_eq_true rfl), (Nat.le_of_ble_eq_true rfl)⟩), hg _ m_948, trivial⟩ (s_pre (ws := [((r 24), .inl (cy 1, 262208, .inl ((upC (upF (upF (upF σ1 64 g3) 64 g4) 64 g5) 12 7 ((σ0 12 7) + 1)) 24)))]) (s_sub1 23 hP rfl) (s_subD 23 hD rfl) hK hNW) rfl rfl hl.1 rfl (lv_room (Nat.le_of_ble_eq_true rfl)) d_X5_enter_117 ⟨(Nat.le_of_ble_eq_true rfl), (Nat.le_of_ble_eq_true rfl)⟩) hP hD hS hA (fun r6 u6 H locs hw hP hD hS => ?_)
        have hP : va_P D vwCl (wB cy r (upC (upF (upF (upF σ1 64 g3) 64 g4) 64 g5) 12 7 ((σ0 12 7) + 1))) H := hP
        have hD : va_D A (wB cy r (upC (upF (upF (upF σ1 64 g3) 64 g4) 64 g5) 12 7 ((σ0 12 7) + 1))) := hD
        refine lv_isub hx hb d_X5_enter_120 ?_
        refine va_put (D := D) (ci := 5) (v := .int ((σ0 12 9) - r6)) (ty := .int) (C := "LinkedUnits$Machine") (T := TX5) (N := 19) hx hb hg iwX5 tyX5 tyX5_ok nmX5 hown hK hP hD hS 11 rfl rfl 10 (by decide) (hg _ m_682) (fun _ h9 => h9) rfl (by decide +kernel) rfl rfl (Nat.le_of_ble_eq_true rfl) d_X5_enter_121 (fun H locs hP hD hS => ?_)
        have hP : va_P D vwCl (wB cy r (upC (upC (upF (upF (upF σ1 64 g3) 64 g4) 64 g5) 12 7 ((σ0 12 7) + 1)) 12 10 ((σ0 12 9) - r6))) H := hP
        have hD : va_D A (wB cy r (upC (upC (upF (upF (upF σ1 64 g3) 64 g4) 64 g5) 12 7 ((σ0 12 7) + 1)) 12 10 ((σ0 12 9) - r6))) := hD
        have kp : Keep [(12, 7), (12, 8), (12, 9), (12, 10), (12, 11), (12, 13), (12, 14), (12, 16), (12, 17)] [62, 64] σ0 (upC (upC (upF (upF (upF σ1 64 g3) 64 g4) 64 g5) 12 7 ((σ0 12 7) + 1)) 12 10 ((σ0 12 9) - r6)) := keep_f kp (by decide)
        refine lv_aload_n hx hb d_X5_enter_124 rfl (lv_at hl 1 rfl) ?_
        refine lv_aload_n hx hb d_X5_enter_125 rfl (lv_at hl 1 rfl) ?_
        refine va_get (D := D) (ci := 5) (v := .int ((σ0 12 9) - r6)) (C := "LinkedUnits$Machine") (T := TX5) (N := 19) hx hb hg iwX5 hown hK hP 11 rfl rfl 10 (by decide) (hg _ m_682) (fun _ h9 => h9) rfl d_X5_enter_126 ?_
        refine lv_aload_n hx hb d_X5_enter_129 rfl (lv_at hl 1 rfl) ?_
        refine va_get (D := D) (ci := 5) (v := .ref (r 24)) (C := "LinkedUnits$Machine") (T := TX5) (N := 19) hx hb hg iwX5 hown hK hP 11 rfl rfl 3 (by decide) (hg _ m_674) (fun _ h9 => h9) rfl d_X5_enter_130 ?_
        refine lv_iload_n hx hb d_X5_enter_133 rfl (lv_at hl 2 rfl) ?_
        refine lv_iconst (v := 1) hx hb d_X5_enter_134 (by decide) ?_
        refine lv_iadd hx hb d_X5_enter_135 ?_
        refine s_call1 (x := ((r 24), .inl (cy 1, 262208, .inl ((upC (upC (upF (upF (upF σ1 64 g3) 64 g4) 64 g5) 12 7 ((σ0 12 7) + 1)) 12 10 ((σ0 12 9) - r6)) 24)))) 23 rfl (va_runSN (As := [.ref (r 24), .int (a1 + 1)]) (rest := [.int ((σ0 12 9) - r6), .ref (r 12)]) ⟨hx, hb, hml, hown, hg⟩ (c_at_any l D cy H.size (r 24) 262208 ((upC (upC (upF (upF (upF σ1 64 g3) 64 g4) 64 g5) 12 7 ((σ0 12 7) + 1)) 12 10 ((σ0 12 9) - r6)) 24) (a1 + 1) (Nat.le_of_ble_eq_true rfl)) ⟨(va_cnB 2 hg (gw_c m_949) rfl rfl rfl (hNW.1 _ nm_1660) (hg _ m_1) (by decide +kernel) ⟨(Nat.le_of_ble_eq_true rfl), (Nat.le_of_ble_eq_true rfl)⟩), hg _ m_948, trivial⟩ (s_pre (ws := [((r 24), .inl (cy 1, 262208, .inl ((upC (upC (upF (upF (upF σ1 64 g3) 64 g4) 64 g5) 12 7 ((σ0 12 7) + 1)) 12 10 ((σ0 12 9) - r6)) 24)))]) (s_sub1 23 hP rfl) (s_subD 23 hD rfl) hK hNW) rfl rfl hl.1 rfl (lv_room (Nat.le_of_ble_eq_true rfl)) d_X5_enter_136 ⟨(Nat.le_of_ble_eq_true rfl), (Nat.le_of_ble_eq_true rfl)⟩) hP hD hS hA (fun r7 u7 H locs hw hP hD hS => ?_)
        have hP : va_P D vwCl (wB cy r (upC (upC (upF (upF (upF σ1 64 g3) 64 g4) 64 g5) 12 7 ((σ0 12 7) + 1)) 12 10 ((σ0 12 9) - r6))) H := hP
        have hD : va_D A (wB cy r (upC (upC (upF (upF (upF σ1 64 g3) 64 g4) 64 g5) 12 7 ((σ0 12 7) + 1)) 12 10 ((σ0 12 9) - r6))) := hD
        refine lv_iadd hx hb d_X5_enter_139 ?_
        refine va_put (D := D) (ci := 5) (v := .int (((σ0 12 9) - r6) + r7)) (ty := .int) (C := "LinkedUnits$Machine") (T := TX5) (N := 19) hx hb hg iwX5 tyX5 tyX5_ok nmX5 hown hK hP hD hS 11 rfl rfl 9 (by decide) (hg _ m_681) (fun _ h9 => h9) rfl (by decide +kernel) rfl rfl (Nat.le_of_ble_eq_true rfl) d_X5_enter_140 (fun H locs hP hD hS => ?_)
        have hP : va_P D vwCl (wB cy r (upC (upC (upC (upF (upF (upF σ1 64 g3) 64 g4) 64 g5) 12 7 ((σ0 12 7) + 1)) 12 10 ((σ0 12 9) - r6)) 12 9 (((σ0 12 9) - r6) + r7))) H := hP
        have hD : va_D A (wB cy r (upC (upC (upC (upF (upF (upF σ1 64 g3) 64 g4) 64 g5) 12 7 ((σ0 12 7) + 1)) 12 10 ((σ0 12 9) - r6)) 12 9 (((σ0 12 9) - r6) + r7))) := hD
        have kp : Keep [(12, 7), (12, 8), (12, 9), (12, 10), (12, 11), (12, 13), (12, 14), (12, 16), (12, 17)] [62, 64] σ0 (upC (upC (upC (upF (upF (upF σ1 64 g3) 64 g4) 64 g5) 12 7 ((σ0 12 7) + 1)) 12 10 ((σ0 12 9) - r6)) 12 9 (((σ0 12 9) - r6) + r7)) := keep_f kp (by decide)
        refine lv_aload_n hx hb d_X5_enter_143 rfl (lv_at hl 1 rfl) ?_
        refine lv_iload_n hx hb d_X5_enter_144 rfl (lv_at hl 0 rfl) ?_
        refine va_put (D := D) (ci := 5) (v := .int (((σ0 12 11) - 32) - r2)) (ty := .int) (C := "LinkedUnits$Machine") (T := TX5) (N := 19) hx hb hg iwX5 tyX5 tyX5_ok nmX5 hown hK hP hD hS 11 rfl rfl 11 (by decide) (hg _ m_683) (fun _ h9 => h9) rfl (by decide +kernel) rfl rfl (Nat.le_of_ble_eq_true rfl) d_X5_enter_145 (fun H locs hP hD hS => ?_)
        have hP : va_P D vwCl (wB cy r (upC (upC (upC (upC (upF (upF (upF σ1 64 g3) 64 g4) 64 g5) 12 7 ((σ0 12 7) + 1)) 12 10 ((σ0 12 9) - r6)) 12 9 (((σ0 12 9) - r6) + r7)) 12 11 (((σ0 12 11) - 32) - r2))) H := hP
        have hD : va_D A (wB cy r (upC (upC (upC (upC (upF (upF (upF σ1 64 g3) 64 g4) 64 g5) 12 7 ((σ0 12 7) + 1)) 12 10 ((σ0 12 9) - r6)) 12 9 (((σ0 12 9) - r6) + r7)) 12 11 (((σ0 12 11) - 32) - r2))) := hD
        have kp : Keep [(12, 7), (12, 8), (12, 9), (12, 10), (12, 11), (12, 13), (12, 14), (12, 16), (12, 17)] [62, 64] σ0 (upC (upC (upC (upC (upF (upF (upF σ1 64 g3) 64 g4) 64 g5) 12 7 ((σ0 12 7) + 1)) 12 10 ((σ0 12 9) - r6)) 12 9 (((σ0 12 9) - r6) + r7)) 12 11 (((σ0 12 11) - 32) - r2)) := keep_f kp (by decide)
        refine lv_aload_n hx hb d_X5_enter_148 rfl (lv_at hl 1 rfl) ?_
        refine lv_iload_n hx hb d_X5_enter_149 rfl (lv_at hl 2 rfl) ?_
        refine lv_iconst (v := 4) hx hb d_X5_enter_150 (by decide) ?_
        refine lv_iadd hx hb d_X5_enter_151 ?_
        refine va_put (D := D) (ci := 5) (v := .int (a1 + 4)) (ty := .int) (C := "LinkedUnits$Machine") (T := TX5) (N := 19) hx hb hg iwX5 tyX5 tyX5_ok nmX5 hown hK hP hD hS 11 rfl rfl 8 (by decide) (hg _ m_680) (fun _ h9 => h9) rfl (by decide +kernel) rfl rfl (Nat.le_of_ble_eq_true rfl) d_X5_enter_152 (fun H locs hP hD hS => ?_)
        have hP : va_P D vwCl (wB cy r (upC (upC (upC (upC (upC (upF (upF (upF σ1 64 g3) 64 g4) 64 g5) 12 7 ((σ0 12 7) + 1)) 12 10 ((σ0 12 9) - r6)) 12 9 (((σ0 12 9) - r6) + r7)) 12 11 (((σ0 12 11) - 32) - r2)) 12 8 (a1 + 4))) H := hP
        have hD : va_D A (wB cy r (upC (upC (upC (upC (upC (upF (upF (upF σ1 64 g3) 64 g4) 64 g5) 12 7 ((σ0 12 7) + 1)) 12 10 ((σ0 12 9) - r6)) 12 9 (((σ0 12 9) - r6) + r7)) 12 11 (((σ0 12 11) - 32) - r2)) 12 8 (a1 + 4))) := hD
        have kp : Keep [(12, 7), (12, 8), (12, 9), (12, 10), (12, 11), (12, 13), (12, 14), (12, 16), (12, 17)] [62, 64] σ0 (upC (upC (upC (upC (upC (upF (upF (upF σ1 64 g3) 64 g4) 64 g5) 12 7 ((σ0 12 7) + 1)) 12 10 ((σ0 12 9) - r6)) 12 9 (((σ0 12 9) - r6) + r7)) 12 11 (((σ0 12 11) - 32) - r2)) 12 8 (a1 + 4)) := keep_f kp (by decide)
        refine lv_aload_n hx hb d_X5_enter_155 rfl (lv_at hl 1 rfl) ?_
        refine lv_aload_n hx hb d_X5_enter_156 rfl (lv_at hl 1 rfl) ?_
        refine va_get (D := D) (ci := 5) (v := .ref (r 24)) (C := "LinkedUnits$Machine") (T := TX5) (N := 19) hx hb hg iwX5 hown hK hP 11 rfl rfl 3 (by decide) (hg _ m_674) (fun _ h9 => h9) rfl d_X5_enter_157 ?_
        refine lv_iload_n hx hb d_X5_enter_160 rfl (lv_at hl 2 rfl) ?_
        refine lv_iconst (v := 2) hx hb d_X5_enter_161 (by decide) ?_
        refine lv_iadd hx hb d_X5_enter_162 ?_
        refine s_call1 (x := ((r 24), .inl (cy 1, 262208, .inl ((upC (upC (upC (upC (upC (upF (upF (upF σ1 64 g3) 64 g4) 64 g5) 12 7 ((σ0 12 7) + 1)) 12 10 ((σ0 12 9) - r6)) 12 9 (((σ0 12 9) - r6) + r7)) 12 11 (((σ0 12 11) - 32) - r2)) 12 8 (a1 + 4)) 24)))) 23 rfl (va_runSN (As := [.ref (r 24), .int (a1 + 2)]) (rest := [.ref (r 12)]) ⟨hx, hb, hml, hown, hg⟩ (c_at_any l D cy H.size (r 24) 262208 ((upC (upC (upC (upC (upC (upF (upF (upF σ1 64 g3) 64 g4) 64 g5) 12 7 ((σ0 12 7) + 1)) 12 10 ((σ0 12 9) - r6)) 12 9 (((σ0 12 9) - r6) + r7)) 12 11 (((σ0 12 11) - 32) - r2)) 12 8 (a1 + 4)) 24) (a1 + 2) (Nat.le_of_ble_eq_true rfl)) ⟨(va_cnB 2 hg (gw_c m_949) rfl rfl rfl (hNW.1 _ nm_1660) (hg _ m_1) (by decide +kernel) ⟨(Nat.le_of_ble_eq_true rfl), (Nat.le_of_ble_eq_true rfl)⟩), hg _ m_948, trivial⟩ (s_pre (ws := [((r 24), .inl (cy 1, 262208, .inl ((upC (upC (upC (upC (upC (upF (upF (upF σ1 64 g3) 64 g4) 64 g5) 12 7 ((σ0 12 7) + 1)) 12 10 ((σ0 12 9) - r6)) 12 9 (((σ0 12 9) - r6) + r7)) 12 11 (((σ0 12 11) - 32) - r2)) 12 8 (a1 + 4)) 24)))]) (s_sub1 23 hP rfl) (s_subD 23 hD rfl) hK hNW) rfl rfl hl.1 rfl (lv_room (Nat.le_of_ble_eq_true rfl)) d_X5_enter_163 ⟨(Nat.le_of_ble_eq_true rfl), (Nat.le_of_ble_eq_true rfl)⟩) hP hD hS hA (fun r8 u8 H locs hw hP hD hS => ?_)
        have hP : va_P D vwCl (wB cy r (upC (upC (upC (upC (upC (upF (upF (upF σ1 64 g3) 64 g4) 64 g5) 12 7 ((σ0 12 7) + 1)) 12 10 ((σ0 12 9) - r6)) 12 9 (((σ0 12 9) - r6) + r7)) 12 11 (((σ0 12 11) - 32) - r2)) 12 8 (a1 + 4))) H := hP
        have hD : va_D A (wB cy r (upC (upC (upC (upC (upC (upF (upF (upF σ1 64 g3) 64 g4) 64 g5) 12 7 ((σ0 12 7) + 1)) 12 10 ((σ0 12 9) - r6)) 12 9 (((σ0 12 9) - r6) + r7)) 12 11 (((σ0 12 11) - 32) - r2)) 12 8 (a1 + 4))) := hD
        refine lv_aload_n hx hb d_X5_enter_166 rfl (lv_at hl 1 rfl) ?_
        refine va_get (D := D) (ci := 5) (v := .ref (r 24)) (C := "LinkedUnits$Machine") (T := TX5) (N := 19) hx hb hg iwX5 hown hK hP 11 rfl rfl 3 (by decide) (hg _ m_674) (fun _ h9 => h9) rfl d_X5_enter_167 ?_
        refine lv_iload_n hx hb d_X5_enter_170 rfl (lv_at hl 2 rfl) ?_
        refine lv_iconst (v := 3) hx hb d_X5_enter_171 (by decide) ?_
        refine lv_iadd hx hb d_X5_enter_172 ?_
        refine s_call1 (x := ((r 24), .inl (cy 1, 262208, .inl ((upC (upC (upC (upC (upC (upF (upF (upF σ1 64 g3) 64 g4) 64 g5) 12 7 ((σ0 12 7) + 1)) 12 10 ((σ0 12 9) - r6)) 12 9 (((σ0 12 9) - r6) + r7)) 12 11 (((σ0 12 11) - 32) - r2)) 12 8 (a1 + 4)) 24)))) 23 rfl (va_runSN (As := [.ref (r 24), .int (a1 + 3)]) (rest := [.int r8, .ref (r 12)]) ⟨hx, hb, hml, hown, hg⟩ (c_at_any l D cy H.size (r 24) 262208 ((upC (upC (upC (upC (upC (upF (upF (upF σ1 64 g3) 64 g4) 64 g5) 12 7 ((σ0 12 7) + 1)) 12 10 ((σ0 12 9) - r6)) 12 9 (((σ0 12 9) - r6) + r7)) 12 11 (((σ0 12 11) - 32) - r2)) 12 8 (a1 + 4)) 24) (a1 + 3) (Nat.le_of_ble_eq_true rfl)) ⟨(va_cnB 2 hg (gw_c m_949) rfl rfl rfl (hNW.1 _ nm_1660) (hg _ m_1) (by decide +kernel) ⟨(Nat.le_of_ble_eq_true rfl), (Nat.le_of_ble_eq_true rfl)⟩), hg _ m_948, trivial⟩ (s_pre (ws := [((r 24), .inl (cy 1, 262208, .inl ((upC (upC (upC (upC (upC (upF (upF (upF σ1 64 g3) 64 g4) 64 g5) 12 7 ((σ0 12 7) + 1)) 12 10 ((σ0 12 9) - r6)) 12 9 (((σ0 12 9) - r6) + r7)) 12 11 (((σ0 12 11) - 32) - r2)) 12 8 (a1 + 4)) 24)))]) (s_sub1 23 hP rfl) (s_subD 23 hD rfl) hK hNW) rfl rfl hl.1 rfl (lv_room (Nat.le_of_ble_eq_true rfl)) d_X5_enter_173 ⟨(Nat.le_of_ble_eq_true rfl), (Nat.le_of_ble_eq_true rfl)⟩) hP hD hS hA (fun r9 u9 H locs hw hP hD hS => ?_)
        have hP : va_P D vwCl (wB cy r (upC (upC (upC (upC (upC (upF (upF (upF σ1 64 g3) 64 g4) 64 g5) 12 7 ((σ0 12 7) + 1)) 12 10 ((σ0 12 9) - r6)) 12 9 (((σ0 12 9) - r6) + r7)) 12 11 (((σ0 12 11) - 32) - r2)) 12 8 (a1 + 4))) H := hP
        have hD : va_D A (wB cy r (upC (upC (upC (upC (upC (upF (upF (upF σ1 64 g3) 64 g4) 64 g5) 12 7 ((σ0 12 7) + 1)) 12 10 ((σ0 12 9) - r6)) 12 9 (((σ0 12 9) - r6) + r7)) 12 11 (((σ0 12 11) - 32) - r2)) 12 8 (a1 + 4))) := hD
        refine s_callv (X := St) (w1 := fun τ => wB cy r τ) (va_runV (As := [.int r8, .int r9]) (rest := []) ⟨hx, hb, hml, hown, hg⟩ (s_X5_copyParameters l D cy H.size w g r (upC (upC (upC (upC (upC (upF (upF (upF σ1 64 g3) 64 g4) 64 g5) 12 7 ((σ0 12 7) + 1)) 12 10 ((σ0 12 9) - r6)) 12 9 (((σ0 12 9) - r6) + r7)) 12 11 (((σ0 12 11) - 32) - r2)) 12 8 (a1 + 4)) r8 r9 i1 ) (cwV 2 hg (gw_V m_1662 m_1664 ms_X5_copyParameters m_17 m_1665) rfl rfl rfl (by decide +kernel) ⟨(Nat.le_of_ble_eq_true rfl), (Nat.le_of_ble_eq_true rfl)⟩) (s_preVE (As := [.int r8, .int r9]) (gE_ok w g) hS hA hE hP hD hK hNW 11 rfl rfl) rfl rfl hl.1 rfl (lv_room (Nat.le_of_ble_eq_true rfl)) d_X5_enter_176 ⟨(Nat.le_of_ble_eq_true rfl), (Nat.le_of_ble_eq_true rfl)⟩) hP hD hS hA (fun σ10 H locs hw hP hD hS => ?_)
        have hP : va_P D vwCl (wB cy r σ10) H := hP
        have hD : va_D A (wB cy r σ10) := hD
        have ik10 : Keep [] [62] (upC (upC (upC (upC (upC (upF (upF (upF σ1 64 g3) 64 g4) 64 g5) 12 7 ((σ0 12 7) + 1)) 12 10 ((σ0 12 9) - r6)) 12 9 (((σ0 12 9) - r6) + r7)) 12 11 (((σ0 12 11) - 32) - r2)) 12 8 (a1 + 4)) σ10 := hw.2
        have kp : Keep [(12, 7), (12, 8), (12, 9), (12, 10), (12, 11), (12, 13), (12, 14), (12, 16), (12, 17)] [62, 64] σ0 σ10 := keep_c kp ik10 (by decide) (by decide)
        have i10 : Inv σ10 := hw.1
        refine W.widen (k := 0) (n := 0) (Nat.le_of_ble_eq_true rfl) (Nat.le_of_ble_eq_true rfl) ?_
        exact k_vret (X := St) (w1 := fun τ => wB cy r τ) σ10 hx hb hr d_X5_enter_179 hlocks hP hK hD hS ⟨i10, kp⟩
      · -- not taken at 30
        refine lv_aload_n hx hb d_X5_enter_33 rfl (lv_at hl 1 rfl) ?_
        refine lv_iconst (v := 3) hx hb d_X5_enter_34 (by decide) ?_
        refine lv_iload_n hx hb d_X5_enter_35 rfl (lv_at hl 3 rfl) ?_
        refine s_callv (X := St) (w1 := fun τ => wB cy r τ) (va_runV (As := [.int 3, .int a2]) (rest := []) ⟨hx, hb, hml, hown, hg⟩ (s_X5_fail l D cy H.size w g r σ1 (3 : Int32) a2 i1 ) (cwV 2 hg (gw_V m_1656 m_1658 ms_X5_fail m_17 m_1659) rfl rfl rfl (by decide +kernel) ⟨(Nat.le_of_ble_eq_true rfl), (Nat.le_of_ble_eq_true rfl)⟩) (s_preVE (As := [.int 3, .int a2]) (gE_ok w g) hS hA hE hP hD hK hNW 11 rfl rfl) rfl rfl hl.1 rfl (lv_room (Nat.le_of_ble_eq_true rfl)) d_X5_enter_36 ⟨(Nat.le_of_ble_eq_true rfl), (Nat.le_of_ble_eq_true rfl)⟩) hP hD hS hA (fun σ11 H locs hw hP hD hS => ?_)
        have hP : va_P D vwCl (wB cy r σ11) H := hP
        have hD : va_D A (wB cy r σ11) := hD
        have ik11 : Keep [(12, 13), (12, 16), (12, 17)] [] σ1 σ11 := hw.2
        have kp : Keep [(12, 7), (12, 8), (12, 9), (12, 10), (12, 11), (12, 13), (12, 14), (12, 16), (12, 17)] [62, 64] σ0 σ11 := keep_c kp ik11 (by decide) (by decide)
        have i11 : Inv σ11 := hw.1
        refine W.widen (k := 0) (n := 0) (Nat.le_of_ble_eq_true rfl) (Nat.le_of_ble_eq_true rfl) ?_
        exact k_vret (X := St) (w1 := fun τ => wB cy r τ) σ11 hx hb hr d_X5_enter_39 hlocks hP hK hD hS ⟨i11, kp⟩
    · -- not taken at 5
      refine W.widen (k := 0) (n := 0) (Nat.le_of_ble_eq_true rfl) (Nat.le_of_ble_eq_true rfl) ?_
      exact k_vret (X := St) (w1 := fun τ => wB cy r τ) σ1 hx hb hr d_X5_enter_8 hlocks hP hK hD hS ⟨i1, kp⟩
  rw [hH] at hgoal
  exact hgoal
set_option maxHeartbeats 4000000 in
set_option maxRecDepth 100000 in
theorem s_X3_head (l : Launch) (D : va_G) (cy : Nat → ClassId) (sz : Nat) (w : Nat → Nat) (g : Nat → Nat → Int32) (r : Nat → Nat) (σ0 : St) (a1 : Int32) (a2 : Int32) (a3 : Int32) (i0 : Inv σ0) : Met l y_X3_head (Cond.code y_X3_head b_X3_head 7 (some .boolean) :: GW) ({ frames := 3, cells := 0, slots := 0, locals := 69 } : Room) (va_Pc [.ref (r 3), .int a1, .int a2, .int a3] (kPreE D cy sz (wB cy r σ0) (gE w g))) ((fun A : Nat → Prop => va_Qi (S := St) (fun (v9 : Int32) (τ : St) => (v9 = 0 ∨ v9 = 1) ∧ (Inv τ ∧ Keep [(3, 1), (3, 2), (3, 3), (3, 4)] [18, 19, 20, 21, 23] σ0 τ)) (fun τ => kPost D cy A (wB cy r τ)) A) (va_A (wB cy r σ0) sz)) 0 0 (va_A (wB cy r σ0) sz) := by
  refine k_ofWE (Qc := fun A => va_Qi (S := St) (fun (v9 : Int32) (τ : St) => (v9 = 0 ∨ v9 = 1) ∧ (Inv τ ∧ Keep [(3, 1), (3, 2), (3, 3), (3, 4)] [18, 19, 20, 21, 23] σ0 τ)) (fun τ => kPost D cy A (wB cy r τ)) A) (by decide) (Nat.le_of_ble_eq_true rfl) ?_
  intro p e s m below meth c A ls hx hb hr hml hown hlocks hin hg hNW hK hP hD hA hS hl hE
  have hl : lv_has ls 7 [(0, .ref (r 3)), (1, .int a1), (2, .int a2), (3, .int a3)] := hl
  have hown : s.vm.findClass "LinkedUnits$Grammar" = some m.cls := hown
  have b105 : ∀ (N : Nat) (σ : St) (x1 : Int32) (x2 : Int32) (x3 : Int32) (x4 : Int32) (x5 : Int32) (x6 : Int32) (H : Heap) (locs : List Loc) (ls : Array Slot), upm x6 = N → Inv σ → Keep [(3, 1), (3, 2), (3, 3), (3, 4)] [18, 19, 20, 21, 23] σ0 σ → x5 = 0 ∨ x5 = 1 → va_P D vwCl (wB cy r σ) H → va_D A (wB cy r σ) → va_S A s.heap H locs → lv_has ls 7 [(0, .ref (r 3)), (1, .int x1), (2, .int x2), (3, .int x3), (4, .int x4), (5, .int x5), (6, .int x6)] → W p l e ({ frames := 3, cells := 0, slots := 0, locals := 69 } : Room) s m (([.ref (r 3), .int a1, .int a2, .int a3] : List Value).toArray) below meth c H locs 0 0 (MQ below (va_Qi (S := St) (fun (v9 : Int32) (τ : St) => (v9 = 0 ∨ v9 = 1) ∧ (Inv τ ∧ Keep [(3, 1), (3, 2), (3, 3), (3, 4)] [18, 19, 20, 21, 23] σ0 τ)) (fun τ => kPost D cy A (wB cy r τ)) A) (([.ref (r 3), .int a1, .int a2, .int a3] : List Value).toArray) s 0 0 A) (F0 m 105 ls []) := by
    intro M105
    induction M105 using Nat.strongRecOn with
    | _ M105 ih105 =>
      intro σ x1 x2 x3 x4 x5 x6 H locs ls N105 inv kp z_x5 hP hD hS hl
      refine lv_iload hx hb d_X3_head_105 (lv_at hl 6 rfl) ?_
      refine lv_iload hx hb d_X3_head_107 (lv_at hl 4 rfl) ?_
      refine s_call0 (va_runSN (As := [.int x4]) (rest := [.int x6]) ⟨hx, hb, hml, hown, hg⟩ (s_X8_parameters l D cy H.size x4 ) ⟨(va_cnB 1 hg (gw_c m_999) rfl rfl rfl (hNW.1 _ nm_1000) (hg _ m_5) (by decide +kernel) ⟨(Nat.le_of_ble_eq_true rfl), (Nat.le_of_ble_eq_true rfl)⟩), hg _ m_998, trivial⟩ (s_pre (ws := []) (A := A) (fun k q h => by simp at h) ⟨fun i j p q h => by simp at h, fun k q h => by simp at h⟩ hK hNW) rfl rfl hl.1 rfl (lv_room (Nat.le_of_ble_eq_true rfl)) d_X3_head_109 ⟨(Nat.le_of_ble_eq_true rfl), (Nat.le_of_ble_eq_true rfl)⟩) hP hD hS hA (fun r1 u1 H locs hw hP hD hS => ?_)
      have hP : va_P D vwCl (wB cy r σ) H := hP
      have hD : va_D A (wB cy r σ) := hD
      refine lv_icmp_ge (tgt := 150) hx hb d_X3_head_112 (by decide) (fun c_112 => ?_) (fun c_112 => ?_)
      · -- taken at 112
        refine lv_iload hx hb d_X3_head_150 (lv_at hl 5 rfl) ?_
        refine W.widen (k := 0) (n := 0) (Nat.le_of_ble_eq_true rfl) (Nat.le_of_ble_eq_true rfl) ?_
        exact k_zret (X := St) (w1 := fun τ => wB cy r τ) σ hx hb hr (k_nz z_x5) d_X3_head_152 hlocks hP hK hD hS ⟨z_x5, ⟨inv, kp⟩⟩
      · -- not taken at 112
        refine lv_iload hx hb d_X3_head_115 (lv_at hl 5 rfl) ?_
        refine lv_if_eq (tgt := 150) hx hb d_X3_head_117 (by decide) (fun c_117 => ?_) (fun c_117 => ?_)
        · -- taken at 117
          refine lv_iload hx hb d_X3_head_150 (lv_at hl 5 rfl) ?_
          refine W.widen (k := 0) (n := 0) (Nat.le_of_ble_eq_true rfl) (Nat.le_of_ble_eq_true rfl) ?_
          exact k_zret (X := St) (w1 := fun τ => wB cy r τ) σ hx hb hr (k_nz z_x5) d_X3_head_152 hlocks hP hK hD hS ⟨z_x5, ⟨inv, kp⟩⟩
        · -- not taken at 117
          refine lv_aload_n hx hb d_X3_head_120 rfl (lv_at hl 0 rfl) ?_
          refine lv_bipush (v := 48) hx hb d_X3_head_121 (by decide) ?_
          refine lv_aload_n hx hb d_X3_head_123 rfl (lv_at hl 0 rfl) ?_
          refine va_get (D := D) (ci := 3) (v := .ref (r 23)) (C := "LinkedUnits$Grammar") (T := TX3) (N := 12) hx hb hg iwX3 hown hK hP 2 rfl rfl 11 (by decide) (hg _ m_116) (fun _ h9 => h9) rfl d_X3_head_124 ?_
          refine lv_iload hx hb d_X3_head_127 (lv_at hl 6 rfl) ?_
          refine s_call1 (x := ((r 23), .inl (cy 1, 8, .inl (σ 23)))) 22 rfl (va_runSN (As := [.ref (r 23), .int x6]) (rest := [.int 48, .ref (r 3)]) ⟨hx, hb, hml, hown, hg⟩ (c_at_any l D cy H.size (r 23) 8 (σ 23) x6 (Nat.le_of_ble_eq_true rfl)) ⟨(va_cnB 2 hg (gw_c m_949) rfl rfl rfl (hNW.1 _ nm_947) (hg _ m_1) (by decide +kernel) ⟨(Nat.le_of_ble_eq_true rfl), (Nat.le_of_ble_eq_true rfl)⟩), hg _ m_948, trivial⟩ (s_pre (ws := [((r 23), .inl (cy 1, 8, .inl (σ 23)))]) (s_sub1 22 hP rfl) (s_subD 22 hD rfl) hK hNW) rfl rfl hl.1 rfl (lv_room (Nat.le_of_ble_eq_true rfl)) d_X3_head_129 ⟨(Nat.le_of_ble_eq_true rfl), (Nat.le_of_ble_eq_true rfl)⟩) hP hD hS hA (fun r2 u2 H locs hw hP hD hS => ?_)
          have hP : va_P D vwCl (wB cy r σ) H := hP
          have hD : va_D A (wB cy r σ) := hD
          refine lv_iload hx hb d_X3_head_132 (lv_at hl 4 rfl) ?_
          refine lv_iload hx hb d_X3_head_134 (lv_at hl 6 rfl) ?_
          refine s_call0 (va_runSN (As := [.int x4, .int x6]) (rest := [.int r2, .int 48, .ref (r 3)]) ⟨hx, hb, hml, hown, hg⟩ (s_X8_parameter l D cy H.size x4 x6 ) ⟨(va_cnB 2 hg (gw_c m_1003) rfl rfl rfl (hNW.1 _ nm_1001) (hg _ m_5) (by decide +kernel) ⟨(Nat.le_of_ble_eq_true rfl), (Nat.le_of_ble_eq_true rfl)⟩), hg _ m_1002, trivial⟩ (s_pre (ws := []) (A := A) (fun k q h => by simp at h) ⟨fun i j p q h => by simp at h, fun k q h => by simp at h⟩ hK hNW) rfl rfl hl.1 rfl (lv_room (Nat.le_of_ble_eq_true rfl)) d_X3_head_136 ⟨(Nat.le_of_ble_eq_true rfl), (Nat.le_of_ble_eq_true rfl)⟩) hP hD hS hA (fun r3 u3 H locs hw hP hD hS => ?_)
          have hP : va_P D vwCl (wB cy r σ) H := hP
          have hD : va_D A (wB cy r σ) := hD
          refine lv_iconst (v := 0) hx hb d_X3_head_139 (by decide) ?_
          refine s_calli (X := St) (w1 := fun τ => wB cy r τ) (va_runV (As := [.int 48, .int r2, .int r3, .int 0]) (rest := []) ⟨hx, hb, hml, hown, hg⟩ (s_X3_add l D cy H.size w g r σ (48 : Int32) r2 r3 (0 : Int32) inv ) (cwV 4 hg (gw_V m_923 m_925 ms_X3_add m_3 m_926) rfl rfl rfl (by decide +kernel) ⟨(Nat.le_of_ble_eq_true rfl), (Nat.le_of_ble_eq_true rfl)⟩) (s_preVE (As := [.int 48, .int r2, .int r3, .int 0]) (gE_ok w g) hS hA hE hP hD hK hNW 2 rfl rfl) rfl rfl hl.1 rfl (lv_room (Nat.le_of_ble_eq_true rfl)) d_X3_head_140 ⟨(Nat.le_of_ble_eq_true rfl), (Nat.le_of_ble_eq_true rfl)⟩) hP hD hS hA (fun r4 σ4 H locs hw hP hD hS => ?_)
          have hP : va_P D vwCl (wB cy r σ4) H := hP
          have hD : va_D A (wB cy r σ4) := hD
          have ik4 : Keep [(3, 4)] [18, 19, 20, 21] σ σ4 := hw.2
          have kp : Keep [(3, 1), (3, 2), (3, 3), (3, 4)] [18, 19, 20, 21, 23] σ0 σ4 := keep_c kp ik4 (by decide) (by decide)
          have i4 : Inv σ4 := hw.1
          refine lv_pop hx hb d_X3_head_143 rfl ?_
          refine lv_iinc (v := (x6 + 1)) (lv' := [(6, .int (x6 + 1)), (0, .ref (r 3)), (1, .int x1), (2, .int x2), (3, .int x3), (4, .int x4), (5, .int x5)]) hx hb d_X3_head_144 hl (k := 6) rfl rfl (by decide) rfl (fun ls hl => ?_)
          refine lv_goto (tgt := 105) hx hb d_X3_head_147 (by decide) ?_
          exact ih105 _ (Nat.lt_of_lt_of_eq (upm_lt c_112) N105) σ4 x1 x2 x3 x4 x5 (x6 + 1) _ _ _ rfl i4 kp z_x5 hP hD hS (lv_sub hl [1, 2, 3, 4, 5, 6, 0] rfl)
  have kp : Keep [(3, 1), (3, 2), (3, 3), (3, 4)] [18, 19, 20, 21, 23] σ0 σ0 := keep_rf
  obtain ⟨H, hH⟩ : ∃ H, H = s.heap := ⟨_, rfl⟩
  rw [← hH] at hP
  have hS : va_S A s.heap H [] := by rw [hH]; exact va_S.rf
  have hgoal : W p l e ({ frames := 3, cells := 0, slots := 0, locals := 69 } : Room) s m (([.ref (r 3), .int a1, .int a2, .int a3] : List Value).toArray) below meth c H [] 0 0 (MQ below (va_Qi (S := St) (fun (v9 : Int32) (τ : St) => (v9 = 0 ∨ v9 = 1) ∧ (Inv τ ∧ Keep [(3, 1), (3, 2), (3, 3), (3, 4)] [18, 19, 20, 21, 23] σ0 τ)) (fun τ => kPost D cy A (wB cy r τ)) A) (([.ref (r 3), .int a1, .int a2, .int a3] : List Value).toArray) s 0 0 A) (F0 m 0 ls []) := by
    refine lv_aload_n hx hb d_X3_head_0 rfl (lv_at hl 0 rfl) ?_
    refine lv_bipush (v := 20) hx hb d_X3_head_1 (by decide) ?_
    refine s_callv (X := St) (w1 := fun τ => wB cy r τ) (va_runV (As := [.int 20]) (rest := []) ⟨hx, hb, hml, hown, hg⟩ (s_X3_expect l D cy H.size w g r σ0 (20 : Int32) i0 ) (cwV 1 hg (gw_V m_903 m_905 ms_X3_expect m_3 m_906) rfl rfl rfl (by decide +kernel) ⟨(Nat.le_of_ble_eq_true rfl), (Nat.le_of_ble_eq_true rfl)⟩) (s_preVE (As := [.int 20]) (gE_ok w g) hS hA hE hP hD hK hNW 2 rfl rfl) rfl rfl hl.1 rfl (lv_room (Nat.le_of_ble_eq_true rfl)) d_X3_head_3 ⟨(Nat.le_of_ble_eq_true rfl), (Nat.le_of_ble_eq_true rfl)⟩) hP hD hS hA (fun σ5 H locs hw hP hD hS => ?_)
    have hP : va_P D vwCl (wB cy r σ5) H := hP
    have hD : va_D A (wB cy r σ5) := hD
    have ik5 : Keep [(3, 1), (3, 2), (3, 3)] [] σ0 σ5 := hw.2
    have kp : Keep [(3, 1), (3, 2), (3, 3), (3, 4)] [18, 19, 20, 21, 23] σ0 σ5 := keep_c kp ik5 (by decide) (by decide)
    have i5 : Inv σ5 := hw.1
    refine lv_iconst (v := 0) hx hb d_X3_head_6 (by decide) ?_
    refine lv_istore (lv' := [(4, .int 0), (0, .ref (r 3)), (1, .int a1), (2, .int a2), (3, .int a3)]) hx hb d_X3_head_7 hl (by decide) rfl (fun ls hl => ?_)
    refine lv_aload_n hx hb d_X3_head_9 rfl (lv_at hl 1 rfl) ?_
    refine va_get (D := D) (ci := 3) (v := .int (σ5 3 2)) (C := "LinkedUnits$Grammar") (T := TX3) (N := 12) hx hb hg iwX3 hown hK hP 2 rfl rfl 2 (by decide) (hg _ m_96) (fun _ h9 => h9) rfl d_X3_head_10 ?_
    refine lv_bipush (v := 6) hx hb d_X3_head_13 (by decide) ?_
    refine lv_icmp_ne (tgt := 25) hx hb d_X3_head_15 (by decide) (fun c_15 => ?_) (fun c_15 => ?_)
    · -- taken at 15
      refine lv_aload_n hx hb d_X3_head_25 rfl (lv_at hl 1 rfl) ?_
      refine va_get (D := D) (ci := 3) (v := .int (σ5 3 2)) (C := "LinkedUnits$Grammar") (T := TX3) (N := 12) hx hb hg iwX3 hown hK hP 2 rfl rfl 2 (by decide) (hg _ m_96) (fun _ h9 => h9) rfl d_X3_head_26 ?_
      refine lv_bipush (v := 21) hx hb d_X3_head_29 (by decide) ?_
      refine lv_icmp_eq (tgt := 40) hx hb d_X3_head_31 (by decide) (fun c_31 => ?_) (fun c_31 => ?_)
      · -- taken at 31
        refine lv_aload_n hx hb d_X3_head_40 rfl (lv_at hl 1 rfl) ?_
        refine lv_bipush (v := 21) hx hb d_X3_head_41 (by decide) ?_
        refine s_callv (X := St) (w1 := fun τ => wB cy r τ) (va_runV (As := [.int 21]) (rest := []) ⟨hx, hb, hml, hown, hg⟩ (s_X3_expect l D cy H.size w g r σ5 (21 : Int32) i5 ) (cwV 1 hg (gw_V m_903 m_905 ms_X3_expect m_3 m_906) rfl rfl rfl (by decide +kernel) ⟨(Nat.le_of_ble_eq_true rfl), (Nat.le_of_ble_eq_true rfl)⟩) (s_preVE (As := [.int 21]) (gE_ok w g) hS hA hE hP hD hK hNW 2 rfl rfl) rfl rfl hl.1 rfl (lv_room (Nat.le_of_ble_eq_true rfl)) d_X3_head_43 ⟨(Nat.le_of_ble_eq_true rfl), (Nat.le_of_ble_eq_true rfl)⟩) hP hD hS hA (fun σ6 H locs hw hP hD hS => ?_)
        have hP : va_P D vwCl (wB cy r σ6) H := hP
        have hD : va_D A (wB cy r σ6) := hD
        have ik6 : Keep [(3, 1), (3, 2), (3, 3)] [] σ5 σ6 := hw.2
        have kp : Keep [(3, 1), (3, 2), (3, 3), (3, 4)] [18, 19, 20, 21, 23] σ0 σ6 := keep_c kp ik6 (by decide) (by decide)
        have i6 : Inv σ6 := hw.1
        refine lv_aload_n hx hb d_X3_head_46 rfl (lv_at hl 1 rfl) ?_
        refine va_get (D := D) (ci := 3) (v := .int (σ6 3 2)) (C := "LinkedUnits$Grammar") (T := TX3) (N := 12) hx hb hg iwX3 hown hK hP 2 rfl rfl 2 (by decide) (hg _ m_96) (fun _ h9 => h9) rfl d_X3_head_47 ?_
        refine lv_bipush (v := 22) hx hb d_X3_head_50 (by decide) ?_
        refine lv_icmp_ne (tgt := 59) hx hb d_X3_head_52 (by decide) (fun c_52 => ?_) (fun c_52 => ?_)
        · -- taken at 52
          refine lv_iconst (v := 0) hx hb d_X3_head_59 (by decide) ?_
          refine lv_istore (lv' := [(5, .int 0), (4, .int 0), (0, .ref (r 3)), (1, .int a1), (2, .int a2), (3, .int a3)]) hx hb d_X3_head_60 hl (by decide) rfl (fun ls hl => ?_)
          refine lv_aload_n hx hb d_X3_head_62 rfl (lv_at hl 2 rfl) ?_
          refine lv_bipush (v := 47) hx hb d_X3_head_63 (by decide) ?_
          refine lv_iload_n hx hb d_X3_head_65 rfl (lv_at hl 3 rfl) ?_
          refine lv_iload hx hb d_X3_head_66 (lv_at hl 1 rfl) ?_
          refine lv_iload_n hx hb d_X3_head_68 rfl (lv_at hl 4 rfl) ?_
          refine lv_iconst (v := 1) hx hb d_X3_head_69 (by decide) ?_
          refine lv_iadd hx hb d_X3_head_70 ?_
          refine lv_bipush (v := 8) hx hb d_X3_head_71 (by decide) ?_
          refine lv_imul hx hb d_X3_head_73 ?_
          refine lv_iload_n hx hb d_X3_head_74 rfl (lv_at hl 5 rfl) ?_
          refine lv_iadd hx hb d_X3_head_75 ?_
          refine lv_iload hx hb d_X3_head_76 (lv_at hl 0 rfl) ?_
          refine lv_if_eq (tgt := 85) hx hb d_X3_head_78 (by decide) (fun _ => ?_) (fun c_78 => False.elim (by revert c_78; decide))
          refine lv_iconst (v := 0) hx hb d_X3_head_85 (by decide) ?_
          refine lv_iadd hx hb d_X3_head_86 ?_
          refine s_calli (X := St) (w1 := fun τ => wB cy r τ) (va_runV (As := [.int 47, .int a1, .int 0, .int ((((a2 + 1) * 8) + a3) + 0)]) (rest := []) ⟨hx, hb, hml, hown, hg⟩ (s_X3_add l D cy H.size w g r σ6 (47 : Int32) a1 (0 : Int32) ((((a2 + 1) * 8) + a3) + 0) i6 ) (cwV 4 hg (gw_V m_923 m_925 ms_X3_add m_3 m_926) rfl rfl rfl (by decide +kernel) ⟨(Nat.le_of_ble_eq_true rfl), (Nat.le_of_ble_eq_true rfl)⟩) (s_preVE (As := [.int 47, .int a1, .int 0, .int ((((a2 + 1) * 8) + a3) + 0)]) (gE_ok w g) hS hA hE hP hD hK hNW 2 rfl rfl) rfl rfl hl.1 rfl (lv_room (Nat.le_of_ble_eq_true rfl)) d_X3_head_87 ⟨(Nat.le_of_ble_eq_true rfl), (Nat.le_of_ble_eq_true rfl)⟩) hP hD hS hA (fun r7 σ7 H locs hw hP hD hS => ?_)
          have hP : va_P D vwCl (wB cy r σ7) H := hP
          have hD : va_D A (wB cy r σ7) := hD
          have ik7 : Keep [(3, 4)] [18, 19, 20, 21] σ6 σ7 := hw.2
          have kp : Keep [(3, 1), (3, 2), (3, 3), (3, 4)] [18, 19, 20, 21, 23] σ0 σ7 := keep_c kp ik7 (by decide) (by decide)
          have i7 : Inv σ7 := hw.1
          refine lv_pop hx hb d_X3_head_90 rfl ?_
          refine lv_iload hx hb d_X3_head_91 (lv_at hl 0 rfl) ?_
          refine lv_if_ne (tgt := 102) hx hb d_X3_head_93 (by decide) (fun c_93 => absurd c_93 (by decide)) (fun _ => ?_)
          refine lv_aload_n hx hb d_X3_head_96 rfl (lv_at hl 2 rfl) ?_
          refine lv_bipush (v := 27) hx hb d_X3_head_97 (by decide) ?_
          refine s_callv (X := St) (w1 := fun τ => wB cy r τ) (va_runV (As := [.int 27]) (rest := []) ⟨hx, hb, hml, hown, hg⟩ (s_X3_expect l D cy H.size w g r σ7 (27 : Int32) i7 ) (cwV 1 hg (gw_V m_903 m_905 ms_X3_expect m_3 m_906) rfl rfl rfl (by decide +kernel) ⟨(Nat.le_of_ble_eq_true rfl), (Nat.le_of_ble_eq_true rfl)⟩) (s_preVE (As := [.int 27]) (gE_ok w g) hS hA hE hP hD hK hNW 2 rfl rfl) rfl rfl hl.1 rfl (lv_room (Nat.le_of_ble_eq_true rfl)) d_X3_head_99 ⟨(Nat.le_of_ble_eq_true rfl), (Nat.le_of_ble_eq_true rfl)⟩) hP hD hS hA (fun σ8 H locs hw hP hD hS => ?_)
          have hP : va_P D vwCl (wB cy r σ8) H := hP
          have hD : va_D A (wB cy r σ8) := hD
          have ik8 : Keep [(3, 1), (3, 2), (3, 3)] [] σ7 σ8 := hw.2
          have kp : Keep [(3, 1), (3, 2), (3, 3), (3, 4)] [18, 19, 20, 21, 23] σ0 σ8 := keep_c kp ik8 (by decide) (by decide)
          have i8 : Inv σ8 := hw.1
          refine lv_iconst (v := 0) hx hb d_X3_head_102 (by decide) ?_
          refine lv_istore (lv' := [(6, .int 0), (5, .int 0), (4, .int 0), (0, .ref (r 3)), (1, .int a1), (2, .int a2), (3, .int a3)]) hx hb d_X3_head_103 hl (by decide) rfl (fun ls hl => ?_)
          exact b105 _ σ8 a1 a2 a3 (0 : Int32) (0 : Int32) (0 : Int32) _ _ _ rfl i8 kp (Or.inl rfl) hP hD hS (lv_sub hl [3, 4, 5, 6, 2, 1, 0] rfl)
        · -- not taken at 52
          refine lv_iconst (v := 1) hx hb d_X3_head_55 (by decide) ?_
          refine lv_goto (tgt := 60) hx hb d_X3_head_56 (by decide) ?_
          refine lv_istore (lv' := [(5, .int 1), (4, .int 0), (0, .ref (r 3)), (1, .int a1), (2, .int a2), (3, .int a3)]) hx hb d_X3_head_60 hl (by decide) rfl (fun ls hl => ?_)
          refine lv_aload_n hx hb d_X3_head_62 rfl (lv_at hl 2 rfl) ?_
          refine lv_bipush (v := 47) hx hb d_X3_head_63 (by decide) ?_
          refine lv_iload_n hx hb d_X3_head_65 rfl (lv_at hl 3 rfl) ?_
          refine lv_iload hx hb d_X3_head_66 (lv_at hl 1 rfl) ?_
          refine lv_iload_n hx hb d_X3_head_68 rfl (lv_at hl 4 rfl) ?_
          refine lv_iconst (v := 1) hx hb d_X3_head_69 (by decide) ?_
          refine lv_iadd hx hb d_X3_head_70 ?_
          refine lv_bipush (v := 8) hx hb d_X3_head_71 (by decide) ?_
          refine lv_imul hx hb d_X3_head_73 ?_
          refine lv_iload_n hx hb d_X3_head_74 rfl (lv_at hl 5 rfl) ?_
          refine lv_iadd hx hb d_X3_head_75 ?_
          refine lv_iload hx hb d_X3_head_76 (lv_at hl 0 rfl) ?_
          refine lv_if_eq (tgt := 85) hx hb d_X3_head_78 (by decide) (fun c_78 => absurd c_78 (by decide)) (fun _ => ?_)
          refine lv_iconst (v := 4) hx hb d_X3_head_81 (by decide) ?_
          refine lv_goto (tgt := 86) hx hb d_X3_head_82 (by decide) ?_
          refine lv_iadd hx hb d_X3_head_86 ?_
          refine s_calli (X := St) (w1 := fun τ => wB cy r τ) (va_runV (As := [.int 47, .int a1, .int 0, .int ((((a2 + 1) * 8) + a3) + 4)]) (rest := []) ⟨hx, hb, hml, hown, hg⟩ (s_X3_add l D cy H.size w g r σ6 (47 : Int32) a1 (0 : Int32) ((((a2 + 1) * 8) + a3) + 4) i6 ) (cwV 4 hg (gw_V m_923 m_925 ms_X3_add m_3 m_926) rfl rfl rfl (by decide +kernel) ⟨(Nat.le_of_ble_eq_true rfl), (Nat.le_of_ble_eq_true rfl)⟩) (s_preVE (As := [.int 47, .int a1, .int 0, .int ((((a2 + 1) * 8) + a3) + 4)]) (gE_ok w g) hS hA hE hP hD hK hNW 2 rfl rfl) rfl rfl hl.1 rfl (lv_room (Nat.le_of_ble_eq_true rfl)) d_X3_head_87 ⟨(Nat.le_of_ble_eq_true rfl), (Nat.le_of_ble_eq_true rfl)⟩) hP hD hS hA (fun r9 σ9 H locs hw hP hD hS => ?_)
          have hP : va_P D vwCl (wB cy r σ9) H := hP
          have hD : va_D A (wB cy r σ9) := hD
          have ik9 : Keep [(3, 4)] [18, 19, 20, 21] σ6 σ9 := hw.2
          have kp : Keep [(3, 1), (3, 2), (3, 3), (3, 4)] [18, 19, 20, 21, 23] σ0 σ9 := keep_c kp ik9 (by decide) (by decide)
          have i9 : Inv σ9 := hw.1
          refine lv_pop hx hb d_X3_head_90 rfl ?_
          refine lv_iload hx hb d_X3_head_91 (lv_at hl 0 rfl) ?_
          refine lv_if_ne (tgt := 102) hx hb d_X3_head_93 (by decide) (fun _ => ?_) (fun c_93 => False.elim (by revert c_93; decide))
          refine lv_iconst (v := 0) hx hb d_X3_head_102 (by decide) ?_
          refine lv_istore (lv' := [(6, .int 0), (5, .int 1), (4, .int 0), (0, .ref (r 3)), (1, .int a1), (2, .int a2), (3, .int a3)]) hx hb d_X3_head_103 hl (by decide) rfl (fun ls hl => ?_)
          exact b105 _ σ9 a1 a2 a3 (0 : Int32) (1 : Int32) (0 : Int32) _ _ _ rfl i9 kp (Or.inr rfl) hP hD hS (lv_sub hl [3, 4, 5, 6, 2, 1, 0] rfl)
      · -- not taken at 31
        refine lv_aload_n hx hb d_X3_head_34 rfl (lv_at hl 1 rfl) ?_
        refine s_calli (X := St) (w1 := fun τ => wB cy r τ) (va_runV (As := []) (rest := []) ⟨hx, hb, hml, hown, hg⟩ (s_X3_parameters l D cy H.size w g r σ5  i5 ) (cwV 0 hg (gw_V m_990 m_992 ms_X3_parameters m_3 m_993) rfl rfl rfl (by decide +kernel) ⟨(Nat.le_of_ble_eq_true rfl), (Nat.le_of_ble_eq_true rfl)⟩) (s_preVE (As := []) (gE_ok w g) hS hA hE hP hD hK hNW 2 rfl rfl) rfl rfl hl.1 rfl (lv_room (Nat.le_of_ble_eq_true rfl)) d_X3_head_35 ⟨(Nat.le_of_ble_eq_true rfl), (Nat.le_of_ble_eq_true rfl)⟩) hP hD hS hA (fun r10 σ10 H locs hw hP hD hS => ?_)
        have hP : va_P D vwCl (wB cy r σ10) H := hP
        have hD : va_D A (wB cy r σ10) := hD
        have ik10 : Keep [(3, 1), (3, 2), (3, 3)] [23] σ5 σ10 := hw.2
        have kp : Keep [(3, 1), (3, 2), (3, 3), (3, 4)] [18, 19, 20, 21, 23] σ0 σ10 := keep_c kp ik10 (by decide) (by decide)
        have i10 : Inv σ10 := hw.1
        refine lv_istore (lv' := [(4, .int r10), (0, .ref (r 3)), (1, .int a1), (2, .int a2), (3, .int a3)]) hx hb d_X3_head_38 hl (by decide) rfl (fun ls hl => ?_)
        refine lv_aload_n hx hb d_X3_head_40 rfl (lv_at hl 1 rfl) ?_
        refine lv_bipush (v := 21) hx hb d_X3_head_41 (by decide) ?_
        refine s_callv (X := St) (w1 := fun τ => wB cy r τ) (va_runV (As := [.int 21]) (rest := []) ⟨hx, hb, hml, hown, hg⟩ (s_X3_expect l D cy H.size w g r σ10 (21 : Int32) i10 ) (cwV 1 hg (gw_V m_903 m_905 ms_X3_expect m_3 m_906) rfl rfl rfl (by decide +kernel) ⟨(Nat.le_of_ble_eq_true rfl), (Nat.le_of_ble_eq_true rfl)⟩) (s_preVE (As := [.int 21]) (gE_ok w g) hS hA hE hP hD hK hNW 2 rfl rfl) rfl rfl hl.1 rfl (lv_room (Nat.le_of_ble_eq_true rfl)) d_X3_head_43 ⟨(Nat.le_of_ble_eq_true rfl), (Nat.le_of_ble_eq_true rfl)⟩) hP hD hS hA (fun σ11 H locs hw hP hD hS => ?_)
        have hP : va_P D vwCl (wB cy r σ11) H := hP
        have hD : va_D A (wB cy r σ11) := hD
        have ik11 : Keep [(3, 1), (3, 2), (3, 3)] [] σ10 σ11 := hw.2
        have kp : Keep [(3, 1), (3, 2), (3, 3), (3, 4)] [18, 19, 20, 21, 23] σ0 σ11 := keep_c kp ik11 (by decide) (by decide)
        have i11 : Inv σ11 := hw.1
        refine lv_aload_n hx hb d_X3_head_46 rfl (lv_at hl 1 rfl) ?_
        refine va_get (D := D) (ci := 3) (v := .int (σ11 3 2)) (C := "LinkedUnits$Grammar") (T := TX3) (N := 12) hx hb hg iwX3 hown hK hP 2 rfl rfl 2 (by decide) (hg _ m_96) (fun _ h9 => h9) rfl d_X3_head_47 ?_
        refine lv_bipush (v := 22) hx hb d_X3_head_50 (by decide) ?_
        refine lv_icmp_ne (tgt := 59) hx hb d_X3_head_52 (by decide) (fun c_52 => ?_) (fun c_52 => ?_)
        · -- taken at 52
          refine lv_iconst (v := 0) hx hb d_X3_head_59 (by decide) ?_
          refine lv_istore (lv' := [(5, .int 0), (4, .int r10), (0, .ref (r 3)), (1, .int a1), (2, .int a2), (3, .int a3)]) hx hb d_X3_head_60 hl (by decide) rfl (fun ls hl => ?_)
          refine lv_aload_n hx hb d_X3_head_62 rfl (lv_at hl 2 rfl) ?_
          refine lv_bipush (v := 47) hx hb d_X3_head_63 (by decide) ?_
          refine lv_iload_n hx hb d_X3_head_65 rfl (lv_at hl 3 rfl) ?_
          refine lv_iload hx hb d_X3_head_66 (lv_at hl 1 rfl) ?_
          refine lv_iload_n hx hb d_X3_head_68 rfl (lv_at hl 4 rfl) ?_
          refine lv_iconst (v := 1) hx hb d_X3_head_69 (by decide) ?_
          refine lv_iadd hx hb d_X3_head_70 ?_
          refine lv_bipush (v := 8) hx hb d_X3_head_71 (by decide) ?_
          refine lv_imul hx hb d_X3_head_73 ?_
          refine lv_iload_n hx hb d_X3_head_74 rfl (lv_at hl 5 rfl) ?_
          refine lv_iadd hx hb d_X3_head_75 ?_
          refine lv_iload hx hb d_X3_head_76 (lv_at hl 0 rfl) ?_
          refine lv_if_eq (tgt := 85) hx hb d_X3_head_78 (by decide) (fun _ => ?_) (fun c_78 => False.elim (by revert c_78; decide))
          refine lv_iconst (v := 0) hx hb d_X3_head_85 (by decide) ?_
          refine lv_iadd hx hb d_X3_head_86 ?_
          refine s_calli (X := St) (w1 := fun τ => wB cy r τ) (va_runV (As := [.int 47, .int a1, .int r10, .int ((((a2 + 1) * 8) + a3) + 0)]) (rest := []) ⟨hx, hb, hml, hown, hg⟩ (s_X3_add l D cy H.size w g r σ11 (47 : Int32) a1 r10 ((((a2 + 1) * 8) + a3) + 0) i11 ) (cwV 4 hg (gw_V m_923 m_925 ms_X3_add m_3 m_926) rfl rfl rfl (by decide +kernel) ⟨(Nat.le_of_ble_eq_true rfl), (Nat.le_of_ble_eq_true rfl)⟩) (s_preVE (As := [.int 47, .int a1, .int r10, .int ((((a2 + 1) * 8) + a3) + 0)]) (gE_ok w g) hS hA hE hP hD hK hNW 2 rfl rfl) rfl rfl hl.1 rfl (lv_room (Nat.le_of_ble_eq_true rfl)) d_X3_head_87 ⟨(Nat.le_of_ble_eq_true rfl), (Nat.le_of_ble_eq_true rfl)⟩) hP hD hS hA (fun r12 σ12 H locs hw hP hD hS => ?_)
          have hP : va_P D vwCl (wB cy r σ12) H := hP
          have hD : va_D A (wB cy r σ12) := hD
          have ik12 : Keep [(3, 4)] [18, 19, 20, 21] σ11 σ12 := hw.2
          have kp : Keep [(3, 1), (3, 2), (3, 3), (3, 4)] [18, 19, 20, 21, 23] σ0 σ12 := keep_c kp ik12 (by decide) (by decide)
          have i12 : Inv σ12 := hw.1
          refine lv_pop hx hb d_X3_head_90 rfl ?_
          refine lv_iload hx hb d_X3_head_91 (lv_at hl 0 rfl) ?_
          refine lv_if_ne (tgt := 102) hx hb d_X3_head_93 (by decide) (fun c_93 => absurd c_93 (by decide)) (fun _ => ?_)
          refine lv_aload_n hx hb d_X3_head_96 rfl (lv_at hl 2 rfl) ?_
          refine lv_bipush (v := 27) hx hb d_X3_head_97 (by decide) ?_
          refine s_callv (X := St) (w1 := fun τ => wB cy r τ) (va_runV (As := [.int 27]) (rest := []) ⟨hx, hb, hml, hown, hg⟩ (s_X3_expect l D cy H.size w g r σ12 (27 : Int32) i12 ) (cwV 1 hg (gw_V m_903 m_905 ms_X3_expect m_3 m_906) rfl rfl rfl (by decide +kernel) ⟨(Nat.le_of_ble_eq_true rfl), (Nat.le_of_ble_eq_true rfl)⟩) (s_preVE (As := [.int 27]) (gE_ok w g) hS hA hE hP hD hK hNW 2 rfl rfl) rfl rfl hl.1 rfl (lv_room (Nat.le_of_ble_eq_true rfl)) d_X3_head_99 ⟨(Nat.le_of_ble_eq_true rfl), (Nat.le_of_ble_eq_true rfl)⟩) hP hD hS hA (fun σ13 H locs hw hP hD hS => ?_)
          have hP : va_P D vwCl (wB cy r σ13) H := hP
          have hD : va_D A (wB cy r σ13) := hD
          have ik13 : Keep [(3, 1), (3, 2), (3, 3)] [] σ12 σ13 := hw.2
          have kp : Keep [(3, 1), (3, 2), (3, 3), (3, 4)] [18, 19, 20, 21, 23] σ0 σ13 := keep_c kp ik13 (by decide) (by decide)
          have i13 : Inv σ13 := hw.1
          refine lv_iconst (v := 0) hx hb d_X3_head_102 (by decide) ?_
          refine lv_istore (lv' := [(6, .int 0), (5, .int 0), (4, .int r10), (0, .ref (r 3)), (1, .int a1), (2, .int a2), (3, .int a3)]) hx hb d_X3_head_103 hl (by decide) rfl (fun ls hl => ?_)
          exact b105 _ σ13 a1 a2 a3 r10 (0 : Int32) (0 : Int32) _ _ _ rfl i13 kp (Or.inl rfl) hP hD hS (lv_sub hl [3, 4, 5, 6, 2, 1, 0] rfl)
        · -- not taken at 52
          refine lv_iconst (v := 1) hx hb d_X3_head_55 (by decide) ?_
          refine lv_goto (tgt := 60) hx hb d_X3_head_56 (by decide) ?_
          refine lv_istore (lv' := [(5, .int 1), (4, .int r10), (0, .ref (r 3)), (1, .int a1), (2, .int a2), (3, .int a3)]) hx hb d_X3_head_60 hl (by decide) rfl (fun ls hl => ?_)
          refine lv_aload_n hx hb d_X3_head_62 rfl (lv_at hl 2 rfl) ?_
          refine lv_bipush (v := 47) hx hb d_X3_head_63 (by decide) ?_
          refine lv_iload_n hx hb d_X3_head_65 rfl (lv_at hl 3 rfl) ?_
          refine lv_iload hx hb d_X3_head_66 (lv_at hl 1 rfl) ?_
          refine lv_iload_n hx hb d_X3_head_68 rfl (lv_at hl 4 rfl) ?_
          refine lv_iconst (v := 1) hx hb d_X3_head_69 (by decide) ?_
          refine lv_iadd hx hb d_X3_head_70 ?_
          refine lv_bipush (v := 8) hx hb d_X3_head_71 (by decide) ?_
          refine lv_imul hx hb d_X3_head_73 ?_
          refine lv_iload_n hx hb d_X3_head_74 rfl (lv_at hl 5 rfl) ?_
          refine lv_iadd hx hb d_X3_head_75 ?_
          refine lv_iload hx hb d_X3_head_76 (lv_at hl 0 rfl) ?_
          refine lv_if_eq (tgt := 85) hx hb d_X3_head_78 (by decide) (fun c_78 => absurd c_78 (by decide)) (fun _ => ?_)
          refine lv_iconst (v := 4) hx hb d_X3_head_81 (by decide) ?_
          refine lv_goto (tgt := 86) hx hb d_X3_head_82 (by decide) ?_
          refine lv_iadd hx hb d_X3_head_86 ?_
          refine s_calli (X := St) (w1 := fun τ => wB cy r τ) (va_runV (As := [.int 47, .int a1, .int r10, .int ((((a2 + 1) * 8) + a3) + 4)]) (rest := []) ⟨hx, hb, hml, hown, hg⟩ (s_X3_add l D cy H.size w g r σ11 (47 : Int32) a1 r10 ((((a2 + 1) * 8) + a3) + 4) i11 ) (cwV 4 hg (gw_V m_923 m_925 ms_X3_add m_3 m_926) rfl rfl rfl (by decide +kernel) ⟨(Nat.le_of_ble_eq_true rfl), (Nat.le_of_ble_eq_true rfl)⟩) (s_preVE (As := [.int 47, .int a1, .int r10, .int ((((a2 + 1) * 8) + a3) + 4)]) (gE_ok w g) hS hA hE hP hD hK hNW 2 rfl rfl) rfl rfl hl.1 rfl (lv_room (Nat.le_of_ble_eq_true rfl)) d_X3_head_87 ⟨(Nat.le_of_ble_eq_true rfl), (Nat.le_of_ble_eq_true rfl)⟩) hP hD hS hA (fun r14 σ14 H locs hw hP hD hS => ?_)
          have hP : va_P D vwCl (wB cy r σ14) H := hP
          have hD : va_D A (wB cy r σ14) := hD
          have ik14 : Keep [(3, 4)] [18, 19, 20, 21] σ11 σ14 := hw.2
          have kp : Keep [(3, 1), (3, 2), (3, 3), (3, 4)] [18, 19, 20, 21, 23] σ0 σ14 := keep_c kp ik14 (by decide) (by decide)
          have i14 : Inv σ14 := hw.1
          refine lv_pop hx hb d_X3_head_90 rfl ?_
          refine lv_iload hx hb d_X3_head_91 (lv_at hl 0 rfl) ?_
          refine lv_if_ne (tgt := 102) hx hb d_X3_head_93 (by decide) (fun _ => ?_) (fun c_93 => False.elim (by revert c_93; decide))
          refine lv_iconst (v := 0) hx hb d_X3_head_102 (by decide) ?_
          refine lv_istore (lv' := [(6, .int 0), (5, .int 1), (4, .int r10), (0, .ref (r 3)), (1, .int a1), (2, .int a2), (3, .int a3)]) hx hb d_X3_head_103 hl (by decide) rfl (fun ls hl => ?_)
          exact b105 _ σ14 a1 a2 a3 r10 (1 : Int32) (0 : Int32) _ _ _ rfl i14 kp (Or.inr rfl) hP hD hS (lv_sub hl [3, 4, 5, 6, 2, 1, 0] rfl)
    · -- not taken at 15
      refine lv_aload_n hx hb d_X3_head_18 rfl (lv_at hl 1 rfl) ?_
      refine s_callv (X := St) (w1 := fun τ => wB cy r τ) (va_runV (As := []) (rest := []) ⟨hx, hb, hml, hown, hg⟩ (s_X3_advance l D cy H.size w g r σ5  i5 ) (cwV 0 hg (gw_V m_899 m_901 ms_X3_advance m_3 m_902) rfl rfl rfl (by decide +kernel) ⟨(Nat.le_of_ble_eq_true rfl), (Nat.le_of_ble_eq_true rfl)⟩) (s_preVE (As := []) (gE_ok w g) hS hA hE hP hD hK hNW 2 rfl rfl) rfl rfl hl.1 rfl (lv_room (Nat.le_of_ble_eq_true rfl)) d_X3_head_19 ⟨(Nat.le_of_ble_eq_true rfl), (Nat.le_of_ble_eq_true rfl)⟩) hP hD hS hA (fun σ15 H locs hw hP hD hS => ?_)
      have hP : va_P D vwCl (wB cy r σ15) H := hP
      have hD : va_D A (wB cy r σ15) := hD
      have ik15 : Keep [(3, 1), (3, 2)] [] σ5 σ15 := hw.2
      have kp : Keep [(3, 1), (3, 2), (3, 3), (3, 4)] [18, 19, 20, 21, 23] σ0 σ15 := keep_c kp ik15 (by decide) (by decide)
      have i15 : Inv σ15 := hw.1
      refine lv_goto (tgt := 40) hx hb d_X3_head_22 (by decide) ?_
      refine lv_aload_n hx hb d_X3_head_40 rfl (lv_at hl 1 rfl) ?_
      refine lv_bipush (v := 21) hx hb d_X3_head_41 (by decide) ?_
      refine s_callv (X := St) (w1 := fun τ => wB cy r τ) (va_runV (As := [.int 21]) (rest := []) ⟨hx, hb, hml, hown, hg⟩ (s_X3_expect l D cy H.size w g r σ15 (21 : Int32) i15 ) (cwV 1 hg (gw_V m_903 m_905 ms_X3_expect m_3 m_906) rfl rfl rfl (by decide +kernel) ⟨(Nat.le_of_ble_eq_true rfl), (Nat.le_of_ble_eq_true rfl)⟩) (s_preVE (As := [.int 21]) (gE_ok w g) hS hA hE hP hD hK hNW 2 rfl rfl) rfl rfl hl.1 rfl (lv_room (Nat.le_of_ble_eq_true rfl)) d_X3_head_43 ⟨(Nat.le_of_ble_eq_true rfl), (Nat.le_of_ble_eq_true rfl)⟩) hP hD hS hA (fun σ16 H locs hw hP hD hS => ?_)
      have hP : va_P D vwCl (wB cy r σ16) H := hP
      have hD : va_D A (wB cy r σ16) := hD
      have ik16 : Keep [(3, 1), (3, 2), (3, 3)] [] σ15 σ16 := hw.2
      have kp : Keep [(3, 1), (3, 2), (3, 3), (3, 4)] [18, 19, 20, 21, 23] σ0 σ16 := keep_c kp ik16 (by decide) (by decide)
      have i16 : Inv σ16 := hw.1
      refine lv_aload_n hx hb d_X3_head_46 rfl (lv_at hl 1 rfl) ?_
      refine va_get (D := D) (ci := 3) (v := .int (σ16 3 2)) (C := "LinkedUnits$Grammar") (T := TX3) (N := 12) hx hb hg iwX3 hown hK hP 2 rfl rfl 2 (by decide) (hg _ m_96) (fun _ h9 => h9) rfl d_X3_head_47 ?_
      refine lv_bipush (v := 22) hx hb d_X3_head_50 (by decide) ?_
      refine lv_icmp_ne (tgt := 59) hx hb d_X3_head_52 (by decide) (fun c_52 => ?_) (fun c_52 => ?_)
      · -- taken at 52
        refine lv_iconst (v := 0) hx hb d_X3_head_59 (by decide) ?_
        refine lv_istore (lv' := [(5, .int 0), (4, .int 0), (0, .ref (r 3)), (1, .int a1), (2, .int a2), (3, .int a3)]) hx hb d_X3_head_60 hl (by decide) rfl (fun ls hl => ?_)
        refine lv_aload_n hx hb d_X3_head_62 rfl (lv_at hl 2 rfl) ?_
        refine lv_bipush (v := 47) hx hb d_X3_head_63 (by decide) ?_
        refine lv_iload_n hx hb d_X3_head_65 rfl (lv_at hl 3 rfl) ?_
        refine lv_iload hx hb d_X3_head_66 (lv_at hl 1 rfl) ?_
        refine lv_iload_n hx hb d_X3_head_68 rfl (lv_at hl 4 rfl) ?_
        refine lv_iconst (v := 1) hx hb d_X3_head_69 (by decide) ?_
        refine lv_iadd hx hb d_X3_head_70 ?_
        refine lv_bipush (v := 8) hx hb d_X3_head_71 (by decide) ?_
        refine lv_imul hx hb d_X3_head_73 ?_
        refine lv_iload_n hx hb d_X3_head_74 rfl (lv_at hl 5 rfl) ?_
        refine lv_iadd hx hb d_X3_head_75 ?_
        refine lv_iload hx hb d_X3_head_76 (lv_at hl 0 rfl) ?_
        refine lv_if_eq (tgt := 85) hx hb d_X3_head_78 (by decide) (fun _ => ?_) (fun c_78 => False.elim (by revert c_78; decide))
        refine lv_iconst (v := 0) hx hb d_X3_head_85 (by decide) ?_
        refine lv_iadd hx hb d_X3_head_86 ?_
        refine s_calli (X := St) (w1 := fun τ => wB cy r τ) (va_runV (As := [.int 47, .int a1, .int 0, .int ((((a2 + 1) * 8) + a3) + 0)]) (rest := []) ⟨hx, hb, hml, hown, hg⟩ (s_X3_add l D cy H.size w g r σ16 (47 : Int32) a1 (0 : Int32) ((((a2 + 1) * 8) + a3) + 0) i16 ) (cwV 4 hg (gw_V m_923 m_925 ms_X3_add m_3 m_926) rfl rfl rfl (by decide +kernel) ⟨(Nat.le_of_ble_eq_true rfl), (Nat.le_of_ble_eq_true rfl)⟩) (s_preVE (As := [.int 47, .int a1, .int 0, .int ((((a2 + 1) * 8) + a3) + 0)]) (gE_ok w g) hS hA hE hP hD hK hNW 2 rfl rfl) rfl rfl hl.1 rfl (lv_room (Nat.le_of_ble_eq_true rfl)) d_X3_head_87 ⟨(Nat.le_of_ble_eq_true rfl), (Nat.le_of_ble_eq_true rfl)⟩) hP hD hS hA (fun r17 σ17 H locs hw hP hD hS => ?_)
        have hP : va_P D vwCl (wB cy r σ17) H := hP
        have hD : va_D A (wB cy r σ17) := hD
        have ik17 : Keep [(3, 4)] [18, 19, 20, 21] σ16 σ17 := hw.2
        have kp : Keep [(3, 1), (3, 2), (3, 3), (3, 4)] [18, 19, 20, 21, 23] σ0 σ17 := keep_c kp ik17 (by decide) (by decide)
        have i17 : Inv σ17 := hw.1
        refine lv_pop hx hb d_X3_head_90 rfl ?_
        refine lv_iload hx hb d_X3_head_91 (lv_at hl 0 rfl) ?_
        refine lv_if_ne (tgt := 102) hx hb d_X3_head_93 (by decide) (fun c_93 => absurd c_93 (by decide)) (fun _ => ?_)
        refine lv_aload_n hx hb d_X3_head_96 rfl (lv_at hl 2 rfl) ?_
        refine lv_bipush (v := 27) hx hb d_X3_head_97 (by decide) ?_
        refine s_callv (X := St) (w1 := fun τ => wB cy r τ) (va_runV (As := [.int 27]) (rest := []) ⟨hx, hb, hml, hown, hg⟩ (s_X3_expect l D cy H.size w g r σ17 (27 : Int32) i17 ) (cwV 1 hg (gw_V m_903 m_905 ms_X3_expect m_3 m_906) rfl rfl rfl (by decide +kernel) ⟨(Nat.le_of_ble_eq_true rfl), (Nat.le_of_ble_eq_true rfl)⟩) (s_preVE (As := [.int 27]) (gE_ok w g) hS hA hE hP hD hK hNW 2 rfl rfl) rfl rfl hl.1 rfl (lv_room (Nat.le_of_ble_eq_true rfl)) d_X3_head_99 ⟨(Nat.le_of_ble_eq_true rfl), (Nat.le_of_ble_eq_true rfl)⟩) hP hD hS hA (fun σ18 H locs hw hP hD hS => ?_)
        have hP : va_P D vwCl (wB cy r σ18) H := hP
        have hD : va_D A (wB cy r σ18) := hD
        have ik18 : Keep [(3, 1), (3, 2), (3, 3)] [] σ17 σ18 := hw.2
        have kp : Keep [(3, 1), (3, 2), (3, 3), (3, 4)] [18, 19, 20, 21, 23] σ0 σ18 := keep_c kp ik18 (by decide) (by decide)
        have i18 : Inv σ18 := hw.1
        refine lv_iconst (v := 0) hx hb d_X3_head_102 (by decide) ?_
        refine lv_istore (lv' := [(6, .int 0), (5, .int 0), (4, .int 0), (0, .ref (r 3)), (1, .int a1), (2, .int a2), (3, .int a3)]) hx hb d_X3_head_103 hl (by decide) rfl (fun ls hl => ?_)
        exact b105 _ σ18 a1 a2 a3 (0 : Int32) (0 : Int32) (0 : Int32) _ _ _ rfl i18 kp (Or.inl rfl) hP hD hS (lv_sub hl [3, 4, 5, 6, 2, 1, 0] rfl)
      · -- not taken at 52
        refine lv_iconst (v := 1) hx hb d_X3_head_55 (by decide) ?_
        refine lv_goto (tgt := 60) hx hb d_X3_head_56 (by decide) ?_
        refine lv_istore (lv' := [(5, .int 1), (4, .int 0), (0, .ref (r 3)), (1, .int a1), (2, .int a2), (3, .int a3)]) hx hb d_X3_head_60 hl (by decide) rfl (fun ls hl => ?_)
        refine lv_aload_n hx hb d_X3_head_62 rfl (lv_at hl 2 rfl) ?_
        refine lv_bipush (v := 47) hx hb d_X3_head_63 (by decide) ?_
        refine lv_iload_n hx hb d_X3_head_65 rfl (lv_at hl 3 rfl) ?_
        refine lv_iload hx hb d_X3_head_66 (lv_at hl 1 rfl) ?_
        refine lv_iload_n hx hb d_X3_head_68 rfl (lv_at hl 4 rfl) ?_
        refine lv_iconst (v := 1) hx hb d_X3_head_69 (by decide) ?_
        refine lv_iadd hx hb d_X3_head_70 ?_
        refine lv_bipush (v := 8) hx hb d_X3_head_71 (by decide) ?_
        refine lv_imul hx hb d_X3_head_73 ?_
        refine lv_iload_n hx hb d_X3_head_74 rfl (lv_at hl 5 rfl) ?_
        refine lv_iadd hx hb d_X3_head_75 ?_
        refine lv_iload hx hb d_X3_head_76 (lv_at hl 0 rfl) ?_
        refine lv_if_eq (tgt := 85) hx hb d_X3_head_78 (by decide) (fun c_78 => absurd c_78 (by decide)) (fun _ => ?_)
        refine lv_iconst (v := 4) hx hb d_X3_head_81 (by decide) ?_
        refine lv_goto (tgt := 86) hx hb d_X3_head_82 (by decide) ?_
        refine lv_iadd hx hb d_X3_head_86 ?_
        refine s_calli (X := St) (w1 := fun τ => wB cy r τ) (va_runV (As := [.int 47, .int a1, .int 0, .int ((((a2 + 1) * 8) + a3) + 4)]) (rest := []) ⟨hx, hb, hml, hown, hg⟩ (s_X3_add l D cy H.size w g r σ16 (47 : Int32) a1 (0 : Int32) ((((a2 + 1) * 8) + a3) + 4) i16 ) (cwV 4 hg (gw_V m_923 m_925 ms_X3_add m_3 m_926) rfl rfl rfl (by decide +kernel) ⟨(Nat.le_of_ble_eq_true rfl), (Nat.le_of_ble_eq_true rfl)⟩) (s_preVE (As := [.int 47, .int a1, .int 0, .int ((((a2 + 1) * 8) + a3) + 4)]) (gE_ok w g) hS hA hE hP hD hK hNW 2 rfl rfl) rfl rfl hl.1 rfl (lv_room (Nat.le_of_ble_eq_true rfl)) d_X3_head_87 ⟨(Nat.le_of_ble_eq_true rfl), (Nat.le_of_ble_eq_true rfl)⟩) hP hD hS hA (fun r19 σ19 H locs hw hP hD hS => ?_)
        have hP : va_P D vwCl (wB cy r σ19) H := hP
        have hD : va_D A (wB cy r σ19) := hD
        have ik19 : Keep [(3, 4)] [18, 19, 20, 21] σ16 σ19 := hw.2
        have kp : Keep [(3, 1), (3, 2), (3, 3), (3, 4)] [18, 19, 20, 21, 23] σ0 σ19 := keep_c kp ik19 (by decide) (by decide)
        have i19 : Inv σ19 := hw.1
        refine lv_pop hx hb d_X3_head_90 rfl ?_
        refine lv_iload hx hb d_X3_head_91 (lv_at hl 0 rfl) ?_
        refine lv_if_ne (tgt := 102) hx hb d_X3_head_93 (by decide) (fun _ => ?_) (fun c_93 => False.elim (by revert c_93; decide))
        refine lv_iconst (v := 0) hx hb d_X3_head_102 (by decide) ?_
        refine lv_istore (lv' := [(6, .int 0), (5, .int 1), (4, .int 0), (0, .ref (r 3)), (1, .int a1), (2, .int a2), (3, .int a3)]) hx hb d_X3_head_103 hl (by decide) rfl (fun ls hl => ?_)
        exact b105 _ σ19 a1 a2 a3 (0 : Int32) (1 : Int32) (0 : Int32) _ _ _ rfl i19 kp (Or.inr rfl) hP hD hS (lv_sub hl [3, 4, 5, 6, 2, 1, 0] rfl)
  rw [hH] at hgoal
  exact hgoal
