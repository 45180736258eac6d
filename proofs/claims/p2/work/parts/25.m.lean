set_option maxHeartbeats 4000000 in
set_option maxRecDepth 100000 in
theorem s_X4_fill_r10_r62 (l : Launch) (D : va_G) (cy : Nat → ClassId) (sz : Nat) (w : Nat → Nat) (g : Nat → Nat → Int32) (r : Nat → Nat) (σ0 : St) (i0 : Inv σ0) : Met l y_X4_fill (Cond.code y_X4_fill b_X4_fill 8 none :: GW) ({ frames := 1, cells := 0, slots := 0, locals := 22 } : Room) (va_Pc [.ref (r 10), .ref (r 62)] (kPreE D cy sz (wB cy r σ0) (gE w g))) ((fun A : Nat → Prop => va_Qv (S := St) (fun (τ : St) => (Inv τ ∧ Keep [] [62] σ0 τ)) (fun τ => kPost D cy A (wB cy r τ)) A) (va_A (wB cy r σ0) sz)) 0 0 (va_A (wB cy r σ0) sz) := by
  refine k_ofWE (Qc := fun A => va_Qv (S := St) (fun (τ : St) => (Inv τ ∧ Keep [] [62] σ0 τ)) (fun τ => kPost D cy A (wB cy r τ)) A) (by decide) (Nat.le_of_ble_eq_true rfl) ?_
  intro p e s m below meth c A ls hx hb hr hml hown hlocks hin hg hNW hK hP hD hA hS hl hE
  have hl : lv_has ls 8 [(0, .ref (r 10)), (1, .ref (r 62))] := hl
  have hown : s.vm.findClass "LinkedUnits$Image" = some m.cls := hown
  have b2 : ∀ (N : Nat) (σ : St) (x2 : Int32) (H : Heap) (locs : List Loc) (ls : Array Slot), upm x2 = N → Inv σ → Keep [] [62] σ0 σ → va_P D vwCl (wB cy r σ) H → va_D A (wB cy r σ) → va_S A s.heap H locs → lv_has ls 8 [(0, .ref (r 10)), (1, .ref (r 62)), (2, .int x2)] → W p l e ({ frames := 1, cells := 0, slots := 0, locals := 22 } : Room) s m (([.ref (r 10), .ref (r 62)] : List Value).toArray) below meth c H locs 0 0 (MQ below (va_Qv (S := St) (fun (τ : St) => (Inv τ ∧ Keep [] [62] σ0 τ)) (fun τ => kPost D cy A (wB cy r τ)) A) (([.ref (r 10), .ref (r 62)] : List Value).toArray) s 0 0 A) (F0 m 2 ls []) := by
    intro M2
    induction M2 using Nat.strongRecOn with
    | _ M2 ih2 =>
      intro σ x2 H locs ls N2 inv kp hP hD hS hl
      have b34 : ∀ (N : Nat) (σ : St) (x2 : Int32) (x3 : Int32) (x4 : Int32) (H : Heap) (locs : List Loc) (ls : Array Slot), upm x4 = N → Inv σ → Keep [] [62] σ0 σ → upm (x2 + 1) < M2 → va_P D vwCl (wB cy r σ) H → va_D A (wB cy r σ) → va_S A s.heap H locs → lv_has ls 8 [(0, .ref (r 10)), (1, .ref (r 62)), (2, .int x2), (3, .int x3), (4, .int x4)] → W p l e ({ frames := 1, cells := 0, slots := 0, locals := 22 } : Room) s m (([.ref (r 10), .ref (r 62)] : List Value).toArray) below meth c H locs 0 0 (MQ below (va_Qv (S := St) (fun (τ : St) => (Inv τ ∧ Keep [] [62] σ0 τ)) (fun τ => kPost D cy A (wB cy r τ)) A) (([.ref (r 10), .ref (r 62)] : List Value).toArray) s 0 0 A) (F0 m 34 ls []) := by
        intro M34
        induction M34 using Nat.strongRecOn with
        | _ M34 ih34 =>
          intro σ x2 x3 x4 H locs ls N34 inv kp g2 hP hD hS hl
          refine lv_iload hx hb d_X4_fill_34 (lv_at hl 4 rfl) ?_
          refine lv_aload_n hx hb d_X4_fill_36 rfl (lv_at hl 0 rfl) ?_
          refine va_get (D := D) (ci := 4) (v := .ref (r 5)) (C := "LinkedUnits$Image") (T := TX4) (N := 12) hx hb hg iwX4 hown hK hP 9 rfl rfl 0 (by decide) (hg _ m_597) (fun _ h9 => h9) rfl d_X4_fill_37 ?_
          refine va_getN (D := D) (ci := 8) (v := .ref (r 35)) (C := "LinkedUnits$Store") (T := TX8) (N := 18) hx hb hg iwX8 hown hK hP 4 rfl rfl 15 (by decide) (va_Nw.use rfl (hNW.1 _ nm_255)) (fun _ h9 => h9) rfl d_X4_fill_40 ?_
          refine lv_iload_n hx hb d_X4_fill_43 rfl (lv_at hl 3 rfl) ?_
          refine s_call1 (x := ((r 35), .inl (cy 1, 101, .inl (σ 35)))) 34 rfl (va_runSN (As := [.ref (r 35), .int x3]) (rest := [.int x4]) ⟨hx, hb, hml, hown, hg⟩ (c_at_any l D cy H.size (r 35) 101 (σ 35) x3 (Nat.le_of_ble_eq_true rfl)) ⟨(va_cnB 2 hg (gw_c m_949) rfl rfl rfl (hNW.1 _ nm_1552) (hg _ m_1) (by decide +kernel) ⟨(Nat.le_of_ble_eq_true rfl), (Nat.le_of_ble_eq_true rfl)⟩), hg _ m_948, trivial⟩ (s_pre (ws := [((r 35), .inl (cy 1, 101, .inl (σ 35)))]) (s_sub1 34 hP rfl) (s_subD 34 hD rfl) hK hNW) rfl rfl hl.1 rfl (lv_room (Nat.le_of_ble_eq_true rfl)) d_X4_fill_44 ⟨(Nat.le_of_ble_eq_true rfl), (Nat.le_of_ble_eq_true rfl)⟩) hP hD hS hA (fun r1 u1 H locs hw hP hD hS => ?_)
          have hP : va_P D vwCl (wB cy r σ) H := hP
          have hD : va_D A (wB cy r σ) := hD
          refine lv_icmp_ge (tgt := 153) hx hb d_X4_fill_47 (by decide) (fun c_47 => ?_) (fun c_47 => ?_)
          · -- taken at 47
            refine lv_iinc (v := (x2 + 1)) (lv' := [(2, .int (x2 + 1)), (0, .ref (r 10)), (1, .ref (r 62)), (3, .int x3), (4, .int x4)]) hx hb d_X4_fill_153 hl (k := 2) rfl rfl (by decide) rfl (fun ls hl => ?_)
            refine lv_goto (tgt := 2) hx hb d_X4_fill_156 (by decide) ?_
            exact ih2 _ g2 σ (x2 + 1) _ _ _ rfl inv kp hP hD hS (lv_sub hl [1, 2, 0] rfl)
          · -- not taken at 47
            refine lv_aload_n hx hb d_X4_fill_50 rfl (lv_at hl 0 rfl) ?_
            refine va_get (D := D) (ci := 4) (v := .ref (r 5)) (C := "LinkedUnits$Image") (T := TX4) (N := 12) hx hb hg iwX4 hown hK hP 9 rfl rfl 0 (by decide) (hg _ m_597) (fun _ h9 => h9) rfl d_X4_fill_51 ?_
            refine va_getN (D := D) (ci := 8) (v := .ref (r 32)) (C := "LinkedUnits$Store") (T := TX8) (N := 18) hx hb hg iwX8 hown hK hP 4 rfl rfl 11 (by decide) (va_Nw.use rfl (hNW.1 _ nm_246)) (fun _ h9 => h9) rfl d_X4_fill_54 ?_
            refine lv_iload hx hb d_X4_fill_57 (lv_at hl 4 rfl) ?_
            refine s_call1 (x := ((r 32), .inl (cy 1, 65536, .inl (σ 32)))) 31 rfl (va_runSN (As := [.ref (r 32), .int x4]) (rest := []) ⟨hx, hb, hml, hown, hg⟩ (c_at_any l D cy H.size (r 32) 65536 (σ 32) x4 (Nat.le_of_ble_eq_true rfl)) ⟨(va_cnB 2 hg (gw_c m_949) rfl rfl rfl (hNW.1 _ nm_1552) (hg _ m_1) (by decide +kernel) ⟨(Nat.le_of_ble_eq_true rfl), (Nat.le_of_ble_eq_true rfl)⟩), hg _ m_948, trivial⟩ (s_pre (ws := [((r 32), .inl (cy 1, 65536, .inl (σ 32)))]) (s_sub1 31 hP rfl) (s_subD 31 hD rfl) hK hNW) rfl rfl hl.1 rfl (lv_room (Nat.le_of_ble_eq_true rfl)) d_X4_fill_59 ⟨(Nat.le_of_ble_eq_true rfl), (Nat.le_of_ble_eq_true rfl)⟩) hP hD hS hA (fun r2 u2 H locs hw hP hD hS => ?_)
            have hP : va_P D vwCl (wB cy r σ) H := hP
            have hD : va_D A (wB cy r σ) := hD
            refine lv_istore (lv' := [(5, .int r2), (0, .ref (r 10)), (1, .ref (r 62)), (2, .int x2), (3, .int x3), (4, .int x4)]) hx hb d_X4_fill_62 hl (by decide) rfl (fun ls hl => ?_)
            refine lv_iload hx hb d_X4_fill_64 (lv_at hl 0 rfl) ?_
            refine lv_bipush (v := (-2)) hx hb d_X4_fill_66 (by decide) ?_
            refine lv_icmp_ne (tgt := 75) hx hb d_X4_fill_68 (by decide) (fun c_68 => ?_) (fun c_68 => ?_)
            · -- taken at 68
              refine lv_iload hx hb d_X4_fill_75 (lv_at hl 0 rfl) ?_
              refine lv_iconst (v := (-1)) hx hb d_X4_fill_77 (by decide) ?_
              refine lv_icmp_ne (tgt := 92) hx hb d_X4_fill_78 (by decide) (fun c_78 => ?_) (fun c_78 => ?_)
              · -- taken at 78
                refine lv_aload_n hx hb d_X4_fill_92 rfl (lv_at hl 1 rfl) ?_
                refine va_get (D := D) (ci := 4) (v := .ref (r 59)) (C := "LinkedUnits$Image") (T := TX4) (N := 12) hx hb hg iwX4 hown hK hP 9 rfl rfl 10 (by decide) (hg _ m_611) (fun _ h9 => h9) rfl d_X4_fill_93 ?_
                refine lv_iload hx hb d_X4_fill_96 (lv_at hl 0 rfl) ?_
                refine s_call1 (x := ((r 59), .inl (cy 1, 10100, .inl (σ 59)))) 56 rfl (va_runSN (As := [.ref (r 59), .int r2]) (rest := []) ⟨hx, hb, hml, hown, hg⟩ (c_at_any l D cy H.size (r 59) 10100 (σ 59) r2 (Nat.le_of_ble_eq_true rfl)) ⟨(va_cnB 2 hg (gw_c m_949) rfl rfl rfl (hNW.1 _ nm_1552) (hg _ m_1) (by decide +kernel) ⟨(Nat.le_of_ble_eq_true rfl), (Nat.le_of_ble_eq_true rfl)⟩), hg _ m_948, trivial⟩ (s_pre (ws := [((r 59), .inl (cy 1, 10100, .inl (σ 59)))]) (s_sub1 56 hP rfl) (s_subD 56 hD rfl) hK hNW) rfl rfl hl.1 rfl (lv_room (Nat.le_of_ble_eq_true rfl)) d_X4_fill_98 ⟨(Nat.le_of_ble_eq_true rfl), (Nat.le_of_ble_eq_true rfl)⟩) hP hD hS hA (fun r3 u3 H locs hw hP hD hS => ?_)
                have hP : va_P D vwCl (wB cy r σ) H := hP
                have hD : va_D A (wB cy r σ) := hD
                refine lv_istore (lv' := [(6, .int r3), (5, .int r2), (0, .ref (r 10)), (1, .ref (r 62)), (2, .int x2), (3, .int x3), (4, .int x4)]) hx hb d_X4_fill_101 hl (by decide) rfl (fun ls hl => ?_)
                refine lv_aload_n hx hb d_X4_fill_103 rfl (lv_at hl 2 rfl) ?_
                refine va_get (D := D) (ci := 4) (v := .ref (r 58)) (C := "LinkedUnits$Image") (T := TX4) (N := 12) hx hb hg iwX4 hown hK hP 9 rfl rfl 9 (by decide) (hg _ m_609) (fun _ h9 => h9) rfl d_X4_fill_104 ?_
                refine lv_iload_n hx hb d_X4_fill_107 rfl (lv_at hl 5 rfl) ?_
                refine s_call1 (x := ((r 58), .inl (cy 1, 101, .inl (σ 58)))) 55 rfl (va_runSN (As := [.ref (r 58), .int x3]) (rest := []) ⟨hx, hb, hml, hown, hg⟩ (c_at_any l D cy H.size (r 58) 101 (σ 58) x3 (Nat.le_of_ble_eq_true rfl)) ⟨(va_cnB 2 hg (gw_c m_949) rfl rfl rfl (hNW.1 _ nm_1552) (hg _ m_1) (by decide +kernel) ⟨(Nat.le_of_ble_eq_true rfl), (Nat.le_of_ble_eq_true rfl)⟩), hg _ m_948, trivial⟩ (s_pre (ws := [((r 58), .inl (cy 1, 101, .inl (σ 58)))]) (s_sub1 55 hP rfl) (s_subD 55 hD rfl) hK hNW) rfl rfl hl.1 rfl (lv_room (Nat.le_of_ble_eq_true rfl)) d_X4_fill_108 ⟨(Nat.le_of_ble_eq_true rfl), (Nat.le_of_ble_eq_true rfl)⟩) hP hD hS hA (fun r4 u4 H locs hw hP hD hS => ?_)
                have hP : va_P D vwCl (wB cy r σ) H := hP
                have hD : va_D A (wB cy r σ) := hD
                refine lv_aload_n hx hb d_X4_fill_111 rfl (lv_at hl 2 rfl) ?_
                refine va_get (D := D) (ci := 4) (v := .ref (r 5)) (C := "LinkedUnits$Image") (T := TX4) (N := 12) hx hb hg iwX4 hown hK hP 9 rfl rfl 0 (by decide) (hg _ m_597) (fun _ h9 => h9) rfl d_X4_fill_112 ?_
                refine va_getN (D := D) (ci := 8) (v := .ref (r 31)) (C := "LinkedUnits$Store") (T := TX8) (N := 18) hx hb hg iwX8 hown hK hP 4 rfl rfl 10 (by decide) (va_Nw.use rfl (hNW.1 _ nm_244)) (fun _ h9 => h9) rfl d_X4_fill_115 ?_
                refine lv_iload hx hb d_X4_fill_118 (lv_at hl 6 rfl) ?_
                refine s_call1 (x := ((r 31), .inl (cy 1, 65536, .inl (σ 31)))) 30 rfl (va_runSN (As := [.ref (r 31), .int x4]) (rest := [.int r4]) ⟨hx, hb, hml, hown, hg⟩ (c_at_any l D cy H.size (r 31) 65536 (σ 31) x4 (Nat.le_of_ble_eq_true rfl)) ⟨(va_cnB 2 hg (gw_c m_949) rfl rfl rfl (hNW.1 _ nm_1552) (hg _ m_1) (by decide +kernel) ⟨(Nat.le_of_ble_eq_true rfl), (Nat.le_of_ble_eq_true rfl)⟩), hg _ m_948, trivial⟩ (s_pre (ws := [((r 31), .inl (cy 1, 65536, .inl (σ 31)))]) (s_sub1 30 hP rfl) (s_subD 30 hD rfl) hK hNW) rfl rfl hl.1 rfl (lv_room (Nat.le_of_ble_eq_true rfl)) d_X4_fill_120 ⟨(Nat.le_of_ble_eq_true rfl), (Nat.le_of_ble_eq_true rfl)⟩) hP hD hS hA (fun r5 u5 H locs hw hP hD hS => ?_)
                have hP : va_P D vwCl (wB cy r σ) H := hP
                have hD : va_D A (wB cy r σ) := hD
                refine lv_iadd hx hb d_X4_fill_123 ?_
                refine lv_istore (lv' := [(7, .int (r4 + r5)), (6, .int r3), (5, .int r2), (0, .ref (r 10)), (1, .ref (r 62)), (2, .int x2), (3, .int x3), (4, .int x4)]) hx hb d_X4_fill_124 hl (by decide) rfl (fun ls hl => ?_)
                refine lv_aload_n hx hb d_X4_fill_126 rfl (lv_at hl 4 rfl) ?_
                refine lv_iload hx hb d_X4_fill_127 (lv_at hl 0 rfl) ?_
                refine lv_iload hx hb d_X4_fill_129 (lv_at hl 1 rfl) ?_
                refine lv_aload_n hx hb d_X4_fill_131 rfl (lv_at hl 3 rfl) ?_
                refine va_get (D := D) (ci := 4) (v := .ref (r 5)) (C := "LinkedUnits$Image") (T := TX4) (N := 12) hx hb hg iwX4 hown hK hP 9 rfl rfl 0 (by decide) (hg _ m_597) (fun _ h9 => h9) rfl d_X4_fill_132 ?_
                refine va_getN (D := D) (ci := 8) (v := .ref (r 33)) (C := "LinkedUnits$Store") (T := TX8) (N := 18) hx hb hg iwX8 hown hK hP 4 rfl rfl 12 (by decide) (va_Nw.use rfl (hNW.1 _ nm_248)) (fun _ h9 => h9) rfl d_X4_fill_135 ?_
                refine lv_iload hx hb d_X4_fill_138 (lv_at hl 7 rfl) ?_
                refine s_call1 (x := ((r 33), .inl (cy 1, 65536, .inl (σ 33)))) 32 rfl (va_runSN (As := [.ref (r 33), .int x4]) (rest := [.int r3, .int (r4 + r5), .ref (r 62)]) ⟨hx, hb, hml, hown, hg⟩ (c_at_any l D cy H.size (r 33) 65536 (σ 33) x4 (Nat.le_of_ble_eq_true rfl)) ⟨(va_cnB 2 hg (gw_c m_949) rfl rfl rfl (hNW.1 _ nm_1552) (hg _ m_1) (by decide +kernel) ⟨(Nat.le_of_ble_eq_true rfl), (Nat.le_of_ble_eq_true rfl)⟩), hg _ m_948, trivial⟩ (s_pre (ws := [((r 33), .inl (cy 1, 65536, .inl (σ 33)))]) (s_sub1 32 hP rfl) (s_subD 32 hD rfl) hK hNW) rfl rfl hl.1 rfl (lv_room (Nat.le_of_ble_eq_true rfl)) d_X4_fill_140 ⟨(Nat.le_of_ble_eq_true rfl), (Nat.le_of_ble_eq_true rfl)⟩) hP hD hS hA (fun r6 u6 H locs hw hP hD hS => ?_)
                have hP : va_P D vwCl (wB cy r σ) H := hP
                have hD : va_D A (wB cy r σ) := hD
                refine lv_iadd hx hb d_X4_fill_143 ?_
                refine s_set1 (X := Nat → Int32) (w := fun g => .inl (cy 1, 32768, .inl g)) 59 rfl (va_runSN (As := [.ref (r 62), .int (r4 + r5), .int (r3 + r6)]) (rest := []) ⟨hx, hb, hml, hown, hg⟩ (c_set_any l D cy H.size (r 62) 32768 (σ 62) (r4 + r5) (r3 + r6) (Nat.le_of_ble_eq_true rfl)) ⟨(va_cnB 3 hg (gw_c m_981) rfl rfl rfl (hNW.1 _ nm_1553) (hg _ m_1) (by decide +kernel) ⟨(Nat.le_of_ble_eq_true rfl), (Nat.le_of_ble_eq_true rfl)⟩), hg _ m_980, trivial⟩ (s_pre (ws := [((r 62), .inl (cy 1, 32768, .inl (σ 62)))]) (s_sub1 59 hP rfl) (s_subD 59 hD rfl) hK hNW) rfl rfl hl.1 rfl (lv_room (Nat.le_of_ble_eq_true rfl)) d_X4_fill_144 ⟨(Nat.le_of_ble_eq_true rfl), (Nat.le_of_ble_eq_true rfl)⟩) hP hD hS hA (fun g7 H locs hw hP hD hS => ?_)
                have hP : va_P D vwCl (wB cy r (upF σ 62 g7)) H := hP
                have hD : va_D A (wB cy r (upF σ 62 g7)) := hD
                have kp : Keep [] [62] σ0 (upF σ 62 g7) := keep_a kp (by decide)
                refine lv_iinc (v := (x4 + 1)) (lv' := [(4, .int (x4 + 1)), (7, .int (r4 + r5)), (6, .int r3), (5, .int r2), (0, .ref (r 10)), (1, .ref (r 62)), (2, .int x2), (3, .int x3)]) hx hb d_X4_fill_147 hl (k := 7) rfl rfl (by decide) rfl (fun ls hl => ?_)
                refine lv_goto (tgt := 34) hx hb d_X4_fill_150 (by decide) ?_
                exact ih34 _ (Nat.lt_of_lt_of_eq (upm_lt c_47) N34) (upF σ 62 g7) x2 x3 (x4 + 1) _ _ _ rfl inv kp g2 hP hD hS (lv_sub hl [4, 5, 6, 7, 0] rfl)
              · -- not taken at 78
                refine lv_aload_n hx hb d_X4_fill_81 rfl (lv_at hl 1 rfl) ?_
                refine va_get (D := D) (ci := 4) (v := .ref (r 58)) (C := "LinkedUnits$Image") (T := TX4) (N := 12) hx hb hg iwX4 hown hK hP 9 rfl rfl 9 (by decide) (hg _ m_609) (fun _ h9 => h9) rfl d_X4_fill_82 ?_
                refine lv_iload_n hx hb d_X4_fill_85 rfl (lv_at hl 4 rfl) ?_
                refine s_call1 (x := ((r 58), .inl (cy 1, 101, .inl (σ 58)))) 55 rfl (va_runSN (As := [.ref (r 58), .int x3]) (rest := []) ⟨hx, hb, hml, hown, hg⟩ (c_at_any l D cy H.size (r 58) 101 (σ 58) x3 (Nat.le_of_ble_eq_true rfl)) ⟨(va_cnB 2 hg (gw_c m_949) rfl rfl rfl (hNW.1 _ nm_1552) (hg _ m_1) (by decide +kernel) ⟨(Nat.le_of_ble_eq_true rfl), (Nat.le_of_ble_eq_true rfl)⟩), hg _ m_948, trivial⟩ (s_pre (ws := [((r 58), .inl (cy 1, 101, .inl (σ 58)))]) (s_sub1 55 hP rfl) (s_subD 55 hD rfl) hK hNW) rfl rfl hl.1 rfl (lv_room (Nat.le_of_ble_eq_true rfl)) d_X4_fill_86 ⟨(Nat.le_of_ble_eq_true rfl), (Nat.le_of_ble_eq_true rfl)⟩) hP hD hS hA (fun r8 u8 H locs hw hP hD hS => ?_)
                have hP : va_P D vwCl (wB cy r σ) H := hP
                have hD : va_D A (wB cy r σ) := hD
                refine lv_goto (tgt := 101) hx hb d_X4_fill_89 (by decide) ?_
                refine lv_istore (lv' := [(6, .int r8), (5, .int r2), (0, .ref (r 10)), (1, .ref (r 62)), (2, .int x2), (3, .int x3), (4, .int x4)]) hx hb d_X4_fill_101 hl (by decide) rfl (fun ls hl => ?_)
                refine lv_aload_n hx hb d_X4_fill_103 rfl (lv_at hl 2 rfl) ?_
                refine va_get (D := D) (ci := 4) (v := .ref (r 58)) (C := "LinkedUnits$Image") (T := TX4) (N := 12) hx hb hg iwX4 hown hK hP 9 rfl rfl 9 (by decide) (hg _ m_609) (fun _ h9 => h9) rfl d_X4_fill_104 ?_
                refine lv_iload_n hx hb d_X4_fill_107 rfl (lv_at hl 5 rfl) ?_
                refine s_call1 (x := ((r 58), .inl (cy 1, 101, .inl (σ 58)))) 55 rfl (va_runSN (As := [.ref (r 58), .int x3]) (rest := []) ⟨hx, hb, hml, hown, hg⟩ (c_at_any l D cy H.size (r 58) 101 (σ 58) x3 (Nat.le_of_ble_eq_true rfl)) ⟨(va_cnB 2 hg (gw_c m_949) rfl rfl rfl (hNW.1 _ nm_1552) (hg _ m_1) (by decide +kernel) ⟨(Nat.le_of_ble_eq_true rfl), (Nat.le_of_ble_eq_true rfl)⟩), hg _ m_948, trivial⟩ (s_pre (ws := [((r 58), .inl (cy 1, 101, .inl (σ 58)))]) (s_sub1 55 hP rfl) (s_subD 55 hD rfl) hK hNW) rfl rfl hl.1 rfl (lv_room (Nat.le_of_ble_eq_true rfl)) d_X4_fill_108 ⟨(Nat.le_of_ble_eq_true rfl), (Nat.le_of_ble_eq_true rfl)⟩) hP hD hS hA (fun r9 u9 H locs hw hP hD hS => ?_)
                have hP : va_P D vwCl (wB cy r σ) H := hP
                have hD : va_D A (wB cy r σ) := hD
                refine lv_aload_n hx hb d_X4_fill_111 rfl (lv_at hl 2 rfl) ?_
                refine va_get (D := D) (ci := 4) (v := .ref (r 5)) (C := "LinkedUnits$Image") (T := TX4) (N := 12) hx hb hg iwX4 hown hK hP 9 rfl rfl 0 (by decide) (hg _ m_597) (fun _ h9 => h9) rfl d_X4_fill_112 ?_
                refine va_getN (D := D) (ci := 8) (v := .ref (r 31)) (C := "LinkedUnits$Store") (T := TX8) (N := 18) hx hb hg iwX8 hown hK hP 4 rfl rfl 10 (by decide) (va_Nw.use rfl (hNW.1 _ nm_244)) (fun _ h9 => h9) rfl d_X4_fill_115 ?_
                refine lv_iload hx hb d_X4_fill_118 (lv_at hl 6 rfl) ?_
                refine s_call1 (x := ((r 31), .inl (cy 1, 65536, .inl (σ 31)))) 30 rfl (va_runSN (As := [.ref (r 31), .int x4]) (rest := [.int r9]) ⟨hx, hb, hml, hown, hg⟩ (c_at_any l D cy H.size (r 31) 65536 (σ 31) x4 (Nat.le_of_ble_eq_true rfl)) ⟨(va_cnB 2 hg (gw_c m_949) rfl rfl rfl (hNW.1 _ nm_1552) (hg _ m_1) (by decide +kernel) ⟨(Nat.le_of_ble_eq_true rfl), (Nat.le_of_ble_eq_true rfl)⟩), hg _ m_948, trivial⟩ (s_pre (ws := [((r 31), .inl (cy 1, 65536, .inl (σ 31)))]) (s_sub1 30 hP rfl) (s_subD 30 hD rfl) hK hNW) rfl rfl hl.1 rfl (lv_room (Nat.le_of_ble_eq_true rfl)) d_X4_fill_120 ⟨(Nat.le_of_ble_eq_true rfl), (Nat.le_of_ble_eq_true rfl)⟩) hP hD hS hA (fun r10 u10 H locs hw hP hD hS => ?_)
                have hP : va_P D vwCl (wB cy r σ) H := hP
                have hD : va_D A (wB cy r σ) := hD
                refine lv_iadd hx hb d_X4_fill_123 ?_
                refine lv_istore (lv' := [(7, .int (r9 + r10)), (6, .int r8), (5, .int r2), (0, .ref (r 10)), (1, .ref (r 62)), (2, .int x2), (3, .int x3), (4, .int x4)]) hx hb d_X4_fill_124 hl (by decide) rfl (fun ls hl => ?_)
                refine lv_aload_n hx hb d_X4_fill_126 rfl (lv_at hl 4 rfl) ?_
                refine lv_iload hx hb d_X4_fill_127 (lv_at hl 0 rfl) ?_
                refine lv_iload hx hb d_X4_fill_129 (lv_at hl 1 rfl) ?_
                refine lv_aload_n hx hb d_X4_fill_131 rfl (lv_at hl 3 rfl) ?_
                refine va_get (D := D) (ci := 4) (v := .ref (r 5)) (C := "LinkedUnits$Image") (T := TX4) (N := 12) hx hb hg iwX4 hown hK hP 9 rfl rfl 0 (by decide) (hg _ m_597) (fun _ h9 => h9) rfl d_X4_fill_132 ?_
                refine va_getN (D := D) (ci := 8) (v := .ref (r 33)) (C := "LinkedUnits$Store") (T := TX8) (N := 18) hx hb hg iwX8 hown hK hP 4 rfl rfl 12 (by decide) (va_Nw.use rfl (hNW.1 _ nm_248)) (fun _ h9 => h9) rfl d_X4_fill_135 ?_
                refine lv_iload hx hb d_X4_fill_138 (lv_at hl 7 rfl) ?_
                refine s_call1 (x := ((r 33), .inl (cy 1, 65536, .inl (σ 33)))) 32 rfl (va_runSN (As := [.ref (r 33), .int x4]) (rest := [.int r8, .int (r9 + r10), .ref (r 62)]) ⟨hx, hb, hml, hown, hg⟩ (c_at_any l D cy H.size (r 33) 65536 (σ 33) x4 (Nat.le_of_ble_eq_true rfl)) ⟨(va_cnB 2 hg (gw_c m_949) rfl rfl rfl (hNW.1 _ nm_1552) (hg _ m_1) (by decide +kernel) ⟨(Nat.le_of_ble_eq_true rfl), (Nat.le_of_ble_eq_true rfl)⟩), hg _ m_948, trivial⟩ (s_pre (ws := [((r 33), .inl (cy 1, 65536, .inl (σ 33)))]) (s_sub1 32 hP rfl) (s_subD 32 hD rfl) hK hNW) rfl rfl hl.1 rfl (lv_room (Nat.le_of_ble_eq_true rfl)) d_X4_fill_140 ⟨(Nat.le_of_ble_eq_true rfl), (Nat.le_of_ble_eq_true rfl)⟩) hP hD hS hA (fun r11 u11 H locs hw hP hD hS => ?_)
                have hP : va_P D vwCl (wB cy r σ) H := hP
                have hD : va_D A (wB cy r σ) := hD
                refine lv_iadd hx hb d_X4_fill_143 ?_
                refine s_set1 (X := Nat → Int32) (w := fun g => .inl (cy 1, 32768, .inl g)) 59 rfl (va_runSN (As := [.ref (r 62), .int (r9 + r10), .int (r8 + r11)]) (rest := []) ⟨hx, hb, hml, hown, hg⟩ (c_set_any l D cy H.size (r 62) 32768 (σ 62) (r9 + r10) (r8 + r11) (Nat.le_of_ble_eq_true rfl)) ⟨(va_cnB 3 hg (gw_c m_981) rfl rfl rfl (hNW.1 _ nm_1553) (hg _ m_1) (by decide +kernel) ⟨(Nat.le_of_ble_eq_true rfl), (Nat.le_of_ble_eq_true rfl)⟩), hg _ m_980, trivial⟩ (s_pre (ws := [((r 62), .inl (cy 1, 32768, .inl (σ 62)))]) (s_sub1 59 hP rfl) (s_subD 59 hD rfl) hK hNW) rfl rfl hl.1 rfl (lv_room (Nat.le_of_ble_eq_true rfl)) d_X4_fill_144 ⟨(Nat.le_of_ble_eq_true rfl), (Nat.le_of_ble_eq_true rfl)⟩) hP hD hS hA (fun g12 H locs hw hP hD hS => ?_)
                have hP : va_P D vwCl (wB cy r (upF σ 62 g12)) H := hP
                have hD : va_D A (wB cy r (upF σ 62 g12)) := hD
                have kp : Keep [] [62] σ0 (upF σ 62 g12) := keep_a kp (by decide)
                refine lv_iinc (v := (x4 + 1)) (lv' := [(4, .int (x4 + 1)), (7, .int (r9 + r10)), (6, .int r8), (5, .int r2), (0, .ref (r 10)), (1, .ref (r 62)), (2, .int x2), (3, .int x3)]) hx hb d_X4_fill_147 hl (k := 7) rfl rfl (by decide) rfl (fun ls hl => ?_)
                refine lv_goto (tgt := 34) hx hb d_X4_fill_150 (by decide) ?_
                exact ih34 _ (Nat.lt_of_lt_of_eq (upm_lt c_47) N34) (upF σ 62 g12) x2 x3 (x4 + 1) _ _ _ rfl inv kp g2 hP hD hS (lv_sub hl [4, 5, 6, 7, 0] rfl)
            · -- not taken at 68
              refine lv_iconst (v := 0) hx hb d_X4_fill_71 (by decide) ?_
              refine lv_goto (tgt := 101) hx hb d_X4_fill_72 (by decide) ?_
              refine lv_istore (lv' := [(6, .int 0), (5, .int r2), (0, .ref (r 10)), (1, .ref (r 62)), (2, .int x2), (3, .int x3), (4, .int x4)]) hx hb d_X4_fill_101 hl (by decide) rfl (fun ls hl => ?_)
              refine lv_aload_n hx hb d_X4_fill_103 rfl (lv_at hl 2 rfl) ?_
              refine va_get (D := D) (ci := 4) (v := .ref (r 58)) (C := "LinkedUnits$Image") (T := TX4) (N := 12) hx hb hg iwX4 hown hK hP 9 rfl rfl 9 (by decide) (hg _ m_609) (fun _ h9 => h9) rfl d_X4_fill_104 ?_
              refine lv_iload_n hx hb d_X4_fill_107 rfl (lv_at hl 5 rfl) ?_
              refine s_call1 (x := ((r 58), .inl (cy 1, 101, .inl (σ 58)))) 55 rfl (va_runSN (As := [.ref (r 58), .int x3]) (rest := []) ⟨hx, hb, hml, hown, hg⟩ (c_at_any l D cy H.size (r 58) 101 (σ 58) x3 (Nat.le_of_ble_eq_true rfl)) ⟨(va_cnB 2 hg (gw_c m_949) rfl rfl rfl (hNW.1 _ nm_1552) (hg _ m_1) (by decide +kernel) ⟨(Nat.le_of_ble_eq_true rfl), (Nat.le_of_ble_eq_true rfl)⟩), hg _ m_948, trivial⟩ (s_pre (ws := [((r 58), .inl (cy 1, 101, .inl (σ 58)))]) (s_sub1 55 hP rfl) (s_subD 55 hD rfl) hK hNW) rfl rfl hl.1 rfl (lv_room (Nat.le_of_ble_eq_true rfl)) d_X4_fill_108 ⟨(Nat.le_of_ble_eq_true rfl), (Nat.le_of_ble_eq_true rfl)⟩) hP hD hS hA (fun r13 u13 H locs hw hP hD hS => ?_)
              have hP : va_P D vwCl (wB cy r σ) H := hP
              have hD : va_D A (wB cy r σ) := hD
              refine lv_aload_n hx hb d_X4_fill_111 rfl (lv_at hl 2 rfl) ?_
              refine va_get (D := D) (ci := 4) (v := .ref (r 5)) (C := "LinkedUnits$Image") (T := TX4) (N := 12) hx hb hg iwX4 hown hK hP 9 rfl rfl 0 (by decide) (hg _ m_597) (fun _ h9 => h9) rfl d_X4_fill_112 ?_
              refine va_getN (D := D) (ci := 8) (v := .ref (r 31)) (C := "LinkedUnits$Store") (T := TX8) (N := 18) hx hb hg iwX8 hown hK hP 4 rfl rfl 10 (by decide) (va_Nw.use rfl (hNW.1 _ nm_244)) (fun _ h9 => h9) rfl d_X4_fill_115 ?_
              refine lv_iload hx hb d_X4_fill_118 (lv_at hl 6 rfl) ?_
              refine s_call1 (x := ((r 31), .inl (cy 1, 65536, .inl (σ 31)))) 30 rfl (va_runSN (As := [.ref (r 31), .int x4]) (rest := [.int r13]) ⟨hx, hb, hml, hown, hg⟩ (c_at_any l D cy H.size (r 31) 65536 (σ 31) x4 (Nat.le_of_ble_eq_true rfl)) ⟨(va_cnB 2 hg (gw_c m_949) rfl rfl rfl (hNW.1 _ nm_1552) (hg _ m_1) (by decide +kernel) ⟨(Nat.le_of_ble_eq_true rfl), (Nat.le_of_ble_eq_true rfl)⟩), hg _ m_948, trivial⟩ (s_pre (ws := [((r 31), .inl (cy 1, 65536, .inl (σ 31)))]) (s_sub1 30 hP rfl) (s_subD 30 hD rfl) hK hNW) rfl rfl hl.1 rfl (lv_room (Nat.le_of_ble_eq_true rfl)) d_X4_fill_120 ⟨(Nat.le_of_ble_eq_true rfl), (Nat.le_of_ble_eq_true rfl)⟩) hP hD hS hA (fun r14 u14 H locs hw hP hD hS => ?_)
              have hP : va_P D vwCl (wB cy r σ) H := hP
              have hD : va_D A (wB cy r σ) := hD
              refine lv_iadd hx hb d_X4_fill_123 ?_
              refine lv_istore (lv' := [(7, .int (r13 + r14)), (6, .int 0), (5, .int r2), (0, .ref (r 10)), (1, .ref (r 62)), (2, .int x2), (3, .int x3), (4, .int x4)]) hx hb d_X4_fill_124 hl (by decide) rfl (fun ls hl => ?_)
              refine lv_aload_n hx hb d_X4_fill_126 rfl (lv_at hl 4 rfl) ?_
              refine lv_iload hx hb d_X4_fill_127 (lv_at hl 0 rfl) ?_
              refine lv_iload hx hb d_X4_fill_129 (lv_at hl 1 rfl) ?_
              refine lv_aload_n hx hb d_X4_fill_131 rfl (lv_at hl 3 rfl) ?_
              refine va_get (D := D) (ci := 4) (v := .ref (r 5)) (C := "LinkedUnits$Image") (T := TX4) (N := 12) hx hb hg iwX4 hown hK hP 9 rfl rfl 0 (by decide) (hg _ m_597) (fun _ h9 => h9) rfl d_X4_fill_132 ?_
              refine va_getN (D := D) (ci := 8) (v := .ref (r 33)) (C := "LinkedUnits$Store") (T := TX8) (N := 18) hx hb hg iwX8 hown hK hP 4 rfl rfl 12 (by decide) (va_Nw.use rfl (hNW.1 _ nm_248)) (fun _ h9 => h9) rfl d_X4_fill_135 ?_
              refine lv_iload hx hb d_X4_fill_138 (lv_at hl 7 rfl) ?_
              refine s_call1 (x := ((r 33), .inl (cy 1, 65536, .inl (σ 33)))) 32 rfl (va_runSN (As := [.ref (r 33), .int x4]) (rest := [.int 0, .int (r13 + r14), .ref (r 62)]) ⟨hx, hb, hml, hown, hg⟩ (c_at_any l D cy H.size (r 33) 65536 (σ 33) x4 (Nat.le_of_ble_eq_true rfl)) ⟨(va_cnB 2 hg (gw_c m_949) rfl rfl rfl (hNW.1 _ nm_1552) (hg _ m_1) (by decide +kernel) ⟨(Nat.le_of_ble_eq_true rfl), (Nat.le_of_ble_eq_true rfl)⟩), hg _ m_948, trivial⟩ (s_pre (ws := [((r 33), .inl (cy 1, 65536, .inl (σ 33)))]) (s_sub1 32 hP rfl) (s_subD 32 hD rfl) hK hNW) rfl rfl hl.1 rfl (lv_room (Nat.le_of_ble_eq_true rfl)) d_X4_fill_140 ⟨(Nat.le_of_ble_eq_true rfl), (Nat.le_of_ble_eq_true rfl)⟩) hP hD hS hA (fun r15 u15 H locs hw hP hD hS => ?_)
              have hP : va_P D vwCl (wB cy r σ) H := hP
              have hD : va_D A (wB cy r σ) := hD
              refine lv_iadd hx hb d_X4_fill_143 ?_
              refine s_set1 (X := Nat → Int32) (w := fun g => .inl (cy 1, 32768, .inl g)) 59 rfl (va_runSN (As := [.ref (r 62), .int (r13 + r14), .int (0 + r15)]) (rest := []) ⟨hx, hb, hml, hown, hg⟩ (c_set_any l D cy H.size (r 62) 32768 (σ 62) (r13 + r14) (0 + r15) (Nat.le_of_ble_eq_true rfl)) ⟨(va_cnB 3 hg (gw_c m_981) rfl rfl rfl (hNW.1 _ nm_1553) (hg _ m_1) (by decide +kernel) ⟨(Nat.le_of_ble_eq_true rfl), (Nat.le_of_ble_eq_true rfl)⟩), hg _ m_980, trivial⟩ (s_pre (ws := [((r 62), .inl (cy 1, 32768, .inl (σ 62)))]) (s_sub1 59 hP rfl) (s_subD 59 hD rfl) hK hNW) rfl rfl hl.1 rfl (lv_room (Nat.le_of_ble_eq_true rfl)) d_X4_fill_144 ⟨(Nat.le_of_ble_eq_true rfl), (Nat.le_of_ble_eq_true rfl)⟩) hP hD hS hA (fun g16 H locs hw hP hD hS => ?_)
              have hP : va_P D vwCl (wB cy r (upF σ 62 g16)) H := hP
              have hD : va_D A (wB cy r (upF σ 62 g16)) := hD
              have kp : Keep [] [62] σ0 (upF σ 62 g16) := keep_a kp (by decide)
              refine lv_iinc (v := (x4 + 1)) (lv' := [(4, .int (x4 + 1)), (7, .int (r13 + r14)), (6, .int 0), (5, .int r2), (0, .ref (r 10)), (1, .ref (r 62)), (2, .int x2), (3, .int x3)]) hx hb d_X4_fill_147 hl (k := 7) rfl rfl (by decide) rfl (fun ls hl => ?_)
              refine lv_goto (tgt := 34) hx hb d_X4_fill_150 (by decide) ?_
              exact ih34 _ (Nat.lt_of_lt_of_eq (upm_lt c_47) N34) (upF σ 62 g16) x2 x3 (x4 + 1) _ _ _ rfl inv kp g2 hP hD hS (lv_sub hl [4, 5, 6, 7, 0] rfl)
      refine lv_iload_n hx hb d_X4_fill_2 rfl (lv_at hl 2 rfl) ?_
      refine lv_aload_n hx hb d_X4_fill_3 rfl (lv_at hl 0 rfl) ?_
      refine va_get (D := D) (ci := 4) (v := .int (σ 10 7)) (C := "LinkedUnits$Image") (T := TX4) (N := 12) hx hb hg iwX4 hown hK hP 9 rfl rfl 7 (by decide) (hg _ m_607) (fun _ h9 => h9) rfl d_X4_fill_4 ?_
      refine lv_icmp_ge (tgt := 159) hx hb d_X4_fill_7 (by decide) (fun c_7 => ?_) (fun c_7 => ?_)
      · -- taken at 7
        refine W.widen (k := 0) (n := 0) (Nat.le_of_ble_eq_true rfl) (Nat.le_of_ble_eq_true rfl) ?_
        exact k_vret (X := St) (w1 := fun τ => wB cy r τ) σ hx hb hr d_X4_fill_159 hlocks hP hK hD hS ⟨inv, kp⟩
      · -- not taken at 7
        refine lv_aload_n hx hb d_X4_fill_10 rfl (lv_at hl 0 rfl) ?_
        refine va_get (D := D) (ci := 4) (v := .ref (r 57)) (C := "LinkedUnits$Image") (T := TX4) (N := 12) hx hb hg iwX4 hown hK hP 9 rfl rfl 8 (by decide) (hg _ m_608) (fun _ h9 => h9) rfl d_X4_fill_11 ?_
        refine lv_iload_n hx hb d_X4_fill_14 rfl (lv_at hl 2 rfl) ?_
        refine s_call1 (x := ((r 57), .inl (cy 1, 101, .inl (σ 57)))) 54 rfl (va_runSN (As := [.ref (r 57), .int x2]) (rest := []) ⟨hx, hb, hml, hown, hg⟩ (c_at_any l D cy H.size (r 57) 101 (σ 57) x2 (Nat.le_of_ble_eq_true rfl)) ⟨(va_cnB 2 hg (gw_c m_949) rfl rfl rfl (hNW.1 _ nm_1552) (hg _ m_1) (by decide +kernel) ⟨(Nat.le_of_ble_eq_true rfl), (Nat.le_of_ble_eq_true rfl)⟩), hg _ m_948, trivial⟩ (s_pre (ws := [((r 57), .inl (cy 1, 101, .inl (σ 57)))]) (s_sub1 54 hP rfl) (s_subD 54 hD rfl) hK hNW) rfl rfl hl.1 rfl (lv_room (Nat.le_of_ble_eq_true rfl)) d_X4_fill_15 ⟨(Nat.le_of_ble_eq_true rfl), (Nat.le_of_ble_eq_true rfl)⟩) hP hD hS hA (fun r17 u17 H locs hw hP hD hS => ?_)
        have hP : va_P D vwCl (wB cy r σ) H := hP
        have hD : va_D A (wB cy r σ) := hD
        refine lv_istore_n (lv' := [(3, .int r17), (0, .ref (r 10)), (1, .ref (r 62)), (2, .int x2)]) hx hb d_X4_fill_18 rfl hl (by decide) rfl (fun ls hl => ?_)
        refine lv_aload_n hx hb d_X4_fill_19 rfl (lv_at hl 1 rfl) ?_
        refine va_get (D := D) (ci := 4) (v := .ref (r 5)) (C := "LinkedUnits$Image") (T := TX4) (N := 12) hx hb hg iwX4 hown hK hP 9 rfl rfl 0 (by decide) (hg _ m_597) (fun _ h9 => h9) rfl d_X4_fill_20 ?_
        refine va_getN (D := D) (ci := 8) (v := .ref (r 35)) (C := "LinkedUnits$Store") (T := TX8) (N := 18) hx hb hg iwX8 hown hK hP 4 rfl rfl 15 (by decide) (va_Nw.use rfl (hNW.1 _ nm_255)) (fun _ h9 => h9) rfl d_X4_fill_23 ?_
        refine lv_iload_n hx hb d_X4_fill_26 rfl (lv_at hl 0 rfl) ?_
        refine lv_iconst (v := 1) hx hb d_X4_fill_27 (by decide) ?_
        refine lv_isub hx hb d_X4_fill_28 ?_
        refine s_call1 (x := ((r 35), .inl (cy 1, 101, .inl (σ 35)))) 34 rfl (va_runSN (As := [.ref (r 35), .int (r17 - 1)]) (rest := []) ⟨hx, hb, hml, hown, hg⟩ (c_at_any l D cy H.size (r 35) 101 (σ 35) (r17 - 1) (Nat.le_of_ble_eq_true rfl)) ⟨(va_cnB 2 hg (gw_c m_949) rfl rfl rfl (hNW.1 _ nm_1552) (hg _ m_1) (by decide +kernel) ⟨(Nat.le_of_ble_eq_true rfl), (Nat.le_of_ble_eq_true rfl)⟩), hg _ m_948, trivial⟩ (s_pre (ws := [((r 35), .inl (cy 1, 101, .inl (σ 35)))]) (s_sub1 34 hP rfl) (s_subD 34 hD rfl) hK hNW) rfl rfl hl.1 rfl (lv_room (Nat.le_of_ble_eq_true rfl)) d_X4_fill_29 ⟨(Nat.le_of_ble_eq_true rfl), (Nat.le_of_ble_eq_true rfl)⟩) hP hD hS hA (fun r18 u18 H locs hw hP hD hS => ?_)
        have hP : va_P D vwCl (wB cy r σ) H := hP
        have hD : va_D A (wB cy r σ) := hD
        refine lv_istore (lv' := [(4, .int r18), (3, .int r17), (0, .ref (r 10)), (1, .ref (r 62)), (2, .int x2)]) hx hb d_X4_fill_32 hl (by decide) rfl (fun ls hl => ?_)
        exact b34 _ σ x2 r17 r18 _ _ _ rfl inv kp (Nat.lt_of_lt_of_eq (upm_lt c_7) N2) hP hD hS (lv_sub hl [2, 3, 4, 1, 0] rfl)
  have kp : Keep [] [62] σ0 σ0 := keep_rf
  obtain ⟨H, hH⟩ : ∃ H, H = s.heap := ⟨_, rfl⟩
  rw [← hH] at hP
  have hS : va_S A s.heap H [] := by rw [hH]; exact va_S.rf
  have hgoal : W p l e ({ frames := 1, cells := 0, slots := 0, locals := 22 } : Room) s m (([.ref (r 10), .ref (r 62)] : List Value).toArray) below meth c H [] 0 0 (MQ below (va_Qv (S := St) (fun (τ : St) => (Inv τ ∧ Keep [] [62] σ0 τ)) (fun τ => kPost D cy A (wB cy r τ)) A) (([.ref (r 10), .ref (r 62)] : List Value).toArray) s 0 0 A) (F0 m 0 ls []) := by
    refine lv_iconst (v := 1) hx hb d_X4_fill_0 (by decide) ?_
    refine lv_istore_n (lv' := [(2, .int 1), (0, .ref (r 10)), (1, .ref (r 62))]) hx hb d_X4_fill_1 rfl hl (by decide) rfl (fun ls hl => ?_)
    exact b2 _ σ0 (1 : Int32) _ _ _ rfl i0 kp hP hD hS (lv_sub hl [1, 2, 0] rfl)
  rw [hH] at hgoal
  exact hgoal
set_option maxHeartbeats 4000000 in
set_option maxRecDepth 100000 in
theorem s_X5_stepped_r12_r63 (l : Launch) (D : va_G) (cy : Nat → ClassId) (sz : Nat) (w : Nat → Nat) (g : Nat → Nat → Int32) (r : Nat → Nat) (σ0 : St) (a2 : Int32) (a3 : Int32) (i0 : Inv σ0) : Met l y_X5_stepped (Cond.code y_X5_stepped b_X5_stepped 5 none :: GW) ({ frames := 2, cells := 0, slots := 0, locals := 43 } : Room) (va_Pc [.ref (r 12), .ref (r 63), .int a2, .int a3] (kPreE D cy sz (wB cy r σ0) (gE w g))) ((fun A : Nat → Prop => va_Qv (S := St) (fun (τ : St) => (Inv τ ∧ Keep [(12, 9)] [63] σ0 τ)) (fun τ => kPost D cy A (wB cy r τ)) A) (va_A (wB cy r σ0) sz)) 0 0 (va_A (wB cy r σ0) sz) := by
  refine k_ofWE (Qc := fun A => va_Qv (S := St) (fun (τ : St) => (Inv τ ∧ Keep [(12, 9)] [63] σ0 τ)) (fun τ => kPost D cy A (wB cy r τ)) A) (by decide) (Nat.le_of_ble_eq_true rfl) ?_
  intro p e s m below meth c A ls hx hb hr hml hown hlocks hin hg hNW hK hP hD hA hS hl hE
  have hl : lv_has ls 5 [(0, .ref (r 12)), (1, .ref (r 63)), (2, .int a2), (3, .int a3)] := hl
  have hown : s.vm.findClass "LinkedUnits$Machine" = some m.cls := hown
  have kp : Keep [(12, 9)] [63] σ0 σ0 := keep_rf
  obtain ⟨H, hH⟩ : ∃ H, H = s.heap := ⟨_, rfl⟩
  rw [← hH] at hP
  have hS : va_S A s.heap H [] := by rw [hH]; exact va_S.rf
  have hgoal : W p l e ({ frames := 2, cells := 0, slots := 0, locals := 43 } : Room) s m (([.ref (r 12), .ref (r 63), .int a2, .int a3] : List Value).toArray) below meth c H [] 0 0 (MQ below (va_Qv (S := St) (fun (τ : St) => (Inv τ ∧ Keep [(12, 9)] [63] σ0 τ)) (fun τ => kPost D cy A (wB cy r τ)) A) (([.ref (r 12), .ref (r 63), .int a2, .int a3] : List Value).toArray) s 0 0 A) (F0 m 0 ls []) := by
    refine lv_aload_n hx hb d_X5_stepped_0 rfl (lv_at hl 1 rfl) ?_
    refine lv_iload_n hx hb d_X5_stepped_1 rfl (lv_at hl 2 rfl) ?_
    refine s_call1 (x := ((r 63), .inl (cy 1, 148496, .inl (σ0 63)))) 60 rfl (va_runSN (As := [.ref (r 63), .int a2]) (rest := []) ⟨hx, hb, hml, hown, hg⟩ (c_at_any l D cy H.size (r 63) 148496 (σ0 63) a2 (Nat.le_of_ble_eq_true rfl)) ⟨(va_cnB 2 hg (gw_c m_949) rfl rfl rfl (hNW.1 _ nm_1660) (hg _ m_1) (by decide +kernel) ⟨(Nat.le_of_ble_eq_true rfl), (Nat.le_of_ble_eq_true rfl)⟩), hg _ m_948, trivial⟩ (s_pre (ws := [((r 63), .inl (cy 1, 148496, .inl (σ0 63)))]) (s_sub1 60 hP rfl) (s_subD 60 hD rfl) hK hNW) rfl rfl hl.1 rfl (lv_room (Nat.le_of_ble_eq_true rfl)) d_X5_stepped_2 ⟨(Nat.le_of_ble_eq_true rfl), (Nat.le_of_ble_eq_true rfl)⟩) hP hD hS hA (fun r1 u1 H locs hw hP hD hS => ?_)
    have hP : va_P D vwCl (wB cy r σ0) H := hP
    have hD : va_D A (wB cy r σ0) := hD
    refine lv_aload_n hx hb d_X5_stepped_5 rfl (lv_at hl 0 rfl) ?_
    refine va_get (D := D) (ci := 5) (v := .ref (r 24)) (C := "LinkedUnits$Machine") (T := TX5) (N := 19) hx hb hg iwX5 hown hK hP 11 rfl rfl 3 (by decide) (hg _ m_674) (fun _ h9 => h9) rfl d_X5_stepped_6 ?_
    refine lv_iload_n hx hb d_X5_stepped_9 rfl (lv_at hl 3 rfl) ?_
    refine lv_iconst (v := 2) hx hb d_X5_stepped_10 (by decide) ?_
    refine lv_iadd hx hb d_X5_stepped_11 ?_
    refine s_call1 (x := ((r 24), .inl (cy 1, 262208, .inl (σ0 24)))) 23 rfl (va_runSN (As := [.ref (r 24), .int (a3 + 2)]) (rest := [.int r1]) ⟨hx, hb, hml, hown, hg⟩ (c_at_any l D cy H.size (r 24) 262208 (σ0 24) (a3 + 2) (Nat.le_of_ble_eq_true rfl)) ⟨(va_cnB 2 hg (gw_c m_949) rfl rfl rfl (hNW.1 _ nm_1660) (hg _ m_1) (by decide +kernel) ⟨(Nat.le_of_ble_eq_true rfl), (Nat.le_of_ble_eq_true rfl)⟩), hg _ m_948, trivial⟩ (s_pre (ws := [((r 24), .inl (cy 1, 262208, .inl (σ0 24)))]) (s_sub1 23 hP rfl) (s_subD 23 hD rfl) hK hNW) rfl rfl hl.1 rfl (lv_room (Nat.le_of_ble_eq_true rfl)) d_X5_stepped_12 ⟨(Nat.le_of_ble_eq_true rfl), (Nat.le_of_ble_eq_true rfl)⟩) hP hD hS hA (fun r2 u2 H locs hw hP hD hS => ?_)
    have hP : va_P D vwCl (wB cy r σ0) H := hP
    have hD : va_D A (wB cy r σ0) := hD
    refine lv_iadd hx hb d_X5_stepped_15 ?_
    refine lv_istore (lv' := [(4, .int (r1 + r2)), (0, .ref (r 12)), (1, .ref (r 63)), (2, .int a2), (3, .int a3)]) hx hb d_X5_stepped_16 hl (by decide) rfl (fun ls hl => ?_)
    refine lv_aload_n hx hb d_X5_stepped_18 rfl (lv_at hl 2 rfl) ?_
    refine lv_iload_n hx hb d_X5_stepped_19 rfl (lv_at hl 3 rfl) ?_
    refine lv_iload hx hb d_X5_stepped_20 (lv_at hl 0 rfl) ?_
    refine s_set1 (X := Nat → Int32) (w := fun g => .inl (cy 1, 148496, .inl g)) 60 rfl (va_runSN (As := [.ref (r 63), .int a2, .int (r1 + r2)]) (rest := []) ⟨hx, hb, hml, hown, hg⟩ (c_set_any l D cy H.size (r 63) 148496 (σ0 63) a2 (r1 + r2) (Nat.le_of_ble_eq_true rfl)) ⟨(va_cnB 3 hg (gw_c m_981) rfl rfl rfl (hNW.1 _ nm_1661) (hg _ m_1) (by decide +kernel) ⟨(Nat.le_of_ble_eq_true rfl), (Nat.le_of_ble_eq_true rfl)⟩), hg _ m_980, trivial⟩ (s_pre (ws := [((r 63), .inl (cy 1, 148496, .inl (σ0 63)))]) (s_sub1 60 hP rfl) (s_subD 60 hD rfl) hK hNW) rfl rfl hl.1 rfl (lv_room (Nat.le_of_ble_eq_true rfl)) d_X5_stepped_22 ⟨(Nat.le_of_ble_eq_true rfl), (Nat.le_of_ble_eq_true rfl)⟩) hP hD hS hA (fun g3 H locs hw hP hD hS => ?_)
    have hP : va_P D vwCl (wB cy r (upF σ0 63 g3)) H := hP
    have hD : va_D A (wB cy r (upF σ0 63 g3)) := hD
    have kp : Keep [(12, 9)] [63] σ0 (upF σ0 63 g3) := keep_a kp (by decide)
    refine lv_aload_n hx hb d_X5_stepped_25 rfl (lv_at hl 1 rfl) ?_
    refine lv_iload hx hb d_X5_stepped_26 (lv_at hl 0 rfl) ?_
    refine lv_aload_n hx hb d_X5_stepped_28 rfl (lv_at hl 1 rfl) ?_
    refine va_get (D := D) (ci := 5) (v := .ref (r 24)) (C := "LinkedUnits$Machine") (T := TX5) (N := 19) hx hb hg iwX5 hown hK hP 11 rfl rfl 3 (by decide) (hg _ m_674) (fun _ h9 => h9) rfl d_X5_stepped_29 ?_
    refine lv_iload_n hx hb d_X5_stepped_32 rfl (lv_at hl 4 rfl) ?_
    refine lv_iconst (v := 3) hx hb d_X5_stepped_33 (by decide) ?_
    refine lv_iadd hx hb d_X5_stepped_34 ?_
    refine s_call1 (x := ((r 24), .inl (cy 1, 262208, .inl ((upF σ0 63 g3) 24)))) 23 rfl (va_runSN (As := [.ref (r 24), .int (a3 + 3)]) (rest := [.int (r1 + r2), .ref (r 12)]) ⟨hx, hb, hml, hown, hg⟩ (c_at_any l D cy H.size (r 24) 262208 ((upF σ0 63 g3) 24) (a3 + 3) (Nat.le_of_ble_eq_true rfl)) ⟨(va_cnB 2 hg (gw_c m_949) rfl rfl rfl (hNW.1 _ nm_1660) (hg _ m_1) (by decide +kernel) ⟨(Nat.le_of_ble_eq_true rfl), (Nat.le_of_ble_eq_true rfl)⟩), hg _ m_948, trivial⟩ (s_pre (ws := [((r 24), .inl (cy 1, 262208, .inl ((upF σ0 63 g3) 24)))]) (s_sub1 23 hP rfl) (s_subD 23 hD rfl) hK hNW) rfl rfl hl.1 rfl (lv_room (Nat.le_of_ble_eq_true rfl)) d_X5_stepped_35 ⟨(Nat.le_of_ble_eq_true rfl), (Nat.le_of_ble_eq_true rfl)⟩) hP hD hS hA (fun r4 u4 H locs hw hP hD hS => ?_)
    have hP : va_P D vwCl (wB cy r (upF σ0 63 g3)) H := hP
    have hD : va_D A (wB cy r (upF σ0 63 g3)) := hD
    refine lv_isub hx hb d_X5_stepped_38 ?_
    refine s_callv (X := St) (w1 := fun τ => wB cy r τ) (va_runV (As := [.int ((r1 + r2) - r4)]) (rest := []) ⟨hx, hb, hml, hown, hg⟩ (s_X5_push l D cy H.size w g r (upF σ0 63 g3) ((r1 + r2) - r4) i0 ) (cwV 1 hg (gw_V m_1686 m_1688 ms_X5_push m_17 m_1689) rfl rfl rfl (by decide +kernel) ⟨(Nat.le_of_ble_eq_true rfl), (Nat.le_of_ble_eq_true rfl)⟩) (s_preVE (As := [.int ((r1 + r2) - r4)]) (gE_ok w g) hS hA hE hP hD hK hNW 11 rfl rfl) rfl rfl hl.1 rfl (lv_room (Nat.le_of_ble_eq_true rfl)) d_X5_stepped_39 ⟨(Nat.le_of_ble_eq_true rfl), (Nat.le_of_ble_eq_true rfl)⟩) hP hD hS hA (fun σ5 H locs hw hP hD hS => ?_)
    have hP : va_P D vwCl (wB cy r σ5) H := hP
    have hD : va_D A (wB cy r σ5) := hD
    have ik5 : Keep [(12, 9)] [63] (upF σ0 63 g3) σ5 := hw.2
    have kp : Keep [(12, 9)] [63] σ0 σ5 := keep_c kp ik5 (by decide) (by decide)
    have i5 : Inv σ5 := hw.1
    refine W.widen (k := 0) (n := 0) (Nat.le_of_ble_eq_true rfl) (Nat.le_of_ble_eq_true rfl) ?_
    exact k_vret (X := St) (w1 := fun τ => wB cy r τ) σ5 hx hb hr d_X5_stepped_42 hlocks hP hK hD hS ⟨i5, kp⟩
  rw [hH] at hgoal
  exact hgoal
set_option maxHeartbeats 4000000 in
set_option maxRecDepth 100000 in
theorem s_X5_begin (l : Launch) (D : va_G) (cy : Nat → ClassId) (sz : Nat) (w : Nat → Nat) (g : Nat → Nat → Int32) (r : Nat → Nat) (σ0 : St) (a1 : Int32) (i0 : Inv σ0) : Met l y_X5_begin (Cond.code y_X5_begin b_X5_begin 2 none :: GW) ({ frames := 2, cells := 0, slots := 0, locals := 49 } : Room) (va_Pc [.ref (r 12), .int a1] (kPreE D cy sz (wB cy r σ0) (gE w g))) ((fun A : Nat → Prop => va_Qv (S := St) (fun (τ : St) => (Inv τ ∧ Keep [(11, 1), (11, 2), (12, 7), (12, 8), (12, 9), (12, 10), (12, 11), (12, 12), (12, 13), (12, 14), (12, 15), (12, 16), (12, 17)] [62] σ0 τ)) (fun τ => kPost D cy A (wB cy r τ)) A) (va_A (wB cy r σ0) sz)) 0 0 (va_A (wB cy r σ0) sz) := by
  refine k_ofWE (Qc := fun A => va_Qv (S := St) (fun (τ : St) => (Inv τ ∧ Keep [(11, 1), (11, 2), (12, 7), (12, 8), (12, 9), (12, 10), (12, 11), (12, 12), (12, 13), (12, 14), (12, 15), (12, 16), (12, 17)] [62] σ0 τ)) (fun τ => kPost D cy A (wB cy r τ)) A) (by decide) (Nat.le_of_ble_eq_true rfl) ?_
  intro p e s m below meth c A ls hx hb hr hml hown hlocks hin hg hNW hK hP hD hA hS hl hE
  have hl : lv_has ls 2 [(0, .ref (r 12)), (1, .int a1)] := hl
  have hown : s.vm.findClass "LinkedUnits$Machine" = some m.cls := hown
  have kp : Keep [(11, 1), (11, 2), (12, 7), (12, 8), (12, 9), (12, 10), (12, 11), (12, 12), (12, 13), (12, 14), (12, 15), (12, 16), (12, 17)] [62] σ0 σ0 := keep_rf
  obtain ⟨H, hH⟩ : ∃ H, H = s.heap := ⟨_, rfl⟩
  rw [← hH] at hP
  have hS : va_S A s.heap H [] := by rw [hH]; exact va_S.rf
  have hgoal : W p l e ({ frames := 2, cells := 0, slots := 0, locals := 49 } : Room) s m (([.ref (r 12), .int a1] : List Value).toArray) below meth c H [] 0 0 (MQ below (va_Qv (S := St) (fun (τ : St) => (Inv τ ∧ Keep [(11, 1), (11, 2), (12, 7), (12, 8), (12, 9), (12, 10), (12, 11), (12, 12), (12, 13), (12, 14), (12, 15), (12, 16), (12, 17)] [62] σ0 τ)) (fun τ => kPost D cy A (wB cy r τ)) A) (([.ref (r 12), .int a1] : List Value).toArray) s 0 0 A) (F0 m 0 ls []) := by
    refine lv_aload_n hx hb d_X5_begin_0 rfl (lv_at hl 0 rfl) ?_
    refine va_get (D := D) (ci := 5) (v := .ref (r 62)) (C := "LinkedUnits$Machine") (T := TX5) (N := 19) hx hb hg iwX5 hown hK hP 11 rfl rfl 4 (by decide) (hg _ m_675) (fun _ h9 => h9) rfl d_X5_begin_1 ?_
    refine lv_iconst (v := 0) hx hb d_X5_begin_4 (by decide) ?_
    refine s_callv (X := St) (w1 := fun τ => wB cy r τ) (va_runS (As := [.ref (r 62), .int 0]) (rest := []) ⟨hx, hb, hml, hown, hg⟩ (s_Arrays_fill_r62 l D cy H.size w g r σ0 (0 : Int32) i0 ) (va_cwS 2 hg (gw_SX m_1637 m_1638 m_26 m_1639) rfl rfl rfl (by decide +kernel) ⟨(Nat.le_of_ble_eq_true rfl), (Nat.le_of_ble_eq_true rfl)⟩) (s_preE (gE_ok w g) hS hA hE hP hD hK hNW) rfl rfl hl.1 rfl (lv_room (Nat.le_of_ble_eq_true rfl)) d_X5_begin_5 ⟨(Nat.le_of_ble_eq_true rfl), (Nat.le_of_ble_eq_true rfl)⟩) hP hD hS hA (fun σ1 H locs hw hP hD hS => ?_)
    have hP : va_P D vwCl (wB cy r σ1) H := hP
    have hD : va_D A (wB cy r σ1) := hD
    have ik1 : Keep [] [62] σ0 σ1 := hw.2
    have kp : Keep [(11, 1), (11, 2), (12, 7), (12, 8), (12, 9), (12, 10), (12, 11), (12, 12), (12, 13), (12, 14), (12, 15), (12, 16), (12, 17)] [62] σ0 σ1 := keep_c kp ik1 (by decide) (by decide)
    have i1 : Inv σ1 := hw.1
    refine lv_aload_n hx hb d_X5_begin_8 rfl (lv_at hl 0 rfl) ?_
    refine va_get (D := D) (ci := 5) (v := .ref (r 10)) (C := "LinkedUnits$Machine") (T := TX5) (N := 19) hx hb hg iwX5 hown hK hP 11 rfl rfl 1 (by decide) (hg _ m_672) (fun _ h9 => h9) rfl d_X5_begin_9 ?_
    refine lv_aload_n hx hb d_X5_begin_12 rfl (lv_at hl 0 rfl) ?_
    refine va_get (D := D) (ci := 5) (v := .ref (r 62)) (C := "LinkedUnits$Machine") (T := TX5) (N := 19) hx hb hg iwX5 hown hK hP 11 rfl rfl 4 (by decide) (hg _ m_675) (fun _ h9 => h9) rfl d_X5_begin_13 ?_
    refine s_callv (X := St) (w1 := fun τ => wB cy r τ) (va_runVN (As := [.ref (r 62)]) (rest := []) ⟨hx, hb, hml, hown, hg⟩ (s_X4_fill_r10_r62 l D cy H.size w g r σ1  i1 ) ⟨(va_cnB 1 hg (gw_c m_1643) rfl rfl rfl (hNW.1 _ nm_1640) (hg _ m_15) (by decide +kernel) ⟨(Nat.le_of_ble_eq_true rfl), (Nat.le_of_ble_eq_true rfl)⟩), (hg _ m_1642), hg _ ms_X4_fill⟩ (s_preVE (As := [.ref (r 62)]) (gE_ok w g) hS hA hE hP hD hK hNW 9 rfl rfl) rfl rfl hl.1 rfl (lv_room (Nat.le_of_ble_eq_true rfl)) d_X5_begin_16 ⟨(Nat.le_of_ble_eq_true rfl), (Nat.le_of_ble_eq_true rfl)⟩) hP hD hS hA (fun σ2 H locs hw hP hD hS => ?_)
    have hP : va_P D vwCl (wB cy r σ2) H := hP
    have hD : va_D A (wB cy r σ2) := hD
    have ik2 : Keep [] [62] σ1 σ2 := hw.2
    have kp : Keep [(11, 1), (11, 2), (12, 7), (12, 8), (12, 9), (12, 10), (12, 11), (12, 12), (12, 13), (12, 14), (12, 15), (12, 16), (12, 17)] [62] σ0 σ2 := keep_c kp ik2 (by decide) (by decide)
    have i2 : Inv σ2 := hw.1
    refine lv_aload_n hx hb d_X5_begin_19 rfl (lv_at hl 0 rfl) ?_
    refine va_get (D := D) (ci := 5) (v := .ref (r 11)) (C := "LinkedUnits$Machine") (T := TX5) (N := 19) hx hb hg iwX5 hown hK hP 11 rfl rfl 2 (by decide) (hg _ m_673) (fun _ h9 => h9) rfl d_X5_begin_20 ?_
    refine s_callv (X := St) (w1 := fun τ => wB cy r τ) (va_runVN (As := []) (rest := []) ⟨hx, hb, hml, hown, hg⟩ (s_X9_begin l D cy H.size w g r σ2  i2 ) ⟨(va_cnB 0 hg (gw_c m_1647) rfl rfl rfl (hNW.1 _ nm_1644) (hg _ m_16) (by decide +kernel) ⟨(Nat.le_of_ble_eq_true rfl), (Nat.le_of_ble_eq_true rfl)⟩), (hg _ m_1646), hg _ ms_X9_begin⟩ (s_preVE (As := []) (gE_ok w g) hS hA hE hP hD hK hNW 10 rfl rfl) rfl rfl hl.1 rfl (lv_room (Nat.le_of_ble_eq_true rfl)) d_X5_begin_23 ⟨(Nat.le_of_ble_eq_true rfl), (Nat.le_of_ble_eq_true rfl)⟩) hP hD hS hA (fun σ3 H locs hw hP hD hS => ?_)
    have hP : va_P D vwCl (wB cy r σ3) H := hP
    have hD : va_D A (wB cy r σ3) := hD
    have ik3 : Keep [(11, 1), (11, 2)] [] σ2 σ3 := hw.2
    have kp : Keep [(11, 1), (11, 2), (12, 7), (12, 8), (12, 9), (12, 10), (12, 11), (12, 12), (12, 13), (12, 14), (12, 15), (12, 16), (12, 17)] [62] σ0 σ3 := keep_c kp ik3 (by decide) (by decide)
    have i3 : Inv σ3 := hw.1
    refine lv_aload_n hx hb d_X5_begin_26 rfl (lv_at hl 0 rfl) ?_
    refine lv_iload_n hx hb d_X5_begin_27 rfl (lv_at hl 1 rfl) ?_
    refine va_put (D := D) (ci := 5) (v := .int a1) (ty := .int) (C := "LinkedUnits$Machine") (T := TX5) (N := 19) hx hb hg iwX5 tyX5 tyX5_ok nmX5 hown hK hP hD hS 11 rfl rfl 12 (by decide) (hg _ m_684) (fun _ h9 => h9) rfl (by decide +kernel) rfl rfl (Nat.le_of_ble_eq_true rfl) d_X5_begin_28 (fun H locs hP hD hS => ?_)
    have hP : va_P D vwCl (wB cy r (upC σ3 12 12 a1)) H := hP
    have hD : va_D A (wB cy r (upC σ3 12 12 a1)) := hD
    have kp : Keep [(11, 1), (11, 2), (12, 7), (12, 8), (12, 9), (12, 10), (12, 11), (12, 12), (12, 13), (12, 14), (12, 15), (12, 16), (12, 17)] [62] σ0 (upC σ3 12 12 a1) := keep_f kp (by decide)
    refine lv_aload_n hx hb d_X5_begin_31 rfl (lv_at hl 0 rfl) ?_
    refine lv_iconst (v := (-1)) hx hb d_X5_begin_32 (by decide) ?_
    refine va_put (D := D) (ci := 5) (v := .int (-1)) (ty := .int) (C := "LinkedUnits$Machine") (T := TX5) (N := 19) hx hb hg iwX5 tyX5 tyX5_ok nmX5 hown hK hP hD hS 11 rfl rfl 13 (by decide) (hg _ m_685) (fun _ h9 => h9) rfl (by decide +kernel) rfl rfl (Nat.le_of_ble_eq_true rfl) d_X5_begin_33 (fun H locs hP hD hS => ?_)
    have hP : va_P D vwCl (wB cy r (upC (upC σ3 12 12 a1) 12 13 (-1))) H := hP
    have hD : va_D A (wB cy r (upC (upC σ3 12 12 a1) 12 13 (-1))) := hD
    have kp : Keep [(11, 1), (11, 2), (12, 7), (12, 8), (12, 9), (12, 10), (12, 11), (12, 12), (12, 13), (12, 14), (12, 15), (12, 16), (12, 17)] [62] σ0 (upC (upC σ3 12 12 a1) 12 13 (-1)) := keep_f kp (by decide)
    refine lv_aload_n hx hb d_X5_begin_36 rfl (lv_at hl 0 rfl) ?_
    refine lv_iconst (v := 0) hx hb d_X5_begin_37 (by decide) ?_
    refine va_put (D := D) (ci := 5) (v := .int 0) (ty := .int) (C := "LinkedUnits$Machine") (T := TX5) (N := 19) hx hb hg iwX5 tyX5 tyX5_ok nmX5 hown hK hP hD hS 11 rfl rfl 14 (by decide) (hg _ m_686) (fun _ h9 => h9) rfl (by decide +kernel) rfl rfl (Nat.le_of_ble_eq_true rfl) d_X5_begin_38 (fun H locs hP hD hS => ?_)
    have hP : va_P D vwCl (wB cy r (upC (upC (upC σ3 12 12 a1) 12 13 (-1)) 12 14 0)) H := hP
    have hD : va_D A (wB cy r (upC (upC (upC σ3 12 12 a1) 12 13 (-1)) 12 14 0)) := hD
    have kp : Keep [(11, 1), (11, 2), (12, 7), (12, 8), (12, 9), (12, 10), (12, 11), (12, 12), (12, 13), (12, 14), (12, 15), (12, 16), (12, 17)] [62] σ0 (upC (upC (upC σ3 12 12 a1) 12 13 (-1)) 12 14 0) := keep_f kp (by decide)
    refine lv_aload_n hx hb d_X5_begin_41 rfl (lv_at hl 0 rfl) ?_
    refine lv_iconst (v := 0) hx hb d_X5_begin_42 (by decide) ?_
    refine va_put (D := D) (ci := 5) (v := .int 0) (ty := .int) (C := "LinkedUnits$Machine") (T := TX5) (N := 19) hx hb hg iwX5 tyX5 tyX5_ok nmX5 hown hK hP hD hS 11 rfl rfl 15 (by decide) (hg _ m_688) (fun _ h9 => h9) rfl (by decide +kernel) rfl rfl (Nat.le_of_ble_eq_true rfl) d_X5_begin_43 (fun H locs hP hD hS => ?_)
    have hP : va_P D vwCl (wB cy r (upC (upC (upC (upC σ3 12 12 a1) 12 13 (-1)) 12 14 0) 12 15 0)) H := hP
    have hD : va_D A (wB cy r (upC (upC (upC (upC σ3 12 12 a1) 12 13 (-1)) 12 14 0) 12 15 0)) := hD
    have kp : Keep [(11, 1), (11, 2), (12, 7), (12, 8), (12, 9), (12, 10), (12, 11), (12, 12), (12, 13), (12, 14), (12, 15), (12, 16), (12, 17)] [62] σ0 (upC (upC (upC (upC σ3 12 12 a1) 12 13 (-1)) 12 14 0) 12 15 0) := keep_f kp (by decide)
    refine lv_aload_n hx hb d_X5_begin_46 rfl (lv_at hl 0 rfl) ?_
    refine lv_iconst (v := (-1)) hx hb d_X5_begin_47 (by decide) ?_
    refine va_put (D := D) (ci := 5) (v := .int (-1)) (ty := .int) (C := "LinkedUnits$Machine") (T := TX5) (N := 19) hx hb hg iwX5 tyX5 tyX5_ok nmX5 hown hK hP hD hS 11 rfl rfl 16 (by decide) (hg _ m_690) (fun _ h9 => h9) rfl (by decide +kernel) rfl rfl (Nat.le_of_ble_eq_true rfl) d_X5_begin_48 (fun H locs hP hD hS => ?_)
    have hP : va_P D vwCl (wB cy r (upC (upC (upC (upC (upC σ3 12 12 a1) 12 13 (-1)) 12 14 0) 12 15 0) 12 16 (-1))) H := hP
    have hD : va_D A (wB cy r (upC (upC (upC (upC (upC σ3 12 12 a1) 12 13 (-1)) 12 14 0) 12 15 0) 12 16 (-1))) := hD
    have kp : Keep [(11, 1), (11, 2), (12, 7), (12, 8), (12, 9), (12, 10), (12, 11), (12, 12), (12, 13), (12, 14), (12, 15), (12, 16), (12, 17)] [62] σ0 (upC (upC (upC (upC (upC σ3 12 12 a1) 12 13 (-1)) 12 14 0) 12 15 0) 12 16 (-1)) := keep_f kp (by decide)
    refine lv_aload_n hx hb d_X5_begin_51 rfl (lv_at hl 0 rfl) ?_
    refine lv_iconst (v := 0) hx hb d_X5_begin_52 (by decide) ?_
    refine va_put (D := D) (ci := 5) (v := .int 0) (ty := .int) (C := "LinkedUnits$Machine") (T := TX5) (N := 19) hx hb hg iwX5 tyX5 tyX5_ok nmX5 hown hK hP hD hS 11 rfl rfl 17 (by decide) (hg _ m_692) (fun _ h9 => h9) rfl (by decide +kernel) rfl rfl (Nat.le_of_ble_eq_true rfl) d_X5_begin_53 (fun H locs hP hD hS => ?_)
    have hP : va_P D vwCl (wB cy r (upC (upC (upC (upC (upC (upC σ3 12 12 a1) 12 13 (-1)) 12 14 0) 12 15 0) 12 16 (-1)) 12 17 0)) H := hP
    have hD : va_D A (wB cy r (upC (upC (upC (upC (upC (upC σ3 12 12 a1) 12 13 (-1)) 12 14 0) 12 15 0) 12 16 (-1)) 12 17 0)) := hD
    have kp : Keep [(11, 1), (11, 2), (12, 7), (12, 8), (12, 9), (12, 10), (12, 11), (12, 12), (12, 13), (12, 14), (12, 15), (12, 16), (12, 17)] [62] σ0 (upC (upC (upC (upC (upC (upC σ3 12 12 a1) 12 13 (-1)) 12 14 0) 12 15 0) 12 16 (-1)) 12 17 0) := keep_f kp (by decide)
    refine lv_aload_n hx hb d_X5_begin_56 rfl (lv_at hl 0 rfl) ?_
    refine lv_iconst (v := 0) hx hb d_X5_begin_57 (by decide) ?_
    refine va_put (D := D) (ci := 5) (v := .int 0) (ty := .int) (C := "LinkedUnits$Machine") (T := TX5) (N := 19) hx hb hg iwX5 tyX5 tyX5_ok nmX5 hown hK hP hD hS 11 rfl rfl 7 (by decide) (hg _ m_679) (fun _ h9 => h9) rfl (by decide +kernel) rfl rfl (Nat.le_of_ble_eq_true rfl) d_X5_begin_58 (fun H locs hP hD hS => ?_)
    have hP : va_P D vwCl (wB cy r (upC (upC (upC (upC (upC (upC (upC σ3 12 12 a1) 12 13 (-1)) 12 14 0) 12 15 0) 12 16 (-1)) 12 17 0) 12 7 0)) H := hP
    have hD : va_D A (wB cy r (upC (upC (upC (upC (upC (upC (upC σ3 12 12 a1) 12 13 (-1)) 12 14 0) 12 15 0) 12 16 (-1)) 12 17 0) 12 7 0)) := hD
    have kp : Keep [(11, 1), (11, 2), (12, 7), (12, 8), (12, 9), (12, 10), (12, 11), (12, 12), (12, 13), (12, 14), (12, 15), (12, 16), (12, 17)] [62] σ0 (upC (upC (upC (upC (upC (upC (upC σ3 12 12 a1) 12 13 (-1)) 12 14 0) 12 15 0) 12 16 (-1)) 12 17 0) 12 7 0) := keep_f kp (by decide)
    refine lv_aload_n hx hb d_X5_begin_61 rfl (lv_at hl 0 rfl) ?_
    refine lv_iconst (v := 0) hx hb d_X5_begin_62 (by decide) ?_
    refine va_put (D := D) (ci := 5) (v := .int 0) (ty := .int) (C := "LinkedUnits$Machine") (T := TX5) (N := 19) hx hb hg iwX5 tyX5 tyX5_ok nmX5 hown hK hP hD hS 11 rfl rfl 8 (by decide) (hg _ m_680) (fun _ h9 => h9) rfl (by decide +kernel) rfl rfl (Nat.le_of_ble_eq_true rfl) d_X5_begin_63 (fun H locs hP hD hS => ?_)
    have hP : va_P D vwCl (wB cy r (upC (upC (upC (upC (upC (upC (upC (upC σ3 12 12 a1) 12 13 (-1)) 12 14 0) 12 15 0) 12 16 (-1)) 12 17 0) 12 7 0) 12 8 0)) H := hP
    have hD : va_D A (wB cy r (upC (upC (upC (upC (upC (upC (upC (upC σ3 12 12 a1) 12 13 (-1)) 12 14 0) 12 15 0) 12 16 (-1)) 12 17 0) 12 7 0) 12 8 0)) := hD
    have kp : Keep [(11, 1), (11, 2), (12, 7), (12, 8), (12, 9), (12, 10), (12, 11), (12, 12), (12, 13), (12, 14), (12, 15), (12, 16), (12, 17)] [62] σ0 (upC (upC (upC (upC (upC (upC (upC (upC σ3 12 12 a1) 12 13 (-1)) 12 14 0) 12 15 0) 12 16 (-1)) 12 17 0) 12 7 0) 12 8 0) := keep_f kp (by decide)
    refine lv_aload_n hx hb d_X5_begin_66 rfl (lv_at hl 0 rfl) ?_
    refine lv_bipush (v := 8) hx hb d_X5_begin_67 (by decide) ?_
    refine va_put (D := D) (ci := 5) (v := .int 8) (ty := .int) (C := "LinkedUnits$Machine") (T := TX5) (N := 19) hx hb hg iwX5 tyX5 tyX5_ok nmX5 hown hK hP hD hS 11 rfl rfl 9 (by decide) (hg _ m_681) (fun _ h9 => h9) rfl (by decide +kernel) rfl rfl (Nat.le_of_ble_eq_true rfl) d_X5_begin_69 (fun H locs hP hD hS => ?_)
    have hP : va_P D vwCl (wB cy r (upC (upC (upC (upC (upC (upC (upC (upC (upC σ3 12 12 a1) 12 13 (-1)) 12 14 0) 12 15 0) 12 16 (-1)) 12 17 0) 12 7 0) 12 8 0) 12 9 8)) H := hP
    have hD : va_D A (wB cy r (upC (upC (upC (upC (upC (upC (upC (upC (upC σ3 12 12 a1) 12 13 (-1)) 12 14 0) 12 15 0) 12 16 (-1)) 12 17 0) 12 7 0) 12 8 0) 12 9 8)) := hD
    have kp : Keep [(11, 1), (11, 2), (12, 7), (12, 8), (12, 9), (12, 10), (12, 11), (12, 12), (12, 13), (12, 14), (12, 15), (12, 16), (12, 17)] [62] σ0 (upC (upC (upC (upC (upC (upC (upC (upC (upC σ3 12 12 a1) 12 13 (-1)) 12 14 0) 12 15 0) 12 16 (-1)) 12 17 0) 12 7 0) 12 8 0) 12 9 8) := keep_f kp (by decide)
    refine lv_aload_n hx hb d_X5_begin_72 rfl (lv_at hl 0 rfl) ?_
    refine lv_bipush (v := 8) hx hb d_X5_begin_73 (by decide) ?_
    refine va_put (D := D) (ci := 5) (v := .int 8) (ty := .int) (C := "LinkedUnits$Machine") (T := TX5) (N := 19) hx hb hg iwX5 tyX5 tyX5_ok nmX5 hown hK hP hD hS 11 rfl rfl 10 (by decide) (hg _ m_682) (fun _ h9 => h9) rfl (by decide +kernel) rfl rfl (Nat.le_of_ble_eq_true rfl) d_X5_begin_75 (fun H locs hP hD hS => ?_)
    have hP : va_P D vwCl (wB cy r (upC (upC (upC (upC (upC (upC (upC (upC (upC (upC σ3 12 12 a1) 12 13 (-1)) 12 14 0) 12 15 0) 12 16 (-1)) 12 17 0) 12 7 0) 12 8 0) 12 9 8) 12 10 8)) H := hP
    have hD : va_D A (wB cy r (upC (upC (upC (upC (upC (upC (upC (upC (upC (upC σ3 12 12 a1) 12 13 (-1)) 12 14 0) 12 15 0) 12 16 (-1)) 12 17 0) 12 7 0) 12 8 0) 12 9 8) 12 10 8)) := hD
    have kp : Keep [(11, 1), (11, 2), (12, 7), (12, 8), (12, 9), (12, 10), (12, 11), (12, 12), (12, 13), (12, 14), (12, 15), (12, 16), (12, 17)] [62] σ0 (upC (upC (upC (upC (upC (upC (upC (upC (upC (upC σ3 12 12 a1) 12 13 (-1)) 12 14 0) 12 15 0) 12 16 (-1)) 12 17 0) 12 7 0) 12 8 0) 12 9 8) 12 10 8) := keep_f kp (by decide)
    refine lv_aload_n hx hb d_X5_begin_78 rfl (lv_at hl 0 rfl) ?_
    refine lv_ldc (v := 32768) hx hb hown (hg _ m_669) d_X5_begin_79 ?_
    refine va_put (D := D) (ci := 5) (v := .int 32768) (ty := .int) (C := "LinkedUnits$Machine") (T := TX5) (N := 19) hx hb hg iwX5 tyX5 tyX5_ok nmX5 hown hK hP hD hS 11 rfl rfl 11 (by decide) (hg _ m_683) (fun _ h9 => h9) rfl (by decide +kernel) rfl rfl (Nat.le_of_ble_eq_true rfl) d_X5_begin_81 (fun H locs hP hD hS => ?_)
    have hP : va_P D vwCl (wB cy r (upC (upC (upC (upC (upC (upC (upC (upC (upC (upC (upC σ3 12 12 a1) 12 13 (-1)) 12 14 0) 12 15 0) 12 16 (-1)) 12 17 0) 12 7 0) 12 8 0) 12 9 8) 12 10 8) 12 11 32768)) H := hP
    have hD : va_D A (wB cy r (upC (upC (upC (upC (upC (upC (upC (upC (upC (upC (upC σ3 12 12 a1) 12 13 (-1)) 12 14 0) 12 15 0) 12 16 (-1)) 12 17 0) 12 7 0) 12 8 0) 12 9 8) 12 10 8) 12 11 32768)) := hD
    have kp : Keep [(11, 1), (11, 2), (12, 7), (12, 8), (12, 9), (12, 10), (12, 11), (12, 12), (12, 13), (12, 14), (12, 15), (12, 16), (12, 17)] [62] σ0 (upC (upC (upC (upC (upC (upC (upC (upC (upC (upC (upC σ3 12 12 a1) 12 13 (-1)) 12 14 0) 12 15 0) 12 16 (-1)) 12 17 0) 12 7 0) 12 8 0) 12 9 8) 12 10 8) 12 11 32768) := keep_f kp (by decide)
    refine W.widen (k := 0) (n := 0) (Nat.le_of_ble_eq_true rfl) (Nat.le_of_ble_eq_true rfl) ?_
    exact k_vret (X := St) (w1 := fun τ => wB cy r τ) (upC (upC (upC (upC (upC (upC (upC (upC (upC (upC (upC σ3 12 12 a1) 12 13 (-1)) 12 14 0) 12 15 0) 12 16 (-1)) 12 17 0) 12 7 0) 12 8 0) 12 9 8) 12 10 8) 12 11 32768) hx hb hr d_X5_begin_84 hlocks hP hK hD hS ⟨i3, kp⟩
  rw [hH] at hgoal
  exact hgoal
