set_option maxHeartbeats 4000000 in
set_option maxRecDepth 100000 in
theorem s_X4_settle (l : Launch) (D : va_G) (cy : Nat → ClassId) (sz : Nat) (w : Nat → Nat) (g : Nat → Nat → Int32) (r : Nat → Nat) (σ0 : St) (i0 : Inv σ0) : Met l y_X4_settle (Cond.code y_X4_settle b_X4_settle 6 none :: GW) ({ frames := 5, cells := 0, slots := 0, locals := 120 } : Room) (va_Pc [.ref (r 10)] (kPreE D cy sz (wB cy r σ0) (gE w g))) ((fun A : Nat → Prop => va_Qv (S := St) (fun (τ : St) => (Inv τ ∧ Keep [(10, 7)] [57, 58, 59] σ0 τ)) (fun τ => kPost D cy A (wB cy r τ)) A) (va_A (wB cy r σ0) sz)) 0 0 (va_A (wB cy r σ0) sz) := by
  refine k_ofWE (Qc := fun A => va_Qv (S := St) (fun (τ : St) => (Inv τ ∧ Keep [(10, 7)] [57, 58, 59] σ0 τ)) (fun τ => kPost D cy A (wB cy r τ)) A) (by decide) (Nat.le_of_ble_eq_true rfl) ?_
  intro p e s m below meth c A ls hx hb hr hml hown hlocks hin hg hNW hK hP hD hA hS hl hE
  have hl : lv_has ls 6 [(0, .ref (r 10))] := hl
  have hown : s.vm.findClass "LinkedUnits$Image" = some m.cls := hown
  have b153 : ∀ (N : Nat) (σ : St) (x1 : Int32) (x2 : Int32) (H : Heap) (locs : List Loc) (ls : Array Slot), upm x2 = N → Inv σ → Keep [(10, 7)] [57, 58, 59] σ0 σ → va_P D vwCl (wB cy r σ) H → va_D A (wB cy r σ) → va_S A s.heap H locs → lv_has ls 6 [(0, .ref (r 10)), (1, .int x1), (2, .int x2)] → W p l e ({ frames := 5, cells := 0, slots := 0, locals := 120 } : Room) s m (([.ref (r 10)] : List Value).toArray) below meth c H locs 0 0 (MQ below (va_Qv (S := St) (fun (τ : St) => (Inv τ ∧ Keep [(10, 7)] [57, 58, 59] σ0 τ)) (fun τ => kPost D cy A (wB cy r τ)) A) (([.ref (r 10)] : List Value).toArray) s 0 0 A) (F0 m 153 ls []) := by
    intro M153
    induction M153 using Nat.strongRecOn with
    | _ M153 ih153 =>
      intro σ x1 x2 H locs ls N153 inv kp hP hD hS hl
      refine lv_iload_n hx hb d_X4_settle_153 rfl (lv_at hl 2 rfl) ?_
      refine lv_aload_n hx hb d_X4_settle_154 rfl (lv_at hl 0 rfl) ?_
      refine va_get (D := D) (ci := 4) (v := .int (σ 10 7)) (C := "LinkedUnits$Image") (T := TX4) (N := 12) hx hb hg iwX4 hown hK hP 9 rfl rfl 7 (by decide) (hg _ m_607) (fun _ h9 => h9) rfl d_X4_settle_155 ?_
      refine lv_icmp_ge (tgt := 179) hx hb d_X4_settle_158 (by decide) (fun c_158 => ?_) (fun c_158 => ?_)
      · -- taken at 158
        refine W.widen (k := 0) (n := 0) (Nat.le_of_ble_eq_true rfl) (Nat.le_of_ble_eq_true rfl) ?_
        exact k_vret (X := St) (w1 := fun τ => wB cy r τ) σ hx hb hr d_X4_settle_179 hlocks hP hK hD hS ⟨inv, kp⟩
      · -- not taken at 158
        refine lv_aload_n hx hb d_X4_settle_161 rfl (lv_at hl 0 rfl) ?_
        refine lv_aload_n hx hb d_X4_settle_162 rfl (lv_at hl 0 rfl) ?_
        refine va_get (D := D) (ci := 4) (v := .ref (r 57)) (C := "LinkedUnits$Image") (T := TX4) (N := 12) hx hb hg iwX4 hown hK hP 9 rfl rfl 8 (by decide) (hg _ m_608) (fun _ h9 => h9) rfl d_X4_settle_163 ?_
        refine lv_iload_n hx hb d_X4_settle_166 rfl (lv_at hl 2 rfl) ?_
        refine s_call1 (x := ((r 57), .inl (cy 1, 101, .inl (σ 57)))) 54 rfl (va_runSN (As := [.ref (r 57), .int x2]) (rest := [.ref (r 10)]) ⟨hx, hb, hml, hown, hg⟩ (c_at_any l D cy H.size (r 57) 101 (σ 57) x2 (Nat.le_of_ble_eq_true rfl)) ⟨(va_cnB 2 hg (gw_c m_949) rfl rfl rfl (hNW.1 _ nm_1552) (hg _ m_1) (by decide +kernel) ⟨(Nat.le_of_ble_eq_true rfl), (Nat.le_of_ble_eq_true rfl)⟩), hg _ m_948, trivial⟩ (s_pre (ws := [((r 57), .inl (cy 1, 101, .inl (σ 57)))]) (s_sub1 54 hP rfl) (s_subD 54 hD rfl) hK hNW) rfl rfl hl.1 rfl (lv_room (Nat.le_of_ble_eq_true rfl)) d_X4_settle_167 ⟨(Nat.le_of_ble_eq_true rfl), (Nat.le_of_ble_eq_true rfl)⟩) hP hD hS hA (fun r1 u1 H locs hw hP hD hS => ?_)
        have hP : va_P D vwCl (wB cy r σ) H := hP
        have hD : va_D A (wB cy r σ) := hD
        refine s_callv (X := St) (w1 := fun τ => wB cy r τ) (va_runV (As := [.int r1]) (rest := []) ⟨hx, hb, hml, hown, hg⟩ (s_X4_refer l D cy H.size w g r σ r1 inv ) (cwV 1 hg (gw_V m_1601 m_1603 ms_X4_refer m_15 m_1604) rfl rfl rfl (by decide +kernel) ⟨(Nat.le_of_ble_eq_true rfl), (Nat.le_of_ble_eq_true rfl)⟩) (s_preVE (As := [.int r1]) (gE_ok w g) hS hA hE hP hD hK hNW 9 rfl rfl) rfl rfl hl.1 rfl (lv_room (Nat.le_of_ble_eq_true rfl)) d_X4_settle_170 ⟨(Nat.le_of_ble_eq_true rfl), (Nat.le_of_ble_eq_true rfl)⟩) hP hD hS hA (fun σ2 H locs hw hP hD hS => ?_)
        have hP : va_P D vwCl (wB cy r σ2) H := hP
        have hD : va_D A (wB cy r σ2) := hD
        have ik2 : Keep [] [59] σ σ2 := hw.2
        have kp : Keep [(10, 7)] [57, 58, 59] σ0 σ2 := keep_c kp ik2 (by decide) (by decide)
        have i2 : Inv σ2 := hw.1
        refine lv_iinc (v := (x2 + 1)) (lv' := [(2, .int (x2 + 1)), (0, .ref (r 10)), (1, .int x1)]) hx hb d_X4_settle_173 hl (k := 2) rfl rfl (by decide) rfl (fun ls hl => ?_)
        refine lv_goto (tgt := 153) hx hb d_X4_settle_176 (by decide) ?_
        exact ih153 _ (Nat.lt_of_lt_of_eq (upm_lt c_158) N153) σ2 x1 (x2 + 1) _ _ _ rfl i2 kp hP hD hS (lv_sub hl [1, 2, 0] rfl)
  have b13 : ∀ (N : Nat) (σ : St) (x1 : Int32) (x2 : Int32) (H : Heap) (locs : List Loc) (ls : Array Slot), upm x2 = N → Inv σ → Keep [(10, 7)] [57, 58, 59] σ0 σ → va_P D vwCl (wB cy r σ) H → va_D A (wB cy r σ) → va_S A s.heap H locs → lv_has ls 6 [(0, .ref (r 10)), (1, .int x1), (2, .int x2)] → W p l e ({ frames := 5, cells := 0, slots := 0, locals := 120 } : Room) s m (([.ref (r 10)] : List Value).toArray) below meth c H locs 0 0 (MQ below (va_Qv (S := St) (fun (τ : St) => (Inv τ ∧ Keep [(10, 7)] [57, 58, 59] σ0 τ)) (fun τ => kPost D cy A (wB cy r τ)) A) (([.ref (r 10)] : List Value).toArray) s 0 0 A) (F0 m 13 ls []) := by
    intro M13
    induction M13 using Nat.strongRecOn with
    | _ M13 ih13 =>
      intro σ x1 x2 H locs ls N13 inv kp hP hD hS hl
      have b72 : ∀ (N : Nat) (σ : St) (x1 : Int32) (x2 : Int32) (x3 : Int32) (x4 : Int32) (H : Heap) (locs : List Loc) (ls : Array Slot), upm x4 = N → Inv σ → Keep [(10, 7)] [57, 58, 59] σ0 σ → upm (x2 + 1) < M13 → va_P D vwCl (wB cy r σ) H → va_D A (wB cy r σ) → va_S A s.heap H locs → lv_has ls 6 [(0, .ref (r 10)), (1, .int x1), (2, .int x2), (3, .int x3), (4, .int x4)] → W p l e ({ frames := 5, cells := 0, slots := 0, locals := 120 } : Room) s m (([.ref (r 10)] : List Value).toArray) below meth c H locs 0 0 (MQ below (va_Qv (S := St) (fun (τ : St) => (Inv τ ∧ Keep [(10, 7)] [57, 58, 59] σ0 τ)) (fun τ => kPost D cy A (wB cy r τ)) A) (([.ref (r 10)] : List Value).toArray) s 0 0 A) (F0 m 72 ls []) := by
        intro M72
        induction M72 using Nat.strongRecOn with
        | _ M72 ih72 =>
          intro σ x1 x2 x3 x4 H locs ls N72 inv kp g13 hP hD hS hl
          refine lv_iload hx hb d_X4_settle_72 (lv_at hl 4 rfl) ?_
          refine lv_aload_n hx hb d_X4_settle_74 rfl (lv_at hl 0 rfl) ?_
          refine va_get (D := D) (ci := 4) (v := .ref (r 5)) (C := "LinkedUnits$Image") (T := TX4) (N := 12) hx hb hg iwX4 hown hK hP 9 rfl rfl 0 (by decide) (hg _ m_597) (fun _ h9 => h9) rfl d_X4_settle_75 ?_
          refine va_getN (D := D) (ci := 8) (v := .ref (r 34)) (C := "LinkedUnits$Store") (T := TX8) (N := 18) hx hb hg iwX8 hown hK hP 4 rfl rfl 14 (by decide) (va_Nw.use rfl (hNW.1 _ nm_253)) (fun _ h9 => h9) rfl d_X4_settle_78 ?_
          refine lv_iload_n hx hb d_X4_settle_81 rfl (lv_at hl 3 rfl) ?_
          refine s_call1 (x := ((r 34), .inl (cy 1, 101, .inl (σ 34)))) 33 rfl (va_runSN (As := [.ref (r 34), .int x3]) (rest := [.int x4]) ⟨hx, hb, hml, hown, hg⟩ (c_at_any l D cy H.size (r 34) 101 (σ 34) x3 (Nat.le_of_ble_eq_true rfl)) ⟨(va_cnB 2 hg (gw_c m_949) rfl rfl rfl (hNW.1 _ nm_1552) (hg _ m_1) (by decide +kernel) ⟨(Nat.le_of_ble_eq_true rfl), (Nat.le_of_ble_eq_true rfl)⟩), hg _ m_948, trivial⟩ (s_pre (ws := [((r 34), .inl (cy 1, 101, .inl (σ 34)))]) (s_sub1 33 hP rfl) (s_subD 33 hD rfl) hK hNW) rfl rfl hl.1 rfl (lv_room (Nat.le_of_ble_eq_true rfl)) d_X4_settle_82 ⟨(Nat.le_of_ble_eq_true rfl), (Nat.le_of_ble_eq_true rfl)⟩) hP hD hS hA (fun r3 u3 H locs hw hP hD hS => ?_)
          have hP : va_P D vwCl (wB cy r σ) H := hP
          have hD : va_D A (wB cy r σ) := hD
          refine lv_icmp_ge (tgt := 145) hx hb d_X4_settle_85 (by decide) (fun c_85 => ?_) (fun c_85 => ?_)
          · -- taken at 85
            refine lv_iinc (v := (x2 + 1)) (lv' := [(2, .int (x2 + 1)), (0, .ref (r 10)), (1, .int x1), (3, .int x3), (4, .int x4)]) hx hb d_X4_settle_145 hl (k := 2) rfl rfl (by decide) rfl (fun ls hl => ?_)
            refine lv_goto (tgt := 13) hx hb d_X4_settle_148 (by decide) ?_
            exact ih13 _ g13 σ x1 (x2 + 1) _ _ _ rfl inv kp hP hD hS (lv_sub hl [1, 2, 0] rfl)
          · -- not taken at 85
            refine lv_aload_n hx hb d_X4_settle_88 rfl (lv_at hl 0 rfl) ?_
            refine va_get (D := D) (ci := 4) (v := .ref (r 5)) (C := "LinkedUnits$Image") (T := TX4) (N := 12) hx hb hg iwX4 hown hK hP 9 rfl rfl 0 (by decide) (hg _ m_597) (fun _ h9 => h9) rfl d_X4_settle_89 ?_
            refine lv_iload hx hb d_X4_settle_92 (lv_at hl 4 rfl) ?_
            refine lv_iconst (v := 1) hx hb d_X4_settle_94 (by decide) ?_
            refine s_calli (X := Unit) (w1 := fun _ => wB cy r σ) (va_runVN (As := [.int x4, .int 1]) (rest := []) ⟨hx, hb, hml, hown, hg⟩ (s_X8_is l D cy H.size w g r σ x4 (1 : Int32) inv ) ⟨(va_cnB 2 hg (gw_c m_1124) rfl rfl rfl (hNW.1 _ nm_1567) (hg _ m_5) (by decide +kernel) ⟨(Nat.le_of_ble_eq_true rfl), (Nat.le_of_ble_eq_true rfl)⟩), (hg _ m_1123), hg _ ms_X8_is⟩ (s_preVE (As := [.int x4, .int 1]) (gE_ok w g) hS hA hE hP hD hK hNW 4 rfl rfl) rfl rfl hl.1 rfl (lv_room (Nat.le_of_ble_eq_true rfl)) d_X4_settle_95 ⟨(Nat.le_of_ble_eq_true rfl), (Nat.le_of_ble_eq_true rfl)⟩) hP hD hS hA (fun r4 u4 H locs hw hP hD hS => ?_)
            have hP : va_P D vwCl (wB cy r σ) H := hP
            have hD : va_D A (wB cy r σ) := hD
            have hz4 : r4 = 0 ∨ r4 = 1 := hw.1
            refine lv_if_eq (tgt := 105) hx hb d_X4_settle_98 (by decide) (fun c_98 => ?_) (fun c_98 => ?_)
            · -- taken at 98
              refine lv_aload_n hx hb d_X4_settle_105 rfl (lv_at hl 0 rfl) ?_
              refine va_get (D := D) (ci := 4) (v := .ref (r 58)) (C := "LinkedUnits$Image") (T := TX4) (N := 12) hx hb hg iwX4 hown hK hP 9 rfl rfl 9 (by decide) (hg _ m_609) (fun _ h9 => h9) rfl d_X4_settle_106 ?_
              refine lv_iload_n hx hb d_X4_settle_109 rfl (lv_at hl 3 rfl) ?_
              refine s_call1 (x := ((r 58), .inl (cy 1, 101, .inl (σ 58)))) 55 rfl (va_runSN (As := [.ref (r 58), .int x3]) (rest := []) ⟨hx, hb, hml, hown, hg⟩ (c_at_any l D cy H.size (r 58) 101 (σ 58) x3 (Nat.le_of_ble_eq_true rfl)) ⟨(va_cnB 2 hg (gw_c m_949) rfl rfl rfl (hNW.1 _ nm_1552) (hg _ m_1) (by decide +kernel) ⟨(Nat.le_of_ble_eq_true rfl), (Nat.le_of_ble_eq_true rfl)⟩), hg _ m_948, trivial⟩ (s_pre (ws := [((r 58), .inl (cy 1, 101, .inl (σ 58)))]) (s_sub1 55 hP rfl) (s_subD 55 hD rfl) hK hNW) rfl rfl hl.1 rfl (lv_room (Nat.le_of_ble_eq_true rfl)) d_X4_settle_110 ⟨(Nat.le_of_ble_eq_true rfl), (Nat.le_of_ble_eq_true rfl)⟩) hP hD hS hA (fun r5 u5 H locs hw hP hD hS => ?_)
              have hP : va_P D vwCl (wB cy r σ) H := hP
              have hD : va_D A (wB cy r σ) := hD
              refine lv_istore (lv' := [(5, .int r5), (0, .ref (r 10)), (1, .int x1), (2, .int x2), (3, .int x3), (4, .int x4)]) hx hb d_X4_settle_113 hl (by decide) rfl (fun ls hl => ?_)
              refine lv_aload_n hx hb d_X4_settle_115 rfl (lv_at hl 1 rfl) ?_
              refine va_get (D := D) (ci := 4) (v := .ref (r 59)) (C := "LinkedUnits$Image") (T := TX4) (N := 12) hx hb hg iwX4 hown hK hP 9 rfl rfl 10 (by decide) (hg _ m_611) (fun _ h9 => h9) rfl d_X4_settle_116 ?_
              refine lv_iload hx hb d_X4_settle_119 (lv_at hl 5 rfl) ?_
              refine lv_iload hx hb d_X4_settle_121 (lv_at hl 0 rfl) ?_
              refine lv_aload_n hx hb d_X4_settle_123 rfl (lv_at hl 1 rfl) ?_
              refine va_get (D := D) (ci := 4) (v := .ref (r 5)) (C := "LinkedUnits$Image") (T := TX4) (N := 12) hx hb hg iwX4 hown hK hP 9 rfl rfl 0 (by decide) (hg _ m_597) (fun _ h9 => h9) rfl d_X4_settle_124 ?_
              refine va_getN (D := D) (ci := 8) (v := .ref (r 28)) (C := "LinkedUnits$Store") (T := TX8) (N := 18) hx hb hg iwX8 hown hK hP 4 rfl rfl 5 (by decide) (va_Nw.use rfl (hNW.1 _ nm_236)) (fun _ h9 => h9) rfl d_X4_settle_127 ?_
              refine lv_iload hx hb d_X4_settle_130 (lv_at hl 5 rfl) ?_
              refine s_call1 (x := ((r 28), .inl (cy 1, 10100, .inl (σ 28)))) 27 rfl (va_runSN (As := [.ref (r 28), .int x4]) (rest := [.int r5, .int x4, .ref (r 59)]) ⟨hx, hb, hml, hown, hg⟩ (c_at_any l D cy H.size (r 28) 10100 (σ 28) x4 (Nat.le_of_ble_eq_true rfl)) ⟨(va_cnB 2 hg (gw_c m_949) rfl rfl rfl (hNW.1 _ nm_1552) (hg _ m_1) (by decide +kernel) ⟨(Nat.le_of_ble_eq_true rfl), (Nat.le_of_ble_eq_true rfl)⟩), hg _ m_948, trivial⟩ (s_pre (ws := [((r 28), .inl (cy 1, 10100, .inl (σ 28)))]) (s_sub1 27 hP rfl) (s_subD 27 hD rfl) hK hNW) rfl rfl hl.1 rfl (lv_room (Nat.le_of_ble_eq_true rfl)) d_X4_settle_132 ⟨(Nat.le_of_ble_eq_true rfl), (Nat.le_of_ble_eq_true rfl)⟩) hP hD hS hA (fun r6 u6 H locs hw hP hD hS => ?_)
              have hP : va_P D vwCl (wB cy r σ) H := hP
              have hD : va_D A (wB cy r σ) := hD
              refine lv_iadd hx hb d_X4_settle_135 ?_
              refine s_set1 (X := Nat → Int32) (w := fun g => .inl (cy 1, 10100, .inl g)) 56 rfl (va_runSN (As := [.ref (r 59), .int x4, .int (r5 + r6)]) (rest := []) ⟨hx, hb, hml, hown, hg⟩ (c_set_any l D cy H.size (r 59) 10100 (σ 59) x4 (r5 + r6) (Nat.le_of_ble_eq_true rfl)) ⟨(va_cnB 3 hg (gw_c m_981) rfl rfl rfl (hNW.1 _ nm_1553) (hg _ m_1) (by decide +kernel) ⟨(Nat.le_of_ble_eq_true rfl), (Nat.le_of_ble_eq_true rfl)⟩), hg _ m_980, trivial⟩ (s_pre (ws := [((r 59), .inl (cy 1, 10100, .inl (σ 59)))]) (s_sub1 56 hP rfl) (s_subD 56 hD rfl) hK hNW) rfl rfl hl.1 rfl (lv_room (Nat.le_of_ble_eq_true rfl)) d_X4_settle_136 ⟨(Nat.le_of_ble_eq_true rfl), (Nat.le_of_ble_eq_true rfl)⟩) hP hD hS hA (fun g7 H locs hw hP hD hS => ?_)
              have hP : va_P D vwCl (wB cy r (upF σ 59 g7)) H := hP
              have hD : va_D A (wB cy r (upF σ 59 g7)) := hD
              have kp : Keep [(10, 7)] [57, 58, 59] σ0 (upF σ 59 g7) := keep_a kp (by decide)
              refine lv_iinc (v := (x4 + 1)) (lv' := [(4, .int (x4 + 1)), (5, .int r5), (0, .ref (r 10)), (1, .int x1), (2, .int x2), (3, .int x3)]) hx hb d_X4_settle_139 hl (k := 5) rfl rfl (by decide) rfl (fun ls hl => ?_)
              refine lv_goto (tgt := 72) hx hb d_X4_settle_142 (by decide) ?_
              exact ih72 _ (Nat.lt_of_lt_of_eq (upm_lt c_85) N72) (upF σ 59 g7) x1 x2 x3 (x4 + 1) _ _ _ rfl inv kp g13 hP hD hS (lv_sub hl [2, 3, 4, 5, 0] rfl)
            · -- not taken at 98
              refine lv_iconst (v := 0) hx hb d_X4_settle_101 (by decide) ?_
              refine lv_goto (tgt := 113) hx hb d_X4_settle_102 (by decide) ?_
              refine lv_istore (lv' := [(5, .int 0), (0, .ref (r 10)), (1, .int x1), (2, .int x2), (3, .int x3), (4, .int x4)]) hx hb d_X4_settle_113 hl (by decide) rfl (fun ls hl => ?_)
              refine lv_aload_n hx hb d_X4_settle_115 rfl (lv_at hl 1 rfl) ?_
              refine va_get (D := D) (ci := 4) (v := .ref (r 59)) (C := "LinkedUnits$Image") (T := TX4) (N := 12) hx hb hg iwX4 hown hK hP 9 rfl rfl 10 (by decide) (hg _ m_611) (fun _ h9 => h9) rfl d_X4_settle_116 ?_
              refine lv_iload hx hb d_X4_settle_119 (lv_at hl 5 rfl) ?_
              refine lv_iload hx hb d_X4_settle_121 (lv_at hl 0 rfl) ?_
              refine lv_aload_n hx hb d_X4_settle_123 rfl (lv_at hl 1 rfl) ?_
              refine va_get (D := D) (ci := 4) (v := .ref (r 5)) (C := "LinkedUnits$Image") (T := TX4) (N := 12) hx hb hg iwX4 hown hK hP 9 rfl rfl 0 (by decide) (hg _ m_597) (fun _ h9 => h9) rfl d_X4_settle_124 ?_
              refine va_getN (D := D) (ci := 8) (v := .ref (r 28)) (C := "LinkedUnits$Store") (T := TX8) (N := 18) hx hb hg iwX8 hown hK hP 4 rfl rfl 5 (by decide) (va_Nw.use rfl (hNW.1 _ nm_236)) (fun _ h9 => h9) rfl d_X4_settle_127 ?_
              refine lv_iload hx hb d_X4_settle_130 (lv_at hl 5 rfl) ?_
              refine s_call1 (x := ((r 28), .inl (cy 1, 10100, .inl (σ 28)))) 27 rfl (va_runSN (As := [.ref (r 28), .int x4]) (rest := [.int 0, .int x4, .ref (r 59)]) ⟨hx, hb, hml, hown, hg⟩ (c_at_any l D cy H.size (r 28) 10100 (σ 28) x4 (Nat.le_of_ble_eq_true rfl)) ⟨(va_cnB 2 hg (gw_c m_949) rfl rfl rfl (hNW.1 _ nm_1552) (hg _ m_1) (by decide +kernel) ⟨(Nat.le_of_ble_eq_true rfl), (Nat.le_of_ble_eq_true rfl)⟩), hg _ m_948, trivial⟩ (s_pre (ws := [((r 28), .inl (cy 1, 10100, .inl (σ 28)))]) (s_sub1 27 hP rfl) (s_subD 27 hD rfl) hK hNW) rfl rfl hl.1 rfl (lv_room (Nat.le_of_ble_eq_true rfl)) d_X4_settle_132 ⟨(Nat.le_of_ble_eq_true rfl), (Nat.le_of_ble_eq_true rfl)⟩) hP hD hS hA (fun r8 u8 H locs hw hP hD hS => ?_)
              have hP : va_P D vwCl (wB cy r σ) H := hP
              have hD : va_D A (wB cy r σ) := hD
              refine lv_iadd hx hb d_X4_settle_135 ?_
              refine s_set1 (X := Nat → Int32) (w := fun g => .inl (cy 1, 10100, .inl g)) 56 rfl (va_runSN (As := [.ref (r 59), .int x4, .int (0 + r8)]) (rest := []) ⟨hx, hb, hml, hown, hg⟩ (c_set_any l D cy H.size (r 59) 10100 (σ 59) x4 (0 + r8) (Nat.le_of_ble_eq_true rfl)) ⟨(va_cnB 3 hg (gw_c m_981) rfl rfl rfl (hNW.1 _ nm_1553) (hg _ m_1) (by decide +kernel) ⟨(Nat.le_of_ble_eq_true rfl), (Nat.le_of_ble_eq_true rfl)⟩), hg _ m_980, trivial⟩ (s_pre (ws := [((r 59), .inl (cy 1, 10100, .inl (σ 59)))]) (s_sub1 56 hP rfl) (s_subD 56 hD rfl) hK hNW) rfl rfl hl.1 rfl (lv_room (Nat.le_of_ble_eq_true rfl)) d_X4_settle_136 ⟨(Nat.le_of_ble_eq_true rfl), (Nat.le_of_ble_eq_true rfl)⟩) hP hD hS hA (fun g9 H locs hw hP hD hS => ?_)
              have hP : va_P D vwCl (wB cy r (upF σ 59 g9)) H := hP
              have hD : va_D A (wB cy r (upF σ 59 g9)) := hD
              have kp : Keep [(10, 7)] [57, 58, 59] σ0 (upF σ 59 g9) := keep_a kp (by decide)
              refine lv_iinc (v := (x4 + 1)) (lv' := [(4, .int (x4 + 1)), (5, .int 0), (0, .ref (r 10)), (1, .int x1), (2, .int x2), (3, .int x3)]) hx hb d_X4_settle_139 hl (k := 5) rfl rfl (by decide) rfl (fun ls hl => ?_)
              refine lv_goto (tgt := 72) hx hb d_X4_settle_142 (by decide) ?_
              exact ih72 _ (Nat.lt_of_lt_of_eq (upm_lt c_85) N72) (upF σ 59 g9) x1 x2 x3 (x4 + 1) _ _ _ rfl inv kp g13 hP hD hS (lv_sub hl [2, 3, 4, 5, 0] rfl)
      refine lv_iload_n hx hb d_X4_settle_13 rfl (lv_at hl 2 rfl) ?_
      refine lv_aload_n hx hb d_X4_settle_14 rfl (lv_at hl 0 rfl) ?_
      refine va_get (D := D) (ci := 4) (v := .int (σ 10 7)) (C := "LinkedUnits$Image") (T := TX4) (N := 12) hx hb hg iwX4 hown hK hP 9 rfl rfl 7 (by decide) (hg _ m_607) (fun _ h9 => h9) rfl d_X4_settle_15 ?_
      refine lv_icmp_ge (tgt := 151) hx hb d_X4_settle_18 (by decide) (fun c_18 => ?_) (fun c_18 => ?_)
      · -- taken at 18
        refine lv_iconst (v := 1) hx hb d_X4_settle_151 (by decide) ?_
        refine lv_istore_n (lv' := [(2, .int 1), (0, .ref (r 10)), (1, .int x1)]) hx hb d_X4_settle_152 rfl hl (by decide) rfl (fun ls hl => ?_)
        exact b153 _ σ x1 (1 : Int32) _ _ _ rfl inv kp hP hD hS (lv_sub hl [1, 2, 0] rfl)
      · -- not taken at 18
        refine lv_aload_n hx hb d_X4_settle_21 rfl (lv_at hl 0 rfl) ?_
        refine va_get (D := D) (ci := 4) (v := .ref (r 56)) (C := "LinkedUnits$Image") (T := TX4) (N := 12) hx hb hg iwX4 hown hK hP 9 rfl rfl 6 (by decide) (hg _ m_606) (fun _ h9 => h9) rfl d_X4_settle_22 ?_
        refine lv_iload_n hx hb d_X4_settle_25 rfl (lv_at hl 2 rfl) ?_
        refine s_call1 (x := ((r 56), .inl (cy 1, 101, .inl (σ 56)))) 53 rfl (va_runSN (As := [.ref (r 56), .int x2]) (rest := []) ⟨hx, hb, hml, hown, hg⟩ (c_at_any l D cy H.size (r 56) 101 (σ 56) x2 (Nat.le_of_ble_eq_true rfl)) ⟨(va_cnB 2 hg (gw_c m_949) rfl rfl rfl (hNW.1 _ nm_1552) (hg _ m_1) (by decide +kernel) ⟨(Nat.le_of_ble_eq_true rfl), (Nat.le_of_ble_eq_true rfl)⟩), hg _ m_948, trivial⟩ (s_pre (ws := [((r 56), .inl (cy 1, 101, .inl (σ 56)))]) (s_sub1 53 hP rfl) (s_subD 53 hD rfl) hK hNW) rfl rfl hl.1 rfl (lv_room (Nat.le_of_ble_eq_true rfl)) d_X4_settle_26 ⟨(Nat.le_of_ble_eq_true rfl), (Nat.le_of_ble_eq_true rfl)⟩) hP hD hS hA (fun r10 u10 H locs hw hP hD hS => ?_)
        have hP : va_P D vwCl (wB cy r σ) H := hP
        have hD : va_D A (wB cy r σ) := hD
        refine lv_istore_n (lv' := [(3, .int r10), (0, .ref (r 10)), (1, .int x1), (2, .int x2)]) hx hb d_X4_settle_29 rfl hl (by decide) rfl (fun ls hl => ?_)
        refine lv_aload_n hx hb d_X4_settle_30 rfl (lv_at hl 1 rfl) ?_
        refine va_get (D := D) (ci := 4) (v := .ref (r 57)) (C := "LinkedUnits$Image") (T := TX4) (N := 12) hx hb hg iwX4 hown hK hP 9 rfl rfl 8 (by decide) (hg _ m_608) (fun _ h9 => h9) rfl d_X4_settle_31 ?_
        refine lv_iload_n hx hb d_X4_settle_34 rfl (lv_at hl 3 rfl) ?_
        refine lv_iload_n hx hb d_X4_settle_35 rfl (lv_at hl 0 rfl) ?_
        refine s_set1 (X := Nat → Int32) (w := fun g => .inl (cy 1, 101, .inl g)) 54 rfl (va_runSN (As := [.ref (r 57), .int x2, .int r10]) (rest := []) ⟨hx, hb, hml, hown, hg⟩ (c_set_any l D cy H.size (r 57) 101 (σ 57) x2 r10 (Nat.le_of_ble_eq_true rfl)) ⟨(va_cnB 3 hg (gw_c m_981) rfl rfl rfl (hNW.1 _ nm_1553) (hg _ m_1) (by decide +kernel) ⟨(Nat.le_of_ble_eq_true rfl), (Nat.le_of_ble_eq_true rfl)⟩), hg _ m_980, trivial⟩ (s_pre (ws := [((r 57), .inl (cy 1, 101, .inl (σ 57)))]) (s_sub1 54 hP rfl) (s_subD 54 hD rfl) hK hNW) rfl rfl hl.1 rfl (lv_room (Nat.le_of_ble_eq_true rfl)) d_X4_settle_36 ⟨(Nat.le_of_ble_eq_true rfl), (Nat.le_of_ble_eq_true rfl)⟩) hP hD hS hA (fun g11 H locs hw hP hD hS => ?_)
        have hP : va_P D vwCl (wB cy r (upF σ 57 g11)) H := hP
        have hD : va_D A (wB cy r (upF σ 57 g11)) := hD
        have kp : Keep [(10, 7)] [57, 58, 59] σ0 (upF σ 57 g11) := keep_a kp (by decide)
        refine lv_aload_n hx hb d_X4_settle_39 rfl (lv_at hl 1 rfl) ?_
        refine va_get (D := D) (ci := 4) (v := .ref (r 58)) (C := "LinkedUnits$Image") (T := TX4) (N := 12) hx hb hg iwX4 hown hK hP 9 rfl rfl 9 (by decide) (hg _ m_609) (fun _ h9 => h9) rfl d_X4_settle_40 ?_
        refine lv_iload_n hx hb d_X4_settle_43 rfl (lv_at hl 0 rfl) ?_
        refine lv_iload_n hx hb d_X4_settle_44 rfl (lv_at hl 2 rfl) ?_
        refine s_set1 (X := Nat → Int32) (w := fun g => .inl (cy 1, 101, .inl g)) 55 rfl (va_runSN (As := [.ref (r 58), .int r10, .int x1]) (rest := []) ⟨hx, hb, hml, hown, hg⟩ (c_set_any l D cy H.size (r 58) 101 ((upF σ 57 g11) 58) r10 x1 (Nat.le_of_ble_eq_true rfl)) ⟨(va_cnB 3 hg (gw_c m_981) rfl rfl rfl (hNW.1 _ nm_1553) (hg _ m_1) (by decide +kernel) ⟨(Nat.le_of_ble_eq_true rfl), (Nat.le_of_ble_eq_true rfl)⟩), hg _ m_980, trivial⟩ (s_pre (ws := [((r 58), .inl (cy 1, 101, .inl ((upF σ 57 g11) 58)))]) (s_sub1 55 hP rfl) (s_subD 55 hD rfl) hK hNW) rfl rfl hl.1 rfl (lv_room (Nat.le_of_ble_eq_true rfl)) d_X4_settle_45 ⟨(Nat.le_of_ble_eq_true rfl), (Nat.le_of_ble_eq_true rfl)⟩) hP hD hS hA (fun g12 H locs hw hP hD hS => ?_)
        have hP : va_P D vwCl (wB cy r (upF (upF σ 57 g11) 58 g12)) H := hP
        have hD : va_D A (wB cy r (upF (upF σ 57 g11) 58 g12)) := hD
        have kp : Keep [(10, 7)] [57, 58, 59] σ0 (upF (upF σ 57 g11) 58 g12) := keep_a kp (by decide)
        refine lv_iload_n hx hb d_X4_settle_48 rfl (lv_at hl 2 rfl) ?_
        refine lv_aload_n hx hb d_X4_settle_49 rfl (lv_at hl 1 rfl) ?_
        refine va_get (D := D) (ci := 4) (v := .ref (r 5)) (C := "LinkedUnits$Image") (T := TX4) (N := 12) hx hb hg iwX4 hown hK hP 9 rfl rfl 0 (by decide) (hg _ m_597) (fun _ h9 => h9) rfl d_X4_settle_50 ?_
        refine va_getN (D := D) (ci := 8) (v := .ref (r 37)) (C := "LinkedUnits$Store") (T := TX8) (N := 18) hx hb hg iwX8 hown hK hP 4 rfl rfl 17 (by decide) (va_Nw.use rfl (hNW.1 _ nm_258)) (fun _ h9 => h9) rfl d_X4_settle_53 ?_
        refine lv_iload_n hx hb d_X4_settle_56 rfl (lv_at hl 0 rfl) ?_
        refine s_call1 (x := ((r 37), .inl (cy 1, 101, .inl ((upF (upF σ 57 g11) 58 g12) 37)))) 36 rfl (va_runSN (As := [.ref (r 37), .int r10]) (rest := [.int x1]) ⟨hx, hb, hml, hown, hg⟩ (c_at_any l D cy H.size (r 37) 101 ((upF (upF σ 57 g11) 58 g12) 37) r10 (Nat.le_of_ble_eq_true rfl)) ⟨(va_cnB 2 hg (gw_c m_949) rfl rfl rfl (hNW.1 _ nm_1552) (hg _ m_1) (by decide +kernel) ⟨(Nat.le_of_ble_eq_true rfl), (Nat.le_of_ble_eq_true rfl)⟩), hg _ m_948, trivial⟩ (s_pre (ws := [((r 37), .inl (cy 1, 101, .inl ((upF (upF σ 57 g11) 58 g12) 37)))]) (s_sub1 36 hP rfl) (s_subD 36 hD rfl) hK hNW) rfl rfl hl.1 rfl (lv_room (Nat.le_of_ble_eq_true rfl)) d_X4_settle_57 ⟨(Nat.le_of_ble_eq_true rfl), (Nat.le_of_ble_eq_true rfl)⟩) hP hD hS hA (fun r13 u13 H locs hw hP hD hS => ?_)
        have hP : va_P D vwCl (wB cy r (upF (upF σ 57 g11) 58 g12)) H := hP
        have hD : va_D A (wB cy r (upF (upF σ 57 g11) 58 g12)) := hD
        refine lv_iadd hx hb d_X4_settle_60 ?_
        refine lv_istore_n (lv' := [(1, .int (x1 + r13)), (3, .int r10), (0, .ref (r 10)), (2, .int x2)]) hx hb d_X4_settle_61 rfl hl (by decide) rfl (fun ls hl => ?_)
        refine lv_aload_n hx hb d_X4_settle_62 rfl (lv_at hl 2 rfl) ?_
        refine va_get (D := D) (ci := 4) (v := .ref (r 5)) (C := "LinkedUnits$Image") (T := TX4) (N := 12) hx hb hg iwX4 hown hK hP 9 rfl rfl 0 (by decide) (hg _ m_597) (fun _ h9 => h9) rfl d_X4_settle_63 ?_
        refine lv_iload_n hx hb d_X4_settle_66 rfl (lv_at hl 1 rfl) ?_
        refine s_calli (X := Unit) (w1 := fun _ => wB cy r (upF (upF σ 57 g11) 58 g12)) (va_runVN (As := [.int r10]) (rest := []) ⟨hx, hb, hml, hown, hg⟩ (s_X8_firstOf l D cy H.size w g r (upF (upF σ 57 g11) 58 g12) r10 inv ) ⟨(va_cnB 1 hg (gw_c m_1524) rfl rfl rfl (hNW.1 _ nm_1566) (hg _ m_5) (by decide +kernel) ⟨(Nat.le_of_ble_eq_true rfl), (Nat.le_of_ble_eq_true rfl)⟩), (hg _ m_1523), hg _ ms_X8_firstOf⟩ (s_preVE (As := [.int r10]) (gE_ok w g) hS hA hE hP hD hK hNW 4 rfl rfl) rfl rfl hl.1 rfl (lv_room (Nat.le_of_ble_eq_true rfl)) d_X4_settle_67 ⟨(Nat.le_of_ble_eq_true rfl), (Nat.le_of_ble_eq_true rfl)⟩) hP hD hS hA (fun r14 u14 H locs hw hP hD hS => ?_)
        have hP : va_P D vwCl (wB cy r (upF (upF σ 57 g11) 58 g12)) H := hP
        have hD : va_D A (wB cy r (upF (upF σ 57 g11) 58 g12)) := hD
        refine lv_istore (lv' := [(4, .int r14), (1, .int (x1 + r13)), (3, .int r10), (0, .ref (r 10)), (2, .int x2)]) hx hb d_X4_settle_70 hl (by decide) rfl (fun ls hl => ?_)
        exact b72 _ (upF (upF σ 57 g11) 58 g12) (x1 + r13) x2 r10 r14 _ _ _ rfl inv kp (Nat.lt_of_lt_of_eq (upm_lt c_18) N13) hP hD hS (lv_sub hl [3, 1, 4, 2, 0] rfl)
  have kp : Keep [(10, 7)] [57, 58, 59] σ0 σ0 := keep_rf
  obtain ⟨H, hH⟩ : ∃ H, H = s.heap := ⟨_, rfl⟩
  rw [← hH] at hP
  have hS : va_S A s.heap H [] := by rw [hH]; exact va_S.rf
  have hgoal : W p l e ({ frames := 5, cells := 0, slots := 0, locals := 120 } : Room) s m (([.ref (r 10)] : List Value).toArray) below meth c H [] 0 0 (MQ below (va_Qv (S := St) (fun (τ : St) => (Inv τ ∧ Keep [(10, 7)] [57, 58, 59] σ0 τ)) (fun τ => kPost D cy A (wB cy r τ)) A) (([.ref (r 10)] : List Value).toArray) s 0 0 A) (F0 m 0 ls []) := by
    refine lv_aload_n hx hb d_X4_settle_0 rfl (lv_at hl 0 rfl) ?_
    refine lv_aload_n hx hb d_X4_settle_1 rfl (lv_at hl 0 rfl) ?_
    refine va_get (D := D) (ci := 4) (v := .int (σ0 10 5)) (C := "LinkedUnits$Image") (T := TX4) (N := 12) hx hb hg iwX4 hown hK hP 9 rfl rfl 5 (by decide) (hg _ m_605) (fun _ h9 => h9) rfl d_X4_settle_2 ?_
    refine va_put (D := D) (ci := 4) (v := .int (σ0 10 5)) (ty := .int) (C := "LinkedUnits$Image") (T := TX4) (N := 12) hx hb hg iwX4 tyX4 tyX4_ok nmX4 hown hK hP hD hS 9 rfl rfl 7 (by decide) (hg _ m_607) (fun _ h9 => h9) rfl (by decide +kernel) rfl rfl (Nat.le_of_ble_eq_true rfl) d_X4_settle_5 (fun H locs hP hD hS => ?_)
    have hP : va_P D vwCl (wB cy r (upC σ0 10 7 (σ0 10 5))) H := hP
    have hD : va_D A (wB cy r (upC σ0 10 7 (σ0 10 5))) := hD
    have kp : Keep [(10, 7)] [57, 58, 59] σ0 (upC σ0 10 7 (σ0 10 5)) := keep_f kp (by decide)
    refine lv_bipush (v := 16) hx hb d_X4_settle_8 (by decide) ?_
    refine lv_istore_n (lv' := [(1, .int 16), (0, .ref (r 10))]) hx hb d_X4_settle_10 rfl hl (by decide) rfl (fun ls hl => ?_)
    refine lv_iconst (v := 0) hx hb d_X4_settle_11 (by decide) ?_
    refine lv_istore_n (lv' := [(2, .int 0), (1, .int 16), (0, .ref (r 10))]) hx hb d_X4_settle_12 rfl hl (by decide) rfl (fun ls hl => ?_)
    exact b13 _ (upC σ0 10 7 (σ0 10 5)) (16 : Int32) (0 : Int32) _ _ _ rfl i0 kp hP hD hS (lv_sub hl [2, 1, 0] rfl)
  rw [hH] at hgoal
  exact hgoal
set_option maxHeartbeats 4000000 in
set_option maxRecDepth 100000 in
theorem s_X4_look (l : Launch) (D : va_G) (cy : Nat → ClassId) (sz : Nat) (w : Nat → Nat) (g : Nat → Nat → Int32) (r : Nat → Nat) (σ0 : St) (a1 : Int32) (i0 : Inv σ0) : Met l y_X4_look (Cond.code y_X4_look b_X4_look 7 (some .int) :: GW) ({ frames := 5, cells := 0, slots := 0, locals := 121 } : Room) (va_Pc [.ref (r 10), .int a1] (kPreE D cy sz (wB cy r σ0) (gE w g))) ((fun A : Nat → Prop => va_Qi (S := St) (fun (_ : Int32) (τ : St) => (Inv τ ∧ Keep [(10, 3), (10, 4)] [] σ0 τ)) (fun τ => kPost D cy A (wB cy r τ)) A) (va_A (wB cy r σ0) sz)) 0 0 (va_A (wB cy r σ0) sz) := by
  refine k_ofWE (Qc := fun A => va_Qi (S := St) (fun (_ : Int32) (τ : St) => (Inv τ ∧ Keep [(10, 3), (10, 4)] [] σ0 τ)) (fun τ => kPost D cy A (wB cy r τ)) A) (by decide) (Nat.le_of_ble_eq_true rfl) ?_
  intro p e s m below meth c A ls hx hb hr hml hown hlocks hin hg hNW hK hP hD hA hS hl hE
  have hl : lv_has ls 7 [(0, .ref (r 10)), (1, .int a1)] := hl
  have hown : s.vm.findClass "LinkedUnits$Image" = some m.cls := hown
  have b2 : ∀ (N : Nat) (σ : St) (x1 : Int32) (x2 : Int32) (H : Heap) (locs : List Loc) (ls : Array Slot), upm x2 = N → Inv σ → Keep [(10, 3), (10, 4)] [] σ0 σ → va_P D vwCl (wB cy r σ) H → va_D A (wB cy r σ) → va_S A s.heap H locs → lv_has ls 7 [(0, .ref (r 10)), (1, .int x1), (2, .int x2)] → W p l e ({ frames := 5, cells := 0, slots := 0, locals := 121 } : Room) s m (([.ref (r 10), .int a1] : List Value).toArray) below meth c H locs 0 0 (MQ below (va_Qi (S := St) (fun (_ : Int32) (τ : St) => (Inv τ ∧ Keep [(10, 3), (10, 4)] [] σ0 τ)) (fun τ => kPost D cy A (wB cy r τ)) A) (([.ref (r 10), .int a1] : List Value).toArray) s 0 0 A) (F0 m 2 ls []) := by
    intro M2
    induction M2 using Nat.strongRecOn with
    | _ M2 ih2 =>
      intro σ x1 x2 H locs ls N2 inv kp hP hD hS hl
      have b32 : ∀ (N : Nat) (σ : St) (x1 : Int32) (x2 : Int32) (x3 : Int32) (x4 : Int32) (x5 : Int32) (H : Heap) (locs : List Loc) (ls : Array Slot), upm x5 = N → Inv σ → Keep [(10, 3), (10, 4)] [] σ0 σ → upm (x2 + 1) < M2 → va_P D vwCl (wB cy r σ) H → va_D A (wB cy r σ) → va_S A s.heap H locs → lv_has ls 7 [(0, .ref (r 10)), (1, .int x1), (2, .int x2), (3, .int x3), (4, .int x4), (5, .int x5)] → W p l e ({ frames := 5, cells := 0, slots := 0, locals := 121 } : Room) s m (([.ref (r 10), .int a1] : List Value).toArray) below meth c H locs 0 0 (MQ below (va_Qi (S := St) (fun (_ : Int32) (τ : St) => (Inv τ ∧ Keep [(10, 3), (10, 4)] [] σ0 τ)) (fun τ => kPost D cy A (wB cy r τ)) A) (([.ref (r 10), .int a1] : List Value).toArray) s 0 0 A) (F0 m 32 ls []) := by
        intro M32
        induction M32 using Nat.strongRecOn with
        | _ M32 ih32 =>
          intro σ x1 x2 x3 x4 x5 H locs ls N32 inv kp g2 hP hD hS hl
          refine lv_iload hx hb d_X4_look_32 (lv_at hl 5 rfl) ?_
          refine lv_aload_n hx hb d_X4_look_34 rfl (lv_at hl 0 rfl) ?_
          refine va_get (D := D) (ci := 4) (v := .ref (r 5)) (C := "LinkedUnits$Image") (T := TX4) (N := 12) hx hb hg iwX4 hown hK hP 9 rfl rfl 0 (by decide) (hg _ m_597) (fun _ h9 => h9) rfl d_X4_look_35 ?_
          refine va_getN (D := D) (ci := 8) (v := .ref (r 34)) (C := "LinkedUnits$Store") (T := TX8) (N := 18) hx hb hg iwX8 hown hK hP 4 rfl rfl 14 (by decide) (va_Nw.use rfl (hNW.1 _ nm_253)) (fun _ h9 => h9) rfl d_X4_look_38 ?_
          refine lv_iload_n hx hb d_X4_look_41 rfl (lv_at hl 3 rfl) ?_
          refine s_call1 (x := ((r 34), .inl (cy 1, 101, .inl (σ 34)))) 33 rfl (va_runSN (As := [.ref (r 34), .int x3]) (rest := [.int x5]) ⟨hx, hb, hml, hown, hg⟩ (c_at_any l D cy H.size (r 34) 101 (σ 34) x3 (Nat.le_of_ble_eq_true rfl)) ⟨(va_cnB 2 hg (gw_c m_949) rfl rfl rfl (hNW.1 _ nm_1552) (hg _ m_1) (by decide +kernel) ⟨(Nat.le_of_ble_eq_true rfl), (Nat.le_of_ble_eq_true rfl)⟩), hg _ m_948, trivial⟩ (s_pre (ws := [((r 34), .inl (cy 1, 101, .inl (σ 34)))]) (s_sub1 33 hP rfl) (s_subD 33 hD rfl) hK hNW) rfl rfl hl.1 rfl (lv_room (Nat.le_of_ble_eq_true rfl)) d_X4_look_42 ⟨(Nat.le_of_ble_eq_true rfl), (Nat.le_of_ble_eq_true rfl)⟩) hP hD hS hA (fun r1 u1 H locs hw hP hD hS => ?_)
          have hP : va_P D vwCl (wB cy r σ) H := hP
          have hD : va_D A (wB cy r σ) := hD
          refine lv_icmp_ge (tgt := 120) hx hb d_X4_look_45 (by decide) (fun c_45 => ?_) (fun c_45 => ?_)
          · -- taken at 45
            refine lv_iinc (v := (x2 + 1)) (lv' := [(2, .int (x2 + 1)), (0, .ref (r 10)), (1, .int x1), (3, .int x3), (4, .int x4), (5, .int x5)]) hx hb d_X4_look_120 hl (k := 2) rfl rfl (by decide) rfl (fun ls hl => ?_)
            refine lv_goto (tgt := 2) hx hb d_X4_look_123 (by decide) ?_
            exact ih2 _ g2 σ x1 (x2 + 1) _ _ _ rfl inv kp hP hD hS (lv_sub hl [1, 2, 0] rfl)
          · -- not taken at 45
            refine lv_aload_n hx hb d_X4_look_48 rfl (lv_at hl 0 rfl) ?_
            refine va_get (D := D) (ci := 4) (v := .ref (r 5)) (C := "LinkedUnits$Image") (T := TX4) (N := 12) hx hb hg iwX4 hown hK hP 9 rfl rfl 0 (by decide) (hg _ m_597) (fun _ h9 => h9) rfl d_X4_look_49 ?_
            refine lv_iload hx hb d_X4_look_52 (lv_at hl 5 rfl) ?_
            refine lv_iconst (v := 2) hx hb d_X4_look_54 (by decide) ?_
            refine s_calli (X := Unit) (w1 := fun _ => wB cy r σ) (va_runVN (As := [.int x5, .int 2]) (rest := []) ⟨hx, hb, hml, hown, hg⟩ (s_X8_is l D cy H.size w g r σ x5 (2 : Int32) inv ) ⟨(va_cnB 2 hg (gw_c m_1124) rfl rfl rfl (hNW.1 _ nm_1567) (hg _ m_5) (by decide +kernel) ⟨(Nat.le_of_ble_eq_true rfl), (Nat.le_of_ble_eq_true rfl)⟩), (hg _ m_1123), hg _ ms_X8_is⟩ (s_preVE (As := [.int x5, .int 2]) (gE_ok w g) hS hA hE hP hD hK hNW 4 rfl rfl) rfl rfl hl.1 rfl (lv_room (Nat.le_of_ble_eq_true rfl)) d_X4_look_55 ⟨(Nat.le_of_ble_eq_true rfl), (Nat.le_of_ble_eq_true rfl)⟩) hP hD hS hA (fun r2 u2 H locs hw hP hD hS => ?_)
            have hP : va_P D vwCl (wB cy r σ) H := hP
            have hD : va_D A (wB cy r σ) := hD
            have hz2 : r2 = 0 ∨ r2 = 1 := hw.1
            refine lv_if_ne (tgt := 65) hx hb d_X4_look_58 (by decide) (fun c_58 => ?_) (fun c_58 => ?_)
            · -- taken at 58
              refine lv_iconst (v := 0) hx hb d_X4_look_65 (by decide) ?_
              refine lv_istore (lv' := [(6, .int 0), (0, .ref (r 10)), (1, .int x1), (2, .int x2), (3, .int x3), (4, .int x4), (5, .int x5)]) hx hb d_X4_look_66 hl (by decide) rfl (fun ls hl => ?_)
              refine lv_iload hx hb d_X4_look_68 (lv_at hl 0 rfl) ?_
              refine lv_if_eq (tgt := 99) hx hb d_X4_look_70 (by decide) (fun _ => ?_) (fun c_70 => False.elim (by revert c_70; decide))
              refine lv_iload hx hb d_X4_look_99 (lv_at hl 5 rfl) ?_
              refine lv_iload hx hb d_X4_look_101 (lv_at hl 0 rfl) ?_
              refine lv_if_eq (tgt := 110) hx hb d_X4_look_103 (by decide) (fun _ => ?_) (fun c_103 => False.elim (by revert c_103; decide))
              refine lv_iconst (v := 0) hx hb d_X4_look_110 (by decide) ?_
              refine lv_iadd hx hb d_X4_look_111 ?_
              refine lv_istore (lv' := [(4, .int (x4 + 0)), (6, .int 0), (0, .ref (r 10)), (1, .int x1), (2, .int x2), (3, .int x3), (5, .int x5)]) hx hb d_X4_look_112 hl (by decide) rfl (fun ls hl => ?_)
              refine lv_iinc (v := (x5 + 1)) (lv' := [(5, .int (x5 + 1)), (4, .int (x4 + 0)), (6, .int 0), (0, .ref (r 10)), (1, .int x1), (2, .int x2), (3, .int x3)]) hx hb d_X4_look_114 hl (k := 6) rfl rfl (by decide) rfl (fun ls hl => ?_)
              refine lv_goto (tgt := 32) hx hb d_X4_look_117 (by decide) ?_
              exact ih32 _ (Nat.lt_of_lt_of_eq (upm_lt c_45) N32) σ x1 x2 x3 (x4 + 0) (x5 + 1) _ _ _ rfl inv kp g2 hP hD hS (lv_sub hl [3, 4, 5, 6, 1, 0] rfl)
            · -- not taken at 58
              refine lv_iconst (v := 1) hx hb d_X4_look_61 (by decide) ?_
              refine lv_goto (tgt := 66) hx hb d_X4_look_62 (by decide) ?_
              refine lv_istore (lv' := [(6, .int 1), (0, .ref (r 10)), (1, .int x1), (2, .int x2), (3, .int x3), (4, .int x4), (5, .int x5)]) hx hb d_X4_look_66 hl (by decide) rfl (fun ls hl => ?_)
              refine lv_iload hx hb d_X4_look_68 (lv_at hl 0 rfl) ?_
              refine lv_if_eq (tgt := 99) hx hb d_X4_look_70 (by decide) (fun c_70 => absurd c_70 (by decide)) (fun _ => ?_)
              refine lv_aload_n hx hb d_X4_look_73 rfl (lv_at hl 1 rfl) ?_
              refine lv_iload_n hx hb d_X4_look_74 rfl (lv_at hl 2 rfl) ?_
              refine lv_iload_n hx hb d_X4_look_75 rfl (lv_at hl 3 rfl) ?_
              refine lv_iload hx hb d_X4_look_76 (lv_at hl 6 rfl) ?_
              refine s_calli (X := Unit) (w1 := fun _ => wB cy r σ) (va_runV (As := [.int x1, .int x2, .int x5]) (rest := []) ⟨hx, hb, hml, hown, hg⟩ (s_X4_isWrong l D cy H.size w g r σ x1 x2 x5 inv ) (cwV 3 hg (gw_V m_1576 m_1578 ms_X4_isWrong m_15 m_1579) rfl rfl rfl (by decide +kernel) ⟨(Nat.le_of_ble_eq_true rfl), (Nat.le_of_ble_eq_true rfl)⟩) (s_preVE (As := [.int x1, .int x2, .int x5]) (gE_ok w g) hS hA hE hP hD hK hNW 9 rfl rfl) rfl rfl hl.1 rfl (lv_room (Nat.le_of_ble_eq_true rfl)) d_X4_look_78 ⟨(Nat.le_of_ble_eq_true rfl), (Nat.le_of_ble_eq_true rfl)⟩) hP hD hS hA (fun r3 u3 H locs hw hP hD hS => ?_)
              have hP : va_P D vwCl (wB cy r σ) H := hP
              have hD : va_D A (wB cy r σ) := hD
              have hz3 : r3 = 0 ∨ r3 = 1 := hw.1
              refine lv_if_eq (tgt := 99) hx hb d_X4_look_81 (by decide) (fun c_81 => ?_) (fun c_81 => ?_)
              · -- taken at 81
                refine lv_iload hx hb d_X4_look_99 (lv_at hl 5 rfl) ?_
                refine lv_iload hx hb d_X4_look_101 (lv_at hl 0 rfl) ?_
                refine lv_if_eq (tgt := 110) hx hb d_X4_look_103 (by decide) (fun c_103 => absurd c_103 (by decide)) (fun _ => ?_)
                refine lv_iconst (v := 1) hx hb d_X4_look_106 (by decide) ?_
                refine lv_goto (tgt := 111) hx hb d_X4_look_107 (by decide) ?_
                refine lv_iadd hx hb d_X4_look_111 ?_
                refine lv_istore (lv' := [(4, .int (x4 + 1)), (6, .int 1), (0, .ref (r 10)), (1, .int x1), (2, .int x2), (3, .int x3), (5, .int x5)]) hx hb d_X4_look_112 hl (by decide) rfl (fun ls hl => ?_)
                refine lv_iinc (v := (x5 + 1)) (lv' := [(5, .int (x5 + 1)), (4, .int (x4 + 1)), (6, .int 1), (0, .ref (r 10)), (1, .int x1), (2, .int x2), (3, .int x3)]) hx hb d_X4_look_114 hl (k := 6) rfl rfl (by decide) rfl (fun ls hl => ?_)
                refine lv_goto (tgt := 32) hx hb d_X4_look_117 (by decide) ?_
                exact ih32 _ (Nat.lt_of_lt_of_eq (upm_lt c_45) N32) σ x1 x2 x3 (x4 + 1) (x5 + 1) _ _ _ rfl inv kp g2 hP hD hS (lv_sub hl [3, 4, 5, 6, 1, 0] rfl)
              · -- not taken at 81
                refine lv_aload_n hx hb d_X4_look_84 rfl (lv_at hl 1 rfl) ?_
                refine lv_iload_n hx hb d_X4_look_85 rfl (lv_at hl 3 rfl) ?_
                refine lv_iconst (v := 1) hx hb d_X4_look_86 (by decide) ?_
                refine lv_isub hx hb d_X4_look_87 ?_
                refine va_put (D := D) (ci := 4) (v := .int (x2 - 1)) (ty := .int) (C := "LinkedUnits$Image") (T := TX4) (N := 12) hx hb hg iwX4 tyX4 tyX4_ok nmX4 hown hK hP hD hS 9 rfl rfl 3 (by decide) (hg _ m_601) (fun _ h9 => h9) rfl (by decide +kernel) rfl rfl (Nat.le_of_ble_eq_true rfl) d_X4_look_88 (fun H locs hP hD hS => ?_)
                have hP : va_P D vwCl (wB cy r (upC σ 10 3 (x2 - 1))) H := hP
                have hD : va_D A (wB cy r (upC σ 10 3 (x2 - 1))) := hD
                have kp : Keep [(10, 3), (10, 4)] [] σ0 (upC σ 10 3 (x2 - 1)) := keep_f kp (by decide)
                refine lv_aload_n hx hb d_X4_look_91 rfl (lv_at hl 1 rfl) ?_
                refine lv_iload hx hb d_X4_look_92 (lv_at hl 5 rfl) ?_
                refine va_put (D := D) (ci := 4) (v := .int x4) (ty := .int) (C := "LinkedUnits$Image") (T := TX4) (N := 12) hx hb hg iwX4 tyX4 tyX4_ok nmX4 hown hK hP hD hS 9 rfl rfl 4 (by decide) (hg _ m_603) (fun _ h9 => h9) rfl (by decide +kernel) rfl rfl (Nat.le_of_ble_eq_true rfl) d_X4_look_94 (fun H locs hP hD hS => ?_)
                have hP : va_P D vwCl (wB cy r (upC (upC σ 10 3 (x2 - 1)) 10 4 x4)) H := hP
                have hD : va_D A (wB cy r (upC (upC σ 10 3 (x2 - 1)) 10 4 x4)) := hD
                have kp : Keep [(10, 3), (10, 4)] [] σ0 (upC (upC σ 10 3 (x2 - 1)) 10 4 x4) := keep_f kp (by decide)
                refine lv_iload_n hx hb d_X4_look_97 rfl (lv_at hl 2 rfl) ?_
                refine W.widen (k := 0) (n := 0) (Nat.le_of_ble_eq_true rfl) (Nat.le_of_ble_eq_true rfl) ?_
                exact k_iret (X := St) (w1 := fun τ => wB cy r τ) (upC (upC σ 10 3 (x2 - 1)) 10 4 x4) hx hb hr d_X4_look_98 hlocks hP hK hD hS ⟨inv, kp⟩
      refine lv_iload_n hx hb d_X4_look_2 rfl (lv_at hl 2 rfl) ?_
      refine lv_aload_n hx hb d_X4_look_3 rfl (lv_at hl 0 rfl) ?_
      refine va_get (D := D) (ci := 4) (v := .int (σ 10 5)) (C := "LinkedUnits$Image") (T := TX4) (N := 12) hx hb hg iwX4 hown hK hP 9 rfl rfl 5 (by decide) (hg _ m_605) (fun _ h9 => h9) rfl d_X4_look_4 ?_
      refine lv_icmp_ge (tgt := 126) hx hb d_X4_look_7 (by decide) (fun c_7 => ?_) (fun c_7 => ?_)
      · -- taken at 7
        refine lv_iconst (v := 0) hx hb d_X4_look_126 (by decide) ?_
        refine W.widen (k := 0) (n := 0) (Nat.le_of_ble_eq_true rfl) (Nat.le_of_ble_eq_true rfl) ?_
        exact k_iret (X := St) (w1 := fun τ => wB cy r τ) σ hx hb hr d_X4_look_127 hlocks hP hK hD hS ⟨inv, kp⟩
      · -- not taken at 7
        refine lv_aload_n hx hb d_X4_look_10 rfl (lv_at hl 0 rfl) ?_
        refine va_get (D := D) (ci := 4) (v := .ref (r 56)) (C := "LinkedUnits$Image") (T := TX4) (N := 12) hx hb hg iwX4 hown hK hP 9 rfl rfl 6 (by decide) (hg _ m_606) (fun _ h9 => h9) rfl d_X4_look_11 ?_
        refine lv_iload_n hx hb d_X4_look_14 rfl (lv_at hl 2 rfl) ?_
        refine s_call1 (x := ((r 56), .inl (cy 1, 101, .inl (σ 56)))) 53 rfl (va_runSN (As := [.ref (r 56), .int x2]) (rest := []) ⟨hx, hb, hml, hown, hg⟩ (c_at_any l D cy H.size (r 56) 101 (σ 56) x2 (Nat.le_of_ble_eq_true rfl)) ⟨(va_cnB 2 hg (gw_c m_949) rfl rfl rfl (hNW.1 _ nm_1552) (hg _ m_1) (by decide +kernel) ⟨(Nat.le_of_ble_eq_true rfl), (Nat.le_of_ble_eq_true rfl)⟩), hg _ m_948, trivial⟩ (s_pre (ws := [((r 56), .inl (cy 1, 101, .inl (σ 56)))]) (s_sub1 53 hP rfl) (s_subD 53 hD rfl) hK hNW) rfl rfl hl.1 rfl (lv_room (Nat.le_of_ble_eq_true rfl)) d_X4_look_15 ⟨(Nat.le_of_ble_eq_true rfl), (Nat.le_of_ble_eq_true rfl)⟩) hP hD hS hA (fun r4 u4 H locs hw hP hD hS => ?_)
        have hP : va_P D vwCl (wB cy r σ) H := hP
        have hD : va_D A (wB cy r σ) := hD
        refine lv_istore_n (lv' := [(3, .int r4), (0, .ref (r 10)), (1, .int x1), (2, .int x2)]) hx hb d_X4_look_18 rfl hl (by decide) rfl (fun ls hl => ?_)
        refine lv_iconst (v := 0) hx hb d_X4_look_19 (by decide) ?_
        refine lv_istore (lv' := [(4, .int 0), (3, .int r4), (0, .ref (r 10)), (1, .int x1), (2, .int x2)]) hx hb d_X4_look_20 hl (by decide) rfl (fun ls hl => ?_)
        refine lv_aload_n hx hb d_X4_look_22 rfl (lv_at hl 2 rfl) ?_
        refine va_get (D := D) (ci := 4) (v := .ref (r 5)) (C := "LinkedUnits$Image") (T := TX4) (N := 12) hx hb hg iwX4 hown hK hP 9 rfl rfl 0 (by decide) (hg _ m_597) (fun _ h9 => h9) rfl d_X4_look_23 ?_
        refine lv_iload_n hx hb d_X4_look_26 rfl (lv_at hl 1 rfl) ?_
        refine s_calli (X := Unit) (w1 := fun _ => wB cy r σ) (va_runVN (As := [.int r4]) (rest := []) ⟨hx, hb, hml, hown, hg⟩ (s_X8_firstOf l D cy H.size w g r σ r4 inv ) ⟨(va_cnB 1 hg (gw_c m_1524) rfl rfl rfl (hNW.1 _ nm_1566) (hg _ m_5) (by decide +kernel) ⟨(Nat.le_of_ble_eq_true rfl), (Nat.le_of_ble_eq_true rfl)⟩), (hg _ m_1523), hg _ ms_X8_firstOf⟩ (s_preVE (As := [.int r4]) (gE_ok w g) hS hA hE hP hD hK hNW 4 rfl rfl) rfl rfl hl.1 rfl (lv_room (Nat.le_of_ble_eq_true rfl)) d_X4_look_27 ⟨(Nat.le_of_ble_eq_true rfl), (Nat.le_of_ble_eq_true rfl)⟩) hP hD hS hA (fun r5 u5 H locs hw hP hD hS => ?_)
        have hP : va_P D vwCl (wB cy r σ) H := hP
        have hD : va_D A (wB cy r σ) := hD
        refine lv_istore (lv' := [(5, .int r5), (4, .int 0), (3, .int r4), (0, .ref (r 10)), (1, .int x1), (2, .int x2)]) hx hb d_X4_look_30 hl (by decide) rfl (fun ls hl => ?_)
        exact b32 _ σ x1 x2 r4 (0 : Int32) r5 _ _ _ rfl inv kp (Nat.lt_of_lt_of_eq (upm_lt c_7) N2) hP hD hS (lv_sub hl [3, 4, 5, 2, 1, 0] rfl)
  have kp : Keep [(10, 3), (10, 4)] [] σ0 σ0 := keep_rf
  obtain ⟨H, hH⟩ : ∃ H, H = s.heap := ⟨_, rfl⟩
  rw [← hH] at hP
  have hS : va_S A s.heap H [] := by rw [hH]; exact va_S.rf
  have hgoal : W p l e ({ frames := 5, cells := 0, slots := 0, locals := 121 } : Room) s m (([.ref (r 10), .int a1] : List Value).toArray) below meth c H [] 0 0 (MQ below (va_Qi (S := St) (fun (_ : Int32) (τ : St) => (Inv τ ∧ Keep [(10, 3), (10, 4)] [] σ0 τ)) (fun τ => kPost D cy A (wB cy r τ)) A) (([.ref (r 10), .int a1] : List Value).toArray) s 0 0 A) (F0 m 0 ls []) := by
    refine lv_iconst (v := 1) hx hb d_X4_look_0 (by decide) ?_
    refine lv_istore_n (lv' := [(2, .int 1), (0, .ref (r 10)), (1, .int a1)]) hx hb d_X4_look_1 rfl hl (by decide) rfl (fun ls hl => ?_)
    exact b2 _ σ0 a1 (1 : Int32) _ _ _ rfl i0 kp hP hD hS (lv_sub hl [1, 2, 0] rfl)
  rw [hH] at hgoal
  exact hgoal
