set_option maxHeartbeats 4000000 in
set_option maxRecDepth 100000 in
theorem s_X5_reach (l : Launch) (D : va_G) (cy : Nat → ClassId) (sz : Nat) (w : Nat → Nat) (g : Nat → Nat → Int32) (r : Nat → Nat) (σ0 : St) (a1 : Int32) (a2 : Int32) (i0 : Inv σ0) : Met l y_X5_reach (Cond.code y_X5_reach b_X5_reach 6 none :: GW) ({ frames := 3, cells := 0, slots := 0, locals := 67 } : Room) (va_Pc [.ref (r 12), .int a1, .int a2] (kPreE D cy sz (wB cy r σ0) (gE w g))) ((fun A : Nat → Prop => va_Qv (S := St) (fun (τ : St) => (Inv τ ∧ Keep [(12, 9), (12, 13), (12, 16), (12, 17)] [62, 63] σ0 τ)) (fun τ => kPost D cy A (wB cy r τ)) A) (va_A (wB cy r σ0) sz)) 0 0 (va_A (wB cy r σ0) sz) := by
  refine k_ofWE (Qc := fun A => va_Qv (S := St) (fun (τ : St) => (Inv τ ∧ Keep [(12, 9), (12, 13), (12, 16), (12, 17)] [62, 63] σ0 τ)) (fun τ => kPost D cy A (wB cy r τ)) A) (by decide) (Nat.le_of_ble_eq_true rfl) ?_
  intro p e s m below meth c A ls hx hb hr hml hown hlocks hin hg hNW hK hP hD hA hS hl hE
  have hl : lv_has ls 6 [(0, .ref (r 12)), (1, .int a1), (2, .int a2)] := hl
  have hown : s.vm.findClass "LinkedUnits$Machine" = some m.cls := hown
  have kp : Keep [(12, 9), (12, 13), (12, 16), (12, 17)] [62, 63] σ0 σ0 := keep_rf
  obtain ⟨H, hH⟩ : ∃ H, H = s.heap := ⟨_, rfl⟩
  rw [← hH] at hP
  have hS : va_S A s.heap H [] := by rw [hH]; exact va_S.rf
  have hgoal : W p l e ({ frames := 3, cells := 0, slots := 0, locals := 67 } : Room) s m (([.ref (r 12), .int a1, .int a2] : List Value).toArray) below meth c H [] 0 0 (MQ below (va_Qv (S := St) (fun (τ : St) => (Inv τ ∧ Keep [(12, 9), (12, 13), (12, 16), (12, 17)] [62, 63] σ0 τ)) (fun τ => kPost D cy A (wB cy r τ)) A) (([.ref (r 12), .int a1, .int a2] : List Value).toArray) s 0 0 A) (F0 m 0 ls []) := by
    refine lv_aload_n hx hb d_X5_reach_0 rfl (lv_at hl 0 rfl) ?_
    refine va_get (D := D) (ci := 5) (v := .ref (r 24)) (C := "LinkedUnits$Machine") (T := TX5) (N := 19) hx hb hg iwX5 hown hK hP 11 rfl rfl 3 (by decide) (hg _ m_674) (fun _ h9 => h9) rfl d_X5_reach_1 ?_
    refine lv_iload_n hx hb d_X5_reach_4 rfl (lv_at hl 2 rfl) ?_
    refine lv_iconst (v := 1) hx hb d_X5_reach_5 (by decide) ?_
    refine lv_iadd hx hb d_X5_reach_6 ?_
    refine s_call1 (x := ((r 24), .inl (cy 1, 262208, .inl (σ0 24)))) 23 rfl (va_runSN (As := [.ref (r 24), .int (a2 + 1)]) (rest := []) ⟨hx, hb, hml, hown, hg⟩ (c_at_any l D cy H.size (r 24) 262208 (σ0 24) (a2 + 1) (Nat.le_of_ble_eq_true rfl)) ⟨(va_cnB 2 hg (gw_c m_949) rfl rfl rfl (hNW.1 _ nm_1660) (hg _ m_1) (by decide +kernel) ⟨(Nat.le_of_ble_eq_true rfl), (Nat.le_of_ble_eq_true rfl)⟩), hg _ m_948, trivial⟩ (s_pre (ws := [((r 24), .inl (cy 1, 262208, .inl (σ0 24)))]) (s_sub1 23 hP rfl) (s_subD 23 hD rfl) hK hNW) rfl rfl hl.1 rfl (lv_room (Nat.le_of_ble_eq_true rfl)) d_X5_reach_7 ⟨(Nat.le_of_ble_eq_true rfl), (Nat.le_of_ble_eq_true rfl)⟩) hP hD hS hA (fun r1 u1 H locs hw hP hD hS => ?_)
    have hP : va_P D vwCl (wB cy r σ0) H := hP
    have hD : va_D A (wB cy r σ0) := hD
    refine lv_istore_n (lv' := [(3, .int r1), (0, .ref (r 12)), (1, .int a1), (2, .int a2)]) hx hb d_X5_reach_10 rfl hl (by decide) rfl (fun ls hl => ?_)
    refine lv_iload_n hx hb d_X5_reach_11 rfl (lv_at hl 2 rfl) ?_
    refine lv_bipush (v := 19) hx hb d_X5_reach_12 (by decide) ?_
    refine lv_icmp_ne (tgt := 24) hx hb d_X5_reach_14 (by decide) (fun c_14 => ?_) (fun c_14 => ?_)
    · -- taken at 14
      refine lv_iconst (v := 0) hx hb d_X5_reach_24 (by decide) ?_
      refine lv_istore (lv' := [(4, .int 0), (3, .int r1), (0, .ref (r 12)), (1, .int a1), (2, .int a2)]) hx hb d_X5_reach_25 hl (by decide) rfl (fun ls hl => ?_)
      refine lv_aload_n hx hb d_X5_reach_27 rfl (lv_at hl 2 rfl) ?_
      refine s_calli (X := St) (w1 := fun τ => wB cy r τ) (va_runV (As := []) (rest := []) ⟨hx, hb, hml, hown, hg⟩ (s_X5_pop l D cy H.size w g r σ0  i0 ) (cwV 0 hg (gw_V m_1681 m_1683 ms_X5_pop m_17 m_1684) rfl rfl rfl (by decide +kernel) ⟨(Nat.le_of_ble_eq_true rfl), (Nat.le_of_ble_eq_true rfl)⟩) (s_preVE (As := []) (gE_ok w g) hS hA hE hP hD hK hNW 11 rfl rfl) rfl rfl hl.1 rfl (lv_room (Nat.le_of_ble_eq_true rfl)) d_X5_reach_28 ⟨(Nat.le_of_ble_eq_true rfl), (Nat.le_of_ble_eq_true rfl)⟩) hP hD hS hA (fun r2 σ2 H locs hw hP hD hS => ?_)
      have hP : va_P D vwCl (wB cy r σ2) H := hP
      have hD : va_D A (wB cy r σ2) := hD
      have ik2 : Keep [(12, 9)] [] σ0 σ2 := hw.2
      have kp : Keep [(12, 9), (12, 13), (12, 16), (12, 17)] [62, 63] σ0 σ2 := keep_c kp ik2 (by decide) (by decide)
      have i2 : Inv σ2 := hw.1
      refine lv_istore (lv' := [(5, .int r2), (4, .int 0), (3, .int r1), (0, .ref (r 12)), (1, .int a1), (2, .int a2)]) hx hb d_X5_reach_31 hl (by decide) rfl (fun ls hl => ?_)
      refine lv_iload hx hb d_X5_reach_33 (lv_at hl 0 rfl) ?_
      refine s_call0 (va_runS (As := [.int r2]) (rest := []) ⟨hx, hb, hml, hown, hg⟩ (s_X5_isCell l D cy H.size r2 ) (cwS 1 hg (gw_S m_1733 m_1734 m_17 m_1735) rfl rfl rfl (by decide +kernel) ⟨(Nat.le_of_ble_eq_true rfl), (Nat.le_of_ble_eq_true rfl)⟩) (s_pre (ws := []) (A := A) (fun k q h => by simp at h) ⟨fun i j p q h => by simp at h, fun k q h => by simp at h⟩ hK hNW) rfl rfl hl.1 rfl (lv_room (Nat.le_of_ble_eq_true rfl)) d_X5_reach_35 ⟨(Nat.le_of_ble_eq_true rfl), (Nat.le_of_ble_eq_true rfl)⟩) hP hD hS hA (fun r3 u3 H locs hw hP hD hS => ?_)
      have hP : va_P D vwCl (wB cy r σ2) H := hP
      have hD : va_D A (wB cy r σ2) := hD
      have hz3 : r3 = 0 ∨ r3 = 1 := hw.1
      refine lv_if_ne (tgt := 50) hx hb d_X5_reach_38 (by decide) (fun c_38 => ?_) (fun c_38 => ?_)
      · -- taken at 38
        refine lv_iload_n hx hb d_X5_reach_50 rfl (lv_at hl 4 rfl) ?_
        refine lv_bipush (v := 18) hx hb d_X5_reach_51 (by decide) ?_
        refine lv_icmp_ne (tgt := 72) hx hb d_X5_reach_53 (by decide) (fun c_53 => ?_) (fun c_53 => ?_)
        · -- taken at 53
          refine lv_iload_n hx hb d_X5_reach_72 rfl (lv_at hl 4 rfl) ?_
          refine lv_bipush (v := 19) hx hb d_X5_reach_73 (by decide) ?_
          refine lv_icmp_ne (tgt := 98) hx hb d_X5_reach_75 (by decide) (fun c_75 => ?_) (fun c_75 => ?_)
          · -- taken at 75
            refine lv_iload_n hx hb d_X5_reach_98 rfl (lv_at hl 4 rfl) ?_
            refine lv_bipush (v := 20) hx hb d_X5_reach_99 (by decide) ?_
            refine lv_icmp_ne (tgt := 118) hx hb d_X5_reach_101 (by decide) (fun c_101 => ?_) (fun c_101 => ?_)
            · -- taken at 101
              refine lv_aload_n hx hb d_X5_reach_118 rfl (lv_at hl 3 rfl) ?_
              refine lv_iload hx hb d_X5_reach_119 (lv_at hl 0 rfl) ?_
              refine s_callv (X := St) (w1 := fun τ => wB cy r τ) (va_runV (As := [.int r2]) (rest := []) ⟨hx, hb, hml, hown, hg⟩ (s_X5_push l D cy H.size w g r σ2 r2 i2 ) (cwV 1 hg (gw_V m_1686 m_1688 ms_X5_push m_17 m_1689) rfl rfl rfl (by decide +kernel) ⟨(Nat.le_of_ble_eq_true rfl), (Nat.le_of_ble_eq_true rfl)⟩) (s_preVE (As := [.int r2]) (gE_ok w g) hS hA hE hP hD hK hNW 11 rfl rfl) rfl rfl hl.1 rfl (lv_room (Nat.le_of_ble_eq_true rfl)) d_X5_reach_121 ⟨(Nat.le_of_ble_eq_true rfl), (Nat.le_of_ble_eq_true rfl)⟩) hP hD hS hA (fun σ4 H locs hw hP hD hS => ?_)
              have hP : va_P D vwCl (wB cy r σ4) H := hP
              have hD : va_D A (wB cy r σ4) := hD
              have ik4 : Keep [(12, 9)] [63] σ2 σ4 := hw.2
              have kp : Keep [(12, 9), (12, 13), (12, 16), (12, 17)] [62, 63] σ0 σ4 := keep_c kp ik4 (by decide) (by decide)
              have i4 : Inv σ4 := hw.1
              refine lv_aload_n hx hb d_X5_reach_124 rfl (lv_at hl 3 rfl) ?_
              refine lv_aload_n hx hb d_X5_reach_125 rfl (lv_at hl 3 rfl) ?_
              refine va_get (D := D) (ci := 5) (v := .ref (r 62)) (C := "LinkedUnits$Machine") (T := TX5) (N := 19) hx hb hg iwX5 hown hK hP 11 rfl rfl 4 (by decide) (hg _ m_675) (fun _ h9 => h9) rfl d_X5_reach_126 ?_
              refine lv_iload hx hb d_X5_reach_129 (lv_at hl 0 rfl) ?_
              refine s_call1 (x := ((r 62), .inl (cy 1, 32768, .inl (σ4 62)))) 59 rfl (va_runSN (As := [.ref (r 62), .int r2]) (rest := [.ref (r 12)]) ⟨hx, hb, hml, hown, hg⟩ (c_at_any l D cy H.size (r 62) 32768 (σ4 62) r2 (Nat.le_of_ble_eq_true rfl)) ⟨(va_cnB 2 hg (gw_c m_949) rfl rfl rfl (hNW.1 _ nm_1660) (hg _ m_1) (by decide +kernel) ⟨(Nat.le_of_ble_eq_true rfl), (Nat.le_of_ble_eq_true rfl)⟩), hg _ m_948, trivial⟩ (s_pre (ws := [((r 62), .inl (cy 1, 32768, .inl (σ4 62)))]) (s_sub1 59 hP rfl) (s_subD 59 hD rfl) hK hNW) rfl rfl hl.1 rfl (lv_room (Nat.le_of_ble_eq_true rfl)) d_X5_reach_131 ⟨(Nat.le_of_ble_eq_true rfl), (Nat.le_of_ble_eq_true rfl)⟩) hP hD hS hA (fun r5 u5 H locs hw hP hD hS => ?_)
              have hP : va_P D vwCl (wB cy r σ4) H := hP
              have hD : va_D A (wB cy r σ4) := hD
              refine s_callv (X := St) (w1 := fun τ => wB cy r τ) (va_runV (As := [.int r5]) (rest := []) ⟨hx, hb, hml, hown, hg⟩ (s_X5_push l D cy H.size w g r σ4 r5 i4 ) (cwV 1 hg (gw_V m_1686 m_1688 ms_X5_push m_17 m_1689) rfl rfl rfl (by decide +kernel) ⟨(Nat.le_of_ble_eq_true rfl), (Nat.le_of_ble_eq_true rfl)⟩) (s_preVE (As := [.int r5]) (gE_ok w g) hS hA hE hP hD hK hNW 11 rfl rfl) rfl rfl hl.1 rfl (lv_room (Nat.le_of_ble_eq_true rfl)) d_X5_reach_134 ⟨(Nat.le_of_ble_eq_true rfl), (Nat.le_of_ble_eq_true rfl)⟩) hP hD hS hA (fun σ6 H locs hw hP hD hS => ?_)
              have hP : va_P D vwCl (wB cy r σ6) H := hP
              have hD : va_D A (wB cy r σ6) := hD
              have ik6 : Keep [(12, 9)] [63] σ4 σ6 := hw.2
              have kp : Keep [(12, 9), (12, 13), (12, 16), (12, 17)] [62, 63] σ0 σ6 := keep_c kp ik6 (by decide) (by decide)
              have i6 : Inv σ6 := hw.1
              refine W.widen (k := 0) (n := 0) (Nat.le_of_ble_eq_true rfl) (Nat.le_of_ble_eq_true rfl) ?_
              exact k_vret (X := St) (w1 := fun τ => wB cy r τ) σ6 hx hb hr d_X5_reach_137 hlocks hP hK hD hS ⟨i6, kp⟩
            · -- not taken at 101
              refine lv_aload_n hx hb d_X5_reach_104 rfl (lv_at hl 3 rfl) ?_
              refine lv_aload_n hx hb d_X5_reach_105 rfl (lv_at hl 3 rfl) ?_
              refine va_get (D := D) (ci := 5) (v := .ref (r 62)) (C := "LinkedUnits$Machine") (T := TX5) (N := 19) hx hb hg iwX5 hown hK hP 11 rfl rfl 4 (by decide) (hg _ m_675) (fun _ h9 => h9) rfl d_X5_reach_106 ?_
              refine lv_iload hx hb d_X5_reach_109 (lv_at hl 0 rfl) ?_
              refine lv_iload_n hx hb d_X5_reach_111 rfl (lv_at hl 5 rfl) ?_
              refine s_callv (X := St) (w1 := fun τ => wB cy r τ) (va_runV (As := [.ref (r 62), .int r2, .int a2]) (rest := []) ⟨hx, hb, hml, hown, hg⟩ (s_X5_stepped_r12_r62 l D cy H.size w g r σ2 r2 a2 i2 ) (cwV 3 hg (gw_V m_1736 m_1738 ms_X5_stepped m_17 m_1739) rfl rfl rfl (by decide +kernel) ⟨(Nat.le_of_ble_eq_true rfl), (Nat.le_of_ble_eq_true rfl)⟩) (s_preVE (As := [.ref (r 62), .int r2, .int a2]) (gE_ok w g) hS hA hE hP hD hK hNW 11 rfl rfl) rfl rfl hl.1 rfl (lv_room (Nat.le_of_ble_eq_true rfl)) d_X5_reach_112 ⟨(Nat.le_of_ble_eq_true rfl), (Nat.le_of_ble_eq_true rfl)⟩) hP hD hS hA (fun σ7 H locs hw hP hD hS => ?_)
              have hP : va_P D vwCl (wB cy r σ7) H := hP
              have hD : va_D A (wB cy r σ7) := hD
              have ik7 : Keep [(12, 9)] [62, 63] σ2 σ7 := hw.2
              have kp : Keep [(12, 9), (12, 13), (12, 16), (12, 17)] [62, 63] σ0 σ7 := keep_c kp ik7 (by decide) (by decide)
              have i7 : Inv σ7 := hw.1
              refine lv_goto (tgt := 137) hx hb d_X5_reach_115 (by decide) ?_
              refine W.widen (k := 0) (n := 0) (Nat.le_of_ble_eq_true rfl) (Nat.le_of_ble_eq_true rfl) ?_
              exact k_vret (X := St) (w1 := fun τ => wB cy r τ) σ7 hx hb hr d_X5_reach_137 hlocks hP hK hD hS ⟨i7, kp⟩
          · -- not taken at 75
            refine lv_aload_n hx hb d_X5_reach_78 rfl (lv_at hl 3 rfl) ?_
            refine va_get (D := D) (ci := 5) (v := .ref (r 62)) (C := "LinkedUnits$Machine") (T := TX5) (N := 19) hx hb hg iwX5 hown hK hP 11 rfl rfl 4 (by decide) (hg _ m_675) (fun _ h9 => h9) rfl d_X5_reach_79 ?_
            refine lv_iload hx hb d_X5_reach_82 (lv_at hl 0 rfl) ?_
            refine lv_iload hx hb d_X5_reach_84 (lv_at hl 1 rfl) ?_
            refine s_set1 (X := Nat → Int32) (w := fun g => .inl (cy 1, 32768, .inl g)) 59 rfl (va_runSN (As := [.ref (r 62), .int r2, .int 0]) (rest := []) ⟨hx, hb, hml, hown, hg⟩ (c_set_any l D cy H.size (r 62) 32768 (σ2 62) r2 (0 : Int32) (Nat.le_of_ble_eq_true rfl)) ⟨(va_cnB 3 hg (gw_c m_981) rfl rfl rfl (hNW.1 _ nm_1661) (hg _ m_1) (by decide +kernel) ⟨(Nat.le_of_ble_eq_true rfl), (Nat.le_of_ble_eq_true rfl)⟩), hg _ m_980, trivial⟩ (s_pre (ws := [((r 62), .inl (cy 1, 32768, .inl (σ2 62)))]) (s_sub1 59 hP rfl) (s_subD 59 hD rfl) hK hNW) rfl rfl hl.1 rfl (lv_room (Nat.le_of_ble_eq_true rfl)) d_X5_reach_86 ⟨(Nat.le_of_ble_eq_true rfl), (Nat.le_of_ble_eq_true rfl)⟩) hP hD hS hA (fun g8 H locs hw hP hD hS => ?_)
            have hP : va_P D vwCl (wB cy r (upF σ2 62 g8)) H := hP
            have hD : va_D A (wB cy r (upF σ2 62 g8)) := hD
            have kp : Keep [(12, 9), (12, 13), (12, 16), (12, 17)] [62, 63] σ0 (upF σ2 62 g8) := keep_a kp (by decide)
            refine lv_aload_n hx hb d_X5_reach_89 rfl (lv_at hl 3 rfl) ?_
            refine lv_iload hx hb d_X5_reach_90 (lv_at hl 1 rfl) ?_
            refine s_callv (X := St) (w1 := fun τ => wB cy r τ) (va_runV (As := [.int 0]) (rest := []) ⟨hx, hb, hml, hown, hg⟩ (s_X5_push l D cy H.size w g r (upF σ2 62 g8) (0 : Int32) i2 ) (cwV 1 hg (gw_V m_1686 m_1688 ms_X5_push m_17 m_1689) rfl rfl rfl (by decide +kernel) ⟨(Nat.le_of_ble_eq_true rfl), (Nat.le_of_ble_eq_true rfl)⟩) (s_preVE (As := [.int 0]) (gE_ok w g) hS hA hE hP hD hK hNW 11 rfl rfl) rfl rfl hl.1 rfl (lv_room (Nat.le_of_ble_eq_true rfl)) d_X5_reach_92 ⟨(Nat.le_of_ble_eq_true rfl), (Nat.le_of_ble_eq_true rfl)⟩) hP hD hS hA (fun σ9 H locs hw hP hD hS => ?_)
            have hP : va_P D vwCl (wB cy r σ9) H := hP
            have hD : va_D A (wB cy r σ9) := hD
            have ik9 : Keep [(12, 9)] [63] (upF σ2 62 g8) σ9 := hw.2
            have kp : Keep [(12, 9), (12, 13), (12, 16), (12, 17)] [62, 63] σ0 σ9 := keep_c kp ik9 (by decide) (by decide)
            have i9 : Inv σ9 := hw.1
            refine lv_goto (tgt := 137) hx hb d_X5_reach_95 (by decide) ?_
            refine W.widen (k := 0) (n := 0) (Nat.le_of_ble_eq_true rfl) (Nat.le_of_ble_eq_true rfl) ?_
            exact k_vret (X := St) (w1 := fun τ => wB cy r τ) σ9 hx hb hr d_X5_reach_137 hlocks hP hK hD hS ⟨i9, kp⟩
        · -- not taken at 53
          refine lv_aload_n hx hb d_X5_reach_56 rfl (lv_at hl 3 rfl) ?_
          refine lv_aload_n hx hb d_X5_reach_57 rfl (lv_at hl 3 rfl) ?_
          refine va_get (D := D) (ci := 5) (v := .ref (r 62)) (C := "LinkedUnits$Machine") (T := TX5) (N := 19) hx hb hg iwX5 hown hK hP 11 rfl rfl 4 (by decide) (hg _ m_675) (fun _ h9 => h9) rfl d_X5_reach_58 ?_
          refine lv_iload hx hb d_X5_reach_61 (lv_at hl 0 rfl) ?_
          refine s_call1 (x := ((r 62), .inl (cy 1, 32768, .inl (σ2 62)))) 59 rfl (va_runSN (As := [.ref (r 62), .int r2]) (rest := [.ref (r 12)]) ⟨hx, hb, hml, hown, hg⟩ (c_at_any l D cy H.size (r 62) 32768 (σ2 62) r2 (Nat.le_of_ble_eq_true rfl)) ⟨(va_cnB 2 hg (gw_c m_949) rfl rfl rfl (hNW.1 _ nm_1660) (hg _ m_1) (by decide +kernel) ⟨(Nat.le_of_ble_eq_true rfl), (Nat.le_of_ble_eq_true rfl)⟩), hg _ m_948, trivial⟩ (s_pre (ws := [((r 62), .inl (cy 1, 32768, .inl (σ2 62)))]) (s_sub1 59 hP rfl) (s_subD 59 hD rfl) hK hNW) rfl rfl hl.1 rfl (lv_room (Nat.le_of_ble_eq_true rfl)) d_X5_reach_63 ⟨(Nat.le_of_ble_eq_true rfl), (Nat.le_of_ble_eq_true rfl)⟩) hP hD hS hA (fun r10 u10 H locs hw hP hD hS => ?_)
          have hP : va_P D vwCl (wB cy r σ2) H := hP
          have hD : va_D A (wB cy r σ2) := hD
          refine s_callv (X := St) (w1 := fun τ => wB cy r τ) (va_runV (As := [.int r10]) (rest := []) ⟨hx, hb, hml, hown, hg⟩ (s_X5_push l D cy H.size w g r σ2 r10 i2 ) (cwV 1 hg (gw_V m_1686 m_1688 ms_X5_push m_17 m_1689) rfl rfl rfl (by decide +kernel) ⟨(Nat.le_of_ble_eq_true rfl), (Nat.le_of_ble_eq_true rfl)⟩) (s_preVE (As := [.int r10]) (gE_ok w g) hS hA hE hP hD hK hNW 11 rfl rfl) rfl rfl hl.1 rfl (lv_room (Nat.le_of_ble_eq_true rfl)) d_X5_reach_66 ⟨(Nat.le_of_ble_eq_true rfl), (Nat.le_of_ble_eq_true rfl)⟩) hP hD hS hA (fun σ11 H locs hw hP hD hS => ?_)
          have hP : va_P D vwCl (wB cy r σ11) H := hP
          have hD : va_D A (wB cy r σ11) := hD
          have ik11 : Keep [(12, 9)] [63] σ2 σ11 := hw.2
          have kp : Keep [(12, 9), (12, 13), (12, 16), (12, 17)] [62, 63] σ0 σ11 := keep_c kp ik11 (by decide) (by decide)
          have i11 : Inv σ11 := hw.1
          refine lv_goto (tgt := 137) hx hb d_X5_reach_69 (by decide) ?_
          refine W.widen (k := 0) (n := 0) (Nat.le_of_ble_eq_true rfl) (Nat.le_of_ble_eq_true rfl) ?_
          exact k_vret (X := St) (w1 := fun τ => wB cy r τ) σ11 hx hb hr d_X5_reach_137 hlocks hP hK hD hS ⟨i11, kp⟩
      · -- not taken at 38
        refine lv_aload_n hx hb d_X5_reach_41 rfl (lv_at hl 3 rfl) ?_
        refine lv_iconst (v := 2) hx hb d_X5_reach_42 (by decide) ?_
        refine lv_iload_n hx hb d_X5_reach_43 rfl (lv_at hl 2 rfl) ?_
        refine s_callv (X := St) (w1 := fun τ => wB cy r τ) (va_runV (As := [.int 2, .int r1]) (rest := []) ⟨hx, hb, hml, hown, hg⟩ (s_X5_fail l D cy H.size w g r σ2 (2 : Int32) r1 i2 ) (cwV 2 hg (gw_V m_1656 m_1658 ms_X5_fail m_17 m_1659) rfl rfl rfl (by decide +kernel) ⟨(Nat.le_of_ble_eq_true rfl), (Nat.le_of_ble_eq_true rfl)⟩) (s_preVE (As := [.int 2, .int r1]) (gE_ok w g) hS hA hE hP hD hK hNW 11 rfl rfl) rfl rfl hl.1 rfl (lv_room (Nat.le_of_ble_eq_true rfl)) d_X5_reach_44 ⟨(Nat.le_of_ble_eq_true rfl), (Nat.le_of_ble_eq_true rfl)⟩) hP hD hS hA (fun σ12 H locs hw hP hD hS => ?_)
        have hP : va_P D vwCl (wB cy r σ12) H := hP
        have hD : va_D A (wB cy r σ12) := hD
        have ik12 : Keep [(12, 13), (12, 16), (12, 17)] [] σ2 σ12 := hw.2
        have kp : Keep [(12, 9), (12, 13), (12, 16), (12, 17)] [62, 63] σ0 σ12 := keep_c kp ik12 (by decide) (by decide)
        have i12 : Inv σ12 := hw.1
        refine lv_goto (tgt := 137) hx hb d_X5_reach_47 (by decide) ?_
        refine W.widen (k := 0) (n := 0) (Nat.le_of_ble_eq_true rfl) (Nat.le_of_ble_eq_true rfl) ?_
        exact k_vret (X := St) (w1 := fun τ => wB cy r τ) σ12 hx hb hr d_X5_reach_137 hlocks hP hK hD hS ⟨i12, kp⟩
    · -- not taken at 14
      refine lv_aload_n hx hb d_X5_reach_17 rfl (lv_at hl 1 rfl) ?_
      refine s_calli (X := St) (w1 := fun τ => wB cy r τ) (va_runV (As := []) (rest := []) ⟨hx, hb, hml, hown, hg⟩ (s_X5_pop l D cy H.size w g r σ0  i0 ) (cwV 0 hg (gw_V m_1681 m_1683 ms_X5_pop m_17 m_1684) rfl rfl rfl (by decide +kernel) ⟨(Nat.le_of_ble_eq_true rfl), (Nat.le_of_ble_eq_true rfl)⟩) (s_preVE (As := []) (gE_ok w g) hS hA hE hP hD hK hNW 11 rfl rfl) rfl rfl hl.1 rfl (lv_room (Nat.le_of_ble_eq_true rfl)) d_X5_reach_18 ⟨(Nat.le_of_ble_eq_true rfl), (Nat.le_of_ble_eq_true rfl)⟩) hP hD hS hA (fun r13 σ13 H locs hw hP hD hS => ?_)
      have hP : va_P D vwCl (wB cy r σ13) H := hP
      have hD : va_D A (wB cy r σ13) := hD
      have ik13 : Keep [(12, 9)] [] σ0 σ13 := hw.2
      have kp : Keep [(12, 9), (12, 13), (12, 16), (12, 17)] [62, 63] σ0 σ13 := keep_c kp ik13 (by decide) (by decide)
      have i13 : Inv σ13 := hw.1
      refine lv_goto (tgt := 25) hx hb d_X5_reach_21 (by decide) ?_
      refine lv_istore (lv' := [(4, .int r13), (3, .int r1), (0, .ref (r 12)), (1, .int a1), (2, .int a2)]) hx hb d_X5_reach_25 hl (by decide) rfl (fun ls hl => ?_)
      refine lv_aload_n hx hb d_X5_reach_27 rfl (lv_at hl 2 rfl) ?_
      refine s_calli (X := St) (w1 := fun τ => wB cy r τ) (va_runV (As := []) (rest := []) ⟨hx, hb, hml, hown, hg⟩ (s_X5_pop l D cy H.size w g r σ13  i13 ) (cwV 0 hg (gw_V m_1681 m_1683 ms_X5_pop m_17 m_1684) rfl rfl rfl (by decide +kernel) ⟨(Nat.le_of_ble_eq_true rfl), (Nat.le_of_ble_eq_true rfl)⟩) (s_preVE (As := []) (gE_ok w g) hS hA hE hP hD hK hNW 11 rfl rfl) rfl rfl hl.1 rfl (lv_room (Nat.le_of_ble_eq_true rfl)) d_X5_reach_28 ⟨(Nat.le_of_ble_eq_true rfl), (Nat.le_of_ble_eq_true rfl)⟩) hP hD hS hA (fun r14 σ14 H locs hw hP hD hS => ?_)
      have hP : va_P D vwCl (wB cy r σ14) H := hP
      have hD : va_D A (wB cy r σ14) := hD
      have ik14 : Keep [(12, 9)] [] σ13 σ14 := hw.2
      have kp : Keep [(12, 9), (12, 13), (12, 16), (12, 17)] [62, 63] σ0 σ14 := keep_c kp ik14 (by decide) (by decide)
      have i14 : Inv σ14 := hw.1
      refine lv_istore (lv' := [(5, .int r14), (4, .int r13), (3, .int r1), (0, .ref (r 12)), (1, .int a1), (2, .int a2)]) hx hb d_X5_reach_31 hl (by decide) rfl (fun ls hl => ?_)
      refine lv_iload hx hb d_X5_reach_33 (lv_at hl 0 rfl) ?_
      refine s_call0 (va_runS (As := [.int r14]) (rest := []) ⟨hx, hb, hml, hown, hg⟩ (s_X5_isCell l D cy H.size r14 ) (cwS 1 hg (gw_S m_1733 m_1734 m_17 m_1735) rfl rfl rfl (by decide +kernel) ⟨(Nat.le_of_ble_eq_true rfl), (Nat.le_of_ble_eq_true rfl)⟩) (s_pre (ws := []) (A := A) (fun k q h => by simp at h) ⟨fun i j p q h => by simp at h, fun k q h => by simp at h⟩ hK hNW) rfl rfl hl.1 rfl (lv_room (Nat.le_of_ble_eq_true rfl)) d_X5_reach_35 ⟨(Nat.le_of_ble_eq_true rfl), (Nat.le_of_ble_eq_true rfl)⟩) hP hD hS hA (fun r15 u15 H locs hw hP hD hS => ?_)
      have hP : va_P D vwCl (wB cy r σ14) H := hP
      have hD : va_D A (wB cy r σ14) := hD
      have hz15 : r15 = 0 ∨ r15 = 1 := hw.1
      refine lv_if_ne (tgt := 50) hx hb d_X5_reach_38 (by decide) (fun c_38 => ?_) (fun c_38 => ?_)
      · -- taken at 38
        refine lv_iload_n hx hb d_X5_reach_50 rfl (lv_at hl 4 rfl) ?_
        refine lv_bipush (v := 18) hx hb d_X5_reach_51 (by decide) ?_
        refine lv_icmp_ne (tgt := 72) hx hb d_X5_reach_53 (by decide) (fun c_53 => ?_) (fun c_53 => ?_)
        · -- taken at 53
          refine lv_iload_n hx hb d_X5_reach_72 rfl (lv_at hl 4 rfl) ?_
          refine lv_bipush (v := 19) hx hb d_X5_reach_73 (by decide) ?_
          refine lv_icmp_ne (tgt := 98) hx hb d_X5_reach_75 (by decide) (fun c_75 => ?_) (fun c_75 => ?_)
          · -- taken at 75
            refine lv_iload_n hx hb d_X5_reach_98 rfl (lv_at hl 4 rfl) ?_
            refine lv_bipush (v := 20) hx hb d_X5_reach_99 (by decide) ?_
            refine lv_icmp_ne (tgt := 118) hx hb d_X5_reach_101 (by decide) (fun c_101 => ?_) (fun c_101 => ?_)
            · -- taken at 101
              refine lv_aload_n hx hb d_X5_reach_118 rfl (lv_at hl 3 rfl) ?_
              refine lv_iload hx hb d_X5_reach_119 (lv_at hl 0 rfl) ?_
              refine s_callv (X := St) (w1 := fun τ => wB cy r τ) (va_runV (As := [.int r14]) (rest := []) ⟨hx, hb, hml, hown, hg⟩ (s_X5_push l D cy H.size w g r σ14 r14 i14 ) (cwV 1 hg (gw_V m_1686 m_1688 ms_X5_push m_17 m_1689) rfl rfl rfl (by decide +kernel) ⟨(Nat.le_of_ble_eq_true rfl), (Nat.le_of_ble_eq_true rfl)⟩) (s_preVE (As := [.int r14]) (gE_ok w g) hS hA hE hP hD hK hNW 11 rfl rfl) rfl rfl hl.1 rfl (lv_room (Nat.le_of_ble_eq_true rfl)) d_X5_reach_121 ⟨(Nat.le_of_ble_eq_true rfl), (Nat.le_of_ble_eq_true rfl)⟩) hP hD hS hA (fun σ16 H locs hw hP hD hS => ?_)
              have hP : va_P D vwCl (wB cy r σ16) H := hP
              have hD : va_D A (wB cy r σ16) := hD
              have ik16 : Keep [(12, 9)] [63] σ14 σ16 := hw.2
              have kp : Keep [(12, 9), (12, 13), (12, 16), (12, 17)] [62, 63] σ0 σ16 := keep_c kp ik16 (by decide) (by decide)
              have i16 : Inv σ16 := hw.1
              refine lv_aload_n hx hb d_X5_reach_124 rfl (lv_at hl 3 rfl) ?_
              refine lv_aload_n hx hb d_X5_reach_125 rfl (lv_at hl 3 rfl) ?_
              refine va_get (D := D) (ci := 5) (v := .ref (r 62)) (C := "LinkedUnits$Machine") (T := TX5) (N := 19) hx hb hg iwX5 hown hK hP 11 rfl rfl 4 (by decide) (hg _ m_675) (fun _ h9 => h9) rfl d_X5_reach_126 ?_
              refine lv_iload hx hb d_X5_reach_129 (lv_at hl 0 rfl) ?_
              refine s_call1 (x := ((r 62), .inl (cy 1, 32768, .inl (σ16 62)))) 59 rfl (va_runSN (As := [.ref (r 62), .int r14]) (rest := [.ref (r 12)]) ⟨hx, hb, hml, hown, hg⟩ (c_at_any l D cy H.size (r 62) 32768 (σ16 62) r14 (Nat.le_of_ble_eq_true rfl)) ⟨(va_cnB 2 hg (gw_c m_949) rfl rfl rfl (hNW.1 _ nm_1660) (hg _ m_1) (by decide +kernel) ⟨(Nat.le_of_ble_eq_true rfl), (Nat.le_of_ble_eq_true rfl)⟩), hg _ m_948, trivial⟩ (s_pre (ws := [((r 62), .inl (cy 1, 32768, .inl (σ16 62)))]) (s_sub1 59 hP rfl) (s_subD 59 hD rfl) hK hNW) rfl rfl hl.1 rfl (lv_room (Nat.le_of_ble_eq_true rfl)) d_X5_reach_131 ⟨(Nat.le_of_ble_eq_true rfl), (Nat.le_of_ble_eq_true rfl)⟩) hP hD hS hA (fun r17 u17 H locs hw hP hD hS => ?_)
              have hP : va_P D vwCl (wB cy r σ16) H := hP
              have hD : va_D A (wB cy r σ16) := hD
              refine s_callv (X := St) (w1 := fun τ => wB cy r τ) (va_runV (As := [.int r17]) (rest := []) ⟨hx, hb, hml, hown, hg⟩ (s_X5_push l D cy H.size w g r σ16 r17 i16 ) (cwV 1 hg (gw_V m_1686 m_1688 ms_X5_push m_17 m_1689) rfl rfl rfl (by decide +kernel) ⟨(Nat.le_of_ble_eq_true rfl), (Nat.le_of_ble_eq_true rfl)⟩) (s_preVE (As := [.int r17]) (gE_ok w g) hS hA hE hP hD hK hNW 11 rfl rfl) rfl rfl hl.1 rfl (lv_room (Nat.le_of_ble_eq_true rfl)) d_X5_reach_134 ⟨(Nat.le_of_ble_eq_true rfl), (Nat.le_of_ble_eq_true rfl)⟩) hP hD hS hA (fun σ18 H locs hw hP hD hS => ?_)
              have hP : va_P D vwCl (wB cy r σ18) H := hP
              have hD : va_D A (wB cy r σ18) := hD
              have ik18 : Keep [(12, 9)] [63] σ16 σ18 := hw.2
              have kp : Keep [(12, 9), (12, 13), (12, 16), (12, 17)] [62, 63] σ0 σ18 := keep_c kp ik18 (by decide) (by decide)
              have i18 : Inv σ18 := hw.1
              refine W.widen (k := 0) (n := 0) (Nat.le_of_ble_eq_true rfl) (Nat.le_of_ble_eq_true rfl) ?_
              exact k_vret (X := St) (w1 := fun τ => wB cy r τ) σ18 hx hb hr d_X5_reach_137 hlocks hP hK hD hS ⟨i18, kp⟩
            · -- not taken at 101
              refine lv_aload_n hx hb d_X5_reach_104 rfl (lv_at hl 3 rfl) ?_
              refine lv_aload_n hx hb d_X5_reach_105 rfl (lv_at hl 3 rfl) ?_
              refine va_get (D := D) (ci := 5) (v := .ref (r 62)) (C := "LinkedUnits$Machine") (T := TX5) (N := 19) hx hb hg iwX5 hown hK hP 11 rfl rfl 4 (by decide) (hg _ m_675) (fun _ h9 => h9) rfl d_X5_reach_106 ?_
              refine lv_iload hx hb d_X5_reach_109 (lv_at hl 0 rfl) ?_
              refine lv_iload_n hx hb d_X5_reach_111 rfl (lv_at hl 5 rfl) ?_
              refine s_callv (X := St) (w1 := fun τ => wB cy r τ) (va_runV (As := [.ref (r 62), .int r14, .int a2]) (rest := []) ⟨hx, hb, hml, hown, hg⟩ (s_X5_stepped_r12_r62 l D cy H.size w g r σ14 r14 a2 i14 ) (cwV 3 hg (gw_V m_1736 m_1738 ms_X5_stepped m_17 m_1739) rfl rfl rfl (by decide +kernel) ⟨(Nat.le_of_ble_eq_true rfl), (Nat.le_of_ble_eq_true rfl)⟩) (s_preVE (As := [.ref (r 62), .int r14, .int a2]) (gE_ok w g) hS hA hE hP hD hK hNW 11 rfl rfl) rfl rfl hl.1 rfl (lv_room (Nat.le_of_ble_eq_true rfl)) d_X5_reach_112 ⟨(Nat.le_of_ble_eq_true rfl), (Nat.le_of_ble_eq_true rfl)⟩) hP hD hS hA (fun σ19 H locs hw hP hD hS => ?_)
              have hP : va_P D vwCl (wB cy r σ19) H := hP
              have hD : va_D A (wB cy r σ19) := hD
              have ik19 : Keep [(12, 9)] [62, 63] σ14 σ19 := hw.2
              have kp : Keep [(12, 9), (12, 13), (12, 16), (12, 17)] [62, 63] σ0 σ19 := keep_c kp ik19 (by decide) (by decide)
              have i19 : Inv σ19 := hw.1
              refine lv_goto (tgt := 137) hx hb d_X5_reach_115 (by decide) ?_
              refine W.widen (k := 0) (n := 0) (Nat.le_of_ble_eq_true rfl) (Nat.le_of_ble_eq_true rfl) ?_
              exact k_vret (X := St) (w1 := fun τ => wB cy r τ) σ19 hx hb hr d_X5_reach_137 hlocks hP hK hD hS ⟨i19, kp⟩
          · -- not taken at 75
            refine lv_aload_n hx hb d_X5_reach_78 rfl (lv_at hl 3 rfl) ?_
            refine va_get (D := D) (ci := 5) (v := .ref (r 62)) (C := "LinkedUnits$Machine") (T := TX5) (N := 19) hx hb hg iwX5 hown hK hP 11 rfl rfl 4 (by decide) (hg _ m_675) (fun _ h9 => h9) rfl d_X5_reach_79 ?_
            refine lv_iload hx hb d_X5_reach_82 (lv_at hl 0 rfl) ?_
            refine lv_iload hx hb d_X5_reach_84 (lv_at hl 1 rfl) ?_
            refine s_set1 (X := Nat → Int32) (w := fun g => .inl (cy 1, 32768, .inl g)) 59 rfl (va_runSN (As := [.ref (r 62), .int r14, .int r13]) (rest := []) ⟨hx, hb, hml, hown, hg⟩ (c_set_any l D cy H.size (r 62) 32768 (σ14 62) r14 r13 (Nat.le_of_ble_eq_true rfl)) ⟨(va_cnB 3 hg (gw_c m_981) rfl rfl rfl (hNW.1 _ nm_1661) (hg _ m_1) (by decide +kernel) ⟨(Nat.le_of_ble_eq_true rfl), (Nat.le_of_ble_eq_true rfl)⟩), hg _ m_980, trivial⟩ (s_pre (ws := [((r 62), .inl (cy 1, 32768, .inl (σ14 62)))]) (s_sub1 59 hP rfl) (s_subD 59 hD rfl) hK hNW) rfl rfl hl.1 rfl (lv_room (Nat.le_of_ble_eq_true rfl)) d_X5_reach_86 ⟨(Nat.le_of_ble_eq_true rfl), (Nat.le_of_ble_eq_true rfl)⟩) hP hD hS hA (fun g20 H locs hw hP hD hS => ?_)
            have hP : va_P D vwCl (wB cy r (upF σ14 62 g20)) H := hP
            have hD : va_D A (wB cy r (upF σ14 62 g20)) := hD
            have kp : Keep [(12, 9), (12, 13), (12, 16), (12, 17)] [62, 63] σ0 (upF σ14 62 g20) := keep_a kp (by decide)
            refine lv_aload_n hx hb d_X5_reach_89 rfl (lv_at hl 3 rfl) ?_
            refine lv_iload hx hb d_X5_reach_90 (lv_at hl 1 rfl) ?_
            refine s_callv (X := St) (w1 := fun τ => wB cy r τ) (va_runV (As := [.int r13]) (rest := []) ⟨hx, hb, hml, hown, hg⟩ (s_X5_push l D cy H.size w g r (upF σ14 62 g20) r13 i14 ) (cwV 1 hg (gw_V m_1686 m_1688 ms_X5_push m_17 m_1689) rfl rfl rfl (by decide +kernel) ⟨(Nat.le_of_ble_eq_true rfl), (Nat.le_of_ble_eq_true rfl)⟩) (s_preVE (As := [.int r13]) (gE_ok w g) hS hA hE hP hD hK hNW 11 rfl rfl) rfl rfl hl.1 rfl (lv_room (Nat.le_of_ble_eq_true rfl)) d_X5_reach_92 ⟨(Nat.le_of_ble_eq_true rfl), (Nat.le_of_ble_eq_true rfl)⟩) hP hD hS hA (fun σ21 H locs hw hP hD hS => ?_)
            have hP : va_P D vwCl (wB cy r σ21) H := hP
            have hD : va_D A (wB cy r σ21) := hD
            have ik21 : Keep [(12, 9)] [63] (upF σ14 62 g20) σ21 := hw.2
            have kp : Keep [(12, 9), (12, 13), (12, 16), (12, 17)] [62, 63] σ0 σ21 := keep_c kp ik21 (by decide) (by decide)
            have i21 : Inv σ21 := hw.1
            refine lv_goto (tgt := 137) hx hb d_X5_reach_95 (by decide) ?_
            refine W.widen (k := 0) (n := 0) (Nat.le_of_ble_eq_true rfl) (Nat.le_of_ble_eq_true rfl) ?_
            exact k_vret (X := St) (w1 := fun τ => wB cy r τ) σ21 hx hb hr d_X5_reach_137 hlocks hP hK hD hS ⟨i21, kp⟩
        · -- not taken at 53
          refine lv_aload_n hx hb d_X5_reach_56 rfl (lv_at hl 3 rfl) ?_
          refine lv_aload_n hx hb d_X5_reach_57 rfl (lv_at hl 3 rfl) ?_
          refine va_get (D := D) (ci := 5) (v := .ref (r 62)) (C := "LinkedUnits$Machine") (T := TX5) (N := 19) hx hb hg iwX5 hown hK hP 11 rfl rfl 4 (by decide) (hg _ m_675) (fun _ h9 => h9) rfl d_X5_reach_58 ?_
          refine lv_iload hx hb d_X5_reach_61 (lv_at hl 0 rfl) ?_
          refine s_call1 (x := ((r 62), .inl (cy 1, 32768, .inl (σ14 62)))) 59 rfl (va_runSN (As := [.ref (r 62), .int r14]) (rest := [.ref (r 12)]) ⟨hx, hb, hml, hown, hg⟩ (c_at_any l D cy H.size (r 62) 32768 (σ14 62) r14 (Nat.le_of_ble_eq_true rfl)) ⟨(va_cnB 2 hg (gw_c m_949) rfl rfl rfl (hNW.1 _ nm_1660) (hg _ m_1) (by decide +kernel) ⟨(Nat.le_of_ble_eq_true rfl), (Nat.le_of_ble_eq_true rfl)⟩), hg _ m_948, trivial⟩ (s_pre (ws := [((r 62), .inl (cy 1, 32768, .inl (σ14 62)))]) (s_sub1 59 hP rfl) (s_subD 59 hD rfl) hK hNW) rfl rfl hl.1 rfl (lv_room (Nat.le_of_ble_eq_true rfl)) d_X5_reach_63 ⟨(Nat.le_of_ble_eq_true rfl), (Nat.le_of_ble_eq_true rfl)⟩) hP hD hS hA (fun r22 u22 H locs hw hP hD hS => ?_)
          have hP : va_P D vwCl (wB cy r σ14) H := hP
          have hD : va_D A (wB cy r σ14) := hD
          refine s_callv (X := St) (w1 := fun τ => wB cy r τ) (va_runV (As := [.int r22]) (rest := []) ⟨hx, hb, hml, hown, hg⟩ (s_X5_push l D cy H.size w g r σ14 r22 i14 ) (cwV 1 hg (gw_V m_1686 m_1688 ms_X5_push m_17 m_1689) rfl rfl rfl (by decide +kernel) ⟨(Nat.le_of_ble_eq_true rfl), (Nat.le_of_ble_eq_true rfl)⟩) (s_preVE (As := [.int r22]) (gE_ok w g) hS hA hE hP hD hK hNW 11 rfl rfl) rfl rfl hl.1 rfl (lv_room (Nat.le_of_ble_eq_true rfl)) d_X5_reach_66 ⟨(Nat.le_of_ble_eq_true rfl), (Nat.le_of_ble_eq_true rfl)⟩) hP hD hS hA (fun σ23 H locs hw hP hD hS => ?_)
          have hP : va_P D vwCl (wB cy r σ23) H := hP
          have hD : va_D A (wB cy r σ23) := hD
          have ik23 : Keep [(12, 9)] [63] σ14 σ23 := hw.2
          have kp : Keep [(12, 9), (12, 13), (12, 16), (12, 17)] [62, 63] σ0 σ23 := keep_c kp ik23 (by decide) (by decide)
          have i23 : Inv σ23 := hw.1
          refine lv_goto (tgt := 137) hx hb d_X5_reach_69 (by decide) ?_
          refine W.widen (k := 0) (n := 0) (Nat.le_of_ble_eq_true rfl) (Nat.le_of_ble_eq_true rfl) ?_
          exact k_vret (X := St) (w1 := fun τ => wB cy r τ) σ23 hx hb hr d_X5_reach_137 hlocks hP hK hD hS ⟨i23, kp⟩
      · -- not taken at 38
        refine lv_aload_n hx hb d_X5_reach_41 rfl (lv_at hl 3 rfl) ?_
        refine lv_iconst (v := 2) hx hb d_X5_reach_42 (by decide) ?_
        refine lv_iload_n hx hb d_X5_reach_43 rfl (lv_at hl 2 rfl) ?_
        refine s_callv (X := St) (w1 := fun τ => wB cy r τ) (va_runV (As := [.int 2, .int r1]) (rest := []) ⟨hx, hb, hml, hown, hg⟩ (s_X5_fail l D cy H.size w g r σ14 (2 : Int32) r1 i14 ) (cwV 2 hg (gw_V m_1656 m_1658 ms_X5_fail m_17 m_1659) rfl rfl rfl (by decide +kernel) ⟨(Nat.le_of_ble_eq_true rfl), (Nat.le_of_ble_eq_true rfl)⟩) (s_preVE (As := [.int 2, .int r1]) (gE_ok w g) hS hA hE hP hD hK hNW 11 rfl rfl) rfl rfl hl.1 rfl (lv_room (Nat.le_of_ble_eq_true rfl)) d_X5_reach_44 ⟨(Nat.le_of_ble_eq_true rfl), (Nat.le_of_ble_eq_true rfl)⟩) hP hD hS hA (fun σ24 H locs hw hP hD hS => ?_)
        have hP : va_P D vwCl (wB cy r σ24) H := hP
        have hD : va_D A (wB cy r σ24) := hD
        have ik24 : Keep [(12, 13), (12, 16), (12, 17)] [] σ14 σ24 := hw.2
        have kp : Keep [(12, 9), (12, 13), (12, 16), (12, 17)] [62, 63] σ0 σ24 := keep_c kp ik24 (by decide) (by decide)
        have i24 : Inv σ24 := hw.1
        refine lv_goto (tgt := 137) hx hb d_X5_reach_47 (by decide) ?_
        refine W.widen (k := 0) (n := 0) (Nat.le_of_ble_eq_true rfl) (Nat.le_of_ble_eq_true rfl) ?_
        exact k_vret (X := St) (w1 := fun τ => wB cy r τ) σ24 hx hb hr d_X5_reach_137 hlocks hP hK hD hS ⟨i24, kp⟩
  rw [hH] at hgoal
  exact hgoal
set_option maxHeartbeats 4000000 in
set_option maxRecDepth 100000 in
theorem s_X5_inFrame (l : Launch) (D : va_G) (cy : Nat → ClassId) (sz : Nat) (w : Nat → Nat) (g : Nat → Nat → Int32) (r : Nat → Nat) (σ0 : St) (a1 : Int32) (a2 : Int32) (i0 : Inv σ0) : Met l y_X5_inFrame (Cond.code y_X5_inFrame b_X5_inFrame 6 none :: GW) ({ frames := 3, cells := 0, slots := 0, locals := 67 } : Room) (va_Pc [.ref (r 12), .int a1, .int a2] (kPreE D cy sz (wB cy r σ0) (gE w g))) ((fun A : Nat → Prop => va_Qv (S := St) (fun (τ : St) => (Inv τ ∧ Keep [(12, 9)] [62, 63] σ0 τ)) (fun τ => kPost D cy A (wB cy r τ)) A) (va_A (wB cy r σ0) sz)) 0 0 (va_A (wB cy r σ0) sz) := by
  refine k_ofWE (Qc := fun A => va_Qv (S := St) (fun (τ : St) => (Inv τ ∧ Keep [(12, 9)] [62, 63] σ0 τ)) (fun τ => kPost D cy A (wB cy r τ)) A) (by decide) (Nat.le_of_ble_eq_true rfl) ?_
  intro p e s m below meth c A ls hx hb hr hml hown hlocks hin hg hNW hK hP hD hA hS hl hE
  have hl : lv_has ls 6 [(0, .ref (r 12)), (1, .int a1), (2, .int a2)] := hl
  have hown : s.vm.findClass "LinkedUnits$Machine" = some m.cls := hown
  have b122 : ∀ (N : Nat) (σ : St) (x1 : Int32) (x2 : Int32) (x3 : Int32) (x4 : Int32) (x5 : Int32) (H : Heap) (locs : List Loc) (ls : Array Slot), upm x5 = N → Inv σ → Keep [(12, 9)] [62, 63] σ0 σ → va_P D vwCl (wB cy r σ) H → va_D A (wB cy r σ) → va_S A s.heap H locs → lv_has ls 6 [(0, .ref (r 12)), (1, .int x1), (2, .int x2), (3, .int x3), (4, .int x4), (5, .int x5)] → W p l e ({ frames := 3, cells := 0, slots := 0, locals := 67 } : Room) s m (([.ref (r 12), .int a1, .int a2] : List Value).toArray) below meth c H locs 0 0 (MQ below (va_Qv (S := St) (fun (τ : St) => (Inv τ ∧ Keep [(12, 9)] [62, 63] σ0 τ)) (fun τ => kPost D cy A (wB cy r τ)) A) (([.ref (r 12), .int a1, .int a2] : List Value).toArray) s 0 0 A) (F0 m 122 ls []) := by
    intro M122
    induction M122 using Nat.strongRecOn with
    | _ M122 ih122 =>
      intro σ x1 x2 x3 x4 x5 H locs ls N122 inv kp hP hD hS hl
      refine lv_iload hx hb d_X5_inFrame_122 (lv_at hl 5 rfl) ?_
      refine lv_iload hx hb d_X5_inFrame_124 (lv_at hl 4 rfl) ?_
      refine lv_icmp_ge (tgt := 154) hx hb d_X5_inFrame_126 (by decide) (fun c_126 => ?_) (fun c_126 => ?_)
      · -- taken at 126
        refine lv_goto (tgt := 196) hx hb d_X5_inFrame_154 (by decide) ?_
        refine W.widen (k := 0) (n := 0) (Nat.le_of_ble_eq_true rfl) (Nat.le_of_ble_eq_true rfl) ?_
        exact k_vret (X := St) (w1 := fun τ => wB cy r τ) σ hx hb hr d_X5_inFrame_196 hlocks hP hK hD hS ⟨inv, kp⟩
      · -- not taken at 126
        refine lv_iload hx hb d_X5_inFrame_129 (lv_at hl 5 rfl) ?_
        refine lv_ldc (v := 32768) hx hb hown (hg _ m_669) d_X5_inFrame_131 ?_
        refine lv_icmp_ge (tgt := 154) hx hb d_X5_inFrame_133 (by decide) (fun c_133 => ?_) (fun c_133 => ?_)
        · -- taken at 133
          refine lv_goto (tgt := 196) hx hb d_X5_inFrame_154 (by decide) ?_
          refine W.widen (k := 0) (n := 0) (Nat.le_of_ble_eq_true rfl) (Nat.le_of_ble_eq_true rfl) ?_
          exact k_vret (X := St) (w1 := fun τ => wB cy r τ) σ hx hb hr d_X5_inFrame_196 hlocks hP hK hD hS ⟨inv, kp⟩
        · -- not taken at 133
          refine lv_aload_n hx hb d_X5_inFrame_136 rfl (lv_at hl 0 rfl) ?_
          refine va_get (D := D) (ci := 5) (v := .ref (r 62)) (C := "LinkedUnits$Machine") (T := TX5) (N := 19) hx hb hg iwX5 hown hK hP 11 rfl rfl 4 (by decide) (hg _ m_675) (fun _ h9 => h9) rfl d_X5_inFrame_137 ?_
          refine lv_iload_n hx hb d_X5_inFrame_140 rfl (lv_at hl 3 rfl) ?_
          refine lv_iload hx hb d_X5_inFrame_141 (lv_at hl 5 rfl) ?_
          refine lv_iadd hx hb d_X5_inFrame_143 ?_
          refine lv_iconst (v := 0) hx hb d_X5_inFrame_144 (by decide) ?_
          refine s_set1 (X := Nat → Int32) (w := fun g => .inl (cy 1, 32768, .inl g)) 59 rfl (va_runSN (As := [.ref (r 62), .int (x3 + x5), .int 0]) (rest := []) ⟨hx, hb, hml, hown, hg⟩ (c_set_any l D cy H.size (r 62) 32768 (σ 62) (x3 + x5) (0 : Int32) (Nat.le_of_ble_eq_true rfl)) ⟨(va_cnB 3 hg (gw_c m_981) rfl rfl rfl (hNW.1 _ nm_1661) (hg _ m_1) (by decide +kernel) ⟨(Nat.le_of_ble_eq_true rfl), (Nat.le_of_ble_eq_true rfl)⟩), hg _ m_980, trivial⟩ (s_pre (ws := [((r 62), .inl (cy 1, 32768, .inl (σ 62)))]) (s_sub1 59 hP rfl) (s_subD 59 hD rfl) hK hNW) rfl rfl hl.1 rfl (lv_room (Nat.le_of_ble_eq_true rfl)) d_X5_inFrame_145 ⟨(Nat.le_of_ble_eq_true rfl), (Nat.le_of_ble_eq_true rfl)⟩) hP hD hS hA (fun g1 H locs hw hP hD hS => ?_)
          have hP : va_P D vwCl (wB cy r (upF σ 62 g1)) H := hP
          have hD : va_D A (wB cy r (upF σ 62 g1)) := hD
          have kp : Keep [(12, 9)] [62, 63] σ0 (upF σ 62 g1) := keep_a kp (by decide)
          refine lv_iinc (v := (x5 + 1)) (lv' := [(5, .int (x5 + 1)), (0, .ref (r 12)), (1, .int x1), (2, .int x2), (3, .int x3), (4, .int x4)]) hx hb d_X5_inFrame_148 hl (k := 5) rfl rfl (by decide) rfl (fun ls hl => ?_)
          refine lv_goto (tgt := 122) hx hb d_X5_inFrame_151 (by decide) ?_
          exact ih122 _ (Nat.lt_of_lt_of_eq (upm_lt c_126) N122) (upF σ 62 g1) x1 x2 x3 x4 (x5 + 1) _ _ _ rfl inv kp hP hD hS (lv_sub hl [1, 2, 3, 4, 5, 0] rfl)
  have kp : Keep [(12, 9)] [62, 63] σ0 σ0 := keep_rf
  obtain ⟨H, hH⟩ : ∃ H, H = s.heap := ⟨_, rfl⟩
  rw [← hH] at hP
  have hS : va_S A s.heap H [] := by rw [hH]; exact va_S.rf
  have hgoal : W p l e ({ frames := 3, cells := 0, slots := 0, locals := 67 } : Room) s m (([.ref (r 12), .int a1, .int a2] : List Value).toArray) below meth c H [] 0 0 (MQ below (va_Qv (S := St) (fun (τ : St) => (Inv τ ∧ Keep [(12, 9)] [62, 63] σ0 τ)) (fun τ => kPost D cy A (wB cy r τ)) A) (([.ref (r 12), .int a1, .int a2] : List Value).toArray) s 0 0 A) (F0 m 0 ls []) := by
    refine lv_aload_n hx hb d_X5_inFrame_0 rfl (lv_at hl 0 rfl) ?_
    refine va_get (D := D) (ci := 5) (v := .int (σ0 12 11)) (C := "LinkedUnits$Machine") (T := TX5) (N := 19) hx hb hg iwX5 hown hK hP 11 rfl rfl 11 (by decide) (hg _ m_683) (fun _ h9 => h9) rfl d_X5_inFrame_1 ?_
    refine lv_aload_n hx hb d_X5_inFrame_4 rfl (lv_at hl 0 rfl) ?_
    refine va_get (D := D) (ci := 5) (v := .ref (r 24)) (C := "LinkedUnits$Machine") (T := TX5) (N := 19) hx hb hg iwX5 hown hK hP 11 rfl rfl 3 (by decide) (hg _ m_674) (fun _ h9 => h9) rfl d_X5_inFrame_5 ?_
    refine lv_iload_n hx hb d_X5_inFrame_8 rfl (lv_at hl 2 rfl) ?_
    refine lv_iconst (v := 1) hx hb d_X5_inFrame_9 (by decide) ?_
    refine lv_iadd hx hb d_X5_inFrame_10 ?_
    refine s_call1 (x := ((r 24), .inl (cy 1, 262208, .inl (σ0 24)))) 23 rfl (va_runSN (As := [.ref (r 24), .int (a2 + 1)]) (rest := [.int (σ0 12 11)]) ⟨hx, hb, hml, hown, hg⟩ (c_at_any l D cy H.size (r 24) 262208 (σ0 24) (a2 + 1) (Nat.le_of_ble_eq_true rfl)) ⟨(va_cnB 2 hg (gw_c m_949) rfl rfl rfl (hNW.1 _ nm_1660) (hg _ m_1) (by decide +kernel) ⟨(Nat.le_of_ble_eq_true rfl), (Nat.le_of_ble_eq_true rfl)⟩), hg _ m_948, trivial⟩ (s_pre (ws := [((r 24), .inl (cy 1, 262208, .inl (σ0 24)))]) (s_sub1 23 hP rfl) (s_subD 23 hD rfl) hK hNW) rfl rfl hl.1 rfl (lv_room (Nat.le_of_ble_eq_true rfl)) d_X5_inFrame_11 ⟨(Nat.le_of_ble_eq_true rfl), (Nat.le_of_ble_eq_true rfl)⟩) hP hD hS hA (fun r2 u2 H locs hw hP hD hS => ?_)
    have hP : va_P D vwCl (wB cy r σ0) H := hP
    have hD : va_D A (wB cy r σ0) := hD
    refine lv_iadd hx hb d_X5_inFrame_14 ?_
    refine lv_istore_n (lv' := [(3, .int ((σ0 12 11) + r2)), (0, .ref (r 12)), (1, .int a1), (2, .int a2)]) hx hb d_X5_inFrame_15 rfl hl (by decide) rfl (fun ls hl => ?_)
    refine lv_aload_n hx hb d_X5_inFrame_16 rfl (lv_at hl 1 rfl) ?_
    refine va_get (D := D) (ci := 5) (v := .ref (r 24)) (C := "LinkedUnits$Machine") (T := TX5) (N := 19) hx hb hg iwX5 hown hK hP 11 rfl rfl 3 (by decide) (hg _ m_674) (fun _ h9 => h9) rfl d_X5_inFrame_17 ?_
    refine lv_iload_n hx hb d_X5_inFrame_20 rfl (lv_at hl 3 rfl) ?_
    refine lv_iconst (v := 2) hx hb d_X5_inFrame_21 (by decide) ?_
    refine lv_iadd hx hb d_X5_inFrame_22 ?_
    refine s_call1 (x := ((r 24), .inl (cy 1, 262208, .inl (σ0 24)))) 23 rfl (va_runSN (As := [.ref (r 24), .int (a2 + 2)]) (rest := []) ⟨hx, hb, hml, hown, hg⟩ (c_at_any l D cy H.size (r 24) 262208 (σ0 24) (a2 + 2) (Nat.le_of_ble_eq_true rfl)) ⟨(va_cnB 2 hg (gw_c m_949) rfl rfl rfl (hNW.1 _ nm_1660) (hg _ m_1) (by decide +kernel) ⟨(Nat.le_of_ble_eq_true rfl), (Nat.le_of_ble_eq_true rfl)⟩), hg _ m_948, trivial⟩ (s_pre (ws := [((r 24), .inl (cy 1, 262208, .inl (σ0 24)))]) (s_sub1 23 hP rfl) (s_subD 23 hD rfl) hK hNW) rfl rfl hl.1 rfl (lv_room (Nat.le_of_ble_eq_true rfl)) d_X5_inFrame_23 ⟨(Nat.le_of_ble_eq_true rfl), (Nat.le_of_ble_eq_true rfl)⟩) hP hD hS hA (fun r3 u3 H locs hw hP hD hS => ?_)
    have hP : va_P D vwCl (wB cy r σ0) H := hP
    have hD : va_D A (wB cy r σ0) := hD
    refine lv_istore (lv' := [(4, .int r3), (3, .int ((σ0 12 11) + r2)), (0, .ref (r 12)), (1, .int a1), (2, .int a2)]) hx hb d_X5_inFrame_26 hl (by decide) rfl (fun ls hl => ?_)
    refine lv_iload_n hx hb d_X5_inFrame_28 rfl (lv_at hl 3 rfl) ?_
    refine (Decidable.em (a1 = 11)).elim (fun q29_0 => ?_) (fun q29_0 => ?_)
    · refine k_topi 11 q29_0 ?_
      refine lv_tableIn (off := 39) (tgt := 68) hx hb d_X5_inFrame_29 (by decide +kernel) (by decide +kernel) (by decide +kernel) (by decide) ?_
      refine lv_aload_n hx hb d_X5_inFrame_68 rfl (lv_at hl 2 rfl) ?_
      refine lv_aload_n hx hb d_X5_inFrame_69 rfl (lv_at hl 2 rfl) ?_
      refine va_get (D := D) (ci := 5) (v := .ref (r 62)) (C := "LinkedUnits$Machine") (T := TX5) (N := 19) hx hb hg iwX5 hown hK hP 11 rfl rfl 4 (by decide) (hg _ m_675) (fun _ h9 => h9) rfl d_X5_inFrame_70 ?_
      refine lv_iload_n hx hb d_X5_inFrame_73 rfl (lv_at hl 1 rfl) ?_
      refine s_call1 (x := ((r 62), .inl (cy 1, 32768, .inl (σ0 62)))) 59 rfl (va_runSN (As := [.ref (r 62), .int ((σ0 12 11) + r2)]) (rest := [.ref (r 12)]) ⟨hx, hb, hml, hown, hg⟩ (c_at_any l D cy H.size (r 62) 32768 (σ0 62) ((σ0 12 11) + r2) (Nat.le_of_ble_eq_true rfl)) ⟨(va_cnB 2 hg (gw_c m_949) rfl rfl rfl (hNW.1 _ nm_1660) (hg _ m_1) (by decide +kernel) ⟨(Nat.le_of_ble_eq_true rfl), (Nat.le_of_ble_eq_true rfl)⟩), hg _ m_948, trivial⟩ (s_pre (ws := [((r 62), .inl (cy 1, 32768, .inl (σ0 62)))]) (s_sub1 59 hP rfl) (s_subD 59 hD rfl) hK hNW) rfl rfl hl.1 rfl (lv_room (Nat.le_of_ble_eq_true rfl)) d_X5_inFrame_74 ⟨(Nat.le_of_ble_eq_true rfl), (Nat.le_of_ble_eq_true rfl)⟩) hP hD hS hA (fun r4 u4 H locs hw hP hD hS => ?_)
      have hP : va_P D vwCl (wB cy r σ0) H := hP
      have hD : va_D A (wB cy r σ0) := hD
      refine s_callv (X := St) (w1 := fun τ => wB cy r τ) (va_runV (As := [.int r4]) (rest := []) ⟨hx, hb, hml, hown, hg⟩ (s_X5_push l D cy H.size w g r σ0 r4 i0 ) (cwV 1 hg (gw_V m_1686 m_1688 ms_X5_push m_17 m_1689) rfl rfl rfl (by decide +kernel) ⟨(Nat.le_of_ble_eq_true rfl), (Nat.le_of_ble_eq_true rfl)⟩) (s_preVE (As := [.int r4]) (gE_ok w g) hS hA hE hP hD hK hNW 11 rfl rfl) rfl rfl hl.1 rfl (lv_room (Nat.le_of_ble_eq_true rfl)) d_X5_inFrame_77 ⟨(Nat.le_of_ble_eq_true rfl), (Nat.le_of_ble_eq_true rfl)⟩) hP hD hS hA (fun σ5 H locs hw hP hD hS => ?_)
      have hP : va_P D vwCl (wB cy r σ5) H := hP
      have hD : va_D A (wB cy r σ5) := hD
      have ik5 : Keep [(12, 9)] [63] σ0 σ5 := hw.2
      have kp : Keep [(12, 9)] [62, 63] σ0 σ5 := keep_c kp ik5 (by decide) (by decide)
      have i5 : Inv σ5 := hw.1
      refine lv_goto (tgt := 196) hx hb d_X5_inFrame_80 (by decide) ?_
      refine W.widen (k := 0) (n := 0) (Nat.le_of_ble_eq_true rfl) (Nat.le_of_ble_eq_true rfl) ?_
      exact k_vret (X := St) (w1 := fun τ => wB cy r τ) σ5 hx hb hr d_X5_inFrame_196 hlocks hP hK hD hS ⟨i5, kp⟩
    refine (Decidable.em (a1 = 12)).elim (fun q29_1 => ?_) (fun q29_1 => ?_)
    · refine k_topi 12 q29_1 ?_
      refine lv_tableIn (off := 54) (tgt := 83) hx hb d_X5_inFrame_29 (by decide +kernel) (by decide +kernel) (by decide +kernel) (by decide) ?_
      refine lv_aload_n hx hb d_X5_inFrame_83 rfl (lv_at hl 2 rfl) ?_
      refine va_get (D := D) (ci := 5) (v := .ref (r 62)) (C := "LinkedUnits$Machine") (T := TX5) (N := 19) hx hb hg iwX5 hown hK hP 11 rfl rfl 4 (by decide) (hg _ m_675) (fun _ h9 => h9) rfl d_X5_inFrame_84 ?_
      refine lv_iload_n hx hb d_X5_inFrame_87 rfl (lv_at hl 1 rfl) ?_
      refine lv_aload_n hx hb d_X5_inFrame_88 rfl (lv_at hl 2 rfl) ?_
      refine s_calli (X := Unit) (w1 := fun _ => wB cy r σ0) (va_runV (As := []) (rest := [.int ((σ0 12 11) + r2), .ref (r 62)]) ⟨hx, hb, hml, hown, hg⟩ (s_X5_peeked l D cy H.size w g r σ0  i0 ) (cwV 0 hg (gw_V m_1744 m_1746 ms_X5_peeked m_17 m_1747) rfl rfl rfl (by decide +kernel) ⟨(Nat.le_of_ble_eq_true rfl), (Nat.le_of_ble_eq_true rfl)⟩) (s_preVE (As := []) (gE_ok w g) hS hA hE hP hD hK hNW 11 rfl rfl) rfl rfl hl.1 rfl (lv_room (Nat.le_of_ble_eq_true rfl)) d_X5_inFrame_89 ⟨(Nat.le_of_ble_eq_true rfl), (Nat.le_of_ble_eq_true rfl)⟩) hP hD hS hA (fun r6 u6 H locs hw hP hD hS => ?_)
      have hP : va_P D vwCl (wB cy r σ0) H := hP
      have hD : va_D A (wB cy r σ0) := hD
      refine s_set1 (X := Nat → Int32) (w := fun g => .inl (cy 1, 32768, .inl g)) 59 rfl (va_runSN (As := [.ref (r 62), .int ((σ0 12 11) + r2), .int r6]) (rest := []) ⟨hx, hb, hml, hown, hg⟩ (c_set_any l D cy H.size (r 62) 32768 (σ0 62) ((σ0 12 11) + r2) r6 (Nat.le_of_ble_eq_true rfl)) ⟨(va_cnB 3 hg (gw_c m_981) rfl rfl rfl (hNW.1 _ nm_1661) (hg _ m_1) (by decide +kernel) ⟨(Nat.le_of_ble_eq_true rfl), (Nat.le_of_ble_eq_true rfl)⟩), hg _ m_980, trivial⟩ (s_pre (ws := [((r 62), .inl (cy 1, 32768, .inl (σ0 62)))]) (s_sub1 59 hP rfl) (s_subD 59 hD rfl) hK hNW) rfl rfl hl.1 rfl (lv_room (Nat.le_of_ble_eq_true rfl)) d_X5_inFrame_92 ⟨(Nat.le_of_ble_eq_true rfl), (Nat.le_of_ble_eq_true rfl)⟩) hP hD hS hA (fun g7 H locs hw hP hD hS => ?_)
      have hP : va_P D vwCl (wB cy r (upF σ0 62 g7)) H := hP
      have hD : va_D A (wB cy r (upF σ0 62 g7)) := hD
      have kp : Keep [(12, 9)] [62, 63] σ0 (upF σ0 62 g7) := keep_a kp (by decide)
      refine lv_goto (tgt := 196) hx hb d_X5_inFrame_95 (by decide) ?_
      refine W.widen (k := 0) (n := 0) (Nat.le_of_ble_eq_true rfl) (Nat.le_of_ble_eq_true rfl) ?_
      exact k_vret (X := St) (w1 := fun τ => wB cy r τ) (upF σ0 62 g7) hx hb hr d_X5_inFrame_196 hlocks hP hK hD hS ⟨i0, kp⟩
    refine (Decidable.em (a1 = 13)).elim (fun q29_2 => ?_) (fun q29_2 => ?_)
    · refine k_topi 13 q29_2 ?_
      refine lv_tableIn (off := 69) (tgt := 98) hx hb d_X5_inFrame_29 (by decide +kernel) (by decide +kernel) (by decide +kernel) (by decide) ?_
      refine lv_aload_n hx hb d_X5_inFrame_98 rfl (lv_at hl 2 rfl) ?_
      refine lv_aload_n hx hb d_X5_inFrame_99 rfl (lv_at hl 2 rfl) ?_
      refine va_get (D := D) (ci := 5) (v := .ref (r 62)) (C := "LinkedUnits$Machine") (T := TX5) (N := 19) hx hb hg iwX5 hown hK hP 11 rfl rfl 4 (by decide) (hg _ m_675) (fun _ h9 => h9) rfl d_X5_inFrame_100 ?_
      refine lv_iload_n hx hb d_X5_inFrame_103 rfl (lv_at hl 1 rfl) ?_
      refine lv_iload_n hx hb d_X5_inFrame_104 rfl (lv_at hl 4 rfl) ?_
      refine s_callv (X := St) (w1 := fun τ => wB cy r τ) (va_runV (As := [.ref (r 62), .int ((σ0 12 11) + r2), .int a2]) (rest := []) ⟨hx, hb, hml, hown, hg⟩ (s_X5_stepped_r12_r62 l D cy H.size w g r σ0 ((σ0 12 11) + r2) a2 i0 ) (cwV 3 hg (gw_V m_1736 m_1738 ms_X5_stepped m_17 m_1739) rfl rfl rfl (by decide +kernel) ⟨(Nat.le_of_ble_eq_true rfl), (Nat.le_of_ble_eq_true rfl)⟩) (s_preVE (As := [.ref (r 62), .int ((σ0 12 11) + r2), .int a2]) (gE_ok w g) hS hA hE hP hD hK hNW 11 rfl rfl) rfl rfl hl.1 rfl (lv_room (Nat.le_of_ble_eq_true rfl)) d_X5_inFrame_105 ⟨(Nat.le_of_ble_eq_true rfl), (Nat.le_of_ble_eq_true rfl)⟩) hP hD hS hA (fun σ8 H locs hw hP hD hS => ?_)
      have hP : va_P D vwCl (wB cy r σ8) H := hP
      have hD : va_D A (wB cy r σ8) := hD
      have ik8 : Keep [(12, 9)] [62, 63] σ0 σ8 := hw.2
      have kp : Keep [(12, 9)] [62, 63] σ0 σ8 := keep_c kp ik8 (by decide) (by decide)
      have i8 : Inv σ8 := hw.1
      refine lv_goto (tgt := 196) hx hb d_X5_inFrame_108 (by decide) ?_
      refine W.widen (k := 0) (n := 0) (Nat.le_of_ble_eq_true rfl) (Nat.le_of_ble_eq_true rfl) ?_
      exact k_vret (X := St) (w1 := fun τ => wB cy r τ) σ8 hx hb hr d_X5_inFrame_196 hlocks hP hK hD hS ⟨i8, kp⟩
    refine (Decidable.em (a1 = 14)).elim (fun q29_3 => ?_) (fun q29_3 => ?_)
    · refine k_topi 14 q29_3 ?_
      refine lv_tableIn (off := 82) (tgt := 111) hx hb d_X5_inFrame_29 (by decide +kernel) (by decide +kernel) (by decide +kernel) (by decide) ?_
      refine lv_aload_n hx hb d_X5_inFrame_111 rfl (lv_at hl 2 rfl) ?_
      refine lv_iload_n hx hb d_X5_inFrame_112 rfl (lv_at hl 1 rfl) ?_
      refine s_callv (X := St) (w1 := fun τ => wB cy r τ) (va_runV (As := [.int ((σ0 12 11) + r2)]) (rest := []) ⟨hx, hb, hml, hown, hg⟩ (s_X5_push l D cy H.size w g r σ0 ((σ0 12 11) + r2) i0 ) (cwV 1 hg (gw_V m_1686 m_1688 ms_X5_push m_17 m_1689) rfl rfl rfl (by decide +kernel) ⟨(Nat.le_of_ble_eq_true rfl), (Nat.le_of_ble_eq_true rfl)⟩) (s_preVE (As := [.int ((σ0 12 11) + r2)]) (gE_ok w g) hS hA hE hP hD hK hNW 11 rfl rfl) rfl rfl hl.1 rfl (lv_room (Nat.le_of_ble_eq_true rfl)) d_X5_inFrame_113 ⟨(Nat.le_of_ble_eq_true rfl), (Nat.le_of_ble_eq_true rfl)⟩) hP hD hS hA (fun σ9 H locs hw hP hD hS => ?_)
      have hP : va_P D vwCl (wB cy r σ9) H := hP
      have hD : va_D A (wB cy r σ9) := hD
      have ik9 : Keep [(12, 9)] [63] σ0 σ9 := hw.2
      have kp : Keep [(12, 9)] [62, 63] σ0 σ9 := keep_c kp ik9 (by decide) (by decide)
      have i9 : Inv σ9 := hw.1
      refine lv_goto (tgt := 196) hx hb d_X5_inFrame_116 (by decide) ?_
      refine W.widen (k := 0) (n := 0) (Nat.le_of_ble_eq_true rfl) (Nat.le_of_ble_eq_true rfl) ?_
      exact k_vret (X := St) (w1 := fun τ => wB cy r τ) σ9 hx hb hr d_X5_inFrame_196 hlocks hP hK hD hS ⟨i9, kp⟩
    refine (Decidable.em (a1 = 15)).elim (fun q29_4 => ?_) (fun q29_4 => ?_)
    · refine k_topi 15 q29_4 ?_
      refine lv_tableIn (off := 90) (tgt := 119) hx hb d_X5_inFrame_29 (by decide +kernel) (by decide +kernel) (by decide +kernel) (by decide) ?_
      refine lv_iconst (v := 0) hx hb d_X5_inFrame_119 (by decide) ?_
      refine lv_istore (lv' := [(5, .int 0), (4, .int r3), (3, .int ((σ0 12 11) + r2)), (0, .ref (r 12)), (1, .int a1), (2, .int a2)]) hx hb d_X5_inFrame_120 hl (by decide) rfl (fun ls hl => ?_)
      exact b122 _ σ0 a1 a2 ((σ0 12 11) + r2) r3 (0 : Int32) _ _ _ rfl i0 kp hP hD hS (lv_sub hl [3, 4, 5, 2, 1, 0] rfl)
    refine (Decidable.em (a1 = 16)).elim (fun q29_5 => ?_) (fun q29_5 => ?_)
    · refine k_topi 16 q29_5 ?_
      refine lv_tableIn (off := 128) (tgt := 157) hx hb d_X5_inFrame_29 (by decide +kernel) (by decide +kernel) (by decide +kernel) (by decide) ?_
      refine lv_aload_n hx hb d_X5_inFrame_157 rfl (lv_at hl 2 rfl) ?_
      refine va_get (D := D) (ci := 5) (v := .ref (r 62)) (C := "LinkedUnits$Machine") (T := TX5) (N := 19) hx hb hg iwX5 hown hK hP 11 rfl rfl 4 (by decide) (hg _ m_675) (fun _ h9 => h9) rfl d_X5_inFrame_158 ?_
      refine lv_iload_n hx hb d_X5_inFrame_161 rfl (lv_at hl 1 rfl) ?_
      refine lv_iload hx hb d_X5_inFrame_162 (lv_at hl 0 rfl) ?_
      refine lv_iadd hx hb d_X5_inFrame_164 ?_
      refine lv_aload_n hx hb d_X5_inFrame_165 rfl (lv_at hl 2 rfl) ?_
      refine s_calli (X := St) (w1 := fun τ => wB cy r τ) (va_runV (As := []) (rest := [.int (((σ0 12 11) + r2) + r3), .ref (r 62)]) ⟨hx, hb, hml, hown, hg⟩ (s_X5_pop l D cy H.size w g r σ0  i0 ) (cwV 0 hg (gw_V m_1681 m_1683 ms_X5_pop m_17 m_1684) rfl rfl rfl (by decide +kernel) ⟨(Nat.le_of_ble_eq_true rfl), (Nat.le_of_ble_eq_true rfl)⟩) (s_preVE (As := []) (gE_ok w g) hS hA hE hP hD hK hNW 11 rfl rfl) rfl rfl hl.1 rfl (lv_room (Nat.le_of_ble_eq_true rfl)) d_X5_inFrame_166 ⟨(Nat.le_of_ble_eq_true rfl), (Nat.le_of_ble_eq_true rfl)⟩) hP hD hS hA (fun r10 σ10 H locs hw hP hD hS => ?_)
      have hP : va_P D vwCl (wB cy r σ10) H := hP
      have hD : va_D A (wB cy r σ10) := hD
      have ik10 : Keep [(12, 9)] [] σ0 σ10 := hw.2
      have kp : Keep [(12, 9)] [62, 63] σ0 σ10 := keep_c kp ik10 (by decide) (by decide)
      have i10 : Inv σ10 := hw.1
      refine s_set1 (X := Nat → Int32) (w := fun g => .inl (cy 1, 32768, .inl g)) 59 rfl (va_runSN (As := [.ref (r 62), .int (((σ0 12 11) + r2) + r3), .int r10]) (rest := []) ⟨hx, hb, hml, hown, hg⟩ (c_set_any l D cy H.size (r 62) 32768 (σ10 62) (((σ0 12 11) + r2) + r3) r10 (Nat.le_of_ble_eq_true rfl)) ⟨(va_cnB 3 hg (gw_c m_981) rfl rfl rfl (hNW.1 _ nm_1661) (hg _ m_1) (by decide +kernel) ⟨(Nat.le_of_ble_eq_true rfl), (Nat.le_of_ble_eq_true rfl)⟩), hg _ m_980, trivial⟩ (s_pre (ws := [((r 62), .inl (cy 1, 32768, .inl (σ10 62)))]) (s_sub1 59 hP rfl) (s_subD 59 hD rfl) hK hNW) rfl rfl hl.1 rfl (lv_room (Nat.le_of_ble_eq_true rfl)) d_X5_inFrame_169 ⟨(Nat.le_of_ble_eq_true rfl), (Nat.le_of_ble_eq_true rfl)⟩) hP hD hS hA (fun g11 H locs hw hP hD hS => ?_)
      have hP : va_P D vwCl (wB cy r (upF σ10 62 g11)) H := hP
      have hD : va_D A (wB cy r (upF σ10 62 g11)) := hD
      have kp : Keep [(12, 9)] [62, 63] σ0 (upF σ10 62 g11) := keep_a kp (by decide)
      refine lv_goto (tgt := 196) hx hb d_X5_inFrame_172 (by decide) ?_
      refine W.widen (k := 0) (n := 0) (Nat.le_of_ble_eq_true rfl) (Nat.le_of_ble_eq_true rfl) ?_
      exact k_vret (X := St) (w1 := fun τ => wB cy r τ) (upF σ10 62 g11) hx hb hr d_X5_inFrame_196 hlocks hP hK hD hS ⟨i10, kp⟩
    refine lv_tableOut (tgt := 175) hx hb d_X5_inFrame_29 (by have hq29_0 := lv_neT q29_0 (show (11 : Int32).toInt = 11 by decide); have hq29_1 := lv_neT q29_1 (show (12 : Int32).toInt = 12 by decide); have hq29_2 := lv_neT q29_2 (show (13 : Int32).toInt = 13 by decide); have hq29_3 := lv_neT q29_3 (show (14 : Int32).toInt = 14 by decide); have hq29_4 := lv_neT q29_4 (show (15 : Int32).toInt = 15 by decide); have hq29_5 := lv_neT q29_5 (show (16 : Int32).toInt = 16 by decide); omega) (by decide) ?_
    refine lv_aload_n hx hb d_X5_inFrame_175 rfl (lv_at hl 2 rfl) ?_
    refine va_get (D := D) (ci := 5) (v := .ref (r 62)) (C := "LinkedUnits$Machine") (T := TX5) (N := 19) hx hb hg iwX5 hown hK hP 11 rfl rfl 4 (by decide) (hg _ m_675) (fun _ h9 => h9) rfl d_X5_inFrame_176 ?_
    refine lv_iload_n hx hb d_X5_inFrame_179 rfl (lv_at hl 1 rfl) ?_
    refine lv_iload hx hb d_X5_inFrame_180 (lv_at hl 0 rfl) ?_
    refine lv_iadd hx hb d_X5_inFrame_182 ?_
    refine lv_aload_n hx hb d_X5_inFrame_183 rfl (lv_at hl 2 rfl) ?_
    refine va_get (D := D) (ci := 5) (v := .ref (r 24)) (C := "LinkedUnits$Machine") (T := TX5) (N := 19) hx hb hg iwX5 hown hK hP 11 rfl rfl 3 (by decide) (hg _ m_674) (fun _ h9 => h9) rfl d_X5_inFrame_184 ?_
    refine lv_iload_n hx hb d_X5_inFrame_187 rfl (lv_at hl 4 rfl) ?_
    refine lv_iconst (v := 3) hx hb d_X5_inFrame_188 (by decide) ?_
    refine lv_iadd hx hb d_X5_inFrame_189 ?_
    refine s_call1 (x := ((r 24), .inl (cy 1, 262208, .inl (σ0 24)))) 23 rfl (va_runSN (As := [.ref (r 24), .int (a2 + 3)]) (rest := [.int (((σ0 12 11) + r2) + r3), .ref (r 62)]) ⟨hx, hb, hml, hown, hg⟩ (c_at_any l D cy H.size (r 24) 262208 (σ0 24) (a2 + 3) (Nat.le_of_ble_eq_true rfl)) ⟨(va_cnB 2 hg (gw_c m_949) rfl rfl rfl (hNW.1 _ nm_1660) (hg _ m_1) (by decide +kernel) ⟨(Nat.le_of_ble_eq_true rfl), (Nat.le_of_ble_eq_true rfl)⟩), hg _ m_948, trivial⟩ (s_pre (ws := [((r 24), .inl (cy 1, 262208, .inl (σ0 24)))]) (s_sub1 23 hP rfl) (s_subD 23 hD rfl) hK hNW) rfl rfl hl.1 rfl (lv_room (Nat.le_of_ble_eq_true rfl)) d_X5_inFrame_190 ⟨(Nat.le_of_ble_eq_true rfl), (Nat.le_of_ble_eq_true rfl)⟩) hP hD hS hA (fun r12 u12 H locs hw hP hD hS => ?_)
    have hP : va_P D vwCl (wB cy r σ0) H := hP
    have hD : va_D A (wB cy r σ0) := hD
    refine s_set1 (X := Nat → Int32) (w := fun g => .inl (cy 1, 32768, .inl g)) 59 rfl (va_runSN (As := [.ref (r 62), .int (((σ0 12 11) + r2) + r3), .int r12]) (rest := []) ⟨hx, hb, hml, hown, hg⟩ (c_set_any l D cy H.size (r 62) 32768 (σ0 62) (((σ0 12 11) + r2) + r3) r12 (Nat.le_of_ble_eq_true rfl)) ⟨(va_cnB 3 hg (gw_c m_981) rfl rfl rfl (hNW.1 _ nm_1661) (hg _ m_1) (by decide +kernel) ⟨(Nat.le_of_ble_eq_true rfl), (Nat.le_of_ble_eq_true rfl)⟩), hg _ m_980, trivial⟩ (s_pre (ws := [((r 62), .inl (cy 1, 32768, .inl (σ0 62)))]) (s_sub1 59 hP rfl) (s_subD 59 hD rfl) hK hNW) rfl rfl hl.1 rfl (lv_room (Nat.le_of_ble_eq_true rfl)) d_X5_inFrame_193 ⟨(Nat.le_of_ble_eq_true rfl), (Nat.le_of_ble_eq_true rfl)⟩) hP hD hS hA (fun g13 H locs hw hP hD hS => ?_)
    have hP : va_P D vwCl (wB cy r (upF σ0 62 g13)) H := hP
    have hD : va_D A (wB cy r (upF σ0 62 g13)) := hD
    have kp : Keep [(12, 9)] [62, 63] σ0 (upF σ0 62 g13) := keep_a kp (by decide)
    refine W.widen (k := 0) (n := 0) (Nat.le_of_ble_eq_true rfl) (Nat.le_of_ble_eq_true rfl) ?_
    exact k_vret (X := St) (w1 := fun τ => wB cy r τ) (upF σ0 62 g13) hx hb hr d_X5_inFrame_196 hlocks hP hK hD hS ⟨i0, kp⟩
  rw [hH] at hgoal
  exact hgoal
set_option maxHeartbeats 4000000 in
set_option maxRecDepth 100000 in
theorem s_X8_isNamed_r5_r30 (l : Launch) (D : va_G) (cy : Nat → ClassId) (sz : Nat) (w : Nat → Nat) (g : Nat → Nat → Int32) (r : Nat → Nat) (σ0 : St) (a1 : Int32) (a3 : Int32) (a4 : Int32) (i0 : Inv σ0) : Met l y_X8_isNamed (Cond.code y_X8_isNamed b_X8_isNamed 7 (some .boolean) :: GW) ({ frames := 1, cells := 0, slots := 0, locals := 21 } : Room) (va_Pc [.ref (r 5), .int a1, .ref (r 30), .int a3, .int a4] (kPreE D cy sz (wB cy r σ0) (gE w g))) ((fun A : Nat → Prop => va_Qi (S := Unit) (fun (v9 : Int32) (_ : Unit) => (v9 = 0 ∨ v9 = 1) ∧ True) (fun _ => kPost D cy A (wB cy r σ0)) A) (va_A (wB cy r σ0) sz)) 0 0 (va_A (wB cy r σ0) sz) := by
  refine k_ofWE (Qc := fun A => va_Qi (S := Unit) (fun (v9 : Int32) (_ : Unit) => (v9 = 0 ∨ v9 = 1) ∧ True) (fun _ => kPost D cy A (wB cy r σ0)) A) (by decide) (Nat.le_of_ble_eq_true rfl) ?_
  intro p e s m below meth c A ls hx hb hr hml hown hlocks hin hg hNW hK hP hD hA hS hl hE
  have hl : lv_has ls 7 [(0, .ref (r 5)), (1, .int a1), (2, .ref (r 30)), (3, .int a3), (4, .int a4)] := hl
  have hown : s.vm.findClass "LinkedUnits$Store" = some m.cls := hown
  have b33 : ∀ (N : Nat) (x1 : Int32) (x3 : Int32) (x4 : Int32) (x5 : Int32) (x6 : Int32) (H : Heap) (locs : List Loc) (ls : Array Slot), upm x6 = N → va_P D vwCl (wB cy r σ0) H → va_D A (wB cy r σ0) → va_S A s.heap H locs → lv_has ls 7 [(0, .ref (r 5)), (1, .int x1), (2, .ref (r 30)), (3, .int x3), (4, .int x4), (5, .int x5), (6, .int x6)] → W p l e ({ frames := 1, cells := 0, slots := 0, locals := 21 } : Room) s m (([.ref (r 5), .int a1, .ref (r 30), .int a3, .int a4] : List Value).toArray) below meth c H locs 0 0 (MQ below (va_Qi (S := Unit) (fun (v9 : Int32) (_ : Unit) => (v9 = 0 ∨ v9 = 1) ∧ True) (fun _ => kPost D cy A (wB cy r σ0)) A) (([.ref (r 5), .int a1, .ref (r 30), .int a3, .int a4] : List Value).toArray) s 0 0 A) (F0 m 33 ls []) := by
    intro M33
    induction M33 using Nat.strongRecOn with
    | _ M33 ih33 =>
      intro x1 x3 x4 x5 x6 H locs ls N33 hP hD hS hl
      refine lv_iload hx hb d_X8_isNamed_33 (lv_at hl 6 rfl) ?_
      refine lv_iload hx hb d_X8_isNamed_35 (lv_at hl 4 rfl) ?_
      refine lv_icmp_ge (tgt := 93) hx hb d_X8_isNamed_37 (by decide) (fun c_37 => ?_) (fun c_37 => ?_)
      · -- taken at 37
        refine lv_iconst (v := 1) hx hb d_X8_isNamed_93 (by decide) ?_
        refine W.widen (k := 0) (n := 0) (Nat.le_of_ble_eq_true rfl) (Nat.le_of_ble_eq_true rfl) ?_
        exact k_zret (X := Unit) (w1 := fun _ => wB cy r σ0) () hx hb hr (k_nz (Or.inr rfl)) d_X8_isNamed_94 hlocks hP hK hD hS ⟨(Or.inr rfl), trivial⟩
      · -- not taken at 37
        refine lv_iload hx hb d_X8_isNamed_40 (lv_at hl 5 rfl) ?_
        refine lv_iload hx hb d_X8_isNamed_42 (lv_at hl 6 rfl) ?_
        refine lv_iadd hx hb d_X8_isNamed_44 ?_
        refine lv_aload_n hx hb d_X8_isNamed_45 rfl (lv_at hl 0 rfl) ?_
        refine va_get (D := D) (ci := 8) (v := .ref (r 30)) (C := "LinkedUnits$Store") (T := TX8) (N := 18) hx hb hg iwX8 hown hK hP 4 rfl rfl 8 (by decide) (hg _ m_240) (fun _ h9 => h9) rfl d_X8_isNamed_46 ?_
        refine va_alen hx hb hK hP 29 0 rfl rfl (v := 65600) (by show Int32.ofNat 65600 = 65600; decide) d_X8_isNamed_49 ?_
        refine lv_icmp_ge (tgt := 85) hx hb d_X8_isNamed_50 (by decide) (fun c_50 => ?_) (fun c_50 => ?_)
        · -- taken at 50
          refine lv_iconst (v := 0) hx hb d_X8_isNamed_85 (by decide) ?_
          refine W.widen (k := 0) (n := 0) (Nat.le_of_ble_eq_true rfl) (Nat.le_of_ble_eq_true rfl) ?_
          exact k_zret (X := Unit) (w1 := fun _ => wB cy r σ0) () hx hb hr (k_nz (Or.inl rfl)) d_X8_isNamed_86 hlocks hP hK hD hS ⟨(Or.inl rfl), trivial⟩
        · -- not taken at 50
          refine lv_iload_n hx hb d_X8_isNamed_53 rfl (lv_at hl 3 rfl) ?_
          refine lv_if_lt (tgt := 85) hx hb d_X8_isNamed_54 (by decide) (fun c_54 => ?_) (fun c_54 => ?_)
          · -- taken at 54
            refine lv_iconst (v := 0) hx hb d_X8_isNamed_85 (by decide) ?_
            refine W.widen (k := 0) (n := 0) (Nat.le_of_ble_eq_true rfl) (Nat.le_of_ble_eq_true rfl) ?_
            exact k_zret (X := Unit) (w1 := fun _ => wB cy r σ0) () hx hb hr (k_nz (Or.inl rfl)) d_X8_isNamed_86 hlocks hP hK hD hS ⟨(Or.inl rfl), trivial⟩
          · -- not taken at 54
            refine lv_iload_n hx hb d_X8_isNamed_57 rfl (lv_at hl 3 rfl) ?_
            refine lv_iload hx hb d_X8_isNamed_58 (lv_at hl 6 rfl) ?_
            refine lv_iadd hx hb d_X8_isNamed_60 ?_
            refine lv_aload_n hx hb d_X8_isNamed_61 rfl (lv_at hl 2 rfl) ?_
            refine va_alen hx hb hK hP 29 0 rfl rfl (v := 65600) (by show Int32.ofNat 65600 = 65600; decide) d_X8_isNamed_62 ?_
            refine lv_icmp_ge (tgt := 85) hx hb d_X8_isNamed_63 (by decide) (fun c_63 => ?_) (fun c_63 => ?_)
            · -- taken at 63
              refine lv_iconst (v := 0) hx hb d_X8_isNamed_85 (by decide) ?_
              refine W.widen (k := 0) (n := 0) (Nat.le_of_ble_eq_true rfl) (Nat.le_of_ble_eq_true rfl) ?_
              exact k_zret (X := Unit) (w1 := fun _ => wB cy r σ0) () hx hb hr (k_nz (Or.inl rfl)) d_X8_isNamed_86 hlocks hP hK hD hS ⟨(Or.inl rfl), trivial⟩
            · -- not taken at 63
              refine lv_aload_n hx hb d_X8_isNamed_66 rfl (lv_at hl 0 rfl) ?_
              refine va_get (D := D) (ci := 8) (v := .ref (r 30)) (C := "LinkedUnits$Store") (T := TX8) (N := 18) hx hb hg iwX8 hown hK hP 4 rfl rfl 8 (by decide) (hg _ m_240) (fun _ h9 => h9) rfl d_X8_isNamed_67 ?_
              refine lv_iload hx hb d_X8_isNamed_70 (lv_at hl 5 rfl) ?_
              refine lv_iload hx hb d_X8_isNamed_72 (lv_at hl 6 rfl) ?_
              refine lv_iadd hx hb d_X8_isNamed_74 ?_
              refine va_bald hx hb hK hP 29 0 rfl rfl (by refine s_in (by decide) ?_ ?_ <;> (have e0 := s_rng x5; have e1 := s_rng x6; obtain ⟨k2, e2⟩ := s_add x5 x6; have e3 := s_rng (x5 + x6); have e4 := s_rng x4; have e5 := s_nle c_37; have e6 : (65600 : Int32).toInt = 65600 := (by decide); have e7 := s_nle c_50; have e8 := s_rng x3; obtain ⟨k9, e9⟩ := s_add x3 x6; have e10 := s_rng (x3 + x6); have e11 := s_nle c_63; have e12 : (0 : Int32).toInt = 0 := (by decide); have e13 := s_nlt c_54; omega)) d_X8_isNamed_75 ?_
              refine k_any (fun v1 => ?_)
              refine lv_aload_n hx hb d_X8_isNamed_76 rfl (lv_at hl 2 rfl) ?_
              refine lv_iload_n hx hb d_X8_isNamed_77 rfl (lv_at hl 3 rfl) ?_
              refine lv_iload hx hb d_X8_isNamed_78 (lv_at hl 6 rfl) ?_
              refine lv_iadd hx hb d_X8_isNamed_80 ?_
              refine va_bald hx hb hK hP 29 0 rfl rfl (by refine s_in (by decide) ?_ ?_ <;> (have e0 := s_rng x3; have e1 := s_rng x6; obtain ⟨k2, e2⟩ := s_add x3 x6; have e3 := s_rng (x3 + x6); have e4 := s_rng x4; have e5 := s_nle c_37; have e6 := s_rng x5; obtain ⟨k7, e7⟩ := s_add x5 x6; have e8 := s_rng (x5 + x6); have e9 : (65600 : Int32).toInt = 65600 := (by decide); have e10 := s_nle c_50; have e11 : (0 : Int32).toInt = 0 := (by decide); have e12 := s_nlt c_54; have e13 := s_nle c_63; omega)) d_X8_isNamed_81 ?_
              refine k_any (fun v2 => ?_)
              refine lv_icmp_eq (tgt := 87) hx hb d_X8_isNamed_82 (by decide) (fun c_82 => ?_) (fun c_82 => ?_)
              · -- taken at 82
                refine lv_iinc (v := (x6 + 1)) (lv' := [(6, .int (x6 + 1)), (0, .ref (r 5)), (1, .int x1), (2, .ref (r 30)), (3, .int x3), (4, .int x4), (5, .int x5)]) hx hb d_X8_isNamed_87 hl (k := 6) rfl rfl (by decide) rfl (fun ls hl => ?_)
                refine lv_goto (tgt := 33) hx hb d_X8_isNamed_90 (by decide) ?_
                exact ih33 _ (Nat.lt_of_lt_of_eq (upm_lt c_37) N33) x1 x3 x4 x5 (x6 + 1) _ _ _ rfl hP hD hS (lv_sub hl [1, 2, 3, 4, 5, 6, 0] rfl)
              · -- not taken at 82
                refine lv_iconst (v := 0) hx hb d_X8_isNamed_85 (by decide) ?_
                refine W.widen (k := 0) (n := 0) (Nat.le_of_ble_eq_true rfl) (Nat.le_of_ble_eq_true rfl) ?_
                exact k_zret (X := Unit) (w1 := fun _ => wB cy r σ0) () hx hb hr (k_nz (Or.inl rfl)) d_X8_isNamed_86 hlocks hP hK hD hS ⟨(Or.inl rfl), trivial⟩
  obtain ⟨H, hH⟩ : ∃ H, H = s.heap := ⟨_, rfl⟩
  rw [← hH] at hP
  have hS : va_S A s.heap H [] := by rw [hH]; exact va_S.rf
  have hgoal : W p l e ({ frames := 1, cells := 0, slots := 0, locals := 21 } : Room) s m (([.ref (r 5), .int a1, .ref (r 30), .int a3, .int a4] : List Value).toArray) below meth c H [] 0 0 (MQ below (va_Qi (S := Unit) (fun (v9 : Int32) (_ : Unit) => (v9 = 0 ∨ v9 = 1) ∧ True) (fun _ => kPost D cy A (wB cy r σ0)) A) (([.ref (r 5), .int a1, .ref (r 30), .int a3, .int a4] : List Value).toArray) s 0 0 A) (F0 m 0 ls []) := by
    refine lv_aload_n hx hb d_X8_isNamed_0 rfl (lv_at hl 0 rfl) ?_
    refine va_get (D := D) (ci := 8) (v := .ref (r 29)) (C := "LinkedUnits$Store") (T := TX8) (N := 18) hx hb hg iwX8 hown hK hP 4 rfl rfl 6 (by decide) (hg _ m_237) (fun _ h9 => h9) rfl d_X8_isNamed_1 ?_
    refine lv_iload_n hx hb d_X8_isNamed_4 rfl (lv_at hl 1 rfl) ?_
    refine lv_iconst (v := 1) hx hb d_X8_isNamed_5 (by decide) ?_
    refine lv_isub hx hb d_X8_isNamed_6 ?_
    refine s_call1 (x := ((r 29), .inl (cy 1, 10100, .inl (σ0 29)))) 28 rfl (va_runSN (As := [.ref (r 29), .int (a1 - 1)]) (rest := []) ⟨hx, hb, hml, hown, hg⟩ (c_at_any l D cy H.size (r 29) 10100 (σ0 29) (a1 - 1) (Nat.le_of_ble_eq_true rfl)) ⟨(va_cnB 2 hg (gw_c m_949) rfl rfl rfl (hNW.1 _ nm_1125) (hg _ m_1) (by decide +kernel) ⟨(Nat.le_of_ble_eq_true rfl), (Nat.le_of_ble_eq_true rfl)⟩), hg _ m_948, trivial⟩ (s_pre (ws := [((r 29), .inl (cy 1, 10100, .inl (σ0 29)))]) (s_sub1 28 hP rfl) (s_subD 28 hD rfl) hK hNW) rfl rfl hl.1 rfl (lv_room (Nat.le_of_ble_eq_true rfl)) d_X8_isNamed_7 ⟨(Nat.le_of_ble_eq_true rfl), (Nat.le_of_ble_eq_true rfl)⟩) hP hD hS hA (fun r3 u3 H locs hw hP hD hS => ?_)
    have hP : va_P D vwCl (wB cy r σ0) H := hP
    have hD : va_D A (wB cy r σ0) := hD
    refine lv_istore (lv' := [(5, .int r3), (0, .ref (r 5)), (1, .int a1), (2, .ref (r 30)), (3, .int a3), (4, .int a4)]) hx hb d_X8_isNamed_10 hl (by decide) rfl (fun ls hl => ?_)
    refine lv_aload_n hx hb d_X8_isNamed_12 rfl (lv_at hl 1 rfl) ?_
    refine va_get (D := D) (ci := 8) (v := .ref (r 29)) (C := "LinkedUnits$Store") (T := TX8) (N := 18) hx hb hg iwX8 hown hK hP 4 rfl rfl 6 (by decide) (hg _ m_237) (fun _ h9 => h9) rfl d_X8_isNamed_13 ?_
    refine lv_iload_n hx hb d_X8_isNamed_16 rfl (lv_at hl 2 rfl) ?_
    refine s_call1 (x := ((r 29), .inl (cy 1, 10100, .inl (σ0 29)))) 28 rfl (va_runSN (As := [.ref (r 29), .int a1]) (rest := []) ⟨hx, hb, hml, hown, hg⟩ (c_at_any l D cy H.size (r 29) 10100 (σ0 29) a1 (Nat.le_of_ble_eq_true rfl)) ⟨(va_cnB 2 hg (gw_c m_949) rfl rfl rfl (hNW.1 _ nm_1125) (hg _ m_1) (by decide +kernel) ⟨(Nat.le_of_ble_eq_true rfl), (Nat.le_of_ble_eq_true rfl)⟩), hg _ m_948, trivial⟩ (s_pre (ws := [((r 29), .inl (cy 1, 10100, .inl (σ0 29)))]) (s_sub1 28 hP rfl) (s_subD 28 hD rfl) hK hNW) rfl rfl hl.1 rfl (lv_room (Nat.le_of_ble_eq_true rfl)) d_X8_isNamed_17 ⟨(Nat.le_of_ble_eq_true rfl), (Nat.le_of_ble_eq_true rfl)⟩) hP hD hS hA (fun r4 u4 H locs hw hP hD hS => ?_)
    have hP : va_P D vwCl (wB cy r σ0) H := hP
    have hD : va_D A (wB cy r σ0) := hD
    refine lv_iload hx hb d_X8_isNamed_20 (lv_at hl 0 rfl) ?_
    refine lv_isub hx hb d_X8_isNamed_22 ?_
    refine lv_iload hx hb d_X8_isNamed_23 (lv_at hl 5 rfl) ?_
    refine lv_icmp_eq (tgt := 30) hx hb d_X8_isNamed_25 (by decide) (fun c_25 => ?_) (fun c_25 => ?_)
    · -- taken at 25
      refine lv_iconst (v := 0) hx hb d_X8_isNamed_30 (by decide) ?_
      refine lv_istore (lv' := [(6, .int 0), (5, .int r3), (0, .ref (r 5)), (1, .int a1), (2, .ref (r 30)), (3, .int a3), (4, .int a4)]) hx hb d_X8_isNamed_31 hl (by decide) rfl (fun ls hl => ?_)
      exact b33 _ a1 a3 a4 r3 (0 : Int32) _ _ _ rfl hP hD hS (lv_sub hl [2, 3, 4, 5, 6, 1, 0] rfl)
    · -- not taken at 25
      refine lv_iconst (v := 0) hx hb d_X8_isNamed_28 (by decide) ?_
      refine W.widen (k := 0) (n := 0) (Nat.le_of_ble_eq_true rfl) (Nat.le_of_ble_eq_true rfl) ?_
      exact k_zret (X := Unit) (w1 := fun _ => wB cy r σ0) () hx hb hr (k_nz (Or.inl rfl)) d_X8_isNamed_29 hlocks hP hK hD hS ⟨(Or.inl rfl), trivial⟩
  rw [hH] at hgoal
  exact hgoal
