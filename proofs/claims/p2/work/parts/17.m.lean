set_option maxHeartbeats 4000000 in
set_option maxRecDepth 100000 in
theorem s_X10_character (l : Launch) (D : va_G) (cy : Nat → ClassId) (sz : Nat) (w : Nat → Nat) (g : Nat → Nat → Int32) (r : Nat → Nat) (σ0 : St) (i0 : Inv σ0) : Met l y_X10_character (Cond.code y_X10_character b_X10_character 3 (some .boolean) :: GW) ({ frames := 2, cells := 0, slots := 0, locals := 45 } : Room) (va_Pc [.ref (r 2)] (kPreE D cy sz (wB cy r σ0) (gE w g))) ((fun A : Nat → Prop => va_Qi (S := St) (fun (v9 : Int32) (τ : St) => (v9 = 0 ∨ v9 = 1) ∧ (Inv τ ∧ Keep [(2, 2), (2, 4)] [13, 14, 15, 16] σ0 τ)) (fun τ => kPost D cy A (wB cy r τ)) A) (va_A (wB cy r σ0) sz)) 0 0 (va_A (wB cy r σ0) sz) := by
  refine k_ofWE (Qc := fun A => va_Qi (S := St) (fun (v9 : Int32) (τ : St) => (v9 = 0 ∨ v9 = 1) ∧ (Inv τ ∧ Keep [(2, 2), (2, 4)] [13, 14, 15, 16] σ0 τ)) (fun τ => kPost D cy A (wB cy r τ)) A) (by decide) (Nat.le_of_ble_eq_true rfl) ?_
  intro p e s m below meth c A ls hx hb hr hml hown hlocks hin hg hNW hK hP hD hA hS hl hE
  have hl : lv_has ls 3 [(0, .ref (r 2))] := hl
  have hown : s.vm.findClass "LinkedUnits$Tokens" = some m.cls := hown
  have kp : Keep [(2, 2), (2, 4)] [13, 14, 15, 16] σ0 σ0 := keep_rf
  obtain ⟨H, hH⟩ : ∃ H, H = s.heap := ⟨_, rfl⟩
  rw [← hH] at hP
  have hS : va_S A s.heap H [] := by rw [hH]; exact va_S.rf
  have hgoal : W p l e ({ frames := 2, cells := 0, slots := 0, locals := 45 } : Room) s m (([.ref (r 2)] : List Value).toArray) below meth c H [] 0 0 (MQ below (va_Qi (S := St) (fun (v9 : Int32) (τ : St) => (v9 = 0 ∨ v9 = 1) ∧ (Inv τ ∧ Keep [(2, 2), (2, 4)] [13, 14, 15, 16] σ0 τ)) (fun τ => kPost D cy A (wB cy r τ)) A) (([.ref (r 2)] : List Value).toArray) s 0 0 A) (F0 m 0 ls []) := by
    refine lv_aload_n hx hb d_X10_character_0 rfl (lv_at hl 0 rfl) ?_
    refine lv_aload_n hx hb d_X10_character_1 rfl (lv_at hl 0 rfl) ?_
    refine va_get (D := D) (ci := 10) (v := .int (σ0 2 2)) (C := "LinkedUnits$Tokens") (T := TX10) (N := 10) hx hb hg iwX10 hown hK hP 1 rfl rfl 2 (by decide) (hg _ m_44) (fun _ h9 => h9) rfl d_X10_character_2 ?_
    refine lv_iconst (v := 1) hx hb d_X10_character_5 (by decide) ?_
    refine lv_iadd hx hb d_X10_character_6 ?_
    refine lv_bipush (v := 39) hx hb d_X10_character_7 (by decide) ?_
    refine s_calli (X := Unit) (w1 := fun _ => wB cy r σ0) (va_runV (As := [.int ((σ0 2 2) + 1), .int 39]) (rest := []) ⟨hx, hb, hml, hown, hg⟩ (s_X10_codeAt l D cy H.size w g r σ0 ((σ0 2 2) + 1) (39 : Int32) i0 ) (cwV 2 hg (gw_V m_875 m_877 ms_X10_codeAt m_2 m_878) rfl rfl rfl (by decide +kernel) ⟨(Nat.le_of_ble_eq_true rfl), (Nat.le_of_ble_eq_true rfl)⟩) (s_preVE (As := [.int ((σ0 2 2) + 1), .int 39]) (gE_ok w g) hS hA hE hP hD hK hNW 1 rfl rfl) rfl rfl hl.1 rfl (lv_room (Nat.le_of_ble_eq_true rfl)) d_X10_character_9 ⟨(Nat.le_of_ble_eq_true rfl), (Nat.le_of_ble_eq_true rfl)⟩) hP hD hS hA (fun r1 u1 H locs hw hP hD hS => ?_)
    have hP : va_P D vwCl (wB cy r σ0) H := hP
    have hD : va_D A (wB cy r σ0) := hD
    refine lv_istore_n (lv' := [(1, .int r1), (0, .ref (r 2))]) hx hb d_X10_character_12 rfl hl (by decide) rfl (fun ls hl => ?_)
    refine lv_iconst (v := 1) hx hb d_X10_character_13 (by decide) ?_
    refine lv_aload_n hx hb d_X10_character_14 rfl (lv_at hl 1 rfl) ?_
    refine lv_aload_n hx hb d_X10_character_15 rfl (lv_at hl 1 rfl) ?_
    refine va_get (D := D) (ci := 10) (v := .int (σ0 2 2)) (C := "LinkedUnits$Tokens") (T := TX10) (N := 10) hx hb hg iwX10 hown hK hP 1 rfl rfl 2 (by decide) (hg _ m_44) (fun _ h9 => h9) rfl d_X10_character_16 ?_
    refine lv_iconst (v := 1) hx hb d_X10_character_19 (by decide) ?_
    refine lv_iadd hx hb d_X10_character_20 ?_
    refine s_calli (X := Unit) (w1 := fun _ => wB cy r σ0) (va_runV (As := [.int ((σ0 2 2) + 1)]) (rest := [.int 1]) ⟨hx, hb, hml, hown, hg⟩ (s_X10_widthAt l D cy H.size w g r σ0 ((σ0 2 2) + 1) i0 ) (cwV 1 hg (gw_V m_879 m_881 ms_X10_widthAt m_2 m_882) rfl rfl rfl (by decide +kernel) ⟨(Nat.le_of_ble_eq_true rfl), (Nat.le_of_ble_eq_true rfl)⟩) (s_preVE (As := [.int ((σ0 2 2) + 1)]) (gE_ok w g) hS hA hE hP hD hK hNW 1 rfl rfl) rfl rfl hl.1 rfl (lv_room (Nat.le_of_ble_eq_true rfl)) d_X10_character_21 ⟨(Nat.le_of_ble_eq_true rfl), (Nat.le_of_ble_eq_true rfl)⟩) hP hD hS hA (fun r2 u2 H locs hw hP hD hS => ?_)
    have hP : va_P D vwCl (wB cy r σ0) H := hP
    have hD : va_D A (wB cy r σ0) := hD
    refine lv_iadd hx hb d_X10_character_24 ?_
    refine lv_istore_n (lv' := [(2, .int (1 + r2)), (1, .int r1), (0, .ref (r 2))]) hx hb d_X10_character_25 rfl hl (by decide) rfl (fun ls hl => ?_)
    refine lv_iload_n hx hb d_X10_character_26 rfl (lv_at hl 1 rfl) ?_
    refine lv_if_lt (tgt := 45) hx hb d_X10_character_27 (by decide) (fun c_27 => ?_) (fun c_27 => ?_)
    · -- taken at 27
      refine lv_aload_n hx hb d_X10_character_45 rfl (lv_at hl 2 rfl) ?_
      refine lv_aload_n hx hb d_X10_character_46 rfl (lv_at hl 2 rfl) ?_
      refine va_get (D := D) (ci := 10) (v := .int (σ0 2 2)) (C := "LinkedUnits$Tokens") (T := TX10) (N := 10) hx hb hg iwX10 hown hK hP 1 rfl rfl 2 (by decide) (hg _ m_44) (fun _ h9 => h9) rfl d_X10_character_47 ?_
      refine s_calli (X := St) (w1 := fun τ => wB cy r τ) (va_runV (As := [.int (σ0 2 2)]) (rest := []) ⟨hx, hb, hml, hown, hg⟩ (s_X10_bad l D cy H.size w g r σ0 (σ0 2 2) i0 ) (cwV 1 hg (gw_V m_817 m_819 ms_X10_bad m_2 m_820) rfl rfl rfl (by decide +kernel) ⟨(Nat.le_of_ble_eq_true rfl), (Nat.le_of_ble_eq_true rfl)⟩) (s_preVE (As := [.int (σ0 2 2)]) (gE_ok w g) hS hA hE hP hD hK hNW 1 rfl rfl) rfl rfl hl.1 rfl (lv_room (Nat.le_of_ble_eq_true rfl)) d_X10_character_50 ⟨(Nat.le_of_ble_eq_true rfl), (Nat.le_of_ble_eq_true rfl)⟩) hP hD hS hA (fun r3 σ3 H locs hw hP hD hS => ?_)
      have hP : va_P D vwCl (wB cy r σ3) H := hP
      have hD : va_D A (wB cy r σ3) := hD
      have ik3 : Keep [(2, 2), (2, 4)] [13, 14, 15, 16] σ0 σ3 := hw.2.2
      have kp : Keep [(2, 2), (2, 4)] [13, 14, 15, 16] σ0 σ3 := keep_c kp ik3 (by decide) (by decide)
      have i3 : Inv σ3 := hw.2.1
      have hz3 : r3 = 0 ∨ r3 = 1 := hw.1
      refine lv_goto (tgt := 65) hx hb d_X10_character_53 (by decide) ?_
      refine W.widen (k := 0) (n := 0) (Nat.le_of_ble_eq_true rfl) (Nat.le_of_ble_eq_true rfl) ?_
      exact k_zret (X := St) (w1 := fun τ => wB cy r τ) σ3 hx hb hr (k_nz hz3) d_X10_character_65 hlocks hP hK hD hS ⟨hz3, ⟨i3, kp⟩⟩
    · -- not taken at 27
      refine lv_aload_n hx hb d_X10_character_30 rfl (lv_at hl 2 rfl) ?_
      refine lv_aload_n hx hb d_X10_character_31 rfl (lv_at hl 2 rfl) ?_
      refine va_get (D := D) (ci := 10) (v := .int (σ0 2 2)) (C := "LinkedUnits$Tokens") (T := TX10) (N := 10) hx hb hg iwX10 hown hK hP 1 rfl rfl 2 (by decide) (hg _ m_44) (fun _ h9 => h9) rfl d_X10_character_32 ?_
      refine lv_iload_n hx hb d_X10_character_35 rfl (lv_at hl 0 rfl) ?_
      refine lv_iadd hx hb d_X10_character_36 ?_
      refine s_calli (X := Unit) (w1 := fun _ => wB cy r σ0) (va_runV (As := [.int ((σ0 2 2) + (1 + r2))]) (rest := []) ⟨hx, hb, hml, hown, hg⟩ (s_X10_byteAt l D cy H.size w g r σ0 ((σ0 2 2) + (1 + r2)) i0 ) (cwV 1 hg (gw_V m_806 m_808 ms_X10_byteAt m_2 m_809) rfl rfl rfl (by decide +kernel) ⟨(Nat.le_of_ble_eq_true rfl), (Nat.le_of_ble_eq_true rfl)⟩) (s_preVE (As := [.int ((σ0 2 2) + (1 + r2))]) (gE_ok w g) hS hA hE hP hD hK hNW 1 rfl rfl) rfl rfl hl.1 rfl (lv_room (Nat.le_of_ble_eq_true rfl)) d_X10_character_37 ⟨(Nat.le_of_ble_eq_true rfl), (Nat.le_of_ble_eq_true rfl)⟩) hP hD hS hA (fun r4 u4 H locs hw hP hD hS => ?_)
      have hP : va_P D vwCl (wB cy r σ0) H := hP
      have hD : va_D A (wB cy r σ0) := hD
      refine lv_bipush (v := 39) hx hb d_X10_character_40 (by decide) ?_
      refine lv_icmp_eq (tgt := 56) hx hb d_X10_character_42 (by decide) (fun c_42 => ?_) (fun c_42 => ?_)
      · -- taken at 42
        refine lv_aload_n hx hb d_X10_character_56 rfl (lv_at hl 2 rfl) ?_
        refine lv_iconst (v := 3) hx hb d_X10_character_57 (by decide) ?_
        refine lv_iload_n hx hb d_X10_character_58 rfl (lv_at hl 1 rfl) ?_
        refine lv_iload_n hx hb d_X10_character_59 rfl (lv_at hl 0 rfl) ?_
        refine lv_iconst (v := 1) hx hb d_X10_character_60 (by decide) ?_
        refine lv_iadd hx hb d_X10_character_61 ?_
        refine s_calli (X := St) (w1 := fun τ => wB cy r τ) (va_runV (As := [.int 3, .int r1, .int ((1 + r2) + 1)]) (rest := []) ⟨hx, hb, hml, hown, hg⟩ (s_X10_add l D cy H.size w g r σ0 (3 : Int32) r1 ((1 + r2) + 1) i0 ) (cwV 3 hg (gw_V m_821 m_823 ms_X10_add m_2 m_824) rfl rfl rfl (by decide +kernel) ⟨(Nat.le_of_ble_eq_true rfl), (Nat.le_of_ble_eq_true rfl)⟩) (s_preVE (As := [.int 3, .int r1, .int ((1 + r2) + 1)]) (gE_ok w g) hS hA hE hP hD hK hNW 1 rfl rfl) rfl rfl hl.1 rfl (lv_room (Nat.le_of_ble_eq_true rfl)) d_X10_character_62 ⟨(Nat.le_of_ble_eq_true rfl), (Nat.le_of_ble_eq_true rfl)⟩) hP hD hS hA (fun r5 σ5 H locs hw hP hD hS => ?_)
        have hP : va_P D vwCl (wB cy r σ5) H := hP
        have hD : va_D A (wB cy r σ5) := hD
        have ik5 : Keep [(2, 2), (2, 4)] [13, 14, 15, 16] σ0 σ5 := hw.2.2
        have kp : Keep [(2, 2), (2, 4)] [13, 14, 15, 16] σ0 σ5 := keep_c kp ik5 (by decide) (by decide)
        have i5 : Inv σ5 := hw.2.1
        have hz5 : r5 = 0 ∨ r5 = 1 := hw.1
        refine W.widen (k := 0) (n := 0) (Nat.le_of_ble_eq_true rfl) (Nat.le_of_ble_eq_true rfl) ?_
        exact k_zret (X := St) (w1 := fun τ => wB cy r τ) σ5 hx hb hr (k_nz hz5) d_X10_character_65 hlocks hP hK hD hS ⟨hz5, ⟨i5, kp⟩⟩
      · -- not taken at 42
        refine lv_aload_n hx hb d_X10_character_45 rfl (lv_at hl 2 rfl) ?_
        refine lv_aload_n hx hb d_X10_character_46 rfl (lv_at hl 2 rfl) ?_
        refine va_get (D := D) (ci := 10) (v := .int (σ0 2 2)) (C := "LinkedUnits$Tokens") (T := TX10) (N := 10) hx hb hg iwX10 hown hK hP 1 rfl rfl 2 (by decide) (hg _ m_44) (fun _ h9 => h9) rfl d_X10_character_47 ?_
        refine s_calli (X := St) (w1 := fun τ => wB cy r τ) (va_runV (As := [.int (σ0 2 2)]) (rest := []) ⟨hx, hb, hml, hown, hg⟩ (s_X10_bad l D cy H.size w g r σ0 (σ0 2 2) i0 ) (cwV 1 hg (gw_V m_817 m_819 ms_X10_bad m_2 m_820) rfl rfl rfl (by decide +kernel) ⟨(Nat.le_of_ble_eq_true rfl), (Nat.le_of_ble_eq_true rfl)⟩) (s_preVE (As := [.int (σ0 2 2)]) (gE_ok w g) hS hA hE hP hD hK hNW 1 rfl rfl) rfl rfl hl.1 rfl (lv_room (Nat.le_of_ble_eq_true rfl)) d_X10_character_50 ⟨(Nat.le_of_ble_eq_true rfl), (Nat.le_of_ble_eq_true rfl)⟩) hP hD hS hA (fun r6 σ6 H locs hw hP hD hS => ?_)
        have hP : va_P D vwCl (wB cy r σ6) H := hP
        have hD : va_D A (wB cy r σ6) := hD
        have ik6 : Keep [(2, 2), (2, 4)] [13, 14, 15, 16] σ0 σ6 := hw.2.2
        have kp : Keep [(2, 2), (2, 4)] [13, 14, 15, 16] σ0 σ6 := keep_c kp ik6 (by decide) (by decide)
        have i6 : Inv σ6 := hw.2.1
        have hz6 : r6 = 0 ∨ r6 = 1 := hw.1
        refine lv_goto (tgt := 65) hx hb d_X10_character_53 (by decide) ?_
        refine W.widen (k := 0) (n := 0) (Nat.le_of_ble_eq_true rfl) (Nat.le_of_ble_eq_true rfl) ?_
        exact k_zret (X := St) (w1 := fun τ => wB cy r τ) σ6 hx hb hr (k_nz hz6) d_X10_character_65 hlocks hP hK hD hS ⟨hz6, ⟨i6, kp⟩⟩
  rw [hH] at hgoal
  exact hgoal
set_option maxHeartbeats 4000000 in
set_option maxRecDepth 100000 in
theorem s_X10_string (l : Launch) (D : va_G) (cy : Nat → ClassId) (sz : Nat) (w : Nat → Nat) (g : Nat → Nat → Int32) (r : Nat → Nat) (σ0 : St) (i0 : Inv σ0) : Met l y_X10_string (Cond.code y_X10_string b_X10_string 3 (some .boolean) :: GW) ({ frames := 2, cells := 0, slots := 0, locals := 45 } : Room) (va_Pc [.ref (r 2)] (kPreE D cy sz (wB cy r σ0) (gE w g))) ((fun A : Nat → Prop => va_Qi (S := St) (fun (v9 : Int32) (τ : St) => (v9 = 0 ∨ v9 = 1) ∧ (Inv τ ∧ Keep [(2, 2), (2, 4)] [13, 14, 15, 16] σ0 τ)) (fun τ => kPost D cy A (wB cy r τ)) A) (va_A (wB cy r σ0) sz)) 0 0 (va_A (wB cy r σ0) sz) := by
  refine k_ofWE (Qc := fun A => va_Qi (S := St) (fun (v9 : Int32) (τ : St) => (v9 = 0 ∨ v9 = 1) ∧ (Inv τ ∧ Keep [(2, 2), (2, 4)] [13, 14, 15, 16] σ0 τ)) (fun τ => kPost D cy A (wB cy r τ)) A) (by decide) (Nat.le_of_ble_eq_true rfl) ?_
  intro p e s m below meth c A ls hx hb hr hml hown hlocks hin hg hNW hK hP hD hA hS hl hE
  have hl : lv_has ls 3 [(0, .ref (r 2))] := hl
  have hown : s.vm.findClass "LinkedUnits$Tokens" = some m.cls := hown
  have b4 : ∀ (N : Nat) (σ : St) (x1 : Int32) (x2 : Int32) (H : Heap) (locs : List Loc) (ls : Array Slot), upm x2 = N → Inv σ → Keep [(2, 2), (2, 4)] [13, 14, 15, 16] σ0 σ → va_P D vwCl (wB cy r σ) H → va_D A (wB cy r σ) → va_S A s.heap H locs → lv_has ls 3 [(0, .ref (r 2)), (1, .int x1), (2, .int x2)] → W p l e ({ frames := 2, cells := 0, slots := 0, locals := 45 } : Room) s m (([.ref (r 2)] : List Value).toArray) below meth c H locs 0 0 (MQ below (va_Qi (S := St) (fun (v9 : Int32) (τ : St) => (v9 = 0 ∨ v9 = 1) ∧ (Inv τ ∧ Keep [(2, 2), (2, 4)] [13, 14, 15, 16] σ0 τ)) (fun τ => kPost D cy A (wB cy r τ)) A) (([.ref (r 2)] : List Value).toArray) s 0 0 A) (F0 m 4 ls []) := by
    intro M4
    induction M4 using Nat.strongRecOn with
    | _ M4 ih4 =>
      intro σ x1 x2 H locs ls N4 inv kp hP hD hS hl
      refine lv_iload_n hx hb d_X10_string_4 rfl (lv_at hl 2 rfl) ?_
      refine lv_sipush (v := 200) hx hb d_X10_string_5 (by decide) ?_
      refine lv_icmp_gt (tgt := 69) hx hb d_X10_string_8 (by decide) (fun c_8 => ?_) (fun c_8 => ?_)
      · -- taken at 8
        refine lv_iload_n hx hb d_X10_string_69 rfl (lv_at hl 2 rfl) ?_
        refine lv_sipush (v := 200) hx hb d_X10_string_70 (by decide) ?_
        refine lv_icmp_le (tgt := 87) hx hb d_X10_string_73 (by decide) (fun c_73 => ?_) (fun c_73 => ?_)
        · -- taken at 73
          refine lv_aload_n hx hb d_X10_string_87 rfl (lv_at hl 0 rfl) ?_
          refine lv_iconst (v := 4) hx hb d_X10_string_88 (by decide) ?_
          refine lv_iload_n hx hb d_X10_string_89 rfl (lv_at hl 2 rfl) ?_
          refine lv_iload_n hx hb d_X10_string_90 rfl (lv_at hl 1 rfl) ?_
          refine lv_iconst (v := 1) hx hb d_X10_string_91 (by decide) ?_
          refine lv_iadd hx hb d_X10_string_92 ?_
          refine s_calli (X := St) (w1 := fun τ => wB cy r τ) (va_runV (As := [.int 4, .int x2, .int (x1 + 1)]) (rest := []) ⟨hx, hb, hml, hown, hg⟩ (s_X10_add l D cy H.size w g r σ (4 : Int32) x2 (x1 + 1) inv ) (cwV 3 hg (gw_V m_821 m_823 ms_X10_add m_2 m_824) rfl rfl rfl (by decide +kernel) ⟨(Nat.le_of_ble_eq_true rfl), (Nat.le_of_ble_eq_true rfl)⟩) (s_preVE (As := [.int 4, .int x2, .int (x1 + 1)]) (gE_ok w g) hS hA hE hP hD hK hNW 1 rfl rfl) rfl rfl hl.1 rfl (lv_room (Nat.le_of_ble_eq_true rfl)) d_X10_string_93 ⟨(Nat.le_of_ble_eq_true rfl), (Nat.le_of_ble_eq_true rfl)⟩) hP hD hS hA (fun r1 σ1 H locs hw hP hD hS => ?_)
          have hP : va_P D vwCl (wB cy r σ1) H := hP
          have hD : va_D A (wB cy r σ1) := hD
          have ik1 : Keep [(2, 2), (2, 4)] [13, 14, 15, 16] σ σ1 := hw.2.2
          have kp : Keep [(2, 2), (2, 4)] [13, 14, 15, 16] σ0 σ1 := keep_c kp ik1 (by decide) (by decide)
          have i1 : Inv σ1 := hw.2.1
          have hz1 : r1 = 0 ∨ r1 = 1 := hw.1
          refine W.widen (k := 0) (n := 0) (Nat.le_of_ble_eq_true rfl) (Nat.le_of_ble_eq_true rfl) ?_
          exact k_zret (X := St) (w1 := fun τ => wB cy r τ) σ1 hx hb hr (k_nz hz1) d_X10_string_96 hlocks hP hK hD hS ⟨hz1, ⟨i1, kp⟩⟩
        · -- not taken at 73
          refine lv_aload_n hx hb d_X10_string_76 rfl (lv_at hl 0 rfl) ?_
          refine lv_aload_n hx hb d_X10_string_77 rfl (lv_at hl 0 rfl) ?_
          refine va_get (D := D) (ci := 10) (v := .int (σ 2 2)) (C := "LinkedUnits$Tokens") (T := TX10) (N := 10) hx hb hg iwX10 hown hK hP 1 rfl rfl 2 (by decide) (hg _ m_44) (fun _ h9 => h9) rfl d_X10_string_78 ?_
          refine s_calli (X := St) (w1 := fun τ => wB cy r τ) (va_runV (As := [.int (σ 2 2)]) (rest := []) ⟨hx, hb, hml, hown, hg⟩ (s_X10_bad l D cy H.size w g r σ (σ 2 2) inv ) (cwV 1 hg (gw_V m_817 m_819 ms_X10_bad m_2 m_820) rfl rfl rfl (by decide +kernel) ⟨(Nat.le_of_ble_eq_true rfl), (Nat.le_of_ble_eq_true rfl)⟩) (s_preVE (As := [.int (σ 2 2)]) (gE_ok w g) hS hA hE hP hD hK hNW 1 rfl rfl) rfl rfl hl.1 rfl (lv_room (Nat.le_of_ble_eq_true rfl)) d_X10_string_81 ⟨(Nat.le_of_ble_eq_true rfl), (Nat.le_of_ble_eq_true rfl)⟩) hP hD hS hA (fun r2 σ2 H locs hw hP hD hS => ?_)
          have hP : va_P D vwCl (wB cy r σ2) H := hP
          have hD : va_D A (wB cy r σ2) := hD
          have ik2 : Keep [(2, 2), (2, 4)] [13, 14, 15, 16] σ σ2 := hw.2.2
          have kp : Keep [(2, 2), (2, 4)] [13, 14, 15, 16] σ0 σ2 := keep_c kp ik2 (by decide) (by decide)
          have i2 : Inv σ2 := hw.2.1
          have hz2 : r2 = 0 ∨ r2 = 1 := hw.1
          refine lv_goto (tgt := 96) hx hb d_X10_string_84 (by decide) ?_
          refine W.widen (k := 0) (n := 0) (Nat.le_of_ble_eq_true rfl) (Nat.le_of_ble_eq_true rfl) ?_
          exact k_zret (X := St) (w1 := fun τ => wB cy r τ) σ2 hx hb hr (k_nz hz2) d_X10_string_96 hlocks hP hK hD hS ⟨hz2, ⟨i2, kp⟩⟩
      · -- not taken at 8
        refine lv_aload_n hx hb d_X10_string_11 rfl (lv_at hl 0 rfl) ?_
        refine lv_aload_n hx hb d_X10_string_12 rfl (lv_at hl 0 rfl) ?_
        refine va_get (D := D) (ci := 10) (v := .int (σ 2 2)) (C := "LinkedUnits$Tokens") (T := TX10) (N := 10) hx hb hg iwX10 hown hK hP 1 rfl rfl 2 (by decide) (hg _ m_44) (fun _ h9 => h9) rfl d_X10_string_13 ?_
        refine lv_iload_n hx hb d_X10_string_16 rfl (lv_at hl 1 rfl) ?_
        refine lv_iadd hx hb d_X10_string_17 ?_
        refine s_calli (X := Unit) (w1 := fun _ => wB cy r σ) (va_runV (As := [.int ((σ 2 2) + x1)]) (rest := []) ⟨hx, hb, hml, hown, hg⟩ (s_X10_byteAt l D cy H.size w g r σ ((σ 2 2) + x1) inv ) (cwV 1 hg (gw_V m_806 m_808 ms_X10_byteAt m_2 m_809) rfl rfl rfl (by decide +kernel) ⟨(Nat.le_of_ble_eq_true rfl), (Nat.le_of_ble_eq_true rfl)⟩) (s_preVE (As := [.int ((σ 2 2) + x1)]) (gE_ok w g) hS hA hE hP hD hK hNW 1 rfl rfl) rfl rfl hl.1 rfl (lv_room (Nat.le_of_ble_eq_true rfl)) d_X10_string_18 ⟨(Nat.le_of_ble_eq_true rfl), (Nat.le_of_ble_eq_true rfl)⟩) hP hD hS hA (fun r3 u3 H locs hw hP hD hS => ?_)
        have hP : va_P D vwCl (wB cy r σ) H := hP
        have hD : va_D A (wB cy r σ) := hD
        refine lv_bipush (v := 34) hx hb d_X10_string_21 (by decide) ?_
        refine lv_icmp_eq (tgt := 69) hx hb d_X10_string_23 (by decide) (fun c_23 => ?_) (fun c_23 => ?_)
        · -- taken at 23
          refine lv_iload_n hx hb d_X10_string_69 rfl (lv_at hl 2 rfl) ?_
          refine lv_sipush (v := 200) hx hb d_X10_string_70 (by decide) ?_
          refine lv_icmp_le (tgt := 87) hx hb d_X10_string_73 (by decide) (fun c_73 => ?_) (fun c_73 => ?_)
          · -- taken at 73
            refine lv_aload_n hx hb d_X10_string_87 rfl (lv_at hl 0 rfl) ?_
            refine lv_iconst (v := 4) hx hb d_X10_string_88 (by decide) ?_
            refine lv_iload_n hx hb d_X10_string_89 rfl (lv_at hl 2 rfl) ?_
            refine lv_iload_n hx hb d_X10_string_90 rfl (lv_at hl 1 rfl) ?_
            refine lv_iconst (v := 1) hx hb d_X10_string_91 (by decide) ?_
            refine lv_iadd hx hb d_X10_string_92 ?_
            refine s_calli (X := St) (w1 := fun τ => wB cy r τ) (va_runV (As := [.int 4, .int x2, .int (x1 + 1)]) (rest := []) ⟨hx, hb, hml, hown, hg⟩ (s_X10_add l D cy H.size w g r σ (4 : Int32) x2 (x1 + 1) inv ) (cwV 3 hg (gw_V m_821 m_823 ms_X10_add m_2 m_824) rfl rfl rfl (by decide +kernel) ⟨(Nat.le_of_ble_eq_true rfl), (Nat.le_of_ble_eq_true rfl)⟩) (s_preVE (As := [.int 4, .int x2, .int (x1 + 1)]) (gE_ok w g) hS hA hE hP hD hK hNW 1 rfl rfl) rfl rfl hl.1 rfl (lv_room (Nat.le_of_ble_eq_true rfl)) d_X10_string_93 ⟨(Nat.le_of_ble_eq_true rfl), (Nat.le_of_ble_eq_true rfl)⟩) hP hD hS hA (fun r4 σ4 H locs hw hP hD hS => ?_)
            have hP : va_P D vwCl (wB cy r σ4) H := hP
            have hD : va_D A (wB cy r σ4) := hD
            have ik4 : Keep [(2, 2), (2, 4)] [13, 14, 15, 16] σ σ4 := hw.2.2
            have kp : Keep [(2, 2), (2, 4)] [13, 14, 15, 16] σ0 σ4 := keep_c kp ik4 (by decide) (by decide)
            have i4 : Inv σ4 := hw.2.1
            have hz4 : r4 = 0 ∨ r4 = 1 := hw.1
            refine W.widen (k := 0) (n := 0) (Nat.le_of_ble_eq_true rfl) (Nat.le_of_ble_eq_true rfl) ?_
            exact k_zret (X := St) (w1 := fun τ => wB cy r τ) σ4 hx hb hr (k_nz hz4) d_X10_string_96 hlocks hP hK hD hS ⟨hz4, ⟨i4, kp⟩⟩
          · -- not taken at 73
            refine lv_aload_n hx hb d_X10_string_76 rfl (lv_at hl 0 rfl) ?_
            refine lv_aload_n hx hb d_X10_string_77 rfl (lv_at hl 0 rfl) ?_
            refine va_get (D := D) (ci := 10) (v := .int (σ 2 2)) (C := "LinkedUnits$Tokens") (T := TX10) (N := 10) hx hb hg iwX10 hown hK hP 1 rfl rfl 2 (by decide) (hg _ m_44) (fun _ h9 => h9) rfl d_X10_string_78 ?_
            refine s_calli (X := St) (w1 := fun τ => wB cy r τ) (va_runV (As := [.int (σ 2 2)]) (rest := []) ⟨hx, hb, hml, hown, hg⟩ (s_X10_bad l D cy H.size w g r σ (σ 2 2) inv ) (cwV 1 hg (gw_V m_817 m_819 ms_X10_bad m_2 m_820) rfl rfl rfl (by decide +kernel) ⟨(Nat.le_of_ble_eq_true rfl), (Nat.le_of_ble_eq_true rfl)⟩) (s_preVE (As := [.int (σ 2 2)]) (gE_ok w g) hS hA hE hP hD hK hNW 1 rfl rfl) rfl rfl hl.1 rfl (lv_room (Nat.le_of_ble_eq_true rfl)) d_X10_string_81 ⟨(Nat.le_of_ble_eq_true rfl), (Nat.le_of_ble_eq_true rfl)⟩) hP hD hS hA (fun r5 σ5 H locs hw hP hD hS => ?_)
            have hP : va_P D vwCl (wB cy r σ5) H := hP
            have hD : va_D A (wB cy r σ5) := hD
            have ik5 : Keep [(2, 2), (2, 4)] [13, 14, 15, 16] σ σ5 := hw.2.2
            have kp : Keep [(2, 2), (2, 4)] [13, 14, 15, 16] σ0 σ5 := keep_c kp ik5 (by decide) (by decide)
            have i5 : Inv σ5 := hw.2.1
            have hz5 : r5 = 0 ∨ r5 = 1 := hw.1
            refine lv_goto (tgt := 96) hx hb d_X10_string_84 (by decide) ?_
            refine W.widen (k := 0) (n := 0) (Nat.le_of_ble_eq_true rfl) (Nat.le_of_ble_eq_true rfl) ?_
            exact k_zret (X := St) (w1 := fun τ => wB cy r τ) σ5 hx hb hr (k_nz hz5) d_X10_string_96 hlocks hP hK hD hS ⟨hz5, ⟨i5, kp⟩⟩
        · -- not taken at 23
          refine lv_aload_n hx hb d_X10_string_26 rfl (lv_at hl 0 rfl) ?_
          refine lv_aload_n hx hb d_X10_string_27 rfl (lv_at hl 0 rfl) ?_
          refine va_get (D := D) (ci := 10) (v := .int (σ 2 2)) (C := "LinkedUnits$Tokens") (T := TX10) (N := 10) hx hb hg iwX10 hown hK hP 1 rfl rfl 2 (by decide) (hg _ m_44) (fun _ h9 => h9) rfl d_X10_string_28 ?_
          refine lv_iload_n hx hb d_X10_string_31 rfl (lv_at hl 1 rfl) ?_
          refine lv_iadd hx hb d_X10_string_32 ?_
          refine lv_bipush (v := 34) hx hb d_X10_string_33 (by decide) ?_
          refine s_calli (X := Unit) (w1 := fun _ => wB cy r σ) (va_runV (As := [.int ((σ 2 2) + x1), .int 34]) (rest := []) ⟨hx, hb, hml, hown, hg⟩ (s_X10_codeAt l D cy H.size w g r σ ((σ 2 2) + x1) (34 : Int32) inv ) (cwV 2 hg (gw_V m_875 m_877 ms_X10_codeAt m_2 m_878) rfl rfl rfl (by decide +kernel) ⟨(Nat.le_of_ble_eq_true rfl), (Nat.le_of_ble_eq_true rfl)⟩) (s_preVE (As := [.int ((σ 2 2) + x1), .int 34]) (gE_ok w g) hS hA hE hP hD hK hNW 1 rfl rfl) rfl rfl hl.1 rfl (lv_room (Nat.le_of_ble_eq_true rfl)) d_X10_string_35 ⟨(Nat.le_of_ble_eq_true rfl), (Nat.le_of_ble_eq_true rfl)⟩) hP hD hS hA (fun r6 u6 H locs hw hP hD hS => ?_)
          have hP : va_P D vwCl (wB cy r σ) H := hP
          have hD : va_D A (wB cy r σ) := hD
          refine lv_if_ge (tgt := 50) hx hb d_X10_string_38 (by decide) (fun c_38 => ?_) (fun c_38 => ?_)
          · -- taken at 38
            refine lv_iload_n hx hb d_X10_string_50 rfl (lv_at hl 1 rfl) ?_
            refine lv_aload_n hx hb d_X10_string_51 rfl (lv_at hl 0 rfl) ?_
            refine lv_aload_n hx hb d_X10_string_52 rfl (lv_at hl 0 rfl) ?_
            refine va_get (D := D) (ci := 10) (v := .int (σ 2 2)) (C := "LinkedUnits$Tokens") (T := TX10) (N := 10) hx hb hg iwX10 hown hK hP 1 rfl rfl 2 (by decide) (hg _ m_44) (fun _ h9 => h9) rfl d_X10_string_53 ?_
            refine lv_iload_n hx hb d_X10_string_56 rfl (lv_at hl 1 rfl) ?_
            refine lv_iadd hx hb d_X10_string_57 ?_
            refine s_calli (X := Unit) (w1 := fun _ => wB cy r σ) (va_runV (As := [.int ((σ 2 2) + x1)]) (rest := [.int x1]) ⟨hx, hb, hml, hown, hg⟩ (s_X10_widthAt l D cy H.size w g r σ ((σ 2 2) + x1) inv ) (cwV 1 hg (gw_V m_879 m_881 ms_X10_widthAt m_2 m_882) rfl rfl rfl (by decide +kernel) ⟨(Nat.le_of_ble_eq_true rfl), (Nat.le_of_ble_eq_true rfl)⟩) (s_preVE (As := [.int ((σ 2 2) + x1)]) (gE_ok w g) hS hA hE hP hD hK hNW 1 rfl rfl) rfl rfl hl.1 rfl (lv_room (Nat.le_of_ble_eq_true rfl)) d_X10_string_58 ⟨(Nat.le_of_ble_eq_true rfl), (Nat.le_of_ble_eq_true rfl)⟩) hP hD hS hA (fun r7 u7 H locs hw hP hD hS => ?_)
            have hP : va_P D vwCl (wB cy r σ) H := hP
            have hD : va_D A (wB cy r σ) := hD
            refine lv_iadd hx hb d_X10_string_61 ?_
            refine lv_istore_n (lv' := [(1, .int (x1 + r7)), (0, .ref (r 2)), (2, .int x2)]) hx hb d_X10_string_62 rfl hl (by decide) rfl (fun ls hl => ?_)
            refine lv_iinc (v := (x2 + 1)) (lv' := [(2, .int (x2 + 1)), (1, .int (x1 + r7)), (0, .ref (r 2))]) hx hb d_X10_string_63 hl (k := 2) rfl rfl (by decide) rfl (fun ls hl => ?_)
            refine lv_goto (tgt := 4) hx hb d_X10_string_66 (by decide) ?_
            exact ih4 _ (by show upm (x2 + 1) < _; have hN := N4; unfold upm at hN ⊢; have e0 := s_rng x2; have e1 : (1 : Int32).toInt = 1 := (by decide); obtain ⟨k2, e2⟩ := s_add x2 (1 : Int32); have e3 := s_rng (x2 + 1); have e4 : (200 : Int32).toInt = 200 := (by decide); have e5 := s_nlt c_8; omega) σ (x1 + r7) (x2 + 1) _ _ _ rfl inv kp hP hD hS (lv_sub hl [2, 1, 0] rfl)
          · -- not taken at 38
            refine lv_aload_n hx hb d_X10_string_41 rfl (lv_at hl 0 rfl) ?_
            refine lv_aload_n hx hb d_X10_string_42 rfl (lv_at hl 0 rfl) ?_
            refine va_get (D := D) (ci := 10) (v := .int (σ 2 2)) (C := "LinkedUnits$Tokens") (T := TX10) (N := 10) hx hb hg iwX10 hown hK hP 1 rfl rfl 2 (by decide) (hg _ m_44) (fun _ h9 => h9) rfl d_X10_string_43 ?_
            refine s_calli (X := St) (w1 := fun τ => wB cy r τ) (va_runV (As := [.int (σ 2 2)]) (rest := []) ⟨hx, hb, hml, hown, hg⟩ (s_X10_bad l D cy H.size w g r σ (σ 2 2) inv ) (cwV 1 hg (gw_V m_817 m_819 ms_X10_bad m_2 m_820) rfl rfl rfl (by decide +kernel) ⟨(Nat.le_of_ble_eq_true rfl), (Nat.le_of_ble_eq_true rfl)⟩) (s_preVE (As := [.int (σ 2 2)]) (gE_ok w g) hS hA hE hP hD hK hNW 1 rfl rfl) rfl rfl hl.1 rfl (lv_room (Nat.le_of_ble_eq_true rfl)) d_X10_string_46 ⟨(Nat.le_of_ble_eq_true rfl), (Nat.le_of_ble_eq_true rfl)⟩) hP hD hS hA (fun r8 σ8 H locs hw hP hD hS => ?_)
            have hP : va_P D vwCl (wB cy r σ8) H := hP
            have hD : va_D A (wB cy r σ8) := hD
            have ik8 : Keep [(2, 2), (2, 4)] [13, 14, 15, 16] σ σ8 := hw.2.2
            have kp : Keep [(2, 2), (2, 4)] [13, 14, 15, 16] σ0 σ8 := keep_c kp ik8 (by decide) (by decide)
            have i8 : Inv σ8 := hw.2.1
            have hz8 : r8 = 0 ∨ r8 = 1 := hw.1
            refine W.widen (k := 0) (n := 0) (Nat.le_of_ble_eq_true rfl) (Nat.le_of_ble_eq_true rfl) ?_
            exact k_zret (X := St) (w1 := fun τ => wB cy r τ) σ8 hx hb hr (k_nz hz8) d_X10_string_49 hlocks hP hK hD hS ⟨hz8, ⟨i8, kp⟩⟩
  have kp : Keep [(2, 2), (2, 4)] [13, 14, 15, 16] σ0 σ0 := keep_rf
  obtain ⟨H, hH⟩ : ∃ H, H = s.heap := ⟨_, rfl⟩
  rw [← hH] at hP
  have hS : va_S A s.heap H [] := by rw [hH]; exact va_S.rf
  have hgoal : W p l e ({ frames := 2, cells := 0, slots := 0, locals := 45 } : Room) s m (([.ref (r 2)] : List Value).toArray) below meth c H [] 0 0 (MQ below (va_Qi (S := St) (fun (v9 : Int32) (τ : St) => (v9 = 0 ∨ v9 = 1) ∧ (Inv τ ∧ Keep [(2, 2), (2, 4)] [13, 14, 15, 16] σ0 τ)) (fun τ => kPost D cy A (wB cy r τ)) A) (([.ref (r 2)] : List Value).toArray) s 0 0 A) (F0 m 0 ls []) := by
    refine lv_iconst (v := 1) hx hb d_X10_string_0 (by decide) ?_
    refine lv_istore_n (lv' := [(1, .int 1), (0, .ref (r 2))]) hx hb d_X10_string_1 rfl hl (by decide) rfl (fun ls hl => ?_)
    refine lv_iconst (v := 0) hx hb d_X10_string_2 (by decide) ?_
    refine lv_istore_n (lv' := [(2, .int 0), (1, .int 1), (0, .ref (r 2))]) hx hb d_X10_string_3 rfl hl (by decide) rfl (fun ls hl => ?_)
    exact b4 _ σ0 (1 : Int32) (0 : Int32) _ _ _ rfl i0 kp hP hD hS (lv_sub hl [2, 1, 0] rfl)
  rw [hH] at hgoal
  exact hgoal
set_option maxHeartbeats 4000000 in
set_option maxRecDepth 100000 in
theorem s_X3_expect (l : Launch) (D : va_G) (cy : Nat → ClassId) (sz : Nat) (w : Nat → Nat) (g : Nat → Nat → Int32) (r : Nat → Nat) (σ0 : St) (a1 : Int32) (i0 : Inv σ0) : Met l y_X3_expect (Cond.code y_X3_expect b_X3_expect 2 none :: GW) ({ frames := 1, cells := 0, slots := 0, locals := 21 } : Room) (va_Pc [.ref (r 3), .int a1] (kPreE D cy sz (wB cy r σ0) (gE w g))) ((fun A : Nat → Prop => va_Qv (S := St) (fun (τ : St) => (Inv τ ∧ Keep [(3, 1), (3, 2), (3, 3)] [] σ0 τ)) (fun τ => kPost D cy A (wB cy r τ)) A) (va_A (wB cy r σ0) sz)) 0 0 (va_A (wB cy r σ0) sz) := by
  refine k_ofWE (Qc := fun A => va_Qv (S := St) (fun (τ : St) => (Inv τ ∧ Keep [(3, 1), (3, 2), (3, 3)] [] σ0 τ)) (fun τ => kPost D cy A (wB cy r τ)) A) (by decide) (Nat.le_of_ble_eq_true rfl) ?_
  intro p e s m below meth c A ls hx hb hr hml hown hlocks hin hg hNW hK hP hD hA hS hl hE
  have hl : lv_has ls 2 [(0, .ref (r 3)), (1, .int a1)] := hl
  have hown : s.vm.findClass "LinkedUnits$Grammar" = some m.cls := hown
  have kp : Keep [(3, 1), (3, 2), (3, 3)] [] σ0 σ0 := keep_rf
  obtain ⟨H, hH⟩ : ∃ H, H = s.heap := ⟨_, rfl⟩
  rw [← hH] at hP
  have hS : va_S A s.heap H [] := by rw [hH]; exact va_S.rf
  have hgoal : W p l e ({ frames := 1, cells := 0, slots := 0, locals := 21 } : Room) s m (([.ref (r 3), .int a1] : List Value).toArray) below meth c H [] 0 0 (MQ below (va_Qv (S := St) (fun (τ : St) => (Inv τ ∧ Keep [(3, 1), (3, 2), (3, 3)] [] σ0 τ)) (fun τ => kPost D cy A (wB cy r τ)) A) (([.ref (r 3), .int a1] : List Value).toArray) s 0 0 A) (F0 m 0 ls []) := by
    refine lv_aload_n hx hb d_X3_expect_0 rfl (lv_at hl 0 rfl) ?_
    refine va_get (D := D) (ci := 3) (v := .int (σ0 3 2)) (C := "LinkedUnits$Grammar") (T := TX3) (N := 12) hx hb hg iwX3 hown hK hP 2 rfl rfl 2 (by decide) (hg _ m_96) (fun _ h9 => h9) rfl d_X3_expect_1 ?_
    refine lv_iload_n hx hb d_X3_expect_4 rfl (lv_at hl 1 rfl) ?_
    refine lv_icmp_ne (tgt := 15) hx hb d_X3_expect_5 (by decide) (fun c_5 => ?_) (fun c_5 => ?_)
    · -- taken at 5
      refine lv_aload_n hx hb d_X3_expect_15 rfl (lv_at hl 0 rfl) ?_
      refine s_callv (X := St) (w1 := fun τ => wB cy r τ) (va_runV (As := []) (rest := []) ⟨hx, hb, hml, hown, hg⟩ (s_X3_fail l D cy H.size w g r σ0  i0 ) (cwV 0 hg (gw_V m_907 m_909 ms_X3_fail m_3 m_910) rfl rfl rfl (by decide +kernel) ⟨(Nat.le_of_ble_eq_true rfl), (Nat.le_of_ble_eq_true rfl)⟩) (s_preVE (As := []) (gE_ok w g) hS hA hE hP hD hK hNW 2 rfl rfl) rfl rfl hl.1 rfl (lv_room (Nat.le_of_ble_eq_true rfl)) d_X3_expect_16 ⟨(Nat.le_of_ble_eq_true rfl), (Nat.le_of_ble_eq_true rfl)⟩) hP hD hS hA (fun σ1 H locs hw hP hD hS => ?_)
      have hP : va_P D vwCl (wB cy r σ1) H := hP
      have hD : va_D A (wB cy r σ1) := hD
      have ik1 : Keep [(3, 2), (3, 3)] [] σ0 σ1 := hw.2
      have kp : Keep [(3, 1), (3, 2), (3, 3)] [] σ0 σ1 := keep_c kp ik1 (by decide) (by decide)
      have i1 : Inv σ1 := hw.1
      refine W.widen (k := 0) (n := 0) (Nat.le_of_ble_eq_true rfl) (Nat.le_of_ble_eq_true rfl) ?_
      exact k_vret (X := St) (w1 := fun τ => wB cy r τ) σ1 hx hb hr d_X3_expect_19 hlocks hP hK hD hS ⟨i1, kp⟩
    · -- not taken at 5
      refine lv_aload_n hx hb d_X3_expect_8 rfl (lv_at hl 0 rfl) ?_
      refine s_callv (X := St) (w1 := fun τ => wB cy r τ) (va_runV (As := []) (rest := []) ⟨hx, hb, hml, hown, hg⟩ (s_X3_advance l D cy H.size w g r σ0  i0 ) (cwV 0 hg (gw_V m_899 m_901 ms_X3_advance m_3 m_902) rfl rfl rfl (by decide +kernel) ⟨(Nat.le_of_ble_eq_true rfl), (Nat.le_of_ble_eq_true rfl)⟩) (s_preVE (As := []) (gE_ok w g) hS hA hE hP hD hK hNW 2 rfl rfl) rfl rfl hl.1 rfl (lv_room (Nat.le_of_ble_eq_true rfl)) d_X3_expect_9 ⟨(Nat.le_of_ble_eq_true rfl), (Nat.le_of_ble_eq_true rfl)⟩) hP hD hS hA (fun σ2 H locs hw hP hD hS => ?_)
      have hP : va_P D vwCl (wB cy r σ2) H := hP
      have hD : va_D A (wB cy r σ2) := hD
      have ik2 : Keep [(3, 1), (3, 2)] [] σ0 σ2 := hw.2
      have kp : Keep [(3, 1), (3, 2), (3, 3)] [] σ0 σ2 := keep_c kp ik2 (by decide) (by decide)
      have i2 : Inv σ2 := hw.1
      refine lv_goto (tgt := 19) hx hb d_X3_expect_12 (by decide) ?_
      refine W.widen (k := 0) (n := 0) (Nat.le_of_ble_eq_true rfl) (Nat.le_of_ble_eq_true rfl) ?_
      exact k_vret (X := St) (w1 := fun τ => wB cy r τ) σ2 hx hb hr d_X3_expect_19 hlocks hP hK hD hS ⟨i2, kp⟩
  rw [hH] at hgoal
  exact hgoal
set_option maxHeartbeats 4000000 in
set_option maxRecDepth 100000 in
theorem s_X8_withParameter (l : Launch) (D : va_G) (cy : Nat → ClassId) (sz : Nat) (a0 : Int32) (a1 : Int32) : Met l y_X8_withParameter (Cond.code y_X8_withParameter b_X8_withParameter 2 (some .int) :: GW) ({ frames := 1, cells := 0, slots := 0, locals := 20 } : Room) (va_Pc [.int a0, .int a1] (kPre D cy sz [])) ((fun A : Nat → Prop => va_Qi (S := Unit) (fun (_ : Int32) (_ : Unit) => True) (fun _ => kPost D cy A []) A) (va_A [] sz)) 0 0 (va_A [] sz) := by
  refine k_ofW (Qc := fun A => va_Qi (S := Unit) (fun (_ : Int32) (_ : Unit) => True) (fun _ => kPost D cy A []) A) (by decide) (Nat.le_of_ble_eq_true rfl) ?_
  intro p e s m below meth c A ls hx hb hr hml hown hlocks hin hg hNW hK hP hD hA hS hl
  have hl : lv_has ls 2 [(0, .int a0), (1, .int a1)] := hl
  have hown : s.vm.findClass "LinkedUnits$Store" = some m.cls := hown
  obtain ⟨H, hH⟩ : ∃ H, H = s.heap := ⟨_, rfl⟩
  rw [← hH] at hP
  have hS : va_S A s.heap H [] := by rw [hH]; exact va_S.rf
  have hgoal : W p l e ({ frames := 1, cells := 0, slots := 0, locals := 20 } : Room) s m (([.int a0, .int a1] : List Value).toArray) below meth c H [] 0 0 (MQ below (va_Qi (S := Unit) (fun (_ : Int32) (_ : Unit) => True) (fun _ => kPost D cy A []) A) (([.int a0, .int a1] : List Value).toArray) s 0 0 A) (F0 m 0 ls []) := by
    refine lv_iload_n hx hb d_X8_withParameter_0 rfl (lv_at hl 0 rfl) ?_
    refine lv_ldc (v := 16777216) hx hb hown (hg _ m_219) d_X8_withParameter_1 ?_
    refine lv_iadd hx hb d_X8_withParameter_3 ?_
    refine lv_iload_n hx hb d_X8_withParameter_4 rfl (lv_at hl 1 rfl) ?_
    refine lv_iconst (v := 3) hx hb d_X8_withParameter_5 (by decide) ?_
    refine lv_iload_n hx hb d_X8_withParameter_6 rfl (lv_at hl 0 rfl) ?_
    refine s_call0 (va_runS (As := [.int a0]) (rest := [.int 3, .int a1, .int (a0 + 16777216)]) ⟨hx, hb, hml, hown, hg⟩ (s_X8_parameters l D cy H.size a0 ) (cwS 1 hg (gw_S m_997 m_998 m_5 m_999) rfl rfl rfl (by decide +kernel) ⟨(Nat.le_of_ble_eq_true rfl), (Nat.le_of_ble_eq_true rfl)⟩) (s_pre (ws := []) (A := A) (fun k q h => by simp at h) ⟨fun i j p q h => by simp at h, fun k q h => by simp at h⟩ hK hNW) rfl rfl hl.1 rfl (lv_room (Nat.le_of_ble_eq_true rfl)) d_X8_withParameter_7 ⟨(Nat.le_of_ble_eq_true rfl), (Nat.le_of_ble_eq_true rfl)⟩) hP hD hS hA (fun r1 u1 H locs hw hP hD hS => ?_)
    have hP : va_P D vwCl [] H := hP
    have hD : va_D A [] := hD
    refine lv_imul hx hb d_X8_withParameter_10 ?_
    refine lv_ishl hx hb d_X8_withParameter_11 ?_
    refine lv_ior hx hb d_X8_withParameter_12 ?_
    refine W.widen (k := 0) (n := 0) (Nat.le_of_ble_eq_true rfl) (Nat.le_of_ble_eq_true rfl) ?_
    exact k_iret (X := Unit) (w1 := fun _ => []) () hx hb hr d_X8_withParameter_13 hlocks hP hK hD hS trivial
  rw [hH] at hgoal
  exact hgoal
set_option maxHeartbeats 4000000 in
set_option maxRecDepth 100000 in
theorem s_X11_begin (l : Launch) (D : va_G) (cy : Nat → ClassId) (sz : Nat) (w : Nat → Nat) (g : Nat → Nat → Int32) (r : Nat → Nat) (σ0 : St) (a1 : Int32) (i0 : Inv σ0) : Met l y_X11_begin (Cond.code y_X11_begin b_X11_begin 2 none :: GW) ({ frames := 1, cells := 0, slots := 0, locals := 20 } : Room) (va_Pc [.ref (r 6), .int a1] (kPreE D cy sz (wB cy r σ0) (gE w g))) ((fun A : Nat → Prop => va_Qv (S := St) (fun (τ : St) => (Inv τ ∧ Keep [(6, 2), (6, 3), (6, 4), (6, 5), (6, 6), (6, 7), (6, 10), (6, 15), (6, 17)] [] σ0 τ)) (fun τ => kPost D cy A (wB cy r τ)) A) (va_A (wB cy r σ0) sz)) 0 0 (va_A (wB cy r σ0) sz) := by
  refine k_ofWE (Qc := fun A => va_Qv (S := St) (fun (τ : St) => (Inv τ ∧ Keep [(6, 2), (6, 3), (6, 4), (6, 5), (6, 6), (6, 7), (6, 10), (6, 15), (6, 17)] [] σ0 τ)) (fun τ => kPost D cy A (wB cy r τ)) A) (by decide) (Nat.le_of_ble_eq_true rfl) ?_
  intro p e s m below meth c A ls hx hb hr hml hown hlocks hin hg hNW hK hP hD hA hS hl hE
  have hl : lv_has ls 2 [(0, .ref (r 6)), (1, .int a1)] := hl
  have hown : s.vm.findClass "LinkedUnits$Unit" = some m.cls := hown
  have kp : Keep [(6, 2), (6, 3), (6, 4), (6, 5), (6, 6), (6, 7), (6, 10), (6, 15), (6, 17)] [] σ0 σ0 := keep_rf
  obtain ⟨H, hH⟩ : ∃ H, H = s.heap := ⟨_, rfl⟩
  rw [← hH] at hP
  have hS : va_S A s.heap H [] := by rw [hH]; exact va_S.rf
  have hgoal : W p l e ({ frames := 1, cells := 0, slots := 0, locals := 20 } : Room) s m (([.ref (r 6), .int a1] : List Value).toArray) below meth c H [] 0 0 (MQ below (va_Qv (S := St) (fun (τ : St) => (Inv τ ∧ Keep [(6, 2), (6, 3), (6, 4), (6, 5), (6, 6), (6, 7), (6, 10), (6, 15), (6, 17)] [] σ0 τ)) (fun τ => kPost D cy A (wB cy r τ)) A) (([.ref (r 6), .int a1] : List Value).toArray) s 0 0 A) (F0 m 0 ls []) := by
    refine lv_aload_n hx hb d_X11_begin_0 rfl (lv_at hl 0 rfl) ?_
    refine lv_iload_n hx hb d_X11_begin_1 rfl (lv_at hl 1 rfl) ?_
    refine va_put (D := D) (ci := 11) (v := .int a1) (ty := .int) (C := "LinkedUnits$Unit") (T := TX11) (N := 19) hx hb hg iwX11 tyX11 tyX11_ok nmX11 hown hK hP hD hS 5 rfl rfl 2 (by decide) (hg _ m_311) (fun _ h9 => h9) rfl (by decide +kernel) rfl rfl (Nat.le_of_ble_eq_true rfl) d_X11_begin_2 (fun H locs hP hD hS => ?_)
    have hP : va_P D vwCl (wB cy r (upC σ0 6 2 a1)) H := hP
    have hD : va_D A (wB cy r (upC σ0 6 2 a1)) := hD
    have kp : Keep [(6, 2), (6, 3), (6, 4), (6, 5), (6, 6), (6, 7), (6, 10), (6, 15), (6, 17)] [] σ0 (upC σ0 6 2 a1) := keep_f kp (by decide)
    refine lv_aload_n hx hb d_X11_begin_5 rfl (lv_at hl 0 rfl) ?_
    refine lv_iconst (v := 0) hx hb d_X11_begin_6 (by decide) ?_
    refine va_put (D := D) (ci := 11) (v := .int 0) (ty := .int) (C := "LinkedUnits$Unit") (T := TX11) (N := 19) hx hb hg iwX11 tyX11 tyX11_ok nmX11 hown hK hP hD hS 5 rfl rfl 3 (by decide) (hg _ m_314) (fun _ h9 => h9) rfl (by decide +kernel) rfl rfl (Nat.le_of_ble_eq_true rfl) d_X11_begin_7 (fun H locs hP hD hS => ?_)
    have hP : va_P D vwCl (wB cy r (upC (upC σ0 6 2 a1) 6 3 0)) H := hP
    have hD : va_D A (wB cy r (upC (upC σ0 6 2 a1) 6 3 0)) := hD
    have kp : Keep [(6, 2), (6, 3), (6, 4), (6, 5), (6, 6), (6, 7), (6, 10), (6, 15), (6, 17)] [] σ0 (upC (upC σ0 6 2 a1) 6 3 0) := keep_f kp (by decide)
    refine lv_aload_n hx hb d_X11_begin_10 rfl (lv_at hl 0 rfl) ?_
    refine lv_iconst (v := (-1)) hx hb d_X11_begin_11 (by decide) ?_
    refine va_put (D := D) (ci := 11) (v := .int (-1)) (ty := .int) (C := "LinkedUnits$Unit") (T := TX11) (N := 19) hx hb hg iwX11 tyX11 tyX11_ok nmX11 hown hK hP hD hS 5 rfl rfl 4 (by decide) (hg _ m_318) (fun _ h9 => h9) rfl (by decide +kernel) rfl rfl (Nat.le_of_ble_eq_true rfl) d_X11_begin_12 (fun H locs hP hD hS => ?_)
    have hP : va_P D vwCl (wB cy r (upC (upC (upC σ0 6 2 a1) 6 3 0) 6 4 (-1))) H := hP
    have hD : va_D A (wB cy r (upC (upC (upC σ0 6 2 a1) 6 3 0) 6 4 (-1))) := hD
    have kp : Keep [(6, 2), (6, 3), (6, 4), (6, 5), (6, 6), (6, 7), (6, 10), (6, 15), (6, 17)] [] σ0 (upC (upC (upC σ0 6 2 a1) 6 3 0) 6 4 (-1)) := keep_f kp (by decide)
    refine lv_aload_n hx hb d_X11_begin_15 rfl (lv_at hl 0 rfl) ?_
    refine lv_iconst (v := 0) hx hb d_X11_begin_16 (by decide) ?_
    refine va_put (D := D) (ci := 11) (v := .int 0) (ty := .int) (C := "LinkedUnits$Unit") (T := TX11) (N := 19) hx hb hg iwX11 tyX11 tyX11_ok nmX11 hown hK hP hD hS 5 rfl rfl 5 (by decide) (hg _ m_320) (fun _ h9 => h9) rfl (by decide +kernel) rfl rfl (Nat.le_of_ble_eq_true rfl) d_X11_begin_17 (fun H locs hP hD hS => ?_)
    have hP : va_P D vwCl (wB cy r (upC (upC (upC (upC σ0 6 2 a1) 6 3 0) 6 4 (-1)) 6 5 0)) H := hP
    have hD : va_D A (wB cy r (upC (upC (upC (upC σ0 6 2 a1) 6 3 0) 6 4 (-1)) 6 5 0)) := hD
    have kp : Keep [(6, 2), (6, 3), (6, 4), (6, 5), (6, 6), (6, 7), (6, 10), (6, 15), (6, 17)] [] σ0 (upC (upC (upC (upC σ0 6 2 a1) 6 3 0) 6 4 (-1)) 6 5 0) := keep_f kp (by decide)
    refine lv_aload_n hx hb d_X11_begin_20 rfl (lv_at hl 0 rfl) ?_
    refine lv_iconst (v := 0) hx hb d_X11_begin_21 (by decide) ?_
    refine va_put (D := D) (ci := 11) (v := .int 0) (ty := .int) (C := "LinkedUnits$Unit") (T := TX11) (N := 19) hx hb hg iwX11 tyX11 tyX11_ok nmX11 hown hK hP hD hS 5 rfl rfl 7 (by decide) (hg _ m_327) (fun _ h9 => h9) rfl (by decide +kernel) rfl rfl (Nat.le_of_ble_eq_true rfl) d_X11_begin_22 (fun H locs hP hD hS => ?_)
    have hP : va_P D vwCl (wB cy r (upC (upC (upC (upC (upC σ0 6 2 a1) 6 3 0) 6 4 (-1)) 6 5 0) 6 7 0)) H := hP
    have hD : va_D A (wB cy r (upC (upC (upC (upC (upC σ0 6 2 a1) 6 3 0) 6 4 (-1)) 6 5 0) 6 7 0)) := hD
    have kp : Keep [(6, 2), (6, 3), (6, 4), (6, 5), (6, 6), (6, 7), (6, 10), (6, 15), (6, 17)] [] σ0 (upC (upC (upC (upC (upC σ0 6 2 a1) 6 3 0) 6 4 (-1)) 6 5 0) 6 7 0) := keep_f kp (by decide)
    refine lv_aload_n hx hb d_X11_begin_25 rfl (lv_at hl 0 rfl) ?_
    refine s_callv (X := St) (w1 := fun τ => wB cy r τ) (va_runV (As := []) (rest := []) ⟨hx, hb, hml, hown, hg⟩ (s_X11_leave l D cy H.size w g r (upC (upC (upC (upC (upC σ0 6 2 a1) 6 3 0) 6 4 (-1)) 6 5 0) 6 7 0)  i0 ) (cwV 0 hg (gw_V m_1045 m_1047 ms_X11_leave m_10 m_1048) rfl rfl rfl (by decide +kernel) ⟨(Nat.le_of_ble_eq_true rfl), (Nat.le_of_ble_eq_true rfl)⟩) (s_preVE (As := []) (gE_ok w g) hS hA hE hP hD hK hNW 5 rfl rfl) rfl rfl hl.1 rfl (lv_room (Nat.le_of_ble_eq_true rfl)) d_X11_begin_26 ⟨(Nat.le_of_ble_eq_true rfl), (Nat.le_of_ble_eq_true rfl)⟩) hP hD hS hA (fun σ1 H locs hw hP hD hS => ?_)
    have hP : va_P D vwCl (wB cy r σ1) H := hP
    have hD : va_D A (wB cy r σ1) := hD
    have ik1 : Keep [(6, 6), (6, 10), (6, 15), (6, 17)] [] (upC (upC (upC (upC (upC σ0 6 2 a1) 6 3 0) 6 4 (-1)) 6 5 0) 6 7 0) σ1 := hw.2
    have kp : Keep [(6, 2), (6, 3), (6, 4), (6, 5), (6, 6), (6, 7), (6, 10), (6, 15), (6, 17)] [] σ0 σ1 := keep_c kp ik1 (by decide) (by decide)
    have i1 : Inv σ1 := hw.1
    refine W.widen (k := 0) (n := 0) (Nat.le_of_ble_eq_true rfl) (Nat.le_of_ble_eq_true rfl) ?_
    exact k_vret (X := St) (w1 := fun τ => wB cy r τ) σ1 hx hb hr d_X11_begin_29 hlocks hP hK hD hS ⟨i1, kp⟩
  rw [hH] at hgoal
  exact hgoal
set_option maxHeartbeats 4000000 in
set_option maxRecDepth 100000 in
theorem s_X8_symbolsOf (l : Launch) (D : va_G) (cy : Nat → ClassId) (sz : Nat) (w : Nat → Nat) (g : Nat → Nat → Int32) (r : Nat → Nat) (σ0 : St) (a1 : Int32) (i0 : Inv σ0) : Met l y_X8_symbolsOf (Cond.code y_X8_symbolsOf b_X8_symbolsOf 4 (some .int) :: GW) ({ frames := 2, cells := 0, slots := 0, locals := 43 } : Room) (va_Pc [.ref (r 5), .int a1] (kPreE D cy sz (wB cy r σ0) (gE w g))) ((fun A : Nat → Prop => va_Qi (S := Unit) (fun (_ : Int32) (_ : Unit) => True) (fun _ => kPost D cy A (wB cy r σ0)) A) (va_A (wB cy r σ0) sz)) 0 0 (va_A (wB cy r σ0) sz) := by
  refine k_ofWE (Qc := fun A => va_Qi (S := Unit) (fun (_ : Int32) (_ : Unit) => True) (fun _ => kPost D cy A (wB cy r σ0)) A) (by decide) (Nat.le_of_ble_eq_true rfl) ?_
  intro p e s m below meth c A ls hx hb hr hml hown hlocks hin hg hNW hK hP hD hA hS hl hE
  have hl : lv_has ls 4 [(0, .ref (r 5)), (1, .int a1)] := hl
  have hown : s.vm.findClass "LinkedUnits$Store" = some m.cls := hown
  have b8 : ∀ (N : Nat) (x1 : Int32) (x2 : Int32) (x3 : Int32) (H : Heap) (locs : List Loc) (ls : Array Slot), upm x3 = N → va_P D vwCl (wB cy r σ0) H → va_D A (wB cy r σ0) → va_S A s.heap H locs → lv_has ls 4 [(0, .ref (r 5)), (1, .int x1), (2, .int x2), (3, .int x3)] → W p l e ({ frames := 2, cells := 0, slots := 0, locals := 43 } : Room) s m (([.ref (r 5), .int a1] : List Value).toArray) below meth c H locs 0 0 (MQ below (va_Qi (S := Unit) (fun (_ : Int32) (_ : Unit) => True) (fun _ => kPost D cy A (wB cy r σ0)) A) (([.ref (r 5), .int a1] : List Value).toArray) s 0 0 A) (F0 m 8 ls []) := by
    intro M8
    induction M8 using Nat.strongRecOn with
    | _ M8 ih8 =>
      intro x1 x2 x3 H locs ls N8 hP hD hS hl
      refine lv_iload_n hx hb d_X8_symbolsOf_8 rfl (lv_at hl 3 rfl) ?_
      refine lv_aload_n hx hb d_X8_symbolsOf_9 rfl (lv_at hl 0 rfl) ?_
      refine va_get (D := D) (ci := 8) (v := .ref (r 34)) (C := "LinkedUnits$Store") (T := TX8) (N := 18) hx hb hg iwX8 hown hK hP 4 rfl rfl 14 (by decide) (hg _ m_252) (fun _ h9 => h9) rfl d_X8_symbolsOf_10 ?_
      refine lv_iload_n hx hb d_X8_symbolsOf_13 rfl (lv_at hl 1 rfl) ?_
      refine s_call1 (x := ((r 34), .inl (cy 1, 101, .inl (σ0 34)))) 33 rfl (va_runSN (As := [.ref (r 34), .int x1]) (rest := [.int x3]) ⟨hx, hb, hml, hown, hg⟩ (c_at_any l D cy H.size (r 34) 101 (σ0 34) x1 (Nat.le_of_ble_eq_true rfl)) ⟨(va_cnB 2 hg (gw_c m_949) rfl rfl rfl (hNW.1 _ nm_1125) (hg _ m_1) (by decide +kernel) ⟨(Nat.le_of_ble_eq_true rfl), (Nat.le_of_ble_eq_true rfl)⟩), hg _ m_948, trivial⟩ (s_pre (ws := [((r 34), .inl (cy 1, 101, .inl (σ0 34)))]) (s_sub1 33 hP rfl) (s_subD 33 hD rfl) hK hNW) rfl rfl hl.1 rfl (lv_room (Nat.le_of_ble_eq_true rfl)) d_X8_symbolsOf_14 ⟨(Nat.le_of_ble_eq_true rfl), (Nat.le_of_ble_eq_true rfl)⟩) hP hD hS hA (fun r1 u1 H locs hw hP hD hS => ?_)
      have hP : va_P D vwCl (wB cy r σ0) H := hP
      have hD : va_D A (wB cy r σ0) := hD
      refine lv_icmp_ge (tgt := 43) hx hb d_X8_symbolsOf_17 (by decide) (fun c_17 => ?_) (fun c_17 => ?_)
      · -- taken at 17
        refine lv_iload_n hx hb d_X8_symbolsOf_43 rfl (lv_at hl 2 rfl) ?_
        refine W.widen (k := 0) (n := 0) (Nat.le_of_ble_eq_true rfl) (Nat.le_of_ble_eq_true rfl) ?_
        exact k_iret (X := Unit) (w1 := fun _ => wB cy r σ0) () hx hb hr d_X8_symbolsOf_44 hlocks hP hK hD hS trivial
      · -- not taken at 17
        refine lv_iload_n hx hb d_X8_symbolsOf_20 rfl (lv_at hl 2 rfl) ?_
        refine lv_aload_n hx hb d_X8_symbolsOf_21 rfl (lv_at hl 0 rfl) ?_
        refine lv_iload_n hx hb d_X8_symbolsOf_22 rfl (lv_at hl 3 rfl) ?_
        refine lv_iconst (v := 2) hx hb d_X8_symbolsOf_23 (by decide) ?_
        refine s_calli (X := Unit) (w1 := fun _ => wB cy r σ0) (va_runV (As := [.int x3, .int 2]) (rest := [.int x2]) ⟨hx, hb, hml, hown, hg⟩ (s_X8_is l D cy H.size w g r σ0 x3 (2 : Int32) i0 ) (cwV 2 hg (gw_V m_1525 m_1123 ms_X8_is m_5 m_1124) rfl rfl rfl (by decide +kernel) ⟨(Nat.le_of_ble_eq_true rfl), (Nat.le_of_ble_eq_true rfl)⟩) (s_preVE (As := [.int x3, .int 2]) (gE_ok w g) hS hA hE hP hD hK hNW 4 rfl rfl) rfl rfl hl.1 rfl (lv_room (Nat.le_of_ble_eq_true rfl)) d_X8_symbolsOf_24 ⟨(Nat.le_of_ble_eq_true rfl), (Nat.le_of_ble_eq_true rfl)⟩) hP hD hS hA (fun r2 u2 H locs hw hP hD hS => ?_)
        have hP : va_P D vwCl (wB cy r σ0) H := hP
        have hD : va_D A (wB cy r σ0) := hD
        have hz2 : r2 = 0 ∨ r2 = 1 := hw.1
        refine lv_if_eq (tgt := 34) hx hb d_X8_symbolsOf_27 (by decide) (fun c_27 => ?_) (fun c_27 => ?_)
        · -- taken at 27
          refine lv_iconst (v := 1) hx hb d_X8_symbolsOf_34 (by decide) ?_
          refine lv_iadd hx hb d_X8_symbolsOf_35 ?_
          refine lv_istore_n (lv' := [(2, .int (x2 + 1)), (0, .ref (r 5)), (1, .int x1), (3, .int x3)]) hx hb d_X8_symbolsOf_36 rfl hl (by decide) rfl (fun ls hl => ?_)
          refine lv_iinc (v := (x3 + 1)) (lv' := [(3, .int (x3 + 1)), (2, .int (x2 + 1)), (0, .ref (r 5)), (1, .int x1)]) hx hb d_X8_symbolsOf_37 hl (k := 3) rfl rfl (by decide) rfl (fun ls hl => ?_)
          refine lv_goto (tgt := 8) hx hb d_X8_symbolsOf_40 (by decide) ?_
          exact ih8 _ (Nat.lt_of_lt_of_eq (upm_lt c_17) N8) x1 (x2 + 1) (x3 + 1) _ _ _ rfl hP hD hS (lv_sub hl [2, 3, 1, 0] rfl)
        · -- not taken at 27
          refine lv_iconst (v := 0) hx hb d_X8_symbolsOf_30 (by decide) ?_
          refine lv_goto (tgt := 35) hx hb d_X8_symbolsOf_31 (by decide) ?_
          refine lv_iadd hx hb d_X8_symbolsOf_35 ?_
          refine lv_istore_n (lv' := [(2, .int (x2 + 0)), (0, .ref (r 5)), (1, .int x1), (3, .int x3)]) hx hb d_X8_symbolsOf_36 rfl hl (by decide) rfl (fun ls hl => ?_)
          refine lv_iinc (v := (x3 + 1)) (lv' := [(3, .int (x3 + 1)), (2, .int (x2 + 0)), (0, .ref (r 5)), (1, .int x1)]) hx hb d_X8_symbolsOf_37 hl (k := 3) rfl rfl (by decide) rfl (fun ls hl => ?_)
          refine lv_goto (tgt := 8) hx hb d_X8_symbolsOf_40 (by decide) ?_
          exact ih8 _ (Nat.lt_of_lt_of_eq (upm_lt c_17) N8) x1 (x2 + 0) (x3 + 1) _ _ _ rfl hP hD hS (lv_sub hl [2, 3, 1, 0] rfl)
  obtain ⟨H, hH⟩ : ∃ H, H = s.heap := ⟨_, rfl⟩
  rw [← hH] at hP
  have hS : va_S A s.heap H [] := by rw [hH]; exact va_S.rf
  have hgoal : W p l e ({ frames := 2, cells := 0, slots := 0, locals := 43 } : Room) s m (([.ref (r 5), .int a1] : List Value).toArray) below meth c H [] 0 0 (MQ below (va_Qi (S := Unit) (fun (_ : Int32) (_ : Unit) => True) (fun _ => kPost D cy A (wB cy r σ0)) A) (([.ref (r 5), .int a1] : List Value).toArray) s 0 0 A) (F0 m 0 ls []) := by
    refine lv_iconst (v := 0) hx hb d_X8_symbolsOf_0 (by decide) ?_
    refine lv_istore_n (lv' := [(2, .int 0), (0, .ref (r 5)), (1, .int a1)]) hx hb d_X8_symbolsOf_1 rfl hl (by decide) rfl (fun ls hl => ?_)
    refine lv_aload_n hx hb d_X8_symbolsOf_2 rfl (lv_at hl 1 rfl) ?_
    refine lv_iload_n hx hb d_X8_symbolsOf_3 rfl (lv_at hl 2 rfl) ?_
    refine s_calli (X := Unit) (w1 := fun _ => wB cy r σ0) (va_runV (As := [.int a1]) (rest := []) ⟨hx, hb, hml, hown, hg⟩ (s_X8_firstOf l D cy H.size w g r σ0 a1 i0 ) (cwV 1 hg (gw_V m_1521 m_1523 ms_X8_firstOf m_5 m_1524) rfl rfl rfl (by decide +kernel) ⟨(Nat.le_of_ble_eq_true rfl), (Nat.le_of_ble_eq_true rfl)⟩) (s_preVE (As := [.int a1]) (gE_ok w g) hS hA hE hP hD hK hNW 4 rfl rfl) rfl rfl hl.1 rfl (lv_room (Nat.le_of_ble_eq_true rfl)) d_X8_symbolsOf_4 ⟨(Nat.le_of_ble_eq_true rfl), (Nat.le_of_ble_eq_true rfl)⟩) hP hD hS hA (fun r3 u3 H locs hw hP hD hS => ?_)
    have hP : va_P D vwCl (wB cy r σ0) H := hP
    have hD : va_D A (wB cy r σ0) := hD
    refine lv_istore_n (lv' := [(3, .int r3), (2, .int 0), (0, .ref (r 5)), (1, .int a1)]) hx hb d_X8_symbolsOf_7 rfl hl (by decide) rfl (fun ls hl => ?_)
    exact b8 _ a1 (0 : Int32) r3 _ _ _ rfl hP hD hS (lv_sub hl [2, 3, 1, 0] rfl)
  rw [hH] at hgoal
  exact hgoal
set_option maxHeartbeats 4000000 in
set_option maxRecDepth 100000 in
theorem s_X5_turn (l : Launch) (D : va_G) (cy : Nat → ClassId) (sz : Nat) (w : Nat → Nat) (g : Nat → Nat → Int32) (r : Nat → Nat) (σ0 : St) (a1 : Int32) (i0 : Inv σ0) : Met l y_X5_turn (Cond.code y_X5_turn b_X5_turn 2 (some .boolean) :: GW) ({ frames := 1, cells := 0, slots := 0, locals := 22 } : Room) (va_Pc [.ref (r 12), .int a1] (kPreE D cy sz (wB cy r σ0) (gE w g))) ((fun A : Nat → Prop => va_Qi (S := St) (fun (v9 : Int32) (τ : St) => (v9 = 0 ∨ v9 = 1) ∧ (Inv τ ∧ Keep [(12, 13), (12, 14), (12, 16), (12, 17)] [] σ0 τ)) (fun τ => kPost D cy A (wB cy r τ)) A) (va_A (wB cy r σ0) sz)) 0 0 (va_A (wB cy r σ0) sz) := by
  refine k_ofWE (Qc := fun A => va_Qi (S := St) (fun (v9 : Int32) (τ : St) => (v9 = 0 ∨ v9 = 1) ∧ (Inv τ ∧ Keep [(12, 13), (12, 14), (12, 16), (12, 17)] [] σ0 τ)) (fun τ => kPost D cy A (wB cy r τ)) A) (by decide) (Nat.le_of_ble_eq_true rfl) ?_
  intro p e s m below meth c A ls hx hb hr hml hown hlocks hin hg hNW hK hP hD hA hS hl hE
  have hl : lv_has ls 2 [(0, .ref (r 12)), (1, .int a1)] := hl
  have hown : s.vm.findClass "LinkedUnits$Machine" = some m.cls := hown
  have kp : Keep [(12, 13), (12, 14), (12, 16), (12, 17)] [] σ0 σ0 := keep_rf
  obtain ⟨H, hH⟩ : ∃ H, H = s.heap := ⟨_, rfl⟩
  rw [← hH] at hP
  have hS : va_S A s.heap H [] := by rw [hH]; exact va_S.rf
  have hgoal : W p l e ({ frames := 1, cells := 0, slots := 0, locals := 22 } : Room) s m (([.ref (r 12), .int a1] : List Value).toArray) below meth c H [] 0 0 (MQ below (va_Qi (S := St) (fun (v9 : Int32) (τ : St) => (v9 = 0 ∨ v9 = 1) ∧ (Inv τ ∧ Keep [(12, 13), (12, 14), (12, 16), (12, 17)] [] σ0 τ)) (fun τ => kPost D cy A (wB cy r τ)) A) (([.ref (r 12), .int a1] : List Value).toArray) s 0 0 A) (F0 m 0 ls []) := by
    refine lv_aload_n hx hb d_X5_turn_0 rfl (lv_at hl 0 rfl) ?_
    refine va_get (D := D) (ci := 5) (v := .int (σ0 12 14)) (C := "LinkedUnits$Machine") (T := TX5) (N := 19) hx hb hg iwX5 hown hK hP 11 rfl rfl 14 (by decide) (hg _ m_686) (fun _ h9 => h9) rfl d_X5_turn_1 ?_
    refine lv_aload_n hx hb d_X5_turn_4 rfl (lv_at hl 0 rfl) ?_
    refine va_get (D := D) (ci := 5) (v := .int (σ0 12 12)) (C := "LinkedUnits$Machine") (T := TX5) (N := 19) hx hb hg iwX5 hown hK hP 11 rfl rfl 12 (by decide) (hg _ m_684) (fun _ h9 => h9) rfl d_X5_turn_5 ?_
    refine lv_icmp_lt (tgt := 19) hx hb d_X5_turn_8 (by decide) (fun c_8 => ?_) (fun c_8 => ?_)
    · -- taken at 8
      refine lv_aload_n hx hb d_X5_turn_19 rfl (lv_at hl 0 rfl) ?_
      refine lv_dup hx hb d_X5_turn_20 rfl ?_
      refine va_get (D := D) (ci := 5) (v := .int (σ0 12 14)) (C := "LinkedUnits$Machine") (T := TX5) (N := 19) hx hb hg iwX5 hown hK hP 11 rfl rfl 14 (by decide) (hg _ m_686) (fun _ h9 => h9) rfl d_X5_turn_21 ?_
      refine lv_iconst (v := 1) hx hb d_X5_turn_24 (by decide) ?_
      refine lv_iadd hx hb d_X5_turn_25 ?_
      refine va_put (D := D) (ci := 5) (v := .int ((σ0 12 14) + 1)) (ty := .int) (C := "LinkedUnits$Machine") (T := TX5) (N := 19) hx hb hg iwX5 tyX5 tyX5_ok nmX5 hown hK hP hD hS 11 rfl rfl 14 (by decide) (hg _ m_686) (fun _ h9 => h9) rfl (by decide +kernel) rfl rfl (Nat.le_of_ble_eq_true rfl) d_X5_turn_26 (fun H locs hP hD hS => ?_)
      have hP : va_P D vwCl (wB cy r (upC σ0 12 14 ((σ0 12 14) + 1))) H := hP
      have hD : va_D A (wB cy r (upC σ0 12 14 ((σ0 12 14) + 1))) := hD
      have kp : Keep [(12, 13), (12, 14), (12, 16), (12, 17)] [] σ0 (upC σ0 12 14 ((σ0 12 14) + 1)) := keep_f kp (by decide)
      refine lv_iconst (v := 1) hx hb d_X5_turn_29 (by decide) ?_
      refine W.widen (k := 0) (n := 0) (Nat.le_of_ble_eq_true rfl) (Nat.le_of_ble_eq_true rfl) ?_
      exact k_zret (X := St) (w1 := fun τ => wB cy r τ) (upC σ0 12 14 ((σ0 12 14) + 1)) hx hb hr (k_nz (Or.inr rfl)) d_X5_turn_30 hlocks hP hK hD hS ⟨(Or.inr rfl), ⟨i0, kp⟩⟩
    · -- not taken at 8
      refine lv_aload_n hx hb d_X5_turn_11 rfl (lv_at hl 0 rfl) ?_
      refine lv_iconst (v := 4) hx hb d_X5_turn_12 (by decide) ?_
      refine lv_iload_n hx hb d_X5_turn_13 rfl (lv_at hl 1 rfl) ?_
      refine s_callv (X := St) (w1 := fun τ => wB cy r τ) (va_runV (As := [.int 4, .int a1]) (rest := []) ⟨hx, hb, hml, hown, hg⟩ (s_X5_fail l D cy H.size w g r σ0 (4 : Int32) a1 i0 ) (cwV 2 hg (gw_V m_1656 m_1658 ms_X5_fail m_17 m_1659) rfl rfl rfl (by decide +kernel) ⟨(Nat.le_of_ble_eq_true rfl), (Nat.le_of_ble_eq_true rfl)⟩) (s_preVE (As := [.int 4, .int a1]) (gE_ok w g) hS hA hE hP hD hK hNW 11 rfl rfl) rfl rfl hl.1 rfl (lv_room (Nat.le_of_ble_eq_true rfl)) d_X5_turn_14 ⟨(Nat.le_of_ble_eq_true rfl), (Nat.le_of_ble_eq_true rfl)⟩) hP hD hS hA (fun σ1 H locs hw hP hD hS => ?_)
      have hP : va_P D vwCl (wB cy r σ1) H := hP
      have hD : va_D A (wB cy r σ1) := hD
      have ik1 : Keep [(12, 13), (12, 16), (12, 17)] [] σ0 σ1 := hw.2
      have kp : Keep [(12, 13), (12, 14), (12, 16), (12, 17)] [] σ0 σ1 := keep_c kp ik1 (by decide) (by decide)
      have i1 : Inv σ1 := hw.1
      refine lv_iconst (v := 0) hx hb d_X5_turn_17 (by decide) ?_
      refine W.widen (k := 0) (n := 0) (Nat.le_of_ble_eq_true rfl) (Nat.le_of_ble_eq_true rfl) ?_
      exact k_zret (X := St) (w1 := fun τ => wB cy r τ) σ1 hx hb hr (k_nz (Or.inl rfl)) d_X5_turn_18 hlocks hP hK hD hS ⟨(Or.inl rfl), ⟨i1, kp⟩⟩
  rw [hH] at hgoal
  exact hgoal
set_option maxHeartbeats 4000000 in
set_option maxRecDepth 100000 in
theorem s_X3_parameters (l : Launch) (D : va_G) (cy : Nat → ClassId) (sz : Nat) (w : Nat → Nat) (g : Nat → Nat → Int32) (r : Nat → Nat) (σ0 : St) (i0 : Inv σ0) : Met l y_X3_parameters (Cond.code y_X3_parameters b_X3_parameters 7 (some .int) :: GW) ({ frames := 2, cells := 0, slots := 0, locals := 43 } : Room) (va_Pc [.ref (r 3)] (kPreE D cy sz (wB cy r σ0) (gE w g))) ((fun A : Nat → Prop => va_Qi (S := St) (fun (_ : Int32) (τ : St) => (Inv τ ∧ Keep [(3, 1), (3, 2), (3, 3)] [23] σ0 τ)) (fun τ => kPost D cy A (wB cy r τ)) A) (va_A (wB cy r σ0) sz)) 0 0 (va_A (wB cy r σ0) sz) := by
  refine k_ofWE (Qc := fun A => va_Qi (S := St) (fun (_ : Int32) (τ : St) => (Inv τ ∧ Keep [(3, 1), (3, 2), (3, 3)] [23] σ0 τ)) (fun τ => kPost D cy A (wB cy r τ)) A) (by decide) (Nat.le_of_ble_eq_true rfl) ?_
  intro p e s m below meth c A ls hx hb hr hml hown hlocks hin hg hNW hK hP hD hA hS hl hE
  have hl : lv_has ls 7 [(0, .ref (r 3))] := hl
  have hown : s.vm.findClass "LinkedUnits$Grammar" = some m.cls := hown
  have b6 : ∀ (N : Nat) (σ : St) (x1 : Int32) (x2 : Int32) (x3 : Int32) (H : Heap) (locs : List Loc) (ls : Array Slot), upm x2 = N → Inv σ → Keep [(3, 1), (3, 2), (3, 3)] [23] σ0 σ → x3 = 0 ∨ x3 = 1 → va_P D vwCl (wB cy r σ) H → va_D A (wB cy r σ) → va_S A s.heap H locs → lv_has ls 7 [(0, .ref (r 3)), (1, .int x1), (2, .int x2), (3, .int x3)] → W p l e ({ frames := 2, cells := 0, slots := 0, locals := 43 } : Room) s m (([.ref (r 3)] : List Value).toArray) below meth c H locs 0 0 (MQ below (va_Qi (S := St) (fun (_ : Int32) (τ : St) => (Inv τ ∧ Keep [(3, 1), (3, 2), (3, 3)] [23] σ0 τ)) (fun τ => kPost D cy A (wB cy r τ)) A) (([.ref (r 3)] : List Value).toArray) s 0 0 A) (F0 m 6 ls []) := by
    intro M6
    induction M6 using Nat.strongRecOn with
    | _ M6 ih6 =>
      intro σ x1 x2 x3 H locs ls N6 inv kp z_x3 hP hD hS hl
      refine lv_iload_n hx hb d_X3_parameters_6 rfl (lv_at hl 2 rfl) ?_
      refine lv_bipush (v := 8) hx hb d_X3_parameters_7 (by decide) ?_
      refine lv_icmp_ge (tgt := 100) hx hb d_X3_parameters_9 (by decide) (fun c_9 => ?_) (fun c_9 => ?_)
      · -- taken at 9
        refine lv_iload_n hx hb d_X3_parameters_100 rfl (lv_at hl 3 rfl) ?_
        refine lv_if_eq (tgt := 108) hx hb d_X3_parameters_101 (by decide) (fun c_101 => ?_) (fun c_101 => ?_)
        · -- taken at 101
          refine lv_iload_n hx hb d_X3_parameters_108 rfl (lv_at hl 1 rfl) ?_
          refine W.widen (k := 0) (n := 0) (Nat.le_of_ble_eq_true rfl) (Nat.le_of_ble_eq_true rfl) ?_
          exact k_iret (X := St) (w1 := fun τ => wB cy r τ) σ hx hb hr d_X3_parameters_109 hlocks hP hK hD hS ⟨inv, kp⟩
        · -- not taken at 101
          refine lv_aload_n hx hb d_X3_parameters_104 rfl (lv_at hl 0 rfl) ?_
          refine s_callv (X := St) (w1 := fun τ => wB cy r τ) (va_runV (As := []) (rest := []) ⟨hx, hb, hml, hown, hg⟩ (s_X3_fail l D cy H.size w g r σ  inv ) (cwV 0 hg (gw_V m_907 m_909 ms_X3_fail m_3 m_910) rfl rfl rfl (by decide +kernel) ⟨(Nat.le_of_ble_eq_true rfl), (Nat.le_of_ble_eq_true rfl)⟩) (s_preVE (As := []) (gE_ok w g) hS hA hE hP hD hK hNW 2 rfl rfl) rfl rfl hl.1 rfl (lv_room (Nat.le_of_ble_eq_true rfl)) d_X3_parameters_105 ⟨(Nat.le_of_ble_eq_true rfl), (Nat.le_of_ble_eq_true rfl)⟩) hP hD hS hA (fun σ1 H locs hw hP hD hS => ?_)
          have hP : va_P D vwCl (wB cy r σ1) H := hP
          have hD : va_D A (wB cy r σ1) := hD
          have ik1 : Keep [(3, 2), (3, 3)] [] σ σ1 := hw.2
          have kp : Keep [(3, 1), (3, 2), (3, 3)] [23] σ0 σ1 := keep_c kp ik1 (by decide) (by decide)
          have i1 : Inv σ1 := hw.1
          refine lv_iload_n hx hb d_X3_parameters_108 rfl (lv_at hl 1 rfl) ?_
          refine W.widen (k := 0) (n := 0) (Nat.le_of_ble_eq_true rfl) (Nat.le_of_ble_eq_true rfl) ?_
          exact k_iret (X := St) (w1 := fun τ => wB cy r τ) σ1 hx hb hr d_X3_parameters_109 hlocks hP hK hD hS ⟨i1, kp⟩
      · -- not taken at 9
        refine lv_iload_n hx hb d_X3_parameters_12 rfl (lv_at hl 3 rfl) ?_
        refine lv_if_eq (tgt := 100) hx hb d_X3_parameters_13 (by decide) (fun c_13 => ?_) (fun c_13 => ?_)
        · -- taken at 13
          refine lv_iload_n hx hb d_X3_parameters_100 rfl (lv_at hl 3 rfl) ?_
          refine lv_if_eq (tgt := 108) hx hb d_X3_parameters_101 (by decide) (fun c_101 => ?_) (fun c_101 => ?_)
          · -- taken at 101
            refine lv_iload_n hx hb d_X3_parameters_108 rfl (lv_at hl 1 rfl) ?_
            refine W.widen (k := 0) (n := 0) (Nat.le_of_ble_eq_true rfl) (Nat.le_of_ble_eq_true rfl) ?_
            exact k_iret (X := St) (w1 := fun τ => wB cy r τ) σ hx hb hr d_X3_parameters_109 hlocks hP hK hD hS ⟨inv, kp⟩
          · -- not taken at 101
            refine lv_aload_n hx hb d_X3_parameters_104 rfl (lv_at hl 0 rfl) ?_
            refine s_callv (X := St) (w1 := fun τ => wB cy r τ) (va_runV (As := []) (rest := []) ⟨hx, hb, hml, hown, hg⟩ (s_X3_fail l D cy H.size w g r σ  inv ) (cwV 0 hg (gw_V m_907 m_909 ms_X3_fail m_3 m_910) rfl rfl rfl (by decide +kernel) ⟨(Nat.le_of_ble_eq_true rfl), (Nat.le_of_ble_eq_true rfl)⟩) (s_preVE (As := []) (gE_ok w g) hS hA hE hP hD hK hNW 2 rfl rfl) rfl rfl hl.1 rfl (lv_room (Nat.le_of_ble_eq_true rfl)) d_X3_parameters_105 ⟨(Nat.le_of_ble_eq_true rfl), (Nat.le_of_ble_eq_true rfl)⟩) hP hD hS hA (fun σ2 H locs hw hP hD hS => ?_)
            have hP : va_P D vwCl (wB cy r σ2) H := hP
            have hD : va_D A (wB cy r σ2) := hD
            have ik2 : Keep [(3, 2), (3, 3)] [] σ σ2 := hw.2
            have kp : Keep [(3, 1), (3, 2), (3, 3)] [23] σ0 σ2 := keep_c kp ik2 (by decide) (by decide)
            have i2 : Inv σ2 := hw.1
            refine lv_iload_n hx hb d_X3_parameters_108 rfl (lv_at hl 1 rfl) ?_
            refine W.widen (k := 0) (n := 0) (Nat.le_of_ble_eq_true rfl) (Nat.le_of_ble_eq_true rfl) ?_
            exact k_iret (X := St) (w1 := fun τ => wB cy r τ) σ2 hx hb hr d_X3_parameters_109 hlocks hP hK hD hS ⟨i2, kp⟩
        · -- not taken at 13
          refine lv_aload_n hx hb d_X3_parameters_16 rfl (lv_at hl 0 rfl) ?_
          refine lv_iconst (v := 5) hx hb d_X3_parameters_17 (by decide) ?_
          refine s_callv (X := St) (w1 := fun τ => wB cy r τ) (va_runV (As := [.int 5]) (rest := []) ⟨hx, hb, hml, hown, hg⟩ (s_X3_expect l D cy H.size w g r σ (5 : Int32) inv ) (cwV 1 hg (gw_V m_903 m_905 ms_X3_expect m_3 m_906) rfl rfl rfl (by decide +kernel) ⟨(Nat.le_of_ble_eq_true rfl), (Nat.le_of_ble_eq_true rfl)⟩) (s_preVE (As := [.int 5]) (gE_ok w g) hS hA hE hP hD hK hNW 2 rfl rfl) rfl rfl hl.1 rfl (lv_room (Nat.le_of_ble_eq_true rfl)) d_X3_parameters_18 ⟨(Nat.le_of_ble_eq_true rfl), (Nat.le_of_ble_eq_true rfl)⟩) hP hD hS hA (fun σ3 H locs hw hP hD hS => ?_)
          have hP : va_P D vwCl (wB cy r σ3) H := hP
          have hD : va_D A (wB cy r σ3) := hD
          have ik3 : Keep [(3, 1), (3, 2), (3, 3)] [] σ σ3 := hw.2
          have kp : Keep [(3, 1), (3, 2), (3, 3)] [23] σ0 σ3 := keep_c kp ik3 (by decide) (by decide)
          have i3 : Inv σ3 := hw.1
          refine lv_aload_n hx hb d_X3_parameters_21 rfl (lv_at hl 0 rfl) ?_
          refine s_calli (X := St) (w1 := fun τ => wB cy r τ) (va_runV (As := []) (rest := []) ⟨hx, hb, hml, hown, hg⟩ (s_X3_stars l D cy H.size w g r σ3  i3 ) (cwV 0 hg (gw_V m_911 m_913 ms_X3_stars m_3 m_914) rfl rfl rfl (by decide +kernel) ⟨(Nat.le_of_ble_eq_true rfl), (Nat.le_of_ble_eq_true rfl)⟩) (s_preVE (As := []) (gE_ok w g) hS hA hE hP hD hK hNW 2 rfl rfl) rfl rfl hl.1 rfl (lv_room (Nat.le_of_ble_eq_true rfl)) d_X3_parameters_22 ⟨(Nat.le_of_ble_eq_true rfl), (Nat.le_of_ble_eq_true rfl)⟩) hP hD hS hA (fun r4 σ4 H locs hw hP hD hS => ?_)
          have hP : va_P D vwCl (wB cy r σ4) H := hP
          have hD : va_D A (wB cy r σ4) := hD
          have ik4 : Keep [(3, 1), (3, 2), (3, 3)] [] σ3 σ4 := hw.2
          have kp : Keep [(3, 1), (3, 2), (3, 3)] [23] σ0 σ4 := keep_c kp ik4 (by decide) (by decide)
          have i4 : Inv σ4 := hw.1
          refine lv_istore (lv' := [(4, .int r4), (0, .ref (r 3)), (1, .int x1), (2, .int x2), (3, .int x3)]) hx hb d_X3_parameters_25 hl (by decide) rfl (fun ls hl => ?_)
          refine lv_aload_n hx hb d_X3_parameters_27 rfl (lv_at hl 1 rfl) ?_
          refine va_get (D := D) (ci := 3) (v := .int (σ4 3 1)) (C := "LinkedUnits$Grammar") (T := TX3) (N := 12) hx hb hg iwX3 hown hK hP 2 rfl rfl 1 (by decide) (hg _ m_95) (fun _ h9 => h9) rfl d_X3_parameters_28 ?_
          refine lv_istore (lv' := [(5, .int (σ4 3 1)), (4, .int r4), (0, .ref (r 3)), (1, .int x1), (2, .int x2), (3, .int x3)]) hx hb d_X3_parameters_31 hl (by decide) rfl (fun ls hl => ?_)
          refine lv_aload_n hx hb d_X3_parameters_33 rfl (lv_at hl 2 rfl) ?_
          refine lv_iconst (v := 2) hx hb d_X3_parameters_34 (by decide) ?_
          refine s_calli (X := St) (w1 := fun τ => wB cy r τ) (va_runV (As := [.int 2]) (rest := []) ⟨hx, hb, hml, hown, hg⟩ (s_X3_accept l D cy H.size w g r σ4 (2 : Int32) i4 ) (cwV 1 hg (gw_V m_966 m_968 ms_X3_accept m_3 m_969) rfl rfl rfl (by decide +kernel) ⟨(Nat.le_of_ble_eq_true rfl), (Nat.le_of_ble_eq_true rfl)⟩) (s_preVE (As := [.int 2]) (gE_ok w g) hS hA hE hP hD hK hNW 2 rfl rfl) rfl rfl hl.1 rfl (lv_room (Nat.le_of_ble_eq_true rfl)) d_X3_parameters_35 ⟨(Nat.le_of_ble_eq_true rfl), (Nat.le_of_ble_eq_true rfl)⟩) hP hD hS hA (fun r5 σ5 H locs hw hP hD hS => ?_)
          have hP : va_P D vwCl (wB cy r σ5) H := hP
          have hD : va_D A (wB cy r σ5) := hD
          have ik5 : Keep [(3, 1), (3, 2)] [] σ4 σ5 := hw.2.2
          have kp : Keep [(3, 1), (3, 2), (3, 3)] [23] σ0 σ5 := keep_c kp ik5 (by decide) (by decide)
          have i5 : Inv σ5 := hw.2.1
          have hz5 : r5 = 0 ∨ r5 = 1 := hw.1
          refine lv_istore (lv' := [(6, .int r5), (5, .int (σ4 3 1)), (4, .int r4), (0, .ref (r 3)), (1, .int x1), (2, .int x2), (3, .int x3)]) hx hb d_X3_parameters_38 hl (by decide) rfl (fun ls hl => ?_)
          refine lv_aload_n hx hb d_X3_parameters_40 rfl (lv_at hl 3 rfl) ?_
          refine lv_bipush (v := 24) hx hb d_X3_parameters_41 (by decide) ?_
          refine s_calli (X := St) (w1 := fun τ => wB cy r τ) (va_runV (As := [.int 24]) (rest := []) ⟨hx, hb, hml, hown, hg⟩ (s_X3_accept l D cy H.size w g r σ5 (24 : Int32) i5 ) (cwV 1 hg (gw_V m_966 m_968 ms_X3_accept m_3 m_969) rfl rfl rfl (by decide +kernel) ⟨(Nat.le_of_ble_eq_true rfl), (Nat.le_of_ble_eq_true rfl)⟩) (s_preVE (As := [.int 24]) (gE_ok w g) hS hA hE hP hD hK hNW 2 rfl rfl) rfl rfl hl.1 rfl (lv_room (Nat.le_of_ble_eq_true rfl)) d_X3_parameters_43 ⟨(Nat.le_of_ble_eq_true rfl), (Nat.le_of_ble_eq_true rfl)⟩) hP hD hS hA (fun r6 σ6 H locs hw hP hD hS => ?_)
          have hP : va_P D vwCl (wB cy r σ6) H := hP
          have hD : va_D A (wB cy r σ6) := hD
          have ik6 : Keep [(3, 1), (3, 2)] [] σ5 σ6 := hw.2.2
          have kp : Keep [(3, 1), (3, 2), (3, 3)] [23] σ0 σ6 := keep_c kp ik6 (by decide) (by decide)
          have i6 : Inv σ6 := hw.2.1
          have hz6 : r6 = 0 ∨ r6 = 1 := hw.1
          refine lv_if_eq (tgt := 58) hx hb d_X3_parameters_46 (by decide) (fun c_46 => ?_) (fun c_46 => ?_)
          · -- taken at 46
            refine lv_aload_n hx hb d_X3_parameters_58 rfl (lv_at hl 3 rfl) ?_
            refine va_get (D := D) (ci := 3) (v := .ref (r 23)) (C := "LinkedUnits$Grammar") (T := TX3) (N := 12) hx hb hg iwX3 hown hK hP 2 rfl rfl 11 (by decide) (hg _ m_116) (fun _ h9 => h9) rfl d_X3_parameters_59 ?_
            refine lv_iload_n hx hb d_X3_parameters_62 rfl (lv_at hl 5 rfl) ?_
            refine lv_iload hx hb d_X3_parameters_63 (lv_at hl 0 rfl) ?_
            refine lv_if_eq (tgt := 73) hx hb d_X3_parameters_65 (by decide) (fun c_65 => ?_) (fun c_65 => ?_)
            · -- taken at 65
              refine lv_aload_n hx hb d_X3_parameters_73 rfl (lv_at hl 3 rfl) ?_
              refine va_get (D := D) (ci := 3) (v := .int (σ6 3 1)) (C := "LinkedUnits$Grammar") (T := TX3) (N := 12) hx hb hg iwX3 hown hK hP 2 rfl rfl 1 (by decide) (hg _ m_95) (fun _ h9 => h9) rfl d_X3_parameters_74 ?_
              refine s_set1 (X := Nat → Int32) (w := fun g => .inl (cy 1, 8, .inl g)) 22 rfl (va_runSN (As := [.ref (r 23), .int x2, .int (σ6 3 1)]) (rest := []) ⟨hx, hb, hml, hown, hg⟩ (c_set_any l D cy H.size (r 23) 8 (σ6 23) x2 (σ6 3 1) (Nat.le_of_ble_eq_true rfl)) ⟨(va_cnB 3 hg (gw_c m_981) rfl rfl rfl (hNW.1 _ nm_979) (hg _ m_1) (by decide +kernel) ⟨(Nat.le_of_ble_eq_true rfl), (Nat.le_of_ble_eq_true rfl)⟩), hg _ m_980, trivial⟩ (s_pre (ws := [((r 23), .inl (cy 1, 8, .inl (σ6 23)))]) (s_sub1 22 hP rfl) (s_subD 22 hD rfl) hK hNW) rfl rfl hl.1 rfl (lv_room (Nat.le_of_ble_eq_true rfl)) d_X3_parameters_77 ⟨(Nat.le_of_ble_eq_true rfl), (Nat.le_of_ble_eq_true rfl)⟩) hP hD hS hA (fun g7 H locs hw hP hD hS => ?_)
              have hP : va_P D vwCl (wB cy r (upF σ6 23 g7)) H := hP
              have hD : va_D A (wB cy r (upF σ6 23 g7)) := hD
              have kp : Keep [(3, 1), (3, 2), (3, 3)] [23] σ0 (upF σ6 23 g7) := keep_a kp (by decide)
              refine lv_iload_n hx hb d_X3_parameters_80 rfl (lv_at hl 4 rfl) ?_
              refine lv_iload hx hb d_X3_parameters_81 (lv_at hl 2 rfl) ?_
              refine s_call0 (va_runSN (As := [.int x1, .int r4]) (rest := []) ⟨hx, hb, hml, hown, hg⟩ (s_X8_withParameter l D cy H.size x1 r4 ) ⟨(va_cnB 2 hg (gw_c m_996) rfl rfl rfl (hNW.1 _ nm_994) (hg _ m_5) (by decide +kernel) ⟨(Nat.le_of_ble_eq_true rfl), (Nat.le_of_ble_eq_true rfl)⟩), hg _ m_995, trivial⟩ (s_pre (ws := []) (A := A) (fun k q h => by simp at h) ⟨fun i j p q h => by simp at h, fun k q h => by simp at h⟩ hK hNW) rfl rfl hl.1 rfl (lv_room (Nat.le_of_ble_eq_true rfl)) d_X3_parameters_83 ⟨(Nat.le_of_ble_eq_true rfl), (Nat.le_of_ble_eq_true rfl)⟩) hP hD hS hA (fun r8 u8 H locs hw hP hD hS => ?_)
              have hP : va_P D vwCl (wB cy r (upF σ6 23 g7)) H := hP
              have hD : va_D A (wB cy r (upF σ6 23 g7)) := hD
              refine lv_istore_n (lv' := [(1, .int r8), (6, .int r5), (5, .int (σ4 3 1)), (4, .int r4), (0, .ref (r 3)), (2, .int x2), (3, .int x3)]) hx hb d_X3_parameters_86 rfl hl (by decide) rfl (fun ls hl => ?_)
              refine lv_aload_n hx hb d_X3_parameters_87 rfl (lv_at hl 4 rfl) ?_
              refine lv_bipush (v := 26) hx hb d_X3_parameters_88 (by decide) ?_
              refine s_calli (X := St) (w1 := fun τ => wB cy r τ) (va_runV (As := [.int 26]) (rest := []) ⟨hx, hb, hml, hown, hg⟩ (s_X3_accept l D cy H.size w g r (upF σ6 23 g7) (26 : Int32) i6 ) (cwV 1 hg (gw_V m_966 m_968 ms_X3_accept m_3 m_969) rfl rfl rfl (by decide +kernel) ⟨(Nat.le_of_ble_eq_true rfl), (Nat.le_of_ble_eq_true rfl)⟩) (s_preVE (As := [.int 26]) (gE_ok w g) hS hA hE hP hD hK hNW 2 rfl rfl) rfl rfl hl.1 rfl (lv_room (Nat.le_of_ble_eq_true rfl)) d_X3_parameters_90 ⟨(Nat.le_of_ble_eq_true rfl), (Nat.le_of_ble_eq_true rfl)⟩) hP hD hS hA (fun r9 σ9 H locs hw hP hD hS => ?_)
              have hP : va_P D vwCl (wB cy r σ9) H := hP
              have hD : va_D A (wB cy r σ9) := hD
              have ik9 : Keep [(3, 1), (3, 2)] [] (upF σ6 23 g7) σ9 := hw.2.2
              have kp : Keep [(3, 1), (3, 2), (3, 3)] [23] σ0 σ9 := keep_c kp ik9 (by decide) (by decide)
              have i9 : Inv σ9 := hw.2.1
              have hz9 : r9 = 0 ∨ r9 = 1 := hw.1
              refine lv_istore_n (lv' := [(3, .int r9), (1, .int r8), (6, .int r5), (5, .int (σ4 3 1)), (4, .int r4), (0, .ref (r 3)), (2, .int x2)]) hx hb d_X3_parameters_93 rfl hl (by decide) rfl (fun ls hl => ?_)
              refine lv_iinc (v := (x2 + 1)) (lv' := [(2, .int (x2 + 1)), (3, .int r9), (1, .int r8), (6, .int r5), (5, .int (σ4 3 1)), (4, .int r4), (0, .ref (r 3))]) hx hb d_X3_parameters_94 hl (k := 6) rfl rfl (by decide) rfl (fun ls hl => ?_)
              refine lv_goto (tgt := 6) hx hb d_X3_parameters_97 (by decide) ?_
              exact ih6 _ (Nat.lt_of_lt_of_eq (upm_lt c_9) N6) σ9 r8 (x2 + 1) r9 _ _ _ rfl i9 kp hz9 hP hD hS (lv_sub hl [6, 2, 0, 1] rfl)
            · -- not taken at 65
              refine lv_iload hx hb d_X3_parameters_68 (lv_at hl 1 rfl) ?_
              refine lv_goto (tgt := 77) hx hb d_X3_parameters_70 (by decide) ?_
              refine s_set1 (X := Nat → Int32) (w := fun g => .inl (cy 1, 8, .inl g)) 22 rfl (va_runSN (As := [.ref (r 23), .int x2, .int (σ4 3 1)]) (rest := []) ⟨hx, hb, hml, hown, hg⟩ (c_set_any l D cy H.size (r 23) 8 (σ6 23) x2 (σ4 3 1) (Nat.le_of_ble_eq_true rfl)) ⟨(va_cnB 3 hg (gw_c m_981) rfl rfl rfl (hNW.1 _ nm_979) (hg _ m_1) (by decide +kernel) ⟨(Nat.le_of_ble_eq_true rfl), (Nat.le_of_ble_eq_true rfl)⟩), hg _ m_980, trivial⟩ (s_pre (ws := [((r 23), .inl (cy 1, 8, .inl (σ6 23)))]) (s_sub1 22 hP rfl) (s_subD 22 hD rfl) hK hNW) rfl rfl hl.1 rfl (lv_room (Nat.le_of_ble_eq_true rfl)) d_X3_parameters_77 ⟨(Nat.le_of_ble_eq_true rfl), (Nat.le_of_ble_eq_true rfl)⟩) hP hD hS hA (fun g10 H locs hw hP hD hS => ?_)
              have hP : va_P D vwCl (wB cy r (upF σ6 23 g10)) H := hP
              have hD : va_D A (wB cy r (upF σ6 23 g10)) := hD
              have kp : Keep [(3, 1), (3, 2), (3, 3)] [23] σ0 (upF σ6 23 g10) := keep_a kp (by decide)
              refine lv_iload_n hx hb d_X3_parameters_80 rfl (lv_at hl 4 rfl) ?_
              refine lv_iload hx hb d_X3_parameters_81 (lv_at hl 2 rfl) ?_
              refine s_call0 (va_runSN (As := [.int x1, .int r4]) (rest := []) ⟨hx, hb, hml, hown, hg⟩ (s_X8_withParameter l D cy H.size x1 r4 ) ⟨(va_cnB 2 hg (gw_c m_996) rfl rfl rfl (hNW.1 _ nm_994) (hg _ m_5) (by decide +kernel) ⟨(Nat.le_of_ble_eq_true rfl), (Nat.le_of_ble_eq_true rfl)⟩), hg _ m_995, trivial⟩ (s_pre (ws := []) (A := A) (fun k q h => by simp at h) ⟨fun i j p q h => by simp at h, fun k q h => by simp at h⟩ hK hNW) rfl rfl hl.1 rfl (lv_room (Nat.le_of_ble_eq_true rfl)) d_X3_parameters_83 ⟨(Nat.le_of_ble_eq_true rfl), (Nat.le_of_ble_eq_true rfl)⟩) hP hD hS hA (fun r11 u11 H locs hw hP hD hS => ?_)
              have hP : va_P D vwCl (wB cy r (upF σ6 23 g10)) H := hP
              have hD : va_D A (wB cy r (upF σ6 23 g10)) := hD
              refine lv_istore_n (lv' := [(1, .int r11), (6, .int r5), (5, .int (σ4 3 1)), (4, .int r4), (0, .ref (r 3)), (2, .int x2), (3, .int x3)]) hx hb d_X3_parameters_86 rfl hl (by decide) rfl (fun ls hl => ?_)
              refine lv_aload_n hx hb d_X3_parameters_87 rfl (lv_at hl 4 rfl) ?_
              refine lv_bipush (v := 26) hx hb d_X3_parameters_88 (by decide) ?_
              refine s_calli (X := St) (w1 := fun τ => wB cy r τ) (va_runV (As := [.int 26]) (rest := []) ⟨hx, hb, hml, hown, hg⟩ (s_X3_accept l D cy H.size w g r (upF σ6 23 g10) (26 : Int32) i6 ) (cwV 1 hg (gw_V m_966 m_968 ms_X3_accept m_3 m_969) rfl rfl rfl (by decide +kernel) ⟨(Nat.le_of_ble_eq_true rfl), (Nat.le_of_ble_eq_true rfl)⟩) (s_preVE (As := [.int 26]) (gE_ok w g) hS hA hE hP hD hK hNW 2 rfl rfl) rfl rfl hl.1 rfl (lv_room (Nat.le_of_ble_eq_true rfl)) d_X3_parameters_90 ⟨(Nat.le_of_ble_eq_true rfl), (Nat.le_of_ble_eq_true rfl)⟩) hP hD hS hA (fun r12 σ12 H locs hw hP hD hS => ?_)
              have hP : va_P D vwCl (wB cy r σ12) H := hP
              have hD : va_D A (wB cy r σ12) := hD
              have ik12 : Keep [(3, 1), (3, 2)] [] (upF σ6 23 g10) σ12 := hw.2.2
              have kp : Keep [(3, 1), (3, 2), (3, 3)] [23] σ0 σ12 := keep_c kp ik12 (by decide) (by decide)
              have i12 : Inv σ12 := hw.2.1
              have hz12 : r12 = 0 ∨ r12 = 1 := hw.1
              refine lv_istore_n (lv' := [(3, .int r12), (1, .int r11), (6, .int r5), (5, .int (σ4 3 1)), (4, .int r4), (0, .ref (r 3)), (2, .int x2)]) hx hb d_X3_parameters_93 rfl hl (by decide) rfl (fun ls hl => ?_)
              refine lv_iinc (v := (x2 + 1)) (lv' := [(2, .int (x2 + 1)), (3, .int r12), (1, .int r11), (6, .int r5), (5, .int (σ4 3 1)), (4, .int r4), (0, .ref (r 3))]) hx hb d_X3_parameters_94 hl (k := 6) rfl rfl (by decide) rfl (fun ls hl => ?_)
              refine lv_goto (tgt := 6) hx hb d_X3_parameters_97 (by decide) ?_
              exact ih6 _ (Nat.lt_of_lt_of_eq (upm_lt c_9) N6) σ12 r11 (x2 + 1) r12 _ _ _ rfl i12 kp hz12 hP hD hS (lv_sub hl [6, 2, 0, 1] rfl)
          · -- not taken at 46
            refine lv_aload_n hx hb d_X3_parameters_49 rfl (lv_at hl 3 rfl) ?_
            refine lv_bipush (v := 25) hx hb d_X3_parameters_50 (by decide) ?_
            refine s_callv (X := St) (w1 := fun τ => wB cy r τ) (va_runV (As := [.int 25]) (rest := []) ⟨hx, hb, hml, hown, hg⟩ (s_X3_expect l D cy H.size w g r σ6 (25 : Int32) i6 ) (cwV 1 hg (gw_V m_903 m_905 ms_X3_expect m_3 m_906) rfl rfl rfl (by decide +kernel) ⟨(Nat.le_of_ble_eq_true rfl), (Nat.le_of_ble_eq_true rfl)⟩) (s_preVE (As := [.int 25]) (gE_ok w g) hS hA hE hP hD hK hNW 2 rfl rfl) rfl rfl hl.1 rfl (lv_room (Nat.le_of_ble_eq_true rfl)) d_X3_parameters_52 ⟨(Nat.le_of_ble_eq_true rfl), (Nat.le_of_ble_eq_true rfl)⟩) hP hD hS hA (fun σ13 H locs hw hP hD hS => ?_)
            have hP : va_P D vwCl (wB cy r σ13) H := hP
            have hD : va_D A (wB cy r σ13) := hD
            have ik13 : Keep [(3, 1), (3, 2), (3, 3)] [] σ6 σ13 := hw.2
            have kp : Keep [(3, 1), (3, 2), (3, 3)] [23] σ0 σ13 := keep_c kp ik13 (by decide) (by decide)
            have i13 : Inv σ13 := hw.1
            refine lv_iinc (v := (r4 + 1)) (lv' := [(4, .int (r4 + 1)), (6, .int r5), (5, .int (σ4 3 1)), (0, .ref (r 3)), (1, .int x1), (2, .int x2), (3, .int x3)]) hx hb d_X3_parameters_55 hl (k := 2) rfl rfl (by decide) rfl (fun ls hl => ?_)
            refine lv_aload_n hx hb d_X3_parameters_58 rfl (lv_at hl 3 rfl) ?_
            refine va_get (D := D) (ci := 3) (v := .ref (r 23)) (C := "LinkedUnits$Grammar") (T := TX3) (N := 12) hx hb hg iwX3 hown hK hP 2 rfl rfl 11 (by decide) (hg _ m_116) (fun _ h9 => h9) rfl d_X3_parameters_59 ?_
            refine lv_iload_n hx hb d_X3_parameters_62 rfl (lv_at hl 5 rfl) ?_
            refine lv_iload hx hb d_X3_parameters_63 (lv_at hl 1 rfl) ?_
            refine lv_if_eq (tgt := 73) hx hb d_X3_parameters_65 (by decide) (fun c_65 => ?_) (fun c_65 => ?_)
            · -- taken at 65
              refine lv_aload_n hx hb d_X3_parameters_73 rfl (lv_at hl 3 rfl) ?_
              refine va_get (D := D) (ci := 3) (v := .int (σ13 3 1)) (C := "LinkedUnits$Grammar") (T := TX3) (N := 12) hx hb hg iwX3 hown hK hP 2 rfl rfl 1 (by decide) (hg _ m_95) (fun _ h9 => h9) rfl d_X3_parameters_74 ?_
              refine s_set1 (X := Nat → Int32) (w := fun g => .inl (cy 1, 8, .inl g)) 22 rfl (va_runSN (As := [.ref (r 23), .int x2, .int (σ13 3 1)]) (rest := []) ⟨hx, hb, hml, hown, hg⟩ (c_set_any l D cy H.size (r 23) 8 (σ13 23) x2 (σ13 3 1) (Nat.le_of_ble_eq_true rfl)) ⟨(va_cnB 3 hg (gw_c m_981) rfl rfl rfl (hNW.1 _ nm_979) (hg _ m_1) (by decide +kernel) ⟨(Nat.le_of_ble_eq_true rfl), (Nat.le_of_ble_eq_true rfl)⟩), hg _ m_980, trivial⟩ (s_pre (ws := [((r 23), .inl (cy 1, 8, .inl (σ13 23)))]) (s_sub1 22 hP rfl) (s_subD 22 hD rfl) hK hNW) rfl rfl hl.1 rfl (lv_room (Nat.le_of_ble_eq_true rfl)) d_X3_parameters_77 ⟨(Nat.le_of_ble_eq_true rfl), (Nat.le_of_ble_eq_true rfl)⟩) hP hD hS hA (fun g14 H locs hw hP hD hS => ?_)
              have hP : va_P D vwCl (wB cy r (upF σ13 23 g14)) H := hP
              have hD : va_D A (wB cy r (upF σ13 23 g14)) := hD
              have kp : Keep [(3, 1), (3, 2), (3, 3)] [23] σ0 (upF σ13 23 g14) := keep_a kp (by decide)
              refine lv_iload_n hx hb d_X3_parameters_80 rfl (lv_at hl 4 rfl) ?_
              refine lv_iload hx hb d_X3_parameters_81 (lv_at hl 0 rfl) ?_
              refine s_call0 (va_runSN (As := [.int x1, .int (r4 + 1)]) (rest := []) ⟨hx, hb, hml, hown, hg⟩ (s_X8_withParameter l D cy H.size x1 (r4 + 1) ) ⟨(va_cnB 2 hg (gw_c m_996) rfl rfl rfl (hNW.1 _ nm_994) (hg _ m_5) (by decide +kernel) ⟨(Nat.le_of_ble_eq_true rfl), (Nat.le_of_ble_eq_true rfl)⟩), hg _ m_995, trivial⟩ (s_pre (ws := []) (A := A) (fun k q h => by simp at h) ⟨fun i j p q h => by simp at h, fun k q h => by simp at h⟩ hK hNW) rfl rfl hl.1 rfl (lv_room (Nat.le_of_ble_eq_true rfl)) d_X3_parameters_83 ⟨(Nat.le_of_ble_eq_true rfl), (Nat.le_of_ble_eq_true rfl)⟩) hP hD hS hA (fun r15 u15 H locs hw hP hD hS => ?_)
              have hP : va_P D vwCl (wB cy r (upF σ13 23 g14)) H := hP
              have hD : va_D A (wB cy r (upF σ13 23 g14)) := hD
              refine lv_istore_n (lv' := [(1, .int r15), (4, .int (r4 + 1)), (6, .int r5), (5, .int (σ4 3 1)), (0, .ref (r 3)), (2, .int x2), (3, .int x3)]) hx hb d_X3_parameters_86 rfl hl (by decide) rfl (fun ls hl => ?_)
              refine lv_aload_n hx hb d_X3_parameters_87 rfl (lv_at hl 4 rfl) ?_
              refine lv_bipush (v := 26) hx hb d_X3_parameters_88 (by decide) ?_
              refine s_calli (X := St) (w1 := fun τ => wB cy r τ) (va_runV (As := [.int 26]) (rest := []) ⟨hx, hb, hml, hown, hg⟩ (s_X3_accept l D cy H.size w g r (upF σ13 23 g14) (26 : Int32) i13 ) (cwV 1 hg (gw_V m_966 m_968 ms_X3_accept m_3 m_969) rfl rfl rfl (by decide +kernel) ⟨(Nat.le_of_ble_eq_true rfl), (Nat.le_of_ble_eq_true rfl)⟩) (s_preVE (As := [.int 26]) (gE_ok w g) hS hA hE hP hD hK hNW 2 rfl rfl) rfl rfl hl.1 rfl (lv_room (Nat.le_of_ble_eq_true rfl)) d_X3_parameters_90 ⟨(Nat.le_of_ble_eq_true rfl), (Nat.le_of_ble_eq_true rfl)⟩) hP hD hS hA (fun r16 σ16 H locs hw hP hD hS => ?_)
              have hP : va_P D vwCl (wB cy r σ16) H := hP
              have hD : va_D A (wB cy r σ16) := hD
              have ik16 : Keep [(3, 1), (3, 2)] [] (upF σ13 23 g14) σ16 := hw.2.2
              have kp : Keep [(3, 1), (3, 2), (3, 3)] [23] σ0 σ16 := keep_c kp ik16 (by decide) (by decide)
              have i16 : Inv σ16 := hw.2.1
              have hz16 : r16 = 0 ∨ r16 = 1 := hw.1
              refine lv_istore_n (lv' := [(3, .int r16), (1, .int r15), (4, .int (r4 + 1)), (6, .int r5), (5, .int (σ4 3 1)), (0, .ref (r 3)), (2, .int x2)]) hx hb d_X3_parameters_93 rfl hl (by decide) rfl (fun ls hl => ?_)
              refine lv_iinc (v := (x2 + 1)) (lv' := [(2, .int (x2 + 1)), (3, .int r16), (1, .int r15), (4, .int (r4 + 1)), (6, .int r5), (5, .int (σ4 3 1)), (0, .ref (r 3))]) hx hb d_X3_parameters_94 hl (k := 6) rfl rfl (by decide) rfl (fun ls hl => ?_)
              refine lv_goto (tgt := 6) hx hb d_X3_parameters_97 (by decide) ?_
              exact ih6 _ (Nat.lt_of_lt_of_eq (upm_lt c_9) N6) σ16 r15 (x2 + 1) r16 _ _ _ rfl i16 kp hz16 hP hD hS (lv_sub hl [6, 2, 0, 1] rfl)
            · -- not taken at 65
              refine lv_iload hx hb d_X3_parameters_68 (lv_at hl 2 rfl) ?_
              refine lv_goto (tgt := 77) hx hb d_X3_parameters_70 (by decide) ?_
              refine s_set1 (X := Nat → Int32) (w := fun g => .inl (cy 1, 8, .inl g)) 22 rfl (va_runSN (As := [.ref (r 23), .int x2, .int (σ4 3 1)]) (rest := []) ⟨hx, hb, hml, hown, hg⟩ (c_set_any l D cy H.size (r 23) 8 (σ13 23) x2 (σ4 3 1) (Nat.le_of_ble_eq_true rfl)) ⟨(va_cnB 3 hg (gw_c m_981) rfl rfl rfl (hNW.1 _ nm_979) (hg _ m_1) (by decide +kernel) ⟨(Nat.le_of_ble_eq_true rfl), (Nat.le_of_ble_eq_true rfl)⟩), hg _ m_980, trivial⟩ (s_pre (ws := [((r 23), .inl (cy 1, 8, .inl (σ13 23)))]) (s_sub1 22 hP rfl) (s_subD 22 hD rfl) hK hNW) rfl rfl hl.1 rfl (lv_room (Nat.le_of_ble_eq_true rfl)) d_X3_parameters_77 ⟨(Nat.le_of_ble_eq_true rfl), (Nat.le_of_ble_eq_true rfl)⟩) hP hD hS hA (fun g17 H locs hw hP hD hS => ?_)
              have hP : va_P D vwCl (wB cy r (upF σ13 23 g17)) H := hP
              have hD : va_D A (wB cy r (upF σ13 23 g17)) := hD
              have kp : Keep [(3, 1), (3, 2), (3, 3)] [23] σ0 (upF σ13 23 g17) := keep_a kp (by decide)
              refine lv_iload_n hx hb d_X3_parameters_80 rfl (lv_at hl 4 rfl) ?_
              refine lv_iload hx hb d_X3_parameters_81 (lv_at hl 0 rfl) ?_
              refine s_call0 (va_runSN (As := [.int x1, .int (r4 + 1)]) (rest := []) ⟨hx, hb, hml, hown, hg⟩ (s_X8_withParameter l D cy H.size x1 (r4 + 1) ) ⟨(va_cnB 2 hg (gw_c m_996) rfl rfl rfl (hNW.1 _ nm_994) (hg _ m_5) (by decide +kernel) ⟨(Nat.le_of_ble_eq_true rfl), (Nat.le_of_ble_eq_true rfl)⟩), hg _ m_995, trivial⟩ (s_pre (ws := []) (A := A) (fun k q h => by simp at h) ⟨fun i j p q h => by simp at h, fun k q h => by simp at h⟩ hK hNW) rfl rfl hl.1 rfl (lv_room (Nat.le_of_ble_eq_true rfl)) d_X3_parameters_83 ⟨(Nat.le_of_ble_eq_true rfl), (Nat.le_of_ble_eq_true rfl)⟩) hP hD hS hA (fun r18 u18 H locs hw hP hD hS => ?_)
              have hP : va_P D vwCl (wB cy r (upF σ13 23 g17)) H := hP
              have hD : va_D A (wB cy r (upF σ13 23 g17)) := hD
              refine lv_istore_n (lv' := [(1, .int r18), (4, .int (r4 + 1)), (6, .int r5), (5, .int (σ4 3 1)), (0, .ref (r 3)), (2, .int x2), (3, .int x3)]) hx hb d_X3_parameters_86 rfl hl (by decide) rfl (fun ls hl => ?_)
              refine lv_aload_n hx hb d_X3_parameters_87 rfl (lv_at hl 4 rfl) ?_
              refine lv_bipush (v := 26) hx hb d_X3_parameters_88 (by decide) ?_
              refine s_calli (X := St) (w1 := fun τ => wB cy r τ) (va_runV (As := [.int 26]) (rest := []) ⟨hx, hb, hml, hown, hg⟩ (s_X3_accept l D cy H.size w g r (upF σ13 23 g17) (26 : Int32) i13 ) (cwV 1 hg (gw_V m_966 m_968 ms_X3_accept m_3 m_969) rfl rfl rfl (by decide +kernel) ⟨(Nat.le_of_ble_eq_true rfl), (Nat.le_of_ble_eq_true rfl)⟩) (s_preVE (As := [.int 26]) (gE_ok w g) hS hA hE hP hD hK hNW 2 rfl rfl) rfl rfl hl.1 rfl (lv_room (Nat.le_of_ble_eq_true rfl)) d_X3_parameters_90 ⟨(Nat.le_of_ble_eq_true rfl), (Nat.le_of_ble_eq_true rfl)⟩) hP hD hS hA (fun r19 σ19 H locs hw hP hD hS => ?_)
              have hP : va_P D vwCl (wB cy r σ19) H := hP
              have hD : va_D A (wB cy r σ19) := hD
              have ik19 : Keep [(3, 1), (3, 2)] [] (upF σ13 23 g17) σ19 := hw.2.2
              have kp : Keep [(3, 1), (3, 2), (3, 3)] [23] σ0 σ19 := keep_c kp ik19 (by decide) (by decide)
              have i19 : Inv σ19 := hw.2.1
              have hz19 : r19 = 0 ∨ r19 = 1 := hw.1
              refine lv_istore_n (lv' := [(3, .int r19), (1, .int r18), (4, .int (r4 + 1)), (6, .int r5), (5, .int (σ4 3 1)), (0, .ref (r 3)), (2, .int x2)]) hx hb d_X3_parameters_93 rfl hl (by decide) rfl (fun ls hl => ?_)
              refine lv_iinc (v := (x2 + 1)) (lv' := [(2, .int (x2 + 1)), (3, .int r19), (1, .int r18), (4, .int (r4 + 1)), (6, .int r5), (5, .int (σ4 3 1)), (0, .ref (r 3))]) hx hb d_X3_parameters_94 hl (k := 6) rfl rfl (by decide) rfl (fun ls hl => ?_)
              refine lv_goto (tgt := 6) hx hb d_X3_parameters_97 (by decide) ?_
              exact ih6 _ (Nat.lt_of_lt_of_eq (upm_lt c_9) N6) σ19 r18 (x2 + 1) r19 _ _ _ rfl i19 kp hz19 hP hD hS (lv_sub hl [6, 2, 0, 1] rfl)
  have kp : Keep [(3, 1), (3, 2), (3, 3)] [23] σ0 σ0 := keep_rf
  obtain ⟨H, hH⟩ : ∃ H, H = s.heap := ⟨_, rfl⟩
  rw [← hH] at hP
  have hS : va_S A s.heap H [] := by rw [hH]; exact va_S.rf
  have hgoal : W p l e ({ frames := 2, cells := 0, slots := 0, locals := 43 } : Room) s m (([.ref (r 3)] : List Value).toArray) below meth c H [] 0 0 (MQ below (va_Qi (S := St) (fun (_ : Int32) (τ : St) => (Inv τ ∧ Keep [(3, 1), (3, 2), (3, 3)] [23] σ0 τ)) (fun τ => kPost D cy A (wB cy r τ)) A) (([.ref (r 3)] : List Value).toArray) s 0 0 A) (F0 m 0 ls []) := by
    refine lv_iconst (v := 0) hx hb d_X3_parameters_0 (by decide) ?_
    refine lv_istore_n (lv' := [(1, .int 0), (0, .ref (r 3))]) hx hb d_X3_parameters_1 rfl hl (by decide) rfl (fun ls hl => ?_)
    refine lv_iconst (v := 0) hx hb d_X3_parameters_2 (by decide) ?_
    refine lv_istore_n (lv' := [(2, .int 0), (1, .int 0), (0, .ref (r 3))]) hx hb d_X3_parameters_3 rfl hl (by decide) rfl (fun ls hl => ?_)
    refine lv_iconst (v := 1) hx hb d_X3_parameters_4 (by decide) ?_
    refine lv_istore_n (lv' := [(3, .int 1), (2, .int 0), (1, .int 0), (0, .ref (r 3))]) hx hb d_X3_parameters_5 rfl hl (by decide) rfl (fun ls hl => ?_)
    exact b6 _ σ0 (0 : Int32) (0 : Int32) (1 : Int32) _ _ _ rfl i0 kp (Or.inr rfl) hP hD hS (lv_sub hl [3, 2, 1, 0] rfl)
  rw [hH] at hgoal
  exact hgoal
