set_option maxHeartbeats 4000000 in
set_option maxRecDepth 100000 in
theorem s_X10_skipBlanks (l : Launch) (D : va_G) (cy : Nat → ClassId) (sz : Nat) (w : Nat → Nat) (g : Nat → Nat → Int32) (r : Nat → Nat) (σ0 : St) (i0 : Inv σ0) : Met l y_X10_skipBlanks (Cond.code y_X10_skipBlanks b_X10_skipBlanks 4 (some .boolean) :: GW) ({ frames := 3, cells := 0, slots := 0, locals := 66 } : Room) (va_Pc [.ref (r 2)] (kPreE D cy sz (wB cy r σ0) (gE w g))) ((fun A : Nat → Prop => va_Qi (S := St) (fun (v9 : Int32) (τ : St) => (v9 = 0 ∨ v9 = 1) ∧ (Inv τ ∧ Keep [(2, 2), (2, 3), (2, 4)] [13, 14, 15, 16] σ0 τ)) (fun τ => kPost D cy A (wB cy r τ)) A) (va_A (wB cy r σ0) sz)) 0 0 (va_A (wB cy r σ0) sz) := by
  refine k_ofWE (Qc := fun A => va_Qi (S := St) (fun (v9 : Int32) (τ : St) => (v9 = 0 ∨ v9 = 1) ∧ (Inv τ ∧ Keep [(2, 2), (2, 3), (2, 4)] [13, 14, 15, 16] σ0 τ)) (fun τ => kPost D cy A (wB cy r τ)) A) (by decide) (Nat.le_of_ble_eq_true rfl) ?_
  intro p e s m below meth c A ls hx hb hr hml hown hlocks hin hg hNW hK hP hD hA hS hl hE
  have hl : lv_has ls 4 [(0, .ref (r 2))] := hl
  have hown : s.vm.findClass "LinkedUnits$Tokens" = some m.cls := hown
  have b2 : ∀ (N : Nat) (σ : St) (x1 : Int32) (H : Heap) (locs : List Loc) (ls : Array Slot), upm x1 = N → Inv σ → Keep [(2, 2), (2, 3), (2, 4)] [13, 14, 15, 16] σ0 σ → va_P D vwCl (wB cy r σ) H → va_D A (wB cy r σ) → va_S A s.heap H locs → lv_has ls 4 [(0, .ref (r 2)), (1, .int x1)] → W p l e ({ frames := 3, cells := 0, slots := 0, locals := 66 } : Room) s m (([.ref (r 2)] : List Value).toArray) below meth c H locs 0 0 (MQ below (va_Qi (S := St) (fun (v9 : Int32) (τ : St) => (v9 = 0 ∨ v9 = 1) ∧ (Inv τ ∧ Keep [(2, 2), (2, 3), (2, 4)] [13, 14, 15, 16] σ0 τ)) (fun τ => kPost D cy A (wB cy r τ)) A) (([.ref (r 2)] : List Value).toArray) s 0 0 A) (F0 m 2 ls []) := by
    intro M2
    induction M2 using Nat.strongRecOn with
    | _ M2 ih2 =>
      intro σ x1 H locs ls N2 inv kp hP hD hS hl
      refine lv_iload_n hx hb d_X10_skipBlanks_2 rfl (lv_at hl 1 rfl) ?_
      refine lv_aload_n hx hb d_X10_skipBlanks_3 rfl (lv_at hl 0 rfl) ?_
      refine va_get (D := D) (ci := 10) (v := .int (σ 2 1)) (C := "LinkedUnits$Tokens") (T := TX10) (N := 10) hx hb hg iwX10 hown hK hP 1 rfl rfl 1 (by decide) (hg _ m_43) (fun _ h9 => h9) rfl d_X10_skipBlanks_4 ?_
      refine lv_icmp_gt (tgt := 142) hx hb d_X10_skipBlanks_7 (by decide) (fun c_7 => ?_) (fun c_7 => ?_)
      · -- taken at 7
        refine lv_iconst (v := 1) hx hb d_X10_skipBlanks_142 (by decide) ?_
        refine W.widen (k := 0) (n := 0) (Nat.le_of_ble_eq_true rfl) (Nat.le_of_ble_eq_true rfl) ?_
        exact k_zret (X := St) (w1 := fun τ => wB cy r τ) σ hx hb hr (k_nz (Or.inr rfl)) d_X10_skipBlanks_143 hlocks hP hK hD hS ⟨(Or.inr rfl), ⟨inv, kp⟩⟩
      · -- not taken at 7
        refine lv_aload_n hx hb d_X10_skipBlanks_10 rfl (lv_at hl 0 rfl) ?_
        refine lv_aload_n hx hb d_X10_skipBlanks_11 rfl (lv_at hl 0 rfl) ?_
        refine va_get (D := D) (ci := 10) (v := .int (σ 2 2)) (C := "LinkedUnits$Tokens") (T := TX10) (N := 10) hx hb hg iwX10 hown hK hP 1 rfl rfl 2 (by decide) (hg _ m_44) (fun _ h9 => h9) rfl d_X10_skipBlanks_12 ?_
        refine s_calli (X := Unit) (w1 := fun _ => wB cy r σ) (va_runV (As := [.int (σ 2 2)]) (rest := []) ⟨hx, hb, hml, hown, hg⟩ (s_X10_byteAt l D cy H.size w g r σ (σ 2 2) inv ) (cwV 1 hg (gw_V m_806 m_808 ms_X10_byteAt m_2 m_809) rfl rfl rfl (by decide +kernel) ⟨(Nat.le_of_ble_eq_true rfl), (Nat.le_of_ble_eq_true rfl)⟩) (s_preVE (As := [.int (σ 2 2)]) (gE_ok w g) hS hA hE hP hD hK hNW 1 rfl rfl) rfl rfl hl.1 rfl (lv_room (Nat.le_of_ble_eq_true rfl)) d_X10_skipBlanks_15 ⟨(Nat.le_of_ble_eq_true rfl), (Nat.le_of_ble_eq_true rfl)⟩) hP hD hS hA (fun r1 u1 H locs hw hP hD hS => ?_)
        have hP : va_P D vwCl (wB cy r σ) H := hP
        have hD : va_D A (wB cy r σ) := hD
        refine lv_istore_n (lv' := [(2, .int r1), (0, .ref (r 2)), (1, .int x1)]) hx hb d_X10_skipBlanks_18 rfl hl (by decide) rfl (fun ls hl => ?_)
        refine lv_iload_n hx hb d_X10_skipBlanks_19 rfl (lv_at hl 0 rfl) ?_
        refine lv_bipush (v := 47) hx hb d_X10_skipBlanks_20 (by decide) ?_
        refine lv_icmp_ne (tgt := 38) hx hb d_X10_skipBlanks_22 (by decide) (fun c_22 => ?_) (fun c_22 => ?_)
        · -- taken at 22
          refine lv_iconst (v := (-1)) hx hb d_X10_skipBlanks_38 (by decide) ?_
          refine lv_istore_n (lv' := [(3, .int (-1)), (2, .int r1), (0, .ref (r 2)), (1, .int x1)]) hx hb d_X10_skipBlanks_39 rfl hl (by decide) rfl (fun ls hl => ?_)
          refine lv_iload_n hx hb d_X10_skipBlanks_40 rfl (lv_at hl 0 rfl) ?_
          refine lv_bipush (v := 47) hx hb d_X10_skipBlanks_41 (by decide) ?_
          refine lv_icmp_eq (tgt := 52) hx hb d_X10_skipBlanks_43 (by decide) (fun c_43 => absurd c_43 (by decide)) (fun _ => ?_)
          refine lv_iload_n hx hb d_X10_skipBlanks_46 rfl (lv_at hl 0 rfl) ?_
          refine lv_bipush (v := 42) hx hb d_X10_skipBlanks_47 (by decide) ?_
          refine lv_icmp_ne (tgt := 77) hx hb d_X10_skipBlanks_49 (by decide) (fun _ => ?_) (fun c_49 => False.elim (by revert c_49; decide))
          refine lv_iload_n hx hb d_X10_skipBlanks_77 rfl (lv_at hl 1 rfl) ?_
          refine lv_bipush (v := 9) hx hb d_X10_skipBlanks_78 (by decide) ?_
          refine lv_icmp_eq (tgt := 101) hx hb d_X10_skipBlanks_80 (by decide) (fun c_80 => ?_) (fun c_80 => ?_)
          · -- taken at 80
            refine lv_aload_n hx hb d_X10_skipBlanks_101 rfl (lv_at hl 2 rfl) ?_
            refine lv_dup hx hb d_X10_skipBlanks_102 rfl ?_
            refine va_get (D := D) (ci := 10) (v := .int (σ 2 3)) (C := "LinkedUnits$Tokens") (T := TX10) (N := 10) hx hb hg iwX10 hown hK hP 1 rfl rfl 3 (by decide) (hg _ m_45) (fun _ h9 => h9) rfl d_X10_skipBlanks_103 ?_
            refine lv_iload_n hx hb d_X10_skipBlanks_106 rfl (lv_at hl 1 rfl) ?_
            refine lv_bipush (v := 10) hx hb d_X10_skipBlanks_107 (by decide) ?_
            refine lv_icmp_ne (tgt := 116) hx hb d_X10_skipBlanks_109 (by decide) (fun c_109 => ?_) (fun c_109 => ?_)
            · -- taken at 109
              refine lv_iconst (v := 0) hx hb d_X10_skipBlanks_116 (by decide) ?_
              refine lv_iadd hx hb d_X10_skipBlanks_117 ?_
              refine va_put (D := D) (ci := 10) (v := .int ((σ 2 3) + 0)) (ty := .int) (C := "LinkedUnits$Tokens") (T := TX10) (N := 10) hx hb hg iwX10 tyX10 tyX10_ok nmX10 hown hK hP hD hS 1 rfl rfl 3 (by decide) (hg _ m_45) (fun _ h9 => h9) rfl (by decide +kernel) rfl rfl (Nat.le_of_ble_eq_true rfl) d_X10_skipBlanks_118 (fun H locs hP hD hS => ?_)
              have hP : va_P D vwCl (wB cy r (upC σ 2 3 ((σ 2 3) + 0))) H := hP
              have hD : va_D A (wB cy r (upC σ 2 3 ((σ 2 3) + 0))) := hD
              have kp : Keep [(2, 2), (2, 3), (2, 4)] [13, 14, 15, 16] σ0 (upC σ 2 3 ((σ 2 3) + 0)) := keep_f kp (by decide)
              refine lv_aload_n hx hb d_X10_skipBlanks_121 rfl (lv_at hl 2 rfl) ?_
              refine lv_dup hx hb d_X10_skipBlanks_122 rfl ?_
              refine va_get (D := D) (ci := 10) (v := .int (σ 2 2)) (C := "LinkedUnits$Tokens") (T := TX10) (N := 10) hx hb hg iwX10 hown hK hP 1 rfl rfl 2 (by decide) (hg _ m_44) (fun _ h9 => h9) rfl d_X10_skipBlanks_123 ?_
              refine lv_iconst (v := 1) hx hb d_X10_skipBlanks_126 (by decide) ?_
              refine lv_iadd hx hb d_X10_skipBlanks_127 ?_
              refine va_put (D := D) (ci := 10) (v := .int ((σ 2 2) + 1)) (ty := .int) (C := "LinkedUnits$Tokens") (T := TX10) (N := 10) hx hb hg iwX10 tyX10 tyX10_ok nmX10 hown hK hP hD hS 1 rfl rfl 2 (by decide) (hg _ m_44) (fun _ h9 => h9) rfl (by decide +kernel) rfl rfl (Nat.le_of_ble_eq_true rfl) d_X10_skipBlanks_128 (fun H locs hP hD hS => ?_)
              have hP : va_P D vwCl (wB cy r (upC (upC σ 2 3 ((σ 2 3) + 0)) 2 2 ((σ 2 2) + 1))) H := hP
              have hD : va_D A (wB cy r (upC (upC σ 2 3 ((σ 2 3) + 0)) 2 2 ((σ 2 2) + 1))) := hD
              have kp : Keep [(2, 2), (2, 3), (2, 4)] [13, 14, 15, 16] σ0 (upC (upC σ 2 3 ((σ 2 3) + 0)) 2 2 ((σ 2 2) + 1)) := keep_f kp (by decide)
              refine lv_goto (tgt := 136) hx hb d_X10_skipBlanks_131 (by decide) ?_
              refine lv_iinc (v := (x1 + 1)) (lv' := [(1, .int (x1 + 1)), (3, .int (-1)), (2, .int r1), (0, .ref (r 2))]) hx hb d_X10_skipBlanks_136 hl (k := 3) rfl rfl (by decide) rfl (fun ls hl => ?_)
              refine lv_goto (tgt := 2) hx hb d_X10_skipBlanks_139 (by decide) ?_
              exact ih2 _ (by show upm (x1 + 1) < _; have hN := N2; unfold upm at hN ⊢; have e0 := s_rng x1; have e1 : (1 : Int32).toInt = 1 := (by decide); obtain ⟨k2, e2⟩ := s_add x1 (1 : Int32); have e3 := s_rng (x1 + 1); have e4 := s_rng (σ 2 1); have e5 := inv.1; have e6 := s_nlt c_7; omega) (upC (upC σ 2 3 ((σ 2 3) + 0)) 2 2 ((σ 2 2) + 1)) (x1 + 1) _ _ _ rfl inv kp hP hD hS (lv_sub hl [3, 0] rfl)
            · -- not taken at 109
              refine lv_iconst (v := 1) hx hb d_X10_skipBlanks_112 (by decide) ?_
              refine lv_goto (tgt := 117) hx hb d_X10_skipBlanks_113 (by decide) ?_
              refine lv_iadd hx hb d_X10_skipBlanks_117 ?_
              refine va_put (D := D) (ci := 10) (v := .int ((σ 2 3) + 1)) (ty := .int) (C := "LinkedUnits$Tokens") (T := TX10) (N := 10) hx hb hg iwX10 tyX10 tyX10_ok nmX10 hown hK hP hD hS 1 rfl rfl 3 (by decide) (hg _ m_45) (fun _ h9 => h9) rfl (by decide +kernel) rfl rfl (Nat.le_of_ble_eq_true rfl) d_X10_skipBlanks_118 (fun H locs hP hD hS => ?_)
              have hP : va_P D vwCl (wB cy r (upC σ 2 3 ((σ 2 3) + 1))) H := hP
              have hD : va_D A (wB cy r (upC σ 2 3 ((σ 2 3) + 1))) := hD
              have kp : Keep [(2, 2), (2, 3), (2, 4)] [13, 14, 15, 16] σ0 (upC σ 2 3 ((σ 2 3) + 1)) := keep_f kp (by decide)
              refine lv_aload_n hx hb d_X10_skipBlanks_121 rfl (lv_at hl 2 rfl) ?_
              refine lv_dup hx hb d_X10_skipBlanks_122 rfl ?_
              refine va_get (D := D) (ci := 10) (v := .int (σ 2 2)) (C := "LinkedUnits$Tokens") (T := TX10) (N := 10) hx hb hg iwX10 hown hK hP 1 rfl rfl 2 (by decide) (hg _ m_44) (fun _ h9 => h9) rfl d_X10_skipBlanks_123 ?_
              refine lv_iconst (v := 1) hx hb d_X10_skipBlanks_126 (by decide) ?_
              refine lv_iadd hx hb d_X10_skipBlanks_127 ?_
              refine va_put (D := D) (ci := 10) (v := .int ((σ 2 2) + 1)) (ty := .int) (C := "LinkedUnits$Tokens") (T := TX10) (N := 10) hx hb hg iwX10 tyX10 tyX10_ok nmX10 hown hK hP hD hS 1 rfl rfl 2 (by decide) (hg _ m_44) (fun _ h9 => h9) rfl (by decide +kernel) rfl rfl (Nat.le_of_ble_eq_true rfl) d_X10_skipBlanks_128 (fun H locs hP hD hS => ?_)
              have hP : va_P D vwCl (wB cy r (upC (upC σ 2 3 ((σ 2 3) + 1)) 2 2 ((σ 2 2) + 1))) H := hP
              have hD : va_D A (wB cy r (upC (upC σ 2 3 ((σ 2 3) + 1)) 2 2 ((σ 2 2) + 1))) := hD
              have kp : Keep [(2, 2), (2, 3), (2, 4)] [13, 14, 15, 16] σ0 (upC (upC σ 2 3 ((σ 2 3) + 1)) 2 2 ((σ 2 2) + 1)) := keep_f kp (by decide)
              refine lv_goto (tgt := 136) hx hb d_X10_skipBlanks_131 (by decide) ?_
              refine lv_iinc (v := (x1 + 1)) (lv' := [(1, .int (x1 + 1)), (3, .int (-1)), (2, .int r1), (0, .ref (r 2))]) hx hb d_X10_skipBlanks_136 hl (k := 3) rfl rfl (by decide) rfl (fun ls hl => ?_)
              refine lv_goto (tgt := 2) hx hb d_X10_skipBlanks_139 (by decide) ?_
              exact ih2 _ (by show upm (x1 + 1) < _; have hN := N2; unfold upm at hN ⊢; have e0 := s_rng x1; have e1 : (1 : Int32).toInt = 1 := (by decide); obtain ⟨k2, e2⟩ := s_add x1 (1 : Int32); have e3 := s_rng (x1 + 1); have e4 := s_rng (σ 2 1); have e5 := inv.1; have e6 := s_nlt c_7; omega) (upC (upC σ 2 3 ((σ 2 3) + 1)) 2 2 ((σ 2 2) + 1)) (x1 + 1) _ _ _ rfl inv kp hP hD hS (lv_sub hl [3, 0] rfl)
          · -- not taken at 80
            refine lv_iload_n hx hb d_X10_skipBlanks_83 rfl (lv_at hl 1 rfl) ?_
            refine lv_bipush (v := 10) hx hb d_X10_skipBlanks_84 (by decide) ?_
            refine lv_icmp_eq (tgt := 101) hx hb d_X10_skipBlanks_86 (by decide) (fun c_86 => ?_) (fun c_86 => ?_)
            · -- taken at 86
              refine lv_aload_n hx hb d_X10_skipBlanks_101 rfl (lv_at hl 2 rfl) ?_
              refine lv_dup hx hb d_X10_skipBlanks_102 rfl ?_
              refine va_get (D := D) (ci := 10) (v := .int (σ 2 3)) (C := "LinkedUnits$Tokens") (T := TX10) (N := 10) hx hb hg iwX10 hown hK hP 1 rfl rfl 3 (by decide) (hg _ m_45) (fun _ h9 => h9) rfl d_X10_skipBlanks_103 ?_
              refine lv_iload_n hx hb d_X10_skipBlanks_106 rfl (lv_at hl 1 rfl) ?_
              refine lv_bipush (v := 10) hx hb d_X10_skipBlanks_107 (by decide) ?_
              refine lv_icmp_ne (tgt := 116) hx hb d_X10_skipBlanks_109 (by decide) (fun c_109 => ?_) (fun c_109 => ?_)
              · -- taken at 109
                refine lv_iconst (v := 0) hx hb d_X10_skipBlanks_116 (by decide) ?_
                refine lv_iadd hx hb d_X10_skipBlanks_117 ?_
                refine va_put (D := D) (ci := 10) (v := .int ((σ 2 3) + 0)) (ty := .int) (C := "LinkedUnits$Tokens") (T := TX10) (N := 10) hx hb hg iwX10 tyX10 tyX10_ok nmX10 hown hK hP hD hS 1 rfl rfl 3 (by decide) (hg _ m_45) (fun _ h9 => h9) rfl (by decide +kernel) rfl rfl (Nat.le_of_ble_eq_true rfl) d_X10_skipBlanks_118 (fun H locs hP hD hS => ?_)
                have hP : va_P D vwCl (wB cy r (upC σ 2 3 ((σ 2 3) + 0))) H := hP
                have hD : va_D A (wB cy r (upC σ 2 3 ((σ 2 3) + 0))) := hD
                have kp : Keep [(2, 2), (2, 3), (2, 4)] [13, 14, 15, 16] σ0 (upC σ 2 3 ((σ 2 3) + 0)) := keep_f kp (by decide)
                refine lv_aload_n hx hb d_X10_skipBlanks_121 rfl (lv_at hl 2 rfl) ?_
                refine lv_dup hx hb d_X10_skipBlanks_122 rfl ?_
                refine va_get (D := D) (ci := 10) (v := .int (σ 2 2)) (C := "LinkedUnits$Tokens") (T := TX10) (N := 10) hx hb hg iwX10 hown hK hP 1 rfl rfl 2 (by decide) (hg _ m_44) (fun _ h9 => h9) rfl d_X10_skipBlanks_123 ?_
                refine lv_iconst (v := 1) hx hb d_X10_skipBlanks_126 (by decide) ?_
                refine lv_iadd hx hb d_X10_skipBlanks_127 ?_
                refine va_put (D := D) (ci := 10) (v := .int ((σ 2 2) + 1)) (ty := .int) (C := "LinkedUnits$Tokens") (T := TX10) (N := 10) hx hb hg iwX10 tyX10 tyX10_ok nmX10 hown hK hP hD hS 1 rfl rfl 2 (by decide) (hg _ m_44) (fun _ h9 => h9) rfl (by decide +kernel) rfl rfl (Nat.le_of_ble_eq_true rfl) d_X10_skipBlanks_128 (fun H locs hP hD hS => ?_)
                have hP : va_P D vwCl (wB cy r (upC (upC σ 2 3 ((σ 2 3) + 0)) 2 2 ((σ 2 2) + 1))) H := hP
                have hD : va_D A (wB cy r (upC (upC σ 2 3 ((σ 2 3) + 0)) 2 2 ((σ 2 2) + 1))) := hD
                have kp : Keep [(2, 2), (2, 3), (2, 4)] [13, 14, 15, 16] σ0 (upC (upC σ 2 3 ((σ 2 3) + 0)) 2 2 ((σ 2 2) + 1)) := keep_f kp (by decide)
                refine lv_goto (tgt := 136) hx hb d_X10_skipBlanks_131 (by decide) ?_
                refine lv_iinc (v := (x1 + 1)) (lv' := [(1, .int (x1 + 1)), (3, .int (-1)), (2, .int r1), (0, .ref (r 2))]) hx hb d_X10_skipBlanks_136 hl (k := 3) rfl rfl (by decide) rfl (fun ls hl => ?_)
                refine lv_goto (tgt := 2) hx hb d_X10_skipBlanks_139 (by decide) ?_
                exact ih2 _ (by show upm (x1 + 1) < _; have hN := N2; unfold upm at hN ⊢; have e0 := s_rng x1; have e1 : (1 : Int32).toInt = 1 := (by decide); obtain ⟨k2, e2⟩ := s_add x1 (1 : Int32); have e3 := s_rng (x1 + 1); have e4 := s_rng (σ 2 1); have e5 := inv.1; have e6 := s_nlt c_7; omega) (upC (upC σ 2 3 ((σ 2 3) + 0)) 2 2 ((σ 2 2) + 1)) (x1 + 1) _ _ _ rfl inv kp hP hD hS (lv_sub hl [3, 0] rfl)
              · -- not taken at 109
                refine lv_iconst (v := 1) hx hb d_X10_skipBlanks_112 (by decide) ?_
                refine lv_goto (tgt := 117) hx hb d_X10_skipBlanks_113 (by decide) ?_
                refine lv_iadd hx hb d_X10_skipBlanks_117 ?_
                refine va_put (D := D) (ci := 10) (v := .int ((σ 2 3) + 1)) (ty := .int) (C := "LinkedUnits$Tokens") (T := TX10) (N := 10) hx hb hg iwX10 tyX10 tyX10_ok nmX10 hown hK hP hD hS 1 rfl rfl 3 (by decide) (hg _ m_45) (fun _ h9 => h9) rfl (by decide +kernel) rfl rfl (Nat.le_of_ble_eq_true rfl) d_X10_skipBlanks_118 (fun H locs hP hD hS => ?_)
                have hP : va_P D vwCl (wB cy r (upC σ 2 3 ((σ 2 3) + 1))) H := hP
                have hD : va_D A (wB cy r (upC σ 2 3 ((σ 2 3) + 1))) := hD
                have kp : Keep [(2, 2), (2, 3), (2, 4)] [13, 14, 15, 16] σ0 (upC σ 2 3 ((σ 2 3) + 1)) := keep_f kp (by decide)
                refine lv_aload_n hx hb d_X10_skipBlanks_121 rfl (lv_at hl 2 rfl) ?_
                refine lv_dup hx hb d_X10_skipBlanks_122 rfl ?_
                refine va_get (D := D) (ci := 10) (v := .int (σ 2 2)) (C := "LinkedUnits$Tokens") (T := TX10) (N := 10) hx hb hg iwX10 hown hK hP 1 rfl rfl 2 (by decide) (hg _ m_44) (fun _ h9 => h9) rfl d_X10_skipBlanks_123 ?_
                refine lv_iconst (v := 1) hx hb d_X10_skipBlanks_126 (by decide) ?_
                refine lv_iadd hx hb d_X10_skipBlanks_127 ?_
                refine va_put (D := D) (ci := 10) (v := .int ((σ 2 2) + 1)) (ty := .int) (C := "LinkedUnits$Tokens") (T := TX10) (N := 10) hx hb hg iwX10 tyX10 tyX10_ok nmX10 hown hK hP hD hS 1 rfl rfl 2 (by decide) (hg _ m_44) (fun _ h9 => h9) rfl (by decide +kernel) rfl rfl (Nat.le_of_ble_eq_true rfl) d_X10_skipBlanks_128 (fun H locs hP hD hS => ?_)
                have hP : va_P D vwCl (wB cy r (upC (upC σ 2 3 ((σ 2 3) + 1)) 2 2 ((σ 2 2) + 1))) H := hP
                have hD : va_D A (wB cy r (upC (upC σ 2 3 ((σ 2 3) + 1)) 2 2 ((σ 2 2) + 1))) := hD
                have kp : Keep [(2, 2), (2, 3), (2, 4)] [13, 14, 15, 16] σ0 (upC (upC σ 2 3 ((σ 2 3) + 1)) 2 2 ((σ 2 2) + 1)) := keep_f kp (by decide)
                refine lv_goto (tgt := 136) hx hb d_X10_skipBlanks_131 (by decide) ?_
                refine lv_iinc (v := (x1 + 1)) (lv' := [(1, .int (x1 + 1)), (3, .int (-1)), (2, .int r1), (0, .ref (r 2))]) hx hb d_X10_skipBlanks_136 hl (k := 3) rfl rfl (by decide) rfl (fun ls hl => ?_)
                refine lv_goto (tgt := 2) hx hb d_X10_skipBlanks_139 (by decide) ?_
                exact ih2 _ (by show upm (x1 + 1) < _; have hN := N2; unfold upm at hN ⊢; have e0 := s_rng x1; have e1 : (1 : Int32).toInt = 1 := (by decide); obtain ⟨k2, e2⟩ := s_add x1 (1 : Int32); have e3 := s_rng (x1 + 1); have e4 := s_rng (σ 2 1); have e5 := inv.1; have e6 := s_nlt c_7; omega) (upC (upC σ 2 3 ((σ 2 3) + 1)) 2 2 ((σ 2 2) + 1)) (x1 + 1) _ _ _ rfl inv kp hP hD hS (lv_sub hl [3, 0] rfl)
            · -- not taken at 86
              refine lv_iload_n hx hb d_X10_skipBlanks_89 rfl (lv_at hl 1 rfl) ?_
              refine lv_bipush (v := 13) hx hb d_X10_skipBlanks_90 (by decide) ?_
              refine lv_icmp_eq (tgt := 101) hx hb d_X10_skipBlanks_92 (by decide) (fun c_92 => ?_) (fun c_92 => ?_)
              · -- taken at 92
                refine lv_aload_n hx hb d_X10_skipBlanks_101 rfl (lv_at hl 2 rfl) ?_
                refine lv_dup hx hb d_X10_skipBlanks_102 rfl ?_
                refine va_get (D := D) (ci := 10) (v := .int (σ 2 3)) (C := "LinkedUnits$Tokens") (T := TX10) (N := 10) hx hb hg iwX10 hown hK hP 1 rfl rfl 3 (by decide) (hg _ m_45) (fun _ h9 => h9) rfl d_X10_skipBlanks_103 ?_
                refine lv_iload_n hx hb d_X10_skipBlanks_106 rfl (lv_at hl 1 rfl) ?_
                refine lv_bipush (v := 10) hx hb d_X10_skipBlanks_107 (by decide) ?_
                refine lv_icmp_ne (tgt := 116) hx hb d_X10_skipBlanks_109 (by decide) (fun c_109 => ?_) (fun c_109 => ?_)
                · -- taken at 109
                  refine lv_iconst (v := 0) hx hb d_X10_skipBlanks_116 (by decide) ?_
                  refine lv_iadd hx hb d_X10_skipBlanks_117 ?_
                  refine va_put (D := D) (ci := 10) (v := .int ((σ 2 3) + 0)) (ty := .int) (C := "LinkedUnits$Tokens") (T := TX10) (N := 10) hx hb hg iwX10 tyX10 tyX10_ok nmX10 hown hK hP hD hS 1 rfl rfl 3 (by decide) (hg _ m_45) (fun _ h9 => h9) rfl (by decide +kernel) rfl rfl (Nat.le_of_ble_eq_true rfl) d_X10_skipBlanks_118 (fun H locs hP hD hS => ?_)
                  have hP : va_P D vwCl (wB cy r (upC σ 2 3 ((σ 2 3) + 0))) H := hP
                  have hD : va_D A (wB cy r (upC σ 2 3 ((σ 2 3) + 0))) := hD
                  have kp : Keep [(2, 2), (2, 3), (2, 4)] [13, 14, 15, 16] σ0 (upC σ 2 3 ((σ 2 3) + 0)) := keep_f kp (by decide)
                  refine lv_aload_n hx hb d_X10_skipBlanks_121 rfl (lv_at hl 2 rfl) ?_
                  refine lv_dup hx hb d_X10_skipBlanks_122 rfl ?_
                  refine va_get (D := D) (ci := 10) (v := .int (σ 2 2)) (C := "LinkedUnits$Tokens") (T := TX10) (N := 10) hx hb hg iwX10 hown hK hP 1 rfl rfl 2 (by decide) (hg _ m_44) (fun _ h9 => h9) rfl d_X10_skipBlanks_123 ?_
                  refine lv_iconst (v := 1) hx hb d_X10_skipBlanks_126 (by decide) ?_
                  refine lv_iadd hx hb d_X10_skipBlanks_127 ?_
                  refine va_put (D := D) (ci := 10) (v := .int ((σ 2 2) + 1)) (ty := .int) (C := "LinkedUnits$Tokens") (T := TX10) (N := 10) hx hb hg iwX10 tyX10 tyX10_ok nmX10 hown hK hP hD hS 1 rfl rfl 2 (by decide) (hg _ m_44) (fun _ h9 => h9) rfl (by decide +kernel) rfl rfl (Nat.le_of_ble_eq_true rfl) d_X10_skipBlanks_128 (fun H locs hP hD hS => ?_)
                  have hP : va_P D vwCl (wB cy r (upC (upC σ 2 3 ((σ 2 3) + 0)) 2 2 ((σ 2 2) + 1))) H := hP
                  have hD : va_D A (wB cy r (upC (upC σ 2 3 ((σ 2 3) + 0)) 2 2 ((σ 2 2) + 1))) := hD
                  have kp : Keep [(2, 2), (2, 3), (2, 4)] [13, 14, 15, 16] σ0 (upC (upC σ 2 3 ((σ 2 3) + 0)) 2 2 ((σ 2 2) + 1)) := keep_f kp (by decide)
                  refine lv_goto (tgt := 136) hx hb d_X10_skipBlanks_131 (by decide) ?_
                  refine lv_iinc (v := (x1 + 1)) (lv' := [(1, .int (x1 + 1)), (3, .int (-1)), (2, .int r1), (0, .ref (r 2))]) hx hb d_X10_skipBlanks_136 hl (k := 3) rfl rfl (by decide) rfl (fun ls hl => ?_)
                  refine lv_goto (tgt := 2) hx hb d_X10_skipBlanks_139 (by decide) ?_
                  exact ih2 _ (by show upm (x1 + 1) < _; have hN := N2; unfold upm at hN ⊢; have e0 := s_rng x1; have e1 : (1 : Int32).toInt = 1 := (by decide); obtain ⟨k2, e2⟩ := s_add x1 (1 : Int32); have e3 := s_rng (x1 + 1); have e4 := s_rng (σ 2 1); have e5 := inv.1; have e6 := s_nlt c_7; omega) (upC (upC σ 2 3 ((σ 2 3) + 0)) 2 2 ((σ 2 2) + 1)) (x1 + 1) _ _ _ rfl inv kp hP hD hS (lv_sub hl [3, 0] rfl)
                · -- not taken at 109
                  refine lv_iconst (v := 1) hx hb d_X10_skipBlanks_112 (by decide) ?_
                  refine lv_goto (tgt := 117) hx hb d_X10_skipBlanks_113 (by decide) ?_
                  refine lv_iadd hx hb d_X10_skipBlanks_117 ?_
                  refine va_put (D := D) (ci := 10) (v := .int ((σ 2 3) + 1)) (ty := .int) (C := "LinkedUnits$Tokens") (T := TX10) (N := 10) hx hb hg iwX10 tyX10 tyX10_ok nmX10 hown hK hP hD hS 1 rfl rfl 3 (by decide) (hg _ m_45) (fun _ h9 => h9) rfl (by decide +kernel) rfl rfl (Nat.le_of_ble_eq_true rfl) d_X10_skipBlanks_118 (fun H locs hP hD hS => ?_)
                  have hP : va_P D vwCl (wB cy r (upC σ 2 3 ((σ 2 3) + 1))) H := hP
                  have hD : va_D A (wB cy r (upC σ 2 3 ((σ 2 3) + 1))) := hD
                  have kp : Keep [(2, 2), (2, 3), (2, 4)] [13, 14, 15, 16] σ0 (upC σ 2 3 ((σ 2 3) + 1)) := keep_f kp (by decide)
                  refine lv_aload_n hx hb d_X10_skipBlanks_121 rfl (lv_at hl 2 rfl) ?_
                  refine lv_dup hx hb d_X10_skipBlanks_122 rfl ?_
                  refine va_get (D := D) (ci := 10) (v := .int (σ 2 2)) (C := "LinkedUnits$Tokens") (T := TX10) (N := 10) hx hb hg iwX10 hown hK hP 1 rfl rfl 2 (by decide) (hg _ m_44) (fun _ h9 => h9) rfl d_X10_skipBlanks_123 ?_
                  refine lv_iconst (v := 1) hx hb d_X10_skipBlanks_126 (by decide) ?_
                  refine lv_iadd hx hb d_X10_skipBlanks_127 ?_
                  refine va_put (D := D) (ci := 10) (v := .int ((σ 2 2) + 1)) (ty := .int) (C := "LinkedUnits$Tokens") (T := TX10) (N := 10) hx hb hg iwX10 tyX10 tyX10_ok nmX10 hown hK hP hD hS 1 rfl rfl 2 (by decide) (hg _ m_44) (fun _ h9 => h9) rfl (by decide +kernel) rfl rfl (Nat.le_of_ble_eq_true rfl) d_X10_skipBlanks_128 (fun H locs hP hD hS => ?_)
                  have hP : va_P D vwCl (wB cy r (upC (upC σ 2 3 ((σ 2 3) + 1)) 2 2 ((σ 2 2) + 1))) H := hP
                  have hD : va_D A (wB cy r (upC (upC σ 2 3 ((σ 2 3) + 1)) 2 2 ((σ 2 2) + 1))) := hD
                  have kp : Keep [(2, 2), (2, 3), (2, 4)] [13, 14, 15, 16] σ0 (upC (upC σ 2 3 ((σ 2 3) + 1)) 2 2 ((σ 2 2) + 1)) := keep_f kp (by decide)
                  refine lv_goto (tgt := 136) hx hb d_X10_skipBlanks_131 (by decide) ?_
                  refine lv_iinc (v := (x1 + 1)) (lv' := [(1, .int (x1 + 1)), (3, .int (-1)), (2, .int r1), (0, .ref (r 2))]) hx hb d_X10_skipBlanks_136 hl (k := 3) rfl rfl (by decide) rfl (fun ls hl => ?_)
                  refine lv_goto (tgt := 2) hx hb d_X10_skipBlanks_139 (by decide) ?_
                  exact ih2 _ (by show upm (x1 + 1) < _; have hN := N2; unfold upm at hN ⊢; have e0 := s_rng x1; have e1 : (1 : Int32).toInt = 1 := (by decide); obtain ⟨k2, e2⟩ := s_add x1 (1 : Int32); have e3 := s_rng (x1 + 1); have e4 := s_rng (σ 2 1); have e5 := inv.1; have e6 := s_nlt c_7; omega) (upC (upC σ 2 3 ((σ 2 3) + 1)) 2 2 ((σ 2 2) + 1)) (x1 + 1) _ _ _ rfl inv kp hP hD hS (lv_sub hl [3, 0] rfl)
              · -- not taken at 92
                refine lv_iload_n hx hb d_X10_skipBlanks_95 rfl (lv_at hl 1 rfl) ?_
                refine lv_bipush (v := 32) hx hb d_X10_skipBlanks_96 (by decide) ?_
                refine lv_icmp_ne (tgt := 134) hx hb d_X10_skipBlanks_98 (by decide) (fun c_98 => ?_) (fun c_98 => ?_)
                · -- taken at 98
                  refine lv_iconst (v := 1) hx hb d_X10_skipBlanks_134 (by decide) ?_
                  refine W.widen (k := 0) (n := 0) (Nat.le_of_ble_eq_true rfl) (Nat.le_of_ble_eq_true rfl) ?_
                  exact k_zret (X := St) (w1 := fun τ => wB cy r τ) σ hx hb hr (k_nz (Or.inr rfl)) d_X10_skipBlanks_135 hlocks hP hK hD hS ⟨(Or.inr rfl), ⟨inv, kp⟩⟩
                · -- not taken at 98
                  refine lv_aload_n hx hb d_X10_skipBlanks_101 rfl (lv_at hl 2 rfl) ?_
                  refine lv_dup hx hb d_X10_skipBlanks_102 rfl ?_
                  refine va_get (D := D) (ci := 10) (v := .int (σ 2 3)) (C := "LinkedUnits$Tokens") (T := TX10) (N := 10) hx hb hg iwX10 hown hK hP 1 rfl rfl 3 (by decide) (hg _ m_45) (fun _ h9 => h9) rfl d_X10_skipBlanks_103 ?_
                  refine lv_iload_n hx hb d_X10_skipBlanks_106 rfl (lv_at hl 1 rfl) ?_
                  refine lv_bipush (v := 10) hx hb d_X10_skipBlanks_107 (by decide) ?_
                  refine lv_icmp_ne (tgt := 116) hx hb d_X10_skipBlanks_109 (by decide) (fun c_109 => ?_) (fun c_109 => ?_)
                  · -- taken at 109
                    refine lv_iconst (v := 0) hx hb d_X10_skipBlanks_116 (by decide) ?_
                    refine lv_iadd hx hb d_X10_skipBlanks_117 ?_
                    refine va_put (D := D) (ci := 10) (v := .int ((σ 2 3) + 0)) (ty := .int) (C := "LinkedUnits$Tokens") (T := TX10) (N := 10) hx hb hg iwX10 tyX10 tyX10_ok nmX10 hown hK hP hD hS 1 rfl rfl 3 (by decide) (hg _ m_45) (fun _ h9 => h9) rfl (by decide +kernel) rfl rfl (Nat.le_of_ble_eq_true rfl) d_X10_skipBlanks_118 (fun H locs hP hD hS => ?_)
                    have hP : va_P D vwCl (wB cy r (upC σ 2 3 ((σ 2 3) + 0))) H := hP
                    have hD : va_D A (wB cy r (upC σ 2 3 ((σ 2 3) + 0))) := hD
                    have kp : Keep [(2, 2), (2, 3), (2, 4)] [13, 14, 15, 16] σ0 (upC σ 2 3 ((σ 2 3) + 0)) := keep_f kp (by decide)
                    refine lv_aload_n hx hb d_X10_skipBlanks_121 rfl (lv_at hl 2 rfl) ?_
                    refine lv_dup hx hb d_X10_skipBlanks_122 rfl ?_
                    refine va_get (D := D) (ci := 10) (v := .int (σ 2 2)) (C := "LinkedUnits$Tokens") (T := TX10) (N := 10) hx hb hg iwX10 hown hK hP 1 rfl rfl 2 (by decide) (hg _ m_44) (fun _ h9 => h9) rfl d_X10_skipBlanks_123 ?_
                    refine lv_iconst (v := 1) hx hb d_X10_skipBlanks_126 (by decide) ?_
                    refine lv_iadd hx hb d_X10_skipBlanks_127 ?_
                    refine va_put (D := D) (ci := 10) (v := .int ((σ 2 2) + 1)) (ty := .int) (C := "LinkedUnits$Tokens") (T := TX10) (N := 10) hx hb hg iwX10 tyX10 tyX10_ok nmX10 hown hK hP hD hS 1 rfl rfl 2 (by decide) (hg _ m_44) (fun _ h9 => h9) rfl (by decide +kernel) rfl rfl (Nat.le_of_ble_eq_true rfl) d_X10_skipBlanks_128 (fun H locs hP hD hS => ?_)
                    have hP : va_P D vwCl (wB cy r (upC (upC σ 2 3 ((σ 2 3) + 0)) 2 2 ((σ 2 2) + 1))) H := hP
                    have hD : va_D A (wB cy r (upC (upC σ 2 3 ((σ 2 3) + 0)) 2 2 ((σ 2 2) + 1))) := hD
                    have kp : Keep [(2, 2), (2, 3), (2, 4)] [13, 14, 15, 16] σ0 (upC (upC σ 2 3 ((σ 2 3) + 0)) 2 2 ((σ 2 2) + 1)) := keep_f kp (by decide)
                    refine lv_goto (tgt := 136) hx hb d_X10_skipBlanks_131 (by decide) ?_
                    refine lv_iinc (v := (x1 + 1)) (lv' := [(1, .int (x1 + 1)), (3, .int (-1)), (2, .int r1), (0, .ref (r 2))]) hx hb d_X10_skipBlanks_136 hl (k := 3) rfl rfl (by decide) rfl (fun ls hl => ?_)
                    refine lv_goto (tgt := 2) hx hb d_X10_skipBlanks_139 (by decide) ?_
                    exact ih2 _ (by show upm (x1 + 1) < _; have hN := N2; unfold upm at hN ⊢; have e0 := s_rng x1; have e1 : (1 : Int32).toInt = 1 := (by decide); obtain ⟨k2, e2⟩ := s_add x1 (1 : Int32); have e3 := s_rng (x1 + 1); have e4 := s_rng (σ 2 1); have e5 := inv.1; have e6 := s_nlt c_7; omega) (upC (upC σ 2 3 ((σ 2 3) + 0)) 2 2 ((σ 2 2) + 1)) (x1 + 1) _ _ _ rfl inv kp hP hD hS (lv_sub hl [3, 0] rfl)
                  · -- not taken at 109
                    refine lv_iconst (v := 1) hx hb d_X10_skipBlanks_112 (by decide) ?_
                    refine lv_goto (tgt := 117) hx hb d_X10_skipBlanks_113 (by decide) ?_
                    refine lv_iadd hx hb d_X10_skipBlanks_117 ?_
                    refine va_put (D := D) (ci := 10) (v := .int ((σ 2 3) + 1)) (ty := .int) (C := "LinkedUnits$Tokens") (T := TX10) (N := 10) hx hb hg iwX10 tyX10 tyX10_ok nmX10 hown hK hP hD hS 1 rfl rfl 3 (by decide) (hg _ m_45) (fun _ h9 => h9) rfl (by decide +kernel) rfl rfl (Nat.le_of_ble_eq_true rfl) d_X10_skipBlanks_118 (fun H locs hP hD hS => ?_)
                    have hP : va_P D vwCl (wB cy r (upC σ 2 3 ((σ 2 3) + 1))) H := hP
                    have hD : va_D A (wB cy r (upC σ 2 3 ((σ 2 3) + 1))) := hD
                    have kp : Keep [(2, 2), (2, 3), (2, 4)] [13, 14, 15, 16] σ0 (upC σ 2 3 ((σ 2 3) + 1)) := keep_f kp (by decide)
                    refine lv_aload_n hx hb d_X10_skipBlanks_121 rfl (lv_at hl 2 rfl) ?_
                    refine lv_dup hx hb d_X10_skipBlanks_122 rfl ?_
                    refine va_get (D := D) (ci := 10) (v := .int (σ 2 2)) (C := "LinkedUnits$Tokens") (T := TX10) (N := 10) hx hb hg iwX10 hown hK hP 1 rfl rfl 2 (by decide) (hg _ m_44) (fun _ h9 => h9) rfl d_X10_skipBlanks_123 ?_
                    refine lv_iconst (v := 1) hx hb d_X10_skipBlanks_126 (by decide) ?_
                    refine lv_iadd hx hb d_X10_skipBlanks_127 ?_
                    refine va_put (D := D) (ci := 10) (v := .int ((σ 2 2) + 1)) (ty := .int) (C := "LinkedUnits$Tokens") (T := TX10) (N := 10) hx hb hg iwX10 tyX10 tyX10_ok nmX10 hown hK hP hD hS 1 rfl rfl 2 (by decide) (hg _ m_44) (fun _ h9 => h9) rfl (by decide +kernel) rfl rfl (Nat.le_of_ble_eq_true rfl) d_X10_skipBlanks_128 (fun H locs hP hD hS => ?_)
                    have hP : va_P D vwCl (wB cy r (upC (upC σ 2 3 ((σ 2 3) + 1)) 2 2 ((σ 2 2) + 1))) H := hP
                    have hD : va_D A (wB cy r (upC (upC σ 2 3 ((σ 2 3) + 1)) 2 2 ((σ 2 2) + 1))) := hD
                    have kp : Keep [(2, 2), (2, 3), (2, 4)] [13, 14, 15, 16] σ0 (upC (upC σ 2 3 ((σ 2 3) + 1)) 2 2 ((σ 2 2) + 1)) := keep_f kp (by decide)
                    refine lv_goto (tgt := 136) hx hb d_X10_skipBlanks_131 (by decide) ?_
                    refine lv_iinc (v := (x1 + 1)) (lv' := [(1, .int (x1 + 1)), (3, .int (-1)), (2, .int r1), (0, .ref (r 2))]) hx hb d_X10_skipBlanks_136 hl (k := 3) rfl rfl (by decide) rfl (fun ls hl => ?_)
                    refine lv_goto (tgt := 2) hx hb d_X10_skipBlanks_139 (by decide) ?_
                    exact ih2 _ (by show upm (x1 + 1) < _; have hN := N2; unfold upm at hN ⊢; have e0 := s_rng x1; have e1 : (1 : Int32).toInt = 1 := (by decide); obtain ⟨k2, e2⟩ := s_add x1 (1 : Int32); have e3 := s_rng (x1 + 1); have e4 := s_rng (σ 2 1); have e5 := inv.1; have e6 := s_nlt c_7; omega) (upC (upC σ 2 3 ((σ 2 3) + 1)) 2 2 ((σ 2 2) + 1)) (x1 + 1) _ _ _ rfl inv kp hP hD hS (lv_sub hl [3, 0] rfl)
        · -- not taken at 22
          refine lv_aload_n hx hb d_X10_skipBlanks_25 rfl (lv_at hl 1 rfl) ?_
          refine lv_aload_n hx hb d_X10_skipBlanks_26 rfl (lv_at hl 1 rfl) ?_
          refine va_get (D := D) (ci := 10) (v := .int (σ 2 2)) (C := "LinkedUnits$Tokens") (T := TX10) (N := 10) hx hb hg iwX10 hown hK hP 1 rfl rfl 2 (by decide) (hg _ m_44) (fun _ h9 => h9) rfl d_X10_skipBlanks_27 ?_
          refine lv_iconst (v := 1) hx hb d_X10_skipBlanks_30 (by decide) ?_
          refine lv_iadd hx hb d_X10_skipBlanks_31 ?_
          refine s_calli (X := Unit) (w1 := fun _ => wB cy r σ) (va_runV (As := [.int ((σ 2 2) + 1)]) (rest := []) ⟨hx, hb, hml, hown, hg⟩ (s_X10_byteAt l D cy H.size w g r σ ((σ 2 2) + 1) inv ) (cwV 1 hg (gw_V m_806 m_808 ms_X10_byteAt m_2 m_809) rfl rfl rfl (by decide +kernel) ⟨(Nat.le_of_ble_eq_true rfl), (Nat.le_of_ble_eq_true rfl)⟩) (s_preVE (As := [.int ((σ 2 2) + 1)]) (gE_ok w g) hS hA hE hP hD hK hNW 1 rfl rfl) rfl rfl hl.1 rfl (lv_room (Nat.le_of_ble_eq_true rfl)) d_X10_skipBlanks_32 ⟨(Nat.le_of_ble_eq_true rfl), (Nat.le_of_ble_eq_true rfl)⟩) hP hD hS hA (fun r2 u2 H locs hw hP hD hS => ?_)
          have hP : va_P D vwCl (wB cy r σ) H := hP
          have hD : va_D A (wB cy r σ) := hD
          refine lv_goto (tgt := 39) hx hb d_X10_skipBlanks_35 (by decide) ?_
          refine lv_istore_n (lv' := [(3, .int r2), (2, .int r1), (0, .ref (r 2)), (1, .int x1)]) hx hb d_X10_skipBlanks_39 rfl hl (by decide) rfl (fun ls hl => ?_)
          refine lv_iload_n hx hb d_X10_skipBlanks_40 rfl (lv_at hl 0 rfl) ?_
          refine lv_bipush (v := 47) hx hb d_X10_skipBlanks_41 (by decide) ?_
          refine lv_icmp_eq (tgt := 52) hx hb d_X10_skipBlanks_43 (by decide) (fun c_43 => ?_) (fun c_43 => ?_)
          · -- taken at 43
            refine lv_iload_n hx hb d_X10_skipBlanks_52 rfl (lv_at hl 0 rfl) ?_
            refine lv_bipush (v := 47) hx hb d_X10_skipBlanks_53 (by decide) ?_
            refine lv_icmp_ne (tgt := 68) hx hb d_X10_skipBlanks_55 (by decide) (fun c_55 => ?_) (fun c_55 => ?_)
            · -- taken at 55
              refine lv_aload_n hx hb d_X10_skipBlanks_68 rfl (lv_at hl 2 rfl) ?_
              refine s_calli (X := St) (w1 := fun τ => wB cy r τ) (va_runV (As := []) (rest := []) ⟨hx, hb, hml, hown, hg⟩ (s_X10_skipComment l D cy H.size w g r σ  inv ) (cwV 0 hg (gw_V m_825 m_827 ms_X10_skipComment m_2 m_828) rfl rfl rfl (by decide +kernel) ⟨(Nat.le_of_ble_eq_true rfl), (Nat.le_of_ble_eq_true rfl)⟩) (s_preVE (As := []) (gE_ok w g) hS hA hE hP hD hK hNW 1 rfl rfl) rfl rfl hl.1 rfl (lv_room (Nat.le_of_ble_eq_true rfl)) d_X10_skipBlanks_69 ⟨(Nat.le_of_ble_eq_true rfl), (Nat.le_of_ble_eq_true rfl)⟩) hP hD hS hA (fun r3 σ3 H locs hw hP hD hS => ?_)
              have hP : va_P D vwCl (wB cy r σ3) H := hP
              have hD : va_D A (wB cy r σ3) := hD
              have ik3 : Keep [(2, 2), (2, 3), (2, 4)] [13, 14, 15, 16] σ σ3 := hw.2.2
              have kp : Keep [(2, 2), (2, 3), (2, 4)] [13, 14, 15, 16] σ0 σ3 := keep_c kp ik3 (by decide) (by decide)
              have i3 : Inv σ3 := hw.2.1
              have hz3 : r3 = 0 ∨ r3 = 1 := hw.1
              refine lv_if_ne (tgt := 136) hx hb d_X10_skipBlanks_72 (by decide) (fun c_72 => ?_) (fun c_72 => ?_)
              · -- taken at 72
                refine lv_iinc (v := (x1 + 1)) (lv' := [(1, .int (x1 + 1)), (3, .int r2), (2, .int r1), (0, .ref (r 2))]) hx hb d_X10_skipBlanks_136 hl (k := 3) rfl rfl (by decide) rfl (fun ls hl => ?_)
                refine lv_goto (tgt := 2) hx hb d_X10_skipBlanks_139 (by decide) ?_
                exact ih2 _ (by show upm (x1 + 1) < _; have hN := N2; unfold upm at hN ⊢; have e0 := s_rng x1; have e1 : (1 : Int32).toInt = 1 := (by decide); obtain ⟨k2, e2⟩ := s_add x1 (1 : Int32); have e3 := s_rng (x1 + 1); have e4 := s_rng (σ 2 1); have e5 := inv.1; have e6 := s_nlt c_7; omega) σ3 (x1 + 1) _ _ _ rfl i3 kp hP hD hS (lv_sub hl [3, 0] rfl)
              · -- not taken at 72
                refine lv_iconst (v := 0) hx hb d_X10_skipBlanks_75 (by decide) ?_
                refine W.widen (k := 0) (n := 0) (Nat.le_of_ble_eq_true rfl) (Nat.le_of_ble_eq_true rfl) ?_
                exact k_zret (X := St) (w1 := fun τ => wB cy r τ) σ3 hx hb hr (k_nz (Or.inl rfl)) d_X10_skipBlanks_76 hlocks hP hK hD hS ⟨(Or.inl rfl), ⟨i3, kp⟩⟩
            · -- not taken at 55
              refine lv_aload_n hx hb d_X10_skipBlanks_58 rfl (lv_at hl 2 rfl) ?_
              refine s_calli (X := St) (w1 := fun τ => wB cy r τ) (va_runV (As := []) (rest := []) ⟨hx, hb, hml, hown, hg⟩ (s_X10_skipLine l D cy H.size w g r σ  inv ) (cwV 0 hg (gw_V m_810 m_812 ms_X10_skipLine m_2 m_813) rfl rfl rfl (by decide +kernel) ⟨(Nat.le_of_ble_eq_true rfl), (Nat.le_of_ble_eq_true rfl)⟩) (s_preVE (As := []) (gE_ok w g) hS hA hE hP hD hK hNW 1 rfl rfl) rfl rfl hl.1 rfl (lv_room (Nat.le_of_ble_eq_true rfl)) d_X10_skipBlanks_59 ⟨(Nat.le_of_ble_eq_true rfl), (Nat.le_of_ble_eq_true rfl)⟩) hP hD hS hA (fun r4 σ4 H locs hw hP hD hS => ?_)
              have hP : va_P D vwCl (wB cy r σ4) H := hP
              have hD : va_D A (wB cy r σ4) := hD
              have ik4 : Keep [(2, 2), (2, 4)] [13, 14, 15, 16] σ σ4 := hw.2.2
              have kp : Keep [(2, 2), (2, 3), (2, 4)] [13, 14, 15, 16] σ0 σ4 := keep_c kp ik4 (by decide) (by decide)
              have i4 : Inv σ4 := hw.2.1
              have hz4 : r4 = 0 ∨ r4 = 1 := hw.1
              refine lv_if_eq (tgt := 75) hx hb d_X10_skipBlanks_62 (by decide) (fun c_62 => ?_) (fun c_62 => ?_)
              · -- taken at 62
                refine lv_iconst (v := 0) hx hb d_X10_skipBlanks_75 (by decide) ?_
                refine W.widen (k := 0) (n := 0) (Nat.le_of_ble_eq_true rfl) (Nat.le_of_ble_eq_true rfl) ?_
                exact k_zret (X := St) (w1 := fun τ => wB cy r τ) σ4 hx hb hr (k_nz (Or.inl rfl)) d_X10_skipBlanks_76 hlocks hP hK hD hS ⟨(Or.inl rfl), ⟨i4, kp⟩⟩
              · -- not taken at 62
                refine lv_goto (tgt := 136) hx hb d_X10_skipBlanks_65 (by decide) ?_
                refine lv_iinc (v := (x1 + 1)) (lv' := [(1, .int (x1 + 1)), (3, .int r2), (2, .int r1), (0, .ref (r 2))]) hx hb d_X10_skipBlanks_136 hl (k := 3) rfl rfl (by decide) rfl (fun ls hl => ?_)
                refine lv_goto (tgt := 2) hx hb d_X10_skipBlanks_139 (by decide) ?_
                exact ih2 _ (by show upm (x1 + 1) < _; have hN := N2; unfold upm at hN ⊢; have e0 := s_rng x1; have e1 : (1 : Int32).toInt = 1 := (by decide); obtain ⟨k2, e2⟩ := s_add x1 (1 : Int32); have e3 := s_rng (x1 + 1); have e4 := s_rng (σ 2 1); have e5 := inv.1; have e6 := s_nlt c_7; omega) σ4 (x1 + 1) _ _ _ rfl i4 kp hP hD hS (lv_sub hl [3, 0] rfl)
          · -- not taken at 43
            refine lv_iload_n hx hb d_X10_skipBlanks_46 rfl (lv_at hl 0 rfl) ?_
            refine lv_bipush (v := 42) hx hb d_X10_skipBlanks_47 (by decide) ?_
            refine lv_icmp_ne (tgt := 77) hx hb d_X10_skipBlanks_49 (by decide) (fun c_49 => ?_) (fun c_49 => ?_)
            · -- taken at 49
              refine lv_iload_n hx hb d_X10_skipBlanks_77 rfl (lv_at hl 1 rfl) ?_
              refine lv_bipush (v := 9) hx hb d_X10_skipBlanks_78 (by decide) ?_
              refine lv_icmp_eq (tgt := 101) hx hb d_X10_skipBlanks_80 (by decide) (fun c_80 => ?_) (fun c_80 => ?_)
              · -- taken at 80
                refine lv_aload_n hx hb d_X10_skipBlanks_101 rfl (lv_at hl 2 rfl) ?_
                refine lv_dup hx hb d_X10_skipBlanks_102 rfl ?_
                refine va_get (D := D) (ci := 10) (v := .int (σ 2 3)) (C := "LinkedUnits$Tokens") (T := TX10) (N := 10) hx hb hg iwX10 hown hK hP 1 rfl rfl 3 (by decide) (hg _ m_45) (fun _ h9 => h9) rfl d_X10_skipBlanks_103 ?_
                refine lv_iload_n hx hb d_X10_skipBlanks_106 rfl (lv_at hl 1 rfl) ?_
                refine lv_bipush (v := 10) hx hb d_X10_skipBlanks_107 (by decide) ?_
                refine lv_icmp_ne (tgt := 116) hx hb d_X10_skipBlanks_109 (by decide) (fun c_109 => ?_) (fun c_109 => ?_)
                · -- taken at 109
                  refine lv_iconst (v := 0) hx hb d_X10_skipBlanks_116 (by decide) ?_
                  refine lv_iadd hx hb d_X10_skipBlanks_117 ?_
                  refine va_put (D := D) (ci := 10) (v := .int ((σ 2 3) + 0)) (ty := .int) (C := "LinkedUnits$Tokens") (T := TX10) (N := 10) hx hb hg iwX10 tyX10 tyX10_ok nmX10 hown hK hP hD hS 1 rfl rfl 3 (by decide) (hg _ m_45) (fun _ h9 => h9) rfl (by decide +kernel) rfl rfl (Nat.le_of_ble_eq_true rfl) d_X10_skipBlanks_118 (fun H locs hP hD hS => ?_)
                  have hP : va_P D vwCl (wB cy r (upC σ 2 3 ((σ 2 3) + 0))) H := hP
                  have hD : va_D A (wB cy r (upC σ 2 3 ((σ 2 3) + 0))) := hD
                  have kp : Keep [(2, 2), (2, 3), (2, 4)] [13, 14, 15, 16] σ0 (upC σ 2 3 ((σ 2 3) + 0)) := keep_f kp (by decide)
                  refine lv_aload_n hx hb d_X10_skipBlanks_121 rfl (lv_at hl 2 rfl) ?_
                  refine lv_dup hx hb d_X10_skipBlanks_122 rfl ?_
                  refine va_get (D := D) (ci := 10) (v := .int (σ 2 2)) (C := "LinkedUnits$Tokens") (T := TX10) (N := 10) hx hb hg iwX10 hown hK hP 1 rfl rfl 2 (by decide) (hg _ m_44) (fun _ h9 => h9) rfl d_X10_skipBlanks_123 ?_
                  refine lv_iconst (v := 1) hx hb d_X10_skipBlanks_126 (by decide) ?_
                  refine lv_iadd hx hb d_X10_skipBlanks_127 ?_
                  refine va_put (D := D) (ci := 10) (v := .int ((σ 2 2) + 1)) (ty := .int) (C := "LinkedUnits$Tokens") (T := TX10) (N := 10) hx hb hg iwX10 tyX10 tyX10_ok nmX10 hown hK hP hD hS 1 rfl rfl 2 (by decide) (hg _ m_44) (fun _ h9 => h9) rfl (by decide +kernel) rfl rfl (Nat.le_of_ble_eq_true rfl) d_X10_skipBlanks_128 (fun H locs hP hD hS => ?_)
                  have hP : va_P D vwCl (wB cy r (upC (upC σ 2 3 ((σ 2 3) + 0)) 2 2 ((σ 2 2) + 1))) H := hP
                  have hD : va_D A (wB cy r (upC (upC σ 2 3 ((σ 2 3) + 0)) 2 2 ((σ 2 2) + 1))) := hD
                  have kp : Keep [(2, 2), (2, 3), (2, 4)] [13, 14, 15, 16] σ0 (upC (upC σ 2 3 ((σ 2 3) + 0)) 2 2 ((σ 2 2) + 1)) := keep_f kp (by decide)
                  refine lv_goto (tgt := 136) hx hb d_X10_skipBlanks_131 (by decide) ?_
                  refine lv_iinc (v := (x1 + 1)) (lv' := [(1, .int (x1 + 1)), (3, .int r2), (2, .int r1), (0, .ref (r 2))]) hx hb d_X10_skipBlanks_136 hl (k := 3) rfl rfl (by decide) rfl (fun ls hl => ?_)
                  refine lv_goto (tgt := 2) hx hb d_X10_skipBlanks_139 (by decide) ?_
                  exact ih2 _ (by show upm (x1 + 1) < _; have hN := N2; unfold upm at hN ⊢; have e0 := s_rng x1; have e1 : (1 : Int32).toInt = 1 := (by decide); obtain ⟨k2, e2⟩ := s_add x1 (1 : Int32); have e3 := s_rng (x1 + 1); have e4 := s_rng (σ 2 1); have e5 := inv.1; have e6 := s_nlt c_7; omega) (upC (upC σ 2 3 ((σ 2 3) + 0)) 2 2 ((σ 2 2) + 1)) (x1 + 1) _ _ _ rfl inv kp hP hD hS (lv_sub hl [3, 0] rfl)
                · -- not taken at 109
                  refine lv_iconst (v := 1) hx hb d_X10_skipBlanks_112 (by decide) ?_
                  refine lv_goto (tgt := 117) hx hb d_X10_skipBlanks_113 (by decide) ?_
                  refine lv_iadd hx hb d_X10_skipBlanks_117 ?_
                  refine va_put (D := D) (ci := 10) (v := .int ((σ 2 3) + 1)) (ty := .int) (C := "LinkedUnits$Tokens") (T := TX10) (N := 10) hx hb hg iwX10 tyX10 tyX10_ok nmX10 hown hK hP hD hS 1 rfl rfl 3 (by decide) (hg _ m_45) (fun _ h9 => h9) rfl (by decide +kernel) rfl rfl (Nat.le_of_ble_eq_true rfl) d_X10_skipBlanks_118 (fun H locs hP hD hS => ?_)
                  have hP : va_P D vwCl (wB cy r (upC σ 2 3 ((σ 2 3) + 1))) H := hP
                  have hD : va_D A (wB cy r (upC σ 2 3 ((σ 2 3) + 1))) := hD
                  have kp : Keep [(2, 2), (2, 3), (2, 4)] [13, 14, 15, 16] σ0 (upC σ 2 3 ((σ 2 3) + 1)) := keep_f kp (by decide)
                  refine lv_aload_n hx hb d_X10_skipBlanks_121 rfl (lv_at hl 2 rfl) ?_
                  refine lv_dup hx hb d_X10_skipBlanks_122 rfl ?_
                  refine va_get (D := D) (ci := 10) (v := .int (σ 2 2)) (C := "LinkedUnits$Tokens") (T := TX10) (N := 10) hx hb hg iwX10 hown hK hP 1 rfl rfl 2 (by decide) (hg _ m_44) (fun _ h9 => h9) rfl d_X10_skipBlanks_123 ?_
                  refine lv_iconst (v := 1) hx hb d_X10_skipBlanks_126 (by decide) ?_
                  refine lv_iadd hx hb d_X10_skipBlanks_127 ?_
                  refine va_put (D := D) (ci := 10) (v := .int ((σ 2 2) + 1)) (ty := .int) (C := "LinkedUnits$Tokens") (T := TX10) (N := 10) hx hb hg iwX10 tyX10 tyX10_ok nmX10 hown hK hP hD hS 1 rfl rfl 2 (by decide) (hg _ m_44) (fun _ h9 => h9) rfl (by decide +kernel) rfl rfl (Nat.le_of_ble_eq_true rfl) d_X10_skipBlanks_128 (fun H locs hP hD hS => ?_)
                  have hP : va_P D vwCl (wB cy r (upC (upC σ 2 3 ((σ 2 3) + 1)) 2 2 ((σ 2 2) + 1))) H := hP
                  have hD : va_D A (wB cy r (upC (upC σ 2 3 ((σ 2 3) + 1)) 2 2 ((σ 2 2) + 1))) := hD
                  have kp : Keep [(2, 2), (2, 3), (2, 4)] [13, 14, 15, 16] σ0 (upC (upC σ 2 3 ((σ 2 3) + 1)) 2 2 ((σ 2 2) + 1)) := keep_f kp (by decide)
                  refine lv_goto (tgt := 136) hx hb d_X10_skipBlanks_131 (by decide) ?_
                  refine lv_iinc (v := (x1 + 1)) (lv' := [(1, .int (x1 + 1)), (3, .int r2), (2, .int r1), (0, .ref (r 2))]) hx hb d_X10_skipBlanks_136 hl (k := 3) rfl rfl (by decide) rfl (fun ls hl => ?_)
                  refine lv_goto (tgt := 2) hx hb d_X10_skipBlanks_139 (by decide) ?_
                  exact ih2 _ (by show upm (x1 + 1) < _; have hN := N2; unfold upm at hN ⊢; have e0 := s_rng x1; have e1 : (1 : Int32).toInt = 1 := (by decide); obtain ⟨k2, e2⟩ := s_add x1 (1 : Int32); have e3 := s_rng (x1 + 1); have e4 := s_rng (σ 2 1); have e5 := inv.1; have e6 := s_nlt c_7; omega) (upC (upC σ 2 3 ((σ 2 3) + 1)) 2 2 ((σ 2 2) + 1)) (x1 + 1) _ _ _ rfl inv kp hP hD hS (lv_sub hl [3, 0] rfl)
              · -- not taken at 80
                refine lv_iload_n hx hb d_X10_skipBlanks_83 rfl (lv_at hl 1 rfl) ?_
                refine lv_bipush (v := 10) hx hb d_X10_skipBlanks_84 (by decide) ?_
                refine lv_icmp_eq (tgt := 101) hx hb d_X10_skipBlanks_86 (by decide) (fun c_86 => ?_) (fun c_86 => ?_)
                · -- taken at 86
                  refine lv_aload_n hx hb d_X10_skipBlanks_101 rfl (lv_at hl 2 rfl) ?_
                  refine lv_dup hx hb d_X10_skipBlanks_102 rfl ?_
                  refine va_get (D := D) (ci := 10) (v := .int (σ 2 3)) (C := "LinkedUnits$Tokens") (T := TX10) (N := 10) hx hb hg iwX10 hown hK hP 1 rfl rfl 3 (by decide) (hg _ m_45) (fun _ h9 => h9) rfl d_X10_skipBlanks_103 ?_
                  refine lv_iload_n hx hb d_X10_skipBlanks_106 rfl (lv_at hl 1 rfl) ?_
                  refine lv_bipush (v := 10) hx hb d_X10_skipBlanks_107 (by decide) ?_
                  refine lv_icmp_ne (tgt := 116) hx hb d_X10_skipBlanks_109 (by decide) (fun c_109 => ?_) (fun c_109 => ?_)
                  · -- taken at 109
                    refine lv_iconst (v := 0) hx hb d_X10_skipBlanks_116 (by decide) ?_
                    refine lv_iadd hx hb d_X10_skipBlanks_117 ?_
                    refine va_put (D := D) (ci := 10) (v := .int ((σ 2 3) + 0)) (ty := .int) (C := "LinkedUnits$Tokens") (T := TX10) (N := 10) hx hb hg iwX10 tyX10 tyX10_ok nmX10 hown hK hP hD hS 1 rfl rfl 3 (by decide) (hg _ m_45) (fun _ h9 => h9) rfl (by decide +kernel) rfl rfl (Nat.le_of_ble_eq_true rfl) d_X10_skipBlanks_118 (fun H locs hP hD hS => ?_)
                    have hP : va_P D vwCl (wB cy r (upC σ 2 3 ((σ 2 3) + 0))) H := hP
                    have hD : va_D A (wB cy r (upC σ 2 3 ((σ 2 3) + 0))) := hD
                    have kp : Keep [(2, 2), (2, 3), (2, 4)] [13, 14, 15, 16] σ0 (upC σ 2 3 ((σ 2 3) + 0)) := keep_f kp (by decide)
                    refine lv_aload_n hx hb d_X10_skipBlanks_121 rfl (lv_at hl 2 rfl) ?_
                    refine lv_dup hx hb d_X10_skipBlanks_122 rfl ?_
                    refine va_get (D := D) (ci := 10) (v := .int (σ 2 2)) (C := "LinkedUnits$Tokens") (T := TX10) (N := 10) hx hb hg iwX10 hown hK hP 1 rfl rfl 2 (by decide) (hg _ m_44) (fun _ h9 => h9) rfl d_X10_skipBlanks_123 ?_
                    refine lv_iconst (v := 1) hx hb d_X10_skipBlanks_126 (by decide) ?_
                    refine lv_iadd hx hb d_X10_skipBlanks_127 ?_
                    refine va_put (D := D) (ci := 10) (v := .int ((σ 2 2) + 1)) (ty := .int) (C := "LinkedUnits$Tokens") (T := TX10) (N := 10) hx hb hg iwX10 tyX10 tyX10_ok nmX10 hown hK hP hD hS 1 rfl rfl 2 (by decide) (hg _ m_44) (fun _ h9 => h9) rfl (by decide +kernel) rfl rfl (Nat.le_of_ble_eq_true rfl) d_X10_skipBlanks_128 (fun H locs hP hD hS => ?_)
                    have hP : va_P D vwCl (wB cy r (upC (upC σ 2 3 ((σ 2 3) + 0)) 2 2 ((σ 2 2) + 1))) H := hP
                    have hD : va_D A (wB cy r (upC (upC σ 2 3 ((σ 2 3) + 0)) 2 2 ((σ 2 2) + 1))) := hD
                    have kp : Keep [(2, 2), (2, 3), (2, 4)] [13, 14, 15, 16] σ0 (upC (upC σ 2 3 ((σ 2 3) + 0)) 2 2 ((σ 2 2) + 1)) := keep_f kp (by decide)
                    refine lv_goto (tgt := 136) hx hb d_X10_skipBlanks_131 (by decide) ?_
                    refine lv_iinc (v := (x1 + 1)) (lv' := [(1, .int (x1 + 1)), (3, .int r2), (2, .int r1), (0, .ref (r 2))]) hx hb d_X10_skipBlanks_136 hl (k := 3) rfl rfl (by decide) rfl (fun ls hl => ?_)
                    refine lv_goto (tgt := 2) hx hb d_X10_skipBlanks_139 (by decide) ?_
                    exact ih2 _ (by show upm (x1 + 1) < _; have hN := N2; unfold upm at hN ⊢; have e0 := s_rng x1; have e1 : (1 : Int32).toInt = 1 := (by decide); obtain ⟨k2, e2⟩ := s_add x1 (1 : Int32); have e3 := s_rng (x1 + 1); have e4 := s_rng (σ 2 1); have e5 := inv.1; have e6 := s_nlt c_7; omega) (upC (upC σ 2 3 ((σ 2 3) + 0)) 2 2 ((σ 2 2) + 1)) (x1 + 1) _ _ _ rfl inv kp hP hD hS (lv_sub hl [3, 0] rfl)
                  · -- not taken at 109
                    refine lv_iconst (v := 1) hx hb d_X10_skipBlanks_112 (by decide) ?_
                    refine lv_goto (tgt := 117) hx hb d_X10_skipBlanks_113 (by decide) ?_
                    refine lv_iadd hx hb d_X10_skipBlanks_117 ?_
                    refine va_put (D := D) (ci := 10) (v := .int ((σ 2 3) + 1)) (ty := .int) (C := "LinkedUnits$Tokens") (T := TX10) (N := 10) hx hb hg iwX10 tyX10 tyX10_ok nmX10 hown hK hP hD hS 1 rfl rfl 3 (by decide) (hg _ m_45) (fun _ h9 => h9) rfl (by decide +kernel) rfl rfl (Nat.le_of_ble_eq_true rfl) d_X10_skipBlanks_118 (fun H locs hP hD hS => ?_)
                    have hP : va_P D vwCl (wB cy r (upC σ 2 3 ((σ 2 3) + 1))) H := hP
                    have hD : va_D A (wB cy r (upC σ 2 3 ((σ 2 3) + 1))) := hD
                    have kp : Keep [(2, 2), (2, 3), (2, 4)] [13, 14, 15, 16] σ0 (upC σ 2 3 ((σ 2 3) + 1)) := keep_f kp (by decide)
                    refine lv_aload_n hx hb d_X10_skipBlanks_121 rfl (lv_at hl 2 rfl) ?_
                    refine lv_dup hx hb d_X10_skipBlanks_122 rfl ?_
                    refine va_get (D := D) (ci := 10) (v := .int (σ 2 2)) (C := "LinkedUnits$Tokens") (T := TX10) (N := 10) hx hb hg iwX10 hown hK hP 1 rfl rfl 2 (by decide) (hg _ m_44) (fun _ h9 => h9) rfl d_X10_skipBlanks_123 ?_
                    refine lv_iconst (v := 1) hx hb d_X10_skipBlanks_126 (by decide) ?_
                    refine lv_iadd hx hb d_X10_skipBlanks_127 ?_
                    refine va_put (D := D) (ci := 10) (v := .int ((σ 2 2) + 1)) (ty := .int) (C := "LinkedUnits$Tokens") (T := TX10) (N := 10) hx hb hg iwX10 tyX10 tyX10_ok nmX10 hown hK hP hD hS 1 rfl rfl 2 (by decide) (hg _ m_44) (fun _ h9 => h9) rfl (by decide +kernel) rfl rfl (Nat.le_of_ble_eq_true rfl) d_X10_skipBlanks_128 (fun H locs hP hD hS => ?_)
                    have hP : va_P D vwCl (wB cy r (upC (upC σ 2 3 ((σ 2 3) + 1)) 2 2 ((σ 2 2) + 1))) H := hP
                    have hD : va_D A (wB cy r (upC (upC σ 2 3 ((σ 2 3) + 1)) 2 2 ((σ 2 2) + 1))) := hD
                    have kp : Keep [(2, 2), (2, 3), (2, 4)] [13, 14, 15, 16] σ0 (upC (upC σ 2 3 ((σ 2 3) + 1)) 2 2 ((σ 2 2) + 1)) := keep_f kp (by decide)
                    refine lv_goto (tgt := 136) hx hb d_X10_skipBlanks_131 (by decide) ?_
                    refine lv_iinc (v := (x1 + 1)) (lv' := [(1, .int (x1 + 1)), (3, .int r2), (2, .int r1), (0, .ref (r 2))]) hx hb d_X10_skipBlanks_136 hl (k := 3) rfl rfl (by decide) rfl (fun ls hl => ?_)
                    refine lv_goto (tgt := 2) hx hb d_X10_skipBlanks_139 (by decide) ?_
                    exact ih2 _ (by show upm (x1 + 1) < _; have hN := N2; unfold upm at hN ⊢; have e0 := s_rng x1; have e1 : (1 : Int32).toInt = 1 := (by decide); obtain ⟨k2, e2⟩ := s_add x1 (1 : Int32); have e3 := s_rng (x1 + 1); have e4 := s_rng (σ 2 1); have e5 := inv.1; have e6 := s_nlt c_7; omega) (upC (upC σ 2 3 ((σ 2 3) + 1)) 2 2 ((σ 2 2) + 1)) (x1 + 1) _ _ _ rfl inv kp hP hD hS (lv_sub hl [3, 0] rfl)
                · -- not taken at 86
                  refine lv_iload_n hx hb d_X10_skipBlanks_89 rfl (lv_at hl 1 rfl) ?_
                  refine lv_bipush (v := 13) hx hb d_X10_skipBlanks_90 (by decide) ?_
                  refine lv_icmp_eq (tgt := 101) hx hb d_X10_skipBlanks_92 (by decide) (fun c_92 => ?_) (fun c_92 => ?_)
                  · -- taken at 92
                    refine lv_aload_n hx hb d_X10_skipBlanks_101 rfl (lv_at hl 2 rfl) ?_
                    refine lv_dup hx hb d_X10_skipBlanks_102 rfl ?_
                    refine va_get (D := D) (ci := 10) (v := .int (σ 2 3)) (C := "LinkedUnits$Tokens") (T := TX10) (N := 10) hx hb hg iwX10 hown hK hP 1 rfl rfl 3 (by decide) (hg _ m_45) (fun _ h9 => h9) rfl d_X10_skipBlanks_103 ?_
                    refine lv_iload_n hx hb d_X10_skipBlanks_106 rfl (lv_at hl 1 rfl) ?_
                    refine lv_bipush (v := 10) hx hb d_X10_skipBlanks_107 (by decide) ?_
                    refine lv_icmp_ne (tgt := 116) hx hb d_X10_skipBlanks_109 (by decide) (fun c_109 => ?_) (fun c_109 => ?_)
                    · -- taken at 109
                      refine lv_iconst (v := 0) hx hb d_X10_skipBlanks_116 (by decide) ?_
                      refine lv_iadd hx hb d_X10_skipBlanks_117 ?_
                      refine va_put (D := D) (ci := 10) (v := .int ((σ 2 3) + 0)) (ty := .int) (C := "LinkedUnits$Tokens") (T := TX10) (N := 10) hx hb hg iwX10 tyX10 tyX10_ok nmX10 hown hK hP hD hS 1 rfl rfl 3 (by decide) (hg _ m_45) (fun _ h9 => h9) rfl (by decide +kernel) rfl rfl (Nat.le_of_ble_eq_true rfl) d_X10_skipBlanks_118 (fun H locs hP hD hS => ?_)
                      have hP : va_P D vwCl (wB cy r (upC σ 2 3 ((σ 2 3) + 0))) H := hP
                      have hD : va_D A (wB cy r (upC σ 2 3 ((σ 2 3) + 0))) := hD
                      have kp : Keep [(2, 2), (2, 3), (2, 4)] [13, 14, 15, 16] σ0 (upC σ 2 3 ((σ 2 3) + 0)) := keep_f kp (by decide)
                      refine lv_aload_n hx hb d_X10_skipBlanks_121 rfl (lv_at hl 2 rfl) ?_
                      refine lv_dup hx hb d_X10_skipBlanks_122 rfl ?_
                      refine va_get (D := D) (ci := 10) (v := .int (σ 2 2)) (C := "LinkedUnits$Tokens") (T := TX10) (N := 10) hx hb hg iwX10 hown hK hP 1 rfl rfl 2 (by decide) (hg _ m_44) (fun _ h9 => h9) rfl d_X10_skipBlanks_123 ?_
                      refine lv_iconst (v := 1) hx hb d_X10_skipBlanks_126 (by decide) ?_
                      refine lv_iadd hx hb d_X10_skipBlanks_127 ?_
                      refine va_put (D := D) (ci := 10) (v := .int ((σ 2 2) + 1)) (ty := .int) (C := "LinkedUnits$Tokens") (T := TX10) (N := 10) hx hb hg iwX10 tyX10 tyX10_ok nmX10 hown hK hP hD hS 1 rfl rfl 2 (by decide) (hg _ m_44) (fun _ h9 => h9) rfl (by decide +kernel) rfl rfl (Nat.le_of_ble_eq_true rfl) d_X10_skipBlanks_128 (fun H locs hP hD hS => ?_)
                      have hP : va_P D vwCl (wB cy r (upC (upC σ 2 3 ((σ 2 3) + 0)) 2 2 ((σ 2 2) + 1))) H := hP
                      have hD : va_D A (wB cy r (upC (upC σ 2 3 ((σ 2 3) + 0)) 2 2 ((σ 2 2) + 1))) := hD
                      have kp : Keep [(2, 2), (2, 3), (2, 4)] [13, 14, 15, 16] σ0 (upC (upC σ 2 3 ((σ 2 3) + 0)) 2 2 ((σ 2 2) + 1)) := keep_f kp (by decide)
                      refine lv_goto (tgt := 136) hx hb d_X10_skipBlanks_131 (by decide) ?_
                      refine lv_iinc (v := (x1 + 1)) (lv' := [(1, .int (x1 + 1)), (3, .int r2), (2, .int r1), (0, .ref (r 2))]) hx hb d_X10_skipBlanks_136 hl (k := 3) rfl rfl (by decide) rfl (fun ls hl => ?_)
                      refine lv_goto (tgt := 2) hx hb d_X10_skipBlanks_139 (by decide) ?_
                      exact ih2 _ (by show upm (x1 + 1) < _; have hN := N2; unfold upm at hN ⊢; have e0 := s_rng x1; have e1 : (1 : Int32).toInt = 1 := (by decide); obtain ⟨k2, e2⟩ := s_add x1 (1 : Int32); have e3 := s_rng (x1 + 1); have e4 := s_rng (σ 2 1); have e5 := inv.1; have e6 := s_nlt c_7; omega) (upC (upC σ 2 3 ((σ 2 3) + 0)) 2 2 ((σ 2 2) + 1)) (x1 + 1) _ _ _ rfl inv kp hP hD hS (lv_sub hl [3, 0] rfl)
                    · -- not taken at 109
                      refine lv_iconst (v := 1) hx hb d_X10_skipBlanks_112 (by decide) ?_
                      refine lv_goto (tgt := 117) hx hb d_X10_skipBlanks_113 (by decide) ?_
                      refine lv_iadd hx hb d_X10_skipBlanks_117 ?_
                      refine va_put (D := D) (ci := 10) (v := .int ((σ 2 3) + 1)) (ty := .int) (C := "LinkedUnits$Tokens") (T := TX10) (N := 10) hx hb hg iwX10 tyX10 tyX10_ok nmX10 hown hK hP hD hS 1 rfl rfl 3 (by decide) (hg _ m_45) (fun _ h9 => h9) rfl (by decide +kernel) rfl rfl (Nat.le_of_ble_eq_true rfl) d_X10_skipBlanks_118 (fun H locs hP hD hS => ?_)
                      have hP : va_P D vwCl (wB cy r (upC σ 2 3 ((σ 2 3) + 1))) H := hP
                      have hD : va_D A (wB cy r (upC σ 2 3 ((σ 2 3) + 1))) := hD
                      have kp : Keep [(2, 2), (2, 3), (2, 4)] [13, 14, 15, 16] σ0 (upC σ 2 3 ((σ 2 3) + 1)) := keep_f kp (by decide)
                      refine lv_aload_n hx hb d_X10_skipBlanks_121 rfl (lv_at hl 2 rfl) ?_
                      refine lv_dup hx hb d_X10_skipBlanks_122 rfl ?_
                      refine va_get (D := D) (ci := 10) (v := .int (σ 2 2)) (C := "LinkedUnits$Tokens") (T := TX10) (N := 10) hx hb hg iwX10 hown hK hP 1 rfl rfl 2 (by decide) (hg _ m_44) (fun _ h9 => h9) rfl d_X10_skipBlanks_123 ?_
                      refine lv_iconst (v := 1) hx hb d_X10_skipBlanks_126 (by decide) ?_
                      refine lv_iadd hx hb d_X10_skipBlanks_127 ?_
                      refine va_put (D := D) (ci := 10) (v := .int ((σ 2 2) + 1)) (ty := .int) (C := "LinkedUnits$Tokens") (T := TX10) (N := 10) hx hb hg iwX10 tyX10 tyX10_ok nmX10 hown hK hP hD hS 1 rfl rfl 2 (by decide) (hg _ m_44) (fun _ h9 => h9) rfl (by decide +kernel) rfl rfl (Nat.le_of_ble_eq_true rfl) d_X10_skipBlanks_128 (fun H locs hP hD hS => ?_)
                      have hP : va_P D vwCl (wB cy r (upC (upC σ 2 3 ((σ 2 3) + 1)) 2 2 ((σ 2 2) + 1))) H := hP
                      have hD : va_D A (wB cy r (upC (upC σ 2 3 ((σ 2 3) + 1)) 2 2 ((σ 2 2) + 1))) := hD
                      have kp : Keep [(2, 2), (2, 3), (2, 4)] [13, 14, 15, 16] σ0 (upC (upC σ 2 3 ((σ 2 3) + 1)) 2 2 ((σ 2 2) + 1)) := keep_f kp (by decide)
                      refine lv_goto (tgt := 136) hx hb d_X10_skipBlanks_131 (by decide) ?_
                      refine lv_iinc (v := (x1 + 1)) (lv' := [(1, .int (x1 + 1)), (3, .int r2), (2, .int r1), (0, .ref (r 2))]) hx hb d_X10_skipBlanks_136 hl (k := 3) rfl rfl (by decide) rfl (fun ls hl => ?_)
                      refine lv_goto (tgt := 2) hx hb d_X10_skipBlanks_139 (by decide) ?_
                      exact ih2 _ (by show upm (x1 + 1) < _; have hN := N2; unfold upm at hN ⊢; have e0 := s_rng x1; have e1 : (1 : Int32).toInt = 1 := (by decide); obtain ⟨k2, e2⟩ := s_add x1 (1 : Int32); have e3 := s_rng (x1 + 1); have e4 := s_rng (σ 2 1); have e5 := inv.1; have e6 := s_nlt c_7; omega) (upC (upC σ 2 3 ((σ 2 3) + 1)) 2 2 ((σ 2 2) + 1)) (x1 + 1) _ _ _ rfl inv kp hP hD hS (lv_sub hl [3, 0] rfl)
                  · -- not taken at 92
                    refine lv_iload_n hx hb d_X10_skipBlanks_95 rfl (lv_at hl 1 rfl) ?_
                    refine lv_bipush (v := 32) hx hb d_X10_skipBlanks_96 (by decide) ?_
                    refine lv_icmp_ne (tgt := 134) hx hb d_X10_skipBlanks_98 (by decide) (fun c_98 => ?_) (fun c_98 => ?_)
                    · -- taken at 98
                      refine lv_iconst (v := 1) hx hb d_X10_skipBlanks_134 (by decide) ?_
                      refine W.widen (k := 0) (n := 0) (Nat.le_of_ble_eq_true rfl) (Nat.le_of_ble_eq_true rfl) ?_
                      exact k_zret (X := St) (w1 := fun τ => wB cy r τ) σ hx hb hr (k_nz (Or.inr rfl)) d_X10_skipBlanks_135 hlocks hP hK hD hS ⟨(Or.inr rfl), ⟨inv, kp⟩⟩
                    · -- not taken at 98
                      refine lv_aload_n hx hb d_X10_skipBlanks_101 rfl (lv_at hl 2 rfl) ?_
                      refine lv_dup hx hb d_X10_skipBlanks_102 rfl ?_
                      refine va_get (D := D) (ci := 10) (v := .int (σ 2 3)) (C := "LinkedUnits$Tokens") (T := TX10) (N := 10) hx hb hg iwX10 hown hK hP 1 rfl rfl 3 (by decide) (hg _ m_45) (fun _ h9 => h9) rfl d_X10_skipBlanks_103 ?_
                      refine lv_iload_n hx hb d_X10_skipBlanks_106 rfl (lv_at hl 1 rfl) ?_
                      refine lv_bipush (v := 10) hx hb d_X10_skipBlanks_107 (by decide) ?_
                      refine lv_icmp_ne (tgt := 116) hx hb d_X10_skipBlanks_109 (by decide) (fun c_109 => ?_) (fun c_109 => ?_)
                      · -- taken at 109
                        refine lv_iconst (v := 0) hx hb d_X10_skipBlanks_116 (by decide) ?_
                        refine lv_iadd hx hb d_X10_skipBlanks_117 ?_
                        refine va_put (D := D) (ci := 10) (v := .int ((σ 2 3) + 0)) (ty := .int) (C := "LinkedUnits$Tokens") (T := TX10) (N := 10) hx hb hg iwX10 tyX10 tyX10_ok nmX10 hown hK hP hD hS 1 rfl rfl 3 (by decide) (hg _ m_45) (fun _ h9 => h9) rfl (by decide +kernel) rfl rfl (Nat.le_of_ble_eq_true rfl) d_X10_skipBlanks_118 (fun H locs hP hD hS => ?_)
                        have hP : va_P D vwCl (wB cy r (upC σ 2 3 ((σ 2 3) + 0))) H := hP
                        have hD : va_D A (wB cy r (upC σ 2 3 ((σ 2 3) + 0))) := hD
                        have kp : Keep [(2, 2), (2, 3), (2, 4)] [13, 14, 15, 16] σ0 (upC σ 2 3 ((σ 2 3) + 0)) := keep_f kp (by decide)
                        refine lv_aload_n hx hb d_X10_skipBlanks_121 rfl (lv_at hl 2 rfl) ?_
                        refine lv_dup hx hb d_X10_skipBlanks_122 rfl ?_
                        refine va_get (D := D) (ci := 10) (v := .int (σ 2 2)) (C := "LinkedUnits$Tokens") (T := TX10) (N := 10) hx hb hg iwX10 hown hK hP 1 rfl rfl 2 (by decide) (hg _ m_44) (fun _ h9 => h9) rfl d_X10_skipBlanks_123 ?_
                        refine lv_iconst (v := 1) hx hb d_X10_skipBlanks_126 (by decide) ?_
                        refine lv_iadd hx hb d_X10_skipBlanks_127 ?_
                        refine va_put (D := D) (ci := 10) (v := .int ((σ 2 2) + 1)) (ty := .int) (C := "LinkedUnits$Tokens") (T := TX10) (N := 10) hx hb hg iwX10 tyX10 tyX10_ok nmX10 hown hK hP hD hS 1 rfl rfl 2 (by decide) (hg _ m_44) (fun _ h9 => h9) rfl (by decide +kernel) rfl rfl (Nat.le_of_ble_eq_true rfl) d_X10_skipBlanks_128 (fun H locs hP hD hS => ?_)
                        have hP : va_P D vwCl (wB cy r (upC (upC σ 2 3 ((σ 2 3) + 0)) 2 2 ((σ 2 2) + 1))) H := hP
                        have hD : va_D A (wB cy r (upC (upC σ 2 3 ((σ 2 3) + 0)) 2 2 ((σ 2 2) + 1))) := hD
                        have kp : Keep [(2, 2), (2, 3), (2, 4)] [13, 14, 15, 16] σ0 (upC (upC σ 2 3 ((σ 2 3) + 0)) 2 2 ((σ 2 2) + 1)) := keep_f kp (by decide)
                        refine lv_goto (tgt := 136) hx hb d_X10_skipBlanks_131 (by decide) ?_
                        refine lv_iinc (v := (x1 + 1)) (lv' := [(1, .int (x1 + 1)), (3, .int r2), (2, .int r1), (0, .ref (r 2))]) hx hb d_X10_skipBlanks_136 hl (k := 3) rfl rfl (by decide) rfl (fun ls hl => ?_)
                        refine lv_goto (tgt := 2) hx hb d_X10_skipBlanks_139 (by decide) ?_
                        exact ih2 _ (by show upm (x1 + 1) < _; have hN := N2; unfold upm at hN ⊢; have e0 := s_rng x1; have e1 : (1 : Int32).toInt = 1 := (by decide); obtain ⟨k2, e2⟩ := s_add x1 (1 : Int32); have e3 := s_rng (x1 + 1); have e4 := s_rng (σ 2 1); have e5 := inv.1; have e6 := s_nlt c_7; omega) (upC (upC σ 2 3 ((σ 2 3) + 0)) 2 2 ((σ 2 2) + 1)) (x1 + 1) _ _ _ rfl inv kp hP hD hS (lv_sub hl [3, 0] rfl)
                      · -- not taken at 109
                        refine lv_iconst (v := 1) hx hb d_X10_skipBlanks_112 (by decide) ?_
                        refine lv_goto (tgt := 117) hx hb d_X10_skipBlanks_113 (by decide) ?_
                        refine lv_iadd hx hb d_X10_skipBlanks_117 ?_
                        refine va_put (D := D) (ci := 10) (v := .int ((σ 2 3) + 1)) (ty := .int) (C := "LinkedUnits$Tokens") (T := TX10) (N := 10) hx hb hg iwX10 tyX10 tyX10_ok nmX10 hown hK hP hD hS 1 rfl rfl 3 (by decide) (hg _ m_45) (fun _ h9 => h9) rfl (by decide +kernel) rfl rfl (Nat.le_of_ble_eq_true rfl) d_X10_skipBlanks_118 (fun H locs hP hD hS => ?_)
                        have hP : va_P D vwCl (wB cy r (upC σ 2 3 ((σ 2 3) + 1))) H := hP
                        have hD : va_D A (wB cy r (upC σ 2 3 ((σ 2 3) + 1))) := hD
                        have kp : Keep [(2, 2), (2, 3), (2, 4)] [13, 14, 15, 16] σ0 (upC σ 2 3 ((σ 2 3) + 1)) := keep_f kp (by decide)
                        refine lv_aload_n hx hb d_X10_skipBlanks_121 rfl (lv_at hl 2 rfl) ?_
                        refine lv_dup hx hb d_X10_skipBlanks_122 rfl ?_
                        refine va_get (D := D) (ci := 10) (v := .int (σ 2 2)) (C := "LinkedUnits$Tokens") (T := TX10) (N := 10) hx hb hg iwX10 hown hK hP 1 rfl rfl 2 (by decide) (hg _ m_44) (fun _ h9 => h9) rfl d_X10_skipBlanks_123 ?_
                        refine lv_iconst (v := 1) hx hb d_X10_skipBlanks_126 (by decide) ?_
                        refine lv_iadd hx hb d_X10_skipBlanks_127 ?_
                        refine va_put (D := D) (ci := 10) (v := .int ((σ 2 2) + 1)) (ty := .int) (C := "LinkedUnits$Tokens") (T := TX10) (N := 10) hx hb hg iwX10 tyX10 tyX10_ok nmX10 hown hK hP hD hS 1 rfl rfl 2 (by decide) (hg _ m_44) (fun _ h9 => h9) rfl (by decide +kernel) rfl rfl (Nat.le_of_ble_eq_true rfl) d_X10_skipBlanks_128 (fun H locs hP hD hS => ?_)
                        have hP : va_P D vwCl (wB cy r (upC (upC σ 2 3 ((σ 2 3) + 1)) 2 2 ((σ 2 2) + 1))) H := hP
                        have hD : va_D A (wB cy r (upC (upC σ 2 3 ((σ 2 3) + 1)) 2 2 ((σ 2 2) + 1))) := hD
                        have kp : Keep [(2, 2), (2, 3), (2, 4)] [13, 14, 15, 16] σ0 (upC (upC σ 2 3 ((σ 2 3) + 1)) 2 2 ((σ 2 2) + 1)) := keep_f kp (by decide)
                        refine lv_goto (tgt := 136) hx hb d_X10_skipBlanks_131 (by decide) ?_
                        refine lv_iinc (v := (x1 + 1)) (lv' := [(1, .int (x1 + 1)), (3, .int r2), (2, .int r1), (0, .ref (r 2))]) hx hb d_X10_skipBlanks_136 hl (k := 3) rfl rfl (by decide) rfl (fun ls hl => ?_)
                        refine lv_goto (tgt := 2) hx hb d_X10_skipBlanks_139 (by decide) ?_
                        exact ih2 _ (by show upm (x1 + 1) < _; have hN := N2; unfold upm at hN ⊢; have e0 := s_rng x1; have e1 : (1 : Int32).toInt = 1 := (by decide); obtain ⟨k2, e2⟩ := s_add x1 (1 : Int32); have e3 := s_rng (x1 + 1); have e4 := s_rng (σ 2 1); have e5 := inv.1; have e6 := s_nlt c_7; omega) (upC (upC σ 2 3 ((σ 2 3) + 1)) 2 2 ((σ 2 2) + 1)) (x1 + 1) _ _ _ rfl inv kp hP hD hS (lv_sub hl [3, 0] rfl)
            · -- not taken at 49
              refine lv_iload_n hx hb d_X10_skipBlanks_52 rfl (lv_at hl 0 rfl) ?_
              refine lv_bipush (v := 47) hx hb d_X10_skipBlanks_53 (by decide) ?_
              refine lv_icmp_ne (tgt := 68) hx hb d_X10_skipBlanks_55 (by decide) (fun c_55 => ?_) (fun c_55 => ?_)
              · -- taken at 55
                refine lv_aload_n hx hb d_X10_skipBlanks_68 rfl (lv_at hl 2 rfl) ?_
                refine s_calli (X := St) (w1 := fun τ => wB cy r τ) (va_runV (As := []) (rest := []) ⟨hx, hb, hml, hown, hg⟩ (s_X10_skipComment l D cy H.size w g r σ  inv ) (cwV 0 hg (gw_V m_825 m_827 ms_X10_skipComment m_2 m_828) rfl rfl rfl (by decide +kernel) ⟨(Nat.le_of_ble_eq_true rfl), (Nat.le_of_ble_eq_true rfl)⟩) (s_preVE (As := []) (gE_ok w g) hS hA hE hP hD hK hNW 1 rfl rfl) rfl rfl hl.1 rfl (lv_room (Nat.le_of_ble_eq_true rfl)) d_X10_skipBlanks_69 ⟨(Nat.le_of_ble_eq_true rfl), (Nat.le_of_ble_eq_true rfl)⟩) hP hD hS hA (fun r5 σ5 H locs hw hP hD hS => ?_)
                have hP : va_P D vwCl (wB cy r σ5) H := hP
                have hD : va_D A (wB cy r σ5) := hD
                have ik5 : Keep [(2, 2), (2, 3), (2, 4)] [13, 14, 15, 16] σ σ5 := hw.2.2
                have kp : Keep [(2, 2), (2, 3), (2, 4)] [13, 14, 15, 16] σ0 σ5 := keep_c kp ik5 (by decide) (by decide)
                have i5 : Inv σ5 := hw.2.1
                have hz5 : r5 = 0 ∨ r5 = 1 := hw.1
                refine lv_if_ne (tgt := 136) hx hb d_X10_skipBlanks_72 (by decide) (fun c_72 => ?_) (fun c_72 => ?_)
                · -- taken at 72
                  refine lv_iinc (v := (x1 + 1)) (lv' := [(1, .int (x1 + 1)), (3, .int r2), (2, .int r1), (0, .ref (r 2))]) hx hb d_X10_skipBlanks_136 hl (k := 3) rfl rfl (by decide) rfl (fun ls hl => ?_)
                  refine lv_goto (tgt := 2) hx hb d_X10_skipBlanks_139 (by decide) ?_
                  exact ih2 _ (by show upm (x1 + 1) < _; have hN := N2; unfold upm at hN ⊢; have e0 := s_rng x1; have e1 : (1 : Int32).toInt = 1 := (by decide); obtain ⟨k2, e2⟩ := s_add x1 (1 : Int32); have e3 := s_rng (x1 + 1); have e4 := s_rng (σ 2 1); have e5 := inv.1; have e6 := s_nlt c_7; omega) σ5 (x1 + 1) _ _ _ rfl i5 kp hP hD hS (lv_sub hl [3, 0] rfl)
                · -- not taken at 72
                  refine lv_iconst (v := 0) hx hb d_X10_skipBlanks_75 (by decide) ?_
                  refine W.widen (k := 0) (n := 0) (Nat.le_of_ble_eq_true rfl) (Nat.le_of_ble_eq_true rfl) ?_
                  exact k_zret (X := St) (w1 := fun τ => wB cy r τ) σ5 hx hb hr (k_nz (Or.inl rfl)) d_X10_skipBlanks_76 hlocks hP hK hD hS ⟨(Or.inl rfl), ⟨i5, kp⟩⟩
              · -- not taken at 55
                refine lv_aload_n hx hb d_X10_skipBlanks_58 rfl (lv_at hl 2 rfl) ?_
                refine s_calli (X := St) (w1 := fun τ => wB cy r τ) (va_runV (As := []) (rest := []) ⟨hx, hb, hml, hown, hg⟩ (s_X10_skipLine l D cy H.size w g r σ  inv ) (cwV 0 hg (gw_V m_810 m_812 ms_X10_skipLine m_2 m_813) rfl rfl rfl (by decide +kernel) ⟨(Nat.le_of_ble_eq_true rfl), (Nat.le_of_ble_eq_true rfl)⟩) (s_preVE (As := []) (gE_ok w g) hS hA hE hP hD hK hNW 1 rfl rfl) rfl rfl hl.1 rfl (lv_room (Nat.le_of_ble_eq_true rfl)) d_X10_skipBlanks_59 ⟨(Nat.le_of_ble_eq_true rfl), (Nat.le_of_ble_eq_true rfl)⟩) hP hD hS hA (fun r6 σ6 H locs hw hP hD hS => ?_)
                have hP : va_P D vwCl (wB cy r σ6) H := hP
                have hD : va_D A (wB cy r σ6) := hD
                have ik6 : Keep [(2, 2), (2, 4)] [13, 14, 15, 16] σ σ6 := hw.2.2
                have kp : Keep [(2, 2), (2, 3), (2, 4)] [13, 14, 15, 16] σ0 σ6 := keep_c kp ik6 (by decide) (by decide)
                have i6 : Inv σ6 := hw.2.1
                have hz6 : r6 = 0 ∨ r6 = 1 := hw.1
                refine lv_if_eq (tgt := 75) hx hb d_X10_skipBlanks_62 (by decide) (fun c_62 => ?_) (fun c_62 => ?_)
                · -- taken at 62
                  refine lv_iconst (v := 0) hx hb d_X10_skipBlanks_75 (by decide) ?_
                  refine W.widen (k := 0) (n := 0) (Nat.le_of_ble_eq_true rfl) (Nat.le_of_ble_eq_true rfl) ?_
                  exact k_zret (X := St) (w1 := fun τ => wB cy r τ) σ6 hx hb hr (k_nz (Or.inl rfl)) d_X10_skipBlanks_76 hlocks hP hK hD hS ⟨(Or.inl rfl), ⟨i6, kp⟩⟩
                · -- not taken at 62
                  refine lv_goto (tgt := 136) hx hb d_X10_skipBlanks_65 (by decide) ?_
                  refine lv_iinc (v := (x1 + 1)) (lv' := [(1, .int (x1 + 1)), (3, .int r2), (2, .int r1), (0, .ref (r 2))]) hx hb d_X10_skipBlanks_136 hl (k := 3) rfl rfl (by decide) rfl (fun ls hl => ?_)
                  refine lv_goto (tgt := 2) hx hb d_X10_skipBlanks_139 (by decide) ?_
                  exact ih2 _ (by show upm (x1 + 1) < _; have hN := N2; unfold upm at hN ⊢; have e0 := s_rng x1; have e1 : (1 : Int32).toInt = 1 := (by decide); obtain ⟨k2, e2⟩ := s_add x1 (1 : Int32); have e3 := s_rng (x1 + 1); have e4 := s_rng (σ 2 1); have e5 := inv.1; have e6 := s_nlt c_7; omega) σ6 (x1 + 1) _ _ _ rfl i6 kp hP hD hS (lv_sub hl [3, 0] rfl)
  have kp : Keep [(2, 2), (2, 3), (2, 4)] [13, 14, 15, 16] σ0 σ0 := keep_rf
  obtain ⟨H, hH⟩ : ∃ H, H = s.heap := ⟨_, rfl⟩
  rw [← hH] at hP
  have hS : va_S A s.heap H [] := by rw [hH]; exact va_S.rf
  have hgoal : W p l e ({ frames := 3, cells := 0, slots := 0, locals := 66 } : Room) s m (([.ref (r 2)] : List Value).toArray) below meth c H [] 0 0 (MQ below (va_Qi (S := St) (fun (v9 : Int32) (τ : St) => (v9 = 0 ∨ v9 = 1) ∧ (Inv τ ∧ Keep [(2, 2), (2, 3), (2, 4)] [13, 14, 15, 16] σ0 τ)) (fun τ => kPost D cy A (wB cy r τ)) A) (([.ref (r 2)] : List Value).toArray) s 0 0 A) (F0 m 0 ls []) := by
    refine lv_iconst (v := 0) hx hb d_X10_skipBlanks_0 (by decide) ?_
    refine lv_istore_n (lv' := [(1, .int 0), (0, .ref (r 2))]) hx hb d_X10_skipBlanks_1 rfl hl (by decide) rfl (fun ls hl => ?_)
    exact b2 _ σ0 (0 : Int32) _ _ _ rfl i0 kp hP hD hS (lv_sub hl [1, 0] rfl)
  rw [hH] at hgoal
  exact hgoal
