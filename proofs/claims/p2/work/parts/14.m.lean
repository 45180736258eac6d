set_option maxHeartbeats 4000000 in
set_option maxRecDepth 100000 in
theorem s_X11_finish (l : Launch) (D : va_G) (cy : Nat → ClassId) (sz : Nat) (w : Nat → Nat) (g : Nat → Nat → Int32) (r : Nat → Nat) (σ0 : St) (i0 : Inv σ0) : Met l y_X11_finish (Cond.code y_X11_finish b_X11_finish 6 none :: GW) ({ frames := 2, cells := 0, slots := 0, locals := 43 } : Room) (va_Pc [.ref (r 6)] (kPreE D cy sz (wB cy r σ0) (gE w g))) ((fun A : Nat → Prop => va_Qv (S := St) (fun (τ : St) => (Inv τ ∧ Keep [(6, 3), (6, 4)] [] σ0 τ)) (fun τ => kPost D cy A (wB cy r τ)) A) (va_A (wB cy r σ0) sz)) 0 0 (va_A (wB cy r σ0) sz) := by
  refine k_ofWE (Qc := fun A => va_Qv (S := St) (fun (τ : St) => (Inv τ ∧ Keep [(6, 3), (6, 4)] [] σ0 τ)) (fun τ => kPost D cy A (wB cy r τ)) A) (by decide) (Nat.le_of_ble_eq_true rfl) ?_
  intro p e s m below meth c A ls hx hb hr hml hown hlocks hin hg hNW hK hP hD hA hS hl hE
  have hl : lv_has ls 6 [(0, .ref (r 6))] := hl
  have hown : s.vm.findClass "LinkedUnits$Unit" = some m.cls := hown
  have b4 : ∀ (N : Nat) (σ : St) (x1 : Int32) (x2 : Int32) (H : Heap) (locs : List Loc) (ls : Array Slot), upm x2 = N → Inv σ → Keep [(6, 3), (6, 4)] [] σ0 σ → va_P D vwCl (wB cy r σ) H → va_D A (wB cy r σ) → va_S A s.heap H locs → lv_has ls 6 [(0, .ref (r 6)), (1, .int x1), (2, .int x2)] → W p l e ({ frames := 2, cells := 0, slots := 0, locals := 43 } : Room) s m (([.ref (r 6)] : List Value).toArray) below meth c H locs 0 0 (MQ below (va_Qv (S := St) (fun (τ : St) => (Inv τ ∧ Keep [(6, 3), (6, 4)] [] σ0 τ)) (fun τ => kPost D cy A (wB cy r τ)) A) (([.ref (r 6)] : List Value).toArray) s 0 0 A) (F0 m 4 ls []) := by
    intro M4
    induction M4 using Nat.strongRecOn with
    | _ M4 ih4 =>
      intro σ x1 x2 H locs ls N4 inv kp hP hD hS hl
      refine lv_iload_n hx hb d_X11_finish_4 rfl (lv_at hl 2 rfl) ?_
      refine lv_aload_n hx hb d_X11_finish_5 rfl (lv_at hl 0 rfl) ?_
      refine va_get (D := D) (ci := 11) (v := .int (σ 6 7)) (C := "LinkedUnits$Unit") (T := TX11) (N := 19) hx hb hg iwX11 hown hK hP 5 rfl rfl 7 (by decide) (hg _ m_327) (fun _ h9 => h9) rfl d_X11_finish_6 ?_
      refine lv_icmp_ge (tgt := 97) hx hb d_X11_finish_9 (by decide) (fun c_9 => ?_) (fun c_9 => ?_)
      · -- taken at 9
        refine lv_iload_n hx hb d_X11_finish_97 rfl (lv_at hl 1 rfl) ?_
        refine lv_if_lt (tgt := 107) hx hb d_X11_finish_98 (by decide) (fun c_98 => ?_) (fun c_98 => ?_)
        · -- taken at 98
          refine W.widen (k := 0) (n := 0) (Nat.le_of_ble_eq_true rfl) (Nat.le_of_ble_eq_true rfl) ?_
          exact k_vret (X := St) (w1 := fun τ => wB cy r τ) σ hx hb hr d_X11_finish_107 hlocks hP hK hD hS ⟨inv, kp⟩
        · -- not taken at 98
          refine lv_aload_n hx hb d_X11_finish_101 rfl (lv_at hl 0 rfl) ?_
          refine lv_iconst (v := 2) hx hb d_X11_finish_102 (by decide) ?_
          refine lv_iload_n hx hb d_X11_finish_103 rfl (lv_at hl 1 rfl) ?_
          refine s_callv (X := St) (w1 := fun τ => wB cy r τ) (va_runV (As := [.int 2, .int x1]) (rest := []) ⟨hx, hb, hml, hown, hg⟩ (s_X11_fail l D cy H.size w g r σ (2 : Int32) x1 inv ) (cwV 2 hg (gw_V m_1487 m_1092 ms_X11_fail m_10 m_1093) rfl rfl rfl (by decide +kernel) ⟨(Nat.le_of_ble_eq_true rfl), (Nat.le_of_ble_eq_true rfl)⟩) (s_preVE (As := [.int 2, .int x1]) (gE_ok w g) hS hA hE hP hD hK hNW 5 rfl rfl) rfl rfl hl.1 rfl (lv_room (Nat.le_of_ble_eq_true rfl)) d_X11_finish_104 ⟨(Nat.le_of_ble_eq_true rfl), (Nat.le_of_ble_eq_true rfl)⟩) hP hD hS hA (fun σ1 H locs hw hP hD hS => ?_)
          have hP : va_P D vwCl (wB cy r σ1) H := hP
          have hD : va_D A (wB cy r σ1) := hD
          have ik1 : Keep [(6, 3), (6, 4)] [] σ σ1 := hw.2
          have kp : Keep [(6, 3), (6, 4)] [] σ0 σ1 := keep_c kp ik1 (by decide) (by decide)
          have i1 : Inv σ1 := hw.1
          refine W.widen (k := 0) (n := 0) (Nat.le_of_ble_eq_true rfl) (Nat.le_of_ble_eq_true rfl) ?_
          exact k_vret (X := St) (w1 := fun τ => wB cy r τ) σ1 hx hb hr d_X11_finish_107 hlocks hP hK hD hS ⟨i1, kp⟩
      · -- not taken at 9
        refine lv_aload_n hx hb d_X11_finish_12 rfl (lv_at hl 0 rfl) ?_
        refine va_get (D := D) (ci := 11) (v := .ref (r 5)) (C := "LinkedUnits$Unit") (T := TX11) (N := 19) hx hb hg iwX11 hown hK hP 5 rfl rfl 1 (by decide) (hg _ m_309) (fun _ h9 => h9) rfl d_X11_finish_13 ?_
        refine va_getN (D := D) (ci := 8) (v := .int (σ 5 1)) (C := "LinkedUnits$Store") (T := TX8) (N := 18) hx hb hg iwX8 hown hK hP 4 rfl rfl 1 (by decide) (va_Nw.use rfl (hNW.1 _ nm_223)) (fun _ h9 => h9) rfl d_X11_finish_16 ?_
        refine lv_aload_n hx hb d_X11_finish_19 rfl (lv_at hl 0 rfl) ?_
        refine va_get (D := D) (ci := 11) (v := .int (σ 6 7)) (C := "LinkedUnits$Unit") (T := TX11) (N := 19) hx hb hg iwX11 hown hK hP 5 rfl rfl 7 (by decide) (hg _ m_327) (fun _ h9 => h9) rfl d_X11_finish_20 ?_
        refine lv_isub hx hb d_X11_finish_23 ?_
        refine lv_iload_n hx hb d_X11_finish_24 rfl (lv_at hl 2 rfl) ?_
        refine lv_iadd hx hb d_X11_finish_25 ?_
        refine lv_istore_n (lv' := [(3, .int (((σ 5 1) - (σ 6 7)) + x2)), (0, .ref (r 6)), (1, .int x1), (2, .int x2)]) hx hb d_X11_finish_26 rfl hl (by decide) rfl (fun ls hl => ?_)
        refine lv_aload_n hx hb d_X11_finish_27 rfl (lv_at hl 1 rfl) ?_
        refine va_get (D := D) (ci := 11) (v := .ref (r 39)) (C := "LinkedUnits$Unit") (T := TX11) (N := 19) hx hb hg iwX11 hown hK hP 5 rfl rfl 9 (by decide) (hg _ m_330) (fun _ h9 => h9) rfl d_X11_finish_28 ?_
        refine lv_iload_n hx hb d_X11_finish_31 rfl (lv_at hl 3 rfl) ?_
        refine s_call1 (x := ((r 39), .inl (cy 1, 100, .inl (σ 39)))) 38 rfl (va_runSN (As := [.ref (r 39), .int x2]) (rest := []) ⟨hx, hb, hml, hown, hg⟩ (c_at_any l D cy H.size (r 39) 100 (σ 39) x2 (Nat.le_of_ble_eq_true rfl)) ⟨(va_cnB 2 hg (gw_c m_949) rfl rfl rfl (hNW.1 _ nm_1112) (hg _ m_1) (by decide +kernel) ⟨(Nat.le_of_ble_eq_true rfl), (Nat.le_of_ble_eq_true rfl)⟩), hg _ m_948, trivial⟩ (s_pre (ws := [((r 39), .inl (cy 1, 100, .inl (σ 39)))]) (s_sub1 38 hP rfl) (s_subD 38 hD rfl) hK hNW) rfl rfl hl.1 rfl (lv_room (Nat.le_of_ble_eq_true rfl)) d_X11_finish_32 ⟨(Nat.le_of_ble_eq_true rfl), (Nat.le_of_ble_eq_true rfl)⟩) hP hD hS hA (fun r2 u2 H locs hw hP hD hS => ?_)
        have hP : va_P D vwCl (wB cy r σ) H := hP
        have hD : va_D A (wB cy r σ) := hD
        refine lv_istore (lv' := [(4, .int r2), (3, .int (((σ 5 1) - (σ 6 7)) + x2)), (0, .ref (r 6)), (1, .int x1), (2, .int x2)]) hx hb d_X11_finish_35 hl (by decide) rfl (fun ls hl => ?_)
        refine lv_aload_n hx hb d_X11_finish_37 rfl (lv_at hl 2 rfl) ?_
        refine va_get (D := D) (ci := 11) (v := .ref (r 5)) (C := "LinkedUnits$Unit") (T := TX11) (N := 19) hx hb hg iwX11 hown hK hP 5 rfl rfl 1 (by decide) (hg _ m_309) (fun _ h9 => h9) rfl d_X11_finish_38 ?_
        refine lv_iload_n hx hb d_X11_finish_41 rfl (lv_at hl 1 rfl) ?_
        refine lv_iconst (v := 2) hx hb d_X11_finish_42 (by decide) ?_
        refine s_calli (X := Unit) (w1 := fun _ => wB cy r σ) (va_runVN (As := [.int (((σ 5 1) - (σ 6 7)) + x2), .int 2]) (rest := []) ⟨hx, hb, hml, hown, hg⟩ (s_X8_is l D cy H.size w g r σ (((σ 5 1) - (σ 6 7)) + x2) (2 : Int32) inv ) ⟨(va_cnB 2 hg (gw_c m_1124) rfl rfl rfl (hNW.1 _ nm_1486) (hg _ m_5) (by decide +kernel) ⟨(Nat.le_of_ble_eq_true rfl), (Nat.le_of_ble_eq_true rfl)⟩), (hg _ m_1123), hg _ ms_X8_is⟩ (s_preVE (As := [.int (((σ 5 1) - (σ 6 7)) + x2), .int 2]) (gE_ok w g) hS hA hE hP hD hK hNW 4 rfl rfl) rfl rfl hl.1 rfl (lv_room (Nat.le_of_ble_eq_true rfl)) d_X11_finish_43 ⟨(Nat.le_of_ble_eq_true rfl), (Nat.le_of_ble_eq_true rfl)⟩) hP hD hS hA (fun r3 u3 H locs hw hP hD hS => ?_)
        have hP : va_P D vwCl (wB cy r σ) H := hP
        have hD : va_D A (wB cy r σ) := hD
        have hz3 : r3 = 0 ∨ r3 = 1 := hw.1
        refine lv_if_eq (tgt := 65) hx hb d_X11_finish_46 (by decide) (fun c_46 => ?_) (fun c_46 => ?_)
        · -- taken at 46
          refine lv_iconst (v := 0) hx hb d_X11_finish_65 (by decide) ?_
          refine lv_istore (lv' := [(5, .int 0), (4, .int r2), (3, .int (((σ 5 1) - (σ 6 7)) + x2)), (0, .ref (r 6)), (1, .int x1), (2, .int x2)]) hx hb d_X11_finish_66 hl (by decide) rfl (fun ls hl => ?_)
          refine lv_iload hx hb d_X11_finish_68 (lv_at hl 0 rfl) ?_
          refine lv_if_eq (tgt := 91) hx hb d_X11_finish_70 (by decide) (fun _ => ?_) (fun c_70 => False.elim (by revert c_70; decide))
          refine lv_iinc (v := (x2 + 1)) (lv' := [(2, .int (x2 + 1)), (5, .int 0), (4, .int r2), (3, .int (((σ 5 1) - (σ 6 7)) + x2)), (0, .ref (r 6)), (1, .int x1)]) hx hb d_X11_finish_91 hl (k := 5) rfl rfl (by decide) rfl (fun ls hl => ?_)
          refine lv_goto (tgt := 4) hx hb d_X11_finish_94 (by decide) ?_
          exact ih4 _ (Nat.lt_of_lt_of_eq (upm_lt c_9) N4) σ x1 (x2 + 1) _ _ _ rfl inv kp hP hD hS (lv_sub hl [4, 5, 0] rfl)
        · -- not taken at 46
          refine lv_aload_n hx hb d_X11_finish_49 rfl (lv_at hl 2 rfl) ?_
          refine va_get (D := D) (ci := 11) (v := .ref (r 5)) (C := "LinkedUnits$Unit") (T := TX11) (N := 19) hx hb hg iwX11 hown hK hP 5 rfl rfl 1 (by decide) (hg _ m_309) (fun _ h9 => h9) rfl d_X11_finish_50 ?_
          refine lv_iload_n hx hb d_X11_finish_53 rfl (lv_at hl 1 rfl) ?_
          refine lv_iconst (v := 4) hx hb d_X11_finish_54 (by decide) ?_
          refine s_calli (X := Unit) (w1 := fun _ => wB cy r σ) (va_runVN (As := [.int (((σ 5 1) - (σ 6 7)) + x2), .int 4]) (rest := []) ⟨hx, hb, hml, hown, hg⟩ (s_X8_is l D cy H.size w g r σ (((σ 5 1) - (σ 6 7)) + x2) (4 : Int32) inv ) ⟨(va_cnB 2 hg (gw_c m_1124) rfl rfl rfl (hNW.1 _ nm_1486) (hg _ m_5) (by decide +kernel) ⟨(Nat.le_of_ble_eq_true rfl), (Nat.le_of_ble_eq_true rfl)⟩), (hg _ m_1123), hg _ ms_X8_is⟩ (s_preVE (As := [.int (((σ 5 1) - (σ 6 7)) + x2), .int 4]) (gE_ok w g) hS hA hE hP hD hK hNW 4 rfl rfl) rfl rfl hl.1 rfl (lv_room (Nat.le_of_ble_eq_true rfl)) d_X11_finish_55 ⟨(Nat.le_of_ble_eq_true rfl), (Nat.le_of_ble_eq_true rfl)⟩) hP hD hS hA (fun r4 u4 H locs hw hP hD hS => ?_)
          have hP : va_P D vwCl (wB cy r σ) H := hP
          have hD : va_D A (wB cy r σ) := hD
          have hz4 : r4 = 0 ∨ r4 = 1 := hw.1
          refine lv_if_ne (tgt := 65) hx hb d_X11_finish_58 (by decide) (fun c_58 => ?_) (fun c_58 => ?_)
          · -- taken at 58
            refine lv_iconst (v := 0) hx hb d_X11_finish_65 (by decide) ?_
            refine lv_istore (lv' := [(5, .int 0), (4, .int r2), (3, .int (((σ 5 1) - (σ 6 7)) + x2)), (0, .ref (r 6)), (1, .int x1), (2, .int x2)]) hx hb d_X11_finish_66 hl (by decide) rfl (fun ls hl => ?_)
            refine lv_iload hx hb d_X11_finish_68 (lv_at hl 0 rfl) ?_
            refine lv_if_eq (tgt := 91) hx hb d_X11_finish_70 (by decide) (fun _ => ?_) (fun c_70 => False.elim (by revert c_70; decide))
            refine lv_iinc (v := (x2 + 1)) (lv' := [(2, .int (x2 + 1)), (5, .int 0), (4, .int r2), (3, .int (((σ 5 1) - (σ 6 7)) + x2)), (0, .ref (r 6)), (1, .int x1)]) hx hb d_X11_finish_91 hl (k := 5) rfl rfl (by decide) rfl (fun ls hl => ?_)
            refine lv_goto (tgt := 4) hx hb d_X11_finish_94 (by decide) ?_
            exact ih4 _ (Nat.lt_of_lt_of_eq (upm_lt c_9) N4) σ x1 (x2 + 1) _ _ _ rfl inv kp hP hD hS (lv_sub hl [4, 5, 0] rfl)
          · -- not taken at 58
            refine lv_iconst (v := 1) hx hb d_X11_finish_61 (by decide) ?_
            refine lv_goto (tgt := 66) hx hb d_X11_finish_62 (by decide) ?_
            refine lv_istore (lv' := [(5, .int 1), (4, .int r2), (3, .int (((σ 5 1) - (σ 6 7)) + x2)), (0, .ref (r 6)), (1, .int x1), (2, .int x2)]) hx hb d_X11_finish_66 hl (by decide) rfl (fun ls hl => ?_)
            refine lv_iload hx hb d_X11_finish_68 (lv_at hl 0 rfl) ?_
            refine lv_if_eq (tgt := 91) hx hb d_X11_finish_70 (by decide) (fun c_70 => absurd c_70 (by decide)) (fun _ => ?_)
            refine lv_iload hx hb d_X11_finish_73 (lv_at hl 1 rfl) ?_
            refine lv_if_lt (tgt := 91) hx hb d_X11_finish_75 (by decide) (fun c_75 => ?_) (fun c_75 => ?_)
            · -- taken at 75
              refine lv_iinc (v := (x2 + 1)) (lv' := [(2, .int (x2 + 1)), (5, .int 1), (4, .int r2), (3, .int (((σ 5 1) - (σ 6 7)) + x2)), (0, .ref (r 6)), (1, .int x1)]) hx hb d_X11_finish_91 hl (k := 5) rfl rfl (by decide) rfl (fun ls hl => ?_)
              refine lv_goto (tgt := 4) hx hb d_X11_finish_94 (by decide) ?_
              exact ih4 _ (Nat.lt_of_lt_of_eq (upm_lt c_9) N4) σ x1 (x2 + 1) _ _ _ rfl inv kp hP hD hS (lv_sub hl [4, 5, 0] rfl)
            · -- not taken at 75
              refine lv_iload_n hx hb d_X11_finish_78 rfl (lv_at hl 4 rfl) ?_
              refine lv_if_lt (tgt := 88) hx hb d_X11_finish_79 (by decide) (fun c_79 => ?_) (fun c_79 => ?_)
              · -- taken at 79
                refine lv_iload hx hb d_X11_finish_88 (lv_at hl 1 rfl) ?_
                refine lv_istore_n (lv' := [(1, .int r2), (5, .int 1), (4, .int r2), (3, .int (((σ 5 1) - (σ 6 7)) + x2)), (0, .ref (r 6)), (2, .int x2)]) hx hb d_X11_finish_90 rfl hl (by decide) rfl (fun ls hl => ?_)
                refine lv_iinc (v := (x2 + 1)) (lv' := [(2, .int (x2 + 1)), (1, .int r2), (5, .int 1), (4, .int r2), (3, .int (((σ 5 1) - (σ 6 7)) + x2)), (0, .ref (r 6))]) hx hb d_X11_finish_91 hl (k := 5) rfl rfl (by decide) rfl (fun ls hl => ?_)
                refine lv_goto (tgt := 4) hx hb d_X11_finish_94 (by decide) ?_
                exact ih4 _ (Nat.lt_of_lt_of_eq (upm_lt c_9) N4) σ r2 (x2 + 1) _ _ _ rfl inv kp hP hD hS (lv_sub hl [5, 1, 0] rfl)
              · -- not taken at 79
                refine lv_iload hx hb d_X11_finish_82 (lv_at hl 1 rfl) ?_
                refine lv_iload_n hx hb d_X11_finish_84 rfl (lv_at hl 4 rfl) ?_
                refine lv_icmp_ge (tgt := 91) hx hb d_X11_finish_85 (by decide) (fun c_85 => ?_) (fun c_85 => ?_)
                · -- taken at 85
                  refine lv_iinc (v := (x2 + 1)) (lv' := [(2, .int (x2 + 1)), (5, .int 1), (4, .int r2), (3, .int (((σ 5 1) - (σ 6 7)) + x2)), (0, .ref (r 6)), (1, .int x1)]) hx hb d_X11_finish_91 hl (k := 5) rfl rfl (by decide) rfl (fun ls hl => ?_)
                  refine lv_goto (tgt := 4) hx hb d_X11_finish_94 (by decide) ?_
                  exact ih4 _ (Nat.lt_of_lt_of_eq (upm_lt c_9) N4) σ x1 (x2 + 1) _ _ _ rfl inv kp hP hD hS (lv_sub hl [4, 5, 0] rfl)
                · -- not taken at 85
                  refine lv_iload hx hb d_X11_finish_88 (lv_at hl 1 rfl) ?_
                  refine lv_istore_n (lv' := [(1, .int r2), (5, .int 1), (4, .int r2), (3, .int (((σ 5 1) - (σ 6 7)) + x2)), (0, .ref (r 6)), (2, .int x2)]) hx hb d_X11_finish_90 rfl hl (by decide) rfl (fun ls hl => ?_)
                  refine lv_iinc (v := (x2 + 1)) (lv' := [(2, .int (x2 + 1)), (1, .int r2), (5, .int 1), (4, .int r2), (3, .int (((σ 5 1) - (σ 6 7)) + x2)), (0, .ref (r 6))]) hx hb d_X11_finish_91 hl (k := 5) rfl rfl (by decide) rfl (fun ls hl => ?_)
                  refine lv_goto (tgt := 4) hx hb d_X11_finish_94 (by decide) ?_
                  exact ih4 _ (Nat.lt_of_lt_of_eq (upm_lt c_9) N4) σ r2 (x2 + 1) _ _ _ rfl inv kp hP hD hS (lv_sub hl [5, 1, 0] rfl)
  have kp : Keep [(6, 3), (6, 4)] [] σ0 σ0 := keep_rf
  obtain ⟨H, hH⟩ : ∃ H, H = s.heap := ⟨_, rfl⟩
  rw [← hH] at hP
  have hS : va_S A s.heap H [] := by rw [hH]; exact va_S.rf
  have hgoal : W p l e ({ frames := 2, cells := 0, slots := 0, locals := 43 } : Room) s m (([.ref (r 6)] : List Value).toArray) below meth c H [] 0 0 (MQ below (va_Qv (S := St) (fun (τ : St) => (Inv τ ∧ Keep [(6, 3), (6, 4)] [] σ0 τ)) (fun τ => kPost D cy A (wB cy r τ)) A) (([.ref (r 6)] : List Value).toArray) s 0 0 A) (F0 m 0 ls []) := by
    refine lv_iconst (v := (-1)) hx hb d_X11_finish_0 (by decide) ?_
    refine lv_istore_n (lv' := [(1, .int (-1)), (0, .ref (r 6))]) hx hb d_X11_finish_1 rfl hl (by decide) rfl (fun ls hl => ?_)
    refine lv_iconst (v := 0) hx hb d_X11_finish_2 (by decide) ?_
    refine lv_istore_n (lv' := [(2, .int 0), (1, .int (-1)), (0, .ref (r 6))]) hx hb d_X11_finish_3 rfl hl (by decide) rfl (fun ls hl => ?_)
    exact b4 _ σ0 ((-1) : Int32) (0 : Int32) _ _ _ rfl i0 kp hP hD hS (lv_sub hl [2, 1, 0] rfl)
  rw [hH] at hgoal
  exact hgoal
set_option maxHeartbeats 4000000 in
set_option maxRecDepth 100000 in
theorem s_X8_nameStart (l : Launch) (D : va_G) (cy : Nat → ClassId) (sz : Nat) (w : Nat → Nat) (g : Nat → Nat → Int32) (r : Nat → Nat) (σ0 : St) (a1 : Int32) (i0 : Inv σ0) : Met l y_X8_nameStart (Cond.code y_X8_nameStart b_X8_nameStart 2 (some .int) :: GW) ({ frames := 1, cells := 0, slots := 0, locals := 21 } : Room) (va_Pc [.ref (r 5), .int a1] (kPreE D cy sz (wB cy r σ0) (gE w g))) ((fun A : Nat → Prop => va_Qi (S := Unit) (fun (_ : Int32) (_ : Unit) => True) (fun _ => kPost D cy A (wB cy r σ0)) A) (va_A (wB cy r σ0) sz)) 0 0 (va_A (wB cy r σ0) sz) := by
  refine k_ofWE (Qc := fun A => va_Qi (S := Unit) (fun (_ : Int32) (_ : Unit) => True) (fun _ => kPost D cy A (wB cy r σ0)) A) (by decide) (Nat.le_of_ble_eq_true rfl) ?_
  intro p e s m below meth c A ls hx hb hr hml hown hlocks hin hg hNW hK hP hD hA hS hl hE
  have hl : lv_has ls 2 [(0, .ref (r 5)), (1, .int a1)] := hl
  have hown : s.vm.findClass "LinkedUnits$Store" = some m.cls := hown
  obtain ⟨H, hH⟩ : ∃ H, H = s.heap := ⟨_, rfl⟩
  rw [← hH] at hP
  have hS : va_S A s.heap H [] := by rw [hH]; exact va_S.rf
  have hgoal : W p l e ({ frames := 1, cells := 0, slots := 0, locals := 21 } : Room) s m (([.ref (r 5), .int a1] : List Value).toArray) below meth c H [] 0 0 (MQ below (va_Qi (S := Unit) (fun (_ : Int32) (_ : Unit) => True) (fun _ => kPost D cy A (wB cy r σ0)) A) (([.ref (r 5), .int a1] : List Value).toArray) s 0 0 A) (F0 m 0 ls []) := by
    refine lv_aload_n hx hb d_X8_nameStart_0 rfl (lv_at hl 0 rfl) ?_
    refine va_get (D := D) (ci := 8) (v := .ref (r 29)) (C := "LinkedUnits$Store") (T := TX8) (N := 18) hx hb hg iwX8 hown hK hP 4 rfl rfl 6 (by decide) (hg _ m_237) (fun _ h9 => h9) rfl d_X8_nameStart_1 ?_
    refine lv_iload_n hx hb d_X8_nameStart_4 rfl (lv_at hl 1 rfl) ?_
    refine lv_iconst (v := 1) hx hb d_X8_nameStart_5 (by decide) ?_
    refine lv_isub hx hb d_X8_nameStart_6 ?_
    refine s_call1 (x := ((r 29), .inl (cy 1, 10100, .inl (σ0 29)))) 28 rfl (va_runSN (As := [.ref (r 29), .int (a1 - 1)]) (rest := []) ⟨hx, hb, hml, hown, hg⟩ (c_at_any l D cy H.size (r 29) 10100 (σ0 29) (a1 - 1) (Nat.le_of_ble_eq_true rfl)) ⟨(va_cnB 2 hg (gw_c m_949) rfl rfl rfl (hNW.1 _ nm_1125) (hg _ m_1) (by decide +kernel) ⟨(Nat.le_of_ble_eq_true rfl), (Nat.le_of_ble_eq_true rfl)⟩), hg _ m_948, trivial⟩ (s_pre (ws := [((r 29), .inl (cy 1, 10100, .inl (σ0 29)))]) (s_sub1 28 hP rfl) (s_subD 28 hD rfl) hK hNW) rfl rfl hl.1 rfl (lv_room (Nat.le_of_ble_eq_true rfl)) d_X8_nameStart_7 ⟨(Nat.le_of_ble_eq_true rfl), (Nat.le_of_ble_eq_true rfl)⟩) hP hD hS hA (fun r1 u1 H locs hw hP hD hS => ?_)
    have hP : va_P D vwCl (wB cy r σ0) H := hP
    have hD : va_D A (wB cy r σ0) := hD
    refine W.widen (k := 0) (n := 0) (Nat.le_of_ble_eq_true rfl) (Nat.le_of_ble_eq_true rfl) ?_
    exact k_iret (X := Unit) (w1 := fun _ => wB cy r σ0) () hx hb hr d_X8_nameStart_10 hlocks hP hK hD hS trivial
  rw [hH] at hgoal
  exact hgoal
set_option maxHeartbeats 4000000 in
set_option maxRecDepth 100000 in
theorem s_X8_keep (l : Launch) (D : va_G) (cy : Nat → ClassId) (sz : Nat) (w : Nat → Nat) (g : Nat → Nat → Int32) (r : Nat → Nat) (σ0 : St) (a1 : Int32) (i0 : Inv σ0) : Met l y_X8_keep (Cond.code y_X8_keep b_X8_keep 2 (some .int) :: GW) ({ frames := 1, cells := 0, slots := 0, locals := 22 } : Room) (va_Pc [.ref (r 5), .int a1] (kPreE D cy sz (wB cy r σ0) (gE w g))) ((fun A : Nat → Prop => va_Qi (S := St) (fun (_ : Int32) (τ : St) => (Inv τ ∧ Keep [(5, 13)] [34, 35, 36, 37] σ0 τ)) (fun τ => kPost D cy A (wB cy r τ)) A) (va_A (wB cy r σ0) sz)) 0 0 (va_A (wB cy r σ0) sz) := by
  refine k_ofWE (Qc := fun A => va_Qi (S := St) (fun (_ : Int32) (τ : St) => (Inv τ ∧ Keep [(5, 13)] [34, 35, 36, 37] σ0 τ)) (fun τ => kPost D cy A (wB cy r τ)) A) (by decide) (Nat.le_of_ble_eq_true rfl) ?_
  intro p e s m below meth c A ls hx hb hr hml hown hlocks hin hg hNW hK hP hD hA hS hl hE
  have hl : lv_has ls 2 [(0, .ref (r 5)), (1, .int a1)] := hl
  have hown : s.vm.findClass "LinkedUnits$Store" = some m.cls := hown
  have kp : Keep [(5, 13)] [34, 35, 36, 37] σ0 σ0 := keep_rf
  obtain ⟨H, hH⟩ : ∃ H, H = s.heap := ⟨_, rfl⟩
  rw [← hH] at hP
  have hS : va_S A s.heap H [] := by rw [hH]; exact va_S.rf
  have hgoal : W p l e ({ frames := 1, cells := 0, slots := 0, locals := 22 } : Room) s m (([.ref (r 5), .int a1] : List Value).toArray) below meth c H [] 0 0 (MQ below (va_Qi (S := St) (fun (_ : Int32) (τ : St) => (Inv τ ∧ Keep [(5, 13)] [34, 35, 36, 37] σ0 τ)) (fun τ => kPost D cy A (wB cy r τ)) A) (([.ref (r 5), .int a1] : List Value).toArray) s 0 0 A) (F0 m 0 ls []) := by
    refine lv_aload_n hx hb d_X8_keep_0 rfl (lv_at hl 0 rfl) ?_
    refine lv_dup hx hb d_X8_keep_1 rfl ?_
    refine va_get (D := D) (ci := 8) (v := .int (σ0 5 13)) (C := "LinkedUnits$Store") (T := TX8) (N := 18) hx hb hg iwX8 hown hK hP 4 rfl rfl 13 (by decide) (hg _ m_249) (fun _ h9 => h9) rfl d_X8_keep_2 ?_
    refine lv_iconst (v := 1) hx hb d_X8_keep_5 (by decide) ?_
    refine lv_iadd hx hb d_X8_keep_6 ?_
    refine va_put (D := D) (ci := 8) (v := .int ((σ0 5 13) + 1)) (ty := .int) (C := "LinkedUnits$Store") (T := TX8) (N := 18) hx hb hg iwX8 tyX8 tyX8_ok nmX8 hown hK hP hD hS 4 rfl rfl 13 (by decide) (hg _ m_249) (fun _ h9 => h9) rfl (by decide +kernel) rfl rfl (Nat.le_of_ble_eq_true rfl) d_X8_keep_7 (fun H locs hP hD hS => ?_)
    have hP : va_P D vwCl (wB cy r (upC σ0 5 13 ((σ0 5 13) + 1))) H := hP
    have hD : va_D A (wB cy r (upC σ0 5 13 ((σ0 5 13) + 1))) := hD
    have kp : Keep [(5, 13)] [34, 35, 36, 37] σ0 (upC σ0 5 13 ((σ0 5 13) + 1)) := keep_f kp (by decide)
    have j1 : Inv (upC σ0 5 13 ((σ0 5 13) + 1)) := ⟨i0.1, i0.2.1, i0.2.2.1, i0.2.2.2.1, (by show 0 ≤ ((σ0 5 13) + 1).toInt ∧ ((σ0 5 13) + 1).toInt ≤ 100; have e0 := s_rng (σ0 5 13); have e1 := i0.2.2.2.2; have e2 : (1 : Int32).toInt = 1 := (by decide); obtain ⟨k3, e3⟩ := s_add (σ0 5 13) (1 : Int32); have e4 := s_rng ((σ0 5 13) + 1); omega)⟩
    refine lv_aload_n hx hb d_X8_keep_10 rfl (lv_at hl 0 rfl) ?_
    refine va_get (D := D) (ci := 8) (v := .ref (r 34)) (C := "LinkedUnits$Store") (T := TX8) (N := 18) hx hb hg iwX8 hown hK hP 4 rfl rfl 14 (by decide) (hg _ m_252) (fun _ h9 => h9) rfl d_X8_keep_11 ?_
    refine lv_aload_n hx hb d_X8_keep_14 rfl (lv_at hl 0 rfl) ?_
    refine va_get (D := D) (ci := 8) (v := .int ((σ0 5 13) + 1)) (C := "LinkedUnits$Store") (T := TX8) (N := 18) hx hb hg iwX8 hown hK hP 4 rfl rfl 13 (by decide) (hg _ m_249) (fun _ h9 => h9) rfl d_X8_keep_15 ?_
    refine lv_aload_n hx hb d_X8_keep_18 rfl (lv_at hl 0 rfl) ?_
    refine va_get (D := D) (ci := 8) (v := .int (σ0 5 1)) (C := "LinkedUnits$Store") (T := TX8) (N := 18) hx hb hg iwX8 hown hK hP 4 rfl rfl 1 (by decide) (hg _ m_222) (fun _ h9 => h9) rfl d_X8_keep_19 ?_
    refine s_set1 (X := Nat → Int32) (w := fun g => .inl (cy 1, 101, .inl g)) 33 rfl (va_runSN (As := [.ref (r 34), .int ((σ0 5 13) + 1), .int (σ0 5 1)]) (rest := []) ⟨hx, hb, hml, hown, hg⟩ (c_set_any l D cy H.size (r 34) 101 ((upC σ0 5 13 ((σ0 5 13) + 1)) 34) ((σ0 5 13) + 1) (σ0 5 1) (Nat.le_of_ble_eq_true rfl)) ⟨(va_cnB 3 hg (gw_c m_981) rfl rfl rfl (hNW.1 _ nm_1098) (hg _ m_1) (by decide +kernel) ⟨(Nat.le_of_ble_eq_true rfl), (Nat.le_of_ble_eq_true rfl)⟩), hg _ m_980, trivial⟩ (s_pre (ws := [((r 34), .inl (cy 1, 101, .inl ((upC σ0 5 13 ((σ0 5 13) + 1)) 34)))]) (s_sub1 33 hP rfl) (s_subD 33 hD rfl) hK hNW) rfl rfl hl.1 rfl (lv_room (Nat.le_of_ble_eq_true rfl)) d_X8_keep_22 ⟨(Nat.le_of_ble_eq_true rfl), (Nat.le_of_ble_eq_true rfl)⟩) hP hD hS hA (fun g2 H locs hw hP hD hS => ?_)
    have hP : va_P D vwCl (wB cy r (upF (upC σ0 5 13 ((σ0 5 13) + 1)) 34 g2)) H := hP
    have hD : va_D A (wB cy r (upF (upC σ0 5 13 ((σ0 5 13) + 1)) 34 g2)) := hD
    have kp : Keep [(5, 13)] [34, 35, 36, 37] σ0 (upF (upC σ0 5 13 ((σ0 5 13) + 1)) 34 g2) := keep_a kp (by decide)
    refine lv_aload_n hx hb d_X8_keep_25 rfl (lv_at hl 0 rfl) ?_
    refine va_get (D := D) (ci := 8) (v := .ref (r 35)) (C := "LinkedUnits$Store") (T := TX8) (N := 18) hx hb hg iwX8 hown hK hP 4 rfl rfl 15 (by decide) (hg _ m_254) (fun _ h9 => h9) rfl d_X8_keep_26 ?_
    refine lv_aload_n hx hb d_X8_keep_29 rfl (lv_at hl 0 rfl) ?_
    refine va_get (D := D) (ci := 8) (v := .int ((σ0 5 13) + 1)) (C := "LinkedUnits$Store") (T := TX8) (N := 18) hx hb hg iwX8 hown hK hP 4 rfl rfl 13 (by decide) (hg _ m_249) (fun _ h9 => h9) rfl d_X8_keep_30 ?_
    refine lv_aload_n hx hb d_X8_keep_33 rfl (lv_at hl 0 rfl) ?_
    refine va_get (D := D) (ci := 8) (v := .int (σ0 5 9)) (C := "LinkedUnits$Store") (T := TX8) (N := 18) hx hb hg iwX8 hown hK hP 4 rfl rfl 9 (by decide) (hg _ m_242) (fun _ h9 => h9) rfl d_X8_keep_34 ?_
    refine s_set1 (X := Nat → Int32) (w := fun g => .inl (cy 1, 101, .inl g)) 34 rfl (va_runSN (As := [.ref (r 35), .int ((σ0 5 13) + 1), .int (σ0 5 9)]) (rest := []) ⟨hx, hb, hml, hown, hg⟩ (c_set_any l D cy H.size (r 35) 101 ((upF (upC σ0 5 13 ((σ0 5 13) + 1)) 34 g2) 35) ((σ0 5 13) + 1) (σ0 5 9) (Nat.le_of_ble_eq_true rfl)) ⟨(va_cnB 3 hg (gw_c m_981) rfl rfl rfl (hNW.1 _ nm_1098) (hg _ m_1) (by decide +kernel) ⟨(Nat.le_of_ble_eq_true rfl), (Nat.le_of_ble_eq_true rfl)⟩), hg _ m_980, trivial⟩ (s_pre (ws := [((r 35), .inl (cy 1, 101, .inl ((upF (upC σ0 5 13 ((σ0 5 13) + 1)) 34 g2) 35)))]) (s_sub1 34 hP rfl) (s_subD 34 hD rfl) hK hNW) rfl rfl hl.1 rfl (lv_room (Nat.le_of_ble_eq_true rfl)) d_X8_keep_37 ⟨(Nat.le_of_ble_eq_true rfl), (Nat.le_of_ble_eq_true rfl)⟩) hP hD hS hA (fun g3 H locs hw hP hD hS => ?_)
    have hP : va_P D vwCl (wB cy r (upF (upF (upC σ0 5 13 ((σ0 5 13) + 1)) 34 g2) 35 g3)) H := hP
    have hD : va_D A (wB cy r (upF (upF (upC σ0 5 13 ((σ0 5 13) + 1)) 34 g2) 35 g3)) := hD
    have kp : Keep [(5, 13)] [34, 35, 36, 37] σ0 (upF (upF (upC σ0 5 13 ((σ0 5 13) + 1)) 34 g2) 35 g3) := keep_a kp (by decide)
    refine lv_aload_n hx hb d_X8_keep_40 rfl (lv_at hl 0 rfl) ?_
    refine va_get (D := D) (ci := 8) (v := .ref (r 36)) (C := "LinkedUnits$Store") (T := TX8) (N := 18) hx hb hg iwX8 hown hK hP 4 rfl rfl 16 (by decide) (hg _ m_256) (fun _ h9 => h9) rfl d_X8_keep_41 ?_
    refine lv_aload_n hx hb d_X8_keep_44 rfl (lv_at hl 0 rfl) ?_
    refine va_get (D := D) (ci := 8) (v := .int ((σ0 5 13) + 1)) (C := "LinkedUnits$Store") (T := TX8) (N := 18) hx hb hg iwX8 hown hK hP 4 rfl rfl 13 (by decide) (hg _ m_249) (fun _ h9 => h9) rfl d_X8_keep_45 ?_
    refine lv_aload_n hx hb d_X8_keep_48 rfl (lv_at hl 0 rfl) ?_
    refine va_get (D := D) (ci := 8) (v := .ref (r 4)) (C := "LinkedUnits$Store") (T := TX8) (N := 18) hx hb hg iwX8 hown hK hP 4 rfl rfl 0 (by decide) (hg _ m_221) (fun _ h9 => h9) rfl d_X8_keep_49 ?_
    refine va_getN (D := D) (ci := 0) (v := .int (σ0 4 1)) (C := "LinkedUnits$Code") (T := TX0) (N := 2) hx hb hg iwX0 hown hK hP 3 rfl rfl 1 (by decide) (va_Nw.use rfl (hNW.1 _ nm_156)) (fun _ h9 => h9) rfl d_X8_keep_52 ?_
    refine s_set1 (X := Nat → Int32) (w := fun g => .inl (cy 1, 101, .inl g)) 35 rfl (va_runSN (As := [.ref (r 36), .int ((σ0 5 13) + 1), .int (σ0 4 1)]) (rest := []) ⟨hx, hb, hml, hown, hg⟩ (c_set_any l D cy H.size (r 36) 101 ((upF (upF (upC σ0 5 13 ((σ0 5 13) + 1)) 34 g2) 35 g3) 36) ((σ0 5 13) + 1) (σ0 4 1) (Nat.le_of_ble_eq_true rfl)) ⟨(va_cnB 3 hg (gw_c m_981) rfl rfl rfl (hNW.1 _ nm_1098) (hg _ m_1) (by decide +kernel) ⟨(Nat.le_of_ble_eq_true rfl), (Nat.le_of_ble_eq_true rfl)⟩), hg _ m_980, trivial⟩ (s_pre (ws := [((r 36), .inl (cy 1, 101, .inl ((upF (upF (upC σ0 5 13 ((σ0 5 13) + 1)) 34 g2) 35 g3) 36)))]) (s_sub1 35 hP rfl) (s_subD 35 hD rfl) hK hNW) rfl rfl hl.1 rfl (lv_room (Nat.le_of_ble_eq_true rfl)) d_X8_keep_55 ⟨(Nat.le_of_ble_eq_true rfl), (Nat.le_of_ble_eq_true rfl)⟩) hP hD hS hA (fun g4 H locs hw hP hD hS => ?_)
    have hP : va_P D vwCl (wB cy r (upF (upF (upF (upC σ0 5 13 ((σ0 5 13) + 1)) 34 g2) 35 g3) 36 g4)) H := hP
    have hD : va_D A (wB cy r (upF (upF (upF (upC σ0 5 13 ((σ0 5 13) + 1)) 34 g2) 35 g3) 36 g4)) := hD
    have kp : Keep [(5, 13)] [34, 35, 36, 37] σ0 (upF (upF (upF (upC σ0 5 13 ((σ0 5 13) + 1)) 34 g2) 35 g3) 36 g4) := keep_a kp (by decide)
    refine lv_aload_n hx hb d_X8_keep_58 rfl (lv_at hl 0 rfl) ?_
    refine va_get (D := D) (ci := 8) (v := .ref (r 37)) (C := "LinkedUnits$Store") (T := TX8) (N := 18) hx hb hg iwX8 hown hK hP 4 rfl rfl 17 (by decide) (hg _ m_257) (fun _ h9 => h9) rfl d_X8_keep_59 ?_
    refine lv_aload_n hx hb d_X8_keep_62 rfl (lv_at hl 0 rfl) ?_
    refine va_get (D := D) (ci := 8) (v := .int ((σ0 5 13) + 1)) (C := "LinkedUnits$Store") (T := TX8) (N := 18) hx hb hg iwX8 hown hK hP 4 rfl rfl 13 (by decide) (hg _ m_249) (fun _ h9 => h9) rfl d_X8_keep_63 ?_
    refine lv_iload_n hx hb d_X8_keep_66 rfl (lv_at hl 1 rfl) ?_
    refine s_set1 (X := Nat → Int32) (w := fun g => .inl (cy 1, 101, .inl g)) 36 rfl (va_runSN (As := [.ref (r 37), .int ((σ0 5 13) + 1), .int a1]) (rest := []) ⟨hx, hb, hml, hown, hg⟩ (c_set_any l D cy H.size (r 37) 101 ((upF (upF (upF (upC σ0 5 13 ((σ0 5 13) + 1)) 34 g2) 35 g3) 36 g4) 37) ((σ0 5 13) + 1) a1 (Nat.le_of_ble_eq_true rfl)) ⟨(va_cnB 3 hg (gw_c m_981) rfl rfl rfl (hNW.1 _ nm_1098) (hg _ m_1) (by decide +kernel) ⟨(Nat.le_of_ble_eq_true rfl), (Nat.le_of_ble_eq_true rfl)⟩), hg _ m_980, trivial⟩ (s_pre (ws := [((r 37), .inl (cy 1, 101, .inl ((upF (upF (upF (upC σ0 5 13 ((σ0 5 13) + 1)) 34 g2) 35 g3) 36 g4) 37)))]) (s_sub1 36 hP rfl) (s_subD 36 hD rfl) hK hNW) rfl rfl hl.1 rfl (lv_room (Nat.le_of_ble_eq_true rfl)) d_X8_keep_67 ⟨(Nat.le_of_ble_eq_true rfl), (Nat.le_of_ble_eq_true rfl)⟩) hP hD hS hA (fun g5 H locs hw hP hD hS => ?_)
    have hP : va_P D vwCl (wB cy r (upF (upF (upF (upF (upC σ0 5 13 ((σ0 5 13) + 1)) 34 g2) 35 g3) 36 g4) 37 g5)) H := hP
    have hD : va_D A (wB cy r (upF (upF (upF (upF (upC σ0 5 13 ((σ0 5 13) + 1)) 34 g2) 35 g3) 36 g4) 37 g5)) := hD
    have kp : Keep [(5, 13)] [34, 35, 36, 37] σ0 (upF (upF (upF (upF (upC σ0 5 13 ((σ0 5 13) + 1)) 34 g2) 35 g3) 36 g4) 37 g5) := keep_a kp (by decide)
    refine lv_aload_n hx hb d_X8_keep_70 rfl (lv_at hl 0 rfl) ?_
    refine va_get (D := D) (ci := 8) (v := .int ((σ0 5 13) + 1)) (C := "LinkedUnits$Store") (T := TX8) (N := 18) hx hb hg iwX8 hown hK hP 4 rfl rfl 13 (by decide) (hg _ m_249) (fun _ h9 => h9) rfl d_X8_keep_71 ?_
    refine W.widen (k := 0) (n := 0) (Nat.le_of_ble_eq_true rfl) (Nat.le_of_ble_eq_true rfl) ?_
    exact k_iret (X := St) (w1 := fun τ => wB cy r τ) (upF (upF (upF (upF (upC σ0 5 13 ((σ0 5 13) + 1)) 34 g2) 35 g3) 36 g4) 37 g5) hx hb hr d_X8_keep_74 hlocks hP hK hD hS ⟨j1, kp⟩
  rw [hH] at hgoal
  exact hgoal
set_option maxHeartbeats 4000000 in
set_option maxRecDepth 100000 in
theorem s_X8_has (l : Launch) (D : va_G) (cy : Nat → ClassId) (sz : Nat) (w : Nat → Nat) (g : Nat → Nat → Int32) (r : Nat → Nat) (σ0 : St) (a1 : Int32) (i0 : Inv σ0) : Met l y_X8_has (Cond.code y_X8_has b_X8_has 2 (some .boolean) :: GW) ({ frames := 0, cells := 0, slots := 0, locals := 0 } : Room) (va_Pc [.ref (r 5), .int a1] (kPreE D cy sz (wB cy r σ0) (gE w g))) ((fun A : Nat → Prop => va_Qi (S := Unit) (fun (v9 : Int32) (_ : Unit) => (v9 = 0 ∨ v9 = 1) ∧ True) (fun _ => kPost D cy A (wB cy r σ0)) A) (va_A (wB cy r σ0) sz)) 0 0 (va_A (wB cy r σ0) sz) := by
  refine k_ofWE (Qc := fun A => va_Qi (S := Unit) (fun (v9 : Int32) (_ : Unit) => (v9 = 0 ∨ v9 = 1) ∧ True) (fun _ => kPost D cy A (wB cy r σ0)) A) (by decide) (Nat.le_of_ble_eq_true rfl) ?_
  intro p e s m below meth c A ls hx hb hr hml hown hlocks hin hg hNW hK hP hD hA hS hl hE
  have hl : lv_has ls 2 [(0, .ref (r 5)), (1, .int a1)] := hl
  have hown : s.vm.findClass "LinkedUnits$Store" = some m.cls := hown
  obtain ⟨H, hH⟩ : ∃ H, H = s.heap := ⟨_, rfl⟩
  rw [← hH] at hP
  have hS : va_S A s.heap H [] := by rw [hH]; exact va_S.rf
  have hgoal : W p l e ({ frames := 0, cells := 0, slots := 0, locals := 0 } : Room) s m (([.ref (r 5), .int a1] : List Value).toArray) below meth c H [] 0 0 (MQ below (va_Qi (S := Unit) (fun (v9 : Int32) (_ : Unit) => (v9 = 0 ∨ v9 = 1) ∧ True) (fun _ => kPost D cy A (wB cy r σ0)) A) (([.ref (r 5), .int a1] : List Value).toArray) s 0 0 A) (F0 m 0 ls []) := by
    refine lv_iload_n hx hb d_X8_has_0 rfl (lv_at hl 1 rfl) ?_
    refine lv_iconst (v := 1) hx hb d_X8_has_1 (by decide) ?_
    refine lv_icmp_lt (tgt := 17) hx hb d_X8_has_2 (by decide) (fun c_2 => ?_) (fun c_2 => ?_)
    · -- taken at 2
      refine lv_iconst (v := 0) hx hb d_X8_has_17 (by decide) ?_
      refine W.widen (k := 0) (n := 0) (Nat.le_of_ble_eq_true rfl) (Nat.le_of_ble_eq_true rfl) ?_
      exact k_zret (X := Unit) (w1 := fun _ => wB cy r σ0) () hx hb hr (k_nz (Or.inl rfl)) d_X8_has_18 hlocks hP hK hD hS ⟨(Or.inl rfl), trivial⟩
    · -- not taken at 2
      refine lv_iload_n hx hb d_X8_has_5 rfl (lv_at hl 1 rfl) ?_
      refine lv_aload_n hx hb d_X8_has_6 rfl (lv_at hl 0 rfl) ?_
      refine va_get (D := D) (ci := 8) (v := .int (σ0 5 13)) (C := "LinkedUnits$Store") (T := TX8) (N := 18) hx hb hg iwX8 hown hK hP 4 rfl rfl 13 (by decide) (hg _ m_249) (fun _ h9 => h9) rfl d_X8_has_7 ?_
      refine lv_icmp_gt (tgt := 17) hx hb d_X8_has_10 (by decide) (fun c_10 => ?_) (fun c_10 => ?_)
      · -- taken at 10
        refine lv_iconst (v := 0) hx hb d_X8_has_17 (by decide) ?_
        refine W.widen (k := 0) (n := 0) (Nat.le_of_ble_eq_true rfl) (Nat.le_of_ble_eq_true rfl) ?_
        exact k_zret (X := Unit) (w1 := fun _ => wB cy r σ0) () hx hb hr (k_nz (Or.inl rfl)) d_X8_has_18 hlocks hP hK hD hS ⟨(Or.inl rfl), trivial⟩
      · -- not taken at 10
        refine lv_iconst (v := 1) hx hb d_X8_has_13 (by decide) ?_
        refine lv_goto (tgt := 18) hx hb d_X8_has_14 (by decide) ?_
        refine W.widen (k := 0) (n := 0) (Nat.le_of_ble_eq_true rfl) (Nat.le_of_ble_eq_true rfl) ?_
        exact k_zret (X := Unit) (w1 := fun _ => wB cy r σ0) () hx hb hr (k_nz (Or.inr rfl)) d_X8_has_18 hlocks hP hK hD hS ⟨(Or.inr rfl), trivial⟩
  rw [hH] at hgoal
  exact hgoal
set_option maxHeartbeats 4000000 in
set_option maxRecDepth 100000 in
theorem s_X8_firstOf (l : Launch) (D : va_G) (cy : Nat → ClassId) (sz : Nat) (w : Nat → Nat) (g : Nat → Nat → Int32) (r : Nat → Nat) (σ0 : St) (a1 : Int32) (i0 : Inv σ0) : Met l y_X8_firstOf (Cond.code y_X8_firstOf b_X8_firstOf 2 (some .int) :: GW) ({ frames := 1, cells := 0, slots := 0, locals := 21 } : Room) (va_Pc [.ref (r 5), .int a1] (kPreE D cy sz (wB cy r σ0) (gE w g))) ((fun A : Nat → Prop => va_Qi (S := Unit) (fun (_ : Int32) (_ : Unit) => True) (fun _ => kPost D cy A (wB cy r σ0)) A) (va_A (wB cy r σ0) sz)) 0 0 (va_A (wB cy r σ0) sz) := by
  refine k_ofWE (Qc := fun A => va_Qi (S := Unit) (fun (_ : Int32) (_ : Unit) => True) (fun _ => kPost D cy A (wB cy r σ0)) A) (by decide) (Nat.le_of_ble_eq_true rfl) ?_
  intro p e s m below meth c A ls hx hb hr hml hown hlocks hin hg hNW hK hP hD hA hS hl hE
  have hl : lv_has ls 2 [(0, .ref (r 5)), (1, .int a1)] := hl
  have hown : s.vm.findClass "LinkedUnits$Store" = some m.cls := hown
  obtain ⟨H, hH⟩ : ∃ H, H = s.heap := ⟨_, rfl⟩
  rw [← hH] at hP
  have hS : va_S A s.heap H [] := by rw [hH]; exact va_S.rf
  have hgoal : W p l e ({ frames := 1, cells := 0, slots := 0, locals := 21 } : Room) s m (([.ref (r 5), .int a1] : List Value).toArray) below meth c H [] 0 0 (MQ below (va_Qi (S := Unit) (fun (_ : Int32) (_ : Unit) => True) (fun _ => kPost D cy A (wB cy r σ0)) A) (([.ref (r 5), .int a1] : List Value).toArray) s 0 0 A) (F0 m 0 ls []) := by
    refine lv_iload_n hx hb d_X8_firstOf_0 rfl (lv_at hl 1 rfl) ?_
    refine lv_if_gt (tgt := 8) hx hb d_X8_firstOf_1 (by decide) (fun c_1 => ?_) (fun c_1 => ?_)
    · -- taken at 1
      refine lv_aload_n hx hb d_X8_firstOf_8 rfl (lv_at hl 0 rfl) ?_
      refine va_get (D := D) (ci := 8) (v := .ref (r 34)) (C := "LinkedUnits$Store") (T := TX8) (N := 18) hx hb hg iwX8 hown hK hP 4 rfl rfl 14 (by decide) (hg _ m_252) (fun _ h9 => h9) rfl d_X8_firstOf_9 ?_
      refine lv_iload_n hx hb d_X8_firstOf_12 rfl (lv_at hl 1 rfl) ?_
      refine lv_iconst (v := 1) hx hb d_X8_firstOf_13 (by decide) ?_
      refine lv_isub hx hb d_X8_firstOf_14 ?_
      refine s_call1 (x := ((r 34), .inl (cy 1, 101, .inl (σ0 34)))) 33 rfl (va_runSN (As := [.ref (r 34), .int (a1 - 1)]) (rest := []) ⟨hx, hb, hml, hown, hg⟩ (c_at_any l D cy H.size (r 34) 101 (σ0 34) (a1 - 1) (Nat.le_of_ble_eq_true rfl)) ⟨(va_cnB 2 hg (gw_c m_949) rfl rfl rfl (hNW.1 _ nm_1125) (hg _ m_1) (by decide +kernel) ⟨(Nat.le_of_ble_eq_true rfl), (Nat.le_of_ble_eq_true rfl)⟩), hg _ m_948, trivial⟩ (s_pre (ws := [((r 34), .inl (cy 1, 101, .inl (σ0 34)))]) (s_sub1 33 hP rfl) (s_subD 33 hD rfl) hK hNW) rfl rfl hl.1 rfl (lv_room (Nat.le_of_ble_eq_true rfl)) d_X8_firstOf_15 ⟨(Nat.le_of_ble_eq_true rfl), (Nat.le_of_ble_eq_true rfl)⟩) hP hD hS hA (fun r1 u1 H locs hw hP hD hS => ?_)
      have hP : va_P D vwCl (wB cy r σ0) H := hP
      have hD : va_D A (wB cy r σ0) := hD
      refine W.widen (k := 0) (n := 0) (Nat.le_of_ble_eq_true rfl) (Nat.le_of_ble_eq_true rfl) ?_
      exact k_iret (X := Unit) (w1 := fun _ => wB cy r σ0) () hx hb hr d_X8_firstOf_18 hlocks hP hK hD hS trivial
    · -- not taken at 1
      refine lv_iconst (v := 0) hx hb d_X8_firstOf_4 (by decide) ?_
      refine lv_goto (tgt := 18) hx hb d_X8_firstOf_5 (by decide) ?_
      refine W.widen (k := 0) (n := 0) (Nat.le_of_ble_eq_true rfl) (Nat.le_of_ble_eq_true rfl) ?_
      exact k_iret (X := Unit) (w1 := fun _ => wB cy r σ0) () hx hb hr d_X8_firstOf_18 hlocks hP hK hD hS trivial
  rw [hH] at hgoal
  exact hgoal
set_option maxHeartbeats 4000000 in
set_option maxRecDepth 100000 in
theorem s_X8_symbolAt (l : Launch) (D : va_G) (cy : Nat → ClassId) (sz : Nat) (w : Nat → Nat) (g : Nat → Nat → Int32) (r : Nat → Nat) (σ0 : St) (a1 : Int32) (a2 : Int32) (i0 : Inv σ0) : Met l y_X8_symbolAt (Cond.code y_X8_symbolAt b_X8_symbolAt 5 (some .int) :: GW) ({ frames := 2, cells := 0, slots := 0, locals := 43 } : Room) (va_Pc [.ref (r 5), .int a1, .int a2] (kPreE D cy sz (wB cy r σ0) (gE w g))) ((fun A : Nat → Prop => va_Qi (S := Unit) (fun (_ : Int32) (_ : Unit) => True) (fun _ => kPost D cy A (wB cy r σ0)) A) (va_A (wB cy r σ0) sz)) 0 0 (va_A (wB cy r σ0) sz) := by
  refine k_ofWE (Qc := fun A => va_Qi (S := Unit) (fun (_ : Int32) (_ : Unit) => True) (fun _ => kPost D cy A (wB cy r σ0)) A) (by decide) (Nat.le_of_ble_eq_true rfl) ?_
  intro p e s m below meth c A ls hx hb hr hml hown hlocks hin hg hNW hK hP hD hA hS hl hE
  have hl : lv_has ls 5 [(0, .ref (r 5)), (1, .int a1), (2, .int a2)] := hl
  have hown : s.vm.findClass "LinkedUnits$Store" = some m.cls := hown
  have b25 : ∀ (N : Nat) (x1 : Int32) (x2 : Int32) (x3 : Int32) (x4 : Int32) (H : Heap) (locs : List Loc) (ls : Array Slot), upm x4 = N → va_P D vwCl (wB cy r σ0) H → va_D A (wB cy r σ0) → va_S A s.heap H locs → lv_has ls 5 [(0, .ref (r 5)), (1, .int x1), (2, .int x2), (3, .int x3), (4, .int x4)] → W p l e ({ frames := 2, cells := 0, slots := 0, locals := 43 } : Room) s m (([.ref (r 5), .int a1, .int a2] : List Value).toArray) below meth c H locs 0 0 (MQ below (va_Qi (S := Unit) (fun (_ : Int32) (_ : Unit) => True) (fun _ => kPost D cy A (wB cy r σ0)) A) (([.ref (r 5), .int a1, .int a2] : List Value).toArray) s 0 0 A) (F0 m 25 ls []) := by
    intro M25
    induction M25 using Nat.strongRecOn with
    | _ M25 ih25 =>
      intro x1 x2 x3 x4 H locs ls N25 hP hD hS hl
      refine lv_iload_n hx hb d_X8_symbolAt_25 rfl (lv_at hl 3 rfl) ?_
      refine lv_if_lt (tgt := 68) hx hb d_X8_symbolAt_26 (by decide) (fun c_26 => ?_) (fun c_26 => ?_)
      · -- taken at 26
        refine lv_iconst (v := (-1)) hx hb d_X8_symbolAt_68 (by decide) ?_
        refine W.widen (k := 0) (n := 0) (Nat.le_of_ble_eq_true rfl) (Nat.le_of_ble_eq_true rfl) ?_
        exact k_iret (X := Unit) (w1 := fun _ => wB cy r σ0) () hx hb hr d_X8_symbolAt_69 hlocks hP hK hD hS trivial
      · -- not taken at 26
        refine lv_iload hx hb d_X8_symbolAt_29 (lv_at hl 4 rfl) ?_
        refine lv_aload_n hx hb d_X8_symbolAt_31 rfl (lv_at hl 0 rfl) ?_
        refine va_get (D := D) (ci := 8) (v := .ref (r 34)) (C := "LinkedUnits$Store") (T := TX8) (N := 18) hx hb hg iwX8 hown hK hP 4 rfl rfl 14 (by decide) (hg _ m_252) (fun _ h9 => h9) rfl d_X8_symbolAt_32 ?_
        refine lv_iload_n hx hb d_X8_symbolAt_35 rfl (lv_at hl 1 rfl) ?_
        refine s_call1 (x := ((r 34), .inl (cy 1, 101, .inl (σ0 34)))) 33 rfl (va_runSN (As := [.ref (r 34), .int x1]) (rest := [.int x4]) ⟨hx, hb, hml, hown, hg⟩ (c_at_any l D cy H.size (r 34) 101 (σ0 34) x1 (Nat.le_of_ble_eq_true rfl)) ⟨(va_cnB 2 hg (gw_c m_949) rfl rfl rfl (hNW.1 _ nm_1125) (hg _ m_1) (by decide +kernel) ⟨(Nat.le_of_ble_eq_true rfl), (Nat.le_of_ble_eq_true rfl)⟩), hg _ m_948, trivial⟩ (s_pre (ws := [((r 34), .inl (cy 1, 101, .inl (σ0 34)))]) (s_sub1 33 hP rfl) (s_subD 33 hD rfl) hK hNW) rfl rfl hl.1 rfl (lv_room (Nat.le_of_ble_eq_true rfl)) d_X8_symbolAt_36 ⟨(Nat.le_of_ble_eq_true rfl), (Nat.le_of_ble_eq_true rfl)⟩) hP hD hS hA (fun r1 u1 H locs hw hP hD hS => ?_)
        have hP : va_P D vwCl (wB cy r σ0) H := hP
        have hD : va_D A (wB cy r σ0) := hD
        refine lv_icmp_ge (tgt := 68) hx hb d_X8_symbolAt_39 (by decide) (fun c_39 => ?_) (fun c_39 => ?_)
        · -- taken at 39
          refine lv_iconst (v := (-1)) hx hb d_X8_symbolAt_68 (by decide) ?_
          refine W.widen (k := 0) (n := 0) (Nat.le_of_ble_eq_true rfl) (Nat.le_of_ble_eq_true rfl) ?_
          exact k_iret (X := Unit) (w1 := fun _ => wB cy r σ0) () hx hb hr d_X8_symbolAt_69 hlocks hP hK hD hS trivial
        · -- not taken at 39
          refine lv_aload_n hx hb d_X8_symbolAt_42 rfl (lv_at hl 0 rfl) ?_
          refine lv_iload hx hb d_X8_symbolAt_43 (lv_at hl 4 rfl) ?_
          refine lv_iconst (v := 2) hx hb d_X8_symbolAt_45 (by decide) ?_
          refine s_calli (X := Unit) (w1 := fun _ => wB cy r σ0) (va_runV (As := [.int x4, .int 2]) (rest := []) ⟨hx, hb, hml, hown, hg⟩ (s_X8_is l D cy H.size w g r σ0 x4 (2 : Int32) i0 ) (cwV 2 hg (gw_V m_1525 m_1123 ms_X8_is m_5 m_1124) rfl rfl rfl (by decide +kernel) ⟨(Nat.le_of_ble_eq_true rfl), (Nat.le_of_ble_eq_true rfl)⟩) (s_preVE (As := [.int x4, .int 2]) (gE_ok w g) hS hA hE hP hD hK hNW 4 rfl rfl) rfl rfl hl.1 rfl (lv_room (Nat.le_of_ble_eq_true rfl)) d_X8_symbolAt_46 ⟨(Nat.le_of_ble_eq_true rfl), (Nat.le_of_ble_eq_true rfl)⟩) hP hD hS hA (fun r2 u2 H locs hw hP hD hS => ?_)
          have hP : va_P D vwCl (wB cy r σ0) H := hP
          have hD : va_D A (wB cy r σ0) := hD
          have hz2 : r2 = 0 ∨ r2 = 1 := hw.1
          refine lv_if_ne (tgt := 62) hx hb d_X8_symbolAt_49 (by decide) (fun c_49 => ?_) (fun c_49 => ?_)
          · -- taken at 49
            refine lv_iinc (v := (x4 + 1)) (lv' := [(4, .int (x4 + 1)), (0, .ref (r 5)), (1, .int x1), (2, .int x2), (3, .int x3)]) hx hb d_X8_symbolAt_62 hl (k := 4) rfl rfl (by decide) rfl (fun ls hl => ?_)
            refine lv_goto (tgt := 25) hx hb d_X8_symbolAt_65 (by decide) ?_
            exact ih25 _ (Nat.lt_of_lt_of_eq (upm_lt c_39) N25) x1 x2 x3 (x4 + 1) _ _ _ rfl hP hD hS (lv_sub hl [1, 2, 3, 4, 0] rfl)
          · -- not taken at 49
            refine lv_iload_n hx hb d_X8_symbolAt_52 rfl (lv_at hl 3 rfl) ?_
            refine lv_if_ne (tgt := 59) hx hb d_X8_symbolAt_53 (by decide) (fun c_53 => ?_) (fun c_53 => ?_)
            · -- taken at 53
              refine lv_iinc (v := (x3 + (-1))) (lv' := [(3, .int (x3 + (-1))), (0, .ref (r 5)), (1, .int x1), (2, .int x2), (4, .int x4)]) hx hb d_X8_symbolAt_59 hl (k := 3) rfl rfl (by decide) rfl (fun ls hl => ?_)
              refine lv_iinc (v := (x4 + 1)) (lv' := [(4, .int (x4 + 1)), (3, .int (x3 + (-1))), (0, .ref (r 5)), (1, .int x1), (2, .int x2)]) hx hb d_X8_symbolAt_62 hl (k := 4) rfl rfl (by decide) rfl (fun ls hl => ?_)
              refine lv_goto (tgt := 25) hx hb d_X8_symbolAt_65 (by decide) ?_
              exact ih25 _ (Nat.lt_of_lt_of_eq (upm_lt c_39) N25) x1 x2 (x3 + (-1)) (x4 + 1) _ _ _ rfl hP hD hS (lv_sub hl [2, 3, 4, 1, 0] rfl)
            · -- not taken at 53
              refine lv_iload hx hb d_X8_symbolAt_56 (lv_at hl 4 rfl) ?_
              refine W.widen (k := 0) (n := 0) (Nat.le_of_ble_eq_true rfl) (Nat.le_of_ble_eq_true rfl) ?_
              exact k_iret (X := Unit) (w1 := fun _ => wB cy r σ0) () hx hb hr d_X8_symbolAt_58 hlocks hP hK hD hS trivial
  obtain ⟨H, hH⟩ : ∃ H, H = s.heap := ⟨_, rfl⟩
  rw [← hH] at hP
  have hS : va_S A s.heap H [] := by rw [hH]; exact va_S.rf
  have hgoal : W p l e ({ frames := 2, cells := 0, slots := 0, locals := 43 } : Room) s m (([.ref (r 5), .int a1, .int a2] : List Value).toArray) below meth c H [] 0 0 (MQ below (va_Qi (S := Unit) (fun (_ : Int32) (_ : Unit) => True) (fun _ => kPost D cy A (wB cy r σ0)) A) (([.ref (r 5), .int a1, .int a2] : List Value).toArray) s 0 0 A) (F0 m 0 ls []) := by
    refine lv_aload_n hx hb d_X8_symbolAt_0 rfl (lv_at hl 0 rfl) ?_
    refine lv_iload_n hx hb d_X8_symbolAt_1 rfl (lv_at hl 1 rfl) ?_
    refine s_calli (X := Unit) (w1 := fun _ => wB cy r σ0) (va_runV (As := [.int a1]) (rest := []) ⟨hx, hb, hml, hown, hg⟩ (s_X8_has l D cy H.size w g r σ0 a1 i0 ) (cwV 1 hg (gw_V m_1534 m_1515 ms_X8_has m_5 m_1516) rfl rfl rfl (by decide +kernel) ⟨(Nat.le_of_ble_eq_true rfl), (Nat.le_of_ble_eq_true rfl)⟩) (s_preVE (As := [.int a1]) (gE_ok w g) hS hA hE hP hD hK hNW 4 rfl rfl) rfl rfl hl.1 rfl (lv_room (Nat.le_of_ble_eq_true rfl)) d_X8_symbolAt_2 ⟨(Nat.le_of_ble_eq_true rfl), (Nat.le_of_ble_eq_true rfl)⟩) hP hD hS hA (fun r3 u3 H locs hw hP hD hS => ?_)
    have hP : va_P D vwCl (wB cy r σ0) H := hP
    have hD : va_D A (wB cy r σ0) := hD
    have hz3 : r3 = 0 ∨ r3 = 1 := hw.1
    refine lv_if_eq (tgt := 16) hx hb d_X8_symbolAt_5 (by decide) (fun c_5 => ?_) (fun c_5 => ?_)
    · -- taken at 5
      refine lv_iconst (v := (-1)) hx hb d_X8_symbolAt_16 (by decide) ?_
      refine lv_istore_n (lv' := [(3, .int (-1)), (0, .ref (r 5)), (1, .int a1), (2, .int a2)]) hx hb d_X8_symbolAt_17 rfl hl (by decide) rfl (fun ls hl => ?_)
      refine lv_aload_n hx hb d_X8_symbolAt_18 rfl (lv_at hl 1 rfl) ?_
      refine lv_iload_n hx hb d_X8_symbolAt_19 rfl (lv_at hl 2 rfl) ?_
      refine s_calli (X := Unit) (w1 := fun _ => wB cy r σ0) (va_runV (As := [.int a1]) (rest := []) ⟨hx, hb, hml, hown, hg⟩ (s_X8_firstOf l D cy H.size w g r σ0 a1 i0 ) (cwV 1 hg (gw_V m_1521 m_1523 ms_X8_firstOf m_5 m_1524) rfl rfl rfl (by decide +kernel) ⟨(Nat.le_of_ble_eq_true rfl), (Nat.le_of_ble_eq_true rfl)⟩) (s_preVE (As := [.int a1]) (gE_ok w g) hS hA hE hP hD hK hNW 4 rfl rfl) rfl rfl hl.1 rfl (lv_room (Nat.le_of_ble_eq_true rfl)) d_X8_symbolAt_20 ⟨(Nat.le_of_ble_eq_true rfl), (Nat.le_of_ble_eq_true rfl)⟩) hP hD hS hA (fun r4 u4 H locs hw hP hD hS => ?_)
      have hP : va_P D vwCl (wB cy r σ0) H := hP
      have hD : va_D A (wB cy r σ0) := hD
      refine lv_istore (lv' := [(4, .int r4), (3, .int (-1)), (0, .ref (r 5)), (1, .int a1), (2, .int a2)]) hx hb d_X8_symbolAt_23 hl (by decide) rfl (fun ls hl => ?_)
      exact b25 _ a1 a2 ((-1) : Int32) r4 _ _ _ rfl hP hD hS (lv_sub hl [2, 3, 4, 1, 0] rfl)
    · -- not taken at 5
      refine lv_iload_n hx hb d_X8_symbolAt_8 rfl (lv_at hl 2 rfl) ?_
      refine lv_if_lt (tgt := 16) hx hb d_X8_symbolAt_9 (by decide) (fun c_9 => ?_) (fun c_9 => ?_)
      · -- taken at 9
        refine lv_iconst (v := (-1)) hx hb d_X8_symbolAt_16 (by decide) ?_
        refine lv_istore_n (lv' := [(3, .int (-1)), (0, .ref (r 5)), (1, .int a1), (2, .int a2)]) hx hb d_X8_symbolAt_17 rfl hl (by decide) rfl (fun ls hl => ?_)
        refine lv_aload_n hx hb d_X8_symbolAt_18 rfl (lv_at hl 1 rfl) ?_
        refine lv_iload_n hx hb d_X8_symbolAt_19 rfl (lv_at hl 2 rfl) ?_
        refine s_calli (X := Unit) (w1 := fun _ => wB cy r σ0) (va_runV (As := [.int a1]) (rest := []) ⟨hx, hb, hml, hown, hg⟩ (s_X8_firstOf l D cy H.size w g r σ0 a1 i0 ) (cwV 1 hg (gw_V m_1521 m_1523 ms_X8_firstOf m_5 m_1524) rfl rfl rfl (by decide +kernel) ⟨(Nat.le_of_ble_eq_true rfl), (Nat.le_of_ble_eq_true rfl)⟩) (s_preVE (As := [.int a1]) (gE_ok w g) hS hA hE hP hD hK hNW 4 rfl rfl) rfl rfl hl.1 rfl (lv_room (Nat.le_of_ble_eq_true rfl)) d_X8_symbolAt_20 ⟨(Nat.le_of_ble_eq_true rfl), (Nat.le_of_ble_eq_true rfl)⟩) hP hD hS hA (fun r5 u5 H locs hw hP hD hS => ?_)
        have hP : va_P D vwCl (wB cy r σ0) H := hP
        have hD : va_D A (wB cy r σ0) := hD
        refine lv_istore (lv' := [(4, .int r5), (3, .int (-1)), (0, .ref (r 5)), (1, .int a1), (2, .int a2)]) hx hb d_X8_symbolAt_23 hl (by decide) rfl (fun ls hl => ?_)
        exact b25 _ a1 a2 ((-1) : Int32) r5 _ _ _ rfl hP hD hS (lv_sub hl [2, 3, 4, 1, 0] rfl)
      · -- not taken at 9
        refine lv_iload_n hx hb d_X8_symbolAt_12 rfl (lv_at hl 2 rfl) ?_
        refine lv_goto (tgt := 17) hx hb d_X8_symbolAt_13 (by decide) ?_
        refine lv_istore_n (lv' := [(3, .int a2), (0, .ref (r 5)), (1, .int a1), (2, .int a2)]) hx hb d_X8_symbolAt_17 rfl hl (by decide) rfl (fun ls hl => ?_)
        refine lv_aload_n hx hb d_X8_symbolAt_18 rfl (lv_at hl 1 rfl) ?_
        refine lv_iload_n hx hb d_X8_symbolAt_19 rfl (lv_at hl 2 rfl) ?_
        refine s_calli (X := Unit) (w1 := fun _ => wB cy r σ0) (va_runV (As := [.int a1]) (rest := []) ⟨hx, hb, hml, hown, hg⟩ (s_X8_firstOf l D cy H.size w g r σ0 a1 i0 ) (cwV 1 hg (gw_V m_1521 m_1523 ms_X8_firstOf m_5 m_1524) rfl rfl rfl (by decide +kernel) ⟨(Nat.le_of_ble_eq_true rfl), (Nat.le_of_ble_eq_true rfl)⟩) (s_preVE (As := [.int a1]) (gE_ok w g) hS hA hE hP hD hK hNW 4 rfl rfl) rfl rfl hl.1 rfl (lv_room (Nat.le_of_ble_eq_true rfl)) d_X8_symbolAt_20 ⟨(Nat.le_of_ble_eq_true rfl), (Nat.le_of_ble_eq_true rfl)⟩) hP hD hS hA (fun r6 u6 H locs hw hP hD hS => ?_)
        have hP : va_P D vwCl (wB cy r σ0) H := hP
        have hD : va_D A (wB cy r σ0) := hD
        refine lv_istore (lv' := [(4, .int r6), (3, .int a2), (0, .ref (r 5)), (1, .int a1), (2, .int a2)]) hx hb d_X8_symbolAt_23 hl (by decide) rfl (fun ls hl => ?_)
        exact b25 _ a1 a2 a2 r6 _ _ _ rfl hP hD hS (lv_sub hl [2, 3, 4, 1, 0] rfl)
  rw [hH] at hgoal
  exact hgoal
set_option maxHeartbeats 4000000 in
set_option maxRecDepth 100000 in
theorem s_X4_choose (l : Launch) (D : va_G) (cy : Nat → ClassId) (sz : Nat) (w : Nat → Nat) (g : Nat → Nat → Int32) (r : Nat → Nat) (σ0 : St) (a1 : Int32) (i0 : Inv σ0) : Met l y_X4_choose (Cond.code y_X4_choose b_X4_choose 3 (some .int) :: GW) ({ frames := 1, cells := 0, slots := 0, locals := 22 } : Room) (va_Pc [.ref (r 10), .int a1] (kPreE D cy sz (wB cy r σ0) (gE w g))) ((fun A : Nat → Prop => va_Qi (S := St) (fun (_ : Int32) (τ : St) => (Inv τ ∧ Keep [(10, 5)] [56] σ0 τ)) (fun τ => kPost D cy A (wB cy r τ)) A) (va_A (wB cy r σ0) sz)) 0 0 (va_A (wB cy r σ0) sz) := by
  refine k_ofWE (Qc := fun A => va_Qi (S := St) (fun (_ : Int32) (τ : St) => (Inv τ ∧ Keep [(10, 5)] [56] σ0 τ)) (fun τ => kPost D cy A (wB cy r τ)) A) (by decide) (Nat.le_of_ble_eq_true rfl) ?_
  intro p e s m below meth c A ls hx hb hr hml hown hlocks hin hg hNW hK hP hD hA hS hl hE
  have hl : lv_has ls 3 [(0, .ref (r 10)), (1, .int a1)] := hl
  have hown : s.vm.findClass "LinkedUnits$Image" = some m.cls := hown
  have b2 : ∀ (N : Nat) (σ : St) (x1 : Int32) (x2 : Int32) (H : Heap) (locs : List Loc) (ls : Array Slot), upm x2 = N → Inv σ → Keep [(10, 5)] [56] σ0 σ → va_P D vwCl (wB cy r σ) H → va_D A (wB cy r σ) → va_S A s.heap H locs → lv_has ls 3 [(0, .ref (r 10)), (1, .int x1), (2, .int x2)] → W p l e ({ frames := 1, cells := 0, slots := 0, locals := 22 } : Room) s m (([.ref (r 10), .int a1] : List Value).toArray) below meth c H locs 0 0 (MQ below (va_Qi (S := St) (fun (_ : Int32) (τ : St) => (Inv τ ∧ Keep [(10, 5)] [56] σ0 τ)) (fun τ => kPost D cy A (wB cy r τ)) A) (([.ref (r 10), .int a1] : List Value).toArray) s 0 0 A) (F0 m 2 ls []) := by
    intro M2
    induction M2 using Nat.strongRecOn with
    | _ M2 ih2 =>
      intro σ x1 x2 H locs ls N2 inv kp hP hD hS hl
      refine lv_iload_n hx hb d_X4_choose_2 rfl (lv_at hl 2 rfl) ?_
      refine lv_aload_n hx hb d_X4_choose_3 rfl (lv_at hl 0 rfl) ?_
      refine va_get (D := D) (ci := 4) (v := .int (σ 10 5)) (C := "LinkedUnits$Image") (T := TX4) (N := 12) hx hb hg iwX4 hown hK hP 9 rfl rfl 5 (by decide) (hg _ m_605) (fun _ h9 => h9) rfl d_X4_choose_4 ?_
      refine lv_icmp_ge (tgt := 30) hx hb d_X4_choose_7 (by decide) (fun c_7 => ?_) (fun c_7 => ?_)
      · -- taken at 7
        refine lv_aload_n hx hb d_X4_choose_30 rfl (lv_at hl 0 rfl) ?_
        refine va_get (D := D) (ci := 4) (v := .ref (r 56)) (C := "LinkedUnits$Image") (T := TX4) (N := 12) hx hb hg iwX4 hown hK hP 9 rfl rfl 6 (by decide) (hg _ m_606) (fun _ h9 => h9) rfl d_X4_choose_31 ?_
        refine lv_aload_n hx hb d_X4_choose_34 rfl (lv_at hl 0 rfl) ?_
        refine va_get (D := D) (ci := 4) (v := .int (σ 10 5)) (C := "LinkedUnits$Image") (T := TX4) (N := 12) hx hb hg iwX4 hown hK hP 9 rfl rfl 5 (by decide) (hg _ m_605) (fun _ h9 => h9) rfl d_X4_choose_35 ?_
        refine lv_iload_n hx hb d_X4_choose_38 rfl (lv_at hl 1 rfl) ?_
        refine s_set1 (X := Nat → Int32) (w := fun g => .inl (cy 1, 101, .inl g)) 53 rfl (va_runSN (As := [.ref (r 56), .int (σ 10 5), .int x1]) (rest := []) ⟨hx, hb, hml, hown, hg⟩ (c_set_any l D cy H.size (r 56) 101 (σ 56) (σ 10 5) x1 (Nat.le_of_ble_eq_true rfl)) ⟨(va_cnB 3 hg (gw_c m_981) rfl rfl rfl (hNW.1 _ nm_1553) (hg _ m_1) (by decide +kernel) ⟨(Nat.le_of_ble_eq_true rfl), (Nat.le_of_ble_eq_true rfl)⟩), hg _ m_980, trivial⟩ (s_pre (ws := [((r 56), .inl (cy 1, 101, .inl (σ 56)))]) (s_sub1 53 hP rfl) (s_subD 53 hD rfl) hK hNW) rfl rfl hl.1 rfl (lv_room (Nat.le_of_ble_eq_true rfl)) d_X4_choose_39 ⟨(Nat.le_of_ble_eq_true rfl), (Nat.le_of_ble_eq_true rfl)⟩) hP hD hS hA (fun g1 H locs hw hP hD hS => ?_)
        have hP : va_P D vwCl (wB cy r (upF σ 56 g1)) H := hP
        have hD : va_D A (wB cy r (upF σ 56 g1)) := hD
        have kp : Keep [(10, 5)] [56] σ0 (upF σ 56 g1) := keep_a kp (by decide)
        refine lv_aload_n hx hb d_X4_choose_42 rfl (lv_at hl 0 rfl) ?_
        refine lv_dup hx hb d_X4_choose_43 rfl ?_
        refine va_get (D := D) (ci := 4) (v := .int (σ 10 5)) (C := "LinkedUnits$Image") (T := TX4) (N := 12) hx hb hg iwX4 hown hK hP 9 rfl rfl 5 (by decide) (hg _ m_605) (fun _ h9 => h9) rfl d_X4_choose_44 ?_
        refine lv_iconst (v := 1) hx hb d_X4_choose_47 (by decide) ?_
        refine lv_iadd hx hb d_X4_choose_48 ?_
        refine va_put (D := D) (ci := 4) (v := .int ((σ 10 5) + 1)) (ty := .int) (C := "LinkedUnits$Image") (T := TX4) (N := 12) hx hb hg iwX4 tyX4 tyX4_ok nmX4 hown hK hP hD hS 9 rfl rfl 5 (by decide) (hg _ m_605) (fun _ h9 => h9) rfl (by decide +kernel) rfl rfl (Nat.le_of_ble_eq_true rfl) d_X4_choose_49 (fun H locs hP hD hS => ?_)
        have hP : va_P D vwCl (wB cy r (upC (upF σ 56 g1) 10 5 ((σ 10 5) + 1))) H := hP
        have hD : va_D A (wB cy r (upC (upF σ 56 g1) 10 5 ((σ 10 5) + 1))) := hD
        have kp : Keep [(10, 5)] [56] σ0 (upC (upF σ 56 g1) 10 5 ((σ 10 5) + 1)) := keep_f kp (by decide)
        refine lv_aload_n hx hb d_X4_choose_52 rfl (lv_at hl 0 rfl) ?_
        refine va_get (D := D) (ci := 4) (v := .int ((σ 10 5) + 1)) (C := "LinkedUnits$Image") (T := TX4) (N := 12) hx hb hg iwX4 hown hK hP 9 rfl rfl 5 (by decide) (hg _ m_605) (fun _ h9 => h9) rfl d_X4_choose_53 ?_
        refine lv_iconst (v := 1) hx hb d_X4_choose_56 (by decide) ?_
        refine lv_isub hx hb d_X4_choose_57 ?_
        refine W.widen (k := 0) (n := 0) (Nat.le_of_ble_eq_true rfl) (Nat.le_of_ble_eq_true rfl) ?_
        exact k_iret (X := St) (w1 := fun τ => wB cy r τ) (upC (upF σ 56 g1) 10 5 ((σ 10 5) + 1)) hx hb hr d_X4_choose_58 hlocks hP hK hD hS ⟨inv, kp⟩
      · -- not taken at 7
        refine lv_aload_n hx hb d_X4_choose_10 rfl (lv_at hl 0 rfl) ?_
        refine va_get (D := D) (ci := 4) (v := .ref (r 56)) (C := "LinkedUnits$Image") (T := TX4) (N := 12) hx hb hg iwX4 hown hK hP 9 rfl rfl 6 (by decide) (hg _ m_606) (fun _ h9 => h9) rfl d_X4_choose_11 ?_
        refine lv_iload_n hx hb d_X4_choose_14 rfl (lv_at hl 2 rfl) ?_
        refine s_call1 (x := ((r 56), .inl (cy 1, 101, .inl (σ 56)))) 53 rfl (va_runSN (As := [.ref (r 56), .int x2]) (rest := []) ⟨hx, hb, hml, hown, hg⟩ (c_at_any l D cy H.size (r 56) 101 (σ 56) x2 (Nat.le_of_ble_eq_true rfl)) ⟨(va_cnB 2 hg (gw_c m_949) rfl rfl rfl (hNW.1 _ nm_1552) (hg _ m_1) (by decide +kernel) ⟨(Nat.le_of_ble_eq_true rfl), (Nat.le_of_ble_eq_true rfl)⟩), hg _ m_948, trivial⟩ (s_pre (ws := [((r 56), .inl (cy 1, 101, .inl (σ 56)))]) (s_sub1 53 hP rfl) (s_subD 53 hD rfl) hK hNW) rfl rfl hl.1 rfl (lv_room (Nat.le_of_ble_eq_true rfl)) d_X4_choose_15 ⟨(Nat.le_of_ble_eq_true rfl), (Nat.le_of_ble_eq_true rfl)⟩) hP hD hS hA (fun r2 u2 H locs hw hP hD hS => ?_)
        have hP : va_P D vwCl (wB cy r σ) H := hP
        have hD : va_D A (wB cy r σ) := hD
        refine lv_iload_n hx hb d_X4_choose_18 rfl (lv_at hl 1 rfl) ?_
        refine lv_icmp_ne (tgt := 24) hx hb d_X4_choose_19 (by decide) (fun c_19 => ?_) (fun c_19 => ?_)
        · -- taken at 19
          refine lv_iinc (v := (x2 + 1)) (lv' := [(2, .int (x2 + 1)), (0, .ref (r 10)), (1, .int x1)]) hx hb d_X4_choose_24 hl (k := 2) rfl rfl (by decide) rfl (fun ls hl => ?_)
          refine lv_goto (tgt := 2) hx hb d_X4_choose_27 (by decide) ?_
          exact ih2 _ (Nat.lt_of_lt_of_eq (upm_lt c_7) N2) σ x1 (x2 + 1) _ _ _ rfl inv kp hP hD hS (lv_sub hl [1, 2, 0] rfl)
        · -- not taken at 19
          refine lv_iconst (v := (-1)) hx hb d_X4_choose_22 (by decide) ?_
          refine W.widen (k := 0) (n := 0) (Nat.le_of_ble_eq_true rfl) (Nat.le_of_ble_eq_true rfl) ?_
          exact k_iret (X := St) (w1 := fun τ => wB cy r τ) σ hx hb hr d_X4_choose_23 hlocks hP hK hD hS ⟨inv, kp⟩
  have kp : Keep [(10, 5)] [56] σ0 σ0 := keep_rf
  obtain ⟨H, hH⟩ : ∃ H, H = s.heap := ⟨_, rfl⟩
  rw [← hH] at hP
  have hS : va_S A s.heap H [] := by rw [hH]; exact va_S.rf
  have hgoal : W p l e ({ frames := 1, cells := 0, slots := 0, locals := 22 } : Room) s m (([.ref (r 10), .int a1] : List Value).toArray) below meth c H [] 0 0 (MQ below (va_Qi (S := St) (fun (_ : Int32) (τ : St) => (Inv τ ∧ Keep [(10, 5)] [56] σ0 τ)) (fun τ => kPost D cy A (wB cy r τ)) A) (([.ref (r 10), .int a1] : List Value).toArray) s 0 0 A) (F0 m 0 ls []) := by
    refine lv_iconst (v := 1) hx hb d_X4_choose_0 (by decide) ?_
    refine lv_istore_n (lv' := [(2, .int 1), (0, .ref (r 10)), (1, .int a1)]) hx hb d_X4_choose_1 rfl hl (by decide) rfl (fun ls hl => ?_)
    exact b2 _ σ0 a1 (1 : Int32) _ _ _ rfl i0 kp hP hD hS (lv_sub hl [1, 2, 0] rfl)
  rw [hH] at hgoal
  exact hgoal
