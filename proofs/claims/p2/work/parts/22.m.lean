set_option maxHeartbeats 4000000 in
set_option maxRecDepth 100000 in
theorem s_X0_emit (l : Launch) (D : va_G) (cy : Nat → ClassId) (sz : Nat) (w : Nat → Nat) (g : Nat → Nat → Int32) (r : Nat → Nat) (σ0 : St) (a1 : Int32) (a2 : Int32) (a3 : Int32) (a4 : Int32) (i0 : Inv σ0) : Met l y_X0_emit (Cond.code y_X0_emit b_X0_emit 6 (some .int) :: GW) ({ frames := 0, cells := 0, slots := 0, locals := 0 } : Room) (va_Pc [.ref (r 4), .int a1, .int a2, .int a3, .int a4] (kPreE D cy sz (wB cy r σ0) (gE w g))) ((fun A : Nat → Prop => va_Qi (S := St) (fun (_ : Int32) (τ : St) => (Inv τ ∧ Keep [(4, 1)] [24] σ0 τ)) (fun τ => kPost D cy A (wB cy r τ)) A) (va_A (wB cy r σ0) sz)) 0 0 (va_A (wB cy r σ0) sz) := by
  refine k_ofWE (Qc := fun A => va_Qi (S := St) (fun (_ : Int32) (τ : St) => (Inv τ ∧ Keep [(4, 1)] [24] σ0 τ)) (fun τ => kPost D cy A (wB cy r τ)) A) (by decide) (Nat.le_of_ble_eq_true rfl) ?_
  intro p e s m below meth c A ls hx hb hr hml hown hlocks hin hg hNW hK hP hD hA hS hl hE
  have hl : lv_has ls 6 [(0, .ref (r 4)), (1, .int a1), (2, .int a2), (3, .int a3), (4, .int a4)] := hl
  have hown : s.vm.findClass "LinkedUnits$Code" = some m.cls := hown
  have kp : Keep [(4, 1)] [24] σ0 σ0 := keep_rf
  obtain ⟨H, hH⟩ : ∃ H, H = s.heap := ⟨_, rfl⟩
  rw [← hH] at hP
  have hS : va_S A s.heap H [] := by rw [hH]; exact va_S.rf
  have hgoal : W p l e ({ frames := 0, cells := 0, slots := 0, locals := 0 } : Room) s m (([.ref (r 4), .int a1, .int a2, .int a3, .int a4] : List Value).toArray) below meth c H [] 0 0 (MQ below (va_Qi (S := St) (fun (_ : Int32) (τ : St) => (Inv τ ∧ Keep [(4, 1)] [24] σ0 τ)) (fun τ => kPost D cy A (wB cy r τ)) A) (([.ref (r 4), .int a1, .int a2, .int a3, .int a4] : List Value).toArray) s 0 0 A) (F0 m 0 ls []) := by
    refine lv_aload_n hx hb d_X0_emit_0 rfl (lv_at hl 0 rfl) ?_
    refine va_get (D := D) (ci := 0) (v := .int (σ0 4 1)) (C := "LinkedUnits$Code") (T := TX0) (N := 2) hx hb hg iwX0 hown hK hP 3 rfl rfl 1 (by decide) (hg _ m_152) (fun _ h9 => h9) rfl d_X0_emit_1 ?_
    refine lv_istore (lv' := [(5, .int (σ0 4 1)), (0, .ref (r 4)), (1, .int a1), (2, .int a2), (3, .int a3), (4, .int a4)]) hx hb d_X0_emit_4 hl (by decide) rfl (fun ls hl => ?_)
    refine lv_iload hx hb d_X0_emit_6 (lv_at hl 0 rfl) ?_
    refine lv_if_lt (tgt := 90) hx hb d_X0_emit_8 (by decide) (fun c_8 => ?_) (fun c_8 => ?_)
    · -- taken at 8
      refine lv_iload hx hb d_X0_emit_90 (lv_at hl 0 rfl) ?_
      refine W.widen (k := 0) (n := 0) (Nat.le_of_ble_eq_true rfl) (Nat.le_of_ble_eq_true rfl) ?_
      exact k_iret (X := St) (w1 := fun τ => wB cy r τ) σ0 hx hb hr d_X0_emit_92 hlocks hP hK hD hS ⟨i0, kp⟩
    · -- not taken at 8
      refine lv_iload hx hb d_X0_emit_11 (lv_at hl 0 rfl) ?_
      refine lv_aload_n hx hb d_X0_emit_13 rfl (lv_at hl 1 rfl) ?_
      refine va_get (D := D) (ci := 0) (v := .ref (r 24)) (C := "LinkedUnits$Code") (T := TX0) (N := 2) hx hb hg iwX0 hown hK hP 3 rfl rfl 0 (by decide) (hg _ m_149) (fun _ h9 => h9) rfl d_X0_emit_14 ?_
      refine va_alen hx hb hK hP 23 1 rfl rfl (v := 262208) (by show Int32.ofNat 262208 = 262208; decide) d_X0_emit_17 ?_
      refine lv_iconst (v := 4) hx hb d_X0_emit_18 (by decide) ?_
      refine lv_isub hx hb d_X0_emit_19 ?_
      refine k_topi 262204 (by decide) ?_
      refine lv_icmp_ge (tgt := 90) hx hb d_X0_emit_20 (by decide) (fun c_20 => ?_) (fun c_20 => ?_)
      · -- taken at 20
        refine lv_iload hx hb d_X0_emit_90 (lv_at hl 0 rfl) ?_
        refine W.widen (k := 0) (n := 0) (Nat.le_of_ble_eq_true rfl) (Nat.le_of_ble_eq_true rfl) ?_
        exact k_iret (X := St) (w1 := fun τ => wB cy r τ) σ0 hx hb hr d_X0_emit_92 hlocks hP hK hD hS ⟨i0, kp⟩
      · -- not taken at 20
        refine lv_aload_n hx hb d_X0_emit_23 rfl (lv_at hl 1 rfl) ?_
        refine va_get (D := D) (ci := 0) (v := .ref (r 24)) (C := "LinkedUnits$Code") (T := TX0) (N := 2) hx hb hg iwX0 hown hK hP 3 rfl rfl 0 (by decide) (hg _ m_149) (fun _ h9 => h9) rfl d_X0_emit_24 ?_
        refine lv_iload hx hb d_X0_emit_27 (lv_at hl 0 rfl) ?_
        refine lv_iload_n hx hb d_X0_emit_29 rfl (lv_at hl 2 rfl) ?_
        refine va_iast hx hb hK hP hD hS 23 1 rfl rfl (by refine s_in (by decide) ?_ ?_ <;> (have e0 := s_rng (σ0 4 1); have e1 : (0 : Int32).toInt = 0 := (by decide); have e2 := s_nlt c_8; have e3 : (262204 : Int32).toInt = 262204 := (by decide); have e4 := s_nle c_20; omega)) d_X0_emit_30 (fun H locs hP hD hS => ?_)
        have hP : va_P D vwCl (wB cy r (upF σ0 24 (upd (σ0 24) ((σ0 4 1)).toNatClampNeg a1))) H := hP
        have hD : va_D A (wB cy r (upF σ0 24 (upd (σ0 24) ((σ0 4 1)).toNatClampNeg a1))) := hD
        have kp : Keep [(4, 1)] [24] σ0 (upF σ0 24 (upd (σ0 24) ((σ0 4 1)).toNatClampNeg a1)) := keep_a kp (by decide)
        refine lv_aload_n hx hb d_X0_emit_31 rfl (lv_at hl 1 rfl) ?_
        refine va_get (D := D) (ci := 0) (v := .ref (r 24)) (C := "LinkedUnits$Code") (T := TX0) (N := 2) hx hb hg iwX0 hown hK hP 3 rfl rfl 0 (by decide) (hg _ m_149) (fun _ h9 => h9) rfl d_X0_emit_32 ?_
        refine lv_iload hx hb d_X0_emit_35 (lv_at hl 0 rfl) ?_
        refine lv_iconst (v := 1) hx hb d_X0_emit_37 (by decide) ?_
        refine lv_iadd hx hb d_X0_emit_38 ?_
        refine lv_iload_n hx hb d_X0_emit_39 rfl (lv_at hl 3 rfl) ?_
        refine va_iast hx hb hK hP hD hS 23 1 rfl rfl (by refine s_in (by decide) ?_ ?_ <;> (have e0 := s_rng (σ0 4 1); have e1 : (1 : Int32).toInt = 1 := (by decide); obtain ⟨k2, e2⟩ := s_add (σ0 4 1) (1 : Int32); have e3 := s_rng ((σ0 4 1) + 1); have e4 : (0 : Int32).toInt = 0 := (by decide); have e5 := s_nlt c_8; have e6 : (262204 : Int32).toInt = 262204 := (by decide); have e7 := s_nle c_20; omega)) d_X0_emit_40 (fun H locs hP hD hS => ?_)
        have hP : va_P D vwCl (wB cy r (upF (upF σ0 24 (upd (σ0 24) ((σ0 4 1)).toNatClampNeg a1)) 24 (upd ((upF σ0 24 (upd (σ0 24) ((σ0 4 1)).toNatClampNeg a1)) 24) (((σ0 4 1) + 1)).toNatClampNeg a2))) H := hP
        have hD : va_D A (wB cy r (upF (upF σ0 24 (upd (σ0 24) ((σ0 4 1)).toNatClampNeg a1)) 24 (upd ((upF σ0 24 (upd (σ0 24) ((σ0 4 1)).toNatClampNeg a1)) 24) (((σ0 4 1) + 1)).toNatClampNeg a2))) := hD
        have kp : Keep [(4, 1)] [24] σ0 (upF (upF σ0 24 (upd (σ0 24) ((σ0 4 1)).toNatClampNeg a1)) 24 (upd ((upF σ0 24 (upd (σ0 24) ((σ0 4 1)).toNatClampNeg a1)) 24) (((σ0 4 1) + 1)).toNatClampNeg a2)) := keep_a kp (by decide)
        refine lv_aload_n hx hb d_X0_emit_41 rfl (lv_at hl 1 rfl) ?_
        refine va_get (D := D) (ci := 0) (v := .ref (r 24)) (C := "LinkedUnits$Code") (T := TX0) (N := 2) hx hb hg iwX0 hown hK hP 3 rfl rfl 0 (by decide) (hg _ m_149) (fun _ h9 => h9) rfl d_X0_emit_42 ?_
        refine lv_iload hx hb d_X0_emit_45 (lv_at hl 0 rfl) ?_
        refine lv_iconst (v := 2) hx hb d_X0_emit_47 (by decide) ?_
        refine lv_iadd hx hb d_X0_emit_48 ?_
        refine lv_iload_n hx hb d_X0_emit_49 rfl (lv_at hl 4 rfl) ?_
        refine va_iast hx hb hK hP hD hS 23 1 rfl rfl (by refine s_in (by decide) ?_ ?_ <;> (have e0 := s_rng (σ0 4 1); have e1 : (2 : Int32).toInt = 2 := (by decide); obtain ⟨k2, e2⟩ := s_add (σ0 4 1) (2 : Int32); have e3 := s_rng ((σ0 4 1) + 2); have e4 : (0 : Int32).toInt = 0 := (by decide); have e5 := s_nlt c_8; have e6 : (262204 : Int32).toInt = 262204 := (by decide); have e7 := s_nle c_20; omega)) d_X0_emit_50 (fun H locs hP hD hS => ?_)
        have hP : va_P D vwCl (wB cy r (upF (upF (upF σ0 24 (upd (σ0 24) ((σ0 4 1)).toNatClampNeg a1)) 24 (upd ((upF σ0 24 (upd (σ0 24) ((σ0 4 1)).toNatClampNeg a1)) 24) (((σ0 4 1) + 1)).toNatClampNeg a2)) 24 (upd ((upF (upF σ0 24 (upd (σ0 24) ((σ0 4 1)).toNatClampNeg a1)) 24 (upd ((upF σ0 24 (upd (σ0 24) ((σ0 4 1)).toNatClampNeg a1)) 24) (((σ0 4 1) + 1)).toNatClampNeg a2)) 24) (((σ0 4 1) + 2)).toNatClampNeg a3))) H := hP
        have hD : va_D A (wB cy r (upF (upF (upF σ0 24 (upd (σ0 24) ((σ0 4 1)).toNatClampNeg a1)) 24 (upd ((upF σ0 24 (upd (σ0 24) ((σ0 4 1)).toNatClampNeg a1)) 24) (((σ0 4 1) + 1)).toNatClampNeg a2)) 24 (upd ((upF (upF σ0 24 (upd (σ0 24) ((σ0 4 1)).toNatClampNeg a1)) 24 (upd ((upF σ0 24 (upd (σ0 24) ((σ0 4 1)).toNatClampNeg a1)) 24) (((σ0 4 1) + 1)).toNatClampNeg a2)) 24) (((σ0 4 1) + 2)).toNatClampNeg a3))) := hD
        have kp : Keep [(4, 1)] [24] σ0 (upF (upF (upF σ0 24 (upd (σ0 24) ((σ0 4 1)).toNatClampNeg a1)) 24 (upd ((upF σ0 24 (upd (σ0 24) ((σ0 4 1)).toNatClampNeg a1)) 24) (((σ0 4 1) + 1)).toNatClampNeg a2)) 24 (upd ((upF (upF σ0 24 (upd (σ0 24) ((σ0 4 1)).toNatClampNeg a1)) 24 (upd ((upF σ0 24 (upd (σ0 24) ((σ0 4 1)).toNatClampNeg a1)) 24) (((σ0 4 1) + 1)).toNatClampNeg a2)) 24) (((σ0 4 1) + 2)).toNatClampNeg a3)) := keep_a kp (by decide)
        refine lv_aload_n hx hb d_X0_emit_51 rfl (lv_at hl 1 rfl) ?_
        refine va_get (D := D) (ci := 0) (v := .ref (r 24)) (C := "LinkedUnits$Code") (T := TX0) (N := 2) hx hb hg iwX0 hown hK hP 3 rfl rfl 0 (by decide) (hg _ m_149) (fun _ h9 => h9) rfl d_X0_emit_52 ?_
        refine lv_iload hx hb d_X0_emit_55 (lv_at hl 0 rfl) ?_
        refine lv_iconst (v := 3) hx hb d_X0_emit_57 (by decide) ?_
        refine lv_iadd hx hb d_X0_emit_58 ?_
        refine lv_iload hx hb d_X0_emit_59 (lv_at hl 5 rfl) ?_
        refine va_iast hx hb hK hP hD hS 23 1 rfl rfl (by refine s_in (by decide) ?_ ?_ <;> (have e0 := s_rng (σ0 4 1); have e1 : (3 : Int32).toInt = 3 := (by decide); obtain ⟨k2, e2⟩ := s_add (σ0 4 1) (3 : Int32); have e3 := s_rng ((σ0 4 1) + 3); have e4 : (0 : Int32).toInt = 0 := (by decide); have e5 := s_nlt c_8; have e6 : (262204 : Int32).toInt = 262204 := (by decide); have e7 := s_nle c_20; omega)) d_X0_emit_61 (fun H locs hP hD hS => ?_)
        have hP : va_P D vwCl (wB cy r (upF (upF (upF (upF σ0 24 (upd (σ0 24) ((σ0 4 1)).toNatClampNeg a1)) 24 (upd ((upF σ0 24 (upd (σ0 24) ((σ0 4 1)).toNatClampNeg a1)) 24) (((σ0 4 1) + 1)).toNatClampNeg a2)) 24 (upd ((upF (upF σ0 24 (upd (σ0 24) ((σ0 4 1)).toNatClampNeg a1)) 24 (upd ((upF σ0 24 (upd (σ0 24) ((σ0 4 1)).toNatClampNeg a1)) 24) (((σ0 4 1) + 1)).toNatClampNeg a2)) 24) (((σ0 4 1) + 2)).toNatClampNeg a3)) 24 (upd ((upF (upF (upF σ0 24 (upd (σ0 24) ((σ0 4 1)).toNatClampNeg a1)) 24 (upd ((upF σ0 24 (upd (σ0 24) ((σ0 4 1)).toNatClampNeg a1)) 24) (((σ0 4 1) + 1)).toNatClampNeg a2)) 24 (upd ((upF (upF σ0 24 (upd (σ0 24) ((σ0 4 1)).toNatClampNeg a1)) 24 (upd ((upF σ0 24 (upd (σ0 24) ((σ0 4 1)).toNatClampNeg a1)) 24) (((σ0 4 1) + 1)).toNatClampNeg a2)) 24) (((σ0 4 1) + 2)).toNatClampNeg a3)) 24) (((σ0 4 1) + 3)).toNatClampNeg a4))) H := hP
        have hD : va_D A (wB cy r (upF (upF (upF (upF σ0 24 (upd (σ0 24) ((σ0 4 1)).toNatClampNeg a1)) 24 (upd ((upF σ0 24 (upd (σ0 24) ((σ0 4 1)).toNatClampNeg a1)) 24) (((σ0 4 1) + 1)).toNatClampNeg a2)) 24 (upd ((upF (upF σ0 24 (upd (σ0 24) ((σ0 4 1)).toNatClampNeg a1)) 24 (upd ((upF σ0 24 (upd (σ0 24) ((σ0 4 1)).toNatClampNeg a1)) 24) (((σ0 4 1) + 1)).toNatClampNeg a2)) 24) (((σ0 4 1) + 2)).toNatClampNeg a3)) 24 (upd ((upF (upF (upF σ0 24 (upd (σ0 24) ((σ0 4 1)).toNatClampNeg a1)) 24 (upd ((upF σ0 24 (upd (σ0 24) ((σ0 4 1)).toNatClampNeg a1)) 24) (((σ0 4 1) + 1)).toNatClampNeg a2)) 24 (upd ((upF (upF σ0 24 (upd (σ0 24) ((σ0 4 1)).toNatClampNeg a1)) 24 (upd ((upF σ0 24 (upd (σ0 24) ((σ0 4 1)).toNatClampNeg a1)) 24) (((σ0 4 1) + 1)).toNatClampNeg a2)) 24) (((σ0 4 1) + 2)).toNatClampNeg a3)) 24) (((σ0 4 1) + 3)).toNatClampNeg a4))) := hD
        have kp : Keep [(4, 1)] [24] σ0 (upF (upF (upF (upF σ0 24 (upd (σ0 24) ((σ0 4 1)).toNatClampNeg a1)) 24 (upd ((upF σ0 24 (upd (σ0 24) ((σ0 4 1)).toNatClampNeg a1)) 24) (((σ0 4 1) + 1)).toNatClampNeg a2)) 24 (upd ((upF (upF σ0 24 (upd (σ0 24) ((σ0 4 1)).toNatClampNeg a1)) 24 (upd ((upF σ0 24 (upd (σ0 24) ((σ0 4 1)).toNatClampNeg a1)) 24) (((σ0 4 1) + 1)).toNatClampNeg a2)) 24) (((σ0 4 1) + 2)).toNatClampNeg a3)) 24 (upd ((upF (upF (upF σ0 24 (upd (σ0 24) ((σ0 4 1)).toNatClampNeg a1)) 24 (upd ((upF σ0 24 (upd (σ0 24) ((σ0 4 1)).toNatClampNeg a1)) 24) (((σ0 4 1) + 1)).toNatClampNeg a2)) 24 (upd ((upF (upF σ0 24 (upd (σ0 24) ((σ0 4 1)).toNatClampNeg a1)) 24 (upd ((upF σ0 24 (upd (σ0 24) ((σ0 4 1)).toNatClampNeg a1)) 24) (((σ0 4 1) + 1)).toNatClampNeg a2)) 24) (((σ0 4 1) + 2)).toNatClampNeg a3)) 24) (((σ0 4 1) + 3)).toNatClampNeg a4)) := keep_a kp (by decide)
        refine lv_aload_n hx hb d_X0_emit_62 rfl (lv_at hl 1 rfl) ?_
        refine lv_iload hx hb d_X0_emit_63 (lv_at hl 0 rfl) ?_
        refine lv_iload_n hx hb d_X0_emit_65 rfl (lv_at hl 2 rfl) ?_
        refine lv_if_lt (tgt := 85) hx hb d_X0_emit_66 (by decide) (fun c_66 => ?_) (fun c_66 => ?_)
        · -- taken at 66
          refine lv_iconst (v := 0) hx hb d_X0_emit_85 (by decide) ?_
          refine lv_iadd hx hb d_X0_emit_86 ?_
          refine va_put (D := D) (ci := 0) (v := .int ((σ0 4 1) + 0)) (ty := .int) (C := "LinkedUnits$Code") (T := TX0) (N := 2) hx hb hg iwX0 tyX0 tyX0_ok nmX0 hown hK hP hD hS 3 rfl rfl 1 (by decide) (hg _ m_152) (fun _ h9 => h9) rfl (by decide +kernel) rfl rfl (Nat.le_of_ble_eq_true rfl) d_X0_emit_87 (fun H locs hP hD hS => ?_)
          have hP : va_P D vwCl (wB cy r (upC (upF (upF (upF (upF σ0 24 (upd (σ0 24) ((σ0 4 1)).toNatClampNeg a1)) 24 (upd ((upF σ0 24 (upd (σ0 24) ((σ0 4 1)).toNatClampNeg a1)) 24) (((σ0 4 1) + 1)).toNatClampNeg a2)) 24 (upd ((upF (upF σ0 24 (upd (σ0 24) ((σ0 4 1)).toNatClampNeg a1)) 24 (upd ((upF σ0 24 (upd (σ0 24) ((σ0 4 1)).toNatClampNeg a1)) 24) (((σ0 4 1) + 1)).toNatClampNeg a2)) 24) (((σ0 4 1) + 2)).toNatClampNeg a3)) 24 (upd ((upF (upF (upF σ0 24 (upd (σ0 24) ((σ0 4 1)).toNatClampNeg a1)) 24 (upd ((upF σ0 24 (upd (σ0 24) ((σ0 4 1)).toNatClampNeg a1)) 24) (((σ0 4 1) + 1)).toNatClampNeg a2)) 24 (upd ((upF (upF σ0 24 (upd (σ0 24) ((σ0 4 1)).toNatClampNeg a1)) 24 (upd ((upF σ0 24 (upd (σ0 24) ((σ0 4 1)).toNatClampNeg a1)) 24) (((σ0 4 1) + 1)).toNatClampNeg a2)) 24) (((σ0 4 1) + 2)).toNatClampNeg a3)) 24) (((σ0 4 1) + 3)).toNatClampNeg a4)) 4 1 ((σ0 4 1) + 0))) H := hP
          have hD : va_D A (wB cy r (upC (upF (upF (upF (upF σ0 24 (upd (σ0 24) ((σ0 4 1)).toNatClampNeg a1)) 24 (upd ((upF σ0 24 (upd (σ0 24) ((σ0 4 1)).toNatClampNeg a1)) 24) (((σ0 4 1) + 1)).toNatClampNeg a2)) 24 (upd ((upF (upF σ0 24 (upd (σ0 24) ((σ0 4 1)).toNatClampNeg a1)) 24 (upd ((upF σ0 24 (upd (σ0 24) ((σ0 4 1)).toNatClampNeg a1)) 24) (((σ0 4 1) + 1)).toNatClampNeg a2)) 24) (((σ0 4 1) + 2)).toNatClampNeg a3)) 24 (upd ((upF (upF (upF σ0 24 (upd (σ0 24) ((σ0 4 1)).toNatClampNeg a1)) 24 (upd ((upF σ0 24 (upd (σ0 24) ((σ0 4 1)).toNatClampNeg a1)) 24) (((σ0 4 1) + 1)).toNatClampNeg a2)) 24 (upd ((upF (upF σ0 24 (upd (σ0 24) ((σ0 4 1)).toNatClampNeg a1)) 24 (upd ((upF σ0 24 (upd (σ0 24) ((σ0 4 1)).toNatClampNeg a1)) 24) (((σ0 4 1) + 1)).toNatClampNeg a2)) 24) (((σ0 4 1) + 2)).toNatClampNeg a3)) 24) (((σ0 4 1) + 3)).toNatClampNeg a4)) 4 1 ((σ0 4 1) + 0))) := hD
          have kp : Keep [(4, 1)] [24] σ0 (upC (upF (upF (upF (upF σ0 24 (upd (σ0 24) ((σ0 4 1)).toNatClampNeg a1)) 24 (upd ((upF σ0 24 (upd (σ0 24) ((σ0 4 1)).toNatClampNeg a1)) 24) (((σ0 4 1) + 1)).toNatClampNeg a2)) 24 (upd ((upF (upF σ0 24 (upd (σ0 24) ((σ0 4 1)).toNatClampNeg a1)) 24 (upd ((upF σ0 24 (upd (σ0 24) ((σ0 4 1)).toNatClampNeg a1)) 24) (((σ0 4 1) + 1)).toNatClampNeg a2)) 24) (((σ0 4 1) + 2)).toNatClampNeg a3)) 24 (upd ((upF (upF (upF σ0 24 (upd (σ0 24) ((σ0 4 1)).toNatClampNeg a1)) 24 (upd ((upF σ0 24 (upd (σ0 24) ((σ0 4 1)).toNatClampNeg a1)) 24) (((σ0 4 1) + 1)).toNatClampNeg a2)) 24 (upd ((upF (upF σ0 24 (upd (σ0 24) ((σ0 4 1)).toNatClampNeg a1)) 24 (upd ((upF σ0 24 (upd (σ0 24) ((σ0 4 1)).toNatClampNeg a1)) 24) (((σ0 4 1) + 1)).toNatClampNeg a2)) 24) (((σ0 4 1) + 2)).toNatClampNeg a3)) 24) (((σ0 4 1) + 3)).toNatClampNeg a4)) 4 1 ((σ0 4 1) + 0)) := keep_f kp (by decide)
          refine lv_iload hx hb d_X0_emit_90 (lv_at hl 0 rfl) ?_
          refine W.widen (k := 0) (n := 0) (Nat.le_of_ble_eq_true rfl) (Nat.le_of_ble_eq_true rfl) ?_
          exact k_iret (X := St) (w1 := fun τ => wB cy r τ) (upC (upF (upF (upF (upF σ0 24 (upd (σ0 24) ((σ0 4 1)).toNatClampNeg a1)) 24 (upd ((upF σ0 24 (upd (σ0 24) ((σ0 4 1)).toNatClampNeg a1)) 24) (((σ0 4 1) + 1)).toNatClampNeg a2)) 24 (upd ((upF (upF σ0 24 (upd (σ0 24) ((σ0 4 1)).toNatClampNeg a1)) 24 (upd ((upF σ0 24 (upd (σ0 24) ((σ0 4 1)).toNatClampNeg a1)) 24) (((σ0 4 1) + 1)).toNatClampNeg a2)) 24) (((σ0 4 1) + 2)).toNatClampNeg a3)) 24 (upd ((upF (upF (upF σ0 24 (upd (σ0 24) ((σ0 4 1)).toNatClampNeg a1)) 24 (upd ((upF σ0 24 (upd (σ0 24) ((σ0 4 1)).toNatClampNeg a1)) 24) (((σ0 4 1) + 1)).toNatClampNeg a2)) 24 (upd ((upF (upF σ0 24 (upd (σ0 24) ((σ0 4 1)).toNatClampNeg a1)) 24 (upd ((upF σ0 24 (upd (σ0 24) ((σ0 4 1)).toNatClampNeg a1)) 24) (((σ0 4 1) + 1)).toNatClampNeg a2)) 24) (((σ0 4 1) + 2)).toNatClampNeg a3)) 24) (((σ0 4 1) + 3)).toNatClampNeg a4)) 4 1 ((σ0 4 1) + 0)) hx hb hr d_X0_emit_92 hlocks hP hK hD hS ⟨i0, kp⟩
        · -- not taken at 66
          refine lv_iload_n hx hb d_X0_emit_69 rfl (lv_at hl 2 rfl) ?_
          refine va_gets hx hb hE.2.2.1 hS hown (hg _ m_1075) (fun _ h9 => h9) d_X0_emit_70 ?_
          refine va_tlen hx hb hE.2.2.2 hS (v := 61) (by decide) d_X0_emit_73 ?_
          refine lv_icmp_ge (tgt := 85) hx hb d_X0_emit_74 (by decide) (fun c_74 => ?_) (fun c_74 => ?_)
          · -- taken at 74
            refine lv_iconst (v := 0) hx hb d_X0_emit_85 (by decide) ?_
            refine lv_iadd hx hb d_X0_emit_86 ?_
            refine va_put (D := D) (ci := 0) (v := .int ((σ0 4 1) + 0)) (ty := .int) (C := "LinkedUnits$Code") (T := TX0) (N := 2) hx hb hg iwX0 tyX0 tyX0_ok nmX0 hown hK hP hD hS 3 rfl rfl 1 (by decide) (hg _ m_152) (fun _ h9 => h9) rfl (by decide +kernel) rfl rfl (Nat.le_of_ble_eq_true rfl) d_X0_emit_87 (fun H locs hP hD hS => ?_)
            have hP : va_P D vwCl (wB cy r (upC (upF (upF (upF (upF σ0 24 (upd (σ0 24) ((σ0 4 1)).toNatClampNeg a1)) 24 (upd ((upF σ0 24 (upd (σ0 24) ((σ0 4 1)).toNatClampNeg a1)) 24) (((σ0 4 1) + 1)).toNatClampNeg a2)) 24 (upd ((upF (upF σ0 24 (upd (σ0 24) ((σ0 4 1)).toNatClampNeg a1)) 24 (upd ((upF σ0 24 (upd (σ0 24) ((σ0 4 1)).toNatClampNeg a1)) 24) (((σ0 4 1) + 1)).toNatClampNeg a2)) 24) (((σ0 4 1) + 2)).toNatClampNeg a3)) 24 (upd ((upF (upF (upF σ0 24 (upd (σ0 24) ((σ0 4 1)).toNatClampNeg a1)) 24 (upd ((upF σ0 24 (upd (σ0 24) ((σ0 4 1)).toNatClampNeg a1)) 24) (((σ0 4 1) + 1)).toNatClampNeg a2)) 24 (upd ((upF (upF σ0 24 (upd (σ0 24) ((σ0 4 1)).toNatClampNeg a1)) 24 (upd ((upF σ0 24 (upd (σ0 24) ((σ0 4 1)).toNatClampNeg a1)) 24) (((σ0 4 1) + 1)).toNatClampNeg a2)) 24) (((σ0 4 1) + 2)).toNatClampNeg a3)) 24) (((σ0 4 1) + 3)).toNatClampNeg a4)) 4 1 ((σ0 4 1) + 0))) H := hP
            have hD : va_D A (wB cy r (upC (upF (upF (upF (upF σ0 24 (upd (σ0 24) ((σ0 4 1)).toNatClampNeg a1)) 24 (upd ((upF σ0 24 (upd (σ0 24) ((σ0 4 1)).toNatClampNeg a1)) 24) (((σ0 4 1) + 1)).toNatClampNeg a2)) 24 (upd ((upF (upF σ0 24 (upd (σ0 24) ((σ0 4 1)).toNatClampNeg a1)) 24 (upd ((upF σ0 24 (upd (σ0 24) ((σ0 4 1)).toNatClampNeg a1)) 24) (((σ0 4 1) + 1)).toNatClampNeg a2)) 24) (((σ0 4 1) + 2)).toNatClampNeg a3)) 24 (upd ((upF (upF (upF σ0 24 (upd (σ0 24) ((σ0 4 1)).toNatClampNeg a1)) 24 (upd ((upF σ0 24 (upd (σ0 24) ((σ0 4 1)).toNatClampNeg a1)) 24) (((σ0 4 1) + 1)).toNatClampNeg a2)) 24 (upd ((upF (upF σ0 24 (upd (σ0 24) ((σ0 4 1)).toNatClampNeg a1)) 24 (upd ((upF σ0 24 (upd (σ0 24) ((σ0 4 1)).toNatClampNeg a1)) 24) (((σ0 4 1) + 1)).toNatClampNeg a2)) 24) (((σ0 4 1) + 2)).toNatClampNeg a3)) 24) (((σ0 4 1) + 3)).toNatClampNeg a4)) 4 1 ((σ0 4 1) + 0))) := hD
            have kp : Keep [(4, 1)] [24] σ0 (upC (upF (upF (upF (upF σ0 24 (upd (σ0 24) ((σ0 4 1)).toNatClampNeg a1)) 24 (upd ((upF σ0 24 (upd (σ0 24) ((σ0 4 1)).toNatClampNeg a1)) 24) (((σ0 4 1) + 1)).toNatClampNeg a2)) 24 (upd ((upF (upF σ0 24 (upd (σ0 24) ((σ0 4 1)).toNatClampNeg a1)) 24 (upd ((upF σ0 24 (upd (σ0 24) ((σ0 4 1)).toNatClampNeg a1)) 24) (((σ0 4 1) + 1)).toNatClampNeg a2)) 24) (((σ0 4 1) + 2)).toNatClampNeg a3)) 24 (upd ((upF (upF (upF σ0 24 (upd (σ0 24) ((σ0 4 1)).toNatClampNeg a1)) 24 (upd ((upF σ0 24 (upd (σ0 24) ((σ0 4 1)).toNatClampNeg a1)) 24) (((σ0 4 1) + 1)).toNatClampNeg a2)) 24 (upd ((upF (upF σ0 24 (upd (σ0 24) ((σ0 4 1)).toNatClampNeg a1)) 24 (upd ((upF σ0 24 (upd (σ0 24) ((σ0 4 1)).toNatClampNeg a1)) 24) (((σ0 4 1) + 1)).toNatClampNeg a2)) 24) (((σ0 4 1) + 2)).toNatClampNeg a3)) 24) (((σ0 4 1) + 3)).toNatClampNeg a4)) 4 1 ((σ0 4 1) + 0)) := keep_f kp (by decide)
            refine lv_iload hx hb d_X0_emit_90 (lv_at hl 0 rfl) ?_
            refine W.widen (k := 0) (n := 0) (Nat.le_of_ble_eq_true rfl) (Nat.le_of_ble_eq_true rfl) ?_
            exact k_iret (X := St) (w1 := fun τ => wB cy r τ) (upC (upF (upF (upF (upF σ0 24 (upd (σ0 24) ((σ0 4 1)).toNatClampNeg a1)) 24 (upd ((upF σ0 24 (upd (σ0 24) ((σ0 4 1)).toNatClampNeg a1)) 24) (((σ0 4 1) + 1)).toNatClampNeg a2)) 24 (upd ((upF (upF σ0 24 (upd (σ0 24) ((σ0 4 1)).toNatClampNeg a1)) 24 (upd ((upF σ0 24 (upd (σ0 24) ((σ0 4 1)).toNatClampNeg a1)) 24) (((σ0 4 1) + 1)).toNatClampNeg a2)) 24) (((σ0 4 1) + 2)).toNatClampNeg a3)) 24 (upd ((upF (upF (upF σ0 24 (upd (σ0 24) ((σ0 4 1)).toNatClampNeg a1)) 24 (upd ((upF σ0 24 (upd (σ0 24) ((σ0 4 1)).toNatClampNeg a1)) 24) (((σ0 4 1) + 1)).toNatClampNeg a2)) 24 (upd ((upF (upF σ0 24 (upd (σ0 24) ((σ0 4 1)).toNatClampNeg a1)) 24 (upd ((upF σ0 24 (upd (σ0 24) ((σ0 4 1)).toNatClampNeg a1)) 24) (((σ0 4 1) + 1)).toNatClampNeg a2)) 24) (((σ0 4 1) + 2)).toNatClampNeg a3)) 24) (((σ0 4 1) + 3)).toNatClampNeg a4)) 4 1 ((σ0 4 1) + 0)) hx hb hr d_X0_emit_92 hlocks hP hK hD hS ⟨i0, kp⟩
          · -- not taken at 74
            refine va_gets hx hb hE.2.2.1 hS hown (hg _ m_1075) (fun _ h9 => h9) d_X0_emit_77 ?_
            refine lv_iload_n hx hb d_X0_emit_80 rfl (lv_at hl 2 rfl) ?_
            refine va_ti hx hb hE.2.2.2 hS (k_in (n := 61) (by decide) c_66 c_74) rfl d_X0_emit_81 ?_
            refine k_any (fun v1 => ?_)
            refine lv_goto (tgt := 86) hx hb d_X0_emit_82 (by decide) ?_
            refine lv_iadd hx hb d_X0_emit_86 ?_
            refine va_put (D := D) (ci := 0) (v := .int ((σ0 4 1) + v1)) (ty := .int) (C := "LinkedUnits$Code") (T := TX0) (N := 2) hx hb hg iwX0 tyX0 tyX0_ok nmX0 hown hK hP hD hS 3 rfl rfl 1 (by decide) (hg _ m_152) (fun _ h9 => h9) rfl (by decide +kernel) rfl rfl (Nat.le_of_ble_eq_true rfl) d_X0_emit_87 (fun H locs hP hD hS => ?_)
            have hP : va_P D vwCl (wB cy r (upC (upF (upF (upF (upF σ0 24 (upd (σ0 24) ((σ0 4 1)).toNatClampNeg a1)) 24 (upd ((upF σ0 24 (upd (σ0 24) ((σ0 4 1)).toNatClampNeg a1)) 24) (((σ0 4 1) + 1)).toNatClampNeg a2)) 24 (upd ((upF (upF σ0 24 (upd (σ0 24) ((σ0 4 1)).toNatClampNeg a1)) 24 (upd ((upF σ0 24 (upd (σ0 24) ((σ0 4 1)).toNatClampNeg a1)) 24) (((σ0 4 1) + 1)).toNatClampNeg a2)) 24) (((σ0 4 1) + 2)).toNatClampNeg a3)) 24 (upd ((upF (upF (upF σ0 24 (upd (σ0 24) ((σ0 4 1)).toNatClampNeg a1)) 24 (upd ((upF σ0 24 (upd (σ0 24) ((σ0 4 1)).toNatClampNeg a1)) 24) (((σ0 4 1) + 1)).toNatClampNeg a2)) 24 (upd ((upF (upF σ0 24 (upd (σ0 24) ((σ0 4 1)).toNatClampNeg a1)) 24 (upd ((upF σ0 24 (upd (σ0 24) ((σ0 4 1)).toNatClampNeg a1)) 24) (((σ0 4 1) + 1)).toNatClampNeg a2)) 24) (((σ0 4 1) + 2)).toNatClampNeg a3)) 24) (((σ0 4 1) + 3)).toNatClampNeg a4)) 4 1 ((σ0 4 1) + v1))) H := hP
            have hD : va_D A (wB cy r (upC (upF (upF (upF (upF σ0 24 (upd (σ0 24) ((σ0 4 1)).toNatClampNeg a1)) 24 (upd ((upF σ0 24 (upd (σ0 24) ((σ0 4 1)).toNatClampNeg a1)) 24) (((σ0 4 1) + 1)).toNatClampNeg a2)) 24 (upd ((upF (upF σ0 24 (upd (σ0 24) ((σ0 4 1)).toNatClampNeg a1)) 24 (upd ((upF σ0 24 (upd (σ0 24) ((σ0 4 1)).toNatClampNeg a1)) 24) (((σ0 4 1) + 1)).toNatClampNeg a2)) 24) (((σ0 4 1) + 2)).toNatClampNeg a3)) 24 (upd ((upF (upF (upF σ0 24 (upd (σ0 24) ((σ0 4 1)).toNatClampNeg a1)) 24 (upd ((upF σ0 24 (upd (σ0 24) ((σ0 4 1)).toNatClampNeg a1)) 24) (((σ0 4 1) + 1)).toNatClampNeg a2)) 24 (upd ((upF (upF σ0 24 (upd (σ0 24) ((σ0 4 1)).toNatClampNeg a1)) 24 (upd ((upF σ0 24 (upd (σ0 24) ((σ0 4 1)).toNatClampNeg a1)) 24) (((σ0 4 1) + 1)).toNatClampNeg a2)) 24) (((σ0 4 1) + 2)).toNatClampNeg a3)) 24) (((σ0 4 1) + 3)).toNatClampNeg a4)) 4 1 ((σ0 4 1) + v1))) := hD
            have kp : Keep [(4, 1)] [24] σ0 (upC (upF (upF (upF (upF σ0 24 (upd (σ0 24) ((σ0 4 1)).toNatClampNeg a1)) 24 (upd ((upF σ0 24 (upd (σ0 24) ((σ0 4 1)).toNatClampNeg a1)) 24) (((σ0 4 1) + 1)).toNatClampNeg a2)) 24 (upd ((upF (upF σ0 24 (upd (σ0 24) ((σ0 4 1)).toNatClampNeg a1)) 24 (upd ((upF σ0 24 (upd (σ0 24) ((σ0 4 1)).toNatClampNeg a1)) 24) (((σ0 4 1) + 1)).toNatClampNeg a2)) 24) (((σ0 4 1) + 2)).toNatClampNeg a3)) 24 (upd ((upF (upF (upF σ0 24 (upd (σ0 24) ((σ0 4 1)).toNatClampNeg a1)) 24 (upd ((upF σ0 24 (upd (σ0 24) ((σ0 4 1)).toNatClampNeg a1)) 24) (((σ0 4 1) + 1)).toNatClampNeg a2)) 24 (upd ((upF (upF σ0 24 (upd (σ0 24) ((σ0 4 1)).toNatClampNeg a1)) 24 (upd ((upF σ0 24 (upd (σ0 24) ((σ0 4 1)).toNatClampNeg a1)) 24) (((σ0 4 1) + 1)).toNatClampNeg a2)) 24) (((σ0 4 1) + 2)).toNatClampNeg a3)) 24) (((σ0 4 1) + 3)).toNatClampNeg a4)) 4 1 ((σ0 4 1) + v1)) := keep_f kp (by decide)
            refine lv_iload hx hb d_X0_emit_90 (lv_at hl 0 rfl) ?_
            refine W.widen (k := 0) (n := 0) (Nat.le_of_ble_eq_true rfl) (Nat.le_of_ble_eq_true rfl) ?_
            exact k_iret (X := St) (w1 := fun τ => wB cy r τ) (upC (upF (upF (upF (upF σ0 24 (upd (σ0 24) ((σ0 4 1)).toNatClampNeg a1)) 24 (upd ((upF σ0 24 (upd (σ0 24) ((σ0 4 1)).toNatClampNeg a1)) 24) (((σ0 4 1) + 1)).toNatClampNeg a2)) 24 (upd ((upF (upF σ0 24 (upd (σ0 24) ((σ0 4 1)).toNatClampNeg a1)) 24 (upd ((upF σ0 24 (upd (σ0 24) ((σ0 4 1)).toNatClampNeg a1)) 24) (((σ0 4 1) + 1)).toNatClampNeg a2)) 24) (((σ0 4 1) + 2)).toNatClampNeg a3)) 24 (upd ((upF (upF (upF σ0 24 (upd (σ0 24) ((σ0 4 1)).toNatClampNeg a1)) 24 (upd ((upF σ0 24 (upd (σ0 24) ((σ0 4 1)).toNatClampNeg a1)) 24) (((σ0 4 1) + 1)).toNatClampNeg a2)) 24 (upd ((upF (upF σ0 24 (upd (σ0 24) ((σ0 4 1)).toNatClampNeg a1)) 24 (upd ((upF σ0 24 (upd (σ0 24) ((σ0 4 1)).toNatClampNeg a1)) 24) (((σ0 4 1) + 1)).toNatClampNeg a2)) 24) (((σ0 4 1) + 2)).toNatClampNeg a3)) 24) (((σ0 4 1) + 3)).toNatClampNeg a4)) 4 1 ((σ0 4 1) + v1)) hx hb hr d_X0_emit_92 hlocks hP hK hD hS ⟨i0, kp⟩
  rw [hH] at hgoal
  exact hgoal
set_option maxHeartbeats 4000000 in
set_option maxRecDepth 100000 in
theorem s_X2_operate (l : Launch) (D : va_G) (cy : Nat → ClassId) (sz : Nat) (w : Nat → Nat) (g : Nat → Nat → Int32) (r : Nat → Nat) (σ0 : St) (a1 : Int32) (a2 : Int32) (a3 : Int32) (i0 : Inv σ0) (z_a2 : a2 = 0 ∨ a2 = 1) : Met l y_X2_operate (Cond.code y_X2_operate b_X2_operate 5 none :: GW) ({ frames := 1, cells := 0, slots := 0, locals := 25 } : Room) (va_Pc [.ref (r 7), .int a1, .int a2, .int a3] (kPreE D cy sz (wB cy r σ0) (gE w g))) ((fun A : Nat → Prop => va_Qv (S := St) (fun (τ : St) => (Inv τ ∧ Keep [(4, 1)] [24] σ0 τ)) (fun τ => kPost D cy A (wB cy r τ)) A) (va_A (wB cy r σ0) sz)) 0 0 (va_A (wB cy r σ0) sz) := by
  refine k_ofWE (Qc := fun A => va_Qv (S := St) (fun (τ : St) => (Inv τ ∧ Keep [(4, 1)] [24] σ0 τ)) (fun τ => kPost D cy A (wB cy r τ)) A) (by decide) (Nat.le_of_ble_eq_true rfl) ?_
  intro p e s m below meth c A ls hx hb hr hml hown hlocks hin hg hNW hK hP hD hA hS hl hE
  have hl : lv_has ls 5 [(0, .ref (r 7)), (1, .int a1), (2, .int a2), (3, .int a3)] := hl
  have hown : s.vm.findClass "LinkedUnits$Expressions" = some m.cls := hown
  have kp : Keep [(4, 1)] [24] σ0 σ0 := keep_rf
  obtain ⟨H, hH⟩ : ∃ H, H = s.heap := ⟨_, rfl⟩
  rw [← hH] at hP
  have hS : va_S A s.heap H [] := by rw [hH]; exact va_S.rf
  have hgoal : W p l e ({ frames := 1, cells := 0, slots := 0, locals := 25 } : Room) s m (([.ref (r 7), .int a1, .int a2, .int a3] : List Value).toArray) below meth c H [] 0 0 (MQ below (va_Qv (S := St) (fun (τ : St) => (Inv τ ∧ Keep [(4, 1)] [24] σ0 τ)) (fun τ => kPost D cy A (wB cy r τ)) A) (([.ref (r 7), .int a1, .int a2, .int a3] : List Value).toArray) s 0 0 A) (F0 m 0 ls []) := by
    refine lv_iload_n hx hb d_X2_operate_0 rfl (lv_at hl 2 rfl) ?_
    refine lv_if_eq (tgt := 20) hx hb d_X2_operate_1 (by decide) (fun c_1 => ?_) (fun c_1 => ?_)
    · -- taken at 1
      refine lv_iconst (v := 0) hx hb d_X2_operate_20 (by decide) ?_
      refine lv_istore (lv' := [(4, .int 0), (0, .ref (r 7)), (1, .int a1), (2, .int a2), (3, .int a3)]) hx hb d_X2_operate_21 hl (by decide) rfl (fun ls hl => ?_)
      refine lv_aload_n hx hb d_X2_operate_23 rfl (lv_at hl 1 rfl) ?_
      refine va_get (D := D) (ci := 2) (v := .ref (r 4)) (C := "LinkedUnits$Expressions") (T := TX2) (N := 8) hx hb hg iwX2 hown hK hP 6 rfl rfl 4 (by decide) (hg _ m_461) (fun _ h9 => h9) rfl d_X2_operate_24 ?_
      refine lv_iload hx hb d_X2_operate_27 (lv_at hl 0 rfl) ?_
      refine lv_if_eq (tgt := 38) hx hb d_X2_operate_29 (by decide) (fun _ => ?_) (fun c_29 => False.elim (by revert c_29; decide))
      refine lv_iload_n hx hb d_X2_operate_38 rfl (lv_at hl 2 rfl) ?_
      refine lv_iload_n hx hb d_X2_operate_39 rfl (lv_at hl 4 rfl) ?_
      refine lv_iconst (v := 0) hx hb d_X2_operate_40 (by decide) ?_
      refine lv_iconst (v := 0) hx hb d_X2_operate_41 (by decide) ?_
      refine s_calli (X := St) (w1 := fun τ => wB cy r τ) (va_runVN (As := [.int a1, .int a3, .int 0, .int 0]) (rest := []) ⟨hx, hb, hml, hown, hg⟩ (s_X0_emit l D cy H.size w g r σ0 a1 a3 (0 : Int32) (0 : Int32) i0 ) ⟨(va_cnB 4 hg (gw_c m_1074) rfl rfl rfl (hNW.1 _ nm_1071) (hg _ m_4) (by decide +kernel) ⟨(Nat.le_of_ble_eq_true rfl), (Nat.le_of_ble_eq_true rfl)⟩), (hg _ m_1073), hg _ ms_X0_emit⟩ (s_preVE (As := [.int a1, .int a3, .int 0, .int 0]) (gE_ok w g) hS hA hE hP hD hK hNW 3 rfl rfl) rfl rfl hl.1 rfl (lv_room (Nat.le_of_ble_eq_true rfl)) d_X2_operate_42 ⟨(Nat.le_of_ble_eq_true rfl), (Nat.le_of_ble_eq_true rfl)⟩) hP hD hS hA (fun r1 σ1 H locs hw hP hD hS => ?_)
      have hP : va_P D vwCl (wB cy r σ1) H := hP
      have hD : va_D A (wB cy r σ1) := hD
      have ik1 : Keep [(4, 1)] [24] σ0 σ1 := hw.2
      have kp : Keep [(4, 1)] [24] σ0 σ1 := keep_c kp ik1 (by decide) (by decide)
      have i1 : Inv σ1 := hw.1
      refine lv_pop hx hb d_X2_operate_45 rfl ?_
      refine W.widen (k := 0) (n := 0) (Nat.le_of_ble_eq_true rfl) (Nat.le_of_ble_eq_true rfl) ?_
      exact k_vret (X := St) (w1 := fun τ => wB cy r τ) σ1 hx hb hr d_X2_operate_46 hlocks hP hK hD hS ⟨i1, kp⟩
    · -- not taken at 1
      refine lv_iload_n hx hb d_X2_operate_4 rfl (lv_at hl 1 rfl) ?_
      refine lv_bipush (v := 53) hx hb d_X2_operate_5 (by decide) ?_
      refine lv_icmp_lt (tgt := 20) hx hb d_X2_operate_7 (by decide) (fun c_7 => ?_) (fun c_7 => ?_)
      · -- taken at 7
        refine lv_iconst (v := 0) hx hb d_X2_operate_20 (by decide) ?_
        refine lv_istore (lv' := [(4, .int 0), (0, .ref (r 7)), (1, .int a1), (2, .int a2), (3, .int a3)]) hx hb d_X2_operate_21 hl (by decide) rfl (fun ls hl => ?_)
        refine lv_aload_n hx hb d_X2_operate_23 rfl (lv_at hl 1 rfl) ?_
        refine va_get (D := D) (ci := 2) (v := .ref (r 4)) (C := "LinkedUnits$Expressions") (T := TX2) (N := 8) hx hb hg iwX2 hown hK hP 6 rfl rfl 4 (by decide) (hg _ m_461) (fun _ h9 => h9) rfl d_X2_operate_24 ?_
        refine lv_iload hx hb d_X2_operate_27 (lv_at hl 0 rfl) ?_
        refine lv_if_eq (tgt := 38) hx hb d_X2_operate_29 (by decide) (fun _ => ?_) (fun c_29 => False.elim (by revert c_29; decide))
        refine lv_iload_n hx hb d_X2_operate_38 rfl (lv_at hl 2 rfl) ?_
        refine lv_iload_n hx hb d_X2_operate_39 rfl (lv_at hl 4 rfl) ?_
        refine lv_iconst (v := 0) hx hb d_X2_operate_40 (by decide) ?_
        refine lv_iconst (v := 0) hx hb d_X2_operate_41 (by decide) ?_
        refine s_calli (X := St) (w1 := fun τ => wB cy r τ) (va_runVN (As := [.int a1, .int a3, .int 0, .int 0]) (rest := []) ⟨hx, hb, hml, hown, hg⟩ (s_X0_emit l D cy H.size w g r σ0 a1 a3 (0 : Int32) (0 : Int32) i0 ) ⟨(va_cnB 4 hg (gw_c m_1074) rfl rfl rfl (hNW.1 _ nm_1071) (hg _ m_4) (by decide +kernel) ⟨(Nat.le_of_ble_eq_true rfl), (Nat.le_of_ble_eq_true rfl)⟩), (hg _ m_1073), hg _ ms_X0_emit⟩ (s_preVE (As := [.int a1, .int a3, .int 0, .int 0]) (gE_ok w g) hS hA hE hP hD hK hNW 3 rfl rfl) rfl rfl hl.1 rfl (lv_room (Nat.le_of_ble_eq_true rfl)) d_X2_operate_42 ⟨(Nat.le_of_ble_eq_true rfl), (Nat.le_of_ble_eq_true rfl)⟩) hP hD hS hA (fun r2 σ2 H locs hw hP hD hS => ?_)
        have hP : va_P D vwCl (wB cy r σ2) H := hP
        have hD : va_D A (wB cy r σ2) := hD
        have ik2 : Keep [(4, 1)] [24] σ0 σ2 := hw.2
        have kp : Keep [(4, 1)] [24] σ0 σ2 := keep_c kp ik2 (by decide) (by decide)
        have i2 : Inv σ2 := hw.1
        refine lv_pop hx hb d_X2_operate_45 rfl ?_
        refine W.widen (k := 0) (n := 0) (Nat.le_of_ble_eq_true rfl) (Nat.le_of_ble_eq_true rfl) ?_
        exact k_vret (X := St) (w1 := fun τ => wB cy r τ) σ2 hx hb hr d_X2_operate_46 hlocks hP hK hD hS ⟨i2, kp⟩
      · -- not taken at 7
        refine lv_iload_n hx hb d_X2_operate_10 rfl (lv_at hl 1 rfl) ?_
        refine lv_bipush (v := 56) hx hb d_X2_operate_11 (by decide) ?_
        refine lv_icmp_gt (tgt := 20) hx hb d_X2_operate_13 (by decide) (fun c_13 => ?_) (fun c_13 => ?_)
        · -- taken at 13
          refine lv_iconst (v := 0) hx hb d_X2_operate_20 (by decide) ?_
          refine lv_istore (lv' := [(4, .int 0), (0, .ref (r 7)), (1, .int a1), (2, .int a2), (3, .int a3)]) hx hb d_X2_operate_21 hl (by decide) rfl (fun ls hl => ?_)
          refine lv_aload_n hx hb d_X2_operate_23 rfl (lv_at hl 1 rfl) ?_
          refine va_get (D := D) (ci := 2) (v := .ref (r 4)) (C := "LinkedUnits$Expressions") (T := TX2) (N := 8) hx hb hg iwX2 hown hK hP 6 rfl rfl 4 (by decide) (hg _ m_461) (fun _ h9 => h9) rfl d_X2_operate_24 ?_
          refine lv_iload hx hb d_X2_operate_27 (lv_at hl 0 rfl) ?_
          refine lv_if_eq (tgt := 38) hx hb d_X2_operate_29 (by decide) (fun _ => ?_) (fun c_29 => False.elim (by revert c_29; decide))
          refine lv_iload_n hx hb d_X2_operate_38 rfl (lv_at hl 2 rfl) ?_
          refine lv_iload_n hx hb d_X2_operate_39 rfl (lv_at hl 4 rfl) ?_
          refine lv_iconst (v := 0) hx hb d_X2_operate_40 (by decide) ?_
          refine lv_iconst (v := 0) hx hb d_X2_operate_41 (by decide) ?_
          refine s_calli (X := St) (w1 := fun τ => wB cy r τ) (va_runVN (As := [.int a1, .int a3, .int 0, .int 0]) (rest := []) ⟨hx, hb, hml, hown, hg⟩ (s_X0_emit l D cy H.size w g r σ0 a1 a3 (0 : Int32) (0 : Int32) i0 ) ⟨(va_cnB 4 hg (gw_c m_1074) rfl rfl rfl (hNW.1 _ nm_1071) (hg _ m_4) (by decide +kernel) ⟨(Nat.le_of_ble_eq_true rfl), (Nat.le_of_ble_eq_true rfl)⟩), (hg _ m_1073), hg _ ms_X0_emit⟩ (s_preVE (As := [.int a1, .int a3, .int 0, .int 0]) (gE_ok w g) hS hA hE hP hD hK hNW 3 rfl rfl) rfl rfl hl.1 rfl (lv_room (Nat.le_of_ble_eq_true rfl)) d_X2_operate_42 ⟨(Nat.le_of_ble_eq_true rfl), (Nat.le_of_ble_eq_true rfl)⟩) hP hD hS hA (fun r3 σ3 H locs hw hP hD hS => ?_)
          have hP : va_P D vwCl (wB cy r σ3) H := hP
          have hD : va_D A (wB cy r σ3) := hD
          have ik3 : Keep [(4, 1)] [24] σ0 σ3 := hw.2
          have kp : Keep [(4, 1)] [24] σ0 σ3 := keep_c kp ik3 (by decide) (by decide)
          have i3 : Inv σ3 := hw.1
          refine lv_pop hx hb d_X2_operate_45 rfl ?_
          refine W.widen (k := 0) (n := 0) (Nat.le_of_ble_eq_true rfl) (Nat.le_of_ble_eq_true rfl) ?_
          exact k_vret (X := St) (w1 := fun τ => wB cy r τ) σ3 hx hb hr d_X2_operate_46 hlocks hP hK hD hS ⟨i3, kp⟩
        · -- not taken at 13
          refine lv_iconst (v := 1) hx hb d_X2_operate_16 (by decide) ?_
          refine lv_goto (tgt := 21) hx hb d_X2_operate_17 (by decide) ?_
          refine lv_istore (lv' := [(4, .int 1), (0, .ref (r 7)), (1, .int a1), (2, .int a2), (3, .int a3)]) hx hb d_X2_operate_21 hl (by decide) rfl (fun ls hl => ?_)
          refine lv_aload_n hx hb d_X2_operate_23 rfl (lv_at hl 1 rfl) ?_
          refine va_get (D := D) (ci := 2) (v := .ref (r 4)) (C := "LinkedUnits$Expressions") (T := TX2) (N := 8) hx hb hg iwX2 hown hK hP 6 rfl rfl 4 (by decide) (hg _ m_461) (fun _ h9 => h9) rfl d_X2_operate_24 ?_
          refine lv_iload hx hb d_X2_operate_27 (lv_at hl 0 rfl) ?_
          refine lv_if_eq (tgt := 38) hx hb d_X2_operate_29 (by decide) (fun c_29 => absurd c_29 (by decide)) (fun _ => ?_)
          refine lv_iload_n hx hb d_X2_operate_32 rfl (lv_at hl 2 rfl) ?_
          refine lv_iconst (v := 4) hx hb d_X2_operate_33 (by decide) ?_
          refine lv_iadd hx hb d_X2_operate_34 ?_
          refine lv_goto (tgt := 39) hx hb d_X2_operate_35 (by decide) ?_
          refine lv_iload_n hx hb d_X2_operate_39 rfl (lv_at hl 4 rfl) ?_
          refine lv_iconst (v := 0) hx hb d_X2_operate_40 (by decide) ?_
          refine lv_iconst (v := 0) hx hb d_X2_operate_41 (by decide) ?_
          refine s_calli (X := St) (w1 := fun τ => wB cy r τ) (va_runVN (As := [.int (a1 + 4), .int a3, .int 0, .int 0]) (rest := []) ⟨hx, hb, hml, hown, hg⟩ (s_X0_emit l D cy H.size w g r σ0 (a1 + 4) a3 (0 : Int32) (0 : Int32) i0 ) ⟨(va_cnB 4 hg (gw_c m_1074) rfl rfl rfl (hNW.1 _ nm_1071) (hg _ m_4) (by decide +kernel) ⟨(Nat.le_of_ble_eq_true rfl), (Nat.le_of_ble_eq_true rfl)⟩), (hg _ m_1073), hg _ ms_X0_emit⟩ (s_preVE (As := [.int (a1 + 4), .int a3, .int 0, .int 0]) (gE_ok w g) hS hA hE hP hD hK hNW 3 rfl rfl) rfl rfl hl.1 rfl (lv_room (Nat.le_of_ble_eq_true rfl)) d_X2_operate_42 ⟨(Nat.le_of_ble_eq_true rfl), (Nat.le_of_ble_eq_true rfl)⟩) hP hD hS hA (fun r4 σ4 H locs hw hP hD hS => ?_)
          have hP : va_P D vwCl (wB cy r σ4) H := hP
          have hD : va_D A (wB cy r σ4) := hD
          have ik4 : Keep [(4, 1)] [24] σ0 σ4 := hw.2
          have kp : Keep [(4, 1)] [24] σ0 σ4 := keep_c kp ik4 (by decide) (by decide)
          have i4 : Inv σ4 := hw.1
          refine lv_pop hx hb d_X2_operate_45 rfl ?_
          refine W.widen (k := 0) (n := 0) (Nat.le_of_ble_eq_true rfl) (Nat.le_of_ble_eq_true rfl) ?_
          exact k_vret (X := St) (w1 := fun τ => wB cy r τ) σ4 hx hb hr d_X2_operate_46 hlocks hP hK hD hS ⟨i4, kp⟩
  rw [hH] at hgoal
  exact hgoal
set_option maxHeartbeats 4000000 in
set_option maxRecDepth 100000 in
theorem s_X7_turn (l : Launch) (D : va_G) (cy : Nat → ClassId) (sz : Nat) (w : Nat → Nat) (g : Nat → Nat → Int32) (r : Nat → Nat) (σ0 : St) (a1 : Int32) (i0 : Inv σ0) : Met l y_X7_turn (Cond.code y_X7_turn b_X7_turn 2 none :: GW) ({ frames := 1, cells := 0, slots := 0, locals := 25 } : Room) (va_Pc [.ref (r 9), .int a1] (kPreE D cy sz (wB cy r σ0) (gE w g))) ((fun A : Nat → Prop => va_Qv (S := St) (fun (τ : St) => (Inv τ ∧ Keep [(4, 1)] [24] σ0 τ)) (fun τ => kPost D cy A (wB cy r τ)) A) (va_A (wB cy r σ0) sz)) 0 0 (va_A (wB cy r σ0) sz) := by
  refine k_ofWE (Qc := fun A => va_Qv (S := St) (fun (τ : St) => (Inv τ ∧ Keep [(4, 1)] [24] σ0 τ)) (fun τ => kPost D cy A (wB cy r τ)) A) (by decide) (Nat.le_of_ble_eq_true rfl) ?_
  intro p e s m below meth c A ls hx hb hr hml hown hlocks hin hg hNW hK hP hD hA hS hl hE
  have hl : lv_has ls 2 [(0, .ref (r 9)), (1, .int a1)] := hl
  have hown : s.vm.findClass "LinkedUnits$Statements" = some m.cls := hown
  have kp : Keep [(4, 1)] [24] σ0 σ0 := keep_rf
  obtain ⟨H, hH⟩ : ∃ H, H = s.heap := ⟨_, rfl⟩
  rw [← hH] at hP
  have hS : va_S A s.heap H [] := by rw [hH]; exact va_S.rf
  have hgoal : W p l e ({ frames := 1, cells := 0, slots := 0, locals := 25 } : Room) s m (([.ref (r 9), .int a1] : List Value).toArray) below meth c H [] 0 0 (MQ below (va_Qv (S := St) (fun (τ : St) => (Inv τ ∧ Keep [(4, 1)] [24] σ0 τ)) (fun τ => kPost D cy A (wB cy r τ)) A) (([.ref (r 9), .int a1] : List Value).toArray) s 0 0 A) (F0 m 0 ls []) := by
    refine lv_aload_n hx hb d_X7_turn_0 rfl (lv_at hl 0 rfl) ?_
    refine va_get (D := D) (ci := 7) (v := .ref (r 4)) (C := "LinkedUnits$Statements") (T := TX7) (N := 12) hx hb hg iwX7 hown hK hP 8 rfl rfl 2 (by decide) (hg _ m_555) (fun _ h9 => h9) rfl d_X7_turn_1 ?_
    refine lv_bipush (v := 31) hx hb d_X7_turn_4 (by decide) ?_
    refine lv_aload_n hx hb d_X7_turn_6 rfl (lv_at hl 0 rfl) ?_
    refine va_get (D := D) (ci := 7) (v := .ref (r 6)) (C := "LinkedUnits$Statements") (T := TX7) (N := 12) hx hb hg iwX7 hown hK hP 8 rfl rfl 1 (by decide) (hg _ m_554) (fun _ h9 => h9) rfl d_X7_turn_7 ?_
    refine va_getN (D := D) (ci := 11) (v := .ref (r 2)) (C := "LinkedUnits$Unit") (T := TX11) (N := 19) hx hb hg iwX11 hown hK hP 5 rfl rfl 0 (by decide) (va_Nw.use rfl (hNW.1 _ nm_306)) (fun _ h9 => h9) rfl d_X7_turn_10 ?_
    refine va_getN (D := D) (ci := 10) (v := .ref (r 16)) (C := "LinkedUnits$Tokens") (T := TX10) (N := 10) hx hb hg iwX10 hown hK hP 1 rfl rfl 8 (by decide) (va_Nw.use rfl (hNW.1 _ nm_61)) (fun _ h9 => h9) rfl d_X7_turn_13 ?_
    refine lv_iload_n hx hb d_X7_turn_16 rfl (lv_at hl 1 rfl) ?_
    refine s_call1 (x := ((r 16), .inl (cy 1, 16002, .inl (σ0 16)))) 15 rfl (va_runSN (As := [.ref (r 16), .int a1]) (rest := [.int 31, .ref (r 4)]) ⟨hx, hb, hml, hown, hg⟩ (c_at_any l D cy H.size (r 16) 16002 (σ0 16) a1 (Nat.le_of_ble_eq_true rfl)) ⟨(va_cnB 2 hg (gw_c m_949) rfl rfl rfl (hNW.1 _ nm_1053) (hg _ m_1) (by decide +kernel) ⟨(Nat.le_of_ble_eq_true rfl), (Nat.le_of_ble_eq_true rfl)⟩), hg _ m_948, trivial⟩ (s_pre (ws := [((r 16), .inl (cy 1, 16002, .inl (σ0 16)))]) (s_sub1 15 hP rfl) (s_subD 15 hD rfl) hK hNW) rfl rfl hl.1 rfl (lv_room (Nat.le_of_ble_eq_true rfl)) d_X7_turn_17 ⟨(Nat.le_of_ble_eq_true rfl), (Nat.le_of_ble_eq_true rfl)⟩) hP hD hS hA (fun r1 u1 H locs hw hP hD hS => ?_)
    have hP : va_P D vwCl (wB cy r σ0) H := hP
    have hD : va_D A (wB cy r σ0) := hD
    refine lv_iconst (v := 0) hx hb d_X7_turn_20 (by decide) ?_
    refine lv_iconst (v := 0) hx hb d_X7_turn_21 (by decide) ?_
    refine s_calli (X := St) (w1 := fun τ => wB cy r τ) (va_runVN (As := [.int 31, .int r1, .int 0, .int 0]) (rest := []) ⟨hx, hb, hml, hown, hg⟩ (s_X0_emit l D cy H.size w g r σ0 (31 : Int32) r1 (0 : Int32) (0 : Int32) i0 ) ⟨(va_cnB 4 hg (gw_c m_1074) rfl rfl rfl (hNW.1 _ nm_1298) (hg _ m_4) (by decide +kernel) ⟨(Nat.le_of_ble_eq_true rfl), (Nat.le_of_ble_eq_true rfl)⟩), (hg _ m_1073), hg _ ms_X0_emit⟩ (s_preVE (As := [.int 31, .int r1, .int 0, .int 0]) (gE_ok w g) hS hA hE hP hD hK hNW 3 rfl rfl) rfl rfl hl.1 rfl (lv_room (Nat.le_of_ble_eq_true rfl)) d_X7_turn_22 ⟨(Nat.le_of_ble_eq_true rfl), (Nat.le_of_ble_eq_true rfl)⟩) hP hD hS hA (fun r2 σ2 H locs hw hP hD hS => ?_)
    have hP : va_P D vwCl (wB cy r σ2) H := hP
    have hD : va_D A (wB cy r σ2) := hD
    have ik2 : Keep [(4, 1)] [24] σ0 σ2 := hw.2
    have kp : Keep [(4, 1)] [24] σ0 σ2 := keep_c kp ik2 (by decide) (by decide)
    have i2 : Inv σ2 := hw.1
    refine lv_pop hx hb d_X7_turn_25 rfl ?_
    refine W.widen (k := 0) (n := 0) (Nat.le_of_ble_eq_true rfl) (Nat.le_of_ble_eq_true rfl) ?_
    exact k_vret (X := St) (w1 := fun τ => wB cy r τ) σ2 hx hb hr d_X7_turn_26 hlocks hP hK hD hS ⟨i2, kp⟩
  rw [hH] at hgoal
  exact hgoal
set_option maxHeartbeats 4000000 in
set_option maxRecDepth 100000 in
theorem s_X7_jumpBack (l : Launch) (D : va_G) (cy : Nat → ClassId) (sz : Nat) (w : Nat → Nat) (g : Nat → Nat → Int32) (r : Nat → Nat) (σ0 : St) (a1 : Int32) (i0 : Inv σ0) : Met l y_X7_jumpBack (Cond.code y_X7_jumpBack b_X7_jumpBack 2 none :: GW) ({ frames := 1, cells := 0, slots := 0, locals := 25 } : Room) (va_Pc [.ref (r 9), .int a1] (kPreE D cy sz (wB cy r σ0) (gE w g))) ((fun A : Nat → Prop => va_Qv (S := St) (fun (τ : St) => (Inv τ ∧ Keep [(4, 1)] [24] σ0 τ)) (fun τ => kPost D cy A (wB cy r τ)) A) (va_A (wB cy r σ0) sz)) 0 0 (va_A (wB cy r σ0) sz) := by
  refine k_ofWE (Qc := fun A => va_Qv (S := St) (fun (τ : St) => (Inv τ ∧ Keep [(4, 1)] [24] σ0 τ)) (fun τ => kPost D cy A (wB cy r τ)) A) (by decide) (Nat.le_of_ble_eq_true rfl) ?_
  intro p e s m below meth c A ls hx hb hr hml hown hlocks hin hg hNW hK hP hD hA hS hl hE
  have hl : lv_has ls 2 [(0, .ref (r 9)), (1, .int a1)] := hl
  have hown : s.vm.findClass "LinkedUnits$Statements" = some m.cls := hown
  have kp : Keep [(4, 1)] [24] σ0 σ0 := keep_rf
  obtain ⟨H, hH⟩ : ∃ H, H = s.heap := ⟨_, rfl⟩
  rw [← hH] at hP
  have hS : va_S A s.heap H [] := by rw [hH]; exact va_S.rf
  have hgoal : W p l e ({ frames := 1, cells := 0, slots := 0, locals := 25 } : Room) s m (([.ref (r 9), .int a1] : List Value).toArray) below meth c H [] 0 0 (MQ below (va_Qv (S := St) (fun (τ : St) => (Inv τ ∧ Keep [(4, 1)] [24] σ0 τ)) (fun τ => kPost D cy A (wB cy r τ)) A) (([.ref (r 9), .int a1] : List Value).toArray) s 0 0 A) (F0 m 0 ls []) := by
    refine lv_aload_n hx hb d_X7_jumpBack_0 rfl (lv_at hl 0 rfl) ?_
    refine va_get (D := D) (ci := 7) (v := .ref (r 4)) (C := "LinkedUnits$Statements") (T := TX7) (N := 12) hx hb hg iwX7 hown hK hP 8 rfl rfl 2 (by decide) (hg _ m_555) (fun _ h9 => h9) rfl d_X7_jumpBack_1 ?_
    refine lv_bipush (v := 26) hx hb d_X7_jumpBack_4 (by decide) ?_
    refine lv_iload_n hx hb d_X7_jumpBack_6 rfl (lv_at hl 1 rfl) ?_
    refine lv_iconst (v := 0) hx hb d_X7_jumpBack_7 (by decide) ?_
    refine lv_iconst (v := 0) hx hb d_X7_jumpBack_8 (by decide) ?_
    refine s_calli (X := St) (w1 := fun τ => wB cy r τ) (va_runVN (As := [.int 26, .int a1, .int 0, .int 0]) (rest := []) ⟨hx, hb, hml, hown, hg⟩ (s_X0_emit l D cy H.size w g r σ0 (26 : Int32) a1 (0 : Int32) (0 : Int32) i0 ) ⟨(va_cnB 4 hg (gw_c m_1074) rfl rfl rfl (hNW.1 _ nm_1298) (hg _ m_4) (by decide +kernel) ⟨(Nat.le_of_ble_eq_true rfl), (Nat.le_of_ble_eq_true rfl)⟩), (hg _ m_1073), hg _ ms_X0_emit⟩ (s_preVE (As := [.int 26, .int a1, .int 0, .int 0]) (gE_ok w g) hS hA hE hP hD hK hNW 3 rfl rfl) rfl rfl hl.1 rfl (lv_room (Nat.le_of_ble_eq_true rfl)) d_X7_jumpBack_9 ⟨(Nat.le_of_ble_eq_true rfl), (Nat.le_of_ble_eq_true rfl)⟩) hP hD hS hA (fun r1 σ1 H locs hw hP hD hS => ?_)
    have hP : va_P D vwCl (wB cy r σ1) H := hP
    have hD : va_D A (wB cy r σ1) := hD
    have ik1 : Keep [(4, 1)] [24] σ0 σ1 := hw.2
    have kp : Keep [(4, 1)] [24] σ0 σ1 := keep_c kp ik1 (by decide) (by decide)
    have i1 : Inv σ1 := hw.1
    refine lv_pop hx hb d_X7_jumpBack_12 rfl ?_
    refine W.widen (k := 0) (n := 0) (Nat.le_of_ble_eq_true rfl) (Nat.le_of_ble_eq_true rfl) ?_
    exact k_vret (X := St) (w1 := fun τ => wB cy r τ) σ1 hx hb hr d_X7_jumpBack_13 hlocks hP hK hD hS ⟨i1, kp⟩
  rw [hH] at hgoal
  exact hgoal
set_option maxHeartbeats 4000000 in
set_option maxRecDepth 100000 in
theorem s_X1_storeLocal (l : Launch) (D : va_G) (cy : Nat → ClassId) (sz : Nat) (w : Nat → Nat) (g : Nat → Nat → Int32) (r : Nat → Nat) (σ0 : St) (i0 : Inv σ0) : Met l y_X1_storeLocal (Cond.code y_X1_storeLocal b_X1_storeLocal 1 none :: GW) ({ frames := 1, cells := 0, slots := 0, locals := 25 } : Room) (va_Pc [.ref (r 8)] (kPreE D cy sz (wB cy r σ0) (gE w g))) ((fun A : Nat → Prop => va_Qv (S := St) (fun (τ : St) => (Inv τ ∧ Keep [(4, 1)] [24] σ0 τ)) (fun τ => kPost D cy A (wB cy r τ)) A) (va_A (wB cy r σ0) sz)) 0 0 (va_A (wB cy r σ0) sz) := by
  refine k_ofWE (Qc := fun A => va_Qv (S := St) (fun (τ : St) => (Inv τ ∧ Keep [(4, 1)] [24] σ0 τ)) (fun τ => kPost D cy A (wB cy r τ)) A) (by decide) (Nat.le_of_ble_eq_true rfl) ?_
  intro p e s m below meth c A ls hx hb hr hml hown hlocks hin hg hNW hK hP hD hA hS hl hE
  have hl : lv_has ls 1 [(0, .ref (r 8))] := hl
  have hown : s.vm.findClass "LinkedUnits$Declarations" = some m.cls := hown
  have kp : Keep [(4, 1)] [24] σ0 σ0 := keep_rf
  obtain ⟨H, hH⟩ : ∃ H, H = s.heap := ⟨_, rfl⟩
  rw [← hH] at hP
  have hS : va_S A s.heap H [] := by rw [hH]; exact va_S.rf
  have hgoal : W p l e ({ frames := 1, cells := 0, slots := 0, locals := 25 } : Room) s m (([.ref (r 8)] : List Value).toArray) below meth c H [] 0 0 (MQ below (va_Qv (S := St) (fun (τ : St) => (Inv τ ∧ Keep [(4, 1)] [24] σ0 τ)) (fun τ => kPost D cy A (wB cy r τ)) A) (([.ref (r 8)] : List Value).toArray) s 0 0 A) (F0 m 0 ls []) := by
    refine lv_aload_n hx hb d_X1_storeLocal_0 rfl (lv_at hl 0 rfl) ?_
    refine va_get (D := D) (ci := 1) (v := .ref (r 4)) (C := "LinkedUnits$Declarations") (T := TX1) (N := 18) hx hb hg iwX1 hown hK hP 7 rfl rfl 4 (by decide) (hg _ m_493) (fun _ h9 => h9) rfl d_X1_storeLocal_1 ?_
    refine lv_bipush (v := 9) hx hb d_X1_storeLocal_4 (by decide) ?_
    refine lv_aload_n hx hb d_X1_storeLocal_6 rfl (lv_at hl 0 rfl) ?_
    refine va_get (D := D) (ci := 1) (v := .int (σ0 8 10)) (C := "LinkedUnits$Declarations") (T := TX1) (N := 18) hx hb hg iwX1 hown hK hP 7 rfl rfl 10 (by decide) (hg _ m_502) (fun _ h9 => h9) rfl d_X1_storeLocal_7 ?_
    refine lv_iconst (v := 0) hx hb d_X1_storeLocal_10 (by decide) ?_
    refine lv_iconst (v := 0) hx hb d_X1_storeLocal_11 (by decide) ?_
    refine s_calli (X := St) (w1 := fun τ => wB cy r τ) (va_runVN (As := [.int 9, .int (σ0 8 10), .int 0, .int 0]) (rest := []) ⟨hx, hb, hml, hown, hg⟩ (s_X0_emit l D cy H.size w g r σ0 (9 : Int32) (σ0 8 10) (0 : Int32) (0 : Int32) i0 ) ⟨(va_cnB 4 hg (gw_c m_1074) rfl rfl rfl (hNW.1 _ nm_1379) (hg _ m_4) (by decide +kernel) ⟨(Nat.le_of_ble_eq_true rfl), (Nat.le_of_ble_eq_true rfl)⟩), (hg _ m_1073), hg _ ms_X0_emit⟩ (s_preVE (As := [.int 9, .int (σ0 8 10), .int 0, .int 0]) (gE_ok w g) hS hA hE hP hD hK hNW 3 rfl rfl) rfl rfl hl.1 rfl (lv_room (Nat.le_of_ble_eq_true rfl)) d_X1_storeLocal_12 ⟨(Nat.le_of_ble_eq_true rfl), (Nat.le_of_ble_eq_true rfl)⟩) hP hD hS hA (fun r1 σ1 H locs hw hP hD hS => ?_)
    have hP : va_P D vwCl (wB cy r σ1) H := hP
    have hD : va_D A (wB cy r σ1) := hD
    have ik1 : Keep [(4, 1)] [24] σ0 σ1 := hw.2
    have kp : Keep [(4, 1)] [24] σ0 σ1 := keep_c kp ik1 (by decide) (by decide)
    have i1 : Inv σ1 := hw.1
    refine lv_pop hx hb d_X1_storeLocal_15 rfl ?_
    refine lv_aload_n hx hb d_X1_storeLocal_16 rfl (lv_at hl 0 rfl) ?_
    refine va_get (D := D) (ci := 1) (v := .ref (r 4)) (C := "LinkedUnits$Declarations") (T := TX1) (N := 18) hx hb hg iwX1 hown hK hP 7 rfl rfl 4 (by decide) (hg _ m_493) (fun _ h9 => h9) rfl d_X1_storeLocal_17 ?_
    refine lv_iconst (v := 2) hx hb d_X1_storeLocal_20 (by decide) ?_
    refine lv_iconst (v := 0) hx hb d_X1_storeLocal_21 (by decide) ?_
    refine lv_iconst (v := 0) hx hb d_X1_storeLocal_22 (by decide) ?_
    refine lv_iconst (v := 0) hx hb d_X1_storeLocal_23 (by decide) ?_
    refine s_calli (X := St) (w1 := fun τ => wB cy r τ) (va_runVN (As := [.int 2, .int 0, .int 0, .int 0]) (rest := []) ⟨hx, hb, hml, hown, hg⟩ (s_X0_emit l D cy H.size w g r σ1 (2 : Int32) (0 : Int32) (0 : Int32) (0 : Int32) i1 ) ⟨(va_cnB 4 hg (gw_c m_1074) rfl rfl rfl (hNW.1 _ nm_1379) (hg _ m_4) (by decide +kernel) ⟨(Nat.le_of_ble_eq_true rfl), (Nat.le_of_ble_eq_true rfl)⟩), (hg _ m_1073), hg _ ms_X0_emit⟩ (s_preVE (As := [.int 2, .int 0, .int 0, .int 0]) (gE_ok w g) hS hA hE hP hD hK hNW 3 rfl rfl) rfl rfl hl.1 rfl (lv_room (Nat.le_of_ble_eq_true rfl)) d_X1_storeLocal_24 ⟨(Nat.le_of_ble_eq_true rfl), (Nat.le_of_ble_eq_true rfl)⟩) hP hD hS hA (fun r2 σ2 H locs hw hP hD hS => ?_)
    have hP : va_P D vwCl (wB cy r σ2) H := hP
    have hD : va_D A (wB cy r σ2) := hD
    have ik2 : Keep [(4, 1)] [24] σ1 σ2 := hw.2
    have kp : Keep [(4, 1)] [24] σ0 σ2 := keep_c kp ik2 (by decide) (by decide)
    have i2 : Inv σ2 := hw.1
    refine lv_pop hx hb d_X1_storeLocal_27 rfl ?_
    refine W.widen (k := 0) (n := 0) (Nat.le_of_ble_eq_true rfl) (Nat.le_of_ble_eq_true rfl) ?_
    exact k_vret (X := St) (w1 := fun τ => wB cy r τ) σ2 hx hb hr d_X1_storeLocal_28 hlocks hP hK hD hS ⟨i2, kp⟩
  rw [hH] at hgoal
  exact hgoal
set_option maxHeartbeats 4000000 in
set_option maxRecDepth 100000 in
theorem s_X9_next (l : Launch) (D : va_G) (cy : Nat → ClassId) (sz : Nat) (w : Nat → Nat) (g : Nat → Nat → Int32) (r : Nat → Nat) (σ0 : St) (i0 : Inv σ0) : Met l y_X9_next (Cond.code y_X9_next b_X9_next 1 (some .int) :: GW) ({ frames := 0, cells := 0, slots := 0, locals := 0 } : Room) (va_Pc [.ref (r 11)] (kPreE D cy sz (wB cy r σ0) (gE w g))) ((fun A : Nat → Prop => va_Qi (S := St) (fun (_ : Int32) (τ : St) => (Inv τ ∧ Keep [(11, 1)] [] σ0 τ)) (fun τ => kPost D cy A (wB cy r τ)) A) (va_A (wB cy r σ0) sz)) 0 0 (va_A (wB cy r σ0) sz) := by
  refine k_ofWE (Qc := fun A => va_Qi (S := St) (fun (_ : Int32) (τ : St) => (Inv τ ∧ Keep [(11, 1)] [] σ0 τ)) (fun τ => kPost D cy A (wB cy r τ)) A) (by decide) (Nat.le_of_ble_eq_true rfl) ?_
  intro p e s m below meth c A ls hx hb hr hml hown hlocks hin hg hNW hK hP hD hA hS hl hE
  have hl : lv_has ls 1 [(0, .ref (r 11))] := hl
  have hown : s.vm.findClass "LinkedUnits$Tape" = some m.cls := hown
  have kp : Keep [(11, 1)] [] σ0 σ0 := keep_rf
  obtain ⟨H, hH⟩ : ∃ H, H = s.heap := ⟨_, rfl⟩
  rw [← hH] at hP
  have hS : va_S A s.heap H [] := by rw [hH]; exact va_S.rf
  have hgoal : W p l e ({ frames := 0, cells := 0, slots := 0, locals := 0 } : Room) s m (([.ref (r 11)] : List Value).toArray) below meth c H [] 0 0 (MQ below (va_Qi (S := St) (fun (_ : Int32) (τ : St) => (Inv τ ∧ Keep [(11, 1)] [] σ0 τ)) (fun τ => kPost D cy A (wB cy r τ)) A) (([.ref (r 11)] : List Value).toArray) s 0 0 A) (F0 m 0 ls []) := by
    refine lv_aload_n hx hb d_X9_next_0 rfl (lv_at hl 0 rfl) ?_
    refine va_get (D := D) (ci := 9) (v := .int (σ0 11 1)) (C := "LinkedUnits$Tape") (T := TX9) (N := 5) hx hb hg iwX9 hown hK hP 10 rfl rfl 1 (by decide) (hg _ m_647) (fun _ h9 => h9) rfl d_X9_next_1 ?_
    refine lv_if_lt (tgt := 30) hx hb d_X9_next_4 (by decide) (fun c_4 => ?_) (fun c_4 => ?_)
    · -- taken at 4
      refine lv_iconst (v := (-1)) hx hb d_X9_next_30 (by decide) ?_
      refine W.widen (k := 0) (n := 0) (Nat.le_of_ble_eq_true rfl) (Nat.le_of_ble_eq_true rfl) ?_
      exact k_iret (X := St) (w1 := fun τ => wB cy r τ) σ0 hx hb hr d_X9_next_31 hlocks hP hK hD hS ⟨i0, kp⟩
    · -- not taken at 4
      refine lv_aload_n hx hb d_X9_next_7 rfl (lv_at hl 0 rfl) ?_
      refine va_get (D := D) (ci := 9) (v := .int (σ0 11 1)) (C := "LinkedUnits$Tape") (T := TX9) (N := 5) hx hb hg iwX9 hown hK hP 10 rfl rfl 1 (by decide) (hg _ m_647) (fun _ h9 => h9) rfl d_X9_next_8 ?_
      refine lv_aload_n hx hb d_X9_next_11 rfl (lv_at hl 0 rfl) ?_
      refine va_get (D := D) (ci := 9) (v := .int (σ0 11 0)) (C := "LinkedUnits$Tape") (T := TX9) (N := 5) hx hb hg iwX9 hown hK hP 10 rfl rfl 0 (by decide) (hg _ m_646) (fun _ h9 => h9) rfl d_X9_next_12 ?_
      refine lv_icmp_ge (tgt := 30) hx hb d_X9_next_15 (by decide) (fun c_15 => ?_) (fun c_15 => ?_)
      · -- taken at 15
        refine lv_iconst (v := (-1)) hx hb d_X9_next_30 (by decide) ?_
        refine W.widen (k := 0) (n := 0) (Nat.le_of_ble_eq_true rfl) (Nat.le_of_ble_eq_true rfl) ?_
        exact k_iret (X := St) (w1 := fun τ => wB cy r τ) σ0 hx hb hr d_X9_next_31 hlocks hP hK hD hS ⟨i0, kp⟩
      · -- not taken at 15
        refine lv_aload_n hx hb d_X9_next_18 rfl (lv_at hl 0 rfl) ?_
        refine va_get (D := D) (ci := 9) (v := .int (σ0 11 1)) (C := "LinkedUnits$Tape") (T := TX9) (N := 5) hx hb hg iwX9 hown hK hP 10 rfl rfl 1 (by decide) (hg _ m_647) (fun _ h9 => h9) rfl d_X9_next_19 ?_
        refine lv_aload_n hx hb d_X9_next_22 rfl (lv_at hl 0 rfl) ?_
        refine va_get (D := D) (ci := 9) (v := .ref (r 60)) (C := "LinkedUnits$Tape") (T := TX9) (N := 5) hx hb hg iwX9 hown hK hP 10 rfl rfl 3 (by decide) (hg _ m_650) (fun _ h9 => h9) rfl d_X9_next_23 ?_
        refine va_alen hx hb hK hP 57 0 rfl rfl (v := 4096) (by show Int32.ofNat 4096 = 4096; decide) d_X9_next_26 ?_
        refine lv_icmp_lt (tgt := 32) hx hb d_X9_next_27 (by decide) (fun c_27 => ?_) (fun c_27 => ?_)
        · -- taken at 27
          refine lv_aload_n hx hb d_X9_next_32 rfl (lv_at hl 0 rfl) ?_
          refine lv_dup hx hb d_X9_next_33 rfl ?_
          refine va_get (D := D) (ci := 9) (v := .int (σ0 11 1)) (C := "LinkedUnits$Tape") (T := TX9) (N := 5) hx hb hg iwX9 hown hK hP 10 rfl rfl 1 (by decide) (hg _ m_647) (fun _ h9 => h9) rfl d_X9_next_34 ?_
          refine lv_iconst (v := 1) hx hb d_X9_next_37 (by decide) ?_
          refine lv_iadd hx hb d_X9_next_38 ?_
          refine va_put (D := D) (ci := 9) (v := .int ((σ0 11 1) + 1)) (ty := .int) (C := "LinkedUnits$Tape") (T := TX9) (N := 5) hx hb hg iwX9 tyX9 tyX9_ok nmX9 hown hK hP hD hS 10 rfl rfl 1 (by decide) (hg _ m_647) (fun _ h9 => h9) rfl (by decide +kernel) rfl rfl (Nat.le_of_ble_eq_true rfl) d_X9_next_39 (fun H locs hP hD hS => ?_)
          have hP : va_P D vwCl (wB cy r (upC σ0 11 1 ((σ0 11 1) + 1))) H := hP
          have hD : va_D A (wB cy r (upC σ0 11 1 ((σ0 11 1) + 1))) := hD
          have kp : Keep [(11, 1)] [] σ0 (upC σ0 11 1 ((σ0 11 1) + 1)) := keep_f kp (by decide)
          have j1 : Inv (upC σ0 11 1 ((σ0 11 1) + 1)) := ⟨i0.1, i0.2.1, (by show 0 ≤ ((σ0 11 1) + 1).toInt ∧ ((σ0 11 1) + 1).toInt ≤ 4096; have e0 := s_rng (σ0 11 1); have e1 := i0.2.2.1; have e2 : (1 : Int32).toInt = 1 := (by decide); obtain ⟨k3, e3⟩ := s_add (σ0 11 1) (1 : Int32); have e4 := s_rng ((σ0 11 1) + 1); have e5 : (0 : Int32).toInt = 0 := (by decide); have e6 := s_nlt c_4; have e7 := s_rng (σ0 11 0); have e8 := i0.2.1; have e9 := s_nle c_15; have e10 : (4096 : Int32).toInt = 4096 := (by decide); have e11 := s_lt c_27; omega), i0.2.2.2.1, i0.2.2.2.2⟩
          refine lv_aload_n hx hb d_X9_next_42 rfl (lv_at hl 0 rfl) ?_
          refine va_get (D := D) (ci := 9) (v := .ref (r 60)) (C := "LinkedUnits$Tape") (T := TX9) (N := 5) hx hb hg iwX9 hown hK hP 10 rfl rfl 3 (by decide) (hg _ m_650) (fun _ h9 => h9) rfl d_X9_next_43 ?_
          refine lv_aload_n hx hb d_X9_next_46 rfl (lv_at hl 0 rfl) ?_
          refine va_get (D := D) (ci := 9) (v := .int ((σ0 11 1) + 1)) (C := "LinkedUnits$Tape") (T := TX9) (N := 5) hx hb hg iwX9 hown hK hP 10 rfl rfl 1 (by decide) (hg _ m_647) (fun _ h9 => h9) rfl d_X9_next_47 ?_
          refine lv_iconst (v := 1) hx hb d_X9_next_50 (by decide) ?_
          refine lv_isub hx hb d_X9_next_51 ?_
          refine va_bald hx hb hK hP 57 0 rfl rfl (by refine s_in (by decide) ?_ ?_ <;> (have e0 := s_rng (σ0 11 1); have e1 := i0.2.2.1; have e2 : (1 : Int32).toInt = 1 := (by decide); obtain ⟨k3, e3⟩ := s_add (σ0 11 1) (1 : Int32); have e4 := s_rng ((σ0 11 1) + 1); obtain ⟨k5, e5⟩ := s_sub ((σ0 11 1) + 1) (1 : Int32); have e6 := s_rng (((σ0 11 1) + 1) - 1); have e7 : (0 : Int32).toInt = 0 := (by decide); have e8 := s_nlt c_4; have e9 := s_rng (σ0 11 0); have e10 := i0.2.1; have e11 := s_nle c_15; have e12 : (4096 : Int32).toInt = 4096 := (by decide); have e13 := s_lt c_27; omega)) d_X9_next_52 ?_
          refine k_any (fun v2 => ?_)
          refine lv_sipush (v := 255) hx hb d_X9_next_53 (by decide) ?_
          refine lv_iand hx hb d_X9_next_56 ?_
          refine W.widen (k := 0) (n := 0) (Nat.le_of_ble_eq_true rfl) (Nat.le_of_ble_eq_true rfl) ?_
          exact k_iret (X := St) (w1 := fun τ => wB cy r τ) (upC σ0 11 1 ((σ0 11 1) + 1)) hx hb hr d_X9_next_57 hlocks hP hK hD hS ⟨j1, kp⟩
        · -- not taken at 27
          refine lv_iconst (v := (-1)) hx hb d_X9_next_30 (by decide) ?_
          refine W.widen (k := 0) (n := 0) (Nat.le_of_ble_eq_true rfl) (Nat.le_of_ble_eq_true rfl) ?_
          exact k_iret (X := St) (w1 := fun τ => wB cy r τ) σ0 hx hb hr d_X9_next_31 hlocks hP hK hD hS ⟨i0, kp⟩
  rw [hH] at hgoal
  exact hgoal
set_option maxHeartbeats 4000000 in
set_option maxRecDepth 100000 in
theorem s_Arrays_fill_r62 (l : Launch) (D : va_G) (cy : Nat → ClassId) (sz : Nat) (w : Nat → Nat) (g : Nat → Nat → Int32) (r : Nat → Nat) (σ0 : St) (a1 : Int32) (i0 : Inv σ0) : Met l y_Arrays_fill (Cond.code y_Arrays_fill b_Arrays_fill 4 none :: GW) ({ frames := 0, cells := 0, slots := 0, locals := 0 } : Room) (va_Pc [.ref (r 62), .int a1] (kPreE D cy sz (wB cy r σ0) (gE w g))) ((fun A : Nat → Prop => va_Qv (S := St) (fun (τ : St) => (Inv τ ∧ Keep [] [62] σ0 τ)) (fun τ => kPost D cy A (wB cy r τ)) A) (va_A (wB cy r σ0) sz)) 0 0 (va_A (wB cy r σ0) sz) := by
  refine k_ofWE (Qc := fun A => va_Qv (S := St) (fun (τ : St) => (Inv τ ∧ Keep [] [62] σ0 τ)) (fun τ => kPost D cy A (wB cy r τ)) A) (by decide) (Nat.le_of_ble_eq_true rfl) ?_
  intro p e s m below meth c A ls hx hb hr hml hown hlocks hin hg hNW hK hP hD hA hS hl hE
  have hl : lv_has ls 4 [(0, .ref (r 62)), (1, .int a1)] := hl
  have hown : s.vm.findClass "java/util/Arrays" = some m.cls := hown
  have b5 : ∀ (N : Nat) (σ : St) (x1 : Int32) (x2 : Int32) (x3 : Int32) (H : Heap) (locs : List Loc) (ls : Array Slot), upm x2 = N → Inv σ → Keep [] [62] σ0 σ → va_P D vwCl (wB cy r σ) H → va_D A (wB cy r σ) → va_S A s.heap H locs → lv_has ls 4 [(0, .ref (r 62)), (1, .int x1), (2, .int x2), (3, .int x3)] → W p l e ({ frames := 0, cells := 0, slots := 0, locals := 0 } : Room) s m (([.ref (r 62), .int a1] : List Value).toArray) below meth c H locs 0 0 (MQ below (va_Qv (S := St) (fun (τ : St) => (Inv τ ∧ Keep [] [62] σ0 τ)) (fun τ => kPost D cy A (wB cy r τ)) A) (([.ref (r 62), .int a1] : List Value).toArray) s 0 0 A) (F0 m 5 ls []) := by
    intro M5
    induction M5 using Nat.strongRecOn with
    | _ M5 ih5 =>
      intro σ x1 x2 x3 H locs ls N5 inv kp hP hD hS hl
      refine lv_iload_n hx hb d_Arrays_fill_5 rfl (lv_at hl 2 rfl) ?_
      refine lv_iload_n hx hb d_Arrays_fill_6 rfl (lv_at hl 3 rfl) ?_
      refine lv_icmp_ge (tgt := 20) hx hb d_Arrays_fill_7 (by decide) (fun c_7 => ?_) (fun c_7 => ?_)
      · -- taken at 7
        refine W.widen (k := 0) (n := 0) (Nat.le_of_ble_eq_true rfl) (Nat.le_of_ble_eq_true rfl) ?_
        exact k_vret (X := St) (w1 := fun τ => wB cy r τ) σ hx hb hr d_Arrays_fill_20 hlocks hP hK hD hS ⟨inv, kp⟩
      · -- not taken at 7
        refine lv_aload_n hx hb d_Arrays_fill_10 rfl (lv_at hl 0 rfl) ?_
        refine lv_iload_n hx hb d_Arrays_fill_11 rfl (lv_at hl 2 rfl) ?_
        refine lv_iload_n hx hb d_Arrays_fill_12 rfl (lv_at hl 1 rfl) ?_
        refine va_iast hx hb hK hP hD hS 59 1 rfl rfl (by refine s_in (by decide) ?_ ?_ <;> (have e0 := s_rng x2; have e1 := s_rng x3; have e2 := s_nle c_7; omega)) d_Arrays_fill_13 (fun H locs hP hD hS => ?_)
        have hP : va_P D vwCl (wB cy r (upF σ 62 (upd (σ 62) (x2).toNatClampNeg x1))) H := hP
        have hD : va_D A (wB cy r (upF σ 62 (upd (σ 62) (x2).toNatClampNeg x1))) := hD
        have kp : Keep [] [62] σ0 (upF σ 62 (upd (σ 62) (x2).toNatClampNeg x1)) := keep_a kp (by decide)
        refine lv_iinc (v := (x2 + 1)) (lv' := [(2, .int (x2 + 1)), (0, .ref (r 62)), (1, .int x1), (3, .int x3)]) hx hb d_Arrays_fill_14 hl (k := 2) rfl rfl (by decide) rfl (fun ls hl => ?_)
        refine lv_goto (tgt := 5) hx hb d_Arrays_fill_17 (by decide) ?_
        exact ih5 _ (Nat.lt_of_lt_of_eq (upm_lt c_7) N5) (upF σ 62 (upd (σ 62) (x2).toNatClampNeg x1)) x1 (x2 + 1) x3 _ _ _ rfl inv kp hP hD hS (lv_sub hl [1, 2, 0, 3] rfl)
  have kp : Keep [] [62] σ0 σ0 := keep_rf
  obtain ⟨H, hH⟩ : ∃ H, H = s.heap := ⟨_, rfl⟩
  rw [← hH] at hP
  have hS : va_S A s.heap H [] := by rw [hH]; exact va_S.rf
  have hgoal : W p l e ({ frames := 0, cells := 0, slots := 0, locals := 0 } : Room) s m (([.ref (r 62), .int a1] : List Value).toArray) below meth c H [] 0 0 (MQ below (va_Qv (S := St) (fun (τ : St) => (Inv τ ∧ Keep [] [62] σ0 τ)) (fun τ => kPost D cy A (wB cy r τ)) A) (([.ref (r 62), .int a1] : List Value).toArray) s 0 0 A) (F0 m 0 ls []) := by
    refine lv_iconst (v := 0) hx hb d_Arrays_fill_0 (by decide) ?_
    refine lv_istore_n (lv' := [(2, .int 0), (0, .ref (r 62)), (1, .int a1)]) hx hb d_Arrays_fill_1 rfl hl (by decide) rfl (fun ls hl => ?_)
    refine lv_aload_n hx hb d_Arrays_fill_2 rfl (lv_at hl 1 rfl) ?_
    refine va_alen hx hb hK hP 59 1 rfl rfl (v := 32768) (by show Int32.ofNat 32768 = 32768; decide) d_Arrays_fill_3 ?_
    refine lv_istore_n (lv' := [(3, .int 32768), (2, .int 0), (0, .ref (r 62)), (1, .int a1)]) hx hb d_Arrays_fill_4 rfl hl (by decide) rfl (fun ls hl => ?_)
    exact b5 _ σ0 a1 (0 : Int32) (32768 : Int32) _ _ _ rfl i0 kp hP hD hS (lv_sub hl [2, 3, 1, 0] rfl)
  rw [hH] at hgoal
  exact hgoal
set_option maxHeartbeats 4000000 in
set_option maxRecDepth 100000 in
theorem s_X5_stepped_r12_r62 (l : Launch) (D : va_G) (cy : Nat → ClassId) (sz : Nat) (w : Nat → Nat) (g : Nat → Nat → Int32) (r : Nat → Nat) (σ0 : St) (a2 : Int32) (a3 : Int32) (i0 : Inv σ0) : Met l y_X5_stepped (Cond.code y_X5_stepped b_X5_stepped 5 none :: GW) ({ frames := 2, cells := 0, slots := 0, locals := 43 } : Room) (va_Pc [.ref (r 12), .ref (r 62), .int a2, .int a3] (kPreE D cy sz (wB cy r σ0) (gE w g))) ((fun A : Nat → Prop => va_Qv (S := St) (fun (τ : St) => (Inv τ ∧ Keep [(12, 9)] [62, 63] σ0 τ)) (fun τ => kPost D cy A (wB cy r τ)) A) (va_A (wB cy r σ0) sz)) 0 0 (va_A (wB cy r σ0) sz) := by
  refine k_ofWE (Qc := fun A => va_Qv (S := St) (fun (τ : St) => (Inv τ ∧ Keep [(12, 9)] [62, 63] σ0 τ)) (fun τ => kPost D cy A (wB cy r τ)) A) (by decide) (Nat.le_of_ble_eq_true rfl) ?_
  intro p e s m below meth c A ls hx hb hr hml hown hlocks hin hg hNW hK hP hD hA hS hl hE
  have hl : lv_has ls 5 [(0, .ref (r 12)), (1, .ref (r 62)), (2, .int a2), (3, .int a3)] := hl
  have hown : s.vm.findClass "LinkedUnits$Machine" = some m.cls := hown
  have kp : Keep [(12, 9)] [62, 63] σ0 σ0 := keep_rf
  obtain ⟨H, hH⟩ : ∃ H, H = s.heap := ⟨_, rfl⟩
  rw [← hH] at hP
  have hS : va_S A s.heap H [] := by rw [hH]; exact va_S.rf
  have hgoal : W p l e ({ frames := 2, cells := 0, slots := 0, locals := 43 } : Room) s m (([.ref (r 12), .ref (r 62), .int a2, .int a3] : List Value).toArray) below meth c H [] 0 0 (MQ below (va_Qv (S := St) (fun (τ : St) => (Inv τ ∧ Keep [(12, 9)] [62, 63] σ0 τ)) (fun τ => kPost D cy A (wB cy r τ)) A) (([.ref (r 12), .ref (r 62), .int a2, .int a3] : List Value).toArray) s 0 0 A) (F0 m 0 ls []) := by
    refine lv_aload_n hx hb d_X5_stepped_0 rfl (lv_at hl 1 rfl) ?_
    refine lv_iload_n hx hb d_X5_stepped_1 rfl (lv_at hl 2 rfl) ?_
    refine s_call1 (x := ((r 62), .inl (cy 1, 32768, .inl (σ0 62)))) 59 rfl (va_runSN (As := [.ref (r 62), .int a2]) (rest := []) ⟨hx, hb, hml, hown, hg⟩ (c_at_any l D cy H.size (r 62) 32768 (σ0 62) a2 (Nat.le_of_ble_eq_true rfl)) ⟨(va_cnB 2 hg (gw_c m_949) rfl rfl rfl (hNW.1 _ nm_1660) (hg _ m_1) (by decide +kernel) ⟨(Nat.le_of_ble_eq_true rfl), (Nat.le_of_ble_eq_true rfl)⟩), hg _ m_948, trivial⟩ (s_pre (ws := [((r 62), .inl (cy 1, 32768, .inl (σ0 62)))]) (s_sub1 59 hP rfl) (s_subD 59 hD rfl) hK hNW) rfl rfl hl.1 rfl (lv_room (Nat.le_of_ble_eq_true rfl)) d_X5_stepped_2 ⟨(Nat.le_of_ble_eq_true rfl), (Nat.le_of_ble_eq_true rfl)⟩) hP hD hS hA (fun r1 u1 H locs hw hP hD hS => ?_)
    have hP : va_P D vwCl (wB cy r σ0) H := hP
    have hD : va_D A (wB cy r σ0) := hD
    refine lv_aload_n hx hb d_X5_stepped_5 rfl (lv_at hl 0 rfl) ?_
    refine va_get (D := D) (ci := 5) (v := .ref (r 24)) (C := "LinkedUnits$Machine") (T := TX5) (N := 19) hx hb hg iwX5 hown hK hP 11 rfl rfl 3 (by decide) (hg _ m_674) (fun _ h9 => h9) rfl d_X5_stepped_6 ?_
    refine lv_iload_n hx hb d_X5_stepped_9 rfl (lv_at hl 3 rfl) ?_
    refine lv_iconst (v := 2) hx hb d_X5_stepped_10 (by decide) ?_
    refine lv_iadd hx hb d_X5_stepped_11 ?_
    refine s_call1 (x := ((r 24), .inl (cy 1, 262208, .inl (σ0 24)))) 23 rfl (va_runSN (As := [.ref (r 24), .int (a3 + 2)]) (rest := [.int r1]) ⟨hx, hb, hml, hown, hg⟩ (c_at_any l D cy H.size (r 24) 262208 (σ0 24) (a3 + 2) (Nat.le_of_ble_eq_true rfl)) ⟨(va_cnB 2 hg (gw_c m_949) rfl rfl rfl (hNW.1 _ nm_1660) (hg _ m_1) (by decide +kernel) ⟨(Nat.le_of_ble_eq_true rfl), (Nat.le_of_ble_eq_true rfl)⟩), hg _ m_948, trivial⟩ (s_pre (ws := [((r 24), .inl (cy 1, 262208, .inl (σ0 24)))]) (s_sub1 23 hP rfl) (s_subD 23 hD rfl) hK hNW) rfl rfl hl.1 rfl (lv_room (Nat.le_of_ble_eq_true rfl)) d_X5_stepped_12 ⟨(Nat.le_of_ble_eq_true rfl), (Nat.le_of_ble_eq_true rfl)⟩) hP hD hS hA (fun r2 u2 H locs hw hP hD hS => ?_)
    have hP : va_P D vwCl (wB cy r σ0) H := hP
    have hD : va_D A (wB cy r σ0) := hD
    refine lv_iadd hx hb d_X5_stepped_15 ?_
    refine lv_istore (lv' := [(4, .int (r1 + r2)), (0, .ref (r 12)), (1, .ref (r 62)), (2, .int a2), (3, .int a3)]) hx hb d_X5_stepped_16 hl (by decide) rfl (fun ls hl => ?_)
    refine lv_aload_n hx hb d_X5_stepped_18 rfl (lv_at hl 2 rfl) ?_
    refine lv_iload_n hx hb d_X5_stepped_19 rfl (lv_at hl 3 rfl) ?_
    refine lv_iload hx hb d_X5_stepped_20 (lv_at hl 0 rfl) ?_
    refine s_set1 (X := Nat → Int32) (w := fun g => .inl (cy 1, 32768, .inl g)) 59 rfl (va_runSN (As := [.ref (r 62), .int a2, .int (r1 + r2)]) (rest := []) ⟨hx, hb, hml, hown, hg⟩ (c_set_any l D cy H.size (r 62) 32768 (σ0 62) a2 (r1 + r2) (Nat.le_of_ble_eq_true rfl)) ⟨(va_cnB 3 hg (gw_c m_981) rfl rfl rfl (hNW.1 _ nm_1661) (hg _ m_1) (by decide +kernel) ⟨(Nat.le_of_ble_eq_true rfl), (Nat.le_of_ble_eq_true rfl)⟩), hg _ m_980, trivial⟩ (s_pre (ws := [((r 62), .inl (cy 1, 32768, .inl (σ0 62)))]) (s_sub1 59 hP rfl) (s_subD 59 hD rfl) hK hNW) rfl rfl hl.1 rfl (lv_room (Nat.le_of_ble_eq_true rfl)) d_X5_stepped_22 ⟨(Nat.le_of_ble_eq_true rfl), (Nat.le_of_ble_eq_true rfl)⟩) hP hD hS hA (fun g3 H locs hw hP hD hS => ?_)
    have hP : va_P D vwCl (wB cy r (upF σ0 62 g3)) H := hP
    have hD : va_D A (wB cy r (upF σ0 62 g3)) := hD
    have kp : Keep [(12, 9)] [62, 63] σ0 (upF σ0 62 g3) := keep_a kp (by decide)
    refine lv_aload_n hx hb d_X5_stepped_25 rfl (lv_at hl 1 rfl) ?_
    refine lv_iload hx hb d_X5_stepped_26 (lv_at hl 0 rfl) ?_
    refine lv_aload_n hx hb d_X5_stepped_28 rfl (lv_at hl 1 rfl) ?_
    refine va_get (D := D) (ci := 5) (v := .ref (r 24)) (C := "LinkedUnits$Machine") (T := TX5) (N := 19) hx hb hg iwX5 hown hK hP 11 rfl rfl 3 (by decide) (hg _ m_674) (fun _ h9 => h9) rfl d_X5_stepped_29 ?_
    refine lv_iload_n hx hb d_X5_stepped_32 rfl (lv_at hl 4 rfl) ?_
    refine lv_iconst (v := 3) hx hb d_X5_stepped_33 (by decide) ?_
    refine lv_iadd hx hb d_X5_stepped_34 ?_
    refine s_call1 (x := ((r 24), .inl (cy 1, 262208, .inl ((upF σ0 62 g3) 24)))) 23 rfl (va_runSN (As := [.ref (r 24), .int (a3 + 3)]) (rest := [.int (r1 + r2), .ref (r 12)]) ⟨hx, hb, hml, hown, hg⟩ (c_at_any l D cy H.size (r 24) 262208 ((upF σ0 62 g3) 24) (a3 + 3) (Nat.le_of_ble_eq_true rfl)) ⟨(va_cnB 2 hg (gw_c m_949) rfl rfl rfl (hNW.1 _ nm_1660) (hg _ m_1) (by decide +kernel) ⟨(Nat.le_of_ble_eq_true rfl), (Nat.le_of_ble_eq_true rfl)⟩), hg _ m_948, trivial⟩ (s_pre (ws := [((r 24), .inl (cy 1, 262208, .inl ((upF σ0 62 g3) 24)))]) (s_sub1 23 hP rfl) (s_subD 23 hD rfl) hK hNW) rfl rfl hl.1 rfl (lv_room (Nat.le_of_ble_eq_true rfl)) d_X5_stepped_35 ⟨(Nat.le_of_ble_eq_true rfl), (Nat.le_of_ble_eq_true rfl)⟩) hP hD hS hA (fun r4 u4 H locs hw hP hD hS => ?_)
    have hP : va_P D vwCl (wB cy r (upF σ0 62 g3)) H := hP
    have hD : va_D A (wB cy r (upF σ0 62 g3)) := hD
    refine lv_isub hx hb d_X5_stepped_38 ?_
    refine s_callv (X := St) (w1 := fun τ => wB cy r τ) (va_runV (As := [.int ((r1 + r2) - r4)]) (rest := []) ⟨hx, hb, hml, hown, hg⟩ (s_X5_push l D cy H.size w g r (upF σ0 62 g3) ((r1 + r2) - r4) i0 ) (cwV 1 hg (gw_V m_1686 m_1688 ms_X5_push m_17 m_1689) rfl rfl rfl (by decide +kernel) ⟨(Nat.le_of_ble_eq_true rfl), (Nat.le_of_ble_eq_true rfl)⟩) (s_preVE (As := [.int ((r1 + r2) - r4)]) (gE_ok w g) hS hA hE hP hD hK hNW 11 rfl rfl) rfl rfl hl.1 rfl (lv_room (Nat.le_of_ble_eq_true rfl)) d_X5_stepped_39 ⟨(Nat.le_of_ble_eq_true rfl), (Nat.le_of_ble_eq_true rfl)⟩) hP hD hS hA (fun σ5 H locs hw hP hD hS => ?_)
    have hP : va_P D vwCl (wB cy r σ5) H := hP
    have hD : va_D A (wB cy r σ5) := hD
    have ik5 : Keep [(12, 9)] [63] (upF σ0 62 g3) σ5 := hw.2
    have kp : Keep [(12, 9)] [62, 63] σ0 σ5 := keep_c kp ik5 (by decide) (by decide)
    have i5 : Inv σ5 := hw.1
    refine W.widen (k := 0) (n := 0) (Nat.le_of_ble_eq_true rfl) (Nat.le_of_ble_eq_true rfl) ?_
    exact k_vret (X := St) (w1 := fun τ => wB cy r τ) σ5 hx hb hr d_X5_stepped_42 hlocks hP hK hD hS ⟨i5, kp⟩
  rw [hH] at hgoal
  exact hgoal
