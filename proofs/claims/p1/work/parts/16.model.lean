set_option maxHeartbeats 4000000 in
set_option maxRecDepth 100000 in
theorem c_m_feed (l : Launch) (D : va_G) (cy : Nat → ClassId) (sz : Nat) (r : Nat → Nat) (p1 p2 p3 p4 p5 : Int32) : Met l y_X14_feed (Cond.code y_X14_feed b_X14_feed 8 (some .int) :: GW) ({ frames := 0, cells := 0, slots := 0, locals := 0 }) (va_Pc [.ref (r 0), .int p1, .int p2, .int p3, .int p4, .int p5] (kPre D cy sz [((r 0), .inr (13, (oMo r))), ((r 1), .inl (cy 0, 16000, .inl (fun _ => 0)))])) ((fun A : Nat → Prop => va_Qi (S := Unit) (fun (r : Int32) (_ : Unit) => r = 20) (fun _ => kPost D cy A []) A) (va_A [((r 0), .inr (13, (oMo r))), ((r 1), .inl (cy 0, 16000, .inl (fun _ => 0)))] sz)) 0 0 (va_A [((r 0), .inr (13, (oMo r))), ((r 1), .inl (cy 0, 16000, .inl (fun _ => 0)))] sz) := by
  refine k_ofW (Qc := fun A => va_Qi (S := Unit) (fun (r : Int32) (_ : Unit) => r = 20) (fun _ => kPost D cy A []) A) (by decide) (Nat.le_of_ble_eq_true rfl) ?_
  intro p e s m below meth c A ls hx hb hr hml hown hlocks hin hg hNW hK hP hD hA hS hl
  have hl : lv_has ls 8 [(0, .ref (r 0)), (1, .int p1), (2, .int p2), (3, .int p3), (4, .int p4), (5, .int p5)] := hl
  have hown : s.vm.findClass "LinkedUnitsModel" = some m.cls := hown
  refine lv_aload_n hx hb d_X14_feed_0 rfl (lv_at hl 0 rfl) ?_
  refine va_get (D := D) (ci := 13) (v := .int 0) (C := "LinkedUnitsModel") (T := TX14) (N := 100) hx hb hg iwX14 hown hK hP 0 rfl rfl 1 (by decide) (hg _ m_1866) (fun _ h9 => h9) rfl d_X14_feed_1 ?_
  refine lv_bipush (v := 20) hx hb d_X14_feed_4 (by decide) ?_
  refine lv_iadd hx hb d_X14_feed_6 ?_
  refine k_topi 20 (by decide) ?_
  refine lv_sipush (v := 16000) hx hb d_X14_feed_7 (by decide) ?_
  refine lv_icmp_gt (tgt := 25) hx hb d_X14_feed_10 (by decide) (fun c_10 => absurd c_10 (by decide)) (fun _ => ?_)
  refine lv_aload_n hx hb d_X14_feed_13 rfl (lv_at hl 0 rfl) ?_
  refine va_get (D := D) (ci := 13) (v := .int 0) (C := "LinkedUnitsModel") (T := TX14) (N := 100) hx hb hg iwX14 hown hK hP 0 rfl rfl 2 (by decide) (hg _ m_1867) (fun _ h9 => h9) rfl d_X14_feed_14 ?_
  refine lv_bipush (v := 20) hx hb d_X14_feed_17 (by decide) ?_
  refine lv_iadd hx hb d_X14_feed_19 ?_
  refine k_topi 20 (by decide) ?_
  refine lv_ldc (v := 65536) hx hb hown (hg _ m_1861) d_X14_feed_20 ?_
  refine lv_icmp_le (tgt := 27) hx hb d_X14_feed_22 (by decide) (fun _ => ?_) (fun c_22 => False.elim (by revert c_22; decide))
  refine lv_iconst (v := 0) hx hb d_X14_feed_27 (by decide) ?_
  refine lv_istore (lv' := [(6, .int 0), (0, .ref (r 0)), (1, .int p1), (2, .int p2), (3, .int p3), (4, .int p4), (5, .int p5)]) hx hb d_X14_feed_28 hl (by decide) rfl (fun ls hl => ?_)
  refine lv_iload hx hb d_X14_feed_30 (lv_at hl 0 rfl) ?_
  refine lv_bipush (v := 20) hx hb d_X14_feed_32 (by decide) ?_
  refine lv_icmp_ge (tgt := 117) hx hb d_X14_feed_34 (by decide) (fun c_34 => absurd c_34 (by decide)) (fun _ => ?_)
  refine lv_iload hx hb d_X14_feed_37 (lv_at hl 0 rfl) ?_
  refine lv_iconst (v := 4) hx hb d_X14_feed_39 (by decide) ?_
  refine lv_icmp_ge (tgt := 47) hx hb d_X14_feed_40 (by decide) (fun c_40 => absurd c_40 (by decide)) (fun _ => ?_)
  refine lv_iload_n hx hb d_X14_feed_43 rfl (lv_at hl 2 rfl) ?_
  refine lv_goto (tgt := 83) hx hb d_X14_feed_44 (by decide) ?_
  refine lv_istore (lv' := [(7, .int p1), (6, .int 0), (0, .ref (r 0)), (1, .int p1), (2, .int p2), (3, .int p3), (4, .int p4), (5, .int p5)]) hx hb d_X14_feed_83 hl (by decide) rfl (fun ls hl => ?_)
  refine lv_aload_n hx hb d_X14_feed_85 rfl (lv_at hl 2 rfl) ?_
  refine va_get (D := D) (ci := 13) (v := .ref (r 1)) (C := "LinkedUnitsModel") (T := TX14) (N := 100) hx hb hg iwX14 hown hK hP 0 rfl rfl 0 (by decide) (hg _ m_1865) (fun _ h9 => h9) rfl d_X14_feed_86 ?_
  refine lv_aload_n hx hb d_X14_feed_89 rfl (lv_at hl 2 rfl) ?_
  refine va_get (D := D) (ci := 13) (v := .int 0) (C := "LinkedUnitsModel") (T := TX14) (N := 100) hx hb hg iwX14 hown hK hP 0 rfl rfl 1 (by decide) (hg _ m_1866) (fun _ h9 => h9) rfl d_X14_feed_90 ?_
  refine lv_iload hx hb d_X14_feed_93 (lv_at hl 1 rfl) ?_
  refine lv_iadd hx hb d_X14_feed_95 ?_
  refine k_topi 0 (by decide) ?_
  refine lv_iload hx hb d_X14_feed_96 (lv_at hl 0 rfl) ?_
  refine lv_bipush (v := 24) hx hb d_X14_feed_98 (by decide) ?_
  refine lv_bipush (v := 8) hx hb d_X14_feed_100 (by decide) ?_
  refine lv_iload hx hb d_X14_feed_102 (lv_at hl 1 rfl) ?_
  refine lv_iconst (v := 4) hx hb d_X14_feed_104 (by decide) ?_
  refine lv_irem hx hb d_X14_feed_105 (by decide) ?_
  refine k_topi 0 (by decide) ?_
  refine lv_imul hx hb d_X14_feed_106 ?_
  refine k_topi 0 (by decide) ?_
  refine lv_isub hx hb d_X14_feed_107 ?_
  refine k_topi 24 (by decide) ?_
  refine lv_ishr hx hb d_X14_feed_108 ?_
  refine lv_i2b (v := ((p1 >>> (24 &&& 31))).toInt8.toInt32) hx hb d_X14_feed_109 rfl ?_
  refine k_bast_any hx hb hK hP hD hS 1 0 rfl rfl (k_inK (by decide)) d_X14_feed_110 (fun g1 H locs hP hD hS => ?_)
  have hP : va_P D vwCl [((r 0), .inr (13, (oMo r))), ((r 1), .inl (cy 0, 16000, .inl g1))] H := hP
  have hD : va_D A [((r 0), .inr (13, (oMo r))), ((r 1), .inl (cy 0, 16000, .inl g1))] := hD
  refine lv_iinc (v := 1) (lv' := [(6, .int 1), (7, .int p1), (0, .ref (r 0)), (1, .int p1), (2, .int p2), (3, .int p3), (4, .int p4), (5, .int p5)]) hx hb d_X14_feed_111 hl (k := 1) rfl (by decide) (by decide) rfl (fun ls hl => ?_)
  refine lv_goto (tgt := 30) hx hb d_X14_feed_114 (by decide) ?_
  refine lv_iload hx hb d_X14_feed_30 (lv_at hl 0 rfl) ?_
  refine lv_bipush (v := 20) hx hb d_X14_feed_32 (by decide) ?_
  refine lv_icmp_ge (tgt := 117) hx hb d_X14_feed_34 (by decide) (fun c_34 => absurd c_34 (by decide)) (fun _ => ?_)
  refine lv_iload hx hb d_X14_feed_37 (lv_at hl 0 rfl) ?_
  refine lv_iconst (v := 4) hx hb d_X14_feed_39 (by decide) ?_
  refine lv_icmp_ge (tgt := 47) hx hb d_X14_feed_40 (by decide) (fun c_40 => absurd c_40 (by decide)) (fun _ => ?_)
  refine lv_iload_n hx hb d_X14_feed_43 rfl (lv_at hl 3 rfl) ?_
  refine lv_goto (tgt := 83) hx hb d_X14_feed_44 (by decide) ?_
  refine lv_istore (lv' := [(7, .int p1), (6, .int 1), (0, .ref (r 0)), (1, .int p1), (2, .int p2), (3, .int p3), (4, .int p4), (5, .int p5)]) hx hb d_X14_feed_83 hl (by decide) rfl (fun ls hl => ?_)
  refine lv_aload_n hx hb d_X14_feed_85 rfl (lv_at hl 2 rfl) ?_
  refine va_get (D := D) (ci := 13) (v := .ref (r 1)) (C := "LinkedUnitsModel") (T := TX14) (N := 100) hx hb hg iwX14 hown hK hP 0 rfl rfl 0 (by decide) (hg _ m_1865) (fun _ h9 => h9) rfl d_X14_feed_86 ?_
  refine lv_aload_n hx hb d_X14_feed_89 rfl (lv_at hl 2 rfl) ?_
  refine va_get (D := D) (ci := 13) (v := .int 0) (C := "LinkedUnitsModel") (T := TX14) (N := 100) hx hb hg iwX14 hown hK hP 0 rfl rfl 1 (by decide) (hg _ m_1866) (fun _ h9 => h9) rfl d_X14_feed_90 ?_
  refine lv_iload hx hb d_X14_feed_93 (lv_at hl 1 rfl) ?_
  refine lv_iadd hx hb d_X14_feed_95 ?_
  refine k_topi 1 (by decide) ?_
  refine lv_iload hx hb d_X14_feed_96 (lv_at hl 0 rfl) ?_
  refine lv_bipush (v := 24) hx hb d_X14_feed_98 (by decide) ?_
  refine lv_bipush (v := 8) hx hb d_X14_feed_100 (by decide) ?_
  refine lv_iload hx hb d_X14_feed_102 (lv_at hl 1 rfl) ?_
  refine lv_iconst (v := 4) hx hb d_X14_feed_104 (by decide) ?_
  refine lv_irem hx hb d_X14_feed_105 (by decide) ?_
  refine k_topi 1 (by decide) ?_
  refine lv_imul hx hb d_X14_feed_106 ?_
  refine k_topi 8 (by decide) ?_
  refine lv_isub hx hb d_X14_feed_107 ?_
  refine k_topi 16 (by decide) ?_
  refine lv_ishr hx hb d_X14_feed_108 ?_
  refine lv_i2b (v := ((p1 >>> (16 &&& 31))).toInt8.toInt32) hx hb d_X14_feed_109 rfl ?_
  refine k_bast_any hx hb hK hP hD hS 1 0 rfl rfl (k_inK (by decide)) d_X14_feed_110 (fun g2 H locs hP hD hS => ?_)
  have hP : va_P D vwCl [((r 0), .inr (13, (oMo r))), ((r 1), .inl (cy 0, 16000, .inl g2))] H := hP
  have hD : va_D A [((r 0), .inr (13, (oMo r))), ((r 1), .inl (cy 0, 16000, .inl g2))] := hD
  refine lv_iinc (v := 2) (lv' := [(6, .int 2), (7, .int p1), (0, .ref (r 0)), (1, .int p1), (2, .int p2), (3, .int p3), (4, .int p4), (5, .int p5)]) hx hb d_X14_feed_111 hl (k := 1) rfl (by decide) (by decide) rfl (fun ls hl => ?_)
  refine lv_goto (tgt := 30) hx hb d_X14_feed_114 (by decide) ?_
  refine lv_iload hx hb d_X14_feed_30 (lv_at hl 0 rfl) ?_
  refine lv_bipush (v := 20) hx hb d_X14_feed_32 (by decide) ?_
  refine lv_icmp_ge (tgt := 117) hx hb d_X14_feed_34 (by decide) (fun c_34 => absurd c_34 (by decide)) (fun _ => ?_)
  refine lv_iload hx hb d_X14_feed_37 (lv_at hl 0 rfl) ?_
  refine lv_iconst (v := 4) hx hb d_X14_feed_39 (by decide) ?_
  refine lv_icmp_ge (tgt := 47) hx hb d_X14_feed_40 (by decide) (fun c_40 => absurd c_40 (by decide)) (fun _ => ?_)
  refine lv_iload_n hx hb d_X14_feed_43 rfl (lv_at hl 3 rfl) ?_
  refine lv_goto (tgt := 83) hx hb d_X14_feed_44 (by decide) ?_
  refine lv_istore (lv' := [(7, .int p1), (6, .int 2), (0, .ref (r 0)), (1, .int p1), (2, .int p2), (3, .int p3), (4, .int p4), (5, .int p5)]) hx hb d_X14_feed_83 hl (by decide) rfl (fun ls hl => ?_)
  refine lv_aload_n hx hb d_X14_feed_85 rfl (lv_at hl 2 rfl) ?_
  refine va_get (D := D) (ci := 13) (v := .ref (r 1)) (C := "LinkedUnitsModel") (T := TX14) (N := 100) hx hb hg iwX14 hown hK hP 0 rfl rfl 0 (by decide) (hg _ m_1865) (fun _ h9 => h9) rfl d_X14_feed_86 ?_
  refine lv_aload_n hx hb d_X14_feed_89 rfl (lv_at hl 2 rfl) ?_
  refine va_get (D := D) (ci := 13) (v := .int 0) (C := "LinkedUnitsModel") (T := TX14) (N := 100) hx hb hg iwX14 hown hK hP 0 rfl rfl 1 (by decide) (hg _ m_1866) (fun _ h9 => h9) rfl d_X14_feed_90 ?_
  refine lv_iload hx hb d_X14_feed_93 (lv_at hl 1 rfl) ?_
  refine lv_iadd hx hb d_X14_feed_95 ?_
  refine k_topi 2 (by decide) ?_
  refine lv_iload hx hb d_X14_feed_96 (lv_at hl 0 rfl) ?_
  refine lv_bipush (v := 24) hx hb d_X14_feed_98 (by decide) ?_
  refine lv_bipush (v := 8) hx hb d_X14_feed_100 (by decide) ?_
  refine lv_iload hx hb d_X14_feed_102 (lv_at hl 1 rfl) ?_
  refine lv_iconst (v := 4) hx hb d_X14_feed_104 (by decide) ?_
  refine lv_irem hx hb d_X14_feed_105 (by decide) ?_
  refine k_topi 2 (by decide) ?_
  refine lv_imul hx hb d_X14_feed_106 ?_
  refine k_topi 16 (by decide) ?_
  refine lv_isub hx hb d_X14_feed_107 ?_
  refine k_topi 8 (by decide) ?_
  refine lv_ishr hx hb d_X14_feed_108 ?_
  refine lv_i2b (v := ((p1 >>> (8 &&& 31))).toInt8.toInt32) hx hb d_X14_feed_109 rfl ?_
  refine k_bast_any hx hb hK hP hD hS 1 0 rfl rfl (k_inK (by decide)) d_X14_feed_110 (fun g3 H locs hP hD hS => ?_)
  have hP : va_P D vwCl [((r 0), .inr (13, (oMo r))), ((r 1), .inl (cy 0, 16000, .inl g3))] H := hP
  have hD : va_D A [((r 0), .inr (13, (oMo r))), ((r 1), .inl (cy 0, 16000, .inl g3))] := hD
  refine lv_iinc (v := 3) (lv' := [(6, .int 3), (7, .int p1), (0, .ref (r 0)), (1, .int p1), (2, .int p2), (3, .int p3), (4, .int p4), (5, .int p5)]) hx hb d_X14_feed_111 hl (k := 1) rfl (by decide) (by decide) rfl (fun ls hl => ?_)
  refine lv_goto (tgt := 30) hx hb d_X14_feed_114 (by decide) ?_
  refine lv_iload hx hb d_X14_feed_30 (lv_at hl 0 rfl) ?_
  refine lv_bipush (v := 20) hx hb d_X14_feed_32 (by decide) ?_
  refine lv_icmp_ge (tgt := 117) hx hb d_X14_feed_34 (by decide) (fun c_34 => absurd c_34 (by decide)) (fun _ => ?_)
  refine lv_iload hx hb d_X14_feed_37 (lv_at hl 0 rfl) ?_
  refine lv_iconst (v := 4) hx hb d_X14_feed_39 (by decide) ?_
  refine lv_icmp_ge (tgt := 47) hx hb d_X14_feed_40 (by decide) (fun c_40 => absurd c_40 (by decide)) (fun _ => ?_)
  refine lv_iload_n hx hb d_X14_feed_43 rfl (lv_at hl 3 rfl) ?_
  refine lv_goto (tgt := 83) hx hb d_X14_feed_44 (by decide) ?_
  refine lv_istore (lv' := [(7, .int p1), (6, .int 3), (0, .ref (r 0)), (1, .int p1), (2, .int p2), (3, .int p3), (4, .int p4), (5, .int p5)]) hx hb d_X14_feed_83 hl (by decide) rfl (fun ls hl => ?_)
  refine lv_aload_n hx hb d_X14_feed_85 rfl (lv_at hl 2 rfl) ?_
  refine va_get (D := D) (ci := 13) (v := .ref (r 1)) (C := "LinkedUnitsModel") (T := TX14) (N := 100) hx hb hg iwX14 hown hK hP 0 rfl rfl 0 (by decide) (hg _ m_1865) (fun _ h9 => h9) rfl d_X14_feed_86 ?_
  refine lv_aload_n hx hb d_X14_feed_89 rfl (lv_at hl 2 rfl) ?_
  refine va_get (D := D) (ci := 13) (v := .int 0) (C := "LinkedUnitsModel") (T := TX14) (N := 100) hx hb hg iwX14 hown hK hP 0 rfl rfl 1 (by decide) (hg _ m_1866) (fun _ h9 => h9) rfl d_X14_feed_90 ?_
  refine lv_iload hx hb d_X14_feed_93 (lv_at hl 1 rfl) ?_
  refine lv_iadd hx hb d_X14_feed_95 ?_
  refine k_topi 3 (by decide) ?_
  refine lv_iload hx hb d_X14_feed_96 (lv_at hl 0 rfl) ?_
  refine lv_bipush (v := 24) hx hb d_X14_feed_98 (by decide) ?_
  refine lv_bipush (v := 8) hx hb d_X14_feed_100 (by decide) ?_
  refine lv_iload hx hb d_X14_feed_102 (lv_at hl 1 rfl) ?_
  refine lv_iconst (v := 4) hx hb d_X14_feed_104 (by decide) ?_
  refine lv_irem hx hb d_X14_feed_105 (by decide) ?_
  refine k_topi 3 (by decide) ?_
  refine lv_imul hx hb d_X14_feed_106 ?_
  refine k_topi 24 (by decide) ?_
  refine lv_isub hx hb d_X14_feed_107 ?_
  refine k_topi 0 (by decide) ?_
  refine lv_ishr hx hb d_X14_feed_108 ?_
  refine lv_i2b (v := ((p1 >>> (0 &&& 31))).toInt8.toInt32) hx hb d_X14_feed_109 rfl ?_
  refine k_bast_any hx hb hK hP hD hS 1 0 rfl rfl (k_inK (by decide)) d_X14_feed_110 (fun g4 H locs hP hD hS => ?_)
  have hP : va_P D vwCl [((r 0), .inr (13, (oMo r))), ((r 1), .inl (cy 0, 16000, .inl g4))] H := hP
  have hD : va_D A [((r 0), .inr (13, (oMo r))), ((r 1), .inl (cy 0, 16000, .inl g4))] := hD
  refine lv_iinc (v := 4) (lv' := [(6, .int 4), (7, .int p1), (0, .ref (r 0)), (1, .int p1), (2, .int p2), (3, .int p3), (4, .int p4), (5, .int p5)]) hx hb d_X14_feed_111 hl (k := 1) rfl (by decide) (by decide) rfl (fun ls hl => ?_)
  refine lv_goto (tgt := 30) hx hb d_X14_feed_114 (by decide) ?_
  refine lv_iload hx hb d_X14_feed_30 (lv_at hl 0 rfl) ?_
  refine lv_bipush (v := 20) hx hb d_X14_feed_32 (by decide) ?_
  refine lv_icmp_ge (tgt := 117) hx hb d_X14_feed_34 (by decide) (fun c_34 => absurd c_34 (by decide)) (fun _ => ?_)
  refine lv_iload hx hb d_X14_feed_37 (lv_at hl 0 rfl) ?_
  refine lv_iconst (v := 4) hx hb d_X14_feed_39 (by decide) ?_
  refine lv_icmp_ge (tgt := 47) hx hb d_X14_feed_40 (by decide) (fun _ => ?_) (fun c_40 => False.elim (by revert c_40; decide))
  refine lv_iload hx hb d_X14_feed_47 (lv_at hl 0 rfl) ?_
  refine lv_bipush (v := 8) hx hb d_X14_feed_49 (by decide) ?_
  refine lv_icmp_ge (tgt := 58) hx hb d_X14_feed_51 (by decide) (fun c_51 => absurd c_51 (by decide)) (fun _ => ?_)
  refine lv_iload_n hx hb d_X14_feed_54 rfl (lv_at hl 4 rfl) ?_
  refine lv_goto (tgt := 83) hx hb d_X14_feed_55 (by decide) ?_
  refine lv_istore (lv' := [(7, .int p2), (6, .int 4), (0, .ref (r 0)), (1, .int p1), (2, .int p2), (3, .int p3), (4, .int p4), (5, .int p5)]) hx hb d_X14_feed_83 hl (by decide) rfl (fun ls hl => ?_)
  refine lv_aload_n hx hb d_X14_feed_85 rfl (lv_at hl 2 rfl) ?_
  refine va_get (D := D) (ci := 13) (v := .ref (r 1)) (C := "LinkedUnitsModel") (T := TX14) (N := 100) hx hb hg iwX14 hown hK hP 0 rfl rfl 0 (by decide) (hg _ m_1865) (fun _ h9 => h9) rfl d_X14_feed_86 ?_
  refine lv_aload_n hx hb d_X14_feed_89 rfl (lv_at hl 2 rfl) ?_
  refine va_get (D := D) (ci := 13) (v := .int 0) (C := "LinkedUnitsModel") (T := TX14) (N := 100) hx hb hg iwX14 hown hK hP 0 rfl rfl 1 (by decide) (hg _ m_1866) (fun _ h9 => h9) rfl d_X14_feed_90 ?_
  refine lv_iload hx hb d_X14_feed_93 (lv_at hl 1 rfl) ?_
  refine lv_iadd hx hb d_X14_feed_95 ?_
  refine k_topi 4 (by decide) ?_
  refine lv_iload hx hb d_X14_feed_96 (lv_at hl 0 rfl) ?_
  refine lv_bipush (v := 24) hx hb d_X14_feed_98 (by decide) ?_
  refine lv_bipush (v := 8) hx hb d_X14_feed_100 (by decide) ?_
  refine lv_iload hx hb d_X14_feed_102 (lv_at hl 1 rfl) ?_
  refine lv_iconst (v := 4) hx hb d_X14_feed_104 (by decide) ?_
  refine lv_irem hx hb d_X14_feed_105 (by decide) ?_
  refine k_topi 0 (by decide) ?_
  refine lv_imul hx hb d_X14_feed_106 ?_
  refine k_topi 0 (by decide) ?_
  refine lv_isub hx hb d_X14_feed_107 ?_
  refine k_topi 24 (by decide) ?_
  refine lv_ishr hx hb d_X14_feed_108 ?_
  refine lv_i2b (v := ((p2 >>> (24 &&& 31))).toInt8.toInt32) hx hb d_X14_feed_109 rfl ?_
  refine k_bast_any hx hb hK hP hD hS 1 0 rfl rfl (k_inK (by decide)) d_X14_feed_110 (fun g5 H locs hP hD hS => ?_)
  have hP : va_P D vwCl [((r 0), .inr (13, (oMo r))), ((r 1), .inl (cy 0, 16000, .inl g5))] H := hP
  have hD : va_D A [((r 0), .inr (13, (oMo r))), ((r 1), .inl (cy 0, 16000, .inl g5))] := hD
  refine lv_iinc (v := 5) (lv' := [(6, .int 5), (7, .int p2), (0, .ref (r 0)), (1, .int p1), (2, .int p2), (3, .int p3), (4, .int p4), (5, .int p5)]) hx hb d_X14_feed_111 hl (k := 1) rfl (by decide) (by decide) rfl (fun ls hl => ?_)
  refine lv_goto (tgt := 30) hx hb d_X14_feed_114 (by decide) ?_
  refine lv_iload hx hb d_X14_feed_30 (lv_at hl 0 rfl) ?_
  refine lv_bipush (v := 20) hx hb d_X14_feed_32 (by decide) ?_
  refine lv_icmp_ge (tgt := 117) hx hb d_X14_feed_34 (by decide) (fun c_34 => absurd c_34 (by decide)) (fun _ => ?_)
  refine lv_iload hx hb d_X14_feed_37 (lv_at hl 0 rfl) ?_
  refine lv_iconst (v := 4) hx hb d_X14_feed_39 (by decide) ?_
  refine lv_icmp_ge (tgt := 47) hx hb d_X14_feed_40 (by decide) (fun _ => ?_) (fun c_40 => False.elim (by revert c_40; decide))
  refine lv_iload hx hb d_X14_feed_47 (lv_at hl 0 rfl) ?_
  refine lv_bipush (v := 8) hx hb d_X14_feed_49 (by decide) ?_
  refine lv_icmp_ge (tgt := 58) hx hb d_X14_feed_51 (by decide) (fun c_51 => absurd c_51 (by decide)) (fun _ => ?_)
  refine lv_iload_n hx hb d_X14_feed_54 rfl (lv_at hl 4 rfl) ?_
  refine lv_goto (tgt := 83) hx hb d_X14_feed_55 (by decide) ?_
  refine lv_istore (lv' := [(7, .int p2), (6, .int 5), (0, .ref (r 0)), (1, .int p1), (2, .int p2), (3, .int p3), (4, .int p4), (5, .int p5)]) hx hb d_X14_feed_83 hl (by decide) rfl (fun ls hl => ?_)
  refine lv_aload_n hx hb d_X14_feed_85 rfl (lv_at hl 2 rfl) ?_
  refine va_get (D := D) (ci := 13) (v := .ref (r 1)) (C := "LinkedUnitsModel") (T := TX14) (N := 100) hx hb hg iwX14 hown hK hP 0 rfl rfl 0 (by decide) (hg _ m_1865) (fun _ h9 => h9) rfl d_X14_feed_86 ?_
  refine lv_aload_n hx hb d_X14_feed_89 rfl (lv_at hl 2 rfl) ?_
  refine va_get (D := D) (ci := 13) (v := .int 0) (C := "LinkedUnitsModel") (T := TX14) (N := 100) hx hb hg iwX14 hown hK hP 0 rfl rfl 1 (by decide) (hg _ m_1866) (fun _ h9 => h9) rfl d_X14_feed_90 ?_
  refine lv_iload hx hb d_X14_feed_93 (lv_at hl 1 rfl) ?_
  refine lv_iadd hx hb d_X14_feed_95 ?_
  refine k_topi 5 (by decide) ?_
  refine lv_iload hx hb d_X14_feed_96 (lv_at hl 0 rfl) ?_
  refine lv_bipush (v := 24) hx hb d_X14_feed_98 (by decide) ?_
  refine lv_bipush (v := 8) hx hb d_X14_feed_100 (by decide) ?_
  refine lv_iload hx hb d_X14_feed_102 (lv_at hl 1 rfl) ?_
  refine lv_iconst (v := 4) hx hb d_X14_feed_104 (by decide) ?_
  refine lv_irem hx hb d_X14_feed_105 (by decide) ?_
  refine k_topi 1 (by decide) ?_
  refine lv_imul hx hb d_X14_feed_106 ?_
  refine k_topi 8 (by decide) ?_
  refine lv_isub hx hb d_X14_feed_107 ?_
  refine k_topi 16 (by decide) ?_
  refine lv_ishr hx hb d_X14_feed_108 ?_
  refine lv_i2b (v := ((p2 >>> (16 &&& 31))).toInt8.toInt32) hx hb d_X14_feed_109 rfl ?_
  refine k_bast_any hx hb hK hP hD hS 1 0 rfl rfl (k_inK (by decide)) d_X14_feed_110 (fun g6 H locs hP hD hS => ?_)
  have hP : va_P D vwCl [((r 0), .inr (13, (oMo r))), ((r 1), .inl (cy 0, 16000, .inl g6))] H := hP
  have hD : va_D A [((r 0), .inr (13, (oMo r))), ((r 1), .inl (cy 0, 16000, .inl g6))] := hD
  refine lv_iinc (v := 6) (lv' := [(6, .int 6), (7, .int p2), (0, .ref (r 0)), (1, .int p1), (2, .int p2), (3, .int p3), (4, .int p4), (5, .int p5)]) hx hb d_X14_feed_111 hl (k := 1) rfl (by decide) (by decide) rfl (fun ls hl => ?_)
  refine lv_goto (tgt := 30) hx hb d_X14_feed_114 (by decide) ?_
  refine lv_iload hx hb d_X14_feed_30 (lv_at hl 0 rfl) ?_
  refine lv_bipush (v := 20) hx hb d_X14_feed_32 (by decide) ?_
  refine lv_icmp_ge (tgt := 117) hx hb d_X14_feed_34 (by decide) (fun c_34 => absurd c_34 (by decide)) (fun _ => ?_)
  refine lv_iload hx hb d_X14_feed_37 (lv_at hl 0 rfl) ?_
  refine lv_iconst (v := 4) hx hb d_X14_feed_39 (by decide) ?_
  refine lv_icmp_ge (tgt := 47) hx hb d_X14_feed_40 (by decide) (fun _ => ?_) (fun c_40 => False.elim (by revert c_40; decide))
  refine lv_iload hx hb d_X14_feed_47 (lv_at hl 0 rfl) ?_
  refine lv_bipush (v := 8) hx hb d_X14_feed_49 (by decide) ?_
  refine lv_icmp_ge (tgt := 58) hx hb d_X14_feed_51 (by decide) (fun c_51 => absurd c_51 (by decide)) (fun _ => ?_)
  refine lv_iload_n hx hb d_X14_feed_54 rfl (lv_at hl 4 rfl) ?_
  refine lv_goto (tgt := 83) hx hb d_X14_feed_55 (by decide) ?_
  refine lv_istore (lv' := [(7, .int p2), (6, .int 6), (0, .ref (r 0)), (1, .int p1), (2, .int p2), (3, .int p3), (4, .int p4), (5, .int p5)]) hx hb d_X14_feed_83 hl (by decide) rfl (fun ls hl => ?_)
  refine lv_aload_n hx hb d_X14_feed_85 rfl (lv_at hl 2 rfl) ?_
  refine va_get (D := D) (ci := 13) (v := .ref (r 1)) (C := "LinkedUnitsModel") (T := TX14) (N := 100) hx hb hg iwX14 hown hK hP 0 rfl rfl 0 (by decide) (hg _ m_1865) (fun _ h9 => h9) rfl d_X14_feed_86 ?_
  refine lv_aload_n hx hb d_X14_feed_89 rfl (lv_at hl 2 rfl) ?_
  refine va_get (D := D) (ci := 13) (v := .int 0) (C := "LinkedUnitsModel") (T := TX14) (N := 100) hx hb hg iwX14 hown hK hP 0 rfl rfl 1 (by decide) (hg _ m_1866) (fun _ h9 => h9) rfl d_X14_feed_90 ?_
  refine lv_iload hx hb d_X14_feed_93 (lv_at hl 1 rfl) ?_
  refine lv_iadd hx hb d_X14_feed_95 ?_
  refine k_topi 6 (by decide) ?_
  refine lv_iload hx hb d_X14_feed_96 (lv_at hl 0 rfl) ?_
  refine lv_bipush (v := 24) hx hb d_X14_feed_98 (by decide) ?_
  refine lv_bipush (v := 8) hx hb d_X14_feed_100 (by decide) ?_
  refine lv_iload hx hb d_X14_feed_102 (lv_at hl 1 rfl) ?_
  refine lv_iconst (v := 4) hx hb d_X14_feed_104 (by decide) ?_
  refine lv_irem hx hb d_X14_feed_105 (by decide) ?_
  refine k_topi 2 (by decide) ?_
  refine lv_imul hx hb d_X14_feed_106 ?_
  refine k_topi 16 (by decide) ?_
  refine lv_isub hx hb d_X14_feed_107 ?_
  refine k_topi 8 (by decide) ?_
  refine lv_ishr hx hb d_X14_feed_108 ?_
  refine lv_i2b (v := ((p2 >>> (8 &&& 31))).toInt8.toInt32) hx hb d_X14_feed_109 rfl ?_
  refine k_bast_any hx hb hK hP hD hS 1 0 rfl rfl (k_inK (by decide)) d_X14_feed_110 (fun g7 H locs hP hD hS => ?_)
  have hP : va_P D vwCl [((r 0), .inr (13, (oMo r))), ((r 1), .inl (cy 0, 16000, .inl g7))] H := hP
  have hD : va_D A [((r 0), .inr (13, (oMo r))), ((r 1), .inl (cy 0, 16000, .inl g7))] := hD
  refine lv_iinc (v := 7) (lv' := [(6, .int 7), (7, .int p2), (0, .ref (r 0)), (1, .int p1), (2, .int p2), (3, .int p3), (4, .int p4), (5, .int p5)]) hx hb d_X14_feed_111 hl (k := 1) rfl (by decide) (by decide) rfl (fun ls hl => ?_)
  refine lv_goto (tgt := 30) hx hb d_X14_feed_114 (by decide) ?_
  refine lv_iload hx hb d_X14_feed_30 (lv_at hl 0 rfl) ?_
  refine lv_bipush (v := 20) hx hb d_X14_feed_32 (by decide) ?_
  refine lv_icmp_ge (tgt := 117) hx hb d_X14_feed_34 (by decide) (fun c_34 => absurd c_34 (by decide)) (fun _ => ?_)
  refine lv_iload hx hb d_X14_feed_37 (lv_at hl 0 rfl) ?_
  refine lv_iconst (v := 4) hx hb d_X14_feed_39 (by decide) ?_
  refine lv_icmp_ge (tgt := 47) hx hb d_X14_feed_40 (by decide) (fun _ => ?_) (fun c_40 => False.elim (by revert c_40; decide))
  refine lv_iload hx hb d_X14_feed_47 (lv_at hl 0 rfl) ?_
  refine lv_bipush (v := 8) hx hb d_X14_feed_49 (by decide) ?_
  refine lv_icmp_ge (tgt := 58) hx hb d_X14_feed_51 (by decide) (fun c_51 => absurd c_51 (by decide)) (fun _ => ?_)
  refine lv_iload_n hx hb d_X14_feed_54 rfl (lv_at hl 4 rfl) ?_
  refine lv_goto (tgt := 83) hx hb d_X14_feed_55 (by decide) ?_
  refine lv_istore (lv' := [(7, .int p2), (6, .int 7), (0, .ref (r 0)), (1, .int p1), (2, .int p2), (3, .int p3), (4, .int p4), (5, .int p5)]) hx hb d_X14_feed_83 hl (by decide) rfl (fun ls hl => ?_)
  refine lv_aload_n hx hb d_X14_feed_85 rfl (lv_at hl 2 rfl) ?_
  refine va_get (D := D) (ci := 13) (v := .ref (r 1)) (C := "LinkedUnitsModel") (T := TX14) (N := 100) hx hb hg iwX14 hown hK hP 0 rfl rfl 0 (by decide) (hg _ m_1865) (fun _ h9 => h9) rfl d_X14_feed_86 ?_
  refine lv_aload_n hx hb d_X14_feed_89 rfl (lv_at hl 2 rfl) ?_
  refine va_get (D := D) (ci := 13) (v := .int 0) (C := "LinkedUnitsModel") (T := TX14) (N := 100) hx hb hg iwX14 hown hK hP 0 rfl rfl 1 (by decide) (hg _ m_1866) (fun _ h9 => h9) rfl d_X14_feed_90 ?_
  refine lv_iload hx hb d_X14_feed_93 (lv_at hl 1 rfl) ?_
  refine lv_iadd hx hb d_X14_feed_95 ?_
  refine k_topi 7 (by decide) ?_
  refine lv_iload hx hb d_X14_feed_96 (lv_at hl 0 rfl) ?_
  refine lv_bipush (v := 24) hx hb d_X14_feed_98 (by decide) ?_
  refine lv_bipush (v := 8) hx hb d_X14_feed_100 (by decide) ?_
  refine lv_iload hx hb d_X14_feed_102 (lv_at hl 1 rfl) ?_
  refine lv_iconst (v := 4) hx hb d_X14_feed_104 (by decide) ?_
  refine lv_irem hx hb d_X14_feed_105 (by decide) ?_
  refine k_topi 3 (by decide) ?_
  refine lv_imul hx hb d_X14_feed_106 ?_
  refine k_topi 24 (by decide) ?_
  refine lv_isub hx hb d_X14_feed_107 ?_
  refine k_topi 0 (by decide) ?_
  refine lv_ishr hx hb d_X14_feed_108 ?_
  refine lv_i2b (v := ((p2 >>> (0 &&& 31))).toInt8.toInt32) hx hb d_X14_feed_109 rfl ?_
  refine k_bast_any hx hb hK hP hD hS 1 0 rfl rfl (k_inK (by decide)) d_X14_feed_110 (fun g8 H locs hP hD hS => ?_)
  have hP : va_P D vwCl [((r 0), .inr (13, (oMo r))), ((r 1), .inl (cy 0, 16000, .inl g8))] H := hP
  have hD : va_D A [((r 0), .inr (13, (oMo r))), ((r 1), .inl (cy 0, 16000, .inl g8))] := hD
  refine lv_iinc (v := 8) (lv' := [(6, .int 8), (7, .int p2), (0, .ref (r 0)), (1, .int p1), (2, .int p2), (3, .int p3), (4, .int p4), (5, .int p5)]) hx hb d_X14_feed_111 hl (k := 1) rfl (by decide) (by decide) rfl (fun ls hl => ?_)
  refine lv_goto (tgt := 30) hx hb d_X14_feed_114 (by decide) ?_
  refine lv_iload hx hb d_X14_feed_30 (lv_at hl 0 rfl) ?_
  refine lv_bipush (v := 20) hx hb d_X14_feed_32 (by decide) ?_
  refine lv_icmp_ge (tgt := 117) hx hb d_X14_feed_34 (by decide) (fun c_34 => absurd c_34 (by decide)) (fun _ => ?_)
  refine lv_iload hx hb d_X14_feed_37 (lv_at hl 0 rfl) ?_
  refine lv_iconst (v := 4) hx hb d_X14_feed_39 (by decide) ?_
  refine lv_icmp_ge (tgt := 47) hx hb d_X14_feed_40 (by decide) (fun _ => ?_) (fun c_40 => False.elim (by revert c_40; decide))
  refine lv_iload hx hb d_X14_feed_47 (lv_at hl 0 rfl) ?_
  refine lv_bipush (v := 8) hx hb d_X14_feed_49 (by decide) ?_
  refine lv_icmp_ge (tgt := 58) hx hb d_X14_feed_51 (by decide) (fun _ => ?_) (fun c_51 => False.elim (by revert c_51; decide))
  refine lv_iload hx hb d_X14_feed_58 (lv_at hl 0 rfl) ?_
  refine lv_bipush (v := 12) hx hb d_X14_feed_60 (by decide) ?_
  refine lv_icmp_ge (tgt := 69) hx hb d_X14_feed_62 (by decide) (fun c_62 => absurd c_62 (by decide)) (fun _ => ?_)
  refine lv_iload_n hx hb d_X14_feed_65 rfl (lv_at hl 5 rfl) ?_
  refine lv_goto (tgt := 83) hx hb d_X14_feed_66 (by decide) ?_
  refine lv_istore (lv' := [(7, .int p3), (6, .int 8), (0, .ref (r 0)), (1, .int p1), (2, .int p2), (3, .int p3), (4, .int p4), (5, .int p5)]) hx hb d_X14_feed_83 hl (by decide) rfl (fun ls hl => ?_)
  refine lv_aload_n hx hb d_X14_feed_85 rfl (lv_at hl 2 rfl) ?_
  refine va_get (D := D) (ci := 13) (v := .ref (r 1)) (C := "LinkedUnitsModel") (T := TX14) (N := 100) hx hb hg iwX14 hown hK hP 0 rfl rfl 0 (by decide) (hg _ m_1865) (fun _ h9 => h9) rfl d_X14_feed_86 ?_
  refine lv_aload_n hx hb d_X14_feed_89 rfl (lv_at hl 2 rfl) ?_
  refine va_get (D := D) (ci := 13) (v := .int 0) (C := "LinkedUnitsModel") (T := TX14) (N := 100) hx hb hg iwX14 hown hK hP 0 rfl rfl 1 (by decide) (hg _ m_1866) (fun _ h9 => h9) rfl d_X14_feed_90 ?_
  refine lv_iload hx hb d_X14_feed_93 (lv_at hl 1 rfl) ?_
  refine lv_iadd hx hb d_X14_feed_95 ?_
  refine k_topi 8 (by decide) ?_
  refine lv_iload hx hb d_X14_feed_96 (lv_at hl 0 rfl) ?_
  refine lv_bipush (v := 24) hx hb d_X14_feed_98 (by decide) ?_
  refine lv_bipush (v := 8) hx hb d_X14_feed_100 (by decide) ?_
  refine lv_iload hx hb d_X14_feed_102 (lv_at hl 1 rfl) ?_
  refine lv_iconst (v := 4) hx hb d_X14_feed_104 (by decide) ?_
  refine lv_irem hx hb d_X14_feed_105 (by decide) ?_
  refine k_topi 0 (by decide) ?_
  refine lv_imul hx hb d_X14_feed_106 ?_
  refine k_topi 0 (by decide) ?_
  refine lv_isub hx hb d_X14_feed_107 ?_
  refine k_topi 24 (by decide) ?_
  refine lv_ishr hx hb d_X14_feed_108 ?_
  refine lv_i2b (v := ((p3 >>> (24 &&& 31))).toInt8.toInt32) hx hb d_X14_feed_109 rfl ?_
  refine k_bast_any hx hb hK hP hD hS 1 0 rfl rfl (k_inK (by decide)) d_X14_feed_110 (fun g9 H locs hP hD hS => ?_)
  have hP : va_P D vwCl [((r 0), .inr (13, (oMo r))), ((r 1), .inl (cy 0, 16000, .inl g9))] H := hP
  have hD : va_D A [((r 0), .inr (13, (oMo r))), ((r 1), .inl (cy 0, 16000, .inl g9))] := hD
  refine lv_iinc (v := 9) (lv' := [(6, .int 9), (7, .int p3), (0, .ref (r 0)), (1, .int p1), (2, .int p2), (3, .int p3), (4, .int p4), (5, .int p5)]) hx hb d_X14_feed_111 hl (k := 1) rfl (by decide) (by decide) rfl (fun ls hl => ?_)
  refine lv_goto (tgt := 30) hx hb d_X14_feed_114 (by decide) ?_
  refine lv_iload hx hb d_X14_feed_30 (lv_at hl 0 rfl) ?_
  refine lv_bipush (v := 20) hx hb d_X14_feed_32 (by decide) ?_
  refine lv_icmp_ge (tgt := 117) hx hb d_X14_feed_34 (by decide) (fun c_34 => absurd c_34 (by decide)) (fun _ => ?_)
  refine lv_iload hx hb d_X14_feed_37 (lv_at hl 0 rfl) ?_
  refine lv_iconst (v := 4) hx hb d_X14_feed_39 (by decide) ?_
  refine lv_icmp_ge (tgt := 47) hx hb d_X14_feed_40 (by decide) (fun _ => ?_) (fun c_40 => False.elim (by revert c_40; decide))
  refine lv_iload hx hb d_X14_feed_47 (lv_at hl 0 rfl) ?_
  refine lv_bipush (v := 8) hx hb d_X14_feed_49 (by decide) ?_
  refine lv_icmp_ge (tgt := 58) hx hb d_X14_feed_51 (by decide) (fun _ => ?_) (fun c_51 => False.elim (by revert c_51; decide))
  refine lv_iload hx hb d_X14_feed_58 (lv_at hl 0 rfl) ?_
  refine lv_bipush (v := 12) hx hb d_X14_feed_60 (by decide) ?_
  refine lv_icmp_ge (tgt := 69) hx hb d_X14_feed_62 (by decide) (fun c_62 => absurd c_62 (by decide)) (fun _ => ?_)
  refine lv_iload_n hx hb d_X14_feed_65 rfl (lv_at hl 5 rfl) ?_
  refine lv_goto (tgt := 83) hx hb d_X14_feed_66 (by decide) ?_
  refine lv_istore (lv' := [(7, .int p3), (6, .int 9), (0, .ref (r 0)), (1, .int p1), (2, .int p2), (3, .int p3), (4, .int p4), (5, .int p5)]) hx hb d_X14_feed_83 hl (by decide) rfl (fun ls hl => ?_)
  refine lv_aload_n hx hb d_X14_feed_85 rfl (lv_at hl 2 rfl) ?_
  refine va_get (D := D) (ci := 13) (v := .ref (r 1)) (C := "LinkedUnitsModel") (T := TX14) (N := 100) hx hb hg iwX14 hown hK hP 0 rfl rfl 0 (by decide) (hg _ m_1865) (fun _ h9 => h9) rfl d_X14_feed_86 ?_
  refine lv_aload_n hx hb d_X14_feed_89 rfl (lv_at hl 2 rfl) ?_
  refine va_get (D := D) (ci := 13) (v := .int 0) (C := "LinkedUnitsModel") (T := TX14) (N := 100) hx hb hg iwX14 hown hK hP 0 rfl rfl 1 (by decide) (hg _ m_1866) (fun _ h9 => h9) rfl d_X14_feed_90 ?_
  refine lv_iload hx hb d_X14_feed_93 (lv_at hl 1 rfl) ?_
  refine lv_iadd hx hb d_X14_feed_95 ?_
  refine k_topi 9 (by decide) ?_
  refine lv_iload hx hb d_X14_feed_96 (lv_at hl 0 rfl) ?_
  refine lv_bipush (v := 24) hx hb d_X14_feed_98 (by decide) ?_
  refine lv_bipush (v := 8) hx hb d_X14_feed_100 (by decide) ?_
  refine lv_iload hx hb d_X14_feed_102 (lv_at hl 1 rfl) ?_
  refine lv_iconst (v := 4) hx hb d_X14_feed_104 (by decide) ?_
  refine lv_irem hx hb d_X14_feed_105 (by decide) ?_
  refine k_topi 1 (by decide) ?_
  refine lv_imul hx hb d_X14_feed_106 ?_
  refine k_topi 8 (by decide) ?_
  refine lv_isub hx hb d_X14_feed_107 ?_
  refine k_topi 16 (by decide) ?_
  refine lv_ishr hx hb d_X14_feed_108 ?_
  refine lv_i2b (v := ((p3 >>> (16 &&& 31))).toInt8.toInt32) hx hb d_X14_feed_109 rfl ?_
  refine k_bast_any hx hb hK hP hD hS 1 0 rfl rfl (k_inK (by decide)) d_X14_feed_110 (fun g10 H locs hP hD hS => ?_)
  have hP : va_P D vwCl [((r 0), .inr (13, (oMo r))), ((r 1), .inl (cy 0, 16000, .inl g10))] H := hP
  have hD : va_D A [((r 0), .inr (13, (oMo r))), ((r 1), .inl (cy 0, 16000, .inl g10))] := hD
  refine lv_iinc (v := 10) (lv' := [(6, .int 10), (7, .int p3), (0, .ref (r 0)), (1, .int p1), (2, .int p2), (3, .int p3), (4, .int p4), (5, .int p5)]) hx hb d_X14_feed_111 hl (k := 1) rfl (by decide) (by decide) rfl (fun ls hl => ?_)
  refine lv_goto (tgt := 30) hx hb d_X14_feed_114 (by decide) ?_
  refine lv_iload hx hb d_X14_feed_30 (lv_at hl 0 rfl) ?_
  refine lv_bipush (v := 20) hx hb d_X14_feed_32 (by decide) ?_
  refine lv_icmp_ge (tgt := 117) hx hb d_X14_feed_34 (by decide) (fun c_34 => absurd c_34 (by decide)) (fun _ => ?_)
  refine lv_iload hx hb d_X14_feed_37 (lv_at hl 0 rfl) ?_
  refine lv_iconst (v := 4) hx hb d_X14_feed_39 (by decide) ?_
  refine lv_icmp_ge (tgt := 47) hx hb d_X14_feed_40 (by decide) (fun _ => ?_) (fun c_40 => False.elim (by revert c_40; decide))
  refine lv_iload hx hb d_X14_feed_47 (lv_at hl 0 rfl) ?_
  refine lv_bipush (v := 8) hx hb d_X14_feed_49 (by decide) ?_
  refine lv_icmp_ge (tgt := 58) hx hb d_X14_feed_51 (by decide) (fun _ => ?_) (fun c_51 => False.elim (by revert c_51; decide))
  refine lv_iload hx hb d_X14_feed_58 (lv_at hl 0 rfl) ?_
  refine lv_bipush (v := 12) hx hb d_X14_feed_60 (by decide) ?_
  refine lv_icmp_ge (tgt := 69) hx hb d_X14_feed_62 (by decide) (fun c_62 => absurd c_62 (by decide)) (fun _ => ?_)
  refine lv_iload_n hx hb d_X14_feed_65 rfl (lv_at hl 5 rfl) ?_
  refine lv_goto (tgt := 83) hx hb d_X14_feed_66 (by decide) ?_
  refine lv_istore (lv' := [(7, .int p3), (6, .int 10), (0, .ref (r 0)), (1, .int p1), (2, .int p2), (3, .int p3), (4, .int p4), (5, .int p5)]) hx hb d_X14_feed_83 hl (by decide) rfl (fun ls hl => ?_)
  refine lv_aload_n hx hb d_X14_feed_85 rfl (lv_at hl 2 rfl) ?_
  refine va_get (D := D) (ci := 13) (v := .ref (r 1)) (C := "LinkedUnitsModel") (T := TX14) (N := 100) hx hb hg iwX14 hown hK hP 0 rfl rfl 0 (by decide) (hg _ m_1865) (fun _ h9 => h9) rfl d_X14_feed_86 ?_
  refine lv_aload_n hx hb d_X14_feed_89 rfl (lv_at hl 2 rfl) ?_
  refine va_get (D := D) (ci := 13) (v := .int 0) (C := "LinkedUnitsModel") (T := TX14) (N := 100) hx hb hg iwX14 hown hK hP 0 rfl rfl 1 (by decide) (hg _ m_1866) (fun _ h9 => h9) rfl d_X14_feed_90 ?_
  refine lv_iload hx hb d_X14_feed_93 (lv_at hl 1 rfl) ?_
  refine lv_iadd hx hb d_X14_feed_95 ?_
  refine k_topi 10 (by decide) ?_
  refine lv_iload hx hb d_X14_feed_96 (lv_at hl 0 rfl) ?_
  refine lv_bipush (v := 24) hx hb d_X14_feed_98 (by decide) ?_
  refine lv_bipush (v := 8) hx hb d_X14_feed_100 (by decide) ?_
  refine lv_iload hx hb d_X14_feed_102 (lv_at hl 1 rfl) ?_
  refine lv_iconst (v := 4) hx hb d_X14_feed_104 (by decide) ?_
  refine lv_irem hx hb d_X14_feed_105 (by decide) ?_
  refine k_topi 2 (by decide) ?_
  refine lv_imul hx hb d_X14_feed_106 ?_
  refine k_topi 16 (by decide) ?_
  refine lv_isub hx hb d_X14_feed_107 ?_
  refine k_topi 8 (by decide) ?_
  refine lv_ishr hx hb d_X14_feed_108 ?_
  refine lv_i2b (v := ((p3 >>> (8 &&& 31))).toInt8.toInt32) hx hb d_X14_feed_109 rfl ?_
  refine k_bast_any hx hb hK hP hD hS 1 0 rfl rfl (k_inK (by decide)) d_X14_feed_110 (fun g11 H locs hP hD hS => ?_)
  have hP : va_P D vwCl [((r 0), .inr (13, (oMo r))), ((r 1), .inl (cy 0, 16000, .inl g11))] H := hP
  have hD : va_D A [((r 0), .inr (13, (oMo r))), ((r 1), .inl (cy 0, 16000, .inl g11))] := hD
  refine lv_iinc (v := 11) (lv' := [(6, .int 11), (7, .int p3), (0, .ref (r 0)), (1, .int p1), (2, .int p2), (3, .int p3), (4, .int p4), (5, .int p5)]) hx hb d_X14_feed_111 hl (k := 1) rfl (by decide) (by decide) rfl (fun ls hl => ?_)
  refine lv_goto (tgt := 30) hx hb d_X14_feed_114 (by decide) ?_
  refine lv_iload hx hb d_X14_feed_30 (lv_at hl 0 rfl) ?_
  refine lv_bipush (v := 20) hx hb d_X14_feed_32 (by decide) ?_
  refine lv_icmp_ge (tgt := 117) hx hb d_X14_feed_34 (by decide) (fun c_34 => absurd c_34 (by decide)) (fun _ => ?_)
  refine lv_iload hx hb d_X14_feed_37 (lv_at hl 0 rfl) ?_
  refine lv_iconst (v := 4) hx hb d_X14_feed_39 (by decide) ?_
  refine lv_icmp_ge (tgt := 47) hx hb d_X14_feed_40 (by decide) (fun _ => ?_) (fun c_40 => False.elim (by revert c_40; decide))
  refine lv_iload hx hb d_X14_feed_47 (lv_at hl 0 rfl) ?_
  refine lv_bipush (v := 8) hx hb d_X14_feed_49 (by decide) ?_
  refine lv_icmp_ge (tgt := 58) hx hb d_X14_feed_51 (by decide) (fun _ => ?_) (fun c_51 => False.elim (by revert c_51; decide))
  refine lv_iload hx hb d_X14_feed_58 (lv_at hl 0 rfl) ?_
  refine lv_bipush (v := 12) hx hb d_X14_feed_60 (by decide) ?_
  refine lv_icmp_ge (tgt := 69) hx hb d_X14_feed_62 (by decide) (fun c_62 => absurd c_62 (by decide)) (fun _ => ?_)
  refine lv_iload_n hx hb d_X14_feed_65 rfl (lv_at hl 5 rfl) ?_
  refine lv_goto (tgt := 83) hx hb d_X14_feed_66 (by decide) ?_
  refine lv_istore (lv' := [(7, .int p3), (6, .int 11), (0, .ref (r 0)), (1, .int p1), (2, .int p2), (3, .int p3), (4, .int p4), (5, .int p5)]) hx hb d_X14_feed_83 hl (by decide) rfl (fun ls hl => ?_)
  refine lv_aload_n hx hb d_X14_feed_85 rfl (lv_at hl 2 rfl) ?_
  refine va_get (D := D) (ci := 13) (v := .ref (r 1)) (C := "LinkedUnitsModel") (T := TX14) (N := 100) hx hb hg iwX14 hown hK hP 0 rfl rfl 0 (by decide) (hg _ m_1865) (fun _ h9 => h9) rfl d_X14_feed_86 ?_
  refine lv_aload_n hx hb d_X14_feed_89 rfl (lv_at hl 2 rfl) ?_
  refine va_get (D := D) (ci := 13) (v := .int 0) (C := "LinkedUnitsModel") (T := TX14) (N := 100) hx hb hg iwX14 hown hK hP 0 rfl rfl 1 (by decide) (hg _ m_1866) (fun _ h9 => h9) rfl d_X14_feed_90 ?_
  refine lv_iload hx hb d_X14_feed_93 (lv_at hl 1 rfl) ?_
  refine lv_iadd hx hb d_X14_feed_95 ?_
  refine k_topi 11 (by decide) ?_
  refine lv_iload hx hb d_X14_feed_96 (lv_at hl 0 rfl) ?_
  refine lv_bipush (v := 24) hx hb d_X14_feed_98 (by decide) ?_
  refine lv_bipush (v := 8) hx hb d_X14_feed_100 (by decide) ?_
  refine lv_iload hx hb d_X14_feed_102 (lv_at hl 1 rfl) ?_
  refine lv_iconst (v := 4) hx hb d_X14_feed_104 (by decide) ?_
  refine lv_irem hx hb d_X14_feed_105 (by decide) ?_
  refine k_topi 3 (by decide) ?_
  refine lv_imul hx hb d_X14_feed_106 ?_
  refine k_topi 24 (by decide) ?_
  refine lv_isub hx hb d_X14_feed_107 ?_
  refine k_topi 0 (by decide) ?_
  refine lv_ishr hx hb d_X14_feed_108 ?_
  refine lv_i2b (v := ((p3 >>> (0 &&& 31))).toInt8.toInt32) hx hb d_X14_feed_109 rfl ?_
  refine k_bast_any hx hb hK hP hD hS 1 0 rfl rfl (k_inK (by decide)) d_X14_feed_110 (fun g12 H locs hP hD hS => ?_)
  have hP : va_P D vwCl [((r 0), .inr (13, (oMo r))), ((r 1), .inl (cy 0, 16000, .inl g12))] H := hP
  have hD : va_D A [((r 0), .inr (13, (oMo r))), ((r 1), .inl (cy 0, 16000, .inl g12))] := hD
  refine lv_iinc (v := 12) (lv' := [(6, .int 12), (7, .int p3), (0, .ref (r 0)), (1, .int p1), (2, .int p2), (3, .int p3), (4, .int p4), (5, .int p5)]) hx hb d_X14_feed_111 hl (k := 1) rfl (by decide) (by decide) rfl (fun ls hl => ?_)
  refine lv_goto (tgt := 30) hx hb d_X14_feed_114 (by decide) ?_
  refine lv_iload hx hb d_X14_feed_30 (lv_at hl 0 rfl) ?_
  refine lv_bipush (v := 20) hx hb d_X14_feed_32 (by decide) ?_
  refine lv_icmp_ge (tgt := 117) hx hb d_X14_feed_34 (by decide) (fun c_34 => absurd c_34 (by decide)) (fun _ => ?_)
  refine lv_iload hx hb d_X14_feed_37 (lv_at hl 0 rfl) ?_
  refine lv_iconst (v := 4) hx hb d_X14_feed_39 (by decide) ?_
  refine lv_icmp_ge (tgt := 47) hx hb d_X14_feed_40 (by decide) (fun _ => ?_) (fun c_40 => False.elim (by revert c_40; decide))
  refine lv_iload hx hb d_X14_feed_47 (lv_at hl 0 rfl) ?_
  refine lv_bipush (v := 8) hx hb d_X14_feed_49 (by decide) ?_
  refine lv_icmp_ge (tgt := 58) hx hb d_X14_feed_51 (by decide) (fun _ => ?_) (fun c_51 => False.elim (by revert c_51; decide))
  refine lv_iload hx hb d_X14_feed_58 (lv_at hl 0 rfl) ?_
  refine lv_bipush (v := 12) hx hb d_X14_feed_60 (by decide) ?_
  refine lv_icmp_ge (tgt := 69) hx hb d_X14_feed_62 (by decide) (fun _ => ?_) (fun c_62 => False.elim (by revert c_62; decide))
  refine lv_iload hx hb d_X14_feed_69 (lv_at hl 0 rfl) ?_
  refine lv_bipush (v := 16) hx hb d_X14_feed_71 (by decide) ?_
  refine lv_icmp_ge (tgt := 81) hx hb d_X14_feed_73 (by decide) (fun c_73 => absurd c_73 (by decide)) (fun _ => ?_)
  refine lv_iload hx hb d_X14_feed_76 (lv_at hl 6 rfl) ?_
  refine lv_goto (tgt := 83) hx hb d_X14_feed_78 (by decide) ?_
  refine lv_istore (lv' := [(7, .int p4), (6, .int 12), (0, .ref (r 0)), (1, .int p1), (2, .int p2), (3, .int p3), (4, .int p4), (5, .int p5)]) hx hb d_X14_feed_83 hl (by decide) rfl (fun ls hl => ?_)
  refine lv_aload_n hx hb d_X14_feed_85 rfl (lv_at hl 2 rfl) ?_
  refine va_get (D := D) (ci := 13) (v := .ref (r 1)) (C := "LinkedUnitsModel") (T := TX14) (N := 100) hx hb hg iwX14 hown hK hP 0 rfl rfl 0 (by decide) (hg _ m_1865) (fun _ h9 => h9) rfl d_X14_feed_86 ?_
  refine lv_aload_n hx hb d_X14_feed_89 rfl (lv_at hl 2 rfl) ?_
  refine va_get (D := D) (ci := 13) (v := .int 0) (C := "LinkedUnitsModel") (T := TX14) (N := 100) hx hb hg iwX14 hown hK hP 0 rfl rfl 1 (by decide) (hg _ m_1866) (fun _ h9 => h9) rfl d_X14_feed_90 ?_
  refine lv_iload hx hb d_X14_feed_93 (lv_at hl 1 rfl) ?_
  refine lv_iadd hx hb d_X14_feed_95 ?_
  refine k_topi 12 (by decide) ?_
  refine lv_iload hx hb d_X14_feed_96 (lv_at hl 0 rfl) ?_
  refine lv_bipush (v := 24) hx hb d_X14_feed_98 (by decide) ?_
  refine lv_bipush (v := 8) hx hb d_X14_feed_100 (by decide) ?_
  refine lv_iload hx hb d_X14_feed_102 (lv_at hl 1 rfl) ?_
  refine lv_iconst (v := 4) hx hb d_X14_feed_104 (by decide) ?_
  refine lv_irem hx hb d_X14_feed_105 (by decide) ?_
  refine k_topi 0 (by decide) ?_
  refine lv_imul hx hb d_X14_feed_106 ?_
  refine k_topi 0 (by decide) ?_
  refine lv_isub hx hb d_X14_feed_107 ?_
  refine k_topi 24 (by decide) ?_
  refine lv_ishr hx hb d_X14_feed_108 ?_
  refine lv_i2b (v := ((p4 >>> (24 &&& 31))).toInt8.toInt32) hx hb d_X14_feed_109 rfl ?_
  refine k_bast_any hx hb hK hP hD hS 1 0 rfl rfl (k_inK (by decide)) d_X14_feed_110 (fun g13 H locs hP hD hS => ?_)
  have hP : va_P D vwCl [((r 0), .inr (13, (oMo r))), ((r 1), .inl (cy 0, 16000, .inl g13))] H := hP
  have hD : va_D A [((r 0), .inr (13, (oMo r))), ((r 1), .inl (cy 0, 16000, .inl g13))] := hD
  refine lv_iinc (v := 13) (lv' := [(6, .int 13), (7, .int p4), (0, .ref (r 0)), (1, .int p1), (2, .int p2), (3, .int p3), (4, .int p4), (5, .int p5)]) hx hb d_X14_feed_111 hl (k := 1) rfl (by decide) (by decide) rfl (fun ls hl => ?_)
  refine lv_goto (tgt := 30) hx hb d_X14_feed_114 (by decide) ?_
  refine lv_iload hx hb d_X14_feed_30 (lv_at hl 0 rfl) ?_
  refine lv_bipush (v := 20) hx hb d_X14_feed_32 (by decide) ?_
  refine lv_icmp_ge (tgt := 117) hx hb d_X14_feed_34 (by decide) (fun c_34 => absurd c_34 (by decide)) (fun _ => ?_)
  refine lv_iload hx hb d_X14_feed_37 (lv_at hl 0 rfl) ?_
  refine lv_iconst (v := 4) hx hb d_X14_feed_39 (by decide) ?_
  refine lv_icmp_ge (tgt := 47) hx hb d_X14_feed_40 (by decide) (fun _ => ?_) (fun c_40 => False.elim (by revert c_40; decide))
  refine lv_iload hx hb d_X14_feed_47 (lv_at hl 0 rfl) ?_
  refine lv_bipush (v := 8) hx hb d_X14_feed_49 (by decide) ?_
  refine lv_icmp_ge (tgt := 58) hx hb d_X14_feed_51 (by decide) (fun _ => ?_) (fun c_51 => False.elim (by revert c_51; decide))
  refine lv_iload hx hb d_X14_feed_58 (lv_at hl 0 rfl) ?_
  refine lv_bipush (v := 12) hx hb d_X14_feed_60 (by decide) ?_
  refine lv_icmp_ge (tgt := 69) hx hb d_X14_feed_62 (by decide) (fun _ => ?_) (fun c_62 => False.elim (by revert c_62; decide))
  refine lv_iload hx hb d_X14_feed_69 (lv_at hl 0 rfl) ?_
  refine lv_bipush (v := 16) hx hb d_X14_feed_71 (by decide) ?_
  refine lv_icmp_ge (tgt := 81) hx hb d_X14_feed_73 (by decide) (fun c_73 => absurd c_73 (by decide)) (fun _ => ?_)
  refine lv_iload hx hb d_X14_feed_76 (lv_at hl 6 rfl) ?_
  refine lv_goto (tgt := 83) hx hb d_X14_feed_78 (by decide) ?_
  refine lv_istore (lv' := [(7, .int p4), (6, .int 13), (0, .ref (r 0)), (1, .int p1), (2, .int p2), (3, .int p3), (4, .int p4), (5, .int p5)]) hx hb d_X14_feed_83 hl (by decide) rfl (fun ls hl => ?_)
  refine lv_aload_n hx hb d_X14_feed_85 rfl (lv_at hl 2 rfl) ?_
  refine va_get (D := D) (ci := 13) (v := .ref (r 1)) (C := "LinkedUnitsModel") (T := TX14) (N := 100) hx hb hg iwX14 hown hK hP 0 rfl rfl 0 (by decide) (hg _ m_1865) (fun _ h9 => h9) rfl d_X14_feed_86 ?_
  refine lv_aload_n hx hb d_X14_feed_89 rfl (lv_at hl 2 rfl) ?_
  refine va_get (D := D) (ci := 13) (v := .int 0) (C := "LinkedUnitsModel") (T := TX14) (N := 100) hx hb hg iwX14 hown hK hP 0 rfl rfl 1 (by decide) (hg _ m_1866) (fun _ h9 => h9) rfl d_X14_feed_90 ?_
  refine lv_iload hx hb d_X14_feed_93 (lv_at hl 1 rfl) ?_
  refine lv_iadd hx hb d_X14_feed_95 ?_
  refine k_topi 13 (by decide) ?_
  refine lv_iload hx hb d_X14_feed_96 (lv_at hl 0 rfl) ?_
  refine lv_bipush (v := 24) hx hb d_X14_feed_98 (by decide) ?_
  refine lv_bipush (v := 8) hx hb d_X14_feed_100 (by decide) ?_
  refine lv_iload hx hb d_X14_feed_102 (lv_at hl 1 rfl) ?_
  refine lv_iconst (v := 4) hx hb d_X14_feed_104 (by decide) ?_
  refine lv_irem hx hb d_X14_feed_105 (by decide) ?_
  refine k_topi 1 (by decide) ?_
  refine lv_imul hx hb d_X14_feed_106 ?_
  refine k_topi 8 (by decide) ?_
  refine lv_isub hx hb d_X14_feed_107 ?_
  refine k_topi 16 (by decide) ?_
  refine lv_ishr hx hb d_X14_feed_108 ?_
  refine lv_i2b (v := ((p4 >>> (16 &&& 31))).toInt8.toInt32) hx hb d_X14_feed_109 rfl ?_
  refine k_bast_any hx hb hK hP hD hS 1 0 rfl rfl (k_inK (by decide)) d_X14_feed_110 (fun g14 H locs hP hD hS => ?_)
  have hP : va_P D vwCl [((r 0), .inr (13, (oMo r))), ((r 1), .inl (cy 0, 16000, .inl g14))] H := hP
  have hD : va_D A [((r 0), .inr (13, (oMo r))), ((r 1), .inl (cy 0, 16000, .inl g14))] := hD
  refine lv_iinc (v := 14) (lv' := [(6, .int 14), (7, .int p4), (0, .ref (r 0)), (1, .int p1), (2, .int p2), (3, .int p3), (4, .int p4), (5, .int p5)]) hx hb d_X14_feed_111 hl (k := 1) rfl (by decide) (by decide) rfl (fun ls hl => ?_)
  refine lv_goto (tgt := 30) hx hb d_X14_feed_114 (by decide) ?_
  refine lv_iload hx hb d_X14_feed_30 (lv_at hl 0 rfl) ?_
  refine lv_bipush (v := 20) hx hb d_X14_feed_32 (by decide) ?_
  refine lv_icmp_ge (tgt := 117) hx hb d_X14_feed_34 (by decide) (fun c_34 => absurd c_34 (by decide)) (fun _ => ?_)
  refine lv_iload hx hb d_X14_feed_37 (lv_at hl 0 rfl) ?_
  refine lv_iconst (v := 4) hx hb d_X14_feed_39 (by decide) ?_
  refine lv_icmp_ge (tgt := 47) hx hb d_X14_feed_40 (by decide) (fun _ => ?_) (fun c_40 => False.elim (by revert c_40; decide))
  refine lv_iload hx hb d_X14_feed_47 (lv_at hl 0 rfl) ?_
  refine lv_bipush (v := 8) hx hb d_X14_feed_49 (by decide) ?_
  refine lv_icmp_ge (tgt := 58) hx hb d_X14_feed_51 (by decide) (fun _ => ?_) (fun c_51 => False.elim (by revert c_51; decide))
  refine lv_iload hx hb d_X14_feed_58 (lv_at hl 0 rfl) ?_
  refine lv_bipush (v := 12) hx hb d_X14_feed_60 (by decide) ?_
  refine lv_icmp_ge (tgt := 69) hx hb d_X14_feed_62 (by decide) (fun _ => ?_) (fun c_62 => False.elim (by revert c_62; decide))
  refine lv_iload hx hb d_X14_feed_69 (lv_at hl 0 rfl) ?_
  refine lv_bipush (v := 16) hx hb d_X14_feed_71 (by decide) ?_
  refine lv_icmp_ge (tgt := 81) hx hb d_X14_feed_73 (by decide) (fun c_73 => absurd c_73 (by decide)) (fun _ => ?_)
  refine lv_iload hx hb d_X14_feed_76 (lv_at hl 6 rfl) ?_
  refine lv_goto (tgt := 83) hx hb d_X14_feed_78 (by decide) ?_
  refine lv_istore (lv' := [(7, .int p4), (6, .int 14), (0, .ref (r 0)), (1, .int p1), (2, .int p2), (3, .int p3), (4, .int p4), (5, .int p5)]) hx hb d_X14_feed_83 hl (by decide) rfl (fun ls hl => ?_)
  refine lv_aload_n hx hb d_X14_feed_85 rfl (lv_at hl 2 rfl) ?_
  refine va_get (D := D) (ci := 13) (v := .ref (r 1)) (C := "LinkedUnitsModel") (T := TX14) (N := 100) hx hb hg iwX14 hown hK hP 0 rfl rfl 0 (by decide) (hg _ m_1865) (fun _ h9 => h9) rfl d_X14_feed_86 ?_
  refine lv_aload_n hx hb d_X14_feed_89 rfl (lv_at hl 2 rfl) ?_
  refine va_get (D := D) (ci := 13) (v := .int 0) (C := "LinkedUnitsModel") (T := TX14) (N := 100) hx hb hg iwX14 hown hK hP 0 rfl rfl 1 (by decide) (hg _ m_1866) (fun _ h9 => h9) rfl d_X14_feed_90 ?_
  refine lv_iload hx hb d_X14_feed_93 (lv_at hl 1 rfl) ?_
  refine lv_iadd hx hb d_X14_feed_95 ?_
  refine k_topi 14 (by decide) ?_
  refine lv_iload hx hb d_X14_feed_96 (lv_at hl 0 rfl) ?_
  refine lv_bipush (v := 24) hx hb d_X14_feed_98 (by decide) ?_
  refine lv_bipush (v := 8) hx hb d_X14_feed_100 (by decide) ?_
  refine lv_iload hx hb d_X14_feed_102 (lv_at hl 1 rfl) ?_
  refine lv_iconst (v := 4) hx hb d_X14_feed_104 (by decide) ?_
  refine lv_irem hx hb d_X14_feed_105 (by decide) ?_
  refine k_topi 2 (by decide) ?_
  refine lv_imul hx hb d_X14_feed_106 ?_
  refine k_topi 16 (by decide) ?_
  refine lv_isub hx hb d_X14_feed_107 ?_
  refine k_topi 8 (by decide) ?_
  refine lv_ishr hx hb d_X14_feed_108 ?_
  refine lv_i2b (v := ((p4 >>> (8 &&& 31))).toInt8.toInt32) hx hb d_X14_feed_109 rfl ?_
  refine k_bast_any hx hb hK hP hD hS 1 0 rfl rfl (k_inK (by decide)) d_X14_feed_110 (fun g15 H locs hP hD hS => ?_)
  have hP : va_P D vwCl [((r 0), .inr (13, (oMo r))), ((r 1), .inl (cy 0, 16000, .inl g15))] H := hP
  have hD : va_D A [((r 0), .inr (13, (oMo r))), ((r 1), .inl (cy 0, 16000, .inl g15))] := hD
  refine lv_iinc (v := 15) (lv' := [(6, .int 15), (7, .int p4), (0, .ref (r 0)), (1, .int p1), (2, .int p2), (3, .int p3), (4, .int p4), (5, .int p5)]) hx hb d_X14_feed_111 hl (k := 1) rfl (by decide) (by decide) rfl (fun ls hl => ?_)
  refine lv_goto (tgt := 30) hx hb d_X14_feed_114 (by decide) ?_
  refine lv_iload hx hb d_X14_feed_30 (lv_at hl 0 rfl) ?_
  refine lv_bipush (v := 20) hx hb d_X14_feed_32 (by decide) ?_
  refine lv_icmp_ge (tgt := 117) hx hb d_X14_feed_34 (by decide) (fun c_34 => absurd c_34 (by decide)) (fun _ => ?_)
  refine lv_iload hx hb d_X14_feed_37 (lv_at hl 0 rfl) ?_
  refine lv_iconst (v := 4) hx hb d_X14_feed_39 (by decide) ?_
  refine lv_icmp_ge (tgt := 47) hx hb d_X14_feed_40 (by decide) (fun _ => ?_) (fun c_40 => False.elim (by revert c_40; decide))
  refine lv_iload hx hb d_X14_feed_47 (lv_at hl 0 rfl) ?_
  refine lv_bipush (v := 8) hx hb d_X14_feed_49 (by decide) ?_
  refine lv_icmp_ge (tgt := 58) hx hb d_X14_feed_51 (by decide) (fun _ => ?_) (fun c_51 => False.elim (by revert c_51; decide))
  refine lv_iload hx hb d_X14_feed_58 (lv_at hl 0 rfl) ?_
  refine lv_bipush (v := 12) hx hb d_X14_feed_60 (by decide) ?_
  refine lv_icmp_ge (tgt := 69) hx hb d_X14_feed_62 (by decide) (fun _ => ?_) (fun c_62 => False.elim (by revert c_62; decide))
  refine lv_iload hx hb d_X14_feed_69 (lv_at hl 0 rfl) ?_
  refine lv_bipush (v := 16) hx hb d_X14_feed_71 (by decide) ?_
  refine lv_icmp_ge (tgt := 81) hx hb d_X14_feed_73 (by decide) (fun c_73 => absurd c_73 (by decide)) (fun _ => ?_)
  refine lv_iload hx hb d_X14_feed_76 (lv_at hl 6 rfl) ?_
  refine lv_goto (tgt := 83) hx hb d_X14_feed_78 (by decide) ?_
  refine lv_istore (lv' := [(7, .int p4), (6, .int 15), (0, .ref (r 0)), (1, .int p1), (2, .int p2), (3, .int p3), (4, .int p4), (5, .int p5)]) hx hb d_X14_feed_83 hl (by decide) rfl (fun ls hl => ?_)
  refine lv_aload_n hx hb d_X14_feed_85 rfl (lv_at hl 2 rfl) ?_
  refine va_get (D := D) (ci := 13) (v := .ref (r 1)) (C := "LinkedUnitsModel") (T := TX14) (N := 100) hx hb hg iwX14 hown hK hP 0 rfl rfl 0 (by decide) (hg _ m_1865) (fun _ h9 => h9) rfl d_X14_feed_86 ?_
  refine lv_aload_n hx hb d_X14_feed_89 rfl (lv_at hl 2 rfl) ?_
  refine va_get (D := D) (ci := 13) (v := .int 0) (C := "LinkedUnitsModel") (T := TX14) (N := 100) hx hb hg iwX14 hown hK hP 0 rfl rfl 1 (by decide) (hg _ m_1866) (fun _ h9 => h9) rfl d_X14_feed_90 ?_
  refine lv_iload hx hb d_X14_feed_93 (lv_at hl 1 rfl) ?_
  refine lv_iadd hx hb d_X14_feed_95 ?_
  refine k_topi 15 (by decide) ?_
  refine lv_iload hx hb d_X14_feed_96 (lv_at hl 0 rfl) ?_
  refine lv_bipush (v := 24) hx hb d_X14_feed_98 (by decide) ?_
  refine lv_bipush (v := 8) hx hb d_X14_feed_100 (by decide) ?_
  refine lv_iload hx hb d_X14_feed_102 (lv_at hl 1 rfl) ?_
  refine lv_iconst (v := 4) hx hb d_X14_feed_104 (by decide) ?_
  refine lv_irem hx hb d_X14_feed_105 (by decide) ?_
  refine k_topi 3 (by decide) ?_
  refine lv_imul hx hb d_X14_feed_106 ?_
  refine k_topi 24 (by decide) ?_
  refine lv_isub hx hb d_X14_feed_107 ?_
  refine k_topi 0 (by decide) ?_
  refine lv_ishr hx hb d_X14_feed_108 ?_
  refine lv_i2b (v := ((p4 >>> (0 &&& 31))).toInt8.toInt32) hx hb d_X14_feed_109 rfl ?_
  refine k_bast_any hx hb hK hP hD hS 1 0 rfl rfl (k_inK (by decide)) d_X14_feed_110 (fun g16 H locs hP hD hS => ?_)
  have hP : va_P D vwCl [((r 0), .inr (13, (oMo r))), ((r 1), .inl (cy 0, 16000, .inl g16))] H := hP
  have hD : va_D A [((r 0), .inr (13, (oMo r))), ((r 1), .inl (cy 0, 16000, .inl g16))] := hD
  refine lv_iinc (v := 16) (lv' := [(6, .int 16), (7, .int p4), (0, .ref (r 0)), (1, .int p1), (2, .int p2), (3, .int p3), (4, .int p4), (5, .int p5)]) hx hb d_X14_feed_111 hl (k := 1) rfl (by decide) (by decide) rfl (fun ls hl => ?_)
  refine lv_goto (tgt := 30) hx hb d_X14_feed_114 (by decide) ?_
  refine lv_iload hx hb d_X14_feed_30 (lv_at hl 0 rfl) ?_
  refine lv_bipush (v := 20) hx hb d_X14_feed_32 (by decide) ?_
  refine lv_icmp_ge (tgt := 117) hx hb d_X14_feed_34 (by decide) (fun c_34 => absurd c_34 (by decide)) (fun _ => ?_)
  refine lv_iload hx hb d_X14_feed_37 (lv_at hl 0 rfl) ?_
  refine lv_iconst (v := 4) hx hb d_X14_feed_39 (by decide) ?_
  refine lv_icmp_ge (tgt := 47) hx hb d_X14_feed_40 (by decide) (fun _ => ?_) (fun c_40 => False.elim (by revert c_40; decide))
  refine lv_iload hx hb d_X14_feed_47 (lv_at hl 0 rfl) ?_
  refine lv_bipush (v := 8) hx hb d_X14_feed_49 (by decide) ?_
  refine lv_icmp_ge (tgt := 58) hx hb d_X14_feed_51 (by decide) (fun _ => ?_) (fun c_51 => False.elim (by revert c_51; decide))
  refine lv_iload hx hb d_X14_feed_58 (lv_at hl 0 rfl) ?_
  refine lv_bipush (v := 12) hx hb d_X14_feed_60 (by decide) ?_
  refine lv_icmp_ge (tgt := 69) hx hb d_X14_feed_62 (by decide) (fun _ => ?_) (fun c_62 => False.elim (by revert c_62; decide))
  refine lv_iload hx hb d_X14_feed_69 (lv_at hl 0 rfl) ?_
  refine lv_bipush (v := 16) hx hb d_X14_feed_71 (by decide) ?_
  refine lv_icmp_ge (tgt := 81) hx hb d_X14_feed_73 (by decide) (fun _ => ?_) (fun c_73 => False.elim (by revert c_73; decide))
  refine lv_iload hx hb d_X14_feed_81 (lv_at hl 7 rfl) ?_
  refine lv_istore (lv' := [(7, .int p5), (6, .int 16), (0, .ref (r 0)), (1, .int p1), (2, .int p2), (3, .int p3), (4, .int p4), (5, .int p5)]) hx hb d_X14_feed_83 hl (by decide) rfl (fun ls hl => ?_)
  refine lv_aload_n hx hb d_X14_feed_85 rfl (lv_at hl 2 rfl) ?_
  refine va_get (D := D) (ci := 13) (v := .ref (r 1)) (C := "LinkedUnitsModel") (T := TX14) (N := 100) hx hb hg iwX14 hown hK hP 0 rfl rfl 0 (by decide) (hg _ m_1865) (fun _ h9 => h9) rfl d_X14_feed_86 ?_
  refine lv_aload_n hx hb d_X14_feed_89 rfl (lv_at hl 2 rfl) ?_
  refine va_get (D := D) (ci := 13) (v := .int 0) (C := "LinkedUnitsModel") (T := TX14) (N := 100) hx hb hg iwX14 hown hK hP 0 rfl rfl 1 (by decide) (hg _ m_1866) (fun _ h9 => h9) rfl d_X14_feed_90 ?_
  refine lv_iload hx hb d_X14_feed_93 (lv_at hl 1 rfl) ?_
  refine lv_iadd hx hb d_X14_feed_95 ?_
  refine k_topi 16 (by decide) ?_
  refine lv_iload hx hb d_X14_feed_96 (lv_at hl 0 rfl) ?_
  refine lv_bipush (v := 24) hx hb d_X14_feed_98 (by decide) ?_
  refine lv_bipush (v := 8) hx hb d_X14_feed_100 (by decide) ?_
  refine lv_iload hx hb d_X14_feed_102 (lv_at hl 1 rfl) ?_
  refine lv_iconst (v := 4) hx hb d_X14_feed_104 (by decide) ?_
  refine lv_irem hx hb d_X14_feed_105 (by decide) ?_
  refine k_topi 0 (by decide) ?_
  refine lv_imul hx hb d_X14_feed_106 ?_
  refine k_topi 0 (by decide) ?_
  refine lv_isub hx hb d_X14_feed_107 ?_
  refine k_topi 24 (by decide) ?_
  refine lv_ishr hx hb d_X14_feed_108 ?_
  refine lv_i2b (v := ((p5 >>> (24 &&& 31))).toInt8.toInt32) hx hb d_X14_feed_109 rfl ?_
  refine k_bast_any hx hb hK hP hD hS 1 0 rfl rfl (k_inK (by decide)) d_X14_feed_110 (fun g17 H locs hP hD hS => ?_)
  have hP : va_P D vwCl [((r 0), .inr (13, (oMo r))), ((r 1), .inl (cy 0, 16000, .inl g17))] H := hP
  have hD : va_D A [((r 0), .inr (13, (oMo r))), ((r 1), .inl (cy 0, 16000, .inl g17))] := hD
  refine lv_iinc (v := 17) (lv' := [(6, .int 17), (7, .int p5), (0, .ref (r 0)), (1, .int p1), (2, .int p2), (3, .int p3), (4, .int p4), (5, .int p5)]) hx hb d_X14_feed_111 hl (k := 1) rfl (by decide) (by decide) rfl (fun ls hl => ?_)
  refine lv_goto (tgt := 30) hx hb d_X14_feed_114 (by decide) ?_
  refine lv_iload hx hb d_X14_feed_30 (lv_at hl 0 rfl) ?_
  refine lv_bipush (v := 20) hx hb d_X14_feed_32 (by decide) ?_
  refine lv_icmp_ge (tgt := 117) hx hb d_X14_feed_34 (by decide) (fun c_34 => absurd c_34 (by decide)) (fun _ => ?_)
  refine lv_iload hx hb d_X14_feed_37 (lv_at hl 0 rfl) ?_
  refine lv_iconst (v := 4) hx hb d_X14_feed_39 (by decide) ?_
  refine lv_icmp_ge (tgt := 47) hx hb d_X14_feed_40 (by decide) (fun _ => ?_) (fun c_40 => False.elim (by revert c_40; decide))
  refine lv_iload hx hb d_X14_feed_47 (lv_at hl 0 rfl) ?_
  refine lv_bipush (v := 8) hx hb d_X14_feed_49 (by decide) ?_
  refine lv_icmp_ge (tgt := 58) hx hb d_X14_feed_51 (by decide) (fun _ => ?_) (fun c_51 => False.elim (by revert c_51; decide))
  refine lv_iload hx hb d_X14_feed_58 (lv_at hl 0 rfl) ?_
  refine lv_bipush (v := 12) hx hb d_X14_feed_60 (by decide) ?_
  refine lv_icmp_ge (tgt := 69) hx hb d_X14_feed_62 (by decide) (fun _ => ?_) (fun c_62 => False.elim (by revert c_62; decide))
  refine lv_iload hx hb d_X14_feed_69 (lv_at hl 0 rfl) ?_
  refine lv_bipush (v := 16) hx hb d_X14_feed_71 (by decide) ?_
  refine lv_icmp_ge (tgt := 81) hx hb d_X14_feed_73 (by decide) (fun _ => ?_) (fun c_73 => False.elim (by revert c_73; decide))
  refine lv_iload hx hb d_X14_feed_81 (lv_at hl 7 rfl) ?_
  refine lv_istore (lv' := [(7, .int p5), (6, .int 17), (0, .ref (r 0)), (1, .int p1), (2, .int p2), (3, .int p3), (4, .int p4), (5, .int p5)]) hx hb d_X14_feed_83 hl (by decide) rfl (fun ls hl => ?_)
  refine lv_aload_n hx hb d_X14_feed_85 rfl (lv_at hl 2 rfl) ?_
  refine va_get (D := D) (ci := 13) (v := .ref (r 1)) (C := "LinkedUnitsModel") (T := TX14) (N := 100) hx hb hg iwX14 hown hK hP 0 rfl rfl 0 (by decide) (hg _ m_1865) (fun _ h9 => h9) rfl d_X14_feed_86 ?_
  refine lv_aload_n hx hb d_X14_feed_89 rfl (lv_at hl 2 rfl) ?_
  refine va_get (D := D) (ci := 13) (v := .int 0) (C := "LinkedUnitsModel") (T := TX14) (N := 100) hx hb hg iwX14 hown hK hP 0 rfl rfl 1 (by decide) (hg _ m_1866) (fun _ h9 => h9) rfl d_X14_feed_90 ?_
  refine lv_iload hx hb d_X14_feed_93 (lv_at hl 1 rfl) ?_
  refine lv_iadd hx hb d_X14_feed_95 ?_
  refine k_topi 17 (by decide) ?_
  refine lv_iload hx hb d_X14_feed_96 (lv_at hl 0 rfl) ?_
  refine lv_bipush (v := 24) hx hb d_X14_feed_98 (by decide) ?_
  refine lv_bipush (v := 8) hx hb d_X14_feed_100 (by decide) ?_
  refine lv_iload hx hb d_X14_feed_102 (lv_at hl 1 rfl) ?_
  refine lv_iconst (v := 4) hx hb d_X14_feed_104 (by decide) ?_
  refine lv_irem hx hb d_X14_feed_105 (by decide) ?_
  refine k_topi 1 (by decide) ?_
  refine lv_imul hx hb d_X14_feed_106 ?_
  refine k_topi 8 (by decide) ?_
  refine lv_isub hx hb d_X14_feed_107 ?_
  refine k_topi 16 (by decide) ?_
  refine lv_ishr hx hb d_X14_feed_108 ?_
  refine lv_i2b (v := ((p5 >>> (16 &&& 31))).toInt8.toInt32) hx hb d_X14_feed_109 rfl ?_
  refine k_bast_any hx hb hK hP hD hS 1 0 rfl rfl (k_inK (by decide)) d_X14_feed_110 (fun g18 H locs hP hD hS => ?_)
  have hP : va_P D vwCl [((r 0), .inr (13, (oMo r))), ((r 1), .inl (cy 0, 16000, .inl g18))] H := hP
  have hD : va_D A [((r 0), .inr (13, (oMo r))), ((r 1), .inl (cy 0, 16000, .inl g18))] := hD
  refine lv_iinc (v := 18) (lv' := [(6, .int 18), (7, .int p5), (0, .ref (r 0)), (1, .int p1), (2, .int p2), (3, .int p3), (4, .int p4), (5, .int p5)]) hx hb d_X14_feed_111 hl (k := 1) rfl (by decide) (by decide) rfl (fun ls hl => ?_)
  refine lv_goto (tgt := 30) hx hb d_X14_feed_114 (by decide) ?_
  refine lv_iload hx hb d_X14_feed_30 (lv_at hl 0 rfl) ?_
  refine lv_bipush (v := 20) hx hb d_X14_feed_32 (by decide) ?_
  refine lv_icmp_ge (tgt := 117) hx hb d_X14_feed_34 (by decide) (fun c_34 => absurd c_34 (by decide)) (fun _ => ?_)
  refine lv_iload hx hb d_X14_feed_37 (lv_at hl 0 rfl) ?_
  refine lv_iconst (v := 4) hx hb d_X14_feed_39 (by decide) ?_
  refine lv_icmp_ge (tgt := 47) hx hb d_X14_feed_40 (by decide) (fun _ => ?_) (fun c_40 => False.elim (by revert c_40; decide))
  refine lv_iload hx hb d_X14_feed_47 (lv_at hl 0 rfl) ?_
  refine lv_bipush (v := 8) hx hb d_X14_feed_49 (by decide) ?_
  refine lv_icmp_ge (tgt := 58) hx hb d_X14_feed_51 (by decide) (fun _ => ?_) (fun c_51 => False.elim (by revert c_51; decide))
  refine lv_iload hx hb d_X14_feed_58 (lv_at hl 0 rfl) ?_
  refine lv_bipush (v := 12) hx hb d_X14_feed_60 (by decide) ?_
  refine lv_icmp_ge (tgt := 69) hx hb d_X14_feed_62 (by decide) (fun _ => ?_) (fun c_62 => False.elim (by revert c_62; decide))
  refine lv_iload hx hb d_X14_feed_69 (lv_at hl 0 rfl) ?_
  refine lv_bipush (v := 16) hx hb d_X14_feed_71 (by decide) ?_
  refine lv_icmp_ge (tgt := 81) hx hb d_X14_feed_73 (by decide) (fun _ => ?_) (fun c_73 => False.elim (by revert c_73; decide))
  refine lv_iload hx hb d_X14_feed_81 (lv_at hl 7 rfl) ?_
  refine lv_istore (lv' := [(7, .int p5), (6, .int 18), (0, .ref (r 0)), (1, .int p1), (2, .int p2), (3, .int p3), (4, .int p4), (5, .int p5)]) hx hb d_X14_feed_83 hl (by decide) rfl (fun ls hl => ?_)
  refine lv_aload_n hx hb d_X14_feed_85 rfl (lv_at hl 2 rfl) ?_
  refine va_get (D := D) (ci := 13) (v := .ref (r 1)) (C := "LinkedUnitsModel") (T := TX14) (N := 100) hx hb hg iwX14 hown hK hP 0 rfl rfl 0 (by decide) (hg _ m_1865) (fun _ h9 => h9) rfl d_X14_feed_86 ?_
  refine lv_aload_n hx hb d_X14_feed_89 rfl (lv_at hl 2 rfl) ?_
  refine va_get (D := D) (ci := 13) (v := .int 0) (C := "LinkedUnitsModel") (T := TX14) (N := 100) hx hb hg iwX14 hown hK hP 0 rfl rfl 1 (by decide) (hg _ m_1866) (fun _ h9 => h9) rfl d_X14_feed_90 ?_
  refine lv_iload hx hb d_X14_feed_93 (lv_at hl 1 rfl) ?_
  refine lv_iadd hx hb d_X14_feed_95 ?_
  refine k_topi 18 (by decide) ?_
  refine lv_iload hx hb d_X14_feed_96 (lv_at hl 0 rfl) ?_
  refine lv_bipush (v := 24) hx hb d_X14_feed_98 (by decide) ?_
  refine lv_bipush (v := 8) hx hb d_X14_feed_100 (by decide) ?_
  refine lv_iload hx hb d_X14_feed_102 (lv_at hl 1 rfl) ?_
  refine lv_iconst (v := 4) hx hb d_X14_feed_104 (by decide) ?_
  refine lv_irem hx hb d_X14_feed_105 (by decide) ?_
  refine k_topi 2 (by decide) ?_
  refine lv_imul hx hb d_X14_feed_106 ?_
  refine k_topi 16 (by decide) ?_
  refine lv_isub hx hb d_X14_feed_107 ?_
  refine k_topi 8 (by decide) ?_
  refine lv_ishr hx hb d_X14_feed_108 ?_
  refine lv_i2b (v := ((p5 >>> (8 &&& 31))).toInt8.toInt32) hx hb d_X14_feed_109 rfl ?_
  refine k_bast_any hx hb hK hP hD hS 1 0 rfl rfl (k_inK (by decide)) d_X14_feed_110 (fun g19 H locs hP hD hS => ?_)
  have hP : va_P D vwCl [((r 0), .inr (13, (oMo r))), ((r 1), .inl (cy 0, 16000, .inl g19))] H := hP
  have hD : va_D A [((r 0), .inr (13, (oMo r))), ((r 1), .inl (cy 0, 16000, .inl g19))] := hD
  refine lv_iinc (v := 19) (lv' := [(6, .int 19), (7, .int p5), (0, .ref (r 0)), (1, .int p1), (2, .int p2), (3, .int p3), (4, .int p4), (5, .int p5)]) hx hb d_X14_feed_111 hl (k := 1) rfl (by decide) (by decide) rfl (fun ls hl => ?_)
  refine lv_goto (tgt := 30) hx hb d_X14_feed_114 (by decide) ?_
  refine lv_iload hx hb d_X14_feed_30 (lv_at hl 0 rfl) ?_
  refine lv_bipush (v := 20) hx hb d_X14_feed_32 (by decide) ?_
  refine lv_icmp_ge (tgt := 117) hx hb d_X14_feed_34 (by decide) (fun c_34 => absurd c_34 (by decide)) (fun _ => ?_)
  refine lv_iload hx hb d_X14_feed_37 (lv_at hl 0 rfl) ?_
  refine lv_iconst (v := 4) hx hb d_X14_feed_39 (by decide) ?_
  refine lv_icmp_ge (tgt := 47) hx hb d_X14_feed_40 (by decide) (fun _ => ?_) (fun c_40 => False.elim (by revert c_40; decide))
  refine lv_iload hx hb d_X14_feed_47 (lv_at hl 0 rfl) ?_
  refine lv_bipush (v := 8) hx hb d_X14_feed_49 (by decide) ?_
  refine lv_icmp_ge (tgt := 58) hx hb d_X14_feed_51 (by decide) (fun _ => ?_) (fun c_51 => False.elim (by revert c_51; decide))
  refine lv_iload hx hb d_X14_feed_58 (lv_at hl 0 rfl) ?_
  refine lv_bipush (v := 12) hx hb d_X14_feed_60 (by decide) ?_
  refine lv_icmp_ge (tgt := 69) hx hb d_X14_feed_62 (by decide) (fun _ => ?_) (fun c_62 => False.elim (by revert c_62; decide))
  refine lv_iload hx hb d_X14_feed_69 (lv_at hl 0 rfl) ?_
  refine lv_bipush (v := 16) hx hb d_X14_feed_71 (by decide) ?_
  refine lv_icmp_ge (tgt := 81) hx hb d_X14_feed_73 (by decide) (fun _ => ?_) (fun c_73 => False.elim (by revert c_73; decide))
  refine lv_iload hx hb d_X14_feed_81 (lv_at hl 7 rfl) ?_
  refine lv_istore (lv' := [(7, .int p5), (6, .int 19), (0, .ref (r 0)), (1, .int p1), (2, .int p2), (3, .int p3), (4, .int p4), (5, .int p5)]) hx hb d_X14_feed_83 hl (by decide) rfl (fun ls hl => ?_)
  refine lv_aload_n hx hb d_X14_feed_85 rfl (lv_at hl 2 rfl) ?_
  refine va_get (D := D) (ci := 13) (v := .ref (r 1)) (C := "LinkedUnitsModel") (T := TX14) (N := 100) hx hb hg iwX14 hown hK hP 0 rfl rfl 0 (by decide) (hg _ m_1865) (fun _ h9 => h9) rfl d_X14_feed_86 ?_
  refine lv_aload_n hx hb d_X14_feed_89 rfl (lv_at hl 2 rfl) ?_
  refine va_get (D := D) (ci := 13) (v := .int 0) (C := "LinkedUnitsModel") (T := TX14) (N := 100) hx hb hg iwX14 hown hK hP 0 rfl rfl 1 (by decide) (hg _ m_1866) (fun _ h9 => h9) rfl d_X14_feed_90 ?_
  refine lv_iload hx hb d_X14_feed_93 (lv_at hl 1 rfl) ?_
  refine lv_iadd hx hb d_X14_feed_95 ?_
  refine k_topi 19 (by decide) ?_
  refine lv_iload hx hb d_X14_feed_96 (lv_at hl 0 rfl) ?_
  refine lv_bipush (v := 24) hx hb d_X14_feed_98 (by decide) ?_
  refine lv_bipush (v := 8) hx hb d_X14_feed_100 (by decide) ?_
  refine lv_iload hx hb d_X14_feed_102 (lv_at hl 1 rfl) ?_
  refine lv_iconst (v := 4) hx hb d_X14_feed_104 (by decide) ?_
  refine lv_irem hx hb d_X14_feed_105 (by decide) ?_
  refine k_topi 3 (by decide) ?_
  refine lv_imul hx hb d_X14_feed_106 ?_
  refine k_topi 24 (by decide) ?_
  refine lv_isub hx hb d_X14_feed_107 ?_
  refine k_topi 0 (by decide) ?_
  refine lv_ishr hx hb d_X14_feed_108 ?_
  refine lv_i2b (v := ((p5 >>> (0 &&& 31))).toInt8.toInt32) hx hb d_X14_feed_109 rfl ?_
  refine k_bast_any hx hb hK hP hD hS 1 0 rfl rfl (k_inK (by decide)) d_X14_feed_110 (fun g20 H locs hP hD hS => ?_)
  have hP : va_P D vwCl [((r 0), .inr (13, (oMo r))), ((r 1), .inl (cy 0, 16000, .inl g20))] H := hP
  have hD : va_D A [((r 0), .inr (13, (oMo r))), ((r 1), .inl (cy 0, 16000, .inl g20))] := hD
  refine lv_iinc (v := 20) (lv' := [(6, .int 20), (7, .int p5), (0, .ref (r 0)), (1, .int p1), (2, .int p2), (3, .int p3), (4, .int p4), (5, .int p5)]) hx hb d_X14_feed_111 hl (k := 1) rfl (by decide) (by decide) rfl (fun ls hl => ?_)
  refine lv_goto (tgt := 30) hx hb d_X14_feed_114 (by decide) ?_
  refine lv_iload hx hb d_X14_feed_30 (lv_at hl 0 rfl) ?_
  refine lv_bipush (v := 20) hx hb d_X14_feed_32 (by decide) ?_
  refine lv_icmp_ge (tgt := 117) hx hb d_X14_feed_34 (by decide) (fun _ => ?_) (fun c_34 => False.elim (by revert c_34; decide))
  refine lv_aload_n hx hb d_X14_feed_117 rfl (lv_at hl 2 rfl) ?_
  refine lv_dup hx hb d_X14_feed_118 rfl ?_
  refine va_get (D := D) (ci := 13) (v := .int 0) (C := "LinkedUnitsModel") (T := TX14) (N := 100) hx hb hg iwX14 hown hK hP 0 rfl rfl 1 (by decide) (hg _ m_1866) (fun _ h9 => h9) rfl d_X14_feed_119 ?_
  refine lv_bipush (v := 20) hx hb d_X14_feed_122 (by decide) ?_
  refine lv_iadd hx hb d_X14_feed_124 ?_
  refine k_topi 20 (by decide) ?_
  refine va_put (D := D) (ci := 13) (v := .int 20) (ty := .int) (C := "LinkedUnitsModel") (T := TX14) (N := 100) hx hb hg iwX14 tyX14 tyX14_ok nmX14 hown hK hP hD hS 0 rfl rfl 1 (by decide) (hg _ m_1866) (fun _ h9 => h9) rfl (by decide +kernel) rfl rfl (Nat.le_of_ble_eq_true rfl) d_X14_feed_125 (fun H locs hP hD hS => ?_)
  have hP : va_P D vwCl [((r 0), .inr (13, ((oMo r).set 1 (.int 20)))), ((r 1), .inl (cy 0, 16000, .inl g20))] H := hP
  have hD : va_D A [((r 0), .inr (13, ((oMo r).set 1 (.int 20)))), ((r 1), .inl (cy 0, 16000, .inl g20))] := hD
  refine lv_aload_n hx hb d_X14_feed_128 rfl (lv_at hl 2 rfl) ?_
  refine lv_dup hx hb d_X14_feed_129 rfl ?_
  refine va_get (D := D) (ci := 13) (v := .int 0) (C := "LinkedUnitsModel") (T := TX14) (N := 100) hx hb hg iwX14 hown hK hP 0 rfl rfl 2 (by decide) (hg _ m_1867) (fun _ h9 => h9) rfl d_X14_feed_130 ?_
  refine lv_bipush (v := 20) hx hb d_X14_feed_133 (by decide) ?_
  refine lv_iadd hx hb d_X14_feed_135 ?_
  refine k_topi 20 (by decide) ?_
  refine va_put (D := D) (ci := 13) (v := .int 20) (ty := .int) (C := "LinkedUnitsModel") (T := TX14) (N := 100) hx hb hg iwX14 tyX14 tyX14_ok nmX14 hown hK hP hD hS 0 rfl rfl 2 (by decide) (hg _ m_1867) (fun _ h9 => h9) rfl (by decide +kernel) rfl rfl (Nat.le_of_ble_eq_true rfl) d_X14_feed_136 (fun H locs hP hD hS => ?_)
  have hP : va_P D vwCl [((r 0), .inr (13, (((oMo r).set 1 (.int 20)).set 2 (.int 20)))), ((r 1), .inl (cy 0, 16000, .inl g20))] H := hP
  have hD : va_D A [((r 0), .inr (13, (((oMo r).set 1 (.int 20)).set 2 (.int 20)))), ((r 1), .inl (cy 0, 16000, .inl g20))] := hD
  refine lv_aload_n hx hb d_X14_feed_139 rfl (lv_at hl 2 rfl) ?_
  refine va_get (D := D) (ci := 13) (v := .int 20) (C := "LinkedUnitsModel") (T := TX14) (N := 100) hx hb hg iwX14 hown hK hP 0 rfl rfl 1 (by decide) (hg _ m_1866) (fun _ h9 => h9) rfl d_X14_feed_140 ?_
  refine W.widen (k := 0) (n := 0) (Nat.le_of_ble_eq_true rfl) (Nat.le_of_ble_eq_true rfl) ?_
  exact k_iret (X := Unit) (w1 := fun _ => []) () hx hb hr d_X14_feed_143 hlocks (hP.sub [] rfl) hK (hD.sub [] (by decide) rfl) hS rfl
set_option maxHeartbeats 4000000 in
set_option maxRecDepth 100000 in
theorem c_m_end_no (l : Launch) (D : va_G) (cy : Nat → ClassId) (sz : Nat) (r : Nat → Nat) (n : Int32) (h : n < 0 ∨ 0 < n) : Met l y_X14_end (Cond.code y_X14_end b_X14_end 2 (some .int) :: GW) ({ frames := 0, cells := 0, slots := 0, locals := 0 }) (va_Pc [.ref (r 0), .int n] (kPre D cy sz [((r 0), .inr (13, (oMo r)))])) ((fun A : Nat → Prop => va_Qi (S := Unit) (fun (r : Int32) (_ : Unit) => r = (-1)) (fun _ => kPost D cy A []) A) (va_A [((r 0), .inr (13, (oMo r)))] sz)) 0 0 (va_A [((r 0), .inr (13, (oMo r)))] sz) := by
  refine k_ofW (Qc := fun A => va_Qi (S := Unit) (fun (r : Int32) (_ : Unit) => r = (-1)) (fun _ => kPost D cy A []) A) (by decide) (Nat.le_of_ble_eq_true rfl) ?_
  intro p e s m below meth c A ls hx hb hr hml hown hlocks hin hg hNW hK hP hD hA hS hl
  have hl : lv_has ls 2 [(0, .ref (r 0)), (1, .int n)] := hl
  have hown : s.vm.findClass "LinkedUnitsModel" = some m.cls := hown
  refine lv_iload_n hx hb d_X14_end_0 rfl (lv_at hl 1 rfl) ?_
  refine lv_if_lt (tgt := 12) hx hb d_X14_end_1 (by decide) (fun c_1 => ?_) (fun c_1 => ?_)
  · -- taken at 1
    refine lv_iconst (v := (-1)) hx hb d_X14_end_12 (by decide) ?_
    refine W.widen (k := 0) (n := 0) (Nat.le_of_ble_eq_true rfl) (Nat.le_of_ble_eq_true rfl) ?_
    exact k_iret (X := Unit) (w1 := fun _ => []) () hx hb hr d_X14_end_13 hlocks (hP.sub [] rfl) hK (hD.sub [] (by decide) rfl) hS rfl
  · -- not taken at 1
    refine lv_iload_n hx hb d_X14_end_4 rfl (lv_at hl 1 rfl) ?_
    refine lv_aload_n hx hb d_X14_end_5 rfl (lv_at hl 0 rfl) ?_
    refine va_get (D := D) (ci := 13) (v := .int 0) (C := "LinkedUnitsModel") (T := TX14) (N := 100) hx hb hg iwX14 hown hK hP 0 rfl rfl 1 (by decide) (hg _ m_1866) (fun _ h9 => h9) rfl d_X14_end_6 ?_
    refine lv_icmp_le (tgt := 14) hx hb d_X14_end_9 (by decide) (fun c_9 => False.elim (h.elim (fun q => c_1 q) (fun q => (Int32.not_lt.mpr c_9) q))) (fun c_9 => ?_)
    refine lv_iconst (v := (-1)) hx hb d_X14_end_12 (by decide) ?_
    refine W.widen (k := 0) (n := 0) (Nat.le_of_ble_eq_true rfl) (Nat.le_of_ble_eq_true rfl) ?_
    exact k_iret (X := Unit) (w1 := fun _ => []) () hx hb hr d_X14_end_13 hlocks (hP.sub [] rfl) hK (hD.sub [] (by decide) rfl) hS rfl
set_option maxHeartbeats 4000000 in
set_option maxRecDepth 100000 in
theorem c_m_end_0 (l : Launch) (D : va_G) (cy : Nat → ClassId) (sz : Nat) (r : Nat → Nat) : Met l y_X14_end (Cond.code y_X14_end b_X14_end 2 (some .int) :: GW) ({ frames := 0, cells := 0, slots := 0, locals := 0 }) (va_Pc [.ref (r 0), .int 0] (kPre D cy sz [((r 0), .inr (13, (oMo r)))])) ((fun A : Nat → Prop => va_Qi (S := Unit) (fun (r : Int32) (_ : Unit) => r = 0) (fun _ => kPost D cy A []) A) (va_A [((r 0), .inr (13, (oMo r)))] sz)) 0 0 (va_A [((r 0), .inr (13, (oMo r)))] sz) := by
  refine k_ofW (Qc := fun A => va_Qi (S := Unit) (fun (r : Int32) (_ : Unit) => r = 0) (fun _ => kPost D cy A []) A) (by decide) (Nat.le_of_ble_eq_true rfl) ?_
  intro p e s m below meth c A ls hx hb hr hml hown hlocks hin hg hNW hK hP hD hA hS hl
  have hl : lv_has ls 2 [(0, .ref (r 0)), (1, .int 0)] := hl
  have hown : s.vm.findClass "LinkedUnitsModel" = some m.cls := hown
  refine lv_iload_n hx hb d_X14_end_0 rfl (lv_at hl 1 rfl) ?_
  refine lv_if_lt (tgt := 12) hx hb d_X14_end_1 (by decide) (fun c_1 => absurd c_1 (by decide)) (fun _ => ?_)
  refine lv_iload_n hx hb d_X14_end_4 rfl (lv_at hl 1 rfl) ?_
  refine lv_aload_n hx hb d_X14_end_5 rfl (lv_at hl 0 rfl) ?_
  refine va_get (D := D) (ci := 13) (v := .int 0) (C := "LinkedUnitsModel") (T := TX14) (N := 100) hx hb hg iwX14 hown hK hP 0 rfl rfl 1 (by decide) (hg _ m_1866) (fun _ h9 => h9) rfl d_X14_end_6 ?_
  refine lv_icmp_le (tgt := 14) hx hb d_X14_end_9 (by decide) (fun _ => ?_) (fun c_9 => False.elim (by revert c_9; decide))
  refine lv_aload_n hx hb d_X14_end_14 rfl (lv_at hl 0 rfl) ?_
  refine lv_iload_n hx hb d_X14_end_15 rfl (lv_at hl 1 rfl) ?_
  refine va_put (D := D) (ci := 13) (v := .int 0) (ty := .int) (C := "LinkedUnitsModel") (T := TX14) (N := 100) hx hb hg iwX14 tyX14 tyX14_ok nmX14 hown hK hP hD hS 0 rfl rfl 1 (by decide) (hg _ m_1866) (fun _ h9 => h9) rfl (by decide +kernel) rfl rfl (Nat.le_of_ble_eq_true rfl) d_X14_end_16 (fun H locs hP hD hS => ?_)
  have hP : va_P D vwCl [((r 0), .inr (13, ((oMo r).set 1 (.int 0))))] H := hP
  have hD : va_D A [((r 0), .inr (13, ((oMo r).set 1 (.int 0))))] := hD
  refine lv_iload_n hx hb d_X14_end_19 rfl (lv_at hl 1 rfl) ?_
  refine W.widen (k := 0) (n := 0) (Nat.le_of_ble_eq_true rfl) (Nat.le_of_ble_eq_true rfl) ?_
  exact k_iret (X := Unit) (w1 := fun _ => []) () hx hb hr d_X14_end_20 hlocks (hP.sub [] rfl) hK (hD.sub [] (by decide) rfl) hS rfl
set_option maxHeartbeats 4000000 in
set_option maxRecDepth 100000 in
theorem c_m_place (l : Launch) (D : va_G) (cy : Nat → ClassId) (sz : Nat) (r : Nat → Nat) : Met l y_X14_place (Cond.code y_X14_place b_X14_place 1 (some .int) :: GW) ({ frames := 0, cells := 0, slots := 0, locals := 0 }) (va_Pc [.ref (r 0)] (kPre D cy sz [((r 0), .inr (13, (oMo r)))])) ((fun A : Nat → Prop => va_Qi (S := Unit) (fun (r : Int32) (_ : Unit) => r = (-1)) (fun _ => kPost D cy A []) A) (va_A [((r 0), .inr (13, (oMo r)))] sz)) 0 0 (va_A [((r 0), .inr (13, (oMo r)))] sz) := by
  refine k_ofW (Qc := fun A => va_Qi (S := Unit) (fun (r : Int32) (_ : Unit) => r = (-1)) (fun _ => kPost D cy A []) A) (by decide) (Nat.le_of_ble_eq_true rfl) ?_
  intro p e s m below meth c A ls hx hb hr hml hown hlocks hin hg hNW hK hP hD hA hS hl
  have hl : lv_has ls 1 [(0, .ref (r 0))] := hl
  have hown : s.vm.findClass "LinkedUnitsModel" = some m.cls := hown
  refine lv_aload_n hx hb d_X14_place_0 rfl (lv_at hl 0 rfl) ?_
  refine va_get (D := D) (ci := 13) (v := .int (-1)) (C := "LinkedUnitsModel") (T := TX14) (N := 100) hx hb hg iwX14 hown hK hP 0 rfl rfl 14 (by decide) (hg _ m_1879) (fun _ h9 => h9) rfl d_X14_place_1 ?_
  refine W.widen (k := 0) (n := 0) (Nat.le_of_ble_eq_true rfl) (Nat.le_of_ble_eq_true rfl) ?_
  exact k_iret (X := Unit) (w1 := fun _ => []) () hx hb hr d_X14_place_4 hlocks (hP.sub [] rfl) hK (hD.sub [] (by decide) rfl) hS rfl
set_option maxHeartbeats 4000000 in
set_option maxRecDepth 100000 in
theorem c_m_objects (l : Launch) (D : va_G) (cy : Nat → ClassId) (sz : Nat) (r : Nat → Nat) : Met l y_X14_objects (Cond.code y_X14_objects b_X14_objects 1 (some .int) :: GW) ({ frames := 0, cells := 0, slots := 0, locals := 0 }) (va_Pc [.ref (r 0)] (kPre D cy sz [((r 0), .inr (13, (oMo r)))])) ((fun A : Nat → Prop => va_Qi (S := Unit) (fun (r : Int32) (_ : Unit) => r = 0) (fun _ => kPost D cy A []) A) (va_A [((r 0), .inr (13, (oMo r)))] sz)) 0 0 (va_A [((r 0), .inr (13, (oMo r)))] sz) := by
  refine k_ofW (Qc := fun A => va_Qi (S := Unit) (fun (r : Int32) (_ : Unit) => r = 0) (fun _ => kPost D cy A []) A) (by decide) (Nat.le_of_ble_eq_true rfl) ?_
  intro p e s m below meth c A ls hx hb hr hml hown hlocks hin hg hNW hK hP hD hA hS hl
  have hl : lv_has ls 1 [(0, .ref (r 0))] := hl
  have hown : s.vm.findClass "LinkedUnitsModel" = some m.cls := hown
  refine lv_aload_n hx hb d_X14_objects_0 rfl (lv_at hl 0 rfl) ?_
  refine va_get (D := D) (ci := 13) (v := .int 0) (C := "LinkedUnitsModel") (T := TX14) (N := 100) hx hb hg iwX14 hown hK hP 0 rfl rfl 35 (by decide) (hg _ m_1900) (fun _ h9 => h9) rfl d_X14_objects_1 ?_
  refine W.widen (k := 0) (n := 0) (Nat.le_of_ble_eq_true rfl) (Nat.le_of_ble_eq_true rfl) ?_
  exact k_iret (X := Unit) (w1 := fun _ => []) () hx hb hr d_X14_objects_4 hlocks (hP.sub [] rfl) hK (hD.sub [] (by decide) rfl) hS rfl
set_option maxHeartbeats 4000000 in
set_option maxRecDepth 100000 in
theorem c_m_result (l : Launch) (D : va_G) (cy : Nat → ClassId) (sz : Nat) (r : Nat → Nat) : Met l y_X14_result (Cond.code y_X14_result b_X14_result 1 (some .int) :: GW) ({ frames := 0, cells := 0, slots := 0, locals := 0 }) (va_Pc [.ref (r 0)] (kPre D cy sz [((r 0), .inr (13, (oMo r)))])) ((fun A : Nat → Prop => va_Qi (S := Unit) (fun (r : Int32) (_ : Unit) => r = 0) (fun _ => kPost D cy A []) A) (va_A [((r 0), .inr (13, (oMo r)))] sz)) 0 0 (va_A [((r 0), .inr (13, (oMo r)))] sz) := by
  refine k_ofW (Qc := fun A => va_Qi (S := Unit) (fun (r : Int32) (_ : Unit) => r = 0) (fun _ => kPost D cy A []) A) (by decide) (Nat.le_of_ble_eq_true rfl) ?_
  intro p e s m below meth c A ls hx hb hr hml hown hlocks hin hg hNW hK hP hD hA hS hl
  have hl : lv_has ls 1 [(0, .ref (r 0))] := hl
  have hown : s.vm.findClass "LinkedUnitsModel" = some m.cls := hown
  refine lv_aload_n hx hb d_X14_result_0 rfl (lv_at hl 0 rfl) ?_
  refine va_get (D := D) (ci := 13) (v := .int 0) (C := "LinkedUnitsModel") (T := TX14) (N := 100) hx hb hg iwX14 hown hK hP 0 rfl rfl 94 (by decide) (hg _ m_1959) (fun _ h9 => h9) rfl d_X14_result_1 ?_
  refine W.widen (k := 0) (n := 0) (Nat.le_of_ble_eq_true rfl) (Nat.le_of_ble_eq_true rfl) ?_
  exact k_iret (X := Unit) (w1 := fun _ => []) () hx hb hr d_X14_result_4 hlocks (hP.sub [] rfl) hK (hD.sub [] (by decide) rfl) hS rfl
set_option maxHeartbeats 4000000 in
set_option maxRecDepth 100000 in
theorem c_m_turns (l : Launch) (D : va_G) (cy : Nat → ClassId) (sz : Nat) (r : Nat → Nat) : Met l y_X14_turns (Cond.code y_X14_turns b_X14_turns 1 (some .int) :: GW) ({ frames := 0, cells := 0, slots := 0, locals := 0 }) (va_Pc [.ref (r 0)] (kPre D cy sz [((r 0), .inr (13, (oMo r)))])) ((fun A : Nat → Prop => va_Qi (S := Unit) (fun (r : Int32) (_ : Unit) => r = 0) (fun _ => kPost D cy A []) A) (va_A [((r 0), .inr (13, (oMo r)))] sz)) 0 0 (va_A [((r 0), .inr (13, (oMo r)))] sz) := by
  refine k_ofW (Qc := fun A => va_Qi (S := Unit) (fun (r : Int32) (_ : Unit) => r = 0) (fun _ => kPost D cy A []) A) (by decide) (Nat.le_of_ble_eq_true rfl) ?_
  intro p e s m below meth c A ls hx hb hr hml hown hlocks hin hg hNW hK hP hD hA hS hl
  have hl : lv_has ls 1 [(0, .ref (r 0))] := hl
  have hown : s.vm.findClass "LinkedUnitsModel" = some m.cls := hown
  refine lv_aload_n hx hb d_X14_turns_0 rfl (lv_at hl 0 rfl) ?_
  refine va_get (D := D) (ci := 13) (v := .int 0) (C := "LinkedUnitsModel") (T := TX14) (N := 100) hx hb hg iwX14 hown hK hP 0 rfl rfl 92 (by decide) (hg _ m_1957) (fun _ h9 => h9) rfl d_X14_turns_1 ?_
  refine W.widen (k := 0) (n := 0) (Nat.le_of_ble_eq_true rfl) (Nat.le_of_ble_eq_true rfl) ?_
  exact k_iret (X := Unit) (w1 := fun _ => []) () hx hb hr d_X14_turns_4 hlocks (hP.sub [] rfl) hK (hD.sub [] (by decide) rfl) hS rfl
set_option maxHeartbeats 4000000 in
set_option maxRecDepth 100000 in
theorem c_m_written (l : Launch) (D : va_G) (cy : Nat → ClassId) (sz : Nat) (r : Nat → Nat) : Met l y_X14_written (Cond.code y_X14_written b_X14_written 1 (some .int) :: GW) ({ frames := 0, cells := 0, slots := 0, locals := 0 }) (va_Pc [.ref (r 0)] (kPre D cy sz [((r 0), .inr (13, (oMo r)))])) ((fun A : Nat → Prop => va_Qi (S := Unit) (fun (r : Int32) (_ : Unit) => r = 0) (fun _ => kPost D cy A []) A) (va_A [((r 0), .inr (13, (oMo r)))] sz)) 0 0 (va_A [((r 0), .inr (13, (oMo r)))] sz) := by
  refine k_ofW (Qc := fun A => va_Qi (S := Unit) (fun (r : Int32) (_ : Unit) => r = 0) (fun _ => kPost D cy A []) A) (by decide) (Nat.le_of_ble_eq_true rfl) ?_
  intro p e s m below meth c A ls hx hb hr hml hown hlocks hin hg hNW hK hP hD hA hS hl
  have hl : lv_has ls 1 [(0, .ref (r 0))] := hl
  have hown : s.vm.findClass "LinkedUnitsModel" = some m.cls := hown
  refine lv_aload_n hx hb d_X14_written_0 rfl (lv_at hl 0 rfl) ?_
  refine va_get (D := D) (ci := 13) (v := .int 0) (C := "LinkedUnitsModel") (T := TX14) (N := 100) hx hb hg iwX14 hown hK hP 0 rfl rfl 91 (by decide) (hg _ m_1956) (fun _ h9 => h9) rfl d_X14_written_1 ?_
  refine W.widen (k := 0) (n := 0) (Nat.le_of_ble_eq_true rfl) (Nat.le_of_ble_eq_true rfl) ?_
  exact k_iret (X := Unit) (w1 := fun _ => []) () hx hb hr d_X14_written_4 hlocks (hP.sub [] rfl) hK (hD.sub [] (by decide) rfl) hS rfl
set_option maxHeartbeats 4000000 in
set_option maxRecDepth 100000 in
theorem c_m_strays (l : Launch) (D : va_G) (cy : Nat → ClassId) (sz : Nat) (r : Nat → Nat) : Met l y_X14_strays (Cond.code y_X14_strays b_X14_strays 1 (some .int) :: GW) ({ frames := 0, cells := 0, slots := 0, locals := 0 }) (va_Pc [.ref (r 0)] (kPre D cy sz [((r 0), .inr (13, (oMo r)))])) ((fun A : Nat → Prop => va_Qi (S := Unit) (fun (r : Int32) (_ : Unit) => r = 0) (fun _ => kPost D cy A []) A) (va_A [((r 0), .inr (13, (oMo r)))] sz)) 0 0 (va_A [((r 0), .inr (13, (oMo r)))] sz) := by
  refine k_ofW (Qc := fun A => va_Qi (S := Unit) (fun (r : Int32) (_ : Unit) => r = 0) (fun _ => kPost D cy A []) A) (by decide) (Nat.le_of_ble_eq_true rfl) ?_
  intro p e s m below meth c A ls hx hb hr hml hown hlocks hin hg hNW hK hP hD hA hS hl
  have hl : lv_has ls 1 [(0, .ref (r 0))] := hl
  have hown : s.vm.findClass "LinkedUnitsModel" = some m.cls := hown
  refine lv_iconst (v := 0) hx hb d_X14_strays_0 (by decide) ?_
  refine W.widen (k := 0) (n := 0) (Nat.le_of_ble_eq_true rfl) (Nat.le_of_ble_eq_true rfl) ?_
  exact k_iret (X := Unit) (w1 := fun _ => []) () hx hb hr d_X14_strays_1 hlocks (hP.sub [] rfl) hK (hD.sub [] (by decide) rfl) hS rfl
set_option maxHeartbeats 4000000 in
set_option maxRecDepth 100000 in
theorem c_m_isObject (l : Launch) (D : va_G) (cy : Nat → ClassId) (sz : Nat) (r : Nat → Nat) (o : Int32) : Met l y_X14_isObject (Cond.code y_X14_isObject b_X14_isObject 2 (some .boolean) :: GW) ({ frames := 0, cells := 0, slots := 0, locals := 0 }) (va_Pc [.ref (r 0), .int o] (kPre D cy sz [((r 0), .inr (13, (oMo r)))])) ((fun A : Nat → Prop => va_Qi (S := Unit) (fun (r : Int32) (_ : Unit) => r = 0) (fun _ => kPost D cy A [((r 0), .inr (13, (oMo r)))]) A) (va_A [((r 0), .inr (13, (oMo r)))] sz)) 0 0 (va_A [((r 0), .inr (13, (oMo r)))] sz) := by
  refine k_ofW (Qc := fun A => va_Qi (S := Unit) (fun (r : Int32) (_ : Unit) => r = 0) (fun _ => kPost D cy A [((r 0), .inr (13, (oMo r)))]) A) (by decide) (Nat.le_of_ble_eq_true rfl) ?_
  intro p e s m below meth c A ls hx hb hr hml hown hlocks hin hg hNW hK hP hD hA hS hl
  have hl : lv_has ls 2 [(0, .ref (r 0)), (1, .int o)] := hl
  have hown : s.vm.findClass "LinkedUnitsModel" = some m.cls := hown
  refine lv_iload_n hx hb d_X14_isObject_0 rfl (lv_at hl 1 rfl) ?_
  refine lv_iconst (v := 1) hx hb d_X14_isObject_1 (by decide) ?_
  refine lv_icmp_lt (tgt := 17) hx hb d_X14_isObject_2 (by decide) (fun c_2 => ?_) (fun c_2 => ?_)
  · -- taken at 2
    refine lv_iconst (v := 0) hx hb d_X14_isObject_17 (by decide) ?_
    refine W.widen (k := 0) (n := 0) (Nat.le_of_ble_eq_true rfl) (Nat.le_of_ble_eq_true rfl) ?_
    exact k_zret (X := Unit) (w1 := fun _ => [((r 0), .inr (13, (oMo r)))]) () hx hb hr rfl d_X14_isObject_18 hlocks (hP.sub [0] rfl) hK (hD.sub [0] (by decide) rfl) hS rfl
  · -- not taken at 2
    refine lv_iload_n hx hb d_X14_isObject_5 rfl (lv_at hl 1 rfl) ?_
    refine lv_aload_n hx hb d_X14_isObject_6 rfl (lv_at hl 0 rfl) ?_
    refine va_get (D := D) (ci := 13) (v := .int 0) (C := "LinkedUnitsModel") (T := TX14) (N := 100) hx hb hg iwX14 hown hK hP 0 rfl rfl 35 (by decide) (hg _ m_1900) (fun _ h9 => h9) rfl d_X14_isObject_7 ?_
    refine lv_icmp_gt (tgt := 17) hx hb d_X14_isObject_10 (by decide) (fun c_10 => ?_) (fun c_10 => False.elim (k_has c_2 c_10))
    refine lv_iconst (v := 0) hx hb d_X14_isObject_17 (by decide) ?_
    refine W.widen (k := 0) (n := 0) (Nat.le_of_ble_eq_true rfl) (Nat.le_of_ble_eq_true rfl) ?_
    exact k_zret (X := Unit) (w1 := fun _ => [((r 0), .inr (13, (oMo r)))]) () hx hb hr rfl d_X14_isObject_18 hlocks (hP.sub [0] rfl) hK (hD.sub [0] (by decide) rfl) hS rfl
set_option maxHeartbeats 4000000 in
set_option maxRecDepth 100000 in
theorem c_m_count (l : Launch) (D : va_G) (cy : Nat → ClassId) (sz : Nat) (r : Nat → Nat) (o what : Int32) : Met l y_X14_count (Cond.code y_X14_count b_X14_count 3 (some .int) :: GW) ({ frames := 1, cells := 0, slots := 0, locals := 21 }) (va_Pc [.ref (r 0), .int o, .int what] (kPre D cy sz [((r 0), .inr (13, (oMo r)))])) ((fun A : Nat → Prop => va_Qi (S := Unit) (fun (r : Int32) (_ : Unit) => r = (-1)) (fun _ => kPost D cy A []) A) (va_A [((r 0), .inr (13, (oMo r)))] sz)) 0 0 (va_A [((r 0), .inr (13, (oMo r)))] sz) := by
  refine k_ofW (Qc := fun A => va_Qi (S := Unit) (fun (r : Int32) (_ : Unit) => r = (-1)) (fun _ => kPost D cy A []) A) (by decide) (Nat.le_of_ble_eq_true rfl) ?_
  intro p e s m below meth c A ls hx hb hr hml hown hlocks hin hg hNW hK hP hD hA hS hl
  have hl : lv_has ls 3 [(0, .ref (r 0)), (1, .int o), (2, .int what)] := hl
  have hown : s.vm.findClass "LinkedUnitsModel" = some m.cls := hown
  refine lv_aload_n hx hb d_X14_count_0 rfl (lv_at hl 0 rfl) ?_
  refine lv_iload_n hx hb d_X14_count_1 rfl (lv_at hl 1 rfl) ?_
  refine k_calli (wc := [((r 0), .inr (13, (oMo r)))]) (wr := []) (va_runV (As := [.int o]) (rest := []) ⟨hx, hb, hml, hown, hg⟩ (c_m_isObject l D cy s.heap.size r o ) (cwV 1 hg (gw_V m_2648 m_2650 ms_X14_isObject m_18 m_2651) rfl rfl rfl (by decide +kernel) ⟨(Nat.le_of_ble_eq_true rfl), (Nat.le_of_ble_eq_true rfl)⟩) (k_preV (As := [.int o]) hP hD hK hNW [0] (by decide) rfl 0 rfl rfl) rfl rfl hl.1 rfl (lv_room (Nat.le_of_ble_eq_true rfl)) d_X14_count_2 ⟨(Nat.le_of_ble_eq_true rfl), (Nat.le_of_ble_eq_true rfl)⟩) hP hD hS hA [0] [] rfl rfl (by decide) (by decide) (fun r1 u1 H locs hw hP hD hS => ?_)
  have hP : va_P D vwCl [((r 0), .inr (13, (oMo r)))] H := hP
  have hD : va_D A [((r 0), .inr (13, (oMo r)))] := hD
  obtain rfl : r1 = 0 := hw
  refine lv_if_ne (tgt := 12) hx hb d_X14_count_5 (by decide) (fun c_5 => absurd c_5 (by decide)) (fun _ => ?_)
  refine lv_iconst (v := (-1)) hx hb d_X14_count_8 (by decide) ?_
  refine lv_goto (tgt := 41) hx hb d_X14_count_9 (by decide) ?_
  refine W.widen (k := 0) (n := 0) (Nat.le_of_ble_eq_true rfl) (Nat.le_of_ble_eq_true rfl) ?_
  exact k_iret (X := Unit) (w1 := fun _ => []) () hx hb hr d_X14_count_41 hlocks (hP.sub [] rfl) hK (hD.sub [] (by decide) rfl) hS rfl
set_option maxHeartbeats 4000000 in
set_option maxRecDepth 100000 in
theorem c_m_symbolAt (l : Launch) (D : va_G) (cy : Nat → ClassId) (sz : Nat) (r : Nat → Nat) (o sy : Int32) : Met l y_X14_symbolAt (Cond.code y_X14_symbolAt b_X14_symbolAt 5 (some .int) :: GW) ({ frames := 1, cells := 0, slots := 0, locals := 21 }) (va_Pc [.ref (r 0), .int o, .int sy] (kPre D cy sz [((r 0), .inr (13, (oMo r)))])) ((fun A : Nat → Prop => va_Qi (S := Unit) (fun (r : Int32) (_ : Unit) => r = (-1)) (fun _ => kPost D cy A [((r 0), .inr (13, (oMo r)))]) A) (va_A [((r 0), .inr (13, (oMo r)))] sz)) 0 0 (va_A [((r 0), .inr (13, (oMo r)))] sz) := by
  refine k_ofW (Qc := fun A => va_Qi (S := Unit) (fun (r : Int32) (_ : Unit) => r = (-1)) (fun _ => kPost D cy A [((r 0), .inr (13, (oMo r)))]) A) (by decide) (Nat.le_of_ble_eq_true rfl) ?_
  intro p e s m below meth c A ls hx hb hr hml hown hlocks hin hg hNW hK hP hD hA hS hl
  have hl : lv_has ls 5 [(0, .ref (r 0)), (1, .int o), (2, .int sy)] := hl
  have hown : s.vm.findClass "LinkedUnitsModel" = some m.cls := hown
  refine lv_aload_n hx hb d_X14_symbolAt_0 rfl (lv_at hl 0 rfl) ?_
  refine lv_iload_n hx hb d_X14_symbolAt_1 rfl (lv_at hl 1 rfl) ?_
  refine k_calli (wc := [((r 0), .inr (13, (oMo r)))]) (wr := []) (va_runV (As := [.int o]) (rest := []) ⟨hx, hb, hml, hown, hg⟩ (c_m_isObject l D cy s.heap.size r o ) (cwV 1 hg (gw_V m_2648 m_2650 ms_X14_isObject m_18 m_2651) rfl rfl rfl (by decide +kernel) ⟨(Nat.le_of_ble_eq_true rfl), (Nat.le_of_ble_eq_true rfl)⟩) (k_preV (As := [.int o]) hP hD hK hNW [0] (by decide) rfl 0 rfl rfl) rfl rfl hl.1 rfl (lv_room (Nat.le_of_ble_eq_true rfl)) d_X14_symbolAt_2 ⟨(Nat.le_of_ble_eq_true rfl), (Nat.le_of_ble_eq_true rfl)⟩) hP hD hS hA [0] [] rfl rfl (by decide) (by decide) (fun r1 u1 H locs hw hP hD hS => ?_)
  have hP : va_P D vwCl [((r 0), .inr (13, (oMo r)))] H := hP
  have hD : va_D A [((r 0), .inr (13, (oMo r)))] := hD
  obtain rfl : r1 = 0 := hw
  refine lv_if_eq (tgt := 12) hx hb d_X14_symbolAt_5 (by decide) (fun _ => ?_) (fun c_5 => False.elim (by revert c_5; decide))
  refine lv_iconst (v := (-1)) hx hb d_X14_symbolAt_12 (by decide) ?_
  refine W.widen (k := 0) (n := 0) (Nat.le_of_ble_eq_true rfl) (Nat.le_of_ble_eq_true rfl) ?_
  exact k_iret (X := Unit) (w1 := fun _ => [((r 0), .inr (13, (oMo r)))]) () hx hb hr d_X14_symbolAt_13 hlocks (hP.sub [0] rfl) hK (hD.sub [0] (by decide) rfl) hS rfl
set_option maxHeartbeats 4000000 in
set_option maxRecDepth 100000 in
theorem c_m_name (l : Launch) (D : va_G) (cy : Nat → ClassId) (sz : Nat) (r : Nat → Nat) (o sy i : Int32) : Met l y_X14_name (Cond.code y_X14_name b_X14_name 5 (some .int) :: GW) ({ frames := 2, cells := 0, slots := 0, locals := 45 }) (va_Pc [.ref (r 0), .int o, .int sy, .int i] (kPre D cy sz [((r 0), .inr (13, (oMo r)))])) ((fun A : Nat → Prop => va_Qi (S := Unit) (fun (r : Int32) (_ : Unit) => r = (-1)) (fun _ => kPost D cy A []) A) (va_A [((r 0), .inr (13, (oMo r)))] sz)) 0 0 (va_A [((r 0), .inr (13, (oMo r)))] sz) := by
  refine k_ofW (Qc := fun A => va_Qi (S := Unit) (fun (r : Int32) (_ : Unit) => r = (-1)) (fun _ => kPost D cy A []) A) (by decide) (Nat.le_of_ble_eq_true rfl) ?_
  intro p e s m below meth c A ls hx hb hr hml hown hlocks hin hg hNW hK hP hD hA hS hl
  have hl : lv_has ls 5 [(0, .ref (r 0)), (1, .int o), (2, .int sy), (3, .int i)] := hl
  have hown : s.vm.findClass "LinkedUnitsModel" = some m.cls := hown
  refine lv_aload_n hx hb d_X14_name_0 rfl (lv_at hl 0 rfl) ?_
  refine lv_iload_n hx hb d_X14_name_1 rfl (lv_at hl 1 rfl) ?_
  refine lv_iload_n hx hb d_X14_name_2 rfl (lv_at hl 2 rfl) ?_
  refine k_calli (wc := [((r 0), .inr (13, (oMo r)))]) (wr := []) (va_runV (As := [.int o, .int sy]) (rest := []) ⟨hx, hb, hml, hown, hg⟩ (c_m_symbolAt l D cy s.heap.size r o sy ) (cwV 2 hg (gw_V m_2660 m_2662 ms_X14_symbolAt m_18 m_2663) rfl rfl rfl (by decide +kernel) ⟨(Nat.le_of_ble_eq_true rfl), (Nat.le_of_ble_eq_true rfl)⟩) (k_preV (As := [.int o, .int sy]) hP hD hK hNW [0] (by decide) rfl 0 rfl rfl) rfl rfl hl.1 rfl (lv_room (Nat.le_of_ble_eq_true rfl)) d_X14_name_3 ⟨(Nat.le_of_ble_eq_true rfl), (Nat.le_of_ble_eq_true rfl)⟩) hP hD hS hA [0] [] rfl rfl (by decide) (by decide) (fun r1 u1 H locs hw hP hD hS => ?_)
  have hP : va_P D vwCl [((r 0), .inr (13, (oMo r)))] H := hP
  have hD : va_D A [((r 0), .inr (13, (oMo r)))] := hD
  obtain rfl : r1 = (-1) := hw
  refine lv_istore (lv' := [(4, .int (-1)), (0, .ref (r 0)), (1, .int o), (2, .int sy), (3, .int i)]) hx hb d_X14_name_6 hl (by decide) rfl (fun ls hl => ?_)
  refine lv_iload hx hb d_X14_name_8 (lv_at hl 0 rfl) ?_
  refine lv_if_lt (tgt := 45) hx hb d_X14_name_10 (by decide) (fun _ => ?_) (fun c_10 => False.elim (by revert c_10; decide))
  refine lv_iconst (v := (-1)) hx hb d_X14_name_45 (by decide) ?_
  refine W.widen (k := 0) (n := 0) (Nat.le_of_ble_eq_true rfl) (Nat.le_of_ble_eq_true rfl) ?_
  exact k_iret (X := Unit) (w1 := fun _ => []) () hx hb hr d_X14_name_46 hlocks (hP.sub [] rfl) hK (hD.sub [] (by decide) rfl) hS rfl
set_option maxHeartbeats 4000000 in
set_option maxRecDepth 100000 in
theorem c_m_symbol (l : Launch) (D : va_G) (cy : Nat → ClassId) (sz : Nat) (r : Nat → Nat) (o sy : Int32) : Met l y_X14_symbol (Cond.code y_X14_symbol b_X14_symbol 4 (some .int) :: GW) ({ frames := 2, cells := 0, slots := 0, locals := 45 }) (va_Pc [.ref (r 0), .int o, .int sy] (kPre D cy sz [((r 0), .inr (13, (oMo r)))])) ((fun A : Nat → Prop => va_Qi (S := Unit) (fun (r : Int32) (_ : Unit) => r = (-1)) (fun _ => kPost D cy A []) A) (va_A [((r 0), .inr (13, (oMo r)))] sz)) 0 0 (va_A [((r 0), .inr (13, (oMo r)))] sz) := by
  refine k_ofW (Qc := fun A => va_Qi (S := Unit) (fun (r : Int32) (_ : Unit) => r = (-1)) (fun _ => kPost D cy A []) A) (by decide) (Nat.le_of_ble_eq_true rfl) ?_
  intro p e s m below meth c A ls hx hb hr hml hown hlocks hin hg hNW hK hP hD hA hS hl
  have hl : lv_has ls 4 [(0, .ref (r 0)), (1, .int o), (2, .int sy)] := hl
  have hown : s.vm.findClass "LinkedUnitsModel" = some m.cls := hown
  refine lv_aload_n hx hb d_X14_symbol_0 rfl (lv_at hl 0 rfl) ?_
  refine lv_iload_n hx hb d_X14_symbol_1 rfl (lv_at hl 1 rfl) ?_
  refine lv_iload_n hx hb d_X14_symbol_2 rfl (lv_at hl 2 rfl) ?_
  refine k_calli (wc := [((r 0), .inr (13, (oMo r)))]) (wr := []) (va_runV (As := [.int o, .int sy]) (rest := []) ⟨hx, hb, hml, hown, hg⟩ (c_m_symbolAt l D cy s.heap.size r o sy ) (cwV 2 hg (gw_V m_2660 m_2662 ms_X14_symbolAt m_18 m_2663) rfl rfl rfl (by decide +kernel) ⟨(Nat.le_of_ble_eq_true rfl), (Nat.le_of_ble_eq_true rfl)⟩) (k_preV (As := [.int o, .int sy]) hP hD hK hNW [0] (by decide) rfl 0 rfl rfl) rfl rfl hl.1 rfl (lv_room (Nat.le_of_ble_eq_true rfl)) d_X14_symbol_3 ⟨(Nat.le_of_ble_eq_true rfl), (Nat.le_of_ble_eq_true rfl)⟩) hP hD hS hA [0] [] rfl rfl (by decide) (by decide) (fun r1 u1 H locs hw hP hD hS => ?_)
  have hP : va_P D vwCl [((r 0), .inr (13, (oMo r)))] H := hP
  have hD : va_D A [((r 0), .inr (13, (oMo r)))] := hD
  obtain rfl : r1 = (-1) := hw
  refine lv_istore_n (lv' := [(3, .int (-1)), (0, .ref (r 0)), (1, .int o), (2, .int sy)]) hx hb d_X14_symbol_6 rfl hl (by decide) rfl (fun ls hl => ?_)
  refine lv_iload_n hx hb d_X14_symbol_7 rfl (lv_at hl 0 rfl) ?_
  refine lv_if_ge (tgt := 13) hx hb d_X14_symbol_8 (by decide) (fun c_8 => absurd c_8 (by decide)) (fun _ => ?_)
  refine lv_iconst (v := (-1)) hx hb d_X14_symbol_11 (by decide) ?_
  refine W.widen (k := 0) (n := 0) (Nat.le_of_ble_eq_true rfl) (Nat.le_of_ble_eq_true rfl) ?_
  exact k_iret (X := Unit) (w1 := fun _ => []) () hx hb hr d_X14_symbol_12 hlocks (hP.sub [] rfl) hK (hD.sub [] (by decide) rfl) hS rfl
set_option maxHeartbeats 4000000 in
set_option maxRecDepth 100000 in
theorem c_m_pick (l : Launch) (D : va_G) (cy : Nat → ClassId) (sz : Nat) (r : Nat → Nat) (o : Int32) : Met l y_X14_pick (Cond.code y_X14_pick b_X14_pick 3 (some .int) :: GW) ({ frames := 1, cells := 0, slots := 0, locals := 21 }) (va_Pc [.ref (r 0), .int o] (kPre D cy sz [((r 0), .inr (13, (oMo r)))])) ((fun A : Nat → Prop => va_Qi (S := Unit) (fun (r : Int32) (_ : Unit) => r = (-1)) (fun _ => kPost D cy A []) A) (va_A [((r 0), .inr (13, (oMo r)))] sz)) 0 0 (va_A [((r 0), .inr (13, (oMo r)))] sz) := by
  refine k_ofW (Qc := fun A => va_Qi (S := Unit) (fun (r : Int32) (_ : Unit) => r = (-1)) (fun _ => kPost D cy A []) A) (by decide) (Nat.le_of_ble_eq_true rfl) ?_
  intro p e s m below meth c A ls hx hb hr hml hown hlocks hin hg hNW hK hP hD hA hS hl
  have hl : lv_has ls 3 [(0, .ref (r 0)), (1, .int o)] := hl
  have hown : s.vm.findClass "LinkedUnitsModel" = some m.cls := hown
  refine lv_aload_n hx hb d_X14_pick_0 rfl (lv_at hl 0 rfl) ?_
  refine lv_iload_n hx hb d_X14_pick_1 rfl (lv_at hl 1 rfl) ?_
  refine k_calli (wc := [((r 0), .inr (13, (oMo r)))]) (wr := []) (va_runV (As := [.int o]) (rest := []) ⟨hx, hb, hml, hown, hg⟩ (c_m_isObject l D cy s.heap.size r o ) (cwV 1 hg (gw_V m_2648 m_2650 ms_X14_isObject m_18 m_2651) rfl rfl rfl (by decide +kernel) ⟨(Nat.le_of_ble_eq_true rfl), (Nat.le_of_ble_eq_true rfl)⟩) (k_preV (As := [.int o]) hP hD hK hNW [0] (by decide) rfl 0 rfl rfl) rfl rfl hl.1 rfl (lv_room (Nat.le_of_ble_eq_true rfl)) d_X14_pick_2 ⟨(Nat.le_of_ble_eq_true rfl), (Nat.le_of_ble_eq_true rfl)⟩) hP hD hS hA [0] [] rfl rfl (by decide) (by decide) (fun r1 u1 H locs hw hP hD hS => ?_)
  have hP : va_P D vwCl [((r 0), .inr (13, (oMo r)))] H := hP
  have hD : va_D A [((r 0), .inr (13, (oMo r)))] := hD
  obtain rfl : r1 = 0 := hw
  refine lv_if_ne (tgt := 10) hx hb d_X14_pick_5 (by decide) (fun c_5 => absurd c_5 (by decide)) (fun _ => ?_)
  refine lv_iconst (v := (-1)) hx hb d_X14_pick_8 (by decide) ?_
  refine W.widen (k := 0) (n := 0) (Nat.le_of_ble_eq_true rfl) (Nat.le_of_ble_eq_true rfl) ?_
  exact k_iret (X := Unit) (w1 := fun _ => []) () hx hb hr d_X14_pick_9 hlocks (hP.sub [] rfl) hK (hD.sub [] (by decide) rfl) hS rfl
set_option maxHeartbeats 4000000 in
set_option maxRecDepth 100000 in
theorem c_m_isFault_31 (l : Launch) (D : va_G) (cy : Nat → ClassId) (sz : Nat) (r : Nat → Nat) : Met l y_X14_isFault (Cond.code y_X14_isFault b_X14_isFault 6 (some .boolean) :: GW) ({ frames := 0, cells := 0, slots := 0, locals := 0 }) (va_Pc [.ref (r 0), .int 31, .int 0] (kPre D cy sz [((r 0), .inr (13, (oMo r)))])) ((fun A : Nat → Prop => va_Qi (S := Unit) (fun (r : Int32) (_ : Unit) => r = 0) (fun _ => kPost D cy A [((r 0), .inr (13, (oMo r)))]) A) (va_A [((r 0), .inr (13, (oMo r)))] sz)) 0 0 (va_A [((r 0), .inr (13, (oMo r)))] sz) := by
  refine k_ofW (Qc := fun A => va_Qi (S := Unit) (fun (r : Int32) (_ : Unit) => r = 0) (fun _ => kPost D cy A [((r 0), .inr (13, (oMo r)))]) A) (by decide) (Nat.le_of_ble_eq_true rfl) ?_
  intro p e s m below meth c A ls hx hb hr hml hown hlocks hin hg hNW hK hP hD hA hS hl
  have hl : lv_has ls 6 [(0, .ref (r 0)), (1, .int 31), (2, .int 0)] := hl
  have hown : s.vm.findClass "LinkedUnitsModel" = some m.cls := hown
  refine lv_iconst (v := 0) hx hb d_X14_isFault_0 (by decide) ?_
  refine lv_istore_n (lv' := [(3, .int 0), (0, .ref (r 0)), (1, .int 31), (2, .int 0)]) hx hb d_X14_isFault_1 rfl hl (by decide) rfl (fun ls hl => ?_)
  refine lv_iload_n hx hb d_X14_isFault_2 rfl (lv_at hl 0 rfl) ?_
  refine lv_iload_n hx hb d_X14_isFault_3 rfl (lv_at hl 3 rfl) ?_
  refine lv_icmp_ge (tgt := 94) hx hb d_X14_isFault_4 (by decide) (fun _ => ?_) (fun c_4 => False.elim (by revert c_4; decide))
  refine lv_iconst (v := 0) hx hb d_X14_isFault_94 (by decide) ?_
  refine W.widen (k := 0) (n := 0) (Nat.le_of_ble_eq_true rfl) (Nat.le_of_ble_eq_true rfl) ?_
  exact k_zret (X := Unit) (w1 := fun _ => [((r 0), .inr (13, (oMo r)))]) () hx hb hr rfl d_X14_isFault_95 hlocks (hP.sub [0] rfl) hK (hD.sub [0] (by decide) rfl) hS rfl
set_option maxHeartbeats 4000000 in
set_option maxRecDepth 100000 in
theorem c_m_isFault_32 (l : Launch) (D : va_G) (cy : Nat → ClassId) (sz : Nat) (r : Nat → Nat) : Met l y_X14_isFault (Cond.code y_X14_isFault b_X14_isFault 6 (some .boolean) :: GW) ({ frames := 0, cells := 0, slots := 0, locals := 0 }) (va_Pc [.ref (r 0), .int 32, .int 0] (kPre D cy sz [((r 0), .inr (13, (oMo r)))])) ((fun A : Nat → Prop => va_Qi (S := Unit) (fun (r : Int32) (_ : Unit) => r = 0) (fun _ => kPost D cy A [((r 0), .inr (13, (oMo r)))]) A) (va_A [((r 0), .inr (13, (oMo r)))] sz)) 0 0 (va_A [((r 0), .inr (13, (oMo r)))] sz) := by
  refine k_ofW (Qc := fun A => va_Qi (S := Unit) (fun (r : Int32) (_ : Unit) => r = 0) (fun _ => kPost D cy A [((r 0), .inr (13, (oMo r)))]) A) (by decide) (Nat.le_of_ble_eq_true rfl) ?_
  intro p e s m below meth c A ls hx hb hr hml hown hlocks hin hg hNW hK hP hD hA hS hl
  have hl : lv_has ls 6 [(0, .ref (r 0)), (1, .int 32), (2, .int 0)] := hl
  have hown : s.vm.findClass "LinkedUnitsModel" = some m.cls := hown
  refine lv_iconst (v := 0) hx hb d_X14_isFault_0 (by decide) ?_
  refine lv_istore_n (lv' := [(3, .int 0), (0, .ref (r 0)), (1, .int 32), (2, .int 0)]) hx hb d_X14_isFault_1 rfl hl (by decide) rfl (fun ls hl => ?_)
  refine lv_iload_n hx hb d_X14_isFault_2 rfl (lv_at hl 0 rfl) ?_
  refine lv_iload_n hx hb d_X14_isFault_3 rfl (lv_at hl 3 rfl) ?_
  refine lv_icmp_ge (tgt := 94) hx hb d_X14_isFault_4 (by decide) (fun _ => ?_) (fun c_4 => False.elim (by revert c_4; decide))
  refine lv_iconst (v := 0) hx hb d_X14_isFault_94 (by decide) ?_
  refine W.widen (k := 0) (n := 0) (Nat.le_of_ble_eq_true rfl) (Nat.le_of_ble_eq_true rfl) ?_
  exact k_zret (X := Unit) (w1 := fun _ => [((r 0), .inr (13, (oMo r)))]) () hx hb hr rfl d_X14_isFault_95 hlocks (hP.sub [0] rfl) hK (hD.sub [0] (by decide) rfl) hS rfl
set_option maxHeartbeats 4000000 in
set_option maxRecDepth 100000 in
theorem c_m_isFault_33 (l : Launch) (D : va_G) (cy : Nat → ClassId) (sz : Nat) (r : Nat → Nat) : Met l y_X14_isFault (Cond.code y_X14_isFault b_X14_isFault 6 (some .boolean) :: GW) ({ frames := 0, cells := 0, slots := 0, locals := 0 }) (va_Pc [.ref (r 0), .int 33, .int 0] (kPre D cy sz [((r 0), .inr (13, (oMo r)))])) ((fun A : Nat → Prop => va_Qi (S := Unit) (fun (r : Int32) (_ : Unit) => r = 0) (fun _ => kPost D cy A [((r 0), .inr (13, (oMo r)))]) A) (va_A [((r 0), .inr (13, (oMo r)))] sz)) 0 0 (va_A [((r 0), .inr (13, (oMo r)))] sz) := by
  refine k_ofW (Qc := fun A => va_Qi (S := Unit) (fun (r : Int32) (_ : Unit) => r = 0) (fun _ => kPost D cy A [((r 0), .inr (13, (oMo r)))]) A) (by decide) (Nat.le_of_ble_eq_true rfl) ?_
  intro p e s m below meth c A ls hx hb hr hml hown hlocks hin hg hNW hK hP hD hA hS hl
  have hl : lv_has ls 6 [(0, .ref (r 0)), (1, .int 33), (2, .int 0)] := hl
  have hown : s.vm.findClass "LinkedUnitsModel" = some m.cls := hown
  refine lv_iconst (v := 0) hx hb d_X14_isFault_0 (by decide) ?_
  refine lv_istore_n (lv' := [(3, .int 0), (0, .ref (r 0)), (1, .int 33), (2, .int 0)]) hx hb d_X14_isFault_1 rfl hl (by decide) rfl (fun ls hl => ?_)
  refine lv_iload_n hx hb d_X14_isFault_2 rfl (lv_at hl 0 rfl) ?_
  refine lv_iload_n hx hb d_X14_isFault_3 rfl (lv_at hl 3 rfl) ?_
  refine lv_icmp_ge (tgt := 94) hx hb d_X14_isFault_4 (by decide) (fun _ => ?_) (fun c_4 => False.elim (by revert c_4; decide))
  refine lv_iconst (v := 0) hx hb d_X14_isFault_94 (by decide) ?_
  refine W.widen (k := 0) (n := 0) (Nat.le_of_ble_eq_true rfl) (Nat.le_of_ble_eq_true rfl) ?_
  exact k_zret (X := Unit) (w1 := fun _ => [((r 0), .inr (13, (oMo r)))]) () hx hb hr rfl d_X14_isFault_95 hlocks (hP.sub [0] rfl) hK (hD.sub [0] (by decide) rfl) hS rfl
set_option maxHeartbeats 4000000 in
set_option maxRecDepth 100000 in
theorem c_m_mainOf (l : Launch) (D : va_G) (cy : Nat → ClassId) (sz : Nat) (r : Nat → Nat) : Met l y_X14_mainOf (Cond.code y_X14_mainOf b_X14_mainOf 5 (some .int) :: GW) ({ frames := 0, cells := 0, slots := 0, locals := 0 }) (va_Pc [.ref (r 0), .int 0] (kPre D cy sz [((r 0), .inr (13, (oMo r)))])) ((fun A : Nat → Prop => va_Qi (S := Unit) (fun (r : Int32) (_ : Unit) => r = (-1)) (fun _ => kPost D cy A [((r 0), .inr (13, (oMo r)))]) A) (va_A [((r 0), .inr (13, (oMo r)))] sz)) 0 0 (va_A [((r 0), .inr (13, (oMo r)))] sz) := by
  refine k_ofW (Qc := fun A => va_Qi (S := Unit) (fun (r : Int32) (_ : Unit) => r = (-1)) (fun _ => kPost D cy A [((r 0), .inr (13, (oMo r)))]) A) (by decide) (Nat.le_of_ble_eq_true rfl) ?_
  intro p e s m below meth c A ls hx hb hr hml hown hlocks hin hg hNW hK hP hD hA hS hl
  have hl : lv_has ls 5 [(0, .ref (r 0)), (1, .int 0)] := hl
  have hown : s.vm.findClass "LinkedUnitsModel" = some m.cls := hown
  refine lv_iconst (v := 0) hx hb d_X14_mainOf_0 (by decide) ?_
  refine lv_istore_n (lv' := [(2, .int 0), (0, .ref (r 0)), (1, .int 0)]) hx hb d_X14_mainOf_1 rfl hl (by decide) rfl (fun ls hl => ?_)
  refine lv_iload_n hx hb d_X14_mainOf_2 rfl (lv_at hl 0 rfl) ?_
  refine lv_iload_n hx hb d_X14_mainOf_3 rfl (lv_at hl 2 rfl) ?_
  refine lv_icmp_ge (tgt := 184) hx hb d_X14_mainOf_4 (by decide) (fun _ => ?_) (fun c_4 => False.elim (by revert c_4; decide))
  refine lv_iconst (v := (-1)) hx hb d_X14_mainOf_184 (by decide) ?_
  refine W.widen (k := 0) (n := 0) (Nat.le_of_ble_eq_true rfl) (Nat.le_of_ble_eq_true rfl) ?_
  exact k_iret (X := Unit) (w1 := fun _ => [((r 0), .inr (13, (oMo r)))]) () hx hb hr d_X14_mainOf_185 hlocks (hP.sub [0] rfl) hK (hD.sub [0] (by decide) rfl) hS rfl
set_option maxHeartbeats 4000000 in
set_option maxRecDepth 100000 in
theorem c_m_link (l : Launch) (D : va_G) (cy : Nat → ClassId) (sz : Nat) (r : Nat → Nat) : Met l y_X14_link (Cond.code y_X14_link b_X14_link 5 (some .int) :: GW) ({ frames := 1, cells := 0, slots := 0, locals := 25 }) (va_Pc [.ref (r 0)] (kPre D cy sz [((r 0), .inr (13, (oMo r)))])) ((fun A : Nat → Prop => va_Qi (S := Unit) (fun (r : Int32) (_ : Unit) => r = (-34)) (fun _ => kPost D cy A []) A) (va_A [((r 0), .inr (13, (oMo r)))] sz)) 0 0 (va_A [((r 0), .inr (13, (oMo r)))] sz) := by
  refine k_ofW (Qc := fun A => va_Qi (S := Unit) (fun (r : Int32) (_ : Unit) => r = (-34)) (fun _ => kPost D cy A []) A) (by decide) (Nat.le_of_ble_eq_true rfl) ?_
  intro p e s m below meth c A ls hx hb hr hml hown hlocks hin hg hNW hK hP hD hA hS hl
  have hl : lv_has ls 5 [(0, .ref (r 0))] := hl
  have hown : s.vm.findClass "LinkedUnitsModel" = some m.cls := hown
  refine lv_aload_n hx hb d_X14_link_0 rfl (lv_at hl 0 rfl) ?_
  refine va_get (D := D) (ci := 13) (v := .int 0) (C := "LinkedUnitsModel") (T := TX14) (N := 100) hx hb hg iwX14 hown hK hP 0 rfl rfl 67 (by decide) (hg _ m_1932) (fun _ h9 => h9) rfl d_X14_link_1 ?_
  refine lv_istore_n (lv' := [(1, .int 0), (0, .ref (r 0))]) hx hb d_X14_link_4 rfl hl (by decide) rfl (fun ls hl => ?_)
  refine lv_aload_n hx hb d_X14_link_5 rfl (lv_at hl 1 rfl) ?_
  refine lv_iconst (v := 0) hx hb d_X14_link_6 (by decide) ?_
  refine va_put (D := D) (ci := 13) (v := .int 0) (ty := .int) (C := "LinkedUnitsModel") (T := TX14) (N := 100) hx hb hg iwX14 tyX14 tyX14_ok nmX14 hown hK hP hD hS 0 rfl rfl 67 (by decide) (hg _ m_1932) (fun _ h9 => h9) rfl (by decide +kernel) rfl rfl (Nat.le_of_ble_eq_true rfl) d_X14_link_7 (fun H locs hP hD hS => ?_)
  have hP : va_P D vwCl [((r 0), .inr (13, ((oMo r).set 67 (.int 0))))] H := hP
  have hD : va_D A [((r 0), .inr (13, ((oMo r).set 67 (.int 0))))] := hD
  refine lv_aload_n hx hb d_X14_link_10 rfl (lv_at hl 1 rfl) ?_
  refine lv_iconst (v := (-1)) hx hb d_X14_link_11 (by decide) ?_
  refine va_put (D := D) (ci := 13) (v := .int (-1)) (ty := .int) (C := "LinkedUnitsModel") (T := TX14) (N := 100) hx hb hg iwX14 tyX14 tyX14_ok nmX14 hown hK hP hD hS 0 rfl rfl 71 (by decide) (hg _ m_1936) (fun _ h9 => h9) rfl (by decide +kernel) rfl rfl (Nat.le_of_ble_eq_true rfl) d_X14_link_12 (fun H locs hP hD hS => ?_)
  have hP : va_P D vwCl [((r 0), .inr (13, (((oMo r).set 67 (.int 0)).set 71 (.int (-1)))))] H := hP
  have hD : va_D A [((r 0), .inr (13, (((oMo r).set 67 (.int 0)).set 71 (.int (-1)))))] := hD
  refine lv_aload_n hx hb d_X14_link_15 rfl (lv_at hl 1 rfl) ?_
  refine lv_iconst (v := (-1)) hx hb d_X14_link_16 (by decide) ?_
  refine va_put (D := D) (ci := 13) (v := .int (-1)) (ty := .int) (C := "LinkedUnitsModel") (T := TX14) (N := 100) hx hb hg iwX14 tyX14 tyX14_ok nmX14 hown hK hP hD hS 0 rfl rfl 72 (by decide) (hg _ m_1937) (fun _ h9 => h9) rfl (by decide +kernel) rfl rfl (Nat.le_of_ble_eq_true rfl) d_X14_link_17 (fun H locs hP hD hS => ?_)
  have hP : va_P D vwCl [((r 0), .inr (13, ((((oMo r).set 67 (.int 0)).set 71 (.int (-1))).set 72 (.int (-1)))))] H := hP
  have hD : va_D A [((r 0), .inr (13, ((((oMo r).set 67 (.int 0)).set 71 (.int (-1))).set 72 (.int (-1)))))] := hD
  refine lv_bipush (v := 31) hx hb d_X14_link_20 (by decide) ?_
  refine lv_istore_n (lv' := [(2, .int 31), (1, .int 0), (0, .ref (r 0))]) hx hb d_X14_link_22 rfl hl (by decide) rfl (fun ls hl => ?_)
  refine lv_iload_n hx hb d_X14_link_23 rfl (lv_at hl 0 rfl) ?_
  refine lv_bipush (v := 34) hx hb d_X14_link_24 (by decide) ?_
  refine lv_icmp_ge (tgt := 47) hx hb d_X14_link_26 (by decide) (fun c_26 => absurd c_26 (by decide)) (fun _ => ?_)
  refine lv_aload_n hx hb d_X14_link_29 rfl (lv_at hl 2 rfl) ?_
  refine lv_iload_n hx hb d_X14_link_30 rfl (lv_at hl 0 rfl) ?_
  refine lv_iload_n hx hb d_X14_link_31 rfl (lv_at hl 1 rfl) ?_
  refine k_calli (wc := [((r 0), .inr (13, (oMo r)))]) (wr := []) (va_runV (As := [.int 31, .int 0]) (rest := []) ⟨hx, hb, hml, hown, hg⟩ (c_m_isFault_31 l D cy H.size r ) (cwV 2 hg (gw_V m_2676 m_2678 ms_X14_isFault m_18 m_2679) rfl rfl rfl (by decide +kernel) ⟨(Nat.le_of_ble_eq_true rfl), (Nat.le_of_ble_eq_true rfl)⟩) (k_preV (As := [.int 31, .int 0]) hP hD hK hNW [0] (by decide) rfl 0 rfl rfl) rfl rfl hl.1 rfl (lv_room (Nat.le_of_ble_eq_true rfl)) d_X14_link_32 ⟨(Nat.le_of_ble_eq_true rfl), (Nat.le_of_ble_eq_true rfl)⟩) hP hD hS hA [0] [] rfl rfl (by decide) (by decide) (fun r1 u1 H locs hw hP hD hS => ?_)
  have hP : va_P D vwCl [((r 0), .inr (13, (oMo r)))] H := hP
  have hD : va_D A [((r 0), .inr (13, (oMo r)))] := hD
  obtain rfl : r1 = 0 := hw
  refine lv_if_eq (tgt := 41) hx hb d_X14_link_35 (by decide) (fun _ => ?_) (fun c_35 => False.elim (by revert c_35; decide))
  refine lv_iinc (v := 32) (lv' := [(2, .int 32), (1, .int 0), (0, .ref (r 0))]) hx hb d_X14_link_41 hl (k := 0) rfl (by decide) (by decide) rfl (fun ls hl => ?_)
  refine lv_goto (tgt := 23) hx hb d_X14_link_44 (by decide) ?_
  refine lv_iload_n hx hb d_X14_link_23 rfl (lv_at hl 0 rfl) ?_
  refine lv_bipush (v := 34) hx hb d_X14_link_24 (by decide) ?_
  refine lv_icmp_ge (tgt := 47) hx hb d_X14_link_26 (by decide) (fun c_26 => absurd c_26 (by decide)) (fun _ => ?_)
  refine lv_aload_n hx hb d_X14_link_29 rfl (lv_at hl 2 rfl) ?_
  refine lv_iload_n hx hb d_X14_link_30 rfl (lv_at hl 0 rfl) ?_
  refine lv_iload_n hx hb d_X14_link_31 rfl (lv_at hl 1 rfl) ?_
  refine k_calli (wc := [((r 0), .inr (13, (oMo r)))]) (wr := []) (va_runV (As := [.int 32, .int 0]) (rest := []) ⟨hx, hb, hml, hown, hg⟩ (c_m_isFault_32 l D cy H.size r ) (cwV 2 hg (gw_V m_2676 m_2678 ms_X14_isFault m_18 m_2679) rfl rfl rfl (by decide +kernel) ⟨(Nat.le_of_ble_eq_true rfl), (Nat.le_of_ble_eq_true rfl)⟩) (k_preV (As := [.int 32, .int 0]) hP hD hK hNW [0] (by decide) rfl 0 rfl rfl) rfl rfl hl.1 rfl (lv_room (Nat.le_of_ble_eq_true rfl)) d_X14_link_32 ⟨(Nat.le_of_ble_eq_true rfl), (Nat.le_of_ble_eq_true rfl)⟩) hP hD hS hA [0] [] rfl rfl (by decide) (by decide) (fun r2 u2 H locs hw hP hD hS => ?_)
  have hP : va_P D vwCl [((r 0), .inr (13, (oMo r)))] H := hP
  have hD : va_D A [((r 0), .inr (13, (oMo r)))] := hD
  obtain rfl : r2 = 0 := hw
  refine lv_if_eq (tgt := 41) hx hb d_X14_link_35 (by decide) (fun _ => ?_) (fun c_35 => False.elim (by revert c_35; decide))
  refine lv_iinc (v := 33) (lv' := [(2, .int 33), (1, .int 0), (0, .ref (r 0))]) hx hb d_X14_link_41 hl (k := 0) rfl (by decide) (by decide) rfl (fun ls hl => ?_)
  refine lv_goto (tgt := 23) hx hb d_X14_link_44 (by decide) ?_
  refine lv_iload_n hx hb d_X14_link_23 rfl (lv_at hl 0 rfl) ?_
  refine lv_bipush (v := 34) hx hb d_X14_link_24 (by decide) ?_
  refine lv_icmp_ge (tgt := 47) hx hb d_X14_link_26 (by decide) (fun c_26 => absurd c_26 (by decide)) (fun _ => ?_)
  refine lv_aload_n hx hb d_X14_link_29 rfl (lv_at hl 2 rfl) ?_
  refine lv_iload_n hx hb d_X14_link_30 rfl (lv_at hl 0 rfl) ?_
  refine lv_iload_n hx hb d_X14_link_31 rfl (lv_at hl 1 rfl) ?_
  refine k_calli (wc := [((r 0), .inr (13, (oMo r)))]) (wr := []) (va_runV (As := [.int 33, .int 0]) (rest := []) ⟨hx, hb, hml, hown, hg⟩ (c_m_isFault_33 l D cy H.size r ) (cwV 2 hg (gw_V m_2676 m_2678 ms_X14_isFault m_18 m_2679) rfl rfl rfl (by decide +kernel) ⟨(Nat.le_of_ble_eq_true rfl), (Nat.le_of_ble_eq_true rfl)⟩) (k_preV (As := [.int 33, .int 0]) hP hD hK hNW [0] (by decide) rfl 0 rfl rfl) rfl rfl hl.1 rfl (lv_room (Nat.le_of_ble_eq_true rfl)) d_X14_link_32 ⟨(Nat.le_of_ble_eq_true rfl), (Nat.le_of_ble_eq_true rfl)⟩) hP hD hS hA [0] [] rfl rfl (by decide) (by decide) (fun r3 u3 H locs hw hP hD hS => ?_)
  have hP : va_P D vwCl [((r 0), .inr (13, (oMo r)))] H := hP
  have hD : va_D A [((r 0), .inr (13, (oMo r)))] := hD
  obtain rfl : r3 = 0 := hw
  refine lv_if_eq (tgt := 41) hx hb d_X14_link_35 (by decide) (fun _ => ?_) (fun c_35 => False.elim (by revert c_35; decide))
  refine lv_iinc (v := 34) (lv' := [(2, .int 34), (1, .int 0), (0, .ref (r 0))]) hx hb d_X14_link_41 hl (k := 0) rfl (by decide) (by decide) rfl (fun ls hl => ?_)
  refine lv_goto (tgt := 23) hx hb d_X14_link_44 (by decide) ?_
  refine lv_iload_n hx hb d_X14_link_23 rfl (lv_at hl 0 rfl) ?_
  refine lv_bipush (v := 34) hx hb d_X14_link_24 (by decide) ?_
  refine lv_icmp_ge (tgt := 47) hx hb d_X14_link_26 (by decide) (fun _ => ?_) (fun c_26 => False.elim (by revert c_26; decide))
  refine lv_aload_n hx hb d_X14_link_47 rfl (lv_at hl 2 rfl) ?_
  refine lv_iload_n hx hb d_X14_link_48 rfl (lv_at hl 1 rfl) ?_
  refine k_calli (wc := [((r 0), .inr (13, (oMo r)))]) (wr := []) (va_runV (As := [.int 0]) (rest := []) ⟨hx, hb, hml, hown, hg⟩ (c_m_mainOf l D cy H.size r ) (cwV 1 hg (gw_V m_2709 m_2711 ms_X14_mainOf m_18 m_2712) rfl rfl rfl (by decide +kernel) ⟨(Nat.le_of_ble_eq_true rfl), (Nat.le_of_ble_eq_true rfl)⟩) (k_preV (As := [.int 0]) hP hD hK hNW [0] (by decide) rfl 0 rfl rfl) rfl rfl hl.1 rfl (lv_room (Nat.le_of_ble_eq_true rfl)) d_X14_link_49 ⟨(Nat.le_of_ble_eq_true rfl), (Nat.le_of_ble_eq_true rfl)⟩) hP hD hS hA [0] [] rfl rfl (by decide) (by decide) (fun r4 u4 H locs hw hP hD hS => ?_)
  have hP : va_P D vwCl [((r 0), .inr (13, (oMo r)))] H := hP
  have hD : va_D A [((r 0), .inr (13, (oMo r)))] := hD
  obtain rfl : r4 = (-1) := hw
  refine lv_istore_n (lv' := [(2, .int (-1)), (1, .int 0), (0, .ref (r 0))]) hx hb d_X14_link_52 rfl hl (by decide) rfl (fun ls hl => ?_)
  refine lv_iload_n hx hb d_X14_link_53 rfl (lv_at hl 0 rfl) ?_
  refine lv_if_ge (tgt := 60) hx hb d_X14_link_54 (by decide) (fun c_54 => absurd c_54 (by decide)) (fun _ => ?_)
  refine lv_bipush (v := (-34)) hx hb d_X14_link_57 (by decide) ?_
  refine W.widen (k := 0) (n := 0) (Nat.le_of_ble_eq_true rfl) (Nat.le_of_ble_eq_true rfl) ?_
  exact k_iret (X := Unit) (w1 := fun _ => []) () hx hb hr d_X14_link_59 hlocks (hP.sub [] rfl) hK (hD.sub [] (by decide) rfl) hS rfl
set_option maxHeartbeats 4000000 in
set_option maxRecDepth 100000 in
theorem c_m_fault (l : Launch) (D : va_G) (cy : Nat → ClassId) (sz : Nat) (r : Nat → Nat) (what : Int32) : Met l y_X14_fault (Cond.code y_X14_fault b_X14_fault 2 (some .int) :: GW) ({ frames := 0, cells := 0, slots := 0, locals := 0 }) (va_Pc [.ref (r 0), .int what] (kPre D cy sz [((r 0), .inr (13, (oMo r)))])) ((fun A : Nat → Prop => va_Qi (S := Unit) (fun (r : Int32) (_ : Unit) => r = (-1)) (fun _ => kPost D cy A []) A) (va_A [((r 0), .inr (13, (oMo r)))] sz)) 0 0 (va_A [((r 0), .inr (13, (oMo r)))] sz) := by
  refine k_ofW (Qc := fun A => va_Qi (S := Unit) (fun (r : Int32) (_ : Unit) => r = (-1)) (fun _ => kPost D cy A []) A) (by decide) (Nat.le_of_ble_eq_true rfl) ?_
  intro p e s m below meth c A ls hx hb hr hml hown hlocks hin hg hNW hK hP hD hA hS hl
  have hl : lv_has ls 2 [(0, .ref (r 0)), (1, .int what)] := hl
  have hown : s.vm.findClass "LinkedUnitsModel" = some m.cls := hown
  refine lv_iload_n hx hb d_X14_fault_0 rfl (lv_at hl 1 rfl) ?_
  refine lv_if_ne (tgt := 11) hx hb d_X14_fault_1 (by decide) (fun c_1 => ?_) (fun c_1 => ?_)
  · -- taken at 1
    refine lv_iload_n hx hb d_X14_fault_11 rfl (lv_at hl 1 rfl) ?_
    refine lv_iconst (v := 1) hx hb d_X14_fault_12 (by decide) ?_
    refine lv_icmp_ne (tgt := 23) hx hb d_X14_fault_13 (by decide) (fun c_13 => ?_) (fun c_13 => ?_)
    · -- taken at 13
      refine lv_iconst (v := (-1)) hx hb d_X14_fault_23 (by decide) ?_
      refine W.widen (k := 0) (n := 0) (Nat.le_of_ble_eq_true rfl) (Nat.le_of_ble_eq_true rfl) ?_
      exact k_iret (X := Unit) (w1 := fun _ => []) () hx hb hr d_X14_fault_24 hlocks (hP.sub [] rfl) hK (hD.sub [] (by decide) rfl) hS rfl
    · -- not taken at 13
      refine lv_aload_n hx hb d_X14_fault_16 rfl (lv_at hl 0 rfl) ?_
      refine va_get (D := D) (ci := 13) (v := .int (-1)) (C := "LinkedUnitsModel") (T := TX14) (N := 100) hx hb hg iwX14 hown hK hP 0 rfl rfl 72 (by decide) (hg _ m_1937) (fun _ h9 => h9) rfl d_X14_fault_17 ?_
      refine lv_goto (tgt := 24) hx hb d_X14_fault_20 (by decide) ?_
      refine W.widen (k := 0) (n := 0) (Nat.le_of_ble_eq_true rfl) (Nat.le_of_ble_eq_true rfl) ?_
      exact k_iret (X := Unit) (w1 := fun _ => []) () hx hb hr d_X14_fault_24 hlocks (hP.sub [] rfl) hK (hD.sub [] (by decide) rfl) hS rfl
  · -- not taken at 1
    refine lv_aload_n hx hb d_X14_fault_4 rfl (lv_at hl 0 rfl) ?_
    refine va_get (D := D) (ci := 13) (v := .int (-1)) (C := "LinkedUnitsModel") (T := TX14) (N := 100) hx hb hg iwX14 hown hK hP 0 rfl rfl 71 (by decide) (hg _ m_1936) (fun _ h9 => h9) rfl d_X14_fault_5 ?_
    refine lv_goto (tgt := 24) hx hb d_X14_fault_8 (by decide) ?_
    refine W.widen (k := 0) (n := 0) (Nat.le_of_ble_eq_true rfl) (Nat.le_of_ble_eq_true rfl) ?_
    exact k_iret (X := Unit) (w1 := fun _ => []) () hx hb hr d_X14_fault_24 hlocks (hP.sub [] rfl) hK (hD.sub [] (by decide) rfl) hS rfl
set_option maxHeartbeats 4000000 in
set_option maxRecDepth 100000 in
theorem c_m_cell (l : Launch) (D : va_G) (cy : Nat → ClassId) (sz : Nat) (r : Nat → Nat) : Met l y_X14_cell (Cond.code y_X14_cell b_X14_cell 7 (some .int) :: GW) ({ frames := 0, cells := 0, slots := 0, locals := 0 }) (va_Pc [.ref (r 0)] (kPre D cy sz [((r 0), .inr (13, (oMo r)))])) ((fun A : Nat → Prop => va_Qi (S := Unit) (fun (r : Int32) (_ : Unit) => r = (-1)) (fun _ => kPost D cy A []) A) (va_A [((r 0), .inr (13, (oMo r)))] sz)) 0 0 (va_A [((r 0), .inr (13, (oMo r)))] sz) := by
  refine k_ofW (Qc := fun A => va_Qi (S := Unit) (fun (r : Int32) (_ : Unit) => r = (-1)) (fun _ => kPost D cy A []) A) (by decide) (Nat.le_of_ble_eq_true rfl) ?_
  intro p e s m below meth c A ls hx hb hr hml hown hlocks hin hg hNW hK hP hD hA hS hl
  have hl : lv_has ls 7 [(0, .ref (r 0))] := hl
  have hown : s.vm.findClass "LinkedUnitsModel" = some m.cls := hown
  refine lv_aload_n hx hb d_X14_cell_0 rfl (lv_at hl 0 rfl) ?_
  refine va_get (D := D) (ci := 13) (v := .int 0) (C := "LinkedUnitsModel") (T := TX14) (N := 100) hx hb hg iwX14 hown hK hP 0 rfl rfl 1 (by decide) (hg _ m_1866) (fun _ h9 => h9) rfl d_X14_cell_1 ?_
  refine lv_istore_n (lv' := [(1, .int 0), (0, .ref (r 0))]) hx hb d_X14_cell_4 rfl hl (by decide) rfl (fun ls hl => ?_)
  refine lv_aload_n hx hb d_X14_cell_5 rfl (lv_at hl 1 rfl) ?_
  refine lv_iconst (v := 0) hx hb d_X14_cell_6 (by decide) ?_
  refine va_put (D := D) (ci := 13) (v := .int 0) (ty := .int) (C := "LinkedUnitsModel") (T := TX14) (N := 100) hx hb hg iwX14 tyX14 tyX14_ok nmX14 hown hK hP hD hS 0 rfl rfl 1 (by decide) (hg _ m_1866) (fun _ h9 => h9) rfl (by decide +kernel) rfl rfl (Nat.le_of_ble_eq_true rfl) d_X14_cell_7 (fun H locs hP hD hS => ?_)
  have hP : va_P D vwCl [((r 0), .inr (13, ((oMo r).set 1 (.int 0))))] H := hP
  have hD : va_D A [((r 0), .inr (13, ((oMo r).set 1 (.int 0))))] := hD
  refine lv_aload_n hx hb d_X14_cell_10 rfl (lv_at hl 1 rfl) ?_
  refine va_get (D := D) (ci := 13) (v := .int (-1)) (C := "LinkedUnitsModel") (T := TX14) (N := 100) hx hb hg iwX14 hown hK hP 0 rfl rfl 70 (by decide) (hg _ m_1935) (fun _ h9 => h9) rfl d_X14_cell_11 ?_
  refine lv_if_ge (tgt := 19) hx hb d_X14_cell_14 (by decide) (fun c_14 => absurd c_14 (by decide)) (fun _ => ?_)
  refine lv_iconst (v := (-1)) hx hb d_X14_cell_17 (by decide) ?_
  refine W.widen (k := 0) (n := 0) (Nat.le_of_ble_eq_true rfl) (Nat.le_of_ble_eq_true rfl) ?_
  exact k_iret (X := Unit) (w1 := fun _ => []) () hx hb hr d_X14_cell_18 hlocks (hP.sub [] rfl) hK (hD.sub [] (by decide) rfl) hS rfl
set_option maxHeartbeats 4000000 in
set_option maxRecDepth 100000 in
theorem c_m_input (l : Launch) (D : va_G) (cy : Nat → ClassId) (sz : Nat) (r : Nat → Nat) (b : Int32) : Met l y_X14_input (Cond.code y_X14_input b_X14_input 2 (some .int) :: GW) ({ frames := 0, cells := 0, slots := 0, locals := 0 }) (va_Pc [.ref (r 0), .int b] (kPre D cy sz [((r 0), .inr (13, (oMo r))), ((r 88), .inl (cy 0, 4096, .inl (fun _ => 0)))])) ((fun A : Nat → Prop => va_Qi (S := Unit) (fun (r : Int32) (_ : Unit) => r = 1) (fun _ => kPost D cy A []) A) (va_A [((r 0), .inr (13, (oMo r))), ((r 88), .inl (cy 0, 4096, .inl (fun _ => 0)))] sz)) 0 0 (va_A [((r 0), .inr (13, (oMo r))), ((r 88), .inl (cy 0, 4096, .inl (fun _ => 0)))] sz) := by
  refine k_ofW (Qc := fun A => va_Qi (S := Unit) (fun (r : Int32) (_ : Unit) => r = 1) (fun _ => kPost D cy A []) A) (by decide) (Nat.le_of_ble_eq_true rfl) ?_
  intro p e s m below meth c A ls hx hb hr hml hown hlocks hin hg hNW hK hP hD hA hS hl
  have hl : lv_has ls 2 [(0, .ref (r 0)), (1, .int b)] := hl
  have hown : s.vm.findClass "LinkedUnitsModel" = some m.cls := hown
  refine lv_aload_n hx hb d_X14_input_0 rfl (lv_at hl 0 rfl) ?_
  refine va_get (D := D) (ci := 13) (v := .int 0) (C := "LinkedUnitsModel") (T := TX14) (N := 100) hx hb hg iwX14 hown hK hP 0 rfl rfl 88 (by decide) (hg _ m_1953) (fun _ h9 => h9) rfl d_X14_input_1 ?_
  refine lv_aload_n hx hb d_X14_input_4 rfl (lv_at hl 0 rfl) ?_
  refine va_get (D := D) (ci := 13) (v := .ref (r 88)) (C := "LinkedUnitsModel") (T := TX14) (N := 100) hx hb hg iwX14 hown hK hP 0 rfl rfl 87 (by decide) (hg _ m_1952) (fun _ h9 => h9) rfl d_X14_input_5 ?_
  refine va_alen hx hb hK hP 1 0 rfl rfl (v := 4096) (by show Int32.ofNat 4096 = 4096; decide) d_X14_input_8 ?_
  refine lv_icmp_ne (tgt := 14) hx hb d_X14_input_9 (by decide) (fun _ => ?_) (fun c_9 => False.elim (by revert c_9; decide))
  refine lv_aload_n hx hb d_X14_input_14 rfl (lv_at hl 0 rfl) ?_
  refine va_get (D := D) (ci := 13) (v := .ref (r 88)) (C := "LinkedUnitsModel") (T := TX14) (N := 100) hx hb hg iwX14 hown hK hP 0 rfl rfl 87 (by decide) (hg _ m_1952) (fun _ h9 => h9) rfl d_X14_input_15 ?_
  refine lv_aload_n hx hb d_X14_input_18 rfl (lv_at hl 0 rfl) ?_
  refine va_get (D := D) (ci := 13) (v := .int 0) (C := "LinkedUnitsModel") (T := TX14) (N := 100) hx hb hg iwX14 hown hK hP 0 rfl rfl 88 (by decide) (hg _ m_1953) (fun _ h9 => h9) rfl d_X14_input_19 ?_
  refine lv_iload_n hx hb d_X14_input_22 rfl (lv_at hl 1 rfl) ?_
  refine lv_i2b (v := (b).toInt8.toInt32) hx hb d_X14_input_23 rfl ?_
  refine va_bast hx hb hK hP hD hS 1 0 rfl rfl (k_inK (by decide)) d_X14_input_24 (fun H locs hP hD hS => ?_)
  have hP : va_P D vwCl [((r 0), .inr (13, (oMo r))), ((r 88), .inl (cy 0, 4096, .inl (upd (fun _ => 0) (0 : Int32).toNatClampNeg (vp_nar .byte ((b).toInt8.toInt32)))))] H := hP
  have hD : va_D A [((r 0), .inr (13, (oMo r))), ((r 88), .inl (cy 0, 4096, .inl (upd (fun _ => 0) (0 : Int32).toNatClampNeg (vp_nar .byte ((b).toInt8.toInt32)))))] := hD
  refine lv_aload_n hx hb d_X14_input_25 rfl (lv_at hl 0 rfl) ?_
  refine lv_dup hx hb d_X14_input_26 rfl ?_
  refine va_get (D := D) (ci := 13) (v := .int 0) (C := "LinkedUnitsModel") (T := TX14) (N := 100) hx hb hg iwX14 hown hK hP 0 rfl rfl 88 (by decide) (hg _ m_1953) (fun _ h9 => h9) rfl d_X14_input_27 ?_
  refine lv_iconst (v := 1) hx hb d_X14_input_30 (by decide) ?_
  refine lv_iadd hx hb d_X14_input_31 ?_
  refine k_topi 1 (by decide) ?_
  refine va_put (D := D) (ci := 13) (v := .int 1) (ty := .int) (C := "LinkedUnitsModel") (T := TX14) (N := 100) hx hb hg iwX14 tyX14 tyX14_ok nmX14 hown hK hP hD hS 0 rfl rfl 88 (by decide) (hg _ m_1953) (fun _ h9 => h9) rfl (by decide +kernel) rfl rfl (Nat.le_of_ble_eq_true rfl) d_X14_input_32 (fun H locs hP hD hS => ?_)
  have hP : va_P D vwCl [((r 0), .inr (13, ((oMo r).set 88 (.int 1)))), ((r 88), .inl (cy 0, 4096, .inl (upd (fun _ => 0) (0 : Int32).toNatClampNeg (vp_nar .byte ((b).toInt8.toInt32)))))] H := hP
  have hD : va_D A [((r 0), .inr (13, ((oMo r).set 88 (.int 1)))), ((r 88), .inl (cy 0, 4096, .inl (upd (fun _ => 0) (0 : Int32).toNatClampNeg (vp_nar .byte ((b).toInt8.toInt32)))))] := hD
  refine lv_aload_n hx hb d_X14_input_35 rfl (lv_at hl 0 rfl) ?_
  refine va_get (D := D) (ci := 13) (v := .int 1) (C := "LinkedUnitsModel") (T := TX14) (N := 100) hx hb hg iwX14 hown hK hP 0 rfl rfl 88 (by decide) (hg _ m_1953) (fun _ h9 => h9) rfl d_X14_input_36 ?_
  refine W.widen (k := 0) (n := 0) (Nat.le_of_ble_eq_true rfl) (Nat.le_of_ble_eq_true rfl) ?_
  exact k_iret (X := Unit) (w1 := fun _ => []) () hx hb hr d_X14_input_39 hlocks (hP.sub [] rfl) hK (hD.sub [] (by decide) rfl) hS rfl
set_option maxHeartbeats 4000000 in
set_option maxRecDepth 100000 in
theorem c_m_run (l : Launch) (D : va_G) (cy : Nat → ClassId) (sz : Nat) (r : Nat → Nat) (fuel : Int32) : Met l y_X14_run (Cond.code y_X14_run b_X14_run 3 (some .int) :: GW) ({ frames := 0, cells := 0, slots := 0, locals := 0 }) (va_Pc [.ref (r 0), .int fuel] (kPre D cy sz [((r 0), .inr (13, (oMo r)))])) ((fun A : Nat → Prop => va_Qi (S := Unit) (fun (r : Int32) (_ : Unit) => r = (-1)) (fun _ => kPost D cy A []) A) (va_A [((r 0), .inr (13, (oMo r)))] sz)) 0 0 (va_A [((r 0), .inr (13, (oMo r)))] sz) := by
  refine k_ofW (Qc := fun A => va_Qi (S := Unit) (fun (r : Int32) (_ : Unit) => r = (-1)) (fun _ => kPost D cy A []) A) (by decide) (Nat.le_of_ble_eq_true rfl) ?_
  intro p e s m below meth c A ls hx hb hr hml hown hlocks hin hg hNW hK hP hD hA hS hl
  have hl : lv_has ls 3 [(0, .ref (r 0)), (1, .int fuel)] := hl
  have hown : s.vm.findClass "LinkedUnitsModel" = some m.cls := hown
  refine lv_aload_n hx hb d_X14_run_0 rfl (lv_at hl 0 rfl) ?_
  refine va_get (D := D) (ci := 13) (v := .int (-1)) (C := "LinkedUnitsModel") (T := TX14) (N := 100) hx hb hg iwX14 hown hK hP 0 rfl rfl 70 (by decide) (hg _ m_1935) (fun _ h9 => h9) rfl d_X14_run_1 ?_
  refine lv_if_ge (tgt := 9) hx hb d_X14_run_4 (by decide) (fun c_4 => absurd c_4 (by decide)) (fun _ => ?_)
  refine lv_iconst (v := (-1)) hx hb d_X14_run_7 (by decide) ?_
  refine W.widen (k := 0) (n := 0) (Nat.le_of_ble_eq_true rfl) (Nat.le_of_ble_eq_true rfl) ?_
  exact k_iret (X := Unit) (w1 := fun _ => []) () hx hb hr d_X14_run_8 hlocks (hP.sub [] rfl) hK (hD.sub [] (by decide) rfl) hS rfl
set_option maxHeartbeats 4000000 in
set_option maxRecDepth 100000 in
theorem c_m_trap (l : Launch) (D : va_G) (cy : Nat → ClassId) (sz : Nat) (r : Nat → Nat) (what : Int32) : Met l y_X14_trap (Cond.code y_X14_trap b_X14_trap 2 (some .int) :: GW) ({ frames := 0, cells := 0, slots := 0, locals := 0 }) (va_Pc [.ref (r 0), .int what] (kPre D cy sz [((r 0), .inr (13, (oMo r)))])) ((fun A : Nat → Prop => va_Qi (S := Unit) (fun (r : Int32) (_ : Unit) => r = 0) (fun _ => kPost D cy A []) A) (va_A [((r 0), .inr (13, (oMo r)))] sz)) 0 0 (va_A [((r 0), .inr (13, (oMo r)))] sz) := by
  refine k_ofW (Qc := fun A => va_Qi (S := Unit) (fun (r : Int32) (_ : Unit) => r = 0) (fun _ => kPost D cy A []) A) (by decide) (Nat.le_of_ble_eq_true rfl) ?_
  intro p e s m below meth c A ls hx hb hr hml hown hlocks hin hg hNW hK hP hD hA hS hl
  have hl : lv_has ls 2 [(0, .ref (r 0)), (1, .int what)] := hl
  have hown : s.vm.findClass "LinkedUnitsModel" = some m.cls := hown
  refine lv_iload_n hx hb d_X14_trap_0 rfl (lv_at hl 1 rfl) ?_
  refine lv_if_ne (tgt := 11) hx hb d_X14_trap_1 (by decide) (fun c_1 => ?_) (fun c_1 => ?_)
  · -- taken at 1
    refine lv_iload_n hx hb d_X14_trap_11 rfl (lv_at hl 1 rfl) ?_
    refine lv_iconst (v := 1) hx hb d_X14_trap_12 (by decide) ?_
    refine lv_icmp_ne (tgt := 23) hx hb d_X14_trap_13 (by decide) (fun c_13 => ?_) (fun c_13 => ?_)
    · -- taken at 13
      refine lv_iconst (v := 0) hx hb d_X14_trap_23 (by decide) ?_
      refine W.widen (k := 0) (n := 0) (Nat.le_of_ble_eq_true rfl) (Nat.le_of_ble_eq_true rfl) ?_
      exact k_iret (X := Unit) (w1 := fun _ => []) () hx hb hr d_X14_trap_24 hlocks (hP.sub [] rfl) hK (hD.sub [] (by decide) rfl) hS rfl
    · -- not taken at 13
      refine lv_aload_n hx hb d_X14_trap_16 rfl (lv_at hl 0 rfl) ?_
      refine va_get (D := D) (ci := 13) (v := .int 0) (C := "LinkedUnitsModel") (T := TX14) (N := 100) hx hb hg iwX14 hown hK hP 0 rfl rfl 96 (by decide) (hg _ m_1961) (fun _ h9 => h9) rfl d_X14_trap_17 ?_
      refine lv_goto (tgt := 24) hx hb d_X14_trap_20 (by decide) ?_
      refine W.widen (k := 0) (n := 0) (Nat.le_of_ble_eq_true rfl) (Nat.le_of_ble_eq_true rfl) ?_
      exact k_iret (X := Unit) (w1 := fun _ => []) () hx hb hr d_X14_trap_24 hlocks (hP.sub [] rfl) hK (hD.sub [] (by decide) rfl) hS rfl
  · -- not taken at 1
    refine lv_aload_n hx hb d_X14_trap_4 rfl (lv_at hl 0 rfl) ?_
    refine va_get (D := D) (ci := 13) (v := .int 0) (C := "LinkedUnitsModel") (T := TX14) (N := 100) hx hb hg iwX14 hown hK hP 0 rfl rfl 95 (by decide) (hg _ m_1960) (fun _ h9 => h9) rfl d_X14_trap_5 ?_
    refine lv_goto (tgt := 24) hx hb d_X14_trap_8 (by decide) ?_
    refine W.widen (k := 0) (n := 0) (Nat.le_of_ble_eq_true rfl) (Nat.le_of_ble_eq_true rfl) ?_
    exact k_iret (X := Unit) (w1 := fun _ => []) () hx hb hr d_X14_trap_24 hlocks (hP.sub [] rfl) hK (hD.sub [] (by decide) rfl) hS rfl
set_option maxHeartbeats 4000000 in
set_option maxRecDepth 100000 in
theorem c_m_out (l : Launch) (D : va_G) (cy : Nat → ClassId) (sz : Nat) (r : Nat → Nat) (i : Int32) : Met l y_X14_out (Cond.code y_X14_out b_X14_out 2 (some .int) :: GW) ({ frames := 0, cells := 0, slots := 0, locals := 0 }) (va_Pc [.ref (r 0), .int i] (kPre D cy sz [((r 0), .inr (13, (oMo r)))])) ((fun A : Nat → Prop => va_Qi (S := Unit) (fun (r : Int32) (_ : Unit) => r = (-1)) (fun _ => kPost D cy A []) A) (va_A [((r 0), .inr (13, (oMo r)))] sz)) 0 0 (va_A [((r 0), .inr (13, (oMo r)))] sz) := by
  refine k_ofW (Qc := fun A => va_Qi (S := Unit) (fun (r : Int32) (_ : Unit) => r = (-1)) (fun _ => kPost D cy A []) A) (by decide) (Nat.le_of_ble_eq_true rfl) ?_
  intro p e s m below meth c A ls hx hb hr hml hown hlocks hin hg hNW hK hP hD hA hS hl
  have hl : lv_has ls 2 [(0, .ref (r 0)), (1, .int i)] := hl
  have hown : s.vm.findClass "LinkedUnitsModel" = some m.cls := hown
  refine lv_iload_n hx hb d_X14_out_0 rfl (lv_at hl 1 rfl) ?_
  refine lv_if_lt (tgt := 25) hx hb d_X14_out_1 (by decide) (fun c_1 => ?_) (fun c_1 => ?_)
  · -- taken at 1
    refine lv_iconst (v := (-1)) hx hb d_X14_out_25 (by decide) ?_
    refine W.widen (k := 0) (n := 0) (Nat.le_of_ble_eq_true rfl) (Nat.le_of_ble_eq_true rfl) ?_
    exact k_iret (X := Unit) (w1 := fun _ => []) () hx hb hr d_X14_out_26 hlocks (hP.sub [] rfl) hK (hD.sub [] (by decide) rfl) hS rfl
  · -- not taken at 1
    refine lv_iload_n hx hb d_X14_out_4 rfl (lv_at hl 1 rfl) ?_
    refine lv_aload_n hx hb d_X14_out_5 rfl (lv_at hl 0 rfl) ?_
    refine va_get (D := D) (ci := 13) (v := .int 0) (C := "LinkedUnitsModel") (T := TX14) (N := 100) hx hb hg iwX14 hown hK hP 0 rfl rfl 91 (by decide) (hg _ m_1956) (fun _ h9 => h9) rfl d_X14_out_6 ?_
    refine lv_icmp_ge (tgt := 25) hx hb d_X14_out_9 (by decide) (fun c_9 => ?_) (fun c_9 => False.elim (c_9 (Int32.not_lt.mp c_1)))
    refine lv_iconst (v := (-1)) hx hb d_X14_out_25 (by decide) ?_
    refine W.widen (k := 0) (n := 0) (Nat.le_of_ble_eq_true rfl) (Nat.le_of_ble_eq_true rfl) ?_
    exact k_iret (X := Unit) (w1 := fun _ => []) () hx hb hr d_X14_out_26 hlocks (hP.sub [] rfl) hK (hD.sub [] (by decide) rfl) hS rfl
set_option maxHeartbeats 4000000 in
set_option maxRecDepth 100000 in
theorem c_m_peek (l : Launch) (D : va_G) (cy : Nat → ClassId) (sz : Nat) (r : Nat → Nat) (i : Int32) : Met l y_X14_peek (Cond.code y_X14_peek b_X14_peek 2 (some .int) :: GW) ({ frames := 0, cells := 0, slots := 0, locals := 0 }) (va_Pc [.ref (r 0), .int i] (kPre D cy sz [((r 0), .inr (13, (oMo r)))])) ((fun A : Nat → Prop => va_Qi (S := Unit) (fun (r : Int32) (_ : Unit) => r = 0) (fun _ => kPost D cy A []) A) (va_A [((r 0), .inr (13, (oMo r)))] sz)) 0 0 (va_A [((r 0), .inr (13, (oMo r)))] sz) := by
  refine k_ofW (Qc := fun A => va_Qi (S := Unit) (fun (r : Int32) (_ : Unit) => r = 0) (fun _ => kPost D cy A []) A) (by decide) (Nat.le_of_ble_eq_true rfl) ?_
  intro p e s m below meth c A ls hx hb hr hml hown hlocks hin hg hNW hK hP hD hA hS hl
  have hl : lv_has ls 2 [(0, .ref (r 0)), (1, .int i)] := hl
  have hown : s.vm.findClass "LinkedUnitsModel" = some m.cls := hown
  refine lv_aload_n hx hb d_X14_peek_0 rfl (lv_at hl 0 rfl) ?_
  refine va_get (D := D) (ci := 13) (v := .int 0) (C := "LinkedUnitsModel") (T := TX14) (N := 100) hx hb hg iwX14 hown hK hP 0 rfl rfl 98 (by decide) (hg _ m_1963) (fun _ h9 => h9) rfl d_X14_peek_1 ?_
  refine lv_if_eq (tgt := 26) hx hb d_X14_peek_4 (by decide) (fun _ => ?_) (fun c_4 => False.elim (by revert c_4; decide))
  refine lv_iconst (v := 0) hx hb d_X14_peek_26 (by decide) ?_
  refine W.widen (k := 0) (n := 0) (Nat.le_of_ble_eq_true rfl) (Nat.le_of_ble_eq_true rfl) ?_
  exact k_iret (X := Unit) (w1 := fun _ => []) () hx hb hr d_X14_peek_27 hlocks (hP.sub [] rfl) hK (hD.sub [] (by decide) rfl) hS rfl
