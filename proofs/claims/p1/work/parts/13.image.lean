set_option maxHeartbeats 4000000 in
set_option maxRecDepth 100000 in
/-- find: main among the library -/
theorem c_find (l : Launch) (D : va_G) (cy : Nat → ClassId) (sz : Nat) (r : Nat → Nat) : Met l y_X4_find (Cond.code y_X4_find b_X4_find 9 (some .int) :: GW) ({ frames := 2, cells := 0, slots := 0, locals := 47 }) (va_Pc [.ref (r 10), .ref (r 56), .int 1, .ref (r 55), .int 0, .int 4] (kPre D cy sz [((r 10), .inr (4, (oIma r))), ((r 56), .inl (cy 1, 101, .inl (fun _ => 0))), ((r 55), .inl (cy 0, 4, .inl sMa)), ((r 5), .inr (8, (oSto r))), ((r 25), .inl (cy 1, 10100, .inl sFl)), ((r 29), .inl (cy 1, 10100, .inl sNe)), ((r 30), .inl (cy 0, 65600, .inl sNm)), ((r 34), .inl (cy 1, 101, .inl sDe))])) ((fun A : Nat → Prop => va_Qi (S := Unit) (fun (r : Int32) (_ : Unit) => r = (-1)) (fun _ => kPost D cy A [((r 10), .inr (4, (oIma r))), ((r 56), .inl (cy 1, 101, .inl (fun _ => 0))), ((r 25), .inl (cy 1, 10100, .inl sFl)), ((r 5), .inr (8, (oSto r))), ((r 30), .inl (cy 0, 65600, .inl sNm)), ((r 55), .inl (cy 0, 4, .inl sMa)), ((r 29), .inl (cy 1, 10100, .inl sNe)), ((r 34), .inl (cy 1, 101, .inl sDe))]) A) (va_A [((r 10), .inr (4, (oIma r))), ((r 56), .inl (cy 1, 101, .inl (fun _ => 0))), ((r 55), .inl (cy 0, 4, .inl sMa)), ((r 5), .inr (8, (oSto r))), ((r 25), .inl (cy 1, 10100, .inl sFl)), ((r 29), .inl (cy 1, 10100, .inl sNe)), ((r 30), .inl (cy 0, 65600, .inl sNm)), ((r 34), .inl (cy 1, 101, .inl sDe))] sz)) 0 0 (va_A [((r 10), .inr (4, (oIma r))), ((r 56), .inl (cy 1, 101, .inl (fun _ => 0))), ((r 55), .inl (cy 0, 4, .inl sMa)), ((r 5), .inr (8, (oSto r))), ((r 25), .inl (cy 1, 10100, .inl sFl)), ((r 29), .inl (cy 1, 10100, .inl sNe)), ((r 30), .inl (cy 0, 65600, .inl sNm)), ((r 34), .inl (cy 1, 101, .inl sDe))] sz) := by
  refine k_ofW (Qc := fun A => va_Qi (S := Unit) (fun (r : Int32) (_ : Unit) => r = (-1)) (fun _ => kPost D cy A [((r 10), .inr (4, (oIma r))), ((r 56), .inl (cy 1, 101, .inl (fun _ => 0))), ((r 25), .inl (cy 1, 10100, .inl sFl)), ((r 5), .inr (8, (oSto r))), ((r 30), .inl (cy 0, 65600, .inl sNm)), ((r 55), .inl (cy 0, 4, .inl sMa)), ((r 29), .inl (cy 1, 10100, .inl sNe)), ((r 34), .inl (cy 1, 101, .inl sDe))]) A) (by decide) (Nat.le_of_ble_eq_true rfl) ?_
  intro p e s m below meth c A ls hx hb hr hml hown hlocks hin hg hNW hK hP hD hA hS hl
  have hl : lv_has ls 9 [(0, .ref (r 10)), (1, .ref (r 56)), (2, .int 1), (3, .ref (r 55)), (4, .int 0), (5, .int 4)] := hl
  have hown : s.vm.findClass "LinkedUnits$Image" = some m.cls := hown
  refine lv_iconst (v := 0) hx hb d_X4_find_0 (by decide) ?_
  refine lv_istore (lv' := [(6, .int 0), (0, .ref (r 10)), (1, .ref (r 56)), (2, .int 1), (3, .ref (r 55)), (4, .int 0), (5, .int 4)]) hx hb d_X4_find_1 hl (by decide) rfl (fun ls hl => ?_)
  refine lv_iload hx hb d_X4_find_3 (lv_at hl 0 rfl) ?_
  refine lv_iload_n hx hb d_X4_find_5 rfl (lv_at hl 3 rfl) ?_
  refine lv_icmp_ge (tgt := 103) hx hb d_X4_find_6 (by decide) (fun c_6 => absurd c_6 (by decide)) (fun _ => ?_)
  refine lv_aload_n hx hb d_X4_find_9 rfl (lv_at hl 2 rfl) ?_
  refine lv_iload hx hb d_X4_find_10 (lv_at hl 0 rfl) ?_
  refine k_calli (wc := [((r 56), .inl (cy 1, 101, .inl (fun _ => 0)))]) (wr := [((r 10), .inr (4, (oIma r))), ((r 55), .inl (cy 0, 4, .inl sMa)), ((r 5), .inr (8, (oSto r))), ((r 25), .inl (cy 1, 10100, .inl sFl)), ((r 29), .inl (cy 1, 10100, .inl sNe)), ((r 30), .inl (cy 0, 65600, .inl sNm)), ((r 34), .inl (cy 1, 101, .inl sDe))]) (va_runSN (As := [.ref (r 56), .int 0]) (rest := []) ⟨hx, hb, hml, hown, hg⟩ (c_at_in l D cy s.heap.size (r 56) 101 (fun _ => 0) (0 : Int32) (Nat.le_of_ble_eq_true rfl) (k_inK (by decide))) ⟨(va_cnB 2 hg (gw_c m_949) rfl rfl rfl (hNW.1 _ nm_1552) (hg _ m_1) (by decide +kernel) ⟨(Nat.le_of_ble_eq_true rfl), (Nat.le_of_ble_eq_true rfl)⟩), hg _ m_948, trivial⟩ (k_preS hP hD hK hNW [1] (by decide) rfl) rfl rfl hl.1 rfl (lv_room (Nat.le_of_ble_eq_true rfl)) d_X4_find_12 ⟨(Nat.le_of_ble_eq_true rfl), (Nat.le_of_ble_eq_true rfl)⟩) hP hD hS hA [1] [0, 2, 3, 4, 5, 6, 7] rfl rfl (by decide) (by decide) (fun r1 u1 H locs hw hP hD hS => ?_)
  have hP : va_P D vwCl [((r 10), .inr (4, (oIma r))), ((r 55), .inl (cy 0, 4, .inl sMa)), ((r 5), .inr (8, (oSto r))), ((r 25), .inl (cy 1, 10100, .inl sFl)), ((r 29), .inl (cy 1, 10100, .inl sNe)), ((r 30), .inl (cy 0, 65600, .inl sNm)), ((r 34), .inl (cy 1, 101, .inl sDe)), ((r 56), .inl (cy 1, 101, .inl (fun _ => 0)))] H := hP
  have hD : va_D A [((r 10), .inr (4, (oIma r))), ((r 55), .inl (cy 0, 4, .inl sMa)), ((r 5), .inr (8, (oSto r))), ((r 25), .inl (cy 1, 10100, .inl sFl)), ((r 29), .inl (cy 1, 10100, .inl sNe)), ((r 30), .inl (cy 0, 65600, .inl sNm)), ((r 34), .inl (cy 1, 101, .inl sDe)), ((r 56), .inl (cy 1, 101, .inl (fun _ => 0)))] := hD
  obtain rfl : r1 = ((fun _ => 0) ((0 : Int32)).toNatClampNeg) := hw
  refine k_topi 0 (by decide) ?_
  refine lv_istore (lv' := [(7, .int 0), (6, .int 0), (0, .ref (r 10)), (1, .ref (r 56)), (2, .int 1), (3, .ref (r 55)), (4, .int 0), (5, .int 4)]) hx hb d_X4_find_15 hl (by decide) rfl (fun ls hl => ?_)
  refine lv_aload_n hx hb d_X4_find_17 rfl (lv_at hl 2 rfl) ?_
  refine va_get (D := D) (ci := 4) (v := .ref (r 5)) (C := "LinkedUnits$Image") (T := TX4) (N := 12) hx hb hg iwX4 hown hK hP 0 rfl rfl 0 (by decide) (hg _ m_597) (fun _ h9 => h9) rfl d_X4_find_18 ?_
  refine lv_iload hx hb d_X4_find_21 (lv_at hl 0 rfl) ?_
  refine k_calli (wc := [((r 5), .inr (8, (oSto r)))]) (wr := [((r 10), .inr (4, (oIma r))), ((r 55), .inl (cy 0, 4, .inl sMa)), ((r 25), .inl (cy 1, 10100, .inl sFl)), ((r 29), .inl (cy 1, 10100, .inl sNe)), ((r 30), .inl (cy 0, 65600, .inl sNm)), ((r 34), .inl (cy 1, 101, .inl sDe)), ((r 56), .inl (cy 1, 101, .inl (fun _ => 0)))]) (va_runVN (As := [.int 0]) (rest := []) ⟨hx, hb, hml, hown, hg⟩ (c_firstOf_0 l D cy H.size r ) ⟨(va_cnB 1 hg (gw_c m_1524) rfl rfl rfl (hNW.1 _ nm_1566) (hg _ m_5) (by decide +kernel) ⟨(Nat.le_of_ble_eq_true rfl), (Nat.le_of_ble_eq_true rfl)⟩), (hg _ m_1523), hg _ ms_X8_firstOf⟩ (k_preV (As := [.int 0]) hP hD hK hNW [2] (by decide) rfl 2 rfl rfl) rfl rfl hl.1 rfl (lv_room (Nat.le_of_ble_eq_true rfl)) d_X4_find_23 ⟨(Nat.le_of_ble_eq_true rfl), (Nat.le_of_ble_eq_true rfl)⟩) hP hD hS hA [2] [0, 1, 3, 4, 5, 6, 7] rfl rfl (by decide) (by decide) (fun r2 u2 H locs hw hP hD hS => ?_)
  have hP : va_P D vwCl [((r 10), .inr (4, (oIma r))), ((r 55), .inl (cy 0, 4, .inl sMa)), ((r 25), .inl (cy 1, 10100, .inl sFl)), ((r 29), .inl (cy 1, 10100, .inl sNe)), ((r 30), .inl (cy 0, 65600, .inl sNm)), ((r 34), .inl (cy 1, 101, .inl sDe)), ((r 56), .inl (cy 1, 101, .inl (fun _ => 0))), ((r 5), .inr (8, (oSto r)))] H := hP
  have hD : va_D A [((r 10), .inr (4, (oIma r))), ((r 55), .inl (cy 0, 4, .inl sMa)), ((r 25), .inl (cy 1, 10100, .inl sFl)), ((r 29), .inl (cy 1, 10100, .inl sNe)), ((r 30), .inl (cy 0, 65600, .inl sNm)), ((r 34), .inl (cy 1, 101, .inl sDe)), ((r 56), .inl (cy 1, 101, .inl (fun _ => 0))), ((r 5), .inr (8, (oSto r)))] := hD
  obtain rfl : r2 = 0 := hw
  refine lv_istore (lv' := [(8, .int 0), (7, .int 0), (6, .int 0), (0, .ref (r 10)), (1, .ref (r 56)), (2, .int 1), (3, .ref (r 55)), (4, .int 0), (5, .int 4)]) hx hb d_X4_find_26 hl (by decide) rfl (fun ls hl => ?_)
  refine lv_iload hx hb d_X4_find_28 (lv_at hl 0 rfl) ?_
  refine lv_aload_n hx hb d_X4_find_30 rfl (lv_at hl 3 rfl) ?_
  refine va_get (D := D) (ci := 4) (v := .ref (r 5)) (C := "LinkedUnits$Image") (T := TX4) (N := 12) hx hb hg iwX4 hown hK hP 0 rfl rfl 0 (by decide) (hg _ m_597) (fun _ h9 => h9) rfl d_X4_find_31 ?_
  refine va_getN (D := D) (ci := 8) (v := .ref (r 34)) (C := "LinkedUnits$Store") (T := TX8) (N := 18) hx hb hg iwX8 hown hK hP 7 rfl rfl 14 (by decide) (va_Nw.use rfl (hNW.1 _ nm_253)) (fun _ h9 => h9) rfl d_X4_find_34 ?_
  refine lv_iload hx hb d_X4_find_37 (lv_at hl 1 rfl) ?_
  refine k_calli (wc := [((r 34), .inl (cy 1, 101, .inl sDe))]) (wr := [((r 10), .inr (4, (oIma r))), ((r 55), .inl (cy 0, 4, .inl sMa)), ((r 25), .inl (cy 1, 10100, .inl sFl)), ((r 29), .inl (cy 1, 10100, .inl sNe)), ((r 30), .inl (cy 0, 65600, .inl sNm)), ((r 56), .inl (cy 1, 101, .inl (fun _ => 0))), ((r 5), .inr (8, (oSto r)))]) (va_runSN (As := [.ref (r 34), .int 0]) (rest := [.int 0]) ⟨hx, hb, hml, hown, hg⟩ (c_at_in l D cy H.size (r 34) 101 sDe (0 : Int32) (Nat.le_of_ble_eq_true rfl) (k_inK (by decide))) ⟨(va_cnB 2 hg (gw_c m_949) rfl rfl rfl (hNW.1 _ nm_1552) (hg _ m_1) (by decide +kernel) ⟨(Nat.le_of_ble_eq_true rfl), (Nat.le_of_ble_eq_true rfl)⟩), hg _ m_948, trivial⟩ (k_preS hP hD hK hNW [5] (by decide) rfl) rfl rfl hl.1 rfl (lv_room (Nat.le_of_ble_eq_true rfl)) d_X4_find_39 ⟨(Nat.le_of_ble_eq_true rfl), (Nat.le_of_ble_eq_true rfl)⟩) hP hD hS hA [5] [0, 1, 2, 3, 4, 6, 7] rfl rfl (by decide) (by decide) (fun r3 u3 H locs hw hP hD hS => ?_)
  have hP : va_P D vwCl [((r 10), .inr (4, (oIma r))), ((r 55), .inl (cy 0, 4, .inl sMa)), ((r 25), .inl (cy 1, 10100, .inl sFl)), ((r 29), .inl (cy 1, 10100, .inl sNe)), ((r 30), .inl (cy 0, 65600, .inl sNm)), ((r 56), .inl (cy 1, 101, .inl (fun _ => 0))), ((r 5), .inr (8, (oSto r))), ((r 34), .inl (cy 1, 101, .inl sDe))] H := hP
  have hD : va_D A [((r 10), .inr (4, (oIma r))), ((r 55), .inl (cy 0, 4, .inl sMa)), ((r 25), .inl (cy 1, 10100, .inl sFl)), ((r 29), .inl (cy 1, 10100, .inl sNe)), ((r 30), .inl (cy 0, 65600, .inl sNm)), ((r 56), .inl (cy 1, 101, .inl (fun _ => 0))), ((r 5), .inr (8, (oSto r))), ((r 34), .inl (cy 1, 101, .inl sDe))] := hD
  obtain rfl : r3 = (sDe ((0 : Int32)).toNatClampNeg) := hw
  refine k_topi 4 (by decide) ?_
  refine lv_icmp_ge (tgt := 97) hx hb d_X4_find_42 (by decide) (fun c_42 => absurd c_42 (by decide)) (fun _ => ?_)
  refine lv_aload_n hx hb d_X4_find_45 rfl (lv_at hl 3 rfl) ?_
  refine va_get (D := D) (ci := 4) (v := .ref (r 5)) (C := "LinkedUnits$Image") (T := TX4) (N := 12) hx hb hg iwX4 hown hK hP 0 rfl rfl 0 (by decide) (hg _ m_597) (fun _ h9 => h9) rfl d_X4_find_46 ?_
  refine lv_iload hx hb d_X4_find_49 (lv_at hl 0 rfl) ?_
  refine lv_iconst (v := 4) hx hb d_X4_find_51 (by decide) ?_
  refine k_calli (wc := [((r 5), .inr (8, (oSto r))), ((r 25), .inl (cy 1, 10100, .inl sFl))]) (wr := [((r 10), .inr (4, (oIma r))), ((r 55), .inl (cy 0, 4, .inl sMa)), ((r 29), .inl (cy 1, 10100, .inl sNe)), ((r 30), .inl (cy 0, 65600, .inl sNm)), ((r 56), .inl (cy 1, 101, .inl (fun _ => 0))), ((r 34), .inl (cy 1, 101, .inl sDe))]) (va_runVN (As := [.int 0, .int 4]) (rest := []) ⟨hx, hb, hml, hown, hg⟩ (c_is_0_4 l D cy H.size r ) ⟨(va_cnB 2 hg (gw_c m_1124) rfl rfl rfl (hNW.1 _ nm_1567) (hg _ m_5) (by decide +kernel) ⟨(Nat.le_of_ble_eq_true rfl), (Nat.le_of_ble_eq_true rfl)⟩), (hg _ m_1123), hg _ ms_X8_is⟩ (k_preV (As := [.int 0, .int 4]) hP hD hK hNW [6, 2] (by decide) rfl 6 rfl rfl) rfl rfl hl.1 rfl (lv_room (Nat.le_of_ble_eq_true rfl)) d_X4_find_52 ⟨(Nat.le_of_ble_eq_true rfl), (Nat.le_of_ble_eq_true rfl)⟩) hP hD hS hA [6, 2] [0, 1, 3, 4, 5, 7] rfl rfl (by decide) (by decide) (fun r4 u4 H locs hw hP hD hS => ?_)
  have hP : va_P D vwCl [((r 10), .inr (4, (oIma r))), ((r 55), .inl (cy 0, 4, .inl sMa)), ((r 29), .inl (cy 1, 10100, .inl sNe)), ((r 30), .inl (cy 0, 65600, .inl sNm)), ((r 56), .inl (cy 1, 101, .inl (fun _ => 0))), ((r 34), .inl (cy 1, 101, .inl sDe)), ((r 5), .inr (8, (oSto r))), ((r 25), .inl (cy 1, 10100, .inl sFl))] H := hP
  have hD : va_D A [((r 10), .inr (4, (oIma r))), ((r 55), .inl (cy 0, 4, .inl sMa)), ((r 29), .inl (cy 1, 10100, .inl sNe)), ((r 30), .inl (cy 0, 65600, .inl sNm)), ((r 56), .inl (cy 1, 101, .inl (fun _ => 0))), ((r 34), .inl (cy 1, 101, .inl sDe)), ((r 5), .inr (8, (oSto r))), ((r 25), .inl (cy 1, 10100, .inl sFl))] := hD
  obtain rfl : r4 = 1 := hw
  refine lv_if_eq (tgt := 91) hx hb d_X4_find_55 (by decide) (fun c_55 => absurd c_55 (by decide)) (fun _ => ?_)
  refine lv_aload_n hx hb d_X4_find_58 rfl (lv_at hl 3 rfl) ?_
  refine va_get (D := D) (ci := 4) (v := .ref (r 5)) (C := "LinkedUnits$Image") (T := TX4) (N := 12) hx hb hg iwX4 hown hK hP 0 rfl rfl 0 (by decide) (hg _ m_597) (fun _ h9 => h9) rfl d_X4_find_59 ?_
  refine lv_iload hx hb d_X4_find_62 (lv_at hl 0 rfl) ?_
  refine lv_iconst (v := 2) hx hb d_X4_find_64 (by decide) ?_
  refine k_calli (wc := [((r 5), .inr (8, (oSto r))), ((r 25), .inl (cy 1, 10100, .inl sFl))]) (wr := [((r 10), .inr (4, (oIma r))), ((r 55), .inl (cy 0, 4, .inl sMa)), ((r 29), .inl (cy 1, 10100, .inl sNe)), ((r 30), .inl (cy 0, 65600, .inl sNm)), ((r 56), .inl (cy 1, 101, .inl (fun _ => 0))), ((r 34), .inl (cy 1, 101, .inl sDe))]) (va_runVN (As := [.int 0, .int 2]) (rest := []) ⟨hx, hb, hml, hown, hg⟩ (c_is_0_2 l D cy H.size r ) ⟨(va_cnB 2 hg (gw_c m_1124) rfl rfl rfl (hNW.1 _ nm_1567) (hg _ m_5) (by decide +kernel) ⟨(Nat.le_of_ble_eq_true rfl), (Nat.le_of_ble_eq_true rfl)⟩), (hg _ m_1123), hg _ ms_X8_is⟩ (k_preV (As := [.int 0, .int 2]) hP hD hK hNW [6, 7] (by decide) rfl 6 rfl rfl) rfl rfl hl.1 rfl (lv_room (Nat.le_of_ble_eq_true rfl)) d_X4_find_65 ⟨(Nat.le_of_ble_eq_true rfl), (Nat.le_of_ble_eq_true rfl)⟩) hP hD hS hA [6, 7] [0, 1, 2, 3, 4, 5] rfl rfl (by decide) (by decide) (fun r5 u5 H locs hw hP hD hS => ?_)
  have hP : va_P D vwCl [((r 10), .inr (4, (oIma r))), ((r 55), .inl (cy 0, 4, .inl sMa)), ((r 29), .inl (cy 1, 10100, .inl sNe)), ((r 30), .inl (cy 0, 65600, .inl sNm)), ((r 56), .inl (cy 1, 101, .inl (fun _ => 0))), ((r 34), .inl (cy 1, 101, .inl sDe)), ((r 5), .inr (8, (oSto r))), ((r 25), .inl (cy 1, 10100, .inl sFl))] H := hP
  have hD : va_D A [((r 10), .inr (4, (oIma r))), ((r 55), .inl (cy 0, 4, .inl sMa)), ((r 29), .inl (cy 1, 10100, .inl sNe)), ((r 30), .inl (cy 0, 65600, .inl sNm)), ((r 56), .inl (cy 1, 101, .inl (fun _ => 0))), ((r 34), .inl (cy 1, 101, .inl sDe)), ((r 5), .inr (8, (oSto r))), ((r 25), .inl (cy 1, 10100, .inl sFl))] := hD
  obtain rfl : r5 = 0 := hw
  refine lv_if_ne (tgt := 91) hx hb d_X4_find_68 (by decide) (fun c_68 => absurd c_68 (by decide)) (fun _ => ?_)
  refine lv_aload_n hx hb d_X4_find_71 rfl (lv_at hl 3 rfl) ?_
  refine va_get (D := D) (ci := 4) (v := .ref (r 5)) (C := "LinkedUnits$Image") (T := TX4) (N := 12) hx hb hg iwX4 hown hK hP 0 rfl rfl 0 (by decide) (hg _ m_597) (fun _ h9 => h9) rfl d_X4_find_72 ?_
  refine lv_iload hx hb d_X4_find_75 (lv_at hl 0 rfl) ?_
  refine lv_aload_n hx hb d_X4_find_77 rfl (lv_at hl 6 rfl) ?_
  refine lv_iload hx hb d_X4_find_78 (lv_at hl 7 rfl) ?_
  refine lv_iload hx hb d_X4_find_80 (lv_at hl 8 rfl) ?_
  refine k_calli (wc := [((r 5), .inr (8, (oSto r))), ((r 29), .inl (cy 1, 10100, .inl sNe)), ((r 30), .inl (cy 0, 65600, .inl sNm)), ((r 55), .inl (cy 0, 4, .inl sMa))]) (wr := [((r 10), .inr (4, (oIma r))), ((r 56), .inl (cy 1, 101, .inl (fun _ => 0))), ((r 34), .inl (cy 1, 101, .inl sDe)), ((r 25), .inl (cy 1, 10100, .inl sFl))]) (va_runVN (As := [.int 0, .ref (r 55), .int 0, .int 4]) (rest := []) ⟨hx, hb, hml, hown, hg⟩ (c_isNamed_0 l D cy H.size r ) ⟨(va_cnB 4 hg (gw_c m_1571) rfl rfl rfl (hNW.1 _ nm_1568) (hg _ m_5) (by decide +kernel) ⟨(Nat.le_of_ble_eq_true rfl), (Nat.le_of_ble_eq_true rfl)⟩), (hg _ m_1570), hg _ ms_X8_isNamed⟩ (k_preV (As := [.int 0, .ref (r 55), .int 0, .int 4]) hP hD hK hNW [6, 2, 3, 1] (by decide) rfl 6 rfl rfl) rfl rfl hl.1 rfl (lv_room (Nat.le_of_ble_eq_true rfl)) d_X4_find_82 ⟨(Nat.le_of_ble_eq_true rfl), (Nat.le_of_ble_eq_true rfl)⟩) hP hD hS hA [6, 2, 3, 1] [0, 4, 5, 7] rfl rfl (by decide) (by decide) (fun r6 u6 H locs hw hP hD hS => ?_)
  have hP : va_P D vwCl [((r 10), .inr (4, (oIma r))), ((r 56), .inl (cy 1, 101, .inl (fun _ => 0))), ((r 34), .inl (cy 1, 101, .inl sDe)), ((r 25), .inl (cy 1, 10100, .inl sFl)), ((r 5), .inr (8, (oSto r))), ((r 30), .inl (cy 0, 65600, .inl sNm)), ((r 55), .inl (cy 0, 4, .inl sMa)), ((r 29), .inl (cy 1, 10100, .inl sNe))] H := hP
  have hD : va_D A [((r 10), .inr (4, (oIma r))), ((r 56), .inl (cy 1, 101, .inl (fun _ => 0))), ((r 34), .inl (cy 1, 101, .inl sDe)), ((r 25), .inl (cy 1, 10100, .inl sFl)), ((r 5), .inr (8, (oSto r))), ((r 30), .inl (cy 0, 65600, .inl sNm)), ((r 55), .inl (cy 0, 4, .inl sMa)), ((r 29), .inl (cy 1, 10100, .inl sNe))] := hD
  obtain rfl : r6 = 0 := hw
  refine lv_if_eq (tgt := 91) hx hb d_X4_find_85 (by decide) (fun _ => ?_) (fun c_85 => False.elim (by revert c_85; decide))
  refine lv_iinc (v := 1) (lv' := [(8, .int 1), (7, .int 0), (6, .int 0), (0, .ref (r 10)), (1, .ref (r 56)), (2, .int 1), (3, .ref (r 55)), (4, .int 0), (5, .int 4)]) hx hb d_X4_find_91 hl (k := 0) rfl (by decide) (by decide) rfl (fun ls hl => ?_)
  refine lv_goto (tgt := 28) hx hb d_X4_find_94 (by decide) ?_
  refine lv_iload hx hb d_X4_find_28 (lv_at hl 0 rfl) ?_
  refine lv_aload_n hx hb d_X4_find_30 rfl (lv_at hl 3 rfl) ?_
  refine va_get (D := D) (ci := 4) (v := .ref (r 5)) (C := "LinkedUnits$Image") (T := TX4) (N := 12) hx hb hg iwX4 hown hK hP 0 rfl rfl 0 (by decide) (hg _ m_597) (fun _ h9 => h9) rfl d_X4_find_31 ?_
  refine va_getN (D := D) (ci := 8) (v := .ref (r 34)) (C := "LinkedUnits$Store") (T := TX8) (N := 18) hx hb hg iwX8 hown hK hP 4 rfl rfl 14 (by decide) (va_Nw.use rfl (hNW.1 _ nm_253)) (fun _ h9 => h9) rfl d_X4_find_34 ?_
  refine lv_iload hx hb d_X4_find_37 (lv_at hl 1 rfl) ?_
  refine k_calli (wc := [((r 34), .inl (cy 1, 101, .inl sDe))]) (wr := [((r 10), .inr (4, (oIma r))), ((r 56), .inl (cy 1, 101, .inl (fun _ => 0))), ((r 25), .inl (cy 1, 10100, .inl sFl)), ((r 5), .inr (8, (oSto r))), ((r 30), .inl (cy 0, 65600, .inl sNm)), ((r 55), .inl (cy 0, 4, .inl sMa)), ((r 29), .inl (cy 1, 10100, .inl sNe))]) (va_runSN (As := [.ref (r 34), .int 0]) (rest := [.int 1]) ⟨hx, hb, hml, hown, hg⟩ (c_at_in l D cy H.size (r 34) 101 sDe (0 : Int32) (Nat.le_of_ble_eq_true rfl) (k_inK (by decide))) ⟨(va_cnB 2 hg (gw_c m_949) rfl rfl rfl (hNW.1 _ nm_1552) (hg _ m_1) (by decide +kernel) ⟨(Nat.le_of_ble_eq_true rfl), (Nat.le_of_ble_eq_true rfl)⟩), hg _ m_948, trivial⟩ (k_preS hP hD hK hNW [2] (by decide) rfl) rfl rfl hl.1 rfl (lv_room (Nat.le_of_ble_eq_true rfl)) d_X4_find_39 ⟨(Nat.le_of_ble_eq_true rfl), (Nat.le_of_ble_eq_true rfl)⟩) hP hD hS hA [2] [0, 1, 3, 4, 5, 6, 7] rfl rfl (by decide) (by decide) (fun r7 u7 H locs hw hP hD hS => ?_)
  have hP : va_P D vwCl [((r 10), .inr (4, (oIma r))), ((r 56), .inl (cy 1, 101, .inl (fun _ => 0))), ((r 25), .inl (cy 1, 10100, .inl sFl)), ((r 5), .inr (8, (oSto r))), ((r 30), .inl (cy 0, 65600, .inl sNm)), ((r 55), .inl (cy 0, 4, .inl sMa)), ((r 29), .inl (cy 1, 10100, .inl sNe)), ((r 34), .inl (cy 1, 101, .inl sDe))] H := hP
  have hD : va_D A [((r 10), .inr (4, (oIma r))), ((r 56), .inl (cy 1, 101, .inl (fun _ => 0))), ((r 25), .inl (cy 1, 10100, .inl sFl)), ((r 5), .inr (8, (oSto r))), ((r 30), .inl (cy 0, 65600, .inl sNm)), ((r 55), .inl (cy 0, 4, .inl sMa)), ((r 29), .inl (cy 1, 10100, .inl sNe)), ((r 34), .inl (cy 1, 101, .inl sDe))] := hD
  obtain rfl : r7 = (sDe ((0 : Int32)).toNatClampNeg) := hw
  refine k_topi 4 (by decide) ?_
  refine lv_icmp_ge (tgt := 97) hx hb d_X4_find_42 (by decide) (fun c_42 => absurd c_42 (by decide)) (fun _ => ?_)
  refine lv_aload_n hx hb d_X4_find_45 rfl (lv_at hl 3 rfl) ?_
  refine va_get (D := D) (ci := 4) (v := .ref (r 5)) (C := "LinkedUnits$Image") (T := TX4) (N := 12) hx hb hg iwX4 hown hK hP 0 rfl rfl 0 (by decide) (hg _ m_597) (fun _ h9 => h9) rfl d_X4_find_46 ?_
  refine lv_iload hx hb d_X4_find_49 (lv_at hl 0 rfl) ?_
  refine lv_iconst (v := 4) hx hb d_X4_find_51 (by decide) ?_
  refine k_calli (wc := [((r 5), .inr (8, (oSto r))), ((r 25), .inl (cy 1, 10100, .inl sFl))]) (wr := [((r 10), .inr (4, (oIma r))), ((r 56), .inl (cy 1, 101, .inl (fun _ => 0))), ((r 30), .inl (cy 0, 65600, .inl sNm)), ((r 55), .inl (cy 0, 4, .inl sMa)), ((r 29), .inl (cy 1, 10100, .inl sNe)), ((r 34), .inl (cy 1, 101, .inl sDe))]) (va_runVN (As := [.int 1, .int 4]) (rest := []) ⟨hx, hb, hml, hown, hg⟩ (c_is_1_4 l D cy H.size r ) ⟨(va_cnB 2 hg (gw_c m_1124) rfl rfl rfl (hNW.1 _ nm_1567) (hg _ m_5) (by decide +kernel) ⟨(Nat.le_of_ble_eq_true rfl), (Nat.le_of_ble_eq_true rfl)⟩), (hg _ m_1123), hg _ ms_X8_is⟩ (k_preV (As := [.int 1, .int 4]) hP hD hK hNW [3, 2] (by decide) rfl 3 rfl rfl) rfl rfl hl.1 rfl (lv_room (Nat.le_of_ble_eq_true rfl)) d_X4_find_52 ⟨(Nat.le_of_ble_eq_true rfl), (Nat.le_of_ble_eq_true rfl)⟩) hP hD hS hA [3, 2] [0, 1, 4, 5, 6, 7] rfl rfl (by decide) (by decide) (fun r8 u8 H locs hw hP hD hS => ?_)
  have hP : va_P D vwCl [((r 10), .inr (4, (oIma r))), ((r 56), .inl (cy 1, 101, .inl (fun _ => 0))), ((r 30), .inl (cy 0, 65600, .inl sNm)), ((r 55), .inl (cy 0, 4, .inl sMa)), ((r 29), .inl (cy 1, 10100, .inl sNe)), ((r 34), .inl (cy 1, 101, .inl sDe)), ((r 5), .inr (8, (oSto r))), ((r 25), .inl (cy 1, 10100, .inl sFl))] H := hP
  have hD : va_D A [((r 10), .inr (4, (oIma r))), ((r 56), .inl (cy 1, 101, .inl (fun _ => 0))), ((r 30), .inl (cy 0, 65600, .inl sNm)), ((r 55), .inl (cy 0, 4, .inl sMa)), ((r 29), .inl (cy 1, 10100, .inl sNe)), ((r 34), .inl (cy 1, 101, .inl sDe)), ((r 5), .inr (8, (oSto r))), ((r 25), .inl (cy 1, 10100, .inl sFl))] := hD
  obtain rfl : r8 = 1 := hw
  refine lv_if_eq (tgt := 91) hx hb d_X4_find_55 (by decide) (fun c_55 => absurd c_55 (by decide)) (fun _ => ?_)
  refine lv_aload_n hx hb d_X4_find_58 rfl (lv_at hl 3 rfl) ?_
  refine va_get (D := D) (ci := 4) (v := .ref (r 5)) (C := "LinkedUnits$Image") (T := TX4) (N := 12) hx hb hg iwX4 hown hK hP 0 rfl rfl 0 (by decide) (hg _ m_597) (fun _ h9 => h9) rfl d_X4_find_59 ?_
  refine lv_iload hx hb d_X4_find_62 (lv_at hl 0 rfl) ?_
  refine lv_iconst (v := 2) hx hb d_X4_find_64 (by decide) ?_
  refine k_calli (wc := [((r 5), .inr (8, (oSto r))), ((r 25), .inl (cy 1, 10100, .inl sFl))]) (wr := [((r 10), .inr (4, (oIma r))), ((r 56), .inl (cy 1, 101, .inl (fun _ => 0))), ((r 30), .inl (cy 0, 65600, .inl sNm)), ((r 55), .inl (cy 0, 4, .inl sMa)), ((r 29), .inl (cy 1, 10100, .inl sNe)), ((r 34), .inl (cy 1, 101, .inl sDe))]) (va_runVN (As := [.int 1, .int 2]) (rest := []) ⟨hx, hb, hml, hown, hg⟩ (c_is_1_2 l D cy H.size r ) ⟨(va_cnB 2 hg (gw_c m_1124) rfl rfl rfl (hNW.1 _ nm_1567) (hg _ m_5) (by decide +kernel) ⟨(Nat.le_of_ble_eq_true rfl), (Nat.le_of_ble_eq_true rfl)⟩), (hg _ m_1123), hg _ ms_X8_is⟩ (k_preV (As := [.int 1, .int 2]) hP hD hK hNW [6, 7] (by decide) rfl 6 rfl rfl) rfl rfl hl.1 rfl (lv_room (Nat.le_of_ble_eq_true rfl)) d_X4_find_65 ⟨(Nat.le_of_ble_eq_true rfl), (Nat.le_of_ble_eq_true rfl)⟩) hP hD hS hA [6, 7] [0, 1, 2, 3, 4, 5] rfl rfl (by decide) (by decide) (fun r9 u9 H locs hw hP hD hS => ?_)
  have hP : va_P D vwCl [((r 10), .inr (4, (oIma r))), ((r 56), .inl (cy 1, 101, .inl (fun _ => 0))), ((r 30), .inl (cy 0, 65600, .inl sNm)), ((r 55), .inl (cy 0, 4, .inl sMa)), ((r 29), .inl (cy 1, 10100, .inl sNe)), ((r 34), .inl (cy 1, 101, .inl sDe)), ((r 5), .inr (8, (oSto r))), ((r 25), .inl (cy 1, 10100, .inl sFl))] H := hP
  have hD : va_D A [((r 10), .inr (4, (oIma r))), ((r 56), .inl (cy 1, 101, .inl (fun _ => 0))), ((r 30), .inl (cy 0, 65600, .inl sNm)), ((r 55), .inl (cy 0, 4, .inl sMa)), ((r 29), .inl (cy 1, 10100, .inl sNe)), ((r 34), .inl (cy 1, 101, .inl sDe)), ((r 5), .inr (8, (oSto r))), ((r 25), .inl (cy 1, 10100, .inl sFl))] := hD
  obtain rfl : r9 = 0 := hw
  refine lv_if_ne (tgt := 91) hx hb d_X4_find_68 (by decide) (fun c_68 => absurd c_68 (by decide)) (fun _ => ?_)
  refine lv_aload_n hx hb d_X4_find_71 rfl (lv_at hl 3 rfl) ?_
  refine va_get (D := D) (ci := 4) (v := .ref (r 5)) (C := "LinkedUnits$Image") (T := TX4) (N := 12) hx hb hg iwX4 hown hK hP 0 rfl rfl 0 (by decide) (hg _ m_597) (fun _ h9 => h9) rfl d_X4_find_72 ?_
  refine lv_iload hx hb d_X4_find_75 (lv_at hl 0 rfl) ?_
  refine lv_aload_n hx hb d_X4_find_77 rfl (lv_at hl 6 rfl) ?_
  refine lv_iload hx hb d_X4_find_78 (lv_at hl 7 rfl) ?_
  refine lv_iload hx hb d_X4_find_80 (lv_at hl 8 rfl) ?_
  refine k_calli (wc := [((r 5), .inr (8, (oSto r))), ((r 29), .inl (cy 1, 10100, .inl sNe)), ((r 30), .inl (cy 0, 65600, .inl sNm)), ((r 55), .inl (cy 0, 4, .inl sMa))]) (wr := [((r 10), .inr (4, (oIma r))), ((r 56), .inl (cy 1, 101, .inl (fun _ => 0))), ((r 34), .inl (cy 1, 101, .inl sDe)), ((r 25), .inl (cy 1, 10100, .inl sFl))]) (va_runVN (As := [.int 1, .ref (r 55), .int 0, .int 4]) (rest := []) ⟨hx, hb, hml, hown, hg⟩ (c_isNamed_1 l D cy H.size r ) ⟨(va_cnB 4 hg (gw_c m_1571) rfl rfl rfl (hNW.1 _ nm_1568) (hg _ m_5) (by decide +kernel) ⟨(Nat.le_of_ble_eq_true rfl), (Nat.le_of_ble_eq_true rfl)⟩), (hg _ m_1570), hg _ ms_X8_isNamed⟩ (k_preV (As := [.int 1, .ref (r 55), .int 0, .int 4]) hP hD hK hNW [6, 4, 2, 3] (by decide) rfl 6 rfl rfl) rfl rfl hl.1 rfl (lv_room (Nat.le_of_ble_eq_true rfl)) d_X4_find_82 ⟨(Nat.le_of_ble_eq_true rfl), (Nat.le_of_ble_eq_true rfl)⟩) hP hD hS hA [6, 4, 2, 3] [0, 1, 5, 7] rfl rfl (by decide) (by decide) (fun r10 u10 H locs hw hP hD hS => ?_)
  have hP : va_P D vwCl [((r 10), .inr (4, (oIma r))), ((r 56), .inl (cy 1, 101, .inl (fun _ => 0))), ((r 34), .inl (cy 1, 101, .inl sDe)), ((r 25), .inl (cy 1, 10100, .inl sFl)), ((r 5), .inr (8, (oSto r))), ((r 30), .inl (cy 0, 65600, .inl sNm)), ((r 55), .inl (cy 0, 4, .inl sMa)), ((r 29), .inl (cy 1, 10100, .inl sNe))] H := hP
  have hD : va_D A [((r 10), .inr (4, (oIma r))), ((r 56), .inl (cy 1, 101, .inl (fun _ => 0))), ((r 34), .inl (cy 1, 101, .inl sDe)), ((r 25), .inl (cy 1, 10100, .inl sFl)), ((r 5), .inr (8, (oSto r))), ((r 30), .inl (cy 0, 65600, .inl sNm)), ((r 55), .inl (cy 0, 4, .inl sMa)), ((r 29), .inl (cy 1, 10100, .inl sNe))] := hD
  obtain rfl : r10 = 0 := hw
  refine lv_if_eq (tgt := 91) hx hb d_X4_find_85 (by decide) (fun _ => ?_) (fun c_85 => False.elim (by revert c_85; decide))
  refine lv_iinc (v := 2) (lv' := [(8, .int 2), (7, .int 0), (6, .int 0), (0, .ref (r 10)), (1, .ref (r 56)), (2, .int 1), (3, .ref (r 55)), (4, .int 0), (5, .int 4)]) hx hb d_X4_find_91 hl (k := 0) rfl (by decide) (by decide) rfl (fun ls hl => ?_)
  refine lv_goto (tgt := 28) hx hb d_X4_find_94 (by decide) ?_
  refine lv_iload hx hb d_X4_find_28 (lv_at hl 0 rfl) ?_
  refine lv_aload_n hx hb d_X4_find_30 rfl (lv_at hl 3 rfl) ?_
  refine va_get (D := D) (ci := 4) (v := .ref (r 5)) (C := "LinkedUnits$Image") (T := TX4) (N := 12) hx hb hg iwX4 hown hK hP 0 rfl rfl 0 (by decide) (hg _ m_597) (fun _ h9 => h9) rfl d_X4_find_31 ?_
  refine va_getN (D := D) (ci := 8) (v := .ref (r 34)) (C := "LinkedUnits$Store") (T := TX8) (N := 18) hx hb hg iwX8 hown hK hP 4 rfl rfl 14 (by decide) (va_Nw.use rfl (hNW.1 _ nm_253)) (fun _ h9 => h9) rfl d_X4_find_34 ?_
  refine lv_iload hx hb d_X4_find_37 (lv_at hl 1 rfl) ?_
  refine k_calli (wc := [((r 34), .inl (cy 1, 101, .inl sDe))]) (wr := [((r 10), .inr (4, (oIma r))), ((r 56), .inl (cy 1, 101, .inl (fun _ => 0))), ((r 25), .inl (cy 1, 10100, .inl sFl)), ((r 5), .inr (8, (oSto r))), ((r 30), .inl (cy 0, 65600, .inl sNm)), ((r 55), .inl (cy 0, 4, .inl sMa)), ((r 29), .inl (cy 1, 10100, .inl sNe))]) (va_runSN (As := [.ref (r 34), .int 0]) (rest := [.int 2]) ⟨hx, hb, hml, hown, hg⟩ (c_at_in l D cy H.size (r 34) 101 sDe (0 : Int32) (Nat.le_of_ble_eq_true rfl) (k_inK (by decide))) ⟨(va_cnB 2 hg (gw_c m_949) rfl rfl rfl (hNW.1 _ nm_1552) (hg _ m_1) (by decide +kernel) ⟨(Nat.le_of_ble_eq_true rfl), (Nat.le_of_ble_eq_true rfl)⟩), hg _ m_948, trivial⟩ (k_preS hP hD hK hNW [2] (by decide) rfl) rfl rfl hl.1 rfl (lv_room (Nat.le_of_ble_eq_true rfl)) d_X4_find_39 ⟨(Nat.le_of_ble_eq_true rfl), (Nat.le_of_ble_eq_true rfl)⟩) hP hD hS hA [2] [0, 1, 3, 4, 5, 6, 7] rfl rfl (by decide) (by decide) (fun r11 u11 H locs hw hP hD hS => ?_)
  have hP : va_P D vwCl [((r 10), .inr (4, (oIma r))), ((r 56), .inl (cy 1, 101, .inl (fun _ => 0))), ((r 25), .inl (cy 1, 10100, .inl sFl)), ((r 5), .inr (8, (oSto r))), ((r 30), .inl (cy 0, 65600, .inl sNm)), ((r 55), .inl (cy 0, 4, .inl sMa)), ((r 29), .inl (cy 1, 10100, .inl sNe)), ((r 34), .inl (cy 1, 101, .inl sDe))] H := hP
  have hD : va_D A [((r 10), .inr (4, (oIma r))), ((r 56), .inl (cy 1, 101, .inl (fun _ => 0))), ((r 25), .inl (cy 1, 10100, .inl sFl)), ((r 5), .inr (8, (oSto r))), ((r 30), .inl (cy 0, 65600, .inl sNm)), ((r 55), .inl (cy 0, 4, .inl sMa)), ((r 29), .inl (cy 1, 10100, .inl sNe)), ((r 34), .inl (cy 1, 101, .inl sDe))] := hD
  obtain rfl : r11 = (sDe ((0 : Int32)).toNatClampNeg) := hw
  refine k_topi 4 (by decide) ?_
  refine lv_icmp_ge (tgt := 97) hx hb d_X4_find_42 (by decide) (fun c_42 => absurd c_42 (by decide)) (fun _ => ?_)
  refine lv_aload_n hx hb d_X4_find_45 rfl (lv_at hl 3 rfl) ?_
  refine va_get (D := D) (ci := 4) (v := .ref (r 5)) (C := "LinkedUnits$Image") (T := TX4) (N := 12) hx hb hg iwX4 hown hK hP 0 rfl rfl 0 (by decide) (hg _ m_597) (fun _ h9 => h9) rfl d_X4_find_46 ?_
  refine lv_iload hx hb d_X4_find_49 (lv_at hl 0 rfl) ?_
  refine lv_iconst (v := 4) hx hb d_X4_find_51 (by decide) ?_
  refine k_calli (wc := [((r 5), .inr (8, (oSto r))), ((r 25), .inl (cy 1, 10100, .inl sFl))]) (wr := [((r 10), .inr (4, (oIma r))), ((r 56), .inl (cy 1, 101, .inl (fun _ => 0))), ((r 30), .inl (cy 0, 65600, .inl sNm)), ((r 55), .inl (cy 0, 4, .inl sMa)), ((r 29), .inl (cy 1, 10100, .inl sNe)), ((r 34), .inl (cy 1, 101, .inl sDe))]) (va_runVN (As := [.int 2, .int 4]) (rest := []) ⟨hx, hb, hml, hown, hg⟩ (c_is_2_4 l D cy H.size r ) ⟨(va_cnB 2 hg (gw_c m_1124) rfl rfl rfl (hNW.1 _ nm_1567) (hg _ m_5) (by decide +kernel) ⟨(Nat.le_of_ble_eq_true rfl), (Nat.le_of_ble_eq_true rfl)⟩), (hg _ m_1123), hg _ ms_X8_is⟩ (k_preV (As := [.int 2, .int 4]) hP hD hK hNW [3, 2] (by decide) rfl 3 rfl rfl) rfl rfl hl.1 rfl (lv_room (Nat.le_of_ble_eq_true rfl)) d_X4_find_52 ⟨(Nat.le_of_ble_eq_true rfl), (Nat.le_of_ble_eq_true rfl)⟩) hP hD hS hA [3, 2] [0, 1, 4, 5, 6, 7] rfl rfl (by decide) (by decide) (fun r12 u12 H locs hw hP hD hS => ?_)
  have hP : va_P D vwCl [((r 10), .inr (4, (oIma r))), ((r 56), .inl (cy 1, 101, .inl (fun _ => 0))), ((r 30), .inl (cy 0, 65600, .inl sNm)), ((r 55), .inl (cy 0, 4, .inl sMa)), ((r 29), .inl (cy 1, 10100, .inl sNe)), ((r 34), .inl (cy 1, 101, .inl sDe)), ((r 5), .inr (8, (oSto r))), ((r 25), .inl (cy 1, 10100, .inl sFl))] H := hP
  have hD : va_D A [((r 10), .inr (4, (oIma r))), ((r 56), .inl (cy 1, 101, .inl (fun _ => 0))), ((r 30), .inl (cy 0, 65600, .inl sNm)), ((r 55), .inl (cy 0, 4, .inl sMa)), ((r 29), .inl (cy 1, 10100, .inl sNe)), ((r 34), .inl (cy 1, 101, .inl sDe)), ((r 5), .inr (8, (oSto r))), ((r 25), .inl (cy 1, 10100, .inl sFl))] := hD
  obtain rfl : r12 = 1 := hw
  refine lv_if_eq (tgt := 91) hx hb d_X4_find_55 (by decide) (fun c_55 => absurd c_55 (by decide)) (fun _ => ?_)
  refine lv_aload_n hx hb d_X4_find_58 rfl (lv_at hl 3 rfl) ?_
  refine va_get (D := D) (ci := 4) (v := .ref (r 5)) (C := "LinkedUnits$Image") (T := TX4) (N := 12) hx hb hg iwX4 hown hK hP 0 rfl rfl 0 (by decide) (hg _ m_597) (fun _ h9 => h9) rfl d_X4_find_59 ?_
  refine lv_iload hx hb d_X4_find_62 (lv_at hl 0 rfl) ?_
  refine lv_iconst (v := 2) hx hb d_X4_find_64 (by decide) ?_
  refine k_calli (wc := [((r 5), .inr (8, (oSto r))), ((r 25), .inl (cy 1, 10100, .inl sFl))]) (wr := [((r 10), .inr (4, (oIma r))), ((r 56), .inl (cy 1, 101, .inl (fun _ => 0))), ((r 30), .inl (cy 0, 65600, .inl sNm)), ((r 55), .inl (cy 0, 4, .inl sMa)), ((r 29), .inl (cy 1, 10100, .inl sNe)), ((r 34), .inl (cy 1, 101, .inl sDe))]) (va_runVN (As := [.int 2, .int 2]) (rest := []) ⟨hx, hb, hml, hown, hg⟩ (c_is_2_2 l D cy H.size r ) ⟨(va_cnB 2 hg (gw_c m_1124) rfl rfl rfl (hNW.1 _ nm_1567) (hg _ m_5) (by decide +kernel) ⟨(Nat.le_of_ble_eq_true rfl), (Nat.le_of_ble_eq_true rfl)⟩), (hg _ m_1123), hg _ ms_X8_is⟩ (k_preV (As := [.int 2, .int 2]) hP hD hK hNW [6, 7] (by decide) rfl 6 rfl rfl) rfl rfl hl.1 rfl (lv_room (Nat.le_of_ble_eq_true rfl)) d_X4_find_65 ⟨(Nat.le_of_ble_eq_true rfl), (Nat.le_of_ble_eq_true rfl)⟩) hP hD hS hA [6, 7] [0, 1, 2, 3, 4, 5] rfl rfl (by decide) (by decide) (fun r13 u13 H locs hw hP hD hS => ?_)
  have hP : va_P D vwCl [((r 10), .inr (4, (oIma r))), ((r 56), .inl (cy 1, 101, .inl (fun _ => 0))), ((r 30), .inl (cy 0, 65600, .inl sNm)), ((r 55), .inl (cy 0, 4, .inl sMa)), ((r 29), .inl (cy 1, 10100, .inl sNe)), ((r 34), .inl (cy 1, 101, .inl sDe)), ((r 5), .inr (8, (oSto r))), ((r 25), .inl (cy 1, 10100, .inl sFl))] H := hP
  have hD : va_D A [((r 10), .inr (4, (oIma r))), ((r 56), .inl (cy 1, 101, .inl (fun _ => 0))), ((r 30), .inl (cy 0, 65600, .inl sNm)), ((r 55), .inl (cy 0, 4, .inl sMa)), ((r 29), .inl (cy 1, 10100, .inl sNe)), ((r 34), .inl (cy 1, 101, .inl sDe)), ((r 5), .inr (8, (oSto r))), ((r 25), .inl (cy 1, 10100, .inl sFl))] := hD
  obtain rfl : r13 = 0 := hw
  refine lv_if_ne (tgt := 91) hx hb d_X4_find_68 (by decide) (fun c_68 => absurd c_68 (by decide)) (fun _ => ?_)
  refine lv_aload_n hx hb d_X4_find_71 rfl (lv_at hl 3 rfl) ?_
  refine va_get (D := D) (ci := 4) (v := .ref (r 5)) (C := "LinkedUnits$Image") (T := TX4) (N := 12) hx hb hg iwX4 hown hK hP 0 rfl rfl 0 (by decide) (hg _ m_597) (fun _ h9 => h9) rfl d_X4_find_72 ?_
  refine lv_iload hx hb d_X4_find_75 (lv_at hl 0 rfl) ?_
  refine lv_aload_n hx hb d_X4_find_77 rfl (lv_at hl 6 rfl) ?_
  refine lv_iload hx hb d_X4_find_78 (lv_at hl 7 rfl) ?_
  refine lv_iload hx hb d_X4_find_80 (lv_at hl 8 rfl) ?_
  refine k_calli (wc := [((r 5), .inr (8, (oSto r))), ((r 29), .inl (cy 1, 10100, .inl sNe)), ((r 30), .inl (cy 0, 65600, .inl sNm)), ((r 55), .inl (cy 0, 4, .inl sMa))]) (wr := [((r 10), .inr (4, (oIma r))), ((r 56), .inl (cy 1, 101, .inl (fun _ => 0))), ((r 34), .inl (cy 1, 101, .inl sDe)), ((r 25), .inl (cy 1, 10100, .inl sFl))]) (va_runVN (As := [.int 2, .ref (r 55), .int 0, .int 4]) (rest := []) ⟨hx, hb, hml, hown, hg⟩ (c_isNamed_2 l D cy H.size r ) ⟨(va_cnB 4 hg (gw_c m_1571) rfl rfl rfl (hNW.1 _ nm_1568) (hg _ m_5) (by decide +kernel) ⟨(Nat.le_of_ble_eq_true rfl), (Nat.le_of_ble_eq_true rfl)⟩), (hg _ m_1570), hg _ ms_X8_isNamed⟩ (k_preV (As := [.int 2, .ref (r 55), .int 0, .int 4]) hP hD hK hNW [6, 4, 2, 3] (by decide) rfl 6 rfl rfl) rfl rfl hl.1 rfl (lv_room (Nat.le_of_ble_eq_true rfl)) d_X4_find_82 ⟨(Nat.le_of_ble_eq_true rfl), (Nat.le_of_ble_eq_true rfl)⟩) hP hD hS hA [6, 4, 2, 3] [0, 1, 5, 7] rfl rfl (by decide) (by decide) (fun r14 u14 H locs hw hP hD hS => ?_)
  have hP : va_P D vwCl [((r 10), .inr (4, (oIma r))), ((r 56), .inl (cy 1, 101, .inl (fun _ => 0))), ((r 34), .inl (cy 1, 101, .inl sDe)), ((r 25), .inl (cy 1, 10100, .inl sFl)), ((r 5), .inr (8, (oSto r))), ((r 30), .inl (cy 0, 65600, .inl sNm)), ((r 55), .inl (cy 0, 4, .inl sMa)), ((r 29), .inl (cy 1, 10100, .inl sNe))] H := hP
  have hD : va_D A [((r 10), .inr (4, (oIma r))), ((r 56), .inl (cy 1, 101, .inl (fun _ => 0))), ((r 34), .inl (cy 1, 101, .inl sDe)), ((r 25), .inl (cy 1, 10100, .inl sFl)), ((r 5), .inr (8, (oSto r))), ((r 30), .inl (cy 0, 65600, .inl sNm)), ((r 55), .inl (cy 0, 4, .inl sMa)), ((r 29), .inl (cy 1, 10100, .inl sNe))] := hD
  obtain rfl : r14 = 0 := hw
  refine lv_if_eq (tgt := 91) hx hb d_X4_find_85 (by decide) (fun _ => ?_) (fun c_85 => False.elim (by revert c_85; decide))
  refine lv_iinc (v := 3) (lv' := [(8, .int 3), (7, .int 0), (6, .int 0), (0, .ref (r 10)), (1, .ref (r 56)), (2, .int 1), (3, .ref (r 55)), (4, .int 0), (5, .int 4)]) hx hb d_X4_find_91 hl (k := 0) rfl (by decide) (by decide) rfl (fun ls hl => ?_)
  refine lv_goto (tgt := 28) hx hb d_X4_find_94 (by decide) ?_
  refine lv_iload hx hb d_X4_find_28 (lv_at hl 0 rfl) ?_
  refine lv_aload_n hx hb d_X4_find_30 rfl (lv_at hl 3 rfl) ?_
  refine va_get (D := D) (ci := 4) (v := .ref (r 5)) (C := "LinkedUnits$Image") (T := TX4) (N := 12) hx hb hg iwX4 hown hK hP 0 rfl rfl 0 (by decide) (hg _ m_597) (fun _ h9 => h9) rfl d_X4_find_31 ?_
  refine va_getN (D := D) (ci := 8) (v := .ref (r 34)) (C := "LinkedUnits$Store") (T := TX8) (N := 18) hx hb hg iwX8 hown hK hP 4 rfl rfl 14 (by decide) (va_Nw.use rfl (hNW.1 _ nm_253)) (fun _ h9 => h9) rfl d_X4_find_34 ?_
  refine lv_iload hx hb d_X4_find_37 (lv_at hl 1 rfl) ?_
  refine k_calli (wc := [((r 34), .inl (cy 1, 101, .inl sDe))]) (wr := [((r 10), .inr (4, (oIma r))), ((r 56), .inl (cy 1, 101, .inl (fun _ => 0))), ((r 25), .inl (cy 1, 10100, .inl sFl)), ((r 5), .inr (8, (oSto r))), ((r 30), .inl (cy 0, 65600, .inl sNm)), ((r 55), .inl (cy 0, 4, .inl sMa)), ((r 29), .inl (cy 1, 10100, .inl sNe))]) (va_runSN (As := [.ref (r 34), .int 0]) (rest := [.int 3]) ⟨hx, hb, hml, hown, hg⟩ (c_at_in l D cy H.size (r 34) 101 sDe (0 : Int32) (Nat.le_of_ble_eq_true rfl) (k_inK (by decide))) ⟨(va_cnB 2 hg (gw_c m_949) rfl rfl rfl (hNW.1 _ nm_1552) (hg _ m_1) (by decide +kernel) ⟨(Nat.le_of_ble_eq_true rfl), (Nat.le_of_ble_eq_true rfl)⟩), hg _ m_948, trivial⟩ (k_preS hP hD hK hNW [2] (by decide) rfl) rfl rfl hl.1 rfl (lv_room (Nat.le_of_ble_eq_true rfl)) d_X4_find_39 ⟨(Nat.le_of_ble_eq_true rfl), (Nat.le_of_ble_eq_true rfl)⟩) hP hD hS hA [2] [0, 1, 3, 4, 5, 6, 7] rfl rfl (by decide) (by decide) (fun r15 u15 H locs hw hP hD hS => ?_)
  have hP : va_P D vwCl [((r 10), .inr (4, (oIma r))), ((r 56), .inl (cy 1, 101, .inl (fun _ => 0))), ((r 25), .inl (cy 1, 10100, .inl sFl)), ((r 5), .inr (8, (oSto r))), ((r 30), .inl (cy 0, 65600, .inl sNm)), ((r 55), .inl (cy 0, 4, .inl sMa)), ((r 29), .inl (cy 1, 10100, .inl sNe)), ((r 34), .inl (cy 1, 101, .inl sDe))] H := hP
  have hD : va_D A [((r 10), .inr (4, (oIma r))), ((r 56), .inl (cy 1, 101, .inl (fun _ => 0))), ((r 25), .inl (cy 1, 10100, .inl sFl)), ((r 5), .inr (8, (oSto r))), ((r 30), .inl (cy 0, 65600, .inl sNm)), ((r 55), .inl (cy 0, 4, .inl sMa)), ((r 29), .inl (cy 1, 10100, .inl sNe)), ((r 34), .inl (cy 1, 101, .inl sDe))] := hD
  obtain rfl : r15 = (sDe ((0 : Int32)).toNatClampNeg) := hw
  refine k_topi 4 (by decide) ?_
  refine lv_icmp_ge (tgt := 97) hx hb d_X4_find_42 (by decide) (fun c_42 => absurd c_42 (by decide)) (fun _ => ?_)
  refine lv_aload_n hx hb d_X4_find_45 rfl (lv_at hl 3 rfl) ?_
  refine va_get (D := D) (ci := 4) (v := .ref (r 5)) (C := "LinkedUnits$Image") (T := TX4) (N := 12) hx hb hg iwX4 hown hK hP 0 rfl rfl 0 (by decide) (hg _ m_597) (fun _ h9 => h9) rfl d_X4_find_46 ?_
  refine lv_iload hx hb d_X4_find_49 (lv_at hl 0 rfl) ?_
  refine lv_iconst (v := 4) hx hb d_X4_find_51 (by decide) ?_
  refine k_calli (wc := [((r 5), .inr (8, (oSto r))), ((r 25), .inl (cy 1, 10100, .inl sFl))]) (wr := [((r 10), .inr (4, (oIma r))), ((r 56), .inl (cy 1, 101, .inl (fun _ => 0))), ((r 30), .inl (cy 0, 65600, .inl sNm)), ((r 55), .inl (cy 0, 4, .inl sMa)), ((r 29), .inl (cy 1, 10100, .inl sNe)), ((r 34), .inl (cy 1, 101, .inl sDe))]) (va_runVN (As := [.int 3, .int 4]) (rest := []) ⟨hx, hb, hml, hown, hg⟩ (c_is_3_4 l D cy H.size r ) ⟨(va_cnB 2 hg (gw_c m_1124) rfl rfl rfl (hNW.1 _ nm_1567) (hg _ m_5) (by decide +kernel) ⟨(Nat.le_of_ble_eq_true rfl), (Nat.le_of_ble_eq_true rfl)⟩), (hg _ m_1123), hg _ ms_X8_is⟩ (k_preV (As := [.int 3, .int 4]) hP hD hK hNW [3, 2] (by decide) rfl 3 rfl rfl) rfl rfl hl.1 rfl (lv_room (Nat.le_of_ble_eq_true rfl)) d_X4_find_52 ⟨(Nat.le_of_ble_eq_true rfl), (Nat.le_of_ble_eq_true rfl)⟩) hP hD hS hA [3, 2] [0, 1, 4, 5, 6, 7] rfl rfl (by decide) (by decide) (fun r16 u16 H locs hw hP hD hS => ?_)
  have hP : va_P D vwCl [((r 10), .inr (4, (oIma r))), ((r 56), .inl (cy 1, 101, .inl (fun _ => 0))), ((r 30), .inl (cy 0, 65600, .inl sNm)), ((r 55), .inl (cy 0, 4, .inl sMa)), ((r 29), .inl (cy 1, 10100, .inl sNe)), ((r 34), .inl (cy 1, 101, .inl sDe)), ((r 5), .inr (8, (oSto r))), ((r 25), .inl (cy 1, 10100, .inl sFl))] H := hP
  have hD : va_D A [((r 10), .inr (4, (oIma r))), ((r 56), .inl (cy 1, 101, .inl (fun _ => 0))), ((r 30), .inl (cy 0, 65600, .inl sNm)), ((r 55), .inl (cy 0, 4, .inl sMa)), ((r 29), .inl (cy 1, 10100, .inl sNe)), ((r 34), .inl (cy 1, 101, .inl sDe)), ((r 5), .inr (8, (oSto r))), ((r 25), .inl (cy 1, 10100, .inl sFl))] := hD
  obtain rfl : r16 = 1 := hw
  refine lv_if_eq (tgt := 91) hx hb d_X4_find_55 (by decide) (fun c_55 => absurd c_55 (by decide)) (fun _ => ?_)
  refine lv_aload_n hx hb d_X4_find_58 rfl (lv_at hl 3 rfl) ?_
  refine va_get (D := D) (ci := 4) (v := .ref (r 5)) (C := "LinkedUnits$Image") (T := TX4) (N := 12) hx hb hg iwX4 hown hK hP 0 rfl rfl 0 (by decide) (hg _ m_597) (fun _ h9 => h9) rfl d_X4_find_59 ?_
  refine lv_iload hx hb d_X4_find_62 (lv_at hl 0 rfl) ?_
  refine lv_iconst (v := 2) hx hb d_X4_find_64 (by decide) ?_
  refine k_calli (wc := [((r 5), .inr (8, (oSto r))), ((r 25), .inl (cy 1, 10100, .inl sFl))]) (wr := [((r 10), .inr (4, (oIma r))), ((r 56), .inl (cy 1, 101, .inl (fun _ => 0))), ((r 30), .inl (cy 0, 65600, .inl sNm)), ((r 55), .inl (cy 0, 4, .inl sMa)), ((r 29), .inl (cy 1, 10100, .inl sNe)), ((r 34), .inl (cy 1, 101, .inl sDe))]) (va_runVN (As := [.int 3, .int 2]) (rest := []) ⟨hx, hb, hml, hown, hg⟩ (c_is_3_2 l D cy H.size r ) ⟨(va_cnB 2 hg (gw_c m_1124) rfl rfl rfl (hNW.1 _ nm_1567) (hg _ m_5) (by decide +kernel) ⟨(Nat.le_of_ble_eq_true rfl), (Nat.le_of_ble_eq_true rfl)⟩), (hg _ m_1123), hg _ ms_X8_is⟩ (k_preV (As := [.int 3, .int 2]) hP hD hK hNW [6, 7] (by decide) rfl 6 rfl rfl) rfl rfl hl.1 rfl (lv_room (Nat.le_of_ble_eq_true rfl)) d_X4_find_65 ⟨(Nat.le_of_ble_eq_true rfl), (Nat.le_of_ble_eq_true rfl)⟩) hP hD hS hA [6, 7] [0, 1, 2, 3, 4, 5] rfl rfl (by decide) (by decide) (fun r17 u17 H locs hw hP hD hS => ?_)
  have hP : va_P D vwCl [((r 10), .inr (4, (oIma r))), ((r 56), .inl (cy 1, 101, .inl (fun _ => 0))), ((r 30), .inl (cy 0, 65600, .inl sNm)), ((r 55), .inl (cy 0, 4, .inl sMa)), ((r 29), .inl (cy 1, 10100, .inl sNe)), ((r 34), .inl (cy 1, 101, .inl sDe)), ((r 5), .inr (8, (oSto r))), ((r 25), .inl (cy 1, 10100, .inl sFl))] H := hP
  have hD : va_D A [((r 10), .inr (4, (oIma r))), ((r 56), .inl (cy 1, 101, .inl (fun _ => 0))), ((r 30), .inl (cy 0, 65600, .inl sNm)), ((r 55), .inl (cy 0, 4, .inl sMa)), ((r 29), .inl (cy 1, 10100, .inl sNe)), ((r 34), .inl (cy 1, 101, .inl sDe)), ((r 5), .inr (8, (oSto r))), ((r 25), .inl (cy 1, 10100, .inl sFl))] := hD
  obtain rfl : r17 = 0 := hw
  refine lv_if_ne (tgt := 91) hx hb d_X4_find_68 (by decide) (fun c_68 => absurd c_68 (by decide)) (fun _ => ?_)
  refine lv_aload_n hx hb d_X4_find_71 rfl (lv_at hl 3 rfl) ?_
  refine va_get (D := D) (ci := 4) (v := .ref (r 5)) (C := "LinkedUnits$Image") (T := TX4) (N := 12) hx hb hg iwX4 hown hK hP 0 rfl rfl 0 (by decide) (hg _ m_597) (fun _ h9 => h9) rfl d_X4_find_72 ?_
  refine lv_iload hx hb d_X4_find_75 (lv_at hl 0 rfl) ?_
  refine lv_aload_n hx hb d_X4_find_77 rfl (lv_at hl 6 rfl) ?_
  refine lv_iload hx hb d_X4_find_78 (lv_at hl 7 rfl) ?_
  refine lv_iload hx hb d_X4_find_80 (lv_at hl 8 rfl) ?_
  refine k_calli (wc := [((r 5), .inr (8, (oSto r))), ((r 29), .inl (cy 1, 10100, .inl sNe)), ((r 30), .inl (cy 0, 65600, .inl sNm)), ((r 55), .inl (cy 0, 4, .inl sMa))]) (wr := [((r 10), .inr (4, (oIma r))), ((r 56), .inl (cy 1, 101, .inl (fun _ => 0))), ((r 34), .inl (cy 1, 101, .inl sDe)), ((r 25), .inl (cy 1, 10100, .inl sFl))]) (va_runVN (As := [.int 3, .ref (r 55), .int 0, .int 4]) (rest := []) ⟨hx, hb, hml, hown, hg⟩ (c_isNamed_3 l D cy H.size r ) ⟨(va_cnB 4 hg (gw_c m_1571) rfl rfl rfl (hNW.1 _ nm_1568) (hg _ m_5) (by decide +kernel) ⟨(Nat.le_of_ble_eq_true rfl), (Nat.le_of_ble_eq_true rfl)⟩), (hg _ m_1570), hg _ ms_X8_isNamed⟩ (k_preV (As := [.int 3, .ref (r 55), .int 0, .int 4]) hP hD hK hNW [6, 4, 2, 3] (by decide) rfl 6 rfl rfl) rfl rfl hl.1 rfl (lv_room (Nat.le_of_ble_eq_true rfl)) d_X4_find_82 ⟨(Nat.le_of_ble_eq_true rfl), (Nat.le_of_ble_eq_true rfl)⟩) hP hD hS hA [6, 4, 2, 3] [0, 1, 5, 7] rfl rfl (by decide) (by decide) (fun r18 u18 H locs hw hP hD hS => ?_)
  have hP : va_P D vwCl [((r 10), .inr (4, (oIma r))), ((r 56), .inl (cy 1, 101, .inl (fun _ => 0))), ((r 34), .inl (cy 1, 101, .inl sDe)), ((r 25), .inl (cy 1, 10100, .inl sFl)), ((r 5), .inr (8, (oSto r))), ((r 30), .inl (cy 0, 65600, .inl sNm)), ((r 55), .inl (cy 0, 4, .inl sMa)), ((r 29), .inl (cy 1, 10100, .inl sNe))] H := hP
  have hD : va_D A [((r 10), .inr (4, (oIma r))), ((r 56), .inl (cy 1, 101, .inl (fun _ => 0))), ((r 34), .inl (cy 1, 101, .inl sDe)), ((r 25), .inl (cy 1, 10100, .inl sFl)), ((r 5), .inr (8, (oSto r))), ((r 30), .inl (cy 0, 65600, .inl sNm)), ((r 55), .inl (cy 0, 4, .inl sMa)), ((r 29), .inl (cy 1, 10100, .inl sNe))] := hD
  obtain rfl : r18 = 0 := hw
  refine lv_if_eq (tgt := 91) hx hb d_X4_find_85 (by decide) (fun _ => ?_) (fun c_85 => False.elim (by revert c_85; decide))
  refine lv_iinc (v := 4) (lv' := [(8, .int 4), (7, .int 0), (6, .int 0), (0, .ref (r 10)), (1, .ref (r 56)), (2, .int 1), (3, .ref (r 55)), (4, .int 0), (5, .int 4)]) hx hb d_X4_find_91 hl (k := 0) rfl (by decide) (by decide) rfl (fun ls hl => ?_)
  refine lv_goto (tgt := 28) hx hb d_X4_find_94 (by decide) ?_
  refine lv_iload hx hb d_X4_find_28 (lv_at hl 0 rfl) ?_
  refine lv_aload_n hx hb d_X4_find_30 rfl (lv_at hl 3 rfl) ?_
  refine va_get (D := D) (ci := 4) (v := .ref (r 5)) (C := "LinkedUnits$Image") (T := TX4) (N := 12) hx hb hg iwX4 hown hK hP 0 rfl rfl 0 (by decide) (hg _ m_597) (fun _ h9 => h9) rfl d_X4_find_31 ?_
  refine va_getN (D := D) (ci := 8) (v := .ref (r 34)) (C := "LinkedUnits$Store") (T := TX8) (N := 18) hx hb hg iwX8 hown hK hP 4 rfl rfl 14 (by decide) (va_Nw.use rfl (hNW.1 _ nm_253)) (fun _ h9 => h9) rfl d_X4_find_34 ?_
  refine lv_iload hx hb d_X4_find_37 (lv_at hl 1 rfl) ?_
  refine k_calli (wc := [((r 34), .inl (cy 1, 101, .inl sDe))]) (wr := [((r 10), .inr (4, (oIma r))), ((r 56), .inl (cy 1, 101, .inl (fun _ => 0))), ((r 25), .inl (cy 1, 10100, .inl sFl)), ((r 5), .inr (8, (oSto r))), ((r 30), .inl (cy 0, 65600, .inl sNm)), ((r 55), .inl (cy 0, 4, .inl sMa)), ((r 29), .inl (cy 1, 10100, .inl sNe))]) (va_runSN (As := [.ref (r 34), .int 0]) (rest := [.int 4]) ⟨hx, hb, hml, hown, hg⟩ (c_at_in l D cy H.size (r 34) 101 sDe (0 : Int32) (Nat.le_of_ble_eq_true rfl) (k_inK (by decide))) ⟨(va_cnB 2 hg (gw_c m_949) rfl rfl rfl (hNW.1 _ nm_1552) (hg _ m_1) (by decide +kernel) ⟨(Nat.le_of_ble_eq_true rfl), (Nat.le_of_ble_eq_true rfl)⟩), hg _ m_948, trivial⟩ (k_preS hP hD hK hNW [2] (by decide) rfl) rfl rfl hl.1 rfl (lv_room (Nat.le_of_ble_eq_true rfl)) d_X4_find_39 ⟨(Nat.le_of_ble_eq_true rfl), (Nat.le_of_ble_eq_true rfl)⟩) hP hD hS hA [2] [0, 1, 3, 4, 5, 6, 7] rfl rfl (by decide) (by decide) (fun r19 u19 H locs hw hP hD hS => ?_)
  have hP : va_P D vwCl [((r 10), .inr (4, (oIma r))), ((r 56), .inl (cy 1, 101, .inl (fun _ => 0))), ((r 25), .inl (cy 1, 10100, .inl sFl)), ((r 5), .inr (8, (oSto r))), ((r 30), .inl (cy 0, 65600, .inl sNm)), ((r 55), .inl (cy 0, 4, .inl sMa)), ((r 29), .inl (cy 1, 10100, .inl sNe)), ((r 34), .inl (cy 1, 101, .inl sDe))] H := hP
  have hD : va_D A [((r 10), .inr (4, (oIma r))), ((r 56), .inl (cy 1, 101, .inl (fun _ => 0))), ((r 25), .inl (cy 1, 10100, .inl sFl)), ((r 5), .inr (8, (oSto r))), ((r 30), .inl (cy 0, 65600, .inl sNm)), ((r 55), .inl (cy 0, 4, .inl sMa)), ((r 29), .inl (cy 1, 10100, .inl sNe)), ((r 34), .inl (cy 1, 101, .inl sDe))] := hD
  obtain rfl : r19 = (sDe ((0 : Int32)).toNatClampNeg) := hw
  refine k_topi 4 (by decide) ?_
  refine lv_icmp_ge (tgt := 97) hx hb d_X4_find_42 (by decide) (fun _ => ?_) (fun c_42 => False.elim (by revert c_42; decide))
  refine lv_iinc (v := 1) (lv' := [(6, .int 1), (8, .int 4), (7, .int 0), (0, .ref (r 10)), (1, .ref (r 56)), (2, .int 1), (3, .ref (r 55)), (4, .int 0), (5, .int 4)]) hx hb d_X4_find_97 hl (k := 2) rfl (by decide) (by decide) rfl (fun ls hl => ?_)
  refine lv_goto (tgt := 3) hx hb d_X4_find_100 (by decide) ?_
  refine lv_iload hx hb d_X4_find_3 (lv_at hl 0 rfl) ?_
  refine lv_iload_n hx hb d_X4_find_5 rfl (lv_at hl 5 rfl) ?_
  refine lv_icmp_ge (tgt := 103) hx hb d_X4_find_6 (by decide) (fun _ => ?_) (fun c_6 => False.elim (by revert c_6; decide))
  refine lv_iconst (v := (-1)) hx hb d_X4_find_103 (by decide) ?_
  refine W.widen (k := 0) (n := 0) (Nat.le_of_ble_eq_true rfl) (Nat.le_of_ble_eq_true rfl) ?_
  exact k_iret (X := Unit) (w1 := fun _ => [((r 10), .inr (4, (oIma r))), ((r 56), .inl (cy 1, 101, .inl (fun _ => 0))), ((r 25), .inl (cy 1, 10100, .inl sFl)), ((r 5), .inr (8, (oSto r))), ((r 30), .inl (cy 0, 65600, .inl sNm)), ((r 55), .inl (cy 0, 4, .inl sMa)), ((r 29), .inl (cy 1, 10100, .inl sNe)), ((r 34), .inl (cy 1, 101, .inl sDe))]) () hx hb hr d_X4_find_104 hlocks (hP.sub [0, 1, 2, 3, 4, 5, 6, 7] rfl) hK (hD.sub [0, 1, 2, 3, 4, 5, 6, 7] (by decide) rfl) hS rfl
set_option maxHeartbeats 4000000 in
set_option maxRecDepth 100000 in
theorem c_look_31 (l : Launch) (D : va_G) (cy : Nat → ClassId) (sz : Nat) (r : Nat → Nat) : Met l y_X4_look (Cond.code y_X4_look b_X4_look 7 (some .int) :: GW) ({ frames := 0, cells := 0, slots := 0, locals := 0 }) (va_Pc [.ref (r 10), .int 31] (kPre D cy sz [((r 10), .inr (4, (oIma r)))])) ((fun A : Nat → Prop => va_Qi (S := Unit) (fun (r : Int32) (_ : Unit) => r = 0) (fun _ => kPost D cy A [((r 10), .inr (4, (oIma r)))]) A) (va_A [((r 10), .inr (4, (oIma r)))] sz)) 0 0 (va_A [((r 10), .inr (4, (oIma r)))] sz) := by
  refine k_ofW (Qc := fun A => va_Qi (S := Unit) (fun (r : Int32) (_ : Unit) => r = 0) (fun _ => kPost D cy A [((r 10), .inr (4, (oIma r)))]) A) (by decide) (Nat.le_of_ble_eq_true rfl) ?_
  intro p e s m below meth c A ls hx hb hr hml hown hlocks hin hg hNW hK hP hD hA hS hl
  have hl : lv_has ls 7 [(0, .ref (r 10)), (1, .int 31)] := hl
  have hown : s.vm.findClass "LinkedUnits$Image" = some m.cls := hown
  refine lv_iconst (v := 1) hx hb d_X4_look_0 (by decide) ?_
  refine lv_istore_n (lv' := [(2, .int 1), (0, .ref (r 10)), (1, .int 31)]) hx hb d_X4_look_1 rfl hl (by decide) rfl (fun ls hl => ?_)
  refine lv_iload_n hx hb d_X4_look_2 rfl (lv_at hl 0 rfl) ?_
  refine lv_aload_n hx hb d_X4_look_3 rfl (lv_at hl 1 rfl) ?_
  refine va_get (D := D) (ci := 4) (v := .int 1) (C := "LinkedUnits$Image") (T := TX4) (N := 12) hx hb hg iwX4 hown hK hP 0 rfl rfl 5 (by decide) (hg _ m_605) (fun _ h9 => h9) rfl d_X4_look_4 ?_
  refine lv_icmp_ge (tgt := 126) hx hb d_X4_look_7 (by decide) (fun _ => ?_) (fun c_7 => False.elim (by revert c_7; decide))
  refine lv_iconst (v := 0) hx hb d_X4_look_126 (by decide) ?_
  refine W.widen (k := 0) (n := 0) (Nat.le_of_ble_eq_true rfl) (Nat.le_of_ble_eq_true rfl) ?_
  exact k_iret (X := Unit) (w1 := fun _ => [((r 10), .inr (4, (oIma r)))]) () hx hb hr d_X4_look_127 hlocks (hP.sub [0] rfl) hK (hD.sub [0] (by decide) rfl) hS rfl
set_option maxHeartbeats 4000000 in
set_option maxRecDepth 100000 in
theorem c_look_32 (l : Launch) (D : va_G) (cy : Nat → ClassId) (sz : Nat) (r : Nat → Nat) : Met l y_X4_look (Cond.code y_X4_look b_X4_look 7 (some .int) :: GW) ({ frames := 0, cells := 0, slots := 0, locals := 0 }) (va_Pc [.ref (r 10), .int 32] (kPre D cy sz [((r 10), .inr (4, (oIma r)))])) ((fun A : Nat → Prop => va_Qi (S := Unit) (fun (r : Int32) (_ : Unit) => r = 0) (fun _ => kPost D cy A [((r 10), .inr (4, (oIma r)))]) A) (va_A [((r 10), .inr (4, (oIma r)))] sz)) 0 0 (va_A [((r 10), .inr (4, (oIma r)))] sz) := by
  refine k_ofW (Qc := fun A => va_Qi (S := Unit) (fun (r : Int32) (_ : Unit) => r = 0) (fun _ => kPost D cy A [((r 10), .inr (4, (oIma r)))]) A) (by decide) (Nat.le_of_ble_eq_true rfl) ?_
  intro p e s m below meth c A ls hx hb hr hml hown hlocks hin hg hNW hK hP hD hA hS hl
  have hl : lv_has ls 7 [(0, .ref (r 10)), (1, .int 32)] := hl
  have hown : s.vm.findClass "LinkedUnits$Image" = some m.cls := hown
  refine lv_iconst (v := 1) hx hb d_X4_look_0 (by decide) ?_
  refine lv_istore_n (lv' := [(2, .int 1), (0, .ref (r 10)), (1, .int 32)]) hx hb d_X4_look_1 rfl hl (by decide) rfl (fun ls hl => ?_)
  refine lv_iload_n hx hb d_X4_look_2 rfl (lv_at hl 0 rfl) ?_
  refine lv_aload_n hx hb d_X4_look_3 rfl (lv_at hl 1 rfl) ?_
  refine va_get (D := D) (ci := 4) (v := .int 1) (C := "LinkedUnits$Image") (T := TX4) (N := 12) hx hb hg iwX4 hown hK hP 0 rfl rfl 5 (by decide) (hg _ m_605) (fun _ h9 => h9) rfl d_X4_look_4 ?_
  refine lv_icmp_ge (tgt := 126) hx hb d_X4_look_7 (by decide) (fun _ => ?_) (fun c_7 => False.elim (by revert c_7; decide))
  refine lv_iconst (v := 0) hx hb d_X4_look_126 (by decide) ?_
  refine W.widen (k := 0) (n := 0) (Nat.le_of_ble_eq_true rfl) (Nat.le_of_ble_eq_true rfl) ?_
  exact k_iret (X := Unit) (w1 := fun _ => [((r 10), .inr (4, (oIma r)))]) () hx hb hr d_X4_look_127 hlocks (hP.sub [0] rfl) hK (hD.sub [0] (by decide) rfl) hS rfl
set_option maxHeartbeats 4000000 in
set_option maxRecDepth 100000 in
theorem c_look_33 (l : Launch) (D : va_G) (cy : Nat → ClassId) (sz : Nat) (r : Nat → Nat) : Met l y_X4_look (Cond.code y_X4_look b_X4_look 7 (some .int) :: GW) ({ frames := 0, cells := 0, slots := 0, locals := 0 }) (va_Pc [.ref (r 10), .int 33] (kPre D cy sz [((r 10), .inr (4, (oIma r)))])) ((fun A : Nat → Prop => va_Qi (S := Unit) (fun (r : Int32) (_ : Unit) => r = 0) (fun _ => kPost D cy A [((r 10), .inr (4, (oIma r)))]) A) (va_A [((r 10), .inr (4, (oIma r)))] sz)) 0 0 (va_A [((r 10), .inr (4, (oIma r)))] sz) := by
  refine k_ofW (Qc := fun A => va_Qi (S := Unit) (fun (r : Int32) (_ : Unit) => r = 0) (fun _ => kPost D cy A [((r 10), .inr (4, (oIma r)))]) A) (by decide) (Nat.le_of_ble_eq_true rfl) ?_
  intro p e s m below meth c A ls hx hb hr hml hown hlocks hin hg hNW hK hP hD hA hS hl
  have hl : lv_has ls 7 [(0, .ref (r 10)), (1, .int 33)] := hl
  have hown : s.vm.findClass "LinkedUnits$Image" = some m.cls := hown
  refine lv_iconst (v := 1) hx hb d_X4_look_0 (by decide) ?_
  refine lv_istore_n (lv' := [(2, .int 1), (0, .ref (r 10)), (1, .int 33)]) hx hb d_X4_look_1 rfl hl (by decide) rfl (fun ls hl => ?_)
  refine lv_iload_n hx hb d_X4_look_2 rfl (lv_at hl 0 rfl) ?_
  refine lv_aload_n hx hb d_X4_look_3 rfl (lv_at hl 1 rfl) ?_
  refine va_get (D := D) (ci := 4) (v := .int 1) (C := "LinkedUnits$Image") (T := TX4) (N := 12) hx hb hg iwX4 hown hK hP 0 rfl rfl 5 (by decide) (hg _ m_605) (fun _ h9 => h9) rfl d_X4_look_4 ?_
  refine lv_icmp_ge (tgt := 126) hx hb d_X4_look_7 (by decide) (fun _ => ?_) (fun c_7 => False.elim (by revert c_7; decide))
  refine lv_iconst (v := 0) hx hb d_X4_look_126 (by decide) ?_
  refine W.widen (k := 0) (n := 0) (Nat.le_of_ble_eq_true rfl) (Nat.le_of_ble_eq_true rfl) ?_
  exact k_iret (X := Unit) (w1 := fun _ => [((r 10), .inr (4, (oIma r)))]) () hx hb hr d_X4_look_127 hlocks (hP.sub [0] rfl) hK (hD.sub [0] (by decide) rfl) hS rfl
set_option maxHeartbeats 4000000 in
set_option maxRecDepth 100000 in
theorem c_isMain (l : Launch) (D : va_G) (cy : Nat → ClassId) (sz : Nat) (r : Nat → Nat) : Met l y_X4_isMain (Cond.code y_X4_isMain b_X4_isMain 2 (some .boolean) :: GW) ({ frames := 0, cells := 0, slots := 0, locals := 0 }) (va_Pc [.ref (r 10), .int (-1)] (kPre D cy sz [((r 10), .inr (4, (oIma r)))])) ((fun A : Nat → Prop => va_Qi (S := Unit) (fun (r : Int32) (_ : Unit) => r = 0) (fun _ => kPost D cy A [((r 10), .inr (4, (oIma r)))]) A) (va_A [((r 10), .inr (4, (oIma r)))] sz)) 0 0 (va_A [((r 10), .inr (4, (oIma r)))] sz) := by
  refine k_ofW (Qc := fun A => va_Qi (S := Unit) (fun (r : Int32) (_ : Unit) => r = 0) (fun _ => kPost D cy A [((r 10), .inr (4, (oIma r)))]) A) (by decide) (Nat.le_of_ble_eq_true rfl) ?_
  intro p e s m below meth c A ls hx hb hr hml hown hlocks hin hg hNW hK hP hD hA hS hl
  have hl : lv_has ls 2 [(0, .ref (r 10)), (1, .int (-1))] := hl
  have hown : s.vm.findClass "LinkedUnits$Image" = some m.cls := hown
  refine lv_iload_n hx hb d_X4_isMain_0 rfl (lv_at hl 1 rfl) ?_
  refine lv_if_lt (tgt := 48) hx hb d_X4_isMain_1 (by decide) (fun _ => ?_) (fun c_1 => False.elim (by revert c_1; decide))
  refine lv_iconst (v := 0) hx hb d_X4_isMain_48 (by decide) ?_
  refine W.widen (k := 0) (n := 0) (Nat.le_of_ble_eq_true rfl) (Nat.le_of_ble_eq_true rfl) ?_
  exact k_zret (X := Unit) (w1 := fun _ => [((r 10), .inr (4, (oIma r)))]) () hx hb hr rfl d_X4_isMain_49 hlocks (hP.sub [0] rfl) hK (hD.sub [0] (by decide) rfl) hS rfl
set_option maxHeartbeats 4000000 in
set_option maxRecDepth 100000 in
theorem c_join (l : Launch) (D : va_G) (cy : Nat → ClassId) (sz : Nat) (r : Nat → Nat) : Met l y_X4_join (Cond.code y_X4_join b_X4_join 4 (some .int) :: GW) ({ frames := 3, cells := 0, slots := 0, locals := 75 }) (va_Pc [.ref (r 10)] (kPre D cy sz [((r 10), .inr (4, (oIma r))), ((r 56), .inl (cy 1, 101, .inl (fun _ => 0))), ((r 55), .inl (cy 0, 4, .inl sMa)), ((r 5), .inr (8, (oSto r))), ((r 25), .inl (cy 1, 10100, .inl sFl)), ((r 29), .inl (cy 1, 10100, .inl sNe)), ((r 30), .inl (cy 0, 65600, .inl sNm)), ((r 34), .inl (cy 1, 101, .inl sDe))])) ((fun A : Nat → Prop => va_Qi (S := Unit) (fun (r : Int32) (_ : Unit) => r = (-34)) (fun _ => kPost D cy A []) A) (va_A [((r 10), .inr (4, (oIma r))), ((r 56), .inl (cy 1, 101, .inl (fun _ => 0))), ((r 55), .inl (cy 0, 4, .inl sMa)), ((r 5), .inr (8, (oSto r))), ((r 25), .inl (cy 1, 10100, .inl sFl)), ((r 29), .inl (cy 1, 10100, .inl sNe)), ((r 30), .inl (cy 0, 65600, .inl sNm)), ((r 34), .inl (cy 1, 101, .inl sDe))] sz)) 0 0 (va_A [((r 10), .inr (4, (oIma r))), ((r 56), .inl (cy 1, 101, .inl (fun _ => 0))), ((r 55), .inl (cy 0, 4, .inl sMa)), ((r 5), .inr (8, (oSto r))), ((r 25), .inl (cy 1, 10100, .inl sFl)), ((r 29), .inl (cy 1, 10100, .inl sNe)), ((r 30), .inl (cy 0, 65600, .inl sNm)), ((r 34), .inl (cy 1, 101, .inl sDe))] sz) := by
  refine k_ofW (Qc := fun A => va_Qi (S := Unit) (fun (r : Int32) (_ : Unit) => r = (-34)) (fun _ => kPost D cy A []) A) (by decide) (Nat.le_of_ble_eq_true rfl) ?_
  intro p e s m below meth c A ls hx hb hr hml hown hlocks hin hg hNW hK hP hD hA hS hl
  have hl : lv_has ls 4 [(0, .ref (r 10))] := hl
  have hown : s.vm.findClass "LinkedUnits$Image" = some m.cls := hown
  refine lv_aload_n hx hb d_X4_join_0 rfl (lv_at hl 0 rfl) ?_
  refine lv_iconst (v := (-1)) hx hb d_X4_join_1 (by decide) ?_
  refine va_put (D := D) (ci := 4) (v := .int (-1)) (ty := .int) (C := "LinkedUnits$Image") (T := TX4) (N := 12) hx hb hg iwX4 tyX4 tyX4_ok nmX4 hown hK hP hD hS 0 rfl rfl 3 (by decide) (hg _ m_601) (fun _ h9 => h9) rfl (by decide +kernel) rfl rfl (Nat.le_of_ble_eq_true rfl) d_X4_join_2 (fun H locs hP hD hS => ?_)
  have hP : va_P D vwCl [((r 10), .inr (4, ((oIma r).set 3 (.int (-1))))), ((r 56), .inl (cy 1, 101, .inl (fun _ => 0))), ((r 55), .inl (cy 0, 4, .inl sMa)), ((r 5), .inr (8, (oSto r))), ((r 25), .inl (cy 1, 10100, .inl sFl)), ((r 29), .inl (cy 1, 10100, .inl sNe)), ((r 30), .inl (cy 0, 65600, .inl sNm)), ((r 34), .inl (cy 1, 101, .inl sDe))] H := hP
  have hD : va_D A [((r 10), .inr (4, ((oIma r).set 3 (.int (-1))))), ((r 56), .inl (cy 1, 101, .inl (fun _ => 0))), ((r 55), .inl (cy 0, 4, .inl sMa)), ((r 5), .inr (8, (oSto r))), ((r 25), .inl (cy 1, 10100, .inl sFl)), ((r 29), .inl (cy 1, 10100, .inl sNe)), ((r 30), .inl (cy 0, 65600, .inl sNm)), ((r 34), .inl (cy 1, 101, .inl sDe))] := hD
  refine lv_aload_n hx hb d_X4_join_5 rfl (lv_at hl 0 rfl) ?_
  refine lv_iconst (v := (-1)) hx hb d_X4_join_6 (by decide) ?_
  refine va_put (D := D) (ci := 4) (v := .int (-1)) (ty := .int) (C := "LinkedUnits$Image") (T := TX4) (N := 12) hx hb hg iwX4 tyX4 tyX4_ok nmX4 hown hK hP hD hS 0 rfl rfl 4 (by decide) (hg _ m_603) (fun _ h9 => h9) rfl (by decide +kernel) rfl rfl (Nat.le_of_ble_eq_true rfl) d_X4_join_7 (fun H locs hP hD hS => ?_)
  have hP : va_P D vwCl [((r 10), .inr (4, (((oIma r).set 3 (.int (-1))).set 4 (.int (-1))))), ((r 56), .inl (cy 1, 101, .inl (fun _ => 0))), ((r 55), .inl (cy 0, 4, .inl sMa)), ((r 5), .inr (8, (oSto r))), ((r 25), .inl (cy 1, 10100, .inl sFl)), ((r 29), .inl (cy 1, 10100, .inl sNe)), ((r 30), .inl (cy 0, 65600, .inl sNm)), ((r 34), .inl (cy 1, 101, .inl sDe))] H := hP
  have hD : va_D A [((r 10), .inr (4, (((oIma r).set 3 (.int (-1))).set 4 (.int (-1))))), ((r 56), .inl (cy 1, 101, .inl (fun _ => 0))), ((r 55), .inl (cy 0, 4, .inl sMa)), ((r 5), .inr (8, (oSto r))), ((r 25), .inl (cy 1, 10100, .inl sFl)), ((r 29), .inl (cy 1, 10100, .inl sNe)), ((r 30), .inl (cy 0, 65600, .inl sNm)), ((r 34), .inl (cy 1, 101, .inl sDe))] := hD
  refine lv_aload_n hx hb d_X4_join_10 rfl (lv_at hl 0 rfl) ?_
  refine lv_aload_n hx hb d_X4_join_11 rfl (lv_at hl 0 rfl) ?_
  refine va_get (D := D) (ci := 4) (v := .ref (r 56)) (C := "LinkedUnits$Image") (T := TX4) (N := 12) hx hb hg iwX4 hown hK hP 0 rfl rfl 6 (by decide) (hg _ m_606) (fun _ h9 => h9) rfl d_X4_join_12 ?_
  refine lv_aload_n hx hb d_X4_join_15 rfl (lv_at hl 0 rfl) ?_
  refine va_get (D := D) (ci := 4) (v := .int 1) (C := "LinkedUnits$Image") (T := TX4) (N := 12) hx hb hg iwX4 hown hK hP 0 rfl rfl 5 (by decide) (hg _ m_605) (fun _ h9 => h9) rfl d_X4_join_16 ?_
  refine lv_aload_n hx hb d_X4_join_19 rfl (lv_at hl 0 rfl) ?_
  refine va_get (D := D) (ci := 4) (v := .ref (r 55)) (C := "LinkedUnits$Image") (T := TX4) (N := 12) hx hb hg iwX4 hown hK hP 0 rfl rfl 1 (by decide) (hg _ m_598) (fun _ h9 => h9) rfl d_X4_join_20 ?_
  refine lv_iconst (v := 0) hx hb d_X4_join_23 (by decide) ?_
  refine lv_iconst (v := 4) hx hb d_X4_join_24 (by decide) ?_
  refine k_calli (wc := [((r 10), .inr (4, (oIma r))), ((r 56), .inl (cy 1, 101, .inl (fun _ => 0))), ((r 55), .inl (cy 0, 4, .inl sMa)), ((r 5), .inr (8, (oSto r))), ((r 25), .inl (cy 1, 10100, .inl sFl)), ((r 29), .inl (cy 1, 10100, .inl sNe)), ((r 30), .inl (cy 0, 65600, .inl sNm)), ((r 34), .inl (cy 1, 101, .inl sDe))]) (wr := []) (va_runV (As := [.ref (r 56), .int 1, .ref (r 55), .int 0, .int 4]) (rest := []) ⟨hx, hb, hml, hown, hg⟩ (c_find l D cy H.size r ) (cwV 5 hg (gw_V m_1562 m_1564 ms_X4_find m_15 m_1565) rfl rfl rfl (by decide +kernel) ⟨(Nat.le_of_ble_eq_true rfl), (Nat.le_of_ble_eq_true rfl)⟩) (k_preV (As := [.ref (r 56), .int 1, .ref (r 55), .int 0, .int 4]) hP hD hK hNW [0, 1, 2, 3, 4, 5, 6, 7] (by decide) rfl 0 rfl rfl) rfl rfl hl.1 rfl (lv_room (Nat.le_of_ble_eq_true rfl)) d_X4_join_25 ⟨(Nat.le_of_ble_eq_true rfl), (Nat.le_of_ble_eq_true rfl)⟩) hP hD hS hA [0, 1, 2, 3, 4, 5, 6, 7] [] rfl rfl (by decide) (by decide) (fun r1 u1 H locs hw hP hD hS => ?_)
  have hP : va_P D vwCl [((r 10), .inr (4, (oIma r))), ((r 56), .inl (cy 1, 101, .inl (fun _ => 0))), ((r 25), .inl (cy 1, 10100, .inl sFl)), ((r 5), .inr (8, (oSto r))), ((r 30), .inl (cy 0, 65600, .inl sNm)), ((r 55), .inl (cy 0, 4, .inl sMa)), ((r 29), .inl (cy 1, 10100, .inl sNe)), ((r 34), .inl (cy 1, 101, .inl sDe))] H := hP
  have hD : va_D A [((r 10), .inr (4, (oIma r))), ((r 56), .inl (cy 1, 101, .inl (fun _ => 0))), ((r 25), .inl (cy 1, 10100, .inl sFl)), ((r 5), .inr (8, (oSto r))), ((r 30), .inl (cy 0, 65600, .inl sNm)), ((r 55), .inl (cy 0, 4, .inl sMa)), ((r 29), .inl (cy 1, 10100, .inl sNe)), ((r 34), .inl (cy 1, 101, .inl sDe))] := hD
  obtain rfl : r1 = (-1) := hw
  refine lv_istore_n (lv' := [(1, .int (-1)), (0, .ref (r 10))]) hx hb d_X4_join_28 rfl hl (by decide) rfl (fun ls hl => ?_)
  refine lv_iconst (v := 0) hx hb d_X4_join_29 (by decide) ?_
  refine lv_istore_n (lv' := [(2, .int 0), (1, .int (-1)), (0, .ref (r 10))]) hx hb d_X4_join_30 rfl hl (by decide) rfl (fun ls hl => ?_)
  refine lv_bipush (v := 31) hx hb d_X4_join_31 (by decide) ?_
  refine lv_istore_n (lv' := [(3, .int 31), (2, .int 0), (1, .int (-1)), (0, .ref (r 10))]) hx hb d_X4_join_33 rfl hl (by decide) rfl (fun ls hl => ?_)
  refine lv_iload_n hx hb d_X4_join_34 rfl (lv_at hl 0 rfl) ?_
  refine lv_bipush (v := 33) hx hb d_X4_join_35 (by decide) ?_
  refine lv_icmp_gt (tgt := 56) hx hb d_X4_join_37 (by decide) (fun c_37 => absurd c_37 (by decide)) (fun _ => ?_)
  refine lv_iload_n hx hb d_X4_join_40 rfl (lv_at hl 1 rfl) ?_
  refine lv_if_ne (tgt := 56) hx hb d_X4_join_41 (by decide) (fun c_41 => absurd c_41 (by decide)) (fun _ => ?_)
  refine lv_aload_n hx hb d_X4_join_44 rfl (lv_at hl 3 rfl) ?_
  refine lv_iload_n hx hb d_X4_join_45 rfl (lv_at hl 0 rfl) ?_
  refine k_calli (wc := [((r 10), .inr (4, (oIma r)))]) (wr := [((r 56), .inl (cy 1, 101, .inl (fun _ => 0))), ((r 25), .inl (cy 1, 10100, .inl sFl)), ((r 5), .inr (8, (oSto r))), ((r 30), .inl (cy 0, 65600, .inl sNm)), ((r 55), .inl (cy 0, 4, .inl sMa)), ((r 29), .inl (cy 1, 10100, .inl sNe)), ((r 34), .inl (cy 1, 101, .inl sDe))]) (va_runV (As := [.int 31]) (rest := []) ⟨hx, hb, hml, hown, hg⟩ (c_look_31 l D cy H.size r ) (cwV 1 hg (gw_V m_1572 m_1574 ms_X4_look m_15 m_1575) rfl rfl rfl (by decide +kernel) ⟨(Nat.le_of_ble_eq_true rfl), (Nat.le_of_ble_eq_true rfl)⟩) (k_preV (As := [.int 31]) hP hD hK hNW [0] (by decide) rfl 0 rfl rfl) rfl rfl hl.1 rfl (lv_room (Nat.le_of_ble_eq_true rfl)) d_X4_join_46 ⟨(Nat.le_of_ble_eq_true rfl), (Nat.le_of_ble_eq_true rfl)⟩) hP hD hS hA [0] [1, 2, 3, 4, 5, 6, 7] rfl rfl (by decide) (by decide) (fun r2 u2 H locs hw hP hD hS => ?_)
  have hP : va_P D vwCl [((r 56), .inl (cy 1, 101, .inl (fun _ => 0))), ((r 25), .inl (cy 1, 10100, .inl sFl)), ((r 5), .inr (8, (oSto r))), ((r 30), .inl (cy 0, 65600, .inl sNm)), ((r 55), .inl (cy 0, 4, .inl sMa)), ((r 29), .inl (cy 1, 10100, .inl sNe)), ((r 34), .inl (cy 1, 101, .inl sDe)), ((r 10), .inr (4, (oIma r)))] H := hP
  have hD : va_D A [((r 56), .inl (cy 1, 101, .inl (fun _ => 0))), ((r 25), .inl (cy 1, 10100, .inl sFl)), ((r 5), .inr (8, (oSto r))), ((r 30), .inl (cy 0, 65600, .inl sNm)), ((r 55), .inl (cy 0, 4, .inl sMa)), ((r 29), .inl (cy 1, 10100, .inl sNe)), ((r 34), .inl (cy 1, 101, .inl sDe)), ((r 10), .inr (4, (oIma r)))] := hD
  obtain rfl : r2 = 0 := hw
  refine lv_istore_n (lv' := [(2, .int 0), (3, .int 31), (1, .int (-1)), (0, .ref (r 10))]) hx hb d_X4_join_49 rfl hl (by decide) rfl (fun ls hl => ?_)
  refine lv_iinc (v := 32) (lv' := [(3, .int 32), (2, .int 0), (1, .int (-1)), (0, .ref (r 10))]) hx hb d_X4_join_50 hl (k := 1) rfl (by decide) (by decide) rfl (fun ls hl => ?_)
  refine lv_goto (tgt := 34) hx hb d_X4_join_53 (by decide) ?_
  refine lv_iload_n hx hb d_X4_join_34 rfl (lv_at hl 0 rfl) ?_
  refine lv_bipush (v := 33) hx hb d_X4_join_35 (by decide) ?_
  refine lv_icmp_gt (tgt := 56) hx hb d_X4_join_37 (by decide) (fun c_37 => absurd c_37 (by decide)) (fun _ => ?_)
  refine lv_iload_n hx hb d_X4_join_40 rfl (lv_at hl 1 rfl) ?_
  refine lv_if_ne (tgt := 56) hx hb d_X4_join_41 (by decide) (fun c_41 => absurd c_41 (by decide)) (fun _ => ?_)
  refine lv_aload_n hx hb d_X4_join_44 rfl (lv_at hl 3 rfl) ?_
  refine lv_iload_n hx hb d_X4_join_45 rfl (lv_at hl 0 rfl) ?_
  refine k_calli (wc := [((r 10), .inr (4, (oIma r)))]) (wr := [((r 56), .inl (cy 1, 101, .inl (fun _ => 0))), ((r 25), .inl (cy 1, 10100, .inl sFl)), ((r 5), .inr (8, (oSto r))), ((r 30), .inl (cy 0, 65600, .inl sNm)), ((r 55), .inl (cy 0, 4, .inl sMa)), ((r 29), .inl (cy 1, 10100, .inl sNe)), ((r 34), .inl (cy 1, 101, .inl sDe))]) (va_runV (As := [.int 32]) (rest := []) ⟨hx, hb, hml, hown, hg⟩ (c_look_32 l D cy H.size r ) (cwV 1 hg (gw_V m_1572 m_1574 ms_X4_look m_15 m_1575) rfl rfl rfl (by decide +kernel) ⟨(Nat.le_of_ble_eq_true rfl), (Nat.le_of_ble_eq_true rfl)⟩) (k_preV (As := [.int 32]) hP hD hK hNW [7] (by decide) rfl 7 rfl rfl) rfl rfl hl.1 rfl (lv_room (Nat.le_of_ble_eq_true rfl)) d_X4_join_46 ⟨(Nat.le_of_ble_eq_true rfl), (Nat.le_of_ble_eq_true rfl)⟩) hP hD hS hA [7] [0, 1, 2, 3, 4, 5, 6] rfl rfl (by decide) (by decide) (fun r3 u3 H locs hw hP hD hS => ?_)
  have hP : va_P D vwCl [((r 56), .inl (cy 1, 101, .inl (fun _ => 0))), ((r 25), .inl (cy 1, 10100, .inl sFl)), ((r 5), .inr (8, (oSto r))), ((r 30), .inl (cy 0, 65600, .inl sNm)), ((r 55), .inl (cy 0, 4, .inl sMa)), ((r 29), .inl (cy 1, 10100, .inl sNe)), ((r 34), .inl (cy 1, 101, .inl sDe)), ((r 10), .inr (4, (oIma r)))] H := hP
  have hD : va_D A [((r 56), .inl (cy 1, 101, .inl (fun _ => 0))), ((r 25), .inl (cy 1, 10100, .inl sFl)), ((r 5), .inr (8, (oSto r))), ((r 30), .inl (cy 0, 65600, .inl sNm)), ((r 55), .inl (cy 0, 4, .inl sMa)), ((r 29), .inl (cy 1, 10100, .inl sNe)), ((r 34), .inl (cy 1, 101, .inl sDe)), ((r 10), .inr (4, (oIma r)))] := hD
  obtain rfl : r3 = 0 := hw
  refine lv_istore_n (lv' := [(2, .int 0), (3, .int 32), (1, .int (-1)), (0, .ref (r 10))]) hx hb d_X4_join_49 rfl hl (by decide) rfl (fun ls hl => ?_)
  refine lv_iinc (v := 33) (lv' := [(3, .int 33), (2, .int 0), (1, .int (-1)), (0, .ref (r 10))]) hx hb d_X4_join_50 hl (k := 1) rfl (by decide) (by decide) rfl (fun ls hl => ?_)
  refine lv_goto (tgt := 34) hx hb d_X4_join_53 (by decide) ?_
  refine lv_iload_n hx hb d_X4_join_34 rfl (lv_at hl 0 rfl) ?_
  refine lv_bipush (v := 33) hx hb d_X4_join_35 (by decide) ?_
  refine lv_icmp_gt (tgt := 56) hx hb d_X4_join_37 (by decide) (fun c_37 => absurd c_37 (by decide)) (fun _ => ?_)
  refine lv_iload_n hx hb d_X4_join_40 rfl (lv_at hl 1 rfl) ?_
  refine lv_if_ne (tgt := 56) hx hb d_X4_join_41 (by decide) (fun c_41 => absurd c_41 (by decide)) (fun _ => ?_)
  refine lv_aload_n hx hb d_X4_join_44 rfl (lv_at hl 3 rfl) ?_
  refine lv_iload_n hx hb d_X4_join_45 rfl (lv_at hl 0 rfl) ?_
  refine k_calli (wc := [((r 10), .inr (4, (oIma r)))]) (wr := [((r 56), .inl (cy 1, 101, .inl (fun _ => 0))), ((r 25), .inl (cy 1, 10100, .inl sFl)), ((r 5), .inr (8, (oSto r))), ((r 30), .inl (cy 0, 65600, .inl sNm)), ((r 55), .inl (cy 0, 4, .inl sMa)), ((r 29), .inl (cy 1, 10100, .inl sNe)), ((r 34), .inl (cy 1, 101, .inl sDe))]) (va_runV (As := [.int 33]) (rest := []) ⟨hx, hb, hml, hown, hg⟩ (c_look_33 l D cy H.size r ) (cwV 1 hg (gw_V m_1572 m_1574 ms_X4_look m_15 m_1575) rfl rfl rfl (by decide +kernel) ⟨(Nat.le_of_ble_eq_true rfl), (Nat.le_of_ble_eq_true rfl)⟩) (k_preV (As := [.int 33]) hP hD hK hNW [7] (by decide) rfl 7 rfl rfl) rfl rfl hl.1 rfl (lv_room (Nat.le_of_ble_eq_true rfl)) d_X4_join_46 ⟨(Nat.le_of_ble_eq_true rfl), (Nat.le_of_ble_eq_true rfl)⟩) hP hD hS hA [7] [0, 1, 2, 3, 4, 5, 6] rfl rfl (by decide) (by decide) (fun r4 u4 H locs hw hP hD hS => ?_)
  have hP : va_P D vwCl [((r 56), .inl (cy 1, 101, .inl (fun _ => 0))), ((r 25), .inl (cy 1, 10100, .inl sFl)), ((r 5), .inr (8, (oSto r))), ((r 30), .inl (cy 0, 65600, .inl sNm)), ((r 55), .inl (cy 0, 4, .inl sMa)), ((r 29), .inl (cy 1, 10100, .inl sNe)), ((r 34), .inl (cy 1, 101, .inl sDe)), ((r 10), .inr (4, (oIma r)))] H := hP
  have hD : va_D A [((r 56), .inl (cy 1, 101, .inl (fun _ => 0))), ((r 25), .inl (cy 1, 10100, .inl sFl)), ((r 5), .inr (8, (oSto r))), ((r 30), .inl (cy 0, 65600, .inl sNm)), ((r 55), .inl (cy 0, 4, .inl sMa)), ((r 29), .inl (cy 1, 10100, .inl sNe)), ((r 34), .inl (cy 1, 101, .inl sDe)), ((r 10), .inr (4, (oIma r)))] := hD
  obtain rfl : r4 = 0 := hw
  refine lv_istore_n (lv' := [(2, .int 0), (3, .int 33), (1, .int (-1)), (0, .ref (r 10))]) hx hb d_X4_join_49 rfl hl (by decide) rfl (fun ls hl => ?_)
  refine lv_iinc (v := 34) (lv' := [(3, .int 34), (2, .int 0), (1, .int (-1)), (0, .ref (r 10))]) hx hb d_X4_join_50 hl (k := 1) rfl (by decide) (by decide) rfl (fun ls hl => ?_)
  refine lv_goto (tgt := 34) hx hb d_X4_join_53 (by decide) ?_
  refine lv_iload_n hx hb d_X4_join_34 rfl (lv_at hl 0 rfl) ?_
  refine lv_bipush (v := 33) hx hb d_X4_join_35 (by decide) ?_
  refine lv_icmp_gt (tgt := 56) hx hb d_X4_join_37 (by decide) (fun _ => ?_) (fun c_37 => False.elim (by revert c_37; decide))
  refine lv_iload_n hx hb d_X4_join_56 rfl (lv_at hl 1 rfl) ?_
  refine lv_if_ne (tgt := 71) hx hb d_X4_join_57 (by decide) (fun c_57 => absurd c_57 (by decide)) (fun _ => ?_)
  refine lv_aload_n hx hb d_X4_join_60 rfl (lv_at hl 3 rfl) ?_
  refine lv_iload_n hx hb d_X4_join_61 rfl (lv_at hl 2 rfl) ?_
  refine k_calli (wc := [((r 10), .inr (4, (oIma r)))]) (wr := [((r 56), .inl (cy 1, 101, .inl (fun _ => 0))), ((r 25), .inl (cy 1, 10100, .inl sFl)), ((r 5), .inr (8, (oSto r))), ((r 30), .inl (cy 0, 65600, .inl sNm)), ((r 55), .inl (cy 0, 4, .inl sMa)), ((r 29), .inl (cy 1, 10100, .inl sNe)), ((r 34), .inl (cy 1, 101, .inl sDe))]) (va_runV (As := [.int (-1)]) (rest := []) ⟨hx, hb, hml, hown, hg⟩ (c_isMain l D cy H.size r ) (cwV 1 hg (gw_V m_1589 m_1591 ms_X4_isMain m_15 m_1592) rfl rfl rfl (by decide +kernel) ⟨(Nat.le_of_ble_eq_true rfl), (Nat.le_of_ble_eq_true rfl)⟩) (k_preV (As := [.int (-1)]) hP hD hK hNW [7] (by decide) rfl 7 rfl rfl) rfl rfl hl.1 rfl (lv_room (Nat.le_of_ble_eq_true rfl)) d_X4_join_62 ⟨(Nat.le_of_ble_eq_true rfl), (Nat.le_of_ble_eq_true rfl)⟩) hP hD hS hA [7] [0, 1, 2, 3, 4, 5, 6] rfl rfl (by decide) (by decide) (fun r5 u5 H locs hw hP hD hS => ?_)
  have hP : va_P D vwCl [((r 56), .inl (cy 1, 101, .inl (fun _ => 0))), ((r 25), .inl (cy 1, 10100, .inl sFl)), ((r 5), .inr (8, (oSto r))), ((r 30), .inl (cy 0, 65600, .inl sNm)), ((r 55), .inl (cy 0, 4, .inl sMa)), ((r 29), .inl (cy 1, 10100, .inl sNe)), ((r 34), .inl (cy 1, 101, .inl sDe)), ((r 10), .inr (4, (oIma r)))] H := hP
  have hD : va_D A [((r 56), .inl (cy 1, 101, .inl (fun _ => 0))), ((r 25), .inl (cy 1, 10100, .inl sFl)), ((r 5), .inr (8, (oSto r))), ((r 30), .inl (cy 0, 65600, .inl sNm)), ((r 55), .inl (cy 0, 4, .inl sMa)), ((r 29), .inl (cy 1, 10100, .inl sNe)), ((r 34), .inl (cy 1, 101, .inl sDe)), ((r 10), .inr (4, (oIma r)))] := hD
  obtain rfl : r5 = 0 := hw
  refine lv_if_ne (tgt := 71) hx hb d_X4_join_65 (by decide) (fun c_65 => absurd c_65 (by decide)) (fun _ => ?_)
  refine lv_bipush (v := 34) hx hb d_X4_join_68 (by decide) ?_
  refine lv_istore_n (lv' := [(2, .int 34), (3, .int 34), (1, .int (-1)), (0, .ref (r 10))]) hx hb d_X4_join_70 rfl hl (by decide) rfl (fun ls hl => ?_)
  refine lv_iload_n hx hb d_X4_join_71 rfl (lv_at hl 0 rfl) ?_
  refine lv_if_ne (tgt := 88) hx hb d_X4_join_72 (by decide) (fun _ => ?_) (fun c_72 => False.elim (by revert c_72; decide))
  refine lv_iload_n hx hb d_X4_join_88 rfl (lv_at hl 0 rfl) ?_
  refine lv_if_ne (tgt := 113) hx hb d_X4_join_89 (by decide) (fun _ => ?_) (fun c_89 => False.elim (by revert c_89; decide))
  refine lv_aload_n hx hb d_X4_join_113 rfl (lv_at hl 3 rfl) ?_
  refine lv_iconst (v := 1) hx hb d_X4_join_114 (by decide) ?_
  refine va_put (D := D) (ci := 4) (v := .int 1) (ty := .int) (C := "LinkedUnits$Image") (T := TX4) (N := 12) hx hb hg iwX4 tyX4 tyX4_ok nmX4 hown hK hP hD hS 7 rfl rfl 5 (by decide) (hg _ m_605) (fun _ h9 => h9) rfl (by decide +kernel) rfl rfl (Nat.le_of_ble_eq_true rfl) d_X4_join_115 (fun H locs hP hD hS => ?_)
  have hP : va_P D vwCl [((r 56), .inl (cy 1, 101, .inl (fun _ => 0))), ((r 25), .inl (cy 1, 10100, .inl sFl)), ((r 5), .inr (8, (oSto r))), ((r 30), .inl (cy 0, 65600, .inl sNm)), ((r 55), .inl (cy 0, 4, .inl sMa)), ((r 29), .inl (cy 1, 10100, .inl sNe)), ((r 34), .inl (cy 1, 101, .inl sDe)), ((r 10), .inr (4, ((oIma r).set 5 (.int 1))))] H := hP
  have hD : va_D A [((r 56), .inl (cy 1, 101, .inl (fun _ => 0))), ((r 25), .inl (cy 1, 10100, .inl sFl)), ((r 5), .inr (8, (oSto r))), ((r 30), .inl (cy 0, 65600, .inl sNm)), ((r 55), .inl (cy 0, 4, .inl sMa)), ((r 29), .inl (cy 1, 10100, .inl sNe)), ((r 34), .inl (cy 1, 101, .inl sDe)), ((r 10), .inr (4, ((oIma r).set 5 (.int 1))))] := hD
  refine lv_iload_n hx hb d_X4_join_118 rfl (lv_at hl 0 rfl) ?_
  refine lv_ineg hx hb d_X4_join_119 ?_
  refine k_topi (-34) (by decide) ?_
  refine W.widen (k := 0) (n := 0) (Nat.le_of_ble_eq_true rfl) (Nat.le_of_ble_eq_true rfl) ?_
  exact k_iret (X := Unit) (w1 := fun _ => []) () hx hb hr d_X4_join_120 hlocks (hP.sub [] rfl) hK (hD.sub [] (by decide) rfl) hS rfl
set_option maxHeartbeats 4000000 in
set_option maxRecDepth 100000 in
/-- cellOf: no image -/
theorem c_choose0 (l : Launch) (D : va_G) (cy : Nat → ClassId) (sz : Nat) (r : Nat → Nat) : Met l y_X4_cellOf (Cond.code y_X4_cellOf b_X4_cellOf 4 (some .int) :: GW) ({ frames := 0, cells := 0, slots := 0, locals := 0 }) (va_Pc [.ref (r 10), .ref (r 1), .int 0] (kPre D cy sz [((r 10), .inr (4, (oIma r)))])) ((fun A : Nat → Prop => va_Qi (S := Unit) (fun (r : Int32) (_ : Unit) => r = (-1)) (fun _ => kPost D cy A [((r 10), .inr (4, (oIma r)))]) A) (va_A [((r 10), .inr (4, (oIma r)))] sz)) 0 0 (va_A [((r 10), .inr (4, (oIma r)))] sz) := by
  refine k_ofW (Qc := fun A => va_Qi (S := Unit) (fun (r : Int32) (_ : Unit) => r = (-1)) (fun _ => kPost D cy A [((r 10), .inr (4, (oIma r)))]) A) (by decide) (Nat.le_of_ble_eq_true rfl) ?_
  intro p e s m below meth c A ls hx hb hr hml hown hlocks hin hg hNW hK hP hD hA hS hl
  have hl : lv_has ls 4 [(0, .ref (r 10)), (1, .ref (r 1)), (2, .int 0)] := hl
  have hown : s.vm.findClass "LinkedUnits$Image" = some m.cls := hown
  refine lv_aload_n hx hb d_X4_cellOf_0 rfl (lv_at hl 0 rfl) ?_
  refine va_get (D := D) (ci := 4) (v := .int 0) (C := "LinkedUnits$Image") (T := TX4) (N := 12) hx hb hg iwX4 hown hK hP 0 rfl rfl 2 (by decide) (hg _ m_599) (fun _ h9 => h9) rfl d_X4_cellOf_1 ?_
  refine lv_if_eq (tgt := 25) hx hb d_X4_cellOf_4 (by decide) (fun _ => ?_) (fun c_4 => False.elim (by revert c_4; decide))
  refine lv_iconst (v := (-1)) hx hb d_X4_cellOf_25 (by decide) ?_
  refine lv_istore_n (lv' := [(3, .int (-1)), (0, .ref (r 10)), (1, .ref (r 1)), (2, .int 0)]) hx hb d_X4_cellOf_26 rfl hl (by decide) rfl (fun ls hl => ?_)
  refine lv_iload_n hx hb d_X4_cellOf_27 rfl (lv_at hl 0 rfl) ?_
  refine lv_if_ge (tgt := 33) hx hb d_X4_cellOf_28 (by decide) (fun c_28 => absurd c_28 (by decide)) (fun _ => ?_)
  refine lv_iconst (v := (-1)) hx hb d_X4_cellOf_31 (by decide) ?_
  refine W.widen (k := 0) (n := 0) (Nat.le_of_ble_eq_true rfl) (Nat.le_of_ble_eq_true rfl) ?_
  exact k_iret (X := Unit) (w1 := fun _ => [((r 10), .inr (4, (oIma r)))]) () hx hb hr d_X4_cellOf_32 hlocks (hP.sub [0] rfl) hK (hD.sub [0] (by decide) rfl) hS rfl
