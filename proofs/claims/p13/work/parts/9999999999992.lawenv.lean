theorem lwV_X12_feed : MeV y_X12_feed b_X12_feed 6 (some .int) 5 := ⟨m_784, m_1, m_782, m_783, by decide, by decide, by decide +kernel⟩
theorem lwV_X14_feed : MeV y_X14_feed b_X14_feed 8 (some .int) 5 := ⟨m_2170, m_18, m_2168, m_2169, by decide, by decide, by decide +kernel⟩
theorem lwV_X12_end : MeV y_X12_end b_X12_end 2 (some .int) 1 := ⟨m_793, m_1, m_791, m_792, by decide, by decide, by decide +kernel⟩
theorem lwV_X14_end : MeV y_X14_end b_X14_end 2 (some .int) 1 := ⟨m_2174, m_18, m_2172, m_2173, by decide, by decide, by decide +kernel⟩
theorem lwV_X12_compile : MeV y_X12_compile b_X12_compile 3 (some .int) 1 := ⟨m_797, m_1, m_795, m_796, by decide, by decide, by decide +kernel⟩
theorem lwV_X14_compile : MeV y_X14_compile b_X14_compile 7 (some .int) 1 := ⟨m_2178, m_18, m_2176, m_2177, by decide, by decide, by decide +kernel⟩
theorem lwV_X12_place : MeV y_X12_place b_X12_place 1 (some .int) 0 := ⟨m_1504, m_1, m_1502, m_1503, by decide, by decide, by decide +kernel⟩
theorem lwV_X14_place : MeV y_X14_place b_X14_place 1 (some .int) 0 := ⟨m_2639, m_18, m_2637, m_2638, by decide, by decide, by decide +kernel⟩
theorem lwV_X12_objects : MeV y_X12_objects b_X12_objects 1 (some .int) 0 := ⟨m_1508, m_1, m_1506, m_1507, by decide, by decide, by decide +kernel⟩
theorem lwV_X14_objects : MeV y_X14_objects b_X14_objects 1 (some .int) 0 := ⟨m_2643, m_18, m_2641, m_2642, by decide, by decide, by decide +kernel⟩
theorem lwV_X12_count : MeV y_X12_count b_X12_count 3 (some .int) 2 := ⟨m_1512, m_1, m_1510, m_1511, by decide, by decide, by decide +kernel⟩
theorem lwV_X14_count : MeV y_X14_count b_X14_count 3 (some .int) 2 := ⟨m_2647, m_18, m_2645, m_2646, by decide, by decide, by decide +kernel⟩
theorem lwV_X12_name : MeV y_X12_name b_X12_name 4 (some .int) 3 := ⟨m_1529, m_1, m_1527, m_1528, by decide, by decide, by decide +kernel⟩
theorem lwV_X14_name : MeV y_X14_name b_X14_name 5 (some .int) 3 := ⟨m_2659, m_18, m_2657, m_2658, by decide, by decide, by decide +kernel⟩
theorem lwV_X12_symbol : MeV y_X12_symbol b_X12_symbol 5 (some .int) 2 := ⟨m_1542, m_1, m_1540, m_1541, by decide, by decide, by decide +kernel⟩
theorem lwV_X14_symbol : MeV y_X14_symbol b_X14_symbol 4 (some .int) 2 := ⟨m_2667, m_18, m_2665, m_2666, by decide, by decide, by decide +kernel⟩
theorem lwV_X12_pick : MeV y_X12_pick b_X12_pick 2 (some .int) 1 := ⟨m_1547, m_1, m_1545, m_1546, by decide, by decide, by decide +kernel⟩
theorem lwV_X14_pick : MeV y_X14_pick b_X14_pick 3 (some .int) 1 := ⟨m_2671, m_18, m_2669, m_2670, by decide, by decide, by decide +kernel⟩
theorem lwV_X12_link : MeV y_X12_link b_X12_link 1 (some .int) 0 := ⟨m_1557, m_1, m_1555, m_1556, by decide, by decide, by decide +kernel⟩
theorem lwV_X14_link : MeV y_X14_link b_X14_link 5 (some .int) 0 := ⟨m_2675, m_18, m_2673, m_2674, by decide, by decide, by decide +kernel⟩
theorem lwV_X12_fault : MeV y_X12_fault b_X12_fault 2 (some .int) 1 := ⟨m_1608, m_1, m_1606, m_1607, by decide, by decide, by decide +kernel⟩
theorem lwV_X14_fault : MeV y_X14_fault b_X14_fault 2 (some .int) 1 := ⟨m_2724, m_18, m_2722, m_2723, by decide, by decide, by decide +kernel⟩
theorem lwV_X12_cell : MeV y_X12_cell b_X12_cell 2 (some .int) 0 := ⟨m_1612, m_1, m_1610, m_1611, by decide, by decide, by decide +kernel⟩
theorem lwV_X14_cell : MeV y_X14_cell b_X14_cell 7 (some .int) 0 := ⟨m_2728, m_18, m_2726, m_2727, by decide, by decide, by decide +kernel⟩
theorem lwV_X12_input : MeV y_X12_input b_X12_input 2 (some .int) 1 := ⟨m_1620, m_1, m_1618, m_1619, by decide, by decide, by decide +kernel⟩
theorem lwV_X14_input : MeV y_X14_input b_X14_input 2 (some .int) 1 := ⟨m_2736, m_18, m_2734, m_2735, by decide, by decide, by decide +kernel⟩
theorem lwV_X12_run : MeV y_X12_run b_X12_run 2 (some .int) 1 := ⟨m_1628, m_1, m_1626, m_1627, by decide, by decide, by decide +kernel⟩
theorem lwV_X14_run : MeV y_X14_run b_X14_run 3 (some .int) 1 := ⟨m_2740, m_18, m_2738, m_2739, by decide, by decide, by decide +kernel⟩
theorem lwV_X12_result : MeV y_X12_result b_X12_result 1 (some .int) 0 := ⟨m_1759, m_1, m_1757, m_1758, by decide, by decide, by decide +kernel⟩
theorem lwV_X14_result : MeV y_X14_result b_X14_result 1 (some .int) 0 := ⟨m_2815, m_18, m_2813, m_2814, by decide, by decide, by decide +kernel⟩
theorem lwV_X12_turns : MeV y_X12_turns b_X12_turns 1 (some .int) 0 := ⟨m_1763, m_1, m_1761, m_1762, by decide, by decide, by decide +kernel⟩
theorem lwV_X14_turns : MeV y_X14_turns b_X14_turns 1 (some .int) 0 := ⟨m_2819, m_18, m_2817, m_2818, by decide, by decide, by decide +kernel⟩
theorem lwV_X12_trap : MeV y_X12_trap b_X12_trap 2 (some .int) 1 := ⟨m_1767, m_1, m_1765, m_1766, by decide, by decide, by decide +kernel⟩
theorem lwV_X14_trap : MeV y_X14_trap b_X14_trap 2 (some .int) 1 := ⟨m_2823, m_18, m_2821, m_2822, by decide, by decide, by decide +kernel⟩
theorem lwV_X12_written : MeV y_X12_written b_X12_written 1 (some .int) 0 := ⟨m_1775, m_1, m_1773, m_1774, by decide, by decide, by decide +kernel⟩
theorem lwV_X14_written : MeV y_X14_written b_X14_written 1 (some .int) 0 := ⟨m_2827, m_18, m_2825, m_2826, by decide, by decide, by decide +kernel⟩
theorem lwV_X12_out : MeV y_X12_out b_X12_out 2 (some .int) 1 := ⟨m_1779, m_1, m_1777, m_1778, by decide, by decide, by decide +kernel⟩
theorem lwV_X14_out : MeV y_X14_out b_X14_out 2 (some .int) 1 := ⟨m_2831, m_18, m_2829, m_2830, by decide, by decide, by decide +kernel⟩
theorem lwV_X12_peek : MeV y_X12_peek b_X12_peek 2 (some .int) 1 := ⟨m_1787, m_1, m_1785, m_1786, by decide, by decide, by decide +kernel⟩
theorem lwV_X14_peek : MeV y_X14_peek b_X14_peek 2 (some .int) 1 := ⟨m_2835, m_18, m_2833, m_2834, by decide, by decide, by decide +kernel⟩
theorem lwV_X12_strays : MeV y_X12_strays b_X12_strays 1 (some .int) 0 := ⟨m_1791, m_1, m_1789, m_1790, by decide, by decide, by decide +kernel⟩
theorem lwV_X14_strays : MeV y_X14_strays b_X14_strays 1 (some .int) 0 := ⟨m_2839, m_18, m_2837, m_2838, by decide, by decide, by decide +kernel⟩
set_option maxHeartbeats 4000000 in
set_option maxRecDepth 100000 in
theorem k_known {s : State} {b : Nat} (hts : ∀ w ∈ lw_tbl, w.before #[Value.ref b] s = true) (hg : ∀ w ∈ GW, w.before #[Value.ref b] s = true) : ∃ (D : va_G) (cy : Nat → ClassId), va_K D vwCl (kTy cy) s := by
  obtain ⟨c0, i0, h0⟩ := u_known (C := "LinkedUnits$Code") (T := TX0) (N := 2) hg iwX0 (hts (Cond.instantiable "LinkedUnits$Code" 2) (List.mem_append_right _ (tin_1 (List.mem_of_getElem? (i := 143) rfl))))
  obtain ⟨c1, i1, h1⟩ := u_known (C := "LinkedUnits$Declarations") (T := TX1) (N := 18) hg iwX1 (hts (Cond.instantiable "LinkedUnits$Declarations" 18) (List.mem_append_right _ (tin_3 (List.mem_of_getElem? (i := 4) rfl))))
  obtain ⟨c2, i2, h2⟩ := u_known (C := "LinkedUnits$Expressions") (T := TX2) (N := 8) hg iwX2 (hts (Cond.instantiable "LinkedUnits$Expressions" 8) (List.mem_append_right _ (tin_2 (List.mem_of_getElem? (i := 146) rfl))))
  obtain ⟨c3, i3, h3⟩ := u_known (C := "LinkedUnits$Grammar") (T := TX3) (N := 12) hg iwX3 (hts (Cond.instantiable "LinkedUnits$Grammar" 12) (List.mem_append_right _ (tin_1 (List.mem_of_getElem? (i := 89) rfl))))
  obtain ⟨c4, i4, h4⟩ := u_known (C := "LinkedUnits$Image") (T := TX4) (N := 12) hg iwX4 (hts (Cond.instantiable "LinkedUnits$Image" 12) (List.mem_append_right _ (tin_3 (List.mem_of_getElem? (i := 111) rfl))))
  obtain ⟨c5, i5, h5⟩ := u_known (C := "LinkedUnits$Machine") (T := TX5) (N := 19) hg iwX5 (hts (Cond.instantiable "LinkedUnits$Machine" 19) (List.mem_append_right _ (tin_3 (List.mem_of_getElem? (i := 184) rfl))))
  obtain ⟨c6, i6, h6⟩ := u_known (C := "LinkedUnits$Operand") (T := TX6) (N := 13) hg iwX6 (hts (Cond.instantiable "LinkedUnits$Operand" 13) (List.mem_append_right _ (tin_2 (List.mem_of_getElem? (i := 153) rfl))))
  obtain ⟨c7, i7, h7⟩ := u_known (C := "LinkedUnits$Statements") (T := TX7) (N := 12) hg iwX7 (hts (Cond.instantiable "LinkedUnits$Statements" 12) (List.mem_append_right _ (tin_3 (List.mem_of_getElem? (i := 68) rfl))))
  obtain ⟨c8, i8, h8⟩ := u_known (C := "LinkedUnits$Store") (T := TX8) (N := 18) hg iwX8 (hts (Cond.instantiable "LinkedUnits$Store" 18) (List.mem_append_right _ (tin_1 (List.mem_of_getElem? (i := 163) rfl))))
  obtain ⟨c9, i9, h9⟩ := u_known (C := "LinkedUnits$Tape") (T := TX9) (N := 5) hg iwX9 (hts (Cond.instantiable "LinkedUnits$Tape" 5) (List.mem_append_right _ (tin_3 (List.mem_of_getElem? (i := 161) rfl))))
  obtain ⟨c10, i10, h10⟩ := u_known (C := "LinkedUnits$Tokens") (T := TX10) (N := 10) hg iwX10 (hts (Cond.instantiable "LinkedUnits$Tokens" 10) (List.mem_append_right _ (tin_1 (List.mem_of_getElem? (i := 36) rfl))))
  obtain ⟨c11, i11, h11⟩ := u_known (C := "LinkedUnits$Unit") (T := TX11) (N := 19) hg iwX11 (hts (Cond.instantiable "LinkedUnits$Unit" 19) (List.mem_append_right _ (tin_2 (List.mem_of_getElem? (i := 58) rfl))))
  obtain ⟨c12, i12, h12⟩ := u_known (C := "LinkedUnits") (T := TX12) (N := 15) hg iwX12 (hts (Cond.instantiable "LinkedUnits" 15) (List.mem_append_right _ (tin_1 (List.mem_of_getElem? (i := 28) rfl))))
  obtain ⟨c13, i13, h13⟩ := u_known (C := "LinkedUnitsModel") (T := TX14) (N := 100) hg iwX14 (hts (Cond.instantiable "LinkedUnitsModel" 100) (List.mem_append_right _ (tin_8 (List.mem_of_getElem? (i := 113) rfl))))
  obtain ⟨c14, i14, h14⟩ := u_known (C := "java/lang/IllegalStateException") (T := TXE) (N := 0) hg (fun w hw => by simp [u_ws] at hw) (hts (Cond.instantiable "java/lang/IllegalStateException" 6) (List.mem_append_right _ (tin_8 (List.mem_of_getElem? (i := 119) rfl))))
  obtain ⟨c15, i15, h15⟩ := u_known (C := "LinkedUnitsModel$Value") (T := TX13) (N := 9) hg iwX13 (hts (Cond.instantiable "LinkedUnitsModel$Value" 9) (List.mem_append_right _ (tin_10 (List.mem_of_getElem? (i := 234) rfl))))
  obtain ⟨y0, k0, p0, a0, b0, d0⟩ := Cond.arrayClass_spec (hts (Cond.arrayClass .byte) (List.mem_append_right _ (tin_1 (List.mem_of_getElem? (i := 86) rfl))))
  obtain ⟨y1, k1, p1, a1, b1, d1⟩ := Cond.arrayClass_spec (hts (Cond.arrayClass .int) (List.mem_append_right _ (tin_1 (List.mem_of_getElem? (i := 87) rfl))))
  obtain ⟨y2, k2, p2, a2, b2, d2⟩ := Cond.arrayClass_spec (hts (Cond.arrayClass .boolean) (List.mem_append_right _ (tin_10 (List.mem_of_getElem? (i := 6) rfl))))
  obtain ⟨p3, y3, k3, a3, -, b3, d3, e3⟩ := Cond.arrayOver_spec (hts (Cond.arrayOver (.object "LinkedUnits$Operand")) (List.mem_append_right _ (tin_2 (List.mem_of_getElem? (i := 152) rfl))))
  refine ⟨(fun k => [c0, c1, c2, c3, c4, c5, c6, c7, c8, c9, c10, c11, c12, c13, c14, c15].getD k 0, fun k => [i0, i1, i2, i3, i4, i5, i6, i7, i8, i9, i10, i11, i12, i13, i14, i15].getD k (fun _ => 0)), fun k => [y0, y1, y2, y3].getD k 0, fun c q hq => ?_, fun k q hq => ?_⟩
  · have hc : c < 16 := (List.getElem?_eq_some_iff.mp hq).1
    obtain rfl | rfl | rfl | rfl | rfl | rfl | rfl | rfl | rfl | rfl | rfl | rfl | rfl | rfl | rfl | rfl : c = 0 ∨ c = 1 ∨ c = 2 ∨ c = 3 ∨ c = 4 ∨ c = 5 ∨ c = 6 ∨ c = 7 ∨ c = 8 ∨ c = 9 ∨ c = 10 ∨ c = 11 ∨ c = 12 ∨ c = 13 ∨ c = 14 ∨ c = 15 := by omega
    · obtain rfl := Option.some.inj hq; exact h0
    · obtain rfl := Option.some.inj hq; exact h1
    · obtain rfl := Option.some.inj hq; exact h2
    · obtain rfl := Option.some.inj hq; exact h3
    · obtain rfl := Option.some.inj hq; exact h4
    · obtain rfl := Option.some.inj hq; exact h5
    · obtain rfl := Option.some.inj hq; exact h6
    · obtain rfl := Option.some.inj hq; exact h7
    · obtain rfl := Option.some.inj hq; exact h8
    · obtain rfl := Option.some.inj hq; exact h9
    · obtain rfl := Option.some.inj hq; exact h10
    · obtain rfl := Option.some.inj hq; exact h11
    · obtain rfl := Option.some.inj hq; exact h12
    · obtain rfl := Option.some.inj hq; exact h13
    · obtain rfl := Option.some.inj hq; exact h14
    · obtain rfl := Option.some.inj hq; exact h15
  · have hc : k < 4 := (List.getElem?_eq_some_iff.mp hq).1
    obtain rfl | rfl | rfl | rfl : k = 0 ∨ k = 1 ∨ k = 2 ∨ k = 3 := by omega
    · obtain rfl := Option.some.inj hq; exact ⟨fun n z => ⟨fun k h => (by cases h), k0, b0, p0, d0⟩, a0⟩
    · obtain rfl := Option.some.inj hq; exact ⟨fun n z => ⟨fun k h => (by cases h), k1, b1, p1, d1⟩, a1⟩
    · obtain rfl := Option.some.inj hq; exact ⟨fun n z => ⟨fun k h => (by cases h), k2, b2, p2, d2⟩, a2⟩
    · obtain rfl := Option.some.inj hq; exact ⟨fun n z => ⟨fun k h => (by cases h), k3, b3, p3, d3⟩, ⟨k3, p3, b3, d3, a3, e3⟩⟩
theorem k_notrace {l : Launch} (h : l.flags = flags0) : l.stackTraces = false := by
  show (!l.flags.contains Jvm.noTraceFlag) = false
  rw [h]
  decide +kernel
theorem nwOK_of {s : State} {A : Array Value} (hts : ∀ w ∈ lw_tbl, w.before A s = true) : nwOK s :=
  ⟨fun w hw => va_Nw.of (nest_tab (List.mem_filter.mp hw).2) (hts w (List.mem_filter.mp hw).1), va_AO.of (hts (Cond.arrayOver (.object "LinkedUnits$Operand")) (List.mem_append_right _ (tin_2 (List.mem_of_getElem? (i := 152) rfl))))⟩
def lwB0 : List Int32 := [103, 101, 116, 32, 112, 117, 116, 32, 112, 114, 105, 110, 116, 32, 115, 116, 111, 112, 32]
def lwB1 : List Int32 := [105, 110, 116, 32, 118, 111, 105, 100, 32, 115, 116, 97, 116, 105, 99, 32, 101, 120, 116, 101, 114, 110, 32, 105, 102, 32, 101, 108, 115, 101, 32, 119, 104, 105, 108, 101, 32, 100, 111, 32, 102, 111, 114, 32, 98, 114, 101, 97, 107, 32, 99, 111, 110, 116, 105, 110, 117, 101, 32, 114, 101, 116, 117, 114, 110, 32]
def lwB2 : List Int32 := [40, 32, 41, 32, 123, 32, 125, 32, 91, 32, 93, 32, 44, 32, 59, 32, 63, 32, 58, 32, 61, 32, 60, 60, 61, 32, 62, 62, 61, 32, 43, 61, 32, 45, 61, 32, 42, 61, 32, 47, 61, 32, 37, 61, 32, 38, 61, 32, 124, 61, 32, 94, 61, 32, 60, 60, 32, 62, 62, 32, 43, 32, 45, 32, 42, 32, 47, 32, 37, 32, 38, 32, 124, 32, 94, 32, 61, 61, 32, 33, 61, 32, 60, 32, 62, 32, 60, 61, 32, 62, 61, 32, 124, 124, 32, 38, 38, 32, 33, 32, 126, 32, 43, 43, 32, 45, 45, 32]
def lwB3 : List Int32 := [32, 105, 110, 116, 32, 118, 111, 105, 100, 32, 115, 116, 97, 116, 105, 99, 32, 101, 120, 116, 101, 114, 110, 32, 105, 102, 32, 101, 108, 115, 101, 32, 119, 104, 105, 108, 101, 32, 100, 111, 32, 102, 111, 114, 32, 98, 114, 101, 97, 107, 32, 99, 111, 110, 116, 105, 110, 117, 101, 32, 114, 101, 116, 117, 114, 110, 32]
def lwB4 : List Int32 := [32, 60, 60, 61, 32, 62, 62, 61, 32, 43, 61, 32, 45, 61, 32, 42, 61, 32, 47, 61, 32, 37, 61, 32, 38, 61, 32, 124, 61, 32, 94, 61, 32, 124, 124, 32, 38, 38, 32, 61, 61, 32, 33, 61, 32, 60, 61, 32, 62, 61, 32, 60, 60, 32, 62, 62, 32, 43, 43, 32, 45, 45, 32, 40, 32, 41, 32, 123, 32, 125, 32, 91, 32, 93, 32, 44, 32, 59, 32, 63, 32, 58, 32, 61, 32, 124, 32, 94, 32, 38, 32, 60, 32, 62, 32, 43, 32, 45, 32, 42, 32, 47, 32, 37, 32, 33, 32, 126, 32]
def lwB5 : List Int32 := [32, 103, 101, 116, 32, 112, 117, 116, 32, 112, 114, 105, 110, 116, 32, 115, 116, 111, 112, 32]
def lwL0 : List Int32 := [8, 8, 9, 9, 10, 10, 10, 5, 3, 4, 6, 6, 7, 7, 7, 7, 1, 2]
def lwL1 : List Int32 := [0, 2, 1, 3, 2, 2, 2, 4, 2, 2, 4, 2, 2, 4, 2, 3, 3, 4, 2, 2, 4, 2, 1, 1, 1, 1, 2, 2, 2, 2, 2, 2, 3, 1, 0, 0, 0, 0, 0, 0, 0, 1, 1, 1, 1, 1, 2, 2, 1, 1, 1, 1, 1, 1, 1, 1, 1, 1, 1, 1, 1]
set_option maxHeartbeats 4000000 in
set_option maxRecDepth 100000 in
theorem lw_m0 : ∀ j, j < 19 → Cond.eq (.elem (.field (.string "LinkedUnits$Store" 71) "java/lang/String" "value" "[B") (.int (Int32.ofNat j))) (.int (lwB0.getD j 0)) ∈ flatC (Jvm.Cond.and given_1 narrow_1) := fun j hj => by
  have e : ((flatC (Jvm.Cond.and given_1 narrow_1)).drop 115).take 19 = (List.range 19).map (fun j => Cond.eq (.elem (.field (.string "LinkedUnits$Store" 71) "java/lang/String" "value" "[B") (.int (Int32.ofNat j))) (.int (lwB0.getD j 0))) := by decide +kernel
  have h : Cond.eq (.elem (.field (.string "LinkedUnits$Store" 71) "java/lang/String" "value" "[B") (.int (Int32.ofNat j))) (.int (lwB0.getD j 0)) ∈ ((flatC (Jvm.Cond.and given_1 narrow_1)).drop 115).take 19 := by rw [e]; exact List.mem_map.mpr ⟨j, List.mem_range.mpr hj, rfl⟩
  exact List.mem_of_mem_drop (List.mem_of_mem_take h)
set_option maxHeartbeats 4000000 in
set_option maxRecDepth 100000 in
theorem lw_m1 : ∀ j, j < 66 → Cond.eq (.elem (.field (.string "LinkedUnits$Tokens" 99) "java/lang/String" "value" "[B") (.int (Int32.ofNat j))) (.int (lwB1.getD j 0)) ∈ flatC (Jvm.Cond.and given_1 narrow_1) := fun j hj => by
  have e : ((flatC (Jvm.Cond.and given_1 narrow_1)).drop 138).take 66 = (List.range 66).map (fun j => Cond.eq (.elem (.field (.string "LinkedUnits$Tokens" 99) "java/lang/String" "value" "[B") (.int (Int32.ofNat j))) (.int (lwB1.getD j 0))) := by decide +kernel
  have h : Cond.eq (.elem (.field (.string "LinkedUnits$Tokens" 99) "java/lang/String" "value" "[B") (.int (Int32.ofNat j))) (.int (lwB1.getD j 0)) ∈ ((flatC (Jvm.Cond.and given_1 narrow_1)).drop 138).take 66 := by rw [e]; exact List.mem_map.mpr ⟨j, List.mem_range.mpr hj, rfl⟩
  exact List.mem_of_mem_drop (List.mem_of_mem_take h)
set_option maxHeartbeats 4000000 in
set_option maxRecDepth 100000 in
theorem lw_m2 : ∀ j, j < 108 → Cond.eq (.elem (.field (.string "LinkedUnits$Tokens" 143) "java/lang/String" "value" "[B") (.int (Int32.ofNat j))) (.int (lwB2.getD j 0)) ∈ flatC (Jvm.Cond.and given_1 narrow_1) := fun j hj => by
  have e : ((flatC (Jvm.Cond.and given_1 narrow_1)).drop 209).take 108 = (List.range 108).map (fun j => Cond.eq (.elem (.field (.string "LinkedUnits$Tokens" 143) "java/lang/String" "value" "[B") (.int (Int32.ofNat j))) (.int (lwB2.getD j 0))) := by decide +kernel
  have h : Cond.eq (.elem (.field (.string "LinkedUnits$Tokens" 143) "java/lang/String" "value" "[B") (.int (Int32.ofNat j))) (.int (lwB2.getD j 0)) ∈ ((flatC (Jvm.Cond.and given_1 narrow_1)).drop 209).take 108 := by rw [e]; exact List.mem_map.mpr ⟨j, List.mem_range.mpr hj, rfl⟩
  exact List.mem_of_mem_drop (List.mem_of_mem_take h)
set_option maxHeartbeats 4000000 in
set_option maxRecDepth 100000 in
theorem lw_m3 : ∀ j, j < 67 → Cond.eq (.elem (.field (.string "LinkedUnitsModel" 258) "java/lang/String" "value" "[B") (.int (Int32.ofNat j))) (.int (lwB3.getD j 0)) ∈ flatC (Jvm.Cond.and given_1 narrow_1) := fun j hj => by
  have e : ((flatC (Jvm.Cond.and given_1 narrow_1)).drop 323).take 67 = (List.range 67).map (fun j => Cond.eq (.elem (.field (.string "LinkedUnitsModel" 258) "java/lang/String" "value" "[B") (.int (Int32.ofNat j))) (.int (lwB3.getD j 0))) := by decide +kernel
  have h : Cond.eq (.elem (.field (.string "LinkedUnitsModel" 258) "java/lang/String" "value" "[B") (.int (Int32.ofNat j))) (.int (lwB3.getD j 0)) ∈ ((flatC (Jvm.Cond.and given_1 narrow_1)).drop 323).take 67 := by rw [e]; exact List.mem_map.mpr ⟨j, List.mem_range.mpr hj, rfl⟩
  exact List.mem_of_mem_drop (List.mem_of_mem_take h)
set_option maxHeartbeats 4000000 in
set_option maxRecDepth 100000 in
theorem lw_m4 : ∀ j, j < 109 → Cond.eq (.elem (.field (.string "LinkedUnitsModel" 286) "java/lang/String" "value" "[B") (.int (Int32.ofNat j))) (.int (lwB4.getD j 0)) ∈ flatC (Jvm.Cond.and given_1 narrow_1) := fun j hj => by
  have e : ((flatC (Jvm.Cond.and given_1 narrow_1)).drop 397).take 109 = (List.range 109).map (fun j => Cond.eq (.elem (.field (.string "LinkedUnitsModel" 286) "java/lang/String" "value" "[B") (.int (Int32.ofNat j))) (.int (lwB4.getD j 0))) := by decide +kernel
  have h : Cond.eq (.elem (.field (.string "LinkedUnitsModel" 286) "java/lang/String" "value" "[B") (.int (Int32.ofNat j))) (.int (lwB4.getD j 0)) ∈ ((flatC (Jvm.Cond.and given_1 narrow_1)).drop 397).take 109 := by rw [e]; exact List.mem_map.mpr ⟨j, List.mem_range.mpr hj, rfl⟩
  exact List.mem_of_mem_drop (List.mem_of_mem_take h)
set_option maxHeartbeats 4000000 in
set_option maxRecDepth 100000 in
theorem lw_m5 : ∀ j, j < 20 → Cond.eq (.elem (.field (.string "LinkedUnitsModel" 692) "java/lang/String" "value" "[B") (.int (Int32.ofNat j))) (.int (lwB5.getD j 0)) ∈ flatC (Jvm.Cond.and given_1 narrow_1) := fun j hj => by
  have e : ((flatC (Jvm.Cond.and given_1 narrow_1)).drop 514).take 20 = (List.range 20).map (fun j => Cond.eq (.elem (.field (.string "LinkedUnitsModel" 692) "java/lang/String" "value" "[B") (.int (Int32.ofNat j))) (.int (lwB5.getD j 0))) := by decide +kernel
  have h : Cond.eq (.elem (.field (.string "LinkedUnitsModel" 692) "java/lang/String" "value" "[B") (.int (Int32.ofNat j))) (.int (lwB5.getD j 0)) ∈ ((flatC (Jvm.Cond.and given_1 narrow_1)).drop 514).take 20 := by rw [e]; exact List.mem_map.mpr ⟨j, List.mem_range.mpr hj, rfl⟩
  exact List.mem_of_mem_drop (List.mem_of_mem_take h)
set_option maxHeartbeats 4000000 in
set_option maxRecDepth 100000 in
theorem lw_n0 : ∀ j, j < 18 → Cond.eq (.elem (.static "LinkedUnits$Grammar" "LEVELS" "[I") (.int (Int32.ofNat j))) (.int (lwL0.getD j 0)) ∈ flatC (Jvm.Cond.and given_1 narrow_1) := fun j hj => by
  have e : ((flatC (Jvm.Cond.and given_1 narrow_1)).drop 12).take 18 = (List.range 18).map (fun j => Cond.eq (.elem (.static "LinkedUnits$Grammar" "LEVELS" "[I") (.int (Int32.ofNat j))) (.int (lwL0.getD j 0))) := by decide +kernel
  have h : Cond.eq (.elem (.static "LinkedUnits$Grammar" "LEVELS" "[I") (.int (Int32.ofNat j))) (.int (lwL0.getD j 0)) ∈ ((flatC (Jvm.Cond.and given_1 narrow_1)).drop 12).take 18 := by rw [e]; exact List.mem_map.mpr ⟨j, List.mem_range.mpr hj, rfl⟩
  exact List.mem_of_mem_drop (List.mem_of_mem_take h)
set_option maxHeartbeats 4000000 in
set_option maxRecDepth 100000 in
theorem lw_n1 : ∀ j, j < 61 → Cond.eq (.elem (.static "LinkedUnits$Code" "LENGTHS" "[I") (.int (Int32.ofNat j))) (.int (lwL1.getD j 0)) ∈ flatC (Jvm.Cond.and given_1 narrow_1) := fun j hj => by
  have e : ((flatC (Jvm.Cond.and given_1 narrow_1)).drop 33).take 61 = (List.range 61).map (fun j => Cond.eq (.elem (.static "LinkedUnits$Code" "LENGTHS" "[I") (.int (Int32.ofNat j))) (.int (lwL1.getD j 0))) := by decide +kernel
  have h : Cond.eq (.elem (.static "LinkedUnits$Code" "LENGTHS" "[I") (.int (Int32.ofNat j))) (.int (lwL1.getD j 0)) ∈ ((flatC (Jvm.Cond.and given_1 narrow_1)).drop 33).take 61 := by rw [e]; exact List.mem_map.mpr ⟨j, List.mem_range.mpr hj, rfl⟩
  exact List.mem_of_mem_drop (List.mem_of_mem_take h)
set_option maxHeartbeats 4000000 in
set_option maxRecDepth 100000 in
theorem lw_str0 {s : State} {b : Nat} (hts : ∀ w ∈ lw_tbl, w.before #[Value.ref b] s = true) (hgv : (Jvm.Cond.and given_1 narrow_1).before #[Value.ref b] s = true) : ∃ sa sv : Nat, sE "LinkedUnits$Store" 71 "get put print stop " 19 sa sv (fun j => lwB0.getD j 0) (fun q => s.heap.size ≤ q) s := by
  have hn := flat_of_before _ hgv
  have hA : ∀ a : Nat, a < s.heap.size → ¬ s.heap.size ≤ a := fun a h => Nat.not_le.mpr h
  obtain ⟨adK, adV, hS, hK⟩ := vk_Sof (args := #[Value.ref b]) (s := s) (N := 1) (tm := fun _ => .string "LinkedUnits$Store" 71) (len := [19]) (byt := [lwB0]) (A := fun q => s.heap.size ≤ q)
    (fun i hi => by obtain rfl : i = 0 := by omega
                    decide)
    (fun i hi => hn _ (by decide +kernel)) (fun i hi => hn _ (by decide +kernel)) (fun i hi => hn _ (by decide +kernel))
    (fun i hi => by obtain rfl : i = 0 := by omega
                    exact hn (Cond.eq (.length (.field (.string "LinkedUnits$Store" 71) "java/lang/String" "value" "[B")) (.int 19)) (by decide +kernel))
    (fun i hi j hj => by obtain rfl : i = 0 := by omega
                         exact hn _ (lw_m0 j hj))
    (fun i j hi hj hij => absurd (by omega) hij) hA
  obtain ⟨h1, h2, h3, h4⟩ := hS.1 0 (by decide)
  refine ⟨adK 0, adV 0, vk_R.of (hts (Cond.stringRef "LinkedUnits$Store" 71 "get put print stop ") (List.mem_append_right _ (tin_1 (List.mem_of_getElem? (i := 170) rfl)))) (hK 0 (by decide)), h1, h2, h3, h4, ?_, ?_⟩
  · exact va_Zof (hts (Cond.laysStatic "java/lang/String" "COMPACT_STRINGS" "Z") (List.mem_append_right _ (tin_1 (List.mem_of_getElem? (i := 180) rfl)))) (hts (Cond.initialized "java/lang/String") (List.mem_append_right _ (tin_1 (List.mem_of_getElem? (i := 6) rfl)))) (va_eqt (hn (Cond.eq (.static "java/lang/String" "COMPACT_STRINGS" "Z") (.int 1)) (by decide +kernel))) hA
  · exact va_Zqof (hts (Cond.laysStatic "jdk/internal/util/Preconditions" "SIOOBE_FORMATTER" "Ljava/util/function/BiFunction;") (List.mem_append_right _ (tin_1 (List.mem_of_getElem? (i := 196) rfl)))) (hts (Cond.initialized "jdk/internal/util/Preconditions") (List.mem_append_right _ (tin_1 (List.mem_of_getElem? (i := 8) rfl)))) (hn (Cond.isRef (.static "jdk/internal/util/Preconditions" "SIOOBE_FORMATTER" "Ljava/util/function/BiFunction;")) (by decide +kernel)) hA
set_option maxHeartbeats 4000000 in
set_option maxRecDepth 100000 in
theorem lw_str1 {s : State} {b : Nat} (hts : ∀ w ∈ lw_tbl, w.before #[Value.ref b] s = true) (hgv : (Jvm.Cond.and given_1 narrow_1).before #[Value.ref b] s = true) : ∃ sa sv : Nat, sE "LinkedUnits$Tokens" 99 "int void static e\x78tern if else while do for break continue return " 66 sa sv (fun j => lwB1.getD j 0) (fun q => s.heap.size ≤ q) s := by
  have hn := flat_of_before _ hgv
  have hA : ∀ a : Nat, a < s.heap.size → ¬ s.heap.size ≤ a := fun a h => Nat.not_le.mpr h
  obtain ⟨adK, adV, hS, hK⟩ := vk_Sof (args := #[Value.ref b]) (s := s) (N := 1) (tm := fun _ => .string "LinkedUnits$Tokens" 99) (len := [66]) (byt := [lwB1]) (A := fun q => s.heap.size ≤ q)
    (fun i hi => by obtain rfl : i = 0 := by omega
                    decide)
    (fun i hi => hn _ (by decide +kernel)) (fun i hi => hn _ (by decide +kernel)) (fun i hi => hn _ (by decide +kernel))
    (fun i hi => by obtain rfl : i = 0 := by omega
                    exact hn (Cond.eq (.length (.field (.string "LinkedUnits$Tokens" 99) "java/lang/String" "value" "[B")) (.int 66)) (by decide +kernel))
    (fun i hi j hj => by obtain rfl : i = 0 := by omega
                         exact hn _ (lw_m1 j hj))
    (fun i j hi hj hij => absurd (by omega) hij) hA
  obtain ⟨h1, h2, h3, h4⟩ := hS.1 0 (by decide)
  refine ⟨adK 0, adV 0, vk_R.of (hts (Cond.stringRef "LinkedUnits$Tokens" 99 "int void static e\x78tern if else while do for break continue return ") (List.mem_append_right _ (tin_4 (List.mem_of_getElem? (i := 123) rfl)))) (hK 0 (by decide)), h1, h2, h3, h4, ?_, ?_⟩
  · exact va_Zof (hts (Cond.laysStatic "java/lang/String" "COMPACT_STRINGS" "Z") (List.mem_append_right _ (tin_1 (List.mem_of_getElem? (i := 180) rfl)))) (hts (Cond.initialized "java/lang/String") (List.mem_append_right _ (tin_1 (List.mem_of_getElem? (i := 6) rfl)))) (va_eqt (hn (Cond.eq (.static "java/lang/String" "COMPACT_STRINGS" "Z") (.int 1)) (by decide +kernel))) hA
  · exact va_Zqof (hts (Cond.laysStatic "jdk/internal/util/Preconditions" "SIOOBE_FORMATTER" "Ljava/util/function/BiFunction;") (List.mem_append_right _ (tin_1 (List.mem_of_getElem? (i := 196) rfl)))) (hts (Cond.initialized "jdk/internal/util/Preconditions") (List.mem_append_right _ (tin_1 (List.mem_of_getElem? (i := 8) rfl)))) (hn (Cond.isRef (.static "jdk/internal/util/Preconditions" "SIOOBE_FORMATTER" "Ljava/util/function/BiFunction;")) (by decide +kernel)) hA
set_option maxHeartbeats 4000000 in
set_option maxRecDepth 100000 in
theorem lw_str2 {s : State} {b : Nat} (hts : ∀ w ∈ lw_tbl, w.before #[Value.ref b] s = true) (hgv : (Jvm.Cond.and given_1 narrow_1).before #[Value.ref b] s = true) : ∃ sa sv : Nat, sE "LinkedUnits$Tokens" 143 "( ) { } [ ] , ; ? : = <<= >>= += -= *= /= %= &= |= ^= << >> + - * / % & | ^ == != < > <= >= || && ! ~ ++ -- " 108 sa sv (fun j => lwB2.getD j 0) (fun q => s.heap.size ≤ q) s := by
  have hn := flat_of_before _ hgv
  have hA : ∀ a : Nat, a < s.heap.size → ¬ s.heap.size ≤ a := fun a h => Nat.not_le.mpr h
  obtain ⟨adK, adV, hS, hK⟩ := vk_Sof (args := #[Value.ref b]) (s := s) (N := 1) (tm := fun _ => .string "LinkedUnits$Tokens" 143) (len := [108]) (byt := [lwB2]) (A := fun q => s.heap.size ≤ q)
    (fun i hi => by obtain rfl : i = 0 := by omega
                    decide)
    (fun i hi => hn _ (by decide +kernel)) (fun i hi => hn _ (by decide +kernel)) (fun i hi => hn _ (by decide +kernel))
    (fun i hi => by obtain rfl : i = 0 := by omega
                    exact hn (Cond.eq (.length (.field (.string "LinkedUnits$Tokens" 143) "java/lang/String" "value" "[B")) (.int 108)) (by decide +kernel))
    (fun i hi j hj => by obtain rfl : i = 0 := by omega
                         exact hn _ (lw_m2 j hj))
    (fun i j hi hj hij => absurd (by omega) hij) hA
  obtain ⟨h1, h2, h3, h4⟩ := hS.1 0 (by decide)
  refine ⟨adK 0, adV 0, vk_R.of (hts (Cond.stringRef "LinkedUnits$Tokens" 143 "( ) { } [ ] , ; ? : = <<= >>= += -= *= /= %= &= |= ^= << >> + - * / % & | ^ == != < > <= >= || && ! ~ ++ -- ") (List.mem_append_right _ (tin_4 (List.mem_of_getElem? (i := 174) rfl)))) (hK 0 (by decide)), h1, h2, h3, h4, ?_, ?_⟩
  · exact va_Zof (hts (Cond.laysStatic "java/lang/String" "COMPACT_STRINGS" "Z") (List.mem_append_right _ (tin_1 (List.mem_of_getElem? (i := 180) rfl)))) (hts (Cond.initialized "java/lang/String") (List.mem_append_right _ (tin_1 (List.mem_of_getElem? (i := 6) rfl)))) (va_eqt (hn (Cond.eq (.static "java/lang/String" "COMPACT_STRINGS" "Z") (.int 1)) (by decide +kernel))) hA
  · exact va_Zqof (hts (Cond.laysStatic "jdk/internal/util/Preconditions" "SIOOBE_FORMATTER" "Ljava/util/function/BiFunction;") (List.mem_append_right _ (tin_1 (List.mem_of_getElem? (i := 196) rfl)))) (hts (Cond.initialized "jdk/internal/util/Preconditions") (List.mem_append_right _ (tin_1 (List.mem_of_getElem? (i := 8) rfl)))) (hn (Cond.isRef (.static "jdk/internal/util/Preconditions" "SIOOBE_FORMATTER" "Ljava/util/function/BiFunction;")) (by decide +kernel)) hA
set_option maxHeartbeats 4000000 in
set_option maxRecDepth 100000 in
theorem lw_str3 {s : State} {b : Nat} (hts : ∀ w ∈ lw_tbl, w.before #[Value.ref b] s = true) (hgv : (Jvm.Cond.and given_1 narrow_1).before #[Value.ref b] s = true) : ∃ sa sv : Nat, sE "LinkedUnitsModel" 258 " int void static e\x78tern if else while do for break continue return " 67 sa sv (fun j => lwB3.getD j 0) (fun q => s.heap.size ≤ q) s := by
  have hn := flat_of_before _ hgv
  have hA : ∀ a : Nat, a < s.heap.size → ¬ s.heap.size ≤ a := fun a h => Nat.not_le.mpr h
  obtain ⟨adK, adV, hS, hK⟩ := vk_Sof (args := #[Value.ref b]) (s := s) (N := 1) (tm := fun _ => .string "LinkedUnitsModel" 258) (len := [67]) (byt := [lwB3]) (A := fun q => s.heap.size ≤ q)
    (fun i hi => by obtain rfl : i = 0 := by omega
                    decide)
    (fun i hi => hn _ (by decide +kernel)) (fun i hi => hn _ (by decide +kernel)) (fun i hi => hn _ (by decide +kernel))
    (fun i hi => by obtain rfl : i = 0 := by omega
                    exact hn (Cond.eq (.length (.field (.string "LinkedUnitsModel" 258) "java/lang/String" "value" "[B")) (.int 67)) (by decide +kernel))
    (fun i hi j hj => by obtain rfl : i = 0 := by omega
                         exact hn _ (lw_m3 j hj))
    (fun i j hi hj hij => absurd (by omega) hij) hA
  obtain ⟨h1, h2, h3, h4⟩ := hS.1 0 (by decide)
  refine ⟨adK 0, adV 0, vk_R.of (hts (Cond.stringRef "LinkedUnitsModel" 258 " int void static e\x78tern if else while do for break continue return ") (List.mem_append_right _ (tin_10 (List.mem_of_getElem? (i := 67) rfl)))) (hK 0 (by decide)), h1, h2, h3, h4, ?_, ?_⟩
  · exact va_Zof (hts (Cond.laysStatic "java/lang/String" "COMPACT_STRINGS" "Z") (List.mem_append_right _ (tin_1 (List.mem_of_getElem? (i := 180) rfl)))) (hts (Cond.initialized "java/lang/String") (List.mem_append_right _ (tin_1 (List.mem_of_getElem? (i := 6) rfl)))) (va_eqt (hn (Cond.eq (.static "java/lang/String" "COMPACT_STRINGS" "Z") (.int 1)) (by decide +kernel))) hA
  · exact va_Zqof (hts (Cond.laysStatic "jdk/internal/util/Preconditions" "SIOOBE_FORMATTER" "Ljava/util/function/BiFunction;") (List.mem_append_right _ (tin_1 (List.mem_of_getElem? (i := 196) rfl)))) (hts (Cond.initialized "jdk/internal/util/Preconditions") (List.mem_append_right _ (tin_1 (List.mem_of_getElem? (i := 8) rfl)))) (hn (Cond.isRef (.static "jdk/internal/util/Preconditions" "SIOOBE_FORMATTER" "Ljava/util/function/BiFunction;")) (by decide +kernel)) hA
set_option maxHeartbeats 4000000 in
set_option maxRecDepth 100000 in
theorem lw_str4 {s : State} {b : Nat} (hts : ∀ w ∈ lw_tbl, w.before #[Value.ref b] s = true) (hgv : (Jvm.Cond.and given_1 narrow_1).before #[Value.ref b] s = true) : ∃ sa sv : Nat, sE "LinkedUnitsModel" 286 " <<= >>= += -= *= /= %= &= |= ^= || && == != <= >= << >> ++ -- ( ) { } [ ] , ; ? : = | ^ & < > + - * / % ! ~ " 109 sa sv (fun j => lwB4.getD j 0) (fun q => s.heap.size ≤ q) s := by
  have hn := flat_of_before _ hgv
  have hA : ∀ a : Nat, a < s.heap.size → ¬ s.heap.size ≤ a := fun a h => Nat.not_le.mpr h
  obtain ⟨adK, adV, hS, hK⟩ := vk_Sof (args := #[Value.ref b]) (s := s) (N := 1) (tm := fun _ => .string "LinkedUnitsModel" 286) (len := [109]) (byt := [lwB4]) (A := fun q => s.heap.size ≤ q)
    (fun i hi => by obtain rfl : i = 0 := by omega
                    decide)
    (fun i hi => hn _ (by decide +kernel)) (fun i hi => hn _ (by decide +kernel)) (fun i hi => hn _ (by decide +kernel))
    (fun i hi => by obtain rfl : i = 0 := by omega
                    exact hn (Cond.eq (.length (.field (.string "LinkedUnitsModel" 286) "java/lang/String" "value" "[B")) (.int 109)) (by decide +kernel))
    (fun i hi j hj => by obtain rfl : i = 0 := by omega
                         exact hn _ (lw_m4 j hj))
    (fun i j hi hj hij => absurd (by omega) hij) hA
  obtain ⟨h1, h2, h3, h4⟩ := hS.1 0 (by decide)
  refine ⟨adK 0, adV 0, vk_R.of (hts (Cond.stringRef "LinkedUnitsModel" 286 " <<= >>= += -= *= /= %= &= |= ^= || && == != <= >= << >> ++ -- ( ) { } [ ] , ; ? : = | ^ & < > + - * / % ! ~ ") (List.mem_append_right _ (tin_10 (List.mem_of_getElem? (i := 100) rfl)))) (hK 0 (by decide)), h1, h2, h3, h4, ?_, ?_⟩
  · exact va_Zof (hts (Cond.laysStatic "java/lang/String" "COMPACT_STRINGS" "Z") (List.mem_append_right _ (tin_1 (List.mem_of_getElem? (i := 180) rfl)))) (hts (Cond.initialized "java/lang/String") (List.mem_append_right _ (tin_1 (List.mem_of_getElem? (i := 6) rfl)))) (va_eqt (hn (Cond.eq (.static "java/lang/String" "COMPACT_STRINGS" "Z") (.int 1)) (by decide +kernel))) hA
  · exact va_Zqof (hts (Cond.laysStatic "jdk/internal/util/Preconditions" "SIOOBE_FORMATTER" "Ljava/util/function/BiFunction;") (List.mem_append_right _ (tin_1 (List.mem_of_getElem? (i := 196) rfl)))) (hts (Cond.initialized "jdk/internal/util/Preconditions") (List.mem_append_right _ (tin_1 (List.mem_of_getElem? (i := 8) rfl)))) (hn (Cond.isRef (.static "jdk/internal/util/Preconditions" "SIOOBE_FORMATTER" "Ljava/util/function/BiFunction;")) (by decide +kernel)) hA
set_option maxHeartbeats 4000000 in
set_option maxRecDepth 100000 in
theorem lw_str5 {s : State} {b : Nat} (hts : ∀ w ∈ lw_tbl, w.before #[Value.ref b] s = true) (hgv : (Jvm.Cond.and given_1 narrow_1).before #[Value.ref b] s = true) : ∃ sa sv : Nat, sE "LinkedUnitsModel" 692 " get put print stop " 20 sa sv (fun j => lwB5.getD j 0) (fun q => s.heap.size ≤ q) s := by
  have hn := flat_of_before _ hgv
  have hA : ∀ a : Nat, a < s.heap.size → ¬ s.heap.size ≤ a := fun a h => Nat.not_le.mpr h
  obtain ⟨adK, adV, hS, hK⟩ := vk_Sof (args := #[Value.ref b]) (s := s) (N := 1) (tm := fun _ => .string "LinkedUnitsModel" 692) (len := [20]) (byt := [lwB5]) (A := fun q => s.heap.size ≤ q)
    (fun i hi => by obtain rfl : i = 0 := by omega
                    decide)
    (fun i hi => hn _ (by decide +kernel)) (fun i hi => hn _ (by decide +kernel)) (fun i hi => hn _ (by decide +kernel))
    (fun i hi => by obtain rfl : i = 0 := by omega
                    exact hn (Cond.eq (.length (.field (.string "LinkedUnitsModel" 692) "java/lang/String" "value" "[B")) (.int 20)) (by decide +kernel))
    (fun i hi j hj => by obtain rfl : i = 0 := by omega
                         exact hn _ (lw_m5 j hj))
    (fun i j hi hj hij => absurd (by omega) hij) hA
  obtain ⟨h1, h2, h3, h4⟩ := hS.1 0 (by decide)
  refine ⟨adK 0, adV 0, vk_R.of (hts (Cond.stringRef "LinkedUnitsModel" 692 " get put print stop ") (List.mem_append_right _ (tin_12 (List.mem_of_getElem? (i := 48) rfl)))) (hK 0 (by decide)), h1, h2, h3, h4, ?_, ?_⟩
  · exact va_Zof (hts (Cond.laysStatic "java/lang/String" "COMPACT_STRINGS" "Z") (List.mem_append_right _ (tin_1 (List.mem_of_getElem? (i := 180) rfl)))) (hts (Cond.initialized "java/lang/String") (List.mem_append_right _ (tin_1 (List.mem_of_getElem? (i := 6) rfl)))) (va_eqt (hn (Cond.eq (.static "java/lang/String" "COMPACT_STRINGS" "Z") (.int 1)) (by decide +kernel))) hA
  · exact va_Zqof (hts (Cond.laysStatic "jdk/internal/util/Preconditions" "SIOOBE_FORMATTER" "Ljava/util/function/BiFunction;") (List.mem_append_right _ (tin_1 (List.mem_of_getElem? (i := 196) rfl)))) (hts (Cond.initialized "jdk/internal/util/Preconditions") (List.mem_append_right _ (tin_1 (List.mem_of_getElem? (i := 8) rfl)))) (hn (Cond.isRef (.static "jdk/internal/util/Preconditions" "SIOOBE_FORMATTER" "Ljava/util/function/BiFunction;")) (by decide +kernel)) hA
theorem k_sEnv {s : State} {b : Nat} (hts : ∀ w ∈ lw_tbl, w.before #[Value.ref b] s = true) (hgv : (Jvm.Cond.and given_1 narrow_1).before #[Value.ref b] s = true) : ∃ sa sv : Nat, sEnv sa sv (fun q => s.heap.size ≤ q) s := lw_str0 hts hgv
theorem k_em {s : State} {b : Nat} (hts : ∀ w ∈ lw_tbl, w.before #[Value.ref b] s = true) (hgv : (Jvm.Cond.and given_1 narrow_1).before #[Value.ref b] s = true) : ∃ am : Nat → Nat, EM am (fun q => s.heap.size ≤ q) s := by
  obtain ⟨a0, v0, h0⟩ := lw_str3 hts hgv
  obtain ⟨a1, v1, h1⟩ := lw_str4 hts hgv
  obtain ⟨a2, v2, h2⟩ := lw_str5 hts hgv
  refine ⟨fun j => [a0, v0, a1, v1, a2, v2].getD j 0, fun j hj => ?_⟩
  obtain rfl | rfl | rfl : j = 0 ∨ j = 1 ∨ j = 2 := by omega
  · exact h0
  · exact h1
  · exact h2
set_option maxHeartbeats 4000000 in
set_option maxRecDepth 100000 in
theorem lw_arr0 {s : State} {b : Nat} (hts : ∀ w ∈ lw_tbl, w.before #[Value.ref b] s = true) (hgv : (Jvm.Cond.and given_1 narrow_1).before #[Value.ref b] s = true) : ∃ t : Nat, va_Z "LinkedUnits$Grammar" "LEVELS" "[I" (.ref t) (fun q => s.heap.size ≤ q) s s.heap ∧ va_T .int t 18 (fun j => .int (lwL0.getD j 0)) (fun q => s.heap.size ≤ q) s s.heap := by
  have hn := flat_of_before _ hgv
  have hA : ∀ a : Nat, a < s.heap.size → ¬ s.heap.size ≤ a := fun a h => Nat.not_le.mpr h
  obtain ⟨t, h1, h2⟩ := va_Tof (args := #[Value.ref b]) (s := s) (tm := .static "LinkedUnits$Grammar" "LEVELS" "[I") (ty := .int) (N := 18) (f := fun j => .int (lwL0.getD j 0)) (A := fun q => s.heap.size ≤ q) (by decide) (hn _ (by decide +kernel)) (va_eqt (hn (Cond.eq (.length (.static "LinkedUnits$Grammar" "LEVELS" "[I")) (.int 18)) (by decide +kernel))) (fun j hj => va_eqt (hn _ (lw_n0 j hj))) hA
  exact ⟨t, va_Zof (hts (Cond.laysStatic "LinkedUnits$Grammar" "LEVELS" "[I") (List.mem_append_right _ (tin_5 (List.mem_of_getElem? (i := 14) rfl)))) (hts (Cond.initialized "LinkedUnits$Grammar") (List.mem_append_right _ (tin_1 (List.mem_of_getElem? (i := 3) rfl)))) h1 hA, h2⟩
set_option maxHeartbeats 4000000 in
set_option maxRecDepth 100000 in
theorem lw_arr1 {s : State} {b : Nat} (hts : ∀ w ∈ lw_tbl, w.before #[Value.ref b] s = true) (hgv : (Jvm.Cond.and given_1 narrow_1).before #[Value.ref b] s = true) : ∃ t : Nat, va_Z "LinkedUnits$Code" "LENGTHS" "[I" (.ref t) (fun q => s.heap.size ≤ q) s s.heap ∧ va_T .int t 61 (fun j => .int (lwL1.getD j 0)) (fun q => s.heap.size ≤ q) s s.heap := by
  have hn := flat_of_before _ hgv
  have hA : ∀ a : Nat, a < s.heap.size → ¬ s.heap.size ≤ a := fun a h => Nat.not_le.mpr h
  obtain ⟨t, h1, h2⟩ := va_Tof (args := #[Value.ref b]) (s := s) (tm := .static "LinkedUnits$Code" "LENGTHS" "[I") (ty := .int) (N := 61) (f := fun j => .int (lwL1.getD j 0)) (A := fun q => s.heap.size ≤ q) (by decide) (hn _ (by decide +kernel)) (va_eqt (hn (Cond.eq (.length (.static "LinkedUnits$Code" "LENGTHS" "[I")) (.int 61)) (by decide +kernel))) (fun j hj => va_eqt (hn _ (lw_n1 j hj))) hA
  exact ⟨t, va_Zof (hts (Cond.laysStatic "LinkedUnits$Code" "LENGTHS" "[I") (List.mem_append_right _ (tin_5 (List.mem_of_getElem? (i := 116) rfl)))) (hts (Cond.initialized "LinkedUnits$Code") (List.mem_append_right _ (tin_1 (List.mem_of_getElem? (i := 4) rfl)))) h1 hA, h2⟩
theorem k_ec {s : State} {b : Nat} (hts : ∀ w ∈ lw_tbl, w.before #[Value.ref b] s = true) (hgv : (Jvm.Cond.and given_1 narrow_1).before #[Value.ref b] s = true) : ∃ (a : Nat → Nat), EC a gC (fun q => s.heap.size ≤ q) s := by
  obtain ⟨t0, z0, h0⟩ := lw_arr0 hts hgv
  obtain ⟨t1, z1, h1⟩ := lw_arr1 hts hgv
  obtain ⟨a2, v2, h2⟩ := lw_str1 hts hgv
  obtain ⟨a3, v3, h3⟩ := lw_str2 hts hgv
  exact ⟨fun j => [t0, t1, a2, v2, a3, v3].getD j 0, z0, h0, z1, h1, h2, h3⟩
theorem k_mEnv {s : State} {b : Nat} (hts : ∀ w ∈ lw_tbl, w.before #[Value.ref b] s = true) (hgv : (Jvm.Cond.and given_1 narrow_1).before #[Value.ref b] s = true) : mEnv (fun q => s.heap.size ≤ q) s := by
  have hn := flat_of_before _ hgv
  have hA : ∀ a : Nat, a < s.heap.size → ¬ s.heap.size ≤ a := fun a h => Nat.not_le.mpr h
  refine ⟨fun w hw => va_Nw.of (xAtN_dc w hw).2 (hts w (xAt_in w (List.mem_filter.mp hw).1)), ?_, ?_⟩
  · exact vx_Zqof (hts (Cond.laysStatic Bundle.tN "UNASSIGNED_STACK" Bundle.steD) (by decide +kernel)) (hts (Cond.initialized Bundle.tN) (by decide +kernel)) (hn (Cond.isRef (.static Bundle.tN "UNASSIGNED_STACK" Bundle.steD)) (by decide +kernel)) hA
  · exact vx_Zqof (hts (Cond.laysStatic Bundle.tN "SUPPRESSED_SENTINEL" Bundle.listD) (by decide +kernel)) (hts (Cond.initialized Bundle.tN) (by decide +kernel)) (hn (Cond.isRef (.static Bundle.tN "SUPPRESSED_SENTINEL" Bundle.listD)) (by decide +kernel)) hA
