set_option maxHeartbeats 4000000 in
set_option maxRecDepth 100000 in
theorem k_known {s : State} {b : Nat} (hts : ∀ w ∈ lw_tbl, w.before #[Value.ref b] s = true) (hg : ∀ w ∈ GW, w.before #[Value.ref b] s = true) : ∃ (D : va_G) (cy : Nat → ClassId), va_K D vwCl (kTy cy) s := by
  obtain ⟨c0, i0, h0⟩ := u_known (C := "LinkedUnits$Code") (T := TX0) (N := 2) hg iwX0 (hts (Cond.instantiable "LinkedUnits$Code" 2) (by decide +kernel))
  obtain ⟨c1, i1, h1⟩ := u_known (C := "LinkedUnits$Declarations") (T := TX1) (N := 18) hg iwX1 (hts (Cond.instantiable "LinkedUnits$Declarations" 18) (by decide +kernel))
  obtain ⟨c2, i2, h2⟩ := u_known (C := "LinkedUnits$Expressions") (T := TX2) (N := 8) hg iwX2 (hts (Cond.instantiable "LinkedUnits$Expressions" 8) (by decide +kernel))
  obtain ⟨c3, i3, h3⟩ := u_known (C := "LinkedUnits$Grammar") (T := TX3) (N := 12) hg iwX3 (hts (Cond.instantiable "LinkedUnits$Grammar" 12) (by decide +kernel))
  obtain ⟨c4, i4, h4⟩ := u_known (C := "LinkedUnits$Image") (T := TX4) (N := 12) hg iwX4 (hts (Cond.instantiable "LinkedUnits$Image" 12) (by decide +kernel))
  obtain ⟨c5, i5, h5⟩ := u_known (C := "LinkedUnits$Machine") (T := TX5) (N := 19) hg iwX5 (hts (Cond.instantiable "LinkedUnits$Machine" 19) (by decide +kernel))
  obtain ⟨c6, i6, h6⟩ := u_known (C := "LinkedUnits$Operand") (T := TX6) (N := 13) hg iwX6 (hts (Cond.instantiable "LinkedUnits$Operand" 13) (by decide +kernel))
  obtain ⟨c7, i7, h7⟩ := u_known (C := "LinkedUnits$Statements") (T := TX7) (N := 12) hg iwX7 (hts (Cond.instantiable "LinkedUnits$Statements" 12) (by decide +kernel))
  obtain ⟨c8, i8, h8⟩ := u_known (C := "LinkedUnits$Store") (T := TX8) (N := 18) hg iwX8 (hts (Cond.instantiable "LinkedUnits$Store" 18) (by decide +kernel))
  obtain ⟨c9, i9, h9⟩ := u_known (C := "LinkedUnits$Tape") (T := TX9) (N := 5) hg iwX9 (hts (Cond.instantiable "LinkedUnits$Tape" 5) (by decide +kernel))
  obtain ⟨c10, i10, h10⟩ := u_known (C := "LinkedUnits$Tokens") (T := TX10) (N := 10) hg iwX10 (hts (Cond.instantiable "LinkedUnits$Tokens" 10) (by decide +kernel))
  obtain ⟨c11, i11, h11⟩ := u_known (C := "LinkedUnits$Unit") (T := TX11) (N := 19) hg iwX11 (hts (Cond.instantiable "LinkedUnits$Unit" 19) (by decide +kernel))
  obtain ⟨c12, i12, h12⟩ := u_known (C := "LinkedUnits") (T := TX12) (N := 15) hg iwX12 (hts (Cond.instantiable "LinkedUnits" 15) (by decide +kernel))
  obtain ⟨c13, i13, h13⟩ := u_known (C := "LinkedUnitsModel") (T := TX14) (N := 100) hg iwX14 (hts (Cond.instantiable "LinkedUnitsModel" 100) (by decide +kernel))
  obtain ⟨c14, i14, h14⟩ := u_known (C := "java/lang/IllegalStateException") (T := TXE) (N := 0) hg (fun w hw => by simp [u_ws] at hw) (hts (Cond.instantiable "java/lang/IllegalStateException" 6) (by decide +kernel))
  obtain ⟨y0, k0, p0, a0, b0, d0⟩ := Cond.arrayClass_spec (hts (Cond.arrayClass .byte) (by decide +kernel))
  obtain ⟨y1, k1, p1, a1, b1, d1⟩ := Cond.arrayClass_spec (hts (Cond.arrayClass .int) (by decide +kernel))
  obtain ⟨y2, k2, p2, a2, b2, d2⟩ := Cond.arrayClass_spec (hts (Cond.arrayClass .boolean) (by decide +kernel))
  obtain ⟨p3, y3, k3, a3, -, b3, d3, e3⟩ := Cond.arrayOver_spec (hts (Cond.arrayOver (.object "LinkedUnits$Operand")) (by decide +kernel))
  refine ⟨(fun k => [c0, c1, c2, c3, c4, c5, c6, c7, c8, c9, c10, c11, c12, c13, c14].getD k 0, fun k => [i0, i1, i2, i3, i4, i5, i6, i7, i8, i9, i10, i11, i12, i13, i14].getD k (fun _ => 0)), fun k => [y0, y1, y2, y3].getD k 0, fun c q hq => ?_, fun k q hq => ?_⟩
  · have hc : c < 15 := (List.getElem?_eq_some_iff.mp hq).1
    obtain rfl | rfl | rfl | rfl | rfl | rfl | rfl | rfl | rfl | rfl | rfl | rfl | rfl | rfl | rfl : c = 0 ∨ c = 1 ∨ c = 2 ∨ c = 3 ∨ c = 4 ∨ c = 5 ∨ c = 6 ∨ c = 7 ∨ c = 8 ∨ c = 9 ∨ c = 10 ∨ c = 11 ∨ c = 12 ∨ c = 13 ∨ c = 14 := by omega
    · obtain rfl := Option.some.inj hq; exact h0
    · obtain rfl := Option.some.inj hq; exact h1
    · obtain rfl := Option.some.inj hq; exact h2
    · obtain rfl := Option.some.inj hq; exact h3
    · obtain rfl := Option.some.inj hq; exact h4
    · obtain rfl := Option.some.inj hq; exact h5
    · obtain rfl := Option.some.inj hq; exact h6
    · obtain rfl := Option.some.inj hq; exact h7
    · obtain rfl := Option.some.inj hq; exact h8
    · obtain rfl := Option.some.inj hq; exact h9
    · obtain rfl := Option.some.inj hq; exact h10
    · obtain rfl := Option.some.inj hq; exact h11
    · obtain rfl := Option.some.inj hq; exact h12
    · obtain rfl := Option.some.inj hq; exact h13
    · obtain rfl := Option.some.inj hq; exact h14
  · have hc : k < 4 := (List.getElem?_eq_some_iff.mp hq).1
    obtain rfl | rfl | rfl | rfl : k = 0 ∨ k = 1 ∨ k = 2 ∨ k = 3 := by omega
    · obtain rfl := Option.some.inj hq; exact ⟨fun n z => ⟨fun k h => (by cases h), k0, b0, p0, d0⟩, a0⟩
    · obtain rfl := Option.some.inj hq; exact ⟨fun n z => ⟨fun k h => (by cases h), k1, b1, p1, d1⟩, a1⟩
    · obtain rfl := Option.some.inj hq; exact ⟨fun n z => ⟨fun k h => (by cases h), k2, b2, p2, d2⟩, a2⟩
    · obtain rfl := Option.some.inj hq; exact ⟨fun n z => ⟨fun k h => (by cases h), k3, b3, p3, d3⟩, ⟨k3, p3, b3, d3, a3, e3⟩⟩
theorem k_notrace {l : Launch} (h : l.flags = flags0) : l.stackTraces = false := by
  show (!l.flags.contains Jvm.noTraceFlag) = false
  rw [h]
  decide +kernel
theorem nwOK_of {s : State} {A : Array Value} (hts : ∀ w ∈ lw_tbl, w.before A s = true) : nwOK s :=
  ⟨fun w hw => va_Nw.of (nest_tab (List.mem_filter.mp hw).2) (hts w (List.mem_filter.mp hw).1), va_AO.of (hts (Cond.arrayOver (.object "LinkedUnits$Operand")) (by decide +kernel))⟩
set_option maxHeartbeats 4000000 in
set_option maxRecDepth 100000 in
theorem k_sEnv {s : State} {b : Nat} (hts : ∀ w ∈ lw_tbl, w.before #[Value.ref b] s = true) (hgv : (Jvm.Cond.and given_1 narrow_1).before #[Value.ref b] s = true) : ∃ sa sv : Nat, sEnv sa sv (fun q => s.heap.size ≤ q) s := by
  have hn := flat_of_before _ hgv
  have hA : ∀ a : Nat, a < s.heap.size → ¬ s.heap.size ≤ a := fun a h => Nat.not_le.mpr h
  have hel : ∀ j : Nat, j < 19 → (Cond.eq (.elem (.field (.string "LinkedUnits$Store" 71) "java/lang/String" "value" "[B") (.int (Int32.ofNat j))) (.int (libB j))).before #[Value.ref b] s = true := fun j hj => by
    obtain rfl | rfl | rfl | rfl | rfl | rfl | rfl | rfl | rfl | rfl | rfl | rfl | rfl | rfl | rfl | rfl | rfl | rfl | rfl : j = 0 ∨ j = 1 ∨ j = 2 ∨ j = 3 ∨ j = 4 ∨ j = 5 ∨ j = 6 ∨ j = 7 ∨ j = 8 ∨ j = 9 ∨ j = 10 ∨ j = 11 ∨ j = 12 ∨ j = 13 ∨ j = 14 ∨ j = 15 ∨ j = 16 ∨ j = 17 ∨ j = 18 := by omega
    · exact hn (Cond.eq (.elem (.field (.string "LinkedUnits$Store" 71) "java/lang/String" "value" "[B") (.int (Int32.ofNat 0))) (.int (libB 0))) (by decide +kernel)
    · exact hn (Cond.eq (.elem (.field (.string "LinkedUnits$Store" 71) "java/lang/String" "value" "[B") (.int (Int32.ofNat 1))) (.int (libB 1))) (by decide +kernel)
    · exact hn (Cond.eq (.elem (.field (.string "LinkedUnits$Store" 71) "java/lang/String" "value" "[B") (.int (Int32.ofNat 2))) (.int (libB 2))) (by decide +kernel)
    · exact hn (Cond.eq (.elem (.field (.string "LinkedUnits$Store" 71) "java/lang/String" "value" "[B") (.int (Int32.ofNat 3))) (.int (libB 3))) (by decide +kernel)
    · exact hn (Cond.eq (.elem (.field (.string "LinkedUnits$Store" 71) "java/lang/String" "value" "[B") (.int (Int32.ofNat 4))) (.int (libB 4))) (by decide +kernel)
    · exact hn (Cond.eq (.elem (.field (.string "LinkedUnits$Store" 71) "java/lang/String" "value" "[B") (.int (Int32.ofNat 5))) (.int (libB 5))) (by decide +kernel)
    · exact hn (Cond.eq (.elem (.field (.string "LinkedUnits$Store" 71) "java/lang/String" "value" "[B") (.int (Int32.ofNat 6))) (.int (libB 6))) (by decide +kernel)
    · exact hn (Cond.eq (.elem (.field (.string "LinkedUnits$Store" 71) "java/lang/String" "value" "[B") (.int (Int32.ofNat 7))) (.int (libB 7))) (by decide +kernel)
    · exact hn (Cond.eq (.elem (.field (.string "LinkedUnits$Store" 71) "java/lang/String" "value" "[B") (.int (Int32.ofNat 8))) (.int (libB 8))) (by decide +kernel)
    · exact hn (Cond.eq (.elem (.field (.string "LinkedUnits$Store" 71) "java/lang/String" "value" "[B") (.int (Int32.ofNat 9))) (.int (libB 9))) (by decide +kernel)
    · exact hn (Cond.eq (.elem (.field (.string "LinkedUnits$Store" 71) "java/lang/String" "value" "[B") (.int (Int32.ofNat 10))) (.int (libB 10))) (by decide +kernel)
    · exact hn (Cond.eq (.elem (.field (.string "LinkedUnits$Store" 71) "java/lang/String" "value" "[B") (.int (Int32.ofNat 11))) (.int (libB 11))) (by decide +kernel)
    · exact hn (Cond.eq (.elem (.field (.string "LinkedUnits$Store" 71) "java/lang/String" "value" "[B") (.int (Int32.ofNat 12))) (.int (libB 12))) (by decide +kernel)
    · exact hn (Cond.eq (.elem (.field (.string "LinkedUnits$Store" 71) "java/lang/String" "value" "[B") (.int (Int32.ofNat 13))) (.int (libB 13))) (by decide +kernel)
    · exact hn (Cond.eq (.elem (.field (.string "LinkedUnits$Store" 71) "java/lang/String" "value" "[B") (.int (Int32.ofNat 14))) (.int (libB 14))) (by decide +kernel)
    · exact hn (Cond.eq (.elem (.field (.string "LinkedUnits$Store" 71) "java/lang/String" "value" "[B") (.int (Int32.ofNat 15))) (.int (libB 15))) (by decide +kernel)
    · exact hn (Cond.eq (.elem (.field (.string "LinkedUnits$Store" 71) "java/lang/String" "value" "[B") (.int (Int32.ofNat 16))) (.int (libB 16))) (by decide +kernel)
    · exact hn (Cond.eq (.elem (.field (.string "LinkedUnits$Store" 71) "java/lang/String" "value" "[B") (.int (Int32.ofNat 17))) (.int (libB 17))) (by decide +kernel)
    · exact hn (Cond.eq (.elem (.field (.string "LinkedUnits$Store" 71) "java/lang/String" "value" "[B") (.int (Int32.ofNat 18))) (.int (libB 18))) (by decide +kernel)
  obtain ⟨adK, adV, hS, hK⟩ := vk_Sof (args := #[Value.ref b]) (s := s) (N := 1) (tm := fun _ => .string "LinkedUnits$Store" 71) (len := [19]) (byt := [([103, 101, 116, 32, 112, 117, 116, 32, 112, 114, 105, 110, 116, 32, 115, 116, 111, 112, 32] : List Int32)]) (A := fun q => s.heap.size ≤ q)
    (fun i hi => by obtain rfl : i = 0 := by omega
                    decide)
    (fun i hi => hn _ (by decide +kernel)) (fun i hi => hn _ (by decide +kernel)) (fun i hi => hn _ (by decide +kernel))
    (fun i hi => by obtain rfl : i = 0 := by omega
                    exact hn (Cond.eq (.length (.field (.string "LinkedUnits$Store" 71) "java/lang/String" "value" "[B")) (.int 19)) (by decide +kernel))
    (fun i hi j hj => by obtain rfl : i = 0 := by omega
                         exact hel j hj)
    (fun i j hi hj hij => absurd (by omega) hij) hA
  obtain ⟨h1, h2, h3, h4⟩ := hS.1 0 (by decide)
  refine ⟨adK 0, adV 0, vk_R.of (hts (Cond.stringRef "LinkedUnits$Store" 71 libT) (by decide +kernel)) (hK 0 (by decide)), h1, h2, h3, h4, ?_, ?_⟩
  · exact va_Zof (hts (Cond.laysStatic "java/lang/String" "COMPACT_STRINGS" "Z") (by decide +kernel)) (hts (Cond.initialized "java/lang/String") (by decide +kernel)) (va_eqt (hn (Cond.eq (.static "java/lang/String" "COMPACT_STRINGS" "Z") (.int 1)) (by decide +kernel))) hA
  · exact va_Zqof (hts (Cond.laysStatic "jdk/internal/util/Preconditions" "SIOOBE_FORMATTER" "Ljava/util/function/BiFunction;") (by decide +kernel)) (hts (Cond.initialized "jdk/internal/util/Preconditions") (by decide +kernel)) (hn (Cond.isRef (.static "jdk/internal/util/Preconditions" "SIOOBE_FORMATTER" "Ljava/util/function/BiFunction;")) (by decide +kernel)) hA
theorem k_mEnv {s : State} {b : Nat} (hts : ∀ w ∈ lw_tbl, w.before #[Value.ref b] s = true) (hgv : (Jvm.Cond.and given_1 narrow_1).before #[Value.ref b] s = true) : mEnv (fun q => s.heap.size ≤ q) s := by
  have hn := flat_of_before _ hgv
  have hA : ∀ a : Nat, a < s.heap.size → ¬ s.heap.size ≤ a := fun a h => Nat.not_le.mpr h
  refine ⟨fun w hw => va_Nw.of (xAtN_dc w hw).2 (hts w (xAt_in w (List.mem_filter.mp hw).1)), ?_, ?_⟩
  · exact vx_Zqof (hts (Cond.laysStatic Bundle.tN "UNASSIGNED_STACK" Bundle.steD) (by decide +kernel)) (hts (Cond.initialized Bundle.tN) (by decide +kernel)) (hn (Cond.isRef (.static Bundle.tN "UNASSIGNED_STACK" Bundle.steD)) (by decide +kernel)) hA
  · exact vx_Zqof (hts (Cond.laysStatic Bundle.tN "SUPPRESSED_SENTINEL" Bundle.listD) (by decide +kernel)) (hts (Cond.initialized Bundle.tN) (by decide +kernel)) (hn (Cond.isRef (.static Bundle.tN "SUPPRESSED_SENTINEL" Bundle.listD)) (by decide +kernel)) hA
