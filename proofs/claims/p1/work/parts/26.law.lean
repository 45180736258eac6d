theorem k_out {p : Program} {l : Launch} {e : Env} {s : State} {m : MethodId} {below : List Frame} {meth : Method} {c : Code} {H : Heap} {locs : List Loc} {b : Nat} {ls : Array Slot} {cells slots : Nat}
    (hx : p.tables.exec = Jvm.exec) (hb : c.code = code) (hr : meth.sig.returnType = ret) (hlocks : meth.locks = false) (h1 : cells ≤ 600002) (h2 : slots ≤ 7302232) (hf : ∀ q ∈ locs, s.heap.size ≤ q.base) :
    W p l e room_1 s m #[Value.ref b] below meth c H locs cells slots (lw_Z below #[Value.ref b] s) (F0 m 621 ls []) := by
  refine va_forget hf ?_
  refine W.widen h1 h2 ?_
  refine lv_iconst (v := 1) hx hb dl_621 (by decide) ?_
  exact lw_ret hx hb hr hlocks dl_622
theorem k_lt6 : ∀ L, L < 6 → Int32.ofNat L - 6 < 0 := k_all 6 (by decide +kernel)
theorem k_six {L : Nat} (hL : L ≤ 6) (h : ¬ Int32.ofNat L - 6 < 0) : L = 6 := by
  rcases Nat.lt_or_ge L 6 with q | q
  · exact absurd (k_lt6 L q) h
  · omega
theorem k_ne0 {x : Int32} (h : ¬ x = 0) : x < 0 ∨ 0 < x := by
  have e0 : (0 : Int32).toInt = 0 := by decide
  by_cases q : x.toInt < 0
  · exact Or.inl (Int32.lt_iff_toInt_lt.mpr (by rw [e0]; exact q))
  · refine Or.inr (Int32.lt_iff_toInt_lt.mpr ?_)
    rw [e0]
    by_cases z : x.toInt = 0
    · exact absurd (Int32.toInt_inj.mp (z.trans e0.symm)) h
    · omega
set_option maxHeartbeats 4000000 in
set_option maxRecDepth 100000 in
theorem k_again {p : Program} {l : Launch} {e : Env} {s : State} {m : MethodId} {below : List Frame} {meth : Method} {c : Code} {H : Heap} {locs : List Loc} {b : Nat} {xs : Nat → Int32} {ls : Array Slot}
    (hx : p.tables.exec = Jvm.exec) (hb : c.code = code) (hr : meth.sig.returnType = ret) (hml : c.maxLocals = 4) (hlocks : meth.locks = false) (hX : va_X b 6 xs s s.heap) (hbl : b < s.heap.size) (hbA : ¬ s.heap.size ≤ b) (hS : va_S (fun q => s.heap.size ≤ q) s.heap H locs) (hl : lv_has ls 4 [(3, .int 0), (0, .ref b)]) :
    W p l e room_1 s m #[Value.ref b] below meth c H locs 600002 7302232 (lw_Z below #[Value.ref b] s) (F0 m 615 ls []) := by
  refine lv_iinc (v := 6) (lv' := [(3, .int 6), (0, .ref b)]) hx hb dl_615 hl (k := 0) rfl (by decide) (by decide) rfl (fun ls hl => ?_)
  refine lv_goto (tgt := 18) hx hb dl_618 (by decide) ?_
  refine lv_iload_n hx hb dl_18 rfl (lv_at hl 0 rfl) ?_
  refine lv_aload_n hx hb dl_19 rfl (lv_at hl 1 rfl) ?_
  refine va_slen hx hb hX hbl hbA hS dl_20 ?_
  refine lv_bipush (v := 6) hx hb dl_21 (by decide) ?_
  refine lv_isub hx hb dl_23 ?_
  refine lv_icmp_gt (tgt := 621) hx hb dl_24 (by decide) (fun _ => ?_) (fun c_24 => False.elim (by revert c_24; decide))
  exact k_out hx hb hr hlocks (Nat.le_refl _) (Nat.le_refl _) hS.2.2
set_option maxHeartbeats 4000000 in
set_option maxRecDepth 100000 in
/-- the one record that fits -/
theorem k_step {p : Program} {l : Launch} {e : Env} {s : State} {m : MethodId} {below : List Frame} {meth : Method} {c : Code} {H : Heap} {locs : List Loc} {Q : State → Prop} {D : va_G} {cy : Nat → ClassId} {A : Nat → Prop} {b : Nat} {xs : Nat → Int32} {ls : Array Slot} {u v : Nat → Nat}
    (hx : p.tables.exec = Jvm.exec) (hb : c.code = code) (hml : c.maxLocals = 4) (hown : s.vm.findClass "LinkedUnitsLaw" = some m.cls) (hg : ∀ w ∈ GW, w.before #[Value.ref b] s = true) (hNW : nwOK s) (hK : va_K D vwCl (kTy cy) s) (hA : ∀ q, s.heap.size ≤ q → A q) (hX : va_X b 6 xs s s.heap) (hbl : b < s.heap.size) (hbA : ¬ A b)
    (hP : va_P D vwCl (wAll cy u v) H) (hD : va_D A (wAll cy u v)) (hS : va_S A s.heap H locs) (hl : lv_has ls 4 [(3, .int 0), (2, .ref (v 0)), (1, .ref (u 0)), (0, .ref b)])
    (kk : ∀ (H : Heap) (locs : List Loc) (ls : Array Slot), va_S A s.heap H locs → lv_has ls 4 [(3, .int 0), (0, .ref b)] → W p l e room_1 s m #[Value.ref b] below meth c H locs 600002 7302232 Q (F0 m 615 ls [])) : W p l e room_1 s m #[Value.ref b] below meth c H locs 620 2350875 Q (F0 m 27 ls []) := by
  refine lv_aload_n hx hb dl_27 rfl (lv_at hl 3 rfl) ?_
  refine lv_iload_n hx hb dl_28 rfl (lv_at hl 0 rfl) ?_
  refine va_sld hx hb hX hbl hbA hS (k_inK (by decide)) dl_29 ?_
  refine k_topi (xs 0) (congrArg xs (by decide)) ?_
  refine lv_bipush (v := 31) hx hb dl_30 (by decide) ?_
  refine lv_iand hx hb dl_32 ?_
  obtain ⟨j, hj, e9⟩ := pk_andE (xs 0) (m := 31) 5 (by decide)
  refine k_topi (nI j) e9 ?_
  rcases Nat.lt_or_ge j 21 with h21 | h21
  · obtain rfl | rfl | rfl | rfl | rfl | rfl | rfl | rfl | rfl | rfl | rfl | rfl | rfl | rfl | rfl | rfl | rfl | rfl | rfl | rfl | rfl : j = 0 ∨ j = 1 ∨ j = 2 ∨ j = 3 ∨ j = 4 ∨ j = 5 ∨ j = 6 ∨ j = 7 ∨ j = 8 ∨ j = 9 ∨ j = 10 ∨ j = 11 ∨ j = 12 ∨ j = 13 ∨ j = 14 ∨ j = 15 ∨ j = 16 ∨ j = 17 ∨ j = 18 ∨ j = 19 ∨ j = 20 := by omega
    · refine lv_tableIn (off := 99) (tgt := 132) hx hb dl_33 (by decide +kernel) (by decide +kernel) (by decide +kernel) (by decide) ?_
      exact k_case_0 hx hb hml hown hg hNW hK hA hX hbl hbA hP hD hS hl kk
    · refine lv_tableIn (off := 162) (tgt := 195) hx hb dl_33 (by decide +kernel) (by decide +kernel) (by decide +kernel) (by decide) ?_
      by_cases h : xs 1 = 0
      · exact k_case_1b hx hb hml hown hg hNW hK hA hX hbl hbA hP hD hS hl kk h
      · exact k_case_1a hx hb hml hown hg hNW hK hA hX hbl hbA hP hD hS hl kk (k_ne0 h)
    · refine lv_tableIn (off := 185) (tgt := 218) hx hb dl_33 (by decide +kernel) (by decide +kernel) (by decide +kernel) (by decide) ?_
      by_cases h0 : xs 1 < 0
      · exact k_case_2a hx hb hml hown hg hNW hK hA hX hbl hbA hP hD hS hl kk (Or.inl h0)
      · by_cases h3 : 3 < xs 1
        · exact k_case_2a hx hb hml hown hg hNW hK hA hX hbl hbA hP hD hS hl kk (Or.inr h3)
        · exact k_case_2b hx hb hml hown hg hNW hK hA hX hbl hbA hP hD hS hl kk h0 h3
    · refine lv_tableIn (off := 208) (tgt := 241) hx hb dl_33 (by decide +kernel) (by decide +kernel) (by decide +kernel) (by decide) ?_
      exact k_case_3 hx hb hml hown hg hNW hK hA hX hbl hbA hP hD hS hl kk
    · refine lv_tableIn (off := 221) (tgt := 254) hx hb dl_33 (by decide +kernel) (by decide +kernel) (by decide +kernel) (by decide) ?_
      exact k_case_4 hx hb hml hown hg hNW hK hA hX hbl hbA hP hD hS hl kk
    · refine lv_tableIn (off := 234) (tgt := 267) hx hb dl_33 (by decide +kernel) (by decide +kernel) (by decide +kernel) (by decide) ?_
      exact k_case_5 hx hb hml hown hg hNW hK hA hX hbl hbA hP hD hS hl kk
    · refine lv_tableIn (off := 267) (tgt := 300) hx hb dl_33 (by decide +kernel) (by decide +kernel) (by decide +kernel) (by decide) ?_
      exact k_case_6 hx hb hml hown hg hNW hK hA hX hbl hbA hP hD hS hl kk
    · refine lv_tableIn (off := 310) (tgt := 343) hx hb dl_33 (by decide +kernel) (by decide +kernel) (by decide +kernel) (by decide) ?_
      exact k_case_7 hx hb hml hown hg hNW hK hA hX hbl hbA hP hD hS hl kk
    · refine lv_tableIn (off := 343) (tgt := 376) hx hb dl_33 (by decide +kernel) (by decide +kernel) (by decide +kernel) (by decide) ?_
      exact k_case_8 hx hb hml hown hg hNW hK hA hX hbl hbA hP hD hS hl kk
    · refine lv_tableIn (off := 366) (tgt := 399) hx hb dl_33 (by decide +kernel) (by decide +kernel) (by decide +kernel) (by decide) ?_
      exact k_case_9 hx hb hml hown hg hNW hK hA hX hbl hbA hP hD hS hl kk
    · refine lv_tableIn (off := 379) (tgt := 412) hx hb dl_33 (by decide +kernel) (by decide +kernel) (by decide +kernel) (by decide) ?_
      exact k_case_10 hx hb hml hown hg hNW hK hA hX hbl hbA hP hD hS hl kk
    · refine lv_tableIn (off := 402) (tgt := 435) hx hb dl_33 (by decide +kernel) (by decide +kernel) (by decide +kernel) (by decide) ?_
      exact k_case_11 hx hb hml hown hg hNW hK hA hX hbl hbA hP hD hS hl kk
    · refine lv_tableIn (off := 415) (tgt := 448) hx hb dl_33 (by decide +kernel) (by decide +kernel) (by decide +kernel) (by decide) ?_
      exact k_case_12 hx hb hml hown hg hNW hK hA hX hbl hbA hP hD hS hl kk
    · refine lv_tableIn (off := 438) (tgt := 471) hx hb dl_33 (by decide +kernel) (by decide +kernel) (by decide +kernel) (by decide) ?_
      exact k_case_13 hx hb hml hown hg hNW hK hA hX hbl hbA hP hD hS hl kk
    · refine lv_tableIn (off := 461) (tgt := 494) hx hb dl_33 (by decide +kernel) (by decide +kernel) (by decide +kernel) (by decide) ?_
      exact k_case_14 hx hb hml hown hg hNW hK hA hX hbl hbA hP hD hS hl kk
    · refine lv_tableIn (off := 474) (tgt := 507) hx hb dl_33 (by decide +kernel) (by decide +kernel) (by decide +kernel) (by decide) ?_
      exact k_case_15 hx hb hml hown hg hNW hK hA hX hbl hbA hP hD hS hl kk
    · refine lv_tableIn (off := 487) (tgt := 520) hx hb dl_33 (by decide +kernel) (by decide +kernel) (by decide +kernel) (by decide) ?_
      exact k_case_16 hx hb hml hown hg hNW hK hA hX hbl hbA hP hD hS hl kk
    · refine lv_tableIn (off := 510) (tgt := 543) hx hb dl_33 (by decide +kernel) (by decide +kernel) (by decide +kernel) (by decide) ?_
      exact k_case_17 hx hb hml hown hg hNW hK hA hX hbl hbA hP hD hS hl kk
    · refine lv_tableIn (off := 523) (tgt := 556) hx hb dl_33 (by decide +kernel) (by decide +kernel) (by decide +kernel) (by decide) ?_
      exact k_case_18 hx hb hml hown hg hNW hK hA hX hbl hbA hP hD hS hl kk
    · refine lv_tableIn (off := 546) (tgt := 579) hx hb dl_33 (by decide +kernel) (by decide +kernel) (by decide +kernel) (by decide) ?_
      exact k_case_19 hx hb hml hown hg hNW hK hA hX hbl hbA hP hD hS hl kk
    · refine lv_tableIn (off := 569) (tgt := 602) hx hb dl_33 (by decide +kernel) (by decide +kernel) (by decide +kernel) (by decide) ?_
      exact k_case_20 hx hb hml hown hg hNW hK hA hX hbl hbA hP hD hS hl kk
  · refine lv_tableOut (tgt := 615) hx hb dl_33 (Or.inr (by rw [nI_toInt (by omega)]; omega)) (by decide) ?_
    refine W.widen (k := 600002) (n := 7302232) (Nat.le_of_ble_eq_true rfl) (Nat.le_of_ble_eq_true rfl) ?_
    exact kk _ _ _ hS (lv_sub hl [0, 3] rfl)
set_option maxHeartbeats 4000000 in
set_option maxRecDepth 100000 in
theorem whole_start {p : Program} {e : Env} {s : State} {m : MethodId} {below : List Frame} {meth : Method} {c : Code} (l : Launch) (hflags : l.flags = flags0) {b L : Nat} {xs : Nat → Int32} (hL : L ≤ 6) (C0 : lw_At p s m meth c b L xs) : W p l e room_1 s m #[Value.ref b] below meth c s.heap [] 0 0 (lw_Z below #[Value.ref b] s) (entryFrame m ([Value.ref b] : List Value).toArray 4) := by
  obtain ⟨hx, hb, hr, hml, hown, hts, hX, hbl, hlocks, hgv⟩ := C0
  have hown : s.vm.findClass "LinkedUnitsLaw" = some m.cls := hown
  have hg : ∀ w ∈ GW, w.before #[Value.ref b] s = true := fun w h => hts w (gw_in h)
  have hNW : nwOK s := nwOK_of hts
  have hst : l.stackTraces = false := k_notrace hflags
  obtain ⟨D, cy, hK⟩ := k_known hts hg
  obtain ⟨sa, sv, hE⟩ := k_sEnv hts hgv
  have hEm := k_mEnv hts hgv
  rw [lg_entry_eq]
  have hl := lv_entry [Value.ref b] (n := 4) (Nat.le_of_ble_eq_true rfl)
  generalize ((lg_sl [Value.ref b] ++ List.replicate (4 - (lg_sl [Value.ref b]).length) Slot.unset).toArray) = ls at hl ⊢
  have hl : lv_has ls 4 [(0, .ref b)] := hl
  obtain ⟨A, hAe⟩ : ∃ A : Nat → Prop, A = (fun q => s.heap.size ≤ q) := ⟨_, rfl⟩
  rw [← hAe] at hE hEm
  have hA : ∀ q, s.heap.size ≤ q → A q := fun q h => by rw [hAe]; exact h
  have hbA : ¬ A b := by rw [hAe]; exact Nat.not_le.mpr hbl
  have hP : va_P D vwCl [] s.heap := fun k q h => by simp at h
  have hD : va_D A [] := ⟨fun i j p q h => by simp at h, fun k q h => by simp at h⟩
  have hS : va_S A s.heap s.heap [] := va_S.rf
  refine va_new (ci := 12) (fs := [.null, .int 0, .int 0, .int 0, .null, .null, .null, .null, .null, .null, .null, .null, .null, .null, .null]) (C := "LinkedUnits") (T := TX12) (N := 15) hx hb hg iwX12 tyX12 tyX12_ok hown (hg _ m_27) (hg _ m_28) (hg _ m_1) hK hP hD hS hA rfl (k_all 15 (by decide +kernel)) (Nat.le_of_ble_eq_true rfl) (Nat.le_of_ble_eq_true rfl) dl_0 (fun q1 H hP hD hS => ?_)
  have hP : va_P D vwCl [(q1, .inr (12, [.null, .int 0, .int 0, .int 0, .null, .null, .null, .null, .null, .null, .null, .null, .null, .null, .null]))] H := hP
  have hD : va_D A [(q1, .inr (12, [.null, .int 0, .int 0, .int 0, .null, .null, .null, .null, .null, .null, .null, .null, .null, .null, .null]))] := hD
  refine W.widen (k := 1) (n := 15) (Nat.le_of_ble_eq_true rfl) (Nat.le_of_ble_eq_true rfl) ?_
  refine lv_dup hx hb dl_3 rfl ?_
  refine k_callv (wc := [(q1, .inr (12, [.null, .int 0, .int 0, .int 0, .null, .null, .null, .null, .null, .null, .null, .null, .null, .null, .null]))]) (wr := []) (va_runI (As := []) (rest := [.ref q1]) ⟨hx, hb, hml, hown, hg⟩ (c_i_LU l D cy H.size sa sv q1) (cwI 0 hg (gw_c m_31) rfl rfl rfl (hg _ m_1) (hg _ m_29) (hg _ m_30) rfl (by decide +kernel) ⟨(Nat.le_of_ble_eq_true rfl), (Nat.le_of_ble_eq_true rfl)⟩) (k_preSE (sEnv_ok sa sv) hS hA hE hP hD hK hNW [0] (by decide) rfl) rfl rfl hl.1 rfl (lv_room (Nat.le_of_ble_eq_true rfl)) dl_4 ⟨(Nat.le_of_ble_eq_true rfl), (Nat.le_of_ble_eq_true rfl)⟩) hP hD hS hA [0] [] rfl rfl (by decide) (by decide) (fun u2 H locs hw hP hD hS => ?_)
  have hP : va_P D vwCl [((u2 0), .inr (12, (oLU u2))), ((u2 1), .inl (cy 0, 16000, .inl (fun _ => 0))), ((u2 2), .inr (10, (oTok u2))), ((u2 13), .inl (cy 1, 16002, .inl (fun _ => 0))), ((u2 14), .inl (cy 1, 16002, .inl (fun _ => 0))), ((u2 15), .inl (cy 1, 16002, .inl (fun _ => 0))), ((u2 16), .inl (cy 1, 16002, .inl (fun _ => 0))), ((u2 3), .inr (3, (oGra u2))), ((u2 4), .inr (0, (oCod u2))), ((u2 5), .inr (8, (oSto u2))), ((u2 25), .inl (cy 1, 10100, .inl sFl)), ((u2 29), .inl (cy 1, 10100, .inl sNe)), ((u2 30), .inl (cy 0, 65600, .inl sNm)), ((u2 34), .inl (cy 1, 101, .inl sDe)), ((u2 35), .inl (cy 1, 101, .inl (fun _ => 0))), ((u2 36), .inl (cy 1, 101, .inl (fun _ => 0))), ((u2 37), .inl (cy 1, 101, .inl (fun _ => 0))), ((u2 6), .inr (11, (oUni u2))), ((u2 7), .inr (2, (oExp u2))), ((u2 8), .inr (1, (oDec u2))), ((u2 9), .inr (7, (oSta u2))), ((u2 10), .inr (4, (oIma u2))), ((u2 55), .inl (cy 0, 4, .inl sMa)), ((u2 56), .inl (cy 1, 101, .inl (fun _ => 0))), ((u2 11), .inr (9, (oTap u2))), ((u2 60), .inl (cy 0, 4096, .inl (fun _ => 0))), ((u2 12), .inr (5, (oMac u2))), ((u2 62), .inl (cy 1, 32768, .inl (fun _ => 0)))] H := hP
  have hD : va_D A [((u2 0), .inr (12, (oLU u2))), ((u2 1), .inl (cy 0, 16000, .inl (fun _ => 0))), ((u2 2), .inr (10, (oTok u2))), ((u2 13), .inl (cy 1, 16002, .inl (fun _ => 0))), ((u2 14), .inl (cy 1, 16002, .inl (fun _ => 0))), ((u2 15), .inl (cy 1, 16002, .inl (fun _ => 0))), ((u2 16), .inl (cy 1, 16002, .inl (fun _ => 0))), ((u2 3), .inr (3, (oGra u2))), ((u2 4), .inr (0, (oCod u2))), ((u2 5), .inr (8, (oSto u2))), ((u2 25), .inl (cy 1, 10100, .inl sFl)), ((u2 29), .inl (cy 1, 10100, .inl sNe)), ((u2 30), .inl (cy 0, 65600, .inl sNm)), ((u2 34), .inl (cy 1, 101, .inl sDe)), ((u2 35), .inl (cy 1, 101, .inl (fun _ => 0))), ((u2 36), .inl (cy 1, 101, .inl (fun _ => 0))), ((u2 37), .inl (cy 1, 101, .inl (fun _ => 0))), ((u2 6), .inr (11, (oUni u2))), ((u2 7), .inr (2, (oExp u2))), ((u2 8), .inr (1, (oDec u2))), ((u2 9), .inr (7, (oSta u2))), ((u2 10), .inr (4, (oIma u2))), ((u2 55), .inl (cy 0, 4, .inl sMa)), ((u2 56), .inl (cy 1, 101, .inl (fun _ => 0))), ((u2 11), .inr (9, (oTap u2))), ((u2 60), .inl (cy 0, 4096, .inl (fun _ => 0))), ((u2 12), .inr (5, (oMac u2))), ((u2 62), .inl (cy 1, 32768, .inl (fun _ => 0)))] := hD
  refine W.widen (k := 565) (n := 993141) (Nat.le_of_ble_eq_true rfl) (Nat.le_of_ble_eq_true rfl) ?_
  have hw : (u2 0) = q1 := hw
  rw [← hw]
  refine lv_astore_n (lv' := [(1, .ref (u2 0)), (0, .ref b)]) hx hb dl_7 rfl hl (by decide) rfl (fun ls hl => ?_)
  refine va_new (ci := 13) (fs := f0_X14) (C := "LinkedUnitsModel") (T := TX14) (N := 100) hx hb hg iwX14 tyX14 tyX14_ok hown (hg _ m_1792) (hg _ m_1793) (hg _ m_18) hK hP hD hS hA rfl (k_all 100 (by decide +kernel)) (Nat.le_of_ble_eq_true rfl) (Nat.le_of_ble_eq_true rfl) dl_8 (fun q3 H hP hD hS => ?_)
  have hP : va_P D vwCl [((u2 0), .inr (12, (oLU u2))), ((u2 1), .inl (cy 0, 16000, .inl (fun _ => 0))), ((u2 2), .inr (10, (oTok u2))), ((u2 13), .inl (cy 1, 16002, .inl (fun _ => 0))), ((u2 14), .inl (cy 1, 16002, .inl (fun _ => 0))), ((u2 15), .inl (cy 1, 16002, .inl (fun _ => 0))), ((u2 16), .inl (cy 1, 16002, .inl (fun _ => 0))), ((u2 3), .inr (3, (oGra u2))), ((u2 4), .inr (0, (oCod u2))), ((u2 5), .inr (8, (oSto u2))), ((u2 25), .inl (cy 1, 10100, .inl sFl)), ((u2 29), .inl (cy 1, 10100, .inl sNe)), ((u2 30), .inl (cy 0, 65600, .inl sNm)), ((u2 34), .inl (cy 1, 101, .inl sDe)), ((u2 35), .inl (cy 1, 101, .inl (fun _ => 0))), ((u2 36), .inl (cy 1, 101, .inl (fun _ => 0))), ((u2 37), .inl (cy 1, 101, .inl (fun _ => 0))), ((u2 6), .inr (11, (oUni u2))), ((u2 7), .inr (2, (oExp u2))), ((u2 8), .inr (1, (oDec u2))), ((u2 9), .inr (7, (oSta u2))), ((u2 10), .inr (4, (oIma u2))), ((u2 55), .inl (cy 0, 4, .inl sMa)), ((u2 56), .inl (cy 1, 101, .inl (fun _ => 0))), ((u2 11), .inr (9, (oTap u2))), ((u2 60), .inl (cy 0, 4096, .inl (fun _ => 0))), ((u2 12), .inr (5, (oMac u2))), ((u2 62), .inl (cy 1, 32768, .inl (fun _ => 0))), (q3, .inr (13, f0_X14))] H := hP
  have hD : va_D A [((u2 0), .inr (12, (oLU u2))), ((u2 1), .inl (cy 0, 16000, .inl (fun _ => 0))), ((u2 2), .inr (10, (oTok u2))), ((u2 13), .inl (cy 1, 16002, .inl (fun _ => 0))), ((u2 14), .inl (cy 1, 16002, .inl (fun _ => 0))), ((u2 15), .inl (cy 1, 16002, .inl (fun _ => 0))), ((u2 16), .inl (cy 1, 16002, .inl (fun _ => 0))), ((u2 3), .inr (3, (oGra u2))), ((u2 4), .inr (0, (oCod u2))), ((u2 5), .inr (8, (oSto u2))), ((u2 25), .inl (cy 1, 10100, .inl sFl)), ((u2 29), .inl (cy 1, 10100, .inl sNe)), ((u2 30), .inl (cy 0, 65600, .inl sNm)), ((u2 34), .inl (cy 1, 101, .inl sDe)), ((u2 35), .inl (cy 1, 101, .inl (fun _ => 0))), ((u2 36), .inl (cy 1, 101, .inl (fun _ => 0))), ((u2 37), .inl (cy 1, 101, .inl (fun _ => 0))), ((u2 6), .inr (11, (oUni u2))), ((u2 7), .inr (2, (oExp u2))), ((u2 8), .inr (1, (oDec u2))), ((u2 9), .inr (7, (oSta u2))), ((u2 10), .inr (4, (oIma u2))), ((u2 55), .inl (cy 0, 4, .inl sMa)), ((u2 56), .inl (cy 1, 101, .inl (fun _ => 0))), ((u2 11), .inr (9, (oTap u2))), ((u2 60), .inl (cy 0, 4096, .inl (fun _ => 0))), ((u2 12), .inr (5, (oMac u2))), ((u2 62), .inl (cy 1, 32768, .inl (fun _ => 0))), (q3, .inr (13, f0_X14))] := hD
  refine W.widen (k := 566) (n := 993241) (Nat.le_of_ble_eq_true rfl) (Nat.le_of_ble_eq_true rfl) ?_
  refine lv_dup hx hb dl_11 rfl ?_
  refine k_callv (wc := [(q3, .inr (13, f0_X14))]) (wr := [((u2 0), .inr (12, (oLU u2))), ((u2 1), .inl (cy 0, 16000, .inl (fun _ => 0))), ((u2 2), .inr (10, (oTok u2))), ((u2 13), .inl (cy 1, 16002, .inl (fun _ => 0))), ((u2 14), .inl (cy 1, 16002, .inl (fun _ => 0))), ((u2 15), .inl (cy 1, 16002, .inl (fun _ => 0))), ((u2 16), .inl (cy 1, 16002, .inl (fun _ => 0))), ((u2 3), .inr (3, (oGra u2))), ((u2 4), .inr (0, (oCod u2))), ((u2 5), .inr (8, (oSto u2))), ((u2 25), .inl (cy 1, 10100, .inl sFl)), ((u2 29), .inl (cy 1, 10100, .inl sNe)), ((u2 30), .inl (cy 0, 65600, .inl sNm)), ((u2 34), .inl (cy 1, 101, .inl sDe)), ((u2 35), .inl (cy 1, 101, .inl (fun _ => 0))), ((u2 36), .inl (cy 1, 101, .inl (fun _ => 0))), ((u2 37), .inl (cy 1, 101, .inl (fun _ => 0))), ((u2 6), .inr (11, (oUni u2))), ((u2 7), .inr (2, (oExp u2))), ((u2 8), .inr (1, (oDec u2))), ((u2 9), .inr (7, (oSta u2))), ((u2 10), .inr (4, (oIma u2))), ((u2 55), .inl (cy 0, 4, .inl sMa)), ((u2 56), .inl (cy 1, 101, .inl (fun _ => 0))), ((u2 11), .inr (9, (oTap u2))), ((u2 60), .inl (cy 0, 4096, .inl (fun _ => 0))), ((u2 12), .inr (5, (oMac u2))), ((u2 62), .inl (cy 1, 32768, .inl (fun _ => 0)))]) (va_runI (As := []) (rest := [.ref q3]) ⟨hx, hb, hml, hown, hg⟩ (c_i_Mo l D cy H.size q3 hst) (cwI 0 hg (gw_c m_1796) rfl rfl rfl (hg _ m_18) (hg _ m_1794) (hg _ m_1795) rfl (by decide +kernel) ⟨(Nat.le_of_ble_eq_true rfl), (Nat.le_of_ble_eq_true rfl)⟩) (k_preSE mEnv_ok hS hA hEm hP hD hK hNW [28] (by decide) rfl) rfl rfl hl.1 rfl (lv_room (Nat.le_of_ble_eq_true rfl)) dl_12 ⟨(Nat.le_of_ble_eq_true rfl), (Nat.le_of_ble_eq_true rfl)⟩) hP hD hS hA [28] [0, 1, 2, 3, 4, 5, 6, 7, 8, 9, 10, 11, 12, 13, 14, 15, 16, 17, 18, 19, 20, 21, 22, 23, 24, 25, 26, 27] rfl rfl (by decide) (by decide) (fun u4 H locs hw hP hD hS => ?_)
  have hP : va_P D vwCl [((u2 0), .inr (12, (oLU u2))), ((u2 1), .inl (cy 0, 16000, .inl (fun _ => 0))), ((u2 2), .inr (10, (oTok u2))), ((u2 13), .inl (cy 1, 16002, .inl (fun _ => 0))), ((u2 14), .inl (cy 1, 16002, .inl (fun _ => 0))), ((u2 15), .inl (cy 1, 16002, .inl (fun _ => 0))), ((u2 16), .inl (cy 1, 16002, .inl (fun _ => 0))), ((u2 3), .inr (3, (oGra u2))), ((u2 4), .inr (0, (oCod u2))), ((u2 5), .inr (8, (oSto u2))), ((u2 25), .inl (cy 1, 10100, .inl sFl)), ((u2 29), .inl (cy 1, 10100, .inl sNe)), ((u2 30), .inl (cy 0, 65600, .inl sNm)), ((u2 34), .inl (cy 1, 101, .inl sDe)), ((u2 35), .inl (cy 1, 101, .inl (fun _ => 0))), ((u2 36), .inl (cy 1, 101, .inl (fun _ => 0))), ((u2 37), .inl (cy 1, 101, .inl (fun _ => 0))), ((u2 6), .inr (11, (oUni u2))), ((u2 7), .inr (2, (oExp u2))), ((u2 8), .inr (1, (oDec u2))), ((u2 9), .inr (7, (oSta u2))), ((u2 10), .inr (4, (oIma u2))), ((u2 55), .inl (cy 0, 4, .inl sMa)), ((u2 56), .inl (cy 1, 101, .inl (fun _ => 0))), ((u2 11), .inr (9, (oTap u2))), ((u2 60), .inl (cy 0, 4096, .inl (fun _ => 0))), ((u2 12), .inr (5, (oMac u2))), ((u2 62), .inl (cy 1, 32768, .inl (fun _ => 0))), ((u4 0), .inr (13, (oMo u4))), ((u4 1), .inl (cy 0, 16000, .inl (fun _ => 0))), ((u4 4), .inl (cy 1, 16002, .inl (fun _ => 0))), ((u4 5), .inl (cy 1, 16002, .inl (fun _ => 0))), ((u4 6), .inl (cy 1, 16002, .inl (fun _ => 0))), ((u4 7), .inl (cy 1, 16002, .inl (fun _ => 0))), ((u4 8), .inl (cy 1, 16002, .inl (fun _ => 0))), ((u4 33), .inl (cy 1, 102, .inl (fun _ => 0))), ((u4 35), .inl (cy 1, 102, .inl (fun _ => 0))), ((u4 34), .inl (cy 1, 102, .inl (fun _ => 0))), ((u4 88), .inl (cy 0, 4096, .inl (fun _ => 0)))] H := hP
  have hD : va_D A [((u2 0), .inr (12, (oLU u2))), ((u2 1), .inl (cy 0, 16000, .inl (fun _ => 0))), ((u2 2), .inr (10, (oTok u2))), ((u2 13), .inl (cy 1, 16002, .inl (fun _ => 0))), ((u2 14), .inl (cy 1, 16002, .inl (fun _ => 0))), ((u2 15), .inl (cy 1, 16002, .inl (fun _ => 0))), ((u2 16), .inl (cy 1, 16002, .inl (fun _ => 0))), ((u2 3), .inr (3, (oGra u2))), ((u2 4), .inr (0, (oCod u2))), ((u2 5), .inr (8, (oSto u2))), ((u2 25), .inl (cy 1, 10100, .inl sFl)), ((u2 29), .inl (cy 1, 10100, .inl sNe)), ((u2 30), .inl (cy 0, 65600, .inl sNm)), ((u2 34), .inl (cy 1, 101, .inl sDe)), ((u2 35), .inl (cy 1, 101, .inl (fun _ => 0))), ((u2 36), .inl (cy 1, 101, .inl (fun _ => 0))), ((u2 37), .inl (cy 1, 101, .inl (fun _ => 0))), ((u2 6), .inr (11, (oUni u2))), ((u2 7), .inr (2, (oExp u2))), ((u2 8), .inr (1, (oDec u2))), ((u2 9), .inr (7, (oSta u2))), ((u2 10), .inr (4, (oIma u2))), ((u2 55), .inl (cy 0, 4, .inl sMa)), ((u2 56), .inl (cy 1, 101, .inl (fun _ => 0))), ((u2 11), .inr (9, (oTap u2))), ((u2 60), .inl (cy 0, 4096, .inl (fun _ => 0))), ((u2 12), .inr (5, (oMac u2))), ((u2 62), .inl (cy 1, 32768, .inl (fun _ => 0))), ((u4 0), .inr (13, (oMo u4))), ((u4 1), .inl (cy 0, 16000, .inl (fun _ => 0))), ((u4 4), .inl (cy 1, 16002, .inl (fun _ => 0))), ((u4 5), .inl (cy 1, 16002, .inl (fun _ => 0))), ((u4 6), .inl (cy 1, 16002, .inl (fun _ => 0))), ((u4 7), .inl (cy 1, 16002, .inl (fun _ => 0))), ((u4 8), .inl (cy 1, 16002, .inl (fun _ => 0))), ((u4 33), .inl (cy 1, 102, .inl (fun _ => 0))), ((u4 35), .inl (cy 1, 102, .inl (fun _ => 0))), ((u4 34), .inl (cy 1, 102, .inl (fun _ => 0))), ((u4 88), .inl (cy 0, 4096, .inl (fun _ => 0)))] := hD
  refine W.widen (k := 620) (n := 2350875) (Nat.le_of_ble_eq_true rfl) (Nat.le_of_ble_eq_true rfl) ?_
  have hw : (u4 0) = q3 := hw
  rw [← hw]
  refine lv_astore_n (lv' := [(2, .ref (u4 0)), (1, .ref (u2 0)), (0, .ref b)]) hx hb dl_15 rfl hl (by decide) rfl (fun ls hl => ?_)
  refine lv_iconst (v := 0) hx hb dl_16 (by decide) ?_
  refine lv_istore_n (lv' := [(3, .int 0), (2, .ref (u4 0)), (1, .ref (u2 0)), (0, .ref b)]) hx hb dl_17 rfl hl (by decide) rfl (fun ls hl => ?_)
  have hP : va_P D vwCl (wAll cy u2 u4) H := hP.sub [0, 1, 2, 3, 4, 5, 6, 7, 8, 9, 10, 11, 12, 13, 14, 15, 16, 17, 18, 19, 20, 21, 22, 23, 24, 25, 26, 27, 28, 29, 30, 31, 32, 33, 34, 35, 36, 37, 38] rfl
  have hD : va_D A (wAll cy u2 u4) := hD.sub [0, 1, 2, 3, 4, 5, 6, 7, 8, 9, 10, 11, 12, 13, 14, 15, 16, 17, 18, 19, 20, 21, 22, 23, 24, 25, 26, 27, 28, 29, 30, 31, 32, 33, 34, 35, 36, 37, 38] (by decide) rfl
  refine W.widen (k := 620) (n := 2350875) (Nat.le_of_ble_eq_true rfl) (Nat.le_of_ble_eq_true rfl) ?_
  refine lv_iload_n hx hb dl_18 rfl (lv_at hl 0 rfl) ?_
  refine lv_aload_n hx hb dl_19 rfl (lv_at hl 3 rfl) ?_
  refine va_slen hx hb hX hbl hbA hS dl_20 ?_
  refine lv_bipush (v := 6) hx hb dl_21 (by decide) ?_
  refine lv_isub hx hb dl_23 ?_
  subst hAe
  refine lv_icmp_gt (tgt := 621) hx hb dl_24 (by decide) (fun c_24 => ?_) (fun c_24 => ?_)
  · exact k_out hx hb hr hlocks (Nat.le_of_ble_eq_true rfl) (Nat.le_of_ble_eq_true rfl) hS.2.2
  · obtain rfl : L = 6 := k_six hL c_24
    exact k_step hx hb hml hown hg hNW hK hA hX hbl hbA hP hD hS hl (fun H locs ls hS hl => k_again hx hb hr hml hlocks hX hbl hbA hS hl)
-- ===== YOUR PART ENDS =====
set_option maxHeartbeats 4000000 in
theorem lw_walk (l : Launch) (hflags : l.flags = flags0) (b : Addr) (xs : List Int32) : MetFree l x (headSpec (Jvm.Cond.code x code maxLocals ret :: tables_1) room_1) (lw_P b xs) (fun _ _ _ _ _ => True) lw_Q := by
  refine MetFree.of_bodyS (code := code) (maxLocals := maxLocals) (ret := ret) (by decide) ?_ ?_
  · intro args s m h hn
    obtain ⟨meth, c, h1, h2, h3, h4, h5, h6, -, -⟩ := Cond.code_spec hn (atoms_spec (ws := Jvm.Cond.code x code maxLocals ret :: tables_1) h _ List.mem_cons_self)
    exact ⟨meth, c, h1, h2, h3, h4, h5, h6⟩
  · intro p e s m args below meth c s₁ B hml0 hP _
    obtain ⟨rfl, hx, hbd, hgv⟩ := hP
    obtain ⟨scr, harrAt, hlist, hof, hsmall⟩ := hx
    obtain ⟨hcb, hkn, -, -⟩ := State.arrayAt?_spec harrAt
    have hown : s.vm.findClass R_law = some m.cls := findClass_of_methodNamed B.named
    have hts0 : ∀ c ∈ (Jvm.Cond.code x code maxLocals ret :: tables_1), c.before #[Value.ref b] s = true := atoms_spec (ws := Jvm.Cond.code x code maxLocals ret :: tables_1) B.pre
    have hts : ∀ w ∈ lw_tbl, w.before #[Value.ref b] s = true := k2_hts_sels lw_privs (fun w hw => hts0 w (List.mem_cons_of_mem _ hw)) lw_privs_ok
    have hml : c.maxLocals = 4 := B.maxLocals_eq (hts0 _ List.mem_cons_self)
    have X₀ : Stand p l e room_1 s m #[Value.ref b] below meth c s₁ [] 0 0 := Stand.of_body B
    have hh0 : s₁.heap = s.heap := by rw [B.state]; rfl
    have hsz : scr.slots.size = xs.length := by rw [← Array.length_toList, hlist, List.length_map]
    have hval : ∀ j : Nat, j < xs.length → scr.slots[j]? = some (.int (xs.getD j 0)) := fun j hj => by
      rw [← Array.getElem?_toList, hlist]
      simp [hj]
    have hbl : b < s.heap.size := (Array.getElem?_eq_some_iff.mp hcb).1
    have hX : va_X b xs.length (fun j => xs.getD j 0) s s.heap := ⟨scr, hcb, hof, hkn, hsz, hval⟩
    have K : W p l e room_1 s m #[Value.ref b] below meth c s₁.heap [] 0 0 (lw_Z below #[Value.ref b] s) (entryFrame m ([Value.ref b] : List Value).toArray 4) := by
      rw [hh0]
      exact whole_start l hflags hbd ⟨B.exec, B.bytes, B.returns, hml, hown, hts, hX, hbl, B.notSynchronized, hgv⟩
    obtain ⟨t, a1, o, b1, b2, b3⟩ := K s₁ rfl X₀
    exact ⟨t, o, a1, b1, b2, b3⟩
theorem lw_pre_spec {args : Array Value} {s : State} (h : (Jvm.Cond.and given_1 narrow_1).before args s = true) (hr : rest_1_c.before args s = true) : ∃ (b : Addr) (xs : List Int32), lw_P b xs args s := by
  have hs := flat_of_before _ h
  have hq := flat_of_before _ hr
  have hc : (Cond.count 1).before args s = true := hs _ (by decide +kernel)
  have harr : (Cond.arrayOf (.arg 0) .int).before args s = true := hs _ (by decide +kernel)
  have hle : (Cond.le (.length (.arg 0)) (.int 6)).before args s = true := hs _ (by decide +kernel)
  have hlen : (Cond.isInt (.length (.arg 0))).before args s = true := hq _ (by decide +kernel)
  have hall : (Cond.all (.arg 0) (.isInt (.elem (.arg 0) (.index 0)))).before args s = true := hq _ (by decide +kernel)
  obtain ⟨b, xs, hb, hx⟩ := State.ints_of_pre rfl harr hlen hall
  have hsm : xs.length < 2 ^ 31 := hx.choose_spec.2.2.2
  have hev : (Term.length (.arg 0)).eval args s none [] s = some (.int xs.length.toInt32) := hx.length_eval hb
  have hv := Cond.le_ints hev (show (Term.int 6).eval args s none [] s = some (.int 6) from rfl)
  have hd : xs.length.toInt32 ≤ 6 := by
    simpa [Cond.before, Cond.holds, hv] using hle
  have hN : xs.length ≤ 6 := (Int32.ofNat_le_ofNat hsm (by decide)).mp (show Int32.ofNat xs.length ≤ Int32.ofNat 6 from hd)
  exact ⟨b, xs, Cond.one_arg hc (show args[0]? = some (.ref b) from hb), hx, hN, h⟩
theorem lw_comes (l : Launch) (hflags : l.flags = flags0) : Comes l x (Jvm.Cond.code x code maxLocals ret :: tables_1) room_1 (fun tb e args s => Calls_1 tb e args s ∧ rest_1 tb e args s ∧ Pre_1 tb e args s)
    (fun _ _ args s o t => lw_Q args s o t) := by
  intro p e ha hc hk s m args below hf hfit hheap happ hpre
  obtain ⟨b, xs, hP⟩ := lw_pre_spec hpre.2.2 hpre.2.1
  obtain ⟨k, o, h1, h2, h3, hQ⟩ := lw_walk l hflags b xs p e ha hc hk s m args below hf ((Spec.applies_iff_loose hf).mp happ).1 hP trivial
  exact ⟨k, o, h1, h2, h3, hQ⟩
theorem lw_frame {s t : State} {o : Outcome} {args : Array Value} (h : Framed s o t [] 600002 7302232) :
    Framed s o t (fieldLocs frame_1_writes args s ++ arrayLocs frame_1_arrays args s ++ staticLocs frame_1_statics s) 600002 7302232 := h
theorem lw_limb (L : Cond) (hL : ∀ (args : Array Value) (s t : State), L.after args s (.returned (some (.int 1))) t = true) :
    ArmFor flags0 classFile x code maxLocals ret World_1 tables_1 room_1 Calls_1 rest_1 Pre_1
      (fun tb e a s o t => postC L tb e a s o t ∧ Framed s o t (fieldLocs frame_1_writes a s ++ arrayLocs frame_1_arrays a s ++ staticLocs frame_1_statics s) 600002 7302232) := by
  intro l hflags _ _ p e ha hc hk s m args below hf hfit hheap happ hpre
  obtain ⟨k, o, h1, h2, h3, rfl, hF⟩ := lw_comes l hflags p e ha hc hk s m args below hf hfit hheap happ hpre
  exact ⟨k, _, h1, h2, h3, hL args s _, lw_frame hF⟩
theorem i_vc : Claimed_1_1 ∧ Claimed_1_2 := ⟨lw_limb limb_1_1 (fun args s t => by simp [limb_1_1, Cond.after, Cond.holds, Cond.value]), lw_limb limb_1_2 (fun args s t => Cond.after_iff.mpr (by
  first | (rw [show limb_1_2 = Cond.eq .result (.int 1) from rfl, Cond.eq_ints (x := 1) (y := 1) rfl rfl]; simp; done) | (simp [limb_1_2, Cond.value, Term.eval]; done)))⟩
