theorem k_out {p : Program} {l : Launch} {e : Env} {s : State} {m : MethodId} {below : List Frame} {meth : Method} {c : Code} {H : Heap} {locs : List Loc} {b : Nat} {ls : Array Slot} {cells slots : Nat}
    (hx : p.tables.exec = Jvm.exec) (hb : c.code = code) (hr : meth.sig.returnType = ret) (hlocks : meth.locks = false) (h1 : cells ≤ 601024) (h2 : slots ≤ 7293034) (hf : ∀ q ∈ locs, s.heap.size ≤ q.base) :
    W p l e room_1 s m #[Value.ref b] below meth c H locs cells slots (lw_Z below #[Value.ref b] s) (F0 m 621 ls []) := by
  refine va_forget hf ?_
  refine W.widen h1 h2 ?_
  refine lv_iconst (v := 1) hx hb dl_621 (by decide) ?_
  exact lw_ret hx hb hr hlocks dl_622
theorem lw_l6 : ∀ L, L < 3073 → (Int32.ofNat L - 6).toInt = (L : Int) - 6 := k_all 3073 (by decide +kernel)
set_option maxHeartbeats 4000000 in
set_option maxRecDepth 100000 in
theorem k_step {p : Program} {l : Launch} {e : Env} {s : State} {m : MethodId} {below : List Frame} {meth : Method} {c : Code} {H : Heap} {locs : List Loc} {Q : State → Prop} {D : va_G} {cy : Nat → ClassId} {A : Nat → Prop} {b L z : Nat} {xs : Nat → Int32} {ls : Array Slot} {rc rm a am : Nat → Nat} {σc σm τ : St} {vs : List Nat}
    (hx : p.tables.exec = Jvm.exec) (hb : c.code = code) (hml : c.maxLocals = 4) (hown : s.vm.findClass "LinkedUnitsLaw" = some m.cls) (hg : ∀ w ∈ GW, w.before #[Value.ref b] s = true) (hNW : nwOK s) (hK : va_K D vwCl (kTy cy) s) (hA : ∀ q, s.heap.size ≤ q → A q) (hX : va_X b L xs s s.heap) (hbl : b < s.heap.size) (hbA : ¬ A b) (hEC : EC a gC A s) (hEM : EM am A s) (hL : L ≤ 3072) (hz : 6 * z + 6 ≤ L) (hI : LIv z σc σm τ vs) (hc : vs.length ≤ CAP)
    (hP : va_P D vwCl (wld SM cy rm σm τ vs ++ wld SC cy rc σc Z0 []) H) (hD : va_D A (wld SM cy rm σm τ vs ++ wld SC cy rc σc Z0 [])) (hS : va_S A s.heap H locs) (hl : lv_has ls 4 [(3, .int (nI (6 * z))), (2, .ref (rm 0)), (1, .ref (rc 0)), (0, .ref b)])
    (kk : ∀ (σc σm τ : St) (vs : List Nat) (H : Heap) (locs : List Loc), LIv (z + 1) σc σm τ vs → vs.length ≤ CAP → va_P D vwCl (wld SM cy rm σm τ vs ++ wld SC cy rc σc Z0 []) H → va_D A (wld SM cy rm σm τ vs ++ wld SC cy rc σc Z0 []) → va_S A s.heap H locs → W p l e room_1 s m #[Value.ref b] below meth c H locs (620 + vs.length) (2350875 + 9 * vs.length) Q (F0 m 615 ls [])) : W p l e room_1 s m #[Value.ref b] below meth c H locs (620 + vs.length) (2350875 + 9 * vs.length) Q (F0 m 27 ls []) := by
  refine lv_aload_n hx hb dl_27 rfl (lv_at hl 3 rfl) ?_
  refine lv_iload_n hx hb dl_28 rfl (lv_at hl 0 rfl) ?_
  refine va_sld hx hb hX hbl hbA hS (vp_in_nI (by omega) (by omega)) dl_29 ?_
  refine lv_bipush (v := 31) hx hb dl_30 (by decide) ?_
  refine lv_iand hx hb dl_32 ?_
  obtain ⟨j, hj, e9⟩ := pk_andE (xs (nI (6 * z)).toNatClampNeg) (m := 31) 5 (by decide)
  refine k_topi (nI j) e9 ?_
  rcases Nat.lt_or_ge j 21 with h21 | h21
  · obtain rfl | rfl | rfl | rfl | rfl | rfl | rfl | rfl | rfl | rfl | rfl | rfl | rfl | rfl | rfl | rfl | rfl | rfl | rfl | rfl | rfl : j = 0 ∨ j = 1 ∨ j = 2 ∨ j = 3 ∨ j = 4 ∨ j = 5 ∨ j = 6 ∨ j = 7 ∨ j = 8 ∨ j = 9 ∨ j = 10 ∨ j = 11 ∨ j = 12 ∨ j = 13 ∨ j = 14 ∨ j = 15 ∨ j = 16 ∨ j = 17 ∨ j = 18 ∨ j = 19 ∨ j = 20 := by omega
    · refine lv_tableIn (off := 99) (tgt := 132) hx hb dl_33 (by decide +kernel) (by decide +kernel) (by decide +kernel) (by decide) ?_
      exact k_case_0 hx hb hml hown hg hNW hK hA hX hbl hbA hEC hEM hL hz hI hc hP hD hS hl kk
    · refine lv_tableIn (off := 162) (tgt := 195) hx hb dl_33 (by decide +kernel) (by decide +kernel) (by decide +kernel) (by decide) ?_
      exact k_case_1 hx hb hml hown hg hNW hK hA hX hbl hbA hEC hEM hL hz hI hc hP hD hS hl kk
    · refine lv_tableIn (off := 185) (tgt := 218) hx hb dl_33 (by decide +kernel) (by decide +kernel) (by decide +kernel) (by decide) ?_
      exact k_case_2 hx hb hml hown hg hNW hK hA hX hbl hbA hEC hEM hL hz hI hc hP hD hS hl kk
    · refine lv_tableIn (off := 208) (tgt := 241) hx hb dl_33 (by decide +kernel) (by decide +kernel) (by decide +kernel) (by decide) ?_
      exact k_case_3 hx hb hml hown hg hNW hK hA hX hbl hbA hEC hEM hL hz hI hc hP hD hS hl kk
    · refine lv_tableIn (off := 221) (tgt := 254) hx hb dl_33 (by decide +kernel) (by decide +kernel) (by decide +kernel) (by decide) ?_
      exact k_case_4 hx hb hml hown hg hNW hK hA hX hbl hbA hEC hEM hL hz hI hc hP hD hS hl kk
    · refine lv_tableIn (off := 234) (tgt := 267) hx hb dl_33 (by decide +kernel) (by decide +kernel) (by decide +kernel) (by decide) ?_
      exact k_case_5 hx hb hml hown hg hNW hK hA hX hbl hbA hEC hEM hL hz hI hc hP hD hS hl kk
    · refine lv_tableIn (off := 267) (tgt := 300) hx hb dl_33 (by decide +kernel) (by decide +kernel) (by decide +kernel) (by decide) ?_
      exact k_case_6 hx hb hml hown hg hNW hK hA hX hbl hbA hEC hEM hL hz hI hc hP hD hS hl kk
    · refine lv_tableIn (off := 310) (tgt := 343) hx hb dl_33 (by decide +kernel) (by decide +kernel) (by decide +kernel) (by decide) ?_
      exact k_case_7 hx hb hml hown hg hNW hK hA hX hbl hbA hEC hEM hL hz hI hc hP hD hS hl kk
    · refine lv_tableIn (off := 343) (tgt := 376) hx hb dl_33 (by decide +kernel) (by decide +kernel) (by decide +kernel) (by decide) ?_
      exact k_case_8 hx hb hml hown hg hNW hK hA hX hbl hbA hEC hEM hL hz hI hc hP hD hS hl kk
    · refine lv_tableIn (off := 366) (tgt := 399) hx hb dl_33 (by decide +kernel) (by decide +kernel) (by decide +kernel) (by decide) ?_
      exact k_case_9 hx hb hml hown hg hNW hK hA hX hbl hbA hEC hEM hL hz hI hc hP hD hS hl kk
    · refine lv_tableIn (off := 379) (tgt := 412) hx hb dl_33 (by decide +kernel) (by decide +kernel) (by decide +kernel) (by decide) ?_
      exact k_case_10 hx hb hml hown hg hNW hK hA hX hbl hbA hEC hEM hL hz hI hc hP hD hS hl kk
    · refine lv_tableIn (off := 402) (tgt := 435) hx hb dl_33 (by decide +kernel) (by decide +kernel) (by decide +kernel) (by decide) ?_
      exact k_case_11 hx hb hml hown hg hNW hK hA hX hbl hbA hEC hEM hL hz hI hc hP hD hS hl kk
    · refine lv_tableIn (off := 415) (tgt := 448) hx hb dl_33 (by decide +kernel) (by decide +kernel) (by decide +kernel) (by decide) ?_
      exact k_case_12 hx hb hml hown hg hNW hK hA hX hbl hbA hEC hEM hL hz hI hc hP hD hS hl kk
    · refine lv_tableIn (off := 438) (tgt := 471) hx hb dl_33 (by decide +kernel) (by decide +kernel) (by decide +kernel) (by decide) ?_
      exact k_case_13 hx hb hml hown hg hNW hK hA hX hbl hbA hEC hEM hL hz hI hc hP hD hS hl kk
    · refine lv_tableIn (off := 461) (tgt := 494) hx hb dl_33 (by decide +kernel) (by decide +kernel) (by decide +kernel) (by decide) ?_
      exact k_case_14 hx hb hml hown hg hNW hK hA hX hbl hbA hEC hEM hL hz hI hc hP hD hS hl kk
    · refine lv_tableIn (off := 474) (tgt := 507) hx hb dl_33 (by decide +kernel) (by decide +kernel) (by decide +kernel) (by decide) ?_
      exact k_case_15 hx hb hml hown hg hNW hK hA hX hbl hbA hEC hEM hL hz hI hc hP hD hS hl kk
    · refine lv_tableIn (off := 487) (tgt := 520) hx hb dl_33 (by decide +kernel) (by decide +kernel) (by decide +kernel) (by decide) ?_
      exact k_case_16 hx hb hml hown hg hNW hK hA hX hbl hbA hEC hEM hL hz hI hc hP hD hS hl kk
    · refine lv_tableIn (off := 510) (tgt := 543) hx hb dl_33 (by decide +kernel) (by decide +kernel) (by decide +kernel) (by decide) ?_
      exact k_case_17 hx hb hml hown hg hNW hK hA hX hbl hbA hEC hEM hL hz hI hc hP hD hS hl kk
    · refine lv_tableIn (off := 523) (tgt := 556) hx hb dl_33 (by decide +kernel) (by decide +kernel) (by decide +kernel) (by decide) ?_
      exact k_case_18 hx hb hml hown hg hNW hK hA hX hbl hbA hEC hEM hL hz hI hc hP hD hS hl kk
    · refine lv_tableIn (off := 546) (tgt := 579) hx hb dl_33 (by decide +kernel) (by decide +kernel) (by decide +kernel) (by decide) ?_
      exact k_case_19 hx hb hml hown hg hNW hK hA hX hbl hbA hEC hEM hL hz hI hc hP hD hS hl kk
    · refine lv_tableIn (off := 569) (tgt := 602) hx hb dl_33 (by decide +kernel) (by decide +kernel) (by decide +kernel) (by decide) ?_
      exact k_case_20 hx hb hml hown hg hNW hK hA hX hbl hbA hEC hEM hL hz hI hc hP hD hS hl kk
  · refine lv_tableOut (tgt := 615) hx hb dl_33 (Or.inr (by rw [nI_toInt (by omega)]; omega)) (by decide) ?_
    obtain ⟨hIc, hG, hZ, hR⟩ := hI
    exact kk _ _ _ _ _ _ (lw_up hIc hG hZ hR) hc hP hD hS
set_option maxHeartbeats 4000000 in
set_option maxRecDepth 100000 in
theorem k_loop {p : Program} {l : Launch} {e : Env} {s : State} {m : MethodId} {below : List Frame} {meth : Method} {c : Code} {D : va_G} {cy : Nat → ClassId} {A : Nat → Prop} {b L : Nat} {xs : Nat → Int32} {rc rm a am : Nat → Nat}
    (hx : p.tables.exec = Jvm.exec) (hb : c.code = code) (hml : c.maxLocals = 4) (hown : s.vm.findClass "LinkedUnitsLaw" = some m.cls) (hg : ∀ w ∈ GW, w.before #[Value.ref b] s = true) (hNW : nwOK s) (hK : va_K D vwCl (kTy cy) s) (hA : ∀ q, s.heap.size ≤ q → A q) (hX : va_X b L xs s s.heap) (hbl : b < s.heap.size) (hbA : ¬ A b) (hEC : EC a gC A s) (hEM : EM am A s) (hL : L ≤ 3072) (hr : meth.sig.returnType = ret) (hlocks : meth.locks = false) (hAs : ∀ q, A q → s.heap.size ≤ q) :
    ∀ (n z : Nat), 6 * z ≤ L → L < 6 * z + 6 * (n + 1) → ∀ (σc σm τ : St) (vs : List Nat) (H : Heap) (locs : List Loc) (ls : Array Slot), LIv z σc σm τ vs → vs.length ≤ CAP → va_P D vwCl (wld SM cy rm σm τ vs ++ wld SC cy rc σc Z0 []) H → va_D A (wld SM cy rm σm τ vs ++ wld SC cy rc σc Z0 []) → va_S A s.heap H locs → lv_has ls 4 [(3, .int (nI (6 * z))), (2, .ref (rm 0)), (1, .ref (rc 0)), (0, .ref b)] → W p l e room_1 s m #[Value.ref b] below meth c H locs (620 + vs.length) (2350875 + 9 * vs.length) (lw_Z below #[Value.ref b] s) (F0 m 18 ls []) := by
  intro n
  induction n with
  | zero =>
    intro z h1 h2 σc σm τ vs H locs ls hI hc hP hD hS hl
    refine lv_iload_n hx hb dl_18 rfl (lv_at hl 0 rfl) ?_
    refine lv_aload_n hx hb dl_19 rfl (lv_at hl 3 rfl) ?_
    refine va_slen hx hb hX hbl hbA hS dl_20 ?_
    refine lv_bipush (v := 6) hx hb dl_21 (by decide) ?_
    refine lv_isub hx hb dl_23 ?_
    refine lv_icmp_gt (tgt := 621) hx hb dl_24 (by decide) (fun _ => ?_) (fun c_24 => absurd (Int32.lt_iff_toInt_lt.mpr (by rw [lw_l6 L (by omega), nI_toInt (by omega)]; omega)) c_24)
    exact k_out hx hb hr hlocks (by unfold CAP at hc; omega) (by unfold CAP at hc; omega) (fun q hq => hAs _ (hS.2.2 q hq))
  | succ n ih =>
    intro z h1 h2 σc σm τ vs H locs ls hI hc hP hD hS hl
    refine lv_iload_n hx hb dl_18 rfl (lv_at hl 0 rfl) ?_
    refine lv_aload_n hx hb dl_19 rfl (lv_at hl 3 rfl) ?_
    refine va_slen hx hb hX hbl hbA hS dl_20 ?_
    refine lv_bipush (v := 6) hx hb dl_21 (by decide) ?_
    refine lv_isub hx hb dl_23 ?_
    refine lv_icmp_gt (tgt := 621) hx hb dl_24 (by decide) (fun _ => ?_) (fun c_24 => ?_)
    · exact k_out hx hb hr hlocks (by unfold CAP at hc; omega) (by unfold CAP at hc; omega) (fun q hq => hAs _ (hS.2.2 q hq))
    · have hz : 6 * z + 6 ≤ L := by
        by_cases q : 6 * z + 6 ≤ L
        · exact q
        · exact absurd (Int32.lt_iff_toInt_lt.mpr (by rw [lw_l6 L (by omega), nI_toInt (by omega)]; omega)) c_24
      refine k_step hx hb hml hown hg hNW hK hA hX hbl hbA hEC hEM hL hz hI hc hP hD hS hl (fun σc σm τ vs H locs hI hc hP hD hS => ?_)
      refine lv_iinc (v := nI (6 * (z + 1))) (lv' := [(3, .int (nI (6 * (z + 1)))), (2, .ref (rm 0)), (1, .ref (rc 0)), (0, .ref b)]) hx hb dl_615 hl (k := 0) rfl (by rw [show Int32.ofInt 6 = nI 6 from by decide, nI_add]; exact congrArg nI (by omega)) (by decide) rfl (fun ls hl => ?_)
      refine lv_goto (tgt := 18) hx hb dl_618 (by decide) ?_
      exact ih (z + 1) (by omega) (by omega) σc σm τ vs H locs ls hI hc hP hD hS hl
set_option maxHeartbeats 4000000 in
set_option maxRecDepth 100000 in
theorem whole_start {p : Program} {e : Env} {s : State} {m : MethodId} {below : List Frame} {meth : Method} {c : Code} (l : Launch) (hflags : l.flags = flags0) {b L : Nat} {xs : Nat → Int32} (hL : L ≤ 3072) (C0 : lw_At p s m meth c b L xs) : W p l e room_1 s m #[Value.ref b] below meth c s.heap [] 0 0 (lw_Z below #[Value.ref b] s) (entryFrame m ([Value.ref b] : List Value).toArray 4) := by
  obtain ⟨hx, hb, hr, hml, hown, hts, hX, hbl, hlocks, hgv⟩ := C0
  have hown : s.vm.findClass "LinkedUnitsLaw" = some m.cls := hown
  have hg : ∀ w ∈ GW, w.before #[Value.ref b] s = true := fun w h => hts w (gw_in h)
  have hNW : nwOK s := nwOK_of hts
  have hst : l.stackTraces = false := k_notrace hflags
  obtain ⟨D, cy, hK⟩ := k_known hts hg
  obtain ⟨sa, sv, hE⟩ := k_sEnv hts hgv
  have hEm := k_mEnv hts hgv
  obtain ⟨a, hEC⟩ := k_ec hts hgv
  obtain ⟨am, hEM⟩ := k_em hts hgv
  rw [lg_entry_eq]
  have hl := lv_entry [Value.ref b] (n := 4) (Nat.le_of_ble_eq_true rfl)
  generalize ((lg_sl [Value.ref b] ++ List.replicate (4 - (lg_sl [Value.ref b]).length) Slot.unset).toArray) = ls at hl ⊢
  have hl : lv_has ls 4 [(0, .ref b)] := hl
  obtain ⟨A, hAe⟩ : ∃ A : Nat → Prop, A = (fun q => s.heap.size ≤ q) := ⟨_, rfl⟩
  rw [← hAe] at hE hEm hEC hEM
  have hA : ∀ q, s.heap.size ≤ q → A q := fun q h => by rw [hAe]; exact h
  have hAs : ∀ q, A q → s.heap.size ≤ q := fun q h => by rw [hAe] at h; exact h
  have hbA : ¬ A b := by rw [hAe]; exact Nat.not_le.mpr hbl
  have hP : va_P D vwCl [] s.heap := fun k q h => by simp at h
  have hD : va_D A [] := ⟨fun i j p q h => by simp at h, fun k q h => by simp at h⟩
  have hS : va_S A s.heap s.heap [] := va_S.rf
  refine va_new (ci := 12) (fs := [.null, .int 0, .int 0, .int 0, .null, .null, .null, .null, .null, .null, .null, .null, .null, .null, .null]) (C := "LinkedUnits") (T := TX12) (N := 15) hx hb hg iwX12 tyX12 tyX12_ok hown (hg _ m_27) (hg _ m_28) (hg _ m_1) hK hP hD hS hA rfl (k_all 15 (by decide +kernel)) (Nat.le_of_ble_eq_true rfl) (Nat.le_of_ble_eq_true rfl) dl_0 (fun q1 H hP hD hS => ?_)
  have hP : va_P D vwCl [(q1, .inr (12, [.null, .int 0, .int 0, .int 0, .null, .null, .null, .null, .null, .null, .null, .null, .null, .null, .null]))] H := hP
  have hD : va_D A [(q1, .inr (12, [.null, .int 0, .int 0, .int 0, .null, .null, .null, .null, .null, .null, .null, .null, .null, .null, .null]))] := hD
  refine W.widen (k := 1) (n := 15) (Nat.le_of_ble_eq_true rfl) (Nat.le_of_ble_eq_true rfl) ?_
  refine lv_dup hx hb dl_3 rfl ?_
  refine k_callv (wc := [(q1, .inr (12, [.null, .int 0, .int 0, .int 0, .null, .null, .null, .null, .null, .null, .null, .null, .null, .null, .null]))]) (wr := []) (va_runI (As := []) (rest := [.ref q1]) ⟨hx, hb, hml, hown, hg⟩ (c_i_LU l D cy H.size sa sv q1) (cwI 0 hg (gw_c m_31) rfl rfl rfl (hg _ m_1) (hg _ m_29) (hg _ m_30) rfl (by decide +kernel) ⟨(Nat.le_of_ble_eq_true rfl), (Nat.le_of_ble_eq_true rfl)⟩) (k_preSE (sEnv_ok sa sv) hS hA hE hP hD hK hNW [0] (by decide) rfl) rfl rfl hl.1 rfl (lv_room (Nat.le_of_ble_eq_true rfl)) dl_4 ⟨(Nat.le_of_ble_eq_true rfl), (Nat.le_of_ble_eq_true rfl)⟩) hP hD hS hA [0] [] rfl rfl (by decide) (by decide) (fun u2 H locs hw hP hD hS => ?_)
  have hP : va_P D vwCl (wld SC cy (rcO u2) sc0 Z0 []) H := by rw [← w_C]; exact hP
  have hD : va_D A (wld SC cy (rcO u2) sc0 Z0 []) := by rw [← w_C]; exact hD
  refine W.widen (k := 565) (n := 993141) (Nat.le_of_ble_eq_true rfl) (Nat.le_of_ble_eq_true rfl) ?_
  have hw : rcO u2 0 = q1 := hw
  rw [← hw]
  generalize rcO u2 = rc at hP hD ⊢
  refine lv_astore_n (lv' := [(1, .ref (rc 0)), (0, .ref b)]) hx hb dl_7 rfl hl (by decide) rfl (fun ls hl => ?_)
  refine va_new (ci := 13) (fs := f0_X14) (C := "LinkedUnitsModel") (T := TX14) (N := 100) hx hb hg iwX14 tyX14 tyX14_ok hown (hg _ m_1792) (hg _ m_1793) (hg _ m_18) hK hP hD hS hA rfl (k_all 100 (by decide +kernel)) (Nat.le_of_ble_eq_true rfl) (Nat.le_of_ble_eq_true rfl) dl_8 (fun q3 H hP hD hS => ?_)
  have hP : va_P D vwCl ([(q3, .inr (13, f0_X14))] ++ wld SC cy rc sc0 Z0 []) H := l_swapP hP
  have hD : va_D A ([(q3, .inr (13, f0_X14))] ++ wld SC cy rc sc0 Z0 []) := l_swapD hD
  refine W.widen (k := 566) (n := 993241) (Nat.le_of_ble_eq_true rfl) (Nat.le_of_ble_eq_true rfl) ?_
  refine lv_dup hx hb dl_11 rfl ?_
  refine k_callvQ (wc := [(q3, .inr (13, f0_X14))]) (wr := []) (ws := [(q3, .inr (13, f0_X14))]) (pl := wld SC cy rc sc0 Z0 []) (va_runI (As := []) (rest := [.ref q3]) ⟨hx, hb, hml, hown, hg⟩ (c_i_Mo l D cy H.size q3 hst) (cwI 0 hg (gw_c m_1796) rfl rfl rfl (hg _ m_18) (hg _ m_1794) (hg _ m_1795) rfl (by decide +kernel) ⟨(Nat.le_of_ble_eq_true rfl), (Nat.le_of_ble_eq_true rfl)⟩) (k_preSE mEnv_ok hS hA hEm (l_appP.mp hP).1 (l_appD.mp hD).1 hK hNW [0] (by decide) rfl) rfl rfl hl.1 rfl (lv_room (Nat.le_of_ble_eq_true rfl)) dl_12 ⟨(Nat.le_of_ble_eq_true rfl), (Nat.le_of_ble_eq_true rfl)⟩) hP hD hS hA [0] [] rfl rfl (by decide) (by decide) (fun u4 H locs hw hP hD hS => ?_)
  have hP : va_P D vwCl (wld SM cy (rmO u4) sm0 Z0 [] ++ wld SC cy rc sc0 Z0 []) H := by rw [← w_M]; exact hP
  have hD : va_D A (wld SM cy (rmO u4) sm0 Z0 [] ++ wld SC cy rc sc0 Z0 []) := by rw [← w_M]; exact hD
  refine W.widen (k := 620 + ([] : List Nat).length) (n := 2350875 + 9 * ([] : List Nat).length) (Nat.le_of_ble_eq_true rfl) (Nat.le_of_ble_eq_true rfl) ?_
  have hw : rmO u4 0 = q3 := hw
  rw [← hw]
  generalize rmO u4 = rm at hP hD ⊢
  refine lv_astore_n (lv' := [(2, .ref (rm 0)), (1, .ref (rc 0)), (0, .ref b)]) hx hb dl_15 rfl hl (by decide) rfl (fun ls hl => ?_)
  refine lv_iconst (v := nI 0) hx hb dl_16 (by decide) ?_
  refine lv_istore_n (lv' := [(3, .int (nI (6 * 0))), (2, .ref (rm 0)), (1, .ref (rc 0)), (0, .ref b)]) hx hb dl_17 rfl hl (by decide) rfl (fun ls hl => ?_)
  exact k_loop hx hb hml hown hg hNW hK hA hX hbl hbA hEC hEM hL hr hlocks hAs 513 0 (Nat.zero_le _) (by omega) sc0 sm0 Z0 [] H locs ls ⟨⟨0, iv_0⟩, gli_0, by decide, rlg_0⟩ (Nat.zero_le _) hP hD hS hl
-- ===== YOUR PART ENDS =====
set_option maxHeartbeats 4000000 in
theorem lw_walk (l : Launch) (hflags : l.flags = flags0) (b : Addr) (xs : List Int32) : MetFree l x (headSpec (Jvm.Cond.code x code maxLocals ret :: tables_1) room_1) (lw_P b xs) (fun _ _ _ _ _ => True) lw_Q := by
  refine MetFree.of_bodyS (code := code) (maxLocals := maxLocals) (ret := ret) (by decide) ?_ ?_
  · intro args s m h hn
    obtain ⟨meth, c, h1, h2, h3, h4, h5, h6, -, -⟩ := Cond.code_spec hn (atoms_spec (ws := Jvm.Cond.code x code maxLocals ret :: tables_1) h _ List.mem_cons_self)
    exact ⟨meth, c, h1, h2, h3, h4, h5, h6⟩
  · intro p e s m args below meth c s₁ B hml0 hP _
    obtain ⟨rfl, hx, hbd, hgv⟩ := hP
    obtain ⟨scr, harrAt, hlist, hof, hsmall⟩ := hx
    obtain ⟨hcb, hkn, -, -⟩ := State.arrayAt?_spec harrAt
    have hown : s.vm.findClass R_law = some m.cls := findClass_of_methodNamed B.named
    have hts0 : ∀ c ∈ (Jvm.Cond.code x code maxLocals ret :: tables_1), c.before #[Value.ref b] s = true := atoms_spec (ws := Jvm.Cond.code x code maxLocals ret :: tables_1) B.pre
    have hts : ∀ w ∈ lw_tbl, w.before #[Value.ref b] s = true := k2_hts_sels lw_privs (fun w hw => hts0 w (List.mem_cons_of_mem _ hw)) lw_privs_ok
    have hml : c.maxLocals = 4 := B.maxLocals_eq (hts0 _ List.mem_cons_self)
    have X₀ : Stand p l e room_1 s m #[Value.ref b] below meth c s₁ [] 0 0 := Stand.of_body B
    have hh0 : s₁.heap = s.heap := by rw [B.state]; rfl
    have hsz : scr.slots.size = xs.length := by rw [← Array.length_toList, hlist, List.length_map]
    have hval : ∀ j : Nat, j < xs.length → scr.slots[j]? = some (.int (xs.getD j 0)) := fun j hj => by
      rw [← Array.getElem?_toList, hlist]
      simp [hj]
    have hbl : b < s.heap.size := (Array.getElem?_eq_some_iff.mp hcb).1
    have hX : va_X b xs.length (fun j => xs.getD j 0) s s.heap := ⟨scr, hcb, hof, hkn, hsz, hval⟩
    have K : W p l e room_1 s m #[Value.ref b] below meth c s₁.heap [] 0 0 (lw_Z below #[Value.ref b] s) (entryFrame m ([Value.ref b] : List Value).toArray 4) := by
      rw [hh0]
      exact whole_start l hflags hbd ⟨B.exec, B.bytes, B.returns, hml, hown, hts, hX, hbl, B.notSynchronized, hgv⟩
    obtain ⟨t, a1, o, b1, b2, b3⟩ := K s₁ rfl X₀
    exact ⟨t, o, a1, b1, b2, b3⟩
theorem lw_pre_spec {args : Array Value} {s : State} (h : (Jvm.Cond.and given_1 narrow_1).before args s = true) (hr : rest_1_c.before args s = true) : ∃ (b : Addr) (xs : List Int32), lw_P b xs args s := by
  have hs := flat_of_before _ h
  have hq := flat_of_before _ hr
  have hc : (Cond.count 1).before args s = true := hs _ (by decide +kernel)
  have harr : (Cond.arrayOf (.arg 0) .int).before args s = true := hs _ (by decide +kernel)
  have hle : (Cond.le (.length (.arg 0)) (.int 3072)).before args s = true := hs _ (by decide +kernel)
  have hlen : (Cond.isInt (.length (.arg 0))).before args s = true := hq _ (by decide +kernel)
  have hall : (Cond.all (.arg 0) (.isInt (.elem (.arg 0) (.index 0)))).before args s = true := hq _ (by decide +kernel)
  obtain ⟨b, xs, hb, hx⟩ := State.ints_of_pre rfl harr hlen hall
  have hsm : xs.length < 2 ^ 31 := hx.choose_spec.2.2.2
  have hev : (Term.length (.arg 0)).eval args s none [] s = some (.int xs.length.toInt32) := hx.length_eval hb
  have hv := Cond.le_ints hev (show (Term.int 3072).eval args s none [] s = some (.int 3072) from rfl)
  have hd : xs.length.toInt32 ≤ 3072 := by
    simpa [Cond.before, Cond.holds, hv] using hle
  have hN : xs.length ≤ 3072 := (Int32.ofNat_le_ofNat hsm (by decide)).mp (show Int32.ofNat xs.length ≤ Int32.ofNat 3072 from hd)
  exact ⟨b, xs, Cond.one_arg hc (show args[0]? = some (.ref b) from hb), hx, hN, h⟩
theorem lw_comes (l : Launch) (hflags : l.flags = flags0) : Comes l x (Jvm.Cond.code x code maxLocals ret :: tables_1) room_1 (fun tb e args s => Calls_1 tb e args s ∧ rest_1 tb e args s ∧ Pre_1 tb e args s)
    (fun _ _ args s o t => lw_Q args s o t) := by
  intro p e ha hc hk s m args below hf hfit hheap happ hpre
  obtain ⟨b, xs, hP⟩ := lw_pre_spec hpre.2.2 hpre.2.1
  obtain ⟨k, o, h1, h2, h3, hQ⟩ := lw_walk l hflags b xs p e ha hc hk s m args below hf ((Spec.applies_iff_loose hf).mp happ).1 hP trivial
  exact ⟨k, o, h1, h2, h3, hQ⟩
theorem lw_frame {s t : State} {o : Outcome} {args : Array Value} (h : Framed s o t [] 601024 7293034) :
    Framed s o t (fieldLocs frame_1_writes args s ++ arrayLocs frame_1_arrays args s ++ staticLocs frame_1_statics s) 601024 7293034 := h
theorem lw_limb (L : Cond) (hL : ∀ (args : Array Value) (s t : State), L.after args s (.returned (some (.int 1))) t = true) :
    ArmFor flags0 classFile x code maxLocals ret World_1 tables_1 room_1 Calls_1 rest_1 Pre_1
      (fun tb e a s o t => postC L tb e a s o t ∧ Framed s o t (fieldLocs frame_1_writes a s ++ arrayLocs frame_1_arrays a s ++ staticLocs frame_1_statics s) 601024 7293034) := by
  intro l hflags _ _ p e ha hc hk s m args below hf hfit hheap happ hpre
  obtain ⟨k, o, h1, h2, h3, rfl, hF⟩ := lw_comes l hflags p e ha hc hk s m args below hf hfit hheap happ hpre
  exact ⟨k, _, h1, h2, h3, hL args s _, lw_frame hF⟩
theorem i_vc : Claimed_1_1 ∧ Claimed_1_2 := ⟨lw_limb limb_1_1 (fun args s t => by simp [limb_1_1, Cond.after, Cond.holds, Cond.value]), lw_limb limb_1_2 (fun args s t => Cond.after_iff.mpr (by
  first | (rw [show limb_1_2 = Cond.eq .result (.int 1) from rfl, Cond.eq_ints (x := 1) (y := 1) rfl rfl]; simp; done) | (simp [limb_1_2, Cond.value, Term.eval]; done)))⟩
