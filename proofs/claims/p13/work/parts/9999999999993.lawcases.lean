set_option maxHeartbeats 4000000 in
set_option maxRecDepth 100000 in
/-- the law's case 0: feed -/
theorem k_case_0 {p : Program} {l : Launch} {e : Env} {s : State} {m : MethodId} {below : List Frame} {meth : Method} {c : Code} {H : Heap} {locs : List Loc} {Q : State → Prop} {D : va_G} {cy : Nat → ClassId} {A : Nat → Prop} {b L z : Nat} {xs : Nat → Int32} {ls : Array Slot} {rc rm a am : Nat → Nat} {σc σm τ : St} {vs : List Nat}
    (hx : p.tables.exec = Jvm.exec) (hb : c.code = code) (hml : c.maxLocals = 4) (hown : s.vm.findClass "LinkedUnitsLaw" = some m.cls) (hg : ∀ w ∈ GW, w.before #[Value.ref b] s = true) (hNW : nwOK s) (hK : va_K D vwCl (kTy cy) s) (hA : ∀ q, s.heap.size ≤ q → A q) (hX : va_X b L xs s s.heap) (hbl : b < s.heap.size) (hbA : ¬ A b) (hEC : EC a gC A s) (hEM : EM am A s) (hL : L ≤ 3072) (hz : 6 * z + 6 ≤ L) (hI : LIv z σc σm τ vs) (hc : vs.length ≤ CAP)
    (hP : va_P D vwCl (wld SM cy rm σm τ vs ++ wld SC cy rc σc Z0 []) H) (hD : va_D A (wld SM cy rm σm τ vs ++ wld SC cy rc σc Z0 [])) (hS : va_S A s.heap H locs) (hl : lv_has ls 4 [(3, .int (nI (6 * z))), (2, .ref (rm 0)), (1, .ref (rc 0)), (0, .ref b)])
    (kk : ∀ (σc σm τ : St) (vs : List Nat) (H : Heap) (locs : List Loc), LIv (z + 1) σc σm τ vs → vs.length ≤ CAP → va_P D vwCl (wld SM cy rm σm τ vs ++ wld SC cy rc σc Z0 []) H → va_D A (wld SM cy rm σm τ vs ++ wld SC cy rc σc Z0 []) → va_S A s.heap H locs → W p l e room_1 s m #[Value.ref b] below meth c H locs (620 + vs.length) (2350875 + 9 * vs.length) Q (F0 m 615 ls [])) : W p l e room_1 s m #[Value.ref b] below meth c H locs (620 + vs.length) (2350875 + 9 * vs.length) Q (F0 m 132 ls []) := by
  obtain ⟨⟨o, hIc⟩, hG, hZ, hR⟩ := hI
  have hF0 := lw_fd hG
  have hZ2 : (z : Int) ≤ 511 := by omega
  refine lv_aload_n hx hb dl_132 rfl (lv_at hl 2 rfl) ?_
  refine lv_aload_n hx hb dl_133 rfl (lv_at hl 3 rfl) ?_
  refine lv_iload_n hx hb dl_134 rfl (lv_at hl 0 rfl) ?_
  refine lv_iconst (v := nI 1) hx hb dl_135 (by decide) ?_
  refine lv_iadd hx hb dl_136 ?_
  refine k_topi (nI (6 * z + 1)) (nI_add _ _) ?_
  refine va_sld hx hb hX hbl hbA hS (vp_in_nI (by omega) (by omega)) dl_137 ?_
  refine k_topi (xs (6 * z + 1)) (congrArg xs (lw_nn (by omega))) ?_
  refine lv_aload_n hx hb dl_138 rfl (lv_at hl 3 rfl) ?_
  refine lv_iload_n hx hb dl_139 rfl (lv_at hl 0 rfl) ?_
  refine lv_iconst (v := nI 2) hx hb dl_140 (by decide) ?_
  refine lv_iadd hx hb dl_141 ?_
  refine k_topi (nI (6 * z + 2)) (nI_add _ _) ?_
  refine va_sld hx hb hX hbl hbA hS (vp_in_nI (by omega) (by omega)) dl_142 ?_
  refine k_topi (xs (6 * z + 2)) (congrArg xs (lw_nn (by omega))) ?_
  refine lv_aload_n hx hb dl_143 rfl (lv_at hl 3 rfl) ?_
  refine lv_iload_n hx hb dl_144 rfl (lv_at hl 0 rfl) ?_
  refine lv_iconst (v := nI 3) hx hb dl_145 (by decide) ?_
  refine lv_iadd hx hb dl_146 ?_
  refine k_topi (nI (6 * z + 3)) (nI_add _ _) ?_
  refine va_sld hx hb hX hbl hbA hS (vp_in_nI (by omega) (by omega)) dl_147 ?_
  refine k_topi (xs (6 * z + 3)) (congrArg xs (lw_nn (by omega))) ?_
  refine lv_aload_n hx hb dl_148 rfl (lv_at hl 3 rfl) ?_
  refine lv_iload_n hx hb dl_149 rfl (lv_at hl 0 rfl) ?_
  refine lv_iconst (v := nI 4) hx hb dl_150 (by decide) ?_
  refine lv_iadd hx hb dl_151 ?_
  refine k_topi (nI (6 * z + 4)) (nI_add _ _) ?_
  refine va_sld hx hb hX hbl hbA hS (vp_in_nI (by omega) (by omega)) dl_152 ?_
  refine k_topi (xs (6 * z + 4)) (congrArg xs (lw_nn (by omega))) ?_
  refine lv_aload_n hx hb dl_153 rfl (lv_at hl 3 rfl) ?_
  refine lv_iload_n hx hb dl_154 rfl (lv_at hl 0 rfl) ?_
  refine lv_iconst (v := nI 5) hx hb dl_155 (by decide) ?_
  refine lv_iadd hx hb dl_156 ?_
  refine k_topi (nI (6 * z + 5)) (nI_add _ _) ?_
  refine va_sld hx hb hX hbl hbA hS (vp_in_nI (by omega) (by omega)) dl_157 ?_
  refine k_topi (xs (6 * z + 5)) (congrArg xs (lw_nn (by omega))) ?_
  refine l_call (l := l) (As := [.int (xs (6 * z + 1)), .int (xs (6 * z + 2)), .int (xs (6 * z + 3)), .int (xs (6 * z + 4)), .int (xs (6 * z + 5))]) (rest := []) (b := rc 0) (S := SC) (r := rc) (σ := σc) (τ := Z0) (vs := []) (E := EC a gC) hx hb hml hown hg hNW hK hA (EC_ok a gC) hEC (kt_X12_feed a rc (Q := fun v t => (∃ o, IVx t o) ∧ FDt (xs (6 * z + 1)) (xs (6 * z + 2)) (xs (6 * z + 3)) (xs (6 * z + 4)) (xs (6 * z + 5)) σc t) (cq_feed hIc (by have := hR.1.1.1.1.2.2.2.2.1; omega)) l D cy) (fun _ _ _ h => h) (Nat.le_of_ble_eq_true rfl) (Nat.zero_le _) (lw_c1 hc) (lw_s1 hc) lwV_X12_feed m_781 (recv_ob obC_0) rfl rfl (Nat.le_of_ble_eq_true rfl) dl_158 hl.1 hP hD hS (fun v1 σ1 τ1 vs1 H locs hq _ _ hP hD hS => ?_)
  obtain ⟨rfl, rfl, x1, rfl, hp⟩ := hq
  obtain ⟨hp, hRc⟩ := hp
  refine W.widen (k := 620 + vs.length) (n := 2350875 + 9 * vs.length) (Nat.le_refl _) (Nat.le_refl _) ?_
  refine W.eq (g2 := F0 m 161 ls [.int x1]) rfl ?_
  have hP := l_swapP hP
  have hD := l_swapD hD
  refine lv_pop hx hb dl_161 rfl ?_
  refine lv_aload_n hx hb dl_162 rfl (lv_at hl 1 rfl) ?_
  refine lv_aload_n hx hb dl_163 rfl (lv_at hl 3 rfl) ?_
  refine lv_iload_n hx hb dl_164 rfl (lv_at hl 0 rfl) ?_
  refine lv_iconst (v := nI 1) hx hb dl_165 (by decide) ?_
  refine lv_iadd hx hb dl_166 ?_
  refine k_topi (nI (6 * z + 1)) (nI_add _ _) ?_
  refine va_sld hx hb hX hbl hbA hS (vp_in_nI (by omega) (by omega)) dl_167 ?_
  refine k_topi (xs (6 * z + 1)) (congrArg xs (lw_nn (by omega))) ?_
  refine lv_aload_n hx hb dl_168 rfl (lv_at hl 3 rfl) ?_
  refine lv_iload_n hx hb dl_169 rfl (lv_at hl 0 rfl) ?_
  refine lv_iconst (v := nI 2) hx hb dl_170 (by decide) ?_
  refine lv_iadd hx hb dl_171 ?_
  refine k_topi (nI (6 * z + 2)) (nI_add _ _) ?_
  refine va_sld hx hb hX hbl hbA hS (vp_in_nI (by omega) (by omega)) dl_172 ?_
  refine k_topi (xs (6 * z + 2)) (congrArg xs (lw_nn (by omega))) ?_
  refine lv_aload_n hx hb dl_173 rfl (lv_at hl 3 rfl) ?_
  refine lv_iload_n hx hb dl_174 rfl (lv_at hl 0 rfl) ?_
  refine lv_iconst (v := nI 3) hx hb dl_175 (by decide) ?_
  refine lv_iadd hx hb dl_176 ?_
  refine k_topi (nI (6 * z + 3)) (nI_add _ _) ?_
  refine va_sld hx hb hX hbl hbA hS (vp_in_nI (by omega) (by omega)) dl_177 ?_
  refine k_topi (xs (6 * z + 3)) (congrArg xs (lw_nn (by omega))) ?_
  refine lv_aload_n hx hb dl_178 rfl (lv_at hl 3 rfl) ?_
  refine lv_iload_n hx hb dl_179 rfl (lv_at hl 0 rfl) ?_
  refine lv_iconst (v := nI 4) hx hb dl_180 (by decide) ?_
  refine lv_iadd hx hb dl_181 ?_
  refine k_topi (nI (6 * z + 4)) (nI_add _ _) ?_
  refine va_sld hx hb hX hbl hbA hS (vp_in_nI (by omega) (by omega)) dl_182 ?_
  refine k_topi (xs (6 * z + 4)) (congrArg xs (lw_nn (by omega))) ?_
  refine lv_aload_n hx hb dl_183 rfl (lv_at hl 3 rfl) ?_
  refine lv_iload_n hx hb dl_184 rfl (lv_at hl 0 rfl) ?_
  refine lv_iconst (v := nI 5) hx hb dl_185 (by decide) ?_
  refine lv_iadd hx hb dl_186 ?_
  refine k_topi (nI (6 * z + 5)) (nI_add _ _) ?_
  refine va_sld hx hb hX hbl hbA hS (vp_in_nI (by omega) (by omega)) dl_187 ?_
  refine k_topi (xs (6 * z + 5)) (congrArg xs (lw_nn (by omega))) ?_
  refine l_call (l := l) (As := [.int (xs (6 * z + 1)), .int (xs (6 * z + 2)), .int (xs (6 * z + 3)), .int (xs (6 * z + 4)), .int (xs (6 * z + 5))]) (rest := []) (b := rm 0) (S := SM) (r := rm) (σ := σm) (τ := τ) (vs := vs) (E := EM am) hx hb hml hown hg hNW hK hA (EM_ok am) hEM (ct_feed (Q := fun (r : Int32) (s3 t3 : St) (z3 : List Nat) => LIv (z + 1) σ1 s3 t3 z3) am rm hc (wx_feed hG (by omega) hF0 (fun r3 s3 g3 f3 d3 => ⟨hp, g3, by have : ((z + 1 : Nat) : Int) = (z : Int) + 1 := rfl; omega, rlg_feed hIc hR hRc d3⟩)) l D cy) (fun _ _ _ h => h) (Nat.le_of_ble_eq_true rfl) hc (lw_c2 hc) (lw_s2 hc) lwV_X14_feed m_2167 (recv_ob obM_0) rfl rfl (Nat.le_of_ble_eq_true rfl) dl_188 hl.1 hP hD hS (fun v2 σ2 τ2 vs2 H2 locs2 hq hv2 hc2 hP2 hD2 hS2 => ?_)
  obtain ⟨x2, rfl, hLI⟩ := hq
  refine W.widen (k := 620 + vs2.length) (n := 2350875 + 9 * vs2.length) (by omega) (by omega) ?_
  refine W.eq (g2 := F0 m 191 ls [.int x2]) rfl ?_
  have hP2 := l_swapP hP2
  have hD2 := l_swapD hD2
  refine lv_pop hx hb dl_191 rfl ?_
  refine lv_goto (tgt := 615) hx hb dl_192 (by decide) ?_
  exact kk _ _ _ _ _ _ hLI hc2 hP2 hD2 hS2
set_option maxHeartbeats 4000000 in
set_option maxRecDepth 100000 in
/-- the law's case 1: end -/
theorem k_case_1 {p : Program} {l : Launch} {e : Env} {s : State} {m : MethodId} {below : List Frame} {meth : Method} {c : Code} {H : Heap} {locs : List Loc} {Q : State → Prop} {D : va_G} {cy : Nat → ClassId} {A : Nat → Prop} {b L z : Nat} {xs : Nat → Int32} {ls : Array Slot} {rc rm a am : Nat → Nat} {σc σm τ : St} {vs : List Nat}
    (hx : p.tables.exec = Jvm.exec) (hb : c.code = code) (hml : c.maxLocals = 4) (hown : s.vm.findClass "LinkedUnitsLaw" = some m.cls) (hg : ∀ w ∈ GW, w.before #[Value.ref b] s = true) (hNW : nwOK s) (hK : va_K D vwCl (kTy cy) s) (hA : ∀ q, s.heap.size ≤ q → A q) (hX : va_X b L xs s s.heap) (hbl : b < s.heap.size) (hbA : ¬ A b) (hEC : EC a gC A s) (hEM : EM am A s) (hL : L ≤ 3072) (hz : 6 * z + 6 ≤ L) (hI : LIv z σc σm τ vs) (hc : vs.length ≤ CAP)
    (hP : va_P D vwCl (wld SM cy rm σm τ vs ++ wld SC cy rc σc Z0 []) H) (hD : va_D A (wld SM cy rm σm τ vs ++ wld SC cy rc σc Z0 [])) (hS : va_S A s.heap H locs) (hl : lv_has ls 4 [(3, .int (nI (6 * z))), (2, .ref (rm 0)), (1, .ref (rc 0)), (0, .ref b)])
    (kk : ∀ (σc σm τ : St) (vs : List Nat) (H : Heap) (locs : List Loc), LIv (z + 1) σc σm τ vs → vs.length ≤ CAP → va_P D vwCl (wld SM cy rm σm τ vs ++ wld SC cy rc σc Z0 []) H → va_D A (wld SM cy rm σm τ vs ++ wld SC cy rc σc Z0 []) → va_S A s.heap H locs → W p l e room_1 s m #[Value.ref b] below meth c H locs (620 + vs.length) (2350875 + 9 * vs.length) Q (F0 m 615 ls [])) : W p l e room_1 s m #[Value.ref b] below meth c H locs (620 + vs.length) (2350875 + 9 * vs.length) Q (F0 m 195 ls []) := by
  obtain ⟨⟨o, hIc⟩, hG, hZ, hR⟩ := hI
  have hF0 := lw_fd hG
  have hZ2 : (z : Int) ≤ 511 := by omega
  refine lv_aload_n hx hb dl_195 rfl (lv_at hl 2 rfl) ?_
  refine lv_aload_n hx hb dl_196 rfl (lv_at hl 3 rfl) ?_
  refine lv_iload_n hx hb dl_197 rfl (lv_at hl 0 rfl) ?_
  refine lv_iconst (v := nI 1) hx hb dl_198 (by decide) ?_
  refine lv_iadd hx hb dl_199 ?_
  refine k_topi (nI (6 * z + 1)) (nI_add _ _) ?_
  refine va_sld hx hb hX hbl hbA hS (vp_in_nI (by omega) (by omega)) dl_200 ?_
  refine k_topi (xs (6 * z + 1)) (congrArg xs (lw_nn (by omega))) ?_
  refine l_call (l := l) (As := [.int (xs (6 * z + 1))]) (rest := []) (b := rc 0) (S := SC) (r := rc) (σ := σc) (τ := Z0) (vs := []) (E := EC a gC) hx hb hml hown hg hNW hK hA (EC_ok a gC) hEC (kt_X12_end a rc (Q := fun v t => (∃ o, IVx t o) ∧ ENt (xs (6 * z + 1)) σc t) (cq_end hIc) l D cy) (fun _ _ _ h => h) (Nat.le_of_ble_eq_true rfl) (Nat.zero_le _) (lw_c1 hc) (lw_s1 hc) lwV_X12_end m_790 (recv_ob obC_0) rfl rfl (Nat.le_of_ble_eq_true rfl) dl_201 hl.1 hP hD hS (fun v1 σ1 τ1 vs1 H locs hq _ _ hP hD hS => ?_)
  obtain ⟨rfl, rfl, x1, rfl, hp⟩ := hq
  obtain ⟨hp, hRc⟩ := hp
  refine W.widen (k := 620 + vs.length) (n := 2350875 + 9 * vs.length) (Nat.le_refl _) (Nat.le_refl _) ?_
  refine W.eq (g2 := F0 m 204 ls [.int x1]) rfl ?_
  have hP := l_swapP hP
  have hD := l_swapD hD
  refine lv_pop hx hb dl_204 rfl ?_
  refine lv_aload_n hx hb dl_205 rfl (lv_at hl 1 rfl) ?_
  refine lv_aload_n hx hb dl_206 rfl (lv_at hl 3 rfl) ?_
  refine lv_iload_n hx hb dl_207 rfl (lv_at hl 0 rfl) ?_
  refine lv_iconst (v := nI 1) hx hb dl_208 (by decide) ?_
  refine lv_iadd hx hb dl_209 ?_
  refine k_topi (nI (6 * z + 1)) (nI_add _ _) ?_
  refine va_sld hx hb hX hbl hbA hS (vp_in_nI (by omega) (by omega)) dl_210 ?_
  refine k_topi (xs (6 * z + 1)) (congrArg xs (lw_nn (by omega))) ?_
  refine l_call (l := l) (As := [.int (xs (6 * z + 1))]) (rest := []) (b := rm 0) (S := SM) (r := rm) (σ := σm) (τ := τ) (vs := vs) (E := EM am) hx hb hml hown hg hNW hK hA (EM_ok am) hEM (ct_end (Q := fun (r : Int32) (s3 t3 : St) (z3 : List Nat) => LIv (z + 1) σ1 s3 t3 z3) am rm hc (wx_end hG (fun r3 s3 g3 f3 d3 => lw_up hp g3 (by rw [f3]; exact hZ) (rlg_end hIc hR hRc d3))) l D cy) (fun _ _ _ h => h) (Nat.le_of_ble_eq_true rfl) hc (lw_c2 hc) (lw_s2 hc) lwV_X14_end m_2171 (recv_ob obM_0) rfl rfl (Nat.le_of_ble_eq_true rfl) dl_211 hl.1 hP hD hS (fun v2 σ2 τ2 vs2 H2 locs2 hq hv2 hc2 hP2 hD2 hS2 => ?_)
  obtain ⟨x2, rfl, hLI⟩ := hq
  refine W.widen (k := 620 + vs2.length) (n := 2350875 + 9 * vs2.length) (by omega) (by omega) ?_
  refine W.eq (g2 := F0 m 214 ls [.int x2]) rfl ?_
  have hP2 := l_swapP hP2
  have hD2 := l_swapD hD2
  refine lv_pop hx hb dl_214 rfl ?_
  refine lv_goto (tgt := 615) hx hb dl_215 (by decide) ?_
  exact kk _ _ _ _ _ _ hLI hc2 hP2 hD2 hS2
set_option maxHeartbeats 4000000 in
set_option maxRecDepth 100000 in
/-- the law's case 2: compile -/
theorem k_case_2 {p : Program} {l : Launch} {e : Env} {s : State} {m : MethodId} {below : List Frame} {meth : Method} {c : Code} {H : Heap} {locs : List Loc} {Q : State → Prop} {D : va_G} {cy : Nat → ClassId} {A : Nat → Prop} {b L z : Nat} {xs : Nat → Int32} {ls : Array Slot} {rc rm a am : Nat → Nat} {σc σm τ : St} {vs : List Nat}
    (hx : p.tables.exec = Jvm.exec) (hb : c.code = code) (hml : c.maxLocals = 4) (hown : s.vm.findClass "LinkedUnitsLaw" = some m.cls) (hg : ∀ w ∈ GW, w.before #[Value.ref b] s = true) (hNW : nwOK s) (hK : va_K D vwCl (kTy cy) s) (hA : ∀ q, s.heap.size ≤ q → A q) (hX : va_X b L xs s s.heap) (hbl : b < s.heap.size) (hbA : ¬ A b) (hEC : EC a gC A s) (hEM : EM am A s) (hL : L ≤ 3072) (hz : 6 * z + 6 ≤ L) (hI : LIv z σc σm τ vs) (hc : vs.length ≤ CAP)
    (hP : va_P D vwCl (wld SM cy rm σm τ vs ++ wld SC cy rc σc Z0 []) H) (hD : va_D A (wld SM cy rm σm τ vs ++ wld SC cy rc σc Z0 [])) (hS : va_S A s.heap H locs) (hl : lv_has ls 4 [(3, .int (nI (6 * z))), (2, .ref (rm 0)), (1, .ref (rc 0)), (0, .ref b)])
    (kk : ∀ (σc σm τ : St) (vs : List Nat) (H : Heap) (locs : List Loc), LIv (z + 1) σc σm τ vs → vs.length ≤ CAP → va_P D vwCl (wld SM cy rm σm τ vs ++ wld SC cy rc σc Z0 []) H → va_D A (wld SM cy rm σm τ vs ++ wld SC cy rc σc Z0 []) → va_S A s.heap H locs → W p l e room_1 s m #[Value.ref b] below meth c H locs (620 + vs.length) (2350875 + 9 * vs.length) Q (F0 m 615 ls [])) : W p l e room_1 s m #[Value.ref b] below meth c H locs (620 + vs.length) (2350875 + 9 * vs.length) Q (F0 m 218 ls []) := by
  obtain ⟨⟨o, hIc⟩, hG, hZ, hR⟩ := hI
  have hF0 := lw_fd hG
  have hZ2 : (z : Int) ≤ 511 := by omega
  refine lv_aload_n hx hb dl_218 rfl (lv_at hl 2 rfl) ?_
  refine lv_aload_n hx hb dl_219 rfl (lv_at hl 3 rfl) ?_
  refine lv_iload_n hx hb dl_220 rfl (lv_at hl 0 rfl) ?_
  refine lv_iconst (v := nI 1) hx hb dl_221 (by decide) ?_
  refine lv_iadd hx hb dl_222 ?_
  refine k_topi (nI (6 * z + 1)) (nI_add _ _) ?_
  refine va_sld hx hb hX hbl hbA hS (vp_in_nI (by omega) (by omega)) dl_223 ?_
  refine k_topi (xs (6 * z + 1)) (congrArg xs (lw_nn (by omega))) ?_
  refine l_call (l := l) (As := [.int (xs (6 * z + 1))]) (rest := []) (b := rc 0) (S := SC) (r := rc) (σ := σc) (τ := Z0) (vs := []) (E := EC a gC) hx hb hml hown hg hNW hK hA (EC_ok a gC) hEC (kt_X12_compile a rc (Q := fun v t => (∃ o, IVx t o) ∧ ∀ s : St, CMPz (xs (6 * z + 1)) σm s → (s 0 1).toInt = 0 → s 0 2 = σm 0 2 → RLg t s) (cg_compile hIc hG hR) l D cy) (fun _ _ _ h => h) (Nat.le_of_ble_eq_true rfl) (Nat.zero_le _) (lw_c1 hc) (lw_s1 hc) lwV_X12_compile m_794 (recv_ob obC_0) rfl rfl (Nat.le_of_ble_eq_true rfl) dl_224 hl.1 hP hD hS (fun v1 σ1 τ1 vs1 H locs hq _ _ hP hD hS => ?_)
  obtain ⟨rfl, rfl, x1, rfl, hp⟩ := hq
  obtain ⟨hp, hRc⟩ := hp
  refine W.widen (k := 620 + vs.length) (n := 2350875 + 9 * vs.length) (Nat.le_refl _) (Nat.le_refl _) ?_
  refine W.eq (g2 := F0 m 227 ls [.int x1]) rfl ?_
  have hP := l_swapP hP
  have hD := l_swapD hD
  refine lv_pop hx hb dl_227 rfl ?_
  refine lv_aload_n hx hb dl_228 rfl (lv_at hl 1 rfl) ?_
  refine lv_aload_n hx hb dl_229 rfl (lv_at hl 3 rfl) ?_
  refine lv_iload_n hx hb dl_230 rfl (lv_at hl 0 rfl) ?_
  refine lv_iconst (v := nI 1) hx hb dl_231 (by decide) ?_
  refine lv_iadd hx hb dl_232 ?_
  refine k_topi (nI (6 * z + 1)) (nI_add _ _) ?_
  refine va_sld hx hb hX hbl hbA hS (vp_in_nI (by omega) (by omega)) dl_233 ?_
  refine k_topi (xs (6 * z + 1)) (congrArg xs (lw_nn (by omega))) ?_
  refine l_call (l := l) (As := [.int (xs (6 * z + 1))]) (rest := []) (b := rm 0) (S := SM) (r := rm) (σ := σm) (τ := τ) (vs := vs) (E := EM am) hx hb hml hown hg hNW hK hA (EM_ok am) hEM (ct_compile (Q := fun (r : Int32) (s3 t3 : St) (z3 : List Nat) => LIv (z + 1) σ1 s3 t3 z3) am rm hc (wb_compile hG (by omega) (rl_by hIc hR.1.1.1.1) hR.1.1.2.2.2.2 (fun r3 s3 t3 z3 g3 h3 f3 c3 => lw_up hp g3 (by rw [f3]; exact hZ) (hRc s3 c3 h3 f3))) l D cy) (fun _ _ _ h => h) (Nat.le_of_ble_eq_true rfl) hc (lw_c2 hc) (lw_s2 hc) lwV_X14_compile m_2175 (recv_ob obM_0) rfl rfl (Nat.le_of_ble_eq_true rfl) dl_234 hl.1 hP hD hS (fun v2 σ2 τ2 vs2 H2 locs2 hq hv2 hc2 hP2 hD2 hS2 => ?_)
  obtain ⟨x2, rfl, hLI⟩ := hq
  refine W.widen (k := 620 + vs2.length) (n := 2350875 + 9 * vs2.length) (by omega) (by omega) ?_
  refine W.eq (g2 := F0 m 237 ls [.int x2]) rfl ?_
  have hP2 := l_swapP hP2
  have hD2 := l_swapD hD2
  refine lv_pop hx hb dl_237 rfl ?_
  refine lv_goto (tgt := 615) hx hb dl_238 (by decide) ?_
  exact kk _ _ _ _ _ _ hLI hc2 hP2 hD2 hS2
set_option maxHeartbeats 4000000 in
set_option maxRecDepth 100000 in
/-- the law's case 3: place -/
theorem k_case_3 {p : Program} {l : Launch} {e : Env} {s : State} {m : MethodId} {below : List Frame} {meth : Method} {c : Code} {H : Heap} {locs : List Loc} {Q : State → Prop} {D : va_G} {cy : Nat → ClassId} {A : Nat → Prop} {b L z : Nat} {xs : Nat → Int32} {ls : Array Slot} {rc rm a am : Nat → Nat} {σc σm τ : St} {vs : List Nat}
    (hx : p.tables.exec = Jvm.exec) (hb : c.code = code) (hml : c.maxLocals = 4) (hown : s.vm.findClass "LinkedUnitsLaw" = some m.cls) (hg : ∀ w ∈ GW, w.before #[Value.ref b] s = true) (hNW : nwOK s) (hK : va_K D vwCl (kTy cy) s) (hA : ∀ q, s.heap.size ≤ q → A q) (hX : va_X b L xs s s.heap) (hbl : b < s.heap.size) (hbA : ¬ A b) (hEC : EC a gC A s) (hEM : EM am A s) (hL : L ≤ 3072) (hz : 6 * z + 6 ≤ L) (hI : LIv z σc σm τ vs) (hc : vs.length ≤ CAP)
    (hP : va_P D vwCl (wld SM cy rm σm τ vs ++ wld SC cy rc σc Z0 []) H) (hD : va_D A (wld SM cy rm σm τ vs ++ wld SC cy rc σc Z0 [])) (hS : va_S A s.heap H locs) (hl : lv_has ls 4 [(3, .int (nI (6 * z))), (2, .ref (rm 0)), (1, .ref (rc 0)), (0, .ref b)])
    (kk : ∀ (σc σm τ : St) (vs : List Nat) (H : Heap) (locs : List Loc), LIv (z + 1) σc σm τ vs → vs.length ≤ CAP → va_P D vwCl (wld SM cy rm σm τ vs ++ wld SC cy rc σc Z0 []) H → va_D A (wld SM cy rm σm τ vs ++ wld SC cy rc σc Z0 []) → va_S A s.heap H locs → W p l e room_1 s m #[Value.ref b] below meth c H locs (620 + vs.length) (2350875 + 9 * vs.length) Q (F0 m 615 ls [])) : W p l e room_1 s m #[Value.ref b] below meth c H locs (620 + vs.length) (2350875 + 9 * vs.length) Q (F0 m 241 ls []) := by
  obtain ⟨⟨o, hIc⟩, hG, hZ, hR⟩ := hI
  have hF0 := lw_fd hG
  have hZ2 : (z : Int) ≤ 511 := by omega
  refine lv_aload_n hx hb dl_241 rfl (lv_at hl 2 rfl) ?_
  refine l_call (l := l) (As := []) (rest := []) (b := rc 0) (S := SC) (r := rc) (σ := σc) (τ := Z0) (vs := []) (E := EC a gC) hx hb hml hown hg hNW hK hA (EC_ok a gC) hEC (kt_X12_place a rc (Q := fun _ => True) (True.intro) l D cy) (fun _ _ _ h => h) (Nat.le_of_ble_eq_true rfl) (Nat.zero_le _) (lw_c1 hc) (lw_s1 hc) lwV_X12_place m_1501 (recv_ob obC_0) rfl rfl (Nat.le_of_ble_eq_true rfl) dl_242 hl.1 hP hD hS (fun v1 σ1 τ1 vs1 H locs hq _ _ hP hD hS => ?_)
  obtain ⟨rfl, rfl, x1, rfl, hp⟩ := hq
  replace hp := hp.1
  have hRc : σ1 = σc := hp
  have hp : ∃ o, IVx σ1 o := ⟨o, hp.symm ▸ hIc⟩
  refine W.widen (k := 620 + vs.length) (n := 2350875 + 9 * vs.length) (Nat.le_refl _) (Nat.le_refl _) ?_
  refine W.eq (g2 := F0 m 245 ls [.int x1]) rfl ?_
  have hP := l_swapP hP
  have hD := l_swapD hD
  refine lv_pop hx hb dl_245 rfl ?_
  refine lv_aload_n hx hb dl_246 rfl (lv_at hl 1 rfl) ?_
  refine l_call (l := l) (As := []) (rest := []) (b := rm 0) (S := SM) (r := rm) (σ := σm) (τ := τ) (vs := vs) (E := EM am) hx hb hml hown hg hNW hK hA (EM_ok am) hEM (ct_place (Q := fun _ => True) am rm hc (sp_place (fun _ => trivial)) l D cy) (fun _ _ _ h => h) (Nat.le_of_ble_eq_true rfl) hc (lw_c2 hc) (lw_s2 hc) lwV_X14_place m_2636 (recv_ob obM_0) rfl rfl (Nat.le_of_ble_eq_true rfl) dl_247 hl.1 hP hD hS (fun v2 σ2 τ2 vs2 H2 locs2 hq hv2 hc2 hP2 hD2 hS2 => ?_)
  obtain ⟨rfl, rfl, rfl, x2, rfl, -⟩ := hq
  have hLI : LIv (z + 1) σ1 σ2 τ2 vs2 := lw_up hp hG hZ (by rw [hRc]; exact hR)
  refine W.widen (k := 620 + vs2.length) (n := 2350875 + 9 * vs2.length) (by omega) (by omega) ?_
  refine W.eq (g2 := F0 m 250 ls [.int x2]) rfl ?_
  have hP2 := l_swapP hP2
  have hD2 := l_swapD hD2
  refine lv_pop hx hb dl_250 rfl ?_
  refine lv_goto (tgt := 615) hx hb dl_251 (by decide) ?_
  exact kk _ _ _ _ _ _ hLI hc2 hP2 hD2 hS2
set_option maxHeartbeats 4000000 in
set_option maxRecDepth 100000 in
/-- the law's case 4: objects -/
theorem k_case_4 {p : Program} {l : Launch} {e : Env} {s : State} {m : MethodId} {below : List Frame} {meth : Method} {c : Code} {H : Heap} {locs : List Loc} {Q : State → Prop} {D : va_G} {cy : Nat → ClassId} {A : Nat → Prop} {b L z : Nat} {xs : Nat → Int32} {ls : Array Slot} {rc rm a am : Nat → Nat} {σc σm τ : St} {vs : List Nat}
    (hx : p.tables.exec = Jvm.exec) (hb : c.code = code) (hml : c.maxLocals = 4) (hown : s.vm.findClass "LinkedUnitsLaw" = some m.cls) (hg : ∀ w ∈ GW, w.before #[Value.ref b] s = true) (hNW : nwOK s) (hK : va_K D vwCl (kTy cy) s) (hA : ∀ q, s.heap.size ≤ q → A q) (hX : va_X b L xs s s.heap) (hbl : b < s.heap.size) (hbA : ¬ A b) (hEC : EC a gC A s) (hEM : EM am A s) (hL : L ≤ 3072) (hz : 6 * z + 6 ≤ L) (hI : LIv z σc σm τ vs) (hc : vs.length ≤ CAP)
    (hP : va_P D vwCl (wld SM cy rm σm τ vs ++ wld SC cy rc σc Z0 []) H) (hD : va_D A (wld SM cy rm σm τ vs ++ wld SC cy rc σc Z0 [])) (hS : va_S A s.heap H locs) (hl : lv_has ls 4 [(3, .int (nI (6 * z))), (2, .ref (rm 0)), (1, .ref (rc 0)), (0, .ref b)])
    (kk : ∀ (σc σm τ : St) (vs : List Nat) (H : Heap) (locs : List Loc), LIv (z + 1) σc σm τ vs → vs.length ≤ CAP → va_P D vwCl (wld SM cy rm σm τ vs ++ wld SC cy rc σc Z0 []) H → va_D A (wld SM cy rm σm τ vs ++ wld SC cy rc σc Z0 []) → va_S A s.heap H locs → W p l e room_1 s m #[Value.ref b] below meth c H locs (620 + vs.length) (2350875 + 9 * vs.length) Q (F0 m 615 ls [])) : W p l e room_1 s m #[Value.ref b] below meth c H locs (620 + vs.length) (2350875 + 9 * vs.length) Q (F0 m 254 ls []) := by
  obtain ⟨⟨o, hIc⟩, hG, hZ, hR⟩ := hI
  have hF0 := lw_fd hG
  have hZ2 : (z : Int) ≤ 511 := by omega
  refine lv_aload_n hx hb dl_254 rfl (lv_at hl 2 rfl) ?_
  refine l_call (l := l) (As := []) (rest := []) (b := rc 0) (S := SC) (r := rc) (σ := σc) (τ := Z0) (vs := []) (E := EC a gC) hx hb hml hown hg hNW hK hA (EC_ok a gC) hEC (kt_X12_objects a rc (Q := fun _ => True) (True.intro) l D cy) (fun _ _ _ h => h) (Nat.le_of_ble_eq_true rfl) (Nat.zero_le _) (lw_c1 hc) (lw_s1 hc) lwV_X12_objects m_1505 (recv_ob obC_0) rfl rfl (Nat.le_of_ble_eq_true rfl) dl_255 hl.1 hP hD hS (fun v1 σ1 τ1 vs1 H locs hq _ _ hP hD hS => ?_)
  obtain ⟨rfl, rfl, x1, rfl, hp⟩ := hq
  replace hp := hp.1
  have hRc : σ1 = σc := hp
  have hp : ∃ o, IVx σ1 o := ⟨o, hp.symm ▸ hIc⟩
  refine W.widen (k := 620 + vs.length) (n := 2350875 + 9 * vs.length) (Nat.le_refl _) (Nat.le_refl _) ?_
  refine W.eq (g2 := F0 m 258 ls [.int x1]) rfl ?_
  have hP := l_swapP hP
  have hD := l_swapD hD
  refine lv_pop hx hb dl_258 rfl ?_
  refine lv_aload_n hx hb dl_259 rfl (lv_at hl 1 rfl) ?_
  refine l_call (l := l) (As := []) (rest := []) (b := rm 0) (S := SM) (r := rm) (σ := σm) (τ := τ) (vs := vs) (E := EM am) hx hb hml hown hg hNW hK hA (EM_ok am) hEM (ct_objects (Q := fun _ => True) am rm hc (sp_objects (fun _ => trivial)) l D cy) (fun _ _ _ h => h) (Nat.le_of_ble_eq_true rfl) hc (lw_c2 hc) (lw_s2 hc) lwV_X14_objects m_2640 (recv_ob obM_0) rfl rfl (Nat.le_of_ble_eq_true rfl) dl_260 hl.1 hP hD hS (fun v2 σ2 τ2 vs2 H2 locs2 hq hv2 hc2 hP2 hD2 hS2 => ?_)
  obtain ⟨rfl, rfl, rfl, x2, rfl, -⟩ := hq
  have hLI : LIv (z + 1) σ1 σ2 τ2 vs2 := lw_up hp hG hZ (by rw [hRc]; exact hR)
  refine W.widen (k := 620 + vs2.length) (n := 2350875 + 9 * vs2.length) (by omega) (by omega) ?_
  refine W.eq (g2 := F0 m 263 ls [.int x2]) rfl ?_
  have hP2 := l_swapP hP2
  have hD2 := l_swapD hD2
  refine lv_pop hx hb dl_263 rfl ?_
  refine lv_goto (tgt := 615) hx hb dl_264 (by decide) ?_
  exact kk _ _ _ _ _ _ hLI hc2 hP2 hD2 hS2
set_option maxHeartbeats 4000000 in
set_option maxRecDepth 100000 in
/-- the law's case 5: count -/
theorem k_case_5 {p : Program} {l : Launch} {e : Env} {s : State} {m : MethodId} {below : List Frame} {meth : Method} {c : Code} {H : Heap} {locs : List Loc} {Q : State → Prop} {D : va_G} {cy : Nat → ClassId} {A : Nat → Prop} {b L z : Nat} {xs : Nat → Int32} {ls : Array Slot} {rc rm a am : Nat → Nat} {σc σm τ : St} {vs : List Nat}
    (hx : p.tables.exec = Jvm.exec) (hb : c.code = code) (hml : c.maxLocals = 4) (hown : s.vm.findClass "LinkedUnitsLaw" = some m.cls) (hg : ∀ w ∈ GW, w.before #[Value.ref b] s = true) (hNW : nwOK s) (hK : va_K D vwCl (kTy cy) s) (hA : ∀ q, s.heap.size ≤ q → A q) (hX : va_X b L xs s s.heap) (hbl : b < s.heap.size) (hbA : ¬ A b) (hEC : EC a gC A s) (hEM : EM am A s) (hL : L ≤ 3072) (hz : 6 * z + 6 ≤ L) (hI : LIv z σc σm τ vs) (hc : vs.length ≤ CAP)
    (hP : va_P D vwCl (wld SM cy rm σm τ vs ++ wld SC cy rc σc Z0 []) H) (hD : va_D A (wld SM cy rm σm τ vs ++ wld SC cy rc σc Z0 [])) (hS : va_S A s.heap H locs) (hl : lv_has ls 4 [(3, .int (nI (6 * z))), (2, .ref (rm 0)), (1, .ref (rc 0)), (0, .ref b)])
    (kk : ∀ (σc σm τ : St) (vs : List Nat) (H : Heap) (locs : List Loc), LIv (z + 1) σc σm τ vs → vs.length ≤ CAP → va_P D vwCl (wld SM cy rm σm τ vs ++ wld SC cy rc σc Z0 []) H → va_D A (wld SM cy rm σm τ vs ++ wld SC cy rc σc Z0 []) → va_S A s.heap H locs → W p l e room_1 s m #[Value.ref b] below meth c H locs (620 + vs.length) (2350875 + 9 * vs.length) Q (F0 m 615 ls [])) : W p l e room_1 s m #[Value.ref b] below meth c H locs (620 + vs.length) (2350875 + 9 * vs.length) Q (F0 m 267 ls []) := by
  obtain ⟨⟨o, hIc⟩, hG, hZ, hR⟩ := hI
  have hF0 := lw_fd hG
  have hZ2 : (z : Int) ≤ 511 := by omega
  refine lv_aload_n hx hb dl_267 rfl (lv_at hl 2 rfl) ?_
  refine lv_aload_n hx hb dl_268 rfl (lv_at hl 3 rfl) ?_
  refine lv_iload_n hx hb dl_269 rfl (lv_at hl 0 rfl) ?_
  refine lv_iconst (v := nI 1) hx hb dl_270 (by decide) ?_
  refine lv_iadd hx hb dl_271 ?_
  refine k_topi (nI (6 * z + 1)) (nI_add _ _) ?_
  refine va_sld hx hb hX hbl hbA hS (vp_in_nI (by omega) (by omega)) dl_272 ?_
  refine k_topi (xs (6 * z + 1)) (congrArg xs (lw_nn (by omega))) ?_
  refine lv_aload_n hx hb dl_273 rfl (lv_at hl 3 rfl) ?_
  refine lv_iload_n hx hb dl_274 rfl (lv_at hl 0 rfl) ?_
  refine lv_iconst (v := nI 2) hx hb dl_275 (by decide) ?_
  refine lv_iadd hx hb dl_276 ?_
  refine k_topi (nI (6 * z + 2)) (nI_add _ _) ?_
  refine va_sld hx hb hX hbl hbA hS (vp_in_nI (by omega) (by omega)) dl_277 ?_
  refine k_topi (xs (6 * z + 2)) (congrArg xs (lw_nn (by omega))) ?_
  refine l_call (l := l) (As := [.int (xs (6 * z + 1)), .int (xs (6 * z + 2))]) (rest := []) (b := rc 0) (S := SC) (r := rc) (σ := σc) (τ := Z0) (vs := []) (E := EC a gC) hx hb hml hown hg hNW hK hA (EC_ok a gC) hEC (kt_X12_count a rc (Q := fun _ => True) (sk_count (fun _ => True.intro)) l D cy) (fun _ _ _ h => h) (Nat.le_of_ble_eq_true rfl) (Nat.zero_le _) (lw_c1 hc) (lw_s1 hc) lwV_X12_count m_1509 (recv_ob obC_0) rfl rfl (Nat.le_of_ble_eq_true rfl) dl_278 hl.1 hP hD hS (fun v1 σ1 τ1 vs1 H locs hq _ _ hP hD hS => ?_)
  obtain ⟨rfl, rfl, x1, rfl, hp⟩ := hq
  replace hp := hp.1
  have hRc : σ1 = σc := hp
  have hp : ∃ o, IVx σ1 o := ⟨o, hp.symm ▸ hIc⟩
  refine W.widen (k := 620 + vs.length) (n := 2350875 + 9 * vs.length) (Nat.le_refl _) (Nat.le_refl _) ?_
  refine W.eq (g2 := F0 m 281 ls [.int x1]) rfl ?_
  have hP := l_swapP hP
  have hD := l_swapD hD
  refine lv_pop hx hb dl_281 rfl ?_
  refine lv_aload_n hx hb dl_282 rfl (lv_at hl 1 rfl) ?_
  refine lv_aload_n hx hb dl_283 rfl (lv_at hl 3 rfl) ?_
  refine lv_iload_n hx hb dl_284 rfl (lv_at hl 0 rfl) ?_
  refine lv_iconst (v := nI 1) hx hb dl_285 (by decide) ?_
  refine lv_iadd hx hb dl_286 ?_
  refine k_topi (nI (6 * z + 1)) (nI_add _ _) ?_
  refine va_sld hx hb hX hbl hbA hS (vp_in_nI (by omega) (by omega)) dl_287 ?_
  refine k_topi (xs (6 * z + 1)) (congrArg xs (lw_nn (by omega))) ?_
  refine lv_aload_n hx hb dl_288 rfl (lv_at hl 3 rfl) ?_
  refine lv_iload_n hx hb dl_289 rfl (lv_at hl 0 rfl) ?_
  refine lv_iconst (v := nI 2) hx hb dl_290 (by decide) ?_
  refine lv_iadd hx hb dl_291 ?_
  refine k_topi (nI (6 * z + 2)) (nI_add _ _) ?_
  refine va_sld hx hb hX hbl hbA hS (vp_in_nI (by omega) (by omega)) dl_292 ?_
  refine k_topi (xs (6 * z + 2)) (congrArg xs (lw_nn (by omega))) ?_
  refine l_call (l := l) (As := [.int (xs (6 * z + 1)), .int (xs (6 * z + 2))]) (rest := []) (b := rm 0) (S := SM) (r := rm) (σ := σm) (τ := τ) (vs := vs) (E := EM am) hx hb hml hown hg hNW hK hA (EM_ok am) hEM (ct_count (Q := fun _ => True) am rm hc (sp_count hG (fun _ => trivial)) l D cy) (fun _ _ _ h => h) (Nat.le_of_ble_eq_true rfl) hc (lw_c2 hc) (lw_s2 hc) lwV_X14_count m_2644 (recv_ob obM_0) rfl rfl (Nat.le_of_ble_eq_true rfl) dl_293 hl.1 hP hD hS (fun v2 σ2 τ2 vs2 H2 locs2 hq hv2 hc2 hP2 hD2 hS2 => ?_)
  obtain ⟨rfl, rfl, rfl, x2, rfl, -⟩ := hq
  have hLI : LIv (z + 1) σ1 σ2 τ2 vs2 := lw_up hp hG hZ (by rw [hRc]; exact hR)
  refine W.widen (k := 620 + vs2.length) (n := 2350875 + 9 * vs2.length) (by omega) (by omega) ?_
  refine W.eq (g2 := F0 m 296 ls [.int x2]) rfl ?_
  have hP2 := l_swapP hP2
  have hD2 := l_swapD hD2
  refine lv_pop hx hb dl_296 rfl ?_
  refine lv_goto (tgt := 615) hx hb dl_297 (by decide) ?_
  exact kk _ _ _ _ _ _ hLI hc2 hP2 hD2 hS2
set_option maxHeartbeats 4000000 in
set_option maxRecDepth 100000 in
/-- the law's case 6: name -/
theorem k_case_6 {p : Program} {l : Launch} {e : Env} {s : State} {m : MethodId} {below : List Frame} {meth : Method} {c : Code} {H : Heap} {locs : List Loc} {Q : State → Prop} {D : va_G} {cy : Nat → ClassId} {A : Nat → Prop} {b L z : Nat} {xs : Nat → Int32} {ls : Array Slot} {rc rm a am : Nat → Nat} {σc σm τ : St} {vs : List Nat}
    (hx : p.tables.exec = Jvm.exec) (hb : c.code = code) (hml : c.maxLocals = 4) (hown : s.vm.findClass "LinkedUnitsLaw" = some m.cls) (hg : ∀ w ∈ GW, w.before #[Value.ref b] s = true) (hNW : nwOK s) (hK : va_K D vwCl (kTy cy) s) (hA : ∀ q, s.heap.size ≤ q → A q) (hX : va_X b L xs s s.heap) (hbl : b < s.heap.size) (hbA : ¬ A b) (hEC : EC a gC A s) (hEM : EM am A s) (hL : L ≤ 3072) (hz : 6 * z + 6 ≤ L) (hI : LIv z σc σm τ vs) (hc : vs.length ≤ CAP)
    (hP : va_P D vwCl (wld SM cy rm σm τ vs ++ wld SC cy rc σc Z0 []) H) (hD : va_D A (wld SM cy rm σm τ vs ++ wld SC cy rc σc Z0 [])) (hS : va_S A s.heap H locs) (hl : lv_has ls 4 [(3, .int (nI (6 * z))), (2, .ref (rm 0)), (1, .ref (rc 0)), (0, .ref b)])
    (kk : ∀ (σc σm τ : St) (vs : List Nat) (H : Heap) (locs : List Loc), LIv (z + 1) σc σm τ vs → vs.length ≤ CAP → va_P D vwCl (wld SM cy rm σm τ vs ++ wld SC cy rc σc Z0 []) H → va_D A (wld SM cy rm σm τ vs ++ wld SC cy rc σc Z0 []) → va_S A s.heap H locs → W p l e room_1 s m #[Value.ref b] below meth c H locs (620 + vs.length) (2350875 + 9 * vs.length) Q (F0 m 615 ls [])) : W p l e room_1 s m #[Value.ref b] below meth c H locs (620 + vs.length) (2350875 + 9 * vs.length) Q (F0 m 300 ls []) := by
  obtain ⟨⟨o, hIc⟩, hG, hZ, hR⟩ := hI
  have hF0 := lw_fd hG
  have hZ2 : (z : Int) ≤ 511 := by omega
  refine lv_aload_n hx hb dl_300 rfl (lv_at hl 2 rfl) ?_
  refine lv_aload_n hx hb dl_301 rfl (lv_at hl 3 rfl) ?_
  refine lv_iload_n hx hb dl_302 rfl (lv_at hl 0 rfl) ?_
  refine lv_iconst (v := nI 1) hx hb dl_303 (by decide) ?_
  refine lv_iadd hx hb dl_304 ?_
  refine k_topi (nI (6 * z + 1)) (nI_add _ _) ?_
  refine va_sld hx hb hX hbl hbA hS (vp_in_nI (by omega) (by omega)) dl_305 ?_
  refine k_topi (xs (6 * z + 1)) (congrArg xs (lw_nn (by omega))) ?_
  refine lv_aload_n hx hb dl_306 rfl (lv_at hl 3 rfl) ?_
  refine lv_iload_n hx hb dl_307 rfl (lv_at hl 0 rfl) ?_
  refine lv_iconst (v := nI 2) hx hb dl_308 (by decide) ?_
  refine lv_iadd hx hb dl_309 ?_
  refine k_topi (nI (6 * z + 2)) (nI_add _ _) ?_
  refine va_sld hx hb hX hbl hbA hS (vp_in_nI (by omega) (by omega)) dl_310 ?_
  refine k_topi (xs (6 * z + 2)) (congrArg xs (lw_nn (by omega))) ?_
  refine lv_aload_n hx hb dl_311 rfl (lv_at hl 3 rfl) ?_
  refine lv_iload_n hx hb dl_312 rfl (lv_at hl 0 rfl) ?_
  refine lv_iconst (v := nI 3) hx hb dl_313 (by decide) ?_
  refine lv_iadd hx hb dl_314 ?_
  refine k_topi (nI (6 * z + 3)) (nI_add _ _) ?_
  refine va_sld hx hb hX hbl hbA hS (vp_in_nI (by omega) (by omega)) dl_315 ?_
  refine k_topi (xs (6 * z + 3)) (congrArg xs (lw_nn (by omega))) ?_
  refine l_call (l := l) (As := [.int (xs (6 * z + 1)), .int (xs (6 * z + 2)), .int (xs (6 * z + 3))]) (rest := []) (b := rc 0) (S := SC) (r := rc) (σ := σc) (τ := Z0) (vs := []) (E := EC a gC) hx hb hml hown hg hNW hK hA (EC_ok a gC) hEC (kt_X12_name a rc (Q := fun _ => True) (sk_name hIc.2.2.2.2.2.1.2 (fun _ => True.intro)) l D cy) (fun _ _ _ h => h) (Nat.le_of_ble_eq_true rfl) (Nat.zero_le _) (lw_c1 hc) (lw_s1 hc) lwV_X12_name m_1526 (recv_ob obC_0) rfl rfl (Nat.le_of_ble_eq_true rfl) dl_316 hl.1 hP hD hS (fun v1 σ1 τ1 vs1 H locs hq _ _ hP hD hS => ?_)
  obtain ⟨rfl, rfl, x1, rfl, hp⟩ := hq
  replace hp := hp.1
  have hRc : σ1 = σc := hp
  have hp : ∃ o, IVx σ1 o := ⟨o, hp.symm ▸ hIc⟩
  refine W.widen (k := 620 + vs.length) (n := 2350875 + 9 * vs.length) (Nat.le_refl _) (Nat.le_refl _) ?_
  refine W.eq (g2 := F0 m 319 ls [.int x1]) rfl ?_
  have hP := l_swapP hP
  have hD := l_swapD hD
  refine lv_pop hx hb dl_319 rfl ?_
  refine lv_aload_n hx hb dl_320 rfl (lv_at hl 1 rfl) ?_
  refine lv_aload_n hx hb dl_321 rfl (lv_at hl 3 rfl) ?_
  refine lv_iload_n hx hb dl_322 rfl (lv_at hl 0 rfl) ?_
  refine lv_iconst (v := nI 1) hx hb dl_323 (by decide) ?_
  refine lv_iadd hx hb dl_324 ?_
  refine k_topi (nI (6 * z + 1)) (nI_add _ _) ?_
  refine va_sld hx hb hX hbl hbA hS (vp_in_nI (by omega) (by omega)) dl_325 ?_
  refine k_topi (xs (6 * z + 1)) (congrArg xs (lw_nn (by omega))) ?_
  refine lv_aload_n hx hb dl_326 rfl (lv_at hl 3 rfl) ?_
  refine lv_iload_n hx hb dl_327 rfl (lv_at hl 0 rfl) ?_
  refine lv_iconst (v := nI 2) hx hb dl_328 (by decide) ?_
  refine lv_iadd hx hb dl_329 ?_
  refine k_topi (nI (6 * z + 2)) (nI_add _ _) ?_
  refine va_sld hx hb hX hbl hbA hS (vp_in_nI (by omega) (by omega)) dl_330 ?_
  refine k_topi (xs (6 * z + 2)) (congrArg xs (lw_nn (by omega))) ?_
  refine lv_aload_n hx hb dl_331 rfl (lv_at hl 3 rfl) ?_
  refine lv_iload_n hx hb dl_332 rfl (lv_at hl 0 rfl) ?_
  refine lv_iconst (v := nI 3) hx hb dl_333 (by decide) ?_
  refine lv_iadd hx hb dl_334 ?_
  refine k_topi (nI (6 * z + 3)) (nI_add _ _) ?_
  refine va_sld hx hb hX hbl hbA hS (vp_in_nI (by omega) (by omega)) dl_335 ?_
  refine k_topi (xs (6 * z + 3)) (congrArg xs (lw_nn (by omega))) ?_
  refine l_call (l := l) (As := [.int (xs (6 * z + 1)), .int (xs (6 * z + 2)), .int (xs (6 * z + 3))]) (rest := []) (b := rm 0) (S := SM) (r := rm) (σ := σm) (τ := τ) (vs := vs) (E := EM am) hx hb hml hown hg hNW hK hA (EM_ok am) hEM (ct_name (Q := fun _ => True) am rm hc (sp_name hG (fun _ => trivial)) l D cy) (fun _ _ _ h => h) (Nat.le_of_ble_eq_true rfl) hc (lw_c2 hc) (lw_s2 hc) lwV_X14_name m_2656 (recv_ob obM_0) rfl rfl (Nat.le_of_ble_eq_true rfl) dl_336 hl.1 hP hD hS (fun v2 σ2 τ2 vs2 H2 locs2 hq hv2 hc2 hP2 hD2 hS2 => ?_)
  obtain ⟨rfl, rfl, rfl, x2, rfl, -⟩ := hq
  have hLI : LIv (z + 1) σ1 σ2 τ2 vs2 := lw_up hp hG hZ (by rw [hRc]; exact hR)
  refine W.widen (k := 620 + vs2.length) (n := 2350875 + 9 * vs2.length) (by omega) (by omega) ?_
  refine W.eq (g2 := F0 m 339 ls [.int x2]) rfl ?_
  have hP2 := l_swapP hP2
  have hD2 := l_swapD hD2
  refine lv_pop hx hb dl_339 rfl ?_
  refine lv_goto (tgt := 615) hx hb dl_340 (by decide) ?_
  exact kk _ _ _ _ _ _ hLI hc2 hP2 hD2 hS2
set_option maxHeartbeats 4000000 in
set_option maxRecDepth 100000 in
/-- the law's case 7: symbol -/
theorem k_case_7 {p : Program} {l : Launch} {e : Env} {s : State} {m : MethodId} {below : List Frame} {meth : Method} {c : Code} {H : Heap} {locs : List Loc} {Q : State → Prop} {D : va_G} {cy : Nat → ClassId} {A : Nat → Prop} {b L z : Nat} {xs : Nat → Int32} {ls : Array Slot} {rc rm a am : Nat → Nat} {σc σm τ : St} {vs : List Nat}
    (hx : p.tables.exec = Jvm.exec) (hb : c.code = code) (hml : c.maxLocals = 4) (hown : s.vm.findClass "LinkedUnitsLaw" = some m.cls) (hg : ∀ w ∈ GW, w.before #[Value.ref b] s = true) (hNW : nwOK s) (hK : va_K D vwCl (kTy cy) s) (hA : ∀ q, s.heap.size ≤ q → A q) (hX : va_X b L xs s s.heap) (hbl : b < s.heap.size) (hbA : ¬ A b) (hEC : EC a gC A s) (hEM : EM am A s) (hL : L ≤ 3072) (hz : 6 * z + 6 ≤ L) (hI : LIv z σc σm τ vs) (hc : vs.length ≤ CAP)
    (hP : va_P D vwCl (wld SM cy rm σm τ vs ++ wld SC cy rc σc Z0 []) H) (hD : va_D A (wld SM cy rm σm τ vs ++ wld SC cy rc σc Z0 [])) (hS : va_S A s.heap H locs) (hl : lv_has ls 4 [(3, .int (nI (6 * z))), (2, .ref (rm 0)), (1, .ref (rc 0)), (0, .ref b)])
    (kk : ∀ (σc σm τ : St) (vs : List Nat) (H : Heap) (locs : List Loc), LIv (z + 1) σc σm τ vs → vs.length ≤ CAP → va_P D vwCl (wld SM cy rm σm τ vs ++ wld SC cy rc σc Z0 []) H → va_D A (wld SM cy rm σm τ vs ++ wld SC cy rc σc Z0 []) → va_S A s.heap H locs → W p l e room_1 s m #[Value.ref b] below meth c H locs (620 + vs.length) (2350875 + 9 * vs.length) Q (F0 m 615 ls [])) : W p l e room_1 s m #[Value.ref b] below meth c H locs (620 + vs.length) (2350875 + 9 * vs.length) Q (F0 m 343 ls []) := by
  obtain ⟨⟨o, hIc⟩, hG, hZ, hR⟩ := hI
  have hF0 := lw_fd hG
  have hZ2 : (z : Int) ≤ 511 := by omega
  refine lv_aload_n hx hb dl_343 rfl (lv_at hl 2 rfl) ?_
  refine lv_aload_n hx hb dl_344 rfl (lv_at hl 3 rfl) ?_
  refine lv_iload_n hx hb dl_345 rfl (lv_at hl 0 rfl) ?_
  refine lv_iconst (v := nI 1) hx hb dl_346 (by decide) ?_
  refine lv_iadd hx hb dl_347 ?_
  refine k_topi (nI (6 * z + 1)) (nI_add _ _) ?_
  refine va_sld hx hb hX hbl hbA hS (vp_in_nI (by omega) (by omega)) dl_348 ?_
  refine k_topi (xs (6 * z + 1)) (congrArg xs (lw_nn (by omega))) ?_
  refine lv_aload_n hx hb dl_349 rfl (lv_at hl 3 rfl) ?_
  refine lv_iload_n hx hb dl_350 rfl (lv_at hl 0 rfl) ?_
  refine lv_iconst (v := nI 2) hx hb dl_351 (by decide) ?_
  refine lv_iadd hx hb dl_352 ?_
  refine k_topi (nI (6 * z + 2)) (nI_add _ _) ?_
  refine va_sld hx hb hX hbl hbA hS (vp_in_nI (by omega) (by omega)) dl_353 ?_
  refine k_topi (xs (6 * z + 2)) (congrArg xs (lw_nn (by omega))) ?_
  refine l_call (l := l) (As := [.int (xs (6 * z + 1)), .int (xs (6 * z + 2))]) (rest := []) (b := rc 0) (S := SC) (r := rc) (σ := σc) (τ := Z0) (vs := []) (E := EC a gC) hx hb hml hown hg hNW hK hA (EC_ok a gC) hEC (kt_X12_symbol a rc (Q := fun _ => True) (sk_symbol (fun _ => True.intro)) l D cy) (fun _ _ _ h => h) (Nat.le_of_ble_eq_true rfl) (Nat.zero_le _) (lw_c1 hc) (lw_s1 hc) lwV_X12_symbol m_1539 (recv_ob obC_0) rfl rfl (Nat.le_of_ble_eq_true rfl) dl_354 hl.1 hP hD hS (fun v1 σ1 τ1 vs1 H locs hq _ _ hP hD hS => ?_)
  obtain ⟨rfl, rfl, x1, rfl, hp⟩ := hq
  replace hp := hp.1
  have hRc : σ1 = σc := hp
  have hp : ∃ o, IVx σ1 o := ⟨o, hp.symm ▸ hIc⟩
  refine W.widen (k := 620 + vs.length) (n := 2350875 + 9 * vs.length) (Nat.le_refl _) (Nat.le_refl _) ?_
  refine W.eq (g2 := F0 m 357 ls [.int x1]) rfl ?_
  have hP := l_swapP hP
  have hD := l_swapD hD
  refine lv_pop hx hb dl_357 rfl ?_
  refine lv_aload_n hx hb dl_358 rfl (lv_at hl 1 rfl) ?_
  refine lv_aload_n hx hb dl_359 rfl (lv_at hl 3 rfl) ?_
  refine lv_iload_n hx hb dl_360 rfl (lv_at hl 0 rfl) ?_
  refine lv_iconst (v := nI 1) hx hb dl_361 (by decide) ?_
  refine lv_iadd hx hb dl_362 ?_
  refine k_topi (nI (6 * z + 1)) (nI_add _ _) ?_
  refine va_sld hx hb hX hbl hbA hS (vp_in_nI (by omega) (by omega)) dl_363 ?_
  refine k_topi (xs (6 * z + 1)) (congrArg xs (lw_nn (by omega))) ?_
  refine lv_aload_n hx hb dl_364 rfl (lv_at hl 3 rfl) ?_
  refine lv_iload_n hx hb dl_365 rfl (lv_at hl 0 rfl) ?_
  refine lv_iconst (v := nI 2) hx hb dl_366 (by decide) ?_
  refine lv_iadd hx hb dl_367 ?_
  refine k_topi (nI (6 * z + 2)) (nI_add _ _) ?_
  refine va_sld hx hb hX hbl hbA hS (vp_in_nI (by omega) (by omega)) dl_368 ?_
  refine k_topi (xs (6 * z + 2)) (congrArg xs (lw_nn (by omega))) ?_
  refine l_call (l := l) (As := [.int (xs (6 * z + 1)), .int (xs (6 * z + 2))]) (rest := []) (b := rm 0) (S := SM) (r := rm) (σ := σm) (τ := τ) (vs := vs) (E := EM am) hx hb hml hown hg hNW hK hA (EM_ok am) hEM (ct_symbol (Q := fun _ => True) am rm hc (sp_symbol hG (fun _ => trivial)) l D cy) (fun _ _ _ h => h) (Nat.le_of_ble_eq_true rfl) hc (lw_c2 hc) (lw_s2 hc) lwV_X14_symbol m_2664 (recv_ob obM_0) rfl rfl (Nat.le_of_ble_eq_true rfl) dl_369 hl.1 hP hD hS (fun v2 σ2 τ2 vs2 H2 locs2 hq hv2 hc2 hP2 hD2 hS2 => ?_)
  obtain ⟨rfl, rfl, rfl, x2, rfl, -⟩ := hq
  have hLI : LIv (z + 1) σ1 σ2 τ2 vs2 := lw_up hp hG hZ (by rw [hRc]; exact hR)
  refine W.widen (k := 620 + vs2.length) (n := 2350875 + 9 * vs2.length) (by omega) (by omega) ?_
  refine W.eq (g2 := F0 m 372 ls [.int x2]) rfl ?_
  have hP2 := l_swapP hP2
  have hD2 := l_swapD hD2
  refine lv_pop hx hb dl_372 rfl ?_
  refine lv_goto (tgt := 615) hx hb dl_373 (by decide) ?_
  exact kk _ _ _ _ _ _ hLI hc2 hP2 hD2 hS2
set_option maxHeartbeats 4000000 in
set_option maxRecDepth 100000 in
/-- the law's case 8: pick -/
theorem k_case_8 {p : Program} {l : Launch} {e : Env} {s : State} {m : MethodId} {below : List Frame} {meth : Method} {c : Code} {H : Heap} {locs : List Loc} {Q : State → Prop} {D : va_G} {cy : Nat → ClassId} {A : Nat → Prop} {b L z : Nat} {xs : Nat → Int32} {ls : Array Slot} {rc rm a am : Nat → Nat} {σc σm τ : St} {vs : List Nat}
    (hx : p.tables.exec = Jvm.exec) (hb : c.code = code) (hml : c.maxLocals = 4) (hown : s.vm.findClass "LinkedUnitsLaw" = some m.cls) (hg : ∀ w ∈ GW, w.before #[Value.ref b] s = true) (hNW : nwOK s) (hK : va_K D vwCl (kTy cy) s) (hA : ∀ q, s.heap.size ≤ q → A q) (hX : va_X b L xs s s.heap) (hbl : b < s.heap.size) (hbA : ¬ A b) (hEC : EC a gC A s) (hEM : EM am A s) (hL : L ≤ 3072) (hz : 6 * z + 6 ≤ L) (hI : LIv z σc σm τ vs) (hc : vs.length ≤ CAP)
    (hP : va_P D vwCl (wld SM cy rm σm τ vs ++ wld SC cy rc σc Z0 []) H) (hD : va_D A (wld SM cy rm σm τ vs ++ wld SC cy rc σc Z0 [])) (hS : va_S A s.heap H locs) (hl : lv_has ls 4 [(3, .int (nI (6 * z))), (2, .ref (rm 0)), (1, .ref (rc 0)), (0, .ref b)])
    (kk : ∀ (σc σm τ : St) (vs : List Nat) (H : Heap) (locs : List Loc), LIv (z + 1) σc σm τ vs → vs.length ≤ CAP → va_P D vwCl (wld SM cy rm σm τ vs ++ wld SC cy rc σc Z0 []) H → va_D A (wld SM cy rm σm τ vs ++ wld SC cy rc σc Z0 []) → va_S A s.heap H locs → W p l e room_1 s m #[Value.ref b] below meth c H locs (620 + vs.length) (2350875 + 9 * vs.length) Q (F0 m 615 ls [])) : W p l e room_1 s m #[Value.ref b] below meth c H locs (620 + vs.length) (2350875 + 9 * vs.length) Q (F0 m 376 ls []) := by
  obtain ⟨⟨o, hIc⟩, hG, hZ, hR⟩ := hI
  have hF0 := lw_fd hG
  have hZ2 : (z : Int) ≤ 511 := by omega
  refine lv_aload_n hx hb dl_376 rfl (lv_at hl 2 rfl) ?_
  refine lv_aload_n hx hb dl_377 rfl (lv_at hl 3 rfl) ?_
  refine lv_iload_n hx hb dl_378 rfl (lv_at hl 0 rfl) ?_
  refine lv_iconst (v := nI 1) hx hb dl_379 (by decide) ?_
  refine lv_iadd hx hb dl_380 ?_
  refine k_topi (nI (6 * z + 1)) (nI_add _ _) ?_
  refine va_sld hx hb hX hbl hbA hS (vp_in_nI (by omega) (by omega)) dl_381 ?_
  refine k_topi (xs (6 * z + 1)) (congrArg xs (lw_nn (by omega))) ?_
  refine l_call (l := l) (As := [.int (xs (6 * z + 1))]) (rest := []) (b := rc 0) (S := SC) (r := rc) (σ := σc) (τ := Z0) (vs := []) (E := EC a gC) hx hb hml hown hg hNW hK hA (EC_ok a gC) hEC (kt_X12_pick a rc (Q := fun v t => (∃ o, IVx t o) ∧ FQs σc t ∧ (PCw σc (xs (6 * z + 1)) v t ∧ (t 10 2 = σc 10 2 ∧ t 10 3 = σc 10 3 ∧ t 10 4 = σc 10 4 ∧ t 11 0 = σc 11 0)) ∧ (t 57 = σc 57 ∧ t 58 = σc 58 ∧ t 59 = σc 59 ∧ t 10 7 = σc 10 7)) (cg_pick hIc) l D cy) (fun _ _ _ h => h) (Nat.le_of_ble_eq_true rfl) (Nat.zero_le _) (lw_c1 hc) (lw_s1 hc) lwV_X12_pick m_1544 (recv_ob obC_0) rfl rfl (Nat.le_of_ble_eq_true rfl) dl_382 hl.1 hP hD hS (fun v1 σ1 τ1 vs1 H locs hq _ _ hP hD hS => ?_)
  obtain ⟨rfl, rfl, x1, rfl, hp⟩ := hq
  obtain ⟨hp, hRc⟩ := hp
  refine W.widen (k := 620 + vs.length) (n := 2350875 + 9 * vs.length) (Nat.le_refl _) (Nat.le_refl _) ?_
  refine W.eq (g2 := F0 m 385 ls [.int x1]) rfl ?_
  have hP := l_swapP hP
  have hD := l_swapD hD
  refine lv_pop hx hb dl_385 rfl ?_
  refine lv_aload_n hx hb dl_386 rfl (lv_at hl 1 rfl) ?_
  refine lv_aload_n hx hb dl_387 rfl (lv_at hl 3 rfl) ?_
  refine lv_iload_n hx hb dl_388 rfl (lv_at hl 0 rfl) ?_
  refine lv_iconst (v := nI 1) hx hb dl_389 (by decide) ?_
  refine lv_iadd hx hb dl_390 ?_
  refine k_topi (nI (6 * z + 1)) (nI_add _ _) ?_
  refine va_sld hx hb hX hbl hbA hS (vp_in_nI (by omega) (by omega)) dl_391 ?_
  refine k_topi (xs (6 * z + 1)) (congrArg xs (lw_nn (by omega))) ?_
  refine l_call (l := l) (As := [.int (xs (6 * z + 1))]) (rest := []) (b := rm 0) (S := SM) (r := rm) (σ := σm) (τ := τ) (vs := vs) (E := EM am) hx hb hml hown hg hNW hK hA (EM_ok am) hEM (ct_pick (Q := fun (r : Int32) (s3 t3 : St) (z3 : List Nat) => LIv (z + 1) σ1 s3 t3 z3) am rm hc (rz_pick hG (fun r3 s3 g3 f3 m3 e3 d3 => lw_up hp g3 (by rw [f3]; exact hZ) (rlg_pick hIc hG hR hp hRc.1 hRc.2 m3 e3 d3).2)) l D cy) (fun _ _ _ h => h) (Nat.le_of_ble_eq_true rfl) hc (lw_c2 hc) (lw_s2 hc) lwV_X14_pick m_2668 (recv_ob obM_0) rfl rfl (Nat.le_of_ble_eq_true rfl) dl_392 hl.1 hP hD hS (fun v2 σ2 τ2 vs2 H2 locs2 hq hv2 hc2 hP2 hD2 hS2 => ?_)
  obtain ⟨x2, rfl, hLI⟩ := hq
  refine W.widen (k := 620 + vs2.length) (n := 2350875 + 9 * vs2.length) (by omega) (by omega) ?_
  refine W.eq (g2 := F0 m 395 ls [.int x2]) rfl ?_
  have hP2 := l_swapP hP2
  have hD2 := l_swapD hD2
  refine lv_pop hx hb dl_395 rfl ?_
  refine lv_goto (tgt := 615) hx hb dl_396 (by decide) ?_
  exact kk _ _ _ _ _ _ hLI hc2 hP2 hD2 hS2
set_option maxHeartbeats 4000000 in
set_option maxRecDepth 100000 in
/-- the law's case 9: link -/
theorem k_case_9 {p : Program} {l : Launch} {e : Env} {s : State} {m : MethodId} {below : List Frame} {meth : Method} {c : Code} {H : Heap} {locs : List Loc} {Q : State → Prop} {D : va_G} {cy : Nat → ClassId} {A : Nat → Prop} {b L z : Nat} {xs : Nat → Int32} {ls : Array Slot} {rc rm a am : Nat → Nat} {σc σm τ : St} {vs : List Nat}
    (hx : p.tables.exec = Jvm.exec) (hb : c.code = code) (hml : c.maxLocals = 4) (hown : s.vm.findClass "LinkedUnitsLaw" = some m.cls) (hg : ∀ w ∈ GW, w.before #[Value.ref b] s = true) (hNW : nwOK s) (hK : va_K D vwCl (kTy cy) s) (hA : ∀ q, s.heap.size ≤ q → A q) (hX : va_X b L xs s s.heap) (hbl : b < s.heap.size) (hbA : ¬ A b) (hEC : EC a gC A s) (hEM : EM am A s) (hL : L ≤ 3072) (hz : 6 * z + 6 ≤ L) (hI : LIv z σc σm τ vs) (hc : vs.length ≤ CAP)
    (hP : va_P D vwCl (wld SM cy rm σm τ vs ++ wld SC cy rc σc Z0 []) H) (hD : va_D A (wld SM cy rm σm τ vs ++ wld SC cy rc σc Z0 [])) (hS : va_S A s.heap H locs) (hl : lv_has ls 4 [(3, .int (nI (6 * z))), (2, .ref (rm 0)), (1, .ref (rc 0)), (0, .ref b)])
    (kk : ∀ (σc σm τ : St) (vs : List Nat) (H : Heap) (locs : List Loc), LIv (z + 1) σc σm τ vs → vs.length ≤ CAP → va_P D vwCl (wld SM cy rm σm τ vs ++ wld SC cy rc σc Z0 []) H → va_D A (wld SM cy rm σm τ vs ++ wld SC cy rc σc Z0 []) → va_S A s.heap H locs → W p l e room_1 s m #[Value.ref b] below meth c H locs (620 + vs.length) (2350875 + 9 * vs.length) Q (F0 m 615 ls [])) : W p l e room_1 s m #[Value.ref b] below meth c H locs (620 + vs.length) (2350875 + 9 * vs.length) Q (F0 m 399 ls []) := by
  obtain ⟨⟨o, hIc⟩, hG, hZ, hR⟩ := hI
  have hF0 := lw_fd hG
  have hZ2 : (z : Int) ≤ 511 := by omega
  refine lv_aload_n hx hb dl_399 rfl (lv_at hl 2 rfl) ?_
  refine l_call (l := l) (As := []) (rest := []) (b := rc 0) (S := SC) (r := rc) (σ := σc) (τ := Z0) (vs := []) (E := EC a gC) hx hb hml hown hg hNW hK hA (EC_ok a gC) hEC (kt_X12_link a rc (Q := fun v t => (∃ o, IVx t o) ∧ FQs σc t ∧ (t 10 5).toInt = 1 ∧ LNc σc v t) (ce_link hIc (lkx_of hIc hG hR.1)) l D cy) (fun _ _ _ h => h) (Nat.le_of_ble_eq_true rfl) (Nat.zero_le _) (lw_c1 hc) (lw_s1 hc) lwV_X12_link m_1554 (recv_ob obC_0) rfl rfl (Nat.le_of_ble_eq_true rfl) dl_400 hl.1 hP hD hS (fun v1 σ1 τ1 vs1 H locs hq _ _ hP hD hS => ?_)
  obtain ⟨rfl, rfl, x1, rfl, hp⟩ := hq
  obtain ⟨hp, hRc⟩ := hp
  refine W.widen (k := 620 + vs.length) (n := 2350875 + 9 * vs.length) (Nat.le_refl _) (Nat.le_refl _) ?_
  refine W.eq (g2 := F0 m 403 ls [.int x1]) rfl ?_
  have hP := l_swapP hP
  have hD := l_swapD hD
  refine lv_pop hx hb dl_403 rfl ?_
  refine lv_aload_n hx hb dl_404 rfl (lv_at hl 1 rfl) ?_
  refine l_call (l := l) (As := []) (rest := []) (b := rm 0) (S := SM) (r := rm) (σ := σm) (τ := τ) (vs := vs) (E := EM am) hx hb hml hown hg hNW hK hA (EM_ok am) hEM (ct_link (Q := fun (r : Int32) (s3 t3 : St) (z3 : List Nat) => LIv (z + 1) σ1 s3 t3 z3) am rm hc (re_link hG (by omega) (fun r3 s3 g3 f3 m3 e3 d3 => lw_up hp g3 (by rw [f3]; exact hZ) (rlg_link (lkx_of hIc hG hR.1) hR hRc.1 hRc.2 m3 e3 d3).2)) l D cy) (fun _ _ _ h => h) (Nat.le_of_ble_eq_true rfl) hc (lw_c2 hc) (lw_s2 hc) lwV_X14_link m_2672 (recv_ob obM_0) rfl rfl (Nat.le_of_ble_eq_true rfl) dl_405 hl.1 hP hD hS (fun v2 σ2 τ2 vs2 H2 locs2 hq hv2 hc2 hP2 hD2 hS2 => ?_)
  obtain ⟨x2, rfl, hLI⟩ := hq
  refine W.widen (k := 620 + vs2.length) (n := 2350875 + 9 * vs2.length) (by omega) (by omega) ?_
  refine W.eq (g2 := F0 m 408 ls [.int x2]) rfl ?_
  have hP2 := l_swapP hP2
  have hD2 := l_swapD hD2
  refine lv_pop hx hb dl_408 rfl ?_
  refine lv_goto (tgt := 615) hx hb dl_409 (by decide) ?_
  exact kk _ _ _ _ _ _ hLI hc2 hP2 hD2 hS2
set_option maxHeartbeats 4000000 in
set_option maxRecDepth 100000 in
/-- the law's case 10: fault -/
theorem k_case_10 {p : Program} {l : Launch} {e : Env} {s : State} {m : MethodId} {below : List Frame} {meth : Method} {c : Code} {H : Heap} {locs : List Loc} {Q : State → Prop} {D : va_G} {cy : Nat → ClassId} {A : Nat → Prop} {b L z : Nat} {xs : Nat → Int32} {ls : Array Slot} {rc rm a am : Nat → Nat} {σc σm τ : St} {vs : List Nat}
    (hx : p.tables.exec = Jvm.exec) (hb : c.code = code) (hml : c.maxLocals = 4) (hown : s.vm.findClass "LinkedUnitsLaw" = some m.cls) (hg : ∀ w ∈ GW, w.before #[Value.ref b] s = true) (hNW : nwOK s) (hK : va_K D vwCl (kTy cy) s) (hA : ∀ q, s.heap.size ≤ q → A q) (hX : va_X b L xs s s.heap) (hbl : b < s.heap.size) (hbA : ¬ A b) (hEC : EC a gC A s) (hEM : EM am A s) (hL : L ≤ 3072) (hz : 6 * z + 6 ≤ L) (hI : LIv z σc σm τ vs) (hc : vs.length ≤ CAP)
    (hP : va_P D vwCl (wld SM cy rm σm τ vs ++ wld SC cy rc σc Z0 []) H) (hD : va_D A (wld SM cy rm σm τ vs ++ wld SC cy rc σc Z0 [])) (hS : va_S A s.heap H locs) (hl : lv_has ls 4 [(3, .int (nI (6 * z))), (2, .ref (rm 0)), (1, .ref (rc 0)), (0, .ref b)])
    (kk : ∀ (σc σm τ : St) (vs : List Nat) (H : Heap) (locs : List Loc), LIv (z + 1) σc σm τ vs → vs.length ≤ CAP → va_P D vwCl (wld SM cy rm σm τ vs ++ wld SC cy rc σc Z0 []) H → va_D A (wld SM cy rm σm τ vs ++ wld SC cy rc σc Z0 []) → va_S A s.heap H locs → W p l e room_1 s m #[Value.ref b] below meth c H locs (620 + vs.length) (2350875 + 9 * vs.length) Q (F0 m 615 ls [])) : W p l e room_1 s m #[Value.ref b] below meth c H locs (620 + vs.length) (2350875 + 9 * vs.length) Q (F0 m 412 ls []) := by
  obtain ⟨⟨o, hIc⟩, hG, hZ, hR⟩ := hI
  have hF0 := lw_fd hG
  have hZ2 : (z : Int) ≤ 511 := by omega
  refine lv_aload_n hx hb dl_412 rfl (lv_at hl 2 rfl) ?_
  refine lv_aload_n hx hb dl_413 rfl (lv_at hl 3 rfl) ?_
  refine lv_iload_n hx hb dl_414 rfl (lv_at hl 0 rfl) ?_
  refine lv_iconst (v := nI 1) hx hb dl_415 (by decide) ?_
  refine lv_iadd hx hb dl_416 ?_
  refine k_topi (nI (6 * z + 1)) (nI_add _ _) ?_
  refine va_sld hx hb hX hbl hbA hS (vp_in_nI (by omega) (by omega)) dl_417 ?_
  refine k_topi (xs (6 * z + 1)) (congrArg xs (lw_nn (by omega))) ?_
  refine l_call (l := l) (As := [.int (xs (6 * z + 1))]) (rest := []) (b := rc 0) (S := SC) (r := rc) (σ := σc) (τ := Z0) (vs := []) (E := EC a gC) hx hb hml hown hg hNW hK hA (EC_ok a gC) hEC (kt_X12_fault a rc (Q := fun _ => True) (sk_fault (fun _ => True.intro)) l D cy) (fun _ _ _ h => h) (Nat.le_of_ble_eq_true rfl) (Nat.zero_le _) (lw_c1 hc) (lw_s1 hc) lwV_X12_fault m_1605 (recv_ob obC_0) rfl rfl (Nat.le_of_ble_eq_true rfl) dl_418 hl.1 hP hD hS (fun v1 σ1 τ1 vs1 H locs hq _ _ hP hD hS => ?_)
  obtain ⟨rfl, rfl, x1, rfl, hp⟩ := hq
  replace hp := hp.1
  have hRc : σ1 = σc := hp
  have hp : ∃ o, IVx σ1 o := ⟨o, hp.symm ▸ hIc⟩
  refine W.widen (k := 620 + vs.length) (n := 2350875 + 9 * vs.length) (Nat.le_refl _) (Nat.le_refl _) ?_
  refine W.eq (g2 := F0 m 421 ls [.int x1]) rfl ?_
  have hP := l_swapP hP
  have hD := l_swapD hD
  refine lv_pop hx hb dl_421 rfl ?_
  refine lv_aload_n hx hb dl_422 rfl (lv_at hl 1 rfl) ?_
  refine lv_aload_n hx hb dl_423 rfl (lv_at hl 3 rfl) ?_
  refine lv_iload_n hx hb dl_424 rfl (lv_at hl 0 rfl) ?_
  refine lv_iconst (v := nI 1) hx hb dl_425 (by decide) ?_
  refine lv_iadd hx hb dl_426 ?_
  refine k_topi (nI (6 * z + 1)) (nI_add _ _) ?_
  refine va_sld hx hb hX hbl hbA hS (vp_in_nI (by omega) (by omega)) dl_427 ?_
  refine k_topi (xs (6 * z + 1)) (congrArg xs (lw_nn (by omega))) ?_
  refine l_call (l := l) (As := [.int (xs (6 * z + 1))]) (rest := []) (b := rm 0) (S := SM) (r := rm) (σ := σm) (τ := τ) (vs := vs) (E := EM am) hx hb hml hown hg hNW hK hA (EM_ok am) hEM (ct_fault (Q := fun _ => True) am rm hc (sp_fault (fun _ => trivial)) l D cy) (fun _ _ _ h => h) (Nat.le_of_ble_eq_true rfl) hc (lw_c2 hc) (lw_s2 hc) lwV_X14_fault m_2721 (recv_ob obM_0) rfl rfl (Nat.le_of_ble_eq_true rfl) dl_428 hl.1 hP hD hS (fun v2 σ2 τ2 vs2 H2 locs2 hq hv2 hc2 hP2 hD2 hS2 => ?_)
  obtain ⟨rfl, rfl, rfl, x2, rfl, -⟩ := hq
  have hLI : LIv (z + 1) σ1 σ2 τ2 vs2 := lw_up hp hG hZ (by rw [hRc]; exact hR)
  refine W.widen (k := 620 + vs2.length) (n := 2350875 + 9 * vs2.length) (by omega) (by omega) ?_
  refine W.eq (g2 := F0 m 431 ls [.int x2]) rfl ?_
  have hP2 := l_swapP hP2
  have hD2 := l_swapD hD2
  refine lv_pop hx hb dl_431 rfl ?_
  refine lv_goto (tgt := 615) hx hb dl_432 (by decide) ?_
  exact kk _ _ _ _ _ _ hLI hc2 hP2 hD2 hS2
set_option maxHeartbeats 4000000 in
set_option maxRecDepth 100000 in
/-- the law's case 11: cell -/
theorem k_case_11 {p : Program} {l : Launch} {e : Env} {s : State} {m : MethodId} {below : List Frame} {meth : Method} {c : Code} {H : Heap} {locs : List Loc} {Q : State → Prop} {D : va_G} {cy : Nat → ClassId} {A : Nat → Prop} {b L z : Nat} {xs : Nat → Int32} {ls : Array Slot} {rc rm a am : Nat → Nat} {σc σm τ : St} {vs : List Nat}
    (hx : p.tables.exec = Jvm.exec) (hb : c.code = code) (hml : c.maxLocals = 4) (hown : s.vm.findClass "LinkedUnitsLaw" = some m.cls) (hg : ∀ w ∈ GW, w.before #[Value.ref b] s = true) (hNW : nwOK s) (hK : va_K D vwCl (kTy cy) s) (hA : ∀ q, s.heap.size ≤ q → A q) (hX : va_X b L xs s s.heap) (hbl : b < s.heap.size) (hbA : ¬ A b) (hEC : EC a gC A s) (hEM : EM am A s) (hL : L ≤ 3072) (hz : 6 * z + 6 ≤ L) (hI : LIv z σc σm τ vs) (hc : vs.length ≤ CAP)
    (hP : va_P D vwCl (wld SM cy rm σm τ vs ++ wld SC cy rc σc Z0 []) H) (hD : va_D A (wld SM cy rm σm τ vs ++ wld SC cy rc σc Z0 [])) (hS : va_S A s.heap H locs) (hl : lv_has ls 4 [(3, .int (nI (6 * z))), (2, .ref (rm 0)), (1, .ref (rc 0)), (0, .ref b)])
    (kk : ∀ (σc σm τ : St) (vs : List Nat) (H : Heap) (locs : List Loc), LIv (z + 1) σc σm τ vs → vs.length ≤ CAP → va_P D vwCl (wld SM cy rm σm τ vs ++ wld SC cy rc σc Z0 []) H → va_D A (wld SM cy rm σm τ vs ++ wld SC cy rc σc Z0 []) → va_S A s.heap H locs → W p l e room_1 s m #[Value.ref b] below meth c H locs (620 + vs.length) (2350875 + 9 * vs.length) Q (F0 m 615 ls [])) : W p l e room_1 s m #[Value.ref b] below meth c H locs (620 + vs.length) (2350875 + 9 * vs.length) Q (F0 m 435 ls []) := by
  obtain ⟨⟨o, hIc⟩, hG, hZ, hR⟩ := hI
  have hF0 := lw_fd hG
  have hZ2 : (z : Int) ≤ 511 := by omega
  refine lv_aload_n hx hb dl_435 rfl (lv_at hl 2 rfl) ?_
  refine l_call (l := l) (As := []) (rest := []) (b := rc 0) (S := SC) (r := rc) (σ := σc) (τ := Z0) (vs := []) (E := EC a gC) hx hb hml hown hg hNW hK hA (EC_ok a gC) hEC (kt_X12_cell a rc (Q := fun v t => (∃ o, IVx t o) ∧ t = upC σc 0 1 (0 : Int32) ∧ CZc σc v) (cg_cell hIc) l D cy) (fun _ _ _ h => h) (Nat.le_of_ble_eq_true rfl) (Nat.zero_le _) (lw_c1 hc) (lw_s1 hc) lwV_X12_cell m_1609 (recv_ob obC_0) rfl rfl (Nat.le_of_ble_eq_true rfl) dl_436 hl.1 hP hD hS (fun v1 σ1 τ1 vs1 H locs hq _ _ hP hD hS => ?_)
  obtain ⟨rfl, rfl, x1, rfl, hp⟩ := hq
  obtain ⟨hp, hRc⟩ := hp
  refine W.widen (k := 620 + vs.length) (n := 2350875 + 9 * vs.length) (Nat.le_refl _) (Nat.le_refl _) ?_
  refine W.eq (g2 := F0 m 439 ls [.int x1]) rfl ?_
  have hP := l_swapP hP
  have hD := l_swapD hD
  refine lv_aload_n hx hb dl_439 rfl (lv_at hl 1 rfl) ?_
  refine l_call (l := l) (As := []) (rest := [.int x1]) (b := rm 0) (S := SM) (r := rm) (σ := σm) (τ := τ) (vs := vs) (E := EM am) hx hb hml hown hg hNW hK hA (EM_ok am) hEM (ct_cell (Q := fun (r : Int32) (s3 t3 : St) (z3 : List Nat) => LIv (z + 1) σ1 s3 t3 z3 ∧ r = x1) am rm hc (rz_cell hG (fun r3 s3 g3 h3 f3 m3 e3 d3 k3 n3 q3 => ⟨lw_up hp g3 (by rw [f3]; exact hZ) (rlg_cell hIc hG hR hRc h3 f3 m3 e3 d3 k3 n3 q3).2, (rlg_cell hIc hG hR hRc h3 f3 m3 e3 d3 k3 n3 q3).1⟩)) l D cy) (fun _ _ _ h => h) (Nat.le_of_ble_eq_true rfl) hc (lw_c2 hc) (lw_s2 hc) lwV_X14_cell m_2725 (recv_ob obM_0) rfl rfl (Nat.le_of_ble_eq_true rfl) dl_440 hl.1 hP hD hS (fun v2 σ2 τ2 vs2 H2 locs2 hq hv2 hc2 hP2 hD2 hS2 => ?_)
  obtain ⟨x2, rfl, hLI, hx⟩ := hq
  subst hx
  refine W.widen (k := 620 + vs2.length) (n := 2350875 + 9 * vs2.length) (by omega) (by omega) ?_
  refine W.eq (g2 := F0 m 443 ls [.int x2, .int x2]) rfl ?_
  have hP2 := l_swapP hP2
  have hD2 := l_swapD hD2
  refine lv_icmp_eq (tgt := 615) hx hb dl_443 (by decide) (fun _ => ?_) (fun h9 => absurd rfl h9)
  exact kk _ _ _ _ _ _ hLI hc2 hP2 hD2 hS2
set_option maxHeartbeats 4000000 in
set_option maxRecDepth 100000 in
/-- the law's case 12: input -/
theorem k_case_12 {p : Program} {l : Launch} {e : Env} {s : State} {m : MethodId} {below : List Frame} {meth : Method} {c : Code} {H : Heap} {locs : List Loc} {Q : State → Prop} {D : va_G} {cy : Nat → ClassId} {A : Nat → Prop} {b L z : Nat} {xs : Nat → Int32} {ls : Array Slot} {rc rm a am : Nat → Nat} {σc σm τ : St} {vs : List Nat}
    (hx : p.tables.exec = Jvm.exec) (hb : c.code = code) (hml : c.maxLocals = 4) (hown : s.vm.findClass "LinkedUnitsLaw" = some m.cls) (hg : ∀ w ∈ GW, w.before #[Value.ref b] s = true) (hNW : nwOK s) (hK : va_K D vwCl (kTy cy) s) (hA : ∀ q, s.heap.size ≤ q → A q) (hX : va_X b L xs s s.heap) (hbl : b < s.heap.size) (hbA : ¬ A b) (hEC : EC a gC A s) (hEM : EM am A s) (hL : L ≤ 3072) (hz : 6 * z + 6 ≤ L) (hI : LIv z σc σm τ vs) (hc : vs.length ≤ CAP)
    (hP : va_P D vwCl (wld SM cy rm σm τ vs ++ wld SC cy rc σc Z0 []) H) (hD : va_D A (wld SM cy rm σm τ vs ++ wld SC cy rc σc Z0 [])) (hS : va_S A s.heap H locs) (hl : lv_has ls 4 [(3, .int (nI (6 * z))), (2, .ref (rm 0)), (1, .ref (rc 0)), (0, .ref b)])
    (kk : ∀ (σc σm τ : St) (vs : List Nat) (H : Heap) (locs : List Loc), LIv (z + 1) σc σm τ vs → vs.length ≤ CAP → va_P D vwCl (wld SM cy rm σm τ vs ++ wld SC cy rc σc Z0 []) H → va_D A (wld SM cy rm σm τ vs ++ wld SC cy rc σc Z0 []) → va_S A s.heap H locs → W p l e room_1 s m #[Value.ref b] below meth c H locs (620 + vs.length) (2350875 + 9 * vs.length) Q (F0 m 615 ls [])) : W p l e room_1 s m #[Value.ref b] below meth c H locs (620 + vs.length) (2350875 + 9 * vs.length) Q (F0 m 448 ls []) := by
  obtain ⟨⟨o, hIc⟩, hG, hZ, hR⟩ := hI
  have hF0 := lw_fd hG
  have hZ2 : (z : Int) ≤ 511 := by omega
  refine lv_aload_n hx hb dl_448 rfl (lv_at hl 2 rfl) ?_
  refine lv_aload_n hx hb dl_449 rfl (lv_at hl 3 rfl) ?_
  refine lv_iload_n hx hb dl_450 rfl (lv_at hl 0 rfl) ?_
  refine lv_iconst (v := nI 1) hx hb dl_451 (by decide) ?_
  refine lv_iadd hx hb dl_452 ?_
  refine k_topi (nI (6 * z + 1)) (nI_add _ _) ?_
  refine va_sld hx hb hX hbl hbA hS (vp_in_nI (by omega) (by omega)) dl_453 ?_
  refine k_topi (xs (6 * z + 1)) (congrArg xs (lw_nn (by omega))) ?_
  refine l_call (l := l) (As := [.int (xs (6 * z + 1))]) (rest := []) (b := rc 0) (S := SC) (r := rc) (σ := σc) (τ := Z0) (vs := []) (E := EC a gC) hx hb hml hown hg hNW hK hA (EC_ok a gC) hEC (kt_X12_input a rc (Q := fun v t => (∃ o, IVx t o) ∧ FQs σc t ∧ FWs σc t ∧ IUq (σc 11 0) v (t 11 0)) (ce_input hIc) l D cy) (fun _ _ _ h => h) (Nat.le_of_ble_eq_true rfl) (Nat.zero_le _) (lw_c1 hc) (lw_s1 hc) lwV_X12_input m_1617 (recv_ob obC_0) rfl rfl (Nat.le_of_ble_eq_true rfl) dl_454 hl.1 hP hD hS (fun v1 σ1 τ1 vs1 H locs hq _ _ hP hD hS => ?_)
  obtain ⟨rfl, rfl, x1, rfl, hp⟩ := hq
  obtain ⟨hp, hRc⟩ := hp
  refine W.widen (k := 620 + vs.length) (n := 2350875 + 9 * vs.length) (Nat.le_refl _) (Nat.le_refl _) ?_
  refine W.eq (g2 := F0 m 457 ls [.int x1]) rfl ?_
  have hP := l_swapP hP
  have hD := l_swapD hD
  refine lv_pop hx hb dl_457 rfl ?_
  refine lv_aload_n hx hb dl_458 rfl (lv_at hl 1 rfl) ?_
  refine lv_aload_n hx hb dl_459 rfl (lv_at hl 3 rfl) ?_
  refine lv_iload_n hx hb dl_460 rfl (lv_at hl 0 rfl) ?_
  refine lv_iconst (v := nI 1) hx hb dl_461 (by decide) ?_
  refine lv_iadd hx hb dl_462 ?_
  refine k_topi (nI (6 * z + 1)) (nI_add _ _) ?_
  refine va_sld hx hb hX hbl hbA hS (vp_in_nI (by omega) (by omega)) dl_463 ?_
  refine k_topi (xs (6 * z + 1)) (congrArg xs (lw_nn (by omega))) ?_
  refine l_call (l := l) (As := [.int (xs (6 * z + 1))]) (rest := []) (b := rm 0) (S := SM) (r := rm) (σ := σm) (τ := τ) (vs := vs) (E := EM am) hx hb hml hown hg hNW hK hA (EM_ok am) hEM (ct_input (Q := fun (r : Int32) (s3 t3 : St) (z3 : List Nat) => LIv (z + 1) σ1 s3 t3 z3) am rm hc (rz_input hG (fun r3 s3 g3 f3 m3 e3 d3 q3 => lw_up hp g3 (by rw [f3]; exact hZ) (rlg_input hIc hR hRc.1 hRc.2 m3 e3 d3 q3).2)) l D cy) (fun _ _ _ h => h) (Nat.le_of_ble_eq_true rfl) hc (lw_c2 hc) (lw_s2 hc) lwV_X14_input m_2733 (recv_ob obM_0) rfl rfl (Nat.le_of_ble_eq_true rfl) dl_464 hl.1 hP hD hS (fun v2 σ2 τ2 vs2 H2 locs2 hq hv2 hc2 hP2 hD2 hS2 => ?_)
  obtain ⟨x2, rfl, hLI⟩ := hq
  refine W.widen (k := 620 + vs2.length) (n := 2350875 + 9 * vs2.length) (by omega) (by omega) ?_
  refine W.eq (g2 := F0 m 467 ls [.int x2]) rfl ?_
  have hP2 := l_swapP hP2
  have hD2 := l_swapD hD2
  refine lv_pop hx hb dl_467 rfl ?_
  refine lv_goto (tgt := 615) hx hb dl_468 (by decide) ?_
  exact kk _ _ _ _ _ _ hLI hc2 hP2 hD2 hS2
set_option maxHeartbeats 4000000 in
set_option maxRecDepth 100000 in
/-- the law's case 13: run -/
theorem k_case_13 {p : Program} {l : Launch} {e : Env} {s : State} {m : MethodId} {below : List Frame} {meth : Method} {c : Code} {H : Heap} {locs : List Loc} {Q : State → Prop} {D : va_G} {cy : Nat → ClassId} {A : Nat → Prop} {b L z : Nat} {xs : Nat → Int32} {ls : Array Slot} {rc rm a am : Nat → Nat} {σc σm τ : St} {vs : List Nat}
    (hx : p.tables.exec = Jvm.exec) (hb : c.code = code) (hml : c.maxLocals = 4) (hown : s.vm.findClass "LinkedUnitsLaw" = some m.cls) (hg : ∀ w ∈ GW, w.before #[Value.ref b] s = true) (hNW : nwOK s) (hK : va_K D vwCl (kTy cy) s) (hA : ∀ q, s.heap.size ≤ q → A q) (hX : va_X b L xs s s.heap) (hbl : b < s.heap.size) (hbA : ¬ A b) (hEC : EC a gC A s) (hEM : EM am A s) (hL : L ≤ 3072) (hz : 6 * z + 6 ≤ L) (hI : LIv z σc σm τ vs) (hc : vs.length ≤ CAP)
    (hP : va_P D vwCl (wld SM cy rm σm τ vs ++ wld SC cy rc σc Z0 []) H) (hD : va_D A (wld SM cy rm σm τ vs ++ wld SC cy rc σc Z0 [])) (hS : va_S A s.heap H locs) (hl : lv_has ls 4 [(3, .int (nI (6 * z))), (2, .ref (rm 0)), (1, .ref (rc 0)), (0, .ref b)])
    (kk : ∀ (σc σm τ : St) (vs : List Nat) (H : Heap) (locs : List Loc), LIv (z + 1) σc σm τ vs → vs.length ≤ CAP → va_P D vwCl (wld SM cy rm σm τ vs ++ wld SC cy rc σc Z0 []) H → va_D A (wld SM cy rm σm τ vs ++ wld SC cy rc σc Z0 []) → va_S A s.heap H locs → W p l e room_1 s m #[Value.ref b] below meth c H locs (620 + vs.length) (2350875 + 9 * vs.length) Q (F0 m 615 ls [])) : W p l e room_1 s m #[Value.ref b] below meth c H locs (620 + vs.length) (2350875 + 9 * vs.length) Q (F0 m 471 ls []) := by
  obtain ⟨⟨o, hIc⟩, hG, hZ, hR⟩ := hI
  have hF0 := lw_fd hG
  have hZ2 : (z : Int) ≤ 511 := by omega
  refine lv_aload_n hx hb dl_471 rfl (lv_at hl 2 rfl) ?_
  refine lv_aload_n hx hb dl_472 rfl (lv_at hl 3 rfl) ?_
  refine lv_iload_n hx hb dl_473 rfl (lv_at hl 0 rfl) ?_
  refine lv_iconst (v := nI 1) hx hb dl_474 (by decide) ?_
  refine lv_iadd hx hb dl_475 ?_
  refine k_topi (nI (6 * z + 1)) (nI_add _ _) ?_
  refine va_sld hx hb hX hbl hbA hS (vp_in_nI (by omega) (by omega)) dl_476 ?_
  refine k_topi (xs (6 * z + 1)) (congrArg xs (lw_nn (by omega))) ?_
  refine l_call (l := l) (As := [.int (xs (6 * z + 1))]) (rest := []) (b := rc 0) (S := SC) (r := rc) (σ := σc) (τ := Z0) (vs := []) (E := EC a gC) hx hb hml hown hg hNW hK hA (EC_ok a gC) hEC (kt_X12_run a rc (Q := fun v t => (∃ o, IVx t o) ∧ FQs σc t ∧ FWs σc t ∧ RNq ((σc 10 2).toInt ≠ 0) (xs (6 * z + 1)) (σc 11 0) (t 11 0)) (ce_run hIc) l D cy) (fun _ _ _ h => h) (Nat.le_of_ble_eq_true rfl) (Nat.zero_le _) (lw_c1 hc) (lw_s1 hc) lwV_X12_run m_1625 (recv_ob obC_0) rfl rfl (Nat.le_of_ble_eq_true rfl) dl_477 hl.1 hP hD hS (fun v1 σ1 τ1 vs1 H locs hq _ _ hP hD hS => ?_)
  obtain ⟨rfl, rfl, x1, rfl, hp⟩ := hq
  obtain ⟨hp, hRc⟩ := hp
  refine W.widen (k := 620 + vs.length) (n := 2350875 + 9 * vs.length) (Nat.le_refl _) (Nat.le_refl _) ?_
  refine W.eq (g2 := F0 m 480 ls [.int x1]) rfl ?_
  have hP := l_swapP hP
  have hD := l_swapD hD
  refine lv_pop hx hb dl_480 rfl ?_
  refine lv_aload_n hx hb dl_481 rfl (lv_at hl 1 rfl) ?_
  refine lv_aload_n hx hb dl_482 rfl (lv_at hl 3 rfl) ?_
  refine lv_iload_n hx hb dl_483 rfl (lv_at hl 0 rfl) ?_
  refine lv_iconst (v := nI 1) hx hb dl_484 (by decide) ?_
  refine lv_iadd hx hb dl_485 ?_
  refine k_topi (nI (6 * z + 1)) (nI_add _ _) ?_
  refine va_sld hx hb hX hbl hbA hS (vp_in_nI (by omega) (by omega)) dl_486 ?_
  refine k_topi (xs (6 * z + 1)) (congrArg xs (lw_nn (by omega))) ?_
  refine l_call (l := l) (As := [.int (xs (6 * z + 1))]) (rest := []) (b := rm 0) (S := SM) (r := rm) (σ := σm) (τ := τ) (vs := vs) (E := EM am) hx hb hml hown hg hNW hK hA (EM_ok am) hEM (ct_run (Q := fun (r : Int32) (s3 t3 : St) (z3 : List Nat) => LIv (z + 1) σ1 s3 t3 z3) am rm hc (rz_run hG (by omega) (fun r3 s3 g3 f3 m3 e3 h3 q3 => lw_up hp g3 (by rw [f3]; exact hZ) (rlg_run hIc hR hRc.1 hRc.2 m3 e3 h3 q3))) l D cy) (fun _ _ _ h => h) (Nat.le_of_ble_eq_true rfl) hc (lw_c2 hc) (lw_s2 hc) lwV_X14_run m_2737 (recv_ob obM_0) rfl rfl (Nat.le_of_ble_eq_true rfl) dl_487 hl.1 hP hD hS (fun v2 σ2 τ2 vs2 H2 locs2 hq hv2 hc2 hP2 hD2 hS2 => ?_)
  obtain ⟨x2, rfl, hLI⟩ := hq
  refine W.widen (k := 620 + vs2.length) (n := 2350875 + 9 * vs2.length) (by omega) (by omega) ?_
  refine W.eq (g2 := F0 m 490 ls [.int x2]) rfl ?_
  have hP2 := l_swapP hP2
  have hD2 := l_swapD hD2
  refine lv_pop hx hb dl_490 rfl ?_
  refine lv_goto (tgt := 615) hx hb dl_491 (by decide) ?_
  exact kk _ _ _ _ _ _ hLI hc2 hP2 hD2 hS2
set_option maxHeartbeats 4000000 in
set_option maxRecDepth 100000 in
/-- the law's case 14: result -/
theorem k_case_14 {p : Program} {l : Launch} {e : Env} {s : State} {m : MethodId} {below : List Frame} {meth : Method} {c : Code} {H : Heap} {locs : List Loc} {Q : State → Prop} {D : va_G} {cy : Nat → ClassId} {A : Nat → Prop} {b L z : Nat} {xs : Nat → Int32} {ls : Array Slot} {rc rm a am : Nat → Nat} {σc σm τ : St} {vs : List Nat}
    (hx : p.tables.exec = Jvm.exec) (hb : c.code = code) (hml : c.maxLocals = 4) (hown : s.vm.findClass "LinkedUnitsLaw" = some m.cls) (hg : ∀ w ∈ GW, w.before #[Value.ref b] s = true) (hNW : nwOK s) (hK : va_K D vwCl (kTy cy) s) (hA : ∀ q, s.heap.size ≤ q → A q) (hX : va_X b L xs s s.heap) (hbl : b < s.heap.size) (hbA : ¬ A b) (hEC : EC a gC A s) (hEM : EM am A s) (hL : L ≤ 3072) (hz : 6 * z + 6 ≤ L) (hI : LIv z σc σm τ vs) (hc : vs.length ≤ CAP)
    (hP : va_P D vwCl (wld SM cy rm σm τ vs ++ wld SC cy rc σc Z0 []) H) (hD : va_D A (wld SM cy rm σm τ vs ++ wld SC cy rc σc Z0 [])) (hS : va_S A s.heap H locs) (hl : lv_has ls 4 [(3, .int (nI (6 * z))), (2, .ref (rm 0)), (1, .ref (rc 0)), (0, .ref b)])
    (kk : ∀ (σc σm τ : St) (vs : List Nat) (H : Heap) (locs : List Loc), LIv (z + 1) σc σm τ vs → vs.length ≤ CAP → va_P D vwCl (wld SM cy rm σm τ vs ++ wld SC cy rc σc Z0 []) H → va_D A (wld SM cy rm σm τ vs ++ wld SC cy rc σc Z0 []) → va_S A s.heap H locs → W p l e room_1 s m #[Value.ref b] below meth c H locs (620 + vs.length) (2350875 + 9 * vs.length) Q (F0 m 615 ls [])) : W p l e room_1 s m #[Value.ref b] below meth c H locs (620 + vs.length) (2350875 + 9 * vs.length) Q (F0 m 494 ls []) := by
  obtain ⟨⟨o, hIc⟩, hG, hZ, hR⟩ := hI
  have hF0 := lw_fd hG
  have hZ2 : (z : Int) ≤ 511 := by omega
  refine lv_aload_n hx hb dl_494 rfl (lv_at hl 2 rfl) ?_
  refine l_call (l := l) (As := []) (rest := []) (b := rc 0) (S := SC) (r := rc) (σ := σc) (τ := Z0) (vs := []) (E := EC a gC) hx hb hml hown hg hNW hK hA (EC_ok a gC) hEC (kt_X12_result a rc (Q := fun _ => True) (True.intro) l D cy) (fun _ _ _ h => h) (Nat.le_of_ble_eq_true rfl) (Nat.zero_le _) (lw_c1 hc) (lw_s1 hc) lwV_X12_result m_1756 (recv_ob obC_0) rfl rfl (Nat.le_of_ble_eq_true rfl) dl_495 hl.1 hP hD hS (fun v1 σ1 τ1 vs1 H locs hq _ _ hP hD hS => ?_)
  obtain ⟨rfl, rfl, x1, rfl, hp⟩ := hq
  replace hp := hp.1
  have hRc : σ1 = σc := hp
  have hp : ∃ o, IVx σ1 o := ⟨o, hp.symm ▸ hIc⟩
  refine W.widen (k := 620 + vs.length) (n := 2350875 + 9 * vs.length) (Nat.le_refl _) (Nat.le_refl _) ?_
  refine W.eq (g2 := F0 m 498 ls [.int x1]) rfl ?_
  have hP := l_swapP hP
  have hD := l_swapD hD
  refine lv_pop hx hb dl_498 rfl ?_
  refine lv_aload_n hx hb dl_499 rfl (lv_at hl 1 rfl) ?_
  refine l_call (l := l) (As := []) (rest := []) (b := rm 0) (S := SM) (r := rm) (σ := σm) (τ := τ) (vs := vs) (E := EM am) hx hb hml hown hg hNW hK hA (EM_ok am) hEM (ct_result (Q := fun _ => True) am rm hc (sp_result (fun _ => trivial)) l D cy) (fun _ _ _ h => h) (Nat.le_of_ble_eq_true rfl) hc (lw_c2 hc) (lw_s2 hc) lwV_X14_result m_2812 (recv_ob obM_0) rfl rfl (Nat.le_of_ble_eq_true rfl) dl_500 hl.1 hP hD hS (fun v2 σ2 τ2 vs2 H2 locs2 hq hv2 hc2 hP2 hD2 hS2 => ?_)
  obtain ⟨rfl, rfl, rfl, x2, rfl, -⟩ := hq
  have hLI : LIv (z + 1) σ1 σ2 τ2 vs2 := lw_up hp hG hZ (by rw [hRc]; exact hR)
  refine W.widen (k := 620 + vs2.length) (n := 2350875 + 9 * vs2.length) (by omega) (by omega) ?_
  refine W.eq (g2 := F0 m 503 ls [.int x2]) rfl ?_
  have hP2 := l_swapP hP2
  have hD2 := l_swapD hD2
  refine lv_pop hx hb dl_503 rfl ?_
  refine lv_goto (tgt := 615) hx hb dl_504 (by decide) ?_
  exact kk _ _ _ _ _ _ hLI hc2 hP2 hD2 hS2
set_option maxHeartbeats 4000000 in
set_option maxRecDepth 100000 in
/-- the law's case 15: turns -/
theorem k_case_15 {p : Program} {l : Launch} {e : Env} {s : State} {m : MethodId} {below : List Frame} {meth : Method} {c : Code} {H : Heap} {locs : List Loc} {Q : State → Prop} {D : va_G} {cy : Nat → ClassId} {A : Nat → Prop} {b L z : Nat} {xs : Nat → Int32} {ls : Array Slot} {rc rm a am : Nat → Nat} {σc σm τ : St} {vs : List Nat}
    (hx : p.tables.exec = Jvm.exec) (hb : c.code = code) (hml : c.maxLocals = 4) (hown : s.vm.findClass "LinkedUnitsLaw" = some m.cls) (hg : ∀ w ∈ GW, w.before #[Value.ref b] s = true) (hNW : nwOK s) (hK : va_K D vwCl (kTy cy) s) (hA : ∀ q, s.heap.size ≤ q → A q) (hX : va_X b L xs s s.heap) (hbl : b < s.heap.size) (hbA : ¬ A b) (hEC : EC a gC A s) (hEM : EM am A s) (hL : L ≤ 3072) (hz : 6 * z + 6 ≤ L) (hI : LIv z σc σm τ vs) (hc : vs.length ≤ CAP)
    (hP : va_P D vwCl (wld SM cy rm σm τ vs ++ wld SC cy rc σc Z0 []) H) (hD : va_D A (wld SM cy rm σm τ vs ++ wld SC cy rc σc Z0 [])) (hS : va_S A s.heap H locs) (hl : lv_has ls 4 [(3, .int (nI (6 * z))), (2, .ref (rm 0)), (1, .ref (rc 0)), (0, .ref b)])
    (kk : ∀ (σc σm τ : St) (vs : List Nat) (H : Heap) (locs : List Loc), LIv (z + 1) σc σm τ vs → vs.length ≤ CAP → va_P D vwCl (wld SM cy rm σm τ vs ++ wld SC cy rc σc Z0 []) H → va_D A (wld SM cy rm σm τ vs ++ wld SC cy rc σc Z0 []) → va_S A s.heap H locs → W p l e room_1 s m #[Value.ref b] below meth c H locs (620 + vs.length) (2350875 + 9 * vs.length) Q (F0 m 615 ls [])) : W p l e room_1 s m #[Value.ref b] below meth c H locs (620 + vs.length) (2350875 + 9 * vs.length) Q (F0 m 507 ls []) := by
  obtain ⟨⟨o, hIc⟩, hG, hZ, hR⟩ := hI
  have hF0 := lw_fd hG
  have hZ2 : (z : Int) ≤ 511 := by omega
  refine lv_aload_n hx hb dl_507 rfl (lv_at hl 2 rfl) ?_
  refine l_call (l := l) (As := []) (rest := []) (b := rc 0) (S := SC) (r := rc) (σ := σc) (τ := Z0) (vs := []) (E := EC a gC) hx hb hml hown hg hNW hK hA (EC_ok a gC) hEC (kt_X12_turns a rc (Q := fun _ => True) (True.intro) l D cy) (fun _ _ _ h => h) (Nat.le_of_ble_eq_true rfl) (Nat.zero_le _) (lw_c1 hc) (lw_s1 hc) lwV_X12_turns m_1760 (recv_ob obC_0) rfl rfl (Nat.le_of_ble_eq_true rfl) dl_508 hl.1 hP hD hS (fun v1 σ1 τ1 vs1 H locs hq _ _ hP hD hS => ?_)
  obtain ⟨rfl, rfl, x1, rfl, hp⟩ := hq
  replace hp := hp.1
  have hRc : σ1 = σc := hp
  have hp : ∃ o, IVx σ1 o := ⟨o, hp.symm ▸ hIc⟩
  refine W.widen (k := 620 + vs.length) (n := 2350875 + 9 * vs.length) (Nat.le_refl _) (Nat.le_refl _) ?_
  refine W.eq (g2 := F0 m 511 ls [.int x1]) rfl ?_
  have hP := l_swapP hP
  have hD := l_swapD hD
  refine lv_pop hx hb dl_511 rfl ?_
  refine lv_aload_n hx hb dl_512 rfl (lv_at hl 1 rfl) ?_
  refine l_call (l := l) (As := []) (rest := []) (b := rm 0) (S := SM) (r := rm) (σ := σm) (τ := τ) (vs := vs) (E := EM am) hx hb hml hown hg hNW hK hA (EM_ok am) hEM (ct_turns (Q := fun _ => True) am rm hc (sp_turns (fun _ => trivial)) l D cy) (fun _ _ _ h => h) (Nat.le_of_ble_eq_true rfl) hc (lw_c2 hc) (lw_s2 hc) lwV_X14_turns m_2816 (recv_ob obM_0) rfl rfl (Nat.le_of_ble_eq_true rfl) dl_513 hl.1 hP hD hS (fun v2 σ2 τ2 vs2 H2 locs2 hq hv2 hc2 hP2 hD2 hS2 => ?_)
  obtain ⟨rfl, rfl, rfl, x2, rfl, -⟩ := hq
  have hLI : LIv (z + 1) σ1 σ2 τ2 vs2 := lw_up hp hG hZ (by rw [hRc]; exact hR)
  refine W.widen (k := 620 + vs2.length) (n := 2350875 + 9 * vs2.length) (by omega) (by omega) ?_
  refine W.eq (g2 := F0 m 516 ls [.int x2]) rfl ?_
  have hP2 := l_swapP hP2
  have hD2 := l_swapD hD2
  refine lv_pop hx hb dl_516 rfl ?_
  refine lv_goto (tgt := 615) hx hb dl_517 (by decide) ?_
  exact kk _ _ _ _ _ _ hLI hc2 hP2 hD2 hS2
set_option maxHeartbeats 4000000 in
set_option maxRecDepth 100000 in
/-- the law's case 16: trap -/
theorem k_case_16 {p : Program} {l : Launch} {e : Env} {s : State} {m : MethodId} {below : List Frame} {meth : Method} {c : Code} {H : Heap} {locs : List Loc} {Q : State → Prop} {D : va_G} {cy : Nat → ClassId} {A : Nat → Prop} {b L z : Nat} {xs : Nat → Int32} {ls : Array Slot} {rc rm a am : Nat → Nat} {σc σm τ : St} {vs : List Nat}
    (hx : p.tables.exec = Jvm.exec) (hb : c.code = code) (hml : c.maxLocals = 4) (hown : s.vm.findClass "LinkedUnitsLaw" = some m.cls) (hg : ∀ w ∈ GW, w.before #[Value.ref b] s = true) (hNW : nwOK s) (hK : va_K D vwCl (kTy cy) s) (hA : ∀ q, s.heap.size ≤ q → A q) (hX : va_X b L xs s s.heap) (hbl : b < s.heap.size) (hbA : ¬ A b) (hEC : EC a gC A s) (hEM : EM am A s) (hL : L ≤ 3072) (hz : 6 * z + 6 ≤ L) (hI : LIv z σc σm τ vs) (hc : vs.length ≤ CAP)
    (hP : va_P D vwCl (wld SM cy rm σm τ vs ++ wld SC cy rc σc Z0 []) H) (hD : va_D A (wld SM cy rm σm τ vs ++ wld SC cy rc σc Z0 [])) (hS : va_S A s.heap H locs) (hl : lv_has ls 4 [(3, .int (nI (6 * z))), (2, .ref (rm 0)), (1, .ref (rc 0)), (0, .ref b)])
    (kk : ∀ (σc σm τ : St) (vs : List Nat) (H : Heap) (locs : List Loc), LIv (z + 1) σc σm τ vs → vs.length ≤ CAP → va_P D vwCl (wld SM cy rm σm τ vs ++ wld SC cy rc σc Z0 []) H → va_D A (wld SM cy rm σm τ vs ++ wld SC cy rc σc Z0 []) → va_S A s.heap H locs → W p l e room_1 s m #[Value.ref b] below meth c H locs (620 + vs.length) (2350875 + 9 * vs.length) Q (F0 m 615 ls [])) : W p l e room_1 s m #[Value.ref b] below meth c H locs (620 + vs.length) (2350875 + 9 * vs.length) Q (F0 m 520 ls []) := by
  obtain ⟨⟨o, hIc⟩, hG, hZ, hR⟩ := hI
  have hF0 := lw_fd hG
  have hZ2 : (z : Int) ≤ 511 := by omega
  refine lv_aload_n hx hb dl_520 rfl (lv_at hl 2 rfl) ?_
  refine lv_aload_n hx hb dl_521 rfl (lv_at hl 3 rfl) ?_
  refine lv_iload_n hx hb dl_522 rfl (lv_at hl 0 rfl) ?_
  refine lv_iconst (v := nI 1) hx hb dl_523 (by decide) ?_
  refine lv_iadd hx hb dl_524 ?_
  refine k_topi (nI (6 * z + 1)) (nI_add _ _) ?_
  refine va_sld hx hb hX hbl hbA hS (vp_in_nI (by omega) (by omega)) dl_525 ?_
  refine k_topi (xs (6 * z + 1)) (congrArg xs (lw_nn (by omega))) ?_
  refine l_call (l := l) (As := [.int (xs (6 * z + 1))]) (rest := []) (b := rc 0) (S := SC) (r := rc) (σ := σc) (τ := Z0) (vs := []) (E := EC a gC) hx hb hml hown hg hNW hK hA (EC_ok a gC) hEC (kt_X12_trap a rc (Q := fun _ => True) (sk_trap (by have := hIc.1; omega) (fun _ => True.intro)) l D cy) (fun _ _ _ h => h) (Nat.le_of_ble_eq_true rfl) (Nat.zero_le _) (lw_c1 hc) (lw_s1 hc) lwV_X12_trap m_1764 (recv_ob obC_0) rfl rfl (Nat.le_of_ble_eq_true rfl) dl_526 hl.1 hP hD hS (fun v1 σ1 τ1 vs1 H locs hq _ _ hP hD hS => ?_)
  obtain ⟨rfl, rfl, x1, rfl, hp⟩ := hq
  replace hp := hp.1
  have hRc : σ1 = σc := hp
  have hp : ∃ o, IVx σ1 o := ⟨o, hp.symm ▸ hIc⟩
  refine W.widen (k := 620 + vs.length) (n := 2350875 + 9 * vs.length) (Nat.le_refl _) (Nat.le_refl _) ?_
  refine W.eq (g2 := F0 m 529 ls [.int x1]) rfl ?_
  have hP := l_swapP hP
  have hD := l_swapD hD
  refine lv_pop hx hb dl_529 rfl ?_
  refine lv_aload_n hx hb dl_530 rfl (lv_at hl 1 rfl) ?_
  refine lv_aload_n hx hb dl_531 rfl (lv_at hl 3 rfl) ?_
  refine lv_iload_n hx hb dl_532 rfl (lv_at hl 0 rfl) ?_
  refine lv_iconst (v := nI 1) hx hb dl_533 (by decide) ?_
  refine lv_iadd hx hb dl_534 ?_
  refine k_topi (nI (6 * z + 1)) (nI_add _ _) ?_
  refine va_sld hx hb hX hbl hbA hS (vp_in_nI (by omega) (by omega)) dl_535 ?_
  refine k_topi (xs (6 * z + 1)) (congrArg xs (lw_nn (by omega))) ?_
  refine l_call (l := l) (As := [.int (xs (6 * z + 1))]) (rest := []) (b := rm 0) (S := SM) (r := rm) (σ := σm) (τ := τ) (vs := vs) (E := EM am) hx hb hml hown hg hNW hK hA (EM_ok am) hEM (ct_trap (Q := fun _ => True) am rm hc (sp_trap (fun _ => trivial)) l D cy) (fun _ _ _ h => h) (Nat.le_of_ble_eq_true rfl) hc (lw_c2 hc) (lw_s2 hc) lwV_X14_trap m_2820 (recv_ob obM_0) rfl rfl (Nat.le_of_ble_eq_true rfl) dl_536 hl.1 hP hD hS (fun v2 σ2 τ2 vs2 H2 locs2 hq hv2 hc2 hP2 hD2 hS2 => ?_)
  obtain ⟨rfl, rfl, rfl, x2, rfl, -⟩ := hq
  have hLI : LIv (z + 1) σ1 σ2 τ2 vs2 := lw_up hp hG hZ (by rw [hRc]; exact hR)
  refine W.widen (k := 620 + vs2.length) (n := 2350875 + 9 * vs2.length) (by omega) (by omega) ?_
  refine W.eq (g2 := F0 m 539 ls [.int x2]) rfl ?_
  have hP2 := l_swapP hP2
  have hD2 := l_swapD hD2
  refine lv_pop hx hb dl_539 rfl ?_
  refine lv_goto (tgt := 615) hx hb dl_540 (by decide) ?_
  exact kk _ _ _ _ _ _ hLI hc2 hP2 hD2 hS2
set_option maxHeartbeats 4000000 in
set_option maxRecDepth 100000 in
/-- the law's case 17: written -/
theorem k_case_17 {p : Program} {l : Launch} {e : Env} {s : State} {m : MethodId} {below : List Frame} {meth : Method} {c : Code} {H : Heap} {locs : List Loc} {Q : State → Prop} {D : va_G} {cy : Nat → ClassId} {A : Nat → Prop} {b L z : Nat} {xs : Nat → Int32} {ls : Array Slot} {rc rm a am : Nat → Nat} {σc σm τ : St} {vs : List Nat}
    (hx : p.tables.exec = Jvm.exec) (hb : c.code = code) (hml : c.maxLocals = 4) (hown : s.vm.findClass "LinkedUnitsLaw" = some m.cls) (hg : ∀ w ∈ GW, w.before #[Value.ref b] s = true) (hNW : nwOK s) (hK : va_K D vwCl (kTy cy) s) (hA : ∀ q, s.heap.size ≤ q → A q) (hX : va_X b L xs s s.heap) (hbl : b < s.heap.size) (hbA : ¬ A b) (hEC : EC a gC A s) (hEM : EM am A s) (hL : L ≤ 3072) (hz : 6 * z + 6 ≤ L) (hI : LIv z σc σm τ vs) (hc : vs.length ≤ CAP)
    (hP : va_P D vwCl (wld SM cy rm σm τ vs ++ wld SC cy rc σc Z0 []) H) (hD : va_D A (wld SM cy rm σm τ vs ++ wld SC cy rc σc Z0 [])) (hS : va_S A s.heap H locs) (hl : lv_has ls 4 [(3, .int (nI (6 * z))), (2, .ref (rm 0)), (1, .ref (rc 0)), (0, .ref b)])
    (kk : ∀ (σc σm τ : St) (vs : List Nat) (H : Heap) (locs : List Loc), LIv (z + 1) σc σm τ vs → vs.length ≤ CAP → va_P D vwCl (wld SM cy rm σm τ vs ++ wld SC cy rc σc Z0 []) H → va_D A (wld SM cy rm σm τ vs ++ wld SC cy rc σc Z0 []) → va_S A s.heap H locs → W p l e room_1 s m #[Value.ref b] below meth c H locs (620 + vs.length) (2350875 + 9 * vs.length) Q (F0 m 615 ls [])) : W p l e room_1 s m #[Value.ref b] below meth c H locs (620 + vs.length) (2350875 + 9 * vs.length) Q (F0 m 543 ls []) := by
  obtain ⟨⟨o, hIc⟩, hG, hZ, hR⟩ := hI
  have hF0 := lw_fd hG
  have hZ2 : (z : Int) ≤ 511 := by omega
  refine lv_aload_n hx hb dl_543 rfl (lv_at hl 2 rfl) ?_
  refine l_call (l := l) (As := []) (rest := []) (b := rc 0) (S := SC) (r := rc) (σ := σc) (τ := Z0) (vs := []) (E := EC a gC) hx hb hml hown hg hNW hK hA (EC_ok a gC) hEC (kt_X12_written a rc (Q := fun _ => True) (True.intro) l D cy) (fun _ _ _ h => h) (Nat.le_of_ble_eq_true rfl) (Nat.zero_le _) (lw_c1 hc) (lw_s1 hc) lwV_X12_written m_1772 (recv_ob obC_0) rfl rfl (Nat.le_of_ble_eq_true rfl) dl_544 hl.1 hP hD hS (fun v1 σ1 τ1 vs1 H locs hq _ _ hP hD hS => ?_)
  obtain ⟨rfl, rfl, x1, rfl, hp⟩ := hq
  replace hp := hp.1
  have hRc : σ1 = σc := hp
  have hp : ∃ o, IVx σ1 o := ⟨o, hp.symm ▸ hIc⟩
  refine W.widen (k := 620 + vs.length) (n := 2350875 + 9 * vs.length) (Nat.le_refl _) (Nat.le_refl _) ?_
  refine W.eq (g2 := F0 m 547 ls [.int x1]) rfl ?_
  have hP := l_swapP hP
  have hD := l_swapD hD
  refine lv_pop hx hb dl_547 rfl ?_
  refine lv_aload_n hx hb dl_548 rfl (lv_at hl 1 rfl) ?_
  refine l_call (l := l) (As := []) (rest := []) (b := rm 0) (S := SM) (r := rm) (σ := σm) (τ := τ) (vs := vs) (E := EM am) hx hb hml hown hg hNW hK hA (EM_ok am) hEM (ct_written (Q := fun _ => True) am rm hc (sp_written (fun _ => trivial)) l D cy) (fun _ _ _ h => h) (Nat.le_of_ble_eq_true rfl) hc (lw_c2 hc) (lw_s2 hc) lwV_X14_written m_2824 (recv_ob obM_0) rfl rfl (Nat.le_of_ble_eq_true rfl) dl_549 hl.1 hP hD hS (fun v2 σ2 τ2 vs2 H2 locs2 hq hv2 hc2 hP2 hD2 hS2 => ?_)
  obtain ⟨rfl, rfl, rfl, x2, rfl, -⟩ := hq
  have hLI : LIv (z + 1) σ1 σ2 τ2 vs2 := lw_up hp hG hZ (by rw [hRc]; exact hR)
  refine W.widen (k := 620 + vs2.length) (n := 2350875 + 9 * vs2.length) (by omega) (by omega) ?_
  refine W.eq (g2 := F0 m 552 ls [.int x2]) rfl ?_
  have hP2 := l_swapP hP2
  have hD2 := l_swapD hD2
  refine lv_pop hx hb dl_552 rfl ?_
  refine lv_goto (tgt := 615) hx hb dl_553 (by decide) ?_
  exact kk _ _ _ _ _ _ hLI hc2 hP2 hD2 hS2
set_option maxHeartbeats 4000000 in
set_option maxRecDepth 100000 in
/-- the law's case 18: out -/
theorem k_case_18 {p : Program} {l : Launch} {e : Env} {s : State} {m : MethodId} {below : List Frame} {meth : Method} {c : Code} {H : Heap} {locs : List Loc} {Q : State → Prop} {D : va_G} {cy : Nat → ClassId} {A : Nat → Prop} {b L z : Nat} {xs : Nat → Int32} {ls : Array Slot} {rc rm a am : Nat → Nat} {σc σm τ : St} {vs : List Nat}
    (hx : p.tables.exec = Jvm.exec) (hb : c.code = code) (hml : c.maxLocals = 4) (hown : s.vm.findClass "LinkedUnitsLaw" = some m.cls) (hg : ∀ w ∈ GW, w.before #[Value.ref b] s = true) (hNW : nwOK s) (hK : va_K D vwCl (kTy cy) s) (hA : ∀ q, s.heap.size ≤ q → A q) (hX : va_X b L xs s s.heap) (hbl : b < s.heap.size) (hbA : ¬ A b) (hEC : EC a gC A s) (hEM : EM am A s) (hL : L ≤ 3072) (hz : 6 * z + 6 ≤ L) (hI : LIv z σc σm τ vs) (hc : vs.length ≤ CAP)
    (hP : va_P D vwCl (wld SM cy rm σm τ vs ++ wld SC cy rc σc Z0 []) H) (hD : va_D A (wld SM cy rm σm τ vs ++ wld SC cy rc σc Z0 [])) (hS : va_S A s.heap H locs) (hl : lv_has ls 4 [(3, .int (nI (6 * z))), (2, .ref (rm 0)), (1, .ref (rc 0)), (0, .ref b)])
    (kk : ∀ (σc σm τ : St) (vs : List Nat) (H : Heap) (locs : List Loc), LIv (z + 1) σc σm τ vs → vs.length ≤ CAP → va_P D vwCl (wld SM cy rm σm τ vs ++ wld SC cy rc σc Z0 []) H → va_D A (wld SM cy rm σm τ vs ++ wld SC cy rc σc Z0 []) → va_S A s.heap H locs → W p l e room_1 s m #[Value.ref b] below meth c H locs (620 + vs.length) (2350875 + 9 * vs.length) Q (F0 m 615 ls [])) : W p l e room_1 s m #[Value.ref b] below meth c H locs (620 + vs.length) (2350875 + 9 * vs.length) Q (F0 m 556 ls []) := by
  obtain ⟨⟨o, hIc⟩, hG, hZ, hR⟩ := hI
  have hF0 := lw_fd hG
  have hZ2 : (z : Int) ≤ 511 := by omega
  refine lv_aload_n hx hb dl_556 rfl (lv_at hl 2 rfl) ?_
  refine lv_aload_n hx hb dl_557 rfl (lv_at hl 3 rfl) ?_
  refine lv_iload_n hx hb dl_558 rfl (lv_at hl 0 rfl) ?_
  refine lv_iconst (v := nI 1) hx hb dl_559 (by decide) ?_
  refine lv_iadd hx hb dl_560 ?_
  refine k_topi (nI (6 * z + 1)) (nI_add _ _) ?_
  refine va_sld hx hb hX hbl hbA hS (vp_in_nI (by omega) (by omega)) dl_561 ?_
  refine k_topi (xs (6 * z + 1)) (congrArg xs (lw_nn (by omega))) ?_
  refine l_call (l := l) (As := [.int (xs (6 * z + 1))]) (rest := []) (b := rc 0) (S := SC) (r := rc) (σ := σc) (τ := Z0) (vs := []) (E := EC a gC) hx hb hml hown hg hNW hK hA (EC_ok a gC) hEC (kt_X12_out a rc (Q := fun _ => True) (sk_out (fun _ => True.intro)) l D cy) (fun _ _ _ h => h) (Nat.le_of_ble_eq_true rfl) (Nat.zero_le _) (lw_c1 hc) (lw_s1 hc) lwV_X12_out m_1776 (recv_ob obC_0) rfl rfl (Nat.le_of_ble_eq_true rfl) dl_562 hl.1 hP hD hS (fun v1 σ1 τ1 vs1 H locs hq _ _ hP hD hS => ?_)
  obtain ⟨rfl, rfl, x1, rfl, hp⟩ := hq
  replace hp := hp.1
  have hRc : σ1 = σc := hp
  have hp : ∃ o, IVx σ1 o := ⟨o, hp.symm ▸ hIc⟩
  refine W.widen (k := 620 + vs.length) (n := 2350875 + 9 * vs.length) (Nat.le_refl _) (Nat.le_refl _) ?_
  refine W.eq (g2 := F0 m 565 ls [.int x1]) rfl ?_
  have hP := l_swapP hP
  have hD := l_swapD hD
  refine lv_pop hx hb dl_565 rfl ?_
  refine lv_aload_n hx hb dl_566 rfl (lv_at hl 1 rfl) ?_
  refine lv_aload_n hx hb dl_567 rfl (lv_at hl 3 rfl) ?_
  refine lv_iload_n hx hb dl_568 rfl (lv_at hl 0 rfl) ?_
  refine lv_iconst (v := nI 1) hx hb dl_569 (by decide) ?_
  refine lv_iadd hx hb dl_570 ?_
  refine k_topi (nI (6 * z + 1)) (nI_add _ _) ?_
  refine va_sld hx hb hX hbl hbA hS (vp_in_nI (by omega) (by omega)) dl_571 ?_
  refine k_topi (xs (6 * z + 1)) (congrArg xs (lw_nn (by omega))) ?_
  refine l_call (l := l) (As := [.int (xs (6 * z + 1))]) (rest := []) (b := rm 0) (S := SM) (r := rm) (σ := σm) (τ := τ) (vs := vs) (E := EM am) hx hb hml hown hg hNW hK hA (EM_ok am) hEM (ct_out (Q := fun _ => True) am rm hc (sp_out hG (fun _ => trivial)) l D cy) (fun _ _ _ h => h) (Nat.le_of_ble_eq_true rfl) hc (lw_c2 hc) (lw_s2 hc) lwV_X14_out m_2828 (recv_ob obM_0) rfl rfl (Nat.le_of_ble_eq_true rfl) dl_572 hl.1 hP hD hS (fun v2 σ2 τ2 vs2 H2 locs2 hq hv2 hc2 hP2 hD2 hS2 => ?_)
  obtain ⟨rfl, rfl, rfl, x2, rfl, -⟩ := hq
  have hLI : LIv (z + 1) σ1 σ2 τ2 vs2 := lw_up hp hG hZ (by rw [hRc]; exact hR)
  refine W.widen (k := 620 + vs2.length) (n := 2350875 + 9 * vs2.length) (by omega) (by omega) ?_
  refine W.eq (g2 := F0 m 575 ls [.int x2]) rfl ?_
  have hP2 := l_swapP hP2
  have hD2 := l_swapD hD2
  refine lv_pop hx hb dl_575 rfl ?_
  refine lv_goto (tgt := 615) hx hb dl_576 (by decide) ?_
  exact kk _ _ _ _ _ _ hLI hc2 hP2 hD2 hS2
set_option maxHeartbeats 4000000 in
set_option maxRecDepth 100000 in
/-- the law's case 19: peek -/
theorem k_case_19 {p : Program} {l : Launch} {e : Env} {s : State} {m : MethodId} {below : List Frame} {meth : Method} {c : Code} {H : Heap} {locs : List Loc} {Q : State → Prop} {D : va_G} {cy : Nat → ClassId} {A : Nat → Prop} {b L z : Nat} {xs : Nat → Int32} {ls : Array Slot} {rc rm a am : Nat → Nat} {σc σm τ : St} {vs : List Nat}
    (hx : p.tables.exec = Jvm.exec) (hb : c.code = code) (hml : c.maxLocals = 4) (hown : s.vm.findClass "LinkedUnitsLaw" = some m.cls) (hg : ∀ w ∈ GW, w.before #[Value.ref b] s = true) (hNW : nwOK s) (hK : va_K D vwCl (kTy cy) s) (hA : ∀ q, s.heap.size ≤ q → A q) (hX : va_X b L xs s s.heap) (hbl : b < s.heap.size) (hbA : ¬ A b) (hEC : EC a gC A s) (hEM : EM am A s) (hL : L ≤ 3072) (hz : 6 * z + 6 ≤ L) (hI : LIv z σc σm τ vs) (hc : vs.length ≤ CAP)
    (hP : va_P D vwCl (wld SM cy rm σm τ vs ++ wld SC cy rc σc Z0 []) H) (hD : va_D A (wld SM cy rm σm τ vs ++ wld SC cy rc σc Z0 [])) (hS : va_S A s.heap H locs) (hl : lv_has ls 4 [(3, .int (nI (6 * z))), (2, .ref (rm 0)), (1, .ref (rc 0)), (0, .ref b)])
    (kk : ∀ (σc σm τ : St) (vs : List Nat) (H : Heap) (locs : List Loc), LIv (z + 1) σc σm τ vs → vs.length ≤ CAP → va_P D vwCl (wld SM cy rm σm τ vs ++ wld SC cy rc σc Z0 []) H → va_D A (wld SM cy rm σm τ vs ++ wld SC cy rc σc Z0 []) → va_S A s.heap H locs → W p l e room_1 s m #[Value.ref b] below meth c H locs (620 + vs.length) (2350875 + 9 * vs.length) Q (F0 m 615 ls [])) : W p l e room_1 s m #[Value.ref b] below meth c H locs (620 + vs.length) (2350875 + 9 * vs.length) Q (F0 m 579 ls []) := by
  obtain ⟨⟨o, hIc⟩, hG, hZ, hR⟩ := hI
  have hF0 := lw_fd hG
  have hZ2 : (z : Int) ≤ 511 := by omega
  refine lv_aload_n hx hb dl_579 rfl (lv_at hl 2 rfl) ?_
  refine lv_aload_n hx hb dl_580 rfl (lv_at hl 3 rfl) ?_
  refine lv_iload_n hx hb dl_581 rfl (lv_at hl 0 rfl) ?_
  refine lv_iconst (v := nI 1) hx hb dl_582 (by decide) ?_
  refine lv_iadd hx hb dl_583 ?_
  refine k_topi (nI (6 * z + 1)) (nI_add _ _) ?_
  refine va_sld hx hb hX hbl hbA hS (vp_in_nI (by omega) (by omega)) dl_584 ?_
  refine k_topi (xs (6 * z + 1)) (congrArg xs (lw_nn (by omega))) ?_
  refine l_call (l := l) (As := [.int (xs (6 * z + 1))]) (rest := []) (b := rc 0) (S := SC) (r := rc) (σ := σc) (τ := Z0) (vs := []) (E := EC a gC) hx hb hml hown hg hNW hK hA (EC_ok a gC) hEC (kt_X12_peek a rc (Q := fun _ => True) (True.intro) l D cy) (fun _ _ _ h => h) (Nat.le_of_ble_eq_true rfl) (Nat.zero_le _) (lw_c1 hc) (lw_s1 hc) lwV_X12_peek m_1784 (recv_ob obC_0) rfl rfl (Nat.le_of_ble_eq_true rfl) dl_585 hl.1 hP hD hS (fun v1 σ1 τ1 vs1 H locs hq _ _ hP hD hS => ?_)
  obtain ⟨rfl, rfl, x1, rfl, hp⟩ := hq
  replace hp := hp.1
  have hRc : σ1 = σc := hp
  have hp : ∃ o, IVx σ1 o := ⟨o, hp.symm ▸ hIc⟩
  refine W.widen (k := 620 + vs.length) (n := 2350875 + 9 * vs.length) (Nat.le_refl _) (Nat.le_refl _) ?_
  refine W.eq (g2 := F0 m 588 ls [.int x1]) rfl ?_
  have hP := l_swapP hP
  have hD := l_swapD hD
  refine lv_pop hx hb dl_588 rfl ?_
  refine lv_aload_n hx hb dl_589 rfl (lv_at hl 1 rfl) ?_
  refine lv_aload_n hx hb dl_590 rfl (lv_at hl 3 rfl) ?_
  refine lv_iload_n hx hb dl_591 rfl (lv_at hl 0 rfl) ?_
  refine lv_iconst (v := nI 1) hx hb dl_592 (by decide) ?_
  refine lv_iadd hx hb dl_593 ?_
  refine k_topi (nI (6 * z + 1)) (nI_add _ _) ?_
  refine va_sld hx hb hX hbl hbA hS (vp_in_nI (by omega) (by omega)) dl_594 ?_
  refine k_topi (xs (6 * z + 1)) (congrArg xs (lw_nn (by omega))) ?_
  refine l_call (l := l) (As := [.int (xs (6 * z + 1))]) (rest := []) (b := rm 0) (S := SM) (r := rm) (σ := σm) (τ := τ) (vs := vs) (E := EM am) hx hb hml hown hg hNW hK hA (EM_ok am) hEM (ct_peek (Q := fun _ => True) am rm hc (sp_peek (fun _ => trivial)) l D cy) (fun _ _ _ h => h) (Nat.le_of_ble_eq_true rfl) hc (lw_c2 hc) (lw_s2 hc) lwV_X14_peek m_2832 (recv_ob obM_0) rfl rfl (Nat.le_of_ble_eq_true rfl) dl_595 hl.1 hP hD hS (fun v2 σ2 τ2 vs2 H2 locs2 hq hv2 hc2 hP2 hD2 hS2 => ?_)
  obtain ⟨rfl, rfl, rfl, x2, rfl, -⟩ := hq
  have hLI : LIv (z + 1) σ1 σ2 τ2 vs2 := lw_up hp hG hZ (by rw [hRc]; exact hR)
  refine W.widen (k := 620 + vs2.length) (n := 2350875 + 9 * vs2.length) (by omega) (by omega) ?_
  refine W.eq (g2 := F0 m 598 ls [.int x2]) rfl ?_
  have hP2 := l_swapP hP2
  have hD2 := l_swapD hD2
  refine lv_pop hx hb dl_598 rfl ?_
  refine lv_goto (tgt := 615) hx hb dl_599 (by decide) ?_
  exact kk _ _ _ _ _ _ hLI hc2 hP2 hD2 hS2
set_option maxHeartbeats 4000000 in
set_option maxRecDepth 100000 in
/-- the law's case 20: strays -/
theorem k_case_20 {p : Program} {l : Launch} {e : Env} {s : State} {m : MethodId} {below : List Frame} {meth : Method} {c : Code} {H : Heap} {locs : List Loc} {Q : State → Prop} {D : va_G} {cy : Nat → ClassId} {A : Nat → Prop} {b L z : Nat} {xs : Nat → Int32} {ls : Array Slot} {rc rm a am : Nat → Nat} {σc σm τ : St} {vs : List Nat}
    (hx : p.tables.exec = Jvm.exec) (hb : c.code = code) (hml : c.maxLocals = 4) (hown : s.vm.findClass "LinkedUnitsLaw" = some m.cls) (hg : ∀ w ∈ GW, w.before #[Value.ref b] s = true) (hNW : nwOK s) (hK : va_K D vwCl (kTy cy) s) (hA : ∀ q, s.heap.size ≤ q → A q) (hX : va_X b L xs s s.heap) (hbl : b < s.heap.size) (hbA : ¬ A b) (hEC : EC a gC A s) (hEM : EM am A s) (hL : L ≤ 3072) (hz : 6 * z + 6 ≤ L) (hI : LIv z σc σm τ vs) (hc : vs.length ≤ CAP)
    (hP : va_P D vwCl (wld SM cy rm σm τ vs ++ wld SC cy rc σc Z0 []) H) (hD : va_D A (wld SM cy rm σm τ vs ++ wld SC cy rc σc Z0 [])) (hS : va_S A s.heap H locs) (hl : lv_has ls 4 [(3, .int (nI (6 * z))), (2, .ref (rm 0)), (1, .ref (rc 0)), (0, .ref b)])
    (kk : ∀ (σc σm τ : St) (vs : List Nat) (H : Heap) (locs : List Loc), LIv (z + 1) σc σm τ vs → vs.length ≤ CAP → va_P D vwCl (wld SM cy rm σm τ vs ++ wld SC cy rc σc Z0 []) H → va_D A (wld SM cy rm σm τ vs ++ wld SC cy rc σc Z0 []) → va_S A s.heap H locs → W p l e room_1 s m #[Value.ref b] below meth c H locs (620 + vs.length) (2350875 + 9 * vs.length) Q (F0 m 615 ls [])) : W p l e room_1 s m #[Value.ref b] below meth c H locs (620 + vs.length) (2350875 + 9 * vs.length) Q (F0 m 602 ls []) := by
  obtain ⟨⟨o, hIc⟩, hG, hZ, hR⟩ := hI
  have hF0 := lw_fd hG
  have hZ2 : (z : Int) ≤ 511 := by omega
  refine lv_aload_n hx hb dl_602 rfl (lv_at hl 2 rfl) ?_
  refine l_call (l := l) (As := []) (rest := []) (b := rc 0) (S := SC) (r := rc) (σ := σc) (τ := Z0) (vs := []) (E := EC a gC) hx hb hml hown hg hNW hK hA (EC_ok a gC) hEC (kt_X12_strays a rc (Q := fun _ => True) (True.intro) l D cy) (fun _ _ _ h => h) (Nat.le_of_ble_eq_true rfl) (Nat.zero_le _) (lw_c1 hc) (lw_s1 hc) lwV_X12_strays m_1788 (recv_ob obC_0) rfl rfl (Nat.le_of_ble_eq_true rfl) dl_603 hl.1 hP hD hS (fun v1 σ1 τ1 vs1 H locs hq _ _ hP hD hS => ?_)
  obtain ⟨rfl, rfl, x1, rfl, hp⟩ := hq
  replace hp := hp.1
  have hRc : σ1 = σc := hp
  have hp : ∃ o, IVx σ1 o := ⟨o, hp.symm ▸ hIc⟩
  refine W.widen (k := 620 + vs.length) (n := 2350875 + 9 * vs.length) (Nat.le_refl _) (Nat.le_refl _) ?_
  refine W.eq (g2 := F0 m 606 ls [.int x1]) rfl ?_
  have hP := l_swapP hP
  have hD := l_swapD hD
  refine lv_pop hx hb dl_606 rfl ?_
  refine lv_aload_n hx hb dl_607 rfl (lv_at hl 1 rfl) ?_
  refine l_call (l := l) (As := []) (rest := []) (b := rm 0) (S := SM) (r := rm) (σ := σm) (τ := τ) (vs := vs) (E := EM am) hx hb hml hown hg hNW hK hA (EM_ok am) hEM (ct_strays (Q := fun _ => True) am rm hc (sp_strays (fun _ => trivial)) l D cy) (fun _ _ _ h => h) (Nat.le_of_ble_eq_true rfl) hc (lw_c2 hc) (lw_s2 hc) lwV_X14_strays m_2836 (recv_ob obM_0) rfl rfl (Nat.le_of_ble_eq_true rfl) dl_608 hl.1 hP hD hS (fun v2 σ2 τ2 vs2 H2 locs2 hq hv2 hc2 hP2 hD2 hS2 => ?_)
  obtain ⟨rfl, rfl, rfl, x2, rfl, -⟩ := hq
  have hLI : LIv (z + 1) σ1 σ2 τ2 vs2 := lw_up hp hG hZ (by rw [hRc]; exact hR)
  refine W.widen (k := 620 + vs2.length) (n := 2350875 + 9 * vs2.length) (by omega) (by omega) ?_
  refine W.eq (g2 := F0 m 611 ls [.int x2]) rfl ?_
  have hP2 := l_swapP hP2
  have hD2 := l_swapD hD2
  refine lv_pop hx hb dl_611 rfl ?_
  refine lv_goto (tgt := 615) hx hb dl_612 (by decide) ?_
  exact kk _ _ _ _ _ _ hLI hc2 hP2 hD2 hS2
