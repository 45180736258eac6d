section
theorem mV_X14_cut : MeV y_X14_cut b_X14_cut 7 none 0 := ⟨m_2186, m_18, m_2185, ms_X14_cut, by decide, by decide, by decide +kernel⟩
theorem mV_X14_bodiless : MeV y_X14_bodiless b_X14_bodiless 4 none 0 := ⟨m_2635, m_18, m_2634, ms_X14_bodiless, by decide, by decide, by decide +kernel⟩
theorem mV_X14_item : MeV y_X14_item b_X14_item 6 none 0 := ⟨m_2272, m_18, m_2271, ms_X14_item, by decide, by decide, by decide +kernel⟩
/-! a method with a table of handlers: its contract, its call, what it catches -/
def exq (hh : List (Nat × Nat × Nat × Nat)) : List ExceptionTableEntry := hh.map (fun q => { startPc := q.1, endPc := q.2.1, handlerPc := q.2.2.1, catchType := q.2.2.2 })
theorem exq_of {l : List ExceptionTableEntry} {hh : List (Nat × Nat × Nat × Nat)} (h : l.map (fun h => (h.startPc, h.endPc, h.handlerPc, h.catchType)) = hh) : l = exq hh := by
  subst h
  unfold exq
  rw [List.map_map]
  exact (List.map_id l).symm
section CTW
variable {l : Launch} {D : va_G} {cy : Nat → ClassId} {S : Sh} {r : Nat → Nat} {E : (Nat → Prop) → State → Prop} {y : MethodName} {cc : ByteArray} {maxL : Nat} {ret : Option FieldType} {d : Nat} {as : List Value} {σ τ : St} {vs : List Nat} {Qr : QR} {Qt : QT} {hh : List (Nat × Nat × Nat × Nat)}
theorem Ct_ofW (hEo : EnvOK E) (hy : plainName y.cls = true) (hn : (lg_sl as).length ≤ maxL) (hcap : vs.length ≤ CAP)
    (body : ∀ X : Cx, X.2.2.2.2.2.2.2.2.2.2.2.2.2.2.1 = maxL → Fx S r X (exq hh) cc y.cls ret d Qr Qt E → G S r X σ τ vs (lv_args 0 as) [] 0) :
    Ct l D cy S r E y (Cond.codeWith y cc maxL ret hh) d as σ τ vs Qr Qt := by
  intro sz
  refine MetFree.of_bodyS (code := cc) (maxLocals := maxL) (ret := ret) hy ?_ ?_
  · intro args s m h hn
    obtain ⟨m9, meth, c, hn9, h1, h2, h3, h4, -, h5, h6, -⟩ := Cond.codeWith_spec (atoms_spec (ws := Cond.codeWith y cc maxL ret hh :: GW) h _ List.mem_cons_self)
    cases hn.symm.trans hn9
    exact ⟨meth, c, h1, h2, h3, h4, h5, h6⟩
  · intro p e s m args below meth c s₁ B hml hP _
    have hh0 : s₁.heap = s.heap := by rw [B.state]; rfl
    have ht : c.exceptionTable.toList = exq hh := by
      obtain ⟨m9, meth9, c9, hn9, h1, h2, -, -, h7, -, -, -⟩ := Cond.codeWith_spec (atoms_spec (ws := Cond.codeWith y cc maxL ret hh :: GW) B.pre _ List.mem_cons_self)
      cases B.named.symm.trans hn9
      cases Option.some.inj (h1.symm.trans B.method)
      cases Option.some.inj (h2.symm.trans (Stand.of_body B).code)
      exact exq_of h7
    obtain ⟨rfl, ⟨hsz, hNW, hPw, hK, hD0⟩, hE⟩ := hP
    subst hsz
    have X := Stand.of_body B
    rw [lg_entry_eq]
    obtain ⟨t, o, a1, b1, b2, b3⟩ := body_end hEo hcap B.exec B.bytes hml (findClass_of_methodNamed B.named) B.returns B.notSynchronized (fun w h => atoms_spec B.pre w (List.mem_cons_of_mem _ h)) hNW hK hPw hD0 hE ht (lv_entry as hn) hh0 X body
    exact ⟨t, o, a1, b1, b2, b3⟩
end CTW
section GCW
variable {S : Sh} {r : Nat → Nat} {X : Cx} {ex : List ExceptionTableEntry} {cc : ByteArray} {own : String} {ret : Option FieldType} {d : Nat} {Qr : QR} {Qt : QT} {E : (Nat → Prop) → State → Prop} {σ τ : St} {vs : List Nat} {L : List (Nat × Value)} {rest st : List Value} {pc : Nat}
def MeVW (y : MethodName) (bytes : ByteArray) (maxL : Nat) (ret : Option FieldType) (hh : List (Nat × Nat × Nat × Nat)) (n : Nat) : Prop := Cond.codeWith y bytes maxL ret hh ∈ GW ∧ Cond.initialized y.cls ∈ GW ∧ Cond.instanceMethod y ∈ GW ∧ Cond.selects y.cls y y ∈ GW ∧ maxL ≤ 21 ∧ (y.cls ≠ "java/lang/invoke/MethodHandle" ∧ y.cls ≠ "java/lang/invoke/VarHandle") ∧ (parseMethodDescriptor y.desc).map (fun d => d.parameters.length) = some n
theorem code_ofW {y : MethodName} {bytes : ByteArray} {maxL : Nat} {ret : Option FieldType} {hh : List (Nat × Nat × Nat × Nat)} {s : State} {args : Array Value} (hg : ∀ w ∈ GW, w.before args s = true) (h : Cond.codeWith y bytes maxL ret hh ∈ GW) : ∀ (a' : Array Value) (U : State) (mk : MethodId), s.WarmedH U.vm → U.methodNamed? y = some mk → ∃ meth c, U.vm.method? mk = some meth ∧ meth.code = some c ∧ c.maxLocals = maxL := fun a' U mk hW hn => by
  have h2 : (Cond.codeWith y bytes maxL ret hh).before a' U = true := pay_in hg (gw_c h) _ List.mem_cons_self a' U hW
  obtain ⟨m9, methY, cY, hn9, hmY, hcY, -, hlY, -, -, -, -⟩ := Cond.codeWith_spec h2
  cases hn.symm.trans hn9
  exact ⟨methY, cY, hmY, hcY, hlY⟩
theorem g_callVW (hF : Fx S r X ex cc own ret d Qr Qt E) {index d' maxL n b : Nat} {y : MethodName} {bytes : ByteArray} {rt : Option FieldType} {hh : List (Nat × Nat × Nat × Nat)} {As st : List Value} {Qr' : QR}
    (C : ∀ (l : Launch) (D : va_G) (cy : Nat → ClassId), Ct l D cy S r E y (Cond.codeWith y bytes maxL rt hh) d' (.ref b :: As) σ τ vs Qr' (fun _ _ _ => False)) (hd' : d' + 1 ≤ d) (hme : MeVW y bytes maxL rt hh n) (hw : Cond.methodLink own index y ∈ GW) (hrec : Recv S r E vs y.cls b) (hst : st = As.reverse ++ .ref b :: rest) (hn : As.length = n) (hcat : (rest.map fun v => v.category).sum ≤ 8) (hd : decode cc pc = .ok (.invokevirtual index, 3))
    (kk : ∀ v σ' τ' vs', Qr' v σ' τ' vs' → G S r X σ' τ' vs' L (v.toList ++ rest) (pc + 3)) : G S r X σ τ vs L st pc := by
  obtain ⟨p, l, e, R, s, m, args, below, meth, c, A, D, cy, Q, nL, n0⟩ := X
  obtain ⟨hx, hb, hml, hown, hret, hlk, hR, hQ, hg, hNW, hK, hA, hE, hEo, hex⟩ := hF
  intro H locs ls hP hD hS hl h1 h2
  subst hst
  have hFr : ∀ q, va_A (wld S cy r σ τ vs) H.size q → A q := fun q h => va_free (wc := wld S cy r σ τ vs) hD hS hA (List.range (wld S cy r σ τ vs).length) (range_get _) q h
  obtain ⟨hc1, hc2, hc3, hc4, hm, hy, hpd⟩ := hme
  have hroom := g_room hR hd' hm
  have hK9 := gx_back (l := l) (R := R) (p := p) (e := e) (below := below) (s := s) (sargs := args) (len := 3) (W9 := 8) (C l D cy H.size) (kPreE.blind hEo) hroom.1 hroom.2 (pay_in hg (gw_c hc1)) (code_ofW hg hc1) (init_of hg hc2)
  have hK9 := back_of_vx hK9 (fun _ _ _ _ h => by obtain ⟨_, _, _, _, _, _, _, _, _, _, _, _, _, _, h, _⟩ := h; exact h)
  have hlen : ∀ sig, parseMethodDescriptor y.desc = some sig → As.length = sig.parameters.length := fun sig h => by
    rw [h] at hpd
    exact hn.trans (Option.some.inj hpd).symm
  intro T hT X
  obtain ⟨cell, hce, hcs, hcc⟩ := hrec D cy A s H locs σ τ hK hP hS hE
  have hPre : ∀ vm₁, s.WarmedH vm₁ → gPre R vs.length (va_Pc (.ref b :: As) (kPreE D cy H.size (wld S cy r σ τ vs) E)) ⟨T.setVm vm₁, locs, vs.length - n0, 9 * (vs.length - n0)⟩ (Value.ref b :: As).toArray := fun vm₁ hW₁ => ⟨(g_cells hR h1 h2).1, (g_cells hR h1 h2).2, rfl, ⟨by show T.heap.size = H.size; rw [hT], nwOK.warm (U := T.setVm vm₁) hW₁ hNW, by show va_P D vwCl _ T.heap; rw [hT]; exact hP, va_K.moved (u := s) (U := T.setVm vm₁) hW₁.alike hK, va_D.weaken hD (fun _ _ _ _ => trivial)⟩, hEo A _ s (T.setVm vm₁) hW₁ (fun a q1 q2 => by show T.heap[a]? = _; rw [hT]; exact hS.2.1 a q1 q2) (fun q h => hFr q h) hE⟩
  obtain ⟨v, vm₁, ⟨U', l2, c2, s2⟩, hW₁, X', ⟨g', mk, t, L, σ', τ', vs', e1, e2, w1, w2, w3, w4, hq, q1, hL, q2, q3⟩, st⟩ := vx_callVW X hx (C := y.cls) (hh := hh) (bytes := bytes) (maxL := maxL) (ret := rt) hown (hg _ hw) (hg _ hc3) (hg _ hc4) (hg _ hc1) hy hK9 (by rw [hT]; exact hce) hcs hcc (g := F0 m pc ls (As.reverse ++ .ref b :: rest)) rfl (hl.1.trans hml.symm) (argsL := As) (rest := rest) hlen rfl (lv_room hcat) (by rw [hb]; exact hd) hPre
  · skip
    dsimp only [Pt.U, Pt.locs, Pt.cells, Pt.slots] at X' e1 e2 q1 q2 q3 st
    subst q1; subst q2; subst q3
    obtain ⟨k1, k2, k3⟩ := vx_keep (H := H) (locs := locs) hT e1 hS (fun q _ hq9 => hFr q hq9) hFr hL w2
    have h9 := kk v σ' τ' vs' hq U'.heap (locs ++ L) ls (by rw [e1]; exact w1.1) (va_D.weaken w1.2.2 (fun _ q _ h => hFr q.1 h)) k3 hl (Nat.le_trans h1 w3) w4
    have e5 : vs.length - n0 + (vs'.length - vs.length) = vs'.length - n0 := by omega
    have e6 : 9 * (vs.length - n0) + 9 * (vs'.length - vs.length) = 9 * (vs'.length - n0) := by omega
    rw [e5, e6] at X'
    obtain ⟨t2, a1, b1⟩ := h9 U' rfl X'
    exact ⟨t2, st _ a1, b1⟩
theorem g_catch (hF : Fx S r X ex cc own ret d Qr Qt E) (hs : StopOK S) (x : ExceptionTableEntry) (he : ex = [x]) (hx : covers x pc = true) (h0 : x.catchType ≠ 0) (hl : Cond.classLink own x.catchType ISE ∈ GW) (k : G S r X σ τ vs L [.ref (r S.2.2.2)] x.handlerPc) : GT S r X σ τ vs L st pc := by
  obtain ⟨p, l, e, R, s, m, args, below, meth, c, A, D, cy, Q, nL, n0⟩ := X
  obtain ⟨hx9, hb, hml, hown, hret, hlk, hR, hQ, hg, hNW, hK, hA, hE, hEo, hex⟩ := hF
  intro H locs ls hP hD hS hl9 h1 h2
  obtain ⟨ce, hce, hcv, hcl⟩ := stop_cell hs hK hP
  intro T hT X
  have hpl : e.platform.magicAccessors = ({} : Platform).magicAccessors := by rw [X.admits.platform]
  obtain ⟨c5, hc5, hcl5⟩ := Cond.classLink_spec hown (hg _ hl) e.platform hpl
  have e9 : c5 = ce.cls := Option.some.inj (hc5.symm.trans hcl)
  subst e9
  obtain ⟨vm', X', st9⟩ := X.thenCaughtThrough (r S.2.2.2) (g := F0 m pc ls st) rfl (Steps.refl _) (by rw [hT]; exact hce) (by rw [hcv]; rfl) (by obtain ⟨k9, h9, -⟩ := Vm.findClass_spec hcl; exact ⟨k9, h9⟩) [] x [] (hex.trans he) (fun z hz => absurd hz List.not_mem_nil) hx (Or.inr ⟨h0, _, hcl5, va_asg _ _⟩)
  obtain ⟨t, a1, b1⟩ := k H locs ls hP hD hS hl9 h1 h2 (T.setVm vm') hT X'
  exact ⟨t, st9.trans a1, b1⟩
end GCW
theorem mVW_X14_read_0 : MeVW y_X14_read_0 b_X14_read_0 2 (some .int) [(9, 46, 49, 29)] 0 := ⟨m_2182, m_18, m_2181, ms_X14_read_0, by decide, by decide, by decide +kernel⟩
def wp_read_0 (σ τ : St) (vs : List Nat) (Q : Int32 → St → St → List Nat → Prop) : Prop :=
  wp_cut σ τ vs (fun s1 t1 z1 => ∃ L9 : Nat → St → St → List Nat → Prop, (∃ n, L9 n (upC s1 0 10 (0 : Int32)) t1 z1) ∧ ∀ (n9 : Nat) (s9 t9 : St) (z9 : List Nat), L9 n9 s9 t9 z9 → (((0 ≤ (s9 0 10).toInt ∧ (s9 0 10).toInt < 16002) ∧ ((s9 2 (s9 0 10).toNatClampNeg).toInt = 0 → wp_bodiless s9 t9 z9 (fun s54 t54 z54 => ((s54 0 12).toInt ≠ 0 → Q (((-20) : Int32) - (s54 0 12)) (upC s54 0 14 (s54 0 13)) t54 z54) ∧ ((s54 0 12).toInt = 0 → Q (0 : Int32) s54 t54 z54))) ∧ ((s9 2 (s9 0 10).toNatClampNeg).toInt ≠ 0 → ((0 ≤ (s9 0 10).toInt ∧ (s9 0 10).toInt < 16002) ∧ ((s9 2 (s9 0 10).toNatClampNeg).toInt ≠ 1 → wp_item s9 t9 z9 (fun s40 t40 z40 => ∃ m, m < n9 ∧ L9 m s40 t40 z40) (fun s40x t40x z40x => Q ((-21) : Int32) s40x t40x z40x)) ∧ ((s9 2 (s9 0 10).toNatClampNeg).toInt = 1 → wp_wrong s9 t9 z9 (fun s35 t35 z35 => Q ((-21) : Int32) s35 t35 z35)))))))
set_option maxHeartbeats 4000000 in
set_option maxRecDepth 100000 in
theorem ct_read_0 (a : Nat → Nat) (r : Nat → Nat) {σ τ : St} {vs : List Nat} {Q : Int32 → St → St → List Nat → Prop} (hcap : vs.length ≤ CAP) (w : wp_read_0  σ τ vs Q) (l : Launch) (D : va_G) (cy : Nat → ClassId) : Ct l D cy SM r (EM a) y_X14_read_0 (Cond.codeWith y_X14_read_0 b_X14_read_0 2 (some .int) [(9, 46, 49, 29)]) 1234 [.ref (r 0)] σ τ vs (QIs Q) QT0 := by
  unfold wp_read_0 at w
  refine Ct_ofW (EM_ok a) (by decide) (Nat.le_of_ble_eq_true rfl) hcap (fun X hnn hF => ?_)
  show G SM r X σ τ vs [(0, .ref (r 0))] [] 0
  refine g_aload_n hF d_X14_read_0_0 rfl 0 rfl ?_
  refine g_callV (As := []) (rest := []) hF (fun l D cy => (ct_cut a r hcap w) l D cy) (Nat.le_of_ble_eq_true rfl) mV_X14_cut m_2183 (recv_ob obM_0) rfl rfl (Nat.le_of_ble_eq_true rfl) d_X14_read_0_1 (kV (fun s1 t1 z1 w1 => ?_)) (fun _ _ _ h => h.elim)
  refine g_aload_n hF d_X14_read_0_4 rfl 0 rfl ?_
  refine g_iconst hF (v := 0) d_X14_read_0_5 (by decide) ?_
  refine g_put (v := 0) hF 10 obM_0 (by decide) m_1875 rfl rfl rfl d_X14_read_0_6 ?_
  obtain ⟨L9, ⟨i9, u9⟩, h9⟩ := w1
  have b9 : ∀ (n9 : Nat) (s9 t9 : St) (z9 : List Nat), L9 n9 s9 t9 z9 → G SM r X s9 t9 z9 [(0, .ref (r 0))] [] 9 := by
    intro n9
    induction n9 using Nat.strongRecOn with
    | _ n9 ih9 =>
      intro s9 t9 z9  w9_
      have w9_ := h9 n9 s9 t9 z9  w9_
      refine g_aload_n hF d_X14_read_0_9 rfl 0 rfl ?_
      refine g_get (v := .ref (r 2)) hF 3 obM_0 (by decide) m_1868 rfl d_X14_read_0_10 ?_
      refine g_aload_n hF d_X14_read_0_13 rfl 0 rfl ?_
      refine g_get (v := .int (s9 0 10)) hF 10 obM_0 (by decide) m_1875 rfl d_X14_read_0_14 ?_
      have w2 := w9_.2
      refine g_iald hF arM_2 (s_in (Nat.le_of_ble_eq_true rfl) w9_.1.1 w9_.1.2) d_X14_read_0_17 ?_
      refine g_top (v := (s9 2 (s9 0 10).toNatClampNeg)) rfl ?_
      refine g_if_eq hF 46 d_X14_read_0_18 (by decide) rfl (fun c => ?_) (fun c => ?_)
      · have w3 := w2.1 c
        refine g_goto hF 53 d_X14_read_0_46 (by decide) ?_
        refine g_aload_n hF d_X14_read_0_53 rfl 0 rfl ?_
        refine g_cap (fun hc3 => ?_)
        refine g_callV (As := []) (rest := []) hF (fun l D cy => (ct_bodiless a r hc3 w3) l D cy) (Nat.le_of_ble_eq_true rfl) mV_X14_bodiless m_2632 (recv_ob obM_0) rfl rfl (Nat.le_of_ble_eq_true rfl) d_X14_read_0_54 (kV (fun s54 t54 z54 w5 => ?_)) (fun _ _ _ h => h.elim)
        refine g_aload_n hF d_X14_read_0_57 rfl 0 rfl ?_
        refine g_get (v := .int (s54 0 12)) hF 12 obM_0 (by decide) m_1877 rfl d_X14_read_0_58 ?_
        refine g_if_ne hF 66 d_X14_read_0_61 (by decide) rfl (fun c => ?_) (fun c => ?_)
        · have w6 := w5.1 c
          refine g_aload_n hF d_X14_read_0_66 rfl 0 rfl ?_
          refine g_aload_n hF d_X14_read_0_67 rfl 0 rfl ?_
          refine g_get (v := .int (s54 0 13)) hF 13 obM_0 (by decide) m_1878 rfl d_X14_read_0_68 ?_
          refine g_put (v := (s54 0 13)) hF 14 obM_0 (by decide) m_1879 rfl rfl rfl d_X14_read_0_71 ?_
          refine g_bipush hF (v := (-20)) d_X14_read_0_74 (by decide) ?_
          refine g_aload_n hF d_X14_read_0_76 rfl 0 rfl ?_
          refine g_get (v := .int (s54 0 12)) hF 12 obM_0 (by decide) m_1877 rfl d_X14_read_0_77 ?_
          refine g_isub hF d_X14_read_0_80 ?_
          exact g_iret hF rfl d_X14_read_0_81 ⟨(((-20) : Int32) - (s54 0 12)), rfl, w6⟩
        · have w7 := w5.2 c
          refine g_iconst hF (v := 0) d_X14_read_0_64 (by decide) ?_
          exact g_iret hF rfl d_X14_read_0_65 ⟨(0 : Int32), rfl, w7⟩
      · have w8 := w2.2 c
        refine g_aload_n hF d_X14_read_0_21 rfl 0 rfl ?_
        refine g_get (v := .ref (r 2)) hF 3 obM_0 (by decide) m_1868 rfl d_X14_read_0_22 ?_
        refine g_aload_n hF d_X14_read_0_25 rfl 0 rfl ?_
        refine g_get (v := .int (s9 0 10)) hF 10 obM_0 (by decide) m_1875 rfl d_X14_read_0_26 ?_
        have w9 := w8.2
        refine g_iald hF arM_2 (s_in (Nat.le_of_ble_eq_true rfl) w8.1.1 w8.1.2) d_X14_read_0_29 ?_
        refine g_top (v := (s9 2 (s9 0 10).toNatClampNeg)) rfl ?_
        refine g_iconst hF (v := 1) d_X14_read_0_30 (by decide) ?_
        refine g_icmp_ne (yv := 1) hF 39 d_X14_read_0_31 (by decide) rfl (by decide) (fun c => ?_) (fun c => ?_)
        · have w10 := w9.1 c
          refine g_aload_n hF d_X14_read_0_39 rfl 0 rfl ?_
          refine g_cap (fun hc10 => ?_)
          refine g_callV (As := []) (rest := []) hF (fun l D cy => (ct_item a r hc10 w10) l D cy) (Nat.le_of_ble_eq_true rfl) mV_X14_item m_2269 (recv_ob obM_0) rfl rfl (Nat.le_of_ble_eq_true rfl) d_X14_read_0_40 (kV (fun s40 t40 z40 w12 => ?_)) (fun s40x t40x z40x w40x => g_catch hF stopM { startPc := 9, endPc := 46, handlerPc := 49, catchType := 29 } rfl rfl (by decide) m_1798 ?_)
          · skip
            refine g_goto hF 9 d_X14_read_0_43 (by decide) ?_
            obtain ⟨m9, hm9, w9⟩ := w12
            exact ih9 m9 hm9 s40 t40 z40 w9
          · skip
            refine g_astore_n hF [(1, .ref (r 7)), (0, .ref (r 0))] d_X14_read_0_49 rfl hnn (by decide) rfl ?_
            refine g_bipush hF (v := (-21)) d_X14_read_0_50 (by decide) ?_
            exact g_iret hF rfl d_X14_read_0_52 ⟨((-21) : Int32), rfl, w40x⟩
        · have w13 := w9.2 c
          refine g_aload_n hF d_X14_read_0_34 rfl 0 rfl ?_
          refine g_cap (fun hc13 => ?_)
          refine g_callV (As := []) (rest := []) hF (fun l D cy => (ct_wrong a r hc13 w13) l D cy) (Nat.le_of_ble_eq_true rfl) mV_X14_wrong m_2261 (recv_ob obM_0) rfl rfl (Nat.le_of_ble_eq_true rfl) d_X14_read_0_35 (kX (fun s35 t35 z35 w15 => ?_)) (fun _ _ _ h => h.elim)
          refine g_athrow hF d_X14_read_0_38 (g_catch hF stopM { startPc := 9, endPc := 46, handlerPc := 49, catchType := 29 } rfl rfl (by decide) m_1798 ?_)
          refine g_astore_n hF [(1, .ref (r 7)), (0, .ref (r 0))] d_X14_read_0_49 rfl hnn (by decide) rfl ?_
          refine g_bipush hF (v := (-21)) d_X14_read_0_50 (by decide) ?_
          exact g_iret hF rfl d_X14_read_0_52 ⟨((-21) : Int32), rfl, w15⟩
  exact b9 i9 (upC s1 0 10 (0 : Int32)) t1 z1 u9
def wp_compile (a1 : Int32) (σ τ : St) (vs : List Nat) (Q : Int32 → St → St → List Nat → Prop) : Prop :=
  (a1.toInt < 0 → Q ((-14) : Int32) (upC (upC (upC σ 0 9 (σ 0 1)) 0 1 (0 : Int32)) 0 14 ((-1) : Int32)) τ vs) ∧ (0 ≤ a1.toInt → (3 < a1.toInt → Q ((-14) : Int32) (upC (upC (upC σ 0 9 (σ 0 1)) 0 1 (0 : Int32)) 0 14 ((-1) : Int32)) τ vs) ∧ (a1.toInt ≤ 3 → ((σ 0 35).toInt ≠ 100 → ((0 ≤ (σ 0 35).toInt ∧ (σ 0 35).toInt < 102) ∧ ((0 ≤ (σ 0 35).toInt ∧ (σ 0 35).toInt < 102) ∧ wp_read_0 (upC (upC (upC (upC (upC (upC (upC (upC (upC (upC (upC σ 0 9 (σ 0 1)) 0 1 (0 : Int32)) 0 14 ((-1) : Int32)) 22 (σ 0 35).toNatClampNeg (σ 0 36)) 24 (σ 0 35).toNatClampNeg (σ 0 39)) 0 37 (0 : Int32)) 0 12 (0 : Int32)) 0 15 (0 : Int32)) 0 53 (0 : Int32)) 0 54 (0 : Int32)) 0 49 (0 : Int32)) τ vs (fun v118 s118 t118 z118 => (0 ≤ v118.toInt → ((0 ≤ (s118 0 35).toInt ∧ (s118 0 35).toInt < 102) ∧ ((0 ≤ ((s118 0 35) + (1 : Int32)).toInt ∧ ((s118 0 35) + (1 : Int32)).toInt < 102) ∧ ((0 ≤ ((s118 0 35) + (1 : Int32)).toInt ∧ ((s118 0 35) + (1 : Int32)).toInt < 102) ∧ Q ((s118 0 35) + (1 : Int32)) (upC (upC (upC (upC s118 23 (s118 0 35).toNatClampNeg (s118 0 37)) 0 35 ((s118 0 35) + (1 : Int32))) 22 ((s118 0 35) + (1 : Int32)).toNatClampNeg (s118 0 36)) 24 ((s118 0 35) + (1 : Int32)).toNatClampNeg (s118 0 39)) t118 z118)))) ∧ (v118.toInt < 0 → ((0 ≤ (s118 0 35).toInt ∧ (s118 0 35).toInt < 102) ∧ Q v118 (upC (upC (upC (upC (upC s118 0 17 (σ 0 17)) 0 31 (σ 0 31)) 0 45 (σ 0 45)) 0 39 (σ 0 39)) 0 36 (s118 22 (s118 0 35).toNatClampNeg)) t118 z118)))))) ∧ ((σ 0 35).toInt = 100 → Q ((-14) : Int32) (upC (upC (upC σ 0 9 (σ 0 1)) 0 1 (0 : Int32)) 0 14 ((-1) : Int32)) τ vs)))
set_option maxHeartbeats 4000000 in
set_option maxRecDepth 100000 in
theorem ct_compile (a : Nat → Nat) (r : Nat → Nat) {a1 : Int32} {σ τ : St} {vs : List Nat} {Q : Int32 → St → St → List Nat → Prop} (hcap : vs.length ≤ CAP) (w : wp_compile a1 σ τ vs Q) (l : Launch) (D : va_G) (cy : Nat → ClassId) : Ct l D cy SM r (EM a) y_X14_compile (Cond.code y_X14_compile b_X14_compile 7 (some .int)) 1235 [.ref (r 0), .int a1] σ τ vs (QIs Q) QT0 := by
  unfold wp_compile at w
  refine Ct_of (EM_ok a) (by decide) (Nat.le_of_ble_eq_true rfl) hcap (fun X hnn hF => ?_)
  show G SM r X σ τ vs [(0, .ref (r 0)), (1, .int a1)] [] 0
  refine g_aload_n hF d_X14_compile_0 rfl 0 rfl ?_
  refine g_aload_n hF d_X14_compile_1 rfl 0 rfl ?_
  refine g_get (v := .int (σ 0 1)) hF 1 obM_0 (by decide) m_1866 rfl d_X14_compile_2 ?_
  refine g_put (v := (σ 0 1)) hF 9 obM_0 (by decide) m_1874 rfl rfl rfl d_X14_compile_5 ?_
  refine g_aload_n hF d_X14_compile_8 rfl 0 rfl ?_
  refine g_iconst hF (v := 0) d_X14_compile_9 (by decide) ?_
  refine g_put (v := 0) hF 1 obM_0 (by decide) m_1866 rfl rfl rfl d_X14_compile_10 ?_
  refine g_aload_n hF d_X14_compile_13 rfl 0 rfl ?_
  refine g_iconst hF (v := (-1)) d_X14_compile_14 (by decide) ?_
  refine g_put (v := (-1)) hF 14 obM_0 (by decide) m_1879 rfl rfl rfl d_X14_compile_15 ?_
  refine g_iload_n hF d_X14_compile_18 rfl 1 rfl ?_
  refine g_if_lt hF 36 d_X14_compile_19 (by decide) rfl (fun c => ?_) (fun c => ?_)
  · have w1 := w.1 c
    refine g_bipush hF (v := (-14)) d_X14_compile_36 (by decide) ?_
    exact g_iret hF rfl d_X14_compile_38 ⟨((-14) : Int32), rfl, w1⟩
  · have w2 := w.2 c
    refine g_iload_n hF d_X14_compile_22 rfl 1 rfl ?_
    refine g_iconst hF (v := 3) d_X14_compile_23 (by decide) ?_
    refine g_icmp_gt (yv := 3) hF 36 d_X14_compile_24 (by decide) rfl (by decide) (fun c => ?_) (fun c => ?_)
    · have w3 := w2.1 c
      refine g_bipush hF (v := (-14)) d_X14_compile_36 (by decide) ?_
      exact g_iret hF rfl d_X14_compile_38 ⟨((-14) : Int32), rfl, w3⟩
    · have w4 := w2.2 c
      refine g_aload_n hF d_X14_compile_27 rfl 0 rfl ?_
      refine g_get (v := .int (σ 0 35)) hF 35 obM_0 (by decide) m_1900 rfl d_X14_compile_28 ?_
      refine g_bipush hF (v := 100) d_X14_compile_31 (by decide) ?_
      refine g_icmp_ne (yv := 100) hF 39 d_X14_compile_33 (by decide) rfl (by decide) (fun c => ?_) (fun c => ?_)
      · have w5 := w4.1 c
        refine g_aload_n hF d_X14_compile_39 rfl 0 rfl ?_
        refine g_get (v := .int (σ 0 17)) hF 17 obM_0 (by decide) m_1882 rfl d_X14_compile_40 ?_
        refine g_istore_n hF [(2, .int (σ 0 17)), (0, .ref (r 0)), (1, .int a1)] d_X14_compile_43 rfl hnn (by decide) rfl ?_
        refine g_aload_n hF d_X14_compile_44 rfl 1 rfl ?_
        refine g_get (v := .int (σ 0 31)) hF 31 obM_0 (by decide) m_1896 rfl d_X14_compile_45 ?_
        refine g_istore_n hF [(3, .int (σ 0 31)), (2, .int (σ 0 17)), (0, .ref (r 0)), (1, .int a1)] d_X14_compile_48 rfl hnn (by decide) rfl ?_
        refine g_aload_n hF d_X14_compile_49 rfl 2 rfl ?_
        refine g_get (v := .int (σ 0 45)) hF 45 obM_0 (by decide) m_1910 rfl d_X14_compile_50 ?_
        refine g_istore hF [(4, .int (σ 0 45)), (3, .int (σ 0 31)), (2, .int (σ 0 17)), (0, .ref (r 0)), (1, .int a1)] d_X14_compile_53 hnn (by decide) rfl ?_
        refine g_aload_n hF d_X14_compile_55 rfl 3 rfl ?_
        refine g_get (v := .int (σ 0 39)) hF 39 obM_0 (by decide) m_1904 rfl d_X14_compile_56 ?_
        refine g_istore hF [(5, .int (σ 0 39)), (4, .int (σ 0 45)), (3, .int (σ 0 31)), (2, .int (σ 0 17)), (0, .ref (r 0)), (1, .int a1)] d_X14_compile_59 hnn (by decide) rfl ?_
        refine g_aload_n hF d_X14_compile_61 rfl 4 rfl ?_
        refine g_get (v := .ref (r 22)) hF 32 obM_0 (by decide) m_1897 rfl d_X14_compile_62 ?_
        refine g_aload_n hF d_X14_compile_65 rfl 4 rfl ?_
        refine g_get (v := .int (σ 0 35)) hF 35 obM_0 (by decide) m_1900 rfl d_X14_compile_66 ?_
        refine g_aload_n hF d_X14_compile_69 rfl 4 rfl ?_
        refine g_get (v := .int (σ 0 36)) hF 36 obM_0 (by decide) m_1901 rfl d_X14_compile_70 ?_
        have w6 := w5.2
        refine g_iast hF arM_22 (s_in (Nat.le_of_ble_eq_true rfl) w5.1.1 w5.1.2) d_X14_compile_73 ?_
        refine g_aload_n hF d_X14_compile_74 rfl 4 rfl ?_
        refine g_get (v := .ref (r 24)) hF 34 obM_0 (by decide) m_1899 rfl d_X14_compile_75 ?_
        refine g_aload_n hF d_X14_compile_78 rfl 4 rfl ?_
        refine g_get (v := .int (σ 0 35)) hF 35 obM_0 (by decide) m_1900 rfl d_X14_compile_79 ?_
        refine g_aload_n hF d_X14_compile_82 rfl 4 rfl ?_
        refine g_get (v := .int (σ 0 39)) hF 39 obM_0 (by decide) m_1904 rfl d_X14_compile_83 ?_
        have w7 := w6.2
        refine g_iast hF arM_24 (s_in (Nat.le_of_ble_eq_true rfl) w6.1.1 w6.1.2) d_X14_compile_86 ?_
        refine g_aload_n hF d_X14_compile_87 rfl 4 rfl ?_
        refine g_iconst hF (v := 0) d_X14_compile_88 (by decide) ?_
        refine g_put (v := 0) hF 37 obM_0 (by decide) m_1902 rfl rfl rfl d_X14_compile_89 ?_
        refine g_aload_n hF d_X14_compile_92 rfl 4 rfl ?_
        refine g_iconst hF (v := 0) d_X14_compile_93 (by decide) ?_
        refine g_put (v := 0) hF 12 obM_0 (by decide) m_1877 rfl rfl rfl d_X14_compile_94 ?_
        refine g_aload_n hF d_X14_compile_97 rfl 4 rfl ?_
        refine g_iconst hF (v := 0) d_X14_compile_98 (by decide) ?_
        refine g_put (v := 0) hF 15 obM_0 (by decide) m_1880 rfl rfl rfl d_X14_compile_99 ?_
        refine g_aload_n hF d_X14_compile_102 rfl 4 rfl ?_
        refine g_iconst hF (v := 0) d_X14_compile_103 (by decide) ?_
        refine g_put (v := 0) hF 53 obM_0 (by decide) m_1918 rfl rfl rfl d_X14_compile_104 ?_
        refine g_aload_n hF d_X14_compile_107 rfl 4 rfl ?_
        refine g_iconst hF (v := 0) d_X14_compile_108 (by decide) ?_
        refine g_put (v := 0) hF 54 obM_0 (by decide) m_1919 rfl rfl rfl d_X14_compile_109 ?_
        refine g_aload_n hF d_X14_compile_112 rfl 4 rfl ?_
        refine g_iconst hF (v := 0) d_X14_compile_113 (by decide) ?_
        refine g_put (v := 0) hF 49 obM_0 (by decide) m_1914 rfl rfl rfl d_X14_compile_114 ?_
        refine g_aload_n hF d_X14_compile_117 rfl 4 rfl ?_
        refine g_callVW (As := []) (rest := []) hF (fun l D cy => (ct_read_0 a r hcap w7) l D cy) (Nat.le_of_ble_eq_true rfl) mVW_X14_read_0 m_2179 (recv_ob obM_0) rfl rfl (Nat.le_of_ble_eq_true rfl) d_X14_compile_118 (kI (fun v118 s118 t118 z118 w8 => ?_))
        refine g_istore hF [(6, .int v118), (5, .int (σ 0 39)), (4, .int (σ 0 45)), (3, .int (σ 0 31)), (2, .int (σ 0 17)), (0, .ref (r 0)), (1, .int a1)] d_X14_compile_121 hnn (by decide) rfl ?_
        refine g_iload hF d_X14_compile_123 0 rfl ?_
        refine g_if_ge hF 166 d_X14_compile_125 (by decide) rfl (fun c => ?_) (fun c => ?_)
        · have w9 := w8.1 c
          refine g_aload_n hF d_X14_compile_166 rfl 5 rfl ?_
          refine g_get (v := .ref (r 23)) hF 33 obM_0 (by decide) m_1898 rfl d_X14_compile_167 ?_
          refine g_aload_n hF d_X14_compile_170 rfl 5 rfl ?_
          refine g_get (v := .int (s118 0 35)) hF 35 obM_0 (by decide) m_1900 rfl d_X14_compile_171 ?_
          refine g_aload_n hF d_X14_compile_174 rfl 5 rfl ?_
          refine g_get (v := .int (s118 0 37)) hF 37 obM_0 (by decide) m_1902 rfl d_X14_compile_175 ?_
          have w10 := w9.2
          refine g_iast hF arM_23 (s_in (Nat.le_of_ble_eq_true rfl) w9.1.1 w9.1.2) d_X14_compile_178 ?_
          refine g_aload_n hF d_X14_compile_179 rfl 5 rfl ?_
          refine g_dup hF d_X14_compile_180 rfl ?_
          refine g_get (v := .int (s118 0 35)) hF 35 obM_0 (by decide) m_1900 rfl d_X14_compile_181 ?_
          refine g_iconst hF (v := 1) d_X14_compile_184 (by decide) ?_
          refine g_iadd hF d_X14_compile_185 ?_
          refine g_put (v := ((s118 0 35) + (1 : Int32))) hF 35 obM_0 (by decide) m_1900 rfl rfl rfl d_X14_compile_186 ?_
          refine g_aload_n hF d_X14_compile_189 rfl 5 rfl ?_
          refine g_get (v := .ref (r 22)) hF 32 obM_0 (by decide) m_1897 rfl d_X14_compile_190 ?_
          refine g_aload_n hF d_X14_compile_193 rfl 5 rfl ?_
          refine g_get (v := .int ((s118 0 35) + (1 : Int32))) hF 35 obM_0 (by decide) m_1900 rfl d_X14_compile_194 ?_
          refine g_aload_n hF d_X14_compile_197 rfl 5 rfl ?_
          refine g_get (v := .int (s118 0 36)) hF 36 obM_0 (by decide) m_1901 rfl d_X14_compile_198 ?_
          have w11 := w10.2
          refine g_iast hF arM_22 (s_in (Nat.le_of_ble_eq_true rfl) w10.1.1 w10.1.2) d_X14_compile_201 ?_
          refine g_aload_n hF d_X14_compile_202 rfl 5 rfl ?_
          refine g_get (v := .ref (r 24)) hF 34 obM_0 (by decide) m_1899 rfl d_X14_compile_203 ?_
          refine g_aload_n hF d_X14_compile_206 rfl 5 rfl ?_
          refine g_get (v := .int ((s118 0 35) + (1 : Int32))) hF 35 obM_0 (by decide) m_1900 rfl d_X14_compile_207 ?_
          refine g_aload_n hF d_X14_compile_210 rfl 5 rfl ?_
          refine g_get (v := .int (s118 0 39)) hF 39 obM_0 (by decide) m_1904 rfl d_X14_compile_211 ?_
          have w12 := w11.2
          refine g_iast hF arM_24 (s_in (Nat.le_of_ble_eq_true rfl) w11.1.1 w11.1.2) d_X14_compile_214 ?_
          refine g_aload_n hF d_X14_compile_215 rfl 5 rfl ?_
          refine g_get (v := .int ((s118 0 35) + (1 : Int32))) hF 35 obM_0 (by decide) m_1900 rfl d_X14_compile_216 ?_
          exact g_iret hF rfl d_X14_compile_219 ⟨((s118 0 35) + (1 : Int32)), rfl, w12⟩
        · have w13 := w8.2 c
          refine g_aload_n hF d_X14_compile_128 rfl 5 rfl ?_
          refine g_iload_n hF d_X14_compile_129 rfl 4 rfl ?_
          refine g_put (v := (σ 0 17)) hF 17 obM_0 (by decide) m_1882 rfl rfl rfl d_X14_compile_130 ?_
          refine g_aload_n hF d_X14_compile_133 rfl 5 rfl ?_
          refine g_iload_n hF d_X14_compile_134 rfl 3 rfl ?_
          refine g_put (v := (σ 0 31)) hF 31 obM_0 (by decide) m_1896 rfl rfl rfl d_X14_compile_135 ?_
          refine g_aload_n hF d_X14_compile_138 rfl 5 rfl ?_
          refine g_iload hF d_X14_compile_139 2 rfl ?_
          refine g_put (v := (σ 0 45)) hF 45 obM_0 (by decide) m_1910 rfl rfl rfl d_X14_compile_141 ?_
          refine g_aload_n hF d_X14_compile_144 rfl 5 rfl ?_
          refine g_iload hF d_X14_compile_145 1 rfl ?_
          refine g_put (v := (σ 0 39)) hF 39 obM_0 (by decide) m_1904 rfl rfl rfl d_X14_compile_147 ?_
          refine g_aload_n hF d_X14_compile_150 rfl 5 rfl ?_
          refine g_aload_n hF d_X14_compile_151 rfl 5 rfl ?_
          refine g_get (v := .ref (r 22)) hF 32 obM_0 (by decide) m_1897 rfl d_X14_compile_152 ?_
          refine g_aload_n hF d_X14_compile_155 rfl 5 rfl ?_
          refine g_get (v := .int (s118 0 35)) hF 35 obM_0 (by decide) m_1900 rfl d_X14_compile_156 ?_
          have w14 := w13.2
          refine g_iald hF arM_22 (s_in (Nat.le_of_ble_eq_true rfl) w13.1.1 w13.1.2) d_X14_compile_159 ?_
          refine g_top (v := (s118 22 (s118 0 35).toNatClampNeg)) rfl ?_
          refine g_put (v := (s118 22 (s118 0 35).toNatClampNeg)) hF 36 obM_0 (by decide) m_1901 rfl rfl rfl d_X14_compile_160 ?_
          refine g_iload hF d_X14_compile_163 0 rfl ?_
          exact g_iret hF rfl d_X14_compile_165 ⟨v118, rfl, w14⟩
      · have w15 := w4.2 c
        refine g_bipush hF (v := (-14)) d_X14_compile_36 (by decide) ?_
        exact g_iret hF rfl d_X14_compile_38 ⟨((-14) : Int32), rfl, w15⟩
end

section
/-! numbers and stores -/
theorem ad {x y : Int32} (h0 : -2147483648 ≤ x.toInt + y.toInt) (h1 : x.toInt + y.toInt < 2147483648) : (x + y).toInt = x.toInt + y.toInt := by
  obtain ⟨k, e⟩ := s_add x y
  have := s_rng (x + y)
  omega
theorem sb {x y : Int32} (h0 : -2147483648 ≤ x.toInt - y.toInt) (h1 : x.toInt - y.toInt < 2147483648) : (x - y).toInt = x.toInt - y.toInt := by
  obtain ⟨k, e⟩ := s_sub x y
  have := s_rng (x - y)
  omega
theorem adc {x y : Int32} {n : Int} (hy : y.toInt = n) (h0 : -2147483648 ≤ x.toInt + n) (h1 : x.toInt + n < 2147483648) : (x + y).toInt = x.toInt + n := by
  rw [ad (by omega) (by omega), hy]
theorem ad1 {x : Int32} (h : x.toInt < 2147483647) : (x + 1).toInt = x.toInt + 1 := by
  have h2 := s_rng x
  exact adc (by decide) (by omega) (by omega)
theorem sb1 {x : Int32} (h : -2147483648 < x.toInt) : (x - 1).toInt = x.toInt - 1 := by
  have h2 := s_rng x
  have e : (1 : Int32).toInt = 1 := by decide
  rw [sb (by omega) (by omega), e]
theorem dc1 {x : Int32} (h : -2147483648 < x.toInt) : (x + (-1)).toInt = x.toInt - 1 := by
  have h2 := s_rng x
  exact adc (n := -1) (by decide) (by omega) (by omega)
theorem nt {x : Int32} (h : 0 ≤ x.toInt) : (x.toNatClampNeg : Int) = x.toInt := Int.toNat_of_nonneg h
theorem nt' {x : Int32} : x.toNatClampNeg = x.toInt.toNat := rfl
theorem ieq {x y : Int32} (h : x.toInt = y.toInt) : x = y := Int32.toInt_inj.mp h
/-- a store after a write, by places -/
theorem rdC (σ : St) (p k q j : Nat) (v : Int32) : upC σ p k v q j = if q = p then (if j = k then v else σ p j) else σ q j := by
  unfold upC upF
  by_cases h : q = p
  · rw [if_pos h, if_pos h]
  · rw [if_neg h, if_neg h]
theorem rdA (σ : St) (p k j : Nat) (v : Int32) : upC σ p k v p j = if j = k then v else σ p j := by rw [rdC, if_pos rfl]
theorem rdA_eq {σ : St} {p k j : Nat} {v : Int32} (h : j = k) : upC σ p k v p j = v := by rw [rdA, if_pos h]
theorem rdA_ne {σ : St} {p k j : Nat} {v : Int32} (h : j ≠ k) : upC σ p k v p j = σ p j := by rw [rdA, if_neg h]
end

section
/-! the tokenizer -/
def lookV (σ : St) (k : Int32) : Int32 := if k.toInt < (σ 0 9).toInt then ((σ 1) k.toNatClampNeg &&& 255) else -1
theorem sp_look {k : Int32} {σ τ : St} {vs : List Nat} {Q : Int32 → Prop} (h0 : 0 ≤ k.toInt) (hs : (σ 0 9).toInt ≤ 16000) (h : Q (lookV σ k)) : wp_look k σ τ vs Q := by
  unfold wp_look
  refine ⟨fun c => ?_, fun c => ⟨⟨h0, by omega⟩, ?_⟩⟩
  · have e : lookV σ k = -1 := if_neg (by omega)
    rw [e] at h; exact h
  · have e : lookV σ k = ((σ 1) k.toNatClampNeg &&& 255) := if_pos c
    rw [e] at h; exact h
theorem look_lt {σ : St} {k : Int32} (h : lookV σ k ≠ -1) : k.toInt < (σ 0 9).toInt := by
  unfold lookV at h
  by_cases c : k.toInt < (σ 0 9).toInt
  · exact c
  · rw [if_neg c] at h; exact absurd rfl h
theorem look_lt' {σ : St} {k : Int32} (h : (lookV σ k).toInt ≠ -1) : k.toInt < (σ 0 9).toInt := look_lt (fun e => h (by rw [e]; decide))
def bI (p : Prop) [Decidable p] : Int32 := if p then 1 else 0
theorem bI_ne {p : Prop} [Decidable p] (h : (bI p).toInt ≠ 0) : p := by
  unfold bI at h
  by_cases c : p
  · exact c
  · rw [if_neg c] at h; exact absurd rfl h
theorem bI_eq {p : Prop} [Decidable p] (h : (bI p).toInt = 0) : ¬ p := fun c => by
  unfold bI at h
  rw [if_pos c] at h
  exact absurd h (by decide)
theorem bI_t {p : Prop} [Decidable p] (h : p) : bI p = 1 := if_pos h
theorem bI_f {p : Prop} [Decidable p] (h : ¬ p) : bI p = 0 := if_neg h
abbrev isLP (c : Int32) : Prop := (97 ≤ c.toInt ∧ c.toInt ≤ 122) ∨ (65 ≤ c.toInt ∧ c.toInt ≤ 90) ∨ c.toInt = 95
abbrev isDP (c : Int32) : Prop := 48 ≤ c.toInt ∧ c.toInt ≤ 57
abbrev isAP (c : Int32) : Prop := c.toInt = 9 ∨ c.toInt = 10 ∨ c.toInt = 13 ∨ (32 ≤ c.toInt ∧ c.toInt ≤ 126)
abbrev isBP (c : Int32) : Prop := c.toInt = 9 ∨ c.toInt = 10 ∨ c.toInt = 13 ∨ c.toInt = 32
theorem sp_isLetter {c : Int32} {σ τ : St} {vs : List Nat} {Q : Int32 → Prop} (h : Q (bI (isLP c))) : wp_isLetter c σ τ vs Q := by
  have t : isLP c → Q 1 := fun q => by rw [bI_t q] at h; exact h
  have f : ¬ isLP c → Q 0 := fun q => by rw [bI_f q] at h; exact h
  unfold wp_isLetter
  refine ⟨_, id, ?_⟩
  refine ⟨fun q => ⟨_, id, fun _ => ⟨fun _ => f (by omega), fun _ => t (by omega)⟩, fun _ => ⟨fun _ => t (by omega), fun _ => ⟨fun _ => f (by omega), fun _ => t (by omega)⟩⟩⟩, fun q => ⟨fun _ => t (by omega), fun _ => ⟨_, id, fun _ => ⟨fun _ => f (by omega), fun _ => t (by omega)⟩, fun _ => ⟨fun _ => t (by omega), fun _ => ⟨fun _ => f (by omega), fun _ => t (by omega)⟩⟩⟩⟩⟩
theorem sp_isDigit {c : Int32} {σ τ : St} {vs : List Nat} {Q : Int32 → Prop} (h : Q (bI (isDP c))) : wp_isDigit c σ τ vs Q := by
  have t : isDP c → Q 1 := fun q => by rw [bI_t q] at h; exact h
  have f : ¬ isDP c → Q 0 := fun q => by rw [bI_f q] at h; exact h
  unfold wp_isDigit
  exact ⟨fun _ => f (by omega), fun _ => ⟨fun _ => f (by omega), fun _ => t (by omega)⟩⟩
theorem sp_isAllowed {c : Int32} {σ τ : St} {vs : List Nat} {Q : Int32 → Prop} (h : Q (bI (isAP c))) : wp_isAllowed c σ τ vs Q := by
  have t : isAP c → Q 1 := fun q => by rw [bI_t q] at h; exact h
  have f : ¬ isAP c → Q 0 := fun q => by rw [bI_f q] at h; exact h
  unfold wp_isAllowed
  exact ⟨fun _ => t (by omega), fun _ => ⟨fun _ => t (by omega), fun _ => ⟨fun _ => t (by omega), fun _ => ⟨fun _ => f (by omega), fun _ => ⟨fun _ => f (by omega), fun _ => t (by omega)⟩⟩⟩⟩⟩
theorem sp_isBlank {c : Int32} {σ τ : St} {vs : List Nat} {Q : Int32 → Prop} (h : Q (bI (isBP c))) : wp_isBlank c σ τ vs Q := by
  have t : isBP c → Q 1 := fun q => by rw [bI_t q] at h; exact h
  have f : ¬ isBP c → Q 0 := fun q => by rw [bI_f q] at h; exact h
  unfold wp_isBlank
  exact ⟨fun _ => t (by omega), fun _ => ⟨fun _ => t (by omega), fun _ => ⟨fun _ => t (by omega), fun _ => ⟨fun _ => f (by omega), fun _ => t (by omega)⟩⟩⟩⟩
end

section
/-! the tokenizer: the table of tokens -/
def Kp (fs : List (Nat × Nat)) (cs : List Nat) (a b : St) : Prop := ∀ c k, fs.contains (c, k) = false → cs.contains c = false → b c k = a c k
theorem kp_rf {fs : List (Nat × Nat)} {cs : List Nat} {a : St} : Kp fs cs a a := fun _ _ _ _ => rfl
theorem kp_tr {fs : List (Nat × Nat)} {cs : List Nat} {a b c : St} (h : Kp fs cs a b) (g : Kp fs cs b c) : Kp fs cs a c := fun x k h1 h2 => (g x k h1 h2).trans (h x k h1 h2)
theorem kp_f {fs : List (Nat × Nat)} {cs : List Nat} {a b : St} {p k : Nat} {v : Int32} (h : Kp fs cs a b) (hm : fs.contains (p, k) = true) : Kp fs cs a (upC b p k v) := fun c j h1 h2 => by
  rw [rdC]
  by_cases e1 : c = p
  · subst e1
    rw [if_pos rfl]
    by_cases e2 : j = k
    · subst e2; rw [hm] at h1; cases h1
    · rw [if_neg e2]; exact h c j h1 h2
  · rw [if_neg e1]; exact h c j h1 h2
theorem kp_a {fs : List (Nat × Nat)} {cs : List Nat} {a b : St} {p k : Nat} {v : Int32} (h : Kp fs cs a b) (hm : cs.contains p = true) : Kp fs cs a (upC b p k v) := fun c j h1 h2 => by
  rw [rdC]
  by_cases e1 : c = p
  · subst e1; rw [hm] at h2; cases h2
  · rw [if_neg e1]; exact h c j h1 h2
theorem kp_sub {fs fs' : List (Nat × Nat)} {cs cs' : List Nat} {a b : St} (h : Kp fs cs a b) (s1 : fs.all (fun x => fs'.contains x || cs'.contains x.1) = true) (s2 : cs.all (fun x => cs'.contains x) = true) : Kp fs' cs' a b := fun c j h1 h2 => by
  refine h c j ?_ ?_
  · cases q : fs.contains (c, j) with
    | false => rfl
    | true =>
      have h3 := List.all_eq_true.mp s1 (c, j) (List.contains_iff_mem.mp q)
      simp only [h1, h2, Bool.or_self] at h3
      cases h3
  · cases q : cs.contains c with
    | false => rfl
    | true =>
      have h3 := List.all_eq_true.mp s2 c (List.contains_iff_mem.mp q)
      rw [h2] at h3
      cases h3
abbrev KT (a b : St) : Prop := Kp [(0, 8)] [2, 3, 4, 5, 6] a b
def tkn (σ : St) (a b c d e : Int32) : St := upC (upC (upC (upC (upC (upC σ 2 (σ 0 8).toNatClampNeg a) 3 (σ 0 8).toNatClampNeg b) 4 (σ 0 8).toNatClampNeg c) 5 (σ 0 8).toNatClampNeg d) 6 (σ 0 8).toNatClampNeg e) 0 8 ((σ 0 8) + 1)
section TKN
variable {σ : St} {a b c d e : Int32}
theorem tkn_n : ((tkn σ a b c d e) 0 8) = (σ 0 8) + 1 := by unfold tkn; rw [rdA_eq rfl]
theorem tkn_kinds (j : Nat) : tkn σ a b c d e 2 j = if j = (σ 0 8).toNatClampNeg then a else (σ 2) j := by
  unfold tkn; simp only [rdC, Nat.reduceEqDiff, if_true, if_false]
theorem tkn_froms (j : Nat) : tkn σ a b c d e 3 j = if j = (σ 0 8).toNatClampNeg then b else (σ 3) j := by
  unfold tkn; simp only [rdC, Nat.reduceEqDiff, if_true, if_false]
theorem tkn_tos (j : Nat) : tkn σ a b c d e 4 j = if j = (σ 0 8).toNatClampNeg then c else (σ 4) j := by
  unfold tkn; simp only [rdC, Nat.reduceEqDiff, if_true, if_false]
theorem tkn_values (j : Nat) : tkn σ a b c d e 6 j = if j = (σ 0 8).toNatClampNeg then e else (σ 6) j := by
  unfold tkn; simp only [rdC, Nat.reduceEqDiff, if_true, if_false]
theorem tkn_size : ((tkn σ a b c d e) 0 9) = (σ 0 9) := rfl
theorem tkn_kp : KT σ (tkn σ a b c d e) := kp_f (kp_a (kp_a (kp_a (kp_a (kp_a kp_rf rfl) rfl) rfl) rfl) rfl) rfl
theorem sp_token {τ : St} {vs : List Nat} {Q : St → St → List Nat → Prop} (h0 : 0 ≤ (σ 0 8).toInt) (h1 : (σ 0 8).toInt < 16002) (h : Q (tkn σ a b c d e) τ vs) : wp_token a b c d e σ τ vs Q := by
  unfold wp_token
  exact ⟨⟨h0, h1⟩, ⟨h0, h1⟩, ⟨h0, h1⟩, ⟨h0, h1⟩, ⟨h0, h1⟩, h⟩
end TKN
/-- tokens so far, up to place k -/
def TI (σ : St) (k : Int) : Prop := 0 ≤ (σ 0 8).toInt ∧ (σ 0 8).toInt ≤ k ∧ k ≤ (σ 0 9).toInt ∧ (σ 0 9).toInt ≤ 16000 ∧ AllIn 0 16000 (σ 3) ∧ AllIn 0 16000 (σ 4) ∧
  (∀ j : Nat, (j : Int) < (σ 0 8).toInt → 2 ≤ ((σ 2) j).toInt ∧ ((σ 3) j).toInt + 1 ≤ ((σ 4) j).toInt ∧ ((σ 4) j).toInt ≤ k ∧ (((σ 2) j).toInt = 4 → 0 ≤ ((σ 6) j).toInt ∧ ((σ 6) j).toInt ≤ 200 ∧ ((σ 3) j).toInt + ((σ 6) j).toInt + 2 ≤ ((σ 4) j).toInt)) ∧
  (∀ j : Nat, (j : Int) + 1 < (σ 0 8).toInt → ((σ 4) j).toInt ≤ ((σ 3) (j + 1)).toInt)
/-- the table whole: the last one is the end, or none -/
def TK (σ : St) : Prop := 1 ≤ (σ 0 8).toInt ∧ (σ 0 8).toInt ≤ 16001 ∧ 0 ≤ (σ 0 9).toInt ∧ (σ 0 9).toInt ≤ 16000 ∧ AllIn 0 16000 (σ 3) ∧ AllIn 0 16000 (σ 4) ∧ (∀ j : Nat, (j : Int) < (σ 0 8).toInt → ((σ 3) j).toInt ≤ (σ 0 9).toInt ∧ 0 ≤ ((σ 2) j).toInt) ∧
  (∀ j : Nat, (j : Int) < (σ 0 8).toInt → 2 ≤ ((σ 2) j).toInt → (j : Int) + 1 < (σ 0 8).toInt ∧ ((σ 3) j).toInt + 1 ≤ ((σ 4) j).toInt ∧ ((σ 4) j).toInt ≤ ((σ 3) (j + 1)).toInt ∧ (((σ 2) j).toInt = 4 → 0 ≤ ((σ 6) j).toInt ∧ ((σ 6) j).toInt ≤ 200 ∧ ((σ 3) j).toInt + ((σ 6) j).toInt + 2 ≤ ((σ 4) j).toInt))
theorem allin_if {lo hi : Int} {f g : Nat → Int32} {n : Nat} {v : Int32} (h : AllIn lo hi f) (e : ∀ j, g j = if j = n then v else f j) (hv : lo ≤ v.toInt ∧ v.toInt ≤ hi) : AllIn lo hi g := fun j => by
  rw [e]
  by_cases q : j = n
  · rw [if_pos q]; exact hv
  · rw [if_neg q]; exact h j
theorem TI_add {σ : St} {k : Int} {a b c d e : Int32} (h : TI σ k) (ha : 2 ≤ a.toInt) (hb : k ≤ b.toInt) (hc : b.toInt + 1 ≤ c.toInt) (hs : c.toInt ≤ (σ 0 9).toInt) (he : a.toInt = 4 → 0 ≤ e.toInt ∧ e.toInt ≤ 200 ∧ b.toInt + e.toInt + 2 ≤ c.toInt) : TI (tkn σ a b c d e) c.toInt := by
  obtain ⟨h1, h2, h3, h4, h5, h6, h7, h8⟩ := h
  have e1 : ((tkn σ a b c d e) 0 8).toInt = (σ 0 8).toInt + 1 := by rw [tkn_n, ad1 (by omega)]
  have en := nt h1
  refine ⟨by omega, by omega, by rw [tkn_size]; exact hs, by rw [tkn_size]; exact h4, allin_if h5 tkn_froms (by omega), allin_if h6 tkn_tos (by omega), fun j hj => ?_, fun j hj => ?_⟩
  · rw [tkn_kinds, tkn_froms, tkn_tos, tkn_values]
    by_cases q : j = (σ 0 8).toNatClampNeg
    · simp only [if_pos q]
      exact ⟨ha, hc, Int.le_refl _, he⟩
    · simp only [if_neg q]
      obtain ⟨g1, g2, g3, g4⟩ := h7 j (by omega)
      exact ⟨g1, g2, by omega, g4⟩
  · rw [tkn_froms, tkn_tos]
    rw [if_neg (show ¬ j = (σ 0 8).toNatClampNeg by omega)]
    by_cases q : j + 1 = (σ 0 8).toNatClampNeg
    · rw [if_pos q]
      have := (h7 j (by omega)).2.2.1
      omega
    · rw [if_neg q]
      exact h8 j (by omega)
theorem TI_end {σ : St} {k : Int} {a b c d e : Int32} (h : TI σ k) (ha : 0 ≤ a.toInt ∧ a.toInt < 2) (hb : k ≤ b.toInt) (hs : b.toInt ≤ (σ 0 9).toInt) (hc : 0 ≤ c.toInt ∧ c.toInt ≤ 16000) : TK (tkn σ a b c d e) := by
  obtain ⟨h1, h2, h3, h4, h5, h6, h7, h8⟩ := h
  have e1 : ((tkn σ a b c d e) 0 8).toInt = (σ 0 8).toInt + 1 := by rw [tkn_n, ad1 (by omega)]
  have en := nt h1
  refine ⟨by omega, by omega, by rw [tkn_size]; omega, by rw [tkn_size]; exact h4, allin_if h5 tkn_froms (by omega), allin_if h6 tkn_tos hc, fun j hj => ?_, fun j hj h2k => ?_⟩
  · rw [tkn_froms, tkn_size, tkn_kinds]
    by_cases q : j = (σ 0 8).toNatClampNeg
    · rw [if_pos q, if_pos q]; exact ⟨hs, ha.1⟩
    · rw [if_neg q, if_neg q]
      have := h7 j (by omega)
      omega
  · rw [tkn_kinds] at h2k
    rw [tkn_kinds, tkn_froms, tkn_tos, tkn_values, tkn_froms]
    by_cases q : j = (σ 0 8).toNatClampNeg
    · rw [if_pos q] at h2k
      omega
    · simp only [if_neg q]
      obtain ⟨g1, g2, g3, g4⟩ := h7 j (by omega)
      refine ⟨by omega, g2, ?_, g4⟩
      by_cases q2 : j + 1 = (σ 0 8).toNatClampNeg
      · rw [if_pos q2]; omega
      · rw [if_neg q2]; exact h8 j (by omega)
/-- what is no token was put behind the others -/
def BD (σ s : St) : Prop := TK s ∧ (s 0 8).toInt = (σ 0 8).toInt + 1 ∧ ((s 2) (σ 0 8).toNatClampNeg).toInt = 1 ∧ KT σ s
/-- one more token -/
def GD (σ s : St) (k r : Int) : Prop := TI s r ∧ k < r ∧ (s 0 8).toInt = (σ 0 8).toInt + 1 ∧ 2 ≤ ((s 2) (σ 0 8).toNatClampNeg).toInt ∧ KT σ s
section TOK
variable {σ τ : St} {vs : List Nat} {k : Int32}
theorem sp_bad {p : Int32} {k : Int} {Q : Int32 → St → St → List Nat → Prop} (hT : TI σ k) (h1 : k ≤ p.toInt) (h2 : p.toInt ≤ (σ 0 9).toInt) (h : ∀ s, BD σ s → Q p s τ vs) : wp_bad p σ τ vs Q := by
  have hT9 := hT
  obtain ⟨g1, g2, g3, g4, -⟩ := hT9
  unfold wp_bad
  refine sp_token g1 (by omega) (h _ ⟨TI_end hT (by decide) h1 h2 (by omega), by rw [tkn_n, ad1 (by omega)], ?_, tkn_kp⟩)
  rw [tkn_kinds, if_pos rfl]
  decide
theorem GD_of {a b c d e : Int32} {k : Int} (h : TI σ k) (ha : 2 ≤ a.toInt) (hb : k = b.toInt) (hc : b.toInt + 1 ≤ c.toInt) (hs : c.toInt ≤ (σ 0 9).toInt) (he : a.toInt = 4 → 0 ≤ e.toInt ∧ e.toInt ≤ 200 ∧ b.toInt + e.toInt + 2 ≤ c.toInt) : GD σ (tkn σ a b c d e) k c.toInt := by
  have hT := h
  obtain ⟨g1, g2, g3, g4, -⟩ := hT
  refine ⟨TI_add h ha (by omega) hc hs he, by omega, by rw [tkn_n, ad1 (by omega)], ?_, tkn_kp⟩
  rw [tkn_kinds, if_pos rfl]
  exact ha
theorem sp_lineEnd {Q : Int32 → St → St → List Nat → Prop} (hT : TI σ k.toInt) (h0 : 0 ≤ k.toInt) (hk : k.toInt < (σ 0 9).toInt) (hc : (lookV σ k).toInt = 47) (h : ∀ r, k.toInt < r.toInt → r.toInt ≤ (σ 0 9).toInt → Q r σ τ vs) (hb : ∀ r s, BD σ s → Q r s τ vs) : wp_lineEnd k σ τ vs Q := by
  have hs : (σ 0 9).toInt ≤ 16000 := hT.2.2.2.1
  unfold wp_lineEnd
  refine ⟨fun n x => (n : Int) = (σ 0 9).toInt - x.toInt ∧ k.toInt ≤ x.toInt ∧ x.toInt ≤ (σ 0 9).toInt, ⟨((σ 0 9).toInt - k.toInt).toNat, by omega, Int.le_refl _, by omega⟩, fun n x ⟨hn, h1, h2⟩ => ⟨fun c => h x (by omega) h2, fun c => sp_look (by omega) hs ⟨fun c2 => h x ?_ h2, fun c2 => sp_look (by omega) hs (sp_isAllowed ⟨fun c3 => ⟨n - 1, by omega, ?_, ?_, ?_⟩, fun c3 => sp_bad hT h1 h2 (fun s hs => hb _ s hs)⟩)⟩⟩⟩
  · by_cases q : x.toInt = k.toInt
    · rw [ieq q, hc] at c2
      omega
    · omega
  · have e := ad1 (x := x) (by omega)
    omega
  · have e := ad1 (x := x) (by omega)
    omega
  · have e := ad1 (x := x) (by omega)
    omega
theorem sp_remarkEnd {l : Int32} {Q : Int32 → St → St → List Nat → Prop} (hT : TI σ k.toInt) (h0 : 0 ≤ k.toInt) (hk : k.toInt + 1 < (σ 0 9).toInt) (h : ∀ r, k.toInt < r.toInt → r.toInt ≤ (σ 0 9).toInt → Q r σ τ vs) (hb : ∀ r s, BD σ s → Q r s τ vs) : wp_remarkEnd k l σ τ vs Q := by
  have hs : (σ 0 9).toInt ≤ 16000 := hT.2.2.2.1
  have e2 : (k + (2 : Int32)).toInt = k.toInt + 2 := adc (by decide) (by omega) (by omega)
  unfold wp_remarkEnd
  refine ⟨fun n x => (n : Int) = (σ 0 9).toInt - x.toInt ∧ k.toInt + 2 ≤ x.toInt ∧ x.toInt ≤ (σ 0 9).toInt, ⟨((σ 0 9).toInt - k.toInt - 2).toNat, by omega, by omega, by omega⟩, fun n x ⟨hn, h1, h2⟩ => ?_⟩
  refine ⟨(σ 0 9).toInt ≤ x.toInt ∨ (x.toInt + 1 < (σ 0 9).toInt), fun hj => ⟨fun c => sp_bad hT (by omega) (by omega) (fun s hs => hb _ s hs), fun c => h _ ?_ ?_⟩, fun c => Or.inl c, fun c => sp_look (by omega) hs ?_⟩
  · have e := adc (x := x) (y := (2 : Int32)) (n := 2) (by decide) (by omega) (by omega)
    omega
  · have e := adc (x := x) (y := (2 : Int32)) (n := 2) (by decide) (by omega) (by omega)
    omega
  · have e1 := ad1 (x := x) (by omega)
    refine ⟨True, fun _ => sp_look (by omega) hs (sp_isAllowed ⟨fun c3 => ⟨n - 1, by omega, by omega, by omega, by omega⟩, fun c3 => sp_bad hT (by omega) h2 (fun s hs => hb _ s hs)⟩), fun _ => trivial, fun _ => sp_look (by omega) hs ⟨fun c4 => Or.inr ?_, fun _ => trivial⟩⟩
    have := look_lt' (σ := σ) (k := x + 1) (by omega)
    omega
end TOK
end

section
/-! the tokenizer: words, numbers, strings, signs, the whole cut -/
theorem SN_le {j : Nat} (h : j < 3) : 2 ≤ SN j ∧ SN j ≤ 200 := by
  rcases j with _ | _ | _ | j
  · decide
  · decide
  · decide
  · omega
theorem sf_last {j : Nat} (h : j < 3) : (chI (SF j (SN j - 1))).toInt = 32 := by
  rcases j with _ | _ | _ | j
  · decide +kernel
  · decide +kernel
  · decide +kernel
  · omega
section TOK3
variable {σ τ : St} {vs : List Nat} {k : Int32}
theorem sp_among {f t : Int32} {j : Nat} {Q : Int32 → Prop} (hj : j < 3) (h0 : 0 ≤ f.toInt) (h1 : f.toInt ≤ t.toInt) (h2 : t.toInt ≤ 16000) (h : ∀ r : Int32, -1 ≤ r.toInt → r.toInt ≤ 200 → Q r) : wp_among f t j σ τ vs Q := by
  obtain ⟨g1, g2⟩ := SN_le hj
  have eN : (nI (SN j)).toInt = SN j := nI_toInt (SN_lt hj)
  have e1 : (t - f).toInt = t.toInt - f.toInt := sb (by omega) (by omega)
  have e01 : ((1 : Int32)).toInt = 1 := by decide
  have e00 : ((0 : Int32)).toInt = 0 := by decide
  unfold wp_among
  refine ⟨fun n x4 x5 => (n : Int) = SN j - x5.toInt ∧ 0 ≤ x4.toInt ∧ x4.toInt ≤ x5.toInt ∧ 1 ≤ x5.toInt ∧ x5.toInt ≤ SN j, ⟨SN j - 1, by omega, by omega, by omega, by omega, by omega⟩, fun n x4 x5 ⟨q1, q2, q3, q4, q5⟩ => ⟨fun _ => h _ (by decide) (by decide), fun c => ?_⟩⟩
  rw [eN] at c
  refine ⟨fun m e => (m : Int) = SN j - e.toInt ∧ x5.toInt ≤ e.toInt ∧ e.toInt < SN j, ⟨(SN j - x5.toInt).toNat, by omega, Int.le_refl _, c⟩, fun m e ⟨p1, p2, p3⟩ => ⟨⟨by omega, p3⟩, fun c32 => ?_, fun c32 => ⟨m - 1, by omega, ?_⟩⟩⟩
  · have e2 : (e - x5).toInt = e.toInt - x5.toInt := sb (by omega) (by omega)
    refine ⟨fun y => y.toInt ≠ 0 → (e - x5).toInt = (t - f).toInt, fun y0 hz hy => ?_, fun _ q => absurd rfl q, fun q _ => q⟩
    refine ⟨fun n7 x7 x8 => (n7 : Int) = ((t.toInt - f.toInt) - x8.toInt).toNat ∧ 0 ≤ x8.toInt ∧ (x7.toInt ≠ 0 → (e - x5).toInt = (t - f).toInt), ⟨_, rfl, by decide, hy⟩, fun n7 x7 x8 hz7 ⟨r1, r2, r3⟩ => ?_⟩
    refine ⟨_, id, ?_⟩
    have hex : (x7.toInt = 0 → ∃ m_1, m_1 < n ∧ ((m_1 : Int) = SN j - (e + (1 : Int32)).toInt ∧ 0 ≤ (x4 + 1).toInt ∧ (x4 + 1).toInt ≤ (e + (1 : Int32)).toInt ∧ 1 ≤ (e + (1 : Int32)).toInt ∧ (e + (1 : Int32)).toInt ≤ SN j)) ∧ (x7.toInt ≠ 0 → Q x4) := by
      have e3 := ad1 (x := e) (by omega)
      have e4 := ad1 (x := x4) (by omega)
      exact ⟨fun _ => ⟨(SN j - e.toInt - 1).toNat, by omega, by omega, by omega, by omega, by omega, by omega⟩, fun _ => h _ (by omega) (by omega)⟩
    refine ⟨fun _ => hex, fun c7 => ⟨fun _ => hex, fun c8 => ?_⟩⟩
    clear hex
    have r4 := r3 c7
    have e5 : (f + x8).toInt = f.toInt + x8.toInt := ad (by omega) (by omega)
    have e6 : (x5 + x8).toInt = x5.toInt + x8.toInt := ad (by omega) (by omega)
    have e7 := ad1 (x := x8) (by omega)
    refine ⟨⟨by omega, by omega⟩, ⟨by omega, by omega⟩, fun y => y.toInt ≠ 0 → (e - x5).toInt = (t - f).toInt, fun y0 _ hy => ⟨((t.toInt - f.toInt) - x8.toInt - 1).toNat, by omega, by omega, by omega, hy⟩, fun _ q => absurd rfl q, fun _ _ => r4⟩
  · have e3 := ad1 (x := e) (by omega)
    have hne : e.toInt ≠ SN j - 1 := fun q => by
      have e9 : e.toNatClampNeg = SN j - 1 := by rw [nt', q]; omega
      rw [e9] at c32
      exact c32 (sf_last hj)
    omega
theorem sp_sixteen {c : Int32} {Q : Int32 → Prop} (h : ∀ r : Int32, (0 ≤ r.toInt → 48 ≤ c.toInt) → Q r) : wp_sixteen c σ τ vs Q := by
  unfold wp_sixteen
  refine sp_isDigit ⟨fun _ => ⟨True, fun _ => ⟨fun _ => h _ (fun q => absurd q (by decide)), fun _ => ⟨fun _ => h _ (fun q => absurd q (by decide)), fun _ => h _ (fun _ => by omega)⟩⟩, fun _ => trivial, fun _ => ⟨fun _ => trivial, fun _ => h _ (fun _ => by omega)⟩⟩, fun c1 => h _ (fun _ => (bI_ne c1).1)⟩
theorem sp_nameEnd {l : Int32} {Q : Int32 → St → St → List Nat → Prop} (hT : TI σ k.toInt) (h0 : 0 ≤ k.toInt) (hc : isLP (lookV σ k)) (hg : ∀ (r : Int32) s, GD σ s k.toInt r.toInt → Q r s τ vs) (hb : ∀ r s, BD σ s → Q r s τ vs) : wp_nameEnd k l σ τ vs Q := by
  have hs : (σ 0 9).toInt ≤ 16000 := hT.2.2.2.1
  have hk := look_lt' (σ := σ) (k := k) (by omega)
  have hn := hT.1
  have hn2 := hT.2.1
  unfold wp_nameEnd
  refine ⟨fun n x => (n : Int) = (σ 0 9).toInt - x.toInt ∧ k.toInt ≤ x.toInt ∧ x.toInt ≤ (σ 0 9).toInt, ⟨((σ 0 9).toInt - k.toInt).toNat, by omega, Int.le_refl _, by omega⟩, fun n x ⟨q1, q2, q3⟩ => sp_look (by omega) hs (sp_isLetter ?_)⟩
  refine ⟨x.toInt < (σ 0 9).toInt, fun c => ⟨n - 1, by omega, ?_⟩, fun c => ?_, fun c1 => sp_look (by omega) hs (sp_isDigit ⟨fun c2 => ?_, fun c2 => ?_⟩)⟩
  · have e := ad1 (x := x) (by omega)
    omega
  · have := bI_ne c
    exact look_lt' (by omega)
  · have hne : x.toInt ≠ k.toInt := fun q => by
      have := bI_eq c1
      rw [ieq q] at this
      exact this hc
    have e2 : (x - k).toInt = x.toInt - k.toInt := sb (by omega) (by omega)
    refine ⟨fun _ => sp_among (by decide) h0 q2 (by omega) (fun r r1 r2 => ?_), fun _ => sp_bad hT (Int.le_refl _) (by omega) (fun s hs => hb _ s hs)⟩
    refine ⟨fun y => 2 ≤ y.toInt ∧ y.toInt ≠ 4, fun y ⟨y1, y2⟩ => sp_token hn (by omega) (hg _ _ (GD_of hT y1 rfl (by omega) q3 (fun q => absurd q y2))), fun _ => by decide, fun _ => ?_⟩
    have e3 : ((5 : Int32) + r).toInt = 5 + r.toInt := by
      have : (5 : Int32).toInt = 5 := by decide
      rw [ad (by omega) (by omega), this]
    omega
  · have := bI_ne c2
    exact look_lt' (by omega)
theorem sp_numberEnd {l : Int32} {Q : Int32 → St → St → List Nat → Prop} (hT : TI σ k.toInt) (h0 : 0 ≤ k.toInt) (hc : isDP (lookV σ k)) (hg : ∀ (r : Int32) s, GD σ s k.toInt r.toInt → Q r s τ vs) (hb : ∀ r s, BD σ s → Q r s τ vs) : wp_numberEnd k l σ τ vs Q := by
  have hs : (σ 0 9).toInt ≤ 16000 := hT.2.2.2.1
  have hk := look_lt' (σ := σ) (k := k) (by omega)
  have hn := hT.1
  have hn2 := hT.2.1
  have e1 := ad1 (x := k) (by omega)
  have e2 : (k + (2 : Int32)).toInt = k.toInt + 2 := adc (by decide) (by omega) (by omega)
  unfold wp_numberEnd
  refine sp_look h0 hs ⟨True, fun _ => ?_, fun _ => trivial, fun _ => sp_look (by omega) hs ⟨fun _ => trivial, fun _ => sp_look (by omega) hs (sp_sixteen (fun r hr => ⟨fun _ => trivial, fun c => ?_⟩))⟩⟩
  · refine ⟨fun n x _ => (n : Int) = (σ 0 9).toInt - x.toInt ∧ k.toInt ≤ x.toInt ∧ x.toInt ≤ (σ 0 9).toInt, ⟨((σ 0 9).toInt - k.toInt).toNat, by omega, Int.le_refl _, by omega⟩, fun n x v ⟨q1, q2, q3⟩ => sp_look (by omega) hs (sp_isDigit ⟨fun c2 => ?_, fun c2 => ?_⟩)⟩
    · have hne : x.toInt ≠ k.toInt := fun q => by
        have := bI_eq c2
        rw [ieq q] at this
        exact this hc
      exact ⟨fun _ => sp_token hn (by omega) (hg _ _ (GD_of hT (by decide) rfl (by omega) q3 (fun q => absurd q (by decide)))), fun _ => sp_bad hT (Int.le_refl _) (by omega) (fun s hs => hb _ s hs)⟩
    · have h3 := bI_ne c2
      have h4 := look_lt' (σ := σ) (k := x) (by omega)
      have e3 := ad1 (x := x) (by omega)
      exact ⟨fun _ => True, fun _ _ => ⟨n - 1, by omega, by omega, by omega, by omega⟩, fun _ => trivial, fun _ => sp_look (by omega) hs trivial⟩
  · have h4 := hr c
    have h5 := look_lt' (σ := σ) (k := k + (2 : Int32)) (by omega)
    refine ⟨fun n x _ => (n : Int) = (σ 0 9).toInt - x.toInt ∧ k.toInt + 2 ≤ x.toInt ∧ x.toInt ≤ (σ 0 9).toInt, ⟨((σ 0 9).toInt - k.toInt - 2).toNat, by omega, by omega, by omega⟩, fun n x v ⟨q1, q2, q3⟩ => sp_look (by omega) hs (sp_sixteen (fun r2 hr2 => ⟨fun _ => ⟨fun _ => sp_token hn (by omega) (hg _ _ (GD_of hT (by decide) rfl (by omega) q3 (fun q => absurd q (by decide)))), fun _ => sp_bad hT (Int.le_refl _) (by omega) (fun s hs => hb _ s hs)⟩, fun c3 => sp_look (by omega) hs (sp_sixteen (fun r3 _ => ?_))⟩))⟩
    have h6 := hr2 c3
    have h7 := look_lt' (σ := σ) (k := x) (by omega)
    have e3 := ad1 (x := x) (by omega)
    exact ⟨n - 1, by omega, by omega, by omega, by omega⟩
theorem sp_code {q : Int32} {Q : Int32 → Prop} (hs : (σ 0 9).toInt ≤ 16000) (h0 : 0 ≤ k.toInt) (h1 : k.toInt ≤ 30000) (h : ∀ r : Int32, (0 ≤ r.toInt → k.toInt < (σ 0 9).toInt ∧ ((lookV σ k).toInt = 92 → k.toInt + 1 < (σ 0 9).toInt)) → Q r) : wp_code k q σ τ vs Q := by
  have e1 := ad1 (x := k) (by omega)
  unfold wp_code
  have bad : Q (-1) := h _ (fun q => absurd q (by decide))
  refine sp_look h0 hs ⟨fun c => ⟨fun _ => bad, fun c1 => ⟨fun _ => bad, fun c2 => ⟨fun _ => bad, fun _ => h _ (fun _ => ⟨look_lt' (by omega), fun q => absurd q c⟩)⟩⟩⟩, fun c => sp_look (by omega) hs ?_⟩
  have good : ∀ r : Int32, 0 ≤ (lookV σ (k + (1 : Int32))).toInt → Q r := fun r g => h r (fun _ => by
    have := look_lt' (σ := σ) (k := k + (1 : Int32)) (by omega)
    exact ⟨by omega, fun _ => by omega⟩)
  exact ⟨fun _ => ⟨fun _ => ⟨fun _ => good _ (by omega), fun _ => ⟨fun _ => good _ (by omega), fun _ => ⟨fun _ => bad, fun _ => good _ (by omega)⟩⟩⟩, fun _ => good _ (by omega)⟩, fun _ => good _ (by omega)⟩
theorem sp_codeEnd {l : Int32} {Q : Int32 → St → St → List Nat → Prop} (hT : TI σ k.toInt) (h0 : 0 ≤ k.toInt) (hk : k.toInt < (σ 0 9).toInt) (hg : ∀ (r : Int32) s, GD σ s k.toInt r.toInt → Q r s τ vs) (hb : ∀ r s, BD σ s → Q r s τ vs) : wp_codeEnd k l σ τ vs Q := by
  have hs : (σ 0 9).toInt ≤ 16000 := hT.2.2.2.1
  have hn := hT.1
  have hn2 := hT.2.1
  have e1 := ad1 (x := k) (by omega)
  unfold wp_codeEnd
  refine sp_code hs (by omega) (by omega) (fun r hr => sp_look (by omega) hs ⟨fun y => 2 ≤ y.toInt ∧ y.toInt ≤ 3, fun y ⟨y1, y2⟩ => ⟨True, fun _ => sp_bad hT (Int.le_refl _) (by omega) (fun s hs => hb _ s hs), fun _ => trivial, fun c => ?_⟩, fun _ => by decide, fun _ => by decide⟩)
  have e2 : (k + y).toInt = k.toInt + y.toInt := ad (by omega) (by omega)
  refine sp_look (by omega) hs ⟨fun c2 => ?_, fun _ => trivial⟩
  have h3 := look_lt' (σ := σ) (k := k + y) (by omega)
  have e3 := ad1 (x := k + y) (by omega)
  exact sp_token hn (by omega) (hg _ _ (GD_of hT (by decide) rfl (by omega) (by omega) (fun q => absurd q (by decide))))
theorem sp_stringEnd {l : Int32} {Q : Int32 → St → St → List Nat → Prop} (hT : TI σ k.toInt) (h0 : 0 ≤ k.toInt) (hk : k.toInt < (σ 0 9).toInt) (hg : ∀ (r : Int32) s, GD σ s k.toInt r.toInt → Q r s τ vs) (hb : ∀ r s, BD σ s → Q r s τ vs) : wp_stringEnd k l σ τ vs Q := by
  have hs : (σ 0 9).toInt ≤ 16000 := hT.2.2.2.1
  have hn := hT.1
  have hn2 := hT.2.1
  have e1 := ad1 (x := k) (by omega)
  have e00 : ((0 : Int32)).toInt = 0 := by decide
  unfold wp_stringEnd
  refine ⟨fun n e c => (n : Int) = (σ 0 9).toInt - e.toInt ∧ k.toInt + 1 + c.toInt ≤ e.toInt ∧ e.toInt ≤ (σ 0 9).toInt ∧ 0 ≤ c.toInt ∧ c.toInt ≤ 200, ⟨((σ 0 9).toInt - k.toInt - 1).toNat, by omega, by omega, by omega, by omega, by omega⟩, fun n e c ⟨q1, q2, q3, q4, q5⟩ => sp_look (by omega) hs ⟨fun c1 => ?_, fun c1 => sp_code hs (by omega) (by omega) (fun r hr => ⟨True, fun _ => sp_bad hT (Int.le_refl _) (by omega) (fun s hs => hb _ s hs), fun _ => trivial, fun c2 => ⟨fun c3 => sp_look (by omega) hs ?_, fun _ => trivial⟩⟩)⟩⟩
  · have h3 := look_lt' (σ := σ) (k := e) (by omega)
    have e3 := ad1 (x := e) (by omega)
    exact sp_token hn (by omega) (hg _ _ (GD_of hT (by decide) rfl (by omega) (by omega) (fun _ => by omega)))
  · obtain ⟨h4, h5⟩ := hr c2
    have e4 := ad1 (x := c) (by omega)
    refine ⟨fun y => 1 ≤ y.toInt ∧ e.toInt + y.toInt ≤ (σ 0 9).toInt, fun y ⟨y1, y2⟩ => ?_, fun _ => ?_, fun c5 => ?_⟩
    · have e5 : (e + y).toInt = e.toInt + y.toInt := ad (by omega) (by omega)
      exact ⟨((σ 0 9).toInt - (e.toInt + y.toInt)).toNat, by omega, by omega, by omega, by omega, by omega, by omega⟩
    · have : (1 : Int32).toInt = 1 := by decide
      omega
    · have : (2 : Int32).toInt = 2 := by decide
      have := h5 c5
      omega
theorem sp_signEnd {l : Int32} {Q : Int32 → St → St → List Nat → Prop} (hT : TI σ k.toInt) (h0 : 0 ≤ k.toInt) (hk : k.toInt < (σ 0 9).toInt) (hg : ∀ (r : Int32) s, GD σ s k.toInt r.toInt → Q r s τ vs) (hb : ∀ r s, BD σ s → Q r s τ vs) : wp_signEnd k l σ τ vs Q := by
  have hs : (σ 0 9).toInt ≤ 16000 := hT.2.2.2.1
  have hn := hT.1
  have hn2 := hT.2.1
  unfold wp_signEnd
  refine ⟨fun n x => (n : Int) = x.toInt ∧ 0 ≤ x.toInt ∧ x.toInt ≤ 3, ⟨3, by decide⟩, fun n x ⟨q1, q2, q3⟩ => ⟨fun _ => sp_bad hT (Int.le_refl _) (by omega) (fun s hs => hb _ s hs), fun c => ?_⟩⟩
  have e1 : (k + x).toInt = k.toInt + x.toInt := ad (by omega) (by omega)
  have e2 := dc1 (x := x) (by omega)
  refine ⟨fun y => y.toInt ≤ 200 ∧ (0 ≤ y.toInt → k.toInt + x.toInt ≤ (σ 0 9).toInt), fun y ⟨y1, y2⟩ => ⟨fun c1 => ?_, fun _ => ⟨(x.toInt - 1).toNat, by omega, by omega, by omega, by omega⟩⟩, fun _ => ⟨by decide, fun q => absurd q (by decide)⟩, fun c1 => sp_among (by decide) h0 (by omega) (by omega) (fun r r1 r2 => ⟨r2, fun _ => by omega⟩)⟩
  have e3 : ((32 : Int32) + y).toInt = 32 + y.toInt := by
    have : (32 : Int32).toInt = 32 := by decide
    rw [ad (by omega) (by omega), this]
  exact sp_token hn (by omega) (hg _ _ (GD_of hT (by omega) rfl (by omega) (by omega) (fun q => by omega)))
theorem sp_one {l : Int32} {Q : Int32 → St → St → List Nat → Prop} (hT : TI σ k.toInt) (h0 : 0 ≤ k.toInt) (hk : k.toInt < (σ 0 9).toInt) (hg : ∀ (r : Int32) s, GD σ s k.toInt r.toInt → Q r s τ vs) (hb : ∀ r s, BD σ s → Q r s τ vs) : wp_one_0 k l σ τ vs Q := by
  have hs : (σ 0 9).toInt ≤ 16000 := hT.2.2.2.1
  unfold wp_one_0
  exact sp_look h0 hs (sp_isLetter ⟨fun _ => sp_isDigit ⟨fun _ => ⟨fun _ => ⟨fun _ => sp_signEnd hT h0 hk hg hb, fun _ => sp_stringEnd hT h0 hk hg hb⟩, fun _ => sp_codeEnd hT h0 hk hg hb⟩, fun c => sp_numberEnd hT h0 (bI_ne c) hg hb⟩, fun c => sp_nameEnd hT h0 (bI_ne c) hg hb⟩)
theorem BD_of {b c l e : Int32} {k : Int} (hT : TI σ k) (h1 : k ≤ b.toInt ∧ b.toInt ≤ (σ 0 9).toInt) (h2 : 0 ≤ c.toInt ∧ c.toInt ≤ 16000) : BD σ (tkn σ 1 b c l e) := by
  have hT9 := hT
  obtain ⟨g1, g2, g3, g4, -⟩ := hT9
  refine ⟨TI_end hT (by decide) h1.1 h1.2 h2, by rw [tkn_n, ad1 (by omega)], ?_, tkn_kp⟩
  rw [tkn_kinds, if_pos rfl]
  decide
theorem sp_cut {Q : St → St → List Nat → Prop} (h0 : 0 ≤ (σ 0 9).toInt) (hs : (σ 0 9).toInt ≤ 16000) (h1 : AllIn 0 16000 (σ 3)) (h2 : AllIn 0 16000 (σ 4)) (h : ∀ s, TK s → KT σ s → Q s τ vs) : wp_cut σ τ vs Q := by
  unfold wp_cut
  refine ⟨fun n k _ s t z => (n : Int) = (s 0 9).toInt - k.toInt ∧ 0 ≤ k.toInt ∧ TI s k.toInt ∧ KT σ s ∧ t = τ ∧ z = vs, ⟨(σ 0 9).toInt.toNat, ?_⟩, ?_⟩
  · have e0 : (0 : Int32).toInt = 0 := by decide
    exact ⟨by show (((σ 0 9).toInt).toNat : Int) = (σ 0 9).toInt - _; omega, by decide, ⟨by show (0 : Int) ≤ (0 : Int32).toInt; decide, by show (0 : Int32).toInt ≤ (0 : Int32).toInt; decide, by show _ ≤ (σ 0 9).toInt; omega, hs, h1, h2, fun j hj => absurd hj (by show ¬ (j : Int) < (0 : Int32).toInt; omega), fun j hj => absurd hj (by show ¬ (j : Int) + 1 < (0 : Int32).toInt; omega)⟩, kp_f kp_rf rfl, rfl, rfl⟩
  · rintro n k l s t z ⟨q1, q2, hT, hK, rfl, rfl⟩
    have hn := hT.1
    have hn2 := hT.2.1
    have hks := hT.2.2.1
    have hs' := hT.2.2.2.1
    refine ⟨fun c => sp_token hn (by omega) (h _ (TI_end hT (by decide) hks (Int.le_refl _) (by omega)) (kp_tr hK tkn_kp)), fun c => sp_look q2 hs' (sp_isAllowed ?_)⟩
    have e1 := ad1 (x := k) (by omega)
    refine ⟨fun r s' t' z' => t' = t ∧ z' = z ∧ KT s s' ∧ ((s' = s ∧ k.toInt < r.toInt ∧ r.toInt ≤ (s 0 9).toInt) ∨ GD s s' k.toInt r.toInt ∨ BD s s'), ?_, fun c1 => ⟨True, fun _ => ⟨True, fun _ => sp_isBlank ⟨fun _ => ⟨rfl, rfl, kp_rf, Or.inl ⟨rfl, by omega, by omega⟩⟩, fun _ => sp_one hT q2 c (fun r s' g => ⟨rfl, rfl, g.2.2.2.2, Or.inr (Or.inl g)⟩) (fun r s' g => ⟨rfl, rfl, g.2.2.2, Or.inr (Or.inr g)⟩)⟩, fun _ => trivial, fun c3 => sp_look (by omega) hs' ⟨fun _ => trivial, fun c4 => sp_remarkEnd hT q2 (by have := look_lt' (σ := s) (k := k + (1 : Int32)) (by omega); omega) (fun r r1 r2 => ⟨rfl, rfl, kp_rf, Or.inl ⟨rfl, r1, r2⟩⟩) (fun r s' g => ⟨rfl, rfl, g.2.2.2, Or.inr (Or.inr g)⟩)⟩⟩, fun _ => trivial, fun c3 => sp_look (by omega) hs' ⟨fun _ => trivial, fun c4 => sp_lineEnd hT q2 c c3 (fun r r1 r2 => ⟨rfl, rfl, kp_rf, Or.inl ⟨rfl, r1, r2⟩⟩) (fun r s' g => ⟨rfl, rfl, g.2.2.2, Or.inr (Or.inr g)⟩)⟩⟩, fun c1 => sp_token hn (by omega) ⟨rfl, rfl, tkn_kp, Or.inr (Or.inr (BD_of hT (by omega) (by omega)))⟩⟩
    rintro r s' t' z' ⟨rfl, rfl, hK', hcase⟩
    have en := nt hn
    have esz : (s' 0 9) = (s 0 9) := hK' 0 9 rfl rfl
    refine ⟨TI s' r.toInt ∧ k.toInt < r.toInt, fun ⟨hT', hr⟩ => ?_, ?_, ?_⟩
    · have hr' := hT'.2.2.1
      have hs9 := hT'.2.2.2.1
      refine ⟨fun n j x => (n : Int) = (r.toInt - x.toInt).toNat ∧ 0 ≤ x.toInt, ⟨_, rfl, q2⟩, fun m j x ⟨p1, p2⟩ => ⟨fun c5 => ⟨((s' 0 9).toInt - r.toInt).toNat, by rw [esz] at hr' ⊢; omega, by omega, by omega, hT', kp_tr hK hK', rfl, rfl⟩, fun c5 => sp_look p2 hs9 ?_⟩⟩
      have e2 := ad1 (x := x) (by omega)
      exact ⟨fun _ => True, fun _ _ => ⟨(r.toInt - x.toInt - 1).toNat, by omega, by omega, by omega⟩, fun _ => trivial, fun _ => trivial⟩
    · intro c6
      rcases hcase with ⟨rfl, g1, g2⟩ | g | g
      · exact ⟨⟨hn, by omega, g2, hs', hT.2.2.2.2.1, hT.2.2.2.2.2.1, fun j hj => by have := hT.2.2.2.2.2.2.1 j hj; omega, hT.2.2.2.2.2.2.2⟩, g1⟩
      · exact ⟨g.1, g.2.1⟩
      · have := g.2.1; omega
    · intro c6
      rcases hcase with ⟨rfl, g1, g2⟩ | g | g
      · omega
      · have g3 := g.2.2.1
        have e3 : ((s' 0 8) - (1 : Int32)).toInt = (s' 0 8).toInt - 1 := sb1 (by omega)
        have e4 : ((s' 0 8) - (1 : Int32)).toNatClampNeg = (s 0 8).toNatClampNeg := by rw [nt', nt', e3]; omega
        have := hT.2.1
        refine ⟨⟨by omega, by omega⟩, fun _ => ⟨g.1, g.2.1⟩, fun c7 => ?_⟩
        rw [e4] at c7
        have := g.2.2.2.1
        omega
      · have g3 := g.2.1
        have e3 : ((s' 0 8) - (1 : Int32)).toInt = (s' 0 8).toInt - 1 := sb1 (by omega)
        have e4 : ((s' 0 8) - (1 : Int32)).toNatClampNeg = (s 0 8).toNatClampNeg := by rw [nt', nt', e3]; omega
        have := hT.2.1
        refine ⟨⟨by omega, by omega⟩, fun c7 => ?_, fun _ => h _ g.1 (kp_tr hK hK')⟩
        rw [e4] at c7
        exact absurd g.2.2.1 c7
end TOK3
end

section
/-! what holds while a unit is read -/
def pos (σ : St) : Int := ((σ 3) (σ 0 10).toNatClampNeg).toInt
def kd (σ : St) : Int := ((σ 2) (σ 0 10).toNatClampNeg).toInt
def Fi (σ : St) : Int := ((σ 22) (σ 0 35).toNatClampNeg).toInt
def wcn (σ : St) : Nat := (σ 0 17).toNatClampNeg
def AtOK (σ : St) : Prop := 0 ≤ (σ 0 10).toInt ∧ (σ 0 10).toInt < (σ 0 8).toInt
def NMo (σ : St) : Prop := ∀ j, 0 ≤ ((σ 18) j).toInt ∧ 0 ≤ ((σ 19) j).toInt ∧ ((σ 18) j).toInt + ((σ 19) j).toInt ≤ 65536
def VTy (σ : St) : Prop := ∀ j, ((σ 9) j).toInt = 1 → 0 ≤ ((σ 10) j).toInt
def HLd (σ : St) : Prop := ∀ k : Nat, (k : Int) < (σ 0 53).toInt → ((σ 35) k).toInt < (σ 0 49).toInt
def ARR (σ : St) : Prop := AllIn 0 16001 (σ 34) ∧ AllIn 0 99 (σ 35) ∧ AllIn (-1) 16001 (σ 21) ∧ AllIn 0 8 (σ 15) ∧ NMo σ ∧ AllIn 0 10 (σ 31) ∧ AllIn (-1) 10 (σ 10) ∧ VTy σ ∧ HLd σ ∧ AllIn 0 16000 (σ 17) ∧ AllIn 0 10 (σ 16) ∧ AllIn (-1) 4000 (σ 32)
def VOK (τ : St) : Prop := ∀ u, (0 ≤ (τ u 1).toInt ∧ (τ u 1).toInt ≤ 3) ∧ (0 ≤ (τ u 2).toInt ∧ (τ u 2).toInt ≤ 99) ∧ (0 ≤ (τ u 4).toInt ∧ (τ u 4).toInt ≤ 16001) ∧ (τ u 8).toInt ≤ 100 ∧ ((τ u 1).toInt ≠ 0 → (τ u 0).toInt ≠ -1) ∧ ((τ u 5).toInt ≠ 0 → (τ u 0).toInt = 0)
def NUM (σ : St) : Prop := (0 ≤ (σ 0 35).toInt ∧ (σ 0 35).toInt ≤ 99) ∧ (0 ≤ Fi σ ∧ Fi σ ≤ 9900 ∧ Fi σ ≤ (σ 0 36).toInt ∧ (σ 0 36).toInt ≤ Fi σ + 100) ∧ (0 ≤ (σ 0 53).toInt ∧ (σ 0 53).toInt ≤ (σ 0 49).toInt ∧ (σ 0 49).toInt ≤ 100) ∧ (0 ≤ (σ 0 37).toInt ∧ (σ 0 37).toInt ≤ 16000) ∧ 0 ≤ (σ 0 17).toInt ∧ 0 ≤ (σ 0 39).toInt ∧ 0 ≤ (σ 0 15).toInt
def PA (σ τ : St) : Prop := TK σ ∧ AtOK σ ∧ NUM σ ∧ ARR σ ∧ VOK τ
section PAR
variable {σ s τ t : St} {vs z : List Nat}
theorem at_tok (h : TK σ) (ha : AtOK σ) : 0 ≤ (σ 0 10).toInt ∧ (σ 0 10).toInt < 16002 := by
  obtain ⟨h1, h2, -⟩ := h
  obtain ⟨h3, h4⟩ := ha
  omega
theorem pos_in (h : TK σ) (ha : AtOK σ) : 0 ≤ pos σ ∧ pos σ ≤ (σ 0 9).toInt ∧ (σ 0 9).toInt ≤ 16000 := by
  have hn := nt ha.1
  obtain ⟨h1, h2, h3, h4, h5, h6, h7, -⟩ := h
  refine ⟨(h5 _).1, (h7 _ ?_).1, h4⟩
  have := ha.2
  omega
def nxt (σ : St) : St := upC σ 0 10 ((σ 0 10) + 1)
theorem nxt_at : ((nxt σ) 0 10) = (σ 0 10) + 1 := by unfold nxt; rw [rdA_eq rfl]
theorem nxt_kp : Kp [(0, 10)] [] σ (nxt σ) := kp_f kp_rf rfl
theorem tk_kp {fs : List (Nat × Nat)} {cs : List Nat} (h : Kp fs cs σ s) (h1 : fs.contains (0, 8) = false) (h2 : fs.contains (0, 9) = false) (h3 : cs.contains 2 = false ∧ cs.contains 3 = false ∧ cs.contains 4 = false ∧ cs.contains 6 = false ∧ cs.contains 0 = false) (hf : fs.all (fun x => x.1 == 0) = true) (hT : TK σ) : TK s := by
  have e0 : ∀ c k, c ≠ 0 → cs.contains c = false → s c k = σ c k := fun c k hc h9 => by
    refine h c k ?_ h9
    cases q : fs.contains (c, k) with
    | false => rfl
    | true =>
      have h4 := List.all_eq_true.mp hf (c, k) (List.contains_iff_mem.mp q)
      exact absurd (eq_of_beq h4) hc
  have a2 : s 2 = σ 2 := funext (fun k => e0 2 k (by decide) h3.1)
  have a3 : s 3 = σ 3 := funext (fun k => e0 3 k (by decide) h3.2.1)
  have a4 : s 4 = σ 4 := funext (fun k => e0 4 k (by decide) h3.2.2.1)
  have a6 : s 6 = σ 6 := funext (fun k => e0 6 k (by decide) h3.2.2.2.1)
  have e1 : (s 0 8) = (σ 0 8) := h _ _ h1 h3.2.2.2.2
  have e2 : (s 0 9) = (σ 0 9) := h _ _ h2 h3.2.2.2.2
  unfold TK
  rw [e1, e2, a2, a3, a4, a6]
  exact hT
theorem nxt_ok (h : TK σ) (ha : AtOK σ) (hk : 2 ≤ kd σ) : AtOK (nxt σ) ∧ pos σ + 1 ≤ pos (nxt σ) := by
  have hn := nt ha.1
  obtain ⟨h1, h2, h3, h4, h5, h6, h7, h8⟩ := h
  have h9 := ha.2
  obtain ⟨g1, g2, g3, -⟩ := h8 _ (by omega) hk
  have e1 : ((nxt σ) 0 10).toInt = (σ 0 10).toInt + 1 := by rw [nxt_at, ad1 (by omega)]
  have e2 : ((nxt σ) 0 10).toNatClampNeg = (σ 0 10).toNatClampNeg + 1 := by rw [nt', e1]; omega
  have e3 : ((nxt σ) 0 8).toInt = (σ 0 8).toInt := rfl
  refine ⟨⟨by omega, by omega⟩, ?_⟩
  unfold pos
  rw [e2]
  have e4 : ((nxt σ) 3) = (σ 3) := rfl
  rw [e4]
  omega
/-- what expressions change -/
abbrev KE (σ s : St) : Prop := Kp [(0, 10), (0, 12), (0, 13), (0, 14), (0, 17), (0, 37), (0, 39)] [8, 25, 33, 14, 21] σ s
def RW (σ s : St) : Prop := ∀ j : Nat, (j : Int) < (σ 0 17).toInt → (s 8) j = (σ 8) j
def MOn (σ s : St) : Prop := (∀ e, (σ 14) e ≠ 0 → (s 14) e ≠ 0) ∧ (∀ n, 0 ≤ ((σ 21) n).toInt → 0 ≤ ((s 21) n).toInt)
def OF (σ s : St) : Prop := (s 0 12).toInt = (σ 0 12).toInt ∨ (1 ≤ (s 0 12).toInt ∧ (s 0 12).toInt ≤ 4)
theorem of0 {σ s : St} (h : OF σ s) (q : (s 0 12).toInt = 0) : (σ 0 12).toInt = 0 := by
  rcases h with h | h
  · rw [← h]; exact q
  · omega
theorem of_rf {σ : St} : OF σ σ := Or.inl rfl
theorem of_eq {σ s : St} (e : (s 0 12) = (σ 0 12)) : OF σ s := Or.inl (by rw [e])
theorem of_tr {σ s s' : St} (h : OF σ s) (g : OF s s') : OF σ s' := by
  rcases g with g | g
  · rcases h with h | h
    · exact Or.inl (g.trans h)
    · exact Or.inr (by rw [g]; exact h)
  · exact Or.inr g
/-- a stretch of an expression -/
def ITd (σ : St) (f d : Int) : Prop := 0 ≤ f ∧ ∃ n : Nat, (σ 0 39).toInt = f + 3 * n ∧ ∀ j : Nat, j < n → (0 ≤ ((σ 25) (f + 3 * j).toNat).toInt ∧ ((σ 25) (f + 3 * j).toNat).toInt < d) ∧ ((σ 25) (f + 3 * j + 2).toNat).toInt ≤ 100
theorem itd_le {f d d' : Int} (h : ITd σ f d) (hd : d ≤ d') : ITd σ f d' := by
  obtain ⟨i1, n, i2, i3⟩ := h
  exact ⟨i1, n, i2, fun j hj => ⟨⟨(i3 j hj).1.1, Int.lt_of_lt_of_le (i3 j hj).1.2 hd⟩, (i3 j hj).2⟩⟩
theorem itd_of {f d : Int} (h1 : (s 25) = (σ 25)) (h2 : (s 0 39) = (σ 0 39)) (h : ITd σ f d) : ITd s f d := by
  unfold ITd
  rw [h1, h2]
  exact h
/-- the rows of what data begin with go on being right -/
def IE (σ s : St) : Prop := (σ 0 37).toInt ≤ (s 0 37).toInt ∧ (∀ f, ITd σ f (σ 0 37).toInt → ITd s f (s 0 37).toInt) ∧ (σ 0 39).toInt ≤ (s 0 39).toInt ∧ ∀ j : Nat, (j : Int) < (σ 0 39).toInt → (s 25) j = (σ 25) j
theorem ie_rf : IE σ σ := ⟨Int.le_refl _, fun _ h => h, Int.le_refl _, fun _ _ => rfl⟩
theorem ie_tr {s' : St} (h : IE σ s) (g : IE s s') : IE σ s' := ⟨Int.le_trans h.1 g.1, fun f q => g.2.1 f (h.2.1 f q), Int.le_trans h.2.2.1 g.2.2.1, fun j hj => (g.2.2.2 j (Int.lt_of_lt_of_le hj h.2.2.1)).trans (h.2.2.2 j hj)⟩
theorem ie_of (h1 : (s 25) = (σ 25)) (h2 : (s 0 39) = (σ 0 39)) (h3 : (s 0 37) = (σ 0 37)) : IE σ s := ⟨by rw [h3]; exact Int.le_refl _, fun f h => by rw [h3]; exact itd_of h1 h2 h, by rw [h2]; exact Int.le_refl _, fun j _ => by rw [h1]⟩
def RL (σ : St) (vs : List Nat) (s t : St) (z : List Nat) : Prop := KE σ s ∧ PA s t ∧ RW σ s ∧ MOn σ s ∧ OF σ s ∧ (σ 0 17).toInt ≤ (s 0 17).toInt ∧ (σ 0 39).toInt ≤ (s 0 39).toInt ∧ pos σ ≤ pos s ∧ (∀ u ∈ vs, u ∈ z) ∧ vs.length ≤ z.length ∧ IE σ s
theorem mon_rf : MOn σ σ := ⟨fun _ h => h, fun _ h => h⟩
theorem rl_rf (h : PA σ τ) : RL σ vs σ τ vs := ⟨kp_rf, h, fun _ _ => rfl, mon_rf, of_rf, Int.le_refl _, Int.le_refl _, Int.le_refl _, fun _ h => h, Nat.le_refl _, ie_rf⟩
theorem rl_tr {s' t' : St} {z' : List Nat} (h : RL σ vs s t z) (g : RL s z s' t' z') : RL σ vs s' t' z' := by
  obtain ⟨h1, h2, h3, h4, h5, h6, h7, h8, h9, h10, h11⟩ := h
  obtain ⟨g1, g2, g3, g4, g5, g6, g7, g8, g9, g10, g11⟩ := g
  exact ⟨kp_tr h1 g1, g2, fun j hj => (g3 j (by omega)).trans (h3 j hj), ⟨fun e he => g4.1 e (h4.1 e he), fun n hn => g4.2 n (h4.2 n hn)⟩, of_tr h5 g5, by omega, by omega, by omega, fun u hu => g9 u (h9 u hu), by omega, ie_tr h11 g11⟩
/-- the frame of expressions keeps what holds -/
theorem pa_ke (h : PA σ τ) (k : KE σ s) (ha : AtOK s) (hd : 0 ≤ (s 0 37).toInt ∧ (s 0 37).toInt ≤ 16000) (hw : 0 ≤ (s 0 17).toInt) (hi : 0 ≤ (s 0 39).toInt) (hf : AllIn (-1) 16001 (s 21)) (hv : VOK t) : PA s t := by
  obtain ⟨h1, h2, ⟨n1, n2, n3, n4, n5, n6, n7⟩, ⟨a1, a2, a3, a4, a5, a6, a7, a8, a9, b1, b2, b3⟩, h5⟩ := h
  have e22 : (s 22) = (σ 22) := funext (fun j => k 22 j rfl rfl)
  have e34 : (s 34) = (σ 34) := funext (fun j => k 34 j rfl rfl)
  have e35 : (s 35) = (σ 35) := funext (fun j => k 35 j rfl rfl)
  have e15 : (s 15) = (σ 15) := funext (fun j => k 15 j rfl rfl)
  have e18 : (s 18) = (σ 18) := funext (fun j => k 18 j rfl rfl)
  have e19 : (s 19) = (σ 19) := funext (fun j => k 19 j rfl rfl)
  have e31 : (s 31) = (σ 31) := funext (fun j => k 31 j rfl rfl)
  have e10 : (s 10) = (σ 10) := funext (fun j => k 10 j rfl rfl)
  have e9 : (s 9) = (σ 9) := funext (fun j => k 9 j rfl rfl)
  have e32 : (s 32) = (σ 32) := funext (fun j => k 32 j rfl rfl)
  have e16 : (s 16) = (σ 16) := funext (fun j => k 16 j rfl rfl)
  have e17 : (s 17) = (σ 17) := funext (fun j => k 17 j rfl rfl)
  have f1 : (s 0 35) = (σ 0 35) := k _ _ rfl rfl
  have f2 : (s 0 36) = (σ 0 36) := k _ _ rfl rfl
  have f3 : (s 0 53) = (σ 0 53) := k _ _ rfl rfl
  have f4 : (s 0 49) = (σ 0 49) := k _ _ rfl rfl
  have f5 : (s 0 15) = (σ 0 15) := k _ _ rfl rfl
  have eF : Fi s = Fi σ := by unfold Fi; rw [f1, e22]
  refine ⟨tk_kp k rfl rfl ⟨rfl, rfl, rfl, rfl, rfl⟩ rfl h1, ha, ⟨by rw [f1]; exact n1, by rw [eF, f2]; exact n2, by rw [f3, f4]; exact n3, hd, hw, hi, by rw [f5]; exact n7⟩, ⟨by rw [e34]; exact a1, by rw [e35]; exact a2, hf, by rw [e15]; exact a4, ?_, by rw [e31]; exact a6, by rw [e10]; exact a7, ?_, ?_, by rw [e17]; exact b1, by rw [e16]; exact b2, by rw [e32]; exact b3⟩, hv⟩
  · unfold NMo; rw [e18, e19]; exact a5
  · unfold VTy; rw [e9, e10]; exact a8
  · unfold HLd; rw [e35, f3, f4]; exact a9
theorem rl_nxt (h : PA σ τ) (hk : 2 ≤ kd σ) : RL σ vs (nxt σ) τ vs ∧ pos σ + 1 ≤ pos (nxt σ) ∧ ((nxt σ) 0 17).toInt = (σ 0 17).toInt ∧ ((nxt σ) 0 39).toInt = (σ 0 39).toInt := by
  have h9 := h
  obtain ⟨h1, h2, ⟨n1, n2, n3, n4, n5, n6, n7⟩, ⟨a1, a2, a3, a4, a5, a6, a7, a8, a9, b1, b2, b3⟩, h5⟩ := h9
  obtain ⟨g1, g2⟩ := nxt_ok h1 h2 hk
  have k : KE σ (nxt σ) := kp_sub nxt_kp rfl rfl
  exact ⟨⟨k, pa_ke h k g1 n4 n5 n6 a3 h5, fun _ _ => rfl, mon_rf, of_rf, Int.le_refl _, Int.le_refl _, by omega, fun _ h => h, Nat.le_refl _, ie_of rfl rfl rfl⟩, g2, rfl, rfl⟩
end PAR
/-! what is asked of the token at hand -/
section TOKS
variable {σ τ : St} {vs : List Nat}
theorem sp_is {a : Int32} {Q : Int32 → Prop} (h : PA σ τ) (h1 : kd σ = ((32 : Int32) + a).toInt → Q 1) (h0 : kd σ ≠ ((32 : Int32) + a).toInt → Q 0) : wp_is a σ τ vs Q := by
  unfold wp_is
  exact ⟨at_tok h.1 h.2.1, h0, h1⟩
theorem sp_isWord {a : Int32} {Q : Int32 → Prop} (h : PA σ τ) (h1 : kd σ = a.toInt → Q 1) (h0 : kd σ ≠ a.toInt → Q 0) : wp_isWord a σ τ vs Q := by
  unfold wp_isWord
  exact ⟨at_tok h.1 h.2.1, h0, h1⟩
def sg (σ : St) : Int32 := (σ 2) (σ 0 10).toNatClampNeg - (32 : Int32)
theorem sp_sign {Q : Int32 → Prop} (h : PA σ τ) (k : Q (sg σ)) : wp_sign σ τ vs Q := by
  unfold wp_sign
  exact ⟨at_tok h.1 h.2.1, k⟩
theorem sg_kd {n : Int} (h : (sg σ).toInt = n) (h0 : 0 ≤ n) (h1 : n ≤ 200) : kd σ = n + 32 := by
  obtain ⟨k, e⟩ := s_sub ((σ 2) (σ 0 10).toNatClampNeg) (32 : Int32)
  have e2 : (32 : Int32).toInt = 32 := by decide
  have := s_rng ((σ 2) (σ 0 10).toNatClampNeg)
  unfold sg at h
  unfold kd
  omega
def RTx (σ : St) (vs : List Nat) (s t : St) (z : List Nat) : Prop := RL σ vs s t z ∧ (z.length : Int) ≤ vs.length + 2 * ((σ 0 9).toInt - pos σ)
theorem rt_of {s t : St} {z : List Nat} {s' t' : St} {z' : List Nat} (h : RL σ vs s t z) (hz : (z.length : Int) ≤ vs.length + 2 * (pos s - pos σ)) (g : RTx s z s' t' z') : RTx σ vs s' t' z' := by
  refine ⟨rl_tr h g.1, ?_⟩
  have e : (s 0 9) = (σ 0 9) := h.1 _ _ rfl rfl
  have := g.2
  rw [e] at this
  omega
theorem sp_wrong {Q : St → St → List Nat → Prop} (h : PA σ τ) (k : ∀ s, RTx σ vs s τ vs → Q s τ vs) : wp_wrong σ τ vs Q := by
  unfold wp_wrong wp_wrongAt
  refine ⟨at_tok h.1 h.2.1, k _ ⟨⟨?_, ?_, fun _ _ => rfl, mon_rf, of_rf, Int.le_refl _, Int.le_refl _, Int.le_refl _, fun _ h => h, Nat.le_refl _, ie_of rfl rfl rfl⟩, ?_⟩⟩
  · exact kp_f kp_rf rfl
  · obtain ⟨h1, h2, ⟨n1, n2, n3, n4, n5, n6, n7⟩, ⟨a1, a2, a3, a4, a5, a6, a7, a8, a9, b1, b2, b3⟩, h5⟩ := h
    exact pa_ke ⟨h1, h2, ⟨n1, n2, n3, n4, n5, n6, n7⟩, ⟨a1, a2, a3, a4, a5, a6, a7, a8, a9, b1, b2, b3⟩, h5⟩ (kp_f kp_rf rfl) h2 n4 n5 n6 a3 h5
  · have := pos_in h.1 h.2.1
    omega
theorem sp_expect {a : Int32} {Q T : St → St → List Nat → Prop} (h : PA σ τ) (ha : 2 ≤ ((32 : Int32) + a).toInt) (k : kd σ = ((32 : Int32) + a).toInt → RL σ vs (nxt σ) τ vs → pos σ + 1 ≤ pos (nxt σ) → ((nxt σ) 0 17).toInt = (σ 0 17).toInt → ((nxt σ) 0 39).toInt = (σ 0 39).toInt → Q (nxt σ) τ vs) (kt : ∀ s, RTx σ vs s τ vs → T s τ vs) : wp_expect a σ τ vs Q T := by
  unfold wp_expect
  refine sp_is h (fun e => ⟨fun _ => ?_, fun c => absurd c (by decide)⟩) (fun _ => ⟨fun c => absurd rfl c, fun _ => sp_wrong h kt⟩)
  obtain ⟨g1, g2, g3, g4⟩ := rl_nxt (vs := vs) h (by rw [e]; exact ha)
  exact k e g1 g2 g3 g4
theorem sp_deeper {d : Int32} {Q : Int32 → St → St → List Nat → Prop} {T : St → St → List Nat → Prop} (h : PA σ τ) (h1 : 0 ≤ d.toInt ∧ d.toInt ≤ 25) (k : d.toInt + 1 ≤ 25 → (d + 1).toInt = d.toInt + 1 → Q (d + 1) σ τ vs) (kt : ∀ s, RTx σ vs s τ vs → T s τ vs) : wp_deeper d σ τ vs Q T := by
  unfold wp_deeper
  exact ⟨fun c => k (by omega) (ad1 (by omega)), fun _ => sp_wrong h kt⟩
end TOKS
end

section
/-! the words put, with the height of the stack and a level at each -/
abbrev Gh : Type := Nat → Option (Nat × Nat)
def Nx (g : Gh) (k pc pc' h' : Nat) : Prop := h' ≤ 546 ∧ ∃ k', g pc' = some (h', k') ∧ (k' < k ∨ (k' = k ∧ pc < pc'))
def OPn (n : Nat) (a : Int) (g : Gh) (nl : Int) (vd : Prop) (C : Int → Nat → Nat → Prop) (pc h k : Nat) : Prop :=
  match n with
  | 0 => Nx g k pc (pc + 2) (h + 1)
  | 1 => (0 ≤ a ∧ a < 100) ∧ Nx g k pc (pc + 2) (h + 1)
  | 2 => Nx g k pc (pc + 2) (h + 1)
  | 3 => (0 ≤ a ∧ a < nl) ∧ Nx g k pc (pc + 2) (h + 1)
  | 4 => (0 ≤ a ∧ a < nl) ∧ Nx g k pc (pc + 2) (h + 1)
  | 5 => 1 ≤ h ∧ Nx g k pc (pc + 2) h
  | 6 => 2 ≤ h ∧ Nx g k pc (pc + 2) (h - 1)
  | 7 => (0 ≤ a ∧ a < nl) ∧ 1 ≤ h ∧ Nx g k pc (pc + 2) h
  | 8 => (0 ≤ a ∧ a < nl) ∧ Nx g k pc (pc + 2) h
  | 9 => 1 ≤ h ∧ Nx g k pc (pc + 1) (h + 1)
  | 10 => 1 ≤ h ∧ Nx g k pc (pc + 1) (h - 1)
  | 11 => 2 ≤ h ∧ Nx g k pc (pc + 3) (h - 1)
  | 12 => 1 ≤ h ∧ Nx g k pc (pc + 1) h
  | 13 => 1 ≤ h ∧ Nx g k pc (pc + 1) h
  | 14 => 1 ≤ h ∧ Nx g k pc (pc + 1) h
  | 15 => 0 ≤ a ∧ Nx g k pc a.toNat h ∧ g (pc + 2) ≠ none
  | 16 => 1 ≤ h ∧ 0 ≤ a ∧ Nx g k pc a.toNat (h - 1) ∧ Nx g k pc (pc + 2) (h - 1)
  | 17 => 1 ≤ h ∧ 0 ≤ a ∧ Nx g k pc a.toNat (h - 1) ∧ Nx g k pc (pc + 2) (h - 1)
  | 18 => h ≤ 546 ∧ ∃ k', g (pc + 2) = some (h, k')
  | 19 => ∃ h', C a h h' ∧ Nx g k pc (pc + 3) h'
  | 20 => h = 0 ∧ vd
  | 21 => h = 1 ∧ ¬ vd
  | 22 => 1 ≤ h ∧ Nx g k pc (pc + 4) h
  | 23 => (0 ≤ a ∧ a < nl) ∧ Nx g k pc (pc + 4) (h + 1)
  | 24 => 1 ≤ h ∧ Nx g k pc (pc + 1) h
  | _ => False
def OPw (w : Nat → Int32) (g : Gh) (nl : Int) (vd : Prop) (C : Int → Nat → Nat → Prop) (pc h k : Nat) : Prop := 0 ≤ (w pc).toInt ∧ OPn (w pc).toInt.toNat (w (pc + 1)).toInt g nl vd C pc h k
theorem nx_mono {g g' : Gh} {k pc pc' h' : Nat} (hg : ∀ q v, g q = some v → g' q = some v) (h : Nx g k pc pc' h') : Nx g' k pc pc' h' := by
  obtain ⟨h1, k', h2, h3⟩ := h
  exact ⟨h1, k', hg _ _ h2, h3⟩
theorem nx_some {g : Gh} {k pc pc' h' : Nat} (h : Nx g k pc pc' h') : g pc' ≠ none := by
  obtain ⟨h1, k', h2, h3⟩ := h
  rw [h2]
  exact fun q => by cases q
theorem opn_mono {n : Nat} {a a' : Int} {g g' : Gh} {nl nl' : Int} {vd vd' : Prop} {C C' : Int → Nat → Nat → Prop} {pc h k : Nat} (hg : ∀ q v, g q = some v → g' q = some v) (ha : (∀ q, pc + 1 < q → g q = none) ∨ a' = a) (hn : nl ≤ nl') (hv : vd ↔ vd') (hC : ∀ a h h', C a h h' → C' a h h') (H : OPn n a g nl vd C pc h k) : OPn n a' g' nl' vd' C' pc h k := by
  have e : ∀ q, pc + 1 < q → g q ≠ none → a' = a := fun q h1 h2 => ha.elim (fun z => absurd (z q h1) h2) id
  have e2 : ∀ {q h' k'}, pc + 1 < q → Nx g k' pc q h' → a' = a := fun h1 h2 => e _ h1 (nx_some h2)
  match n, H with
  | 0, H => exact nx_mono hg H
  | 1, H =>
    cases e2 (by omega) H.2
    exact ⟨H.1, nx_mono hg H.2⟩
  | 2, H => exact nx_mono hg H
  | 3, H =>
    cases e2 (by omega) H.2
    exact ⟨⟨H.1.1, Int.lt_of_lt_of_le H.1.2 hn⟩, nx_mono hg H.2⟩
  | 4, H =>
    cases e2 (by omega) H.2
    exact ⟨⟨H.1.1, Int.lt_of_lt_of_le H.1.2 hn⟩, nx_mono hg H.2⟩
  | 5, H => exact ⟨H.1, nx_mono hg H.2⟩
  | 6, H => exact ⟨H.1, nx_mono hg H.2⟩
  | 7, H =>
    cases e2 (by omega) H.2.2
    exact ⟨⟨H.1.1, Int.lt_of_lt_of_le H.1.2 hn⟩, H.2.1, nx_mono hg H.2.2⟩
  | 8, H =>
    cases e2 (by omega) H.2
    exact ⟨⟨H.1.1, Int.lt_of_lt_of_le H.1.2 hn⟩, nx_mono hg H.2⟩
  | 9, H => exact ⟨H.1, nx_mono hg H.2⟩
  | 10, H => exact ⟨H.1, nx_mono hg H.2⟩
  | 11, H => exact ⟨H.1, nx_mono hg H.2⟩
  | 12, H => exact ⟨H.1, nx_mono hg H.2⟩
  | 13, H => exact ⟨H.1, nx_mono hg H.2⟩
  | 14, H => exact ⟨H.1, nx_mono hg H.2⟩
  | 15, H =>
    cases e _ (by omega) H.2.2
    refine ⟨H.1, nx_mono hg H.2.1, fun q => ?_⟩
    cases q2 : g (pc + 2) with
    | none => exact H.2.2 q2
    | some v =>
      rw [hg _ _ q2] at q
      cases q
  | 16, H =>
    cases e2 (by omega) H.2.2.2
    exact ⟨H.1, H.2.1, nx_mono hg H.2.2.1, nx_mono hg H.2.2.2⟩
  | 17, H =>
    cases e2 (by omega) H.2.2.2
    exact ⟨H.1, H.2.1, nx_mono hg H.2.2.1, nx_mono hg H.2.2.2⟩
  | 18, H =>
    obtain ⟨h0, k', h1⟩ := H
    exact ⟨h0, k', hg _ _ h1⟩
  | 19, H =>
    obtain ⟨h', h1, h2⟩ := H
    cases e2 (by omega) h2
    exact ⟨h', hC _ _ _ h1, nx_mono hg h2⟩
  | 20, H => exact ⟨H.1, hv.mp H.2⟩
  | 21, H => exact ⟨H.1, fun q => H.2 (hv.mpr q)⟩
  | 22, H => exact ⟨H.1, nx_mono hg H.2⟩
  | 23, H =>
    cases e2 (by omega) H.2
    exact ⟨⟨H.1.1, Int.lt_of_lt_of_le H.1.2 hn⟩, nx_mono hg H.2⟩
  | 24, H => exact ⟨H.1, nx_mono hg H.2⟩
def CO (σ : St) (n : Int) (h h' : Nat) : Prop := 0 ≤ n ∧ Fi σ + n < (σ 0 36).toInt ∧ ∃ e : Nat, (e : Int) = Fi σ + n ∧ ((σ 9) e).toInt = 2 ∧ (σ 14) e ≠ 0 ∧ 0 ≤ ((σ 21) n.toNat).toInt ∧ ((σ 15) e).toInt ≤ h ∧ (h' : Int) = h - ((σ 15) e).toInt + (if ((σ 10) e).toInt = -1 then 0 else 1)
def OKc (σ : St) (g : Gh) (pc h k : Nat) : Prop := OPw (σ 8) g (σ 0 49).toInt ((σ 0 55) ≠ 0) (CO σ) pc h k
def TY (σ : St) (g : Gh) (X : Nat → Prop) (E0 H L : Nat) : Prop := E0 ≤ wcn σ ∧ g (wcn σ) = some (H, L) ∧ (∀ q, wcn σ < q → g q = none) ∧ (∀ q, q < E0 → g q = none) ∧ ∀ q h k, g q = some (h, k) → q < wcn σ → ¬ X q → OKc σ g q h k
def Ext (g g' : Gh) (n : Nat) : Prop := ∀ q, q ≤ n → g' q = g q
theorem ext_rf {g : Gh} {n : Nat} : Ext g g n := fun _ _ => rfl
theorem ext_tr {g g' g'' : Gh} {n m : Nat} (h : Ext g g' n) (h2 : Ext g' g'' m) (hm : n ≤ m) : Ext g g'' n := fun q hq => (h2 q (Nat.le_trans hq hm)).trans (h q hq)
/-- words put -/
def PU (σ s : St) (ws : List Int32) : Prop := Kp [(0, 17)] [8] σ s ∧ (s 0 17).toInt = (σ 0 17).toInt + ws.length ∧ (∀ j : Nat, (j : Int) < (σ 0 17).toInt → (s 8) j = (σ 8) j) ∧ ∀ i v, ws[i]? = some v → (s 8) (wcn σ + i) = v
section PUT
variable {σ s τ : St} {vs : List Nat}
theorem pu_tr {s' : St} {as bs : List Int32} (h0 : 0 ≤ (σ 0 17).toInt) (h : PU σ s as) (g : PU s s' bs) : PU σ s' (as ++ bs) := by
  obtain ⟨h1, h2, h3, h4⟩ := h
  obtain ⟨g1, g2, g3, g4⟩ := g
  have e0 : (wcn σ : Int) = (σ 0 17).toInt := nt h0
  have e1 : (wcn s : Int) = (s 0 17).toInt := nt (by omega)
  refine ⟨kp_tr h1 g1, by rw [List.length_append]; omega, fun j hj => (g3 j (by omega)).trans (h3 j hj), fun i v hi => ?_⟩
  by_cases q : i < as.length
  · rw [List.getElem?_append_left q] at hi
    rw [g3 _ (by omega), h4 i v hi]
  · rw [List.getElem?_append_right (by omega)] at hi
    have e2 : wcn σ + i = wcn s + (i - as.length) := by omega
    rw [e2, g4 _ _ hi]
theorem sp_put_0 {a : Int32} {Q : St → St → List Nat → Prop} (h0 : 0 ≤ (σ 0 17).toInt) (h1 : (σ 0 17).toInt ≤ 500000) (k : ∀ s, PU σ s [a] → Q s τ vs) : wp_put_0 a σ τ vs Q := by
  unfold wp_put_0
  have e4 : ((σ 0 17) + (4 : Int32)).toInt = (σ 0 17).toInt + 4 := adc (by decide) (by omega) (by omega)
  refine ⟨fun _ => ⟨⟨h0, by omega⟩, k _ ⟨kp_f (kp_a kp_rf rfl) rfl, ?_, fun j hj => ?_, fun i v hi => ?_⟩⟩, fun c => absurd c (by omega)⟩
  · rw [rdA_eq rfl, ad1 (by omega)]; rfl
  · have en := nt h0
    show upC σ 8 _ a 8 j = _
    rw [rdA_ne]
    omega
  · match i, hi with
    | 0, hi =>
      have e : a = v := Option.some.inj hi
      subst e
      show upC σ 8 _ a 8 _ = _
      rw [rdA_eq]
      rfl
theorem sp_put_1 {a b : Int32} {Q : St → St → List Nat → Prop} (h0 : 0 ≤ (σ 0 17).toInt) (h1 : (σ 0 17).toInt ≤ 499990) (k : ∀ s, PU σ s [a, b] → Q s τ vs) : wp_put_1 a b σ τ vs Q := by
  unfold wp_put_1
  refine sp_put_0 h0 (by omega) (fun s hs => ?_)
  have hw : (s 0 17).toInt = (σ 0 17).toInt + 1 := hs.2.1
  exact sp_put_0 (by omega) (by omega) (fun s' hs' => k s' (pu_tr h0 hs hs'))
theorem sp_put_2 {a b c : Int32} {Q : St → St → List Nat → Prop} (h0 : 0 ≤ (σ 0 17).toInt) (h1 : (σ 0 17).toInt ≤ 499980) (k : ∀ s, PU σ s [a, b, c] → Q s τ vs) : wp_put_2 a b c σ τ vs Q := by
  unfold wp_put_2
  refine sp_put_1 h0 (by omega) (fun s hs => ?_)
  have hw : (s 0 17).toInt = (σ 0 17).toInt + 2 := hs.2.1
  exact sp_put_0 (by omega) (by omega) (fun s' hs' => k s' (pu_tr h0 hs hs'))
theorem sp_open {a : Int32} {Q : Int32 → St → St → List Nat → Prop} (h0 : 0 ≤ (σ 0 17).toInt) (h1 : (σ 0 17).toInt ≤ 499990) (k : ∀ (v : Int32) s, PU σ s [a, -1] → v.toInt = (σ 0 17).toInt + 1 → Q v s τ vs) : wp_open a σ τ vs Q := by
  unfold wp_open
  refine sp_put_1 h0 h1 (fun s hs => k _ s hs ?_)
  have hw : (s 0 17).toInt = (σ 0 17).toInt + 2 := hs.2.1
  rw [sb1 (by omega)]
  omega
theorem rl_pu {t z} {ws : List Int32} (h : PA σ τ) (p : PU σ s ws) (hv : VOK t) (hz : ∀ u ∈ vs, u ∈ z) (hl : vs.length ≤ z.length) : RL σ vs s t z := by
  have h9 := h
  obtain ⟨h1, h2, ⟨n1, n2, n3, n4, n5, n6, n7⟩, ⟨a1, a2, a3, a4, a5, a6, a7, a8, a9, b1, b2, b3⟩, h5⟩ := h9
  obtain ⟨p1, p2, p3, p4⟩ := p
  have k : KE σ s := kp_sub p1 rfl rfl
  have e1 : (s 0 10) = (σ 0 10) := p1 _ _ rfl rfl
  have e2 : (s 0 8) = (σ 0 8) := p1 _ _ rfl rfl
  have e3 : (s 0 37) = (σ 0 37) := p1 _ _ rfl rfl
  have e4 : (s 0 39) = (σ 0 39) := p1 _ _ rfl rfl
  have e5 : (s 21) = (σ 21) := funext (fun j => p1 21 j rfl rfl)
  have e6 : (s 3) = (σ 3) := funext (fun j => p1 3 j rfl rfl)
  have e7 : (s 14) = (σ 14) := funext (fun j => p1 14 j rfl rfl)
  have e8 : (s 0 12) = (σ 0 12) := p1 _ _ rfl rfl
  refine ⟨k, pa_ke h k (by unfold AtOK; rw [e1, e2]; exact h2) (by rw [e3]; exact n4) (by omega) (by rw [e4]; exact n6) (by rw [e5]; exact a3) hv, p3, ⟨fun e q => by rw [e7]; exact q, fun n q => by rw [e5]; exact q⟩, of_eq e8, by omega, by rw [e4]; omega, ?_, hz, hl, ie_of (funext (fun j => p1 25 j rfl rfl)) e4 e3⟩
  unfold pos
  rw [e1, e6]
  omega
end PUT
end

