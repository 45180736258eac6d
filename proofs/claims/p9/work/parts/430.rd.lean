theorem mV_X14_cut : MeV y_X14_cut b_X14_cut 7 none 0 := ⟨m_2186, m_18, m_2185, ms_X14_cut, by decide, by decide, by decide +kernel⟩
theorem mV_X14_bodiless : MeV y_X14_bodiless b_X14_bodiless 4 none 0 := ⟨m_2635, m_18, m_2634, ms_X14_bodiless, by decide, by decide, by decide +kernel⟩
theorem mV_X14_item : MeV y_X14_item b_X14_item 6 none 0 := ⟨m_2272, m_18, m_2271, ms_X14_item, by decide, by decide, by decide +kernel⟩
/-! a method with a table of handlers: its contract, its call, what it catches -/
def exq (hh : List (Nat × Nat × Nat × Nat)) : List ExceptionTableEntry := hh.map (fun q => { startPc := q.1, endPc := q.2.1, handlerPc := q.2.2.1, catchType := q.2.2.2 })
theorem exq_of {l : List ExceptionTableEntry} {hh : List (Nat × Nat × Nat × Nat)} (h : l.map (fun h => (h.startPc, h.endPc, h.handlerPc, h.catchType)) = hh) : l = exq hh := by
  subst h
  unfold exq
  rw [List.map_map]
  exact (List.map_id l).symm
section CTW
variable {l : Launch} {D : va_G} {cy : Nat → ClassId} {S : Sh} {r : Nat → Nat} {E : (Nat → Prop) → State → Prop} {y : MethodName} {cc : ByteArray} {maxL : Nat} {ret : Option FieldType} {d : Nat} {as : List Value} {σ τ : St} {vs : List Nat} {Qr : QR} {Qt : QT} {hh : List (Nat × Nat × Nat × Nat)}
theorem Ct_ofW (hEo : EnvOK E) (hy : plainName y.cls = true) (hn : (lg_sl as).length ≤ maxL) (hcap : vs.length ≤ CAP)
    (body : ∀ X : Cx, X.2.2.2.2.2.2.2.2.2.2.2.2.2.2.1 = maxL → Fx S r X (exq hh) cc y.cls ret d Qr Qt E → G S r X σ τ vs (lv_args 0 as) [] 0) :
    Ct l D cy S r E y (Cond.codeWith y cc maxL ret hh) d as σ τ vs Qr Qt := by
  intro sz
  refine MetFree.of_bodyS (code := cc) (maxLocals := maxL) (ret := ret) hy ?_ ?_
  · intro args s m h hn
    obtain ⟨m9, meth, c, hn9, h1, h2, h3, h4, -, h5, h6, -⟩ := Cond.codeWith_spec (atoms_spec (ws := Cond.codeWith y cc maxL ret hh :: GW) h _ List.mem_cons_self)
    cases hn.symm.trans hn9
    exact ⟨meth, c, h1, h2, h3, h4, h5, h6⟩
  · intro p e s m args below meth c s₁ B hml hP _
    have hh0 : s₁.heap = s.heap := by rw [B.state]; rfl
    have ht : c.exceptionTable.toList = exq hh := by
      obtain ⟨m9, meth9, c9, hn9, h1, h2, -, -, h7, -, -, -⟩ := Cond.codeWith_spec (atoms_spec (ws := Cond.codeWith y cc maxL ret hh :: GW) B.pre _ List.mem_cons_self)
      cases B.named.symm.trans hn9
      cases Option.some.inj (h1.symm.trans B.method)
      cases Option.some.inj (h2.symm.trans (Stand.of_body B).code)
      exact exq_of h7
    obtain ⟨rfl, ⟨hsz, hNW, hPw, hK, hD0⟩, hE⟩ := hP
    subst hsz
    have X := Stand.of_body B
    rw [lg_entry_eq]
    obtain ⟨t, o, a1, b1, b2, b3⟩ := body_end hEo hcap B.exec B.bytes hml (findClass_of_methodNamed B.named) B.returns B.notSynchronized (fun w h => atoms_spec B.pre w (List.mem_cons_of_mem _ h)) hNW hK hPw hD0 hE ht (lv_entry as hn) hh0 X body
    exact ⟨t, o, a1, b1, b2, b3⟩
end CTW
section GCW
variable {S : Sh} {r : Nat → Nat} {X : Cx} {ex : List ExceptionTableEntry} {cc : ByteArray} {own : String} {ret : Option FieldType} {d : Nat} {Qr : QR} {Qt : QT} {E : (Nat → Prop) → State → Prop} {σ τ : St} {vs : List Nat} {L : List (Nat × Value)} {rest st : List Value} {pc : Nat}
def MeVW (y : MethodName) (bytes : ByteArray) (maxL : Nat) (ret : Option FieldType) (hh : List (Nat × Nat × Nat × Nat)) (n : Nat) : Prop := Cond.codeWith y bytes maxL ret hh ∈ GW ∧ Cond.initialized y.cls ∈ GW ∧ Cond.instanceMethod y ∈ GW ∧ Cond.selects y.cls y y ∈ GW ∧ maxL ≤ 21 ∧ (y.cls ≠ "java/lang/invoke/MethodHandle" ∧ y.cls ≠ "java/lang/invoke/VarHandle") ∧ (parseMethodDescriptor y.desc).map (fun d => d.parameters.length) = some n
theorem code_ofW {y : MethodName} {bytes : ByteArray} {maxL : Nat} {ret : Option FieldType} {hh : List (Nat × Nat × Nat × Nat)} {s : State} {args : Array Value} (hg : ∀ w ∈ GW, w.before args s = true) (h : Cond.codeWith y bytes maxL ret hh ∈ GW) : ∀ (a' : Array Value) (U : State) (mk : MethodId), s.WarmedH U.vm → U.methodNamed? y = some mk → ∃ meth c, U.vm.method? mk = some meth ∧ meth.code = some c ∧ c.maxLocals = maxL := fun a' U mk hW hn => by
  have h2 : (Cond.codeWith y bytes maxL ret hh).before a' U = true := pay_in hg (gw_c h) _ List.mem_cons_self a' U hW
  obtain ⟨m9, methY, cY, hn9, hmY, hcY, -, hlY, -, -, -, -⟩ := Cond.codeWith_spec h2
  cases hn.symm.trans hn9
  exact ⟨methY, cY, hmY, hcY, hlY⟩
theorem g_callVW (hF : Fx S r X ex cc own ret d Qr Qt E) {index d' maxL n b : Nat} {y : MethodName} {bytes : ByteArray} {rt : Option FieldType} {hh : List (Nat × Nat × Nat × Nat)} {As st : List Value} {Qr' : QR}
    (C : ∀ (l : Launch) (D : va_G) (cy : Nat → ClassId), Ct l D cy S r E y (Cond.codeWith y bytes maxL rt hh) d' (.ref b :: As) σ τ vs Qr' (fun _ _ _ => False)) (hd' : d' + 1 ≤ d) (hme : MeVW y bytes maxL rt hh n) (hw : Cond.methodLink own index y ∈ GW) (hrec : Recv S r E vs y.cls b) (hst : st = As.reverse ++ .ref b :: rest) (hn : As.length = n) (hcat : (rest.map fun v => v.category).sum ≤ 8) (hd : decode cc pc = .ok (.invokevirtual index, 3))
    (kk : ∀ v σ' τ' vs', Qr' v σ' τ' vs' → G S r X σ' τ' vs' L (v.toList ++ rest) (pc + 3)) : G S r X σ τ vs L st pc := by
  obtain ⟨p, l, e, R, s, m, args, below, meth, c, A, D, cy, Q, nL, n0⟩ := X
  obtain ⟨hx, hb, hml, hown, hret, hlk, hR, hQ, hg, hNW, hK, hA, hE, hEo, hex⟩ := hF
  intro H locs ls hP hD hS hl h1 h2
  subst hst
  have hFr : ∀ q, va_A (wld S cy r σ τ vs) H.size q → A q := fun q h => va_free (wc := wld S cy r σ τ vs) hD hS hA (List.range (wld S cy r σ τ vs).length) (range_get _) q h
  obtain ⟨hc1, hc2, hc3, hc4, hm, hy, hpd⟩ := hme
  have hroom := g_room hR hd' hm
  have hK9 := gx_back (l := l) (R := R) (p := p) (e := e) (below := below) (s := s) (sargs := args) (len := 3) (W9 := 8) (C l D cy H.size) (kPreE.blind hEo) hroom.1 hroom.2 (pay_in hg (gw_c hc1)) (code_ofW hg hc1) (init_of hg hc2)
  have hK9 := back_of_vx hK9 (fun _ _ _ _ h => by obtain ⟨_, _, _, _, _, _, _, _, _, _, _, _, _, _, h, _⟩ := h; exact h)
  have hlen : ∀ sig, parseMethodDescriptor y.desc = some sig → As.length = sig.parameters.length := fun sig h => by
    rw [h] at hpd
    exact hn.trans (Option.some.inj hpd).symm
  intro T hT X
  obtain ⟨cell, hce, hcs, hcc⟩ := hrec D cy A s H locs σ τ hK hP hS hE
  have hPre : ∀ vm₁, s.WarmedH vm₁ → gPre R vs.length (va_Pc (.ref b :: As) (kPreE D cy H.size (wld S cy r σ τ vs) E)) ⟨T.setVm vm₁, locs, vs.length - n0, 9 * (vs.length - n0)⟩ (Value.ref b :: As).toArray := fun vm₁ hW₁ => ⟨(g_cells hR h1 h2).1, (g_cells hR h1 h2).2, rfl, ⟨by show T.heap.size = H.size; rw [hT], nwOK.warm (U := T.setVm vm₁) hW₁ hNW, by show va_P D vwCl _ T.heap; rw [hT]; exact hP, va_K.moved (u := s) (U := T.setVm vm₁) hW₁.alike hK, va_D.weaken hD (fun _ _ _ _ => trivial)⟩, hEo A _ s (T.setVm vm₁) hW₁ (fun a q1 q2 => by show T.heap[a]? = _; rw [hT]; exact hS.2.1 a q1 q2) (fun q h => hFr q h) hE⟩
  obtain ⟨v, vm₁, ⟨U', l2, c2, s2⟩, hW₁, X', ⟨g', mk, t, L, σ', τ', vs', e1, e2, w1, w2, w3, w4, hq, q1, hL, q2, q3⟩, st⟩ := vx_callVW X hx (C := y.cls) (hh := hh) (bytes := bytes) (maxL := maxL) (ret := rt) hown (hg _ hw) (hg _ hc3) (hg _ hc4) (hg _ hc1) hy hK9 (by rw [hT]; exact hce) hcs hcc (g := F0 m pc ls (As.reverse ++ .ref b :: rest)) rfl (hl.1.trans hml.symm) (argsL := As) (rest := rest) hlen rfl (lv_room hcat) (by rw [hb]; exact hd) hPre
  · skip
    dsimp only [Pt.U, Pt.locs, Pt.cells, Pt.slots] at X' e1 e2 q1 q2 q3 st
    subst q1; subst q2; subst q3
    obtain ⟨k1, k2, k3⟩ := vx_keep (H := H) (locs := locs) hT e1 hS (fun q _ hq9 => hFr q hq9) hFr hL w2
    have h9 := kk v σ' τ' vs' hq U'.heap (locs ++ L) ls (by rw [e1]; exact w1.1) (va_D.weaken w1.2.2 (fun _ q _ h => hFr q.1 h)) k3 hl (Nat.le_trans h1 w3) w4
    have e5 : vs.length - n0 + (vs'.length - vs.length) = vs'.length - n0 := by omega
    have e6 : 9 * (vs.length - n0) + 9 * (vs'.length - vs.length) = 9 * (vs'.length - n0) := by omega
    rw [e5, e6] at X'
    obtain ⟨t2, a1, b1⟩ := h9 U' rfl X'
    exact ⟨t2, st _ a1, b1⟩
theorem g_catch (hF : Fx S r X ex cc own ret d Qr Qt E) (hs : StopOK S) (x : ExceptionTableEntry) (he : ex = [x]) (hx : covers x pc = true) (h0 : x.catchType ≠ 0) (hl : Cond.classLink own x.catchType ISE ∈ GW) (k : G S r X σ τ vs L [.ref (r S.2.2.2)] x.handlerPc) : GT S r X σ τ vs L st pc := by
  obtain ⟨p, l, e, R, s, m, args, below, meth, c, A, D, cy, Q, nL, n0⟩ := X
  obtain ⟨hx9, hb, hml, hown, hret, hlk, hR, hQ, hg, hNW, hK, hA, hE, hEo, hex⟩ := hF
  intro H locs ls hP hD hS hl9 h1 h2
  obtain ⟨ce, hce, hcv, hcl⟩ := stop_cell hs hK hP
  intro T hT X
  have hpl : e.platform.magicAccessors = ({} : Platform).magicAccessors := by rw [X.admits.platform]
  obtain ⟨c5, hc5, hcl5⟩ := Cond.classLink_spec hown (hg _ hl) e.platform hpl
  have e9 : c5 = ce.cls := Option.some.inj (hc5.symm.trans hcl)
  subst e9
  obtain ⟨vm', X', st9⟩ := X.thenCaughtThrough (r S.2.2.2) (g := F0 m pc ls st) rfl (Steps.refl _) (by rw [hT]; exact hce) (by rw [hcv]; rfl) (by obtain ⟨k9, h9, -⟩ := Vm.findClass_spec hcl; exact ⟨k9, h9⟩) [] x [] (hex.trans he) (fun z hz => absurd hz List.not_mem_nil) hx (Or.inr ⟨h0, _, hcl5, va_asg _ _⟩)
  obtain ⟨t, a1, b1⟩ := k H locs ls hP hD hS hl9 h1 h2 (T.setVm vm') hT X'
  exact ⟨t, st9.trans a1, b1⟩
end GCW
theorem mVW_X14_read_0 : MeVW y_X14_read_0 b_X14_read_0 2 (some .int) [(9, 46, 49, 29)] 0 := ⟨m_2182, m_18, m_2181, ms_X14_read_0, by decide, by decide, by decide +kernel⟩
def wp_read_0 (σ τ : St) (vs : List Nat) (Q : Int32 → St → St → List Nat → Prop) : Prop :=
  wp_cut σ τ vs (fun s1 t1 z1 => ∃ L9 : Nat → St → St → List Nat → Prop, (∃ n, L9 n (upC s1 0 10 (0 : Int32)) t1 z1) ∧ ∀ (n9 : Nat) (s9 t9 : St) (z9 : List Nat), L9 n9 s9 t9 z9 → (((0 ≤ (s9 0 10).toInt ∧ (s9 0 10).toInt < 16002) ∧ ((s9 2 (s9 0 10).toNatClampNeg).toInt = 0 → wp_bodiless s9 t9 z9 (fun s54 t54 z54 => ((s54 0 12).toInt ≠ 0 → Q (((-20) : Int32) - (s54 0 12)) (upC s54 0 14 (s54 0 13)) t54 z54) ∧ ((s54 0 12).toInt = 0 → Q (0 : Int32) s54 t54 z54))) ∧ ((s9 2 (s9 0 10).toNatClampNeg).toInt ≠ 0 → ((0 ≤ (s9 0 10).toInt ∧ (s9 0 10).toInt < 16002) ∧ ((s9 2 (s9 0 10).toNatClampNeg).toInt ≠ 1 → wp_item s9 t9 z9 (fun s40 t40 z40 => ∃ m, m < n9 ∧ L9 m s40 t40 z40) (fun s40x t40x z40x => Q ((-21) : Int32) s40x t40x z40x)) ∧ ((s9 2 (s9 0 10).toNatClampNeg).toInt = 1 → wp_wrong s9 t9 z9 (fun s35 t35 z35 => Q ((-21) : Int32) s35 t35 z35)))))))
set_option maxHeartbeats 4000000 in
set_option maxRecDepth 100000 in
theorem ct_read_0 (a : Nat → Nat) (r : Nat → Nat) {σ τ : St} {vs : List Nat} {Q : Int32 → St → St → List Nat → Prop} (hcap : vs.length ≤ CAP) (w : wp_read_0  σ τ vs Q) (l : Launch) (D : va_G) (cy : Nat → ClassId) : Ct l D cy SM r (EM a) y_X14_read_0 (Cond.codeWith y_X14_read_0 b_X14_read_0 2 (some .int) [(9, 46, 49, 29)]) 1234 [.ref (r 0)] σ τ vs (QIs Q) QT0 := by
  unfold wp_read_0 at w
  refine Ct_ofW (EM_ok a) (by decide) (Nat.le_of_ble_eq_true rfl) hcap (fun X hnn hF => ?_)
  show G SM r X σ τ vs [(0, .ref (r 0))] [] 0
  refine g_aload_n hF d_X14_read_0_0 rfl 0 rfl ?_
  refine g_callV (As := []) (rest := []) hF (fun l D cy => (ct_cut a r hcap w) l D cy) (Nat.le_of_ble_eq_true rfl) mV_X14_cut m_2183 (recv_ob obM_0) rfl rfl (Nat.le_of_ble_eq_true rfl) d_X14_read_0_1 (kV (fun s1 t1 z1 w1 => ?_)) (fun _ _ _ h => h.elim)
  refine g_aload_n hF d_X14_read_0_4 rfl 0 rfl ?_
  refine g_iconst hF (v := 0) d_X14_read_0_5 (by decide) ?_
  refine g_put (v := 0) hF 10 obM_0 (by decide) m_1875 rfl rfl rfl d_X14_read_0_6 ?_
  obtain ⟨L9, ⟨i9, u9⟩, h9⟩ := w1
  have b9 : ∀ (n9 : Nat) (s9 t9 : St) (z9 : List Nat), L9 n9 s9 t9 z9 → G SM r X s9 t9 z9 [(0, .ref (r 0))] [] 9 := by
    intro n9
    induction n9 using Nat.strongRecOn with
    | _ n9 ih9 =>
      intro s9 t9 z9  w9_
      have w9_ := h9 n9 s9 t9 z9  w9_
      refine g_aload_n hF d_X14_read_0_9 rfl 0 rfl ?_
      refine g_get (v := .ref (r 2)) hF 3 obM_0 (by decide) m_1868 rfl d_X14_read_0_10 ?_
      refine g_aload_n hF d_X14_read_0_13 rfl 0 rfl ?_
      refine g_get (v := .int (s9 0 10)) hF 10 obM_0 (by decide) m_1875 rfl d_X14_read_0_14 ?_
      have w2 := w9_.2
      refine g_iald hF arM_2 (s_in (Nat.le_of_ble_eq_true rfl) w9_.1.1 w9_.1.2) d_X14_read_0_17 ?_
      refine g_top (v := (s9 2 (s9 0 10).toNatClampNeg)) rfl ?_
      refine g_if_eq hF 46 d_X14_read_0_18 (by decide) rfl (fun c => ?_) (fun c => ?_)
      · have w3 := w2.1 c
        refine g_goto hF 53 d_X14_read_0_46 (by decide) ?_
        refine g_aload_n hF d_X14_read_0_53 rfl 0 rfl ?_
        refine g_cap (fun hc3 => ?_)
        refine g_callV (As := []) (rest := []) hF (fun l D cy => (ct_bodiless a r hc3 w3) l D cy) (Nat.le_of_ble_eq_true rfl) mV_X14_bodiless m_2632 (recv_ob obM_0) rfl rfl (Nat.le_of_ble_eq_true rfl) d_X14_read_0_54 (kV (fun s54 t54 z54 w5 => ?_)) (fun _ _ _ h => h.elim)
        refine g_aload_n hF d_X14_read_0_57 rfl 0 rfl ?_
        refine g_get (v := .int (s54 0 12)) hF 12 obM_0 (by decide) m_1877 rfl d_X14_read_0_58 ?_
        refine g_if_ne hF 66 d_X14_read_0_61 (by decide) rfl (fun c => ?_) (fun c => ?_)
        · have w6 := w5.1 c
          refine g_aload_n hF d_X14_read_0_66 rfl 0 rfl ?_
          refine g_aload_n hF d_X14_read_0_67 rfl 0 rfl ?_
          refine g_get (v := .int (s54 0 13)) hF 13 obM_0 (by decide) m_1878 rfl d_X14_read_0_68 ?_
          refine g_put (v := (s54 0 13)) hF 14 obM_0 (by decide) m_1879 rfl rfl rfl d_X14_read_0_71 ?_
          refine g_bipush hF (v := (-20)) d_X14_read_0_74 (by decide) ?_
          refine g_aload_n hF d_X14_read_0_76 rfl 0 rfl ?_
          refine g_get (v := .int (s54 0 12)) hF 12 obM_0 (by decide) m_1877 rfl d_X14_read_0_77 ?_
          refine g_isub hF d_X14_read_0_80 ?_
          exact g_iret hF rfl d_X14_read_0_81 ⟨(((-20) : Int32) - (s54 0 12)), rfl, w6⟩
        · have w7 := w5.2 c
          refine g_iconst hF (v := 0) d_X14_read_0_64 (by decide) ?_
          exact g_iret hF rfl d_X14_read_0_65 ⟨(0 : Int32), rfl, w7⟩
      · have w8 := w2.2 c
        refine g_aload_n hF d_X14_read_0_21 rfl 0 rfl ?_
        refine g_get (v := .ref (r 2)) hF 3 obM_0 (by decide) m_1868 rfl d_X14_read_0_22 ?_
        refine g_aload_n hF d_X14_read_0_25 rfl 0 rfl ?_
        refine g_get (v := .int (s9 0 10)) hF 10 obM_0 (by decide) m_1875 rfl d_X14_read_0_26 ?_
        have w9 := w8.2
        refine g_iald hF arM_2 (s_in (Nat.le_of_ble_eq_true rfl) w8.1.1 w8.1.2) d_X14_read_0_29 ?_
        refine g_top (v := (s9 2 (s9 0 10).toNatClampNeg)) rfl ?_
        refine g_iconst hF (v := 1) d_X14_read_0_30 (by decide) ?_
        refine g_icmp_ne (yv := 1) hF 39 d_X14_read_0_31 (by decide) rfl (by decide) (fun c => ?_) (fun c => ?_)
        · have w10 := w9.1 c
          refine g_aload_n hF d_X14_read_0_39 rfl 0 rfl ?_
          refine g_cap (fun hc10 => ?_)
          refine g_callV (As := []) (rest := []) hF (fun l D cy => (ct_item a r hc10 w10) l D cy) (Nat.le_of_ble_eq_true rfl) mV_X14_item m_2269 (recv_ob obM_0) rfl rfl (Nat.le_of_ble_eq_true rfl) d_X14_read_0_40 (kV (fun s40 t40 z40 w12 => ?_)) (fun s40x t40x z40x w40x => g_catch hF stopM { startPc := 9, endPc := 46, handlerPc := 49, catchType := 29 } rfl rfl (by decide) m_1798 ?_)
          · skip
            refine g_goto hF 9 d_X14_read_0_43 (by decide) ?_
            obtain ⟨m9, hm9, w9⟩ := w12
            exact ih9 m9 hm9 s40 t40 z40 w9
          · skip
            refine g_astore_n hF [(1, .ref (r 7)), (0, .ref (r 0))] d_X14_read_0_49 rfl hnn (by decide) rfl ?_
            refine g_bipush hF (v := (-21)) d_X14_read_0_50 (by decide) ?_
            exact g_iret hF rfl d_X14_read_0_52 ⟨((-21) : Int32), rfl, w40x⟩
        · have w13 := w9.2 c
          refine g_aload_n hF d_X14_read_0_34 rfl 0 rfl ?_
          refine g_cap (fun hc13 => ?_)
          refine g_callV (As := []) (rest := []) hF (fun l D cy => (ct_wrong a r hc13 w13) l D cy) (Nat.le_of_ble_eq_true rfl) mV_X14_wrong m_2261 (recv_ob obM_0) rfl rfl (Nat.le_of_ble_eq_true rfl) d_X14_read_0_35 (kX (fun s35 t35 z35 w15 => ?_)) (fun _ _ _ h => h.elim)
          refine g_athrow hF d_X14_read_0_38 (g_catch hF stopM { startPc := 9, endPc := 46, handlerPc := 49, catchType := 29 } rfl rfl (by decide) m_1798 ?_)
          refine g_astore_n hF [(1, .ref (r 7)), (0, .ref (r 0))] d_X14_read_0_49 rfl hnn (by decide) rfl ?_
          refine g_bipush hF (v := (-21)) d_X14_read_0_50 (by decide) ?_
          exact g_iret hF rfl d_X14_read_0_52 ⟨((-21) : Int32), rfl, w15⟩
  exact b9 i9 (upC s1 0 10 (0 : Int32)) t1 z1 u9
def wp_compile (a1 : Int32) (σ τ : St) (vs : List Nat) (Q : Int32 → St → St → List Nat → Prop) : Prop :=
  (a1.toInt < 0 → Q ((-14) : Int32) (upC (upC (upC σ 0 9 (σ 0 1)) 0 1 (0 : Int32)) 0 14 ((-1) : Int32)) τ vs) ∧ (0 ≤ a1.toInt → (3 < a1.toInt → Q ((-14) : Int32) (upC (upC (upC σ 0 9 (σ 0 1)) 0 1 (0 : Int32)) 0 14 ((-1) : Int32)) τ vs) ∧ (a1.toInt ≤ 3 → ((σ 0 35).toInt ≠ 100 → ((0 ≤ (σ 0 35).toInt ∧ (σ 0 35).toInt < 102) ∧ ((0 ≤ (σ 0 35).toInt ∧ (σ 0 35).toInt < 102) ∧ wp_read_0 (upC (upC (upC (upC (upC (upC (upC (upC (upC (upC (upC σ 0 9 (σ 0 1)) 0 1 (0 : Int32)) 0 14 ((-1) : Int32)) 22 (σ 0 35).toNatClampNeg (σ 0 36)) 24 (σ 0 35).toNatClampNeg (σ 0 39)) 0 37 (0 : Int32)) 0 12 (0 : Int32)) 0 15 (0 : Int32)) 0 53 (0 : Int32)) 0 54 (0 : Int32)) 0 49 (0 : Int32)) τ vs (fun v118 s118 t118 z118 => (0 ≤ v118.toInt → ((0 ≤ (s118 0 35).toInt ∧ (s118 0 35).toInt < 102) ∧ ((0 ≤ ((s118 0 35) + (1 : Int32)).toInt ∧ ((s118 0 35) + (1 : Int32)).toInt < 102) ∧ ((0 ≤ ((s118 0 35) + (1 : Int32)).toInt ∧ ((s118 0 35) + (1 : Int32)).toInt < 102) ∧ Q ((s118 0 35) + (1 : Int32)) (upC (upC (upC (upC s118 23 (s118 0 35).toNatClampNeg (s118 0 37)) 0 35 ((s118 0 35) + (1 : Int32))) 22 ((s118 0 35) + (1 : Int32)).toNatClampNeg (s118 0 36)) 24 ((s118 0 35) + (1 : Int32)).toNatClampNeg (s118 0 39)) t118 z118)))) ∧ (v118.toInt < 0 → ((0 ≤ (s118 0 35).toInt ∧ (s118 0 35).toInt < 102) ∧ Q v118 (upC (upC (upC (upC (upC s118 0 17 (σ 0 17)) 0 31 (σ 0 31)) 0 45 (σ 0 45)) 0 39 (σ 0 39)) 0 36 (s118 22 (s118 0 35).toNatClampNeg)) t118 z118)))))) ∧ ((σ 0 35).toInt = 100 → Q ((-14) : Int32) (upC (upC (upC σ 0 9 (σ 0 1)) 0 1 (0 : Int32)) 0 14 ((-1) : Int32)) τ vs)))
set_option maxHeartbeats 4000000 in
set_option maxRecDepth 100000 in
theorem ct_compile (a : Nat → Nat) (r : Nat → Nat) {a1 : Int32} {σ τ : St} {vs : List Nat} {Q : Int32 → St → St → List Nat → Prop} (hcap : vs.length ≤ CAP) (w : wp_compile a1 σ τ vs Q) (l : Launch) (D : va_G) (cy : Nat → ClassId) : Ct l D cy SM r (EM a) y_X14_compile (Cond.code y_X14_compile b_X14_compile 7 (some .int)) 1235 [.ref (r 0), .int a1] σ τ vs (QIs Q) QT0 := by
  unfold wp_compile at w
  refine Ct_of (EM_ok a) (by decide) (Nat.le_of_ble_eq_true rfl) hcap (fun X hnn hF => ?_)
  show G SM r X σ τ vs [(0, .ref (r 0)), (1, .int a1)] [] 0
  refine g_aload_n hF d_X14_compile_0 rfl 0 rfl ?_
  refine g_aload_n hF d_X14_compile_1 rfl 0 rfl ?_
  refine g_get (v := .int (σ 0 1)) hF 1 obM_0 (by decide) m_1866 rfl d_X14_compile_2 ?_
  refine g_put (v := (σ 0 1)) hF 9 obM_0 (by decide) m_1874 rfl rfl rfl d_X14_compile_5 ?_
  refine g_aload_n hF d_X14_compile_8 rfl 0 rfl ?_
  refine g_iconst hF (v := 0) d_X14_compile_9 (by decide) ?_
  refine g_put (v := 0) hF 1 obM_0 (by decide) m_1866 rfl rfl rfl d_X14_compile_10 ?_
  refine g_aload_n hF d_X14_compile_13 rfl 0 rfl ?_
  refine g_iconst hF (v := (-1)) d_X14_compile_14 (by decide) ?_
  refine g_put (v := (-1)) hF 14 obM_0 (by decide) m_1879 rfl rfl rfl d_X14_compile_15 ?_
  refine g_iload_n hF d_X14_compile_18 rfl 1 rfl ?_
  refine g_if_lt hF 36 d_X14_compile_19 (by decide) rfl (fun c => ?_) (fun c => ?_)
  · have w1 := w.1 c
    refine g_bipush hF (v := (-14)) d_X14_compile_36 (by decide) ?_
    exact g_iret hF rfl d_X14_compile_38 ⟨((-14) : Int32), rfl, w1⟩
  · have w2 := w.2 c
    refine g_iload_n hF d_X14_compile_22 rfl 1 rfl ?_
    refine g_iconst hF (v := 3) d_X14_compile_23 (by decide) ?_
    refine g_icmp_gt (yv := 3) hF 36 d_X14_compile_24 (by decide) rfl (by decide) (fun c => ?_) (fun c => ?_)
    · have w3 := w2.1 c
      refine g_bipush hF (v := (-14)) d_X14_compile_36 (by decide) ?_
      exact g_iret hF rfl d_X14_compile_38 ⟨((-14) : Int32), rfl, w3⟩
    · have w4 := w2.2 c
      refine g_aload_n hF d_X14_compile_27 rfl 0 rfl ?_
      refine g_get (v := .int (σ 0 35)) hF 35 obM_0 (by decide) m_1900 rfl d_X14_compile_28 ?_
      refine g_bipush hF (v := 100) d_X14_compile_31 (by decide) ?_
      refine g_icmp_ne (yv := 100) hF 39 d_X14_compile_33 (by decide) rfl (by decide) (fun c => ?_) (fun c => ?_)
      · have w5 := w4.1 c
        refine g_aload_n hF d_X14_compile_39 rfl 0 rfl ?_
        refine g_get (v := .int (σ 0 17)) hF 17 obM_0 (by decide) m_1882 rfl d_X14_compile_40 ?_
        refine g_istore_n hF [(2, .int (σ 0 17)), (0, .ref (r 0)), (1, .int a1)] d_X14_compile_43 rfl hnn (by decide) rfl ?_
        refine g_aload_n hF d_X14_compile_44 rfl 1 rfl ?_
        refine g_get (v := .int (σ 0 31)) hF 31 obM_0 (by decide) m_1896 rfl d_X14_compile_45 ?_
        refine g_istore_n hF [(3, .int (σ 0 31)), (2, .int (σ 0 17)), (0, .ref (r 0)), (1, .int a1)] d_X14_compile_48 rfl hnn (by decide) rfl ?_
        refine g_aload_n hF d_X14_compile_49 rfl 2 rfl ?_
        refine g_get (v := .int (σ 0 45)) hF 45 obM_0 (by decide) m_1910 rfl d_X14_compile_50 ?_
        refine g_istore hF [(4, .int (σ 0 45)), (3, .int (σ 0 31)), (2, .int (σ 0 17)), (0, .ref (r 0)), (1, .int a1)] d_X14_compile_53 hnn (by decide) rfl ?_
        refine g_aload_n hF d_X14_compile_55 rfl 3 rfl ?_
        refine g_get (v := .int (σ 0 39)) hF 39 obM_0 (by decide) m_1904 rfl d_X14_compile_56 ?_
        refine g_istore hF [(5, .int (σ 0 39)), (4, .int (σ 0 45)), (3, .int (σ 0 31)), (2, .int (σ 0 17)), (0, .ref (r 0)), (1, .int a1)] d_X14_compile_59 hnn (by decide) rfl ?_
        refine g_aload_n hF d_X14_compile_61 rfl 4 rfl ?_
        refine g_get (v := .ref (r 22)) hF 32 obM_0 (by decide) m_1897 rfl d_X14_compile_62 ?_
        refine g_aload_n hF d_X14_compile_65 rfl 4 rfl ?_
        refine g_get (v := .int (σ 0 35)) hF 35 obM_0 (by decide) m_1900 rfl d_X14_compile_66 ?_
        refine g_aload_n hF d_X14_compile_69 rfl 4 rfl ?_
        refine g_get (v := .int (σ 0 36)) hF 36 obM_0 (by decide) m_1901 rfl d_X14_compile_70 ?_
        have w6 := w5.2
        refine g_iast hF arM_22 (s_in (Nat.le_of_ble_eq_true rfl) w5.1.1 w5.1.2) d_X14_compile_73 ?_
        refine g_aload_n hF d_X14_compile_74 rfl 4 rfl ?_
        refine g_get (v := .ref (r 24)) hF 34 obM_0 (by decide) m_1899 rfl d_X14_compile_75 ?_
        refine g_aload_n hF d_X14_compile_78 rfl 4 rfl ?_
        refine g_get (v := .int (σ 0 35)) hF 35 obM_0 (by decide) m_1900 rfl d_X14_compile_79 ?_
        refine g_aload_n hF d_X14_compile_82 rfl 4 rfl ?_
        refine g_get (v := .int (σ 0 39)) hF 39 obM_0 (by decide) m_1904 rfl d_X14_compile_83 ?_
        have w7 := w6.2
        refine g_iast hF arM_24 (s_in (Nat.le_of_ble_eq_true rfl) w6.1.1 w6.1.2) d_X14_compile_86 ?_
        refine g_aload_n hF d_X14_compile_87 rfl 4 rfl ?_
        refine g_iconst hF (v := 0) d_X14_compile_88 (by decide) ?_
        refine g_put (v := 0) hF 37 obM_0 (by decide) m_1902 rfl rfl rfl d_X14_compile_89 ?_
        refine g_aload_n hF d_X14_compile_92 rfl 4 rfl ?_
        refine g_iconst hF (v := 0) d_X14_compile_93 (by decide) ?_
        refine g_put (v := 0) hF 12 obM_0 (by decide) m_1877 rfl rfl rfl d_X14_compile_94 ?_
        refine g_aload_n hF d_X14_compile_97 rfl 4 rfl ?_
        refine g_iconst hF (v := 0) d_X14_compile_98 (by decide) ?_
        refine g_put (v := 0) hF 15 obM_0 (by decide) m_1880 rfl rfl rfl d_X14_compile_99 ?_
        refine g_aload_n hF d_X14_compile_102 rfl 4 rfl ?_
        refine g_iconst hF (v := 0) d_X14_compile_103 (by decide) ?_
        refine g_put (v := 0) hF 53 obM_0 (by decide) m_1918 rfl rfl rfl d_X14_compile_104 ?_
        refine g_aload_n hF d_X14_compile_107 rfl 4 rfl ?_
        refine g_iconst hF (v := 0) d_X14_compile_108 (by decide) ?_
        refine g_put (v := 0) hF 54 obM_0 (by decide) m_1919 rfl rfl rfl d_X14_compile_109 ?_
        refine g_aload_n hF d_X14_compile_112 rfl 4 rfl ?_
        refine g_iconst hF (v := 0) d_X14_compile_113 (by decide) ?_
        refine g_put (v := 0) hF 49 obM_0 (by decide) m_1914 rfl rfl rfl d_X14_compile_114 ?_
        refine g_aload_n hF d_X14_compile_117 rfl 4 rfl ?_
        refine g_callVW (As := []) (rest := []) hF (fun l D cy => (ct_read_0 a r hcap w7) l D cy) (Nat.le_of_ble_eq_true rfl) mVW_X14_read_0 m_2179 (recv_ob obM_0) rfl rfl (Nat.le_of_ble_eq_true rfl) d_X14_compile_118 (kI (fun v118 s118 t118 z118 w8 => ?_))
        refine g_istore hF [(6, .int v118), (5, .int (σ 0 39)), (4, .int (σ 0 45)), (3, .int (σ 0 31)), (2, .int (σ 0 17)), (0, .ref (r 0)), (1, .int a1)] d_X14_compile_121 hnn (by decide) rfl ?_
        refine g_iload hF d_X14_compile_123 0 rfl ?_
        refine g_if_ge hF 166 d_X14_compile_125 (by decide) rfl (fun c => ?_) (fun c => ?_)
        · have w9 := w8.1 c
          refine g_aload_n hF d_X14_compile_166 rfl 5 rfl ?_
          refine g_get (v := .ref (r 23)) hF 33 obM_0 (by decide) m_1898 rfl d_X14_compile_167 ?_
          refine g_aload_n hF d_X14_compile_170 rfl 5 rfl ?_
          refine g_get (v := .int (s118 0 35)) hF 35 obM_0 (by decide) m_1900 rfl d_X14_compile_171 ?_
          refine g_aload_n hF d_X14_compile_174 rfl 5 rfl ?_
          refine g_get (v := .int (s118 0 37)) hF 37 obM_0 (by decide) m_1902 rfl d_X14_compile_175 ?_
          have w10 := w9.2
          refine g_iast hF arM_23 (s_in (Nat.le_of_ble_eq_true rfl) w9.1.1 w9.1.2) d_X14_compile_178 ?_
          refine g_aload_n hF d_X14_compile_179 rfl 5 rfl ?_
          refine g_dup hF d_X14_compile_180 rfl ?_
          refine g_get (v := .int (s118 0 35)) hF 35 obM_0 (by decide) m_1900 rfl d_X14_compile_181 ?_
          refine g_iconst hF (v := 1) d_X14_compile_184 (by decide) ?_
          refine g_iadd hF d_X14_compile_185 ?_
          refine g_put (v := ((s118 0 35) + (1 : Int32))) hF 35 obM_0 (by decide) m_1900 rfl rfl rfl d_X14_compile_186 ?_
          refine g_aload_n hF d_X14_compile_189 rfl 5 rfl ?_
          refine g_get (v := .ref (r 22)) hF 32 obM_0 (by decide) m_1897 rfl d_X14_compile_190 ?_
          refine g_aload_n hF d_X14_compile_193 rfl 5 rfl ?_
          refine g_get (v := .int ((s118 0 35) + (1 : Int32))) hF 35 obM_0 (by decide) m_1900 rfl d_X14_compile_194 ?_
          refine g_aload_n hF d_X14_compile_197 rfl 5 rfl ?_
          refine g_get (v := .int (s118 0 36)) hF 36 obM_0 (by decide) m_1901 rfl d_X14_compile_198 ?_
          have w11 := w10.2
          refine g_iast hF arM_22 (s_in (Nat.le_of_ble_eq_true rfl) w10.1.1 w10.1.2) d_X14_compile_201 ?_
          refine g_aload_n hF d_X14_compile_202 rfl 5 rfl ?_
          refine g_get (v := .ref (r 24)) hF 34 obM_0 (by decide) m_1899 rfl d_X14_compile_203 ?_
          refine g_aload_n hF d_X14_compile_206 rfl 5 rfl ?_
          refine g_get (v := .int ((s118 0 35) + (1 : Int32))) hF 35 obM_0 (by decide) m_1900 rfl d_X14_compile_207 ?_
          refine g_aload_n hF d_X14_compile_210 rfl 5 rfl ?_
          refine g_get (v := .int (s118 0 39)) hF 39 obM_0 (by decide) m_1904 rfl d_X14_compile_211 ?_
          have w12 := w11.2
          refine g_iast hF arM_24 (s_in (Nat.le_of_ble_eq_true rfl) w11.1.1 w11.1.2) d_X14_compile_214 ?_
          refine g_aload_n hF d_X14_compile_215 rfl 5 rfl ?_
          refine g_get (v := .int ((s118 0 35) + (1 : Int32))) hF 35 obM_0 (by decide) m_1900 rfl d_X14_compile_216 ?_
          exact g_iret hF rfl d_X14_compile_219 ⟨((s118 0 35) + (1 : Int32)), rfl, w12⟩
        · have w13 := w8.2 c
          refine g_aload_n hF d_X14_compile_128 rfl 5 rfl ?_
          refine g_iload_n hF d_X14_compile_129 rfl 4 rfl ?_
          refine g_put (v := (σ 0 17)) hF 17 obM_0 (by decide) m_1882 rfl rfl rfl d_X14_compile_130 ?_
          refine g_aload_n hF d_X14_compile_133 rfl 5 rfl ?_
          refine g_iload_n hF d_X14_compile_134 rfl 3 rfl ?_
          refine g_put (v := (σ 0 31)) hF 31 obM_0 (by decide) m_1896 rfl rfl rfl d_X14_compile_135 ?_
          refine g_aload_n hF d_X14_compile_138 rfl 5 rfl ?_
          refine g_iload hF d_X14_compile_139 2 rfl ?_
          refine g_put (v := (σ 0 45)) hF 45 obM_0 (by decide) m_1910 rfl rfl rfl d_X14_compile_141 ?_
          refine g_aload_n hF d_X14_compile_144 rfl 5 rfl ?_
          refine g_iload hF d_X14_compile_145 1 rfl ?_
          refine g_put (v := (σ 0 39)) hF 39 obM_0 (by decide) m_1904 rfl rfl rfl d_X14_compile_147 ?_
          refine g_aload_n hF d_X14_compile_150 rfl 5 rfl ?_
          refine g_aload_n hF d_X14_compile_151 rfl 5 rfl ?_
          refine g_get (v := .ref (r 22)) hF 32 obM_0 (by decide) m_1897 rfl d_X14_compile_152 ?_
          refine g_aload_n hF d_X14_compile_155 rfl 5 rfl ?_
          refine g_get (v := .int (s118 0 35)) hF 35 obM_0 (by decide) m_1900 rfl d_X14_compile_156 ?_
          have w14 := w13.2
          refine g_iald hF arM_22 (s_in (Nat.le_of_ble_eq_true rfl) w13.1.1 w13.1.2) d_X14_compile_159 ?_
          refine g_top (v := (s118 22 (s118 0 35).toNatClampNeg)) rfl ?_
          refine g_put (v := (s118 22 (s118 0 35).toNatClampNeg)) hF 36 obM_0 (by decide) m_1901 rfl rfl rfl d_X14_compile_160 ?_
          refine g_iload hF d_X14_compile_163 0 rfl ?_
          exact g_iret hF rfl d_X14_compile_165 ⟨v118, rfl, w14⟩
      · have w15 := w4.2 c
        refine g_bipush hF (v := (-14)) d_X14_compile_36 (by decide) ?_
        exact g_iret hF rfl d_X14_compile_38 ⟨((-14) : Int32), rfl, w15⟩
