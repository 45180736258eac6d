/-! calls -/
section GC
variable {S : Sh} {r : Nat → Nat} {X : Cx} {ex : List ExceptionTableEntry} {cc : ByteArray} {own : String} {ret : Option FieldType} {d : Nat} {Qr : QR} {Qt : QT} {E : (Nat → Prop) → State → Prop} {σ τ : St} {vs : List Nat} {L : List (Nat × Value)} {rest : List Value} {pc : Nat}
/-- what the tables say of a method that is called on an object -/
def MeV (y : MethodName) (bytes : ByteArray) (maxL : Nat) (ret : Option FieldType) (n : Nat) : Prop := Cond.code y bytes maxL ret ∈ GW ∧ Cond.initialized y.cls ∈ GW ∧ Cond.instanceMethod y ∈ GW ∧ Cond.selects y.cls y y ∈ GW ∧ maxL ≤ 21 ∧ (y.cls ≠ "java/lang/invoke/MethodHandle" ∧ y.cls ≠ "java/lang/invoke/VarHandle") ∧ (parseMethodDescriptor y.desc).map (fun d => d.parameters.length) = some n
def MeS (y : MethodName) (bytes : ByteArray) (maxL : Nat) (ret : Option FieldType) (n : Nat) : Prop := Cond.code y bytes maxL ret ∈ GW ∧ Cond.initialized y.cls ∈ GW ∧ Cond.static y ∈ GW ∧ maxL ≤ 21 ∧ (y.cls ≠ "java/lang/invoke/MethodHandle" ∧ y.cls ≠ "java/lang/invoke/VarHandle") ∧ (parseMethodDescriptor y.desc).map (fun d => d.parameters.length) = some n
def Recv (S : Sh) (r : Nat → Nat) (E : (Nat → Prop) → State → Prop) (vs : List Nat) (C : String) (b : Nat) : Prop := ∀ (D : va_G) (cy : Nat → ClassId) (A : Nat → Prop) (s : State) (H : Heap) (locs : List Loc) (σ τ : St), va_K D vwCl (kTy cy) s → va_P D vwCl (wld S cy r σ τ vs) H → va_S A s.heap H locs → E A s → ∃ cell : Cell, H[b]? = some cell ∧ cell.vm.isStatics = false ∧ s.vm.findClass C = some cell.cls
theorem recv_ob {j ci : Nat} {C : String} {T : u_T} {N : Nat} {ty : Nat → FieldType} (ho : ObOK S j ci C T N ty) : Recv S r E vs C (r j) := fun _ _ _ _ _ _ _ _ hK hP _ _ => va_recv hK hP ho.1.1 ((wld_at ho.2.1).trans (by rw [cellE_obj ho.2.2]))
theorem recv_v {a : Nat} {T : u_T} {ty : Nat → FieldType} (ha : a ∈ vs) (ho : ClsOK ciV "LinkedUnitsModel$Value" T 9 ty) : Recv S r E vs "LinkedUnitsModel$Value" a := fun _ _ _ _ _ _ _ _ hK hP _ _ => by
  obtain ⟨i, hi⟩ := List.mem_iff_getElem?.mp ha
  exact va_recv hK hP ho.1 (wld_av hi)
theorem code_of {y : MethodName} {bytes : ByteArray} {maxL : Nat} {ret : Option FieldType} {s : State} {args : Array Value} (hg : ∀ w ∈ GW, w.before args s = true) (h : Cond.code y bytes maxL ret ∈ GW) : ∀ (a' : Array Value) (U : State) (mk : MethodId), s.WarmedH U.vm → U.methodNamed? y = some mk → ∃ meth c, U.vm.method? mk = some meth ∧ meth.code = some c ∧ c.maxLocals = maxL := fun a' U mk hW hn => by
  have h2 : (Cond.code y bytes maxL ret).before a' U = true := pay_in hg (gw_c h) _ List.mem_cons_self a' U hW
  obtain ⟨methY, cY, hmY, hcY, -, hlY, -, -, -, -⟩ := Cond.code_spec hn h2
  exact ⟨methY, cY, hmY, hcY, hlY⟩
theorem init_of {y : MethodName} {s : State} {args : Array Value} (hg : ∀ w ∈ GW, w.before args s = true) (h : Cond.initialized y.cls ∈ GW) : ∀ (a' : Array Value) (U : State), s.WarmedH U.vm → (Cond.initialized y.cls).before a' U = true := fun a' U hW => word_at hW (Or.inl (by first | rfl | simp [Cond.onTables, Cond.keeps, Cond.steady])) (hg _ h)
theorem g_room {d d' n0 : Nat} {maxL : Nat} {R : Room} (hR : R = rmD d n0) (hd : d' + 1 ≤ d) (hm : maxL ≤ 21) : d' + 1 ≤ R.frames ∧ 8 + (maxL + 11) + 40 * d' ≤ R.locals := by
  subst hR
  exact ⟨hd, by show _ ≤ 40 * d; omega⟩
theorem g_cells {d n0 n : Nat} {R : Room} (hR : R = rmD d n0) (h1 : n0 ≤ n) (h2 : n ≤ CAP) : n - n0 + (CAP - n) ≤ R.cells ∧ 9 * (n - n0) + 9 * (CAP - n) ≤ R.slots := by
  subst hR
  refine ⟨?_, ?_⟩
  · show _ ≤ CAP - n0; omega
  · show _ ≤ 9 * (CAP - n0); omega

theorem g_callV (hF : Fx S r X ex cc own ret d Qr Qt E) {index d' maxL n b : Nat} {y : MethodName} {bytes : ByteArray} {rt : Option FieldType} {As st : List Value} {Qr' : QR} {Qt' : QT}
    (C : ∀ (l : Launch) (D : va_G) (cy : Nat → ClassId), Ct l D cy S r E y (Cond.code y bytes maxL rt) d' (.ref b :: As) σ τ vs Qr' Qt') (hd' : d' + 1 ≤ d) (hme : MeV y bytes maxL rt n) (hw : Cond.methodLink own index y ∈ GW) (hrec : Recv S r E vs y.cls b) (hst : st = As.reverse ++ .ref b :: rest) (hn : As.length = n) (hcat : (rest.map fun v => v.category).sum ≤ 8) (hd : decode cc pc = .ok (.invokevirtual index, 3))
    (kk : ∀ v σ' τ' vs', Qr' v σ' τ' vs' → G S r X σ' τ' vs' L (v.toList ++ rest) (pc + 3))
    (kt : ∀ σ' τ' vs', Qt' σ' τ' vs' → GT S r X σ' τ' vs' L rest pc) : G S r X σ τ vs L st pc := by
  obtain ⟨p, l, e, R, s, m, args, below, meth, c, A, D, cy, Q, nL, n0⟩ := X
  obtain ⟨hx, hb, hml, hown, hret, hlk, hR, hQ, hg, hNW, hK, hA, hE, hEo, hex⟩ := hF
  intro H locs ls hP hD hS hl h1 h2
  subst hst
  have hFr : ∀ q, va_A (wld S cy r σ τ vs) H.size q → A q := fun q h => va_free (wc := wld S cy r σ τ vs) hD hS hA (List.range (wld S cy r σ τ vs).length) (range_get _) q h
  obtain ⟨hc1, hc2, hc3, hc4, hm, hy, hpd⟩ := hme
  have hroom := g_room hR hd' hm
  have hK9 := gx_back (l := l) (R := R) (p := p) (e := e) (below := below) (s := s) (sargs := args) (len := 3) (W9 := 8) (C l D cy H.size) (kPreE.blind hEo) hroom.1 hroom.2 (pay_in hg (gw_c hc1)) (code_of hg hc1) (init_of hg hc2)
  have hlen : ∀ sig, parseMethodDescriptor y.desc = some sig → As.length = sig.parameters.length := fun sig h => by
    rw [h] at hpd
    exact hn.trans (Option.some.inj hpd).symm
  intro T hT X
  obtain ⟨cell, hce, hcs, hcc⟩ := hrec D cy A s H locs σ τ hK hP hS hE
  have hPre : ∀ vm₁, s.WarmedH vm₁ → gPre R vs.length (va_Pc (.ref b :: As) (kPreE D cy H.size (wld S cy r σ τ vs) E)) ⟨T.setVm vm₁, locs, vs.length - n0, 9 * (vs.length - n0)⟩ (Value.ref b :: As).toArray := fun vm₁ hW₁ => ⟨(g_cells hR h1 h2).1, (g_cells hR h1 h2).2, rfl, ⟨by show T.heap.size = H.size; rw [hT], nwOK.warm (U := T.setVm vm₁) hW₁ hNW, by show va_P D vwCl _ T.heap; rw [hT]; exact hP, va_K.moved (u := s) (U := T.setVm vm₁) hW₁.alike hK, va_D.weaken hD (fun _ _ _ _ => trivial)⟩, hEo A _ s (T.setVm vm₁) hW₁ (fun a q1 q2 => by show T.heap[a]? = _; rw [hT]; exact hS.2.1 a q1 q2) (fun q h => hFr q h) hE⟩
  rcases vx_callV X hx (C := y.cls) (bytes := bytes) (maxL := maxL) (ret := rt) hown (hg _ hw) (hg _ hc3) (hg _ hc4) (hg _ hc1) hy hK9 (by rw [hT]; exact hce) hcs hcc (g := F0 m pc ls (As.reverse ++ .ref b :: rest)) rfl (hl.1.trans hml.symm) (argsL := As) (rest := rest) hlen rfl (lv_room hcat) (by rw [hb]; exact hd) hPre with ⟨v, vm₁, ⟨U', l2, c2, s2⟩, hW₁, X', ⟨g', mk, t, L, σ', τ', vs', e1, e2, w1, w2, w3, w4, hq, q1, hL, q2, q3⟩, st⟩ | ⟨q, vm₁, ⟨U', l2, c2, s2⟩, hW₁, X', ⟨g', mk, t, L, σ', τ', vs', e0, e1, e2, w1, w2, w3, w4, hq, q1, hL, q2, q3⟩, st⟩
  · skip
    dsimp only [Pt.U, Pt.locs, Pt.cells, Pt.slots] at X' e1 e2 q1 q2 q3 st
    subst q1; subst q2; subst q3
    obtain ⟨k1, k2, k3⟩ := vx_keep (H := H) (locs := locs) hT e1 hS (fun q _ hq9 => hFr q hq9) hFr hL w2
    have h9 := kk v σ' τ' vs' hq U'.heap (locs ++ L) ls (by rw [e1]; exact w1.1) (va_D.weaken w1.2.2 (fun _ q _ h => hFr q.1 h)) k3 hl (Nat.le_trans h1 w3) w4
    have e5 : vs.length - n0 + (vs'.length - vs.length) = vs'.length - n0 := by omega
    have e6 : 9 * (vs.length - n0) + 9 * (vs'.length - vs.length) = 9 * (vs'.length - n0) := by omega
    rw [e5, e6] at X'
    obtain ⟨t2, a1, b1⟩ := h9 U' rfl X'
    exact ⟨t2, st _ a1, b1⟩
  · skip
    subst e0
    dsimp only [Pt.U, Pt.locs, Pt.cells, Pt.slots] at X' e1 e2 q1 q2 q3 st
    subst q1; subst q2; subst q3
    obtain ⟨k1, k2, k3⟩ := vx_keep (H := H) (locs := locs) hT e1 hS (fun q _ hq9 => hFr q hq9) hFr hL w2
    have h9 := kt σ' τ' vs' hq U'.heap (locs ++ L) ls (by rw [e1]; exact w1.1) (va_D.weaken w1.2.2 (fun _ q _ h => hFr q.1 h)) k3 hl (Nat.le_trans h1 w3) w4
    have e5 : vs.length - n0 + (vs'.length - vs.length) = vs'.length - n0 := by omega
    have e6 : 9 * (vs.length - n0) + 9 * (vs'.length - vs.length) = 9 * (vs'.length - n0) := by omega
    rw [e5, e6] at X'
    obtain ⟨t2, a1, b1⟩ := h9 U' rfl X'
    exact ⟨t2, st.trans a1, b1⟩

theorem g_callS (hF : Fx S r X ex cc own ret d Qr Qt E) {index d' maxL n : Nat} {y : MethodName} {bytes : ByteArray} {rt : Option FieldType} {As st : List Value} {Qr' : QR} {Qt' : QT}
    (C : ∀ (l : Launch) (D : va_G) (cy : Nat → ClassId), Ct l D cy S r E y (Cond.code y bytes maxL rt) d' As σ τ vs Qr' Qt') (hd' : d' + 1 ≤ d) (hme : MeS y bytes maxL rt n) (hw : Cond.methodLink own index y ∈ GW) (hst : st = As.reverse ++ rest) (hn : As.length = n) (hcat : (rest.map fun v => v.category).sum ≤ 8) (hd : decode cc pc = .ok (.invokestatic index, 3))
    (kk : ∀ v σ' τ' vs', Qr' v σ' τ' vs' → G S r X σ' τ' vs' L (v.toList ++ rest) (pc + 3))
    (kt : ∀ σ' τ' vs', Qt' σ' τ' vs' → GT S r X σ' τ' vs' L rest pc) : G S r X σ τ vs L st pc := by
  obtain ⟨p, l, e, R, s, m, args, below, meth, c, A, D, cy, Q, nL, n0⟩ := X
  obtain ⟨hx, hb, hml, hown, hret, hlk, hR, hQ, hg, hNW, hK, hA, hE, hEo, hex⟩ := hF
  intro H locs ls hP hD hS hl h1 h2
  subst hst
  have hFr : ∀ q, va_A (wld S cy r σ τ vs) H.size q → A q := fun q h => va_free (wc := wld S cy r σ τ vs) hD hS hA (List.range (wld S cy r σ τ vs).length) (range_get _) q h
  obtain ⟨hc1, hc2, hc3, hm, hy, hpd⟩ := hme
  have hroom := g_room hR hd' hm
  have hK9 := gx_back (l := l) (R := R) (p := p) (e := e) (below := below) (s := s) (sargs := args) (len := 3) (W9 := 8) (C l D cy H.size) (kPreE.blind hEo) hroom.1 hroom.2 (pay_in hg (gw_c hc1)) (code_of hg hc1) (init_of hg hc2)
  have hlen : ∀ sig, parseMethodDescriptor y.desc = some sig → As.length = sig.parameters.length := fun sig h => by
    rw [h] at hpd
    exact hn.trans (Option.some.inj hpd).symm
  intro T hT X
  have hPre : ∀ vm₁, s.WarmedH vm₁ → gPre R vs.length (va_Pc As (kPreE D cy H.size (wld S cy r σ τ vs) E)) ⟨T.setVm vm₁, locs, vs.length - n0, 9 * (vs.length - n0)⟩ (As).toArray := fun vm₁ hW₁ => ⟨(g_cells hR h1 h2).1, (g_cells hR h1 h2).2, rfl, ⟨by show T.heap.size = H.size; rw [hT], nwOK.warm (U := T.setVm vm₁) hW₁ hNW, by show va_P D vwCl _ T.heap; rw [hT]; exact hP, va_K.moved (u := s) (U := T.setVm vm₁) hW₁.alike hK, va_D.weaken hD (fun _ _ _ _ => trivial)⟩, hEo A _ s (T.setVm vm₁) hW₁ (fun a q1 q2 => by show T.heap[a]? = _; rw [hT]; exact hS.2.1 a q1 q2) (fun q h => hFr q h) hE⟩
  rcases vx_callS X hx (bytes := bytes) (maxL := maxL) (ret := rt) hown (hg _ hw) (hg _ hc3) (hg _ hc2) (hg _ hc1) hy hK9 (g := F0 m pc ls (As.reverse ++ rest)) rfl (hl.1.trans hml.symm) (argsL := As) (rest := rest) hlen rfl (lv_room hcat) (by rw [hb]; exact hd) hPre with ⟨v, vm₁, ⟨U', l2, c2, s2⟩, hW₁, X', ⟨g', mk, t, L, σ', τ', vs', e1, e2, w1, w2, w3, w4, hq, q1, hL, q2, q3⟩, st⟩ | ⟨q, vm₁, ⟨U', l2, c2, s2⟩, hW₁, X', ⟨g', mk, t, L, σ', τ', vs', e0, e1, e2, w1, w2, w3, w4, hq, q1, hL, q2, q3⟩, st⟩
  · skip
    dsimp only [Pt.U, Pt.locs, Pt.cells, Pt.slots] at X' e1 e2 q1 q2 q3 st
    subst q1; subst q2; subst q3
    obtain ⟨k1, k2, k3⟩ := vx_keep (H := H) (locs := locs) hT e1 hS (fun q _ hq9 => hFr q hq9) hFr hL w2
    have h9 := kk v σ' τ' vs' hq U'.heap (locs ++ L) ls (by rw [e1]; exact w1.1) (va_D.weaken w1.2.2 (fun _ q _ h => hFr q.1 h)) k3 hl (Nat.le_trans h1 w3) w4
    have e5 : vs.length - n0 + (vs'.length - vs.length) = vs'.length - n0 := by omega
    have e6 : 9 * (vs.length - n0) + 9 * (vs'.length - vs.length) = 9 * (vs'.length - n0) := by omega
    rw [e5, e6] at X'
    obtain ⟨t2, a1, b1⟩ := h9 U' rfl X'
    exact ⟨t2, st _ a1, b1⟩
  · skip
    subst e0
    dsimp only [Pt.U, Pt.locs, Pt.cells, Pt.slots] at X' e1 e2 q1 q2 q3 st
    subst q1; subst q2; subst q3
    obtain ⟨k1, k2, k3⟩ := vx_keep (H := H) (locs := locs) hT e1 hS (fun q _ hq9 => hFr q hq9) hFr hL w2
    have h9 := kt σ' τ' vs' hq U'.heap (locs ++ L) ls (by rw [e1]; exact w1.1) (va_D.weaken w1.2.2 (fun _ q _ h => hFr q.1 h)) k3 hl (Nat.le_trans h1 w3) w4
    have e5 : vs.length - n0 + (vs'.length - vs.length) = vs'.length - n0 := by omega
    have e6 : 9 * (vs.length - n0) + 9 * (vs'.length - vs.length) = 9 * (vs'.length - n0) := by omega
    rw [e5, e6] at X'
    obtain ⟨t2, a1, b1⟩ := h9 U' rfl X'
    exact ⟨t2, st.trans a1, b1⟩

theorem g_callVN (hF : Fx S r X ex cc own ret d Qr Qt E) {index d' maxL n b : Nat} {y : MethodName} {bytes : ByteArray} {rt : Option FieldType} {host : String} {As st : List Value} {Qr' : QR}
    (C : ∀ (l : Launch) (D : va_G) (cy : Nat → ClassId), Ct l D cy S r E y (Cond.code y bytes maxL rt) d' (.ref b :: As) σ τ vs Qr' (fun _ _ _ => False)) (hd' : d' + 1 ≤ d) (hme : MeV y bytes maxL rt n) (hw : Cond.methodLinkNest own index y host ∈ NW) (hrec : Recv S r E vs y.cls b) (hst : st = As.reverse ++ .ref b :: rest) (hn : As.length = n) (hcat : (rest.map fun v => v.category).sum ≤ 8) (hd : decode cc pc = .ok (.invokevirtual index, 3))
    (kk : ∀ v σ' τ' vs', Qr' v σ' τ' vs' → G S r X σ' τ' vs' L (v.toList ++ rest) (pc + 3)) : G S r X σ τ vs L st pc := by
  obtain ⟨p, l, e, R, s, m, args, below, meth, c, A, D, cy, Q, nL, n0⟩ := X
  obtain ⟨hx, hb, hml, hown, hret, hlk, hR, hQ, hg, hNW, hK, hA, hE, hEo, hex⟩ := hF
  intro H locs ls hP hD hS hl h1 h2
  subst hst
  have hFr : ∀ q, va_A (wld S cy r σ τ vs) H.size q → A q := fun q h => va_free (wc := wld S cy r σ τ vs) hD hS hA (List.range (wld S cy r σ τ vs).length) (range_get _) q h
  obtain ⟨hc1, hc2, hc3, hc4, hm, hy, hpd⟩ := hme
  have hroom := g_room hR hd' hm
  have hK9 := gx_back (l := l) (R := R) (p := p) (e := e) (below := below) (s := s) (sargs := args) (len := 3) (W9 := 8) (C l D cy H.size) (kPreE.blind hEo) hroom.1 hroom.2 (pay_in hg (gw_c hc1)) (code_of hg hc1) (init_of hg hc2)
  have hK9 := back_of_vx hK9 (fun _ _ _ _ h => by obtain ⟨_, _, _, _, _, _, _, _, _, _, _, _, _, _, h, _⟩ := h; exact h)
  have hlen : ∀ sig, parseMethodDescriptor y.desc = some sig → As.length = sig.parameters.length := fun sig h => by
    rw [h] at hpd
    exact hn.trans (Option.some.inj hpd).symm
  intro T hT X
  obtain ⟨cell, hce, hcs, hcc⟩ := hrec D cy A s H locs σ τ hK hP hS hE
  have hPre : ∀ vm₁, s.WarmedH vm₁ → gPre R vs.length (va_Pc (.ref b :: As) (kPreE D cy H.size (wld S cy r σ τ vs) E)) ⟨T.setVm vm₁, locs, vs.length - n0, 9 * (vs.length - n0)⟩ (Value.ref b :: As).toArray := fun vm₁ hW₁ => ⟨(g_cells hR h1 h2).1, (g_cells hR h1 h2).2, rfl, ⟨by show T.heap.size = H.size; rw [hT], nwOK.warm (U := T.setVm vm₁) hW₁ hNW, by show va_P D vwCl _ T.heap; rw [hT]; exact hP, va_K.moved (u := s) (U := T.setVm vm₁) hW₁.alike hK, va_D.weaken hD (fun _ _ _ _ => trivial)⟩, hEo A _ s (T.setVm vm₁) hW₁ (fun a q1 q2 => by show T.heap[a]? = _; rw [hT]; exact hS.2.1 a q1 q2) (fun q h => hFr q h) hE⟩
  obtain ⟨v, vm₁, ⟨U', l2, c2, s2⟩, hW₁, X', ⟨g', mk, t, L, σ', τ', vs', e1, e2, w1, w2, w3, w4, hq, q1, hL, q2, q3⟩, st⟩ := va_callVN X hx (C := y.cls) (bytes := bytes) (maxL := maxL) (ret := rt) hown (va_Nw.use rfl (hNW.1 _ hw)) (hg _ hc3) (hg _ hc4) (hg _ hc1) hy hK9 (by rw [hT]; exact hce) hcs hcc (g := F0 m pc ls (As.reverse ++ .ref b :: rest)) rfl (hl.1.trans hml.symm) (argsL := As) (rest := rest) hlen rfl (lv_room hcat) (by rw [hb]; exact hd) hPre
  · skip
    dsimp only [Pt.U, Pt.locs, Pt.cells, Pt.slots] at X' e1 e2 q1 q2 q3 st
    subst q1; subst q2; subst q3
    obtain ⟨k1, k2, k3⟩ := vx_keep (H := H) (locs := locs) hT e1 hS (fun q _ hq9 => hFr q hq9) hFr hL w2
    have h9 := kk v σ' τ' vs' hq U'.heap (locs ++ L) ls (by rw [e1]; exact w1.1) (va_D.weaken w1.2.2 (fun _ q _ h => hFr q.1 h)) k3 hl (Nat.le_trans h1 w3) w4
    have e5 : vs.length - n0 + (vs'.length - vs.length) = vs'.length - n0 := by omega
    have e6 : 9 * (vs.length - n0) + 9 * (vs'.length - vs.length) = 9 * (vs'.length - n0) := by omega
    rw [e5, e6] at X'
    obtain ⟨t2, a1, b1⟩ := h9 U' rfl X'
    exact ⟨t2, st _ a1, b1⟩

theorem g_callSN (hF : Fx S r X ex cc own ret d Qr Qt E) {index d' maxL n : Nat} {y : MethodName} {bytes : ByteArray} {rt : Option FieldType} {host : String} {As st : List Value} {Qr' : QR}
    (C : ∀ (l : Launch) (D : va_G) (cy : Nat → ClassId), Ct l D cy S r E y (Cond.code y bytes maxL rt) d' As σ τ vs Qr' (fun _ _ _ => False)) (hd' : d' + 1 ≤ d) (hme : MeS y bytes maxL rt n) (hw : Cond.methodLinkNest own index y host ∈ NW) (hst : st = As.reverse ++ rest) (hn : As.length = n) (hcat : (rest.map fun v => v.category).sum ≤ 8) (hd : decode cc pc = .ok (.invokestatic index, 3))
    (kk : ∀ v σ' τ' vs', Qr' v σ' τ' vs' → G S r X σ' τ' vs' L (v.toList ++ rest) (pc + 3)) : G S r X σ τ vs L st pc := by
  obtain ⟨p, l, e, R, s, m, args, below, meth, c, A, D, cy, Q, nL, n0⟩ := X
  obtain ⟨hx, hb, hml, hown, hret, hlk, hR, hQ, hg, hNW, hK, hA, hE, hEo, hex⟩ := hF
  intro H locs ls hP hD hS hl h1 h2
  subst hst
  have hFr : ∀ q, va_A (wld S cy r σ τ vs) H.size q → A q := fun q h => va_free (wc := wld S cy r σ τ vs) hD hS hA (List.range (wld S cy r σ τ vs).length) (range_get _) q h
  obtain ⟨hc1, hc2, hc3, hm, hy, hpd⟩ := hme
  have hroom := g_room hR hd' hm
  have hK9 := gx_back (l := l) (R := R) (p := p) (e := e) (below := below) (s := s) (sargs := args) (len := 3) (W9 := 8) (C l D cy H.size) (kPreE.blind hEo) hroom.1 hroom.2 (pay_in hg (gw_c hc1)) (code_of hg hc1) (init_of hg hc2)
  have hK9 := back_of_vx hK9 (fun _ _ _ _ h => by obtain ⟨_, _, _, _, _, _, _, _, _, _, _, _, _, _, h, _⟩ := h; exact h)
  have hlen : ∀ sig, parseMethodDescriptor y.desc = some sig → As.length = sig.parameters.length := fun sig h => by
    rw [h] at hpd
    exact hn.trans (Option.some.inj hpd).symm
  intro T hT X
  have hPre : ∀ vm₁, s.WarmedH vm₁ → gPre R vs.length (va_Pc As (kPreE D cy H.size (wld S cy r σ τ vs) E)) ⟨T.setVm vm₁, locs, vs.length - n0, 9 * (vs.length - n0)⟩ (As).toArray := fun vm₁ hW₁ => ⟨(g_cells hR h1 h2).1, (g_cells hR h1 h2).2, rfl, ⟨by show T.heap.size = H.size; rw [hT], nwOK.warm (U := T.setVm vm₁) hW₁ hNW, by show va_P D vwCl _ T.heap; rw [hT]; exact hP, va_K.moved (u := s) (U := T.setVm vm₁) hW₁.alike hK, va_D.weaken hD (fun _ _ _ _ => trivial)⟩, hEo A _ s (T.setVm vm₁) hW₁ (fun a q1 q2 => by show T.heap[a]? = _; rw [hT]; exact hS.2.1 a q1 q2) (fun q h => hFr q h) hE⟩
  obtain ⟨v, vm₁, ⟨U', l2, c2, s2⟩, hW₁, X', ⟨g', mk, t, L, σ', τ', vs', e1, e2, w1, w2, w3, w4, hq, q1, hL, q2, q3⟩, st⟩ := va_callSN X hx (bytes := bytes) (maxL := maxL) (ret := rt) hown (va_Nw.use rfl (hNW.1 _ hw)) (hg _ hc3) (hg _ hc2) (hg _ hc1) hy hK9 (g := F0 m pc ls (As.reverse ++ rest)) rfl (hl.1.trans hml.symm) (argsL := As) (rest := rest) hlen rfl (lv_room hcat) (by rw [hb]; exact hd) hPre
  · skip
    dsimp only [Pt.U, Pt.locs, Pt.cells, Pt.slots] at X' e1 e2 q1 q2 q3 st
    subst q1; subst q2; subst q3
    obtain ⟨k1, k2, k3⟩ := vx_keep (H := H) (locs := locs) hT e1 hS (fun q _ hq9 => hFr q hq9) hFr hL w2
    have h9 := kk v σ' τ' vs' hq U'.heap (locs ++ L) ls (by rw [e1]; exact w1.1) (va_D.weaken w1.2.2 (fun _ q _ h => hFr q.1 h)) k3 hl (Nat.le_trans h1 w3) w4
    have e5 : vs.length - n0 + (vs'.length - vs.length) = vs'.length - n0 := by omega
    have e6 : 9 * (vs.length - n0) + 9 * (vs'.length - vs.length) = 9 * (vs'.length - n0) := by omega
    rw [e5, e6] at X'
    obtain ⟨t2, a1, b1⟩ := h9 U' rfl X'
    exact ⟨t2, st _ a1, b1⟩

end GC
