/-! the law: a call on one of the two worlds -/
section LRW
variable {D : va_G} {cl : List vw_C} {H H1 : Heap} {A0 : Nat → Prop}
theorem l_join {wr wc w1 : va_W} (hP : va_P D cl (wr ++ wc) H) (hD : va_D A0 (wr ++ wc)) (hk : ∀ q : Nat, q < H.size → ¬ va_A wc H.size q → H1[q]? = H[q]?) (hF : ∀ q, va_A wc H.size q → A0 q) (hP1 : va_P D cl w1 H1) (hD1 : va_D (va_A wc H.size) w1) : va_P D cl (wr ++ w1) H1 ∧ va_D A0 (wr ++ w1) := by
  obtain ⟨p1, p2⟩ := l_appP.mp hP
  obtain ⟨d1, d2, d3⟩ := l_appD.mp hD
  have apart : ∀ (k : Nat) (q : Nat × va_E), wr[k]? = some q → q.1 < H.size ∧ ¬ va_A wc H.size q.1 := by
    intro k q hq
    have hl := (p1 k q hq).lt
    refine ⟨hl, fun h => ?_⟩
    rcases h with ⟨k2, e, h⟩ | h
    · exact d3 k k2 q (q.1, e) hq h rfl
    · omega
  refine ⟨l_appP.mpr ⟨fun k q hq => ?_, hP1⟩, l_appD.mpr ⟨d1, hD1.weaken (fun k q _ h => hF q.1 h), fun i j x y hx hy hxy => ?_⟩⟩
  · obtain ⟨g1, g2⟩ := apart k q hq
    exact (p1 k q hq).kept (hk q.1 g1 g2)
  · exact (apart i x hx).2 (by rw [hxy]; exact hD1.2 j y hy)
end LRW
section LCL
variable {p : Program} {l : Launch} {e : Env} {s : State} {m : MethodId} {args : Array Value} {below : List Frame} {meth : Method} {c : Code} {H : Heap} {locs : List Loc} {cells slots : Nat} {Q : State → Prop} {D : va_G} {cy : Nat → ClassId} {A : Nat → Prop} {ls : Array Slot} {rest : List Value} {pc : Nat} {S : Sh} {r : Nat → Nat} {E : (Nat → Prop) → State → Prop} {σ τ : St} {vs : List Nat} {wr : va_W}
theorem l_call (hx : p.tables.exec = Jvm.exec) (hb : c.code = code) (hml : c.maxLocals = 4) (hown : s.vm.findClass "LinkedUnitsLaw" = some m.cls) (hg : ∀ w ∈ GW, w.before args s = true) (hNW : nwOK s) (hK : va_K D vwCl (kTy cy) s) (hA : ∀ q, s.heap.size ≤ q → A q) (hEo : EnvOK E) (hE : E A s)
    {index d' maxL n b : Nat} {y : MethodName} {bytes : ByteArray} {rt : Option FieldType} {As st : List Value} {Qr' : QR} {Qt' : QT}
    (C : Ct l D cy S r E y (Cond.code y bytes maxL rt) d' (.ref b :: As) σ τ vs Qr' Qt') (hQt : ∀ σ' τ' vs', ¬ Qt' σ' τ' vs') (hd' : d' ≤ 1300) (hcap : vs.length ≤ CAP) (hcc : cells + (CAP - vs.length) ≤ 601024) (hss : slots + 9 * (CAP - vs.length) ≤ 7293034) (hme : MeV y bytes maxL rt n) (hw : Cond.methodLink "LinkedUnitsLaw" index y ∈ GW) (hrec : Recv S r E vs y.cls b) (hst : st = As.reverse ++ .ref b :: rest) (hn : As.length = n) (hcat : (rest.map fun v => v.category).sum ≤ 8) (hd : decode code pc = .ok (.invokevirtual index, 3)) (hls : ls.size = 4)
    (hP : va_P D vwCl (wr ++ wld S cy r σ τ vs) H) (hD : va_D A (wr ++ wld S cy r σ τ vs)) (hS : va_S A s.heap H locs)
    (kk : ∀ (v : Option Value) (σ' τ' : St) (vs' : List Nat) (H' : Heap) (locs' : List Loc), Qr' v σ' τ' vs' → vs.length ≤ vs'.length → vs'.length ≤ CAP → va_P D vwCl (wr ++ wld S cy r σ' τ' vs') H' → va_D A (wr ++ wld S cy r σ' τ' vs') → va_S A s.heap H' locs' → W p l e room_1 s m args below meth c H' locs' (cells + (vs'.length - vs.length)) (slots + 9 * (vs'.length - vs.length)) Q (F0 m (pc + 3) ls (v.toList ++ rest))) : W p l e room_1 s m args below meth c H locs cells slots Q (F0 m pc ls st) := by
  subst hst
  obtain ⟨d1, d2, d3⟩ := l_appD.mp hD
  obtain ⟨p1, p2⟩ := l_appP.mp hP
  have hFr : ∀ q, va_A (wld S cy r σ τ vs) H.size q → A q := fun q h => va_free (wc := wld S cy r σ τ vs) d2 hS hA (List.range (wld S cy r σ τ vs).length) (range_get _) q h
  obtain ⟨hc1, hc2, hc3, hc4, hm, hy, hpd⟩ := hme
  have hK9 := gx_back (l := l) (R := room_1) (p := p) (e := e) (below := below) (s := s) (sargs := args) (len := 3) (W9 := 8) (C H.size) (kPreE.blind hEo) (show d' + 1 ≤ 2048 by omega) (show 8 + (maxL + 11) + 40 * d' ≤ 84000 by omega) (pay_in hg (gw_c hc1)) (code_of hg hc1) (init_of hg hc2)
  have hlen : ∀ sig, parseMethodDescriptor y.desc = some sig → As.length = sig.parameters.length := fun sig h => by
    rw [h] at hpd
    exact hn.trans (Option.some.inj hpd).symm
  intro T hT X
  obtain ⟨cell, hce, hcs, hcc9⟩ := hrec D cy A s H locs σ τ hK p2 hS hE
  have hPre : ∀ vm₁, s.WarmedH vm₁ → gPre room_1 vs.length (va_Pc (.ref b :: As) (kPreE D cy H.size (wld S cy r σ τ vs) E)) ⟨T.setVm vm₁, locs, cells, slots⟩ (Value.ref b :: As).toArray := fun vm₁ hW₁ => ⟨hcc, hss, rfl, ⟨by show T.heap.size = H.size; rw [hT], nwOK.warm (U := T.setVm vm₁) hW₁ hNW, by show va_P D vwCl _ T.heap; rw [hT]; exact p2, va_K.moved (u := s) (U := T.setVm vm₁) hW₁.alike hK, va_D.weaken d2 (fun _ _ _ _ => trivial)⟩, hEo A _ s (T.setVm vm₁) hW₁ (fun a q1 q2 => by show T.heap[a]? = _; rw [hT]; exact hS.2.1 a q1 q2) (fun q h => hFr q h) hE⟩
  rcases vx_callV X hx (C := y.cls) (bytes := bytes) (maxL := maxL) (ret := rt) hown (hg _ hw) (hg _ hc3) (hg _ hc4) (hg _ hc1) hy hK9 (by rw [hT]; exact hce) hcs hcc9 (g := F0 m pc ls (As.reverse ++ .ref b :: rest)) rfl (hls.trans hml.symm) (argsL := As) (rest := rest) hlen rfl (lv_room hcat) (by rw [hb]; exact hd) hPre with ⟨v, vm₁, ⟨U', l2, c2, s2⟩, hW₁, X', ⟨g', mk, t, L, σ', τ', vs', e1, e2, w1, w2, w3, w4, hq, q1, hL, q2, q3⟩, st⟩ | ⟨q, vm₁, ⟨U', l2, c2, s2⟩, hW₁, X', ⟨g', mk, t, L, σ', τ', vs', e0, e1, e2, w1, w2, w3, w4, hq, q1, hL, q2, q3⟩, st⟩
  · skip
    dsimp only [Pt.U, Pt.locs, Pt.cells, Pt.slots] at X' e1 e2 q1 q2 q3 st
    subst q1; subst q2; subst q3
    obtain ⟨k1, k2, k3⟩ := vx_keep (H := H) (locs := locs) hT e1 hS (fun q _ hq9 => hFr q hq9) hFr hL w2
    have hk : ∀ q : Nat, q < H.size → ¬ va_A (wld S cy r σ τ vs) H.size q → U'.heap[q]? = H[q]? := fun q h1 h2 => by
      rw [e1]
      have h9 := w2.2 q (by show q < T.heap.size; rw [hT]; exact h1) h2
      rw [h9]
      show T.heap[q]? = _
      rw [hT]
    obtain ⟨j1, j2⟩ := l_join (H1 := U'.heap) hP hD hk hFr (by rw [e1]; exact w1.1) w1.2.2
    have h9 := kk v σ' τ' vs' U'.heap (locs ++ L) hq w3 w4 j1 j2 k3
    obtain ⟨t2, a1, b1⟩ := h9 U' rfl X'
    exact ⟨t2, st _ a1, b1⟩
  · exact absurd hq (hQt _ _ _)
end LCL
