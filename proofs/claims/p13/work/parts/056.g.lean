section
/-! the law: a call on one of the two worlds -/
section LRW
variable {D : va_G} {cl : List vw_C} {H H1 : Heap} {A0 : Nat → Prop}
theorem l_join {wr wc w1 : va_W} (hP : va_P D cl (wr ++ wc) H) (hD : va_D A0 (wr ++ wc)) (hk : ∀ q : Nat, q < H.size → ¬ va_A wc H.size q → H1[q]? = H[q]?) (hF : ∀ q, va_A wc H.size q → A0 q) (hP1 : va_P D cl w1 H1) (hD1 : va_D (va_A wc H.size) w1) : va_P D cl (wr ++ w1) H1 ∧ va_D A0 (wr ++ w1) := by
  obtain ⟨p1, p2⟩ := l_appP.mp hP
  obtain ⟨d1, d2, d3⟩ := l_appD.mp hD
  have apart : ∀ (k : Nat) (q : Nat × va_E), wr[k]? = some q → q.1 < H.size ∧ ¬ va_A wc H.size q.1 := by
    intro k q hq
    have hl := (p1 k q hq).lt
    refine ⟨hl, fun h => ?_⟩
    rcases h with ⟨k2, e, h⟩ | h
    · exact d3 k k2 q (q.1, e) hq h rfl
    · omega
  refine ⟨l_appP.mpr ⟨fun k q hq => ?_, hP1⟩, l_appD.mpr ⟨d1, hD1.weaken (fun k q _ h => hF q.1 h), fun i j x y hx hy hxy => ?_⟩⟩
  · obtain ⟨g1, g2⟩ := apart k q hq
    exact (p1 k q hq).kept (hk q.1 g1 g2)
  · exact (apart i x hx).2 (by rw [hxy]; exact hD1.2 j y hy)
end LRW
section LCL
variable {p : Program} {l : Launch} {e : Env} {s : State} {m : MethodId} {args : Array Value} {below : List Frame} {meth : Method} {c : Code} {H : Heap} {locs : List Loc} {cells slots : Nat} {Q : State → Prop} {D : va_G} {cy : Nat → ClassId} {A : Nat → Prop} {ls : Array Slot} {rest : List Value} {pc : Nat} {S : Sh} {r : Nat → Nat} {E : (Nat → Prop) → State → Prop} {σ τ : St} {vs : List Nat} {wr : va_W}
theorem l_call (hx : p.tables.exec = Jvm.exec) (hb : c.code = code) (hml : c.maxLocals = 4) (hown : s.vm.findClass "LinkedUnitsLaw" = some m.cls) (hg : ∀ w ∈ GW, w.before args s = true) (hNW : nwOK s) (hK : va_K D vwCl (kTy cy) s) (hA : ∀ q, s.heap.size ≤ q → A q) (hEo : EnvOK E) (hE : E A s)
    {index d' maxL n b : Nat} {y : MethodName} {bytes : ByteArray} {rt : Option FieldType} {As st : List Value} {Qr' : QR} {Qt' : QT}
    (C : Ct l D cy S r E y (Cond.code y bytes maxL rt) d' (.ref b :: As) σ τ vs Qr' Qt') (hQt : ∀ σ' τ' vs', ¬ Qt' σ' τ' vs') (hd' : d' ≤ 1300) (hcap : vs.length ≤ CAP) (hcc : cells + (CAP - vs.length) ≤ 601024) (hss : slots + 9 * (CAP - vs.length) ≤ 7293034) (hme : MeV y bytes maxL rt n) (hw : Cond.methodLink "LinkedUnitsLaw" index y ∈ GW) (hrec : Recv S r E vs y.cls b) (hst : st = As.reverse ++ .ref b :: rest) (hn : As.length = n) (hcat : (rest.map fun v => v.category).sum ≤ 8) (hd : decode code pc = .ok (.invokevirtual index, 3)) (hls : ls.size = 4)
    (hP : va_P D vwCl (wr ++ wld S cy r σ τ vs) H) (hD : va_D A (wr ++ wld S cy r σ τ vs)) (hS : va_S A s.heap H locs)
    (kk : ∀ (v : Option Value) (σ' τ' : St) (vs' : List Nat) (H' : Heap) (locs' : List Loc), Qr' v σ' τ' vs' → vs.length ≤ vs'.length → vs'.length ≤ CAP → va_P D vwCl (wr ++ wld S cy r σ' τ' vs') H' → va_D A (wr ++ wld S cy r σ' τ' vs') → va_S A s.heap H' locs' → W p l e room_1 s m args below meth c H' locs' (cells + (vs'.length - vs.length)) (slots + 9 * (vs'.length - vs.length)) Q (F0 m (pc + 3) ls (v.toList ++ rest))) : W p l e room_1 s m args below meth c H locs cells slots Q (F0 m pc ls st) := by
  subst hst
  obtain ⟨d1, d2, d3⟩ := l_appD.mp hD
  obtain ⟨p1, p2⟩ := l_appP.mp hP
  have hFr : ∀ q, va_A (wld S cy r σ τ vs) H.size q → A q := fun q h => va_free (wc := wld S cy r σ τ vs) d2 hS hA (List.range (wld S cy r σ τ vs).length) (range_get _) q h
  obtain ⟨hc1, hc2, hc3, hc4, hm, hy, hpd⟩ := hme
  have hK9 := gx_back (l := l) (R := room_1) (p := p) (e := e) (below := below) (s := s) (sargs := args) (len := 3) (W9 := 8) (C H.size) (kPreE.blind hEo) (show d' + 1 ≤ 2048 by omega) (show 8 + (maxL + 11) + 40 * d' ≤ 84000 by omega) (pay_in hg (gw_c hc1)) (code_of hg hc1) (init_of hg hc2)
  have hlen : ∀ sig, parseMethodDescriptor y.desc = some sig → As.length = sig.parameters.length := fun sig h => by
    rw [h] at hpd
    exact hn.trans (Option.some.inj hpd).symm
  intro T hT X
  obtain ⟨cell, hce, hcs, hcc9⟩ := hrec D cy A s H locs σ τ hK p2 hS hE
  have hPre : ∀ vm₁, s.WarmedH vm₁ → gPre room_1 vs.length (va_Pc (.ref b :: As) (kPreE D cy H.size (wld S cy r σ τ vs) E)) ⟨T.setVm vm₁, locs, cells, slots⟩ (Value.ref b :: As).toArray := fun vm₁ hW₁ => ⟨hcc, hss, rfl, ⟨by show T.heap.size = H.size; rw [hT], nwOK.warm (U := T.setVm vm₁) hW₁ hNW, by show va_P D vwCl _ T.heap; rw [hT]; exact p2, va_K.moved (u := s) (U := T.setVm vm₁) hW₁.alike hK, va_D.weaken d2 (fun _ _ _ _ => trivial)⟩, hEo A _ s (T.setVm vm₁) hW₁ (fun a q1 q2 => by show T.heap[a]? = _; rw [hT]; exact hS.2.1 a q1 q2) (fun q h => hFr q h) hE⟩
  rcases vx_callV X hx (C := y.cls) (bytes := bytes) (maxL := maxL) (ret := rt) hown (hg _ hw) (hg _ hc3) (hg _ hc4) (hg _ hc1) hy hK9 (by rw [hT]; exact hce) hcs hcc9 (g := F0 m pc ls (As.reverse ++ .ref b :: rest)) rfl (hls.trans hml.symm) (argsL := As) (rest := rest) hlen rfl (lv_room hcat) (by rw [hb]; exact hd) hPre with ⟨v, vm₁, ⟨U', l2, c2, s2⟩, hW₁, X', ⟨g', mk, t, L, σ', τ', vs', e1, e2, w1, w2, w3, w4, hq, q1, hL, q2, q3⟩, st⟩ | ⟨q, vm₁, ⟨U', l2, c2, s2⟩, hW₁, X', ⟨g', mk, t, L, σ', τ', vs', e0, e1, e2, w1, w2, w3, w4, hq, q1, hL, q2, q3⟩, st⟩
  · skip
    dsimp only [Pt.U, Pt.locs, Pt.cells, Pt.slots] at X' e1 e2 q1 q2 q3 st
    subst q1; subst q2; subst q3
    obtain ⟨k1, k2, k3⟩ := vx_keep (H := H) (locs := locs) hT e1 hS (fun q _ hq9 => hFr q hq9) hFr hL w2
    have hk : ∀ q : Nat, q < H.size → ¬ va_A (wld S cy r σ τ vs) H.size q → U'.heap[q]? = H[q]? := fun q h1 h2 => by
      rw [e1]
      have h9 := w2.2 q (by show q < T.heap.size; rw [hT]; exact h1) h2
      rw [h9]
      show T.heap[q]? = _
      rw [hT]
    obtain ⟨j1, j2⟩ := l_join (H1 := U'.heap) hP hD hk hFr (by rw [e1]; exact w1.1) w1.2.2
    have h9 := kk v σ' τ' vs' U'.heap (locs ++ L) hq w3 w4 j1 j2 k3
    obtain ⟨t2, a1, b1⟩ := h9 U' rfl X'
    exact ⟨t2, st _ a1, b1⟩
  · exact absurd hq (hQt _ _ _)
end LCL
end

section
/-! the class's formulas: at() and set() as terms, answers -/
def atv (n : Nat) (f : Nat → Int32) (i : Int32) : Int32 := if 0 ≤ i.toInt ∧ i.toInt < n then f i.toNatClampNeg else 0
def setv (n : Nat) (f : Nat → Int32) (i v : Int32) : Nat → Int32 := if 0 ≤ i.toInt ∧ i.toInt < n then (fun k => if k = i.toNatClampNeg then v else f k) else f
def ushr (x y : Int32) : Int32 := (x.toUInt32 >>> (y.toUInt32 &&& Int32.toUInt32 31)).toInt32
def cpy (f : Nat → Int32) (i : Int32) (h : Nat → Int32) (j n : Int32) : Nat → Int32 := fun k => if j.toNatClampNeg ≤ k ∧ k < j.toNatClampNeg + n.toNatClampNeg then f (i.toNatClampNeg + (k - j.toNatClampNeg)) else h k
def gL0 : List Int32 := [8, 8, 9, 9, 10, 10, 10, 5, 3, 4, 6, 6, 7, 7, 7, 7, 1, 2]
def gL1 : List Int32 := [0, 2, 1, 3, 2, 2, 2, 4, 2, 2, 4, 2, 2, 4, 2, 3, 3, 4, 2, 2, 4, 2, 1, 1, 1, 1, 2, 2, 2, 2, 2, 2, 3, 1, 0, 0, 0, 0, 0, 0, 0, 1, 1, 1, 1, 1, 2, 2, 1, 1, 1, 1, 1, 1, 1, 1, 1, 1, 1, 1, 1]
def gS0 : List Int32 := [105, 110, 116, 32, 118, 111, 105, 100, 32, 115, 116, 97, 116, 105, 99, 32, 101, 120, 116, 101, 114, 110, 32, 105, 102, 32, 101, 108, 115, 101, 32, 119, 104, 105, 108, 101, 32, 100, 111, 32, 102, 111, 114, 32, 98, 114, 101, 97, 107, 32, 99, 111, 110, 116, 105, 110, 117, 101, 32, 114, 101, 116, 117, 114, 110, 32]
def gS1 : List Int32 := [40, 32, 41, 32, 123, 32, 125, 32, 91, 32, 93, 32, 44, 32, 59, 32, 63, 32, 58, 32, 61, 32, 60, 60, 61, 32, 62, 62, 61, 32, 43, 61, 32, 45, 61, 32, 42, 61, 32, 47, 61, 32, 37, 61, 32, 38, 61, 32, 124, 61, 32, 94, 61, 32, 60, 60, 32, 62, 62, 32, 43, 32, 45, 32, 42, 32, 47, 32, 37, 32, 38, 32, 124, 32, 94, 32, 61, 61, 32, 33, 61, 32, 60, 32, 62, 32, 60, 61, 32, 62, 61, 32, 124, 124, 32, 38, 38, 32, 33, 32, 126, 32, 43, 43, 32, 45, 45, 32]
def gC (k j : Nat) : Int32 := (([gL0, gL1, gS0, gS1] : List (List Int32)).getD k []).getD j 0
theorem isOp_row {i : Int32} (h : 0 ≤ i.toInt ∧ i.toInt < 500) : isOp (65 + i.toNatClampNeg) := by
  have e : ((i.toNatClampNeg : Nat) : Int) = i.toInt := Int.toNat_of_nonneg h.1
  exact Or.inr ⟨Nat.le_add_right _ _, by omega⟩
theorem atv_in {n : Nat} {f : Nat → Int32} {i : Int32} (h : vp_in i n) (hn : n < 2 ^ 31) : atv n f i = f i.toNatClampNeg := by
  obtain ⟨j, hj, e⟩ := vp_in_of h hn
  have e2 : i.toInt = j := by rw [e, nI_toInt (by omega)]
  unfold atv
  rw [if_pos ⟨by omega, by omega⟩]
theorem atv_out {n : Nat} {f : Nat → Int32} {i : Int32} (h : i.toInt < 0 ∨ (n : Int) ≤ i.toInt) : atv n f i = 0 := by
  unfold atv
  rw [if_neg (by omega)]
theorem setv_in {n : Nat} {f : Nat → Int32} {i v : Int32} (h : vp_in i n) (hn : n < 2 ^ 31) : setv n f i v = fun k => if k = i.toNatClampNeg then v else f k := by
  obtain ⟨j, hj, e⟩ := vp_in_of h hn
  have e2 : i.toInt = j := by rw [e, nI_toInt (by omega)]
  unfold setv
  rw [if_pos ⟨by omega, by omega⟩]
theorem setv_out {n : Nat} {f : Nat → Int32} {i v : Int32} (h : i.toInt < 0 ∨ (n : Int) ≤ i.toInt) : setv n f i v = f := by
  unfold setv
  rw [if_neg (by omega)]
theorem upF_id {σ : St} {j : Nat} : upF σ j (σ j) = σ := funext (fun z => by unfold upF; split <;> simp_all)
section KS
variable {S : Sh} {r : Nat → Nat} {X : Cx} {L : List (Nat × Value)} {rest : List Value} {pc : Nat} {σ : St}
theorem kQ {v : Int32} (k : G S r X σ Z0 [] L (.int v :: rest) pc) : ∀ v' σ' τ' vs', QI (fun x σ9 => x = v ∧ σ9 = σ) v' σ' τ' vs' → G S r X σ' τ' vs' L (v'.toList ++ rest) pc := by
  rintro v' σ' τ' vs' ⟨rfl, rfl, x, rfl, rfl, rfl⟩
  exact k
theorem kU {t : St} (k : G S r X t Z0 [] L rest pc) : ∀ v' σ' τ' vs', QV (fun σ9 => σ9 = t) v' σ' τ' vs' → G S r X σ' τ' vs' L (v'.toList ++ rest) pc := by
  rintro v' σ' τ' vs' ⟨rfl, rfl, rfl, rfl⟩
  exact k
theorem qV {Q : St → Prop} (k : ∀ σ', Q σ' → G S r X σ' Z0 [] L rest pc) : ∀ v σ' τ' vs', QV Q v σ' τ' vs' → G S r X σ' τ' vs' L (v.toList ++ rest) pc := k_v k
theorem qI {Q : Int32 → St → Prop} (k : ∀ x σ', Q x σ' → G S r X σ' Z0 [] L (.int x :: rest) pc) : ∀ v σ' τ' vs', QI Q v σ' τ' vs' → G S r X σ' τ' vs' L (v.toList ++ rest) pc := k_i k
theorem qIr {Q : Int32 → Prop} (k : ∀ x, Q x → G S r X σ Z0 [] L (.int x :: rest) pc) : ∀ v σ' τ' vs', QI (fun x σ9 => σ9 = σ ∧ Q x) v σ' τ' vs' → G S r X σ' τ' vs' L (v.toList ++ rest) pc := by
  rintro v σ' τ' vs' ⟨rfl, rfl, x, rfl, rfl, h⟩
  exact k x h
theorem qZ {Q : Int32 → St → Prop} (k : ∀ x σ', (x = 0 ∨ x = 1) → Q x σ' → G S r X σ' Z0 [] L (.int x :: rest) pc) : ∀ v σ' τ' vs', QI (fun x σ9 => (x = 0 ∨ x = 1) ∧ Q x σ9) v σ' τ' vs' → G S r X σ' τ' vs' L (v.toList ++ rest) pc := by
  rintro v σ' τ' vs' ⟨rfl, rfl, x, rfl, hz, h⟩
  exact k x _ hz h
theorem qZr {Q : Int32 → Prop} (k : ∀ x : Int32, (x = 0 ∨ x = 1) → Q x → G S r X σ Z0 [] L (.int x :: rest) pc) : ∀ v σ' τ' vs', QI (fun x σ9 => (x = 0 ∨ x = 1) ∧ σ9 = σ ∧ Q x) v σ' τ' vs' → G S r X σ' τ' vs' L (v.toList ++ rest) pc := by
  rintro v σ' τ' vs' ⟨rfl, rfl, x, rfl, hz, rfl, h⟩
  exact k x hz h
theorem qJ {Q : Int64 → St → Prop} (k : ∀ x σ', Q x σ' → G S r X σ' Z0 [] L (.long x :: rest) pc) : ∀ v σ' τ' vs', QL Q v σ' τ' vs' → G S r X σ' τ' vs' L (v.toList ++ rest) pc := by
  rintro v σ' τ' vs' ⟨rfl, rfl, x, rfl, h⟩
  exact k x _ h
theorem qA {Q : Nat → St → Prop} (k : ∀ q σ', isOp q → Q q σ' → G S r X σ' Z0 [] L (.ref (r q) :: rest) pc) : ∀ v σ' τ' vs', QA r (fun q σ9 => isOp q ∧ Q q σ9) v σ' τ' vs' → G S r X σ' τ' vs' L (v.toList ++ rest) pc := by
  rintro v σ' τ' vs' ⟨rfl, rfl, q, rfl, hz, h⟩
  exact k q _ hz h
theorem qAr {Q : Nat → Prop} (k : ∀ q, isOp q → Q q → G S r X σ Z0 [] L (.ref (r q) :: rest) pc) : ∀ v σ' τ' vs', QA r (fun q σ9 => isOp q ∧ σ9 = σ ∧ Q q) v σ' τ' vs' → G S r X σ' τ' vs' L (v.toList ++ rest) pc := by
  rintro v σ' τ' vs' ⟨rfl, rfl, q, rfl, hz, rfl, h⟩
  exact k q hz h
end KS
theorem c_atv (a : Nat → Nat) (r : Nat → Nat) (σ : St) {j n : Nat} (ho : ArOK SC j 1 n) (hn : n < 2 ^ 31) (i : Int32) (l : Launch) (D : va_G) (cy : Nat → ClassId) : Ct l D cy SC r (EC a gC) y_X12_at (Cond.code y_X12_at b_X12_at 2 (some .int)) 0 [.ref (r j), .int i] σ Z0 [] (QI (fun v9 σ9 => v9 = atv n (σ j) i ∧ σ9 = σ)) QT0 := by
  refine (c_at a gC r σ ho hn i l D cy).mono ?_ (fun _ _ _ h => h)
  rintro v σ' τ' vs' ⟨e1, e2, x, e3, h, e4⟩
  refine ⟨e1, e2, x, e3, ?_, e4⟩
  rcases h with ⟨h1, h2⟩ | ⟨h1, h2⟩
  · rw [h1]
    refine (atv_out ?_).symm
    by_cases q : i.toInt < 0
    · exact Or.inl q
    · refine Or.inr (Int.not_lt.mp (fun q2 => h2 (s_in hn (by omega) q2)))
  · rw [h2, atv_in h1 hn]
theorem c_setv (a : Nat → Nat) (r : Nat → Nat) (σ : St) {j n : Nat} (ho : ArOK SC j 1 n) (hn : n < 2 ^ 31) (i v : Int32) (l : Launch) (D : va_G) (cy : Nat → ClassId) : Ct l D cy SC r (EC a gC) y_X12_set (Cond.code y_X12_set b_X12_set 3 none) 0 [.ref (r j), .int i, .int v] σ Z0 [] (QV (fun σ9 => σ9 = upF σ j (setv n (σ j) i v))) QT0 := by
  refine Ct_of (EC_ok a gC) (by decide) (Nat.le_of_ble_eq_true rfl) (by decide) (fun X hnn hF => ?_)
  show G SC r X σ Z0 [] [(0, .ref (r j)), (1, .int i), (2, .int v)] [] 0
  refine g_iload_n hF d_X12_set_0 rfl 1 rfl ?_
  refine g_if_lt hF 14 d_X12_set_1 (by decide) rfl (fun c1 => ?_) (fun c1 => ?_)
  · exact g_vret hF rfl d_X12_set_14 ⟨rfl, rfl, rfl, by rw [setv_out (Or.inl c1), upF_id]⟩
  · refine g_iload_n hF d_X12_set_4 rfl 1 rfl ?_
    refine g_aload_n hF d_X12_set_5 rfl 0 rfl ?_
    refine g_alen hF ho (fun _ => ⟨1, _, rfl⟩) (v := nI n) rfl d_X12_set_6 ?_
    refine g_icmp_ge hF 14 d_X12_set_7 (by decide) rfl (nI_toInt hn) (fun c2 => ?_) (fun c2 => ?_)
    · exact g_vret hF rfl d_X12_set_14 ⟨rfl, rfl, rfl, by rw [setv_out (Or.inr c2), upF_id]⟩
    · refine g_aload_n hF d_X12_set_10 rfl 0 rfl ?_
      refine g_iload_n hF d_X12_set_11 rfl 1 rfl ?_
      refine g_iload_n hF d_X12_set_12 rfl 2 rfl ?_
      refine g_iast hF ho (s_in hn c1 c2) d_X12_set_13 ?_
      refine g_vret hF rfl d_X12_set_14 ⟨rfl, rfl, rfl, ?_⟩
      rw [setv_in (s_in hn c1 c2) hn]
      funext z
      unfold upC upF
      split <;> simp_all
theorem c_atT0 (a : Nat → Nat) (r : Nat → Nat) (σ0 : St) (i : Int32) (l : Launch) (D : va_G) (cy : Nat → ClassId) : Ct l D cy SC r (EC a gC) y_X12_at (Cond.code y_X12_at b_X12_at 2 (some .int)) 0 [.ref (a 0), .int i] σ0 Z0 [] (QI (fun v9 σ9 => v9 = atv 18 (gC 0) i ∧ σ9 = σ0)) QT0 := by
  have hn : 18 < 2 ^ 31 := by decide
  refine Ct_of (EC_ok a gC) (by decide) (Nat.le_of_ble_eq_true rfl) (by decide) (fun X hnn hF => ?_)
  show G SC r X σ0 Z0 [] [(0, .ref (a 0)), (1, .int i)] [] 0
  refine g_iload_n hF d_X12_at_0 rfl 1 rfl ?_
  refine g_if_lt hF 16 d_X12_at_1 (by decide) rfl (fun c1 => ?_) (fun c1 => ?_)
  · refine g_iconst hF (v := 0) d_X12_at_16 (by decide) ?_
    exact g_iret hF rfl d_X12_at_17 ⟨rfl, rfl, 0, rfl, (atv_out (Or.inl c1)).symm, rfl⟩
  · refine g_iload_n hF d_X12_at_4 rfl 1 rfl ?_
    refine g_aload_n hF d_X12_at_5 rfl 0 rfl ?_
    refine g_tlen hF (fun A s h => EC_t0 h) (v := nI 18) rfl d_X12_at_6 ?_
    refine g_icmp_ge hF 16 d_X12_at_7 (by decide) rfl (nI_toInt hn) (fun c2 => ?_) (fun c2 => ?_)
    · refine g_iconst hF (v := 0) d_X12_at_16 (by decide) ?_
      exact g_iret hF rfl d_X12_at_17 ⟨rfl, rfl, 0, rfl, (atv_out (Or.inr c2)).symm, rfl⟩
    · refine g_aload_n hF d_X12_at_10 rfl 0 rfl ?_
      refine g_iload_n hF d_X12_at_11 rfl 1 rfl ?_
      refine g_ti hF (fun A s h => EC_t0 h) (s_in hn c1 c2) d_X12_at_12 ?_
      refine g_goto hF 17 d_X12_at_13 (by decide) ?_
      exact g_iret hF rfl d_X12_at_17 ⟨rfl, rfl, _, rfl, (atv_in (s_in hn c1 c2) hn).symm, rfl⟩
theorem c_atT1 (a : Nat → Nat) (r : Nat → Nat) (σ0 : St) (i : Int32) (l : Launch) (D : va_G) (cy : Nat → ClassId) : Ct l D cy SC r (EC a gC) y_X12_at (Cond.code y_X12_at b_X12_at 2 (some .int)) 0 [.ref (a 1), .int i] σ0 Z0 [] (QI (fun v9 σ9 => v9 = atv 61 (gC 1) i ∧ σ9 = σ0)) QT0 := by
  have hn : 61 < 2 ^ 31 := by decide
  refine Ct_of (EC_ok a gC) (by decide) (Nat.le_of_ble_eq_true rfl) (by decide) (fun X hnn hF => ?_)
  show G SC r X σ0 Z0 [] [(0, .ref (a 1)), (1, .int i)] [] 0
  refine g_iload_n hF d_X12_at_0 rfl 1 rfl ?_
  refine g_if_lt hF 16 d_X12_at_1 (by decide) rfl (fun c1 => ?_) (fun c1 => ?_)
  · refine g_iconst hF (v := 0) d_X12_at_16 (by decide) ?_
    exact g_iret hF rfl d_X12_at_17 ⟨rfl, rfl, 0, rfl, (atv_out (Or.inl c1)).symm, rfl⟩
  · refine g_iload_n hF d_X12_at_4 rfl 1 rfl ?_
    refine g_aload_n hF d_X12_at_5 rfl 0 rfl ?_
    refine g_tlen hF (fun A s h => EC_t1 h) (v := nI 61) rfl d_X12_at_6 ?_
    refine g_icmp_ge hF 16 d_X12_at_7 (by decide) rfl (nI_toInt hn) (fun c2 => ?_) (fun c2 => ?_)
    · refine g_iconst hF (v := 0) d_X12_at_16 (by decide) ?_
      exact g_iret hF rfl d_X12_at_17 ⟨rfl, rfl, 0, rfl, (atv_out (Or.inr c2)).symm, rfl⟩
    · refine g_aload_n hF d_X12_at_10 rfl 0 rfl ?_
      refine g_iload_n hF d_X12_at_11 rfl 1 rfl ?_
      refine g_ti hF (fun A s h => EC_t1 h) (s_in hn c1 c2) d_X12_at_12 ?_
      refine g_goto hF 17 d_X12_at_13 (by decide) ?_
      exact g_iret hF rfl d_X12_at_17 ⟨rfl, rfl, _, rfl, (atv_in (s_in hn c1 c2) hn).symm, rfl⟩
end

section
/-! what System.arraycopy and Arrays.fill leave, exactly -/
/-- a row whose first n cells are one value -/
def fil (n : Nat) (w : Int32) (f : Nat → Int32) : Nat → Int32 := fun k => if k < n then w else f k
theorem fil_in {n k : Nat} {w : Int32} {f : Nat → Int32} (h : k < n) : fil n w f k = w := if_pos h
theorem cpy_in {f g : Nat → Int32} {a b n k : Nat} (h1 : b ≤ k) (h2 : k < b + n) : va_cpy f g a b n k = f (a + (k - b)) := if_pos ⟨h1, h2⟩
theorem cpy_out {f g : Nat → Int32} {a b n k : Nat} (h : k < b ∨ b + n ≤ k) : va_cpy f g a b n k = g k := if_neg (fun q => by omega)
section XCT
variable {S : Sh} {r : Nat → Nat} {X : Cx} {ex : List ExceptionTableEntry} {cc : ByteArray} {own : String} {ret : Option FieldType} {d : Nat} {Qr : QR} {Qt : QT} {E : (Nat → Prop) → State → Prop} {σ τ : St} {vs : List Nat} {L : List (Nat × Value)} {rest : List Value} {pc : Nat}
theorem g_copybx (hF : Fx S r X ex cc own ret d Qr Qt E) {index j0 j1 n0 n1 : Nat} {sp dp n : Int32} (hd1 : 1 ≤ d) (hw : Cond.methodLink own index arraycopyName ∈ GW) (hs : Cond.static arraycopyName ∈ GW) (hnat : Cond.native arraycopyName ∈ GW) (hi : Cond.initialized "java/lang/System" ∈ GW) (ho0 : ArOK S j0 0 n0) (ho1 : ArOK S j1 0 n1)
    (h1 : 0 ≤ sp.toInt) (h2 : 0 ≤ dp.toInt) (h3 : 0 ≤ n.toInt) (h4 : sp.toNatClampNeg + n.toNatClampNeg ≤ n0) (h5 : dp.toNatClampNeg + n.toNatClampNeg ≤ n1) (hfit : ∀ i, i < n.toNatClampNeg → fits .byte (.int (σ j0 (sp.toNatClampNeg + i))) = true) (hloc : (rest.map fun v => v.category).sum + (nativeFrameWords "java/lang/System" "arraycopy" 5 + 11) ≤ 40 * d) (hd : decode cc pc = .ok (.invokestatic index, 3))
    (k : G S r X (upF σ j1 (va_cpy (σ j0) (σ j1) sp.toNatClampNeg dp.toNatClampNeg n.toNatClampNeg)) τ vs L rest (pc + 3)) : G S r X σ τ vs L (.int n :: .int dp :: .ref (r j1) :: .int sp :: .ref (r j0) :: rest) pc := by
  have g1 : ∀ {x : Int32}, 0 ≤ x.toInt → ¬ x < 0 := fun h q => by
    have q := i_lt.mp q
    have e0 : (0 : Int32).toInt = 0 := by decide
    omega
  obtain ⟨p, l, e, R, s, m, args, below, meth, c, A, D, cy, Q, nL, n9⟩ := X
  obtain ⟨hx, hb, hml, hown, hret, hlk, hR, hQ, hg, hNW, hK, hA, hE, hEo, hex⟩ := hF
  intro H locs ls hP hD hS hl h8 h9
  refine va_copyi hx hb (hml.trans hl.1.symm) hown (hg _ hw) (hg _ hnat) (hg _ hs) (hg _ hi) hK hP hD hS j0 j1 0 0 ((wld_at ho0.2.1).trans (by rw [cellE_arr ho0.2.2 ho0.1])) ((wld_at ho1.2.1).trans (by rw [cellE_arr ho1.2.2 ho1.1])) rfl rfl rfl (g1 h1) (g1 h2) (g1 h3) h4 h5 hfit (g_hf9 hR hd1).1 (Nat.le_trans hloc (g_hf9 hR hd1).2) hd (fun H locs hP hD hS => ?_)
  have e9 : (wld S cy r σ τ vs).set j1 (r j1, .inl (cy 0, n1, .inl (va_cpy (σ j0) (σ j1) sp.toNatClampNeg dp.toNatClampNeg n.toNatClampNeg))) = wld S cy r (upF σ j1 (va_cpy (σ j0) (σ j1) sp.toNatClampNeg dp.toNatClampNeg n.toNatClampNeg)) τ vs := by
    have e8 := cellE_arr (cy := cy) (r := r) (σ := upF σ j1 (va_cpy (σ j0) (σ j1) sp.toNatClampNeg dp.toNatClampNeg n.toNatClampNeg)) ho1.2.2 ho1.1
    rw [upF_same] at e8
    rw [← e8]
    exact wld_set ho1.2.1
  rw [e9] at hP hD
  exact k H locs ls hP hD hS hl h8 h9
theorem c_fillx (a : Nat → Nat) (g : Nat → Nat → Int32) (r : Nat → Nat) (σ0 : St) {j n : Nat} (ho : ArOK SC j 1 n) (hn : n < 2 ^ 31) (w : Int32) (l : Launch) (D : va_G) (cy : Nat → ClassId) : Ct l D cy SC r (EC a g) y_Arrays_fill (Cond.code y_Arrays_fill b_Arrays_fill 4 none) 0 [.ref (r j), .int w] σ0 Z0 [] (QV (fun σ9 => σ9 = upF σ0 j (fil n w (σ0 j)))) QF := by
  refine Ct_of (EC_ok a g) (by decide) (Nat.le_of_ble_eq_true rfl) (by decide) (fun X hnn hF => ?_)
  show G SC r X σ0 Z0 [] [(0, .ref (r j)), (1, .int w)] [] 0
  have b5 : ∀ N : Nat, ∀ (x : Int32) (h : Nat → Int32), upm x = N → 0 ≤ x.toInt → x.toInt ≤ (n : Int) → h = fil x.toInt.toNat w (σ0 j) → G SC r X (upF σ0 j h) Z0 [] [(0, .ref (r j)), (1, .int w), (2, .int x), (3, .int (nI n))] [] 5 := by
    intro M
    induction M using Nat.strongRecOn with
    | _ M ih =>
      intro x h N0 h0 hxn hh
      refine g_iload_n hF d_Arrays_fill_5 rfl 2 rfl ?_
      refine g_iload_n hF d_Arrays_fill_6 rfl 3 rfl ?_
      refine g_icmp_ge hF 20 d_Arrays_fill_7 (by decide) rfl (nI_toInt hn) (fun c => ?_) (fun c => ?_)
      · exact g_vret hF rfl d_Arrays_fill_20 ⟨rfl, rfl, rfl, by rw [hh, show x.toInt.toNat = n from by omega]⟩
      · refine g_aload_n hF d_Arrays_fill_10 rfl 0 rfl ?_
        refine g_iload_n hF d_Arrays_fill_11 rfl 2 rfl ?_
        refine g_iload_n hF d_Arrays_fill_12 rfl 1 rfl ?_
        refine g_iast hF ho (s_in hn h0 c) d_Arrays_fill_13 ?_
        have e1 : upC (upF σ0 j h) j x.toNatClampNeg w = upF σ0 j (fun z => if z = x.toNatClampNeg then w else h z) := by
          funext z
          unfold upC upF
          split <;> simp_all
        rw [e1]
        obtain ⟨k1, e2⟩ := s_add x 1
        have e3 : (1 : Int32).toInt = 1 := by decide
        have e4 := s_rng (x + 1)
        refine g_iinc hF (x + 1) [(2, .int (x + 1)), (0, .ref (r j)), (1, .int w), (3, .int (nI n))] d_Arrays_fill_14 2 rfl rfl hnn (by decide) rfl ?_
        refine g_goto hF 5 d_Arrays_fill_17 (by decide) ?_
        refine g_sub (L' := [(0, .ref (r j)), (1, .int w), (2, .int (x + 1)), (3, .int (nI n))]) [1, 2, 0, 3] rfl ?_
        refine ih _ (by rw [← N0]; unfold upm; omega) (x + 1) _ rfl (by omega) (by omega) ?_
        funext z
        rw [hh]
        unfold fil
        rw [show (x + 1).toInt.toNat = x.toInt.toNat + 1 from by omega, show x.toNatClampNeg = x.toInt.toNat from rfl]
        by_cases c1 : z = x.toInt.toNat
        · rw [if_pos c1, if_pos (by omega)]
        · rw [if_neg c1]
          by_cases c2 : z < x.toInt.toNat
          · rw [if_pos c2, if_pos (by omega)]
          · rw [if_neg c2, if_neg (by omega)]
  refine g_iconst hF (v := 0) d_Arrays_fill_0 (by decide) ?_
  refine g_istore_n hF [(2, .int 0), (0, .ref (r j)), (1, .int w)] d_Arrays_fill_1 rfl hnn (by decide) rfl ?_
  refine g_aload_n hF d_Arrays_fill_2 rfl 1 rfl ?_
  refine g_alen hF ho (fun _ => ⟨1, _, rfl⟩) (v := nI n) rfl d_Arrays_fill_3 ?_
  refine g_istore_n hF [(3, .int (nI n)), (2, .int 0), (0, .ref (r j)), (1, .int w)] d_Arrays_fill_4 rfl hnn (by decide) rfl ?_
  have e0 : σ0 = upF σ0 j (σ0 j) := by
    funext z
    unfold upF
    split <;> simp_all
  refine g_sub (L' := [(0, .ref (r j)), (1, .int w), (2, .int 0), (3, .int (nI n))]) [2, 3, 1, 0] rfl ?_
  rw [e0]
  have h := b5 _ 0 (σ0 j) rfl (by decide) (by rw [show (0 : Int32).toInt = 0 from rfl]; omega) (by funext z; unfold fil; rw [show (0 : Int32).toInt.toNat = 0 from rfl, if_neg (Nat.not_lt_zero z)])
  exact h
end XCT
end

