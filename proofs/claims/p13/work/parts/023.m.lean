/-! constructors, and what the reference's side wants beside -/
section GI
variable {S : Sh} {r : Nat → Nat} {X : Cx} {ex : List ExceptionTableEntry} {cc : ByteArray} {own : String} {ret : Option FieldType} {d : Nat} {Qr : QR} {Qt : QT} {E : (Nat → Prop) → State → Prop} {σ τ : St} {vs : List Nat} {L : List (Nat × Value)} {rest : List Value} {pc : Nat}
def MeI (y : MethodName) (bytes : ByteArray) (maxL n : Nat) : Prop := Cond.code y bytes maxL none ∈ GW ∧ Cond.initialized y.cls ∈ GW ∧ Cond.instanceMethod y ∈ GW ∧ y.name = "<init>" ∧ maxL ≤ 21 ∧ (y.cls ≠ "java/lang/invoke/MethodHandle" ∧ y.cls ≠ "java/lang/invoke/VarHandle") ∧ (parseMethodDescriptor y.desc).map (fun d => d.parameters.length) = some n
theorem g_callI (hF : Fx S r X ex cc own ret d Qr Qt E) {index d' maxL n b : Nat} {y : MethodName} {bytes : ByteArray} {As st : List Value} {Qr' : QR}
    (C : ∀ (l : Launch) (D : va_G) (cy : Nat → ClassId), Ct l D cy S r E y (Cond.code y bytes maxL none) d' (.ref b :: As) σ τ vs Qr' (fun _ _ _ => False)) (hd' : d' + 1 ≤ d) (hme : MeI y bytes maxL n) (hw : Cond.methodLink own index y ∈ GW) (hst : st = As.reverse ++ .ref b :: rest) (hn : As.length = n) (hcat : (rest.map fun v => v.category).sum ≤ 8) (hd : decode cc pc = .ok (.invokespecial index, 3))
    (kk : ∀ v σ' τ' vs', Qr' v σ' τ' vs' → G S r X σ' τ' vs' L (v.toList ++ rest) (pc + 3)) : G S r X σ τ vs L st pc := by
  obtain ⟨p, l, e, R, s, m, args, below, meth, c, A, D, cy, Q, nL, n0⟩ := X
  obtain ⟨hx, hb, hml, hown, hret, hlk, hR, hQ, hg, hNW, hK, hA, hE, hEo, hex⟩ := hF
  intro H locs ls hP hD hS hl h1 h2
  subst hst
  have hFr : ∀ q, va_A (wld S cy r σ τ vs) H.size q → A q := fun q h => va_free (wc := wld S cy r σ τ vs) hD hS hA (List.range (wld S cy r σ τ vs).length) (range_get _) q h
  obtain ⟨hc1, hc2, hc3, hyn, hm, hy, hpd⟩ := hme
  have hroom := g_room hR hd' hm
  have hK9 := gx_back (l := l) (R := R) (p := p) (e := e) (below := below) (s := s) (sargs := args) (len := 3) (W9 := 8) (C l D cy H.size) (kPreE.blind hEo) hroom.1 hroom.2 (pay_in hg (gw_c hc1)) (code_of hg hc1) (init_of hg hc2)
  have hK9 := back_of_vx hK9 (fun _ _ _ _ h => by obtain ⟨_, _, _, _, _, _, _, _, _, _, _, _, _, _, h, _⟩ := h; exact h)
  have hlen : ∀ sig, parseMethodDescriptor y.desc = some sig → As.length = sig.parameters.length := fun sig h => by
    rw [h] at hpd
    exact hn.trans (Option.some.inj hpd).symm
  intro T hT X
  have hPre : ∀ vm₁, s.WarmedH vm₁ → gPre R vs.length (va_Pc (.ref b :: As) (kPreE D cy H.size (wld S cy r σ τ vs) E)) ⟨T.setVm vm₁, locs, vs.length - n0, 9 * (vs.length - n0)⟩ (Value.ref b :: As).toArray := fun vm₁ hW₁ => ⟨(g_cells hR h1 h2).1, (g_cells hR h1 h2).2, rfl, ⟨by show T.heap.size = H.size; rw [hT], nwOK.warm (U := T.setVm vm₁) hW₁ hNW, by show va_P D vwCl _ T.heap; rw [hT]; exact hP, va_K.moved (u := s) (U := T.setVm vm₁) hW₁.alike hK, va_D.weaken hD (fun _ _ _ _ => trivial)⟩, hEo A _ s (T.setVm vm₁) hW₁ (fun a q1 q2 => by show T.heap[a]? = _; rw [hT]; exact hS.2.1 a q1 q2) (fun q h => hFr q h) hE⟩
  obtain ⟨v, vm₁, ⟨U', l2, c2, s2⟩, hW₁, X', ⟨g', mk, t, L, σ', τ', vs', e1, e2, w1, w2, w3, w4, hq, q1, hL, q2, q3⟩, st⟩ := callI X hx (bytes := bytes) (maxL := maxL) hown hyn (hg _ hw) (hg _ hc3) (hg _ hc1) hy hK9 (g := F0 m pc ls (As.reverse ++ .ref b :: rest)) rfl (hl.1.trans hml.symm) (a := b) (argsL := As) (rest := rest) hlen rfl (lv_room hcat) (by rw [hb]; exact hd) hPre
  · skip
    dsimp only [Pt.U, Pt.locs, Pt.cells, Pt.slots] at X' e1 e2 q1 q2 q3 st
    subst q1; subst q2; subst q3
    obtain ⟨k1, k2, k3⟩ := vx_keep (H := H) (locs := locs) hT e1 hS (fun q _ hq9 => hFr q hq9) hFr hL w2
    have h9 := kk v σ' τ' vs' hq U'.heap (locs ++ L) ls (by rw [e1]; exact w1.1) (va_D.weaken w1.2.2 (fun _ q _ h => hFr q.1 h)) k3 hl (Nat.le_trans h1 w3) w4
    have e5 : vs.length - n0 + (vs'.length - vs.length) = vs'.length - n0 := by omega
    have e6 : 9 * (vs.length - n0) + 9 * (vs'.length - vs.length) = 9 * (vs'.length - n0) := by omega
    rw [e5, e6] at X'
    obtain ⟨t2, a1, b1⟩ := h9 U' rfl X'
    exact ⟨t2, st _ a1, b1⟩

theorem g_objInit (hF : Fx S r X ex cc own ret d Qr Qt E) {index a : Nat} (hd1 : 1 ≤ d) (hw : Cond.methodLink own index Lib.objectInit ∈ GW) (hi : Cond.instanceMethod Lib.objectInit ∈ GW) (hc : Cond.code Lib.objectInit ⟨#[0xb1]⟩ 1 none ∈ GW) (hcat : (rest.map fun v => v.category).sum ≤ 8) (hd : decode cc pc = .ok (.invokespecial index, 3)) (k : G S r X σ τ vs L rest (pc + 3)) : G S r X σ τ vs L (.ref a :: rest) pc := by
  obtain ⟨p, l, e, R, s, m, args, below, meth, c, A, D, cy, Q, nL, n0⟩ := X
  obtain ⟨hx, hb, hml, hown, hret, hlk, hR, hQ, hg, hNW, hK, hA, hE, hEo, hex⟩ := hF
  intro H locs ls hP hD hS hl h1 h2
  have h9 := g_hf hR hd1
  have h8 := lv_room (m := m) (pc := pc) (ls := ls) (rest := .ref a :: rest) hcat
  refine W.objInit hx hb hown (hg _ hw) (hg _ hi) (hg _ hc) (g := F0 m pc ls (.ref a :: rest)) rfl (hl.1.trans hml.symm) rfl hd h9.1 (by have := h9.2; omega) ?_
  exact k H locs ls hP hD hS hl h1 h2
end GI
/-! the reference's walks: answers, strings -/
def QVs (Q : St → St → List Nat → Prop) : QR := fun v σ τ vs => v = none ∧ Q σ τ vs
def QIs (Q : Int32 → St → St → List Nat → Prop) : QR := fun v σ τ vs => ∃ x, v = some (.int x) ∧ Q x σ τ vs
def QZs (Q : Int32 → St → St → List Nat → Prop) : QR := fun v σ τ vs => ∃ x, v = some (.int x) ∧ (x = 0 ∨ x = 1) ∧ Q x σ τ vs
def QAs (Q : Nat → St → St → List Nat → Prop) : QR := fun v σ τ vs => ∃ u, v = some (.ref u) ∧ Q u σ τ vs
def QXs (r : Nat → Nat) (Q : St → St → List Nat → Prop) : QR := fun v σ τ vs => v = some (.ref (r 7)) ∧ Q σ τ vs
def QIr (σ0 τ0 : St) (vs0 : List Nat) (Q : Int32 → Prop) : QR := fun v σ τ vs => σ = σ0 ∧ τ = τ0 ∧ vs = vs0 ∧ ∃ x, v = some (.int x) ∧ Q x
def QZr (σ0 τ0 : St) (vs0 : List Nat) (Q : Int32 → Prop) : QR := fun v σ τ vs => σ = σ0 ∧ τ = τ0 ∧ vs = vs0 ∧ ∃ x, v = some (.int x) ∧ (x = 0 ∨ x = 1) ∧ Q x
theorem upC_k {σ : St} {p k j : Nat} {v : Int32} (h : j ≠ k) : upC σ p k v p j = σ p j := upC_ne h
def QT0 : QT := fun _ _ _ => False
section WPK
variable {S : Sh} {r : Nat → Nat} {X : Cx} {σ τ : St} {vs : List Nat} {L : List (Nat × Value)} {st rest : List Value} {pc : Nat} {ex : List ExceptionTableEntry} {cc : ByteArray} {own : String} {ret : Option FieldType} {d : Nat} {Qr : QR} {Qt : QT} {E : (Nat → Prop) → State → Prop}
theorem g_cap (k : vs.length ≤ CAP → G S r X σ τ vs L st pc) : G S r X σ τ vs L st pc := by
  obtain ⟨p, l, e, R, s, m, args, below, meth, c, A, D, cy, Q, nL, n0⟩ := X
  intro H locs ls hP hD hS hl h1 h2
  exact k h2 H locs ls hP hD hS hl h1 h2
theorem kV {Q : St → St → List Nat → Prop} (k : ∀ σ' τ' vs', Q σ' τ' vs' → G S r X σ' τ' vs' L rest pc) : ∀ v σ' τ' vs', QVs Q v σ' τ' vs' → G S r X σ' τ' vs' L (v.toList ++ rest) pc := by
  rintro v σ' τ' vs' ⟨rfl, h⟩
  exact k _ _ _ h
theorem kI {Q : Int32 → St → St → List Nat → Prop} (k : ∀ x σ' τ' vs', Q x σ' τ' vs' → G S r X σ' τ' vs' L (.int x :: rest) pc) : ∀ v σ' τ' vs', QIs Q v σ' τ' vs' → G S r X σ' τ' vs' L (v.toList ++ rest) pc := by
  rintro v σ' τ' vs' ⟨x, rfl, h⟩
  exact k _ _ _ _ h
theorem kZ {Q : Int32 → St → St → List Nat → Prop} (k : ∀ x σ' τ' vs', (x = 0 ∨ x = 1) → Q x σ' τ' vs' → G S r X σ' τ' vs' L (.int x :: rest) pc) : ∀ v σ' τ' vs', QZs Q v σ' τ' vs' → G S r X σ' τ' vs' L (v.toList ++ rest) pc := by
  rintro v σ' τ' vs' ⟨x, rfl, hz, h⟩
  exact k _ _ _ _ hz h
theorem kA {Q : Nat → St → St → List Nat → Prop} (k : ∀ x σ' τ' vs', Q x σ' τ' vs' → G S r X σ' τ' vs' L (.ref x :: rest) pc) : ∀ v σ' τ' vs', QAs Q v σ' τ' vs' → G S r X σ' τ' vs' L (v.toList ++ rest) pc := by
  rintro v σ' τ' vs' ⟨x, rfl, h⟩
  exact k _ _ _ _ h
theorem kX {Q : St → St → List Nat → Prop} (k : ∀ σ' τ' vs', Q σ' τ' vs' → G S r X σ' τ' vs' L (.ref (r 7) :: rest) pc) : ∀ v σ' τ' vs', QXs r Q v σ' τ' vs' → G S r X σ' τ' vs' L (v.toList ++ rest) pc := by
  rintro v σ' τ' vs' ⟨rfl, h⟩
  exact k _ _ _ h
theorem krI {Q : Int32 → Prop} (k : ∀ x, Q x → G S r X σ τ vs L (.int x :: rest) pc) : ∀ v σ' τ' vs', QIr σ τ vs Q v σ' τ' vs' → G S r X σ' τ' vs' L (v.toList ++ rest) pc := by
  rintro v σ' τ' vs' ⟨rfl, rfl, rfl, x, rfl, h⟩
  exact k _ h
theorem krZ {Q : Int32 → Prop} (k : ∀ x, (x = 0 ∨ x = 1) → Q x → G S r X σ τ vs L (.int x :: rest) pc) : ∀ v σ' τ' vs', QZr σ τ vs Q v σ' τ' vs' → G S r X σ' τ' vs' L (v.toList ++ rest) pc := by
  rintro v σ' τ' vs' ⟨rfl, rfl, rfl, x, rfl, hz, h⟩
  exact k _ hz h
theorem g_ldcSw (hF : Fx S r X ex cc own ret d Qr Qt E) {tx : String} {i q : Nat} (hZ : ∀ A s, E A s → vk_R own i tx q s) (hd : decode cc pc = .ok (.ldc_w i, 3)) (k : G S r X σ τ vs L (.ref q :: rest) (pc + 3)) : G S r X σ τ vs L rest pc := by
  obtain ⟨p, l, e, R, s, m, args, below, meth, c, A, D, cy, Q, nL, n0⟩ := X
  obtain ⟨hx, hb, hml, hown, hret, hlk, hR, hQ, hg, hNW, hK, hA, hE, hEo, hex⟩ := hF
  intro H locs ls hP hD hS hl h1 h2
  intro T hT X9
  obtain ⟨t, a1, b1⟩ := k H locs ls hP hD hS hl h1 h2 T hT X9
  have hz := hZ _ _ hE
  exact ⟨t, X9.ldcStringW hx hown (text := tx) (a := q) hz.1 hz.2 (g := F0 m pc ls rest) rfl (by rw [hb]; exact hd) t a1, b1⟩
end WPK
theorem clsVC : ClsOK ciV "LinkedUnitsModel$Value" TX13 9 tyX13 := ⟨rfl, iwX13, tyX13_ok, nmX13⟩
theorem VC_ty : ∀ j, j < 9 → defaultValue (tyX13 j) = .int 0 := by decide +kernel
theorem stopM : StopOK SM := ⟨by decide, _, _, _, rfl, rfl⟩
def chI (b : Int32) : Int32 := ((b &&& 255).toUInt32 % 65536).toInt32
def SK (j : Nat) : Nat := ([258, 286, 692] : List Nat).getD j 0
def ST_ (j : Nat) : String := ([" int void static e\x78tern if else while do for break continue return ", " <<= >>= += -= *= /= %= &= |= ^= || && == != <= >= << >> ++ -- ( ) { } [ ] , ; ? : = | ^ & < > + - * / % ! ~ ", " get put print stop "] : List String).getD j ""
def SN (j : Nat) : Nat := ([67, 109, 20] : List Nat).getD j 0
def SB0 : List Int32 := [32, 105, 110, 116, 32, 118, 111, 105, 100, 32, 115, 116, 97, 116, 105, 99, 32, 101, 120, 116, 101, 114, 110, 32, 105, 102, 32, 101, 108, 115, 101, 32, 119, 104, 105, 108, 101, 32, 100, 111, 32, 102, 111, 114, 32, 98, 114, 101, 97, 107, 32, 99, 111, 110, 116, 105, 110, 117, 101, 32, 114, 101, 116, 117, 114, 110, 32]
def SB1 : List Int32 := [32, 60, 60, 61, 32, 62, 62, 61, 32, 43, 61, 32, 45, 61, 32, 42, 61, 32, 47, 61, 32, 37, 61, 32, 38, 61, 32, 124, 61, 32, 94, 61, 32, 124, 124, 32, 38, 38, 32, 61, 61, 32, 33, 61, 32, 60, 61, 32, 62, 61, 32, 60, 60, 32, 62, 62, 32, 43, 43, 32, 45, 45, 32, 40, 32, 41, 32, 123, 32, 125, 32, 91, 32, 93, 32, 44, 32, 59, 32, 63, 32, 58, 32, 61, 32, 124, 32, 94, 32, 38, 32, 60, 32, 62, 32, 43, 32, 45, 32, 42, 32, 47, 32, 37, 32, 33, 32, 126, 32]
def SB2 : List Int32 := [32, 103, 101, 116, 32, 112, 117, 116, 32, 112, 114, 105, 110, 116, 32, 115, 116, 111, 112, 32]
def SF (j k : Nat) : Int32 := (([SB0, SB1, SB2] : List (List Int32)).getD j []).getD k 0
theorem SN_lt {j : Nat} (h : j < 3) : SN j < 2 ^ 31 := by
  rcases j with _ | _ | _ | j
  · decide
  · decide
  · decide
  · omega
def EM (a : Nat → Nat) (A : Nat → Prop) (U : State) : Prop := ∀ j, j < 3 → sE "LinkedUnitsModel" (SK j) (ST_ j) (SN j) (a (2 * j)) (a (2 * j + 1)) (SF j) A U
theorem EM_s {a : Nat → Nat} {A : Nat → Prop} {s : State} {j : Nat} (h : EM a A s) (hj : j < 3) : sE "LinkedUnitsModel" (SK j) (ST_ j) (SN j) (a (2 * j)) (a (2 * j + 1)) (SF j) A s := h j hj
theorem EM_ok (a : Nat → Nat) : EnvOK (EM a) := fun A B s U hW hq hAB h j hj => sE_ok _ _ _ _ _ _ _ A B s U hW hq hAB (h j hj)
section GS2
variable {S : Sh} {r : Nat → Nat} {E : (Nat → Prop) → State → Prop} {σ τ : St} {vs : List Nat} {own : String} {kk N sa sv : Nat} {tx : String} {f : Nat → Int32}
theorem t_lch2 (hEo : EnvOK E) (hE : ∀ A s, E A s → sE own kk tx N sa sv f A s) (hcap : vs.length ≤ CAP) (hN : N < 2 ^ 31) (k : Int32) (h0 : 0 ≤ k.toInt) (h1 : k.toInt < N) (l : Launch) (D : va_G) (cy : Nat → ClassId) : Ct l D cy S r E y_StringLatin1_charAt (Cond.code y_StringLatin1_charAt b_StringLatin1_charAt 2 (some .char)) 2 [.ref sv, .int k] σ τ vs (QS σ τ vs (fun v => v = some (.int (chI (f k.toNatClampNeg))))) (fun _ _ _ => False) := by
  refine Ct_of hEo (by decide) (Nat.le_of_ble_eq_true rfl) hcap (fun X hnn hF => ?_)
  show G S r X σ τ vs [(0, .ref sv), (1, .int k)] [] 0
  refine g_iload_n hF d_StringLatin1_charAt_0 rfl 1 rfl ?_
  refine g_aload_n hF d_StringLatin1_charAt_1 rfl 0 rfl ?_
  refine g_tlen hF (fun A s h => (hE A s h).2.2.2.2.1) (v := nI N) rfl d_StringLatin1_charAt_2 ?_
  refine g_callS (As := [.int k, .int (nI N)]) (rest := []) hF (t_sci hEo hE hcap k (nI N) h0 (by rw [nI_toInt hN]; exact h1)) (Nat.le_of_ble_eq_true rfl) mS_String_checkIndex m_192 rfl rfl (Nat.le_of_ble_eq_true rfl) d_StringLatin1_charAt_3 ?_ (fun _ _ _ h => h.elim)
  rintro v σ' τ' vs' ⟨rfl, rfl, rfl, rfl⟩
  refine g_aload_n hF d_StringLatin1_charAt_6 rfl 0 rfl ?_
  refine g_iload_n hF d_StringLatin1_charAt_7 rfl 1 rfl ?_
  refine g_tb hF (fun A s h => (hE A s h).2.2.2.2.1) (s_in hN h0 h1) d_StringLatin1_charAt_8 ?_
  refine g_sipush hF (v := 255) d_StringLatin1_charAt_9 (by decide) ?_
  refine g_iand hF d_StringLatin1_charAt_12 ?_
  refine g_i2c hF d_StringLatin1_charAt_13 ?_
  exact g_zret hF rfl (pk_nc _) d_StringLatin1_charAt_14 ⟨rfl, rfl, rfl, rfl⟩
theorem t_ch2 (hEo : EnvOK E) (hE : ∀ A s, E A s → sE own kk tx N sa sv f A s) (hcap : vs.length ≤ CAP) (hN : N < 2 ^ 31) (k : Int32) (h0 : 0 ≤ k.toInt) (h1 : k.toInt < N) (l : Launch) (D : va_G) (cy : Nat → ClassId) : Ct l D cy S r E y_String_charAt (Cond.code y_String_charAt b_String_charAt 2 (some .char)) 3 [.ref sa, .int k] σ τ vs (QS σ τ vs (fun v => v = some (.int (chI (f k.toNatClampNeg))))) (fun _ _ _ => False) := by
  refine Ct_of hEo (by decide) (Nat.le_of_ble_eq_true rfl) hcap (fun X hnn hF => ?_)
  show G S r X σ τ vs [(0, .ref sa), (1, .int k)] [] 0
  refine g_aload_n hF d_String_charAt_0 rfl 0 rfl ?_
  refine g_callV (As := []) (rest := []) hF (t_lat hEo hE hcap) (Nat.le_of_ble_eq_true rfl) mV_String_isLatin1 m_185 (recv_str hE) rfl rfl (Nat.le_of_ble_eq_true rfl) d_String_charAt_1 ?_ (fun _ _ _ h => h.elim)
  rintro v σ' τ' vs' ⟨rfl, rfl, rfl, rfl⟩
  refine g_if_eq (xv := 1) hF 16 d_String_charAt_4 (by decide) (by decide) (fun c => absurd c (by decide)) (fun _ => ?_)
  refine g_aload_n hF d_String_charAt_7 rfl 0 rfl ?_
  refine g_envf hF (fun A s h => (hE A s h).2.2.2.1) m_2841 d_String_charAt_8 ?_
  refine g_iload_n hF d_String_charAt_11 rfl 1 rfl ?_
  refine g_callS (As := [.ref sv, .int k]) (rest := []) hF (t_lch2 hEo hE hcap hN k h0 h1) (Nat.le_of_ble_eq_true rfl) mS_StringLatin1_charAt m_189 rfl rfl (Nat.le_of_ble_eq_true rfl) d_String_charAt_12 ?_ (fun _ _ _ h => h.elim)
  rintro v σ' τ' vs' ⟨rfl, rfl, rfl, rfl⟩
  exact g_zret hF rfl (pk_nc _) d_String_charAt_15 ⟨rfl, rfl, rfl, rfl⟩
end GS2
theorem tbo_0_9 {x : Int} (h0 : ¬ x = 0) (h1 : ¬ x = 1) (h2 : ¬ x = 2) (h3 : ¬ x = 3) (h4 : ¬ x = 4) (h5 : ¬ x = 5) (h6 : ¬ x = 6) (h7 : ¬ x = 7) (h8 : ¬ x = 8) (h9 : ¬ x = 9) : x < 0 ∨ 9 < x := by omega
theorem tbo_0_24 {x : Int} (h0 : ¬ x = 0) (h1 : ¬ x = 1) (h2 : ¬ x = 2) (h3 : ¬ x = 3) (h4 : ¬ x = 4) (h5 : ¬ x = 5) (h6 : ¬ x = 6) (h7 : ¬ x = 7) (h8 : ¬ x = 8) (h9 : ¬ x = 9) (h10 : ¬ x = 10) (h11 : ¬ x = 11) (h12 : ¬ x = 12) (h13 : ¬ x = 13) (h14 : ¬ x = 14) (h15 : ¬ x = 15) (h16 : ¬ x = 16) (h17 : ¬ x = 17) (h18 : ¬ x = 18) (h19 : ¬ x = 19) (h20 : ¬ x = 20) (h21 : ¬ x = 21) (h22 : ¬ x = 22) (h23 : ¬ x = 23) (h24 : ¬ x = 24) : x < 0 ∨ 24 < x := by omega
theorem tbo_5_16 {x : Int} (h5 : ¬ x = 5) (h6 : ¬ x = 6) (h7 : ¬ x = 7) (h8 : ¬ x = 8) (h9 : ¬ x = 9) (h10 : ¬ x = 10) (h11 : ¬ x = 11) (h12 : ¬ x = 12) (h13 : ¬ x = 13) (h14 : ¬ x = 14) (h15 : ¬ x = 15) (h16 : ¬ x = 16) : x < 5 ∨ 16 < x := by omega
theorem tbo_5_23 {x : Int} (h5 : ¬ x = 5) (h6 : ¬ x = 6) (h7 : ¬ x = 7) (h8 : ¬ x = 8) (h9 : ¬ x = 9) (h10 : ¬ x = 10) (h11 : ¬ x = 11) (h12 : ¬ x = 12) (h13 : ¬ x = 13) (h14 : ¬ x = 14) (h15 : ¬ x = 15) (h16 : ¬ x = 16) (h17 : ¬ x = 17) (h18 : ¬ x = 18) (h19 : ¬ x = 19) (h20 : ¬ x = 20) (h21 : ¬ x = 21) (h22 : ¬ x = 22) (h23 : ¬ x = 23) : x < 5 ∨ 23 < x := by omega
theorem tbo_12_40 {x : Int} (h12 : ¬ x = 12) (h13 : ¬ x = 13) (h14 : ¬ x = 14) (h15 : ¬ x = 15) (h16 : ¬ x = 16) (h17 : ¬ x = 17) (h18 : ¬ x = 18) (h19 : ¬ x = 19) (h20 : ¬ x = 20) (h21 : ¬ x = 21) (h22 : ¬ x = 22) (h23 : ¬ x = 23) (h24 : ¬ x = 24) (h25 : ¬ x = 25) (h26 : ¬ x = 26) (h27 : ¬ x = 27) (h28 : ¬ x = 28) (h29 : ¬ x = 29) (h30 : ¬ x = 30) (h31 : ¬ x = 31) (h32 : ¬ x = 32) (h33 : ¬ x = 33) (h34 : ¬ x = 34) (h35 : ¬ x = 35) (h36 : ¬ x = 36) (h37 : ¬ x = 37) (h38 : ¬ x = 38) (h39 : ¬ x = 39) (h40 : ¬ x = 40) : x < 12 ∨ 40 < x := by omega
theorem m_33 : Cond.instanceMethod ⟨"java/lang/Object", "<init>", "()V"⟩ ∈ GW := tw_1 33 rfl rfl
theorem m_34 : Cond.code ⟨"java/lang/Object", "<init>", "()V"⟩ object_method_1_code 1 none ∈ GW := tw_1 34 rfl rfl
theorem mV_X14_token : MeV y_X14_token b_X14_token 6 none 5 := ⟨m_2197, m_18, m_2196, ms_X14_token, by decide, by decide, by decide +kernel⟩
theorem mV_X14_bad : MeV y_X14_bad b_X14_bad 2 (some .int) 1 := ⟨m_2205, m_18, m_2204, ms_X14_bad, by decide, by decide, by decide +kernel⟩
theorem mV_X14_look : MeV y_X14_look b_X14_look 2 (some .int) 1 := ⟨m_2190, m_18, m_2189, ms_X14_look, by decide, by decide, by decide +kernel⟩
theorem mS_X14_isAllowed : MeS y_X14_isAllowed b_X14_isAllowed 1 (some .boolean) 1 := ⟨m_2193, m_18, m_2192, by decide, by decide, by decide +kernel⟩
theorem mS_X14_isDigit : MeS y_X14_isDigit b_X14_isDigit 1 (some .boolean) 1 := ⟨m_2226, m_18, m_2225, by decide, by decide, by decide +kernel⟩
theorem mV_X14_code : MeV y_X14_code b_X14_code 5 (some .int) 2 := ⟨m_2251, m_18, m_2250, ms_X14_code, by decide, by decide, by decide +kernel⟩
theorem mV_X14_among : MeV y_X14_among b_X14_among 9 (some .int) 3 := ⟨m_2231, m_18, m_2230, ms_X14_among, by decide, by decide, by decide +kernel⟩
theorem mV_X14_is : MeV y_X14_is b_X14_is 2 (some .boolean) 1 := ⟨m_2292, m_18, m_2291, ms_X14_is, by decide, by decide, by decide +kernel⟩
theorem mV_X14_tell : MeV y_X14_tell b_X14_tell 3 none 2 := ⟨m_2320, m_18, m_2319, ms_X14_tell, by decide, by decide, by decide +kernel⟩
theorem mV_X14_isSame : MeV y_X14_isSame b_X14_isSame 5 (some .boolean) 2 := ⟨m_2336, m_18, m_2335, ms_X14_isSame, by decide, by decide, by decide +kernel⟩
theorem mS_X14_isInt : MeS y_X14_isInt b_X14_isInt 1 (some .boolean) 1 := ⟨m_2473, m_18, m_2472, by decide, by decide, by decide +kernel⟩
theorem mS_X14_isPointer : MeS y_X14_isPointer b_X14_isPointer 1 (some .boolean) 1 := ⟨m_2463, m_18, m_2462, by decide, by decide, by decide +kernel⟩
theorem mS_X14_rank : MeS y_X14_rank b_X14_rank 1 (some .int) 1 := ⟨m_2515, m_18, m_2514, by decide, by decide, by decide +kernel⟩
theorem mV_X14_isObject : MeV y_X14_isObject b_X14_isObject 2 (some .boolean) 1 := ⟨m_2651, m_18, m_2650, ms_X14_isObject, by decide, by decide, by decide +kernel⟩
theorem mV_X14_symbolAt : MeV y_X14_symbolAt b_X14_symbolAt 5 (some .int) 2 := ⟨m_2663, m_18, m_2662, ms_X14_symbolAt, by decide, by decide, by decide +kernel⟩
theorem mV_X14_isSymbol : MeV y_X14_isSymbol b_X14_isSymbol 3 (some .boolean) 2 := ⟨m_2692, m_18, m_2691, ms_X14_isSymbol, by decide, by decide, by decide +kernel⟩
theorem mV_X14_rowOf : MeV y_X14_rowOf b_X14_rowOf 2 (some .int) 1 := ⟨m_2760, m_18, m_2759, ms_X14_rowOf, by decide, by decide, by decide +kernel⟩
theorem mV_X14_ends : MeV y_X14_ends b_X14_ends 4 none 3 := ⟨m_2748, m_18, m_2747, ms_X14_ends, by decide, by decide, by decide +kernel⟩
theorem mV_X14_trapped : MeV y_X14_trapped b_X14_trapped 3 none 2 := ⟨m_2784, m_18, m_2783, ms_X14_trapped, by decide, by decide, by decide +kernel⟩
theorem mV_X14_emit : MeV y_X14_emit b_X14_emit 3 none 2 := ⟨m_2803, m_18, m_2802, ms_X14_emit, by decide, by decide, by decide +kernel⟩
theorem mV_X14_push : MeV y_X14_push b_X14_push 2 none 1 := ⟨m_2768, m_18, m_2767, ms_X14_push, by decide, by decide, by decide +kernel⟩
theorem mV_X14_pop : MeV y_X14_pop b_X14_pop 1 (some .int) 0 := ⟨m_2780, m_18, m_2779, ms_X14_pop, by decide, by decide, by decide +kernel⟩
theorem mS_X14_isLetter : MeS y_X14_isLetter b_X14_isLetter 1 (some .boolean) 1 := ⟨m_2219, m_18, m_2218, by decide, by decide, by decide +kernel⟩
theorem mS_X14_sixteen : MeS y_X14_sixteen b_X14_sixteen 1 (some .int) 1 := ⟨m_2240, m_18, m_2239, by decide, by decide, by decide +kernel⟩
theorem mV_X14_wrongAt : MeV y_X14_wrongAt b_X14_wrongAt 2 (some (.object "java/lang/IllegalStateException")) 1 := ⟨m_2268, m_18, m_2267, ms_X14_wrongAt, by decide, by decide, by decide +kernel⟩
theorem mV_X14_wrong : MeV y_X14_wrong b_X14_wrong 1 (some (.object "java/lang/IllegalStateException")) 0 := ⟨m_2264, m_18, m_2263, ms_X14_wrong, by decide, by decide, by decide +kernel⟩
theorem mV_X14_isNamed : MeV y_X14_isNamed b_X14_isNamed 5 (some .boolean) 2 := ⟨m_2308, m_18, m_2307, ms_X14_isNamed, by decide, by decide, by decide +kernel⟩
theorem mV_X14_put_0 : MeV y_X14_put_0 b_X14_put_0 4 none 1 := ⟨m_2440, m_18, m_2439, ms_X14_put_0, by decide, by decide, by decide +kernel⟩
theorem mV_X14_put_1 : MeV y_X14_put_1 b_X14_put_1 3 none 2 := ⟨m_2436, m_18, m_2435, ms_X14_put_1, by decide, by decide, by decide +kernel⟩
theorem mV_X14_must : MeV y_X14_must b_X14_must 3 none 2 := ⟨m_2316, m_18, m_2315, ms_X14_must, by decide, by decide, by decide +kernel⟩
theorem mV_X14_made : MeV y_X14_made b_X14_made 6 (some (.object "LinkedUnitsModel$Value")) 4 := ⟨m_2392, m_18, m_2391, ms_X14_made, by decide, by decide, by decide +kernel⟩
theorem mV_X13_constant : MeV y_X13_constant b_X13_constant 2 (some (.object "LinkedUnitsModel$Value")) 1 := ⟨m_2477, m_25, m_2475, m_2476, by decide, by decide, by decide +kernel⟩
theorem mS_X14_isAny : MeS y_X14_isAny b_X14_isAny 1 (some .boolean) 1 := ⟨m_2470, m_18, m_2469, by decide, by decide, by decide +kernel⟩
theorem mV_X14_init : MeV y_X14_init b_X14_init 6 none 3 := ⟨m_2497, m_18, m_2496, ms_X14_init, by decide, by decide, by decide +kernel⟩
theorem mV_X14_local : MeV y_X14_local b_X14_local 3 (some .int) 1 := ⟨m_2505, m_18, m_2504, ms_X14_local, by decide, by decide, by decide +kernel⟩
theorem mV_X14_deeper : MeV y_X14_deeper b_X14_deeper 2 (some .int) 1 := ⟨m_2384, m_18, m_2383, ms_X14_deeper, by decide, by decide, by decide +kernel⟩
theorem mV_X14_expect : MeV y_X14_expect b_X14_expect 2 none 1 := ⟨m_2288, m_18, m_2287, ms_X14_expect, by decide, by decide, by decide +kernel⟩
theorem mV_X14_put_2 : MeV y_X14_put_2 b_X14_put_2 4 none 3 := ⟨m_2452, m_18, m_2451, ms_X14_put_2, by decide, by decide, by decide +kernel⟩
theorem mV_X14_expression : MeV y_X14_expression b_X14_expression 12 (some (.object "LinkedUnitsModel$Value")) 1 := ⟨m_2364, m_18, m_2363, ms_X14_expression, by decide, by decide, by decide +kernel⟩
theorem mV_X14_read_1 : MeV y_X14_read_1 b_X14_read_1 2 none 1 := ⟨m_2456, m_18, m_2455, ms_X14_read_1, by decide, by decide, by decide +kernel⟩
theorem mV_X14_accept : MeV y_X14_accept b_X14_accept 2 (some .boolean) 1 := ⟨m_2296, m_18, m_2295, ms_X14_accept, by decide, by decide, by decide +kernel⟩
theorem mS_X14_fits : MeS y_X14_fits b_X14_fits 2 (some .boolean) 2 := ⟨m_2508, m_18, m_2507, by decide, by decide, by decide +kernel⟩
theorem mV_X14_entity : MeV y_X14_entity b_X14_entity 3 (some .int) 1 := ⟨m_2304, m_18, m_2303, ms_X14_entity, by decide, by decide, by decide +kernel⟩
theorem mV_X13_address : MeV y_X13_address b_X13_address 3 (some (.object "LinkedUnitsModel$Value")) 2 := ⟨m_2444, m_25, m_2442, m_2443, by decide, by decide, by decide +kernel⟩
theorem mS_X14_compared : MeS y_X14_compared b_X14_compared 3 (some .boolean) 3 := ⟨m_2541, m_18, m_2540, by decide, by decide, by decide +kernel⟩
theorem mV_X14_isHeldHere : MeV y_X14_isHeldHere b_X14_isHeldHere 3 (some .boolean) 1 := ⟨m_2332, m_18, m_2331, ms_X14_isHeldHere, by decide, by decide, by decide +kernel⟩
theorem mV_X14_declareLocal : MeV y_X14_declareLocal b_X14_declareLocal 3 (some .int) 2 := ⟨m_2328, m_18, m_2327, ms_X14_declareLocal, by decide, by decide, by decide +kernel⟩
theorem mV_X14_declare : MeV y_X14_declare b_X14_declare 5 (some .int) 2 := ⟨m_2324, m_18, m_2323, ms_X14_declare, by decide, by decide, by decide +kernel⟩
theorem mV_X14_codes : MeV y_X14_codes b_X14_codes 5 none 2 := ⟨m_2493, m_18, m_2492, ms_X14_codes, by decide, by decide, by decide +kernel⟩
theorem mV_X14_statement : MeV y_X14_statement b_X14_statement 6 none 1 := ⟨m_2348, m_18, m_2347, ms_X14_statement, by decide, by decide, by decide +kernel⟩
theorem mV_X14_close : MeV y_X14_close b_X14_close 1 none 0 := ⟨m_2599, m_18, m_2598, ms_X14_close, by decide, by decide, by decide +kernel⟩
theorem mV_X14_inner : MeV y_X14_inner b_X14_inner 2 none 1 := ⟨m_2595, m_18, m_2594, ms_X14_inner, by decide, by decide, by decide +kernel⟩
theorem mV_X14_aimAll : MeV y_X14_aimAll b_X14_aimAll 5 none 2 := ⟨m_2607, m_18, m_2606, ms_X14_aimAll, by decide, by decide, by decide +kernel⟩
theorem mV_X14_symbols : MeV y_X14_symbols b_X14_symbols 4 (some .int) 1 := ⟨m_2655, m_18, m_2654, ms_X14_symbols, by decide, by decide, by decide +kernel⟩
theorem mV_X14_isAlike : MeV y_X14_isAlike b_X14_isAlike 4 (some .boolean) 2 := ⟨m_2700, m_18, m_2699, ms_X14_isAlike, by decide, by decide, by decide +kernel⟩
theorem mV_X14_find : MeV y_X14_find b_X14_find 5 (some .boolean) 2 := ⟨m_2696, m_18, m_2695, ms_X14_find, by decide, by decide, by decide +kernel⟩
theorem mV_X14_library_0 : MeV y_X14_library_0 b_X14_library_0 7 (some .int) 1 := ⟨m_2687, m_18, m_2686, ms_X14_library_0, by decide, by decide, by decide +kernel⟩
theorem mV_X14_isTray : MeV y_X14_isTray b_X14_isTray 4 (some .boolean) 2 := ⟨m_2732, m_18, m_2731, ms_X14_isTray, by decide, by decide, by decide +kernel⟩
theorem mV_X14_setLocal : MeV y_X14_setLocal b_X14_setLocal 4 none 2 := ⟨m_2756, m_18, m_2755, ms_X14_setLocal, by decide, by decide, by decide +kernel⟩
theorem mV_X14_print : MeV y_X14_print b_X14_print 7 none 2 := ⟨m_2807, m_18, m_2806, ms_X14_print, by decide, by decide, by decide +kernel⟩
theorem mV_X14_signEnd : MeV y_X14_signEnd b_X14_signEnd 5 (some .int) 2 := ⟨m_2259, m_18, m_2258, ms_X14_signEnd, by decide, by decide, by decide +kernel⟩
theorem mV_X14_stringEnd : MeV y_X14_stringEnd b_X14_stringEnd 5 (some .int) 2 := ⟨m_2255, m_18, m_2254, ms_X14_stringEnd, by decide, by decide, by decide +kernel⟩
theorem mV_X14_codeEnd : MeV y_X14_codeEnd b_X14_codeEnd 5 (some .int) 2 := ⟨m_2247, m_18, m_2246, ms_X14_codeEnd, by decide, by decide, by decide +kernel⟩
theorem mV_X14_numberEnd : MeV y_X14_numberEnd b_X14_numberEnd 6 (some .int) 2 := ⟨m_2237, m_18, m_2236, ms_X14_numberEnd, by decide, by decide, by decide +kernel⟩
theorem mV_X14_nameEnd : MeV y_X14_nameEnd b_X14_nameEnd 5 (some .int) 2 := ⟨m_2223, m_18, m_2222, ms_X14_nameEnd, by decide, by decide, by decide +kernel⟩
theorem mV_X14_stars : MeV y_X14_stars b_X14_stars 2 (some .int) 0 := ⟨m_2300, m_18, m_2299, ms_X14_stars, by decide, by decide, by decide +kernel⟩
theorem mV_X14_choice : MeV y_X14_choice b_X14_choice 12 (some (.object "LinkedUnitsModel$Value")) 1 := ⟨m_2368, m_18, m_2367, ms_X14_choice, by decide, by decide, by decide +kernel⟩
theorem mV_X14_sign : MeV y_X14_sign b_X14_sign 1 (some .int) 0 := ⟨m_2380, m_18, m_2379, ms_X14_sign, by decide, by decide, by decide +kernel⟩
theorem mS_X14_isAssignment : MeS y_X14_isAssignment b_X14_isAssignment 1 (some .boolean) 1 := ⟨m_2544, m_18, m_2543, by decide, by decide, by decide +kernel⟩
theorem mS_X14_worked : MeS y_X14_worked b_X14_worked 1 (some .int) 1 := ⟨m_2547, m_18, m_2546, by decide, by decide, by decide +kernel⟩
theorem mV_X14_binary : MeV y_X14_binary b_X14_binary 7 (some (.object "LinkedUnitsModel$Value")) 2 := ⟨m_2372, m_18, m_2371, ms_X14_binary, by decide, by decide, by decide +kernel⟩
theorem mV_X14_open : MeV y_X14_open b_X14_open 2 (some .int) 1 := ⟨m_2523, m_18, m_2522, ms_X14_open, by decide, by decide, by decide +kernel⟩
theorem mV_X14_aim : MeV y_X14_aim b_X14_aim 2 none 1 := ⟨m_2527, m_18, m_2526, ms_X14_aim, by decide, by decide, by decide +kernel⟩
theorem mV_X14_primary : MeV y_X14_primary b_X14_primary 5 (some (.object "LinkedUnitsModel$Value")) 1 := ⟨m_2485, m_18, m_2484, ms_X14_primary, by decide, by decide, by decide +kernel⟩
theorem mV_X14_stepped : MeV y_X14_stepped b_X14_stepped 8 (some (.object "LinkedUnitsModel$Value")) 4 := ⟨m_2448, m_18, m_2447, ms_X14_stepped, by decide, by decide, by decide +kernel⟩
theorem mS_X14_typeOf : MeS y_X14_typeOf b_X14_typeOf 5 (some .int) 3 := ⟨m_2534, m_18, m_2533, by decide, by decide, by decide +kernel⟩
theorem mS_X14_work : MeS y_X14_work b_X14_work 3 (some .int) 3 := ⟨m_2537, m_18, m_2536, by decide, by decide, by decide +kernel⟩
theorem mV_X14_hasType : MeV y_X14_hasType b_X14_hasType 4 (some .boolean) 2 := ⟨m_2708, m_18, m_2707, ms_X14_hasType, by decide, by decide, by decide +kernel⟩
theorem mV_X14_hasLibraryType : MeV y_X14_hasLibraryType b_X14_hasLibraryType 3 (some .boolean) 2 := ⟨m_2704, m_18, m_2703, ms_X14_hasLibraryType, by decide, by decide, by decide +kernel⟩
theorem mV_X14_aimOf : MeV y_X14_aimOf b_X14_aimOf 5 (some .int) 3 := ⟨m_2720, m_18, m_2719, ms_X14_aimOf, by decide, by decide, by decide +kernel⟩
theorem mV_X14_parametersOf : MeV y_X14_parametersOf b_X14_parametersOf 2 (some .int) 1 := ⟨m_2752, m_18, m_2751, ms_X14_parametersOf, by decide, by decide, by decide +kernel⟩
theorem mV_X14_enter : MeV y_X14_enter b_X14_enter 8 none 4 := ⟨m_2744, m_18, m_2743, ms_X14_enter, by decide, by decide, by decide +kernel⟩
theorem mV_X14_library_1 : MeV y_X14_library_1 b_X14_library_1 4 none 2 := ⟨m_2799, m_18, m_2798, ms_X14_library_1, by decide, by decide, by decide +kernel⟩
theorem mS_X14_isBlank : MeS y_X14_isBlank b_X14_isBlank 1 (some .boolean) 1 := ⟨m_2212, m_18, m_2211, by decide, by decide, by decide +kernel⟩
theorem mV_X14_one_0 : MeV y_X14_one_0 b_X14_one_0 4 (some .int) 2 := ⟨m_2216, m_18, m_2215, ms_X14_one_0, by decide, by decide, by decide +kernel⟩
theorem mV_X14_remarkEnd : MeV y_X14_remarkEnd b_X14_remarkEnd 4 (some .int) 2 := ⟨m_2209, m_18, m_2208, ms_X14_remarkEnd, by decide, by decide, by decide +kernel⟩
theorem mV_X14_lineEnd : MeV y_X14_lineEnd b_X14_lineEnd 3 (some .int) 1 := ⟨m_2201, m_18, m_2200, ms_X14_lineEnd, by decide, by decide, by decide +kernel⟩
theorem mV_X14_unary : MeV y_X14_unary b_X14_unary 7 (some (.object "LinkedUnitsModel$Value")) 1 := ⟨m_2376, m_18, m_2375, ms_X14_unary, by decide, by decide, by decide +kernel⟩
theorem mV_X14_decided : MeV y_X14_decided b_X14_decided 8 (some (.object "LinkedUnitsModel$Value")) 4 := ⟨m_2519, m_18, m_2518, ms_X14_decided, by decide, by decide, by decide +kernel⟩
theorem mV_X14_two : MeV y_X14_two b_X14_two 9 (some (.object "LinkedUnitsModel$Value")) 4 := ⟨m_2531, m_18, m_2530, ms_X14_two, by decide, by decide, by decide +kernel⟩
theorem mV_X14_one_2 : MeV y_X14_one_2 b_X14_one_2 5 (some (.object "LinkedUnitsModel$Value")) 3 := ⟨m_2467, m_18, m_2466, ms_X14_one_2, by decide, by decide, by decide +kernel⟩
theorem mV_X14_pointedTo : MeV y_X14_pointedTo b_X14_pointedTo 4 (some (.object "LinkedUnitsModel$Value")) 2 := ⟨m_2460, m_18, m_2459, ms_X14_pointedTo, by decide, by decide, by decide +kernel⟩
theorem mV_X14_pointed : MeV y_X14_pointed b_X14_pointed 5 (some (.object "LinkedUnitsModel$Value")) 2 := ⟨m_2388, m_18, m_2387, ms_X14_pointed, by decide, by decide, by decide +kernel⟩
theorem mV_X14_behind : MeV y_X14_behind b_X14_behind 7 (some (.object "LinkedUnitsModel$Value")) 1 := ⟨m_2481, m_18, m_2480, ms_X14_behind, by decide, by decide, by decide +kernel⟩
theorem mV_X14_named : MeV y_X14_named b_X14_named 6 (some (.object "LinkedUnitsModel$Value")) 1 := ⟨m_2512, m_18, m_2511, ms_X14_named, by decide, by decide, by decide +kernel⟩
theorem mV_X14_call_0 : MeV y_X14_call_0 b_X14_call_0 10 (some (.object "LinkedUnitsModel$Value")) 2 := ⟨m_2501, m_18, m_2500, ms_X14_call_0, by decide, by decide, by decide +kernel⟩
theorem mV_X14_text : MeV y_X14_text b_X14_text 4 (some (.object "LinkedUnitsModel$Value")) 1 := ⟨m_2489, m_18, m_2488, ms_X14_text, by decide, by decide, by decide +kernel⟩
theorem mV_X14_holds : MeV y_X14_holds b_X14_holds 6 (some .boolean) 4 := ⟨m_2683, m_18, m_2682, ms_X14_holds, by decide, by decide, by decide +kernel⟩
theorem mV_X14_leave : MeV y_X14_leave b_X14_leave 3 (some .int) 1 := ⟨m_2811, m_18, m_2810, ms_X14_leave, by decide, by decide, by decide +kernel⟩
theorem mS_X14_isCell : MeS y_X14_isCell b_X14_isCell 1 (some .boolean) 1 := ⟨m_2791, m_18, m_2790, by decide, by decide, by decide +kernel⟩
theorem mV_X14_call_1 : MeV y_X14_call_1 b_X14_call_1 6 (some .int) 3 := ⟨m_2795, m_18, m_2794, ms_X14_call_1, by decide, by decide, by decide +kernel⟩
theorem mV_X14_getLocal : MeV y_X14_getLocal b_X14_getLocal 3 (some .int) 1 := ⟨m_2772, m_18, m_2771, ms_X14_getLocal, by decide, by decide, by decide +kernel⟩
theorem mV_X14_isInitial : MeV y_X14_isInitial b_X14_isInitial 3 (some .boolean) 2 := ⟨m_2583, m_18, m_2582, ms_X14_isInitial, by decide, by decide, by decide +kernel⟩
theorem mV_X14_loop : MeV y_X14_loop b_X14_loop 6 none 3 := ⟨m_2603, m_18, m_2602, ms_X14_loop, by decide, by decide, by decide +kernel⟩
theorem mV_X14_isWord : MeV y_X14_isWord b_X14_isWord 2 (some .boolean) 1 := ⟨m_2276, m_18, m_2275, ms_X14_isWord, by decide, by decide, by decide +kernel⟩
theorem mV_X14_condition : MeV y_X14_condition b_X14_condition 3 none 1 := ⟨m_2591, m_18, m_2590, ms_X14_condition, by decide, by decide, by decide +kernel⟩
theorem mV_X14_read_2 : MeV y_X14_read_2 b_X14_read_2 3 none 2 := ⟨m_2623, m_18, m_2622, ms_X14_read_2, by decide, by decide, by decide +kernel⟩
theorem mV_X14_mainOf : MeV y_X14_mainOf b_X14_mainOf 5 (some .int) 1 := ⟨m_2712, m_18, m_2711, ms_X14_mainOf, by decide, by decide, by decide +kernel⟩
theorem mV_X14_layAll : MeV y_X14_layAll b_X14_layAll 8 none 1 := ⟨m_2716, m_18, m_2715, ms_X14_layAll, by decide, by decide, by decide +kernel⟩
theorem mV_X14_isFault : MeV y_X14_isFault b_X14_isFault 6 (some .boolean) 2 := ⟨m_2679, m_18, m_2678, ms_X14_isFault, by decide, by decide, by decide +kernel⟩
theorem mV_X14_stepMore : MeV y_X14_stepMore b_X14_stepMore 5 (some .int) 2 := ⟨m_2788, m_18, m_2787, ms_X14_stepMore, by decide, by decide, by decide +kernel⟩
theorem mV_X14_clear : MeV y_X14_clear b_X14_clear 5 none 1 := ⟨m_2776, m_18, m_2775, ms_X14_clear, by decide, by decide, by decide +kernel⟩
theorem mV_X14_one_1 : MeV y_X14_one_1 b_X14_one_1 7 (some .boolean) 4 := ⟨m_2579, m_18, m_2578, ms_X14_one_1, by decide, by decide, by decide +kernel⟩
theorem mV_X14_braces : MeV y_X14_braces b_X14_braces 9 (some .boolean) 5 := ⟨m_2575, m_18, m_2574, ms_X14_braces, by decide, by decide, by decide +kernel⟩
theorem mV_X14_plain : MeV y_X14_plain b_X14_plain 2 none 0 := ⟨m_2619, m_18, m_2618, ms_X14_plain, by decide, by decide, by decide +kernel⟩
theorem mV_X14_step : MeV y_X14_step b_X14_step 3 (some .int) 1 := ⟨m_2764, m_18, m_2763, ms_X14_step, by decide, by decide, by decide +kernel⟩
theorem mV_X14_fill : MeV y_X14_fill b_X14_fill 7 none 4 := ⟨m_2571, m_18, m_2570, ms_X14_fill, by decide, by decide, by decide +kernel⟩
theorem mV_X14_oneInitial : MeV y_X14_oneInitial b_X14_oneInitial 4 (some .boolean) 3 := ⟨m_2587, m_18, m_2586, ms_X14_oneInitial, by decide, by decide, by decide +kernel⟩
theorem mV_X14_rowInitial : MeV y_X14_rowInitial b_X14_rowInitial 6 (some .boolean) 4 := ⟨m_2567, m_18, m_2566, ms_X14_rowInitial, by decide, by decide, by decide +kernel⟩
theorem mV_X14_hold : MeV y_X14_hold b_X14_hold 3 none 2 := ⟨m_2340, m_18, m_2339, ms_X14_hold, by decide, by decide, by decide +kernel⟩
theorem mV_X14_lay : MeV y_X14_lay b_X14_lay 4 none 3 := ⟨m_2563, m_18, m_2562, ms_X14_lay, by decide, by decide, by decide +kernel⟩
theorem mV_X14_globalName : MeV y_X14_globalName b_X14_globalName 8 (some .int) 5 := ⟨m_2559, m_18, m_2558, ms_X14_globalName, by decide, by decide, by decide +kernel⟩
theorem mV_X14_localName : MeV y_X14_localName b_X14_localName 5 (some .int) 3 := ⟨m_2555, m_18, m_2554, ms_X14_localName, by decide, by decide, by decide +kernel⟩
theorem mV_X14_told : MeV y_X14_told b_X14_told 6 (some .int) 0 := ⟨m_2551, m_18, m_2550, ms_X14_told, by decide, by decide, by decide +kernel⟩
theorem mV_X14_sizeAt : MeV y_X14_sizeAt b_X14_sizeAt 3 (some .int) 0 := ⟨m_2360, m_18, m_2359, ms_X14_sizeAt, by decide, by decide, by decide +kernel⟩
theorem mV_X14_variable : MeV y_X14_variable b_X14_variable 14 none 5 := ⟨m_2356, m_18, m_2355, ms_X14_variable, by decide, by decide, by decide +kernel⟩
theorem mV_X14_block : MeV y_X14_block b_X14_block 2 none 1 := ⟨m_2631, m_18, m_2630, ms_X14_block, by decide, by decide, by decide +kernel⟩
theorem mV_X14_variables : MeV y_X14_variables b_X14_variables 7 none 3 := ⟨m_2352, m_18, m_2351, ms_X14_variables, by decide, by decide, by decide +kernel⟩
theorem mV_X14_doStatement : MeV y_X14_doStatement b_X14_doStatement 6 none 2 := ⟨m_2611, m_18, m_2610, ms_X14_doStatement, by decide, by decide, by decide +kernel⟩
theorem mV_X14_forStatement : MeV y_X14_forStatement b_X14_forStatement 8 none 2 := ⟨m_2615, m_18, m_2614, ms_X14_forStatement, by decide, by decide, by decide +kernel⟩
theorem mV_X14_returnStatement : MeV y_X14_returnStatement b_X14_returnStatement 3 none 1 := ⟨m_2627, m_18, m_2626, ms_X14_returnStatement, by decide, by decide, by decide +kernel⟩
theorem mV_X14_head : MeV y_X14_head b_X14_head 3 none 0 := ⟨m_2284, m_18, m_2283, ms_X14_head, by decide, by decide, by decide +kernel⟩
theorem mV_X14_bodyOf : MeV y_X14_bodyOf b_X14_bodyOf 7 none 1 := ⟨m_2344, m_18, m_2343, ms_X14_bodyOf, by decide, by decide, by decide +kernel⟩
theorem mV_X14_isSameHead : MeV y_X14_isSameHead b_X14_isSameHead 4 (some .boolean) 2 := ⟨m_2312, m_18, m_2311, ms_X14_isSameHead, by decide, by decide, by decide +kernel⟩
theorem mV_X14_function : MeV y_X14_function b_X14_function 8 none 3 := ⟨m_2280, m_18, m_2279, ms_X14_function, by decide, by decide, by decide +kernel⟩
theorem mI_X13_init : MeI y_X13_init b_X13_init 2 1 := ⟨m_2397, m_25, m_2396, rfl, by decide, by decide, by decide +kernel⟩
