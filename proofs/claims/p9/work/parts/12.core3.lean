/-! contracts: how they are proved, how they are called -/
section CT1
variable {l : Launch} {D : va_G} {cy : Nat → ClassId} {S : Sh} {r : Nat → Nat} {E : (Nat → Prop) → State → Prop} {y : MethodName} {cc : ByteArray} {maxL : Nat} {ret : Option FieldType} {d : Nat} {as : List Value} {σ τ : St} {vs : List Nat} {Qr : QR} {Qt : QT}
theorem body_end {p : Program} {e : Env} {s s₁ : State} {m : MethodId} {below : List Frame} {meth : Method} {c : Code} {ls : Array Slot} {ex : List ExceptionTableEntry} (hEo : EnvOK E) (hcap : vs.length ≤ CAP)
    (hx : p.tables.exec = Jvm.exec) (hb : c.code = cc) (hml : c.maxLocals = maxL) (hown : s.vm.findClass y.cls = some m.cls) (hret : meth.sig.returnType = ret) (hlk : meth.locks = false) (hg : ∀ w ∈ GW, w.before as.toArray s = true) (hNW : nwOK s) (hK : va_K D vwCl (kTy cy) s) (hP : va_P D vwCl (wld S cy r σ τ vs) s.heap) (hD : va_D (fun _ => True) (wld S cy r σ τ vs)) (hE : E (va_A (wld S cy r σ τ vs) s.heap.size) s) (hex : c.exceptionTable.toList = ex) (hl : lv_has ls maxL (lv_args 0 as))
    (hh : s₁.heap = s.heap) (X : Stand p l e (rmD d vs.length) s m as.toArray below meth c s₁ [] 0 0)
    (body : ∀ X : Cx, X.2.2.2.2.2.2.2.2.2.2.2.2.2.2.1 = maxL → Fx S r X ex cc y.cls ret d Qr Qt E → G S r X σ τ vs (lv_args 0 as) [] 0) :
    ∃ t o, Steps p.tables e below (s₁.setTop (F0 m 0 ls [])) t ∧ t.status = .running ∧ Ended t below o ∧ xq D cy S r (va_A (wld S cy r σ τ vs) s.heap.size) vs.length Qr Qt as.toArray s o t := by
  have h := body (p, l, e, rmD d vs.length, s, m, as.toArray, below, meth, c, va_A (wld S cy r σ τ vs) s.heap.size, D, cy, MQX below (xq D cy S r (va_A (wld S cy r σ τ vs) s.heap.size) vs.length Qr Qt) as.toArray s, maxL, vs.length) rfl
    ⟨hx, hb, hml, hown, hret, hlk, rfl, rfl, hg, hNW, hK, fun q h => Or.inr h, hE, hEo, hex⟩
  have h2 := h s.heap [] ls hP hD.self va_S.rf hl (Nat.le_refl _) hcap
  rw [Nat.sub_self] at h2
  obtain ⟨t, a1, o, b1, b2, b3⟩ := h2 s₁ hh X
  exact ⟨t, o, a1, b1, b2, b3⟩
theorem Ct_of (hEo : EnvOK E) (hy : plainName y.cls = true) (hn : (lg_sl as).length ≤ maxL) (hcap : vs.length ≤ CAP)
    (body : ∀ X : Cx, X.2.2.2.2.2.2.2.2.2.2.2.2.2.2.1 = maxL → Fx S r X [] cc y.cls ret d Qr Qt E → G S r X σ τ vs (lv_args 0 as) [] 0) :
    Ct l D cy S r E y (Cond.code y cc maxL ret) d as σ τ vs Qr Qt := by
  intro sz
  refine MetFree.of_bodyS (code := cc) (maxLocals := maxL) (ret := ret) hy ?_ ?_
  · intro args s m h hn
    obtain ⟨meth, c, h1, h2, h3, h4, h5, h6, -, -⟩ := Cond.code_spec hn (atoms_spec (ws := Cond.code y cc maxL ret :: GW) h _ List.mem_cons_self)
    exact ⟨meth, c, h1, h2, h3, h4, h5, h6⟩
  · intro p e s m args below meth c s₁ B hml hP _
    have hh0 : s₁.heap = s.heap := by rw [B.state]; rfl
    have ht : c.exceptionTable.toList = [] := by
      obtain ⟨meth9, c9, h1, h2, -, -, -, -, h7, -⟩ := Cond.code_spec B.named (atoms_spec (ws := Cond.code y cc maxL ret :: GW) B.pre _ List.mem_cons_self)
      cases Option.some.inj (h1.symm.trans B.method)
      cases Option.some.inj (h2.symm.trans (Stand.of_body B).code)
      have h8 := Array.isEmpty_iff.mp h7
      rw [h8]
    obtain ⟨rfl, ⟨hsz, hNW, hPw, hK, hD0⟩, hE⟩ := hP
    subst hsz
    have X := Stand.of_body B
    rw [lg_entry_eq]
    obtain ⟨t, o, a1, b1, b2, b3⟩ := body_end hEo hcap B.exec B.bytes hml (findClass_of_methodNamed B.named) B.returns B.notSynchronized (fun w h => atoms_spec B.pre w (List.mem_cons_of_mem _ h)) hNW hK hPw hD0 hE ht (lv_entry as hn) hh0 X body
    exact ⟨t, o, a1, b1, b2, b3⟩
theorem Ct.mono {cw : Cond} {Qr' : QR} {Qt' : QT} (h : Ct l D cy S r E y cw d as σ τ vs Qr Qt) (hr : ∀ v σ' τ' vs', Qr v σ' τ' vs' → Qr' v σ' τ' vs') (ht : ∀ σ' τ' vs', Qt σ' τ' vs' → Qt' σ' τ' vs') : Ct l D cy S r E y cw d as σ τ vs Qr' Qt' := by
  intro sz
  refine MetFree.mono (h sz) (fun _ _ h => h) (fun _ _ _ _ _ h => h) ?_
  intro a st o t _ hq
  obtain ⟨σ', τ', vs', g1, g2, g3, g4, g5⟩ := hq
  refine ⟨σ', τ', vs', g1, g2, g3, g4, ?_⟩
  rcases g5 with ⟨v, h1, h2, h3⟩ | ⟨ce, L, h1, h2, h3⟩
  · exact Or.inl ⟨v, h1, hr _ _ _ _ h2, h3⟩
  · exact Or.inr ⟨ce, L, h1, ht _ _ _ h2, h3⟩
end CT1
section CT2
variable {l : Launch} {R : Room} {p : Program} {e : Env} {below : List Frame} {s : State} {sargs : Array Value} {y : MethodName} {len W9 : Nat}
def gPre (R : Room) (n : Nat) (Pc : Array Value → State → Prop) : Pt → Array Value → Prop := fun A a => A.cells + (CAP - n) ≤ R.cells ∧ A.slots + 9 * (CAP - n) ≤ R.slots ∧ Pc a A.U
def gPost (D : va_G) (cy : Nat → ClassId) (S : Sh) (r : Nat → Nat) (A1 : Nat → Prop) (n : Nat) (Qr : QR) : Pt → Array Value → Option Value → Pt → Prop := fun A a v B =>
  ∃ (g : JFrame) (mk : MethodId) (t : State) (L : List Loc) (σ' τ' : St) (vs' : List Nat), B.U.heap = t.heap ∧ B.U.vm = t.vm ∧ kPost D cy A1 (wld S cy r σ' τ' vs') t ∧ va_F A1 (A.U.calling g mk a) t ∧ n ≤ vs'.length ∧ vs'.length ≤ CAP ∧ Qr v σ' τ' vs' ∧ B.locs = A.locs ++ L ∧ (∀ q ∈ L, A1 q.base) ∧ B.cells = A.cells + (vs'.length - n) ∧ B.slots = A.slots + 9 * (vs'.length - n)
def gPostX (D : va_G) (cy : Nat → ClassId) (S : Sh) (r : Nat → Nat) (A1 : Nat → Prop) (n : Nat) (Qt : QT) : Pt → Array Value → Addr → Pt → Prop := fun A a q B =>
  ∃ (g : JFrame) (mk : MethodId) (t : State) (L : List Loc) (σ' τ' : St) (vs' : List Nat), q = r S.2.2.2 ∧ B.U.heap = t.heap ∧ B.U.vm = t.vm ∧ kPost D cy A1 (wld S cy r σ' τ' vs') t ∧ va_F A1 (A.U.calling g mk a) t ∧ n ≤ vs'.length ∧ vs'.length ≤ CAP ∧ Qt σ' τ' vs' ∧ B.locs = A.locs ++ L ∧ (∀ q ∈ L, A1 q.base) ∧ B.cells = A.cells + (vs'.length - n) ∧ B.slots = A.slots + 9 * (vs'.length - n)
/-- after vx_back, of the kit's page of exceptions -/
theorem gx_back {ws : List Cond} {Pc : Array Value → State → Prop} {D : va_G} {cy : Nat → ClassId} {S : Sh} {r : Nat → Nat} {A1 : Nat → Prop} {n d : Nat} {Qr : QR} {Qt : QT} {maxL : Nat}
    (hM : MetFree l y (headSpec ws (rmD d n)) Pc (fun _ _ _ _ _ => True) (xq D cy S r A1 n Qr Qt)) (hblind : FrameBlind Pc)
    (hframes : d + 1 ≤ R.frames) (hlocals : W9 + (maxL + 11) + 40 * d ≤ R.locals)
    (hws : ∀ w ∈ ws, ∀ a' U, s.WarmedH U.vm → w.before a' U = true) (hcode : ∀ (a' : Array Value) (U : State) (mk : MethodId), s.WarmedH U.vm → U.methodNamed? y = some mk → ∃ meth c, U.vm.method? mk = some meth ∧ meth.code = some c ∧ c.maxLocals = maxL) (hinit : ∀ a' U, s.WarmedH U.vm → (Cond.initialized y.cls).before a' U = true) :
    vx_Back l R p e below s sargs y len W9 (gPre R n Pc) (gPost D cy S r A1 n Qr) (gPostX D cy S r A1 n Qt) := by
  intro m meth c A g ig mk a X hg hsize hdg hW hn hp
  have h1 : (headSpec ws (rmD d n)).pre.before a A.U = true := atoms_intro fun w hw => hws w hw _ _ X.warmed
  have h3 : (Cond.initialized y.cls).before a A.U = true := hinit _ _ X.warmed
  have h4 : A.cells + (headSpec ws (rmD d n)).room.cells ≤ R.cells := hp.1
  have h5 : A.slots + (headSpec ws (rmD d n)).room.slots ≤ R.slots := hp.2.1
  have hPc : Pc a (A.U.calling g mk a) := hblind _ _ _ _ hp.2.2
  obtain ⟨U, Ls, c0, s0⟩ := A
  dsimp only [Pt.U, Pt.locs, Pt.cells, Pt.slots] at h1 h3 h4 h5 X hn hPc ⊢
  obtain ⟨methY, cY, hmY, hcY, hlY⟩ := hcode a U mk X.warmed hn
  obtain ⟨kY, hkY, -⟩ := className_of_methodNamed hn
  have hinitY : kY.init = .initialized := Cond.initialized_spec (findClass_of_methodNamed hn) hkY h3
  have h : At U g.method c below := by rw [hg]; exact X.here
  have happ : (headSpec ws (rmD d n)).appliesLoose y e.platform (U.calling g mk a) = true :=
    Spec.appliesLoose_calling (g := g) h hdg hn hkY hinitY
      (X.room_calling (g := g) (R' := (headSpec ws (rmD d n)).room) hsize hmY hcY hframes (by rw [hlY]; show _ + (maxL + 11) + 40 * d ≤ _; omega) h4 h5) h1
  obtain ⟨mid, hmid⟩ := h.above
  have hfr : (U.setTop g).frames = (.java g :: mid) ++ below := by rw [State.frames_setTop' g h.top, hmid]; rfl
  obtain ⟨o, s₂, hsteps, -, hend, hq⟩ := Steps.callFree hM p X.admits X.cas X.clock (acts := []) hfr happ hPc trivial
  have hq' : xq D cy S r A1 n Qr Qt a (U.calling g mk a) o s₂ := hq
  rw [State.frames_setTop' g h.top] at hend
  obtain ⟨g₀, hg0⟩ := Option.isSome_iff_exists.mp h.top
  obtain ⟨r9, hr⟩ := State.topJava?_eq_some.mp hg0
  have hr' : (({ U with heap := s₂.heap, slotsUsed := s₂.slotsUsed } : State).setVm s₂.vm).frames = .java g₀ :: r9 := hr
  obtain ⟨σ', τ', vs', w1, w2, w3, w4, w5⟩ := hq'
  rcases w5 with ⟨v, rfl, hqc, L, hfe, hL⟩ | ⟨ce, L, rfl, hqt, hce, hcv, hcl, hW₂, hsm, hL⟩
  · obtain ⟨-, hW₂, e2, q2, q3, q4, q5, q6⟩ := id hfe
    have e3 : s₂ = ({ (U.calling g mk a).setFrames s₂.frames with heap := s₂.heap, slotsUsed := s₂.slotsUsed } : State).setVm s₂.vm := by
      have : s₂ = ({ s₂ with vm := (U.calling g mk a).vm } : State).setVm s₂.vm := rfl
      rw [e2] at this
      exact this
    obtain ⟨c₂, i₂, len₂, hc₂, hd₂, hf₂⟩ := hend
    have hW' : U.WarmedH s₂.vm := hW₂
    have hcc : c₂ = c := by
      have h1 : s₂.code? g.method = U.code? g.method := by
        rw [State.code?_eq, State.code?_eq, hW'.alike.method?]
      exact Option.some.inj (hc₂.symm.trans (h1.trans h.code))
    subst hcc
    have hlen : len₂ = len := by rw [hdg] at hd₂; cases hd₂; rfl
    subst hlen
    have hs₂ : s₂ = (({ U with heap := s₂.heap, slotsUsed := s₂.slotsUsed } : State).setVm s₂.vm).setTop { g with pc := g.pc + len₂, stack := v.toList ++ g.stack } := by
      refine e3.trans ?_
      rw [hf₂, State.calling_eq h.top, State.setFrames_setFrames, State.setTop_of_frames _ hr', hr]
      rfl
    have hsame : U.sameButNew ({ U with heap := s₂.heap, slotsUsed := s₂.slotsUsed } : State) L (vs'.length - n) (9 * (vs'.length - n)) := by
      refine ⟨?_, q2, q3, q4, q5, q6⟩
      obtain ⟨t, ht, -⟩ := State.frames_cons hr
      show ({ U with heap := s₂.heap, slotsUsed := s₂.slotsUsed } : State) = { U.setFrames U.frames with heap := s₂.heap, slotsUsed := s₂.slotsUsed }
      rw [State.setFrames_self ht]
    subst hg
    refine Or.inl ⟨v, ⟨(({ U with heap := s₂.heap, slotsUsed := s₂.slotsUsed } : State).setVm s₂.vm), Ls ++ L, c0 + (vs'.length - n), s0 + 9 * (vs'.length - n)⟩,
      ⟨X.admits, X.cas, X.clock, X.frames, X.room, X.hears, X.method, X.code, (X.here.setHeapUsed s₂.heap s₂.slotsUsed).setVm hW'.alike, X.tail, State.WarmedH.trans X.warmed hW', X.limits, X.bytes, X.same.trans (hsame.setVm s.vm)⟩,
      ⟨g, mk, s₂, L, σ', τ', vs', rfl, rfl, w1, w2, w3, w4, hqc, rfl, hL, rfl, rfl⟩, ?_⟩
    show Steps p.tables e below _ ((({ U with heap := s₂.heap, slotsUsed := s₂.slotsUsed } : State).setVm s₂.vm).setTop { g with pc := g.pc + len₂, stack := v.toList ++ g.stack })
    rw [← hs₂]
    exact hsteps
  · obtain ⟨e2, q2, q3, q4, q5, q6⟩ := id hsm
    have e3 : s₂ = ({ (U.calling g mk a).setFrames s₂.frames with heap := s₂.heap, slotsUsed := s₂.slotsUsed } : State).setVm s₂.vm := by
      have : s₂ = ({ s₂ with vm := (U.calling g mk a).vm } : State).setVm s₂.vm := rfl
      rw [e2] at this
      exact this
    have hf₂ : s₂.frames = .throwing (r S.2.2.2) :: .java g :: U.frames.tail := hend
    have hW' : U.WarmedH s₂.vm := hW₂
    have hs₂ : s₂ = ((({ U with heap := s₂.heap, slotsUsed := s₂.slotsUsed } : State).setVm s₂.vm).setTop g).pushFrame (.throwing (r S.2.2.2)) := by
      refine e3.trans ?_
      rw [hf₂, State.calling_eq h.top, State.setFrames_setFrames, State.pushFrame, State.frames_setTop _ hr', State.setTop_of_frames _ hr', State.setFrames_setFrames, hr]
      rfl
    have hsame : U.sameButNew ({ U with heap := s₂.heap, slotsUsed := s₂.slotsUsed } : State) L (vs'.length - n) (9 * (vs'.length - n)) := by
      refine ⟨?_, q2, q3, q4, q5, q6⟩
      obtain ⟨t, ht, -⟩ := State.frames_cons hr
      show ({ U with heap := s₂.heap, slotsUsed := s₂.slotsUsed } : State) = { U.setFrames U.frames with heap := s₂.heap, slotsUsed := s₂.slotsUsed }
      rw [State.setFrames_self ht]
    subst hg
    refine Or.inr ⟨r S.2.2.2, ⟨(({ U with heap := s₂.heap, slotsUsed := s₂.slotsUsed } : State).setVm s₂.vm), Ls ++ L, c0 + (vs'.length - n), s0 + 9 * (vs'.length - n)⟩,
      ⟨X.admits, X.cas, X.clock, X.frames, X.room, X.hears, X.method, X.code, (X.here.setHeapUsed s₂.heap s₂.slotsUsed).setVm hW'.alike, X.tail, State.WarmedH.trans X.warmed hW', X.limits, X.bytes, X.same.trans (hsame.setVm s.vm)⟩,
      ⟨g, mk, s₂, L, σ', τ', vs', rfl, rfl, rfl, w1, w2, w3, w4, hqt, rfl, hL, rfl, rfl⟩, ?_⟩
    show Steps p.tables e below _ (((({ U with heap := s₂.heap, slotsUsed := s₂.slotsUsed } : State).setVm s₂.vm).setTop g).pushFrame (.throwing (r S.2.2.2)))
    rw [← hs₂]
    exact hsteps
theorem back_of_vx {Pre : Pt → Array Value → Prop} {Post : Pt → Array Value → Option Value → Pt → Prop} {PostX : Pt → Array Value → Addr → Pt → Prop} (h : vx_Back l R p e below s sargs y len W9 Pre Post PostX) (hf : ∀ A a q B, ¬ PostX A a q B) : Back l R p e below s sargs y len W9 Pre Post := by
  intro m meth c A g ig mk a X hg hsize hdg hW hn hp
  rcases h m meth c A g ig mk a X hg hsize hdg hW hn hp with h1 | ⟨q, B, h1, h2, h3⟩
  · exact h1
  · exact absurd h2 (hf _ _ _ _)
end CT2
