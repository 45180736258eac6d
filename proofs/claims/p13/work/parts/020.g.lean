section
/-! contracts: how they are proved, how they are called -/
section CT1
variable {l : Launch} {D : va_G} {cy : Nat → ClassId} {S : Sh} {r : Nat → Nat} {E : (Nat → Prop) → State → Prop} {y : MethodName} {cc : ByteArray} {maxL : Nat} {ret : Option FieldType} {d : Nat} {as : List Value} {σ τ : St} {vs : List Nat} {Qr : QR} {Qt : QT}
theorem body_end {p : Program} {e : Env} {s s₁ : State} {m : MethodId} {below : List Frame} {meth : Method} {c : Code} {ls : Array Slot} {ex : List ExceptionTableEntry} (hEo : EnvOK E) (hcap : vs.length ≤ CAP)
    (hx : p.tables.exec = Jvm.exec) (hb : c.code = cc) (hml : c.maxLocals = maxL) (hown : s.vm.findClass y.cls = some m.cls) (hret : meth.sig.returnType = ret) (hlk : meth.locks = false) (hg : ∀ w ∈ GW, w.before as.toArray s = true) (hNW : nwOK s) (hK : va_K D vwCl (kTy cy) s) (hP : va_P D vwCl (wld S cy r σ τ vs) s.heap) (hD : va_D (fun _ => True) (wld S cy r σ τ vs)) (hE : E (va_A (wld S cy r σ τ vs) s.heap.size) s) (hex : c.exceptionTable.toList = ex) (hl : lv_has ls maxL (lv_args 0 as))
    (hh : s₁.heap = s.heap) (X : Stand p l e (rmD d vs.length) s m as.toArray below meth c s₁ [] 0 0)
    (body : ∀ X : Cx, X.2.2.2.2.2.2.2.2.2.2.2.2.2.2.1 = maxL → Fx S r X ex cc y.cls ret d Qr Qt E → G S r X σ τ vs (lv_args 0 as) [] 0) :
    ∃ t o, Steps p.tables e below (s₁.setTop (F0 m 0 ls [])) t ∧ t.status = .running ∧ Ended t below o ∧ xq D cy S r (va_A (wld S cy r σ τ vs) s.heap.size) vs.length Qr Qt as.toArray s o t := by
  have h := body (p, l, e, rmD d vs.length, s, m, as.toArray, below, meth, c, va_A (wld S cy r σ τ vs) s.heap.size, D, cy, MQX below (xq D cy S r (va_A (wld S cy r σ τ vs) s.heap.size) vs.length Qr Qt) as.toArray s, maxL, vs.length) rfl
    ⟨hx, hb, hml, hown, hret, hlk, rfl, rfl, hg, hNW, hK, fun q h => Or.inr h, hE, hEo, hex⟩
  have h2 := h s.heap [] ls hP hD.self va_S.rf hl (Nat.le_refl _) hcap
  rw [Nat.sub_self] at h2
  obtain ⟨t, a1, o, b1, b2, b3⟩ := h2 s₁ hh X
  exact ⟨t, o, a1, b1, b2, b3⟩
theorem Ct_of (hEo : EnvOK E) (hy : plainName y.cls = true) (hn : (lg_sl as).length ≤ maxL) (hcap : vs.length ≤ CAP)
    (body : ∀ X : Cx, X.2.2.2.2.2.2.2.2.2.2.2.2.2.2.1 = maxL → Fx S r X [] cc y.cls ret d Qr Qt E → G S r X σ τ vs (lv_args 0 as) [] 0) :
    Ct l D cy S r E y (Cond.code y cc maxL ret) d as σ τ vs Qr Qt := by
  intro sz
  refine MetFree.of_bodyS (code := cc) (maxLocals := maxL) (ret := ret) hy ?_ ?_
  · intro args s m h hn
    obtain ⟨meth, c, h1, h2, h3, h4, h5, h6, -, -⟩ := Cond.code_spec hn (atoms_spec (ws := Cond.code y cc maxL ret :: GW) h _ List.mem_cons_self)
    exact ⟨meth, c, h1, h2, h3, h4, h5, h6⟩
  · intro p e s m args below meth c s₁ B hml hP _
    have hh0 : s₁.heap = s.heap := by rw [B.state]; rfl
    have ht : c.exceptionTable.toList = [] := by
      obtain ⟨meth9, c9, h1, h2, -, -, -, -, h7, -⟩ := Cond.code_spec B.named (atoms_spec (ws := Cond.code y cc maxL ret :: GW) B.pre _ List.mem_cons_self)
      cases Option.some.inj (h1.symm.trans B.method)
      cases Option.some.inj (h2.symm.trans (Stand.of_body B).code)
      have h8 := Array.isEmpty_iff.mp h7
      rw [h8]
    obtain ⟨rfl, ⟨hsz, hNW, hPw, hK, hD0⟩, hE⟩ := hP
    subst hsz
    have X := Stand.of_body B
    rw [lg_entry_eq]
    obtain ⟨t, o, a1, b1, b2, b3⟩ := body_end hEo hcap B.exec B.bytes hml (findClass_of_methodNamed B.named) B.returns B.notSynchronized (fun w h => atoms_spec B.pre w (List.mem_cons_of_mem _ h)) hNW hK hPw hD0 hE ht (lv_entry as hn) hh0 X body
    exact ⟨t, o, a1, b1, b2, b3⟩
theorem Ct.mono {cw : Cond} {Qr' : QR} {Qt' : QT} (h : Ct l D cy S r E y cw d as σ τ vs Qr Qt) (hr : ∀ v σ' τ' vs', Qr v σ' τ' vs' → Qr' v σ' τ' vs') (ht : ∀ σ' τ' vs', Qt σ' τ' vs' → Qt' σ' τ' vs') : Ct l D cy S r E y cw d as σ τ vs Qr' Qt' := by
  intro sz
  refine MetFree.mono (h sz) (fun _ _ h => h) (fun _ _ _ _ _ h => h) ?_
  intro a st o t _ hq
  obtain ⟨σ', τ', vs', g1, g2, g3, g4, g5⟩ := hq
  refine ⟨σ', τ', vs', g1, g2, g3, g4, ?_⟩
  rcases g5 with ⟨v, h1, h2, h3⟩ | ⟨ce, L, h1, h2, h3⟩
  · exact Or.inl ⟨v, h1, hr _ _ _ _ h2, h3⟩
  · exact Or.inr ⟨ce, L, h1, ht _ _ _ h2, h3⟩
end CT1
section CT2
variable {l : Launch} {R : Room} {p : Program} {e : Env} {below : List Frame} {s : State} {sargs : Array Value} {y : MethodName} {len W9 : Nat}
def gPre (R : Room) (n : Nat) (Pc : Array Value → State → Prop) : Pt → Array Value → Prop := fun A a => A.cells + (CAP - n) ≤ R.cells ∧ A.slots + 9 * (CAP - n) ≤ R.slots ∧ Pc a A.U
def gPost (D : va_G) (cy : Nat → ClassId) (S : Sh) (r : Nat → Nat) (A1 : Nat → Prop) (n : Nat) (Qr : QR) : Pt → Array Value → Option Value → Pt → Prop := fun A a v B =>
  ∃ (g : JFrame) (mk : MethodId) (t : State) (L : List Loc) (σ' τ' : St) (vs' : List Nat), B.U.heap = t.heap ∧ B.U.vm = t.vm ∧ kPost D cy A1 (wld S cy r σ' τ' vs') t ∧ va_F A1 (A.U.calling g mk a) t ∧ n ≤ vs'.length ∧ vs'.length ≤ CAP ∧ Qr v σ' τ' vs' ∧ B.locs = A.locs ++ L ∧ (∀ q ∈ L, A1 q.base) ∧ B.cells = A.cells + (vs'.length - n) ∧ B.slots = A.slots + 9 * (vs'.length - n)
def gPostX (D : va_G) (cy : Nat → ClassId) (S : Sh) (r : Nat → Nat) (A1 : Nat → Prop) (n : Nat) (Qt : QT) : Pt → Array Value → Addr → Pt → Prop := fun A a q B =>
  ∃ (g : JFrame) (mk : MethodId) (t : State) (L : List Loc) (σ' τ' : St) (vs' : List Nat), q = r S.2.2.2 ∧ B.U.heap = t.heap ∧ B.U.vm = t.vm ∧ kPost D cy A1 (wld S cy r σ' τ' vs') t ∧ va_F A1 (A.U.calling g mk a) t ∧ n ≤ vs'.length ∧ vs'.length ≤ CAP ∧ Qt σ' τ' vs' ∧ B.locs = A.locs ++ L ∧ (∀ q ∈ L, A1 q.base) ∧ B.cells = A.cells + (vs'.length - n) ∧ B.slots = A.slots + 9 * (vs'.length - n)
/-- after vx_back, of the kit's page of exceptions -/
theorem gx_back {ws : List Cond} {Pc : Array Value → State → Prop} {D : va_G} {cy : Nat → ClassId} {S : Sh} {r : Nat → Nat} {A1 : Nat → Prop} {n d : Nat} {Qr : QR} {Qt : QT} {maxL : Nat}
    (hM : MetFree l y (headSpec ws (rmD d n)) Pc (fun _ _ _ _ _ => True) (xq D cy S r A1 n Qr Qt)) (hblind : FrameBlind Pc)
    (hframes : d + 1 ≤ R.frames) (hlocals : W9 + (maxL + 11) + 40 * d ≤ R.locals)
    (hws : ∀ w ∈ ws, ∀ a' U, s.WarmedH U.vm → w.before a' U = true) (hcode : ∀ (a' : Array Value) (U : State) (mk : MethodId), s.WarmedH U.vm → U.methodNamed? y = some mk → ∃ meth c, U.vm.method? mk = some meth ∧ meth.code = some c ∧ c.maxLocals = maxL) (hinit : ∀ a' U, s.WarmedH U.vm → (Cond.initialized y.cls).before a' U = true) :
    vx_Back l R p e below s sargs y len W9 (gPre R n Pc) (gPost D cy S r A1 n Qr) (gPostX D cy S r A1 n Qt) := by
  intro m meth c A g ig mk a X hg hsize hdg hW hn hp
  have h1 : (headSpec ws (rmD d n)).pre.before a A.U = true := atoms_intro fun w hw => hws w hw _ _ X.warmed
  have h3 : (Cond.initialized y.cls).before a A.U = true := hinit _ _ X.warmed
  have h4 : A.cells + (headSpec ws (rmD d n)).room.cells ≤ R.cells := hp.1
  have h5 : A.slots + (headSpec ws (rmD d n)).room.slots ≤ R.slots := hp.2.1
  have hPc : Pc a (A.U.calling g mk a) := hblind _ _ _ _ hp.2.2
  obtain ⟨U, Ls, c0, s0⟩ := A
  dsimp only [Pt.U, Pt.locs, Pt.cells, Pt.slots] at h1 h3 h4 h5 X hn hPc ⊢
  obtain ⟨methY, cY, hmY, hcY, hlY⟩ := hcode a U mk X.warmed hn
  obtain ⟨kY, hkY, -⟩ := className_of_methodNamed hn
  have hinitY : kY.init = .initialized := Cond.initialized_spec (findClass_of_methodNamed hn) hkY h3
  have h : At U g.method c below := by rw [hg]; exact X.here
  have happ : (headSpec ws (rmD d n)).appliesLoose y e.platform (U.calling g mk a) = true :=
    Spec.appliesLoose_calling (g := g) h hdg hn hkY hinitY
      (X.room_calling (g := g) (R' := (headSpec ws (rmD d n)).room) hsize hmY hcY hframes (by rw [hlY]; show _ + (maxL + 11) + 40 * d ≤ _; omega) h4 h5) h1
  obtain ⟨mid, hmid⟩ := h.above
  have hfr : (U.setTop g).frames = (.java g :: mid) ++ below := by rw [State.frames_setTop' g h.top, hmid]; rfl
  obtain ⟨o, s₂, hsteps, -, hend, hq⟩ := Steps.callFree hM p X.admits X.cas X.clock (acts := []) hfr happ hPc trivial
  have hq' : xq D cy S r A1 n Qr Qt a (U.calling g mk a) o s₂ := hq
  rw [State.frames_setTop' g h.top] at hend
  obtain ⟨g₀, hg0⟩ := Option.isSome_iff_exists.mp h.top
  obtain ⟨r9, hr⟩ := State.topJava?_eq_some.mp hg0
  have hr' : (({ U with heap := s₂.heap, slotsUsed := s₂.slotsUsed } : State).setVm s₂.vm).frames = .java g₀ :: r9 := hr
  obtain ⟨σ', τ', vs', w1, w2, w3, w4, w5⟩ := hq'
  rcases w5 with ⟨v, rfl, hqc, L, hfe, hL⟩ | ⟨ce, L, rfl, hqt, hce, hcv, hcl, hW₂, hsm, hL⟩
  · obtain ⟨-, hW₂, e2, q2, q3, q4, q5, q6⟩ := id hfe
    have e3 : s₂ = ({ (U.calling g mk a).setFrames s₂.frames with heap := s₂.heap, slotsUsed := s₂.slotsUsed } : State).setVm s₂.vm := by
      have : s₂ = ({ s₂ with vm := (U.calling g mk a).vm } : State).setVm s₂.vm := rfl
      rw [e2] at this
      exact this
    obtain ⟨c₂, i₂, len₂, hc₂, hd₂, hf₂⟩ := hend
    have hW' : U.WarmedH s₂.vm := hW₂
    have hcc : c₂ = c := by
      have h1 : s₂.code? g.method = U.code? g.method := by
        rw [State.code?_eq, State.code?_eq, hW'.alike.method?]
      exact Option.some.inj (hc₂.symm.trans (h1.trans h.code))
    subst hcc
    have hlen : len₂ = len := by rw [hdg] at hd₂; cases hd₂; rfl
    subst hlen
    have hs₂ : s₂ = (({ U with heap := s₂.heap, slotsUsed := s₂.slotsUsed } : State).setVm s₂.vm).setTop { g with pc := g.pc + len₂, stack := v.toList ++ g.stack } := by
      refine e3.trans ?_
      rw [hf₂, State.calling_eq h.top, State.setFrames_setFrames, State.setTop_of_frames _ hr', hr]
      rfl
    have hsame : U.sameButNew ({ U with heap := s₂.heap, slotsUsed := s₂.slotsUsed } : State) L (vs'.length - n) (9 * (vs'.length - n)) := by
      refine ⟨?_, q2, q3, q4, q5, q6⟩
      obtain ⟨t, ht, -⟩ := State.frames_cons hr
      show ({ U with heap := s₂.heap, slotsUsed := s₂.slotsUsed } : State) = { U.setFrames U.frames with heap := s₂.heap, slotsUsed := s₂.slotsUsed }
      rw [State.setFrames_self ht]
    subst hg
    refine Or.inl ⟨v, ⟨(({ U with heap := s₂.heap, slotsUsed := s₂.slotsUsed } : State).setVm s₂.vm), Ls ++ L, c0 + (vs'.length - n), s0 + 9 * (vs'.length - n)⟩,
      ⟨X.admits, X.cas, X.clock, X.frames, X.room, X.hears, X.method, X.code, (X.here.setHeapUsed s₂.heap s₂.slotsUsed).setVm hW'.alike, X.tail, State.WarmedH.trans X.warmed hW', X.limits, X.bytes, X.same.trans (hsame.setVm s.vm)⟩,
      ⟨g, mk, s₂, L, σ', τ', vs', rfl, rfl, w1, w2, w3, w4, hqc, rfl, hL, rfl, rfl⟩, ?_⟩
    show Steps p.tables e below _ ((({ U with heap := s₂.heap, slotsUsed := s₂.slotsUsed } : State).setVm s₂.vm).setTop { g with pc := g.pc + len₂, stack := v.toList ++ g.stack })
    rw [← hs₂]
    exact hsteps
  · obtain ⟨e2, q2, q3, q4, q5, q6⟩ := id hsm
    have e3 : s₂ = ({ (U.calling g mk a).setFrames s₂.frames with heap := s₂.heap, slotsUsed := s₂.slotsUsed } : State).setVm s₂.vm := by
      have : s₂ = ({ s₂ with vm := (U.calling g mk a).vm } : State).setVm s₂.vm := rfl
      rw [e2] at this
      exact this
    have hf₂ : s₂.frames = .throwing (r S.2.2.2) :: .java g :: U.frames.tail := hend
    have hW' : U.WarmedH s₂.vm := hW₂
    have hs₂ : s₂ = ((({ U with heap := s₂.heap, slotsUsed := s₂.slotsUsed } : State).setVm s₂.vm).setTop g).pushFrame (.throwing (r S.2.2.2)) := by
      refine e3.trans ?_
      rw [hf₂, State.calling_eq h.top, State.setFrames_setFrames, State.pushFrame, State.frames_setTop _ hr', State.setTop_of_frames _ hr', State.setFrames_setFrames, hr]
      rfl
    have hsame : U.sameButNew ({ U with heap := s₂.heap, slotsUsed := s₂.slotsUsed } : State) L (vs'.length - n) (9 * (vs'.length - n)) := by
      refine ⟨?_, q2, q3, q4, q5, q6⟩
      obtain ⟨t, ht, -⟩ := State.frames_cons hr
      show ({ U with heap := s₂.heap, slotsUsed := s₂.slotsUsed } : State) = { U.setFrames U.frames with heap := s₂.heap, slotsUsed := s₂.slotsUsed }
      rw [State.setFrames_self ht]
    subst hg
    refine Or.inr ⟨r S.2.2.2, ⟨(({ U with heap := s₂.heap, slotsUsed := s₂.slotsUsed } : State).setVm s₂.vm), Ls ++ L, c0 + (vs'.length - n), s0 + 9 * (vs'.length - n)⟩,
      ⟨X.admits, X.cas, X.clock, X.frames, X.room, X.hears, X.method, X.code, (X.here.setHeapUsed s₂.heap s₂.slotsUsed).setVm hW'.alike, X.tail, State.WarmedH.trans X.warmed hW', X.limits, X.bytes, X.same.trans (hsame.setVm s.vm)⟩,
      ⟨g, mk, s₂, L, σ', τ', vs', rfl, rfl, rfl, w1, w2, w3, w4, hqt, rfl, hL, rfl, rfl⟩, ?_⟩
    show Steps p.tables e below _ (((({ U with heap := s₂.heap, slotsUsed := s₂.slotsUsed } : State).setVm s₂.vm).setTop g).pushFrame (.throwing (r S.2.2.2)))
    rw [← hs₂]
    exact hsteps
theorem back_of_vx {Pre : Pt → Array Value → Prop} {Post : Pt → Array Value → Option Value → Pt → Prop} {PostX : Pt → Array Value → Addr → Pt → Prop} (h : vx_Back l R p e below s sargs y len W9 Pre Post PostX) (hf : ∀ A a q B, ¬ PostX A a q B) : Back l R p e below s sargs y len W9 Pre Post := by
  intro m meth c A g ig mk a X hg hsize hdg hW hn hp
  rcases h m meth c A g ig mk a X hg hsize hdg hW hn hp with h1 | ⟨q, B, h1, h2, h3⟩
  · exact h1
  · exact absurd h2 (hf _ _ _ _)
end CT2
end

section
/-! calls -/
section GC
variable {S : Sh} {r : Nat → Nat} {X : Cx} {ex : List ExceptionTableEntry} {cc : ByteArray} {own : String} {ret : Option FieldType} {d : Nat} {Qr : QR} {Qt : QT} {E : (Nat → Prop) → State → Prop} {σ τ : St} {vs : List Nat} {L : List (Nat × Value)} {rest : List Value} {pc : Nat}
/-- what the tables say of a method that is called on an object -/
def MeV (y : MethodName) (bytes : ByteArray) (maxL : Nat) (ret : Option FieldType) (n : Nat) : Prop := Cond.code y bytes maxL ret ∈ GW ∧ Cond.initialized y.cls ∈ GW ∧ Cond.instanceMethod y ∈ GW ∧ Cond.selects y.cls y y ∈ GW ∧ maxL ≤ 21 ∧ (y.cls ≠ "java/lang/invoke/MethodHandle" ∧ y.cls ≠ "java/lang/invoke/VarHandle") ∧ (parseMethodDescriptor y.desc).map (fun d => d.parameters.length) = some n
def MeS (y : MethodName) (bytes : ByteArray) (maxL : Nat) (ret : Option FieldType) (n : Nat) : Prop := Cond.code y bytes maxL ret ∈ GW ∧ Cond.initialized y.cls ∈ GW ∧ Cond.static y ∈ GW ∧ maxL ≤ 21 ∧ (y.cls ≠ "java/lang/invoke/MethodHandle" ∧ y.cls ≠ "java/lang/invoke/VarHandle") ∧ (parseMethodDescriptor y.desc).map (fun d => d.parameters.length) = some n
def Recv (S : Sh) (r : Nat → Nat) (E : (Nat → Prop) → State → Prop) (vs : List Nat) (C : String) (b : Nat) : Prop := ∀ (D : va_G) (cy : Nat → ClassId) (A : Nat → Prop) (s : State) (H : Heap) (locs : List Loc) (σ τ : St), va_K D vwCl (kTy cy) s → va_P D vwCl (wld S cy r σ τ vs) H → va_S A s.heap H locs → E A s → ∃ cell : Cell, H[b]? = some cell ∧ cell.vm.isStatics = false ∧ s.vm.findClass C = some cell.cls
theorem recv_ob {j ci : Nat} {C : String} {T : u_T} {N : Nat} {ty : Nat → FieldType} (ho : ObOK S j ci C T N ty) : Recv S r E vs C (r j) := fun _ _ _ _ _ _ _ _ hK hP _ _ => va_recv hK hP ho.1.1 ((wld_at ho.2.1).trans (by rw [cellE_obj ho.2.2]))
theorem recv_v {a : Nat} {T : u_T} {ty : Nat → FieldType} (ha : a ∈ vs) (ho : ClsOK ciV "LinkedUnitsModel$Value" T 9 ty) : Recv S r E vs "LinkedUnitsModel$Value" a := fun _ _ _ _ _ _ _ _ hK hP _ _ => by
  obtain ⟨i, hi⟩ := List.mem_iff_getElem?.mp ha
  exact va_recv hK hP ho.1 (wld_av hi)
theorem code_of {y : MethodName} {bytes : ByteArray} {maxL : Nat} {ret : Option FieldType} {s : State} {args : Array Value} (hg : ∀ w ∈ GW, w.before args s = true) (h : Cond.code y bytes maxL ret ∈ GW) : ∀ (a' : Array Value) (U : State) (mk : MethodId), s.WarmedH U.vm → U.methodNamed? y = some mk → ∃ meth c, U.vm.method? mk = some meth ∧ meth.code = some c ∧ c.maxLocals = maxL := fun a' U mk hW hn => by
  have h2 : (Cond.code y bytes maxL ret).before a' U = true := pay_in hg (gw_c h) _ List.mem_cons_self a' U hW
  obtain ⟨methY, cY, hmY, hcY, -, hlY, -, -, -, -⟩ := Cond.code_spec hn h2
  exact ⟨methY, cY, hmY, hcY, hlY⟩
theorem init_of {y : MethodName} {s : State} {args : Array Value} (hg : ∀ w ∈ GW, w.before args s = true) (h : Cond.initialized y.cls ∈ GW) : ∀ (a' : Array Value) (U : State), s.WarmedH U.vm → (Cond.initialized y.cls).before a' U = true := fun a' U hW => word_at hW (Or.inl (by first | rfl | simp [Cond.onTables, Cond.keeps, Cond.steady])) (hg _ h)
theorem g_room {d d' n0 : Nat} {maxL : Nat} {R : Room} (hR : R = rmD d n0) (hd : d' + 1 ≤ d) (hm : maxL ≤ 21) : d' + 1 ≤ R.frames ∧ 8 + (maxL + 11) + 40 * d' ≤ R.locals := by
  subst hR
  exact ⟨hd, by show _ ≤ 40 * d; omega⟩
theorem g_cells {d n0 n : Nat} {R : Room} (hR : R = rmD d n0) (h1 : n0 ≤ n) (h2 : n ≤ CAP) : n - n0 + (CAP - n) ≤ R.cells ∧ 9 * (n - n0) + 9 * (CAP - n) ≤ R.slots := by
  subst hR
  refine ⟨?_, ?_⟩
  · show _ ≤ CAP - n0; omega
  · show _ ≤ 9 * (CAP - n0); omega

theorem g_callV (hF : Fx S r X ex cc own ret d Qr Qt E) {index d' maxL n b : Nat} {y : MethodName} {bytes : ByteArray} {rt : Option FieldType} {As st : List Value} {Qr' : QR} {Qt' : QT}
    (C : ∀ (l : Launch) (D : va_G) (cy : Nat → ClassId), Ct l D cy S r E y (Cond.code y bytes maxL rt) d' (.ref b :: As) σ τ vs Qr' Qt') (hd' : d' + 1 ≤ d) (hme : MeV y bytes maxL rt n) (hw : Cond.methodLink own index y ∈ GW) (hrec : Recv S r E vs y.cls b) (hst : st = As.reverse ++ .ref b :: rest) (hn : As.length = n) (hcat : (rest.map fun v => v.category).sum ≤ 8) (hd : decode cc pc = .ok (.invokevirtual index, 3))
    (kk : ∀ v σ' τ' vs', Qr' v σ' τ' vs' → G S r X σ' τ' vs' L (v.toList ++ rest) (pc + 3))
    (kt : ∀ σ' τ' vs', Qt' σ' τ' vs' → GT S r X σ' τ' vs' L rest pc) : G S r X σ τ vs L st pc := by
  obtain ⟨p, l, e, R, s, m, args, below, meth, c, A, D, cy, Q, nL, n0⟩ := X
  obtain ⟨hx, hb, hml, hown, hret, hlk, hR, hQ, hg, hNW, hK, hA, hE, hEo, hex⟩ := hF
  intro H locs ls hP hD hS hl h1 h2
  subst hst
  have hFr : ∀ q, va_A (wld S cy r σ τ vs) H.size q → A q := fun q h => va_free (wc := wld S cy r σ τ vs) hD hS hA (List.range (wld S cy r σ τ vs).length) (range_get _) q h
  obtain ⟨hc1, hc2, hc3, hc4, hm, hy, hpd⟩ := hme
  have hroom := g_room hR hd' hm
  have hK9 := gx_back (l := l) (R := R) (p := p) (e := e) (below := below) (s := s) (sargs := args) (len := 3) (W9 := 8) (C l D cy H.size) (kPreE.blind hEo) hroom.1 hroom.2 (pay_in hg (gw_c hc1)) (code_of hg hc1) (init_of hg hc2)
  have hlen : ∀ sig, parseMethodDescriptor y.desc = some sig → As.length = sig.parameters.length := fun sig h => by
    rw [h] at hpd
    exact hn.trans (Option.some.inj hpd).symm
  intro T hT X
  obtain ⟨cell, hce, hcs, hcc⟩ := hrec D cy A s H locs σ τ hK hP hS hE
  have hPre : ∀ vm₁, s.WarmedH vm₁ → gPre R vs.length (va_Pc (.ref b :: As) (kPreE D cy H.size (wld S cy r σ τ vs) E)) ⟨T.setVm vm₁, locs, vs.length - n0, 9 * (vs.length - n0)⟩ (Value.ref b :: As).toArray := fun vm₁ hW₁ => ⟨(g_cells hR h1 h2).1, (g_cells hR h1 h2).2, rfl, ⟨by show T.heap.size = H.size; rw [hT], nwOK.warm (U := T.setVm vm₁) hW₁ hNW, by show va_P D vwCl _ T.heap; rw [hT]; exact hP, va_K.moved (u := s) (U := T.setVm vm₁) hW₁.alike hK, va_D.weaken hD (fun _ _ _ _ => trivial)⟩, hEo A _ s (T.setVm vm₁) hW₁ (fun a q1 q2 => by show T.heap[a]? = _; rw [hT]; exact hS.2.1 a q1 q2) (fun q h => hFr q h) hE⟩
  rcases vx_callV X hx (C := y.cls) (bytes := bytes) (maxL := maxL) (ret := rt) hown (hg _ hw) (hg _ hc3) (hg _ hc4) (hg _ hc1) hy hK9 (by rw [hT]; exact hce) hcs hcc (g := F0 m pc ls (As.reverse ++ .ref b :: rest)) rfl (hl.1.trans hml.symm) (argsL := As) (rest := rest) hlen rfl (lv_room hcat) (by rw [hb]; exact hd) hPre with ⟨v, vm₁, ⟨U', l2, c2, s2⟩, hW₁, X', ⟨g', mk, t, L, σ', τ', vs', e1, e2, w1, w2, w3, w4, hq, q1, hL, q2, q3⟩, st⟩ | ⟨q, vm₁, ⟨U', l2, c2, s2⟩, hW₁, X', ⟨g', mk, t, L, σ', τ', vs', e0, e1, e2, w1, w2, w3, w4, hq, q1, hL, q2, q3⟩, st⟩
  · skip
    dsimp only [Pt.U, Pt.locs, Pt.cells, Pt.slots] at X' e1 e2 q1 q2 q3 st
    subst q1; subst q2; subst q3
    obtain ⟨k1, k2, k3⟩ := vx_keep (H := H) (locs := locs) hT e1 hS (fun q _ hq9 => hFr q hq9) hFr hL w2
    have h9 := kk v σ' τ' vs' hq U'.heap (locs ++ L) ls (by rw [e1]; exact w1.1) (va_D.weaken w1.2.2 (fun _ q _ h => hFr q.1 h)) k3 hl (Nat.le_trans h1 w3) w4
    have e5 : vs.length - n0 + (vs'.length - vs.length) = vs'.length - n0 := by omega
    have e6 : 9 * (vs.length - n0) + 9 * (vs'.length - vs.length) = 9 * (vs'.length - n0) := by omega
    rw [e5, e6] at X'
    obtain ⟨t2, a1, b1⟩ := h9 U' rfl X'
    exact ⟨t2, st _ a1, b1⟩
  · skip
    subst e0
    dsimp only [Pt.U, Pt.locs, Pt.cells, Pt.slots] at X' e1 e2 q1 q2 q3 st
    subst q1; subst q2; subst q3
    obtain ⟨k1, k2, k3⟩ := vx_keep (H := H) (locs := locs) hT e1 hS (fun q _ hq9 => hFr q hq9) hFr hL w2
    have h9 := kt σ' τ' vs' hq U'.heap (locs ++ L) ls (by rw [e1]; exact w1.1) (va_D.weaken w1.2.2 (fun _ q _ h => hFr q.1 h)) k3 hl (Nat.le_trans h1 w3) w4
    have e5 : vs.length - n0 + (vs'.length - vs.length) = vs'.length - n0 := by omega
    have e6 : 9 * (vs.length - n0) + 9 * (vs'.length - vs.length) = 9 * (vs'.length - n0) := by omega
    rw [e5, e6] at X'
    obtain ⟨t2, a1, b1⟩ := h9 U' rfl X'
    exact ⟨t2, st.trans a1, b1⟩

theorem g_callS (hF : Fx S r X ex cc own ret d Qr Qt E) {index d' maxL n : Nat} {y : MethodName} {bytes : ByteArray} {rt : Option FieldType} {As st : List Value} {Qr' : QR} {Qt' : QT}
    (C : ∀ (l : Launch) (D : va_G) (cy : Nat → ClassId), Ct l D cy S r E y (Cond.code y bytes maxL rt) d' As σ τ vs Qr' Qt') (hd' : d' + 1 ≤ d) (hme : MeS y bytes maxL rt n) (hw : Cond.methodLink own index y ∈ GW) (hst : st = As.reverse ++ rest) (hn : As.length = n) (hcat : (rest.map fun v => v.category).sum ≤ 8) (hd : decode cc pc = .ok (.invokestatic index, 3))
    (kk : ∀ v σ' τ' vs', Qr' v σ' τ' vs' → G S r X σ' τ' vs' L (v.toList ++ rest) (pc + 3))
    (kt : ∀ σ' τ' vs', Qt' σ' τ' vs' → GT S r X σ' τ' vs' L rest pc) : G S r X σ τ vs L st pc := by
  obtain ⟨p, l, e, R, s, m, args, below, meth, c, A, D, cy, Q, nL, n0⟩ := X
  obtain ⟨hx, hb, hml, hown, hret, hlk, hR, hQ, hg, hNW, hK, hA, hE, hEo, hex⟩ := hF
  intro H locs ls hP hD hS hl h1 h2
  subst hst
  have hFr : ∀ q, va_A (wld S cy r σ τ vs) H.size q → A q := fun q h => va_free (wc := wld S cy r σ τ vs) hD hS hA (List.range (wld S cy r σ τ vs).length) (range_get _) q h
  obtain ⟨hc1, hc2, hc3, hm, hy, hpd⟩ := hme
  have hroom := g_room hR hd' hm
  have hK9 := gx_back (l := l) (R := R) (p := p) (e := e) (below := below) (s := s) (sargs := args) (len := 3) (W9 := 8) (C l D cy H.size) (kPreE.blind hEo) hroom.1 hroom.2 (pay_in hg (gw_c hc1)) (code_of hg hc1) (init_of hg hc2)
  have hlen : ∀ sig, parseMethodDescriptor y.desc = some sig → As.length = sig.parameters.length := fun sig h => by
    rw [h] at hpd
    exact hn.trans (Option.some.inj hpd).symm
  intro T hT X
  have hPre : ∀ vm₁, s.WarmedH vm₁ → gPre R vs.length (va_Pc As (kPreE D cy H.size (wld S cy r σ τ vs) E)) ⟨T.setVm vm₁, locs, vs.length - n0, 9 * (vs.length - n0)⟩ (As).toArray := fun vm₁ hW₁ => ⟨(g_cells hR h1 h2).1, (g_cells hR h1 h2).2, rfl, ⟨by show T.heap.size = H.size; rw [hT], nwOK.warm (U := T.setVm vm₁) hW₁ hNW, by show va_P D vwCl _ T.heap; rw [hT]; exact hP, va_K.moved (u := s) (U := T.setVm vm₁) hW₁.alike hK, va_D.weaken hD (fun _ _ _ _ => trivial)⟩, hEo A _ s (T.setVm vm₁) hW₁ (fun a q1 q2 => by show T.heap[a]? = _; rw [hT]; exact hS.2.1 a q1 q2) (fun q h => hFr q h) hE⟩
  rcases vx_callS X hx (bytes := bytes) (maxL := maxL) (ret := rt) hown (hg _ hw) (hg _ hc3) (hg _ hc2) (hg _ hc1) hy hK9 (g := F0 m pc ls (As.reverse ++ rest)) rfl (hl.1.trans hml.symm) (argsL := As) (rest := rest) hlen rfl (lv_room hcat) (by rw [hb]; exact hd) hPre with ⟨v, vm₁, ⟨U', l2, c2, s2⟩, hW₁, X', ⟨g', mk, t, L, σ', τ', vs', e1, e2, w1, w2, w3, w4, hq, q1, hL, q2, q3⟩, st⟩ | ⟨q, vm₁, ⟨U', l2, c2, s2⟩, hW₁, X', ⟨g', mk, t, L, σ', τ', vs', e0, e1, e2, w1, w2, w3, w4, hq, q1, hL, q2, q3⟩, st⟩
  · skip
    dsimp only [Pt.U, Pt.locs, Pt.cells, Pt.slots] at X' e1 e2 q1 q2 q3 st
    subst q1; subst q2; subst q3
    obtain ⟨k1, k2, k3⟩ := vx_keep (H := H) (locs := locs) hT e1 hS (fun q _ hq9 => hFr q hq9) hFr hL w2
    have h9 := kk v σ' τ' vs' hq U'.heap (locs ++ L) ls (by rw [e1]; exact w1.1) (va_D.weaken w1.2.2 (fun _ q _ h => hFr q.1 h)) k3 hl (Nat.le_trans h1 w3) w4
    have e5 : vs.length - n0 + (vs'.length - vs.length) = vs'.length - n0 := by omega
    have e6 : 9 * (vs.length - n0) + 9 * (vs'.length - vs.length) = 9 * (vs'.length - n0) := by omega
    rw [e5, e6] at X'
    obtain ⟨t2, a1, b1⟩ := h9 U' rfl X'
    exact ⟨t2, st _ a1, b1⟩
  · skip
    subst e0
    dsimp only [Pt.U, Pt.locs, Pt.cells, Pt.slots] at X' e1 e2 q1 q2 q3 st
    subst q1; subst q2; subst q3
    obtain ⟨k1, k2, k3⟩ := vx_keep (H := H) (locs := locs) hT e1 hS (fun q _ hq9 => hFr q hq9) hFr hL w2
    have h9 := kt σ' τ' vs' hq U'.heap (locs ++ L) ls (by rw [e1]; exact w1.1) (va_D.weaken w1.2.2 (fun _ q _ h => hFr q.1 h)) k3 hl (Nat.le_trans h1 w3) w4
    have e5 : vs.length - n0 + (vs'.length - vs.length) = vs'.length - n0 := by omega
    have e6 : 9 * (vs.length - n0) + 9 * (vs'.length - vs.length) = 9 * (vs'.length - n0) := by omega
    rw [e5, e6] at X'
    obtain ⟨t2, a1, b1⟩ := h9 U' rfl X'
    exact ⟨t2, st.trans a1, b1⟩

theorem g_callVN (hF : Fx S r X ex cc own ret d Qr Qt E) {index d' maxL n b : Nat} {y : MethodName} {bytes : ByteArray} {rt : Option FieldType} {host : String} {As st : List Value} {Qr' : QR}
    (C : ∀ (l : Launch) (D : va_G) (cy : Nat → ClassId), Ct l D cy S r E y (Cond.code y bytes maxL rt) d' (.ref b :: As) σ τ vs Qr' (fun _ _ _ => False)) (hd' : d' + 1 ≤ d) (hme : MeV y bytes maxL rt n) (hw : Cond.methodLinkNest own index y host ∈ NW) (hrec : Recv S r E vs y.cls b) (hst : st = As.reverse ++ .ref b :: rest) (hn : As.length = n) (hcat : (rest.map fun v => v.category).sum ≤ 8) (hd : decode cc pc = .ok (.invokevirtual index, 3))
    (kk : ∀ v σ' τ' vs', Qr' v σ' τ' vs' → G S r X σ' τ' vs' L (v.toList ++ rest) (pc + 3)) : G S r X σ τ vs L st pc := by
  obtain ⟨p, l, e, R, s, m, args, below, meth, c, A, D, cy, Q, nL, n0⟩ := X
  obtain ⟨hx, hb, hml, hown, hret, hlk, hR, hQ, hg, hNW, hK, hA, hE, hEo, hex⟩ := hF
  intro H locs ls hP hD hS hl h1 h2
  subst hst
  have hFr : ∀ q, va_A (wld S cy r σ τ vs) H.size q → A q := fun q h => va_free (wc := wld S cy r σ τ vs) hD hS hA (List.range (wld S cy r σ τ vs).length) (range_get _) q h
  obtain ⟨hc1, hc2, hc3, hc4, hm, hy, hpd⟩ := hme
  have hroom := g_room hR hd' hm
  have hK9 := gx_back (l := l) (R := R) (p := p) (e := e) (below := below) (s := s) (sargs := args) (len := 3) (W9 := 8) (C l D cy H.size) (kPreE.blind hEo) hroom.1 hroom.2 (pay_in hg (gw_c hc1)) (code_of hg hc1) (init_of hg hc2)
  have hK9 := back_of_vx hK9 (fun _ _ _ _ h => by obtain ⟨_, _, _, _, _, _, _, _, _, _, _, _, _, _, h, _⟩ := h; exact h)
  have hlen : ∀ sig, parseMethodDescriptor y.desc = some sig → As.length = sig.parameters.length := fun sig h => by
    rw [h] at hpd
    exact hn.trans (Option.some.inj hpd).symm
  intro T hT X
  obtain ⟨cell, hce, hcs, hcc⟩ := hrec D cy A s H locs σ τ hK hP hS hE
  have hPre : ∀ vm₁, s.WarmedH vm₁ → gPre R vs.length (va_Pc (.ref b :: As) (kPreE D cy H.size (wld S cy r σ τ vs) E)) ⟨T.setVm vm₁, locs, vs.length - n0, 9 * (vs.length - n0)⟩ (Value.ref b :: As).toArray := fun vm₁ hW₁ => ⟨(g_cells hR h1 h2).1, (g_cells hR h1 h2).2, rfl, ⟨by show T.heap.size = H.size; rw [hT], nwOK.warm (U := T.setVm vm₁) hW₁ hNW, by show va_P D vwCl _ T.heap; rw [hT]; exact hP, va_K.moved (u := s) (U := T.setVm vm₁) hW₁.alike hK, va_D.weaken hD (fun _ _ _ _ => trivial)⟩, hEo A _ s (T.setVm vm₁) hW₁ (fun a q1 q2 => by show T.heap[a]? = _; rw [hT]; exact hS.2.1 a q1 q2) (fun q h => hFr q h) hE⟩
  obtain ⟨v, vm₁, ⟨U', l2, c2, s2⟩, hW₁, X', ⟨g', mk, t, L, σ', τ', vs', e1, e2, w1, w2, w3, w4, hq, q1, hL, q2, q3⟩, st⟩ := va_callVN X hx (C := y.cls) (bytes := bytes) (maxL := maxL) (ret := rt) hown (va_Nw.use rfl (hNW.1 _ hw)) (hg _ hc3) (hg _ hc4) (hg _ hc1) hy hK9 (by rw [hT]; exact hce) hcs hcc (g := F0 m pc ls (As.reverse ++ .ref b :: rest)) rfl (hl.1.trans hml.symm) (argsL := As) (rest := rest) hlen rfl (lv_room hcat) (by rw [hb]; exact hd) hPre
  · skip
    dsimp only [Pt.U, Pt.locs, Pt.cells, Pt.slots] at X' e1 e2 q1 q2 q3 st
    subst q1; subst q2; subst q3
    obtain ⟨k1, k2, k3⟩ := vx_keep (H := H) (locs := locs) hT e1 hS (fun q _ hq9 => hFr q hq9) hFr hL w2
    have h9 := kk v σ' τ' vs' hq U'.heap (locs ++ L) ls (by rw [e1]; exact w1.1) (va_D.weaken w1.2.2 (fun _ q _ h => hFr q.1 h)) k3 hl (Nat.le_trans h1 w3) w4
    have e5 : vs.length - n0 + (vs'.length - vs.length) = vs'.length - n0 := by omega
    have e6 : 9 * (vs.length - n0) + 9 * (vs'.length - vs.length) = 9 * (vs'.length - n0) := by omega
    rw [e5, e6] at X'
    obtain ⟨t2, a1, b1⟩ := h9 U' rfl X'
    exact ⟨t2, st _ a1, b1⟩

theorem g_callSN (hF : Fx S r X ex cc own ret d Qr Qt E) {index d' maxL n : Nat} {y : MethodName} {bytes : ByteArray} {rt : Option FieldType} {host : String} {As st : List Value} {Qr' : QR}
    (C : ∀ (l : Launch) (D : va_G) (cy : Nat → ClassId), Ct l D cy S r E y (Cond.code y bytes maxL rt) d' As σ τ vs Qr' (fun _ _ _ => False)) (hd' : d' + 1 ≤ d) (hme : MeS y bytes maxL rt n) (hw : Cond.methodLinkNest own index y host ∈ NW) (hst : st = As.reverse ++ rest) (hn : As.length = n) (hcat : (rest.map fun v => v.category).sum ≤ 8) (hd : decode cc pc = .ok (.invokestatic index, 3))
    (kk : ∀ v σ' τ' vs', Qr' v σ' τ' vs' → G S r X σ' τ' vs' L (v.toList ++ rest) (pc + 3)) : G S r X σ τ vs L st pc := by
  obtain ⟨p, l, e, R, s, m, args, below, meth, c, A, D, cy, Q, nL, n0⟩ := X
  obtain ⟨hx, hb, hml, hown, hret, hlk, hR, hQ, hg, hNW, hK, hA, hE, hEo, hex⟩ := hF
  intro H locs ls hP hD hS hl h1 h2
  subst hst
  have hFr : ∀ q, va_A (wld S cy r σ τ vs) H.size q → A q := fun q h => va_free (wc := wld S cy r σ τ vs) hD hS hA (List.range (wld S cy r σ τ vs).length) (range_get _) q h
  obtain ⟨hc1, hc2, hc3, hm, hy, hpd⟩ := hme
  have hroom := g_room hR hd' hm
  have hK9 := gx_back (l := l) (R := R) (p := p) (e := e) (below := below) (s := s) (sargs := args) (len := 3) (W9 := 8) (C l D cy H.size) (kPreE.blind hEo) hroom.1 hroom.2 (pay_in hg (gw_c hc1)) (code_of hg hc1) (init_of hg hc2)
  have hK9 := back_of_vx hK9 (fun _ _ _ _ h => by obtain ⟨_, _, _, _, _, _, _, _, _, _, _, _, _, _, h, _⟩ := h; exact h)
  have hlen : ∀ sig, parseMethodDescriptor y.desc = some sig → As.length = sig.parameters.length := fun sig h => by
    rw [h] at hpd
    exact hn.trans (Option.some.inj hpd).symm
  intro T hT X
  have hPre : ∀ vm₁, s.WarmedH vm₁ → gPre R vs.length (va_Pc As (kPreE D cy H.size (wld S cy r σ τ vs) E)) ⟨T.setVm vm₁, locs, vs.length - n0, 9 * (vs.length - n0)⟩ (As).toArray := fun vm₁ hW₁ => ⟨(g_cells hR h1 h2).1, (g_cells hR h1 h2).2, rfl, ⟨by show T.heap.size = H.size; rw [hT], nwOK.warm (U := T.setVm vm₁) hW₁ hNW, by show va_P D vwCl _ T.heap; rw [hT]; exact hP, va_K.moved (u := s) (U := T.setVm vm₁) hW₁.alike hK, va_D.weaken hD (fun _ _ _ _ => trivial)⟩, hEo A _ s (T.setVm vm₁) hW₁ (fun a q1 q2 => by show T.heap[a]? = _; rw [hT]; exact hS.2.1 a q1 q2) (fun q h => hFr q h) hE⟩
  obtain ⟨v, vm₁, ⟨U', l2, c2, s2⟩, hW₁, X', ⟨g', mk, t, L, σ', τ', vs', e1, e2, w1, w2, w3, w4, hq, q1, hL, q2, q3⟩, st⟩ := va_callSN X hx (bytes := bytes) (maxL := maxL) (ret := rt) hown (va_Nw.use rfl (hNW.1 _ hw)) (hg _ hc3) (hg _ hc2) (hg _ hc1) hy hK9 (g := F0 m pc ls (As.reverse ++ rest)) rfl (hl.1.trans hml.symm) (argsL := As) (rest := rest) hlen rfl (lv_room hcat) (by rw [hb]; exact hd) hPre
  · skip
    dsimp only [Pt.U, Pt.locs, Pt.cells, Pt.slots] at X' e1 e2 q1 q2 q3 st
    subst q1; subst q2; subst q3
    obtain ⟨k1, k2, k3⟩ := vx_keep (H := H) (locs := locs) hT e1 hS (fun q _ hq9 => hFr q hq9) hFr hL w2
    have h9 := kk v σ' τ' vs' hq U'.heap (locs ++ L) ls (by rw [e1]; exact w1.1) (va_D.weaken w1.2.2 (fun _ q _ h => hFr q.1 h)) k3 hl (Nat.le_trans h1 w3) w4
    have e5 : vs.length - n0 + (vs'.length - vs.length) = vs'.length - n0 := by omega
    have e6 : 9 * (vs.length - n0) + 9 * (vs'.length - vs.length) = 9 * (vs'.length - n0) := by omega
    rw [e5, e6] at X'
    obtain ⟨t2, a1, b1⟩ := h9 U' rfl X'
    exact ⟨t2, st _ a1, b1⟩

end GC
end

section
/-! more rows: longs, tables, texts, library members; a store's words -/
section G5
variable {S : Sh} {r : Nat → Nat} {X : Cx} {ex : List ExceptionTableEntry} {cc : ByteArray} {own : String} {ret : Option FieldType} {d : Nat} {Qr : QR} {Qt : QT} {E : (Nat → Prop) → State → Prop} {σ τ : St} {vs : List Nat} {L : List (Nat × Value)} {rest : List Value} {pc : Nat}
theorem g_ldc_w (hF : Fx S r X ex cc own ret d Qr Qt E) {i : Nat} {v : Int32} (hw : Cond.constant own i v ∈ GW) (hd : decode cc pc = .ok (.ldc_w i, 3)) (k : G S r X σ τ vs L (.int v :: rest) (pc + 3)) : G S r X σ τ vs L rest pc := by
  obtain ⟨p, l, e, R, s, m, args, below, meth, c, A, D, cy, Q, nL, n0⟩ := X
  obtain ⟨hx, hb, hml, hown, hret, hlk, hR, hQ, hg, hNW, hK, hA, hE, hEo, hex⟩ := hF
  intro H locs ls hP hD hS hl h1 h2
  exact lv_ldcw hx hb hown (hg _ hw) hd (k H locs ls hP hD hS hl h1 h2)
theorem g_ldc2 (hF : Fx S r X ex cc own ret d Qr Qt E) {i : Nat} {v : Int64} (hw : Cond.constantLong own i v ∈ GW) (hd : decode cc pc = .ok (.ldc2_w i, 3)) (k : G S r X σ τ vs L (.long v :: rest) (pc + 3)) : G S r X σ τ vs L rest pc := by
  obtain ⟨p, l, e, R, s, m, args, below, meth, c, A, D, cy, Q, nL, n0⟩ := X
  obtain ⟨hx, hb, hml, hown, hret, hlk, hR, hQ, hg, hNW, hK, hA, hE, hEo, hex⟩ := hF
  intro H locs ls hP hD hS hl h1 h2
  exact lv_ldc2 hx hb hown (hg _ hw) hd (k H locs ls hP hD hS hl h1 h2)
theorem g_lcmp (hF : Fx S r X ex cc own ret d Qr Qt E) {x y : Int64} (hd : decode cc pc = .ok (.lcmp, 1)) (k : G S r X σ τ vs L (.int (lg_cmp x y) :: rest) (pc + 1)) : G S r X σ τ vs L (.long y :: .long x :: rest) pc := by
  obtain ⟨p, l, e, R, s, m, args, below, meth, c, A, D, cy, Q, nL, n0⟩ := X
  obtain ⟨hx, hb, hml, hown, hret, hlk, hR, hQ, hg, hNW, hK, hA, hE, hEo, hex⟩ := hF
  intro H locs ls hP hD hS hl h1 h2
  exact W.lcmp hx hb hd (k H locs ls hP hD hS hl h1 h2)
theorem g_dup2 (hF : Fx S r X ex cc own ret d Qr Qt E) {va vb : Value} (hd : decode cc pc = .ok (.dup2, 1)) (hva : va.category = 1) (hvb : vb.category = 1) (k : G S r X σ τ vs L (va :: vb :: va :: vb :: rest) (pc + 1)) : G S r X σ τ vs L (va :: vb :: rest) pc := by
  obtain ⟨p, l, e, R, s, m, args, below, meth, c, A, D, cy, Q, nL, n0⟩ := X
  obtain ⟨hx, hb, hml, hown, hret, hlk, hR, hQ, hg, hNW, hK, hA, hE, hEo, hex⟩ := hF
  intro H locs ls hP hD hS hl h1 h2
  exact lv_dup2_11 hx hb hd hva hvb (k H locs ls hP hD hS hl h1 h2)
theorem g_ldcS (hF : Fx S r X ex cc own ret d Qr Qt E) {tx : String} {i q : Nat} (hZ : ∀ A s, E A s → vk_R own i tx q s) (hd : decode cc pc = .ok (.ldc i, 2)) (k : G S r X σ τ vs L (.ref q :: rest) (pc + 2)) : G S r X σ τ vs L rest pc := by
  obtain ⟨p, l, e, R, s, m, args, below, meth, c, A, D, cy, Q, nL, n0⟩ := X
  obtain ⟨hx, hb, hml, hown, hret, hlk, hR, hQ, hg, hNW, hK, hA, hE, hEo, hex⟩ := hF
  intro H locs ls hP hD hS hl h1 h2
  exact va_ldcS hx hb hown (hZ _ _ hE) hd (k H locs ls hP hD hS hl h1 h2)
theorem g_gets (hF : Fx S r X ex cc own ret d Qr Qt E) {C n dd : String} {v : Value} {index : Nat} (hZ : ∀ A s, E A s → va_Z C n dd v A s s.heap) (hw : Cond.fieldLink own index C n dd ∈ GW) (hd : decode cc pc = .ok (.getstatic index, 3)) (k : G S r X σ τ vs L (v :: rest) (pc + 3)) : G S r X σ τ vs L rest pc := by
  obtain ⟨p, l, e, R, s, m, args, below, meth, c, A, D, cy, Q, nL, n0⟩ := X
  obtain ⟨hx, hb, hml, hown, hret, hlk, hR, hQ, hg, hNW, hK, hA, hE, hEo, hex⟩ := hF
  intro H locs ls hP hD hS hl h1 h2
  exact va_gets hx hb (hZ _ _ hE) hS hown (hg _ hw) (fun _ h9 => h9) hd (k H locs ls hP hD hS hl h1 h2)
theorem g_getsN (hF : Fx S r X ex cc own ret d Qr Qt E) {C n dd host : String} {v : Value} {index : Nat} (hZ : ∀ A s, E A s → va_Z C n dd v A s s.heap) (hw : Cond.fieldLinkNest own index C n dd host ∈ NW) (hd : decode cc pc = .ok (.getstatic index, 3)) (k : G S r X σ τ vs L (v :: rest) (pc + 3)) : G S r X σ τ vs L rest pc := by
  obtain ⟨p, l, e, R, s, m, args, below, meth, c, A, D, cy, Q, nL, n0⟩ := X
  obtain ⟨hx, hb, hml, hown, hret, hlk, hR, hQ, hg, hNW, hK, hA, hE, hEo, hex⟩ := hF
  intro H locs ls hP hD hS hl h1 h2
  exact va_getsN hx hb (hZ _ _ hE) hS hown (va_Nw.use rfl (hNW.1 _ hw)) (fun _ h9 => h9) hd (k H locs ls hP hD hS hl h1 h2)
theorem g_ti (hF : Fx S r X ex cc own ret d Qr Qt E) {t N : Nat} {f : Nat → Int32} {i : Int32} (hT : ∀ A s, E A s → va_T .int t N (fun j => .int (f j)) A s s.heap) (hin : vp_in i N) (hd : decode cc pc = .ok (.iaload, 1)) (k : G S r X σ τ vs L (.int (f i.toNatClampNeg) :: rest) (pc + 1)) : G S r X σ τ vs L (.int i :: .ref t :: rest) pc := by
  obtain ⟨p, l, e, R, s, m, args, below, meth, c, A, D, cy, Q, nL, n0⟩ := X
  obtain ⟨hx, hb, hml, hown, hret, hlk, hR, hQ, hg, hNW, hK, hA, hE, hEo, hex⟩ := hF
  intro H locs ls hP hD hS hl h1 h2
  exact va_ti hx hb (hT _ _ hE) hS hin rfl hd (k H locs ls hP hD hS hl h1 h2)
theorem g_tb (hF : Fx S r X ex cc own ret d Qr Qt E) {t N : Nat} {f : Nat → Int32} {i : Int32} (hT : ∀ A s, E A s → va_T .byte t N (fun j => .int (f j)) A s s.heap) (hin : vp_in i N) (hd : decode cc pc = .ok (.baload, 1)) (k : G S r X σ τ vs L (.int (f i.toNatClampNeg) :: rest) (pc + 1)) : G S r X σ τ vs L (.int i :: .ref t :: rest) pc := by
  obtain ⟨p, l, e, R, s, m, args, below, meth, c, A, D, cy, Q, nL, n0⟩ := X
  obtain ⟨hx, hb, hml, hown, hret, hlk, hR, hQ, hg, hNW, hK, hA, hE, hEo, hex⟩ := hF
  intro H locs ls hP hD hS hl h1 h2
  exact va_tb hx hb (hT _ _ hE) hS hin rfl hd (k H locs ls hP hD hS hl h1 h2)
theorem g_tlen (hF : Fx S r X ex cc own ret d Qr Qt E) {t N : Nat} {f : Nat → Value} {ty : FieldType} {v : Int32} (hT : ∀ A s, E A s → va_T ty t N f A s s.heap) (hv : Int32.ofNat N = v) (hd : decode cc pc = .ok (.arraylength, 1)) (k : G S r X σ τ vs L (.int v :: rest) (pc + 1)) : G S r X σ τ vs L (.ref t :: rest) pc := by
  obtain ⟨p, l, e, R, s, m, args, below, meth, c, A, D, cy, Q, nL, n0⟩ := X
  obtain ⟨hx, hb, hml, hown, hret, hlk, hR, hQ, hg, hNW, hK, hA, hE, hEo, hex⟩ := hF
  intro H locs ls hP hD hS hl h1 h2
  exact va_tlen hx hb (hT _ _ hE) hS hv hd (k H locs ls hP hD hS hl h1 h2)
theorem g_envf (hF : Fx S r X ex cc own ret d Qr Qt E) {C n dd : String} {v : Value} {index q : Nat} (hZ : ∀ A s, E A s → va_OF C n dd v q A s s.heap) (hw : Cond.fieldLink own index C n dd ∈ GW) (hd : decode cc pc = .ok (.getfield index, 3)) (k : G S r X σ τ vs L (v :: rest) (pc + 3)) : G S r X σ τ vs L (.ref q :: rest) pc := by
  obtain ⟨p, l, e, R, s, m, args, below, meth, c, A, D, cy, Q, nL, n0⟩ := X
  obtain ⟨hx, hb, hml, hown, hret, hlk, hR, hQ, hg, hNW, hK, hA, hE, hEo, hex⟩ := hF
  intro H locs ls hP hD hS hl h1 h2
  exact vk_getf hx hb (hZ _ _ hE) hS hown (hg _ hw) (fun _ h9 => h9) hd (k H locs ls hP hD hS hl h1 h2)
theorem g_getsq (hF : Fx S r X ex cc own ret d Qr Qt E) {C n dd : String} {index : Nat} (hZ : ∀ A s, E A s → va_Zq C n dd A s s.heap) (hw : Cond.fieldLink own index C n dd ∈ GW) (hd : decode cc pc = .ok (.getstatic index, 3)) (k : ∀ v3 : Value, v3.category = 1 → G S r X σ τ vs L (v3 :: rest) (pc + 3)) : G S r X σ τ vs L rest pc := by
  obtain ⟨p, l, e, R, s, m, args, below, meth, c, A, D, cy, Q, nL, n0⟩ := X
  obtain ⟨hx, hb, hml, hown, hret, hlk, hR, hQ, hg, hNW, hK, hA, hE, hEo, hex⟩ := hF
  intro H locs ls hP hD hS hl h1 h2
  rcases hZ _ _ hE with hz | ⟨t, hz⟩
  · exact va_gets hx hb hz hS hown (hg _ hw) (fun _ h9 => h9) hd (k .null rfl H locs ls hP hD hS hl h1 h2)
  · exact va_gets hx hb hz hS hown (hg _ hw) (fun _ h9 => h9) hd (k (.ref t) rfl H locs ls hP hD hS hl h1 h2)
theorem g_hc {n0 n : Nat} {R : Room} (hR : R = rmD d n0) (h1 : n0 ≤ n) (h2 : n ≤ CAP) : n - n0 ≤ R.cells ∧ 9 * (n - n0) ≤ R.slots := by
  subst hR
  refine ⟨?_, ?_⟩
  · show _ ≤ CAP - n0; omega
  · show _ ≤ 9 * (CAP - n0); omega
theorem g_hf9 {n0 : Nat} {R : Room} (hR : R = rmD d n0) (h : 1 ≤ d) : 1 ≤ R.frames ∧ 40 * d ≤ R.locals := by
  subst hR
  exact ⟨h, Nat.le_refl _⟩
theorem g_hf {n0 : Nat} {R : Room} (hR : R = rmD d n0) (h : 1 ≤ d) : 1 ≤ R.frames ∧ 40 ≤ R.locals := by
  subst hR
  exact ⟨h, by show 40 ≤ 40 * d; omega⟩
theorem g_mmin (hF : Fx S r X ex cc own ret d Qr Qt E) {index : Nat} {x y : Int32} (hd1 : 1 ≤ d) (hw : Cond.methodLink own index Lib.Math.min.name ∈ GW) (hs : Cond.static Lib.Math.min.name ∈ GW) (hi : Cond.initialized "java/lang/Math" ∈ GW) (hc : Cond.code Lib.Math.min.name Lib.Math.min.code 2 (some .int) ∈ GW) (hcat : (rest.map fun v => v.category).sum ≤ 8) (hd : decode cc pc = .ok (.invokestatic index, 3)) (k : G S r X σ τ vs L (.int (if y < x then y else x) :: rest) (pc + 3)) : G S r X σ τ vs L (.int y :: .int x :: rest) pc := by
  obtain ⟨p, l, e, R, s, m, args, below, meth, c, A, D, cy, Q, nL, n0⟩ := X
  obtain ⟨hx, hb, hml, hown, hret, hlk, hR, hQ, hg, hNW, hK, hA, hE, hEo, hex⟩ := hF
  intro H locs ls hP hD hS hl h1 h2
  exact va_mmin hx hb (hml.trans hl.1.symm) hown (hg _ hw) (hg _ hs) (hg _ hi) (hg _ hc) (g_hf hR hd1).1 (by have := (g_hf hR hd1).2; omega) (g_hc hR h1 h2).1 (g_hc hR h1 h2).2 hd (k H locs ls hP hD hS hl h1 h2)
theorem g_mmax (hF : Fx S r X ex cc own ret d Qr Qt E) {index : Nat} {x y : Int32} (hd1 : 1 ≤ d) (hw : Cond.methodLink own index Lib.Math.max.name ∈ GW) (hs : Cond.static Lib.Math.max.name ∈ GW) (hi : Cond.initialized "java/lang/Math" ∈ GW) (hc : Cond.code Lib.Math.max.name Lib.Math.max.code 2 (some .int) ∈ GW) (hcat : (rest.map fun v => v.category).sum ≤ 8) (hd : decode cc pc = .ok (.invokestatic index, 3)) (k : G S r X σ τ vs L (.int (if x < y then y else x) :: rest) (pc + 3)) : G S r X σ τ vs L (.int y :: .int x :: rest) pc := by
  obtain ⟨p, l, e, R, s, m, args, below, meth, c, A, D, cy, Q, nL, n0⟩ := X
  obtain ⟨hx, hb, hml, hown, hret, hlk, hR, hQ, hg, hNW, hK, hA, hE, hEo, hex⟩ := hF
  intro H locs ls hP hD hS hl h1 h2
  exact va_mmax hx hb (hml.trans hl.1.symm) hown (hg _ hw) (hg _ hs) (hg _ hi) (hg _ hc) (g_hf hR hd1).1 (by have := (g_hf hR hd1).2; omega) (g_hc hR h1 h2).1 (g_hc hR h1 h2).2 hd (k H locs ls hP hD hS hl h1 h2)
theorem g_mmin_long (hF : Fx S r X ex cc own ret d Qr Qt E) {index : Nat} {x y : Int64} (hd1 : 1 ≤ d) (hw : Cond.methodLink own index Lib.MathLoose.min_long.x ∈ GW) (hs : Cond.static Lib.MathLoose.min_long.x ∈ GW) (hi : Cond.initialized "java/lang/Math" ∈ GW) (hc : Cond.code Lib.MathLoose.min_long.x Lib.MathLoose.min_long.code 4 (some .long) ∈ GW) (hcat : (rest.map fun v => v.category).sum ≤ 8) (hd : decode cc pc = .ok (.invokestatic index, 3)) (k : G S r X σ τ vs L (.long (if y < x then y else x) :: rest) (pc + 3)) : G S r X σ τ vs L (.long y :: .long x :: rest) pc := by
  obtain ⟨p, l, e, R, s, m, args, below, meth, c, A, D, cy, Q, nL, n0⟩ := X
  obtain ⟨hx, hb, hml, hown, hret, hlk, hR, hQ, hg, hNW, hK, hA, hE, hEo, hex⟩ := hF
  intro H locs ls hP hD hS hl h1 h2
  exact va_mmin_long hx hb (hml.trans hl.1.symm) hown (hg _ hw) (hg _ hs) (hg _ hi) (hg _ hc) (g_hf hR hd1).1 (by have := (g_hf hR hd1).2; omega) (g_hc hR h1 h2).1 (g_hc hR h1 h2).2 hd (k H locs ls hP hD hS hl h1 h2)
theorem g_mmax_long (hF : Fx S r X ex cc own ret d Qr Qt E) {index : Nat} {x y : Int64} (hd1 : 1 ≤ d) (hw : Cond.methodLink own index Lib.MathLoose.max_long.x ∈ GW) (hs : Cond.static Lib.MathLoose.max_long.x ∈ GW) (hi : Cond.initialized "java/lang/Math" ∈ GW) (hc : Cond.code Lib.MathLoose.max_long.x Lib.MathLoose.max_long.code 4 (some .long) ∈ GW) (hcat : (rest.map fun v => v.category).sum ≤ 8) (hd : decode cc pc = .ok (.invokestatic index, 3)) (k : G S r X σ τ vs L (.long (if y < x then x else y) :: rest) (pc + 3)) : G S r X σ τ vs L (.long y :: .long x :: rest) pc := by
  obtain ⟨p, l, e, R, s, m, args, below, meth, c, A, D, cy, Q, nL, n0⟩ := X
  obtain ⟨hx, hb, hml, hown, hret, hlk, hR, hQ, hg, hNW, hK, hA, hE, hEo, hex⟩ := hF
  intro H locs ls hP hD hS hl h1 h2
  exact va_mmax_long hx hb (hml.trans hl.1.symm) hown (hg _ hw) (hg _ hs) (hg _ hi) (hg _ hc) (g_hf hR hd1).1 (by have := (g_hf hR hd1).2; omega) (g_hc hR h1 h2).1 (g_hc hR h1 h2).2 hd (k H locs ls hP hD hS hl h1 h2)
theorem g_mabs_long (hF : Fx S r X ex cc own ret d Qr Qt E) {index : Nat} {x : Int64} (hd1 : 1 ≤ d) (hw : Cond.methodLink own index Lib.MathLoose.abs_long.x ∈ GW) (hs : Cond.static Lib.MathLoose.abs_long.x ∈ GW) (hi : Cond.initialized "java/lang/Math" ∈ GW) (hc : Cond.code Lib.MathLoose.abs_long.x Lib.MathLoose.abs_long.code 2 (some .long) ∈ GW) (hcat : (rest.map fun v => v.category).sum ≤ 8) (hd : decode cc pc = .ok (.invokestatic index, 3)) (k : G S r X σ τ vs L (.long (if 0 < x then x else -x) :: rest) (pc + 3)) : G S r X σ τ vs L (.long x :: rest) pc := by
  obtain ⟨p, l, e, R, s, m, args, below, meth, c, A, D, cy, Q, nL, n0⟩ := X
  obtain ⟨hx, hb, hml, hown, hret, hlk, hR, hQ, hg, hNW, hK, hA, hE, hEo, hex⟩ := hF
  intro H locs ls hP hD hS hl h1 h2
  exact va_mabs_long hx hb (hml.trans hl.1.symm) hown (hg _ hw) (hg _ hs) (hg _ hi) (hg _ hc) (g_hf hR hd1).1 (by have := (g_hf hR hd1).2; omega) (g_hc hR h1 h2).1 (g_hc hR h1 h2).2 hd (k H locs ls hP hD hS hl h1 h2)
theorem g_copyb (hF : Fx S r X ex cc own ret d Qr Qt E) {index j0 j1 n0 n1 : Nat} {sp dp n : Int32} (hd1 : 1 ≤ d) (hw : Cond.methodLink own index arraycopyName ∈ GW) (hs : Cond.static arraycopyName ∈ GW) (hnat : Cond.native arraycopyName ∈ GW) (hi : Cond.initialized "java/lang/System" ∈ GW) (ho0 : ArOK S j0 0 n0) (ho1 : ArOK S j1 0 n1)
    (h1 : 0 ≤ sp.toInt) (h2 : 0 ≤ dp.toInt) (h3 : 0 ≤ n.toInt) (h4 : sp.toNatClampNeg + n.toNatClampNeg ≤ n0) (h5 : dp.toNatClampNeg + n.toNatClampNeg ≤ n1) (hfit : ∀ i, i < n.toNatClampNeg → fits .byte (.int (σ j0 (sp.toNatClampNeg + i))) = true) (hloc : (rest.map fun v => v.category).sum + (nativeFrameWords "java/lang/System" "arraycopy" 5 + 11) ≤ 40 * d) (hd : decode cc pc = .ok (.invokestatic index, 3))
    (k : ∀ f : Nat → Int32, G S r X (upF σ j1 f) τ vs L rest (pc + 3)) : G S r X σ τ vs L (.int n :: .int dp :: .ref (r j1) :: .int sp :: .ref (r j0) :: rest) pc := by
  have g1 : ∀ {x : Int32}, 0 ≤ x.toInt → ¬ x < 0 := fun h q => by
    have q := i_lt.mp q
    have e0 : (0 : Int32).toInt = 0 := by decide
    omega
  obtain ⟨p, l, e, R, s, m, args, below, meth, c, A, D, cy, Q, nL, n9⟩ := X
  obtain ⟨hx, hb, hml, hown, hret, hlk, hR, hQ, hg, hNW, hK, hA, hE, hEo, hex⟩ := hF
  intro H locs ls hP hD hS hl h8 h9
  refine va_copyi hx hb (hml.trans hl.1.symm) hown (hg _ hw) (hg _ hnat) (hg _ hs) (hg _ hi) hK hP hD hS j0 j1 0 0 ((wld_at ho0.2.1).trans (by rw [cellE_arr ho0.2.2 ho0.1])) ((wld_at ho1.2.1).trans (by rw [cellE_arr ho1.2.2 ho1.1])) rfl rfl rfl (g1 h1) (g1 h2) (g1 h3) h4 h5 hfit (g_hf9 hR hd1).1 (Nat.le_trans hloc (g_hf9 hR hd1).2) hd (fun H locs hP hD hS => ?_)
  have e9 : (wld S cy r σ τ vs).set j1 (r j1, .inl (cy 0, n1, .inl (va_cpy (σ j0) (σ j1) sp.toNatClampNeg dp.toNatClampNeg n.toNatClampNeg))) = wld S cy r (upF σ j1 (va_cpy (σ j0) (σ j1) sp.toNatClampNeg dp.toNatClampNeg n.toNatClampNeg)) τ vs := by
    have e8 := cellE_arr (cy := cy) (r := r) (σ := upF σ j1 (va_cpy (σ j0) (σ j1) sp.toNatClampNeg dp.toNatClampNeg n.toNatClampNeg)) ho1.2.2 ho1.1
    rw [upF_same] at e8
    rw [← e8]
    exact wld_set ho1.2.1
  rw [e9] at hP hD
  exact k _ H locs ls hP hD hS hl h8 h9
theorem copy_le {x n : Int32} {N : Nat} (h1 : 0 ≤ x.toInt) (h2 : 0 ≤ n.toInt) (h3 : x.toInt + n.toInt ≤ N) : x.toNatClampNeg + n.toNatClampNeg ≤ N := by
  have e1 : ((x.toNatClampNeg : Nat) : Int) = x.toInt := Int.toNat_of_nonneg h1
  have e2 : ((n.toNatClampNeg : Nat) : Int) = n.toInt := Int.toNat_of_nonneg h2
  omega
theorem g_osw {x : Int32} {a o dd : Int} {r : List (Int × Int)} (k : Int32) (hk : k.toInt = a) (h : ¬ x.toInt = a) : Op.lookupswitch.offset ((a, o) :: r) dd x.toInt = Op.lookupswitch.offset r dd x.toInt := lv_osw (fun e => h (by rw [e]; exact hk)) hk
theorem g_sub {L' : List (Nat × Value)} {st : List Value} (is : List Nat) (hi : lv_pick L is = L') (k : G S r X σ τ vs L' st pc) : G S r X σ τ vs L st pc := by
  obtain ⟨p, l, e, R, s, m, args, below, meth, c, A, D, cy, Q, nL, n0⟩ := X
  intro H locs ls hP hD hS hl h1 h2
  exact k H locs ls hP hD hS (lv_sub hl is hi) h1 h2
end G5
/-! the class's side: no Values, nothing thrown -/
def Z0 : St := fun _ _ => 0
def QF : QT := fun _ _ _ => False
def QI (P : Int32 → St → Prop) : QR := fun v σ' τ' vs' => τ' = Z0 ∧ vs' = [] ∧ ∃ x, v = some (.int x) ∧ P x σ'
def QL (P : Int64 → St → Prop) : QR := fun v σ' τ' vs' => τ' = Z0 ∧ vs' = [] ∧ ∃ x, v = some (.long x) ∧ P x σ'
def QV (P : St → Prop) : QR := fun v σ' τ' vs' => τ' = Z0 ∧ vs' = [] ∧ v = none ∧ P σ'
def QA (r : Nat → Nat) (P : Nat → St → Prop) : QR := fun v σ' τ' vs' => τ' = Z0 ∧ vs' = [] ∧ ∃ q, v = some (.ref (r q)) ∧ P q σ'
section G6
variable {S : Sh} {r : Nat → Nat} {X : Cx} {L : List (Nat × Value)} {rest : List Value} {pc : Nat} {σ : St}
theorem k_i {P : Int32 → St → Prop} (k : ∀ x σ', P x σ' → G S r X σ' Z0 [] L (.int x :: rest) pc) : ∀ v σ' τ' vs', QI P v σ' τ' vs' → G S r X σ' τ' vs' L (v.toList ++ rest) pc := by
  rintro v σ' τ' vs' ⟨rfl, rfl, x, rfl, h⟩
  exact k x σ' h
theorem k_v {P : St → Prop} (k : ∀ σ', P σ' → G S r X σ' Z0 [] L rest pc) : ∀ v σ' τ' vs', QV P v σ' τ' vs' → G S r X σ' τ' vs' L (v.toList ++ rest) pc := by
  rintro v σ' τ' vs' ⟨rfl, rfl, rfl, h⟩
  exact k σ' h
theorem k_a {P : Nat → St → Prop} (k : ∀ q σ', P q σ' → G S r X σ' Z0 [] L (.ref (r q) :: rest) pc) : ∀ v σ' τ' vs', QA r P v σ' τ' vs' → G S r X σ' τ' vs' L (v.toList ++ rest) pc := by
  rintro v σ' τ' vs' ⟨rfl, rfl, q, rfl, h⟩
  exact k q σ' h
theorem k_ro (k : ∀ x, G S r X σ Z0 [] L (.int x :: rest) pc) : ∀ v σ' τ' vs', QI (fun _ σ9 => σ9 = σ) v σ' τ' vs' → G S r X σ' τ' vs' L (v.toList ++ rest) pc := by
  rintro v σ' τ' vs' ⟨rfl, rfl, x, rfl, rfl⟩
  exact k x
theorem k_rol (k : ∀ x, G S r X σ Z0 [] L (.long x :: rest) pc) : ∀ v σ' τ' vs', QL (fun _ σ9 => σ9 = σ) v σ' τ' vs' → G S r X σ' τ' vs' L (v.toList ++ rest) pc := by
  rintro v σ' τ' vs' ⟨rfl, rfl, x, rfl, rfl⟩
  exact k x
theorem k_rop {P : Int32 → St → Prop} (k : ∀ x, P x σ → G S r X σ Z0 [] L (.int x :: rest) pc) : ∀ v σ' τ' vs', QI (fun v9 σ9 => P v9 σ9 ∧ σ9 = σ) v σ' τ' vs' → G S r X σ' τ' vs' L (v.toList ++ rest) pc := by
  rintro v σ' τ' vs' ⟨rfl, rfl, x, rfl, h, rfl⟩
  exact k x h
theorem k_roz (k : ∀ x : Int32, x = 0 ∨ x = 1 → G S r X σ Z0 [] L (.int x :: rest) pc) : ∀ v σ' τ' vs', QI (fun v9 σ9 => (v9 = 0 ∨ v9 = 1) ∧ σ9 = σ) v σ' τ' vs' → G S r X σ' τ' vs' L (v.toList ++ rest) pc := by
  rintro v σ' τ' vs' ⟨rfl, rfl, x, rfl, h, rfl⟩
  exact k x h
end G6
theorem k_nz {v : Int32} (h : v = 0 ∨ v = 1) : narrow .boolean (.int v) = .int v := by
  rcases h with rfl | rfl <;> rfl
/-! numbers -/
theorem s_rng (x : Int32) : -2147483648 ≤ x.toInt ∧ x.toInt < 2147483648 := ⟨Int32.le_toInt x, Int32.toInt_lt x⟩
theorem s_add (x y : Int32) : ∃ k : Int, (x + y).toInt = x.toInt + y.toInt + 4294967296 * k := by
  have h := Int32.toInt_add x y
  rw [Int.bmod_def] at h
  have e : ((2 ^ 32 : Nat) : Int) = 4294967296 := by decide
  rw [e] at h
  split at h
  · exact ⟨-((x.toInt + y.toInt) / 4294967296), by omega⟩
  · exact ⟨-((x.toInt + y.toInt) / 4294967296) - 1, by omega⟩
theorem s_sub (x y : Int32) : ∃ k : Int, (x - y).toInt = x.toInt - y.toInt + 4294967296 * k := by
  have h := Int32.toInt_sub x y
  rw [Int.bmod_def] at h
  have e : ((2 ^ 32 : Nat) : Int) = 4294967296 := by decide
  rw [e] at h
  split at h
  · exact ⟨-((x.toInt - y.toInt) / 4294967296), by omega⟩
  · exact ⟨-((x.toInt - y.toInt) / 4294967296) - 1, by omega⟩
theorem s_in {i : Int32} {n : Nat} (hn : n < 2 ^ 31) (h0 : 0 ≤ i.toInt) (h1 : i.toInt < n) : vp_in i n := by
  obtain ⟨j, hj, e⟩ := nI_of (x := i) (fun q => by
    have q1 := i_lt.mp q
    have e0 : (0 : Int32).toInt = 0 := by decide
    omega)
  subst e
  rw [nI_toInt hj] at h1
  exact vp_in_nI (by omega) hn
theorem s_out {i : Int32} {n : Nat} (hn : n < 2 ^ 31) (h : i.toInt < 0 ∨ (n : Int) ≤ i.toInt) : ¬ vp_in i n := fun h9 => by
  obtain ⟨j, hj, e⟩ := vp_in_of h9 hn
  rw [e, nI_toInt (by omega)] at h
  omega
theorem s_shr0 (x : Int32) : x >>> ((0 : Int32) &&& 31) = x := by
  have e : ((0 : Int32) &&& 31) = 0 := by decide
  rw [e]
  exact Int32.shiftRight_zero
theorem s_ltn {i : Int32} {n : Nat} (h : vp_in i n) : i.toNatClampNeg < n := Nat.not_le.mp fun q => h (Or.inr q)
theorem s_min {x y v : Int32} (h : v = if y < x then y else x) : v.toInt ≤ x.toInt ∧ v.toInt ≤ y.toInt ∧ (v.toInt = x.toInt ∨ v.toInt = y.toInt) := by
  subst h
  split
  · rename_i q
    have := i_lt.mp q
    omega
  · rename_i q
    have : ¬ y.toInt < x.toInt := fun z => q (i_lt.mpr z)
    omega
theorem s_max {x y v : Int32} (h : v = if x < y then y else x) : x.toInt ≤ v.toInt ∧ y.toInt ≤ v.toInt ∧ (v.toInt = x.toInt ∨ v.toInt = y.toInt) := by
  subst h
  split
  · rename_i q
    have := i_lt.mp q
    omega
  · rename_i q
    have : ¬ x.toInt < y.toInt := fun z => q (i_lt.mpr z)
    omega
def lup (m n : Int64) : Nat := (m.toInt - n.toInt).toNat
def ldn (n : Int64) : Nat := n.toInt.toNat
theorem lup_lt {n m : Int64} (h : (lg_cmp n m).toInt < 0) : lup m (n + 1) < lup m n := by
  have h1 : n < m := (lg_cmp_lt n m).mp (i_lt.mpr (by have e0 : (0 : Int32).toInt = 0 := by decide
                                                      omega))
  have h2 : n.toInt < m.toInt := Int64.lt_iff_toInt_lt.mp h1
  have h3 := Int64.toInt_lt m
  have h4 := Int64.le_toInt n
  have e1 : (1 : Int64).toInt = 1 := by decide
  have e : (n + 1).toInt = n.toInt + 1 := by
    rw [Int64.toInt_add, e1]
    rw [Int.bmod_eq_of_le] <;> omega
  unfold lup
  rw [e]
  omega
theorem lpos_of {n : Int64} (h : 0 < (lg_cmp n 0).toInt) : 0 < n.toInt := by
  have h1 : (0 : Int64) < n := (lg_cmp_gt n 0).mp (i_lt.mpr (by have e0 : (0 : Int32).toInt = 0 := by decide
                                                                omega))
  have h2 := Int64.lt_iff_toInt_lt.mp h1
  have e0 : (0 : Int64).toInt = 0 := by decide
  omega
theorem lne_of {n : Int64} (h : 0 < (lg_cmp n 0).toInt) : ¬ n = 0 := fun e => by
  have h1 := lpos_of h
  rw [e] at h1
  revert h1
  decide
theorem ldn_lt {n : Int64} (h : 0 < (lg_cmp n 0).toInt) : ldn (n / 10) < ldn n := by
  have h1 := lpos_of h
  have h2 := Int64.toInt_lt n
  have e1 : (10 : Int64).toInt = 10 := by decide
  have e : (n / 10).toInt = n.toInt / 10 := by
    rw [Int64.toInt_div, e1, Int.tdiv_eq_ediv_of_nonneg (by omega)]
    rw [Int.bmod_eq_of_le] <;> omega
  unfold ldn
  rw [e]
  omega
def dnm (x : Int32) : Nat := (x.toInt + 2147483648).toNat
def upm (x : Int32) : Nat := (2147483647 - x.toInt).toNat
theorem dnm_lt {x : Int32} {b : Int} (h : b < x.toInt) (hb : -2147483648 ≤ b) : dnm (x + (-1)) < dnm x := by
  have e1 : (-1 : Int32).toInt = -1 := by decide
  have hg := s_rng x
  have hh := s_rng (x + (-1))
  obtain ⟨k, e⟩ := s_add x (-1)
  rw [e1] at e
  unfold dnm
  omega
theorem dnm_le {x : Int32} {b : Int} (h : b ≤ x.toInt) (hb : -2147483648 < b) : dnm (x + (-1)) < dnm x := dnm_lt (b := b - 1) (by omega) (by omega)
theorem upm_lt {x : Int32} {b : Int} (h : x.toInt < b) (hb : b < 2147483648) : upm (x + 1) < upm x := by
  have e1 : (1 : Int32).toInt = 1 := by decide
  have hg := s_rng x
  have hh := s_rng (x + 1)
  obtain ⟨k, e⟩ := s_add x 1
  rw [e1] at e
  unfold upm
  omega
end

