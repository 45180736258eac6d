/-! facts of the start that stay: a String constant, statics of the JDK -/
def EnvOK (E : (Nat → Prop) → State → Prop) : Prop := ∀ (A B : Nat → Prop) (s U : State), s.WarmedH U.vm → (∀ a : Nat, a < s.heap.size → ¬ A a → U.heap[a]? = s.heap[a]?) → (∀ q, B q → A q) → E A s → E B U
def kPreE (D : va_G) (cy : Nat → ClassId) (sz : Nat) (ws : va_W) (E : (Nat → Prop) → State → Prop) : State → Prop := fun U => kPre D cy sz ws U ∧ E (va_A ws sz) U
theorem kPreE.blind {D : va_G} {cy : Nat → ClassId} {sz : Nat} {ws : va_W} {av : List Value} {E : (Nat → Prop) → State → Prop} (hok : EnvOK E) : FrameBlind (va_Pc av (kPreE D cy sz ws E)) := fun a U g mk q => by
  obtain ⟨q0, q1, q2⟩ := q
  have h := kPre.blind (av := av) a U g mk ⟨q0, q1⟩
  exact ⟨q0, h.2, hok _ _ U (U.calling g mk a) (State.WarmedH.refl U) (fun _ _ _ => rfl) (fun _ h => h) q2⟩
theorem k_ofWE {l : Launch} {y : MethodName} {cc : ByteArray} {maxL : Nat} {ret : Option FieldType} {rm : Room} {av : List Value} {D : va_G} {cy : Nat → ClassId} {sz : Nat} {ws : va_W} {E : (Nat → Prop) → State → Prop} {Qc : (Nat → Prop) → Array Value → State → Outcome → State → Prop} {mc ms : Nat}
    (hy : plainName y.cls = true) (hn : (lg_sl av).length ≤ maxL)
    (body : ∀ (p : Program) (e : Env) (s : State) (m : MethodId) (below : List Frame) (meth : Method) (c : Code) (A : Nat → Prop) (ls : Array Slot), p.tables.exec = Jvm.exec → c.code = cc → meth.sig.returnType = ret → c.maxLocals = maxL → s.vm.findClass y.cls = some m.cls → meth.locks = false → meth.name = y.name →
      (∀ w ∈ GW, w.before av.toArray s = true) → nwOK s → va_K D vwCl (kTy cy) s → va_P D vwCl ws s.heap → va_D A ws → (∀ q, s.heap.size ≤ q → A q) → va_S A s.heap s.heap [] → lv_has ls maxL (lv_args 0 av) → E A s →
      W p l e rm s m av.toArray below meth c s.heap [] 0 0 (MQ below (Qc A) av.toArray s mc ms A) (F0 m 0 ls [])) :
    Met l y (Cond.code y cc maxL ret :: GW) rm (va_Pc av (kPreE D cy sz ws E)) (Qc (va_A ws sz)) mc ms (va_A ws sz) := by
  refine Met.ofW (cc := cc) (maxL := maxL) (ret := ret) hy rfl ?_
  intro p e s m args below meth c s₁ B hml hv
  obtain ⟨rfl, ⟨hsz, hNW, hP, hK, hD0⟩, hE⟩ := hv
  subst hsz
  rw [lg_entry_eq]
  exact body p e s m below meth c _ _ B.exec B.bytes B.returns hml (findClass_of_methodNamed B.named) B.notSynchronized (name_of_methodNamed B.named B.method).1
    (fun w h => atoms_spec B.pre w (List.mem_cons_of_mem _ h)) hNW hK hP hD0.self (fun q h => Or.inr h) va_S.rf (lv_entry av hn) hE
section KE
variable {s : State} {H : Heap} {locs : List Loc} {D : va_G} {cy : Nat → ClassId} {A : Nat → Prop} {ws : va_W}
theorem k_preSE {As : List Value} {wc : va_W} {E : (Nat → Prop) → State → Prop} (hok : EnvOK E) (hS : va_S A s.heap H locs) (hA : ∀ q, s.heap.size ≤ q → A q) (hE : E A s) (hP : va_P D vwCl ws H) (hD : va_D A ws) (hK : va_K D vwCl (kTy cy) s) (hN : nwOK s) (is : List Nat) (hn : va_nd is = true) (hC : is.map (fun i => ws[i]?) = wc.map some) : PreS s H (va_Pc As (kPreE D cy H.size wc E)) As :=
  ⟨kPreE.blind hok, fun U hU hW => ⟨rfl, ((k_preS (As := As) hP hD hK hN is hn hC).2 U hU hW).2, hok A _ s U hW (fun a h1 h2 => by rw [hU]; exact hS.2.1 a h1 h2) (fun q h => va_free (wc := wc) hD hS hA is hC q h) hE⟩⟩
theorem k_preVE {C : String} {b : Nat} {As : List Value} {wc : va_W} {E : (Nat → Prop) → State → Prop} (hok : EnvOK E) (hS : va_S A s.heap H locs) (hA : ∀ q, s.heap.size ≤ q → A q) (hE : E A s) (hP : va_P D vwCl ws H) (hD : va_D A ws) (hK : va_K D vwCl (kTy cy) s) (hN : nwOK s) (is : List Nat) (hn : va_nd is = true) (hC : is.map (fun i => ws[i]?) = wc.map some)
    (hr : ∃ cell : Cell, H[b]? = some cell ∧ cell.vm.isStatics = false ∧ s.vm.findClass C = some cell.cls) : PreV s H C b (va_Pc (.ref b :: As) (kPreE D cy H.size wc E)) As :=
  ⟨kPreE.blind hok, hr, (k_preSE (As := .ref b :: As) hok hS hA hE hP hD hK hN is hn hC).2⟩
theorem k_recvO {C : String} {a : Nat} (h : va_O C a A s s.heap) (hS : va_S A s.heap H locs) : ∃ cell : Cell, H[a]? = some cell ∧ cell.vm.isStatics = false ∧ s.vm.findClass C = some cell.cls := by
  obtain ⟨cell, h1, h2, h3, -⟩ := h.kept hS.2.1
  exact ⟨cell, h1, h2, h3⟩
end KE
def libT : String := "get put print stop "
def libB (j : Nat) : Int32 := ([103, 101, 116, 32, 112, 117, 116, 32, 112, 114, 105, 110, 116, 32, 115, 116, 111, 112, 32] : List Int32).getD j 0
def sEnv (sa sv : Nat) (A : Nat → Prop) (U : State) : Prop :=
  vk_R "LinkedUnits$Store" 71 libT sa U ∧ va_O "java/lang/String" sa A U U.heap ∧ va_OF "java/lang/String" "coder" "B" (.int 0) sa A U U.heap ∧ va_OF "java/lang/String" "value" "[B" (.ref sv) sa A U U.heap ∧ va_T .byte sv 19 (fun j => .int (libB j)) A U U.heap ∧ va_Z "java/lang/String" "COMPACT_STRINGS" "Z" (.int 1) A U U.heap ∧ va_Zq "jdk/internal/util/Preconditions" "SIOOBE_FORMATTER" "Ljava/util/function/BiFunction;" A U U.heap
theorem sEnv_ok (sa sv : Nat) : EnvOK (sEnv sa sv) := by
  intro A B s U hW hq hAB h
  obtain ⟨h1, h2, h3, h4, h5, h6, h7⟩ := h
  exact ⟨vk_R.warm hW h1, (va_O.moved hW.alike (h2.kept hq)).narrow hAB, (va_OF.moved hW.alike (h3.kept hq)).narrow hAB, (va_OF.moved hW.alike (h4.kept hq)).narrow hAB, (va_T.moved hW.alike (h5.kept hq)).narrow hAB, (va_Z.moved hW.alike (h6.kept hq)).narrow hAB, (va_Zq.moved hW.alike (h7.kept hq)).narrow hAB⟩
