/-! one judgement on a whole world: cells by number, contents in a store; a pool of Values beside them -/
abbrev St : Type := Nat → Nat → Int32
def upF (σ : St) (p : Nat) (f : Nat → Int32) : St := fun j => if j = p then f else σ j
def upC (σ : St) (p k : Nat) (v : Int32) : St := upF σ p (fun j => if j = k then v else σ p j)
theorem upF_same {σ : St} {p : Nat} {f : Nat → Int32} : upF σ p f p = f := if_pos rfl
theorem upF_ne {σ : St} {p j : Nat} {f : Nat → Int32} (h : j ≠ p) : upF σ p f j = σ j := if_neg h
theorem upC_same {σ : St} {p k : Nat} {v : Int32} : upC σ p k v p k = v := by
  show (if p = p then (fun j => if j = k then v else σ p j) else σ p) k = v
  rw [if_pos rfl]
  exact if_pos rfl
theorem upC_ne {σ : St} {p k j : Nat} {v : Int32} (h : j ≠ k) : upC σ p k v p j = σ p j := by
  show (if p = p then (fun j => if j = k then v else σ p j) else σ p) j = σ p j
  rw [if_pos rfl]
  exact if_neg h
theorem range_get (ws : va_W) : (List.range ws.length).map (fun i => ws[i]?) = ws.map some := by
  refine List.ext_getElem (by simp) (fun k h1 h2 => ?_)
  have hk : k < ws.length := by simpa using h1
  simp [hk]
def CAP : Nat := 24000
def ISE : String := "java/lang/IllegalStateException"
/-- shape: the kind of a cell (0: an object of a class with so many fields; 1 + t: a row of kind t with so many; 5: a row of references to cells from one on), which fields are references, how many cells, the cell of what is thrown -/
abbrev Sh : Type := (Nat → Nat × Nat × Nat) × (Nat → Nat → Option Nat) × Nat × Nat
def fval (S : Sh) (r : Nat → Nat) (σ : St) (j k : Nat) : Value := match S.2.1 j k with
  | some t => .ref (r t)
  | none => .int (σ j k)
def ofs (S : Sh) (r : Nat → Nat) (σ : St) (j n : Nat) : List Value := (List.range n).map (fval S r σ j)
def cellE (S : Sh) (cy : Nat → ClassId) (r : Nat → Nat) (σ : St) (j : Nat) : va_E :=
  if (S.1 j).1 = 0 then .inr ((S.1 j).2.1, ofs S r σ j (S.1 j).2.2)
  else if (S.1 j).1 = 5 then .inl (cy 3, (S.1 j).2.1, .inr (.inr (.inr (.inr (fun i => some (r ((S.1 j).2.2 + i)))))))
  else .inl (cy ((S.1 j).1 - 1), (S.1 j).2.1, .inl (σ j))
def wsS_ (S : Sh) (cy : Nat → ClassId) (r : Nat → Nat) (σ : St) : va_W := (List.range S.2.2.1).map (fun j => (r j, cellE S cy r σ j))
def vfs (τ : St) (a : Nat) : List Value := (List.range 9).map (fun k => .int (τ a k))
def wsV_ (τ : St) (vs : List Nat) : va_W := vs.map (fun a => (a, .inr (ciV, vfs τ a)))
def wld (S : Sh) (cy : Nat → ClassId) (r : Nat → Nat) (σ τ : St) (vs : List Nat) : va_W := wsS_ S cy r σ ++ wsV_ τ vs
theorem wsS_len {S : Sh} {cy : Nat → ClassId} {r : Nat → Nat} {σ : St} : (wsS_ S cy r σ).length = S.2.2.1 := by simp [wsS_]
theorem wld_at {S : Sh} {cy : Nat → ClassId} {r : Nat → Nat} {σ τ : St} {vs : List Nat} {j : Nat} (hj : j < S.2.2.1) : (wld S cy r σ τ vs)[j]? = some (r j, cellE S cy r σ j) := by
  unfold wld
  rw [List.getElem?_append_left (by rw [wsS_len]; exact hj)]
  unfold wsS_
  rw [List.getElem?_map, List.getElem?_range hj]
  rfl
theorem wld_av {S : Sh} {cy : Nat → ClassId} {r : Nat → Nat} {σ τ : St} {vs : List Nat} {a i : Nat} (hi : vs[i]? = some a) : (wld S cy r σ τ vs)[S.2.2.1 + i]? = some (a, .inr (ciV, vfs τ a)) := by
  unfold wld
  rw [List.getElem?_append_right (by rw [wsS_len]; exact Nat.le_add_right _ _), wsS_len, Nat.add_sub_cancel_left]
  unfold wsV_
  rw [List.getElem?_map, hi]
  rfl
theorem cellE_obj {S : Sh} {cy : Nat → ClassId} {r : Nat → Nat} {σ : St} {j ci nf : Nat} (h : S.1 j = (0, ci, nf)) : cellE S cy r σ j = .inr (ci, ofs S r σ j nf) := by
  unfold cellE
  rw [h]
  rfl
theorem cellE_arr {S : Sh} {cy : Nat → ClassId} {r : Nat → Nat} {σ : St} {j t n z : Nat} (h : S.1 j = (t + 1, n, z)) (ht : t < 4) : cellE S cy r σ j = .inl (cy t, n, .inl (σ j)) := by
  unfold cellE
  rw [h]
  show (if t + 1 = 0 then _ else if t + 1 = 5 then _ else _) = _
  rw [if_neg (by omega), if_neg (by omega)]
  rfl
theorem cellE_ref {S : Sh} {cy : Nat → ClassId} {r : Nat → Nat} {σ : St} {j n b : Nat} (h : S.1 j = (5, n, b)) : cellE S cy r σ j = .inl (cy 3, n, .inr (.inr (.inr (.inr (fun i => some (r (b + i))))))) := by
  unfold cellE
  rw [h]
  rfl
theorem ofs_at {S : Sh} {r : Nat → Nat} {σ : St} {j n k : Nat} (hk : k < n) : (ofs S r σ j n)[k]? = some (fval S r σ j k) := by
  unfold ofs
  rw [List.getElem?_map, List.getElem?_range hk]
  rfl
theorem cellE_up {S : Sh} {cy : Nat → ClassId} {r : Nat → Nat} {σ : St} {i j : Nat} {f : Nat → Int32} (h : j ≠ i) : cellE S cy r (upF σ i f) j = cellE S cy r σ j := by
  have e1 : upF σ i f j = σ j := upF_ne h
  have e2 : ∀ n, ofs S r (upF σ i f) j n = ofs S r σ j n := fun n => by
    unfold ofs fval
    rw [e1]
  unfold cellE
  rw [e1, e2]
theorem ofs_up {S : Sh} {r : Nat → Nat} {σ : St} {j n k : Nat} {v : Int32} (hr : S.2.1 j k = none) : ofs S r (upC σ j k v) j n = (ofs S r σ j n).set k (.int v) := by
  refine List.ext_getElem? (fun i => ?_)
  unfold ofs
  rw [List.getElem?_set, List.getElem?_map, List.getElem?_map]
  by_cases hi : i < n
  · rw [List.getElem?_range hi]
    by_cases hk : k = i
    · subst hk
      rw [if_pos rfl, if_pos (by simpa using hi)]
      show some (fval S r (upC σ j k v) j k) = _
      unfold fval
      rw [hr, upC_same]
    · rw [if_neg hk]
      show some (fval S r (upC σ j k v) j i) = some (fval S r σ j i)
      unfold fval
      rw [upC_ne (fun h => hk h.symm)]
  · have e0 : (List.range n)[i]? = none := by simpa using Nat.le_of_not_lt hi
    rw [e0]
    by_cases hk : k = i
    · subst hk
      rw [if_pos rfl, if_neg (by simpa using hi)]
      rfl
    · rw [if_neg hk]
      rfl
theorem wsS_set {S : Sh} {cy : Nat → ClassId} {r : Nat → Nat} {σ : St} {j : Nat} {f : Nat → Int32} : wsS_ S cy r (upF σ j f) = (wsS_ S cy r σ).set j (r j, cellE S cy r (upF σ j f) j) := by
  refine List.ext_getElem? (fun i => ?_)
  unfold wsS_
  rw [List.getElem?_set, List.getElem?_map, List.getElem?_map]
  by_cases hi : i < S.2.2.1
  · rw [List.getElem?_range hi]
    by_cases hk : j = i
    · subst hk
      rw [if_pos rfl, if_pos (by simpa using hi)]
      rfl
    · rw [if_neg hk]
      show some (r i, cellE S cy r (upF σ j f) i) = some (r i, cellE S cy r σ i)
      rw [cellE_up (fun h => hk h.symm)]
  · have e0 : (List.range S.2.2.1)[i]? = none := by simpa using Nat.le_of_not_lt hi
    rw [e0]
    by_cases hk : j = i
    · subst hk
      rw [if_pos rfl, if_neg (by simpa using hi)]
      rfl
    · rw [if_neg hk]
      rfl
theorem wld_set {S : Sh} {cy : Nat → ClassId} {r : Nat → Nat} {σ τ : St} {vs : List Nat} {j : Nat} {f : Nat → Int32} (hj : j < S.2.2.1) : (wld S cy r σ τ vs).set j (r j, cellE S cy r (upF σ j f) j) = wld S cy r (upF σ j f) τ vs := by
  unfold wld
  rw [wsS_set, List.set_append_left _ _ (by rw [wsS_len]; exact hj)]
theorem vfs_up {τ : St} {a k : Nat} {v : Int32} : vfs (upC τ a k v) a = (vfs τ a).set k (.int v) := by
  refine List.ext_getElem? (fun i => ?_)
  unfold vfs
  rw [List.getElem?_set, List.getElem?_map, List.getElem?_map]
  by_cases hi : i < 9
  · rw [List.getElem?_range hi]
    by_cases hk : k = i
    · subst hk
      rw [if_pos rfl, if_pos (by simpa using hi)]
      show some (Value.int (upC τ a k v a k)) = _
      rw [upC_same]
    · rw [if_neg hk]
      show some (Value.int (upC τ a k v a i)) = some (Value.int (τ a i))
      rw [upC_ne (fun h => hk h.symm)]
  · have e0 : (List.range 9)[i]? = none := by simpa using Nat.le_of_not_lt hi
    rw [e0]
    by_cases hk : k = i
    · subst hk
      rw [if_pos rfl, if_neg (by simpa using hi)]
      rfl
    · rw [if_neg hk]
      rfl
theorem wsV_keep {τ τ' : St} {vs : List Nat} (h : ∀ a ∈ vs, τ' a = τ a) : wsV_ τ' vs = wsV_ τ vs := by
  unfold wsV_
  refine List.map_congr_left (fun a ha => ?_)
  unfold vfs
  rw [h a ha]
theorem wld_setv {S : Sh} {cy : Nat → ClassId} {r : Nat → Nat} {σ τ : St} {vs : List Nat} {a i k : Nat} {v : Int32} (hi : vs[i]? = some a) (hd : ∀ i' , vs[i']? = some a → i' = i) : (wld S cy r σ τ vs).set (S.2.2.1 + i) (a, .inr (ciV, (vfs τ a).set k (.int v))) = wld S cy r σ (upC τ a k v) vs := by
  unfold wld
  rw [List.set_append_right _ _ (by rw [wsS_len]; exact Nat.le_add_right _ _), wsS_len, Nat.add_sub_cancel_left]
  congr 1
  refine List.ext_getElem? (fun z => ?_)
  unfold wsV_
  rw [List.getElem?_set, List.getElem?_map, List.getElem?_map]
  by_cases hz : i = z
  · subst hz
    have hlt : i < vs.length := (List.getElem?_eq_some_iff.mp hi).1
    rw [if_pos rfl, if_pos (by simpa using hlt), hi]
    show _ = some (a, Sum.inr (ciV, vfs (upC τ a k v) a))
    rw [vfs_up]
  · rw [if_neg hz]
    cases hb : vs[z]? with
    | none => rfl
    | some b =>
      have hne : b ≠ a := fun h => hz (hd z (by rw [hb, h])).symm
      show some (b, Sum.inr (ciV, vfs τ b)) = some (b, Sum.inr (ciV, vfs (upC τ a k v) b))
      have e : upC τ a k v b = τ b := upF_ne hne
      unfold vfs
      rw [e]
theorem wld_push {S : Sh} {cy : Nat → ClassId} {r : Nat → Nat} {σ τ τ' : St} {vs : List Nat} {q : Nat} (h : ∀ a ∈ vs, τ' a = τ a) : wld S cy r σ τ vs ++ [(q, .inr (ciV, vfs τ' q))] = wld S cy r σ τ' (vs ++ [q]) := by
  unfold wld
  rw [List.append_assoc]
  congr 1
  rw [← wsV_keep h]
  unfold wsV_
  rw [List.map_append]
  rfl
def rmD (d n : Nat) : Room := { frames := d, cells := CAP - n, slots := 9 * (CAP - n), locals := 40 * d }
abbrev QR : Type := Option Value → St → St → List Nat → Prop
abbrev QT : Type := St → St → List Nat → Prop
/-- how a method ends: it returned, or it threw what is thrown; the world behind it; what it made -/
def xq (D : va_G) (cy : Nat → ClassId) (S : Sh) (r : Nat → Nat) (A : Nat → Prop) (n0 : Nat) (Qr : QR) (Qt : QT) : Array Value → State → Outcome → State → Prop := fun _ st o t =>
  ∃ (σ' τ' : St) (vs' : List Nat), kPost D cy A (wld S cy r σ' τ' vs') t ∧ va_F A st t ∧ n0 ≤ vs'.length ∧ vs'.length ≤ CAP ∧
    ((∃ v, o = .returned v ∧ Qr v σ' τ' vs' ∧ ∃ L, FrameEnd st o t L (vs'.length - n0) (9 * (vs'.length - n0)) ∧ ∀ q ∈ L, A q.base) ∨
     (∃ (ce : Cell) (L : List Loc), o = .threw (r S.2.2.2) ∧ Qt σ' τ' vs' ∧ t.heap[r S.2.2.2]? = some ce ∧ ce.vm = .none ∧ st.vm.findClass ISE = some ce.cls ∧ st.WarmedH t.vm ∧ st.sameButNew ({ t with vm := st.vm } : State) L (vs'.length - n0) (9 * (vs'.length - n0)) ∧ ∀ z ∈ L, A z.base))
/-- a call of y on these arguments in this world ends so -/
def Ct (l : Launch) (D : va_G) (cy : Nat → ClassId) (S : Sh) (r : Nat → Nat) (E : (Nat → Prop) → State → Prop) (y : MethodName) (cw : Cond) (d : Nat) (as : List Value) (σ τ : St) (vs : List Nat) (Qr : QR) (Qt : QT) : Prop :=
  ∀ sz, MetFree l y (headSpec (cw :: GW) (rmD d vs.length)) (va_Pc as (kPreE D cy sz (wld S cy r σ τ vs) E)) (fun _ _ _ _ _ => True) (xq D cy S r (va_A (wld S cy r σ τ vs) sz) vs.length Qr Qt)
abbrev Cx : Type := Program × Launch × Env × Room × State × MethodId × Array Value × List Frame × Method × Code × (Nat → Prop) × va_G × (Nat → ClassId) × (State → Prop) × Nat × Nat
def G (S : Sh) (r : Nat → Nat) (X : Cx) (σ τ : St) (vs : List Nat) (L : List (Nat × Value)) (st : List Value) (pc : Nat) : Prop := match X with
  | (p, l, e, R, s, m, args, below, meth, c, A, D, cy, Q, nL, n0) => ∀ (H : Heap) (locs : List Loc) (ls : Array Slot), va_P D vwCl (wld S cy r σ τ vs) H → va_D A (wld S cy r σ τ vs) → va_S A s.heap H locs → lv_has ls nL L → n0 ≤ vs.length → vs.length ≤ CAP →
      W p l e R s m args below meth c H locs (vs.length - n0) (9 * (vs.length - n0)) Q (F0 m pc ls st)
/-- thrown at pc -/
def GT (S : Sh) (r : Nat → Nat) (X : Cx) (σ τ : St) (vs : List Nat) (L : List (Nat × Value)) (st : List Value) (pc : Nat) : Prop := match X with
  | (p, l, e, R, s, m, args, below, meth, c, A, D, cy, Q, nL, n0) => ∀ (H : Heap) (locs : List Loc) (ls : Array Slot), va_P D vwCl (wld S cy r σ τ vs) H → va_D A (wld S cy r σ τ vs) → va_S A s.heap H locs → lv_has ls nL L → n0 ≤ vs.length → vs.length ≤ CAP →
      vx_W p l e R s m args below meth c H locs (vs.length - n0) (9 * (vs.length - n0)) Q (F0 m pc ls st) (r S.2.2.2)
def MQX (below : List Frame) (Qc : Array Value → State → Outcome → State → Prop) (a : Array Value) (s : State) : State → Prop := fun t => ∃ o, t.status = .running ∧ Ended t below o ∧ Qc a s o t
def Fx (S : Sh) (r : Nat → Nat) (X : Cx) (ex : List ExceptionTableEntry) (cc : ByteArray) (own : String) (ret : Option FieldType) (d : Nat) (Qr : QR) (Qt : QT) (E : (Nat → Prop) → State → Prop) : Prop := match X with
  | (p, _, _, R, s, m, args, below, meth, c, A, D, cy, Q, nL, n0) => p.tables.exec = Jvm.exec ∧ c.code = cc ∧ c.maxLocals = nL ∧ s.vm.findClass own = some m.cls ∧ meth.sig.returnType = ret ∧ meth.locks = false ∧ R = rmD d n0 ∧ Q = MQX below (xq D cy S r A n0 Qr Qt) args s ∧
      (∀ w ∈ GW, w.before args s = true) ∧ nwOK s ∧ va_K D vwCl (kTy cy) s ∧ (∀ q, s.heap.size ≤ q → A q) ∧ E A s ∧ EnvOK E ∧ c.exceptionTable.toList = ex
