/-! rows for methods on a state of which only its shape is told -/
abbrev St : Type := Nat → Nat → Int32
def upF (σ : St) (p : Nat) (f : Nat → Int32) : St := fun j => if j = p then f else σ j
def upC (σ : St) (p k : Nat) (v : Int32) : St := upF σ p (fun j => if j = k then v else σ p j)
theorem range_get (ws : va_W) : (List.range ws.length).map (fun i => ws[i]?) = ws.map some := by
  refine List.ext_getElem (by simp) (fun k h1 h2 => ?_)
  have hk : k < ws.length := by simpa using h1
  simp [hk]
def dn (x : Int32) : Nat := x.toInt.toNat
def upm (x : Int32) : Nat := (2147483647 - x.toInt).toNat
theorem dn_lt {x : Int32} (h : ¬ x ≤ 0) : dn (x + (-1)) < dn x := by
  have h1 : ¬ x.toInt ≤ (0 : Int32).toInt := fun q => h (Int32.le_iff_toInt_le.mpr q)
  have e0 : (0 : Int32).toInt = 0 := by decide
  have e1 : (-1 : Int32).toInt = -1 := by decide
  have hl := Int32.toInt_lt x
  have hg := Int32.le_toInt x
  rw [e0] at h1
  have e : (x + (-1)).toInt = x.toInt - 1 := by
    rw [Int32.toInt_add, e1]
    rw [Int.bmod_eq_of_le] <;> omega
  unfold dn
  rw [e]
  omega
theorem upm_lt {x b : Int32} (h : ¬ b ≤ x) : upm (x + 1) < upm x := by
  have h1 : ¬ b.toInt ≤ x.toInt := fun q => h (Int32.le_iff_toInt_le.mpr q)
  have e1 : (1 : Int32).toInt = 1 := by decide
  have hl := Int32.toInt_lt b
  have hg := Int32.le_toInt x
  have e : (x + 1).toInt = x.toInt + 1 := by
    rw [Int32.toInt_add, e1]
    rw [Int.bmod_eq_of_le] <;> omega
  unfold upm
  rw [e]
  omega
theorem upm_le {x b : Int32} (h : ¬ b < x) (hb : b ≤ 65536) : upm (x + 1) < upm x := by
  refine upm_lt (b := b + 1) (fun q => ?_)
  have h1 : ¬ b.toInt < x.toInt := fun q => h (Int32.lt_iff_toInt_lt.mpr q)
  have h2 := Int32.le_iff_toInt_le.mp hb
  have h3 := Int32.le_iff_toInt_le.mp q
  have e1 : (1 : Int32).toInt = 1 := by decide
  have e6 : (65536 : Int32).toInt = 65536 := by decide
  have hg := Int32.le_toInt b
  have e : (b + 1).toInt = b.toInt + 1 := by
    rw [Int32.toInt_add, e1]
    rw [Int.bmod_eq_of_le] <;> omega
  rw [e6] at h2
  rw [e] at h3
  omega
theorem k_nz {v : Int32} (h : v = 0 ∨ v = 1) : narrow .boolean (.int v) = .int v := by
  rcases h with rfl | rfl <;> rfl
section SB
variable {p : Program} {l : Launch} {e : Env} {R : Room} {s : State} {m : MethodId} {args : Array Value} {below : List Frame} {meth : Method} {c : Code} {H : Heap} {locs : List Loc} {cells slots : Nat} {Q : State → Prop}
variable {cc : ByteArray} {pc : Nat} {ls : Array Slot} {rest st0 : List Value} {D : va_G} {cy : Nat → ClassId} {A : Nat → Prop} {ws : va_W} {H0 : Heap} {a : Array Value} {mc ms : Nat}
theorem s_pre {As : List Value} (hP : va_P D vwCl ws H) (hD : va_D A ws) (hK : va_K D vwCl (kTy cy) s) (hN : nwOK s) : PreS s H (va_Pc As (kPre D cy H.size ws)) As :=
  ⟨kPre.blind, fun U hU hW => ⟨rfl, by rw [hU], nwOK.warm hW hN, by rw [hU]; exact hP, va_K.moved hW.alike hK, hD.weaken (fun _ _ _ _ => trivial)⟩⟩
theorem s_preV {C : String} {b : Nat} {As : List Value} (hP : va_P D vwCl ws H) (hD : va_D A ws) (hK : va_K D vwCl (kTy cy) s) (hN : nwOK s) (q0 : Nat) {ci : Nat} {fs : List Value} {T : u_T} {N : Nat} (he : ws[q0]? = some (b, .inr (ci, fs))) (hc : vwCl[ci]? = some (C, T, N)) : PreV s H C b (va_Pc (.ref b :: As) (kPre D cy H.size ws)) As :=
  ⟨kPre.blind, va_recv hK hP hc he, (s_pre (As := .ref b :: As) hP hD hK hN).2⟩
theorem s_calli {X : Type} {post : Int32 → X → Prop} {w1 : X → va_W}
    (hr : va_Run p l e R s m args below meth c H locs cells slots mc ms (F0 m pc ls st0) rest (va_Qi post (fun u => kPost D cy (va_A ws H.size) (w1 u)) (va_A ws H.size) a) (va_A ws H.size))
    (hP : va_P D vwCl ws H) (hD : va_D A ws) (hS : va_S A H0 H locs) (hA : ∀ q, H0.size ≤ q → A q)
    (kk : ∀ (r : Int32) (u : X) (H1 : Heap) (locs1 : List Loc), post r u → va_P D vwCl (w1 u) H1 → va_D A (w1 u) → va_S A H0 H1 locs1 → W p l e R s m args below meth c H1 locs1 (cells + mc) (slots + ms) Q (F0 m (pc + 3) ls (.int r :: rest))) : W p l e R s m args below meth c H locs cells slots Q (F0 m pc ls st0) :=
  k_calli (wc := ws) (wr := []) hr hP hD hS hA (List.range ws.length) [] (range_get ws) rfl rfl (fun _ h => nomatch h) kk
theorem s_callv {X : Type} {post : X → Prop} {w1 : X → va_W}
    (hr : va_Run p l e R s m args below meth c H locs cells slots mc ms (F0 m pc ls st0) rest (va_Qv post (fun u => kPost D cy (va_A ws H.size) (w1 u)) (va_A ws H.size) a) (va_A ws H.size))
    (hP : va_P D vwCl ws H) (hD : va_D A ws) (hS : va_S A H0 H locs) (hA : ∀ q, H0.size ≤ q → A q)
    (kk : ∀ (u : X) (H1 : Heap) (locs1 : List Loc), post u → va_P D vwCl (w1 u) H1 → va_D A (w1 u) → va_S A H0 H1 locs1 → W p l e R s m args below meth c H1 locs1 (cells + mc) (slots + ms) Q (F0 m (pc + 3) ls rest)) : W p l e R s m args below meth c H locs cells slots Q (F0 m pc ls st0) :=
  k_callv (wc := ws) (wr := []) hr hP hD hS hA (List.range ws.length) [] (range_get ws) rfl rfl (fun _ h => nomatch h) kk
/-- a call that has one cell of ours and leaves it as it is -/
theorem s_call1 {X : Type} {post : Int32 → X → Prop} {x : Nat × va_E} (p0 : Nat) (hp : ws[p0]? = some x)
    (hr : va_Run p l e R s m args below meth c H locs cells slots mc ms (F0 m pc ls st0) rest (va_Qi post (fun _ => kPost D cy (va_A [x] H.size) [x]) (va_A [x] H.size) a) (va_A [x] H.size))
    (hP : va_P D vwCl ws H) (hD : va_D A ws) (hS : va_S A H0 H locs) (hA : ∀ q, H0.size ≤ q → A q)
    (kk : ∀ (r : Int32) (u : X) (H1 : Heap) (locs1 : List Loc), post r u → va_P D vwCl ws H1 → va_D A ws → va_S A H0 H1 locs1 → W p l e R s m args below meth c H1 locs1 (cells + mc) (slots + ms) Q (F0 m (pc + 3) ls (.int r :: rest))) : W p l e R s m args below meth c H locs cells slots Q (F0 m pc ls st0) := by
  have hF := va_free (wc := [x]) hD hS hA [p0] (by simp [hp])
  refine va_calli hr hS (fun q _ h => hF q h) hF (fun r u t H1 locs1 ht hvm hw hB hz1 hk1 hS1 => ?_)
  obtain ⟨hP1, hK1, hD1⟩ := hB
  rw [ht] at hP1
  refine kk r u H1 locs1 hw (fun k q hq => ?_) hD hS1
  by_cases e9 : q.1 = x.1
  · have e8 := hD.1 k p0 q x hq hp e9
    subst e8
    rw [hp] at hq
    cases hq
    exact hP1 0 _ rfl
  · have hlt := (hP k q hq).lt
    refine (hP k q hq).kept (hk1 q.1 hlt (fun h => ?_))
    rcases h with ⟨j, e7, h⟩ | h
    · have hj : j < 1 := (List.getElem?_eq_some_iff.mp h).1
      rw [show j = 0 by omega] at h
      cases h
      exact e9 rfl
    · exact absurd hlt (Nat.not_lt.mpr h)
/-- a call that has one cell of ours and writes it -/
theorem s_set1 {X : Type} {post : X → Prop} {b : Nat} {e0 : va_E} {w : X → va_E} (p0 : Nat) (hp : ws[p0]? = some (b, e0))
    (hr : va_Run p l e R s m args below meth c H locs cells slots mc ms (F0 m pc ls st0) rest (va_Qv post (fun u => kPost D cy (va_A [(b, e0)] H.size) [(b, w u)]) (va_A [(b, e0)] H.size) a) (va_A [(b, e0)] H.size))
    (hP : va_P D vwCl ws H) (hD : va_D A ws) (hS : va_S A H0 H locs) (hA : ∀ q, H0.size ≤ q → A q)
    (kk : ∀ (u : X) (H1 : Heap) (locs1 : List Loc), post u → va_P D vwCl (ws.set p0 (b, w u)) H1 → va_D A (ws.set p0 (b, w u)) → va_S A H0 H1 locs1 → W p l e R s m args below meth c H1 locs1 (cells + mc) (slots + ms) Q (F0 m (pc + 3) ls rest)) : W p l e R s m args below meth c H locs cells slots Q (F0 m pc ls st0) := by
  have hF := va_free (wc := [(b, e0)]) hD hS hA [p0] (by simp [hp])
  refine va_callv hr hS (fun q _ h => hF q h) hF (fun u t H1 locs1 ht hvm hw hB hz1 hk1 hS1 => ?_)
  obtain ⟨hP1, hK1, hD1⟩ := hB
  rw [ht] at hP1
  refine kk u H1 locs1 hw (fun k q hq => ?_) (hD.set hp) hS1
  by_cases e9 : k = p0
  · subst e9
    have hl : k < ws.length := (List.getElem?_eq_some_iff.mp hp).1
    rw [List.getElem?_set_self hl] at hq
    cases hq
    exact hP1 0 _ rfl
  · rw [List.getElem?_set_ne (fun h => e9 h.symm)] at hq
    have hlt := (hP k q hq).lt
    refine (hP k q hq).kept (hk1 q.1 hlt (fun h => ?_))
    rcases h with ⟨j, e7, h⟩ | h
    · have hj : j < 1 := (List.getElem?_eq_some_iff.mp h).1
      rw [show j = 0 by omega] at h
      have h8 : (b, e0) = (q.1, e7) := Option.some.inj h
      exact e9 (hD.1 k p0 q (b, e0) hq hp (congrArg Prod.fst h8).symm)
    · exact absurd hlt (Nat.not_lt.mpr h)
end SB
/-! what a number is: from Int32 to Int -/
theorem s_lt {x y : Int32} (h : x < y) : x.toInt < y.toInt := Int32.lt_iff_toInt_lt.mp h
theorem s_nlt {x y : Int32} (h : ¬ x < y) : y.toInt ≤ x.toInt := Int.not_lt.mp (fun q => h (Int32.lt_iff_toInt_lt.mpr q))
theorem s_le {x y : Int32} (h : x ≤ y) : x.toInt ≤ y.toInt := Int32.le_iff_toInt_le.mp h
theorem s_nle {x y : Int32} (h : ¬ x ≤ y) : y.toInt < x.toInt := Int.not_le.mp (fun q => h (Int32.le_iff_toInt_le.mpr q))
theorem s_eq {x y : Int32} (h : x = y) : x.toInt = y.toInt := congrArg Int32.toInt h
theorem s_rng (x : Int32) : -2147483648 ≤ x.toInt ∧ x.toInt < 2147483648 := ⟨Int32.le_toInt x, Int32.toInt_lt x⟩
theorem s_add (x y : Int32) : ∃ k : Int, (x + y).toInt = x.toInt + y.toInt + 4294967296 * k := by
  have h := Int32.toInt_add x y
  rw [Int.bmod_def] at h
  have e : ((2 ^ 32 : Nat) : Int) = 4294967296 := by decide
  rw [e] at h
  split at h
  · exact ⟨-((x.toInt + y.toInt) / 4294967296), by omega⟩
  · exact ⟨-((x.toInt + y.toInt) / 4294967296) - 1, by omega⟩
theorem s_sub (x y : Int32) : ∃ k : Int, (x - y).toInt = x.toInt - y.toInt + 4294967296 * k := by
  have h := Int32.toInt_sub x y
  rw [Int.bmod_def] at h
  have e : ((2 ^ 32 : Nat) : Int) = 4294967296 := by decide
  rw [e] at h
  split at h
  · exact ⟨-((x.toInt - y.toInt) / 4294967296), by omega⟩
  · exact ⟨-((x.toInt - y.toInt) / 4294967296) - 1, by omega⟩
theorem s_in {i : Int32} {n : Nat} (hn : n < 2 ^ 31) (h0 : 0 ≤ i.toInt) (h1 : i.toInt < n) : vp_in i n := by
  obtain ⟨j, hj, e⟩ := nI_of (x := i) (fun q => by
    have q1 := s_lt q
    have e0 : (0 : Int32).toInt = 0 := by decide
    omega)
  subst e
  rw [nI_toInt hj] at h1
  exact vp_in_nI (by omega) hn
theorem s_mk {i lo hi : Int32} (h0 : lo.toInt ≤ i.toInt) (h1 : i.toInt ≤ hi.toInt) : lo ≤ i ∧ i ≤ hi := ⟨Int32.le_iff_toInt_le.mpr h0, Int32.le_iff_toInt_le.mpr h1⟩
def Inv (σ : St) : Prop := (0 ≤ (σ 2 1).toInt ∧ (σ 2 1).toInt ≤ 16000) ∧ (0 ≤ (σ 11 0).toInt ∧ (σ 11 0).toInt ≤ 4096) ∧ (0 ≤ (σ 11 1).toInt ∧ (σ 11 1).toInt ≤ 4096) ∧ (0 ≤ (σ 11 2).toInt ∧ (σ 11 2).toInt ≤ 4096) ∧ (0 ≤ (σ 5 13).toInt ∧ (σ 5 13).toInt ≤ 100)
def Keep (fs : List (Nat × Nat)) (cs : List Nat) (a b : St) : Prop := ∀ c k, fs.contains (c, k) = false → cs.contains c = false → b c k = a c k
theorem keep_rf {fs : List (Nat × Nat)} {cs : List Nat} {a : St} : Keep fs cs a a := fun _ _ _ _ => rfl
theorem keep_f {fs : List (Nat × Nat)} {cs : List Nat} {a b : St} {p k : Nat} {v : Int32} (h : Keep fs cs a b) (hm : fs.contains (p, k) = true) : Keep fs cs a (upC b p k v) := fun c j h1 h2 => by
  by_cases e1 : c = p
  · subst e1
    by_cases e2 : j = k
    · subst e2
      rw [hm] at h1
      cases h1
    · show (if c = c then (fun j => if j = k then v else b c j) else b c) j = a c j
      rw [if_pos rfl]
      show (if j = k then v else b c j) = a c j
      rw [if_neg e2]
      exact h c j h1 h2
  · show (if c = p then (fun j => if j = k then v else b p j) else b c) j = a c j
    rw [if_neg e1]
    exact h c j h1 h2
theorem keep_a {fs : List (Nat × Nat)} {cs : List Nat} {a b : St} {p : Nat} {f : Nat → Int32} (h : Keep fs cs a b) (hm : cs.contains p = true) : Keep fs cs a (upF b p f) := fun c j h1 h2 => by
  by_cases e1 : c = p
  · subst e1
    rw [hm] at h2
    cases h2
  · show (if c = p then f else b c) j = a c j
    rw [if_neg e1]
    exact h c j h1 h2
theorem keep_c {fs fs1 : List (Nat × Nat)} {cs cs1 : List Nat} {a b d : St} (h : Keep fs cs a b) (hc : Keep fs1 cs1 b d) (s1 : fs1.all (fun x => fs.contains x || cs.contains x.1) = true) (s2 : cs1.all (fun x => cs.contains x) = true) : Keep fs cs a d := fun c j h1 h2 => by
  have e1 : fs1.contains (c, j) = false := by
    cases q : fs1.contains (c, j) with
    | false => rfl
    | true =>
      have h3 := List.all_eq_true.mp s1 (c, j) (List.contains_iff_mem.mp q)
      simp only [h1, h2, Bool.or_self] at h3
      cases h3
  have e2 : cs1.contains c = false := by
    cases q : cs1.contains c with
    | false => rfl
    | true =>
      have h3 := List.all_eq_true.mp s2 c (List.contains_iff_mem.mp q)
      rw [h2] at h3
      cases h3
  rw [hc c j e1 e2]
  exact h c j h1 h2
def dnm (x : Int32) : Nat := (x.toInt + 2147483648).toNat
theorem dnm_lt {x b : Int32} (h : ¬ x ≤ b) : dnm (x + (-1)) < dnm x := by
  have h1 := s_nle h
  have e1 : (-1 : Int32).toInt = -1 := by decide
  have hl := s_rng b
  have hg := s_rng x
  have hh := s_rng (x + (-1))
  obtain ⟨k, e⟩ := s_add x (-1)
  rw [e1] at e
  unfold dnm
  omega
section SB2
variable {p : Program} {l : Launch} {e : Env} {R : Room} {s : State} {m : MethodId} {args : Array Value} {below : List Frame} {meth : Method} {c : Code} {H : Heap} {locs : List Loc} {cells slots : Nat} {Q : State → Prop}
variable {pc : Nat} {ls : Array Slot} {rest st0 : List Value} {D : va_G} {cy : Nat → ClassId} {A : Nat → Prop} {ws : va_W} {H0 : Heap} {a : Array Value} {mc ms : Nat}
theorem s_sub1 {x : Nat × va_E} (p0 : Nat) (hP : va_P D vwCl ws H) (hp : ws[p0]? = some x) : va_P D vwCl [x] H := fun k q hq => by
  have hk : k < 1 := (List.getElem?_eq_some_iff.mp hq).1
  rw [show k = 0 by omega] at hq
  cases hq
  exact hP p0 _ hp
theorem s_subD {x : Nat × va_E} (p0 : Nat) (hD : va_D A ws) (hp : ws[p0]? = some x) : va_D A [x] := hD.sub [p0] rfl (by simp [hp])
theorem s_call0 {X : Type} {post : Int32 → X → Prop}
    (hr : va_Run p l e R s m args below meth c H locs cells slots mc ms (F0 m pc ls st0) rest (va_Qi post (fun _ => kPost D cy (va_A [] H.size) []) (va_A [] H.size) a) (va_A [] H.size))
    (hP : va_P D vwCl ws H) (hD : va_D A ws) (hS : va_S A H0 H locs) (hA : ∀ q, H0.size ≤ q → A q)
    (kk : ∀ (r : Int32) (u : X) (H1 : Heap) (locs1 : List Loc), post r u → va_P D vwCl ws H1 → va_D A ws → va_S A H0 H1 locs1 → W p l e R s m args below meth c H1 locs1 (cells + mc) (slots + ms) Q (F0 m (pc + 3) ls (.int r :: rest))) : W p l e R s m args below meth c H locs cells slots Q (F0 m pc ls st0) := by
  have hF := va_free (wc := []) hD hS hA [] rfl
  refine va_calli hr hS (fun q _ h => hF q h) hF (fun r u t H1 locs1 ht hvm hw hB hz1 hk1 hS1 => ?_)
  refine kk r u H1 locs1 hw (fun k q hq => ?_) hD hS1
  have hlt := (hP k q hq).lt
  refine (hP k q hq).kept (hk1 q.1 hlt (fun h => ?_))
  rcases h with ⟨j, e7, h⟩ | h
  · simp at h
  · exact absurd hlt (Nat.not_lt.mpr h)
theorem k_any {x : Int32} (k : ∀ v : Int32, W p l e R s m args below meth c H locs cells slots Q (F0 m pc ls (.int v :: rest))) : W p l e R s m args below meth c H locs cells slots Q (F0 m pc ls (.int x :: rest)) := k x
end SB2
def wB (cy : Nat → ClassId) (r : Nat → Nat) (σ : St) : va_W := [((r 1), .inl (cy 0, 16000, .inl (σ 1))), ((r 2), .inr (10, [.ref (r 1), .int (σ 2 1), .int (σ 2 2), .int (σ 2 3), .int (σ 2 4), .ref (r 13), .ref (r 14), .ref (r 15), .ref (r 16), .ref (r 17)])), ((r 3), .inr (3, [.ref (r 2), .int (σ 3 1), .int (σ 3 2), .int (σ 3 3), .int (σ 3 4), .ref (r 18), .ref (r 19), .ref (r 20), .ref (r 21), .int (σ 3 9), .ref (r 22), .ref (r 23)])), ((r 4), .inr (0, [.ref (r 24), .int (σ 4 1)])), ((r 5), .inr (8, [.ref (r 4), .int (σ 5 1), .ref (r 25), .ref (r 26), .ref (r 27), .ref (r 28), .ref (r 29), .int (σ 5 7), .ref (r 30), .int (σ 5 9), .ref (r 31), .ref (r 32), .ref (r 33), .int (σ 5 13), .ref (r 34), .ref (r 35), .ref (r 36), .ref (r 37)])), ((r 6), .inr (11, [.ref (r 2), .ref (r 5), .int (σ 6 2), .int (σ 6 3), .int (σ 6 4), .int (σ 6 5), .int (σ 6 6), .int (σ 6 7), .ref (r 38), .ref (r 39), .int (σ 6 10), .ref (r 40), .ref (r 41), .ref (r 42), .ref (r 43), .int (σ 6 15), .ref (r 44), .int (σ 6 17), .ref (r 45)])), ((r 7), .inr (2, [.ref (r 3), .ref (r 2), .ref (r 6), .ref (r 5), .ref (r 4), .ref (r 46), .ref (r 47), .int (σ 7 7)])), ((r 8), .inr (1, [.ref (r 3), .ref (r 2), .ref (r 6), .ref (r 5), .ref (r 4), .ref (r 7), .int (σ 8 6), .int (σ 8 7), .int (σ 8 8), .int (σ 8 9), .int (σ 8 10), .int (σ 8 11), .int (σ 8 12), .int (σ 8 13), .int (σ 8 14), .int (σ 8 15), .int (σ 8 16), .ref (r 48)])), ((r 9), .inr (7, [.ref (r 3), .ref (r 6), .ref (r 4), .ref (r 7), .ref (r 8), .int (σ 9 5), .ref (r 49), .ref (r 50), .ref (r 51), .ref (r 52), .ref (r 53), .ref (r 54)])), ((r 10), .inr (4, [.ref (r 5), .ref (r 55), .int (σ 10 2), .int (σ 10 3), .int (σ 10 4), .int (σ 10 5), .ref (r 56), .int (σ 10 7), .ref (r 57), .ref (r 58), .ref (r 59), .int (σ 10 11)])), ((r 11), .inr (9, [.int (σ 11 0), .int (σ 11 1), .int (σ 11 2), .ref (r 60), .ref (r 61)])), ((r 12), .inr (5, [.ref (r 5), .ref (r 10), .ref (r 11), .ref (r 24), .ref (r 62), .ref (r 63), .ref (r 64), .int (σ 12 7), .int (σ 12 8), .int (σ 12 9), .int (σ 12 10), .int (σ 12 11), .int (σ 12 12), .int (σ 12 13), .int (σ 12 14), .int (σ 12 15), .int (σ 12 16), .int (σ 12 17), .int (σ 12 18)])), ((r 13), .inl (cy 1, 16002, .inl (σ 13))), ((r 14), .inl (cy 1, 16002, .inl (σ 14))), ((r 15), .inl (cy 1, 16002, .inl (σ 15))), ((r 16), .inl (cy 1, 16002, .inl (σ 16))), ((r 17), .inl (cy 1, 200, .inl (σ 17))), ((r 18), .inl (cy 1, 32100, .inl (σ 18))), ((r 19), .inl (cy 1, 32100, .inl (σ 19))), ((r 20), .inl (cy 1, 32100, .inl (σ 20))), ((r 21), .inl (cy 1, 32100, .inl (σ 21))), ((r 22), .inl (cy 1, 400, .inl (σ 22))), ((r 23), .inl (cy 1, 8, .inl (σ 23))), ((r 24), .inl (cy 1, 262208, .inl (σ 24))), ((r 25), .inl (cy 1, 10100, .inl (σ 25))), ((r 26), .inl (cy 1, 10100, .inl (σ 26))), ((r 27), .inl (cy 1, 10100, .inl (σ 27))), ((r 28), .inl (cy 1, 10100, .inl (σ 28))), ((r 29), .inl (cy 1, 10100, .inl (σ 29))), ((r 30), .inl (cy 0, 65600, .inl (σ 30))), ((r 31), .inl (cy 1, 65536, .inl (σ 31))), ((r 32), .inl (cy 1, 65536, .inl (σ 32))), ((r 33), .inl (cy 1, 65536, .inl (σ 33))), ((r 34), .inl (cy 1, 101, .inl (σ 34))), ((r 35), .inl (cy 1, 101, .inl (σ 35))), ((r 36), .inl (cy 1, 101, .inl (σ 36))), ((r 37), .inl (cy 1, 101, .inl (σ 37))), ((r 38), .inl (cy 1, 100, .inl (σ 38))), ((r 39), .inl (cy 1, 100, .inl (σ 39))), ((r 40), .inl (cy 1, 100, .inl (σ 40))), ((r 41), .inl (cy 1, 100, .inl (σ 41))), ((r 42), .inl (cy 1, 100, .inl (σ 42))), ((r 43), .inl (cy 1, 100, .inl (σ 43))), ((r 44), .inl (cy 1, 100, .inl (σ 44))), ((r 45), .inl (cy 1, 52, .inl (σ 45))), ((r 48), .inl (cy 1, 100, .inl (σ 48))), ((r 49), .inl (cy 1, 26, .inl (σ 49))), ((r 50), .inl (cy 1, 26, .inl (σ 50))), ((r 51), .inl (cy 1, 26, .inl (σ 51))), ((r 52), .inl (cy 1, 26, .inl (σ 52))), ((r 53), .inl (cy 1, 26, .inl (σ 53))), ((r 54), .inl (cy 1, 26, .inl (σ 54))), ((r 55), .inl (cy 0, 4, .inl (σ 55))), ((r 56), .inl (cy 1, 101, .inl (σ 56))), ((r 57), .inl (cy 1, 101, .inl (σ 57))), ((r 58), .inl (cy 1, 101, .inl (σ 58))), ((r 59), .inl (cy 1, 10100, .inl (σ 59))), ((r 60), .inl (cy 0, 4096, .inl (σ 60))), ((r 61), .inl (cy 0, 4096, .inl (σ 61))), ((r 62), .inl (cy 1, 32768, .inl (σ 62))), ((r 63), .inl (cy 1, 148496, .inl (σ 63))), ((r 64), .inl (cy 1, 771, .inl (σ 64)))]
/-! facts of the start that stay: a String constant, statics of the JDK -/
def EnvOK (E : (Nat → Prop) → State → Prop) : Prop := ∀ (A B : Nat → Prop) (s U : State), s.WarmedH U.vm → (∀ a : Nat, a < s.heap.size → ¬ A a → U.heap[a]? = s.heap[a]?) → (∀ q, B q → A q) → E A s → E B U
def kPreE (D : va_G) (cy : Nat → ClassId) (sz : Nat) (ws : va_W) (E : (Nat → Prop) → State → Prop) : State → Prop := fun U => kPre D cy sz ws U ∧ E (va_A ws sz) U
theorem kPreE.blind {D : va_G} {cy : Nat → ClassId} {sz : Nat} {ws : va_W} {av : List Value} {E : (Nat → Prop) → State → Prop} (hok : EnvOK E) : FrameBlind (va_Pc av (kPreE D cy sz ws E)) := fun a U g mk q => by
  obtain ⟨q0, q1, q2⟩ := q
  have h := kPre.blind (av := av) a U g mk ⟨q0, q1⟩
  exact ⟨q0, h.2, hok _ _ U (U.calling g mk a) (State.WarmedH.refl U) (fun _ _ _ => rfl) (fun _ h => h) q2⟩
theorem k_ofWE {l : Launch} {y : MethodName} {cc : ByteArray} {maxL : Nat} {ret : Option FieldType} {rm : Room} {av : List Value} {D : va_G} {cy : Nat → ClassId} {sz : Nat} {ws : va_W} {E : (Nat → Prop) → State → Prop} {Qc : (Nat → Prop) → Array Value → State → Outcome → State → Prop} {mc ms : Nat}
    (hy : plainName y.cls = true) (hn : (lg_sl av).length ≤ maxL)
    (body : ∀ (p : Program) (e : Env) (s : State) (m : MethodId) (below : List Frame) (meth : Method) (c : Code) (A : Nat → Prop) (ls : Array Slot), p.tables.exec = Jvm.exec → c.code = cc → meth.sig.returnType = ret → c.maxLocals = maxL → s.vm.findClass y.cls = some m.cls → meth.locks = false → meth.name = y.name →
      (∀ w ∈ GW, w.before av.toArray s = true) → nwOK s → va_K D vwCl (kTy cy) s → va_P D vwCl ws s.heap → va_D A ws → (∀ q, s.heap.size ≤ q → A q) → va_S A s.heap s.heap [] → lv_has ls maxL (lv_args 0 av) → E A s →
      W p l e rm s m av.toArray below meth c s.heap [] 0 0 (MQ below (Qc A) av.toArray s mc ms A) (F0 m 0 ls [])) :
    Met l y (Cond.code y cc maxL ret :: GW) rm (va_Pc av (kPreE D cy sz ws E)) (Qc (va_A ws sz)) mc ms (va_A ws sz) := by
  refine Met.ofW (cc := cc) (maxL := maxL) (ret := ret) hy rfl ?_
  intro p e s m args below meth c s₁ B hml hv
  obtain ⟨rfl, ⟨hsz, hNW, hP, hK, hD0⟩, hE⟩ := hv
  subst hsz
  rw [lg_entry_eq]
  exact body p e s m below meth c _ _ B.exec B.bytes B.returns hml (findClass_of_methodNamed B.named) B.notSynchronized (name_of_methodNamed B.named B.method).1
    (fun w h => atoms_spec B.pre w (List.mem_cons_of_mem _ h)) hNW hK hP hD0.self (fun q h => Or.inr h) va_S.rf (lv_entry av hn) hE
section KE
variable {s : State} {H : Heap} {locs : List Loc} {D : va_G} {cy : Nat → ClassId} {A : Nat → Prop} {ws : va_W}
theorem k_preSE {As : List Value} {wc : va_W} {E : (Nat → Prop) → State → Prop} (hok : EnvOK E) (hS : va_S A s.heap H locs) (hA : ∀ q, s.heap.size ≤ q → A q) (hE : E A s) (hP : va_P D vwCl ws H) (hD : va_D A ws) (hK : va_K D vwCl (kTy cy) s) (hN : nwOK s) (is : List Nat) (hn : va_nd is = true) (hC : is.map (fun i => ws[i]?) = wc.map some) : PreS s H (va_Pc As (kPreE D cy H.size wc E)) As :=
  ⟨kPreE.blind hok, fun U hU hW => ⟨rfl, ((k_preS (As := As) hP hD hK hN is hn hC).2 U hU hW).2, hok A _ s U hW (fun a h1 h2 => by rw [hU]; exact hS.2.1 a h1 h2) (fun q h => va_free (wc := wc) hD hS hA is hC q h) hE⟩⟩
theorem k_preVE {C : String} {b : Nat} {As : List Value} {wc : va_W} {E : (Nat → Prop) → State → Prop} (hok : EnvOK E) (hS : va_S A s.heap H locs) (hA : ∀ q, s.heap.size ≤ q → A q) (hE : E A s) (hP : va_P D vwCl ws H) (hD : va_D A ws) (hK : va_K D vwCl (kTy cy) s) (hN : nwOK s) (is : List Nat) (hn : va_nd is = true) (hC : is.map (fun i => ws[i]?) = wc.map some)
    (hr : ∃ cell : Cell, H[b]? = some cell ∧ cell.vm.isStatics = false ∧ s.vm.findClass C = some cell.cls) : PreV s H C b (va_Pc (.ref b :: As) (kPreE D cy H.size wc E)) As :=
  ⟨kPreE.blind hok, hr, (k_preSE (As := .ref b :: As) hok hS hA hE hP hD hK hN is hn hC).2⟩
theorem k_recvO {C : String} {a : Nat} (h : va_O C a A s s.heap) (hS : va_S A s.heap H locs) : ∃ cell : Cell, H[a]? = some cell ∧ cell.vm.isStatics = false ∧ s.vm.findClass C = some cell.cls := by
  obtain ⟨cell, h1, h2, h3, -⟩ := h.kept hS.2.1
  exact ⟨cell, h1, h2, h3⟩
end KE
def libT : String := "get put print stop "
def libB (j : Nat) : Int32 := ([103, 101, 116, 32, 112, 117, 116, 32, 112, 114, 105, 110, 116, 32, 115, 116, 111, 112, 32] : List Int32).getD j 0
def sEnv (sa sv : Nat) (A : Nat → Prop) (U : State) : Prop :=
  vk_R "LinkedUnits$Store" 71 libT sa U ∧ va_O "java/lang/String" sa A U U.heap ∧ va_OF "java/lang/String" "coder" "B" (.int 0) sa A U U.heap ∧ va_OF "java/lang/String" "value" "[B" (.ref sv) sa A U U.heap ∧ va_T .byte sv 19 (fun j => .int (libB j)) A U U.heap ∧ va_Z "java/lang/String" "COMPACT_STRINGS" "Z" (.int 1) A U U.heap ∧ va_Zq "jdk/internal/util/Preconditions" "SIOOBE_FORMATTER" "Ljava/util/function/BiFunction;" A U U.heap
theorem sEnv_ok (sa sv : Nat) : EnvOK (sEnv sa sv) := by
  intro A B s U hW hq hAB h
  obtain ⟨h1, h2, h3, h4, h5, h6, h7⟩ := h
  exact ⟨vk_R.warm hW h1, (va_O.moved hW.alike (h2.kept hq)).narrow hAB, (va_OF.moved hW.alike (h3.kept hq)).narrow hAB, (va_OF.moved hW.alike (h4.kept hq)).narrow hAB, (va_T.moved hW.alike (h5.kept hq)).narrow hAB, (va_Z.moved hW.alike (h6.kept hq)).narrow hAB, (va_Zq.moved hW.alike (h7.kept hq)).narrow hAB⟩
def gE (w : Nat → Nat) (g : Nat → Nat → Int32) (A : Nat → Prop) (U : State) : Prop :=
  va_Z "LinkedUnits$Grammar" "LEVELS" "[I" (.ref (w 0)) A U U.heap ∧ va_T .int (w 0) 18 (fun j => .int (g 0 j)) A U U.heap ∧ va_Z "LinkedUnits$Code" "LENGTHS" "[I" (.ref (w 1)) A U U.heap ∧ va_T .int (w 1) 61 (fun j => .int (g 1 j)) A U U.heap
theorem gE_ok (w : Nat → Nat) (g : Nat → Nat → Int32) : EnvOK (gE w g) := by
  intro A B s U hW hq hAB h
  obtain ⟨h1, h2, h3, h4⟩ := h
  exact ⟨(va_Z.moved hW.alike (h1.kept hq)).narrow hAB, (va_T.moved hW.alike (h2.kept hq)).narrow hAB, (va_Z.moved hW.alike (h3.kept hq)).narrow hAB, (va_T.moved hW.alike (h4.kept hq)).narrow hAB⟩
section SE
variable {s : State} {H : Heap} {locs : List Loc} {D : va_G} {cy : Nat → ClassId} {A : Nat → Prop} {ws : va_W}
theorem s_preE {As : List Value} {E : (Nat → Prop) → State → Prop} (hok : EnvOK E) (hS : va_S A s.heap H locs) (hA : ∀ q, s.heap.size ≤ q → A q) (hE : E A s) (hP : va_P D vwCl ws H) (hD : va_D A ws) (hK : va_K D vwCl (kTy cy) s) (hN : nwOK s) : PreS s H (va_Pc As (kPreE D cy H.size ws E)) As :=
  ⟨kPreE.blind hok, fun U hU hW => ⟨rfl, ((s_pre (As := As) hP hD hK hN).2 U hU hW).2, hok A _ s U hW (fun a h1 h2 => by rw [hU]; exact hS.2.1 a h1 h2) (fun q h => va_free (wc := ws) hD hS hA (List.range ws.length) (range_get ws) q h) hE⟩⟩
theorem s_preVE {C : String} {b : Nat} {As : List Value} {E : (Nat → Prop) → State → Prop} (hok : EnvOK E) (hS : va_S A s.heap H locs) (hA : ∀ q, s.heap.size ≤ q → A q) (hE : E A s) (hP : va_P D vwCl ws H) (hD : va_D A ws) (hK : va_K D vwCl (kTy cy) s) (hN : nwOK s) (q0 : Nat) {ci : Nat} {fs : List Value} {T : u_T} {N : Nat} (he : ws[q0]? = some (b, .inr (ci, fs))) (hc : vwCl[ci]? = some (C, T, N)) : PreV s H C b (va_Pc (.ref b :: As) (kPreE D cy H.size ws E)) As :=
  ⟨kPreE.blind hok, va_recv hK hP hc he, (s_preE (As := .ref b :: As) hok hS hA hE hP hD hK hN).2⟩
end SE
