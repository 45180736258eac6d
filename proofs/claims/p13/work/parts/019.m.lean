section GR
variable {S : Sh} {r : Nat → Nat} {X : Cx} {ex : List ExceptionTableEntry} {cc : ByteArray} {own : String} {ret : Option FieldType} {d : Nat} {Qr : QR} {Qt : QT} {E : (Nat → Prop) → State → Prop} {σ τ : St} {vs : List Nat} {L : List (Nat × Value)} {rest : List Value} {pc : Nat}
def ClsOK (ci : Nat) (C : String) (T : u_T) (N : Nat) (ty : Nat → FieldType) : Prop := vwCl[ci]? = some (C, T, N) ∧ (∀ w ∈ u_ws C T N, w ∈ GW) ∧ (∀ k, k < N → parseFieldDescriptor (T k).2.2.1 = some (ty k)) ∧ (∀ a, a < N → ∀ b, b < N → a ≠ b → (T a).2.1 ≠ (T b).2.1)
def ObOK (S : Sh) (j ci : Nat) (C : String) (T : u_T) (N : Nat) (ty : Nat → FieldType) : Prop := ClsOK ci C T N ty ∧ j < S.2.2.1 ∧ S.1 j = (0, ci, N)
def ArOK (S : Sh) (j t n : Nat) : Prop := t < 4 ∧ j < S.2.2.1 ∧ S.1 j = (t + 1, n, 0)

theorem g_iconst (hF : Fx S r X ex cc own ret d Qr Qt E) {n : Int} {v : Int32} (hd : decode cc pc = .ok (.iconst n, 1)) (hv : Int32.ofInt n = v)
    (k : G S r X σ τ vs L (.int v :: rest) (pc + 1)) : G S r X σ τ vs L rest pc := by
  obtain ⟨p, l, e, R, s, m, args, below, meth, c, A, D, cy, Q, nL, n0⟩ := X
  obtain ⟨hx, hb, hml, hown, hret, hlk, hR, hQ, hg, hNW, hK, hA, hE, hEo, hex⟩ := hF
  intro H locs ls hP hD hS hl h1 h2
  exact lv_iconst hx hb hd hv (k H locs ls hP hD hS hl h1 h2)
theorem g_bipush (hF : Fx S r X ex cc own ret d Qr Qt E) {n : Int} {v : Int32} (hd : decode cc pc = .ok (.bipush n, 2)) (hv : (Int8.ofInt n).toInt32 = v)
    (k : G S r X σ τ vs L (.int v :: rest) (pc + 2)) : G S r X σ τ vs L rest pc := by
  obtain ⟨p, l, e, R, s, m, args, below, meth, c, A, D, cy, Q, nL, n0⟩ := X
  obtain ⟨hx, hb, hml, hown, hret, hlk, hR, hQ, hg, hNW, hK, hA, hE, hEo, hex⟩ := hF
  intro H locs ls hP hD hS hl h1 h2
  exact lv_bipush hx hb hd hv (k H locs ls hP hD hS hl h1 h2)
theorem g_sipush (hF : Fx S r X ex cc own ret d Qr Qt E) {n : Int} {v : Int32} (hd : decode cc pc = .ok (.sipush n, 3)) (hv : (Int16.ofInt n).toInt32 = v)
    (k : G S r X σ τ vs L (.int v :: rest) (pc + 3)) : G S r X σ τ vs L rest pc := by
  obtain ⟨p, l, e, R, s, m, args, below, meth, c, A, D, cy, Q, nL, n0⟩ := X
  obtain ⟨hx, hb, hml, hown, hret, hlk, hR, hQ, hg, hNW, hK, hA, hE, hEo, hex⟩ := hF
  intro H locs ls hP hD hS hl h1 h2
  exact lv_sipush hx hb hd hv (k H locs ls hP hD hS hl h1 h2)
theorem g_ldc (hF : Fx S r X ex cc own ret d Qr Qt E) {i : Nat} {v : Int32} (hw : Cond.constant own i v ∈ GW) (hd : decode cc pc = .ok (.ldc i, 2))
    (k : G S r X σ τ vs L (.int v :: rest) (pc + 2)) : G S r X σ τ vs L rest pc := by
  obtain ⟨p, l, e, R, s, m, args, below, meth, c, A, D, cy, Q, nL, n0⟩ := X
  obtain ⟨hx, hb, hml, hown, hret, hlk, hR, hQ, hg, hNW, hK, hA, hE, hEo, hex⟩ := hF
  intro H locs ls hP hD hS hl h1 h2
  exact lv_ldc hx hb hown (hg _ hw) hd (k H locs ls hP hD hS hl h1 h2)
theorem g_iload_n (hF : Fx S r X ex cc own ret d Qr Qt E) {q : Fin 4} {i : Nat} {x : Int32} (hd : decode cc pc = .ok (.iload_n q, 1)) (hi : (q : Nat) = i) (z : Nat) (hz : L[z]? = some (i, .int x))
    (k : G S r X σ τ vs L (.int x :: rest) (pc + 1)) : G S r X σ τ vs L rest pc := by
  obtain ⟨p, l, e, R, s, m, args, below, meth, c, A, D, cy, Q, nL, n0⟩ := X
  obtain ⟨hx, hb, hml, hown, hret, hlk, hR, hQ, hg, hNW, hK, hA, hE, hEo, hex⟩ := hF
  intro H locs ls hP hD hS hl h1 h2
  exact lv_iload_n hx hb hd hi (lv_at hl z hz) (k H locs ls hP hD hS hl h1 h2)
theorem g_iload (hF : Fx S r X ex cc own ret d Qr Qt E) {i : Nat} {x : Int32} (hd : decode cc pc = .ok (.iload i, 2)) (z : Nat) (hz : L[z]? = some (i, .int x))
    (k : G S r X σ τ vs L (.int x :: rest) (pc + 2)) : G S r X σ τ vs L rest pc := by
  obtain ⟨p, l, e, R, s, m, args, below, meth, c, A, D, cy, Q, nL, n0⟩ := X
  obtain ⟨hx, hb, hml, hown, hret, hlk, hR, hQ, hg, hNW, hK, hA, hE, hEo, hex⟩ := hF
  intro H locs ls hP hD hS hl h1 h2
  exact lv_iload hx hb hd (lv_at hl z hz) (k H locs ls hP hD hS hl h1 h2)
theorem g_aload_n (hF : Fx S r X ex cc own ret d Qr Qt E) {q : Fin 4} {i : Nat} {x : Nat} (hd : decode cc pc = .ok (.aload_n q, 1)) (hi : (q : Nat) = i) (z : Nat) (hz : L[z]? = some (i, .ref x))
    (k : G S r X σ τ vs L (.ref x :: rest) (pc + 1)) : G S r X σ τ vs L rest pc := by
  obtain ⟨p, l, e, R, s, m, args, below, meth, c, A, D, cy, Q, nL, n0⟩ := X
  obtain ⟨hx, hb, hml, hown, hret, hlk, hR, hQ, hg, hNW, hK, hA, hE, hEo, hex⟩ := hF
  intro H locs ls hP hD hS hl h1 h2
  exact lv_aload_n hx hb hd hi (lv_at hl z hz) (k H locs ls hP hD hS hl h1 h2)
theorem g_aload (hF : Fx S r X ex cc own ret d Qr Qt E) {i : Nat} {x : Nat} (hd : decode cc pc = .ok (.aload i, 2)) (z : Nat) (hz : L[z]? = some (i, .ref x))
    (k : G S r X σ τ vs L (.ref x :: rest) (pc + 2)) : G S r X σ τ vs L rest pc := by
  obtain ⟨p, l, e, R, s, m, args, below, meth, c, A, D, cy, Q, nL, n0⟩ := X
  obtain ⟨hx, hb, hml, hown, hret, hlk, hR, hQ, hg, hNW, hK, hA, hE, hEo, hex⟩ := hF
  intro H locs ls hP hD hS hl h1 h2
  exact lv_aload hx hb hd (lv_at hl z hz) (k H locs ls hP hD hS hl h1 h2)
theorem g_lload_n (hF : Fx S r X ex cc own ret d Qr Qt E) {q : Fin 4} {i : Nat} {x : Int64} (hd : decode cc pc = .ok (.lload_n q, 1)) (hi : (q : Nat) = i) (z : Nat) (hz : L[z]? = some (i, .long x))
    (k : G S r X σ τ vs L (.long x :: rest) (pc + 1)) : G S r X σ τ vs L rest pc := by
  obtain ⟨p, l, e, R, s, m, args, below, meth, c, A, D, cy, Q, nL, n0⟩ := X
  obtain ⟨hx, hb, hml, hown, hret, hlk, hR, hQ, hg, hNW, hK, hA, hE, hEo, hex⟩ := hF
  intro H locs ls hP hD hS hl h1 h2
  exact lv_lload_n hx hb hd hi (lv_at hl z hz) (k H locs ls hP hD hS hl h1 h2)
theorem g_lload (hF : Fx S r X ex cc own ret d Qr Qt E) {i : Nat} {x : Int64} (hd : decode cc pc = .ok (.lload i, 2)) (z : Nat) (hz : L[z]? = some (i, .long x))
    (k : G S r X σ τ vs L (.long x :: rest) (pc + 2)) : G S r X σ τ vs L rest pc := by
  obtain ⟨p, l, e, R, s, m, args, below, meth, c, A, D, cy, Q, nL, n0⟩ := X
  obtain ⟨hx, hb, hml, hown, hret, hlk, hR, hQ, hg, hNW, hK, hA, hE, hEo, hex⟩ := hF
  intro H locs ls hP hD hS hl h1 h2
  exact lv_lload hx hb hd (lv_at hl z hz) (k H locs ls hP hD hS hl h1 h2)
theorem g_istore_n (hF : Fx S r X ex cc own ret d Qr Qt E) {nn : Nat} {q : Fin 4} {i : Nat} {x : Int32} (L' : List (Nat × Value)) (hd : decode cc pc = .ok (.istore_n q, 1)) (hi : (q : Nat) = i) (hnn : X.2.2.2.2.2.2.2.2.2.2.2.2.2.2.1 = nn) (hn : i < nn) (hL : (i, Value.int x) :: L.filter (fun q => !(q.1 == i) && !(q.1 + 1 == i && q.2.category == 2)) = L')
    (k : G S r X σ τ vs L' rest (pc + 1)) : G S r X σ τ vs L (.int x :: rest) pc := by
  obtain ⟨p, l, e, R, s, m, args, below, meth, c, A, D, cy, Q, nL, n0⟩ := X
  obtain ⟨hx, hb, hml, hown, hret, hlk, hR, hQ, hg, hNW, hK, hA, hE, hEo, hex⟩ := hF
  intro H locs ls hP hD hS hl h1 h2
  subst hnn
  exact lv_istore_n hx hb hd hi hl hn hL (fun ls hl => k H locs ls hP hD hS hl h1 h2)
theorem g_istore (hF : Fx S r X ex cc own ret d Qr Qt E) {nn : Nat} {i : Nat} {x : Int32} (L' : List (Nat × Value)) (hd : decode cc pc = .ok (.istore i, 2)) (hnn : X.2.2.2.2.2.2.2.2.2.2.2.2.2.2.1 = nn) (hn : i < nn) (hL : (i, Value.int x) :: L.filter (fun q => !(q.1 == i) && !(q.1 + 1 == i && q.2.category == 2)) = L')
    (k : G S r X σ τ vs L' rest (pc + 2)) : G S r X σ τ vs L (.int x :: rest) pc := by
  obtain ⟨p, l, e, R, s, m, args, below, meth, c, A, D, cy, Q, nL, n0⟩ := X
  obtain ⟨hx, hb, hml, hown, hret, hlk, hR, hQ, hg, hNW, hK, hA, hE, hEo, hex⟩ := hF
  intro H locs ls hP hD hS hl h1 h2
  subst hnn
  exact lv_istore hx hb hd hl hn hL (fun ls hl => k H locs ls hP hD hS hl h1 h2)
theorem g_astore_n (hF : Fx S r X ex cc own ret d Qr Qt E) {nn : Nat} {q : Fin 4} {i : Nat} {x : Nat} (L' : List (Nat × Value)) (hd : decode cc pc = .ok (.astore_n q, 1)) (hi : (q : Nat) = i) (hnn : X.2.2.2.2.2.2.2.2.2.2.2.2.2.2.1 = nn) (hn : i < nn) (hL : (i, Value.ref x) :: L.filter (fun q => !(q.1 == i) && !(q.1 + 1 == i && q.2.category == 2)) = L')
    (k : G S r X σ τ vs L' rest (pc + 1)) : G S r X σ τ vs L (.ref x :: rest) pc := by
  obtain ⟨p, l, e, R, s, m, args, below, meth, c, A, D, cy, Q, nL, n0⟩ := X
  obtain ⟨hx, hb, hml, hown, hret, hlk, hR, hQ, hg, hNW, hK, hA, hE, hEo, hex⟩ := hF
  intro H locs ls hP hD hS hl h1 h2
  subst hnn
  exact lv_astore_n hx hb hd hi hl hn hL (fun ls hl => k H locs ls hP hD hS hl h1 h2)
theorem g_astore (hF : Fx S r X ex cc own ret d Qr Qt E) {nn : Nat} {i : Nat} {x : Nat} (L' : List (Nat × Value)) (hd : decode cc pc = .ok (.astore i, 2)) (hnn : X.2.2.2.2.2.2.2.2.2.2.2.2.2.2.1 = nn) (hn : i < nn) (hL : (i, Value.ref x) :: L.filter (fun q => !(q.1 == i) && !(q.1 + 1 == i && q.2.category == 2)) = L')
    (k : G S r X σ τ vs L' rest (pc + 2)) : G S r X σ τ vs L (.ref x :: rest) pc := by
  obtain ⟨p, l, e, R, s, m, args, below, meth, c, A, D, cy, Q, nL, n0⟩ := X
  obtain ⟨hx, hb, hml, hown, hret, hlk, hR, hQ, hg, hNW, hK, hA, hE, hEo, hex⟩ := hF
  intro H locs ls hP hD hS hl h1 h2
  subst hnn
  exact lv_astore hx hb hd hl hn hL (fun ls hl => k H locs ls hP hD hS hl h1 h2)
theorem g_lstore_n (hF : Fx S r X ex cc own ret d Qr Qt E) {nn : Nat} {q : Fin 4} {i : Nat} {x : Int64} (L' : List (Nat × Value)) (hd : decode cc pc = .ok (.lstore_n q, 1)) (hi : (q : Nat) = i) (hnn : X.2.2.2.2.2.2.2.2.2.2.2.2.2.2.1 = nn) (hn : i + 1 < nn) (hL : (i, Value.long x) :: L.filter (fun q => !(q.1 == i) && (!(q.1 == i + 1) && !(q.1 + 1 == i && q.2.category == 2))) = L')
    (k : G S r X σ τ vs L' rest (pc + 1)) : G S r X σ τ vs L (.long x :: rest) pc := by
  obtain ⟨p, l, e, R, s, m, args, below, meth, c, A, D, cy, Q, nL, n0⟩ := X
  obtain ⟨hx, hb, hml, hown, hret, hlk, hR, hQ, hg, hNW, hK, hA, hE, hEo, hex⟩ := hF
  intro H locs ls hP hD hS hl h1 h2
  subst hnn
  exact lv_lstore_n hx hb hd hi hl hn hL (fun ls hl => k H locs ls hP hD hS hl h1 h2)
theorem g_lstore (hF : Fx S r X ex cc own ret d Qr Qt E) {nn : Nat} {i : Nat} {x : Int64} (L' : List (Nat × Value)) (hd : decode cc pc = .ok (.lstore i, 2)) (hnn : X.2.2.2.2.2.2.2.2.2.2.2.2.2.2.1 = nn) (hn : i + 1 < nn) (hL : (i, Value.long x) :: L.filter (fun q => !(q.1 == i) && (!(q.1 == i + 1) && !(q.1 + 1 == i && q.2.category == 2))) = L')
    (k : G S r X σ τ vs L' rest (pc + 2)) : G S r X σ τ vs L (.long x :: rest) pc := by
  obtain ⟨p, l, e, R, s, m, args, below, meth, c, A, D, cy, Q, nL, n0⟩ := X
  obtain ⟨hx, hb, hml, hown, hret, hlk, hR, hQ, hg, hNW, hK, hA, hE, hEo, hex⟩ := hF
  intro H locs ls hP hD hS hl h1 h2
  subst hnn
  exact lv_lstore hx hb hd hl hn hL (fun ls hl => k H locs ls hP hD hS hl h1 h2)
theorem g_iinc (hF : Fx S r X ex cc own ret d Qr Qt E) {nn : Nat} {i : Nat} {a : Int} {x : Int32} (v : Int32) (L' : List (Nat × Value)) (hd : decode cc pc = .ok (.iinc i a, 3)) (z : Nat) (hz : L[z]? = some (i, .int x)) (hv : x + Int32.ofInt a = v) (hnn : X.2.2.2.2.2.2.2.2.2.2.2.2.2.2.1 = nn) (hn : i < nn) (hL : (i, Value.int v) :: L.filter (fun q => !(q.1 == i) && !(q.1 + 1 == i && q.2.category == 2)) = L')
    (k : G S r X σ τ vs L' rest (pc + 3)) : G S r X σ τ vs L rest pc := by
  obtain ⟨p, l, e, R, s, m, args, below, meth, c, A, D, cy, Q, nL, n0⟩ := X
  obtain ⟨hx, hb, hml, hown, hret, hlk, hR, hQ, hg, hNW, hK, hA, hE, hEo, hex⟩ := hF
  intro H locs ls hP hD hS hl h1 h2
  subst hnn
  exact lv_iinc hx hb hd hl (k := z) hz hv hn hL (fun ls hl => k H locs ls hP hD hS hl h1 h2)
theorem g_dup (hF : Fx S r X ex cc own ret d Qr Qt E) {va : Value} (hd : decode cc pc = .ok (.dup, 1)) (hv : va.category = 1)
    (k : G S r X σ τ vs L (va :: va :: rest) (pc + 1)) : G S r X σ τ vs L (va :: rest) pc := by
  obtain ⟨p, l, e, R, s, m, args, below, meth, c, A, D, cy, Q, nL, n0⟩ := X
  obtain ⟨hx, hb, hml, hown, hret, hlk, hR, hQ, hg, hNW, hK, hA, hE, hEo, hex⟩ := hF
  intro H locs ls hP hD hS hl h1 h2
  exact lv_dup hx hb hd hv (k H locs ls hP hD hS hl h1 h2)
theorem g_pop (hF : Fx S r X ex cc own ret d Qr Qt E) {va : Value} (hd : decode cc pc = .ok (.pop, 1)) (hv : va.category = 1)
    (k : G S r X σ τ vs L rest (pc + 1)) : G S r X σ τ vs L (va :: rest) pc := by
  obtain ⟨p, l, e, R, s, m, args, below, meth, c, A, D, cy, Q, nL, n0⟩ := X
  obtain ⟨hx, hb, hml, hown, hret, hlk, hR, hQ, hg, hNW, hK, hA, hE, hEo, hex⟩ := hF
  intro H locs ls hP hD hS hl h1 h2
  exact lv_pop hx hb hd hv (k H locs ls hP hD hS hl h1 h2)
theorem g_iadd (hF : Fx S r X ex cc own ret d Qr Qt E) {x y : Int32} (hd : decode cc pc = .ok (.iadd, 1))
    (k : G S r X σ τ vs L (.int (x + y) :: rest) (pc + 1)) : G S r X σ τ vs L (.int y :: .int x :: rest) pc := by
  obtain ⟨p, l, e, R, s, m, args, below, meth, c, A, D, cy, Q, nL, n0⟩ := X
  obtain ⟨hx, hb, hml, hown, hret, hlk, hR, hQ, hg, hNW, hK, hA, hE, hEo, hex⟩ := hF
  intro H locs ls hP hD hS hl h1 h2
  exact lv_iadd hx hb hd (k H locs ls hP hD hS hl h1 h2)
theorem g_isub (hF : Fx S r X ex cc own ret d Qr Qt E) {x y : Int32} (hd : decode cc pc = .ok (.isub, 1))
    (k : G S r X σ τ vs L (.int (x - y) :: rest) (pc + 1)) : G S r X σ τ vs L (.int y :: .int x :: rest) pc := by
  obtain ⟨p, l, e, R, s, m, args, below, meth, c, A, D, cy, Q, nL, n0⟩ := X
  obtain ⟨hx, hb, hml, hown, hret, hlk, hR, hQ, hg, hNW, hK, hA, hE, hEo, hex⟩ := hF
  intro H locs ls hP hD hS hl h1 h2
  exact lv_isub hx hb hd (k H locs ls hP hD hS hl h1 h2)
theorem g_imul (hF : Fx S r X ex cc own ret d Qr Qt E) {x y : Int32} (hd : decode cc pc = .ok (.imul, 1))
    (k : G S r X σ τ vs L (.int (x * y) :: rest) (pc + 1)) : G S r X σ τ vs L (.int y :: .int x :: rest) pc := by
  obtain ⟨p, l, e, R, s, m, args, below, meth, c, A, D, cy, Q, nL, n0⟩ := X
  obtain ⟨hx, hb, hml, hown, hret, hlk, hR, hQ, hg, hNW, hK, hA, hE, hEo, hex⟩ := hF
  intro H locs ls hP hD hS hl h1 h2
  exact lv_imul hx hb hd (k H locs ls hP hD hS hl h1 h2)
theorem g_iand (hF : Fx S r X ex cc own ret d Qr Qt E) {x y : Int32} (hd : decode cc pc = .ok (.iand, 1))
    (k : G S r X σ τ vs L (.int (x &&& y) :: rest) (pc + 1)) : G S r X σ τ vs L (.int y :: .int x :: rest) pc := by
  obtain ⟨p, l, e, R, s, m, args, below, meth, c, A, D, cy, Q, nL, n0⟩ := X
  obtain ⟨hx, hb, hml, hown, hret, hlk, hR, hQ, hg, hNW, hK, hA, hE, hEo, hex⟩ := hF
  intro H locs ls hP hD hS hl h1 h2
  exact lv_iand hx hb hd (k H locs ls hP hD hS hl h1 h2)
theorem g_ior (hF : Fx S r X ex cc own ret d Qr Qt E) {x y : Int32} (hd : decode cc pc = .ok (.ior, 1))
    (k : G S r X σ τ vs L (.int (x ||| y) :: rest) (pc + 1)) : G S r X σ τ vs L (.int y :: .int x :: rest) pc := by
  obtain ⟨p, l, e, R, s, m, args, below, meth, c, A, D, cy, Q, nL, n0⟩ := X
  obtain ⟨hx, hb, hml, hown, hret, hlk, hR, hQ, hg, hNW, hK, hA, hE, hEo, hex⟩ := hF
  intro H locs ls hP hD hS hl h1 h2
  exact lv_ior hx hb hd (k H locs ls hP hD hS hl h1 h2)
theorem g_ixor (hF : Fx S r X ex cc own ret d Qr Qt E) {x y : Int32} (hd : decode cc pc = .ok (.ixor, 1))
    (k : G S r X σ τ vs L (.int (x ^^^ y) :: rest) (pc + 1)) : G S r X σ τ vs L (.int y :: .int x :: rest) pc := by
  obtain ⟨p, l, e, R, s, m, args, below, meth, c, A, D, cy, Q, nL, n0⟩ := X
  obtain ⟨hx, hb, hml, hown, hret, hlk, hR, hQ, hg, hNW, hK, hA, hE, hEo, hex⟩ := hF
  intro H locs ls hP hD hS hl h1 h2
  exact lv_ixor hx hb hd (k H locs ls hP hD hS hl h1 h2)
theorem g_ishl (hF : Fx S r X ex cc own ret d Qr Qt E) {x y : Int32} (hd : decode cc pc = .ok (.ishl, 1))
    (k : G S r X σ τ vs L (.int (x <<< (y &&& 31)) :: rest) (pc + 1)) : G S r X σ τ vs L (.int y :: .int x :: rest) pc := by
  obtain ⟨p, l, e, R, s, m, args, below, meth, c, A, D, cy, Q, nL, n0⟩ := X
  obtain ⟨hx, hb, hml, hown, hret, hlk, hR, hQ, hg, hNW, hK, hA, hE, hEo, hex⟩ := hF
  intro H locs ls hP hD hS hl h1 h2
  exact lv_ishl hx hb hd (k H locs ls hP hD hS hl h1 h2)
theorem g_ishr (hF : Fx S r X ex cc own ret d Qr Qt E) {x y : Int32} (hd : decode cc pc = .ok (.ishr, 1))
    (k : G S r X σ τ vs L (.int (x >>> (y &&& 31)) :: rest) (pc + 1)) : G S r X σ τ vs L (.int y :: .int x :: rest) pc := by
  obtain ⟨p, l, e, R, s, m, args, below, meth, c, A, D, cy, Q, nL, n0⟩ := X
  obtain ⟨hx, hb, hml, hown, hret, hlk, hR, hQ, hg, hNW, hK, hA, hE, hEo, hex⟩ := hF
  intro H locs ls hP hD hS hl h1 h2
  exact lv_ishr hx hb hd (k H locs ls hP hD hS hl h1 h2)
theorem g_iushr (hF : Fx S r X ex cc own ret d Qr Qt E) {x y : Int32} (hd : decode cc pc = .ok (.iushr, 1))
    (k : G S r X σ τ vs L (.int ((x.toUInt32 >>> (y.toUInt32 &&& Int32.toUInt32 31)).toInt32) :: rest) (pc + 1)) : G S r X σ τ vs L (.int y :: .int x :: rest) pc := by
  obtain ⟨p, l, e, R, s, m, args, below, meth, c, A, D, cy, Q, nL, n0⟩ := X
  obtain ⟨hx, hb, hml, hown, hret, hlk, hR, hQ, hg, hNW, hK, hA, hE, hEo, hex⟩ := hF
  intro H locs ls hP hD hS hl h1 h2
  exact lv_iushr hx hb hd rfl (k H locs ls hP hD hS hl h1 h2)
theorem g_idiv (hF : Fx S r X ex cc own ret d Qr Qt E) {x y : Int32} (hd : decode cc pc = .ok (.idiv, 1)) (hne : ¬ y = 0)
    (k : G S r X σ τ vs L (.int (x / y) :: rest) (pc + 1)) : G S r X σ τ vs L (.int y :: .int x :: rest) pc := by
  obtain ⟨p, l, e, R, s, m, args, below, meth, c, A, D, cy, Q, nL, n0⟩ := X
  obtain ⟨hx, hb, hml, hown, hret, hlk, hR, hQ, hg, hNW, hK, hA, hE, hEo, hex⟩ := hF
  intro H locs ls hP hD hS hl h1 h2
  exact lv_idiv hx hb hd hne (k H locs ls hP hD hS hl h1 h2)
theorem g_irem (hF : Fx S r X ex cc own ret d Qr Qt E) {x y : Int32} (hd : decode cc pc = .ok (.irem, 1)) (hne : ¬ y = 0)
    (k : G S r X σ τ vs L (.int (x - x / y * y) :: rest) (pc + 1)) : G S r X σ τ vs L (.int y :: .int x :: rest) pc := by
  obtain ⟨p, l, e, R, s, m, args, below, meth, c, A, D, cy, Q, nL, n0⟩ := X
  obtain ⟨hx, hb, hml, hown, hret, hlk, hR, hQ, hg, hNW, hK, hA, hE, hEo, hex⟩ := hF
  intro H locs ls hP hD hS hl h1 h2
  exact lv_irem hx hb hd hne (k H locs ls hP hD hS hl h1 h2)
theorem g_ineg (hF : Fx S r X ex cc own ret d Qr Qt E) {x : Int32} (hd : decode cc pc = .ok (.ineg, 1))
    (k : G S r X σ τ vs L (.int (-x) :: rest) (pc + 1)) : G S r X σ τ vs L (.int x :: rest) pc := by
  obtain ⟨p, l, e, R, s, m, args, below, meth, c, A, D, cy, Q, nL, n0⟩ := X
  obtain ⟨hx, hb, hml, hown, hret, hlk, hR, hQ, hg, hNW, hK, hA, hE, hEo, hex⟩ := hF
  intro H locs ls hP hD hS hl h1 h2
  exact lv_ineg hx hb hd (k H locs ls hP hD hS hl h1 h2)
theorem g_i2b (hF : Fx S r X ex cc own ret d Qr Qt E) {x : Int32} (hd : decode cc pc = .ok (.i2b, 1))
    (k : G S r X σ τ vs L (.int x.toInt8.toInt32 :: rest) (pc + 1)) : G S r X σ τ vs L (.int x :: rest) pc := by
  obtain ⟨p, l, e, R, s, m, args, below, meth, c, A, D, cy, Q, nL, n0⟩ := X
  obtain ⟨hx, hb, hml, hown, hret, hlk, hR, hQ, hg, hNW, hK, hA, hE, hEo, hex⟩ := hF
  intro H locs ls hP hD hS hl h1 h2
  exact lv_i2b hx hb hd rfl (k H locs ls hP hD hS hl h1 h2)
theorem g_i2l (hF : Fx S r X ex cc own ret d Qr Qt E) {x : Int32} (hd : decode cc pc = .ok (.i2l, 1))
    (k : G S r X σ τ vs L (.long x.toInt64 :: rest) (pc + 1)) : G S r X σ τ vs L (.int x :: rest) pc := by
  obtain ⟨p, l, e, R, s, m, args, below, meth, c, A, D, cy, Q, nL, n0⟩ := X
  obtain ⟨hx, hb, hml, hown, hret, hlk, hR, hQ, hg, hNW, hK, hA, hE, hEo, hex⟩ := hF
  intro H locs ls hP hD hS hl h1 h2
  exact lv_i2l hx hb hd rfl (k H locs ls hP hD hS hl h1 h2)
theorem g_l2i (hF : Fx S r X ex cc own ret d Qr Qt E) {x : Int64} (hd : decode cc pc = .ok (.l2i, 1))
    (k : G S r X σ τ vs L (.int x.toInt32 :: rest) (pc + 1)) : G S r X σ τ vs L (.long x :: rest) pc := by
  obtain ⟨p, l, e, R, s, m, args, below, meth, c, A, D, cy, Q, nL, n0⟩ := X
  obtain ⟨hx, hb, hml, hown, hret, hlk, hR, hQ, hg, hNW, hK, hA, hE, hEo, hex⟩ := hF
  intro H locs ls hP hD hS hl h1 h2
  exact lv_l2i hx hb hd rfl (k H locs ls hP hD hS hl h1 h2)
theorem g_ladd (hF : Fx S r X ex cc own ret d Qr Qt E) {x y : Int64} (hd : decode cc pc = .ok (.ladd, 1))
    (k : G S r X σ τ vs L (.long (x + y) :: rest) (pc + 1)) : G S r X σ τ vs L (.long y :: .long x :: rest) pc := by
  obtain ⟨p, l, e, R, s, m, args, below, meth, c, A, D, cy, Q, nL, n0⟩ := X
  obtain ⟨hx, hb, hml, hown, hret, hlk, hR, hQ, hg, hNW, hK, hA, hE, hEo, hex⟩ := hF
  intro H locs ls hP hD hS hl h1 h2
  exact lv_ladd hx hb hd (k H locs ls hP hD hS hl h1 h2)
theorem g_lsub (hF : Fx S r X ex cc own ret d Qr Qt E) {x y : Int64} (hd : decode cc pc = .ok (.lsub, 1))
    (k : G S r X σ τ vs L (.long (x - y) :: rest) (pc + 1)) : G S r X σ τ vs L (.long y :: .long x :: rest) pc := by
  obtain ⟨p, l, e, R, s, m, args, below, meth, c, A, D, cy, Q, nL, n0⟩ := X
  obtain ⟨hx, hb, hml, hown, hret, hlk, hR, hQ, hg, hNW, hK, hA, hE, hEo, hex⟩ := hF
  intro H locs ls hP hD hS hl h1 h2
  exact lv_lsub hx hb hd (k H locs ls hP hD hS hl h1 h2)
theorem g_lmul (hF : Fx S r X ex cc own ret d Qr Qt E) {x y : Int64} (hd : decode cc pc = .ok (.lmul, 1))
    (k : G S r X σ τ vs L (.long (x * y) :: rest) (pc + 1)) : G S r X σ τ vs L (.long y :: .long x :: rest) pc := by
  obtain ⟨p, l, e, R, s, m, args, below, meth, c, A, D, cy, Q, nL, n0⟩ := X
  obtain ⟨hx, hb, hml, hown, hret, hlk, hR, hQ, hg, hNW, hK, hA, hE, hEo, hex⟩ := hF
  intro H locs ls hP hD hS hl h1 h2
  exact lv_lmul hx hb hd (k H locs ls hP hD hS hl h1 h2)
theorem g_ldiv (hF : Fx S r X ex cc own ret d Qr Qt E) {x y : Int64} (hd : decode cc pc = .ok (.ldiv, 1)) (hne : ¬ y = 0)
    (k : G S r X σ τ vs L (.long (x / y) :: rest) (pc + 1)) : G S r X σ τ vs L (.long y :: .long x :: rest) pc := by
  obtain ⟨p, l, e, R, s, m, args, below, meth, c, A, D, cy, Q, nL, n0⟩ := X
  obtain ⟨hx, hb, hml, hown, hret, hlk, hR, hQ, hg, hNW, hK, hA, hE, hEo, hex⟩ := hF
  intro H locs ls hP hD hS hl h1 h2
  exact lv_ldiv hx hb hd hne (k H locs ls hP hD hS hl h1 h2)
theorem g_lrem (hF : Fx S r X ex cc own ret d Qr Qt E) {x y : Int64} (hd : decode cc pc = .ok (.lrem, 1)) (hne : ¬ y = 0)
    (k : G S r X σ τ vs L (.long (x - x / y * y) :: rest) (pc + 1)) : G S r X σ τ vs L (.long y :: .long x :: rest) pc := by
  obtain ⟨p, l, e, R, s, m, args, below, meth, c, A, D, cy, Q, nL, n0⟩ := X
  obtain ⟨hx, hb, hml, hown, hret, hlk, hR, hQ, hg, hNW, hK, hA, hE, hEo, hex⟩ := hF
  intro H locs ls hP hD hS hl h1 h2
  exact lv_lrem hx hb hd hne (k H locs ls hP hD hS hl h1 h2)
theorem g_lneg (hF : Fx S r X ex cc own ret d Qr Qt E) {x : Int64} (hd : decode cc pc = .ok (.lneg, 1))
    (k : G S r X σ τ vs L (.long (-x) :: rest) (pc + 1)) : G S r X σ τ vs L (.long x :: rest) pc := by
  obtain ⟨p, l, e, R, s, m, args, below, meth, c, A, D, cy, Q, nL, n0⟩ := X
  obtain ⟨hx, hb, hml, hown, hret, hlk, hR, hQ, hg, hNW, hK, hA, hE, hEo, hex⟩ := hF
  intro H locs ls hP hD hS hl h1 h2
  exact lv_lneg hx hb hd (k H locs ls hP hD hS hl h1 h2)
theorem g_goto (hF : Fx S r X ex cc own ret d Qr Qt E) {off : Int} (tgt : Nat) (hd : decode cc pc = .ok (.goto off, 3)) (ht : (pc : Int) + off = (tgt : Int))
    (k : G S r X σ τ vs L rest tgt) : G S r X σ τ vs L rest pc := by
  obtain ⟨p, l, e, R, s, m, args, below, meth, c, A, D, cy, Q, nL, n0⟩ := X
  obtain ⟨hx, hb, hml, hown, hret, hlk, hR, hQ, hg, hNW, hK, hA, hE, hEo, hex⟩ := hF
  intro H locs ls hP hD hS hl h1 h2
  exact lv_goto hx hb hd ht (k H locs ls hP hD hS hl h1 h2)
theorem i_eq {x y : Int32} : x = y ↔ x.toInt = y.toInt := Int32.toInt_inj.symm
theorem i_lt {x y : Int32} : x < y ↔ x.toInt < y.toInt := Int32.lt_iff_toInt_lt
theorem i_le {x y : Int32} : x ≤ y ↔ x.toInt ≤ y.toInt := Int32.le_iff_toInt_le
theorem g_icmp_eq (hF : Fx S r X ex cc own ret d Qr Qt E) {x y : Int32} {xv yv : Int} {off : Int} (tgt : Nat) (hd : decode cc pc = .ok (.if_icmp .eq off, 3)) (ht : (pc : Int) + off = (tgt : Int)) (hxv : x.toInt = xv) (hyv : y.toInt = yv)
    (kt : xv = yv → G S r X σ τ vs L rest tgt) (kf : xv ≠ yv → G S r X σ τ vs L rest (pc + 3)) : G S r X σ τ vs L (.int y :: .int x :: rest) pc := by
  obtain ⟨p, l, e, R, s, m, args, below, meth, c, A, D, cy, Q, nL, n0⟩ := X
  obtain ⟨hx, hb, hml, hown, hret, hlk, hR, hQ, hg, hNW, hK, hA, hE, hEo, hex⟩ := hF
  intro H locs ls hP hD hS hl h1 h2
  exact lv_icmp_eq hx hb hd ht (fun h9 => kt (by rw [i_eq] at h9; omega) H locs ls hP hD hS hl h1 h2) (fun h9 => kf (by rw [i_eq] at h9; omega) H locs ls hP hD hS hl h1 h2)
theorem g_if_eq (hF : Fx S r X ex cc own ret d Qr Qt E) {x : Int32} {xv : Int} {off : Int} (tgt : Nat) (hd : decode cc pc = .ok (.ifCond .eq off, 3)) (ht : (pc : Int) + off = (tgt : Int)) (hxv : x.toInt = xv)
    (kt : xv = 0 → G S r X σ τ vs L rest tgt) (kf : xv ≠ 0 → G S r X σ τ vs L rest (pc + 3)) : G S r X σ τ vs L (.int x :: rest) pc := by
  obtain ⟨p, l, e, R, s, m, args, below, meth, c, A, D, cy, Q, nL, n0⟩ := X
  obtain ⟨hx, hb, hml, hown, hret, hlk, hR, hQ, hg, hNW, hK, hA, hE, hEo, hex⟩ := hF
  intro H locs ls hP hD hS hl h1 h2
  have e0 := (show (0 : Int32).toInt = 0 by decide)
  exact lv_if_eq hx hb hd ht (fun h9 => kt (by rw [i_eq, e0] at h9; omega) H locs ls hP hD hS hl h1 h2) (fun h9 => kf (by rw [i_eq, e0] at h9; omega) H locs ls hP hD hS hl h1 h2)
theorem g_icmp_ne (hF : Fx S r X ex cc own ret d Qr Qt E) {x y : Int32} {xv yv : Int} {off : Int} (tgt : Nat) (hd : decode cc pc = .ok (.if_icmp .ne off, 3)) (ht : (pc : Int) + off = (tgt : Int)) (hxv : x.toInt = xv) (hyv : y.toInt = yv)
    (kt : xv ≠ yv → G S r X σ τ vs L rest tgt) (kf : xv = yv → G S r X σ τ vs L rest (pc + 3)) : G S r X σ τ vs L (.int y :: .int x :: rest) pc := by
  obtain ⟨p, l, e, R, s, m, args, below, meth, c, A, D, cy, Q, nL, n0⟩ := X
  obtain ⟨hx, hb, hml, hown, hret, hlk, hR, hQ, hg, hNW, hK, hA, hE, hEo, hex⟩ := hF
  intro H locs ls hP hD hS hl h1 h2
  exact lv_icmp_ne hx hb hd ht (fun h9 => kt (by rw [i_eq] at h9; omega) H locs ls hP hD hS hl h1 h2) (fun h9 => kf (by rw [i_eq] at h9; omega) H locs ls hP hD hS hl h1 h2)
theorem g_if_ne (hF : Fx S r X ex cc own ret d Qr Qt E) {x : Int32} {xv : Int} {off : Int} (tgt : Nat) (hd : decode cc pc = .ok (.ifCond .ne off, 3)) (ht : (pc : Int) + off = (tgt : Int)) (hxv : x.toInt = xv)
    (kt : xv ≠ 0 → G S r X σ τ vs L rest tgt) (kf : xv = 0 → G S r X σ τ vs L rest (pc + 3)) : G S r X σ τ vs L (.int x :: rest) pc := by
  obtain ⟨p, l, e, R, s, m, args, below, meth, c, A, D, cy, Q, nL, n0⟩ := X
  obtain ⟨hx, hb, hml, hown, hret, hlk, hR, hQ, hg, hNW, hK, hA, hE, hEo, hex⟩ := hF
  intro H locs ls hP hD hS hl h1 h2
  have e0 := (show (0 : Int32).toInt = 0 by decide)
  exact lv_if_ne hx hb hd ht (fun h9 => kt (by rw [i_eq, e0] at h9; omega) H locs ls hP hD hS hl h1 h2) (fun h9 => kf (by rw [i_eq, e0] at h9; omega) H locs ls hP hD hS hl h1 h2)
theorem g_icmp_lt (hF : Fx S r X ex cc own ret d Qr Qt E) {x y : Int32} {xv yv : Int} {off : Int} (tgt : Nat) (hd : decode cc pc = .ok (.if_icmp .lt off, 3)) (ht : (pc : Int) + off = (tgt : Int)) (hxv : x.toInt = xv) (hyv : y.toInt = yv)
    (kt : xv < yv → G S r X σ τ vs L rest tgt) (kf : yv ≤ xv → G S r X σ τ vs L rest (pc + 3)) : G S r X σ τ vs L (.int y :: .int x :: rest) pc := by
  obtain ⟨p, l, e, R, s, m, args, below, meth, c, A, D, cy, Q, nL, n0⟩ := X
  obtain ⟨hx, hb, hml, hown, hret, hlk, hR, hQ, hg, hNW, hK, hA, hE, hEo, hex⟩ := hF
  intro H locs ls hP hD hS hl h1 h2
  exact lv_icmp_lt hx hb hd ht (fun h9 => kt (by rw [i_lt] at h9; omega) H locs ls hP hD hS hl h1 h2) (fun h9 => kf (by rw [i_lt] at h9; omega) H locs ls hP hD hS hl h1 h2)
theorem g_if_lt (hF : Fx S r X ex cc own ret d Qr Qt E) {x : Int32} {xv : Int} {off : Int} (tgt : Nat) (hd : decode cc pc = .ok (.ifCond .lt off, 3)) (ht : (pc : Int) + off = (tgt : Int)) (hxv : x.toInt = xv)
    (kt : xv < 0 → G S r X σ τ vs L rest tgt) (kf : 0 ≤ xv → G S r X σ τ vs L rest (pc + 3)) : G S r X σ τ vs L (.int x :: rest) pc := by
  obtain ⟨p, l, e, R, s, m, args, below, meth, c, A, D, cy, Q, nL, n0⟩ := X
  obtain ⟨hx, hb, hml, hown, hret, hlk, hR, hQ, hg, hNW, hK, hA, hE, hEo, hex⟩ := hF
  intro H locs ls hP hD hS hl h1 h2
  have e0 := (show (0 : Int32).toInt = 0 by decide)
  exact lv_if_lt hx hb hd ht (fun h9 => kt (by rw [i_lt, e0] at h9; omega) H locs ls hP hD hS hl h1 h2) (fun h9 => kf (by rw [i_lt, e0] at h9; omega) H locs ls hP hD hS hl h1 h2)
theorem g_icmp_ge (hF : Fx S r X ex cc own ret d Qr Qt E) {x y : Int32} {xv yv : Int} {off : Int} (tgt : Nat) (hd : decode cc pc = .ok (.if_icmp .ge off, 3)) (ht : (pc : Int) + off = (tgt : Int)) (hxv : x.toInt = xv) (hyv : y.toInt = yv)
    (kt : yv ≤ xv → G S r X σ τ vs L rest tgt) (kf : xv < yv → G S r X σ τ vs L rest (pc + 3)) : G S r X σ τ vs L (.int y :: .int x :: rest) pc := by
  obtain ⟨p, l, e, R, s, m, args, below, meth, c, A, D, cy, Q, nL, n0⟩ := X
  obtain ⟨hx, hb, hml, hown, hret, hlk, hR, hQ, hg, hNW, hK, hA, hE, hEo, hex⟩ := hF
  intro H locs ls hP hD hS hl h1 h2
  exact lv_icmp_ge hx hb hd ht (fun h9 => kt (by rw [i_le] at h9; omega) H locs ls hP hD hS hl h1 h2) (fun h9 => kf (by rw [i_le] at h9; omega) H locs ls hP hD hS hl h1 h2)
theorem g_if_ge (hF : Fx S r X ex cc own ret d Qr Qt E) {x : Int32} {xv : Int} {off : Int} (tgt : Nat) (hd : decode cc pc = .ok (.ifCond .ge off, 3)) (ht : (pc : Int) + off = (tgt : Int)) (hxv : x.toInt = xv)
    (kt : 0 ≤ xv → G S r X σ τ vs L rest tgt) (kf : xv < 0 → G S r X σ τ vs L rest (pc + 3)) : G S r X σ τ vs L (.int x :: rest) pc := by
  obtain ⟨p, l, e, R, s, m, args, below, meth, c, A, D, cy, Q, nL, n0⟩ := X
  obtain ⟨hx, hb, hml, hown, hret, hlk, hR, hQ, hg, hNW, hK, hA, hE, hEo, hex⟩ := hF
  intro H locs ls hP hD hS hl h1 h2
  have e0 := (show (0 : Int32).toInt = 0 by decide)
  exact lv_if_ge hx hb hd ht (fun h9 => kt (by rw [i_le, e0] at h9; omega) H locs ls hP hD hS hl h1 h2) (fun h9 => kf (by rw [i_le, e0] at h9; omega) H locs ls hP hD hS hl h1 h2)
theorem g_icmp_gt (hF : Fx S r X ex cc own ret d Qr Qt E) {x y : Int32} {xv yv : Int} {off : Int} (tgt : Nat) (hd : decode cc pc = .ok (.if_icmp .gt off, 3)) (ht : (pc : Int) + off = (tgt : Int)) (hxv : x.toInt = xv) (hyv : y.toInt = yv)
    (kt : yv < xv → G S r X σ τ vs L rest tgt) (kf : xv ≤ yv → G S r X σ τ vs L rest (pc + 3)) : G S r X σ τ vs L (.int y :: .int x :: rest) pc := by
  obtain ⟨p, l, e, R, s, m, args, below, meth, c, A, D, cy, Q, nL, n0⟩ := X
  obtain ⟨hx, hb, hml, hown, hret, hlk, hR, hQ, hg, hNW, hK, hA, hE, hEo, hex⟩ := hF
  intro H locs ls hP hD hS hl h1 h2
  exact lv_icmp_gt hx hb hd ht (fun h9 => kt (by rw [i_lt] at h9; omega) H locs ls hP hD hS hl h1 h2) (fun h9 => kf (by rw [i_lt] at h9; omega) H locs ls hP hD hS hl h1 h2)
theorem g_if_gt (hF : Fx S r X ex cc own ret d Qr Qt E) {x : Int32} {xv : Int} {off : Int} (tgt : Nat) (hd : decode cc pc = .ok (.ifCond .gt off, 3)) (ht : (pc : Int) + off = (tgt : Int)) (hxv : x.toInt = xv)
    (kt : 0 < xv → G S r X σ τ vs L rest tgt) (kf : xv ≤ 0 → G S r X σ τ vs L rest (pc + 3)) : G S r X σ τ vs L (.int x :: rest) pc := by
  obtain ⟨p, l, e, R, s, m, args, below, meth, c, A, D, cy, Q, nL, n0⟩ := X
  obtain ⟨hx, hb, hml, hown, hret, hlk, hR, hQ, hg, hNW, hK, hA, hE, hEo, hex⟩ := hF
  intro H locs ls hP hD hS hl h1 h2
  have e0 := (show (0 : Int32).toInt = 0 by decide)
  exact lv_if_gt hx hb hd ht (fun h9 => kt (by rw [i_lt, e0] at h9; omega) H locs ls hP hD hS hl h1 h2) (fun h9 => kf (by rw [i_lt, e0] at h9; omega) H locs ls hP hD hS hl h1 h2)
theorem g_icmp_le (hF : Fx S r X ex cc own ret d Qr Qt E) {x y : Int32} {xv yv : Int} {off : Int} (tgt : Nat) (hd : decode cc pc = .ok (.if_icmp .le off, 3)) (ht : (pc : Int) + off = (tgt : Int)) (hxv : x.toInt = xv) (hyv : y.toInt = yv)
    (kt : xv ≤ yv → G S r X σ τ vs L rest tgt) (kf : yv < xv → G S r X σ τ vs L rest (pc + 3)) : G S r X σ τ vs L (.int y :: .int x :: rest) pc := by
  obtain ⟨p, l, e, R, s, m, args, below, meth, c, A, D, cy, Q, nL, n0⟩ := X
  obtain ⟨hx, hb, hml, hown, hret, hlk, hR, hQ, hg, hNW, hK, hA, hE, hEo, hex⟩ := hF
  intro H locs ls hP hD hS hl h1 h2
  exact lv_icmp_le hx hb hd ht (fun h9 => kt (by rw [i_le] at h9; omega) H locs ls hP hD hS hl h1 h2) (fun h9 => kf (by rw [i_le] at h9; omega) H locs ls hP hD hS hl h1 h2)
theorem g_if_le (hF : Fx S r X ex cc own ret d Qr Qt E) {x : Int32} {xv : Int} {off : Int} (tgt : Nat) (hd : decode cc pc = .ok (.ifCond .le off, 3)) (ht : (pc : Int) + off = (tgt : Int)) (hxv : x.toInt = xv)
    (kt : xv ≤ 0 → G S r X σ τ vs L rest tgt) (kf : 0 < xv → G S r X σ τ vs L rest (pc + 3)) : G S r X σ τ vs L (.int x :: rest) pc := by
  obtain ⟨p, l, e, R, s, m, args, below, meth, c, A, D, cy, Q, nL, n0⟩ := X
  obtain ⟨hx, hb, hml, hown, hret, hlk, hR, hQ, hg, hNW, hK, hA, hE, hEo, hex⟩ := hF
  intro H locs ls hP hD hS hl h1 h2
  have e0 := (show (0 : Int32).toInt = 0 by decide)
  exact lv_if_le hx hb hd ht (fun h9 => kt (by rw [i_le, e0] at h9; omega) H locs ls hP hD hS hl h1 h2) (fun h9 => kf (by rw [i_le, e0] at h9; omega) H locs ls hP hD hS hl h1 h2)
theorem g_lconst (hF : Fx S r X ex cc own ret d Qr Qt E) {n : Fin 2} {v : Int64} (hd : decode cc pc = .ok (.lconst n, 1)) (hv : Int64.ofNat (n : Nat) = v) (k : G S r X σ τ vs L (.long v :: rest) (pc + 1)) : G S r X σ τ vs L rest pc := by
  obtain ⟨p, l, e, R, s, m, args, below, meth, c, A, D, cy, Q, nL, n0⟩ := X
  obtain ⟨hx, hb, hml, hown, hret, hlk, hR, hQ, hg, hNW, hK, hA, hE, hEo, hex⟩ := hF
  intro H locs ls hP hD hS hl h1 h2
  exact lv_lconst hx hb hd hv (k H locs ls hP hD hS hl h1 h2)
theorem g_tableIn (hF : Fx S r X ex cc own ret d Qr Qt E) {dflt lo hi : Int} {offs : Array Int} {len : Nat} {x : Int32} {off xv : Int} (tgt : Nat) (hd : decode cc pc = .ok (.tableswitch dflt lo hi offs, len)) (hxv : x.toInt = xv) (h8 : ¬ xv < lo) (h9 : ¬ hi < xv) (ho : offs[(xv - lo).toNat]? = some off) (ht : (pc : Int) + off = (tgt : Int)) (k : G S r X σ τ vs L rest tgt) : G S r X σ τ vs L (.int x :: rest) pc := by
  obtain ⟨p, l, e, R, s, m, args, below, meth, c, A, D, cy, Q, nL, n0⟩ := X
  obtain ⟨hx, hb, hml, hown, hret, hlk, hR, hQ, hg, hNW, hK, hA, hE, hEo, hex⟩ := hF
  intro H locs ls hP hD hS hl h1 h2
  subst hxv
  exact lv_tableIn hx hb hd h8 h9 ho ht (k H locs ls hP hD hS hl h1 h2)
theorem g_tableOut (hF : Fx S r X ex cc own ret d Qr Qt E) {dflt lo hi : Int} {offs : Array Int} {len : Nat} {x : Int32} {xv : Int} (tgt : Nat) (hd : decode cc pc = .ok (.tableswitch dflt lo hi offs, len)) (hxv : x.toInt = xv) (h8 : xv < lo ∨ hi < xv) (ht : (pc : Int) + dflt = (tgt : Int)) (k : G S r X σ τ vs L rest tgt) : G S r X σ τ vs L (.int x :: rest) pc := by
  obtain ⟨p, l, e, R, s, m, args, below, meth, c, A, D, cy, Q, nL, n0⟩ := X
  obtain ⟨hx, hb, hml, hown, hret, hlk, hR, hQ, hg, hNW, hK, hA, hE, hEo, hex⟩ := hF
  intro H locs ls hP hD hS hl h1 h2
  subst hxv
  exact lv_tableOut hx hb hd h8 ht (k H locs ls hP hD hS hl h1 h2)
theorem g_lookup (hF : Fx S r X ex cc own ret d Qr Qt E) {dflt : Int} {ps : Array (Int × Int)} {len : Nat} {x : Int32} {off : Int} (tgt : Nat) (hd : decode cc pc = .ok (.lookupswitch dflt ps, len)) (hp : (ps.toList.zip (ps.toList.drop 1)).all (fun (a, next) => a.1 < next.1) = true) (ho : Op.lookupswitch.offset ps.toList dflt x.toInt = off) (ht : (pc : Int) + off = (tgt : Int)) (k : G S r X σ τ vs L rest tgt) : G S r X σ τ vs L (.int x :: rest) pc := by
  obtain ⟨p, l, e, R, s, m, args, below, meth, c, A, D, cy, Q, nL, n0⟩ := X
  obtain ⟨hx, hb, hml, hown, hret, hlk, hR, hQ, hg, hNW, hK, hA, hE, hEo, hex⟩ := hF
  intro H locs ls hP hD hS hl h1 h2
  exact lv_lookup hx hb hd hp ho ht (k H locs ls hP hD hS hl h1 h2)
theorem g_top {x v : Int32} (h : x = v) (k : G S r X σ τ vs L (.int v :: rest) pc) : G S r X σ τ vs L (.int x :: rest) pc := by subst h; exact k
theorem g_any {x : Int32} (k : ∀ v : Int32, G S r X σ τ vs L (.int v :: rest) pc) : G S r X σ τ vs L (.int x :: rest) pc := k x
theorem g_nm {x : Int32} (k : ∀ v : Int32, v = x → G S r X σ τ vs L (.int v :: rest) pc) : G S r X σ τ vs L (.int x :: rest) pc := k x rfl
theorem g_anyl {x : Int64} (k : ∀ v : Int64, G S r X σ τ vs L (.long v :: rest) pc) : G S r X σ τ vs L (.long x :: rest) pc := k x
theorem g_nml {x : Int64} (k : ∀ v : Int64, v = x → G S r X σ τ vs L (.long v :: rest) pc) : G S r X σ τ vs L (.long x :: rest) pc := k x rfl
theorem g_get (hF : Fx S r X ex cc own ret d Qr Qt E) {C : String} {T : u_T} {N ci index j : Nat} {ty : Nat → FieldType} (k : Nat) {v : Value} (ho : ObOK S j ci C T N ty) (hk : k < N) (hw : Cond.fieldLink own index (T k).1 (T k).2.1 (T k).2.2.1 ∈ GW) (hv : fval S r σ j k = v) (hd : decode cc pc = .ok (.getfield index, 3))
    (kk : G S r X σ τ vs L (v :: rest) (pc + 3)) : G S r X σ τ vs L (.ref (r j) :: rest) pc := by
  obtain ⟨p, l, e, R, s, m, args, below, meth, c, A, D, cy, Q, nL, n0⟩ := X
  obtain ⟨hx, hb, hml, hown, hret, hlk, hR, hQ, hg, hNW, hK, hA, hE, hEo, hex⟩ := hF
  intro H locs ls hP hD hS hl h1 h2
  subst hv
  exact va_get (D := D) (T := T) (N := N) hx hb hg ho.1.2.1 hown hK hP j ((wld_at ho.2.1).trans (by rw [cellE_obj ho.2.2])) ho.1.1 k hk (hg _ hw) (fun _ h9 => h9) (ofs_at hk) hd (kk H locs ls hP hD hS hl h1 h2)
theorem g_put (hF : Fx S r X ex cc own ret d Qr Qt E) {C : String} {T : u_T} {N ci index j : Nat} {ty : Nat → FieldType} (k : Nat) {v : Int32} (ho : ObOK S j ci C T N ty) (hk : k < N) (hw : Cond.fieldLink own index (T k).1 (T k).2.1 (T k).2.2.1 ∈ GW) (hf : (T k).2.2.2 = false) (hi : (T k).2.2.1 = "I") (hrf : S.2.1 j k = none) (hd : decode cc pc = .ok (.putfield index, 3))
    (kk : G S r X (upC σ j k v) τ vs L rest (pc + 3)) : G S r X σ τ vs L (.int v :: .ref (r j) :: rest) pc := by
  obtain ⟨p, l, e, R, s, m, args, below, meth, c, A, D, cy, Q, nL, n0⟩ := X
  obtain ⟨hx, hb, hml, hown, hret, hlk, hR, hQ, hg, hNW, hK, hA, hE, hEo, hex⟩ := hF
  intro H locs ls hP hD hS hl h1 h2
  refine va_put (D := D) (T := T) (N := N) hx hb hg ho.1.2.1 ty ho.1.2.2.1 ho.1.2.2.2 hown hK hP hD hS j ((wld_at ho.2.1).trans (by rw [cellE_obj ho.2.2])) ho.1.1 k hk (hg _ hw) (fun _ h9 => h9) hf (ty := .int) (by rw [hi]; decide +kernel) rfl rfl (by rw [ofs, List.length_map, List.length_range]; exact hk) hd (fun H locs hP hD hS => ?_)
  have e9 : (wld S cy r σ τ vs).set j (r j, .inr (ci, (ofs S r σ j N).set k (.int v))) = wld S cy r (upC σ j k v) τ vs := by
    rw [← ofs_up hrf, ← cellE_obj (cy := cy) ho.2.2]
    exact wld_set ho.2.1
  rw [e9] at hP hD
  exact kk H locs ls hP hD hS hl h1 h2
theorem g_putZ (hF : Fx S r X ex cc own ret d Qr Qt E) {C : String} {T : u_T} {N ci index j : Nat} {ty : Nat → FieldType} (k : Nat) {v : Int32} (ho : ObOK S j ci C T N ty) (hk : k < N) (hw : Cond.fieldLink own index (T k).1 (T k).2.1 (T k).2.2.1 ∈ GW) (hf : (T k).2.2.2 = false) (hi : (T k).2.2.1 = "Z") (hrf : S.2.1 j k = none) (hz : v = 0 ∨ v = 1) (hd : decode cc pc = .ok (.putfield index, 3))
    (kk : G S r X (upC σ j k v) τ vs L rest (pc + 3)) : G S r X σ τ vs L (.int v :: .ref (r j) :: rest) pc := by
  obtain ⟨p, l, e, R, s, m, args, below, meth, c, A, D, cy, Q, nL, n0⟩ := X
  obtain ⟨hx, hb, hml, hown, hret, hlk, hR, hQ, hg, hNW, hK, hA, hE, hEo, hex⟩ := hF
  intro H locs ls hP hD hS hl h1 h2
  refine va_put (D := D) (T := T) (N := N) hx hb hg ho.1.2.1 ty ho.1.2.2.1 ho.1.2.2.2 hown hK hP hD hS j ((wld_at ho.2.1).trans (by rw [cellE_obj ho.2.2])) ho.1.1 k hk (hg _ hw) (fun _ h9 => h9) hf (ty := .boolean) (by rw [hi]; decide +kernel) (by rcases hz with rfl | rfl <;> rfl) (by rcases hz with rfl | rfl <;> rfl) (by rw [ofs, List.length_map, List.length_range]; exact hk) hd (fun H locs hP hD hS => ?_)
  have e9 : (wld S cy r σ τ vs).set j (r j, .inr (ci, (ofs S r σ j N).set k (.int v))) = wld S cy r (upC σ j k v) τ vs := by
    rw [← ofs_up hrf, ← cellE_obj (cy := cy) ho.2.2]
    exact wld_set ho.2.1
  rw [e9] at hP hD
  exact kk H locs ls hP hD hS hl h1 h2
theorem g_getN (hF : Fx S r X ex cc own ret d Qr Qt E) {C host : String} {T : u_T} {N ci index j : Nat} {ty : Nat → FieldType} (k : Nat) {v : Value} (ho : ObOK S j ci C T N ty) (hk : k < N) (hw : Cond.fieldLinkNest own index (T k).1 (T k).2.1 (T k).2.2.1 host ∈ NW) (hv : fval S r σ j k = v) (hd : decode cc pc = .ok (.getfield index, 3))
    (kk : G S r X σ τ vs L (v :: rest) (pc + 3)) : G S r X σ τ vs L (.ref (r j) :: rest) pc := by
  obtain ⟨p, l, e, R, s, m, args, below, meth, c, A, D, cy, Q, nL, n0⟩ := X
  obtain ⟨hx, hb, hml, hown, hret, hlk, hR, hQ, hg, hNW, hK, hA, hE, hEo, hex⟩ := hF
  intro H locs ls hP hD hS hl h1 h2
  subst hv
  exact va_getN (D := D) (T := T) (N := N) hx hb hg ho.1.2.1 hown hK hP j ((wld_at ho.2.1).trans (by rw [cellE_obj ho.2.2])) ho.1.1 k hk (va_Nw.use rfl (hNW.1 _ hw)) (fun _ h9 => h9) (ofs_at hk) hd (kk H locs ls hP hD hS hl h1 h2)
theorem g_putN (hF : Fx S r X ex cc own ret d Qr Qt E) {C host : String} {T : u_T} {N ci index j : Nat} {ty : Nat → FieldType} (k : Nat) {v : Int32} (ho : ObOK S j ci C T N ty) (hk : k < N) (hw : Cond.fieldLinkNest own index (T k).1 (T k).2.1 (T k).2.2.1 host ∈ NW) (hf : (T k).2.2.2 = false) (hi : (T k).2.2.1 = "I") (hrf : S.2.1 j k = none) (hd : decode cc pc = .ok (.putfield index, 3))
    (kk : G S r X (upC σ j k v) τ vs L rest (pc + 3)) : G S r X σ τ vs L (.int v :: .ref (r j) :: rest) pc := by
  obtain ⟨p, l, e, R, s, m, args, below, meth, c, A, D, cy, Q, nL, n0⟩ := X
  obtain ⟨hx, hb, hml, hown, hret, hlk, hR, hQ, hg, hNW, hK, hA, hE, hEo, hex⟩ := hF
  intro H locs ls hP hD hS hl h1 h2
  refine va_putN (D := D) (T := T) (N := N) hx hb hg ho.1.2.1 ty ho.1.2.2.1 ho.1.2.2.2 hown hK hP hD hS j ((wld_at ho.2.1).trans (by rw [cellE_obj ho.2.2])) ho.1.1 k hk (va_Nw.use rfl (hNW.1 _ hw)) (fun _ h9 => h9) hf (ty := .int) (by rw [hi]; decide +kernel) rfl rfl (by rw [ofs, List.length_map, List.length_range]; exact hk) hd (fun H locs hP hD hS => ?_)
  have e9 : (wld S cy r σ τ vs).set j (r j, .inr (ci, (ofs S r σ j N).set k (.int v))) = wld S cy r (upC σ j k v) τ vs := by
    rw [← ofs_up hrf, ← cellE_obj (cy := cy) ho.2.2]
    exact wld_set ho.2.1
  rw [e9] at hP hD
  exact kk H locs ls hP hD hS hl h1 h2
theorem g_putZN (hF : Fx S r X ex cc own ret d Qr Qt E) {C host : String} {T : u_T} {N ci index j : Nat} {ty : Nat → FieldType} (k : Nat) {v : Int32} (ho : ObOK S j ci C T N ty) (hk : k < N) (hw : Cond.fieldLinkNest own index (T k).1 (T k).2.1 (T k).2.2.1 host ∈ NW) (hf : (T k).2.2.2 = false) (hi : (T k).2.2.1 = "Z") (hrf : S.2.1 j k = none) (hz : v = 0 ∨ v = 1) (hd : decode cc pc = .ok (.putfield index, 3))
    (kk : G S r X (upC σ j k v) τ vs L rest (pc + 3)) : G S r X σ τ vs L (.int v :: .ref (r j) :: rest) pc := by
  obtain ⟨p, l, e, R, s, m, args, below, meth, c, A, D, cy, Q, nL, n0⟩ := X
  obtain ⟨hx, hb, hml, hown, hret, hlk, hR, hQ, hg, hNW, hK, hA, hE, hEo, hex⟩ := hF
  intro H locs ls hP hD hS hl h1 h2
  refine va_putN (D := D) (T := T) (N := N) hx hb hg ho.1.2.1 ty ho.1.2.2.1 ho.1.2.2.2 hown hK hP hD hS j ((wld_at ho.2.1).trans (by rw [cellE_obj ho.2.2])) ho.1.1 k hk (va_Nw.use rfl (hNW.1 _ hw)) (fun _ h9 => h9) hf (ty := .boolean) (by rw [hi]; decide +kernel) (by rcases hz with rfl | rfl <;> rfl) (by rcases hz with rfl | rfl <;> rfl) (by rw [ofs, List.length_map, List.length_range]; exact hk) hd (fun H locs hP hD hS => ?_)
  have e9 : (wld S cy r σ τ vs).set j (r j, .inr (ci, (ofs S r σ j N).set k (.int v))) = wld S cy r (upC σ j k v) τ vs := by
    rw [← ofs_up hrf, ← cellE_obj (cy := cy) ho.2.2]
    exact wld_set ho.2.1
  rw [e9] at hP hD
  exact kk H locs ls hP hD hS hl h1 h2
theorem g_iald (hF : Fx S r X ex cc own ret d Qr Qt E) {j n : Nat} {i : Int32} (ho : ArOK S j 1 n) (hin : vp_in i n) (hd : decode cc pc = .ok (.iaload, 1))
    (k : G S r X σ τ vs L (.int (σ j i.toNatClampNeg) :: rest) (pc + 1)) : G S r X σ τ vs L (.int i :: .ref (r j) :: rest) pc := by
  obtain ⟨p, l, e, R, s, m, args, below, meth, c, A, D, cy, Q, nL, n0⟩ := X
  obtain ⟨hx, hb, hml, hown, hret, hlk, hR, hQ, hg, hNW, hK, hA, hE, hEo, hex⟩ := hF
  intro H locs ls hP hD hS hl h1 h2
  exact va_iald hx hb hK hP j 1 ((wld_at ho.2.1).trans (by rw [cellE_arr ho.2.2 ho.1])) rfl hin hd (k H locs ls hP hD hS hl h1 h2)
theorem g_bald (hF : Fx S r X ex cc own ret d Qr Qt E) {j n : Nat} {i : Int32} (ho : ArOK S j 0 n) (hin : vp_in i n) (hd : decode cc pc = .ok (.baload, 1))
    (k : G S r X σ τ vs L (.int (σ j i.toNatClampNeg) :: rest) (pc + 1)) : G S r X σ τ vs L (.int i :: .ref (r j) :: rest) pc := by
  obtain ⟨p, l, e, R, s, m, args, below, meth, c, A, D, cy, Q, nL, n0⟩ := X
  obtain ⟨hx, hb, hml, hown, hret, hlk, hR, hQ, hg, hNW, hK, hA, hE, hEo, hex⟩ := hF
  intro H locs ls hP hD hS hl h1 h2
  exact va_bald hx hb hK hP j 0 ((wld_at ho.2.1).trans (by rw [cellE_arr ho.2.2 ho.1])) rfl hin hd (k H locs ls hP hD hS hl h1 h2)
theorem g_zald (hF : Fx S r X ex cc own ret d Qr Qt E) {j n : Nat} {i : Int32} (ho : ArOK S j 2 n) (hin : vp_in i n) (hd : decode cc pc = .ok (.baload, 1))
    (k : G S r X σ τ vs L (.int (σ j i.toNatClampNeg) :: rest) (pc + 1)) : G S r X σ τ vs L (.int i :: .ref (r j) :: rest) pc := by
  obtain ⟨p, l, e, R, s, m, args, below, meth, c, A, D, cy, Q, nL, n0⟩ := X
  obtain ⟨hx, hb, hml, hown, hret, hlk, hR, hQ, hg, hNW, hK, hA, hE, hEo, hex⟩ := hF
  intro H locs ls hP hD hS hl h1 h2
  exact va_zald hx hb hK hP j 2 ((wld_at ho.2.1).trans (by rw [cellE_arr ho.2.2 ho.1])) rfl hin hd (k H locs ls hP hD hS hl h1 h2)
theorem g_iast (hF : Fx S r X ex cc own ret d Qr Qt E) {j n : Nat} {i x : Int32} (ho : ArOK S j 1 n) (hin : vp_in i n) (hd : decode cc pc = .ok (.iastore, 1))
    (k : G S r X (upC σ j i.toNatClampNeg x) τ vs L rest (pc + 1)) : G S r X σ τ vs L (.int x :: .int i :: .ref (r j) :: rest) pc := by
  obtain ⟨p, l, e, R, s, m, args, below, meth, c, A, D, cy, Q, nL, n0⟩ := X
  obtain ⟨hx, hb, hml, hown, hret, hlk, hR, hQ, hg, hNW, hK, hA, hE, hEo, hex⟩ := hF
  intro H locs ls hP hD hS hl h1 h2
  refine va_iast hx hb hK hP hD hS j 1 ((wld_at ho.2.1).trans (by rw [cellE_arr ho.2.2 ho.1])) rfl hin hd (fun H locs hP hD hS => ?_)
  have e9 : (wld S cy r σ τ vs).set j (r j, .inl (cy 1, n, .inl (upd (σ j) i.toNatClampNeg x))) = wld S cy r (upC σ j i.toNatClampNeg x) τ vs := by
    have e8 := cellE_arr (cy := cy) (r := r) (σ := upC σ j i.toNatClampNeg x) ho.2.2 ho.1
    have e7 : upC σ j i.toNatClampNeg x j = upd (σ j) i.toNatClampNeg x := upF_same
    rw [e7] at e8
    rw [← e8]
    exact wld_set ho.2.1
  rw [e9] at hP hD
  exact k H locs ls hP hD hS hl h1 h2
theorem g_bast (hF : Fx S r X ex cc own ret d Qr Qt E) {j n : Nat} {i x : Int32} (ho : ArOK S j 0 n) (hin : vp_in i n) (hd : decode cc pc = .ok (.bastore, 1))
    (k : G S r X (upC σ j i.toNatClampNeg (vp_nar .byte x)) τ vs L rest (pc + 1)) : G S r X σ τ vs L (.int x :: .int i :: .ref (r j) :: rest) pc := by
  obtain ⟨p, l, e, R, s, m, args, below, meth, c, A, D, cy, Q, nL, n0⟩ := X
  obtain ⟨hx, hb, hml, hown, hret, hlk, hR, hQ, hg, hNW, hK, hA, hE, hEo, hex⟩ := hF
  intro H locs ls hP hD hS hl h1 h2
  refine va_bast hx hb hK hP hD hS j 0 ((wld_at ho.2.1).trans (by rw [cellE_arr ho.2.2 ho.1])) rfl hin hd (fun H locs hP hD hS => ?_)
  have e9 : (wld S cy r σ τ vs).set j (r j, .inl (cy 0, n, .inl (upd (σ j) i.toNatClampNeg (vp_nar .byte x)))) = wld S cy r (upC σ j i.toNatClampNeg (vp_nar .byte x)) τ vs := by
    have e8 := cellE_arr (cy := cy) (r := r) (σ := upC σ j i.toNatClampNeg (vp_nar .byte x)) ho.2.2 ho.1
    have e7 : upC σ j i.toNatClampNeg (vp_nar .byte x) j = upd (σ j) i.toNatClampNeg (vp_nar .byte x) := upF_same
    rw [e7] at e8
    rw [← e8]
    exact wld_set ho.2.1
  rw [e9] at hP hD
  exact k H locs ls hP hD hS hl h1 h2
theorem g_zast (hF : Fx S r X ex cc own ret d Qr Qt E) {j n : Nat} {i x : Int32} (ho : ArOK S j 2 n) (hin : vp_in i n) (hd : decode cc pc = .ok (.bastore, 1))
    (k : G S r X (upC σ j i.toNatClampNeg (vp_nar .boolean x)) τ vs L rest (pc + 1)) : G S r X σ τ vs L (.int x :: .int i :: .ref (r j) :: rest) pc := by
  obtain ⟨p, l, e, R, s, m, args, below, meth, c, A, D, cy, Q, nL, n0⟩ := X
  obtain ⟨hx, hb, hml, hown, hret, hlk, hR, hQ, hg, hNW, hK, hA, hE, hEo, hex⟩ := hF
  intro H locs ls hP hD hS hl h1 h2
  refine va_zast hx hb hK hP hD hS j 2 ((wld_at ho.2.1).trans (by rw [cellE_arr ho.2.2 ho.1])) rfl hin hd (fun H locs hP hD hS => ?_)
  have e9 : (wld S cy r σ τ vs).set j (r j, .inl (cy 2, n, .inl (upd (σ j) i.toNatClampNeg (vp_nar .boolean x)))) = wld S cy r (upC σ j i.toNatClampNeg (vp_nar .boolean x)) τ vs := by
    have e8 := cellE_arr (cy := cy) (r := r) (σ := upC σ j i.toNatClampNeg (vp_nar .boolean x)) ho.2.2 ho.1
    have e7 : upC σ j i.toNatClampNeg (vp_nar .boolean x) j = upd (σ j) i.toNatClampNeg (vp_nar .boolean x) := upF_same
    rw [e7] at e8
    rw [← e8]
    exact wld_set ho.2.1
  rw [e9] at hP hD
  exact k H locs ls hP hD hS hl h1 h2
theorem g_alen (hF : Fx S r X ex cc own ret d Qr Qt E) {j t n : Nat} {v : Int32} (ho : ArOK S j t n) (ht : ∀ cy : Nat → ClassId, ∃ (q : Nat) (ty : FieldType), (kTy cy)[q]? = some (cy t, ty)) (hv : Int32.ofNat n = v) (hd : decode cc pc = .ok (.arraylength, 1)) (k : G S r X σ τ vs L (.int v :: rest) (pc + 1)) : G S r X σ τ vs L (.ref (r j) :: rest) pc := by
  obtain ⟨p, l, e, R, s, m, args, below, meth, c, A, D, cy, Q, nL, n0⟩ := X
  obtain ⟨hx, hb, hml, hown, hret, hlk, hR, hQ, hg, hNW, hK, hA, hE, hEo, hex⟩ := hF
  intro H locs ls hP hD hS hl h1 h2
  obtain ⟨q, ty, hq⟩ := ht cy
  exact va_alen hx hb hK hP j q ((wld_at ho.2.1).trans (by rw [cellE_arr ho.2.2 ho.1])) hq hv hd (k H locs ls hP hD hS hl h1 h2)
theorem g_alenR (hF : Fx S r X ex cc own ret d Qr Qt E) {j n b : Nat} {v : Int32} (hj : j < S.2.2.1) (ho : S.1 j = (5, n, b)) (hv : Int32.ofNat n = v) (hd : decode cc pc = .ok (.arraylength, 1)) (k : G S r X σ τ vs L (.int v :: rest) (pc + 1)) : G S r X σ τ vs L (.ref (r j) :: rest) pc := by
  obtain ⟨p, l, e, R, s, m, args, below, meth, c, A, D, cy, Q, nL, n0⟩ := X
  obtain ⟨hx, hb, hml, hown, hret, hlk, hR, hQ, hg, hNW, hK, hA, hE, hEo, hex⟩ := hF
  intro H locs ls hP hD hS hl h1 h2
  exact va_alen hx hb hK hP j 3 ((wld_at hj).trans (by rw [cellE_ref ho])) rfl hv hd (k H locs ls hP hD hS hl h1 h2)
theorem g_aald (hF : Fx S r X ex cc own ret d Qr Qt E) {j n b : Nat} {i : Int32} (hj : j < S.2.2.1) (ho : S.1 j = (5, n, b)) (hin : vp_in i n) (hd : decode cc pc = .ok (.aaload, 1)) (k : G S r X σ τ vs L (.ref (r (b + i.toNatClampNeg)) :: rest) (pc + 1)) : G S r X σ τ vs L (.int i :: .ref (r j) :: rest) pc := by
  obtain ⟨p, l, e, R, s, m, args, below, meth, c, A, D, cy, Q, nL, n0⟩ := X
  obtain ⟨hx, hb, hml, hown, hret, hlk, hR, hQ, hg, hNW, hK, hA, hE, hEo, hex⟩ := hF
  intro H locs ls hP hD hS hl h1 h2
  exact va_aldq (f := fun i => some (r (b + i))) hx hb hK hP j 3 ((wld_at hj).trans (by rw [cellE_ref ho])) rfl hin hd (k H locs ls hP hD hS hl h1 h2)
theorem g_vget (hF : Fx S r X ex cc own ret d Qr Qt E) {index a : Nat} {T : u_T} {ty : Nat → FieldType} (k : Nat) (ha : a ∈ vs) (ho : ClsOK ciV "LinkedUnitsModel$Value" T 9 ty) (hk : k < 9) (hw : Cond.fieldLink own index (T k).1 (T k).2.1 (T k).2.2.1 ∈ GW) (hd : decode cc pc = .ok (.getfield index, 3))
    (kk : G S r X σ τ vs L (.int (τ a k) :: rest) (pc + 3)) : G S r X σ τ vs L (.ref a :: rest) pc := by
  obtain ⟨p, l, e, R, s, m, args, below, meth, c, A, D, cy, Q, nL, n0⟩ := X
  obtain ⟨hx, hb, hml, hown, hret, hlk, hR, hQ, hg, hNW, hK, hA, hE, hEo, hex⟩ := hF
  intro H locs ls hP hD hS hl h1 h2
  obtain ⟨i, hi⟩ := List.mem_iff_getElem?.mp ha
  exact va_get (D := D) (T := T) (N := 9) hx hb hg ho.2.1 hown hK hP (S.2.2.1 + i) (wld_av hi) ho.1 k hk (hg _ hw) (fun _ h9 => h9) (by unfold vfs; rw [List.getElem?_map, List.getElem?_range hk]; rfl) hd (kk H locs ls hP hD hS hl h1 h2)
theorem g_vput (hF : Fx S r X ex cc own ret d Qr Qt E) {index a : Nat} {T : u_T} {ty : Nat → FieldType} (k : Nat) {v : Int32} (ha : a ∈ vs) (ho : ClsOK ciV "LinkedUnitsModel$Value" T 9 ty) (hk : k < 9) (hw : Cond.fieldLink own index (T k).1 (T k).2.1 (T k).2.2.1 ∈ GW) (hf : (T k).2.2.2 = false) (hi : (T k).2.2.1 = "I") (hd : decode cc pc = .ok (.putfield index, 3))
    (kk : G S r X σ (upC τ a k v) vs L rest (pc + 3)) : G S r X σ τ vs L (.int v :: .ref a :: rest) pc := by
  obtain ⟨p, l, e, R, s, m, args, below, meth, c, A, D, cy, Q, nL, n0⟩ := X
  obtain ⟨hx, hb, hml, hown, hret, hlk, hR, hQ, hg, hNW, hK, hA, hE, hEo, hex⟩ := hF
  intro H locs ls hP hD hS hl h1 h2
  obtain ⟨i, hi9⟩ := List.mem_iff_getElem?.mp ha
  have hd9 : ∀ i', vs[i']? = some a → i' = i := fun i' h9 => by
    have := hD.1 (S.2.2.1 + i') (S.2.2.1 + i) _ _ (wld_av h9) (wld_av hi9) rfl
    omega
  refine va_put (D := D) (T := T) (N := 9) hx hb hg ho.2.1 ty ho.2.2.1 ho.2.2.2 hown hK hP hD hS (S.2.2.1 + i) (wld_av hi9) ho.1 k hk (hg _ hw) (fun _ h9 => h9) hf (ty := .int) (by rw [hi]; decide +kernel) rfl rfl (by unfold vfs; rw [List.length_map, List.length_range]; exact hk) hd (fun H locs hP hD hS => ?_)
  rw [wld_setv hi9 hd9] at hP hD
  exact kk H locs ls hP hD hS hl h1 h2
theorem g_vputZ (hF : Fx S r X ex cc own ret d Qr Qt E) {index a : Nat} {T : u_T} {ty : Nat → FieldType} (k : Nat) {v : Int32} (ha : a ∈ vs) (ho : ClsOK ciV "LinkedUnitsModel$Value" T 9 ty) (hk : k < 9) (hw : Cond.fieldLink own index (T k).1 (T k).2.1 (T k).2.2.1 ∈ GW) (hf : (T k).2.2.2 = false) (hi : (T k).2.2.1 = "Z") (hz : v = 0 ∨ v = 1) (hd : decode cc pc = .ok (.putfield index, 3))
    (kk : G S r X σ (upC τ a k v) vs L rest (pc + 3)) : G S r X σ τ vs L (.int v :: .ref a :: rest) pc := by
  obtain ⟨p, l, e, R, s, m, args, below, meth, c, A, D, cy, Q, nL, n0⟩ := X
  obtain ⟨hx, hb, hml, hown, hret, hlk, hR, hQ, hg, hNW, hK, hA, hE, hEo, hex⟩ := hF
  intro H locs ls hP hD hS hl h1 h2
  obtain ⟨i, hi9⟩ := List.mem_iff_getElem?.mp ha
  have hd9 : ∀ i', vs[i']? = some a → i' = i := fun i' h9 => by
    have := hD.1 (S.2.2.1 + i') (S.2.2.1 + i) _ _ (wld_av h9) (wld_av hi9) rfl
    omega
  refine va_put (D := D) (T := T) (N := 9) hx hb hg ho.2.1 ty ho.2.2.1 ho.2.2.2 hown hK hP hD hS (S.2.2.1 + i) (wld_av hi9) ho.1 k hk (hg _ hw) (fun _ h9 => h9) hf (ty := .boolean) (by rw [hi]; decide +kernel) (by rcases hz with rfl | rfl <;> rfl) (by rcases hz with rfl | rfl <;> rfl) (by unfold vfs; rw [List.length_map, List.length_range]; exact hk) hd (fun H locs hP hD hS => ?_)
  rw [wld_setv hi9 hd9] at hP hD
  exact kk H locs ls hP hD hS hl h1 h2
theorem g_new (hF : Fx S r X ex cc own ret d Qr Qt E) {index : Nat} {T : u_T} {ty : Nat → FieldType} (ho : ClsOK ciV "LinkedUnitsModel$Value" T 9 ty) (hty : ∀ j, j < 9 → defaultValue (ty j) = .int 0) (hcl : Cond.classLink own index "LinkedUnitsModel$Value" ∈ GW) (hinst : Cond.instantiable "LinkedUnitsModel$Value" 9 ∈ GW) (hini : Cond.initialized "LinkedUnitsModel$Value" ∈ GW) (hcap : vs.length < CAP) (hd : decode cc pc = .ok (.new index, 3))
    (kk : ∀ q : Nat, q ∉ vs → G S r X σ (upF τ q (fun _ => 0)) (vs ++ [q]) L (.ref q :: rest) (pc + 3)) : G S r X σ τ vs L rest pc := by
  obtain ⟨p, l, e, R, s, m, args, below, meth, c, A, D, cy, Q, nL, n0⟩ := X
  obtain ⟨hx, hb, hml, hown, hret, hlk, hR, hQ, hg, hNW, hK, hA, hE, hEo, hex⟩ := hF
  intro H locs ls hP hD hS hl h1 h2
  refine va_new (ci := ciV) (fs := vfs (upF τ H.size (fun _ => 0)) H.size) hx hb hg ho.2.1 ty ho.2.2.1 hown (hg _ hcl) (hg _ hinst) (hg _ hini) hK hP hD hS (fun q h => hA q h) ho.1 (fun j hj => ?_) ?_ ?_ hd (fun q H1 hP1 hD1 hS1 => ?_)
  · rw [hty j hj]
    unfold vp_V vfs
    rw [List.getD_eq_getElem?_getD, List.getElem?_map, List.getElem?_range hj]
    show _ = Value.int (upF τ H.size (fun _ => 0) H.size j)
    rw [upF_same]
  · rw [hR]; show _ + 1 ≤ CAP - n0; omega
  · rw [hR]; show _ + 9 ≤ 9 * (CAP - n0); omega
  · have hq : q ∉ vs := fun hq => by
      obtain ⟨i, hi⟩ := List.mem_iff_getElem?.mp hq
      have e1 : (wld S cy r σ τ vs ++ [(q, .inr (ciV, vfs (upF τ H.size (fun _ => 0)) H.size))])[S.2.2.1 + i]? = some (q, .inr (ciV, vfs τ q)) := by
        rw [List.getElem?_append_left (List.getElem?_eq_some_iff.mp (wld_av hi)).1]
        exact wld_av hi
      have e2 : (wld S cy r σ τ vs ++ [(q, .inr (ciV, vfs (upF τ H.size (fun _ => 0)) H.size))])[(wld S cy r σ τ vs).length]? = some (q, .inr (ciV, vfs (upF τ H.size (fun _ => 0)) H.size)) := by
        rw [List.getElem?_append_right (Nat.le_refl _), Nat.sub_self]
        rfl
      have e3 := hD1.1 _ _ _ _ e1 e2 rfl
      have e4 := (List.getElem?_eq_some_iff.mp (wld_av (S := S) (cy := cy) (r := r) (σ := σ) (τ := τ) hi)).1
      omega
    have e5 : vfs (upF τ H.size (fun _ => 0)) H.size = vfs (upF τ q (fun _ => 0)) q := by
      unfold vfs
      rw [upF_same, upF_same]
    have e6 : wld S cy r σ τ vs ++ [(q, .inr (ciV, vfs (upF τ q (fun _ => 0)) q))] = wld S cy r σ (upF τ q (fun _ => 0)) (vs ++ [q]) := wld_push (fun a ha => upF_ne (fun h => hq (h ▸ ha)))
    rw [e5, e6] at hP1 hD1
    have e7 : (vs ++ [q]).length = vs.length + 1 := by rw [List.length_append]; rfl
    have h3 := kk q hq H1 locs ls hP1 hD1 hS1 hl (by rw [e7]; omega) (by rw [e7]; omega)
    rw [e7, show vs.length + 1 - n0 = vs.length - n0 + 1 by omega, show 9 * (vs.length - n0 + 1) = 9 * (vs.length - n0) + 9 by omega] at h3
    exact h3
theorem mqx_of {p : Program} {l : Launch} {e : Env} {R : Room} {s : State} {m : MethodId} {args : Array Value} {below : List Frame} {meth : Method} {c : Code} {H : Heap} {locs : List Loc} {cells slots : Nat} {g : JFrame} {A : Addr → Prop} {Qc Qx : Array Value → State → Outcome → State → Prop} (k : W p l e R s m args below meth c H locs cells slots (MQ below Qc args s cells slots A) g)
    (h : ∀ o t, Qc args s o t → (∃ L, FrameEnd s o t L cells slots ∧ ∀ q ∈ L, A q.base) → Qx args s o t) : W p l e R s m args below meth c H locs cells slots (MQX below Qx args s) g := by
  intro T hT X
  obtain ⟨t, a1, o, b1, b2, b3, b4⟩ := k T hT X
  exact ⟨t, a1, o, b1, b2, h o t b3 b4⟩
theorem g_iret (hF : Fx S r X ex cc own ret d Qr Qt E) {v : Int32} (hrt : ret = some .int) (hd : decode cc pc = .ok (.ireturn, 1)) (hq : Qr (some (.int v)) σ τ vs) : G S r X σ τ vs L [.int v] pc := by
  obtain ⟨p, l, e, R, s, m, args, below, meth, c, A, D, cy, Q, nL, n0⟩ := X
  obtain ⟨hx, hb, hml, hown, hret, hlk, hR, hQ, hg, hNW, hK, hA, hE, hEo, hex⟩ := hF
  intro H locs ls hP hD hS hl h1 h2
  rw [hQ]
  refine mqx_of (Qc := fun _ st o t => o = .returned (some (.int v)) ∧ kPost D cy A (wld S cy r σ τ vs) t ∧ va_F A st t) (A := A) (W.iret hx hb (hret.trans hrt) (fun t ht hW => ⟨rfl, ⟨by rw [ht]; exact hP, va_K.moved hW.alike hK, hD⟩, hS.F ht⟩) hS.2.2 hd hlk) (fun o t h hf => ?_)
  obtain ⟨rfl, g1, g2⟩ := h
  exact ⟨σ, τ, vs, g1, g2, h1, h2, Or.inl ⟨_, rfl, hq, hf⟩⟩
theorem g_zret (hF : Fx S r X ex cc own ret d Qr Qt E) {v : Int32} {ty : FieldType} (hrt : ret = some ty) (hn : narrow ty (.int v) = .int v) (hd : decode cc pc = .ok (.ireturn, 1)) (hq : Qr (some (.int v)) σ τ vs) : G S r X σ τ vs L [.int v] pc := by
  obtain ⟨p, l, e, R, s, m, args, below, meth, c, A, D, cy, Q, nL, n0⟩ := X
  obtain ⟨hx, hb, hml, hown, hret, hlk, hR, hQ, hg, hNW, hK, hA, hE, hEo, hex⟩ := hF
  intro H locs ls hP hD hS hl h1 h2
  rw [hQ]
  refine mqx_of (Qc := fun _ st o t => o = .returned (some (.int v)) ∧ kPost D cy A (wld S cy r σ τ vs) t ∧ va_F A st t) (A := A) (W.zret hx hb (hret.trans hrt) hn (fun t ht hW => ⟨rfl, ⟨by rw [ht]; exact hP, va_K.moved hW.alike hK, hD⟩, hS.F ht⟩) hS.2.2 hd hlk) (fun o t h hf => ?_)
  obtain ⟨rfl, g1, g2⟩ := h
  exact ⟨σ, τ, vs, g1, g2, h1, h2, Or.inl ⟨_, rfl, hq, hf⟩⟩
theorem g_vret (hF : Fx S r X ex cc own ret d Qr Qt E)  (hrt : ret = none) (hd : decode cc pc = .ok (.return_, 1)) (hq : Qr none σ τ vs) : G S r X σ τ vs L [] pc := by
  obtain ⟨p, l, e, R, s, m, args, below, meth, c, A, D, cy, Q, nL, n0⟩ := X
  obtain ⟨hx, hb, hml, hown, hret, hlk, hR, hQ, hg, hNW, hK, hA, hE, hEo, hex⟩ := hF
  intro H locs ls hP hD hS hl h1 h2
  rw [hQ]
  refine mqx_of (Qc := fun _ st o t => o = .returned none ∧ kPost D cy A (wld S cy r σ τ vs) t ∧ va_F A st t) (A := A) (W.vret hx hb (hret.trans hrt) (fun t ht hW => ⟨rfl, ⟨by rw [ht]; exact hP, va_K.moved hW.alike hK, hD⟩, hS.F ht⟩) hS.2.2 hd hlk) (fun o t h hf => ?_)
  obtain ⟨rfl, g1, g2⟩ := h
  exact ⟨σ, τ, vs, g1, g2, h1, h2, Or.inl ⟨_, rfl, hq, hf⟩⟩
theorem g_aret (hF : Fx S r X ex cc own ret d Qr Qt E) {a : Nat} {C : String} (hrt : ret = some (.object C)) (hd : decode cc pc = .ok (.areturn, 1)) (hq : Qr (some (.ref a)) σ τ vs) : G S r X σ τ vs L [.ref a] pc := by
  obtain ⟨p, l, e, R, s, m, args, below, meth, c, A, D, cy, Q, nL, n0⟩ := X
  obtain ⟨hx, hb, hml, hown, hret, hlk, hR, hQ, hg, hNW, hK, hA, hE, hEo, hex⟩ := hF
  intro H locs ls hP hD hS hl h1 h2
  rw [hQ]
  refine mqx_of (Qc := fun _ st o t => o = .returned (some (.ref a)) ∧ kPost D cy A (wld S cy r σ τ vs) t ∧ va_F A st t) (A := A) (W.aret hx hb (hret.trans hrt) (Or.inl ⟨_, rfl⟩) (Or.inr ⟨_, rfl⟩) (fun t ht hW => ⟨rfl, ⟨by rw [ht]; exact hP, va_K.moved hW.alike hK, hD⟩, hS.F ht⟩) hS.2.2 hd hlk) (fun o t h hf => ?_)
  obtain ⟨rfl, g1, g2⟩ := h
  exact ⟨σ, τ, vs, g1, g2, h1, h2, Or.inl ⟨_, rfl, hq, hf⟩⟩
theorem g_athrow (hF : Fx S r X ex cc own ret d Qr Qt E) (hd : decode cc pc = .ok (.athrow, 1)) (k : GT S r X σ τ vs L rest pc) : G S r X σ τ vs L (.ref (r S.2.2.2) :: rest) pc := by
  obtain ⟨p, l, e, R, s, m, args, below, meth, c, A, D, cy, Q, nL, n0⟩ := X
  obtain ⟨hx, hb, hml, hown, hret, hlk, hR, hQ, hg, hNW, hK, hA, hE, hEo, hex⟩ := hF
  intro H locs ls hP hD hS hl h1 h2
  exact vx_athrow hx hb hd (k H locs ls hP hD hS hl h1 h2)
def StopOK (S : Sh) : Prop := S.2.2.2 < S.2.2.1 ∧ ∃ ci T N, S.1 S.2.2.2 = (0, ci, N) ∧ vwCl[ci]? = some (ISE, T, N)
theorem stop_cell {D : va_G} {cy : Nat → ClassId} {s : State} {H : Heap} (hs : StopOK S) (hK : va_K D vwCl (kTy cy) s) (hP : va_P D vwCl (wld S cy r σ τ vs) H) : ∃ ce : Cell, H[r S.2.2.2]? = some ce ∧ ce.vm = .none ∧ s.vm.findClass ISE = some ce.cls := by
  obtain ⟨h1, ci, T, N, h2, h3⟩ := hs
  obtain ⟨q', g0, cell, g1, g2, g3, -⟩ := hP S.2.2.2 (r S.2.2.2, .inr (ci, ofs S r σ S.2.2.2 N)) ((wld_at h1).trans (by rw [cellE_obj h2]))
  exact ⟨cell, g1, g3, by rw [g2]; exact (hK.1 ci _ h3).2.1⟩
theorem g_out (hF : Fx S r X ex cc own ret d Qr Qt E) (hs : StopOK S) (he : ex.all (fun x => !covers x pc) = true) (hq : Qt σ τ vs) {st : List Value} : GT S r X σ τ vs L st pc := by
  obtain ⟨p, l, e, R, s, m, args, below, meth, c, A, D, cy, Q, nL, n0⟩ := X
  obtain ⟨hx, hb, hml, hown, hret, hlk, hR, hQ, hg, hNW, hK, hA, hE, hEo, hex⟩ := hF
  intro H locs ls hP hD hS hl h1 h2
  obtain ⟨ce, hce, hcv, hcl⟩ := stop_cell hs hK hP
  have hout : ∀ x ∈ c.exceptionTable.toList, covers x pc = false := fun x hx9 => by
    rw [hex] at hx9
    have h9 := List.all_eq_true.mp he x hx9
    cases h8 : covers x pc with
    | false => rfl
    | true => rw [h8] at h9; cases h9
  intro T hT X
  obtain ⟨st1, hrun, hend, hW, hsm⟩ := X.leaveThrown (r S.2.2.2) (g := F0 m pc ls st) rfl rfl rfl hout hlk
  rw [hQ]
  refine ⟨_, st1, .threw (r S.2.2.2), hrun, hend, σ, τ, vs, ⟨?_, va_K.moved hW.alike hK, hD⟩, hS.F hT, h1, h2, Or.inr ⟨ce, locs, rfl, hq, ?_, hcv, hcl, hW, hsm, hS.2.2⟩⟩
  · show va_P D vwCl _ T.heap
    rw [hT]; exact hP
  · show T.heap[r S.2.2.2]? = some ce
    rw [hT]; exact hce
end GR
