/-! more rows: longs, tables, texts, library members; a store's words -/
section G5
variable {S : Sh} {r : Nat → Nat} {X : Cx} {ex : List ExceptionTableEntry} {cc : ByteArray} {own : String} {ret : Option FieldType} {d : Nat} {Qr : QR} {Qt : QT} {E : (Nat → Prop) → State → Prop} {σ τ : St} {vs : List Nat} {L : List (Nat × Value)} {rest : List Value} {pc : Nat}
theorem g_ldc_w (hF : Fx S r X ex cc own ret d Qr Qt E) {i : Nat} {v : Int32} (hw : Cond.constant own i v ∈ GW) (hd : decode cc pc = .ok (.ldc_w i, 3)) (k : G S r X σ τ vs L (.int v :: rest) (pc + 3)) : G S r X σ τ vs L rest pc := by
  obtain ⟨p, l, e, R, s, m, args, below, meth, c, A, D, cy, Q, nL, n0⟩ := X
  obtain ⟨hx, hb, hml, hown, hret, hlk, hR, hQ, hg, hNW, hK, hA, hE, hEo, hex⟩ := hF
  intro H locs ls hP hD hS hl h1 h2
  exact lv_ldcw hx hb hown (hg _ hw) hd (k H locs ls hP hD hS hl h1 h2)
theorem g_ldc2 (hF : Fx S r X ex cc own ret d Qr Qt E) {i : Nat} {v : Int64} (hw : Cond.constantLong own i v ∈ GW) (hd : decode cc pc = .ok (.ldc2_w i, 3)) (k : G S r X σ τ vs L (.long v :: rest) (pc + 3)) : G S r X σ τ vs L rest pc := by
  obtain ⟨p, l, e, R, s, m, args, below, meth, c, A, D, cy, Q, nL, n0⟩ := X
  obtain ⟨hx, hb, hml, hown, hret, hlk, hR, hQ, hg, hNW, hK, hA, hE, hEo, hex⟩ := hF
  intro H locs ls hP hD hS hl h1 h2
  exact lv_ldc2 hx hb hown (hg _ hw) hd (k H locs ls hP hD hS hl h1 h2)
theorem g_lcmp (hF : Fx S r X ex cc own ret d Qr Qt E) {x y : Int64} (hd : decode cc pc = .ok (.lcmp, 1)) (k : G S r X σ τ vs L (.int (lg_cmp x y) :: rest) (pc + 1)) : G S r X σ τ vs L (.long y :: .long x :: rest) pc := by
  obtain ⟨p, l, e, R, s, m, args, below, meth, c, A, D, cy, Q, nL, n0⟩ := X
  obtain ⟨hx, hb, hml, hown, hret, hlk, hR, hQ, hg, hNW, hK, hA, hE, hEo, hex⟩ := hF
  intro H locs ls hP hD hS hl h1 h2
  exact W.lcmp hx hb hd (k H locs ls hP hD hS hl h1 h2)
theorem g_dup2 (hF : Fx S r X ex cc own ret d Qr Qt E) {va vb : Value} (hd : decode cc pc = .ok (.dup2, 1)) (hva : va.category = 1) (hvb : vb.category = 1) (k : G S r X σ τ vs L (va :: vb :: va :: vb :: rest) (pc + 1)) : G S r X σ τ vs L (va :: vb :: rest) pc := by
  obtain ⟨p, l, e, R, s, m, args, below, meth, c, A, D, cy, Q, nL, n0⟩ := X
  obtain ⟨hx, hb, hml, hown, hret, hlk, hR, hQ, hg, hNW, hK, hA, hE, hEo, hex⟩ := hF
  intro H locs ls hP hD hS hl h1 h2
  exact lv_dup2_11 hx hb hd hva hvb (k H locs ls hP hD hS hl h1 h2)
theorem g_ldcS (hF : Fx S r X ex cc own ret d Qr Qt E) {tx : String} {i q : Nat} (hZ : ∀ A s, E A s → vk_R own i tx q s) (hd : decode cc pc = .ok (.ldc i, 2)) (k : G S r X σ τ vs L (.ref q :: rest) (pc + 2)) : G S r X σ τ vs L rest pc := by
  obtain ⟨p, l, e, R, s, m, args, below, meth, c, A, D, cy, Q, nL, n0⟩ := X
  obtain ⟨hx, hb, hml, hown, hret, hlk, hR, hQ, hg, hNW, hK, hA, hE, hEo, hex⟩ := hF
  intro H locs ls hP hD hS hl h1 h2
  exact va_ldcS hx hb hown (hZ _ _ hE) hd (k H locs ls hP hD hS hl h1 h2)
theorem g_gets (hF : Fx S r X ex cc own ret d Qr Qt E) {C n dd : String} {v : Value} {index : Nat} (hZ : ∀ A s, E A s → va_Z C n dd v A s s.heap) (hw : Cond.fieldLink own index C n dd ∈ GW) (hd : decode cc pc = .ok (.getstatic index, 3)) (k : G S r X σ τ vs L (v :: rest) (pc + 3)) : G S r X σ τ vs L rest pc := by
  obtain ⟨p, l, e, R, s, m, args, below, meth, c, A, D, cy, Q, nL, n0⟩ := X
  obtain ⟨hx, hb, hml, hown, hret, hlk, hR, hQ, hg, hNW, hK, hA, hE, hEo, hex⟩ := hF
  intro H locs ls hP hD hS hl h1 h2
  exact va_gets hx hb (hZ _ _ hE) hS hown (hg _ hw) (fun _ h9 => h9) hd (k H locs ls hP hD hS hl h1 h2)
theorem g_getsN (hF : Fx S r X ex cc own ret d Qr Qt E) {C n dd host : String} {v : Value} {index : Nat} (hZ : ∀ A s, E A s → va_Z C n dd v A s s.heap) (hw : Cond.fieldLinkNest own index C n dd host ∈ NW) (hd : decode cc pc = .ok (.getstatic index, 3)) (k : G S r X σ τ vs L (v :: rest) (pc + 3)) : G S r X σ τ vs L rest pc := by
  obtain ⟨p, l, e, R, s, m, args, below, meth, c, A, D, cy, Q, nL, n0⟩ := X
  obtain ⟨hx, hb, hml, hown, hret, hlk, hR, hQ, hg, hNW, hK, hA, hE, hEo, hex⟩ := hF
  intro H locs ls hP hD hS hl h1 h2
  exact va_getsN hx hb (hZ _ _ hE) hS hown (va_Nw.use rfl (hNW.1 _ hw)) (fun _ h9 => h9) hd (k H locs ls hP hD hS hl h1 h2)
theorem g_ti (hF : Fx S r X ex cc own ret d Qr Qt E) {t N : Nat} {f : Nat → Int32} {i : Int32} (hT : ∀ A s, E A s → va_T .int t N (fun j => .int (f j)) A s s.heap) (hin : vp_in i N) (hd : decode cc pc = .ok (.iaload, 1)) (k : G S r X σ τ vs L (.int (f i.toNatClampNeg) :: rest) (pc + 1)) : G S r X σ τ vs L (.int i :: .ref t :: rest) pc := by
  obtain ⟨p, l, e, R, s, m, args, below, meth, c, A, D, cy, Q, nL, n0⟩ := X
  obtain ⟨hx, hb, hml, hown, hret, hlk, hR, hQ, hg, hNW, hK, hA, hE, hEo, hex⟩ := hF
  intro H locs ls hP hD hS hl h1 h2
  exact va_ti hx hb (hT _ _ hE) hS hin rfl hd (k H locs ls hP hD hS hl h1 h2)
theorem g_tb (hF : Fx S r X ex cc own ret d Qr Qt E) {t N : Nat} {f : Nat → Int32} {i : Int32} (hT : ∀ A s, E A s → va_T .byte t N (fun j => .int (f j)) A s s.heap) (hin : vp_in i N) (hd : decode cc pc = .ok (.baload, 1)) (k : G S r X σ τ vs L (.int (f i.toNatClampNeg) :: rest) (pc + 1)) : G S r X σ τ vs L (.int i :: .ref t :: rest) pc := by
  obtain ⟨p, l, e, R, s, m, args, below, meth, c, A, D, cy, Q, nL, n0⟩ := X
  obtain ⟨hx, hb, hml, hown, hret, hlk, hR, hQ, hg, hNW, hK, hA, hE, hEo, hex⟩ := hF
  intro H locs ls hP hD hS hl h1 h2
  exact va_tb hx hb (hT _ _ hE) hS hin rfl hd (k H locs ls hP hD hS hl h1 h2)
theorem g_tlen (hF : Fx S r X ex cc own ret d Qr Qt E) {t N : Nat} {f : Nat → Value} {ty : FieldType} {v : Int32} (hT : ∀ A s, E A s → va_T ty t N f A s s.heap) (hv : Int32.ofNat N = v) (hd : decode cc pc = .ok (.arraylength, 1)) (k : G S r X σ τ vs L (.int v :: rest) (pc + 1)) : G S r X σ τ vs L (.ref t :: rest) pc := by
  obtain ⟨p, l, e, R, s, m, args, below, meth, c, A, D, cy, Q, nL, n0⟩ := X
  obtain ⟨hx, hb, hml, hown, hret, hlk, hR, hQ, hg, hNW, hK, hA, hE, hEo, hex⟩ := hF
  intro H locs ls hP hD hS hl h1 h2
  exact va_tlen hx hb (hT _ _ hE) hS hv hd (k H locs ls hP hD hS hl h1 h2)
theorem g_envf (hF : Fx S r X ex cc own ret d Qr Qt E) {C n dd : String} {v : Value} {index q : Nat} (hZ : ∀ A s, E A s → va_OF C n dd v q A s s.heap) (hw : Cond.fieldLink own index C n dd ∈ GW) (hd : decode cc pc = .ok (.getfield index, 3)) (k : G S r X σ τ vs L (v :: rest) (pc + 3)) : G S r X σ τ vs L (.ref q :: rest) pc := by
  obtain ⟨p, l, e, R, s, m, args, below, meth, c, A, D, cy, Q, nL, n0⟩ := X
  obtain ⟨hx, hb, hml, hown, hret, hlk, hR, hQ, hg, hNW, hK, hA, hE, hEo, hex⟩ := hF
  intro H locs ls hP hD hS hl h1 h2
  exact vk_getf hx hb (hZ _ _ hE) hS hown (hg _ hw) (fun _ h9 => h9) hd (k H locs ls hP hD hS hl h1 h2)
theorem g_getsq (hF : Fx S r X ex cc own ret d Qr Qt E) {C n dd : String} {index : Nat} (hZ : ∀ A s, E A s → va_Zq C n dd A s s.heap) (hw : Cond.fieldLink own index C n dd ∈ GW) (hd : decode cc pc = .ok (.getstatic index, 3)) (k : ∀ v3 : Value, v3.category = 1 → G S r X σ τ vs L (v3 :: rest) (pc + 3)) : G S r X σ τ vs L rest pc := by
  obtain ⟨p, l, e, R, s, m, args, below, meth, c, A, D, cy, Q, nL, n0⟩ := X
  obtain ⟨hx, hb, hml, hown, hret, hlk, hR, hQ, hg, hNW, hK, hA, hE, hEo, hex⟩ := hF
  intro H locs ls hP hD hS hl h1 h2
  rcases hZ _ _ hE with hz | ⟨t, hz⟩
  · exact va_gets hx hb hz hS hown (hg _ hw) (fun _ h9 => h9) hd (k .null rfl H locs ls hP hD hS hl h1 h2)
  · exact va_gets hx hb hz hS hown (hg _ hw) (fun _ h9 => h9) hd (k (.ref t) rfl H locs ls hP hD hS hl h1 h2)
theorem g_hc {n0 n : Nat} {R : Room} (hR : R = rmD d n0) (h1 : n0 ≤ n) (h2 : n ≤ CAP) : n - n0 ≤ R.cells ∧ 9 * (n - n0) ≤ R.slots := by
  subst hR
  refine ⟨?_, ?_⟩
  · show _ ≤ CAP - n0; omega
  · show _ ≤ 9 * (CAP - n0); omega
theorem g_hf9 {n0 : Nat} {R : Room} (hR : R = rmD d n0) (h : 1 ≤ d) : 1 ≤ R.frames ∧ 40 * d ≤ R.locals := by
  subst hR
  exact ⟨h, Nat.le_refl _⟩
theorem g_hf {n0 : Nat} {R : Room} (hR : R = rmD d n0) (h : 1 ≤ d) : 1 ≤ R.frames ∧ 40 ≤ R.locals := by
  subst hR
  exact ⟨h, by show 40 ≤ 40 * d; omega⟩
theorem g_mmin (hF : Fx S r X ex cc own ret d Qr Qt E) {index : Nat} {x y : Int32} (hd1 : 1 ≤ d) (hw : Cond.methodLink own index Lib.Math.min.name ∈ GW) (hs : Cond.static Lib.Math.min.name ∈ GW) (hi : Cond.initialized "java/lang/Math" ∈ GW) (hc : Cond.code Lib.Math.min.name Lib.Math.min.code 2 (some .int) ∈ GW) (hcat : (rest.map fun v => v.category).sum ≤ 8) (hd : decode cc pc = .ok (.invokestatic index, 3)) (k : G S r X σ τ vs L (.int (if y < x then y else x) :: rest) (pc + 3)) : G S r X σ τ vs L (.int y :: .int x :: rest) pc := by
  obtain ⟨p, l, e, R, s, m, args, below, meth, c, A, D, cy, Q, nL, n0⟩ := X
  obtain ⟨hx, hb, hml, hown, hret, hlk, hR, hQ, hg, hNW, hK, hA, hE, hEo, hex⟩ := hF
  intro H locs ls hP hD hS hl h1 h2
  exact va_mmin hx hb (hml.trans hl.1.symm) hown (hg _ hw) (hg _ hs) (hg _ hi) (hg _ hc) (g_hf hR hd1).1 (by have := (g_hf hR hd1).2; omega) (g_hc hR h1 h2).1 (g_hc hR h1 h2).2 hd (k H locs ls hP hD hS hl h1 h2)
theorem g_mmax (hF : Fx S r X ex cc own ret d Qr Qt E) {index : Nat} {x y : Int32} (hd1 : 1 ≤ d) (hw : Cond.methodLink own index Lib.Math.max.name ∈ GW) (hs : Cond.static Lib.Math.max.name ∈ GW) (hi : Cond.initialized "java/lang/Math" ∈ GW) (hc : Cond.code Lib.Math.max.name Lib.Math.max.code 2 (some .int) ∈ GW) (hcat : (rest.map fun v => v.category).sum ≤ 8) (hd : decode cc pc = .ok (.invokestatic index, 3)) (k : G S r X σ τ vs L (.int (if x < y then y else x) :: rest) (pc + 3)) : G S r X σ τ vs L (.int y :: .int x :: rest) pc := by
  obtain ⟨p, l, e, R, s, m, args, below, meth, c, A, D, cy, Q, nL, n0⟩ := X
  obtain ⟨hx, hb, hml, hown, hret, hlk, hR, hQ, hg, hNW, hK, hA, hE, hEo, hex⟩ := hF
  intro H locs ls hP hD hS hl h1 h2
  exact va_mmax hx hb (hml.trans hl.1.symm) hown (hg _ hw) (hg _ hs) (hg _ hi) (hg _ hc) (g_hf hR hd1).1 (by have := (g_hf hR hd1).2; omega) (g_hc hR h1 h2).1 (g_hc hR h1 h2).2 hd (k H locs ls hP hD hS hl h1 h2)
theorem g_mmin_long (hF : Fx S r X ex cc own ret d Qr Qt E) {index : Nat} {x y : Int64} (hd1 : 1 ≤ d) (hw : Cond.methodLink own index Lib.MathLoose.min_long.x ∈ GW) (hs : Cond.static Lib.MathLoose.min_long.x ∈ GW) (hi : Cond.initialized "java/lang/Math" ∈ GW) (hc : Cond.code Lib.MathLoose.min_long.x Lib.MathLoose.min_long.code 4 (some .long) ∈ GW) (hcat : (rest.map fun v => v.category).sum ≤ 8) (hd : decode cc pc = .ok (.invokestatic index, 3)) (k : G S r X σ τ vs L (.long (if y < x then y else x) :: rest) (pc + 3)) : G S r X σ τ vs L (.long y :: .long x :: rest) pc := by
  obtain ⟨p, l, e, R, s, m, args, below, meth, c, A, D, cy, Q, nL, n0⟩ := X
  obtain ⟨hx, hb, hml, hown, hret, hlk, hR, hQ, hg, hNW, hK, hA, hE, hEo, hex⟩ := hF
  intro H locs ls hP hD hS hl h1 h2
  exact va_mmin_long hx hb (hml.trans hl.1.symm) hown (hg _ hw) (hg _ hs) (hg _ hi) (hg _ hc) (g_hf hR hd1).1 (by have := (g_hf hR hd1).2; omega) (g_hc hR h1 h2).1 (g_hc hR h1 h2).2 hd (k H locs ls hP hD hS hl h1 h2)
theorem g_mmax_long (hF : Fx S r X ex cc own ret d Qr Qt E) {index : Nat} {x y : Int64} (hd1 : 1 ≤ d) (hw : Cond.methodLink own index Lib.MathLoose.max_long.x ∈ GW) (hs : Cond.static Lib.MathLoose.max_long.x ∈ GW) (hi : Cond.initialized "java/lang/Math" ∈ GW) (hc : Cond.code Lib.MathLoose.max_long.x Lib.MathLoose.max_long.code 4 (some .long) ∈ GW) (hcat : (rest.map fun v => v.category).sum ≤ 8) (hd : decode cc pc = .ok (.invokestatic index, 3)) (k : G S r X σ τ vs L (.long (if y < x then x else y) :: rest) (pc + 3)) : G S r X σ τ vs L (.long y :: .long x :: rest) pc := by
  obtain ⟨p, l, e, R, s, m, args, below, meth, c, A, D, cy, Q, nL, n0⟩ := X
  obtain ⟨hx, hb, hml, hown, hret, hlk, hR, hQ, hg, hNW, hK, hA, hE, hEo, hex⟩ := hF
  intro H locs ls hP hD hS hl h1 h2
  exact va_mmax_long hx hb (hml.trans hl.1.symm) hown (hg _ hw) (hg _ hs) (hg _ hi) (hg _ hc) (g_hf hR hd1).1 (by have := (g_hf hR hd1).2; omega) (g_hc hR h1 h2).1 (g_hc hR h1 h2).2 hd (k H locs ls hP hD hS hl h1 h2)
theorem g_mabs_long (hF : Fx S r X ex cc own ret d Qr Qt E) {index : Nat} {x : Int64} (hd1 : 1 ≤ d) (hw : Cond.methodLink own index Lib.MathLoose.abs_long.x ∈ GW) (hs : Cond.static Lib.MathLoose.abs_long.x ∈ GW) (hi : Cond.initialized "java/lang/Math" ∈ GW) (hc : Cond.code Lib.MathLoose.abs_long.x Lib.MathLoose.abs_long.code 2 (some .long) ∈ GW) (hcat : (rest.map fun v => v.category).sum ≤ 8) (hd : decode cc pc = .ok (.invokestatic index, 3)) (k : G S r X σ τ vs L (.long (if 0 < x then x else -x) :: rest) (pc + 3)) : G S r X σ τ vs L (.long x :: rest) pc := by
  obtain ⟨p, l, e, R, s, m, args, below, meth, c, A, D, cy, Q, nL, n0⟩ := X
  obtain ⟨hx, hb, hml, hown, hret, hlk, hR, hQ, hg, hNW, hK, hA, hE, hEo, hex⟩ := hF
  intro H locs ls hP hD hS hl h1 h2
  exact va_mabs_long hx hb (hml.trans hl.1.symm) hown (hg _ hw) (hg _ hs) (hg _ hi) (hg _ hc) (g_hf hR hd1).1 (by have := (g_hf hR hd1).2; omega) (g_hc hR h1 h2).1 (g_hc hR h1 h2).2 hd (k H locs ls hP hD hS hl h1 h2)
theorem g_copyb (hF : Fx S r X ex cc own ret d Qr Qt E) {index j0 j1 n0 n1 : Nat} {sp dp n : Int32} (hd1 : 1 ≤ d) (hw : Cond.methodLink own index arraycopyName ∈ GW) (hs : Cond.static arraycopyName ∈ GW) (hnat : Cond.native arraycopyName ∈ GW) (hi : Cond.initialized "java/lang/System" ∈ GW) (ho0 : ArOK S j0 0 n0) (ho1 : ArOK S j1 0 n1)
    (h1 : 0 ≤ sp.toInt) (h2 : 0 ≤ dp.toInt) (h3 : 0 ≤ n.toInt) (h4 : sp.toNatClampNeg + n.toNatClampNeg ≤ n0) (h5 : dp.toNatClampNeg + n.toNatClampNeg ≤ n1) (hfit : ∀ i, i < n.toNatClampNeg → fits .byte (.int (σ j0 (sp.toNatClampNeg + i))) = true) (hloc : (rest.map fun v => v.category).sum + (nativeFrameWords "java/lang/System" "arraycopy" 5 + 11) ≤ 40 * d) (hd : decode cc pc = .ok (.invokestatic index, 3))
    (k : ∀ f : Nat → Int32, G S r X (upF σ j1 f) τ vs L rest (pc + 3)) : G S r X σ τ vs L (.int n :: .int dp :: .ref (r j1) :: .int sp :: .ref (r j0) :: rest) pc := by
  have g1 : ∀ {x : Int32}, 0 ≤ x.toInt → ¬ x < 0 := fun h q => by
    have q := i_lt.mp q
    have e0 : (0 : Int32).toInt = 0 := by decide
    omega
  obtain ⟨p, l, e, R, s, m, args, below, meth, c, A, D, cy, Q, nL, n9⟩ := X
  obtain ⟨hx, hb, hml, hown, hret, hlk, hR, hQ, hg, hNW, hK, hA, hE, hEo, hex⟩ := hF
  intro H locs ls hP hD hS hl h8 h9
  refine va_copyi hx hb (hml.trans hl.1.symm) hown (hg _ hw) (hg _ hnat) (hg _ hs) (hg _ hi) hK hP hD hS j0 j1 0 0 ((wld_at ho0.2.1).trans (by rw [cellE_arr ho0.2.2 ho0.1])) ((wld_at ho1.2.1).trans (by rw [cellE_arr ho1.2.2 ho1.1])) rfl rfl rfl (g1 h1) (g1 h2) (g1 h3) h4 h5 hfit (g_hf9 hR hd1).1 (Nat.le_trans hloc (g_hf9 hR hd1).2) hd (fun H locs hP hD hS => ?_)
  have e9 : (wld S cy r σ τ vs).set j1 (r j1, .inl (cy 0, n1, .inl (va_cpy (σ j0) (σ j1) sp.toNatClampNeg dp.toNatClampNeg n.toNatClampNeg))) = wld S cy r (upF σ j1 (va_cpy (σ j0) (σ j1) sp.toNatClampNeg dp.toNatClampNeg n.toNatClampNeg)) τ vs := by
    have e8 := cellE_arr (cy := cy) (r := r) (σ := upF σ j1 (va_cpy (σ j0) (σ j1) sp.toNatClampNeg dp.toNatClampNeg n.toNatClampNeg)) ho1.2.2 ho1.1
    rw [upF_same] at e8
    rw [← e8]
    exact wld_set ho1.2.1
  rw [e9] at hP hD
  exact k _ H locs ls hP hD hS hl h8 h9
theorem copy_le {x n : Int32} {N : Nat} (h1 : 0 ≤ x.toInt) (h2 : 0 ≤ n.toInt) (h3 : x.toInt + n.toInt ≤ N) : x.toNatClampNeg + n.toNatClampNeg ≤ N := by
  have e1 : ((x.toNatClampNeg : Nat) : Int) = x.toInt := Int.toNat_of_nonneg h1
  have e2 : ((n.toNatClampNeg : Nat) : Int) = n.toInt := Int.toNat_of_nonneg h2
  omega
theorem g_osw {x : Int32} {a o dd : Int} {r : List (Int × Int)} (k : Int32) (hk : k.toInt = a) (h : ¬ x.toInt = a) : Op.lookupswitch.offset ((a, o) :: r) dd x.toInt = Op.lookupswitch.offset r dd x.toInt := lv_osw (fun e => h (by rw [e]; exact hk)) hk
theorem g_sub {L' : List (Nat × Value)} {st : List Value} (is : List Nat) (hi : lv_pick L is = L') (k : G S r X σ τ vs L' st pc) : G S r X σ τ vs L st pc := by
  obtain ⟨p, l, e, R, s, m, args, below, meth, c, A, D, cy, Q, nL, n0⟩ := X
  intro H locs ls hP hD hS hl h1 h2
  exact k H locs ls hP hD hS (lv_sub hl is hi) h1 h2
end G5
/-! the class's side: no Values, nothing thrown -/
def Z0 : St := fun _ _ => 0
def QF : QT := fun _ _ _ => False
def QI (P : Int32 → St → Prop) : QR := fun v σ' τ' vs' => τ' = Z0 ∧ vs' = [] ∧ ∃ x, v = some (.int x) ∧ P x σ'
def QL (P : Int64 → St → Prop) : QR := fun v σ' τ' vs' => τ' = Z0 ∧ vs' = [] ∧ ∃ x, v = some (.long x) ∧ P x σ'
def QV (P : St → Prop) : QR := fun v σ' τ' vs' => τ' = Z0 ∧ vs' = [] ∧ v = none ∧ P σ'
def QA (r : Nat → Nat) (P : Nat → St → Prop) : QR := fun v σ' τ' vs' => τ' = Z0 ∧ vs' = [] ∧ ∃ q, v = some (.ref (r q)) ∧ P q σ'
section G6
variable {S : Sh} {r : Nat → Nat} {X : Cx} {L : List (Nat × Value)} {rest : List Value} {pc : Nat} {σ : St}
theorem k_i {P : Int32 → St → Prop} (k : ∀ x σ', P x σ' → G S r X σ' Z0 [] L (.int x :: rest) pc) : ∀ v σ' τ' vs', QI P v σ' τ' vs' → G S r X σ' τ' vs' L (v.toList ++ rest) pc := by
  rintro v σ' τ' vs' ⟨rfl, rfl, x, rfl, h⟩
  exact k x σ' h
theorem k_v {P : St → Prop} (k : ∀ σ', P σ' → G S r X σ' Z0 [] L rest pc) : ∀ v σ' τ' vs', QV P v σ' τ' vs' → G S r X σ' τ' vs' L (v.toList ++ rest) pc := by
  rintro v σ' τ' vs' ⟨rfl, rfl, rfl, h⟩
  exact k σ' h
theorem k_a {P : Nat → St → Prop} (k : ∀ q σ', P q σ' → G S r X σ' Z0 [] L (.ref (r q) :: rest) pc) : ∀ v σ' τ' vs', QA r P v σ' τ' vs' → G S r X σ' τ' vs' L (v.toList ++ rest) pc := by
  rintro v σ' τ' vs' ⟨rfl, rfl, q, rfl, h⟩
  exact k q σ' h
theorem k_ro (k : ∀ x, G S r X σ Z0 [] L (.int x :: rest) pc) : ∀ v σ' τ' vs', QI (fun _ σ9 => σ9 = σ) v σ' τ' vs' → G S r X σ' τ' vs' L (v.toList ++ rest) pc := by
  rintro v σ' τ' vs' ⟨rfl, rfl, x, rfl, rfl⟩
  exact k x
theorem k_rol (k : ∀ x, G S r X σ Z0 [] L (.long x :: rest) pc) : ∀ v σ' τ' vs', QL (fun _ σ9 => σ9 = σ) v σ' τ' vs' → G S r X σ' τ' vs' L (v.toList ++ rest) pc := by
  rintro v σ' τ' vs' ⟨rfl, rfl, x, rfl, rfl⟩
  exact k x
theorem k_rop {P : Int32 → St → Prop} (k : ∀ x, P x σ → G S r X σ Z0 [] L (.int x :: rest) pc) : ∀ v σ' τ' vs', QI (fun v9 σ9 => P v9 σ9 ∧ σ9 = σ) v σ' τ' vs' → G S r X σ' τ' vs' L (v.toList ++ rest) pc := by
  rintro v σ' τ' vs' ⟨rfl, rfl, x, rfl, h, rfl⟩
  exact k x h
theorem k_roz (k : ∀ x : Int32, x = 0 ∨ x = 1 → G S r X σ Z0 [] L (.int x :: rest) pc) : ∀ v σ' τ' vs', QI (fun v9 σ9 => (v9 = 0 ∨ v9 = 1) ∧ σ9 = σ) v σ' τ' vs' → G S r X σ' τ' vs' L (v.toList ++ rest) pc := by
  rintro v σ' τ' vs' ⟨rfl, rfl, x, rfl, h, rfl⟩
  exact k x h
end G6
theorem k_nz {v : Int32} (h : v = 0 ∨ v = 1) : narrow .boolean (.int v) = .int v := by
  rcases h with rfl | rfl <;> rfl
/-! numbers -/
theorem s_rng (x : Int32) : -2147483648 ≤ x.toInt ∧ x.toInt < 2147483648 := ⟨Int32.le_toInt x, Int32.toInt_lt x⟩
theorem s_add (x y : Int32) : ∃ k : Int, (x + y).toInt = x.toInt + y.toInt + 4294967296 * k := by
  have h := Int32.toInt_add x y
  rw [Int.bmod_def] at h
  have e : ((2 ^ 32 : Nat) : Int) = 4294967296 := by decide
  rw [e] at h
  split at h
  · exact ⟨-((x.toInt + y.toInt) / 4294967296), by omega⟩
  · exact ⟨-((x.toInt + y.toInt) / 4294967296) - 1, by omega⟩
theorem s_sub (x y : Int32) : ∃ k : Int, (x - y).toInt = x.toInt - y.toInt + 4294967296 * k := by
  have h := Int32.toInt_sub x y
  rw [Int.bmod_def] at h
  have e : ((2 ^ 32 : Nat) : Int) = 4294967296 := by decide
  rw [e] at h
  split at h
  · exact ⟨-((x.toInt - y.toInt) / 4294967296), by omega⟩
  · exact ⟨-((x.toInt - y.toInt) / 4294967296) - 1, by omega⟩
theorem s_in {i : Int32} {n : Nat} (hn : n < 2 ^ 31) (h0 : 0 ≤ i.toInt) (h1 : i.toInt < n) : vp_in i n := by
  obtain ⟨j, hj, e⟩ := nI_of (x := i) (fun q => by
    have q1 := i_lt.mp q
    have e0 : (0 : Int32).toInt = 0 := by decide
    omega)
  subst e
  rw [nI_toInt hj] at h1
  exact vp_in_nI (by omega) hn
theorem s_out {i : Int32} {n : Nat} (hn : n < 2 ^ 31) (h : i.toInt < 0 ∨ (n : Int) ≤ i.toInt) : ¬ vp_in i n := fun h9 => by
  obtain ⟨j, hj, e⟩ := vp_in_of h9 hn
  rw [e, nI_toInt (by omega)] at h
  omega
theorem s_shr0 (x : Int32) : x >>> ((0 : Int32) &&& 31) = x := by
  have e : ((0 : Int32) &&& 31) = 0 := by decide
  rw [e]
  exact Int32.shiftRight_zero
theorem s_ltn {i : Int32} {n : Nat} (h : vp_in i n) : i.toNatClampNeg < n := Nat.not_le.mp fun q => h (Or.inr q)
theorem s_min {x y v : Int32} (h : v = if y < x then y else x) : v.toInt ≤ x.toInt ∧ v.toInt ≤ y.toInt ∧ (v.toInt = x.toInt ∨ v.toInt = y.toInt) := by
  subst h
  split
  · rename_i q
    have := i_lt.mp q
    omega
  · rename_i q
    have : ¬ y.toInt < x.toInt := fun z => q (i_lt.mpr z)
    omega
theorem s_max {x y v : Int32} (h : v = if x < y then y else x) : x.toInt ≤ v.toInt ∧ y.toInt ≤ v.toInt ∧ (v.toInt = x.toInt ∨ v.toInt = y.toInt) := by
  subst h
  split
  · rename_i q
    have := i_lt.mp q
    omega
  · rename_i q
    have : ¬ x.toInt < y.toInt := fun z => q (i_lt.mpr z)
    omega
def lup (m n : Int64) : Nat := (m.toInt - n.toInt).toNat
def ldn (n : Int64) : Nat := n.toInt.toNat
theorem lup_lt {n m : Int64} (h : (lg_cmp n m).toInt < 0) : lup m (n + 1) < lup m n := by
  have h1 : n < m := (lg_cmp_lt n m).mp (i_lt.mpr (by have e0 : (0 : Int32).toInt = 0 := by decide
                                                      omega))
  have h2 : n.toInt < m.toInt := Int64.lt_iff_toInt_lt.mp h1
  have h3 := Int64.toInt_lt m
  have h4 := Int64.le_toInt n
  have e1 : (1 : Int64).toInt = 1 := by decide
  have e : (n + 1).toInt = n.toInt + 1 := by
    rw [Int64.toInt_add, e1]
    rw [Int.bmod_eq_of_le] <;> omega
  unfold lup
  rw [e]
  omega
theorem lpos_of {n : Int64} (h : 0 < (lg_cmp n 0).toInt) : 0 < n.toInt := by
  have h1 : (0 : Int64) < n := (lg_cmp_gt n 0).mp (i_lt.mpr (by have e0 : (0 : Int32).toInt = 0 := by decide
                                                                omega))
  have h2 := Int64.lt_iff_toInt_lt.mp h1
  have e0 : (0 : Int64).toInt = 0 := by decide
  omega
theorem lne_of {n : Int64} (h : 0 < (lg_cmp n 0).toInt) : ¬ n = 0 := fun e => by
  have h1 := lpos_of h
  rw [e] at h1
  revert h1
  decide
theorem ldn_lt {n : Int64} (h : 0 < (lg_cmp n 0).toInt) : ldn (n / 10) < ldn n := by
  have h1 := lpos_of h
  have h2 := Int64.toInt_lt n
  have e1 : (10 : Int64).toInt = 10 := by decide
  have e : (n / 10).toInt = n.toInt / 10 := by
    rw [Int64.toInt_div, e1, Int.tdiv_eq_ediv_of_nonneg (by omega)]
    rw [Int.bmod_eq_of_le] <;> omega
  unfold ldn
  rw [e]
  omega
def dnm (x : Int32) : Nat := (x.toInt + 2147483648).toNat
def upm (x : Int32) : Nat := (2147483647 - x.toInt).toNat
theorem dnm_lt {x : Int32} {b : Int} (h : b < x.toInt) (hb : -2147483648 ≤ b) : dnm (x + (-1)) < dnm x := by
  have e1 : (-1 : Int32).toInt = -1 := by decide
  have hg := s_rng x
  have hh := s_rng (x + (-1))
  obtain ⟨k, e⟩ := s_add x (-1)
  rw [e1] at e
  unfold dnm
  omega
theorem dnm_le {x : Int32} {b : Int} (h : b ≤ x.toInt) (hb : -2147483648 < b) : dnm (x + (-1)) < dnm x := dnm_lt (b := b - 1) (by omega) (by omega)
theorem upm_lt {x : Int32} {b : Int} (h : x.toInt < b) (hb : b < 2147483648) : upm (x + 1) < upm x := by
  have e1 : (1 : Int32).toInt = 1 := by decide
  have hg := s_rng x
  have hh := s_rng (x + 1)
  obtain ⟨k, e⟩ := s_add x 1
  rw [e1] at e
  unfold upm
  omega
