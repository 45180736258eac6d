/-! what System.arraycopy and Arrays.fill leave, exactly -/
/-- a row whose first n cells are one value -/
def fil (n : Nat) (w : Int32) (f : Nat → Int32) : Nat → Int32 := fun k => if k < n then w else f k
theorem fil_in {n k : Nat} {w : Int32} {f : Nat → Int32} (h : k < n) : fil n w f k = w := if_pos h
theorem cpy_in {f g : Nat → Int32} {a b n k : Nat} (h1 : b ≤ k) (h2 : k < b + n) : va_cpy f g a b n k = f (a + (k - b)) := if_pos ⟨h1, h2⟩
theorem cpy_out {f g : Nat → Int32} {a b n k : Nat} (h : k < b ∨ b + n ≤ k) : va_cpy f g a b n k = g k := if_neg (fun q => by omega)
section XCT
variable {S : Sh} {r : Nat → Nat} {X : Cx} {ex : List ExceptionTableEntry} {cc : ByteArray} {own : String} {ret : Option FieldType} {d : Nat} {Qr : QR} {Qt : QT} {E : (Nat → Prop) → State → Prop} {σ τ : St} {vs : List Nat} {L : List (Nat × Value)} {rest : List Value} {pc : Nat}
theorem g_copybx (hF : Fx S r X ex cc own ret d Qr Qt E) {index j0 j1 n0 n1 : Nat} {sp dp n : Int32} (hd1 : 1 ≤ d) (hw : Cond.methodLink own index arraycopyName ∈ GW) (hs : Cond.static arraycopyName ∈ GW) (hnat : Cond.native arraycopyName ∈ GW) (hi : Cond.initialized "java/lang/System" ∈ GW) (ho0 : ArOK S j0 0 n0) (ho1 : ArOK S j1 0 n1)
    (h1 : 0 ≤ sp.toInt) (h2 : 0 ≤ dp.toInt) (h3 : 0 ≤ n.toInt) (h4 : sp.toNatClampNeg + n.toNatClampNeg ≤ n0) (h5 : dp.toNatClampNeg + n.toNatClampNeg ≤ n1) (hfit : ∀ i, i < n.toNatClampNeg → fits .byte (.int (σ j0 (sp.toNatClampNeg + i))) = true) (hloc : (rest.map fun v => v.category).sum + (nativeFrameWords "java/lang/System" "arraycopy" 5 + 11) ≤ 40 * d) (hd : decode cc pc = .ok (.invokestatic index, 3))
    (k : G S r X (upF σ j1 (va_cpy (σ j0) (σ j1) sp.toNatClampNeg dp.toNatClampNeg n.toNatClampNeg)) τ vs L rest (pc + 3)) : G S r X σ τ vs L (.int n :: .int dp :: .ref (r j1) :: .int sp :: .ref (r j0) :: rest) pc := by
  have g1 : ∀ {x : Int32}, 0 ≤ x.toInt → ¬ x < 0 := fun h q => by
    have q := i_lt.mp q
    have e0 : (0 : Int32).toInt = 0 := by decide
    omega
  obtain ⟨p, l, e, R, s, m, args, below, meth, c, A, D, cy, Q, nL, n9⟩ := X
  obtain ⟨hx, hb, hml, hown, hret, hlk, hR, hQ, hg, hNW, hK, hA, hE, hEo, hex⟩ := hF
  intro H locs ls hP hD hS hl h8 h9
  refine va_copyi hx hb (hml.trans hl.1.symm) hown (hg _ hw) (hg _ hnat) (hg _ hs) (hg _ hi) hK hP hD hS j0 j1 0 0 ((wld_at ho0.2.1).trans (by rw [cellE_arr ho0.2.2 ho0.1])) ((wld_at ho1.2.1).trans (by rw [cellE_arr ho1.2.2 ho1.1])) rfl rfl rfl (g1 h1) (g1 h2) (g1 h3) h4 h5 hfit (g_hf9 hR hd1).1 (Nat.le_trans hloc (g_hf9 hR hd1).2) hd (fun H locs hP hD hS => ?_)
  have e9 : (wld S cy r σ τ vs).set j1 (r j1, .inl (cy 0, n1, .inl (va_cpy (σ j0) (σ j1) sp.toNatClampNeg dp.toNatClampNeg n.toNatClampNeg))) = wld S cy r (upF σ j1 (va_cpy (σ j0) (σ j1) sp.toNatClampNeg dp.toNatClampNeg n.toNatClampNeg)) τ vs := by
    have e8 := cellE_arr (cy := cy) (r := r) (σ := upF σ j1 (va_cpy (σ j0) (σ j1) sp.toNatClampNeg dp.toNatClampNeg n.toNatClampNeg)) ho1.2.2 ho1.1
    rw [upF_same] at e8
    rw [← e8]
    exact wld_set ho1.2.1
  rw [e9] at hP hD
  exact k H locs ls hP hD hS hl h8 h9
theorem c_fillx (a : Nat → Nat) (g : Nat → Nat → Int32) (r : Nat → Nat) (σ0 : St) {j n : Nat} (ho : ArOK SC j 1 n) (hn : n < 2 ^ 31) (w : Int32) (l : Launch) (D : va_G) (cy : Nat → ClassId) : Ct l D cy SC r (EC a g) y_Arrays_fill (Cond.code y_Arrays_fill b_Arrays_fill 4 none) 0 [.ref (r j), .int w] σ0 Z0 [] (QV (fun σ9 => σ9 = upF σ0 j (fil n w (σ0 j)))) QF := by
  refine Ct_of (EC_ok a g) (by decide) (Nat.le_of_ble_eq_true rfl) (by decide) (fun X hnn hF => ?_)
  show G SC r X σ0 Z0 [] [(0, .ref (r j)), (1, .int w)] [] 0
  have b5 : ∀ N : Nat, ∀ (x : Int32) (h : Nat → Int32), upm x = N → 0 ≤ x.toInt → x.toInt ≤ (n : Int) → h = fil x.toInt.toNat w (σ0 j) → G SC r X (upF σ0 j h) Z0 [] [(0, .ref (r j)), (1, .int w), (2, .int x), (3, .int (nI n))] [] 5 := by
    intro M
    induction M using Nat.strongRecOn with
    | _ M ih =>
      intro x h N0 h0 hxn hh
      refine g_iload_n hF d_Arrays_fill_5 rfl 2 rfl ?_
      refine g_iload_n hF d_Arrays_fill_6 rfl 3 rfl ?_
      refine g_icmp_ge hF 20 d_Arrays_fill_7 (by decide) rfl (nI_toInt hn) (fun c => ?_) (fun c => ?_)
      · exact g_vret hF rfl d_Arrays_fill_20 ⟨rfl, rfl, rfl, by rw [hh, show x.toInt.toNat = n from by omega]⟩
      · refine g_aload_n hF d_Arrays_fill_10 rfl 0 rfl ?_
        refine g_iload_n hF d_Arrays_fill_11 rfl 2 rfl ?_
        refine g_iload_n hF d_Arrays_fill_12 rfl 1 rfl ?_
        refine g_iast hF ho (s_in hn h0 c) d_Arrays_fill_13 ?_
        have e1 : upC (upF σ0 j h) j x.toNatClampNeg w = upF σ0 j (fun z => if z = x.toNatClampNeg then w else h z) := by
          funext z
          unfold upC upF
          split <;> simp_all
        rw [e1]
        obtain ⟨k1, e2⟩ := s_add x 1
        have e3 : (1 : Int32).toInt = 1 := by decide
        have e4 := s_rng (x + 1)
        refine g_iinc hF (x + 1) [(2, .int (x + 1)), (0, .ref (r j)), (1, .int w), (3, .int (nI n))] d_Arrays_fill_14 2 rfl rfl hnn (by decide) rfl ?_
        refine g_goto hF 5 d_Arrays_fill_17 (by decide) ?_
        refine g_sub (L' := [(0, .ref (r j)), (1, .int w), (2, .int (x + 1)), (3, .int (nI n))]) [1, 2, 0, 3] rfl ?_
        refine ih _ (by rw [← N0]; unfold upm; omega) (x + 1) _ rfl (by omega) (by omega) ?_
        funext z
        rw [hh]
        unfold fil
        rw [show (x + 1).toInt.toNat = x.toInt.toNat + 1 from by omega, show x.toNatClampNeg = x.toInt.toNat from rfl]
        by_cases c1 : z = x.toInt.toNat
        · rw [if_pos c1, if_pos (by omega)]
        · rw [if_neg c1]
          by_cases c2 : z < x.toInt.toNat
          · rw [if_pos c2, if_pos (by omega)]
          · rw [if_neg c2, if_neg (by omega)]
  refine g_iconst hF (v := 0) d_Arrays_fill_0 (by decide) ?_
  refine g_istore_n hF [(2, .int 0), (0, .ref (r j)), (1, .int w)] d_Arrays_fill_1 rfl hnn (by decide) rfl ?_
  refine g_aload_n hF d_Arrays_fill_2 rfl 1 rfl ?_
  refine g_alen hF ho (fun _ => ⟨1, _, rfl⟩) (v := nI n) rfl d_Arrays_fill_3 ?_
  refine g_istore_n hF [(3, .int (nI n)), (2, .int 0), (0, .ref (r j)), (1, .int w)] d_Arrays_fill_4 rfl hnn (by decide) rfl ?_
  have e0 : σ0 = upF σ0 j (σ0 j) := by
    funext z
    unfold upF
    split <;> simp_all
  refine g_sub (L' := [(0, .ref (r j)), (1, .int w), (2, .int 0), (3, .int (nI n))]) [2, 3, 1, 0] rfl ?_
  rw [e0]
  have h := b5 _ 0 (σ0 j) rfl (by decide) (by rw [show (0 : Int32).toInt = 0 from rfl]; omega) (by funext z; unfold fil; rw [show (0 : Int32).toInt.toNat = 0 from rfl, if_neg (Nat.not_lt_zero z)])
  exact h
end XCT
