/-! helpers, for rounds over the rows alone -/
abbrev St : Type := Nat → Nat → Int32
def upF (σ : St) (p : Nat) (f : Nat → Int32) : St := fun j => if j = p then f else σ j
def upC (σ : St) (p k : Nat) (v : Int32) : St := upF σ p (fun j => if j = k then v else σ p j)
def CAP : Nat := 24000
def Z0 : St := fun _ _ => 0
def ByteOK (f : Nat → Int32) : Prop := ∀ k, fits .byte (.int (f k)) = true
def AllIn (lo hi : Int) (f : Nat → Int32) : Prop := ∀ k, lo ≤ (f k).toInt ∧ (f k).toInt ≤ hi
def isOp (q : Nat) : Prop := q = 47 ∨ (65 ≤ q ∧ q < 565)
theorem i_lt {x y : Int32} : x < y ↔ x.toInt < y.toInt := Int32.lt_iff_toInt_lt
theorem s_rng (x : Int32) : -2147483648 ≤ x.toInt ∧ x.toInt < 2147483648 := ⟨Int32.le_toInt x, Int32.toInt_lt x⟩
theorem s_add (x y : Int32) : ∃ k : Int, (x + y).toInt = x.toInt + y.toInt + 4294967296 * k := by
  have h := Int32.toInt_add x y
  rw [Int.bmod_def] at h
  have e : ((2 ^ 32 : Nat) : Int) = 4294967296 := by decide
  rw [e] at h
  split at h
  · exact ⟨-((x.toInt + y.toInt) / 4294967296), by omega⟩
  · exact ⟨-((x.toInt + y.toInt) / 4294967296) - 1, by omega⟩
theorem s_sub (x y : Int32) : ∃ k : Int, (x - y).toInt = x.toInt - y.toInt + 4294967296 * k := by
  have h := Int32.toInt_sub x y
  rw [Int.bmod_def] at h
  have e : ((2 ^ 32 : Nat) : Int) = 4294967296 := by decide
  rw [e] at h
  split at h
  · exact ⟨-((x.toInt - y.toInt) / 4294967296), by omega⟩
  · exact ⟨-((x.toInt - y.toInt) / 4294967296) - 1, by omega⟩
/-! numbers and stores -/
theorem ad {x y : Int32} (h0 : -2147483648 ≤ x.toInt + y.toInt) (h1 : x.toInt + y.toInt < 2147483648) : (x + y).toInt = x.toInt + y.toInt := by
  obtain ⟨k, e⟩ := s_add x y
  have := s_rng (x + y)
  omega
theorem sb {x y : Int32} (h0 : -2147483648 ≤ x.toInt - y.toInt) (h1 : x.toInt - y.toInt < 2147483648) : (x - y).toInt = x.toInt - y.toInt := by
  obtain ⟨k, e⟩ := s_sub x y
  have := s_rng (x - y)
  omega
theorem adc {x y : Int32} {n : Int} (hy : y.toInt = n) (h0 : -2147483648 ≤ x.toInt + n) (h1 : x.toInt + n < 2147483648) : (x + y).toInt = x.toInt + n := by
  rw [ad (by omega) (by omega), hy]
theorem ad1 {x : Int32} (h : x.toInt < 2147483647) : (x + 1).toInt = x.toInt + 1 := by
  have h2 := s_rng x
  exact adc (by decide) (by omega) (by omega)
theorem sb1 {x : Int32} (h : -2147483648 < x.toInt) : (x - 1).toInt = x.toInt - 1 := by
  have h2 := s_rng x
  have e : (1 : Int32).toInt = 1 := by decide
  rw [sb (by omega) (by omega), e]
theorem dc1 {x : Int32} (h : -2147483648 < x.toInt) : (x + (-1)).toInt = x.toInt - 1 := by
  have h2 := s_rng x
  exact adc (n := -1) (by decide) (by omega) (by omega)
theorem nt {x : Int32} (h : 0 ≤ x.toInt) : (x.toNatClampNeg : Int) = x.toInt := Int.toNat_of_nonneg h
theorem nt' {x : Int32} : x.toNatClampNeg = x.toInt.toNat := rfl
theorem ieq {x y : Int32} (h : x.toInt = y.toInt) : x = y := Int32.toInt_inj.mp h
/-- a store after a write, by places -/
theorem rdC (σ : St) (p k q j : Nat) (v : Int32) : upC σ p k v q j = if q = p then (if j = k then v else σ p j) else σ q j := by
  unfold upC upF
  by_cases h : q = p
  · rw [if_pos h, if_pos h]
  · rw [if_neg h, if_neg h]
theorem rdA (σ : St) (p k j : Nat) (v : Int32) : upC σ p k v p j = if j = k then v else σ p j := by rw [rdC, if_pos rfl]
theorem rdA_eq {σ : St} {p k j : Nat} {v : Int32} (h : j = k) : upC σ p k v p j = v := by rw [rdA, if_pos h]
theorem rdA_ne {σ : St} {p k j : Nat} {v : Int32} (h : j ≠ k) : upC σ p k v p j = σ p j := by rw [rdA, if_neg h]
def Kp (fs : List (Nat × Nat)) (cs : List Nat) (a b : St) : Prop := ∀ c k, fs.contains (c, k) = false → cs.contains c = false → b c k = a c k
theorem kp_rf {fs : List (Nat × Nat)} {cs : List Nat} {a : St} : Kp fs cs a a := fun _ _ _ _ => rfl
theorem kp_tr {fs : List (Nat × Nat)} {cs : List Nat} {a b c : St} (h : Kp fs cs a b) (g : Kp fs cs b c) : Kp fs cs a c := fun x k h1 h2 => (g x k h1 h2).trans (h x k h1 h2)
theorem kp_f {fs : List (Nat × Nat)} {cs : List Nat} {a b : St} {p k : Nat} {v : Int32} (h : Kp fs cs a b) (hm : fs.contains (p, k) = true) : Kp fs cs a (upC b p k v) := fun c j h1 h2 => by
  rw [rdC]
  by_cases e1 : c = p
  · subst e1
    rw [if_pos rfl]
    by_cases e2 : j = k
    · subst e2; rw [hm] at h1; cases h1
    · rw [if_neg e2]; exact h c j h1 h2
  · rw [if_neg e1]; exact h c j h1 h2
theorem kp_a {fs : List (Nat × Nat)} {cs : List Nat} {a b : St} {p k : Nat} {v : Int32} (h : Kp fs cs a b) (hm : cs.contains p = true) : Kp fs cs a (upC b p k v) := fun c j h1 h2 => by
  rw [rdC]
  by_cases e1 : c = p
  · subst e1; rw [hm] at h2; cases h2
  · rw [if_neg e1]; exact h c j h1 h2
theorem kp_sub {fs fs' : List (Nat × Nat)} {cs cs' : List Nat} {a b : St} (h : Kp fs cs a b) (s1 : fs.all (fun x => fs'.contains x || cs'.contains x.1) = true) (s2 : cs.all (fun x => cs'.contains x) = true) : Kp fs' cs' a b := fun c j h1 h2 => by
  refine h c j ?_ ?_
  · cases q : fs.contains (c, j) with
    | false => rfl
    | true =>
      have h3 := List.all_eq_true.mp s1 (c, j) (List.contains_iff_mem.mp q)
      simp only [h1, h2, Bool.or_self] at h3
      cases h3
  · cases q : cs.contains c with
    | false => rfl
    | true =>
      have h3 := List.all_eq_true.mp s2 c (List.contains_iff_mem.mp q)
      rw [h2] at h3
      cases h3
def chI (b : Int32) : Int32 := ((b &&& 255).toUInt32 % 65536).toInt32
def SK (j : Nat) : Nat := ([258, 286, 692] : List Nat).getD j 0
def ST_ (j : Nat) : String := ([" int void static e\x78tern if else while do for break continue return ", " <<= >>= += -= *= /= %= &= |= ^= || && == != <= >= << >> ++ -- ( ) { } [ ] , ; ? : = | ^ & < > + - * / % ! ~ ", " get put print stop "] : List String).getD j ""
def SN (j : Nat) : Nat := ([67, 109, 20] : List Nat).getD j 0
def SB0 : List Int32 := [32, 105, 110, 116, 32, 118, 111, 105, 100, 32, 115, 116, 97, 116, 105, 99, 32, 101, 120, 116, 101, 114, 110, 32, 105, 102, 32, 101, 108, 115, 101, 32, 119, 104, 105, 108, 101, 32, 100, 111, 32, 102, 111, 114, 32, 98, 114, 101, 97, 107, 32, 99, 111, 110, 116, 105, 110, 117, 101, 32, 114, 101, 116, 117, 114, 110, 32]
def SB1 : List Int32 := [32, 60, 60, 61, 32, 62, 62, 61, 32, 43, 61, 32, 45, 61, 32, 42, 61, 32, 47, 61, 32, 37, 61, 32, 38, 61, 32, 124, 61, 32, 94, 61, 32, 124, 124, 32, 38, 38, 32, 61, 61, 32, 33, 61, 32, 60, 61, 32, 62, 61, 32, 60, 60, 32, 62, 62, 32, 43, 43, 32, 45, 45, 32, 40, 32, 41, 32, 123, 32, 125, 32, 91, 32, 93, 32, 44, 32, 59, 32, 63, 32, 58, 32, 61, 32, 124, 32, 94, 32, 38, 32, 60, 32, 62, 32, 43, 32, 45, 32, 42, 32, 47, 32, 37, 32, 33, 32, 126, 32]
def SB2 : List Int32 := [32, 103, 101, 116, 32, 112, 117, 116, 32, 112, 114, 105, 110, 116, 32, 115, 116, 111, 112, 32]
def SF (j k : Nat) : Int32 := (([SB0, SB1, SB2] : List (List Int32)).getD j []).getD k 0def atv (n : Nat) (f : Nat → Int32) (i : Int32) : Int32 := if 0 ≤ i.toInt ∧ i.toInt < n then f i.toNatClampNeg else 0
def setv (n : Nat) (f : Nat → Int32) (i v : Int32) : Nat → Int32 := if 0 ≤ i.toInt ∧ i.toInt < n then (fun k => if k = i.toNatClampNeg then v else f k) else f
def ushr (x y : Int32) : Int32 := (x.toUInt32 >>> (y.toUInt32 &&& Int32.toUInt32 31)).toInt32
def cpy (f : Nat → Int32) (i : Int32) (h : Nat → Int32) (j n : Int32) : Nat → Int32 := fun k => if j.toNatClampNeg ≤ k ∧ k < j.toNatClampNeg + n.toNatClampNeg then f (i.toNatClampNeg + (k - j.toNatClampNeg)) else h k
def gL0 : List Int32 := [8, 8, 9, 9, 10, 10, 10, 5, 3, 4, 6, 6, 7, 7, 7, 7, 1, 2]
def gL1 : List Int32 := [0, 2, 1, 3, 2, 2, 2, 4, 2, 2, 4, 2, 2, 4, 2, 3, 3, 4, 2, 2, 4, 2, 1, 1, 1, 1, 2, 2, 2, 2, 2, 2, 3, 1, 0, 0, 0, 0, 0, 0, 0, 1, 1, 1, 1, 1, 2, 2, 1, 1, 1, 1, 1, 1, 1, 1, 1, 1, 1, 1, 1]
def gS0 : List Int32 := [105, 110, 116, 32, 118, 111, 105, 100, 32, 115, 116, 97, 116, 105, 99, 32, 101, 120, 116, 101, 114, 110, 32, 105, 102, 32, 101, 108, 115, 101, 32, 119, 104, 105, 108, 101, 32, 100, 111, 32, 102, 111, 114, 32, 98, 114, 101, 97, 107, 32, 99, 111, 110, 116, 105, 110, 117, 101, 32, 114, 101, 116, 117, 114, 110, 32]
def gS1 : List Int32 := [40, 32, 41, 32, 123, 32, 125, 32, 91, 32, 93, 32, 44, 32, 59, 32, 63, 32, 58, 32, 61, 32, 60, 60, 61, 32, 62, 62, 61, 32, 43, 61, 32, 45, 61, 32, 42, 61, 32, 47, 61, 32, 37, 61, 32, 38, 61, 32, 124, 61, 32, 94, 61, 32, 60, 60, 32, 62, 62, 32, 43, 32, 45, 32, 42, 32, 47, 32, 37, 32, 38, 32, 124, 32, 94, 32, 61, 61, 32, 33, 61, 32, 60, 32, 62, 32, 60, 61, 32, 62, 61, 32, 124, 124, 32, 38, 38, 32, 33, 32, 126, 32, 43, 43, 32, 45, 45, 32]
def gC (k j : Nat) : Int32 := (([gL0, gL1, gS0, gS1] : List (List Int32)).getD k []).getD j 0
theorem atv_in {n : Nat} {f : Nat → Int32} {i : Int32} (h : vp_in i n) (hn : n < 2 ^ 31) : atv n f i = f i.toNatClampNeg := by
  obtain ⟨j, hj, e⟩ := vp_in_of h hn
  have e2 : i.toInt = j := by rw [e, nI_toInt (by omega)]
  unfold atv
  rw [if_pos ⟨by omega, by omega⟩]
theorem atv_out {n : Nat} {f : Nat → Int32} {i : Int32} (h : i.toInt < 0 ∨ (n : Int) ≤ i.toInt) : atv n f i = 0 := by
  unfold atv
  rw [if_neg (by omega)]
theorem setv_in {n : Nat} {f : Nat → Int32} {i v : Int32} (h : vp_in i n) (hn : n < 2 ^ 31) : setv n f i v = fun k => if k = i.toNatClampNeg then v else f k := by
  obtain ⟨j, hj, e⟩ := vp_in_of h hn
  have e2 : i.toInt = j := by rw [e, nI_toInt (by omega)]
  unfold setv
  rw [if_pos ⟨by omega, by omega⟩]
theorem setv_out {n : Nat} {f : Nat → Int32} {i v : Int32} (h : i.toInt < 0 ∨ (n : Int) ≤ i.toInt) : setv n f i v = f := by
  unfold setv
  rw [if_neg (by omega)]
theorem upF_id {σ : St} {j : Nat} : upF σ j (σ j) = σ := funext (fun z => by unfold upF; split <;> simp_all)
/-! the class: stores, rows -/
theorem kp_F {fs : List (Nat × Nat)} {cs : List Nat} {a b : St} {p : Nat} {f : Nat → Int32} (h : Kp fs cs a b) (hm : cs.contains p = true) : Kp fs cs a (upF b p f) := fun c j h1 h2 => by
  unfold upF
  by_cases e1 : c = p
  · subst e1; rw [hm] at h2; cases h2
  · rw [if_neg e1]; exact h c j h1 h2
theorem rdF (σ : St) (p q : Nat) (f : Nat → Int32) : upF σ p f q = if q = p then f else σ q := rfl
theorem rdF_eq {σ : St} {p : Nat} {f : Nat → Int32} : upF σ p f p = f := if_pos rfl
theorem rdF_ne {σ : St} {p q : Nat} {f : Nat → Int32} (h : q ≠ p) : upF σ p f q = σ q := if_neg h
theorem rdC_ne {σ : St} {p k q : Nat} {v : Int32} (h : q ≠ p) : upC σ p k v q = σ q := if_neg h
theorem rdC_eq {σ : St} {p k : Nat} {v : Int32} : upC σ p k v p = fun j => if j = k then v else σ p j := if_pos rfl
theorem atv_at {n : Nat} {f : Nat → Int32} {i : Int32} {j : Nat} (h : i.toInt = j) (hn : j < n) : atv n f i = f j := by
  have e : i.toNatClampNeg = j := by rw [nt', h]; rfl
  unfold atv
  rw [if_pos ⟨by omega, by omega⟩, e]
theorem setv_at {n : Nat} {f : Nat → Int32} {i v : Int32} {j : Nat} (h : i.toInt = j) (hn : j < n) : setv n f i v = fun k => if k = j then v else f k := by
  have e : i.toNatClampNeg = j := by rw [nt', h]; rfl
  unfold setv
  rw [if_pos ⟨by omega, by omega⟩, e]
theorem setv_cases (n : Nat) (f : Nat → Int32) (i v : Int32) : (setv n f i v = f ∧ (i.toInt < 0 ∨ (n : Int) ≤ i.toInt)) ∨ ∃ j : Nat, i.toInt = j ∧ j < n ∧ setv n f i v = fun k => if k = j then v else f k := by
  by_cases h : 0 ≤ i.toInt ∧ i.toInt < n
  · have e := nt h.1
    exact Or.inr ⟨i.toNatClampNeg, e.symm, by omega, setv_at e.symm (by omega)⟩
  · exact Or.inl ⟨setv_out (by omega), by omega⟩
theorem atv_cases (n : Nat) (f : Nat → Int32) (i : Int32) : (atv n f i = 0 ∧ (i.toInt < 0 ∨ (n : Int) ≤ i.toInt)) ∨ ∃ j : Nat, i.toInt = j ∧ j < n ∧ atv n f i = f j := by
  by_cases h : 0 ≤ i.toInt ∧ i.toInt < n
  · have e := nt h.1
    exact Or.inr ⟨i.toNatClampNeg, e.symm, by omega, atv_at e.symm (by omega)⟩
  · exact Or.inl ⟨atv_out (by omega), by omega⟩
theorem i0 : (0 : Int32).toInt = 0 := by decide
theorem i1 : (1 : Int32).toInt = 1 := by decide
theorem i2 : (2 : Int32).toInt = 2 := by decide
theorem i3 : (3 : Int32).toInt = 3 := by decide
theorem i4 : (4 : Int32).toInt = 4 := by decide
theorem im1 : ((-1) : Int32).toInt = -1 := by decide
theorem ad0 {x : Int32} {c : Int32} {n : Int} (hc : c.toInt = n) (h0 : 0 ≤ x.toInt + n) (h1 : x.toInt + n ≤ 2000000000) : (x + c).toInt = x.toInt + n := adc hc (by omega) (by omega)
theorem sbc {x y : Int32} {n : Int} (hy : y.toInt = n) (h0 : -2147483648 ≤ x.toInt - n) (h1 : x.toInt - n < 2147483648) : (x - y).toInt = x.toInt - n := by
  rw [sb (by omega) (by omega), hy]
/-! how many words an instruction has, what it takes and gives -/
def ln (n : Nat) : Nat := ([0, 2, 1, 3, 2, 2, 2, 4, 2, 2, 4, 2, 2, 4, 2, 3, 3, 4, 2, 2, 4, 2, 1, 1, 1, 1, 2, 2, 2, 2, 2, 2, 3, 1, 0, 0, 0, 0, 0, 0, 0, 1, 1, 1, 1, 1, 2, 2, 1, 1, 1, 1, 1, 1, 1, 1, 1, 1, 1, 1, 1] : List Nat).getD n 0
def po (n : Nat) : Nat := if 41 ≤ n then 2 else ([0, 0, 1, 0, 0, 0, 1, 0, 0, 1, 0, 0, 1, 0, 0, 0, 1, 0, 1, 2, 1, 1, 1, 1, 1, 1] : List Nat).getD n 0
def de (n : Nat) : Int := if 41 ≤ n then -1 else ([0, 1, -1, 1, 1, 1, 0, 1, 1, 0, 1, 1, 0, 1, 1, 0, -1, 0, 0, -1, 0, 1, 0, 0, 0, 0] : List Int).getD n 0
theorem gc1 : ∀ n, n < 61 → (gC 1 n).toInt = (ln n : Nat) := by decide
theorem ln_pos : ∀ n, n < 61 → 1 ≤ n → (n ≤ 33 ∨ 41 ≤ n) → 1 ≤ ln n ∧ ln n ≤ 4 := by decide
theorem ln_at {x : Int32} {n : Nat} (h : x.toInt = n) (hn : n < 61) : (atv 61 (gC 1) x).toInt = (ln n : Nat) := by
  rw [atv_at h hn]
  exact gc1 n hn
theorem de_po : ∀ n, n < 61 → -(po n : Int) ≤ de n ∧ de n ≤ 1 ∧ po n ≤ 2 ∧ -1 ≤ de n := by decide
theorem dn_lt {y : Int32} {n : Nat} (hn : n = y.toInt.toNat) (h : 0 < y.toInt) : (y + (-1 : Int32)).toInt.toNat < n := by
  rw [dc1 (by omega)]
  omega
def Ko (fs : List (Nat × Nat)) (cs : List Nat) (a b : St) : Prop := ∀ c k, ¬ isOp c → fs.contains (c, k) = false → cs.contains c = false → b c k = a c k
section KOS
variable {a b c : St} {fs fs' : List (Nat × Nat)} {cs cs' : List Nat}
theorem ko_rf : Ko fs cs a a := fun _ _ _ _ _ => rfl
theorem ko_kp (h : Kp fs cs a b) : Ko fs cs a b := fun c k _ h1 h2 => h c k h1 h2
theorem ko_tr (h : Ko fs cs a b) (g : Ko fs cs b c) : Ko fs cs a c := fun x k h0 h1 h2 => (g x k h0 h1 h2).trans (h x k h0 h1 h2)
theorem ko_op {q k : Nat} {v : Int32} (h : Ko fs cs a b) (hq : isOp q) : Ko fs cs a (upC b q k v) := fun c j h0 h1 h2 => by
  rw [rdC_ne (fun e => h0 (by rw [e]; exact hq))]
  exact h c j h0 h1 h2
theorem ko_sub (h : Ko fs cs a b) (s1 : fs.all (fun x => fs'.contains x || cs'.contains x.1) = true) (s2 : cs.all (fun x => cs'.contains x) = true) : Ko fs' cs' a b := fun c j h0 h1 h2 => by
  refine h c j h0 ?_ ?_
  · cases q : fs.contains (c, j) with
    | false => rfl
    | true =>
      have h3 := List.all_eq_true.mp s1 (c, j) (List.contains_iff_mem.mp q)
      simp only [h1, h2, Bool.or_self] at h3
      cases h3
  · cases q : cs.contains c with
    | false => rfl
    | true =>
      have h3 := List.all_eq_true.mp s2 c (List.contains_iff_mem.mp q)
      rw [h2] at h3
      cases h3
end KOS
theorem op_lt {c : Nat} (h : c < 47) : ¬ isOp c := fun q => by unfold isOp at q; omega
theorem op_mid {c : Nat} (h : 47 < c) (h2 : c < 65) : ¬ isOp c := fun q => by unfold isOp at q; omega
theorem ko_rd {fs : List (Nat × Nat)} {cs : List Nat} {a b : St} (h : Ko fs cs a b) (c : Nat) (hc : c < 47 ∨ (47 < c ∧ c < 65)) (h2 : cs.contains c = false) (h3 : ∀ j, fs.contains (c, j) = false) : b c = a c := funext (fun j => h c j (by rcases hc with q | q; exact op_lt q; exact op_mid q.1 q.2) (h3 j) h2)
/-- the operands below the n-th stay -/
def LOW (n : Nat) (a b : St) : Prop := ∀ j k, j < n → b (65 + j) k = a (65 + j) k
theorem low_rf {n : Nat} {a : St} : LOW n a a := fun _ _ _ => rfl
theorem low_tr {n : Nat} {a b c : St} (h : LOW n a b) (g : LOW n b c) : LOW n a c := fun j k hj => (g j k hj).trans (h j k hj)
theorem low_le {n m : Nat} {a b : St} (h : LOW n a b) (hm : m ≤ n) : LOW m a b := fun j k hj => h j k (Nat.lt_of_lt_of_le hj hm)
