/-! the class: stores, rows -/
theorem kp_F {fs : List (Nat × Nat)} {cs : List Nat} {a b : St} {p : Nat} {f : Nat → Int32} (h : Kp fs cs a b) (hm : cs.contains p = true) : Kp fs cs a (upF b p f) := fun c j h1 h2 => by
  unfold upF
  by_cases e1 : c = p
  · subst e1; rw [hm] at h2; cases h2
  · rw [if_neg e1]; exact h c j h1 h2
theorem rdF (σ : St) (p q : Nat) (f : Nat → Int32) : upF σ p f q = if q = p then f else σ q := rfl
theorem rdF_eq {σ : St} {p : Nat} {f : Nat → Int32} : upF σ p f p = f := if_pos rfl
theorem rdF_ne {σ : St} {p q : Nat} {f : Nat → Int32} (h : q ≠ p) : upF σ p f q = σ q := if_neg h
theorem rdC_ne {σ : St} {p k q : Nat} {v : Int32} (h : q ≠ p) : upC σ p k v q = σ q := if_neg h
theorem rdC_eq {σ : St} {p k : Nat} {v : Int32} : upC σ p k v p = fun j => if j = k then v else σ p j := if_pos rfl
theorem atv_at {n : Nat} {f : Nat → Int32} {i : Int32} {j : Nat} (h : i.toInt = j) (hn : j < n) : atv n f i = f j := by
  have e : i.toNatClampNeg = j := by rw [nt', h]; rfl
  unfold atv
  rw [if_pos ⟨by omega, by omega⟩, e]
theorem setv_at {n : Nat} {f : Nat → Int32} {i v : Int32} {j : Nat} (h : i.toInt = j) (hn : j < n) : setv n f i v = fun k => if k = j then v else f k := by
  have e : i.toNatClampNeg = j := by rw [nt', h]; rfl
  unfold setv
  rw [if_pos ⟨by omega, by omega⟩, e]
theorem setv_cases (n : Nat) (f : Nat → Int32) (i v : Int32) : (setv n f i v = f ∧ (i.toInt < 0 ∨ (n : Int) ≤ i.toInt)) ∨ ∃ j : Nat, i.toInt = j ∧ j < n ∧ setv n f i v = fun k => if k = j then v else f k := by
  by_cases h : 0 ≤ i.toInt ∧ i.toInt < n
  · have e := nt h.1
    exact Or.inr ⟨i.toNatClampNeg, e.symm, by omega, setv_at e.symm (by omega)⟩
  · exact Or.inl ⟨setv_out (by omega), by omega⟩
theorem atv_cases (n : Nat) (f : Nat → Int32) (i : Int32) : (atv n f i = 0 ∧ (i.toInt < 0 ∨ (n : Int) ≤ i.toInt)) ∨ ∃ j : Nat, i.toInt = j ∧ j < n ∧ atv n f i = f j := by
  by_cases h : 0 ≤ i.toInt ∧ i.toInt < n
  · have e := nt h.1
    exact Or.inr ⟨i.toNatClampNeg, e.symm, by omega, atv_at e.symm (by omega)⟩
  · exact Or.inl ⟨atv_out (by omega), by omega⟩
theorem i0 : (0 : Int32).toInt = 0 := by decide
theorem i1 : (1 : Int32).toInt = 1 := by decide
theorem i2 : (2 : Int32).toInt = 2 := by decide
theorem i3 : (3 : Int32).toInt = 3 := by decide
theorem i4 : (4 : Int32).toInt = 4 := by decide
theorem im1 : ((-1) : Int32).toInt = -1 := by decide
theorem ad0 {x : Int32} {c : Int32} {n : Int} (hc : c.toInt = n) (h0 : 0 ≤ x.toInt + n) (h1 : x.toInt + n ≤ 2000000000) : (x + c).toInt = x.toInt + n := adc hc (by omega) (by omega)
theorem sbc {x y : Int32} {n : Int} (hy : y.toInt = n) (h0 : -2147483648 ≤ x.toInt - n) (h1 : x.toInt - n < 2147483648) : (x - y).toInt = x.toInt - n := by
  rw [sb (by omega) (by omega), hy]
/-! how many words an instruction has, what it takes and gives -/
def ln (n : Nat) : Nat := ([0, 2, 1, 3, 2, 2, 2, 4, 2, 2, 4, 2, 2, 4, 2, 3, 3, 4, 2, 2, 4, 2, 1, 1, 1, 1, 2, 2, 2, 2, 2, 2, 3, 1, 0, 0, 0, 0, 0, 0, 0, 1, 1, 1, 1, 1, 2, 2, 1, 1, 1, 1, 1, 1, 1, 1, 1, 1, 1, 1, 1] : List Nat).getD n 0
def po (n : Nat) : Nat := if 41 ≤ n then 2 else ([0, 0, 1, 0, 0, 0, 1, 0, 0, 1, 0, 0, 1, 0, 0, 0, 1, 0, 1, 2, 1, 1, 1, 1, 1, 1] : List Nat).getD n 0
def de (n : Nat) : Int := if 41 ≤ n then -1 else ([0, 1, -1, 1, 1, 1, 0, 1, 1, 0, 1, 1, 0, 1, 1, 0, -1, 0, 0, -1, 0, 1, 0, 0, 0, 0] : List Int).getD n 0
theorem gc1 : ∀ n, n < 61 → (gC 1 n).toInt = (ln n : Nat) := by decide
theorem ln_pos : ∀ n, n < 61 → 1 ≤ n → (n ≤ 33 ∨ 41 ≤ n) → 1 ≤ ln n ∧ ln n ≤ 4 := by decide
theorem ln_at {x : Int32} {n : Nat} (h : x.toInt = n) (hn : n < 61) : (atv 61 (gC 1) x).toInt = (ln n : Nat) := by
  rw [atv_at h hn]
  exact gc1 n hn
theorem de_po : ∀ n, n < 61 → -(po n : Int) ≤ de n ∧ de n ≤ 1 ∧ po n ≤ 2 ∧ -1 ≤ de n := by decide
theorem dn_lt {y : Int32} {n : Nat} (hn : n = y.toInt.toNat) (h : 0 < y.toInt) : (y + (-1 : Int32)).toInt.toNat < n := by
  rw [dc1 (by omega)]
  omega
