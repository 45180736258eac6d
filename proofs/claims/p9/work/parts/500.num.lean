/-! numbers and stores -/
theorem ad {x y : Int32} (h0 : -2147483648 ≤ x.toInt + y.toInt) (h1 : x.toInt + y.toInt < 2147483648) : (x + y).toInt = x.toInt + y.toInt := by
  obtain ⟨k, e⟩ := s_add x y
  have := s_rng (x + y)
  omega
theorem sb {x y : Int32} (h0 : -2147483648 ≤ x.toInt - y.toInt) (h1 : x.toInt - y.toInt < 2147483648) : (x - y).toInt = x.toInt - y.toInt := by
  obtain ⟨k, e⟩ := s_sub x y
  have := s_rng (x - y)
  omega
theorem adc {x y : Int32} {n : Int} (hy : y.toInt = n) (h0 : -2147483648 ≤ x.toInt + n) (h1 : x.toInt + n < 2147483648) : (x + y).toInt = x.toInt + n := by
  rw [ad (by omega) (by omega), hy]
theorem ad1 {x : Int32} (h : x.toInt < 2147483647) : (x + 1).toInt = x.toInt + 1 := by
  have h2 := s_rng x
  exact adc (by decide) (by omega) (by omega)
theorem sb1 {x : Int32} (h : -2147483648 < x.toInt) : (x - 1).toInt = x.toInt - 1 := by
  have h2 := s_rng x
  have e : (1 : Int32).toInt = 1 := by decide
  rw [sb (by omega) (by omega), e]
theorem dc1 {x : Int32} (h : -2147483648 < x.toInt) : (x + (-1)).toInt = x.toInt - 1 := by
  have h2 := s_rng x
  exact adc (n := -1) (by decide) (by omega) (by omega)
theorem nt {x : Int32} (h : 0 ≤ x.toInt) : (x.toNatClampNeg : Int) = x.toInt := Int.toNat_of_nonneg h
theorem nt' {x : Int32} : x.toNatClampNeg = x.toInt.toNat := rfl
theorem ieq {x y : Int32} (h : x.toInt = y.toInt) : x = y := Int32.toInt_inj.mp h
/-- a store after a write, by places -/
theorem rdC (σ : St) (p k q j : Nat) (v : Int32) : upC σ p k v q j = if q = p then (if j = k then v else σ p j) else σ q j := by
  unfold upC upF
  by_cases h : q = p
  · rw [if_pos h, if_pos h]
  · rw [if_neg h, if_neg h]
theorem rdA (σ : St) (p k j : Nat) (v : Int32) : upC σ p k v p j = if j = k then v else σ p j := by rw [rdC, if_pos rfl]
theorem rdA_eq {σ : St} {p k j : Nat} {v : Int32} (h : j = k) : upC σ p k v p j = v := by rw [rdA, if_pos h]
theorem rdA_ne {σ : St} {p k j : Nat} {v : Int32} (h : j ≠ k) : upC σ p k v p j = σ p j := by rw [rdA, if_neg h]
