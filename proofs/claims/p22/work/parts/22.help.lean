/-! helpers of the other side, for rounds over the class alone -/
def chI (b : Int32) : Int32 := ((b &&& 255).toUInt32 % 65536).toInt32
def QT0 : QT := fun _ _ _ => False
/-! numbers and stores -/
theorem ad {x y : Int32} (h0 : -2147483648 ≤ x.toInt + y.toInt) (h1 : x.toInt + y.toInt < 2147483648) : (x + y).toInt = x.toInt + y.toInt := by
  obtain ⟨k, e⟩ := s_add x y
  have := s_rng (x + y)
  omega
theorem sb {x y : Int32} (h0 : -2147483648 ≤ x.toInt - y.toInt) (h1 : x.toInt - y.toInt < 2147483648) : (x - y).toInt = x.toInt - y.toInt := by
  obtain ⟨k, e⟩ := s_sub x y
  have := s_rng (x - y)
  omega
theorem adc {x y : Int32} {n : Int} (hy : y.toInt = n) (h0 : -2147483648 ≤ x.toInt + n) (h1 : x.toInt + n < 2147483648) : (x + y).toInt = x.toInt + n := by
  rw [ad (by omega) (by omega), hy]
theorem ad1 {x : Int32} (h : x.toInt < 2147483647) : (x + 1).toInt = x.toInt + 1 := by
  have h2 := s_rng x
  exact adc (by decide) (by omega) (by omega)
theorem sb1 {x : Int32} (h : -2147483648 < x.toInt) : (x - 1).toInt = x.toInt - 1 := by
  have h2 := s_rng x
  have e : (1 : Int32).toInt = 1 := by decide
  rw [sb (by omega) (by omega), e]
theorem dc1 {x : Int32} (h : -2147483648 < x.toInt) : (x + (-1)).toInt = x.toInt - 1 := by
  have h2 := s_rng x
  exact adc (n := -1) (by decide) (by omega) (by omega)
theorem nt {x : Int32} (h : 0 ≤ x.toInt) : (x.toNatClampNeg : Int) = x.toInt := Int.toNat_of_nonneg h
theorem nt' {x : Int32} : x.toNatClampNeg = x.toInt.toNat := rfl
theorem ieq {x y : Int32} (h : x.toInt = y.toInt) : x = y := Int32.toInt_inj.mp h
/-- a store after a write, by places -/
theorem rdC (σ : St) (p k q j : Nat) (v : Int32) : upC σ p k v q j = if q = p then (if j = k then v else σ p j) else σ q j := by
  unfold upC upF
  by_cases h : q = p
  · rw [if_pos h, if_pos h]
  · rw [if_neg h, if_neg h]
theorem rdA (σ : St) (p k j : Nat) (v : Int32) : upC σ p k v p j = if j = k then v else σ p j := by rw [rdC, if_pos rfl]
theorem rdA_eq {σ : St} {p k j : Nat} {v : Int32} (h : j = k) : upC σ p k v p j = v := by rw [rdA, if_pos h]
theorem rdA_ne {σ : St} {p k j : Nat} {v : Int32} (h : j ≠ k) : upC σ p k v p j = σ p j := by rw [rdA, if_neg h]
def Kp (fs : List (Nat × Nat)) (cs : List Nat) (a b : St) : Prop := ∀ c k, fs.contains (c, k) = false → cs.contains c = false → b c k = a c k
theorem kp_rf {fs : List (Nat × Nat)} {cs : List Nat} {a : St} : Kp fs cs a a := fun _ _ _ _ => rfl
theorem kp_tr {fs : List (Nat × Nat)} {cs : List Nat} {a b c : St} (h : Kp fs cs a b) (g : Kp fs cs b c) : Kp fs cs a c := fun x k h1 h2 => (g x k h1 h2).trans (h x k h1 h2)
theorem kp_f {fs : List (Nat × Nat)} {cs : List Nat} {a b : St} {p k : Nat} {v : Int32} (h : Kp fs cs a b) (hm : fs.contains (p, k) = true) : Kp fs cs a (upC b p k v) := fun c j h1 h2 => by
  rw [rdC]
  by_cases e1 : c = p
  · subst e1
    rw [if_pos rfl]
    by_cases e2 : j = k
    · subst e2; rw [hm] at h1; cases h1
    · rw [if_neg e2]; exact h c j h1 h2
  · rw [if_neg e1]; exact h c j h1 h2
theorem kp_a {fs : List (Nat × Nat)} {cs : List Nat} {a b : St} {p k : Nat} {v : Int32} (h : Kp fs cs a b) (hm : cs.contains p = true) : Kp fs cs a (upC b p k v) := fun c j h1 h2 => by
  rw [rdC]
  by_cases e1 : c = p
  · subst e1; rw [hm] at h2; cases h2
  · rw [if_neg e1]; exact h c j h1 h2
theorem kp_sub {fs fs' : List (Nat × Nat)} {cs cs' : List Nat} {a b : St} (h : Kp fs cs a b) (s1 : fs.all (fun x => fs'.contains x || cs'.contains x.1) = true) (s2 : cs.all (fun x => cs'.contains x) = true) : Kp fs' cs' a b := fun c j h1 h2 => by
  refine h c j ?_ ?_
  · cases q : fs.contains (c, j) with
    | false => rfl
    | true =>
      have h3 := List.all_eq_true.mp s1 (c, j) (List.contains_iff_mem.mp q)
      simp only [h1, h2, Bool.or_self] at h3
      cases h3
  · cases q : cs.contains c with
    | false => rfl
    | true =>
      have h3 := List.all_eq_true.mp s2 c (List.contains_iff_mem.mp q)
      rw [h2] at h3
      cases h3
abbrev Gh : Type := Nat → Option (Nat × Nat)
section HLP
theorem lc_ge {x y : Int64} (h : 0 ≤ (lg_cmp x y).toInt) : y.toInt ≤ x.toInt := by
  have e0 : (0 : Int32).toInt = 0 := by decide
  have h1 : ¬ x < y := fun q => by
    have := i_lt.mp ((lg_cmp_lt x y).mpr q)
    omega
  have h2 : ¬ x.toInt < y.toInt := fun q => h1 (Int64.lt_iff_toInt_lt.mpr q)
  omega
theorem lc_lt {x y : Int64} (h : (lg_cmp x y).toInt < 0) : x.toInt < y.toInt := by
  have e0 : (0 : Int32).toInt = 0 := by decide
  exact Int64.lt_iff_toInt_lt.mp ((lg_cmp_lt x y).mp (i_lt.mpr (by omega)))
end HLP
