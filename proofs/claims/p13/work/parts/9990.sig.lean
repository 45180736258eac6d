/-! signatures -/
section SIG
variable {l l2 : List (Nat × Nat)} {x : Nat × Nat} {k i n W : Nat}
def Tyq (l : List (Nat × Nat)) : Prop := ∀ x, x ∈ l → x.1 ≤ 6
theorem sgv_app : ∀ {l : List (Nat × Nat)}, sgV (l ++ [x]) = sgV l + 8 ^ l.length * x.1
  | [] => by
    show x.1 + 8 * 0 = 0 + 8 ^ 0 * x.1
    omega
  | y :: l => by
    show y.1 + 8 * sgV (l ++ [x]) = (y.1 + 8 * sgV l) + 8 ^ (l.length + 1) * x.1
    rw [sgv_app (l := l), Nat.pow_succ, Nat.mul_add, Nat.mul_comm (8 ^ l.length) 8, Nat.mul_assoc, Nat.add_assoc]
theorem sgv_lt : ∀ {l : List (Nat × Nat)}, Tyq l → sgV l < 8 ^ l.length
  | [], _ => by decide
  | y :: l, h => by
    have h1 := sgv_lt (l := l) (fun z hz => h z (List.mem_cons_of_mem _ hz))
    have h2 := h y (List.mem_cons_self ..)
    show y.1 + 8 * sgV l < 8 ^ (l.length + 1)
    rw [Nat.pow_succ]
    omega
theorem p8_le : ∀ k, k < 9 → 8 ^ k ≤ 16777216 := by decide
theorem p8_2 : ∀ k, k < 9 → 8 ^ k = 2 ^ (3 * k) := by decide
theorem sg_or {V t : Nat} (hk : k < 8) (hV : V < 8 ^ k) (ht : t < 8) : (16777216 * (k + 1) + V) ||| (8 ^ k * t) = 16777216 * (k + 1) + (V + 8 ^ k * t) := by
  have h1 := p8_le (k + 1) (by omega)
  have h2 := p8_2 k (by omega)
  have h3 : 8 ^ (k + 1) = 8 * 8 ^ k := by rw [Nat.pow_succ, Nat.mul_comm]
  have h4 : 8 ^ k * t ≤ 8 ^ k * 7 := Nat.mul_le_mul_left _ (by omega)
  have l24 : ∀ q, q < 16777216 → q < 2 ^ 24 := fun q hq => hq
  have e24 : (2 : Nat) ^ 24 = 16777216 := by decide
  have a1 := Nat.two_pow_add_eq_or_of_lt (l24 V (by omega)) (k + 1)
  have a2 := Nat.two_pow_add_eq_or_of_lt (l24 (V + 8 ^ k * t) (by omega)) (k + 1)
  have a3 := Nat.two_pow_add_eq_or_of_lt (i := 3 * k) (b := V) (by rw [← h2]; exact hV) t
  rw [e24] at a1 a2
  rw [← h2] at a3
  rw [a1, Nat.or_assoc, Nat.or_comm V, ← a3, Nat.add_comm (8 ^ k * t) V, ← a2]
theorem ush_n {s : Int32} (hn : n < 2 ^ 32) (hs : ((s.toUInt32 &&& Int32.toUInt32 31).toBitVec % 32).toNat = k) : ushr (nI n) s = nI (n / 2 ^ k) := by
  unfold ushr
  exact pk_ushrN hn s k hs
theorem sh24 : (((24 : Int32).toUInt32 &&& Int32.toUInt32 31).toBitVec % 32).toNat = 24 := by decide
theorem sh3k : ∀ k, k < 9 → ((((3 : Int32) * nI k).toUInt32 &&& Int32.toUInt32 31).toBitVec % 32).toNat = 3 * k := by decide
theorem sl3k : ∀ k, k < 9 → ((((3 : Int32) * nI k) &&& 31).toBitVec.smod 32).toNat = 3 * k := by decide
theorem sgx_lt (hl : l.length ≤ 8) (ht : Tyq l) : sgX l < 16777216 * l.length + 16777216 := by
  have h1 := sgv_lt ht
  have h2 := p8_le l.length (by omega)
  unfold sgX
  omega
theorem sgn_X (hl : l.length ≤ 8) (ht : Tyq l) : ushr (nI (sgX l)) (24 : Int32) = nI l.length := by
  have h1 := sgx_lt hl ht
  have h2 : 16777216 * l.length ≤ sgX l := Nat.le_add_right _ _
  rw [ush_n (k := 24) (by omega) sh24]
  have e24 : (2 : Nat) ^ 24 = 16777216 := by decide
  rw [e24, show sgX l / 16777216 = l.length from by omega]
theorem sg_with (hl : l.length < 8) (ht : Tyq l) (hx : x.1 ≤ 6) : ((nI (sgX l) + (16777216 : Int32)) ||| (nI x.1 <<< (((3 : Int32) * ushr (nI (sgX l)) (24 : Int32)) &&& 31))) = nI (sgX (l ++ [x])) := by
  rw [sgn_X (by omega) ht]
  have h2 := p8_2 l.length (by omega)
  have h3 := p8_le (l.length + 1) (by omega)
  have h4 : 8 ^ (l.length + 1) = 8 * 8 ^ l.length := by rw [Nat.pow_succ, Nat.mul_comm]
  have h5 : x.1 * 8 ^ l.length ≤ 6 * 8 ^ l.length := Nat.mul_le_mul_right _ hx
  rw [pk_shlN _ (3 * l.length) (sl3k l.length (by omega)) (by rw [← h2]; omega), ← h2]
  have e1 : nI (sgX l) + (16777216 : Int32) = nI (16777216 * (l.length + 1) + sgV l) := by
    have : (16777216 : Int32) = nI 16777216 := rfl
    rw [this]
    show Int32.ofNat (sgX l) + Int32.ofNat 16777216 = Int32.ofNat (16777216 * (l.length + 1) + sgV l)
    rw [← Int32.ofNat_add]
    unfold sgX
    rw [show 16777216 * l.length + sgV l + 16777216 = 16777216 * (l.length + 1) + sgV l from by omega]
  rw [e1, or_nI, Nat.mul_comm x.1, sg_or hl (sgv_lt ht) (by omega)]
  unfold sgX
  rw [sgv_app, List.length_append]
  rfl
theorem and7 (h : n < 2 ^ 32) : nI n &&& (7 : Int32) = nI (n % 8) := pk_andN (k := 3) h (by decide)
/-- the i-th of a signature -/
theorem sgv_at : ∀ {l : List (Nat × Nat)} {i W : Nat}, Tyq l → l[i]? = some x → (sgV l + 8 ^ l.length * W) / 8 ^ i % 8 = x.1
  | [], i, W, _, h => by cases i <;> cases h
  | y :: l, 0, W, ht, h => by
    cases h
    have h2 := ht _ (List.mem_cons_self ..)
    show (x.1 + 8 * sgV l + 8 ^ (l.length + 1) * W) / 1 % 8 = x.1
    rw [Nat.pow_succ, Nat.mul_comm (8 ^ l.length) 8, Nat.mul_assoc]
    omega
  | y :: l, i + 1, W, ht, h => by
    have h' : l[i]? = some x := h
    have ih := sgv_at (W := W) (fun z hz => ht z (List.mem_cons_of_mem _ hz)) h'
    have h2 := ht _ (List.mem_cons_self ..)
    have e : (sgV (y :: l) + 8 ^ (y :: l).length * W) / 8 = sgV l + 8 ^ l.length * W := by
      show (y.1 + 8 * sgV l + 8 ^ (l.length + 1) * W) / 8 = _
      rw [Nat.pow_succ, Nat.mul_comm (8 ^ l.length) 8, Nat.mul_assoc]
      omega
    rw [Nat.pow_succ, Nat.mul_comm (8 ^ i) 8, ← Nat.div_div_eq_div_mul, e]
    exact ih
theorem p24_8 : ∀ k, k < 9 → 8 ^ k * 2 ^ (24 - 3 * k) = 16777216 := by decide
theorem sgt_X (hl : l.length ≤ 8) (ht : Tyq l) (h : l[i]? = some x) (hi : i < l.length) : sgT (nI (sgX l)) (nI i) = (x.1 : Int) := by
  have h1 := sgx_lt hl ht
  have h2 := p8_2 i (by omega)
  have h3 := p24_8 l.length (by omega)
  have h4 := sgv_at (W := 2 ^ (24 - 3 * l.length) * l.length) ht h
  have e : sgV l + 8 ^ l.length * (2 ^ (24 - 3 * l.length) * l.length) = sgX l := by
    rw [← Nat.mul_assoc, h3]
    unfold sgX
    omega
  rw [e, h2] at h4
  unfold sgT
  have h5 : sgX l / 2 ^ (3 * i) ≤ sgX l := Nat.div_le_self _ _
  rw [ush_n (k := 3 * i) (by omega) (sh3k i (by omega)), and7 (by omega), h4]
  have := ht x (List.mem_of_getElem? h)
  exact nI_toInt (by omega)
theorem sgn_I (hl : l.length ≤ 8) (ht : Tyq l) : sgN (nI (sgX l)) = (l.length : Int) := by
  unfold sgN
  rw [sgn_X hl ht]
  exact nI_toInt (by omega)
theorem sgx_int (hl : l.length ≤ 8) (ht : Tyq l) : (nI (sgX l)).toInt = sgI l := by
  have := sgx_lt hl ht
  exact nI_toInt (by omega)
theorem m8r {x : Int32} (h0 : -100 ≤ x.toInt) (h1 : x.toInt ≤ 100) : (x * (8 : Int32)).toInt = x.toInt * 8 := by
  rw [Int32.toInt_mul]
  have e8 : ((8 : Int32)).toInt = 8 := rfl
  rw [e8, Int.bmod_def]
  have e : ((2 ^ 32 : Nat) : Int) = 4294967296 := by decide
  rw [e]
  split <;> omega
end SIG
