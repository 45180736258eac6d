/-! what is compiled: stores but for operands, code put and cut -/
def Ko (fs : List (Nat × Nat)) (cs : List Nat) (a b : St) : Prop := ∀ c k, ¬ isOp c → fs.contains (c, k) = false → cs.contains c = false → b c k = a c k
section KOS
variable {a b c : St} {fs fs' : List (Nat × Nat)} {cs cs' : List Nat}
theorem ko_rf : Ko fs cs a a := fun _ _ _ _ _ => rfl
theorem ko_kp (h : Kp fs cs a b) : Ko fs cs a b := fun c k _ h1 h2 => h c k h1 h2
theorem ko_tr (h : Ko fs cs a b) (g : Ko fs cs b c) : Ko fs cs a c := fun x k h0 h1 h2 => (g x k h0 h1 h2).trans (h x k h0 h1 h2)
theorem ko_op {q k : Nat} {v : Int32} (h : Ko fs cs a b) (hq : isOp q) : Ko fs cs a (upC b q k v) := fun c j h0 h1 h2 => by
  rw [rdC_ne (fun e => h0 (by rw [e]; exact hq))]
  exact h c j h0 h1 h2
theorem ko_sub (h : Ko fs cs a b) (s1 : fs.all (fun x => fs'.contains x || cs'.contains x.1) = true) (s2 : cs.all (fun x => cs'.contains x) = true) : Ko fs' cs' a b := fun c j h0 h1 h2 => by
  refine h c j h0 ?_ ?_
  · cases q : fs.contains (c, j) with
    | false => rfl
    | true =>
      have h3 := List.all_eq_true.mp s1 (c, j) (List.contains_iff_mem.mp q)
      simp only [h1, h2, Bool.or_self] at h3
      cases h3
  · cases q : cs.contains c with
    | false => rfl
    | true =>
      have h3 := List.all_eq_true.mp s2 c (List.contains_iff_mem.mp q)
      rw [h2] at h3
      cases h3
end KOS
theorem op_lt {c : Nat} (h : c < 47) : ¬ isOp c := fun q => by unfold isOp at q; omega
theorem op_mid {c : Nat} (h : 47 < c) (h2 : c < 65) : ¬ isOp c := fun q => by unfold isOp at q; omega
theorem ko_rd {fs : List (Nat × Nat)} {cs : List Nat} {a b : St} (h : Ko fs cs a b) (c : Nat) (hc : c < 47 ∨ (47 < c ∧ c < 65)) (h2 : cs.contains c = false) (h3 : ∀ j, fs.contains (c, j) = false) : b c = a c := funext (fun j => h c j (by rcases hc with q | q; exact op_lt q; exact op_mid q.1 q.2) (h3 j) h2)
/-- the operands below the n-th stay -/
def LOW (n : Nat) (a b : St) : Prop := ∀ j k, j < n → b (65 + j) k = a (65 + j) k
theorem low_rf {n : Nat} {a : St} : LOW n a a := fun _ _ _ => rfl
theorem low_tr {n : Nat} {a b c : St} (h : LOW n a b) (g : LOW n b c) : LOW n a c := fun j k hj => (g j k hj).trans (h j k hj)
theorem low_le {n m : Nat} {a b : St} (h : LOW n a b) (hm : m ≤ n) : LOW m a b := fun j k hj => h j k (Nat.lt_of_lt_of_le hj hm)
theorem low_kp {n : Nat} {fs : List (Nat × Nat)} {cs : List Nat} {a b : St} (h : Kp fs cs a b) (h1 : fs.all (fun x => decide (x.1 < 65)) = true) (h2 : cs.all (fun x => decide (x < 65)) = true) : LOW n a b := fun j k _ => h (65 + j) k (by
  cases q : fs.contains (65 + j, k) with
  | false => rfl
  | true =>
    have h3 := List.all_eq_true.mp h1 _ (List.contains_iff_mem.mp q)
    have := of_decide_eq_true h3
    omega) (by
  cases q : cs.contains (65 + j) with
  | false => rfl
  | true =>
    have h3 := List.all_eq_true.mp h2 _ (List.contains_iff_mem.mp q)
    have := of_decide_eq_true h3
    omega)
theorem low_op {n q k : Nat} {v : Int32} {a b : St} (h : LOW n a b) (hq : 65 + n ≤ q) : LOW n a (upC b q k v) := fun j i hj => by
  rw [rdC_ne (by omega)]
  exact h j i hj
def clen (σ : St) : Nat := (σ 4 1).toNatClampNeg
theorem clen_eq {σ : St} (h : 0 ≤ (σ 4 1).toInt) : (clen σ : Int) = (σ 4 1).toInt := nt h
/-- an instruction put -/
def EMi (σ s : St) (op a b c : Int32) : Prop := Kp [(4, 1)] [24] σ s ∧ (s 4 1).toInt = (σ 4 1).toInt + ln op.toInt.toNat ∧ (∀ j, j < clen σ → (s 24) j = (σ 24) j) ∧ (s 24) (clen σ) = op ∧ (s 24) (clen σ + 1) = a ∧ (s 24) (clen σ + 2) = b ∧ (s 24) (clen σ + 3) = c
section EMS
variable {σ s t : St} {op a b c : Int32}
theorem sk_emit {n : Nat} {Q : Int32 → St → Prop} (hn : op.toInt = n) (hn6 : n < 61) (h0 : 0 ≤ (σ 4 1).toInt) (h1 : (σ 4 1).toInt < 262204) (k : ∀ v s, v = (σ 4 1) → EMi σ s op a b c → Q v s) : wk_X0_emit op a b c σ Q := by
  have e1 : ((σ 4 1) + (1 : Int32)).toInt = (σ 4 1).toInt + 1 := ad0 i1 (by omega) (by omega)
  have e2 : ((σ 4 1) + (2 : Int32)).toInt = (σ 4 1).toInt + 2 := ad0 i2 (by omega) (by omega)
  have e3 : ((σ 4 1) + (3 : Int32)).toInt = (σ 4 1).toInt + 3 := ad0 i3 (by omega) (by omega)
  have en := clen_eq h0
  have n1 : ((σ 4 1) + (1 : Int32)).toNatClampNeg = clen σ + 1 := by
    have := nt (x := (σ 4 1) + (1 : Int32)) (by omega)
    omega
  have n2 : ((σ 4 1) + (2 : Int32)).toNatClampNeg = clen σ + 2 := by
    have := nt (x := (σ 4 1) + (2 : Int32)) (by omega)
    omega
  have n3 : ((σ 4 1) + (3 : Int32)).toNatClampNeg = clen σ + 3 := by
    have := nt (x := (σ 4 1) + (3 : Int32)) (by omega)
    omega
  have nop : op.toNatClampNeg = n := by rw [nt', hn]; rfl
  unfold wk_X0_emit
  refine ⟨fun q => by omega, fun _ => ⟨fun q => by omega, fun _ => ⟨⟨h0, by omega⟩, ⟨by omega, by omega⟩, ⟨by omega, by omega⟩, ⟨by omega, by omega⟩, fun q => by omega, fun _ => ⟨fun q => by omega, fun _ => ⟨⟨by omega, by omega⟩, k _ _ rfl ?_⟩⟩⟩⟩⟩
  have eg := gc1 n hn6
  have l4 : ∀ m, m < 61 → ln m ≤ 4 := by decide
  have l5 := l4 n hn6
  rw [nop, n1, n2, n3]
  refine ⟨kp_f (kp_a (kp_a (kp_a (kp_a kp_rf rfl) rfl) rfl) rfl) rfl, ?_, fun j hj => ?_, ?_, ?_, ?_, ?_⟩
  · show ((σ 4 1) + gC 1 n).toInt = _
    rw [ad (by rw [eg]; omega) (by rw [eg]; omega), eg, hn]
    rfl
  · simp only [rdC, Nat.reduceEqDiff, if_true, if_false]
    rw [if_neg (by omega), if_neg (by omega), if_neg (by omega), if_neg (by unfold clen at hj; omega)]
  · simp only [rdC, Nat.reduceEqDiff, if_true, if_false]
    rw [if_neg (by omega), if_neg (by omega), if_neg (by omega)]
    exact if_pos rfl
  · simp only [rdC, Nat.reduceEqDiff, if_true, if_false]
    rw [if_neg (by omega), if_neg (by omega)]
  · simp only [rdC, Nat.reduceEqDiff, if_true, if_false]
    rw [if_neg (by omega)]
  · simp only [rdC, Nat.reduceEqDiff, if_true, if_false]
theorem sk_cut {x : Int32} {Q : St → Prop} (h : x.toInt ≤ (σ 4 1).toInt) (k : ∀ s, Kp [(4, 1)] [] σ s → (s 4 1) = x → Q s) : wk_X0_cut x σ Q := by
  unfold wk_X0_cut
  by_cases c : (σ 4 1) < x
  · have := Int32.lt_iff_toInt_lt.mp c
    omega
  · rw [if_neg c]
    exact k _ (kp_f kp_rf rfl) rfl
end EMS
