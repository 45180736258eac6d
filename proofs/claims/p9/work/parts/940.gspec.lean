/-! the grammar of expressions, as a function of the tokens' kinds: the steps -/
abbrev Stq : Type := Int × Nat × Int × Int
def stp (a : Int) (p : Nat) : Stq := (a, p, 0, 0)
def lvq (s : Int) : Int := if 41 ≤ s ∧ s ≤ 58 then (gC 0 (s - 41).toNat).toInt else 0
abbrev UNq (k : Int) : Prop := k = 44 ∨ k = 59 ∨ k = 60 ∨ k = 45 ∨ k = 48 ∨ k = 61 ∨ k = 62
/-- stars from p on: how many, and where they end; none behind the fifth -/
def SRq (kd : Nat → Int) : Nat → Nat → Option (Nat × Nat)
  | 0, p => if kd p = 45 then none else some (0, p)
  | n + 1, p => if kd p = 45 then (SRq kd n (p + 1)).bind fun r => some (r.1 + 1, r.2) else some (0, p)
def PEq (kd : Nat → Int) : Nat → Nat → Nat → Nat → Nat → List Stq → Option (Nat × List Stq)
  | 0, _, _, _, _, _ => none
  | n + 1, sel, d, m, p, L =>
    match sel with
    | 0 => (PEq kd n 1 d 0 p L).bind fun r => if 30 ≤ kd r.1 ∧ kd r.1 ≤ 40 then (if d < 25 then (PEq kd n 0 (d + 1) 0 (r.1 + 1) (r.2 ++ [stp 7 r.1])).bind fun r2 => some (r2.1, r2.2 ++ [stp 9 r.1]) else none) else some r
    | 1 => (PEq kd n 7 d 1 p L).bind fun r => if kd r.1 = 28 then (if d < 25 then (PEq kd n 0 (d + 1) 0 (r.1 + 1) (r.2 ++ [stp 14 r.1])).bind fun r2 => if kd r2.1 = 29 then (PEq kd n 1 (d + 1) 0 (r2.1 + 1) (r2.2 ++ [stp 15 r.1])).bind fun r3 => some (r3.1, r3.2 ++ [stp 16 r.1]) else none else none) else some r
    | 2 => if UNq (kd p) then (if d < 25 then (PEq kd n 2 (d + 1) 0 (p + 1) L).bind fun r => some (r.1, r.2 ++ [stp 11 p]) else none)
      else if kd p = 20 ∧ kd (p + 1) = 5 then (if d < 25 then (SRq kd 5 (p + 2)).bind fun t => if kd t.2 = 21 then (PEq kd n 2 (d + 1) 0 (t.2 + 1) L).bind fun r => some (r.1, r.2 ++ [(12, p, (t.1 : Int), 0)]) else none else none)
      else (PEq kd n 4 d 0 p L).bind fun r => PEq kd n 6 d 0 r.1 r.2
    | 4 => if kd p = 3 then some (p + 1, L ++ [stp 1 p]) else if kd p = 4 then some (p + 1, L ++ [stp 2 p])
      else if kd p = 2 then (if kd (p + 1) = 20 then (if d < 25 then (if kd (p + 2) = 21 then some (p + 3, L ++ [stp 4 p] ++ [stp 6 p]) else PEq kd n 5 d p (p + 2) (L ++ [stp 4 p])) else none) else some (p + 1, L ++ [stp 3 p]))
      else if kd p = 20 then (if d < 25 then (PEq kd n 0 (d + 1) 0 (p + 1) L).bind fun r => if kd r.1 = 21 then some (r.1 + 1, r.2) else none else none) else none
    | 5 => (PEq kd n 0 (d + 1) 0 p L).bind fun r => if kd r.1 = 26 then PEq kd n 5 d m (r.1 + 1) (r.2 ++ [stp 5 m]) else if kd r.1 = 21 then some (r.1 + 1, r.2 ++ [stp 5 m] ++ [stp 6 m]) else none
    | 6 => if kd p = 24 then (if d < 25 then (PEq kd n 0 (d + 1) 0 (p + 1) (L ++ [stp 7 p])).bind fun r => if kd r.1 = 25 then PEq kd n 6 d 0 (r.1 + 1) (r.2 ++ [stp 10 p]) else none else none)
      else if kd p = 61 ∨ kd p = 62 then PEq kd n 6 d 0 (p + 1) (L ++ [stp 13 p]) else some (p, L)
    | 7 => (PEq kd n 2 d 0 p L).bind fun r => PEq kd n 8 d m r.1 r.2
    | 8 => if (m : Int) ≤ lvq (kd p) then (PEq kd n 7 d ((lvq (kd p)).toNat + 1) (p + 1) (L ++ [stp 7 p])).bind fun r => PEq kd n 8 d m r.1 (r.2 ++ [stp 8 p]) else some (p, L)
    | _ => none
/-- what it is, given turns enough -/
def PVq (kd : Nat → Int) (sel d m p : Nat) (L : List Stq) (R : Option (Nat × List Stq)) : Prop := ∃ N, ∀ n, N ≤ n → PEq kd n sel d m p L = R
section PV
variable {kd : Nat → Int} {sel d m p p1 p2 t : Nat} {L L1 L2 : List Stq} {R R1 R2 : Option (Nat × List Stq)}
theorem pv_one (h : PVq kd sel d m p L R1) (g : PVq kd sel d m p L R2) : R1 = R2 := by
  obtain ⟨N, h⟩ := h
  obtain ⟨M, g⟩ := g
  rw [← h (N + M) (by omega), g (N + M) (by omega)]
theorem pv_up (h : ∃ N, ∀ n, N ≤ n → PEq kd (n + 1) sel d m p L = R) : PVq kd sel d m p L R := by
  obtain ⟨N, h⟩ := h
  refine ⟨N + 1, fun n hn => ?_⟩
  obtain ⟨n', rfl⟩ : ∃ n', n = n' + 1 := ⟨n - 1, by omega⟩
  exact h n' (by omega)
theorem peq_0 {n : Nat} : PEq kd (n + 1) 0 d m p L = ((PEq kd n 1 d 0 p L).bind fun r => if 30 ≤ kd r.1 ∧ kd r.1 ≤ 40 then (if d < 25 then (PEq kd n 0 (d + 1) 0 (r.1 + 1) (r.2 ++ [stp 7 r.1])).bind fun r2 => some (r2.1, r2.2 ++ [stp 9 r.1]) else none) else some r) := rfl
theorem peq_1 {n : Nat} : PEq kd (n + 1) 1 d m p L = ((PEq kd n 7 d 1 p L).bind fun r => if kd r.1 = 28 then (if d < 25 then (PEq kd n 0 (d + 1) 0 (r.1 + 1) (r.2 ++ [stp 14 r.1])).bind fun r2 => if kd r2.1 = 29 then (PEq kd n 1 (d + 1) 0 (r2.1 + 1) (r2.2 ++ [stp 15 r.1])).bind fun r3 => some (r3.1, r3.2 ++ [stp 16 r.1]) else none else none) else some r) := rfl
theorem peq_2 {n : Nat} : PEq kd (n + 1) 2 d m p L = (if UNq (kd p) then (if d < 25 then (PEq kd n 2 (d + 1) 0 (p + 1) L).bind fun r => some (r.1, r.2 ++ [stp 11 p]) else none)
      else if kd p = 20 ∧ kd (p + 1) = 5 then (if d < 25 then (SRq kd 5 (p + 2)).bind fun t => if kd t.2 = 21 then (PEq kd n 2 (d + 1) 0 (t.2 + 1) L).bind fun r => some (r.1, r.2 ++ [(12, p, (t.1 : Int), 0)]) else none else none)
      else (PEq kd n 4 d 0 p L).bind fun r => PEq kd n 6 d 0 r.1 r.2) := rfl
theorem peq_4 {n : Nat} : PEq kd (n + 1) 4 d m p L = (if kd p = 3 then some (p + 1, L ++ [stp 1 p]) else if kd p = 4 then some (p + 1, L ++ [stp 2 p])
      else if kd p = 2 then (if kd (p + 1) = 20 then (if d < 25 then (if kd (p + 2) = 21 then some (p + 3, L ++ [stp 4 p] ++ [stp 6 p]) else PEq kd n 5 d p (p + 2) (L ++ [stp 4 p])) else none) else some (p + 1, L ++ [stp 3 p]))
      else if kd p = 20 then (if d < 25 then (PEq kd n 0 (d + 1) 0 (p + 1) L).bind fun r => if kd r.1 = 21 then some (r.1 + 1, r.2) else none else none) else none) := rfl
theorem peq_5 {n : Nat} : PEq kd (n + 1) 5 d m p L = ((PEq kd n 0 (d + 1) 0 p L).bind fun r => if kd r.1 = 26 then PEq kd n 5 d m (r.1 + 1) (r.2 ++ [stp 5 m]) else if kd r.1 = 21 then some (r.1 + 1, r.2 ++ [stp 5 m] ++ [stp 6 m]) else none) := rfl
theorem peq_6 {n : Nat} : PEq kd (n + 1) 6 d m p L = (if kd p = 24 then (if d < 25 then (PEq kd n 0 (d + 1) 0 (p + 1) (L ++ [stp 7 p])).bind fun r => if kd r.1 = 25 then PEq kd n 6 d 0 (r.1 + 1) (r.2 ++ [stp 10 p]) else none else none)
      else if kd p = 61 ∨ kd p = 62 then PEq kd n 6 d 0 (p + 1) (L ++ [stp 13 p]) else some (p, L)) := rfl
theorem peq_7 {n : Nat} : PEq kd (n + 1) 7 d m p L = ((PEq kd n 2 d 0 p L).bind fun r => PEq kd n 8 d m r.1 r.2) := rfl
theorem peq_8 {n : Nat} : PEq kd (n + 1) 8 d m p L = (if (m : Int) ≤ lvq (kd p) then (PEq kd n 7 d ((lvq (kd p)).toNat + 1) (p + 1) (L ++ [stp 7 p])).bind fun r => PEq kd n 8 d m r.1 (r.2 ++ [stp 8 p]) else some (p, L)) := rfl
-- expression
theorem pv_e0 (h : PVq kd 1 d 0 p L none) : PVq kd 0 d m p L none := by
  obtain ⟨N, h⟩ := h
  exact pv_up ⟨N, fun n hn => by rw [peq_0, h n hn]; rfl⟩
theorem pv_e1 (h : PVq kd 1 d 0 p L (some (p1, L1))) (c : ¬ (30 ≤ kd p1 ∧ kd p1 ≤ 40)) : PVq kd 0 d m p L (some (p1, L1)) := by
  obtain ⟨N, h⟩ := h
  exact pv_up ⟨N, fun n hn => by rw [peq_0, h n hn]; exact if_neg c⟩
theorem pv_e2 (h : PVq kd 1 d 0 p L (some (p1, L1))) (c : 30 ≤ kd p1 ∧ kd p1 ≤ 40) (hd : ¬ d < 25) : PVq kd 0 d m p L none := by
  obtain ⟨N, h⟩ := h
  exact pv_up ⟨N, fun n hn => by rw [peq_0, h n hn]; exact (if_pos c).trans (if_neg hd)⟩
theorem pv_e3 (h : PVq kd 1 d 0 p L (some (p1, L1))) (c : 30 ≤ kd p1 ∧ kd p1 ≤ 40) (hd : d < 25) (h2 : PVq kd 0 (d + 1) 0 (p1 + 1) (L1 ++ [stp 7 p1]) R) : PVq kd 0 d m p L (R.bind fun r2 => some (r2.1, r2.2 ++ [stp 9 p1])) := by
  obtain ⟨N, h⟩ := h
  obtain ⟨M, h2⟩ := h2
  exact pv_up ⟨N + M, fun n hn => by rw [peq_0, h n (by omega)]; exact (if_pos c).trans ((if_pos hd).trans (by rw [h2 n (by omega)]))⟩
-- choice
theorem pv_c0 (h : PVq kd 7 d 1 p L none) : PVq kd 1 d m p L none := by
  obtain ⟨N, h⟩ := h
  exact pv_up ⟨N, fun n hn => by rw [peq_1, h n hn]; rfl⟩
theorem pv_c1 (h : PVq kd 7 d 1 p L (some (p1, L1))) (c : kd p1 ≠ 28) : PVq kd 1 d m p L (some (p1, L1)) := by
  obtain ⟨N, h⟩ := h
  exact pv_up ⟨N, fun n hn => by rw [peq_1, h n hn]; exact if_neg c⟩
theorem pv_c2 (h : PVq kd 7 d 1 p L (some (p1, L1))) (c : kd p1 = 28) (hd : ¬ d < 25) : PVq kd 1 d m p L none := by
  obtain ⟨N, h⟩ := h
  exact pv_up ⟨N, fun n hn => by rw [peq_1, h n hn]; exact (if_pos c).trans (if_neg hd)⟩
theorem pv_c3 (h : PVq kd 7 d 1 p L (some (p1, L1))) (c : kd p1 = 28) (hd : d < 25) (h2 : PVq kd 0 (d + 1) 0 (p1 + 1) (L1 ++ [stp 14 p1]) none) : PVq kd 1 d m p L none := by
  obtain ⟨N, h⟩ := h
  obtain ⟨M, h2⟩ := h2
  exact pv_up ⟨N + M, fun n hn => by rw [peq_1, h n (by omega)]; exact (if_pos c).trans ((if_pos hd).trans (by rw [h2 n (by omega)]; rfl))⟩
theorem pv_c4 (h : PVq kd 7 d 1 p L (some (p1, L1))) (c : kd p1 = 28) (hd : d < 25) (h2 : PVq kd 0 (d + 1) 0 (p1 + 1) (L1 ++ [stp 14 p1]) (some (p2, L2))) (c2 : kd p2 ≠ 29) : PVq kd 1 d m p L none := by
  obtain ⟨N, h⟩ := h
  obtain ⟨M, h2⟩ := h2
  exact pv_up ⟨N + M, fun n hn => by rw [peq_1, h n (by omega)]; exact (if_pos c).trans ((if_pos hd).trans (by rw [h2 n (by omega)]; exact if_neg c2))⟩
theorem pv_c5 (h : PVq kd 7 d 1 p L (some (p1, L1))) (c : kd p1 = 28) (hd : d < 25) (h2 : PVq kd 0 (d + 1) 0 (p1 + 1) (L1 ++ [stp 14 p1]) (some (p2, L2))) (c2 : kd p2 = 29) (h3 : PVq kd 1 (d + 1) 0 (p2 + 1) (L2 ++ [stp 15 p1]) R) : PVq kd 1 d m p L (R.bind fun r3 => some (r3.1, r3.2 ++ [stp 16 p1])) := by
  obtain ⟨N, h⟩ := h
  obtain ⟨M, h2⟩ := h2
  obtain ⟨O, h3⟩ := h3
  exact pv_up ⟨N + M + O, fun n hn => by rw [peq_1, h n (by omega)]; exact (if_pos c).trans ((if_pos hd).trans (by rw [h2 n (by omega)]; exact (if_pos c2).trans (by rw [h3 n (by omega)])))⟩
-- unary
theorem pv_u0 (c : UNq (kd p)) (hd : ¬ d < 25) : PVq kd 2 d m p L none := pv_up ⟨0, fun n _ => by rw [peq_2, if_pos c, if_neg hd]⟩
theorem pv_u1 (c : UNq (kd p)) (hd : d < 25) (h : PVq kd 2 (d + 1) 0 (p + 1) L R) : PVq kd 2 d m p L (R.bind fun r => some (r.1, r.2 ++ [stp 11 p])) := by
  obtain ⟨N, h⟩ := h
  exact pv_up ⟨N, fun n hn => by rw [peq_2, if_pos c, if_pos hd, h n hn]⟩
theorem pv_t0 (c : kd p = 20 ∧ kd (p + 1) = 5) (hd : ¬ d < 25) : PVq kd 2 d m p L none := pv_up ⟨0, fun n _ => by rw [peq_2, if_neg (by omega), if_pos c, if_neg hd]⟩
theorem pv_t1 (c : kd p = 20 ∧ kd (p + 1) = 5) (hd : d < 25) (hs : SRq kd 5 (p + 2) = none) : PVq kd 2 d m p L none := pv_up ⟨0, fun n _ => by rw [peq_2, if_neg (by omega), if_pos c, if_pos hd, hs]; rfl⟩
theorem pv_t2 (c : kd p = 20 ∧ kd (p + 1) = 5) (hd : d < 25) (hs : SRq kd 5 (p + 2) = some (t, p1)) (c2 : kd p1 ≠ 21) : PVq kd 2 d m p L none := pv_up ⟨0, fun n _ => by rw [peq_2, if_neg (by omega), if_pos c, if_pos hd, hs]; exact if_neg c2⟩
theorem pv_t3 (c : kd p = 20 ∧ kd (p + 1) = 5) (hd : d < 25) (hs : SRq kd 5 (p + 2) = some (t, p1)) (c2 : kd p1 = 21) (h : PVq kd 2 (d + 1) 0 (p1 + 1) L R) : PVq kd 2 d m p L (R.bind fun r => some (r.1, r.2 ++ [(12, p, (t : Int), 0)])) := by
  obtain ⟨N, h⟩ := h
  exact pv_up ⟨N, fun n hn => by rw [peq_2, if_neg (by omega), if_pos c, if_pos hd, hs]; exact (if_pos c2).trans (by rw [h n hn])⟩
theorem pv_b0 (c : ¬ UNq (kd p)) (c2 : ¬ (kd p = 20 ∧ kd (p + 1) = 5)) (h : PVq kd 4 d 0 p L none) : PVq kd 2 d m p L none := by
  obtain ⟨N, h⟩ := h
  exact pv_up ⟨N, fun n hn => by rw [peq_2, if_neg c, if_neg c2, h n hn]; rfl⟩
theorem pv_b1 (c : ¬ UNq (kd p)) (c2 : ¬ (kd p = 20 ∧ kd (p + 1) = 5)) (h : PVq kd 4 d 0 p L (some (p1, L1))) (h2 : PVq kd 6 d 0 p1 L1 R) : PVq kd 2 d m p L R := by
  obtain ⟨N, h⟩ := h
  obtain ⟨M, h2⟩ := h2
  exact pv_up ⟨N + M, fun n hn => by rw [peq_2, if_neg c, if_neg c2, h n (by omega)]; exact h2 n (by omega)⟩
-- primary
theorem pv_p3 (c : kd p = 3) : PVq kd 4 d m p L (some (p + 1, L ++ [stp 1 p])) := pv_up ⟨0, fun n _ => by rw [peq_4, if_pos c]⟩
theorem pv_p4 (c : kd p = 4) : PVq kd 4 d m p L (some (p + 1, L ++ [stp 2 p])) := pv_up ⟨0, fun n _ => by rw [peq_4, if_neg (by omega), if_pos c]⟩
theorem pv_p2 (c : kd p = 2) (c2 : kd (p + 1) ≠ 20) : PVq kd 4 d m p L (some (p + 1, L ++ [stp 3 p])) := pv_up ⟨0, fun n _ => by rw [peq_4, if_neg (by omega), if_neg (by omega), if_pos c, if_neg c2]⟩
theorem pv_k0 (c : kd p = 2) (c2 : kd (p + 1) = 20) (hd : ¬ d < 25) : PVq kd 4 d m p L none := pv_up ⟨0, fun n _ => by rw [peq_4, if_neg (by omega), if_neg (by omega), if_pos c, if_pos c2, if_neg hd]⟩
theorem pv_k1 (c : kd p = 2) (c2 : kd (p + 1) = 20) (hd : d < 25) (c3 : kd (p + 2) = 21) : PVq kd 4 d m p L (some (p + 3, L ++ [stp 4 p] ++ [stp 6 p])) := pv_up ⟨0, fun n _ => by rw [peq_4, if_neg (by omega), if_neg (by omega), if_pos c, if_pos c2, if_pos hd, if_pos c3]⟩
theorem pv_k2 (c : kd p = 2) (c2 : kd (p + 1) = 20) (hd : d < 25) (c3 : kd (p + 2) ≠ 21) (h : PVq kd 5 d p (p + 2) (L ++ [stp 4 p]) R) : PVq kd 4 d m p L R := by
  obtain ⟨N, h⟩ := h
  exact pv_up ⟨N, fun n hn => by rw [peq_4, if_neg (by omega), if_neg (by omega), if_pos c, if_pos c2, if_pos hd, if_neg c3, h n hn]⟩
theorem pv_r0 (c : kd p = 20) (hd : ¬ d < 25) : PVq kd 4 d m p L none := pv_up ⟨0, fun n _ => by rw [peq_4, if_neg (by omega), if_neg (by omega), if_neg (by omega), if_pos c, if_neg hd]⟩
theorem pv_r1 (c : kd p = 20) (hd : d < 25) (h : PVq kd 0 (d + 1) 0 (p + 1) L none) : PVq kd 4 d m p L none := by
  obtain ⟨N, h⟩ := h
  exact pv_up ⟨N, fun n hn => by rw [peq_4, if_neg (by omega), if_neg (by omega), if_neg (by omega), if_pos c, if_pos hd, h n hn]; rfl⟩
theorem pv_r2 (c : kd p = 20) (hd : d < 25) (h : PVq kd 0 (d + 1) 0 (p + 1) L (some (p1, L1))) (c2 : kd p1 ≠ 21) : PVq kd 4 d m p L none := by
  obtain ⟨N, h⟩ := h
  exact pv_up ⟨N, fun n hn => by rw [peq_4, if_neg (by omega), if_neg (by omega), if_neg (by omega), if_pos c, if_pos hd, h n hn]; exact if_neg c2⟩
theorem pv_r3 (c : kd p = 20) (hd : d < 25) (h : PVq kd 0 (d + 1) 0 (p + 1) L (some (p1, L1))) (c2 : kd p1 = 21) : PVq kd 4 d m p L (some (p1 + 1, L1)) := by
  obtain ⟨N, h⟩ := h
  exact pv_up ⟨N, fun n hn => by rw [peq_4, if_neg (by omega), if_neg (by omega), if_neg (by omega), if_pos c, if_pos hd, h n hn]; exact if_pos c2⟩
theorem pv_n (c : kd p ≠ 2 ∧ kd p ≠ 3 ∧ kd p ≠ 4 ∧ kd p ≠ 20) : PVq kd 4 d m p L none := pv_up ⟨0, fun n _ => by rw [peq_4, if_neg (by omega), if_neg (by omega), if_neg (by omega), if_neg (by omega)]⟩
-- arguments
theorem pv_a0 (h : PVq kd 0 (d + 1) 0 p L none) : PVq kd 5 d m p L none := by
  obtain ⟨N, h⟩ := h
  exact pv_up ⟨N, fun n hn => by rw [peq_5, h n hn]; rfl⟩
theorem pv_a1 (h : PVq kd 0 (d + 1) 0 p L (some (p1, L1))) (c : kd p1 = 26) (h2 : PVq kd 5 d m (p1 + 1) (L1 ++ [stp 5 m]) R) : PVq kd 5 d m p L R := by
  obtain ⟨N, h⟩ := h
  obtain ⟨M, h2⟩ := h2
  exact pv_up ⟨N + M, fun n hn => by rw [peq_5, h n (by omega)]; exact (if_pos c).trans (h2 n (by omega))⟩
theorem pv_a2 (h : PVq kd 0 (d + 1) 0 p L (some (p1, L1))) (c : kd p1 = 21) : PVq kd 5 d m p L (some (p1 + 1, L1 ++ [stp 5 m] ++ [stp 6 m])) := by
  obtain ⟨N, h⟩ := h
  exact pv_up ⟨N, fun n hn => by rw [peq_5, h n hn]; exact (if_neg (by show ¬ kd p1 = 26; omega)).trans (if_pos c)⟩
theorem pv_a3 (h : PVq kd 0 (d + 1) 0 p L (some (p1, L1))) (c : kd p1 ≠ 26) (c2 : kd p1 ≠ 21) : PVq kd 5 d m p L none := by
  obtain ⟨N, h⟩ := h
  exact pv_up ⟨N, fun n hn => by rw [peq_5, h n hn]; exact (if_neg c).trans (if_neg c2)⟩
-- behind
theorem pv_h0 (c : kd p = 24) (hd : ¬ d < 25) : PVq kd 6 d m p L none := pv_up ⟨0, fun n _ => by rw [peq_6, if_pos c, if_neg hd]⟩
theorem pv_h1 (c : kd p = 24) (hd : d < 25) (h : PVq kd 0 (d + 1) 0 (p + 1) (L ++ [stp 7 p]) none) : PVq kd 6 d m p L none := by
  obtain ⟨N, h⟩ := h
  exact pv_up ⟨N, fun n hn => by rw [peq_6, if_pos c, if_pos hd, h n hn]; rfl⟩
theorem pv_h2 (c : kd p = 24) (hd : d < 25) (h : PVq kd 0 (d + 1) 0 (p + 1) (L ++ [stp 7 p]) (some (p1, L1))) (c2 : kd p1 ≠ 25) : PVq kd 6 d m p L none := by
  obtain ⟨N, h⟩ := h
  exact pv_up ⟨N, fun n hn => by rw [peq_6, if_pos c, if_pos hd, h n hn]; exact if_neg c2⟩
theorem pv_h3 (c : kd p = 24) (hd : d < 25) (h : PVq kd 0 (d + 1) 0 (p + 1) (L ++ [stp 7 p]) (some (p1, L1))) (c2 : kd p1 = 25) (h2 : PVq kd 6 d 0 (p1 + 1) (L1 ++ [stp 10 p]) R) : PVq kd 6 d m p L R := by
  obtain ⟨N, h⟩ := h
  obtain ⟨M, h2⟩ := h2
  exact pv_up ⟨N + M, fun n hn => by rw [peq_6, if_pos c, if_pos hd, h n (by omega)]; exact (if_pos c2).trans (h2 n (by omega))⟩
theorem pv_h4 (c : kd p = 61 ∨ kd p = 62) (h : PVq kd 6 d 0 (p + 1) (L ++ [stp 13 p]) R) : PVq kd 6 d m p L R := by
  obtain ⟨N, h⟩ := h
  exact pv_up ⟨N, fun n hn => by rw [peq_6, if_neg (by omega), if_pos c, h n hn]⟩
theorem pv_h5 (c : kd p ≠ 24 ∧ kd p ≠ 61 ∧ kd p ≠ 62) : PVq kd 6 d m p L (some (p, L)) := pv_up ⟨0, fun n _ => by rw [peq_6, if_neg c.1, if_neg (by omega)]⟩
-- two sides
theorem pv_l0 (h : PVq kd 2 d 0 p L none) : PVq kd 7 d m p L none := by
  obtain ⟨N, h⟩ := h
  exact pv_up ⟨N, fun n hn => by rw [peq_7, h n hn]; rfl⟩
theorem pv_l1 (h : PVq kd 2 d 0 p L (some (p1, L1))) (h2 : PVq kd 8 d m p1 L1 R) : PVq kd 7 d m p L R := by
  obtain ⟨N, h⟩ := h
  obtain ⟨M, h2⟩ := h2
  exact pv_up ⟨N + M, fun n hn => by rw [peq_7, h n (by omega)]; exact h2 n (by omega)⟩
theorem pv_l2 (c : ¬ (m : Int) ≤ lvq (kd p)) : PVq kd 8 d m p L (some (p, L)) := pv_up ⟨0, fun n _ => by rw [peq_8, if_neg c]⟩
theorem pv_l3 (c : (m : Int) ≤ lvq (kd p)) (h : PVq kd 7 d ((lvq (kd p)).toNat + 1) (p + 1) (L ++ [stp 7 p]) none) : PVq kd 8 d m p L none := by
  obtain ⟨N, h⟩ := h
  exact pv_up ⟨N, fun n hn => by rw [peq_8, if_pos c, h n hn]; rfl⟩
theorem pv_l4 (c : (m : Int) ≤ lvq (kd p)) (h : PVq kd 7 d ((lvq (kd p)).toNat + 1) (p + 1) (L ++ [stp 7 p]) (some (p1, L1))) (h2 : PVq kd 8 d m p1 (L1 ++ [stp 8 p]) R) : PVq kd 8 d m p L R := by
  obtain ⟨N, h⟩ := h
  obtain ⟨M, h2⟩ := h2
  exact pv_up ⟨N + M, fun n hn => by rw [peq_8, if_pos c, h n (by omega)]; exact h2 n (by omega)⟩
end PV
