/-! the grammar of expressions: by its paths -/
def PIq (kd : Nat → Int) (C : Nat → Nat → Nat → Nat → List Stq → Nat → List Stq → Prop) : Prop :=
  (∀ d m p L p1 L1, C 1 d 0 p L p1 L1 → ¬ (30 ≤ kd p1 ∧ kd p1 ≤ 40) → C 0 d m p L p1 L1)
  ∧ (∀ d m p L p1 L1 p2 L2, C 1 d 0 p L p1 L1 → (30 ≤ kd p1 ∧ kd p1 ≤ 40) → d < 25 → C 0 (d + 1) 0 (p1 + 1) (L1 ++ [stp 7 p1]) p2 L2 → C 0 d m p L p2 (L2 ++ [stp 9 p1]))
  ∧ (∀ d m p L p1 L1, C 7 d 1 p L p1 L1 → kd p1 ≠ 28 → C 1 d m p L p1 L1)
  ∧ (∀ d m p L p1 L1 p2 L2 p3 L3, C 7 d 1 p L p1 L1 → kd p1 = 28 → d < 25 → C 0 (d + 1) 0 (p1 + 1) (L1 ++ [stp 14 p1]) p2 L2 → kd p2 = 29 → C 1 (d + 1) 0 (p2 + 1) (L2 ++ [stp 15 p1]) p3 L3 → C 1 d m p L p3 (L3 ++ [stp 16 p1]))
  ∧ (∀ d m p L p1 L1, UNq (kd p) → d < 25 → C 2 (d + 1) 0 (p + 1) L p1 L1 → C 2 d m p L p1 (L1 ++ [stp 11 p]))
  ∧ (∀ d m p L i p1 p2 L2, (kd p = 20 ∧ kd (p + 1) = 5) → d < 25 → SRq kd 5 (p + 2) = some (i, p1) → kd p1 = 21 → C 2 (d + 1) 0 (p1 + 1) L p2 L2 → C 2 d m p L p2 (L2 ++ [(12, p, (i : Int), 0)]))
  ∧ (∀ d m p L p1 L1 p2 L2, ¬ UNq (kd p) → ¬ (kd p = 20 ∧ kd (p + 1) = 5) → C 4 d 0 p L p1 L1 → C 6 d 0 p1 L1 p2 L2 → C 2 d m p L p2 L2)
  ∧ (∀ d m p L, kd p = 3 → C 4 d m p L (p + 1) (L ++ [stp 1 p])) ∧ (∀ d m p L, kd p = 4 → C 4 d m p L (p + 1) (L ++ [stp 2 p])) ∧ (∀ d m p L, kd p = 2 → kd (p + 1) ≠ 20 → C 4 d m p L (p + 1) (L ++ [stp 3 p]))
  ∧ (∀ d m p L, kd p = 2 → kd (p + 1) = 20 → d < 25 → kd (p + 2) = 21 → C 4 d m p L (p + 3) (L ++ [stp 4 p] ++ [stp 6 p]))
  ∧ (∀ d m p L p1 L1, kd p = 2 → kd (p + 1) = 20 → d < 25 → kd (p + 2) ≠ 21 → C 5 d p (p + 2) (L ++ [stp 4 p]) p1 L1 → C 4 d m p L p1 L1)
  ∧ (∀ d m p L p1 L1, kd p = 20 → d < 25 → C 0 (d + 1) 0 (p + 1) L p1 L1 → kd p1 = 21 → C 4 d m p L (p1 + 1) L1)
  ∧ (∀ d m p L p1 L1 p2 L2, C 0 (d + 1) 0 p L p1 L1 → kd p1 = 26 → C 5 d m (p1 + 1) (L1 ++ [stp 5 m]) p2 L2 → C 5 d m p L p2 L2)
  ∧ (∀ d m p L p1 L1, C 0 (d + 1) 0 p L p1 L1 → kd p1 = 21 → C 5 d m p L (p1 + 1) (L1 ++ [stp 5 m] ++ [stp 6 m]))
  ∧ (∀ d m p L p1 L1 p2 L2, kd p = 24 → d < 25 → C 0 (d + 1) 0 (p + 1) (L ++ [stp 7 p]) p1 L1 → kd p1 = 25 → C 6 d 0 (p1 + 1) (L1 ++ [stp 10 p]) p2 L2 → C 6 d m p L p2 L2)
  ∧ (∀ d m p L p1 L1, (kd p = 61 ∨ kd p = 62) → C 6 d 0 (p + 1) (L ++ [stp 13 p]) p1 L1 → C 6 d m p L p1 L1)
  ∧ (∀ d m p L, (kd p ≠ 24 ∧ kd p ≠ 61 ∧ kd p ≠ 62) → C 6 d m p L p L)
  ∧ (∀ d m p L p1 L1 p2 L2, C 2 d 0 p L p1 L1 → C 8 d m p1 L1 p2 L2 → C 7 d m p L p2 L2)
  ∧ (∀ d (m : Nat) p L, ¬ (m : Int) ≤ lvq (kd p) → C 8 d m p L p L)
  ∧ (∀ d (m : Nat) p L p1 L1 p2 L2, (m : Int) ≤ lvq (kd p) → C 7 d ((lvq (kd p)).toNat + 1) (p + 1) (L ++ [stp 7 p]) p1 L1 → C 8 d m p1 (L1 ++ [stp 8 p]) p2 L2 → C 8 d m p L p2 L2)
theorem bind_in {α β : Type} {o : Option α} {f : α → Option β} {b : β} (h : o.bind f = some b) : ∃ a, o = some a ∧ f a = some b := by
  cases o with
  | none => exact absurd h (by intro e; cases e)
  | some a => exact ⟨a, rfl, h⟩
theorem pe_ind {kd : Nat → Int} {C : Nat → Nat → Nat → Nat → List Stq → Nat → List Stq → Prop} (hC : PIq kd C) : ∀ n sel d m p L p' L', PEq kd n sel d m p L = some (p', L') → C sel d m p L p' L' := by
  obtain ⟨e1, e2, c1, c2, u1, u2, u3, k3, k4, k2, q1, q2, r1, a1, a2, h1, h2, h3, l1, l2, l3⟩ := hC
  intro n
  induction n with
  | zero => exact fun _ _ _ _ _ _ _ h => absurd h (by intro e; cases e)
  | succ n ih =>
    intro sel d m p L p' L' h
    match sel with
    | 0 =>
      rw [peq_0] at h
      obtain ⟨⟨p1, L1⟩, g, h⟩ := bind_in h
      have i1 := ih _ _ _ _ _ _ _ g
      by_cases c : 30 ≤ kd p1 ∧ kd p1 ≤ 40
      · replace h := (if_pos c).symm.trans h
        by_cases hd : d < 25
        · replace h := (if_pos hd).symm.trans h
          obtain ⟨⟨p2, L2⟩, g2, h⟩ := bind_in h
          cases h
          exact e2 _ _ _ _ _ _ _ _ i1 c hd (ih _ _ _ _ _ _ _ g2)
        · replace h := (if_neg hd).symm.trans h
          cases h
      · replace h := (if_neg c).symm.trans h
        cases h
        exact e1 _ _ _ _ _ _ i1 c
    | 1 =>
      rw [peq_1] at h
      obtain ⟨⟨p1, L1⟩, g, h⟩ := bind_in h
      have i1 := ih _ _ _ _ _ _ _ g
      by_cases c : kd p1 = 28
      · replace h := (if_pos c).symm.trans h
        by_cases hd : d < 25
        · replace h := (if_pos hd).symm.trans h
          obtain ⟨⟨p2, L2⟩, g2, h⟩ := bind_in h
          by_cases c2' : kd p2 = 29
          · replace h := (if_pos c2').symm.trans h
            obtain ⟨⟨p3, L3⟩, g3, h⟩ := bind_in h
            cases h
            exact c2 _ _ _ _ _ _ _ _ _ _ i1 c hd (ih _ _ _ _ _ _ _ g2) c2' (ih _ _ _ _ _ _ _ g3)
          · replace h := (if_neg c2').symm.trans h
            cases h
        · replace h := (if_neg hd).symm.trans h
          cases h
      · replace h := (if_neg c).symm.trans h
        cases h
        exact c1 _ _ _ _ _ _ i1 c
    | 2 =>
      rw [peq_2] at h
      by_cases c : UNq (kd p)
      · rw [if_pos c] at h
        by_cases hd : d < 25
        · rw [if_pos hd] at h
          obtain ⟨⟨p1, L1⟩, g, h⟩ := bind_in h
          cases h
          exact u1 _ _ _ _ _ _ c hd (ih _ _ _ _ _ _ _ g)
        · rw [if_neg hd] at h
          cases h
      · rw [if_neg c] at h
        by_cases c5 : kd p = 20 ∧ kd (p + 1) = 5
        · rw [if_pos c5] at h
          by_cases hd : d < 25
          · rw [if_pos hd] at h
            obtain ⟨⟨i, p1⟩, g, h⟩ := bind_in h
            by_cases c6 : kd p1 = 21
            · replace h := (if_pos c6).symm.trans h
              obtain ⟨⟨p2, L2⟩, g2, h⟩ := bind_in h
              cases h
              exact u2 _ _ _ _ _ _ _ _ c5 hd g c6 (ih _ _ _ _ _ _ _ g2)
            · replace h := (if_neg c6).symm.trans h
              cases h
          · rw [if_neg hd] at h
            cases h
        · rw [if_neg c5] at h
          obtain ⟨⟨p1, L1⟩, g, h⟩ := bind_in h
          exact u3 _ _ _ _ _ _ _ _ c c5 (ih _ _ _ _ _ _ _ g) (ih _ _ _ _ _ _ _ h)
    | 3 => cases h
    | 4 =>
      rw [peq_4] at h
      by_cases c3 : kd p = 3
      · rw [if_pos c3] at h
        cases h
        exact k3 _ _ _ _ c3
      rw [if_neg c3] at h
      by_cases c4 : kd p = 4
      · rw [if_pos c4] at h
        cases h
        exact k4 _ _ _ _ c4
      rw [if_neg c4] at h
      by_cases c2' : kd p = 2
      · rw [if_pos c2'] at h
        by_cases c20 : kd (p + 1) = 20
        · rw [if_pos c20] at h
          by_cases hd : d < 25
          · rw [if_pos hd] at h
            by_cases c21 : kd (p + 2) = 21
            · rw [if_pos c21] at h
              cases h
              exact q1 _ _ _ _ c2' c20 hd c21
            · rw [if_neg c21] at h
              exact q2 _ _ _ _ _ _ c2' c20 hd c21 (ih _ _ _ _ _ _ _ h)
          · rw [if_neg hd] at h
            cases h
        · rw [if_neg c20] at h
          cases h
          exact k2 _ _ _ _ c2' c20
      rw [if_neg c2'] at h
      by_cases c20 : kd p = 20
      · rw [if_pos c20] at h
        by_cases hd : d < 25
        · rw [if_pos hd] at h
          obtain ⟨⟨p1, L1⟩, g, h⟩ := bind_in h
          by_cases c21 : kd p1 = 21
          · replace h := (if_pos c21).symm.trans h
            cases h
            exact r1 _ _ _ _ _ _ c20 hd (ih _ _ _ _ _ _ _ g) c21
          · replace h := (if_neg c21).symm.trans h
            cases h
        · rw [if_neg hd] at h
          cases h
      · rw [if_neg c20] at h
        cases h
    | 5 =>
      rw [peq_5] at h
      obtain ⟨⟨p1, L1⟩, g, h⟩ := bind_in h
      have i1 := ih _ _ _ _ _ _ _ g
      by_cases c : kd p1 = 26
      · replace h := (if_pos c).symm.trans h
        exact a1 _ _ _ _ _ _ _ _ i1 c (ih _ _ _ _ _ _ _ h)
      · replace h := (if_neg c).symm.trans h
        by_cases c21 : kd p1 = 21
        · replace h := (if_pos c21).symm.trans h
          cases h
          exact a2 _ _ _ _ _ _ i1 c21
        · replace h := (if_neg c21).symm.trans h
          cases h
    | 6 =>
      rw [peq_6] at h
      by_cases c : kd p = 24
      · rw [if_pos c] at h
        by_cases hd : d < 25
        · rw [if_pos hd] at h
          obtain ⟨⟨p1, L1⟩, g, h⟩ := bind_in h
          by_cases c25 : kd p1 = 25
          · replace h := (if_pos c25).symm.trans h
            exact h1 _ _ _ _ _ _ _ _ c hd (ih _ _ _ _ _ _ _ g) c25 (ih _ _ _ _ _ _ _ h)
          · replace h := (if_neg c25).symm.trans h
            cases h
        · rw [if_neg hd] at h
          cases h
      · rw [if_neg c] at h
        by_cases c6 : kd p = 61 ∨ kd p = 62
        · rw [if_pos c6] at h
          exact h2 _ _ _ _ _ _ c6 (ih _ _ _ _ _ _ _ h)
        · rw [if_neg c6] at h
          cases h
          exact h3 _ _ _ _ ⟨c, fun e => c6 (Or.inl e), fun e => c6 (Or.inr e)⟩
    | 7 =>
      rw [peq_7] at h
      obtain ⟨⟨p1, L1⟩, g, h⟩ := bind_in h
      exact l1 _ _ _ _ _ _ _ _ (ih _ _ _ _ _ _ _ g) (ih _ _ _ _ _ _ _ h)
    | 8 =>
      rw [peq_8] at h
      by_cases c : (m : Int) ≤ lvq (kd p)
      · rw [if_pos c] at h
        obtain ⟨⟨p1, L1⟩, g, h⟩ := bind_in h
        exact l3 _ _ _ _ _ _ _ _ c (ih _ _ _ _ _ _ _ g) (ih _ _ _ _ _ _ _ h)
      · rw [if_neg c] at h
        cases h
        exact l2 _ _ _ _ c
    | k + 9 => cases h
section PRE
variable {kd : Nat → Int} {sel d m p p' : Nat} {L L' : List Stq}
/-- what is before stays, and doesn't matter -/
def Cpre (kd : Nat → Int) (sel d m p : Nat) (L : List Stq) (p' : Nat) (L' : List Stq) : Prop := ∃ l, L' = L ++ l ∧ ∀ M, PVq kd sel d m p M (some (p', M ++ l))
theorem pre_1 {l : List Stq} {y : Stq} (h : L' = L ++ [y] ++ l) : L' = L ++ ([y] ++ l) := by rw [h, List.append_assoc]
theorem pi_pre : PIq kd (Cpre kd) := by
  refine ⟨?_, ?_, ?_, ?_, ?_, ?_, ?_, ?_, ?_, ?_, ?_, ?_, ?_, ?_, ?_, ?_, ?_, ?_, ?_, ?_, ?_⟩
  · rintro d m p L p1 L1 ⟨l, e, h⟩ c
    exact ⟨l, e, fun M => pv_e1 (h M) c⟩
  · rintro d m p L p1 L1 p2 L2 ⟨l, rfl, h⟩ c hd ⟨l2, rfl, h2⟩
    refine ⟨l ++ [stp 7 p1] ++ l2 ++ [stp 9 p1], by simp only [List.append_assoc], fun M => ?_⟩
    have := pv_e3 (m := m) (h M) c hd (h2 (M ++ l ++ [stp 7 p1]))
    simp only [Option.bind, List.append_assoc] at this ⊢
    exact this
  · rintro d m p L p1 L1 ⟨l, e, h⟩ c
    exact ⟨l, e, fun M => pv_c1 (h M) c⟩
  · rintro d m p L p1 L1 p2 L2 p3 L3 ⟨l, rfl, h⟩ c hd ⟨l2, rfl, h2⟩ c2 ⟨l3, rfl, h3⟩
    refine ⟨l ++ [stp 14 p1] ++ l2 ++ [stp 15 p1] ++ l3 ++ [stp 16 p1], by simp only [List.append_assoc], fun M => ?_⟩
    have := pv_c5 (m := m) (h M) c hd (h2 (M ++ l ++ [stp 14 p1])) c2 (h3 (M ++ l ++ [stp 14 p1] ++ l2 ++ [stp 15 p1]))
    simp only [Option.bind, List.append_assoc] at this ⊢
    exact this
  · rintro d m p L p1 L1 c hd ⟨l, rfl, h⟩
    refine ⟨l ++ [stp 11 p], by simp only [List.append_assoc], fun M => ?_⟩
    have := pv_u1 (m := m) c hd (h M)
    simp only [Option.bind, List.append_assoc] at this ⊢
    exact this
  · rintro d m p L i p1 p2 L2 c hd hs c2 ⟨l, rfl, h⟩
    refine ⟨l ++ [(12, p, (i : Int), 0)], by simp only [List.append_assoc], fun M => ?_⟩
    have := pv_t3 (m := m) c hd hs c2 (h M)
    simp only [Option.bind, List.append_assoc] at this ⊢
    exact this
  · rintro d m p L p1 L1 p2 L2 c c2 ⟨l, rfl, h⟩ ⟨l2, rfl, h2⟩
    refine ⟨l ++ l2, by simp only [List.append_assoc], fun M => ?_⟩
    have := pv_b1 (m := m) c c2 (h M) (h2 (M ++ l))
    simp only [List.append_assoc] at this ⊢
    exact this
  · exact fun d m p L c => ⟨_, rfl, fun M => pv_p3 c⟩
  · exact fun d m p L c => ⟨_, rfl, fun M => pv_p4 c⟩
  · exact fun d m p L c c2 => ⟨_, rfl, fun M => pv_p2 c c2⟩
  · exact fun d m p L c c2 hd c3 => ⟨[stp 4 p] ++ [stp 6 p], by simp only [List.append_assoc], fun M => by
      have := pv_k1 (m := m) (L := M) c c2 hd c3
      simp only [List.append_assoc] at this ⊢
      exact this⟩
  · rintro d m p L p1 L1 c c2 hd c3 ⟨l, rfl, h⟩
    refine ⟨[stp 4 p] ++ l, by simp only [List.append_assoc], fun M => ?_⟩
    have := pv_k2 (m := m) c c2 hd c3 (h (M ++ [stp 4 p]))
    simp only [List.append_assoc] at this ⊢
    exact this
  · rintro d m p L p1 L1 c hd ⟨l, e, h⟩ c2
    exact ⟨l, e, fun M => pv_r3 c hd (h M) c2⟩
  · rintro d m p L p1 L1 p2 L2 ⟨l, rfl, h⟩ c ⟨l2, rfl, h2⟩
    refine ⟨l ++ [stp 5 m] ++ l2, by simp only [List.append_assoc], fun M => ?_⟩
    have := pv_a1 (h M) c (h2 (M ++ l ++ [stp 5 m]))
    simp only [List.append_assoc] at this ⊢
    exact this
  · rintro d m p L p1 L1 ⟨l, rfl, h⟩ c
    refine ⟨l ++ [stp 5 m] ++ [stp 6 m], by simp only [List.append_assoc], fun M => ?_⟩
    have := pv_a2 (m := m) (h M) c
    simp only [List.append_assoc] at this ⊢
    exact this
  · rintro d m p L p1 L1 p2 L2 c hd ⟨l, rfl, h⟩ c2 ⟨l2, rfl, h2⟩
    refine ⟨[stp 7 p] ++ l ++ [stp 10 p] ++ l2, by simp only [List.append_assoc], fun M => ?_⟩
    have := pv_h3 (m := m) c hd (h (M ++ [stp 7 p])) c2 (h2 (M ++ [stp 7 p] ++ l ++ [stp 10 p]))
    simp only [List.append_assoc] at this ⊢
    exact this
  · rintro d m p L p1 L1 c ⟨l, rfl, h⟩
    refine ⟨[stp 13 p] ++ l, by simp only [List.append_assoc], fun M => ?_⟩
    have := pv_h4 (m := m) c (h (M ++ [stp 13 p]))
    simp only [List.append_assoc] at this ⊢
    exact this
  · exact fun d m p L c => ⟨[], (List.append_nil _).symm, fun M => by rw [List.append_nil]; exact pv_h5 c⟩
  · rintro d m p L p1 L1 p2 L2 ⟨l, rfl, h⟩ ⟨l2, rfl, h2⟩
    refine ⟨l ++ l2, by simp only [List.append_assoc], fun M => ?_⟩
    have := pv_l1 (m := m) (h M) (h2 (M ++ l))
    simp only [List.append_assoc] at this ⊢
    exact this
  · exact fun d m p L c => ⟨[], (List.append_nil _).symm, fun M => by rw [List.append_nil]; exact pv_l2 c⟩
  · rintro d m p L p1 L1 p2 L2 c ⟨l, rfl, h⟩ ⟨l2, rfl, h2⟩
    refine ⟨[stp 7 p] ++ l ++ [stp 8 p] ++ l2, by simp only [List.append_assoc], fun M => ?_⟩
    have := pv_l4 c (h (M ++ [stp 7 p])) (h2 (M ++ [stp 7 p] ++ l ++ [stp 8 p]))
    simp only [List.append_assoc] at this ⊢
    exact this
theorem pv_ind {C : Nat → Nat → Nat → Nat → List Stq → Nat → List Stq → Prop} (hC : PIq kd C) (h : PVq kd sel d m p L (some (p', L'))) : C sel d m p L p' L' := by
  obtain ⟨N, h⟩ := h
  exact pe_ind hC N _ _ _ _ _ _ _ (h N (Nat.le_refl _))
theorem pv_pre (h : PVq kd sel d m p L (some (p', L'))) : ∃ l, L' = L ++ l ∧ ∀ M, PVq kd sel d m p M (some (p', M ++ l)) := pv_ind pi_pre h
theorem pv_pre0 (h : PVq kd sel d m p L none) (M : List Stq) : PVq kd sel d m p M none := by
  obtain ⟨N, h⟩ := h
  refine ⟨N, fun n hn => ?_⟩
  cases e : PEq kd n sel d m p M with
  | none => rfl
  | some r =>
    obtain ⟨p', L'⟩ := r
    obtain ⟨l, _, h2⟩ := pe_ind pi_pre n _ _ _ _ _ _ _ e
    have := pv_one ⟨N, h⟩ (h2 L)
    cases this
/-- an expression's steps -/
theorem ex_ev {l : List Stq} (h : PVq kd 0 1 0 p [] (some (p', l))) : EVq (fun n => EXn kd n p) (some (p', gqs l)) := ev_b h ev_c
theorem ex_ev0 (h : PVq kd 0 1 0 p [] none) : EVq (fun n => EXn kd n p) none := ev_b0 h
end PRE
