/-! what a step tells of the constructs -/
section DZI
variable {act : Int} {fst snd : Int32} {z z' : Zs}
theorem dzi_20 (h : dz act fst snd z z') (ha : act = 20) : ∃ K, z = (1, K, []) ∧ z' = (1, 0 :: K, []) ∧ nz K ≤ 100 ∧ bdK K := by
  unfold dz at h
  rcases h with h | h | h | h | h | h | h | h | h | h | h | h | h | h | h | h | h | h | h | h | h | h | h | h | h | h
  all_goals first
    | exact h.2
    | (have h1 := h.1; clear h; exfalso; omega)
theorem dzi_21 (h : dz act fst snd z z') (ha : act = 21) : ∃ K, z = (1, 0 :: K, []) ∧ z' = (1, K, []) := by
  unfold dz at h
  rcases h with h | h | h | h | h | h | h | h | h | h | h | h | h | h | h | h | h | h | h | h | h | h | h | h | h | h
  all_goals first
    | exact h.2
    | (have h1 := h.1; clear h; exfalso; omega)
theorem dzi_22 (h : dz act fst snd z z') (ha : act = 22) : ∃ K, z = (1, K, [iV]) ∧ z' = (1, K, []) ∧ nz K ≤ 100 := by
  unfold dz at h
  rcases h with h | h | h | h | h | h | h | h | h | h | h | h | h | h | h | h | h | h | h | h | h | h | h | h | h | h
  all_goals first
    | exact h.2
    | (have h1 := h.1; clear h; exfalso; omega)
theorem dzi_23 (h : dz act fst snd z z') (ha : act = 23) : ∃ K, z = (1, K, [iV]) ∧ z' = (1, 1 :: K, []) ∧ sk 24 K := by
  unfold dz at h
  rcases h with h | h | h | h | h | h | h | h | h | h | h | h | h | h | h | h | h | h | h | h | h | h | h | h | h | h
  all_goals first
    | exact h.2
    | (have h1 := h.1; clear h; exfalso; omega)
theorem dzi_24 (h : dz act fst snd z z') (ha : act = 24) : ∃ K, z = (1, 1 :: K, []) ∧ z' = z := by
  unfold dz at h
  rcases h with h | h | h | h | h | h | h | h | h | h | h | h | h | h | h | h | h | h | h | h | h | h | h | h | h | h
  all_goals first
    | exact h.2
    | (have h1 := h.1; clear h; exfalso; omega)
theorem dzi_25 (h : dz act fst snd z z') (ha : act = 25) : ∃ K, z = (1, 1 :: K, []) ∧ z' = (1, K, []) := by
  unfold dz at h
  rcases h with h | h | h | h | h | h | h | h | h | h | h | h | h | h | h | h | h | h | h | h | h | h | h | h | h | h
  all_goals first
    | exact h.2
    | (have h1 := h.1; clear h; exfalso; omega)
theorem dzi_26 (h : dz act fst snd z z') (ha : act = 26) : ∃ K, z = (1, K, []) ∧ z' = (1, 2 :: K, []) ∧ sk 24 K := by
  unfold dz at h
  rcases h with h | h | h | h | h | h | h | h | h | h | h | h | h | h | h | h | h | h | h | h | h | h | h | h | h | h
  all_goals first
    | exact h.2
    | (have h1 := h.1; clear h; exfalso; omega)
theorem dzi_27 (h : dz act fst snd z z') (ha : act = 27) : ∃ K, z = (1, 2 :: K, [iV]) ∧ z' = (1, 3 :: K, []) := by
  unfold dz at h
  rcases h with h | h | h | h | h | h | h | h | h | h | h | h | h | h | h | h | h | h | h | h | h | h | h | h | h | h
  all_goals first
    | exact h.2
    | (have h1 := h.1; clear h; exfalso; omega)
theorem dzi_28 (h : dz act fst snd z z') (ha : act = 28) : ∃ K, z = (1, 3 :: K, []) ∧ z' = (1, K, []) := by
  unfold dz at h
  rcases h with h | h | h | h | h | h | h | h | h | h | h | h | h | h | h | h | h | h | h | h | h | h | h | h | h | h
  all_goals first
    | exact h.2
    | (have h1 := h.1; clear h; exfalso; omega)
theorem dzi_29 (h : dz act fst snd z z') (ha : act = 29) : ∃ K, z = (1, K, []) ∧ z' = (1, 4 :: K, []) ∧ sk 24 K := by
  unfold dz at h
  rcases h with h | h | h | h | h | h | h | h | h | h | h | h | h | h | h | h | h | h | h | h | h | h | h | h | h | h
  all_goals first
    | exact h.2
    | (have h1 := h.1; clear h; exfalso; omega)
theorem dzi_30 (h : dz act fst snd z z') (ha : act = 30) : ∃ K, z = (1, 4 :: K, []) ∧ z' = (1, 5 :: K, []) := by
  unfold dz at h
  rcases h with h | h | h | h | h | h | h | h | h | h | h | h | h | h | h | h | h | h | h | h | h | h | h | h | h | h
  all_goals first
    | exact h.2
    | (have h1 := h.1; clear h; exfalso; omega)
theorem dzi_31 (h : dz act fst snd z z') (ha : act = 31) : ∃ K, z = (1, 5 :: K, [iV]) ∧ z' = (1, K, []) := by
  unfold dz at h
  rcases h with h | h | h | h | h | h | h | h | h | h | h | h | h | h | h | h | h | h | h | h | h | h | h | h | h | h
  all_goals first
    | exact h.2
    | (have h1 := h.1; clear h; exfalso; omega)
theorem dzi_32 (h : dz act fst snd z z') (ha : act = 32) : ∃ K, z = (1, K, []) ∧ z' = (1, 6 :: K, []) ∧ sk 24 K := by
  unfold dz at h
  rcases h with h | h | h | h | h | h | h | h | h | h | h | h | h | h | h | h | h | h | h | h | h | h | h | h | h | h
  all_goals first
    | exact h.2
    | (have h1 := h.1; clear h; exfalso; omega)
theorem dzi_33 (h : dz act fst snd z z') (ha : act = 33) : ∃ K, z = (1, 6 :: K, if fst.toInt = 0 then [] else [iV]) ∧ z' = (1, 7 :: K, []) := by
  unfold dz at h
  rcases h with h | h | h | h | h | h | h | h | h | h | h | h | h | h | h | h | h | h | h | h | h | h | h | h | h | h
  all_goals first
    | exact h.2
    | (have h1 := h.1; clear h; exfalso; omega)
theorem dzi_34 (h : dz act fst snd z z') (ha : act = 34) : ∃ K, z = (1, 7 :: K, []) ∧ z' = (1, 8 :: K, []) := by
  unfold dz at h
  rcases h with h | h | h | h | h | h | h | h | h | h | h | h | h | h | h | h | h | h | h | h | h | h | h | h | h | h
  all_goals first
    | exact h.2
    | (have h1 := h.1; clear h; exfalso; omega)
theorem dzi_35 (h : dz act fst snd z z') (ha : act = 35) : ∃ K, z = (1, 8 :: K, []) ∧ z' = (1, K, []) := by
  unfold dz at h
  rcases h with h | h | h | h | h | h | h | h | h | h | h | h | h | h | h | h | h | h | h | h | h | h | h | h | h | h
  all_goals first
    | exact h.2
    | (have h1 := h.1; clear h; exfalso; omega)
theorem dzi_36 (h : dz act fst snd z z') (ha : act = 36 ∨ act = 37) : ∃ K, z = (1, K, []) ∧ z' = z ∧ sk 100 K := by
  unfold dz at h
  rcases h with h | h | h | h | h | h | h | h | h | h | h | h | h | h | h | h | h | h | h | h | h | h | h | h | h | h
  all_goals first
    | exact h.2
    | (have h1 := h.1; clear h; exfalso; omega)
theorem dzi_38 (h : dz act fst snd z z') (ha : act = 38) : ∃ K, z = (1, K, if fst.toInt = 0 then [] else [iV]) ∧ z' = (1, K, []) ∧ nz K ≤ 100 := by
  unfold dz at h
  rcases h with h | h | h | h | h | h | h | h | h | h | h | h | h | h | h | h | h | h | h | h | h | h | h | h | h | h
  all_goals first
    | exact h.2
    | (have h1 := h.1; clear h; exfalso; omega)
theorem dzi_42 (h : dz act fst snd z z') (ha : act = 42) : ∃ F K, z = (F, K, []) ∧ z' = z := by
  unfold dz at h
  rcases h with h | h | h | h | h | h | h | h | h | h | h | h | h | h | h | h | h | h | h | h | h | h | h | h | h | h
  all_goals first
    | exact h.2
    | (have h1 := h.1; clear h; exfalso; omega)
theorem dzi_43 (h : dz act fst snd z z') (ha : act = 43) : ∃ F K, F ≤ 1 ∧ tpK K ∧ z = (F, K, []) ∧ ((b4 snd ∧ z' = (F, 9 :: K, [])) ∨ (¬ b4 snd ∧ z' = z)) := by
  unfold dz at h
  rcases h with h | h | h | h | h | h | h | h | h | h | h | h | h | h | h | h | h | h | h | h | h | h | h | h | h | h
  all_goals first
    | exact h.2
    | (have h1 := h.1; clear h; exfalso; omega)
theorem dzi_44 (h : dz act fst snd z z') (ha : act = 44) : ∃ F K c, (c = 9 ∨ c = 10) ∧ z = (F, c :: K, [iV]) ∧ z' = (F, 10 :: K, []) := by
  unfold dz at h
  rcases h with h | h | h | h | h | h | h | h | h | h | h | h | h | h | h | h | h | h | h | h | h | h | h | h | h | h
  all_goals first
    | exact h.2
    | (have h1 := h.1; clear h; exfalso; omega)
theorem dzi_45 (h : dz act fst snd z z') (ha : act = 45) : ∃ F K, z = (F, 9 :: K, []) ∧ z' = (F, 11 :: K, []) := by
  unfold dz at h
  rcases h with h | h | h | h | h | h | h | h | h | h | h | h | h | h | h | h | h | h | h | h | h | h | h | h | h | h
  all_goals first
    | exact h.2
    | (have h1 := h.1; clear h; exfalso; omega)
theorem dzi_46 (h : dz act fst snd z z') (ha : act = 46) : ∃ F K, z' = (F, K, []) ∧ ((fst.toInt = 0 ∧ z = (F, 9 :: K, [iV])) ∨ (fst.toInt = 1 ∧ (z = (F, 9 :: K, []) ∨ z = (F, 10 :: K, []))) ∨ (fst.toInt = 2 ∧ z = (F, 11 :: K, []))) := by
  unfold dz at h
  rcases h with h | h | h | h | h | h | h | h | h | h | h | h | h | h | h | h | h | h | h | h | h | h | h | h | h | h
  all_goals first
    | exact h.2
    | (have h1 := h.1; clear h; exfalso; omega)
theorem dzi_47 (h : dz act fst snd z z') (ha : act = 47) : z = (0, [], []) ∧ spar fst ≤ 8 ∧ ((b4 snd ∧ z' = (1 + spar fst, [], [])) ∨ (¬ b4 snd ∧ z' = (0, [], []))) := by
  unfold dz at h
  rcases h with h | h | h | h | h | h | h | h | h | h | h | h | h | h | h | h | h | h | h | h | h | h | h | h | h | h
  all_goals first
    | exact h.2
    | (have h1 := h.1; clear h; exfalso; omega)
theorem dzi_48 (h : dz act fst snd z z') (ha : act = 48) : ∃ F, z = (F + 2, [], []) ∧ z' = (F + 1, [], []) := by
  unfold dz at h
  rcases h with h | h | h | h | h | h | h | h | h | h | h | h | h | h | h | h | h | h | h | h | h | h | h | h | h | h
  all_goals first
    | exact h.2
    | (have h1 := h.1; clear h; exfalso; omega)
theorem dzi_49 (h : dz act fst snd z z') (ha : act = 49) : z = (1, [], []) ∧ z' = (0, [], []) := by
  unfold dz at h
  rcases h with h | h | h | h | h | h | h | h | h | h | h | h | h | h | h | h | h | h | h | h | h | h | h | h | h | h
  all_goals first
    | exact h.2
    | (have h1 := h.1; clear h; exfalso; omega)
theorem dz_rng (h : dz act fst snd z z') : 20 ≤ act ∧ act ≤ 49 ∧ act ≠ 39 ∧ act ≠ 40 ∧ act ≠ 41 := by
  unfold dz at h
  rcases h with h | h | h | h | h | h | h | h | h | h | h | h | h | h | h | h | h | h | h | h | h | h | h | h | h | h
  all_goals (have h1 := h.1; clear h; omega)
end DZI
theorem zs_inj {F F' : Nat} {K K' : List Nat} {A A' : List It} (h : ((F, K, A) : Zs) = (F', K', A')) : F' = F ∧ K' = K ∧ A' = A := by
  cases h
  exact ⟨rfl, rfl, rfl⟩
