theorem dec_eq {x : Int32} (h : 0 < x.toInt) : (x + (-1)).toInt = x.toInt - 1 := by
  have e1 : ((-1) : Int32).toInt = -1 := by decide
  obtain ⟨k, e⟩ := s_add x (-1)
  have h1 := s_rng (x + (-1))
  have h2 := s_rng x
  omega
theorem walk_j {x x' S L S' L' : Int} (h0 : 0 < x) (hx : x' = x - 1) (h : x - 40000 ≤ S ∧ S ≤ 40000 - x ∧ x ≤ 32100 ∧ L ≤ 40000 - x) (hS : (S' ≤ S + 1 ∧ S - 1 ≤ S') ∨ S' = 0 ∨ S' = 1) (hL : L' ≤ L + 1 ∨ L' = 0) : x' - 40000 ≤ S' ∧ S' ≤ 40000 - x' ∧ x' ≤ 32100 ∧ L' ≤ 40000 - x' := by
  refine ⟨?_, ?_, ?_, ?_⟩ <;> omega
