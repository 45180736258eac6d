/-! the grammar: the expressions' group -/
def EFk (n : Nat) : Prop := ∀ d : Nat, 1 ≤ d → d ≤ 25 →
  (8 * (25 - d) + 7 < n → SPE (KVA n).2.2.2.2.2.2.2 d (20 * (d - 1)) (10 * (d - 1))) ∧
  (8 * (25 - d) + 6 < n → SPE (KVA n).2.2.2.2.2.2.1 d (20 * (d - 1)) (10 * (d - 1))) ∧
  (8 * (25 - d) + 5 < n → SPE (KVA n).2.2.2.2.2.1 d (20 * (d - 1)) (10 * (d - 1))) ∧
  (8 * (25 - d) + 4 < n → SPE (KVA n).2.2.2.2.1 d (20 * (d - 1) + 10) (10 * (d - 1) + 10)) ∧
  (8 * (25 - d) + 3 < n → SPK (KVA n).2.2.2.1 d (20 * (d - 1) + 10) (10 * (d - 1) + 10)) ∧
  (8 * (25 - d) + 3 < n → SPE (KVA n).2.2.1 d (20 * (d - 1) + 10) (10 * (d - 1) + 10)) ∧
  (8 * (25 - d) + 2 < n → SPE (KVA n).2.1 d (20 * (d - 1) + 10) (10 * (d - 1) + 10)) ∧
  (8 * (25 - d) + 1 < n → SPC (KVA n).1 d (20 * (d - 1) + 10) (10 * (d - 1) + 10))
theorem efk_0 : EFk 0 := fun d h1 h2 => ⟨fun h => absurd h (Nat.not_lt_zero _), fun h => absurd h (Nat.not_lt_zero _), fun h => absurd h (Nat.not_lt_zero _), fun h => absurd h (Nat.not_lt_zero _), fun h => absurd h (Nat.not_lt_zero _), fun h => absurd h (Nat.not_lt_zero _), fun h => absurd h (Nat.not_lt_zero _), fun h => absurd h (Nat.not_lt_zero _)⟩
theorem efk_s {n : Nat} (ih : EFk n) : EFk (n + 1) := fun d h1 h2 => by
  obtain ⟨g1, g2, g3, g4, g5, g6, g7, g8⟩ := ih d h1 h2
  have up : d + 1 ≤ 25 → _ := fun h => ih (d + 1) (by omega) h
  have ed : 20 * (d + 1 - 1) = 20 * (d - 1) + 20 := by omega
  have ep : 10 * (d + 1 - 1) = 10 * (d - 1) + 10 := by omega
  refine ⟨fun hn => ?_, fun hn => ?_, fun hn => ?_, fun hn => ?_, fun hn => ?_, fun hn => ?_, fun hn => ?_, fun hn => ?_⟩
  · show SPE (wk_X3_expression ((KVA n).1) ((KVA n).2.1) ((KVA n).2.2.1) ((KVA n).2.2.2.1) ((KVA n).2.2.2.2.1) ((KVA n).2.2.2.2.2.1) ((KVA n).2.2.2.2.2.2.1) ((KVA n).2.2.2.2.2.2.2)) d _ _
    exact sp_gexpr (g2 (by omega)) (fun h => (up h).1 (by omega)) (by omega) (by omega)
  · show SPE (wk_X3_choice ((KVA n).1) ((KVA n).2.1) ((KVA n).2.2.1) ((KVA n).2.2.2.1) ((KVA n).2.2.2.2.1) ((KVA n).2.2.2.2.2.1) ((KVA n).2.2.2.2.2.2.1) ((KVA n).2.2.2.2.2.2.2)) d _ _
    exact sp_gchoice (g3 (by omega)) (fun h => (up h).1 (by omega)) (fun h => (up h).2.1 (by omega)) (by omega) (by omega)
  · show SPE (wk_X3_binary ((KVA n).1) ((KVA n).2.1) ((KVA n).2.2.1) ((KVA n).2.2.2.1) ((KVA n).2.2.2.2.1) ((KVA n).2.2.2.2.2.1) ((KVA n).2.2.2.2.2.2.1) ((KVA n).2.2.2.2.2.2.2)) d _ _
    exact sp_gbinary (g4 (by omega)) (by omega) (by omega)
  · show SPE (wk_X3_unary ((KVA n).1) ((KVA n).2.1) ((KVA n).2.2.1) ((KVA n).2.2.2.1) ((KVA n).2.2.2.2.1) ((KVA n).2.2.2.2.2.1) ((KVA n).2.2.2.2.2.2.1) ((KVA n).2.2.2.2.2.2.2)) d _ _
    exact sp_gunary (g6 (by omega)) (g5 (by omega)) (fun h => (up h).2.2.2.1 (by omega)) (by omega) (by omega)
  · show SPK (wk_X3_cast ((KVA n).1) ((KVA n).2.1) ((KVA n).2.2.1) ((KVA n).2.2.2.1) ((KVA n).2.2.2.2.1) ((KVA n).2.2.2.2.2.1) ((KVA n).2.2.2.2.2.2.1) ((KVA n).2.2.2.2.2.2.2)) d _ _
    exact sp_gcast (fun h => (up h).2.2.2.1 (by omega)) (by omega) (by omega)
  · show SPE (wk_X3_behind ((KVA n).1) ((KVA n).2.1) ((KVA n).2.2.1) ((KVA n).2.2.2.1) ((KVA n).2.2.2.2.1) ((KVA n).2.2.2.2.2.1) ((KVA n).2.2.2.2.2.2.1) ((KVA n).2.2.2.2.2.2.2)) d _ _
    exact sp_gbehind (g7 (by omega)) (fun h => (up h).1 (by omega)) (by omega) (by omega)
  · show SPE (wk_X3_primary ((KVA n).1) ((KVA n).2.1) ((KVA n).2.2.1) ((KVA n).2.2.2.1) ((KVA n).2.2.2.2.1) ((KVA n).2.2.2.2.2.1) ((KVA n).2.2.2.2.2.2.1) ((KVA n).2.2.2.2.2.2.2)) d _ _
    exact sp_gprimary (g8 (by omega)) (fun h => (up h).1 (by omega)) (by omega) (by omega) (by omega)
  · show SPC (wk_X3_call ((KVA n).1) ((KVA n).2.1) ((KVA n).2.2.1) ((KVA n).2.2.2.1) ((KVA n).2.2.2.2.1) ((KVA n).2.2.2.2.2.1) ((KVA n).2.2.2.2.2.2.1) ((KVA n).2.2.2.2.2.2.2)) d _ _
    exact sp_gcall (fun h => (up h).1 (by omega)) (by omega) (by omega) (by omega)
theorem efk_all : ∀ n, EFk n
  | 0 => efk_0
  | n + 1 => efk_s (efk_all n)
theorem spg_expr : SPE wkG_expression 1 0 0 := (efk_all 240 1 (by decide) (by decide)).1 (by decide)
