/-! the expressions' group -/
def NE (d : Int) : Nat := (20 * (26 - d) + 1).toNat
theorem sx_le {K : KX} {d : Int} {N N' : Nat} (h : SX K d N) (hN : N ≤ N') : SX K d N' := fun a σ τ vs Q T had hP hB kQ kT => h a σ τ vs Q T had hP hB (fun u s t z r => kQ u s t z ⟨r.1, r.2.1, r.2.2.1, r.2.2.2.1, r.2.2.2.2.1, r.2.2.2.2.2.1, r.2.2.2.2.2.2.1, te_le r.2.2.2.2.2.2.2 hN⟩) kT
theorem sxd_le {K : Int32 → Nat → Int32 → KX} {o d : Int} {N N' : Nat} (h : SXd K o d N) (hN : N ≤ N') : SXd K o d N' := fun op v tk a σ τ vs Q T h1 h2 h3 h4 h5 h6 h7 h8 kQ kT => h op v tk a σ τ vs Q T h1 h2 h3 h4 h5 h6 h7 h8 (fun u s t z r => kQ u s t z ⟨r.1, r.2.1, r.2.2.1, r.2.2.2.1, r.2.2.2.2.1, r.2.2.2.2.2.1, r.2.2.2.2.2.2.1, te_le r.2.2.2.2.2.2.2 hN⟩) kT
theorem sxc_le {K : Int32 → KX} {d : Int} {N N' : Nat} (h : SXc K d N) (hN : N ≤ N') : SXc K d N' := fun tk a σ τ vs Q T h1 h2 h3 h4 h5 kQ kT => h tk a σ τ vs Q T h1 h2 h3 h4 h5 (fun u s t z r => kQ u s t z ⟨r.1, r.2.1, r.2.2.1, r.2.2.2.1, r.2.2.2.2.1, r.2.2.2.2.2.1, r.2.2.2.2.2.2.1, te_le r.2.2.2.2.2.2.2 hN⟩) kT
/-- at so much fuel -/
def EF (n : Nat) : Prop := ∀ d : Int, 1 ≤ d → d ≤ 25 →
  (39 + 40 * (25 - d) < n → SX (KKE n).1 d (NE d)) ∧
  (38 + 40 * (25 - d) < n → SX (KKE n).2.1 d (NE d)) ∧
  (∀ l : Int, 1 ≤ l → l ≤ 11 → 31 - 2 * l + 40 * (25 - d) < n → SXb (KKE n).2.2.1 l d (NE (d + 1) + 8 + (13 - l).toNat)) ∧
  (∀ o : Int, o = 10 ∨ o = 11 → 30 - 2 * rkf o + 40 * (25 - d) < n → SXd (KKE n).2.2.2.1 o d (NE (d + 1) + 8 + (13 - rkf o).toNat)) ∧
  (7 + 40 * (25 - d) < n → SX (KKE n).2.2.2.2.1 d (NE (d + 1) + 8)) ∧
  (6 + 40 * (25 - d) < n → SX (KKE n).2.2.2.2.2.1 d (NE (d + 1) + 8)) ∧
  (5 + 40 * (25 - d) < n → SX (KKE n).2.2.2.2.2.2.1 d (NE (d + 1) + 8)) ∧
  (4 + 40 * (25 - d) < n → SXc (KKE n).2.2.2.2.2.2.2 d (NE (d + 1) + 8))
theorem ef_0 : EF 0 := fun d h1 h2 => by
  refine ⟨fun h => ?_, fun h => ?_, fun l l1 l2 h => ?_, fun o ho h => ?_, fun h => ?_, fun h => ?_, fun h => ?_, fun h => ?_⟩
  any_goals omega
  have := rkf_rng o
  omega
theorem rk10 : rkf 10 = 1 := by unfold rkf; rfl
theorem rk11 : rkf 11 = 2 := by unfold rkf; rfl
theorem ne_s {d : Int} (h1 : 1 ≤ d) (h2 : d ≤ 25) : NE d = NE (d + 1) + 20 ∧ 1 ≤ NE (d + 1) := by
  unfold NE
  omega
theorem ef_s {n : Nat} (ih : EF n) : EF (n + 1) := fun d h1 h2 => by
  obtain ⟨g1, g2, g3, g4, g5, g6, g7, g8⟩ := ih d h1 h2
  have up : d + 1 ≤ 25 → _ := fun h => ih (d + 1) (by omega) h
  obtain ⟨e1, e2⟩ := ne_s h1 h2
  have eE : 40 * (25 - d) - 1 < (n : Int) → d + 1 ≤ 25 → SX (KKE n).1 (d + 1) (NE (d + 1)) := fun hn h => (up h).1 (by omega)
  have eC : 40 * (25 - d) - 2 < (n : Int) → d + 1 ≤ 25 → SX (KKE n).2.1 (d + 1) (NE (d + 1)) := fun hn h => (up h).2.1 (by omega)
  refine ⟨fun hn => ?_, fun hn => ?_, fun l l1 l2 hn => ?_, fun o ho hn => ?_, fun hn => ?_, fun hn => ?_, fun hn => ?_, fun hn => ?_⟩
  · show SX (wp_expression ((KKE n).1) ((KKE n).2.1) ((KKE n).2.2.1) ((KKE n).2.2.2.1) ((KKE n).2.2.2.2.1) ((KKE n).2.2.2.2.2.1) ((KKE n).2.2.2.2.2.2.1) ((KKE n).2.2.2.2.2.2.2)) d _
    exact sp_expression ⟨h1, h2⟩ (g2 (by omega)) (eE (by omega)) e2 (by omega)
  · show SX (wp_choice ((KKE n).1) ((KKE n).2.1) ((KKE n).2.2.1) ((KKE n).2.2.2.1) ((KKE n).2.2.2.2.1) ((KKE n).2.2.2.2.2.1) ((KKE n).2.2.2.2.2.2.1) ((KKE n).2.2.2.2.2.2.2)) d _
    refine sp_choice ⟨h1, h2⟩ ?_ (eE (by omega)) (eC (by omega)) e2 (by omega)
    have := g3 1 (by omega) (by omega) (by omega)
    rw [e1]
    exact this
  · show SXb (wp_binary ((KKE n).1) ((KKE n).2.1) ((KKE n).2.2.1) ((KKE n).2.2.2.1) ((KKE n).2.2.2.2.1) ((KKE n).2.2.2.2.2.1) ((KKE n).2.2.2.2.2.2.1) ((KKE n).2.2.2.2.2.2.2)) l d _
    refine sp_binary (M := NE (d + 1) + 8 + (12 - l).toNat) ⟨l1, l2⟩ (sx_le (g5 (by omega)) (by omega)) (fun o ho hlo => ?_) (fun l' hl hl' => ?_) (by omega) (by omega) (by omega)
    · refine sxd_le (g4 o ho (by omega)) ?_
      omega
    · intro l2' hl2'
      exact sx_le (g3 (l' + 1) (by omega) (by omega) (by omega) l2' hl2') (by omega)
  · show SXd (wp_decided ((KKE n).1) ((KKE n).2.1) ((KKE n).2.2.1) ((KKE n).2.2.2.1) ((KKE n).2.2.2.2.1) ((KKE n).2.2.2.2.2.1) ((KKE n).2.2.2.2.2.2.1) ((KKE n).2.2.2.2.2.2.2)) o d _
    have hr : rkf o = 1 ∨ rkf o = 2 := by
      rcases ho with rfl | rfl
      · exact Or.inl rk10
      · exact Or.inr rk11
    refine sp_decided (M := NE (d + 1) + 8 + (12 - rkf o).toNat) ho ?_ (by omega) (by omega)
    have := g3 (rkf o + 1) (by omega) (by omega) (by omega)
    have e9 : (13 - (rkf o + 1)).toNat = (12 - rkf o).toNat := by omega
    rw [e9] at this
    exact this
  · show SX (wp_unary ((KKE n).1) ((KKE n).2.1) ((KKE n).2.2.1) ((KKE n).2.2.2.1) ((KKE n).2.2.2.2.1) ((KKE n).2.2.2.2.2.1) ((KKE n).2.2.2.2.2.2.1) ((KKE n).2.2.2.2.2.2.2)) d _
    refine sp_unary (M := NE (d + 1) + 8) ⟨h1, h2⟩ (fun h => ?_) (g6 (by omega)) (by omega) (Nat.le_refl _)
    have e3 := ne_s (d := d + 1) (by omega) h
    exact sx_le ((up h).2.2.2.2.1 (by omega)) (by omega)
  · show SX (wp_behind ((KKE n).1) ((KKE n).2.1) ((KKE n).2.2.1) ((KKE n).2.2.2.1) ((KKE n).2.2.2.2.1) ((KKE n).2.2.2.2.2.1) ((KKE n).2.2.2.2.2.2.1) ((KKE n).2.2.2.2.2.2.2)) d _
    exact sp_behind ⟨h1, h2⟩ (g7 (by omega)) (eE (by omega)) e2 (by omega)
  · show SX (wp_primary ((KKE n).1) ((KKE n).2.1) ((KKE n).2.2.1) ((KKE n).2.2.2.1) ((KKE n).2.2.2.2.1) ((KKE n).2.2.2.2.2.1) ((KKE n).2.2.2.2.2.2.1) ((KKE n).2.2.2.2.2.2.2)) d _
    exact sp_primary ⟨h1, h2⟩ (eE (by omega)) (g8 (by omega)) e2 (by omega)
  · show SXc (wp_call_0 ((KKE n).1) ((KKE n).2.1) ((KKE n).2.2.1) ((KKE n).2.2.2.1) ((KKE n).2.2.2.2.1) ((KKE n).2.2.2.2.2.1) ((KKE n).2.2.2.2.2.2.1) ((KKE n).2.2.2.2.2.2.2)) d _
    exact sp_call ⟨h1, h2⟩ (eE (by omega)) e2 (by omega)
theorem ef_all (n : Nat) : EF n := by
  induction n with
  | zero => exact ef_0
  | succ n ih => exact ef_s ih
/-- an expression of a statement, of an initial, of a size -/
theorem sx_expr : SX wpE_expression 1 501 := (ef_all 1100 1 (by omega) (by omega)).1 (by omega)
