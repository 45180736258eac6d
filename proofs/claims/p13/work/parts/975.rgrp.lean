/-! the reference's expressions: what is wanted and what is left -/
/-- what the reference wants of its own state -/
def RGm (kd : Nat → Int) (n S m lo : Nat) (σ : St) : Prop := RTk σ kd n ∧ (∀ p, p ≤ n → kd p = 2 → TNm σ p) ∧ (∀ p, p ≤ n → kd p = 4 → 0 ≤ (σ 6 p).toInt ∧ (σ 6 p).toInt ≤ 16000) ∧ LOKm σ S ∧ EOKm σ lo (lo + m) ∧ m ≤ 100 ∧ ((∀ j, 0 ≤ (σ 31 j).toInt ∧ (σ 31 j).toInt ≤ 10) ∧ ∀ j, j < S → (σ 31 ((σ 35 j).toInt.toNat)).toInt ≤ 8) ∧ (∀ j, -2 ≤ (σ 10 j).toInt ∧ (σ 10 j).toInt ≤ 10) ∧ (∀ j, -1 ≤ (σ 35 j).toInt) ∧ (∀ e : Nat, lo ≤ e → e < lo + m → (((σ 9 e).toInt = 1 → 0 ≤ (σ 10 e).toInt) ∧ (σ 10 e).toInt ≤ 8) ∧ ((σ 9 e).toInt ≠ 1 → ∀ j : Nat, (j : Int) < (σ 15 e).toInt → (σ 16 (8 * e + j)).toInt ≠ -1)) ∧ (∃ D : Nat, (σ 0 37).toInt = (D : Int) ∧ D ≤ 16000) ∧ 0 ≤ (σ 0 12).toInt
/-- told once, told for ever -/
def MNq (a b : St) : Prop := (a 0 12).toInt ≠ 0 → (b 0 12).toInt ≠ 0
/-- operands below: room for what is deeper -/
def ROq (c d k : Nat) : Prop := c + 14 * (25 - d) + k ≤ 470
def rmq (sel k : Nat) : Nat := if sel = 0 then 13 else if sel = 1 then 12 else if sel = 7 then 12 - k else 1
/-- what an expression leaves in the reference -/
def EPq (kd : Nat → Int) (n S m lo sel d k p : Nat) (σ τ : St) (vs : List Nat) (u : Nat) (s t : St) (z : List Nat) : Prop :=
  ∃ (p' : Nat) (l : List Stq), (∀ L, PVq kd sel d k p L (some (p', L ++ l))) ∧ p < p' ∧ GMt s n p' ∧ KEr σ s ∧ MNq σ s ∧ RGm kd n S m lo s ∧ TFq τ vs t z ∧ u ∈ z ∧ u ∉ vs
    ∧ ∃ (K T H Z F I : Int) (X : Int32), MVq t u K T H Z F X I ∧ VRq K T H Z F ∧ H ≤ (p' : Int) - p ∧ ∀ c, ROq c d (rmq sel k) → EXq kd n S m lo c l σ s K T H Z F X
/-- a method of the group: d deep, from p on -/
def ERq (kd : Nat → Int) (n S m lo sel d k p : Nat) (f : St → St → List Nat → (Nat → St → St → List Nat → Prop) → (St → St → List Nat → Prop) → Prop) : Prop :=
  ∀ (σ τ : St) (vs : List Nat) (Q : Nat → St → St → List Nat → Prop) (F : Prop), RGm kd n S m lo σ → GMt σ n p → (∀ u s t z, EPq kd n S m lo sel d k p σ τ vs u s t z → Q u s t z) → ((∀ L, PVq kd sel d k p L none) → F) → f σ τ vs Q (fun _ _ _ => F)
section RGP
variable {w σ σ' s r τ t : St} {kd : Nat → Int} {n S m lo c d k p p' sel u : Nat} {vs z : List Nat}
theorem rgm_k (h : RGm kd n S m lo σ) (hr : KEr σ σ') (hD : ∃ D : Nat, (σ' 0 37).toInt = (D : Int) ∧ D ≤ 16000) (hf : 0 ≤ (σ' 0 12).toInt) : RGm kd n S m lo σ' := by
  obtain ⟨h1, h2, h3, h4, h5, h6, h7, h8, h9, h10, h11, h12⟩ := h
  have g : ∀ i, i ≠ 0 → i ≠ 8 → i ≠ 33 → i ≠ 14 → i ≠ 25 → i ≠ 21 → σ' i = σ i := fun i a1 a2 a3 a4 a5 a6 => funext (fun j => hr i j (by
    simp only [List.contains_cons, List.contains_nil, Bool.or_false, Bool.or_eq_false_iff, beq_eq_false_iff_ne, ne_eq, Prod.mk.injEq, not_and]
    omega) (by
    simp only [List.contains_cons, List.contains_nil, Bool.or_false, Bool.or_eq_false_iff, beq_eq_false_iff_ne, ne_eq]
    omega))
  have g1 := g 1 (by decide) (by decide) (by decide) (by decide) (by decide) (by decide)
  have g3 := g 3 (by decide) (by decide) (by decide) (by decide) (by decide) (by decide)
  have g4 := g 4 (by decide) (by decide) (by decide) (by decide) (by decide) (by decide)
  have g6 := g 6 (by decide) (by decide) (by decide) (by decide) (by decide) (by decide)
  have g10 := g 10 (by decide) (by decide) (by decide) (by decide) (by decide) (by decide)
  have g15 := g 15 (by decide) (by decide) (by decide) (by decide) (by decide) (by decide)
  have g16 := g 16 (by decide) (by decide) (by decide) (by decide) (by decide) (by decide)
  have g18 := g 18 (by decide) (by decide) (by decide) (by decide) (by decide) (by decide)
  have g19 := g 19 (by decide) (by decide) (by decide) (by decide) (by decide) (by decide)
  have g22 := g 22 (by decide) (by decide) (by decide) (by decide) (by decide) (by decide)
  have g31 := g 31 (by decide) (by decide) (by decide) (by decide) (by decide) (by decide)
  have g34 := g 34 (by decide) (by decide) (by decide) (by decide) (by decide) (by decide)
  have g35 := g 35 (by decide) (by decide) (by decide) (by decide) (by decide) (by decide)
  refine ⟨rtk_k hr (fun _ => rfl) rfl h1, ?_, ?_, ?_, ?_, h6, ?_, ?_, ?_, ?_, hD, hf⟩
  · unfold TNm
    rw [g3, g4]
    exact h2
  · rw [g6]; exact h3
  · have em : ∀ j, mtk σ' j = mtk σ j := fun j => by unfold mtk; rw [g34]
    unfold LOKm TNm
    rw [show σ' 0 53 = σ 0 53 from hr 0 53 rfl rfl, g34, g3, g4]
    refine ⟨h4.1, h4.2.1, fun j hj => ?_⟩
    rw [em]
    exact h4.2.2 j hj
  · unfold EOKm
    rw [show σ' 0 35 = σ 0 35 from hr 0 35 rfl rfl, show σ' 0 36 = σ 0 36 from hr 0 36 rfl rfl, g22, g18, g19, show σ' 0 31 = σ 0 31 from hr 0 31 rfl rfl]
    exact h5
  · rw [g31, g35]; exact h7
  · rw [g10]; exact h8
  · rw [g35]; exact h9
  · rw [g15, g16, g 9 (by decide) (by decide) (by decide) (by decide) (by decide) (by decide), g10]; exact h10
theorem ex_src {l : List Stq} {K T H Z F : Int} {X : Int32} (k0 : KPr σ r) (e12 : r 0 12 = σ 0 12) (h : EXq kd n S m lo c l r σ' K T H Z F X) : EXq kd n S m lo c l σ σ' K T H Z F X := by
  have e15 : r 0 15 = σ 0 15 := k0.1 0 15 rfl rfl
  have eB : BDr r σ' F ↔ BDr σ σ' F := by unfold BDr; rw [e15]
  intro h0 w hR hf hc
  have hR' : REq kd n S m lo w r := re_same hR (ste_rf (j := 0)) k0 rfl rfl rfl
  exact xw_mono (h (by rw [e12]; exact h0) w hR' hf hc) (fun s hs => ⟨fun hx => eB.1 (hs.1 hx), hs.2⟩) eB.1
end RGP
