/-! initials: what fits, both sides -/
section SUI
variable {w s σ τ t : St} {vs z : List Nat} {u : Nat} {a : Int32} {k ty h zz f i K T H Z F : Int} {x : Int32}
/-- an initial outside of functions -/
def INm (a T Z F : Int) : Prop := (a ≠ 0 ∧ (Z ≠ 0 ∨ (F = 2 ∧ T = a))) ∨ (a = 0 ∧ F = 1 ∧ T = 0)
theorem mr_isInitial {Q : Int32 → Prop} (hA : MVq τ u k ty h zz f x i) (kk : ∀ v : Int32, (v = 0 ∨ v = 1) → (v.toInt ≠ 0 ↔ INm a.toInt ty zz f) → Q v) : pp_isInitial u a σ τ vs Q := by
  have hA' := hA
  obtain ⟨m1, m0, m3, m5, m6, m7, m2⟩ := hA
  have y1 : INm a.toInt ty zz f → Q 1 := fun h => kk 1 (Or.inr rfl) ⟨fun _ => h, fun _ => by decide⟩
  have y0 : ¬ INm a.toInt ty zz f → Q 0 := fun h => kk 0 (Or.inl rfl) ⟨fun hx => absurd rfl hx, fun hx => absurd hx h⟩
  unfold pp_isInitial
  rw [m5, m6, m0]
  refine ⟨fun c _ => ⟨fun c1 => y1 (Or.inl ⟨c, Or.inl c1⟩), fun c1 => ⟨fun c2 => y0 ?_, fun c2 => ⟨fun c3 => y0 ?_, fun c3 => y1 (Or.inl ⟨c, Or.inr ⟨c2, c3⟩⟩)⟩⟩⟩, fun c _ => ⟨fun c1 => y0 ?_, fun c1 => mr_isInt hA' (fun c2 => ⟨fun hx => absurd hx (by decide), fun _ => y1 (Or.inr ⟨c, c1, c2⟩)⟩) (fun c2 => ⟨fun _ => y0 ?_, fun hx => absurd rfl hx⟩)⟩⟩
  · rintro (⟨_, h | h⟩ | h)
    · exact h c1
    · exact c2 h.1
    · exact c h.1
  · rintro (⟨_, h | h⟩ | h)
    · exact h c1
    · exact c3 h.2
    · exact c h.1
  · rintro (h | h)
    · exact h.1 c
    · exact c1 h.2.1
  · rintro (h | h)
    · exact h.1 c
    · exact c2 h.2.2
theorem su_local (ha : 0 ≤ (w 8 11).toInt) (h9 : (w 8 9).toInt ≠ 0) : SUq w T Z F ↔ T = (w 8 11).toInt ∨ (0 < (w 8 11).toInt ∧ Z ≠ 0) := by
  unfold SUq
  constructor
  · rintro ⟨h | h, _⟩
    · exact Or.inl h.1
    · exact Or.inr h
  · rintro (h | h)
    · exact ⟨Or.inl ⟨h, by omega⟩, Or.inl h9⟩
    · exact ⟨Or.inr h, Or.inl h9⟩
theorem su_global (hv : VRq K T H Z F) (h2 : T ≠ -2) (ha : 0 ≤ (w 8 11).toInt) (h9 : (w 8 9).toInt = 0) : SUq w T Z F ↔ INm (w 8 11).toInt T Z F := by
  obtain ⟨_, _, _, v4, v5, v6, v7, _⟩ := hv
  unfold SUq INm
  constructor
  · rintro ⟨h, h9' | hF⟩
    · exact absurd h9 h9'
    · by_cases c : (w 8 11).toInt = 0
      · rcases h with h | h
        · refine Or.inr ⟨c, ?_, by omega⟩
          by_cases f1 : F = 1
          · exact f1
          · have f2 : F = 2 := by omega
            have := v6 f2
            omega
        · omega
      · refine Or.inl ⟨c, ?_⟩
        rcases h with h | h
        · by_cases f2 : F = 2
          · exact Or.inr ⟨f2, h.1⟩
          · have f1 : F = 1 := by omega
            have := v5 f1
            omega
        · exact Or.inl h.2
  · rintro (⟨c, h | h⟩ | ⟨c, h1, h3⟩)
    · exact ⟨Or.inr ⟨by omega, h⟩, Or.inr (by rw [v4 h]; decide)⟩
    · exact ⟨Or.inl ⟨h.2, by omega⟩, Or.inr (by rw [h.1]; decide)⟩
    · exact ⟨Or.inl ⟨by omega, by omega⟩, Or.inr (by rw [h1]; decide)⟩
end SUI
