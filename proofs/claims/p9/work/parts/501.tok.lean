/-! the tokenizer -/
def lookV (σ : St) (k : Int32) : Int32 := if k.toInt < (σ 0 9).toInt then ((σ 1) k.toNatClampNeg &&& 255) else -1
theorem sp_look {k : Int32} {σ τ : St} {vs : List Nat} {Q : Int32 → Prop} (h0 : 0 ≤ k.toInt) (hs : (σ 0 9).toInt ≤ 16000) (h : Q (lookV σ k)) : wp_look k σ τ vs Q := by
  unfold wp_look
  refine ⟨fun c => ?_, fun c => ⟨⟨h0, by omega⟩, ?_⟩⟩
  · have e : lookV σ k = -1 := if_neg (by omega)
    rw [e] at h; exact h
  · have e : lookV σ k = ((σ 1) k.toNatClampNeg &&& 255) := if_pos c
    rw [e] at h; exact h
theorem look_lt {σ : St} {k : Int32} (h : lookV σ k ≠ -1) : k.toInt < (σ 0 9).toInt := by
  unfold lookV at h
  by_cases c : k.toInt < (σ 0 9).toInt
  · exact c
  · rw [if_neg c] at h; exact absurd rfl h
theorem look_lt' {σ : St} {k : Int32} (h : (lookV σ k).toInt ≠ -1) : k.toInt < (σ 0 9).toInt := look_lt (fun e => h (by rw [e]; decide))
def bI (p : Prop) [Decidable p] : Int32 := if p then 1 else 0
theorem bI_ne {p : Prop} [Decidable p] (h : (bI p).toInt ≠ 0) : p := by
  unfold bI at h
  by_cases c : p
  · exact c
  · rw [if_neg c] at h; exact absurd rfl h
theorem bI_eq {p : Prop} [Decidable p] (h : (bI p).toInt = 0) : ¬ p := fun c => by
  unfold bI at h
  rw [if_pos c] at h
  exact absurd h (by decide)
theorem bI_t {p : Prop} [Decidable p] (h : p) : bI p = 1 := if_pos h
theorem bI_f {p : Prop} [Decidable p] (h : ¬ p) : bI p = 0 := if_neg h
abbrev isLP (c : Int32) : Prop := (97 ≤ c.toInt ∧ c.toInt ≤ 122) ∨ (65 ≤ c.toInt ∧ c.toInt ≤ 90) ∨ c.toInt = 95
abbrev isDP (c : Int32) : Prop := 48 ≤ c.toInt ∧ c.toInt ≤ 57
abbrev isAP (c : Int32) : Prop := c.toInt = 9 ∨ c.toInt = 10 ∨ c.toInt = 13 ∨ (32 ≤ c.toInt ∧ c.toInt ≤ 126)
abbrev isBP (c : Int32) : Prop := c.toInt = 9 ∨ c.toInt = 10 ∨ c.toInt = 13 ∨ c.toInt = 32
theorem sp_isLetter {c : Int32} {σ τ : St} {vs : List Nat} {Q : Int32 → Prop} (h : Q (bI (isLP c))) : wp_isLetter c σ τ vs Q := by
  have t : isLP c → Q 1 := fun q => by rw [bI_t q] at h; exact h
  have f : ¬ isLP c → Q 0 := fun q => by rw [bI_f q] at h; exact h
  unfold wp_isLetter
  refine ⟨_, id, ?_⟩
  refine ⟨fun q => ⟨_, id, fun _ => ⟨fun _ => f (by omega), fun _ => t (by omega)⟩, fun _ => ⟨fun _ => t (by omega), fun _ => ⟨fun _ => f (by omega), fun _ => t (by omega)⟩⟩⟩, fun q => ⟨fun _ => t (by omega), fun _ => ⟨_, id, fun _ => ⟨fun _ => f (by omega), fun _ => t (by omega)⟩, fun _ => ⟨fun _ => t (by omega), fun _ => ⟨fun _ => f (by omega), fun _ => t (by omega)⟩⟩⟩⟩⟩
theorem sp_isDigit {c : Int32} {σ τ : St} {vs : List Nat} {Q : Int32 → Prop} (h : Q (bI (isDP c))) : wp_isDigit c σ τ vs Q := by
  have t : isDP c → Q 1 := fun q => by rw [bI_t q] at h; exact h
  have f : ¬ isDP c → Q 0 := fun q => by rw [bI_f q] at h; exact h
  unfold wp_isDigit
  exact ⟨fun _ => f (by omega), fun _ => ⟨fun _ => f (by omega), fun _ => t (by omega)⟩⟩
theorem sp_isAllowed {c : Int32} {σ τ : St} {vs : List Nat} {Q : Int32 → Prop} (h : Q (bI (isAP c))) : wp_isAllowed c σ τ vs Q := by
  have t : isAP c → Q 1 := fun q => by rw [bI_t q] at h; exact h
  have f : ¬ isAP c → Q 0 := fun q => by rw [bI_f q] at h; exact h
  unfold wp_isAllowed
  exact ⟨fun _ => t (by omega), fun _ => ⟨fun _ => t (by omega), fun _ => ⟨fun _ => t (by omega), fun _ => ⟨fun _ => f (by omega), fun _ => ⟨fun _ => f (by omega), fun _ => t (by omega)⟩⟩⟩⟩⟩
theorem sp_isBlank {c : Int32} {σ τ : St} {vs : List Nat} {Q : Int32 → Prop} (h : Q (bI (isBP c))) : wp_isBlank c σ τ vs Q := by
  have t : isBP c → Q 1 := fun q => by rw [bI_t q] at h; exact h
  have f : ¬ isBP c → Q 0 := fun q => by rw [bI_f q] at h; exact h
  unfold wp_isBlank
  exact ⟨fun _ => t (by omega), fun _ => ⟨fun _ => t (by omega), fun _ => ⟨fun _ => t (by omega), fun _ => ⟨fun _ => f (by omega), fun _ => t (by omega)⟩⟩⟩⟩
