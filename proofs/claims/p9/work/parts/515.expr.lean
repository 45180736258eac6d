/-! expressions -/
abbrev KX : Type := Int32 → St → St → List Nat → (Nat → St → St → List Nat → Prop) → (St → St → List Nat → Prop) → Prop
def NB (σ : St) (vs : List Nat) : Prop := (σ 0 17).toInt + 40 * ((σ 0 9).toInt - pos σ) ≤ 410000 ∧ (σ 0 39).toInt + 12 * ((σ 0 9).toInt - pos σ) ≤ 130000 ∧ (vs.length : Int) + 2 * ((σ 0 9).toInt - pos σ) ≤ 23000
def RE (σ τ : St) (vs : List Nat) (N a : Nat) (u : Nat) (s t : St) (z : List Nat) : Prop := RL σ vs s t z ∧ VFr τ vs t ∧ (u ∈ z ∧ u ∉ vs) ∧ ((t u 1).toInt = 1 → (t u 2).toInt < (s 0 49).toInt) ∧ (s 0 17).toInt + 20 ≤ (σ 0 17).toInt + 40 * (pos s - pos σ) ∧ (s 0 39).toInt + 6 ≤ (σ 0 39).toInt + 12 * (pos s - pos σ) ∧ (z.length : Int) ≤ vs.length + 2 * (pos s - pos σ) ∧ TE σ s N a (ev t u)
def SX (K : KX) (d : Int) (N : Nat) : Prop := ∀ (a : Int32) (σ τ : St) (vs : List Nat) (Q : Nat → St → St → List Nat → Prop) (T : St → St → List Nat → Prop), a.toInt = d → PA σ τ → NB σ vs → (∀ u s t z, RE σ τ vs N 0 u s t z → Q u s t z) → (∀ s t z, RTx σ vs s t z → T s t z) → K a σ τ vs Q T
section EXPR
variable {σ s s' τ t t' : St} {vs z z' : List Nat}
theorem rl_sz (r : RL σ vs s t z) : (s 0 9).toInt = (σ 0 9).toInt := by rw [r.1 0 9 rfl rfl]
theorem rl_sil (r : RL σ vs s t z) : (s 0 15) = (σ 0 15) := r.1 0 15 rfl rfl
theorem rl_loc (r : RL σ vs s t z) : (s 0 49) = (σ 0 49) := r.1 0 49 rfl rfl
theorem rl_tok (r : RL σ vs s t z) : (s 0 8) = (σ 0 8) := r.1 0 8 rfl rfl
theorem rl_wcn (r : RL σ vs s t z) (h0 : 0 ≤ (σ 0 17).toInt) : wcn σ ≤ wcn s := by
  have e1 : (wcn σ : Int) = (σ 0 17).toInt := nt h0
  have h := r.2.2.2.2.2.1
  have e2 : (wcn s : Int) = (s 0 17).toInt := nt (by omega)
  omega
theorem te_rl {N a b c : Nat} (h0 : 0 ≤ (σ 0 17).toInt) (r : RL σ vs s t z) (r2 : RL s z s' t' z') (h : TE σ s N a b) (h2 : TE s s' N b c) : TE σ s' N a c := te_tr h h2 (rl_wcn r h0) r2.2.2.2.2.1 (rl_sil r2)
theorem nb_of (h : NB σ vs) (r : RL σ vs s t z) (hw : (s 0 17).toInt ≤ (σ 0 17).toInt + 40 * (pos s - pos σ)) (hi : (s 0 39).toInt ≤ (σ 0 39).toInt + 12 * (pos s - pos σ)) (hz : (z.length : Int) ≤ vs.length + 2 * (pos s - pos σ)) : NB s z := by
  obtain ⟨h1, h2, h3⟩ := h
  have e := rl_sz r
  unfold NB
  rw [e]
  exact ⟨by omega, by omega, by omega⟩
theorem nb_cap (h : NB σ vs) (p : PA σ τ) : vs.length < CAP ∧ (σ 0 17).toInt ≤ 410000 ∧ (σ 0 39).toInt ≤ 130000 := by
  have q := pos_in p.1 p.2.1
  obtain ⟨h1, h2, h3⟩ := h
  have : CAP = 24000 := rfl
  omega
theorem rl_val {q : Nat} (r : RL σ vs s t z) (v : VNw t q t') : RL σ vs s t' (z ++ [q]) := by
  obtain ⟨h1, h2, h3, h4, h5, h6, h7, h8, h9, h10, h11⟩ := r
  exact ⟨h1, ⟨h2.1, h2.2.1, h2.2.2.1, h2.2.2.2.1, vok_vnw h2.2.2.2.2 v⟩, h3, h4, h5, h6, h7, h8, fun u hu => by simp [h9 u hu], by simp; omega, h11⟩
/-- t forgets how of u -/
theorem rl_how {u : Nat} (r : RL σ vs s t z) : RL σ vs s (upC t u 1 (0 : Int32)) z := by
  obtain ⟨h1, h2, h3, h4, h5, h6, h7, h8, h9, h10, h11⟩ := r
  exact ⟨h1, ⟨h2.1, h2.2.1, h2.2.2.1, h2.2.2.2.1, vok_how h2.2.2.2.2⟩, h3, h4, h5, h6, h7, h8, h9, h10, h11⟩
theorem how_f {u w f : Nat} {v : Int32} (hf : f ≠ 1) : upC t u 1 v w f = t w f := by
  rw [rdC, if_neg hf]
  by_cases e : w = u
  · rw [if_pos e, e]
  · rw [if_neg e]
theorem vfr_how {u : Nat} {v : Int32} (h : VFr τ vs t) (hu : u ∉ vs) : VFr τ vs (upC t u 1 v) := fun w hw => by
  rw [← h w hw]
  show upF t u _ w = t w
  exact upF_ne (fun e => hu (e ▸ hw))
theorem vfr_tr (h : VFr τ vs t) (hz : ∀ u ∈ vs, u ∈ z) (g : VFr t z t') : VFr τ vs t' := fun w hw => (g w (hz w hw)).trans (h w hw)
/-- an expression, and its value comes onto the stack -/
theorem re_read {u N a : Nat} {s2 : St} (h : PA σ τ) (r : RE σ τ vs N a u s t z) (p : RDx s t u s2) (hN : 1 ≤ N) : RL σ vs s2 (upC t u 1 (0 : Int32)) z ∧ VFr τ vs (upC t u 1 (0 : Int32)) ∧ (s2 0 17).toInt + 16 ≤ (σ 0 17).toInt + 40 * (pos s2 - pos σ) ∧ (s2 0 39).toInt + 6 ≤ (σ 0 39).toInt + 12 * (pos s2 - pos σ) ∧ (z.length : Int) ≤ vs.length + 2 * (pos s2 - pos σ) ∧ TE σ s2 N a (ev (upC t u 1 (0 : Int32)) u) ∧ pos s2 = pos s ∧ RL s z s2 (upC t u 1 (0 : Int32)) z := by
  obtain ⟨r1, r2, ⟨r3, r4⟩, r5, r6, r7, r8, r9⟩ := r
  have hs := r1.2.1
  obtain ⟨g1, g2, g3, g4⟩ := rd_rl (vs := z) (z := z) hs p (vok_how (u := u) hs.2.2.2.2) (fun _ h => h) (Nat.le_refl _)
  have h0 := h.2.2.1.2.2.2.2.1
  refine ⟨rl_tr r1 g1, vfr_how r2 r4, by rw [g4]; omega, by rw [g3, g4]; omega, by rw [g4]; omega, ?_, g4, g1⟩
  exact te_rl h0 r1 g1 r9 (rd_te hs p hN r5)
theorem sp_read {u : Nat} {Q : St → St → List Nat → Prop} (h : PA s t) (hn : NB s z) (hu : u ∈ z) (k : ∀ s2, RDx s t u s2 → Q s2 (upC t u 1 (0 : Int32)) z) : wp_read_1 u s t z Q := sp_read_0 hu h.2.2.2.2 h.2.2.1.2.2.2.2.1 (by have := (nb_cap hn h).2.1; omega) k
theorem re_nb {u N a : Nat} (h : NB σ vs) (r : RE σ τ vs N a u s t z) : NB s z := nb_of h r.1 (by have := r.2.2.2.2.1; omega) (by have := r.2.2.2.2.2.1; omega) r.2.2.2.2.2.2.1
theorem rt_re {u N a : Nat} (r : RE σ τ vs N a u s t z) (g : RTx s z s' t' z') : RTx σ vs s' t' z' := rt_of r.1 r.2.2.2.2.2.2.1 g
theorem sp_isAssignment {op : Int32} {Q : Int32 → Prop} (h1 : (0 ≤ op.toInt ∧ op.toInt ≤ 9) ∨ op.toInt = 30 → Q 1) (h0 : Q 0) : wp_isAssignment op σ τ vs Q := by
  unfold wp_isAssignment
  exact ⟨True, fun _ => ⟨fun _ => h0, fun c => h1 (Or.inr c)⟩, fun _ => trivial, fun c => ⟨fun c2 => h1 (Or.inl ⟨c, c2⟩), fun _ => trivial⟩⟩
theorem sp_worked {op : Int32} {Q : Int32 → Prop} (h : ∀ r, Q r) : wp_worked op σ τ vs Q := by
  unfold wp_worked
  iterate 9 refine ⟨fun _ => h _, fun _ => ?_⟩
  exact ⟨fun _ => h _, fun _ => h _⟩
end EXPR
