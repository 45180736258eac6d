/-! both sides: statements -/
def CDq (w s : St) : Prop := (∀ c, [1, 13, 14, 15, 25, 26, 27, 28, 38, 39, 40, 41, 42, 44].contains c = true → s c = w c) ∧ s 6 15 = w 6 15 ∧ s 6 7 = w 6 7 ∧ s 5 1 = w 5 1 ∧ s 6 5 = w 6 5 ∧ s 5 7 = w 5 7
def DDq (a b : St) : Prop := (∀ c, [1, 2, 3, 4, 6, 9, 10, 11, 12, 13, 14, 15, 16, 17, 18, 19, 20, 21, 22, 31, 32, 34, 35].contains c = true → b c = a c) ∧ b 0 35 = a 0 35 ∧ b 0 36 = a 0 36 ∧ b 0 53 = a 0 53 ∧ b 0 37 = a 0 37 ∧ b 0 31 = a 0 31
section RLW
variable {w s r σ σ' : St} {kd : Nat → Int} {n S m lo : Nat} {fs : List (Nat × Nat)} {cs : List Nat}
theorem cd_rf : CDq w w := ⟨fun _ _ => rfl, rfl, rfl, rfl, rfl, rfl⟩
theorem cd_tr (h : CDq w s) (g : CDq s r) : CDq w r := ⟨fun c hc => (g.1 c hc).trans (h.1 c hc), g.2.1.trans h.2.1, g.2.2.1.trans h.2.2.1, g.2.2.2.1.trans h.2.2.2.1, g.2.2.2.2.1.trans h.2.2.2.2.1, g.2.2.2.2.2.trans h.2.2.2.2.2⟩
theorem dd_rf : DDq σ σ := ⟨fun _ _ => rfl, rfl, rfl, rfl, rfl, rfl⟩
theorem dd_tr (h : DDq σ s) (g : DDq s r) : DDq σ r := ⟨fun c hc => (g.1 c hc).trans (h.1 c hc), g.2.1.trans h.2.1, g.2.2.1.trans h.2.2.1, g.2.2.2.1.trans h.2.2.2.1, g.2.2.2.2.1.trans h.2.2.2.2.1, g.2.2.2.2.2.trans h.2.2.2.2.2⟩
theorem cd_lt : ∀ c, [1, 13, 14, 15, 25, 26, 27, 28, 38, 39, 40, 41, 42, 44].contains c = true → c < 47 := by
  intro c h
  simp only [List.contains_cons, List.contains_nil, Bool.or_false, Bool.or_eq_true, beq_iff_eq] at h
  omega
theorem cd_ko (h : Ko fs cs w s) (h1 : cs.all (fun c => ![1, 13, 14, 15, 25, 26, 27, 28, 38, 39, 40, 41, 42, 44].contains c && c != 5 && c != 6) = true) (h2 : fs.all (fun f => ![1, 13, 14, 15, 25, 26, 27, 28, 38, 39, 40, 41, 42, 44].contains f.1 && f != (6, 15) && f != (6, 7) && f != (5, 1) && f != (6, 5) && f != (5, 7)) = true) : CDq w s := by
  rw [List.all_eq_true] at h1 h2
  have nc : ∀ c, [1, 13, 14, 15, 25, 26, 27, 28, 38, 39, 40, 41, 42, 44].contains c = true → cs.contains c = false := fun c hc => by
    cases e : cs.contains c with
    | false => rfl
    | true =>
      have := h1 c (List.contains_iff_mem.mp e)
      simp only [Bool.and_eq_true, Bool.not_eq_true'] at this
      rw [this.1.1] at hc
      cases hc
  have nf : ∀ c j, [1, 13, 14, 15, 25, 26, 27, 28, 38, 39, 40, 41, 42, 44].contains c = true → fs.contains (c, j) = false := fun c j hc => by
    cases e : fs.contains (c, j) with
    | false => rfl
    | true =>
      have := h2 (c, j) (List.contains_iff_mem.mp e)
      simp only [Bool.and_eq_true, Bool.not_eq_true'] at this
      rw [this.1.1.1.1.1] at hc
      cases hc
  have c56 : cs.contains 5 = false ∧ cs.contains 6 = false := by
    constructor
    · cases e : cs.contains 5 with
      | false => rfl
      | true => exact absurd (h1 5 (List.contains_iff_mem.mp e)) (by decide)
    · cases e : cs.contains 6 with
      | false => rfl
      | true => exact absurd (h1 6 (List.contains_iff_mem.mp e)) (by decide)
  have ff : ∀ f, (f = (6, 15) ∨ f = (6, 7) ∨ f = (5, 1) ∨ f = (6, 5) ∨ f = (5, 7)) → fs.contains f = false := fun f hf => by
    cases e : fs.contains f with
    | false => rfl
    | true =>
      have := h2 f (List.contains_iff_mem.mp e)
      rcases hf with rfl | rfl | rfl | rfl | rfl <;> exact absurd this (by decide)
  exact ⟨fun c hc => funext (fun j => h c j (op_lt (cd_lt c hc)) (nf c j hc) (nc c hc)), h 6 15 (op_lt (by omega)) (ff _ (Or.inl rfl)) c56.2, h 6 7 (op_lt (by omega)) (ff _ (Or.inr (Or.inl rfl))) c56.2, h 5 1 (op_lt (by omega)) (ff _ (Or.inr (Or.inr (Or.inl rfl)))) c56.1, h 6 5 (op_lt (by omega)) (ff _ (Or.inr (Or.inr (Or.inr (Or.inl rfl))))) c56.2, h 5 7 (op_lt (by omega)) (ff _ (Or.inr (Or.inr (Or.inr (Or.inr rfl))))) c56.1⟩
theorem re_cd (h : REq kd n S m lo w σ) (k : CDq w s) (r : DDq σ σ') : REq kd n S m lo s σ' := by
  obtain ⟨k0, f1, f2, f3, f4, f5⟩ := k
  obtain ⟨r0, e1, e2, e3, e4, e5⟩ := r
  have c1 := k0 1 rfl
  have c13 := k0 13 rfl
  have c14 := k0 14 rfl
  have c15 := k0 15 rfl
  have c25 := k0 25 rfl
  have c26 := k0 26 rfl
  have c27 := k0 27 rfl
  have c28 := k0 28 rfl
  have c38 := k0 38 rfl
  have c39 := k0 39 rfl
  have c40 := k0 40 rfl
  have c41 := k0 41 rfl
  have c42 := k0 42 rfl
  have c44 := k0 44 rfl
  have g1 := r0 1 rfl
  have g2 := r0 2 rfl
  have g3 := r0 3 rfl
  have g4 := r0 4 rfl
  have g6 := r0 6 rfl
  have g9 := r0 9 rfl
  have g10 := r0 10 rfl
  have g11 := r0 11 rfl
  have g12 := r0 12 rfl
  have g13 := r0 13 rfl
  have g14 := r0 14 rfl
  have g15 := r0 15 rfl
  have g16 := r0 16 rfl
  have g17 := r0 17 rfl
  have g18 := r0 18 rfl
  have g19 := r0 19 rfl
  have g20 := r0 20 rfl
  have g21 := r0 21 rfl
  have g22 := r0 22 rfl
  have g31 := r0 31 rfl
  have g32 := r0 32 rfl
  have g34 := r0 34 rfl
  have g35 := r0 35 rfl
  clear k0 r0
  unfold REq TKR LOR OUR ORR TYR RTk TNm FLq NSm EOKm otk mtk at h ⊢
  rw [c1, c13, c14, c15, c25, c26, c27, c28, c38, c39, c40, c41, c42, c44, f1, f2, f3, f4, f5, g1, g2, g3, g4, g6, g9, g10, g11, g12, g13, g14, g15, g16, g17, g18, g19, g20, g21, g22, g31, g32, g34, g35, e1, e2, e3, e4, e5]
  exact h
theorem rgm_dd (h : RGm kd n S m lo σ) (r : DDq σ σ') (f : 0 ≤ (σ' 0 12).toInt) : RGm kd n S m lo σ' := by
  obtain ⟨r0, e1, e2, e3, e4, e5⟩ := r
  have g1 := r0 1 rfl
  have g2 := r0 2 rfl
  have g3 := r0 3 rfl
  have g4 := r0 4 rfl
  have g6 := r0 6 rfl
  have g9 := r0 9 rfl
  have g10 := r0 10 rfl
  have g15 := r0 15 rfl
  have g16 := r0 16 rfl
  have g18 := r0 18 rfl
  have g19 := r0 19 rfl
  have g22 := r0 22 rfl
  have g31 := r0 31 rfl
  have g34 := r0 34 rfl
  have g35 := r0 35 rfl
  clear r0
  obtain ⟨h1, h2, h3, h4, h5, h6, h7, h8, h9, h10, h11, h12⟩ := h
  unfold RGm
  unfold RTk TNm LOKm EOKm mtk TNm at *
  rw [g2, g3, g4, g6, g9, g10, g15, g16, g18, g19, g22, g31, g34, g35, e1, e2, e3, e4, e5]
  exact ⟨h1, h2, h3, h4, h5, h6, h7, h8, h9, h10, h11, f⟩
theorem dd_k {a b : St} (h : Kp fs cs a b) (h1 : cs.all (fun c => ![1, 2, 3, 4, 6, 9, 10, 11, 12, 13, 14, 15, 16, 17, 18, 19, 20, 21, 22, 31, 32, 34, 35].contains c && c != 0) = true) (h2 : fs.all (fun f => ![1, 2, 3, 4, 6, 9, 10, 11, 12, 13, 14, 15, 16, 17, 18, 19, 20, 21, 22, 31, 32, 34, 35].contains f.1 && f != (0, 35) && f != (0, 36) && f != (0, 53) && f != (0, 37) && f != (0, 31)) = true) : DDq a b := by
  rw [List.all_eq_true] at h1 h2
  have nc : ∀ c, [1, 2, 3, 4, 6, 9, 10, 11, 12, 13, 14, 15, 16, 17, 18, 19, 20, 21, 22, 31, 32, 34, 35].contains c = true → cs.contains c = false := fun c hc => by
    cases e : cs.contains c with
    | false => rfl
    | true =>
      have := h1 c (List.contains_iff_mem.mp e)
      simp only [Bool.and_eq_true, Bool.not_eq_true'] at this
      rw [this.1] at hc
      cases hc
  have nf : ∀ c j, [1, 2, 3, 4, 6, 9, 10, 11, 12, 13, 14, 15, 16, 17, 18, 19, 20, 21, 22, 31, 32, 34, 35].contains c = true → fs.contains (c, j) = false := fun c j hc => by
    cases e : fs.contains (c, j) with
    | false => rfl
    | true =>
      have := h2 (c, j) (List.contains_iff_mem.mp e)
      simp only [Bool.and_eq_true, Bool.not_eq_true'] at this
      rw [this.1.1.1.1.1] at hc
      cases hc
  have c0 : cs.contains 0 = false := by
    cases e : cs.contains 0 with
    | false => rfl
    | true => exact absurd (h1 0 (List.contains_iff_mem.mp e)) (by decide)
  have ff : ∀ f, (f = (0, 35) ∨ f = (0, 36) ∨ f = (0, 53) ∨ f = (0, 37) ∨ f = (0, 31)) → fs.contains f = false := fun f hf => by
    cases e : fs.contains f with
    | false => rfl
    | true =>
      have := h2 f (List.contains_iff_mem.mp e)
      rcases hf with rfl | rfl | rfl | rfl | rfl <;> exact absurd this (by decide)
  exact ⟨fun c hc => funext (fun j => h c j (nf c j hc) (nc c hc)), h 0 35 (ff _ (Or.inl rfl)) c0, h 0 36 (ff _ (Or.inr (Or.inl rfl))) c0, h 0 53 (ff _ (Or.inr (Or.inr (Or.inl rfl)))) c0, h 0 37 (ff _ (Or.inr (Or.inr (Or.inr (Or.inl rfl))))) c0, h 0 31 (ff _ (Or.inr (Or.inr (Or.inr (Or.inr rfl))))) c0⟩
end RLW
