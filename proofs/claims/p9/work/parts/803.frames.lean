/-! the machine: frames, and where it stands -/
abbrev KMm (a b : St) : Prop := Kp [(12, 7), (12, 8), (12, 9), (12, 10), (12, 11), (12, 13), (12, 14), (12, 15), (12, 16), (12, 17), (11, 1), (11, 2)] [60, 61, 62, 63, 64] a b
/-- what a call may be aimed at -/
def CPI (κ : St) (Fs : Nat → Nat → Prop) (a : Int) (m : Nat) : Prop := (0 ≤ a ∧ a < 10100) ∧ ((((κ 59) a.toNat).toInt = -1 ∧ m = 0) ∨ (((κ 59) a.toNat).toInt < -1 ∧ -4 ≤ ((κ 59) a.toNat).toInt ∧ m = 1) ∨ ∃ hd : Nat, ((κ 59) a.toNat).toInt = hd ∧ Fs hd m)
def LKf (κ : St) (Fs : Nat → Nat → Prop) (N : Nat) : Prop := N ≤ 262150 ∧ ∀ hd n, Fs hd n → ∃ L g, FUNc (κ 24) (CPI κ Fs) N hd n L g
def FRM (κ σ : St) (Fs : Nat → Nat → Prop) (N : Nat) : Nat → Int → Int → Prop
  | 0, _, _ => False
  | 1, loc, fr => loc = 8 ∧ fr ≤ 32736
  | c + 2, loc, fr => ∃ (hd n L : Nat) (g : Gh) (pc h k : Nat) (l0 f0 : Int), FUNc (κ 24) (CPI κ Fs) N hd n L g ∧ ((σ 64) (3 * (c + 1))).toInt = pc ∧ ((σ 64) (3 * (c + 1) + 1)).toInt = l0 ∧ ((σ 64) (3 * (c + 1) + 2)).toInt = f0 ∧ g pc = some (h, k) ∧ 1 ≤ h ∧ loc = l0 + L + h - 1 ∧ fr ≤ f0 - 32 ∧ FRM κ σ Fs N (c + 1) l0 f0
/-- it stands before an instruction of a function -/
def CTx (κ σ : St) (Fs : Nat → Nat → Prop) (N c hd n L : Nat) (g : Gh) (pc h k : Nat) : Prop :=
  KMm κ σ ∧ (σ 12 13) = -1 ∧ (σ 12 7).toInt = c ∧ 1 ≤ c ∧ FRM κ σ Fs N c (σ 12 10).toInt (σ 12 11).toInt ∧ (24576 ≤ (σ 12 11).toInt) ∧ FUNc (κ 24) (CPI κ Fs) N hd n L g ∧ (σ 12 8).toInt = pc ∧ g pc = some (h, k) ∧ (σ 12 9).toInt = (σ 12 10).toInt + L + h ∧ (0 ≤ (σ 12 14).toInt ∧ (σ 12 14).toInt ≤ (σ 12 12).toInt ∧ (σ 12 12).toInt ≤ 20000)
def PHI (σ : St) (N c : Nat) (g : Gh) (pc k : Nat) : Int := (2 * ((σ 12 12).toInt - (σ 12 14).toInt) + c) * ((N : Int) + 1) + rk g N k pc
/-- going on, with less left than X, or ended -/
def GOx (κ s : St) (Fs : Nat → Nat → Prop) (N : Nat) (X : Int) : Prop := (KMm κ s ∧ (s 12 13).toInt ≠ -1) ∨ ∃ c hd n L g pc h k, CTx κ s Fs N c hd n L g pc h k ∧ PHI s N c g pc k < X
section FRS
variable {κ σ s t : St} {Fs : Nat → Nat → Prop} {N : Nat}
theorem frm_bnd : ∀ c (loc fr : Int), FRM κ σ Fs N c loc fr → 1 ≤ c ∧ 8 ≤ loc ∧ loc ≤ 8 + 520 * ((c : Int) - 1) ∧ fr ≤ 32768 - 32 * (c : Int)
  | 0, _, _ => fun h => h.elim
  | 1, loc, fr => fun h => by
    obtain ⟨h1, h2⟩ := h
    omega
  | c + 2, loc, fr => fun h => by
    obtain ⟨hd, n, L, g, pc, hh, k, l0, f0, h1, h2, h3, h4, h5, h6, h7, h8, h9⟩ := h
    have ih := frm_bnd (c + 1) l0 f0 h9
    have b := h1.2.2.2.2.2.2.2 pc hh k h5
    have b2 := h1.2.2.2.1
    omega
theorem frm_k : ∀ c (loc fr : Int), (∀ j, j < 3 * c → (s 64) j = (σ 64) j) → FRM κ σ Fs N c loc fr → FRM κ s Fs N c loc fr
  | 0, _, _ => fun _ h => h
  | 1, loc, fr => fun _ h => h
  | c + 2, loc, fr => fun e h => by
    obtain ⟨hd, n, L, g, pc, hh, k, l0, f0, h1, h2, h3, h4, h5, h6, h7, h8, h9⟩ := h
    exact ⟨hd, n, L, g, pc, hh, k, l0, f0, h1, by rw [e _ (by omega)]; exact h2, by rw [e _ (by omega)]; exact h3, by rw [e _ (by omega)]; exact h4, h5, h6, h7, h8, frm_k (c + 1) l0 f0 (fun j hj => e j (by omega)) h9⟩
theorem jn_lt {w : Nat → Int32} {CP : Int → Nat → Prop} {hd n L : Nat} {g : Gh} {pc t h k : Nat} (F : FUNc w CP N hd n L g) (j : Jn g k pc t h) : ∃ k', g t = some (h, k') ∧ rk g N k' t < rk g N k pc ∧ t < N := by
  obtain ⟨k', e, hl⟩ := j
  have ht := (F.2.2.2.2.2.2.2 t h k' e).1
  exact ⟨k', e, rk_jn e hl ht, ht⟩
/-- within a function -/
theorem ct_go {c hd n L : Nat} {g : Gh} {pc h k t h' : Nat} {d : Int} {v : Int32} (C : CTx κ σ Fs N c hd n L g pc h k) (hp : PE (upC σ 12 8 v) s d) (j : Jn g k pc t h') (hd1 : (h' : Int) = h + d) (ht : v.toInt = t) : GOx κ s Fs N (PHI σ N c g pc k) := by
  obtain ⟨c1, c2, c3, c4, c5, c6, c7, c8, c9, d1, d2⟩ := C
  obtain ⟨k', e, hr, -⟩ := jn_lt c7 j
  obtain ⟨p1, p2⟩ := hp
  have q : ∀ j, j ≠ 9 → s 12 j = upC σ 12 8 v 12 j := fun j hj => p1 12 j (by
    simp only [List.contains_cons, List.contains_nil, Bool.or_false, Bool.or_eq_false_iff]
    refine ⟨?_, ?_, ?_⟩ <;> simp [hj]) rfl
  have q8 : (s 12 8) = v := (q 8 (by decide)).trans (rdA_eq rfl)
  have q7 : (s 12 7) = (σ 12 7) := q 7 (by decide)
  have q10 : (s 12 10) = (σ 12 10) := q 10 (by decide)
  have q11 : (s 12 11) = (σ 12 11) := q 11 (by decide)
  have q12 : (s 12 12) = (σ 12 12) := q 12 (by decide)
  have q13 : (s 12 13) = (σ 12 13) := q 13 (by decide)
  have q14 : (s 12 14) = (σ 12 14) := q 14 (by decide)
  have qk : (s 64) = (σ 64) := funext (fun j => p1 64 j rfl rfl)
  have p3 : (s 12 9).toInt = (σ 12 9).toInt + d := p2
  refine Or.inr ⟨c, hd, n, L, g, t, h', k', ⟨kp_tr (kp_tr c1 (kp_f kp_rf rfl)) (kp_sub p1 rfl rfl), by rw [q13]; exact c2, by rw [q7]; exact c3, c4, by rw [q10, q11]; exact frm_k c _ _ (fun j _ => by rw [qk]) c5, by rw [q11]; exact c6, c7, by rw [q8]; exact ht, e, by rw [p3, q10]; omega, by rw [q12, q14]; exact d2⟩, ?_⟩
  unfold PHI
  rw [q12, q14]
  omega
theorem cx_end {v : Int32} {X : Int} (C : KMm κ σ) (h : FE (upC σ 12 8 v) s) : GOx κ s Fs N X := Or.inl ⟨kp_tr (kp_tr C (kp_f kp_rf rfl)) (kp_sub h.1 rfl rfl), h.2⟩
end FRS
