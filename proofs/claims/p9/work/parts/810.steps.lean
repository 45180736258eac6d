/-! the steps of a unit: what each does to the operands that wait -/
abbrev It : Type := Nat × Nat
def iV : It := (0, 0)
def iL (s : Int) : It := (1, s.toNat)
def iQ : It := (2, 0)
def iC : It := (3, 0)
def iM : It := (4, 0)
def iF : It := (5, 0)
def lvl (s : Int) : Int := if 41 ≤ s ∧ s ≤ 58 then (gC 0 (s - 41).toNat).toInt else 0
def dx (act tk : Int) (A B : List It) : Prop :=
  ((act = 1 ∨ act = 2 ∨ act = 3) ∧ A.length < 500 ∧ B = iV :: A) ∨
  (act = 4 ∧ A.length < 500 ∧ tk = 2 ∧ B = iF :: A) ∨
  (act = 5 ∧ ∃ S, A = iV :: iF :: S ∧ B = iF :: S) ∨
  (act = 6 ∧ ∃ S, A = iF :: S ∧ B = iV :: S) ∨
  (act = 7 ∧ (tk = 24 ∨ (30 ≤ tk ∧ tk ≤ 40) ∨ (41 ≤ tk ∧ tk ≤ 58)) ∧ ∃ S, A = iV :: S ∧ B = iL tk :: S) ∨
  (act = 8 ∧ (41 ≤ tk ∧ tk ≤ 58) ∧ ∃ S, A = iV :: iL tk :: S ∧ B = iV :: S) ∨
  (act = 9 ∧ (30 ≤ tk ∧ tk ≤ 40) ∧ ∃ S, A = iV :: iL tk :: S ∧ B = iV :: S) ∨
  (act = 10 ∧ ∃ S, A = iV :: iL 24 :: S ∧ B = iV :: S) ∨
  ((act = 11 ∨ act = 12 ∨ act = 13) ∧ ∃ S, A = iV :: S ∧ B = A) ∨
  (act = 14 ∧ ∃ S, A = iV :: S ∧ B = iQ :: S) ∨
  (act = 15 ∧ ∃ S, A = iV :: iQ :: S ∧ B = iM :: iC :: S) ∨
  (act = 16 ∧ ∃ S, A = iV :: iM :: iC :: S ∧ B = iV :: S)
def act (σ : St) (i : Nat) : Int := ((σ 18) i).toInt
def tkx (σ : St) (t : Int32) : Int := (atv 16002 (σ 13) t).toInt
def vlx (σ : St) (t : Int32) : Int := (atv 16002 (σ 14) t).toInt
def XR (σ : St) : Nat → Nat → List It → List It → Prop
  | 0, _, A, B => A = B
  | n + 1, i, A, B => ∃ A1, dx (act σ i) (tkx σ ((σ 19) i)) A A1 ∧ XR σ n (i + 1) A1 B
/-- the words that a step may make -/
def cst (σ : St) (i : Nat) : Nat := ([0, 2, 3, 2, 0, 0, 3, 2, 2, 2, 3, 2, 0, 2, 2, 2, 0, 0, 0, 0, 0, 0, 1, 2, 2, 0, 0, 4, 2, 2, 0, 2, 0, 4, 4, 2, 2, 2, 3, 0, 0, 0, 0, 5, 3, 0, 3, 4, 0, 3] : List Nat).getD (act σ i).toNat 0 + (if act σ i = 45 then 4 * (vlx σ ((σ 19) i)).toNat else 0)
def csum (σ : St) : Nat → Nat → Nat
  | 0, _ => 0
  | n + 1, i => cst σ i + csum σ n (i + 1)
section XRS
variable {σ s : St}
theorem xr_app : ∀ (n i m : Nat) (A B D : List It), XR σ n i A B → XR σ m (i + n) B D → XR σ (n + m) i A D
  | 0, i, m, A, B, D => fun h g => by
    cases h
    rw [Nat.zero_add]
    exact g
  | n + 1, i, m, A, B, D => fun h g => by
    obtain ⟨A1, h1, h2⟩ := h
    rw [Nat.add_right_comm]
    exact ⟨A1, h1, xr_app n (i + 1) m A1 B D h2 (by rw [Nat.add_right_comm, Nat.add_assoc]; exact g)⟩
theorem csum_app : ∀ (n i m : Nat), csum σ (n + m) i = csum σ n i + csum σ m (i + n)
  | 0, i, m => by
    rw [Nat.zero_add]
    show _ = 0 + csum σ m i
    omega
  | n + 1, i, m => by
    rw [Nat.add_right_comm]
    show cst σ i + csum σ (n + m) (i + 1) = cst σ i + csum σ n (i + 1) + csum σ m (i + (n + 1))
    rw [csum_app n (i + 1) m]
    have : i + 1 + n = i + (n + 1) := by omega
    rw [this]
    omega
/-- what a step is made of stays -/
def SameAt (σ s : St) (i : Nat) : Prop := (s 18) i = (σ 18) i ∧ (s 19) i = (σ 19) i
theorem act_same {i : Nat} (h : SameAt σ s i) : act s i = act σ i := by unfold act; rw [h.1]
theorem xr_same (hk : (s 13) = (σ 13)) : ∀ (n i : Nat) (A B : List It), (∀ j, i ≤ j → j < i + n → SameAt σ s j) → XR σ n i A B → XR s n i A B
  | 0, i, A, B => fun _ h => h
  | n + 1, i, A, B => fun e h => by
    obtain ⟨A1, h1, h2⟩ := h
    have e0 := e i (by omega) (by omega)
    refine ⟨A1, ?_, xr_same hk n (i + 1) A1 B (fun j h1 h2 => e j (by omega) (by omega)) h2⟩
    unfold tkx at h1 ⊢
    rw [act_same e0, e0.2, hk]
    exact h1
theorem cst_same {i : Nat} (hv : (s 14) = (σ 14)) (h : SameAt σ s i) : cst s i = cst σ i := by
  unfold cst vlx
  rw [act_same h, h.2, hv]
theorem csum_same (hv : (s 14) = (σ 14)) : ∀ (n i : Nat), (∀ j, i ≤ j → j < i + n → SameAt σ s j) → csum s n i = csum σ n i
  | 0, i => fun _ => rfl
  | n + 1, i => fun e => by
    show cst s i + csum s n (i + 1) = cst σ i + csum σ n (i + 1)
    rw [cst_same hv (e i (by omega) (by omega)), csum_same hv n (i + 1) (fun j h1 h2 => e j (by omega) (by omega))]
end XRS
