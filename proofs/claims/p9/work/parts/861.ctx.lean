/-! the constructs around: where they go on, the jumps that wait -/
def LV : List Nat → Nat
  | [] => 0
  | c :: K => if c = 3 ∨ c = 4 ∨ c = 5 ∨ c = 7 then LV K + 1 else if c = 8 then LV K + 2 else LV K
/-- a jump that waits, at a level of so much at the least -/
def WJ (w : Nat → Int32) (g : Gh) (e p lv : Nat) : Prop := ∃ n k : Nat, (w p).toInt = n ∧ (n = 26 ∨ n = 27) ∧ g p = some (if n = 26 then 0 else 1, k) ∧ p + 2 ≤ e ∧ lv ≤ k
/-- one construct: its chains of jumps out of it (E), of jumps to where it goes on (G), the jump to a body (D) -/
def CX1 (σ : St) (g : Gh) (e c j lv : Nat) (E G D : List Nat) : Prop :=
  CHW (σ 24) ((σ 51) j) E ∧ (c ≠ 5 → CHW (σ 24) ((σ 52) j) G) ∧ ((σ 49) j).toInt = (if c = 1 then 0 else 1) ∧
  (∀ p ∈ E, WJ (σ 24) g e p lv) ∧ (∀ p ∈ G, WJ (σ 24) g e p (if c = 8 then lv + 2 else lv + 1)) ∧
  ((c = 1 ∨ c = 2 ∨ c = 5 ∨ c = 6 ∨ c = 7) → G = []) ∧
  (2 ≤ c → ∃ t : Nat, ((σ 50) j).toInt = t ∧ t ≤ e ∧ g t = some (0, lv)) ∧
  ((c = 7 ∨ c = 8) → ∃ t : Nat, ((σ 54) j).toInt = t ∧ t ≤ e ∧ g t = some (0, lv + 1)) ∧
  (c = 7 → ∃ p : Nat, D = [p] ∧ ((σ 53) j).toInt = p ∧ ((σ 24) p).toInt = 26 ∧ ((σ 24) (p + 1)).toInt < 0 ∧ p + 2 ≤ e ∧ g p = some (0, lv)) ∧ (c ≠ 7 → D = [])
def CX (σ : St) (g : Gh) (e : Nat) : List Nat → (Nat → Prop) → Prop
  | [], X => ∀ q, ¬ X q
  | c :: K, X => if c = 0 ∨ 9 ≤ c then CX σ g e K X else
    ∃ (Y : Nat → Prop) (E G D : List Nat), CX σ g e K Y ∧ (∀ q, X q ↔ Y q ∨ q ∈ E ∨ q ∈ G ∨ q ∈ D) ∧
      ((∀ q ∈ E, ¬ Y q) ∧ (∀ q ∈ G, ¬ Y q ∧ ¬ q ∈ E) ∧ (∀ q ∈ D, ¬ Y q ∧ ¬ q ∈ E ∧ ¬ q ∈ G)) ∧ CX1 σ g e c (nzr K) (LV K) E G D
section CTX
variable {σ s t : St} {g g' : Gh} {CP : Int → Nat → Prop} {X Y : Nat → Prop} {w w' : Nat → Int32} {b e e' H L c j lv : Nat} {E G D K : List Nat}
theorem wj_mono {p : Nat} (hw : ∀ q, q < e → w' q = w q) (hg : AGR g g' e) (he : e ≤ e') (h : WJ w g e p lv) : WJ w' g' e' p lv := by
  obtain ⟨n, k, a1, a2, a3, a4, a5⟩ := h
  exact ⟨n, k, by rw [hw p (by omega)]; exact a1, a2, by rw [hg p (by omega)]; exact a3, by omega, a5⟩
theorem wj_lt {p : Nat} (h : WJ w g e p lv) : p + 2 ≤ e := by
  obtain ⟨n, k, a1, a2, a3, a4, a5⟩ := h
  exact a4
/-- the rows of statements stay -/
def KW (σ s : St) : Prop := (s 49) = (σ 49) ∧ (s 50) = (σ 50) ∧ (s 51) = (σ 51) ∧ (s 52) = (σ 52) ∧ (s 53) = (σ 53) ∧ (s 54) = (σ 54)
theorem cx1_mono (hk : (s 49) j = (σ 49) j ∧ (s 50) j = (σ 50) j ∧ (s 51) j = (σ 51) j ∧ (s 52) j = (σ 52) j ∧ (s 53) j = (σ 53) j ∧ (s 54) j = (σ 54) j) (hw : ∀ q, q < e → (s 24) q = (σ 24) q) (hg : AGR g g' e) (he : e ≤ e') (h : CX1 σ g e c j lv E G D) : CX1 s g' e' c j lv E G D := by
  obtain ⟨h1, h2, h3, h4, h5, h6, h7, h8, h9, h10⟩ := h
  obtain ⟨k1, k2, k3, k4, k5, k6⟩ := hk
  refine ⟨?_, ?_, by rw [k1]; exact h3, fun p hp => wj_mono hw hg he (h4 p hp), fun p hp => wj_mono hw hg he (h5 p hp), h6, fun c => ?_, fun c => ?_, fun c => ?_, h10⟩
  · rw [k3]
    exact chw_mono E _ (fun p hp => hw _ (by have := wj_lt (h4 p hp); omega)) h1
  · intro c5
    rw [k4]
    exact chw_mono G _ (fun p hp => hw _ (by have := wj_lt (h5 p hp); omega)) (h2 c5)
  · obtain ⟨t, a1, a2, a3⟩ := h7 c
    exact ⟨t, by rw [k2]; exact a1, by omega, by rw [hg t a2]; exact a3⟩
  · obtain ⟨t, a1, a2, a3⟩ := h8 c
    exact ⟨t, by rw [k6]; exact a1, by omega, by rw [hg t a2]; exact a3⟩
  · obtain ⟨p, a1, a2, a3, a4, a5, a6⟩ := h9 c
    exact ⟨p, a1, by rw [k5]; exact a2, by rw [hw p (by omega)]; exact a3, by rw [hw (p + 1) (by omega)]; exact a4, by omega, by rw [hg p (by omega)]; exact a6⟩
/-- the jumps that wait stand before the end -/
theorem cx_lt : ∀ (K : List Nat) (X : Nat → Prop), CX σ g e K X → ∀ q, X q → q + 2 ≤ e
  | [], X => fun h q hq => absurd hq (h q)
  | c :: K, X => fun h q hq => by
    unfold CX at h
    by_cases c0 : c = 0 ∨ 9 ≤ c
    · rw [if_pos c0] at h
      exact cx_lt K X h q hq
    · rw [if_neg c0] at h
      obtain ⟨Y, E, G, D, h1, h2, h3, h4⟩ := h
      rcases (h2 q).mp hq with a | a | a | a
      · exact cx_lt K Y h1 q a
      · exact wj_lt (h4.2.2.2.1 q a)
      · exact wj_lt (h4.2.2.2.2.1 q a)
      · by_cases c7 : c = 7
        · obtain ⟨p, a1, a2, a3, a4, a5, a6⟩ := h4.2.2.2.2.2.2.2.2.1 c7
          rw [a1, List.mem_singleton] at a
          omega
        · rw [h4.2.2.2.2.2.2.2.2.2 c7] at a
          cases a
theorem nz_c (h : ¬ (c = 0 ∨ 9 ≤ c)) : nzr (c :: K) = nzr K + 1 := by
  unfold nzr
  rw [List.filter_cons_of_pos (by exact decide_eq_true ⟨by omega, by omega⟩)]
  rfl
theorem nz_0 (h : c = 0 ∨ 9 ≤ c) : nzr (c :: K) = nzr K := by
  unfold nzr
  rw [List.filter_cons_of_neg (by
    intro h2
    have := of_decide_eq_true h2
    omega)]
/-- they stay where code, heights and the rows below stay -/
theorem cx_mono : ∀ (K : List Nat) (X : Nat → Prop), (∀ j, j < nzr K → (s 49) j = (σ 49) j ∧ (s 50) j = (σ 50) j ∧ (s 51) j = (σ 51) j ∧ (s 52) j = (σ 52) j ∧ (s 53) j = (σ 53) j ∧ (s 54) j = (σ 54) j) → (∀ q, q < e → (s 24) q = (σ 24) q) → AGR g g' e → e ≤ e' → CX σ g e K X → CX s g' e' K X
  | [], X => fun _ _ _ _ h => h
  | c :: K, X => fun hk hw hg he h => by
    unfold CX at h ⊢
    by_cases c0 : c = 0 ∨ 9 ≤ c
    · rw [if_pos c0] at h ⊢
      rw [nz_0 c0] at hk
      exact cx_mono K X hk hw hg he h
    · rw [if_neg c0] at h ⊢
      rw [nz_c c0] at hk
      obtain ⟨Y, E, G, D, h1, h2, h3, h4⟩ := h
      exact ⟨Y, E, G, D, cx_mono K Y (fun j hj => hk j (by omega)) hw hg he h1, h2, h3, cx1_mono (hk _ (by omega)) hw hg he h4⟩
/-- words patched behind jumps that do not wait in them -/
theorem cx_pat {l : List Nat} : ∀ (K : List Nat) (X : Nat → Prop), (∀ j, j < nzr K → (s 49) j = (σ 49) j ∧ (s 50) j = (σ 50) j ∧ (s 51) j = (σ 51) j ∧ (s 52) j = (σ 52) j ∧ (s 53) j = (σ 53) j ∧ (s 54) j = (σ 54) j) → (∀ i, (∀ p ∈ l, i ≠ p + 1) → (s 24) i = (σ 24) i) → (∀ p ∈ l, g p ≠ none ∧ g (p + 1) = none) → (∀ p ∈ l, ¬ X p) → CX σ g e K X → CX s g e K X
  | [], X => fun _ _ _ _ h => h
  | c :: K, X => fun hk hw hl hx h => by
    unfold CX at h ⊢
    by_cases c0 : c = 0 ∨ 9 ≤ c
    · rw [if_pos c0] at h ⊢
      rw [nz_0 c0] at hk
      exact cx_pat K X hk hw hl hx h
    · rw [if_neg c0] at h ⊢
      rw [nz_c c0] at hk
      obtain ⟨Y, E, G, D, h1, h2, h3, h4⟩ := h
      obtain ⟨a1, a2, a3, a4, a5, a6, a7, a8, a9, a10⟩ := h4
      obtain ⟨k1, k2, k3, k4, k5, k6⟩ := hk (nzr K) (by omega)
      have at0 : ∀ q, g q ≠ none → (s 24) q = (σ 24) q := fun q hq => hw q (fun p hp e2 => hq (by rw [e2]; exact (hl p hp).2))
      have at1 : ∀ q, X q → (s 24) (q + 1) = (σ 24) (q + 1) := fun q hq => hw _ (fun p hp e2 => by
        have : q = p := by omega
        rw [this] at hq
        exact hx p hp hq)
      have wj : ∀ q lv, WJ (σ 24) g e q lv → WJ (s 24) g e q lv := fun q lv z => by
        obtain ⟨n, k, b1, b2, b3, b4, b5⟩ := z
        exact ⟨n, k, by rw [at0 q (by rw [b3]; exact fun z => by cases z)]; exact b1, b2, b3, b4, b5⟩
      refine ⟨Y, E, G, D, cx_pat K Y (fun j hj => hk j (by omega)) hw hl (fun p hp z => hx p hp ((h2 p).mpr (Or.inl z))) h1, h2, h3, ?_, ?_, by rw [k1]; exact a3, fun p hp => wj p _ (a4 p hp), fun p hp => wj p _ (a5 p hp), a6, fun c => ?_, fun c => ?_, fun c => ?_, a10⟩
      · rw [k3]
        exact chw_mono E _ (fun p hp => at1 p ((h2 p).mpr (Or.inr (Or.inl hp)))) a1
      · intro c5
        rw [k4]
        exact chw_mono G _ (fun p hp => at1 p ((h2 p).mpr (Or.inr (Or.inr (Or.inl hp))))) (a2 c5)
      · rw [k2]
        exact a7 c
      · rw [k6]
        exact a8 c
      · obtain ⟨p, b1, b2, b3, b4, b5, b6⟩ := a9 c
        exact ⟨p, b1, by rw [k5]; exact b2, by rw [at0 p (by rw [b6]; exact fun z => by cases z)]; exact b3, by rw [at1 p ((h2 p).mpr (Or.inr (Or.inr (Or.inr (by rw [b1]; exact List.mem_singleton.mpr rfl)))))]; exact b4, b5, b6⟩
end CTX
