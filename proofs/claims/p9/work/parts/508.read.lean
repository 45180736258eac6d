/-! the value itself comes onto the stack -/
section READ
variable {σ τ : St} {vs : List Nat}
def RDx (σ τ : St) (u : Nat) (s : St) : Prop := ((τ u 1).toInt = 0 → s = σ) ∧ ((τ u 1).toInt = 1 → PU σ s [3, (τ u 2)]) ∧ ((τ u 1).toInt = 2 → ∃ l, PU σ s [1, (τ u 2), 5, l]) ∧ ((τ u 1).toInt = 3 → ∃ l, PU σ s [5, l])
theorem sp_read_0 {u : Nat} {Q : St → St → List Nat → Prop} (hu : u ∈ vs) (hv : VOK τ) (h0 : 0 ≤ (σ 0 17).toInt) (h1 : (σ 0 17).toInt ≤ 499000) (k : ∀ s, RDx σ τ u s → Q s (upC τ u 1 (0 : Int32)) vs) : wp_read_1 u σ τ vs Q := by
  obtain ⟨⟨v1, v2⟩, -, v3, -⟩ := hv u
  unfold wp_read_1
  refine ⟨hu, fun s t z => τ = t ∧ vs = z ∧ ((τ u 1).toInt ≠ 1 → s = σ) ∧ ((τ u 1).toInt = 1 → PU σ s [3, (τ u 2)]), ?_, fun c => ⟨rfl, rfl, fun _ => rfl, fun q => absurd q c⟩, fun c => sp_put_1 h0 (by omega) (fun s hs => ⟨rfl, rfl, fun q => absurd c q, fun _ => hs⟩)⟩
  rintro s t z ⟨rfl, rfl, g1, g2⟩
  have hw : 0 ≤ (s 0 17).toInt ∧ (s 0 17).toInt ≤ (σ 0 17).toInt + 2 := by
    by_cases c : (τ u 1).toInt = 1
    · have := (g2 c).2.1
      simp only [List.length_cons, List.length_nil] at this
      omega
    · rw [g1 c]; omega
  refine ⟨hu, fun s' t' z' => τ = t' ∧ vs = z' ∧ ((τ u 1).toInt ≠ 2 → s' = s) ∧ ((τ u 1).toInt = 2 → PU s s' [1, (τ u 2)]), ?_, fun c => ⟨rfl, rfl, fun _ => rfl, fun q => absurd q c⟩, fun c => sp_put_1 hw.1 (by omega) (fun s hs => ⟨rfl, rfl, fun q => absurd c q, fun _ => hs⟩)⟩
  rintro s' t' z' ⟨rfl, rfl, g3, g4⟩
  have hw2 : 0 ≤ (s' 0 17).toInt ∧ (s' 0 17).toInt ≤ (σ 0 17).toInt + 4 := by
    by_cases c : (τ u 1).toInt = 2
    · have := (g4 c).2.1
      simp only [List.length_cons, List.length_nil] at this
      omega
    · rw [g3 c]; omega
  refine ⟨hu, fun c => k _ ⟨fun q => ?_, fun q => ?_, fun q => absurd q (by omega), fun q => absurd q (by omega)⟩, fun c => ⟨⟨v3.1, by omega⟩, sp_put_1 hw2.1 (by omega) (fun s9 hs9 => ⟨hu, k _ ⟨fun q => absurd q (by omega), fun q => absurd q (by omega), fun q => ?_, fun q => ?_⟩⟩)⟩⟩
  · rw [g3 (by omega), g1 (by omega)]
  · rw [g3 (by omega)]; exact g2 q
  · have e := g1 (by omega)
    subst e
    exact ⟨_, pu_tr h0 (g4 q) hs9⟩
  · have e := g1 (by omega)
    subst e
    have e2 := g3 (by omega)
    subst e2
    exact ⟨_, hs9⟩
theorem vok_how {u : Nat} (h : VOK τ) : VOK (upC τ u 1 (0 : Int32)) := fun w => by
  by_cases e : w = u
  · subst e
    obtain ⟨h1, h2, h3, h4, h5, h6⟩ := h w
    refine ⟨?_, ?_, ?_, ?_, ?_, ?_⟩
    · rw [rdA, if_pos rfl]; decide
    · rw [rdA, if_neg (by decide)]; exact h2
    · rw [rdA, if_neg (by decide)]; exact h3
    · rw [rdA, if_neg (by decide)]; exact h4
    · rw [rdA, if_pos rfl]
      exact fun c => absurd rfl c
    · rw [rdA, if_neg (by decide), rdA, if_neg (by decide)]; exact h6
  · have e2 : upC τ u 1 (0 : Int32) w = τ w := by show upF τ u _ w = _; rw [upF_ne e]
    rw [e2]
    exact h w
theorem rd_rl {u : Nat} {s t : St} {z : List Nat} (h : PA σ τ) (p : RDx σ τ u s) (hv : VOK t) (hz : ∀ u ∈ vs, u ∈ z) (hl : vs.length ≤ z.length) : RL σ vs s t z ∧ (s 0 17).toInt ≤ (σ 0 17).toInt + 4 ∧ (s 0 39) = (σ 0 39) ∧ pos s = pos σ := by
  obtain ⟨⟨v1, v2⟩, -⟩ := h.2.2.2.2 u
  have key : ∀ ws : List Int32, ws.length ≤ 4 → PU σ s ws → RL σ vs s t z ∧ (s 0 17).toInt ≤ (σ 0 17).toInt + 4 ∧ (s 0 39) = (σ 0 39) ∧ pos s = pos σ := fun ws hw q => by
    have := q.2.1
    refine ⟨rl_pu h q hv hz hl, by omega, q.1 _ _ rfl rfl, ?_⟩
    have e1 : (s 0 10) = (σ 0 10) := q.1 _ _ rfl rfl
    have e6 : (s 3) = (σ 3) := funext (fun j => q.1 3 j rfl rfl)
    unfold pos
    rw [e1, e6]
  obtain ⟨p0, p1, p2, p3⟩ := p
  rcases (by omega : (τ u 1).toInt = 0 ∨ (τ u 1).toInt = 1 ∨ (τ u 1).toInt = 2 ∨ (τ u 1).toInt = 3) with c | c | c | c
  · have e := p0 c
    subst e
    refine ⟨⟨kp_rf, ⟨h.1, h.2.1, h.2.2.1, h.2.2.2.1, hv⟩, fun _ _ => rfl, mon_rf, of_rf, Int.le_refl _, Int.le_refl _, Int.le_refl _, hz, hl, ie_rf⟩, by omega, rfl, rfl⟩
  · exact key _ (Nat.le_of_ble_eq_true rfl) (p1 c)
  · obtain ⟨l, q⟩ := p2 c
    exact key _ (Nat.le_of_ble_eq_true rfl) q
  · obtain ⟨l, q⟩ := p3 c
    exact key _ (Nat.le_of_ble_eq_true rfl) q
theorem rd_te {u N : Nat} {s : St} (h : PA σ τ) (p : RDx σ τ u s) (hN : 1 ≤ N) (hl : (τ u 1).toInt = 1 → (τ u 2).toInt < (σ 0 49).toInt) : TE σ s N (ev τ u) (ev (upC τ u 1 (0 : Int32)) u) := by
  obtain ⟨⟨v1, v2⟩, ⟨v3, v4⟩, -, -, v5, -⟩ := h.2.2.2.2 u
  have h0 := h.2.2.1.2.2.2.2.1
  obtain ⟨p0, p1, p2, p3⟩ := p
  have ty : upC τ u 1 (0 : Int32) u 0 = (τ u 0) := by rw [rdA, if_neg (by decide)]
  have hw : upC τ u 1 (0 : Int32) u 1 = 0 := by rw [rdA, if_pos rfl]
  have e1 : (τ u 1).toInt ≠ 0 → ev (upC τ u 1 (0 : Int32)) u = 1 := fun c => ev_1 (Or.inl (by rw [hw]; rfl)) (by rw [ty]; exact v5 c)
  rcases (by omega : (τ u 1).toInt = 0 ∨ (τ u 1).toInt = 1 ∨ (τ u 1).toInt = 2 ∨ (τ u 1).toInt = 3) with c | c | c | c
  · have e := p0 c
    subst e
    have e2 : ev (upC τ u 1 (0 : Int32)) u = ev τ u := by
      unfold ev
      rw [ty, hw, c]
      rfl
    rw [e2]
    exact te_rf
  · have e2 : ev τ u = 0 := by unfold ev; rw [if_pos (Or.inl c)]
    rw [e1 (by omega), e2]
    refine te_put (n := 2) h0 (p1 c) rfl (by decide) rfl (k := 3) rfl (fun g' H L x hH hn hx => ?_) hN
    have e3 := hx _ rfl
    have e4 : (s 0 49) = (σ 0 49) := (p1 c).1 _ _ rfl rfl
    exact ⟨⟨by omega, by rw [e4]; have := hl c; omega⟩, hn⟩
  · have e2 : ev τ u = 0 := by unfold ev; rw [if_pos (Or.inr c)]
    rw [e1 (by omega), e2]
    obtain ⟨l, q⟩ := p2 c
    intro g X E0 H L hT hH hf hs
    -- two words of it, one behind the other
    have hq := q.2.2.2
    have hlen : (s 0 17).toInt = (σ 0 17).toInt + 4 := q.2.1
    have en : (wcn σ : Int) = (σ 0 17).toInt := nt h0
    have w0 : (s 8) (wcn σ) = 1 := hq 0 _ rfl
    have w1 : (s 8) (wcn σ + 1) = (τ u 2) := hq 1 _ rfl
    have w2 : (s 8) (wcn σ + 2) = 5 := hq 2 _ rfl
    let σ2 : St := upC s 0 17 ((σ 0 17) + 2)
    have f2 : (σ2 0 17).toInt = (σ 0 17).toInt + 2 := by
      show (upC s 0 17 ((σ 0 17) + 2) 0 17).toInt = _
      rw [rdA_eq rfl, adc (n := 2) (by decide) (by omega) (by have := q.2.1; have := s_rng (s 0 17); omega)]
    have k2 : Kp [(0, 17)] [8] σ σ2 := kp_f q.1 rfl
    have pu1 : PU σ σ2 [1, (τ u 2)] := ⟨k2, f2, q.2.2.1, fun i v hi => by
      match i, hi with
      | 0, hi => cases hi; exact w0
      | 1, hi => cases hi; exact w1⟩
    have en2 : wcn σ2 = wcn σ + 2 := by
      have : (wcn σ2 : Int) = (σ2 0 17).toInt := nt (by omega)
      omega
    have pu2 : PU σ2 s [5, l] := ⟨fun c k h1 h2 => by
        show s c k = upC s 0 17 _ c k
        by_cases e : c = 0
        · subst e
          rw [rdA_ne]
          rintro rfl
          cases h1
        · show _ = upF s 0 _ c k
          rw [upF_ne e], by show (s 0 17).toInt = (σ2 0 17).toInt + 2; omega, fun j _ => rfl, fun i v hi => by
      match i, hi with
      | 0, hi => cases hi; rw [en2]; exact w2
      | 1, hi => cases hi; rw [en2]; exact hq 3 _ rfl⟩
    have t1 : TE σ σ2 N 0 1 := te_put (n := 2) h0 pu1 rfl (by decide) rfl (k := 1) rfl (fun g' H L x hH hn hx => by
      have e3 := hx _ rfl
      exact ⟨⟨by omega, by omega⟩, hn⟩) hN
    have t2 : TE σ2 s N 1 1 := te_put (n := 2) (by omega) pu2 rfl (by decide) rfl (k := 5) rfl (fun g' H L x hH hn hx => ⟨by omega, hn⟩) hN
    exact te_tr t1 t2 (by omega) (Or.inl rfl) rfl g X E0 H L hT hH hf hs
  · have e2 : ev τ u = 1 := ev_1 (Or.inr c) (v5 (by omega))
    rw [e1 (by omega), e2]
    obtain ⟨l, q⟩ := p3 c
    exact te_put (n := 2) h0 q rfl (by decide) rfl (k := 5) rfl (fun g' H L x hH hn hx => ⟨by omega, hn⟩) hN
end READ
