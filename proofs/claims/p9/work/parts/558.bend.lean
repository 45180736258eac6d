/-! the end of a body -/
/-- the code of a body is done (its rows are not put yet) -/
def BCo (s : St) (E0 : Nat) : Prop := E0 < wcn s ∧ ∃ g : Gh, (∃ k, g E0 = some (0, k)) ∧ ∀ q h k, g q = some (h, k) → (E0 ≤ q ∧ q < wcn s) ∧ OPw (s 8) g (s 0 49).toInt ((s 0 55) ≠ 0) (CO s) q h k
section BND
variable {σ s s' τ t t' : St} {vs z z' : List Nat} {g g' : Gh} {X X' : Nat → Prop} {E0 H L : Nat}
theorem bc_end {op : Int32} {n : Nat} (h : TY s g X E0 H L) (hX : ∀ q, ¬ X q) (h0 : 0 ≤ (s 0 17).toInt) (p : PU s s' [op]) (hop : op.toInt = n) (ho : ∀ a, OPn n a g (s' 0 49).toInt ((s' 0 55) ≠ 0) (CO s') (wcn s) H L) (hE : ∃ k, g E0 = some (0, k)) : BCo s' E0 := by
  have e0 : (wcn s : Int) = (s 0 17).toInt := nt h0
  have W : (s' 0 17).toInt = (s 0 17).toInt + 1 := p.2.1
  have e1 : (wcn s' : Int) = (s' 0 17).toInt := nt (by omega)
  obtain ⟨v1, v2, v3⟩ := ev_pu p
  obtain ⟨h1, h2, h3, h4, h5⟩ := h
  have hw : (s' 8) (wcn s) = op := p.2.2.2 0 op rfl
  refine ⟨by omega, g, hE, fun q hh k hq => ?_⟩
  have q1 : q ≤ wcn s := by
    by_cases c : wcn s < q
    · rw [h3 q c] at hq
      cases hq
    · omega
  have q2 : E0 ≤ q := by
    by_cases c : q < E0
    · rw [h4 q c] at hq
      cases hq
    · omega
  refine ⟨⟨q2, by omega⟩, ?_⟩
  by_cases c : q = wcn s
  · subst c
    rw [h2] at hq
    cases hq
    refine ⟨by rw [hw, hop]; omega, ?_⟩
    rw [hw, hop, Int.toNat_natCast]
    exact ho _
  · obtain ⟨a1, a2⟩ := h5 q hh k hq (by omega) (hX q)
    have ew : (s' 8) q = (s 8) q := p.2.2.1 q (by omega)
    refine ⟨by rw [ew]; exact a1, ?_⟩
    rw [ew]
    refine opn_mono (fun _ _ h => h) ?_ v1 (by rw [v2]) v3 a2
    by_cases d : q + 1 < wcn s
    · exact Or.inr (by rw [p.2.2.1 (q + 1) (by omega)])
    · exact Or.inl (fun q' hq' => h3 q' (by omega))
theorem bc_leave (h : TY s g X E0 0 L) (hX : ∀ q, ¬ X q) (h0 : 0 ≤ (s 0 17).toInt) (p : PU s s' [20]) (hv : (s 0 55) ≠ 0) (hE : ∃ k, g E0 = some (0, k)) : BCo s' E0 := by
  have e : (s' 0 55) = (s 0 55) := (ev_pu p).2.1
  exact bc_end (n := 20) h hX h0 p (by decide) (fun a => ⟨rfl, by rw [e]; exact hv⟩) hE
theorem bc_value {s2 : St} (h : TY s g X E0 0 L) (hX : ∀ q, ¬ X q) (h0 : 0 ≤ (s 0 17).toInt) (p : PU s s' [0, 0]) (p2 : PU s' s2 [21]) (hv : (s 0 55) = 0) (hE : ∃ k, g E0 = some (0, k)) : BCo s2 E0 := by
  have e : (s' 0 55) = (s 0 55) := (ev_pu p).2.1
  have e2 : (s2 0 55) = (s' 0 55) := (ev_pu p2).2.1
  have W : (s' 0 17).toInt = (s 0 17).toInt + 2 := p.2.1
  obtain ⟨g', t1, x1, -⟩ := ty_put1 (n := 2) (k := 0) (H' := 1) (L' := L) h h0 p rfl (by omega) rfl (by decide) (fun g' x hg hn hx => ⟨by omega, L, hn, Or.inr ⟨rfl, by omega⟩⟩)
  obtain ⟨k, hk⟩ := hE
  have hle := h.1
  exact bc_end (n := 21) t1 hX (by omega) p2 (by decide) (fun a => ⟨rfl, by rw [e2, e]; exact fun c => c hv⟩) ⟨k, by rw [x1 E0 hle]; exact hk⟩
end BND
