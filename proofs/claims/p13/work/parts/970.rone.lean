/-! both sides: operators, on -/
section RON
variable {w σ σ1 σ2 σ3 σ' s r τ t : St} {kd : Nat → Int} {n S m lo u v c p q j : Nat} {l l1 l2 : List Stq} {Q Q2 : St → Prop} {B B2 : Prop} {K T H Z F I K2 T2 H2 Z2 F2 K3 T3 Z3 F3 sg : Int} {X X2 X3 : Int32}
/-- the end of a step over one -/
theorem ex_end1 (hA : EXq kd n S m lo c l1 σ σ1 K T H Z F X) (k1 : KEr σ σ1) (k3 : KPr σ1 σ3) (f3 : FTq σ1 σ3 (B ∨ 60 < 1 + H)) {y : Stq} (hF : F3 = 1 → F = 1 ∧ ¬ B ∧ 1 + H ≤ 60)
    (hx : ∀ s i, (s 6 3).toInt = 0 → T ≠ -2 → H ≤ 60 → REq kd n S m lo s σ1 → (s 7 7).toInt = (c : Int) + 1 → AVq s (65 + c) K T H Z F X i →
      ∀ Q : St → Prop, (∀ s4, STx c s s4 → (s4 7 7).toInt = (c : Int) + 1 → ((s4 6 3).toInt ≠ 0 ↔ B ∨ 60 < 1 + H) → (¬ B → 1 + H ≤ 60 → T3 ≠ -2 ∧ ∃ i, AVq s4 (65 + c) K3 T3 (1 + H) Z3 F3 X3 i) → Q s4) → XTq y s Q) :
    EXq kd n S m lo c (l1 ++ [y]) σ σ3 K3 T3 (1 + H) Z3 F3 X3 := by
  intro h0 w hR hf hc7
  have e15 : σ1 0 15 = σ 0 15 := ker_15 k1
  have f13 : (σ1 0 12).toInt ≠ 0 → (σ3 0 12).toInt ≠ 0 := fun hx => f3.2.2 (Or.inl hx)
  have hbA : BDr σ σ1 F → BDr σ σ3 F3 := fun hb => bd_mono hb e15 f13 (fun hx hy => hx (hF hy).1)
  refine ex_then hA h0 hR hf hc7 hbA (fun s hx hb => ⟨fun _ => hb, fun hy => absurd hy hx⟩) (fun s i c0 g1 g2 g3 g4 g5 g6 g7 => xw_one (fun _ => hx s i c0 g2 g3 g4 g6 g7 _ (fun s4 k4 e47 ef hA4 => ?_)) (fun hx => absurd c0 hx))
  refine ⟨fun hx => ?_, fun hx => ?_⟩
  · have hb := ef.1 hx
    by_cases q15 : (σ 0 15).toInt ≤ 0
    · exact Or.inl ⟨q15, f3.2.2 (Or.inr ⟨hb, by rw [e15]; exact q15⟩)⟩
    · refine Or.inr ⟨by omega, fun hy => ?_⟩
      obtain ⟨_, y1, y2⟩ := hF hy
      rcases hb with hb | hb
      · exact y1 hb
      · omega
  · have hb : ¬ (B ∨ 60 < 1 + H) := fun hy => ef.2 hy hx
    have hh3 : 1 + H ≤ 60 := Int.not_lt.mp (fun hy => hb (Or.inr hy))
    obtain ⟨ht3, hA5⟩ := hA4 (fun hy => hb (Or.inl hy)) hh3
    exact ⟨nbq_of g1 f3 hb, ht3, hh3, re_ref (re_x g4 k4) k3, ste_tr g5 (ste_x k4), e47, hA5⟩
/-- one, by a sign before it -/
theorem ex_unary (hA : EXq kd n S m lo c l1 σ σ1 K T H Z F X) (vA : VRq K T H Z F) (hq : q ≤ n) (hs : kd q = sg) (hr : UNq sg) (hc : c < 490) (k1 : KEr σ σ1) (k3 : KPr σ1 σ3) (f3 : FTq σ1 σ3 (B ∨ 60 < 1 + H)) (hF : F3 = 1 → F = 1 ∧ ¬ B ∧ 1 + H ≤ 60)
    (hU : T ≠ -2 → (B ↔ uyB sg K T) ∧ (¬ B → 1 + H ≤ 60 → T3 ≠ -2 ∧ K3 = uyK sg ∧ T3 = uyT sg T ∧ F3 = uyF sg K F ∧ (F3 = 1 → X3 = ivq sg X))) :
    EXq kd n S m lo c (l1 ++ [stp 11 q]) σ σ3 K3 T3 (1 + H) 0 F3 X3 := by
  refine ex_end1 hA k1 k3 f3 hF (fun s i c0 g2 g3 g4 g6 g7 Q kk => xk_unary (fun a ha => xt_unary g6 (by omega) c0 g7 vA.1 (by have := vA.2.1; omega) (by have := vA.2.2.1; omega) ((kd_at g4 ha hq).trans hs) hr (fun s4 k4 e47 hA4 ef => ?_)))
  obtain ⟨u1, u2⟩ := hU g2
  refine kk s4 k4 e47 (by rw [ef, u1]) (fun hb hh => ?_)
  obtain ⟨w1, w2, w3, w4, w5⟩ := u2 hb hh
  obtain ⟨i', hA5⟩ := hA4
  rw [← w2, ← w3, ← w4] at hA5
  exact ⟨w1, i', av_x hA5 w5⟩
/-- one more or less, behind it -/
theorem ex_step (hA : EXq kd n S m lo c l1 σ σ1 K T H Z F X) (vA : VRq K T H Z F) (hc : c < 490) (k1 : KEr σ σ1) (k3 : KPr σ1 σ3) (f3 : FTq σ1 σ3 (B ∨ 60 < 1 + H)) (hB : T ≠ -2 → (B ↔ ¬ (1 ≤ K ∧ K ≤ 3))) :
    EXq kd n S m lo c (l1 ++ [stp 13 q]) σ σ3 0 T (1 + H) 0 0 0 := by
  refine ex_end1 hA k1 k3 f3 (fun hx => absurd hx (by decide)) (fun s i c0 g2 g3 g4 g6 g7 Q kk => xk_step (fun a ha => xl_top g6 (by omega) (xt_step g6 (by omega) c0 g7 (by have := vA.2.2.1; omega) (fun s4 k4 e47 hA4 ef => kk s4 k4 e47 (by rw [ef, hB g2]) (fun _ _ => ⟨g2, 0, hA4⟩)))))
end RON
