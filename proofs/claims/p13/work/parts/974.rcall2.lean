/-! both sides: calls, on -/
section RCM
variable {w σ σ1 σ2 σ3 σ' s t : St} {kd : Nat → Int} {n S m lo c p q r : Nat} {l l1 l2 : List Stq} {Q : St → Prop} {B ok : Prop} {K T H Z F N Hm : Int} {X : Int32}
/-- an argument is right -/
def AGm (σ : St) (e : Nat) (N T Z : Int) : Prop := N < (σ 15 e).toInt ∧ (T = (σ 16 (8 * e + N.toNat)).toInt ∨ (0 < (σ 16 (8 * e + N.toNat)).toInt ∧ Z ≠ 0))
theorem cl_arg (hC : CLq kd n S m lo c l σ σ1 r N Hm ok) (hE : EXq kd n S m lo (c + 1) l2 σ1 σ2 K T H Z F X) (vE : VRq K T H Z F) (hc : c < 480) (hN : 0 ≤ N ∧ N ≤ 17000) (hrm : r < m) (h9 : (σ2 9 (lo + r)).toInt = 2) (hP : N < (σ2 15 (lo + r)).toInt → (σ2 16 (8 * (lo + r) + N.toNat)).toInt ≠ -1)
    (k1 : KEr σ σ1) (k2 : KEr σ1 σ2) (m2 : (σ1 0 12).toInt ≠ 0 → (σ2 0 12).toInt ≠ 0) (k3 : KPr σ2 σ3) (e12 : σ3 0 12 = σ2 0 12) :
    CLq kd n S m lo c (l ++ l2 ++ [stp 5 q]) σ σ3 r (N + 1) (mxq Hm H) (ok ∧ AGm σ2 (lo + r) N T Z) := by
  intro h0 w hR hf hc7
  have e15 : σ1 0 15 = σ 0 15 := ker_15 k1
  have e25 : σ2 0 15 = σ 0 15 := (ker_15 k2).trans e15
  have hbA : BDr σ σ1 0 → BDr σ σ3 0 := fun hb => bd_mono hb e15 (fun hx => by rw [e12]; exact m2 hx) (fun _ => by decide)
  have hbB : BDr σ1 σ2 F → BDr σ σ3 0 := fun hb => bd_mono (bd_from hb e15) e25 (fun hx => by rw [e12]; exact hx) (fun _ => by decide)
  have qb : ∀ s, (s 6 3).toInt ≠ 0 → BDr σ σ3 0 → ((s 6 3).toInt ≠ 0 → BDr σ σ3 0) ∧ ((s 6 3).toInt = 0 → (σ3 0 12).toInt = 0 ∧ mxq Hm H ≤ 60 ∧ REq kd n S m lo s σ3 ∧ STe c w s ∧ (s 7 7).toInt = (c : Int) + 1 ∧ (∃ z x, AVq s (65 + c) 4 (σ3 10 (lo + r)).toInt (mxq Hm H) z 0 x (((s 5 1).toInt.toNat - m + r : Nat) : Int)) ∧ (s (65 + c) 11).toInt = N + 1 ∧ ((s (65 + c) 12).toInt ≠ 0 ↔ ¬ (ok ∧ AGm σ2 (lo + r) N T Z))) := fun s hx hb => ⟨fun _ => hb, fun hy => absurd hy hx⟩
  rw [List.append_assoc]
  refine xw_app (xw_mono (hC h0 w hR hf hc7) (fun s hs => ?_) hbA)
  by_cases c0 : (s 6 3).toInt = 0
  · obtain ⟨g1, g2, g3, g4, g5, ⟨z, x, g6⟩, g7, g8⟩ := hs.2 c0
    refine ex_then hE g1 g3 c0 (by rw [g5]; omega) hbB qb (fun s3 i3 c3 d1 d2 d3 d4 d5 d6 d7 => xw_one (fun _ => xk_argument ?_) (fun hx => absurd c3 hx))
    have keep : ∀ k, s3 (65 + c) k = s (65 + c) k := fun k => d5.2 c k (by omega)
    have hA3 := av_eq (s := s3) g6 keep
    have o := d4.2.2.1
    have e51 : s3 5 1 = s 5 1 := d5.1 5 1 (op_lt (by omega)) rfl rfl
    obtain ⟨q1, q2, q3, q4, q5, q5b, q6, q7, q8, q9, q10⟩ := o.2.2.2.2.2 r hrm
    obtain ⟨s1, s2, s3'⟩ := q9 (q5.2 (by omega))
    have hdn : (s3 5 1).toInt.toNat - m + r < 10100 := by have := o.2.2.1; have := o.2.2.2.1.1; have := o.2.2.2.2.1.2.2.2.1; omega
    have hix : (s3 (65 + c) 4).toInt = (((s3 5 1).toInt.toNat - m + r : Nat) : Int) := by
      rw [keep 4, e51]
      exact g6.2.2.2.2.2.2 (by decide)
    refine xt_argument (n := s3 (65 + c) 11) (m := s3 (65 + c) 12) (sig := s3 27 ((s3 5 1).toInt.toNat - m + r)) (by rw [d6]; omega) (by omega) hA3 rfl rfl (by rw [keep 11, g7]; omega) d7 vE.1 (atv_at hix hdn) (fun s4 k4 e47 e46 hA4 h11 h12 => ⟨fun hx => absurd (by rw [e46]; exact c3) hx, fun _ => ⟨by rw [e12]; exact d1, ?_, re_xk d4 k4 k3, ste_tr g4 (ste_tr (ste_le d5 (by omega)) (ste_x k4)), e47, ⟨z, x, ?_⟩, by rw [h11, keep 11, g7], ?_⟩⟩)
    · unfold mxq
      split <;> omega
    · have e10 : σ3 10 (lo + r) = σ1 10 (lo + r) := (k3.1 10 _ rfl rfl).trans (k2 10 _ rfl rfl)
      have e51' : s4 5 1 = s 5 1 := (k4.1 5 1 (op_lt (by omega)) rfl rfl).trans e51
      rw [e10, e51']
      exact hA4
    · rw [h12, keep 12, g8]
      unfold agB AGm
      rw [s1, keep 11, g7]
      by_cases cN : N < (σ2 15 (lo + r)).toInt
      · have hs := s3' (s 0 0) 
        have ht : sgT (s3 27 ((s3 5 1).toInt.toNat - m + r)) (s (65 + c) 11) = (σ2 16 (8 * (lo + r) + N.toNat)).toInt := by
          rw [s3' (s (65 + c) 11) (by omega) (by omega), g7]
        rw [ht]
        have hp := hP cN
        generalize (σ2 16 (8 * (lo + r) + N.toNat)).toInt = P at hp
        clear hs ht
        constructor
        · rintro (h | h | h) hy
          · exact h hy.1
          · omega
          · rcases hy.2.2 with hz | hz
            · exact h (Or.inl ⟨hz, hp⟩)
            · exact h (Or.inr hz)
        · intro hy
          by_cases qo : ok
          · refine Or.inr (Or.inr (fun hz => hy ⟨qo, cN, ?_⟩))
            rcases hz with hz | hz
            · exact Or.inl hz.1
            · exact Or.inr hz
          · exact Or.inl qo
      · constructor
        · intro _ hy
          exact cN hy.2.1
        · intro _
          exact Or.inr (Or.inl (by omega))
  · exact xw_bad c0 (hbA (hs.1 c0)) (fun s' h => qb s' h (hbA (hs.1 c0)))
theorem cl_call (hC : CLq kd n S m lo c l σ σ1 r N Hm ok) (hc : c < 480) (hHm : 0 ≤ Hm) (hrm : r < m) (h9 : (σ1 9 (lo + r)).toInt = 2) (k1 : KEr σ σ1) (k3 : KPr σ1 σ3) (f3 : FTq σ1 σ3 (¬ (ok ∧ N = (σ1 15 (lo + r)).toInt) ∨ 60 < 1 + Hm)) :
    EXq kd n S m lo c (l ++ [stp 6 q]) σ σ3 0 (σ1 10 (lo + r)).toInt (1 + Hm) 0 0 0 := by
  intro h0 w hR hf hc7
  have e15 : σ1 0 15 = σ 0 15 := ker_15 k1
  have hbA : BDr σ σ1 0 → BDr σ σ3 0 := fun hb => bd_mono hb e15 (fun hx => f3.2.2 (Or.inl hx)) (fun _ => by decide)
  refine xw_app (xw_mono (hC h0 w hR hf hc7) (fun s hs => ?_) hbA)
  by_cases c0 : (s 6 3).toInt = 0
  · obtain ⟨g1, g2, g3, g4, g5, ⟨z, x, g6⟩, g7, g8⟩ := hs.2 c0
    have o := g3.2.2.1
    obtain ⟨q1, q2, q3, q4, q5, q5b, q6, q7, q8, q9, q10⟩ := o.2.2.2.2.2 r hrm
    obtain ⟨s1, s2, s3'⟩ := q9 (q5.2 (by omega))
    have hdn : (s 5 1).toInt.toNat - m + r < 10100 := by have := o.2.2.1; have := o.2.2.2.1.1; have := o.2.2.2.2.1.2.2.2.1; omega
    refine xw_one (fun _ => xk_call (fun a ha => xt_call (n := s (65 + c) 11) (m := s (65 + c) 12) (sig := s 27 ((s 5 1).toInt.toNat - m + r)) g5 (by omega) c0 g6 rfl rfl (atv_at (g6.2.2.2.2.2.2 (by decide)) hdn) (by omega) (fun s4 k4 e47 hA4 ef => ?_))) (fun hx => absurd c0 hx)
    have eB : ((s (65 + c) 12).toInt ≠ 0 ∨ (s (65 + c) 11).toInt ≠ sgN (s 27 ((s 5 1).toInt.toNat - m + r))) ↔ ¬ (ok ∧ N = (σ1 15 (lo + r)).toInt) := by
      rw [g8, g7, s1]
      exact ⟨fun h hy => h.elim (fun h => h hy.1) (fun h => h hy.2), fun h => by
        by_cases qo : ok
        · exact Or.inr (fun hz => h ⟨qo, hz⟩)
        · exact Or.inl qo⟩
    rw [eB] at ef
    refine ⟨fun hx => ?_, fun hx => ?_⟩
    · have hb := ef.1 hx
      by_cases q15 : (σ 0 15).toInt ≤ 0
      · exact Or.inl ⟨q15, f3.2.2 (Or.inr ⟨hb, by rw [e15]; exact q15⟩)⟩
      · exact Or.inr ⟨by omega, by decide⟩
    · have hb := fun hy => ef.2 hy hx
      refine ⟨nbq_of g1 f3 hb, ?_, Int.not_lt.mp (fun hy => hb (Or.inr hy)), re_xk g3 k4 k3, ste_tr g4 (ste_x k4), e47, 0, hA4⟩
      have := g3.2.2.2.2.2 r hrm
      omega
  · exact xw_bad c0 (hbA (hs.1 c0)) (fun s' h => ⟨fun _ => hbA (hs.1 c0), fun hy => absurd hy h⟩)
end RCM
