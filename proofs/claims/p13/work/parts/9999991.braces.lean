/-! the reference: initials in { } -/
section BRA
variable {w s r s8 s9 σ σ' σ1 τ t : St} {kd vl : Nat → Int} {n S m lo d cnt p q pc p1 : Nat} {vs z : List Nat} {loc ok : Prop} {gc : List Gsq} {l : List Stq} {a1 a2 a3 a4 a5 : Int32} {F0 : Prop}
theorem it_end (c : kd p1 = 23) (h : EVq (fun N => EXn kd N pc) (some (p1, gqs l))) : EVq (fun N => ITn kd N pc) (some (p1 + 1, gqs l ++ [gq (stp 44 p1)], 1)) := ev_up (ev_b h (ev_f (show ¬ kd p1 = 26 by omega) (ev_t c ev_c)))
theorem it_bad (c : kd p1 ≠ 23) (c2 : kd p1 ≠ 26) (h : EVq (fun N => EXn kd N pc) (some (p1, gqs l))) : EVq (fun N => ITn kd N pc) none := ev_up (ev_b h (ev_f c2 (ev_f c ev_c)))
theorem it_mor2 (c : kd p1 = 26) (h : EVq (fun N => EXn kd N pc) (some (p1, gqs l))) : ∀ R, EVq (fun N => ITn kd N (p1 + 1)) R → EVq (fun N => ITn kd N pc) (R.map (fun q => (q.1, gqs l ++ [gq (stp 44 p1)] ++ q.2.1, q.2.2 + 1))) := fun R hR => by
  cases R with
  | none => exact ev_up (ev_b h (ev_t c (ev_b0 hR)))
  | some r => exact ev_up (ev_b h (ev_t c (ev_b hR ev_c)))
/-- what stands before an item -/
def BRb (kd vl : Nat → Int) (n S m lo d p : Nat) (loc : Prop) (ty : Int) (σ τ : St) (vs : List Nat) (x6 x7 : Int32) (s t : St) (z : List Nat) : Prop :=
  ∃ (pc : Nat) (gc : List Gsq) (cnt : Nat) (ok : Prop), p ≤ pc ∧ GMt s n pc ∧ RGs kd vl n S m lo d s ∧ MNq σ s ∧ KEr σ s ∧ TFq τ vs t z ∧ x7.toInt = (cnt : Int) ∧ (x6.toInt ≠ 0 ↔ ok) ∧ cnt ≤ pc ∧ IRq kd n S m lo loc ty gc σ s cnt ok ∧ ∀ R, EVq (fun N => ITn kd N pc) R → EVq (fun N => ITn kd N p) (R.map (fun q => (q.1, gc ++ q.2.1, q.2.2 + cnt)))
/-- what stands behind an item -/
def BRa (kd vl : Nat → Int) (n S m lo d p : Nat) (loc : Prop) (ty : Int) (σ τ : St) (vs : List Nat) (x6 x7 : Int32) (s t : St) (z : List Nat) : Prop :=
  ∃ (pc : Nat) (gc : List Gsq) (cnt : Nat) (ok : Prop), p < pc ∧ GMt s n pc ∧ RGs kd vl n S m lo d s ∧ MNq σ s ∧ KEr σ s ∧ TFq τ vs t z ∧ x7.toInt = (cnt : Int) ∧ (x6.toInt ≠ 0 ↔ ok) ∧ cnt < pc ∧ IRq kd n S m lo loc ty gc σ s (cnt + 1) ok ∧ (kd pc = 26 → ∀ R, EVq (fun N => ITn kd N (pc + 1)) R → EVq (fun N => ITn kd N p) (R.map (fun q => (q.1, gc ++ q.2.1, q.2.2 + (cnt + 1))))) ∧ (kd pc = 23 → EVq (fun N => ITn kd N p) (some (pc + 1, gc, cnt + 1))) ∧ (kd pc ≠ 23 → kd pc ≠ 26 → EVq (fun N => ITn kd N p) none)
theorem br_item {x6 x7 y : Int32} {K T H Z F ty : Int} {X : Int32} {t2 : St} {z2 : List Nat} (hb : BRb kd vl n S m lo d p loc ty σ τ vs x6 x7 s t z) (hpc : ∀ pc, GMt s n pc → EVq (fun N => EXn kd N pc) (some (p1, gqs l)) ∧ pc < p1) (g1 : GMt s9 n p1) (hG9 : RGs kd vl n S m lo d s9) (hm : MNq s s9) (e57 : KEr s s9) (htf : TFq t z t2 z2) (hact : ∀ y, y ∈ l → 1 ≤ y.1 ∧ y.1 ≤ 16) (hvr : VRq K T H Z F) (hex : EXq kd n S m lo 0 l s s8 K T H Z F X) (k8 : Kp [(0, 17), (0, 39)] [8, 25] s8 s9) (hty : 0 ≤ ty) (hy : y.toInt ≠ 0 ↔ x6.toInt ≠ 0 ∧ FIm loc ty T Z F) : BRa kd vl n S m lo d p loc ty σ τ vs y x7 s9 t2 z2 := by
  obtain ⟨pc, gc, cnt, ok, h1, h2, h3, h4, h5, h6, h7, h8, h9, h10, h11⟩ := hb
  obtain ⟨hev, hlt⟩ := hpc pc h2
  have hn := h3.1.1.1
  have hpn := g1.2
  refine ⟨p1, gc ++ (gqs l ++ [gq (stp 44 p1)]), cnt, ok ∧ FIm loc ty T Z F, by omega, g1, hG9, fun hx => hm (h4 hx), kp_tr h5 e57, tf_tr h6 htf, h7, by rw [hy, h8], by omega, ir_step h10 hex hact hvr h3.2.2.2.1 k8 (fun hx => hm hx) hty (by omega), fun c R hR => ?_, fun c => ?_, fun c c2 => ?_⟩
  · have := h11 _ (it_mor2 c hev R hR)
    cases R with
    | none => exact this
    | some r =>
      rw [show ((some r).map (fun q : Nat × List Gsq × Nat => (q.1, gc ++ (gqs l ++ [gq (stp 44 p1)]) ++ q.2.1, q.2.2 + (cnt + 1)))) = some (r.1, gc ++ (gqs l ++ [gq (stp 44 p1)] ++ r.2.1), r.2.2 + 1 + cnt) from by simp [List.append_assoc, Nat.add_comm, Nat.add_left_comm]]
      exact this
  · have := h11 _ (it_end c hev)
    rw [Nat.add_comm cnt 1]
    exact this
  · exact h11 _ (it_bad c c2 hev)
end BRA
