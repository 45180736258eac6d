/-! sizes: both sides -/
section SIZ
variable {w s r σ σ' s11 : St} {kd vl : Nat → Int} {n S m lo : Nat} {l : List Stq} {Q P : St → Prop} {B : Prop} {K T H Z F : Int} {X : Int32}
theorem xl_topAny {Q : Nat → Prop} (kk : ∀ u, Q u) : pk_X2_top w Q := ⟨fun _ => kk _, fun _ => ⟨fun _ => kk _, fun _ _ => kk _⟩⟩
theorem fr_18 : ¬ FRw 18 := by unfold FRw; decide
theorem fr_19 : ¬ FRw 19 := by unfold FRw; decide
theorem fr_20 : ¬ FRw 20 := by unfold FRw; decide

theorem at_app {α : Type} : ∀ (pre : List α) (y : α) (t : List α), (pre ++ y :: t)[pre.length]? = some y
  | [], _, _ => rfl
  | _ :: pre, y, t => at_app pre y t
theorem ca_walk {a b : Int32} {l0 : List Stq} {R : Int32 → St → Prop} (ha : 0 ≤ a.toInt) (hb : b.toInt = a.toInt + (l0.length : Int)) (hb9 : b.toInt ≤ 32100) (ht : ∀ i y, l0[i]? = some y → (w 18 (a.toInt.toNat + i)).toInt = y.1 ∧ (w 19 (a.toInt.toNat + i)).toInt = (y.2.1 : Int) ∧ (w 20 (a.toInt.toNat + i)).toInt = y.2.2.1) (hX : XW l0 w P B)
    (kk : ∀ s11, FRs w s11 → ((s11 6 3).toInt ≠ 0 ∧ B) ∨ P s11 → ∀ y : Int32, (y.toInt ≠ 0 ↔ (s11 6 3).toInt = 0) → pk_X0_cut (w 4 1) (upC s11 6 3 (0 : Int32)) (fun s72 => pk_X2_top s72 (fun u79 => (y.toInt = 0 → (R (0 : Int32) (upC s72 7 7 (0 : Int32)))) ∧ (y.toInt ≠ 0 → (pk_X6_isConstant u79 (upC s72 7 7 (0 : Int32)) (fun v99 => (v99.toInt = 0 → (R (0 : Int32) (upC s72 7 7 (0 : Int32)))) ∧ (v99.toInt ≠ 0 → (R (if ((upC s72 7 7 (0 : Int32)) u79 8) < (0 : Int32) then (0 : Int32) else ((upC s72 7 7 (0 : Int32)) u79 8)) (upC s72 7 7 (0 : Int32)))))))))) : pk_X7_constant a b w R := by
  unfold pk_X7_constant
  refine ⟨fun x s => ∃ (pre suf : List Stq), l0 = pre ++ suf ∧ x.toInt = a.toInt + (pre.length : Int) ∧ FRs w s ∧ XW suf s P B, ⟨[], l0, rfl, by simp, fr_rf, hX⟩, ?_⟩
  rintro x s ⟨pre, suf, hl, hx, hfr, hW⟩
  have hlen : l0.length = pre.length + suf.length := by rw [hl, List.length_append]
  refine ⟨((s 6 3).toInt ≠ 0 ∧ B) ∨ P s, fun hJ => ⟨fun y => y.toInt ≠ 0 ↔ (s 6 3).toInt = 0, fun y _ hy => kk s hfr hJ y hy, fun c => ⟨fun hx => absurd rfl hx, fun hx => absurd hx c⟩, fun c => ⟨fun _ => c, fun _ => by decide⟩⟩, fun c => ?_, fun c => ?_⟩
  · cases suf with
    | nil => exact Or.inr hW
    | cons y t =>
      simp only [List.length_cons] at hlen
      omega
  · cases suf with
    | nil =>
      simp only [List.length_nil] at hlen
      omega
    | cons y t =>
      simp only [List.length_cons] at hlen
      refine ⟨fun c1 => Or.inl ⟨c1, hW.2 c1⟩, fun c1 => ?_⟩
      have ht' := ht pre.length y (by rw [hl]; exact at_app pre y t)
      have ea : x.toInt = ((a.toInt.toNat + pre.length : Nat) : Int) := by omega
      have h18 : atv 32100 (s 18) x = w 18 (a.toInt.toNat + pre.length) := by rw [hfr 18 fr_18, atv_at ea (by omega)]
      have h19 : atv 32100 (s 19) x = w 19 (a.toInt.toNat + pre.length) := by rw [hfr 19 fr_19, atv_at ea (by omega)]
      have h20 : atv 32100 (s 20) x = w 20 (a.toInt.toNat + pre.length) := by rw [hfr 20 fr_20, atv_at ea (by omega)]
      have g1 := hW.1 c1 x (by rw [h18]; exact ht'.1) (by rw [h19]; exact ht'.2.1) (by rw [h20]; exact ht'.2.2)
      refine cj_wk_X2_take (fun s2 q1 q2 => ⟨pre ++ [y], t, by rw [hl, List.append_assoc]; rfl, ?_, q2, q1⟩) g1 (fr_pk_X2_take hfr (fun _ h => h))
      rw [ad1 (by omega), hx, List.length_append, List.length_cons, List.length_nil]
      omega
end SIZ
