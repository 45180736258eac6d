/-! compile(), whole -/
section CMP2
variable {σ s z t ρ : St} {n m i j k o d : Nat} {x y v a a1 a2 a3 : Int32}
theorem sk_compile {Q : Int32 → St → Prop} (h : IVx σ o) (k : ∀ v t o', IVx t o' → Q v t) : wk_X12_compile a1 σ Q := by
  have h' := h
  obtain ⟨⟨h1, h1'⟩, h2, h3, h4, ⟨f1, f2, f3⟩, h6, ⟨g1, g2, g3, g4⟩, h8, h9, ha, hb, hc, hi⟩ := h'
  have d0 := de_le h2
  unfold wk_X12_compile
  generalize hσ1 : upC (upC σ 0 1 (0 : Int32)) 0 3 ((-1) : Int32) = σ1
  have r1 : ∀ c, c ≠ 0 → σ1 c = σ c := fun c hc0 => by rw [← hσ1, rdC_ne hc0, rdC_ne hc0]
  have q01 : (σ1 0 1).toInt = 0 := by rw [← hσ1]; rfl
  have q02 : σ1 0 2 = σ 0 2 := by rw [← hσ1]; rfl
  have fd1 : FDx σ1 := by
    unfold FDx
    rw [q01, q02, r1 4 (by decide), r1 5 (by decide)]
    omega
  clear hσ1
  have iv1 : IVx σ1 o := iv_kp h (fun c j hc0 => by rw [r1 c (by omega)]) fd1 (by unfold PLA; rw [r1 15 (by decide)]; exact g1) (by unfold NMr; rw [r1 13 (by decide), r1 14 (by decide), r1 15 (by decide)]; exact g2)
  refine ⟨fun _ => k _ _ o iv1, fun _ => ⟨fun _ => k _ _ o iv1, fun _ => ⟨fun c100 => ?_, fun _ => k _ _ o iv1⟩⟩⟩
  refine sp_scan ⟨f1.1, f1.2.1⟩ (by unfold PLA; rw [r1 15 (by decide)]; exact g1) (by unfold NMr; rw [r1 13 (by decide), r1 14 (by decide), r1 15 (by decide)]; exact g2) (fun s4 k4 z4 te => ?_)
  obtain ⟨tk, pl4, nm4⟩ := te
  have kc : ∀ s5, KG s4 s5 → ∀ c j, c ≠ 2 → c ≠ 3 → ¬ (13 ≤ c ∧ c ≤ 23) → s5 c j = σ1 c j := fun s5 k5 c j c2 c3 c4 => by
    have e1 : s5 c j = s4 c j := k5 c j (by
      simp only [List.contains_cons, List.contains_nil, Bool.or_false, Bool.or_eq_false_iff, beq_eq_false_iff_ne, ne_eq, Prod.mk.injEq, not_and]
      omega) (by
      simp only [List.contains_cons, List.contains_nil, Bool.or_false, Bool.or_eq_false_iff, beq_eq_false_iff_ne, ne_eq]
      omega)
    have e2 : s4 c j = σ1 c j := k4 c j (by
      simp only [List.contains_cons, List.contains_nil, Bool.or_false, Bool.or_eq_false_iff, beq_eq_false_iff_ne, ne_eq, Prod.mk.injEq, not_and]
      omega) (by
      simp only [List.contains_cons, List.contains_nil, Bool.or_false, Bool.or_eq_false_iff, beq_eq_false_iff_ne, ne_eq]
      omega)
    exact e1.trans e2
  have t13 : ∀ s5, KG s4 s5 → s5 13 = s4 13 ∧ s5 14 = s4 14 ∧ s5 15 = s4 15 := fun s5 k5 => ⟨funext (fun j => k5 13 j rfl rfl), funext (fun j => k5 14 j rfl rfl), funext (fun j => k5 15 j rfl rfl)⟩
  have pn : ∀ s5, KG s4 s5 → PLA s5 ∧ NMr s5 := fun s5 k5 => by
    obtain ⟨w1, w2, w3⟩ := t13 s5 k5
    exact ⟨by unfold PLA; rw [w3]; exact pl4, by unfold NMr; rw [w1, w2, w3]; exact nm4⟩
  refine sp_gread tk (fun s5 k5 => ⟨fun z => absurd rfl z, fun _ => ?_⟩) (fun s5 k5 rd => ⟨fun _ => ?_, fun z => absurd z (by decide)⟩)
  · generalize hu : upC s5 0 3 (atv 16002 (s5 15) (s5 3 3)) = u
    have ru : ∀ c j, c ≠ 0 → u c j = s5 c j := fun c j hc0 => by rw [← hu, rdC_ne hc0]
    have u01 : u 0 1 = s5 0 1 := by rw [← hu]; rfl
    have u02 : u 0 2 = s5 0 2 := by rw [← hu]; rfl
    clear hu
    obtain ⟨p1, p2⟩ := pn s5 k5
    have w := kc s5 k5
    refine k _ _ o (iv_kp iv1 (fun c j hc0 => by rw [ru c j (by omega)]; exact w c j (by omega) (by omega) (by omega)) ?_ (fun j => by rw [ru 15 j (by decide)]; exact p1 j) (fun j hj => by rw [ru 13 j (by decide)] at hj; rw [ru 14 j (by decide), ru 15 j (by decide)]; exact p2 j hj))
    unfold FDx
    rw [u01, u02, ru 4 1 (by decide), ru 5 7 (by decide), w 0 1 (by decide) (by decide) (by omega), w 0 2 (by decide) (by decide) (by omega), w 4 1 (by decide) (by decide) (by omega), w 5 7 (by decide) (by decide) (by omega)]
    exact fd1
  · obtain ⟨p1, p2⟩ := pn s5 k5
    have w := kc s5 k5
    have row : ∀ c, c ≠ 2 → c ≠ 3 → ¬ (13 ≤ c ∧ c ≤ 23) → s5 c = σ1 c := fun c c2 c3 c4 => funext (fun j => w c j c2 c3 c4)
    have v5 := row 5 (by decide) (by decide) (by omega)
    have v4 := row 4 (by decide) (by decide) (by omega)
    have v0 := row 0 (by decide) (by decide) (by omega)
    have sz : (s5 2 1).toInt = (σ 0 1).toInt := by rw [show s5 2 1 = s4 2 1 from k5 2 1 rfl rfl]; exact z4
    have dd := d0 o (Nat.le_refl _)
    refine sp_walk rd (by rw [sz]; exact f1.2.1) p2 p1 (by rw [row 1 (by decide) (by decide) (by omega), r1 1 (by decide)]; exact g3) (by rw [v5, r1 5 (by decide)]; omega) (by rw [v4, r1 4 (by decide)]; exact f2.1) (by rw [v4, sz, r1 4 (by decide)]; omega) (by rw [v5, sz, r1 5 (by decide)]; omega) (by unfold NME; rw [v5, row 29 (by decide) (by decide) (by omega), r1 5 (by decide), r1 29 (by decide)]; exact h6) (by rw [row 25 (by decide) (by decide) (by omega), row 27 (by decide) (by decide) (by omega), r1 25 (by decide), r1 27 (by decide)]; exact g4) (fun ρ s kρ o0 wd hz => ?_)
    have e : ∀ c j, (c = 1 ∨ c = 4 ∨ c = 5 ∨ c = 10 ∨ (24 ≤ c ∧ c ≤ 29) ∨ c = 34 ∨ c = 36 ∨ c = 56 ∨ c = 59 ∨ (c = 12 ∧ j = 18) ∨ c = 11) → ρ c j = σ1 c j := fun c j hc0 => by
      have e1 : ρ c j = s5 c j := kρ c j (by
        simp only [List.contains_cons, List.contains_nil, Bool.or_false, Bool.or_eq_false_iff, beq_eq_false_iff_ne, ne_eq, Prod.mk.injEq, not_and]
        omega) rfl
      rw [e1]
      exact w c j (by omega) (by omega) (by omega)
    have kw := wd.1.1
    have s01 : s 0 1 = σ1 0 1 := by rw [kw 0 1 (op_lt (by decide)) rfl rfl, kρ 0 1 rfl rfl, v0]
    have s02 : s 0 2 = σ1 0 2 := by rw [kw 0 2 (op_lt (by decide)) rfl rfl, kρ 0 2 rfl rfl, v0]
    have nms : NMr s := fun j hj => by
      rw [kw 13 j (op_lt (by decide)) rfl rfl, kρ 13 j rfl rfl] at hj
      rw [kw 14 j (op_lt (by decide)) rfl rfl, kρ 14 j rfl rfl, kw 15 j (op_lt (by decide)) rfl rfl, kρ 15 j rfl rfl]
      exact p2 j hj
    refine ⟨fun f0 => ?_, fun _ => sp_forget iv1 e wd.1 nms fd1 s01 s02 (fun t it => ?_)⟩
    · obtain ⟨c1, c2⟩ := hz f0
      have cs := clen_eq wd.1.2.2.2.1
      refine sk_keep iv1 (by omega) e wd.1 nms ?_ (wd.2 f0) (fun v t it => k v t (o + 1) it)
      rw [v4, sz, r1 4 (by decide)] at c1
      rw [v5, sz, r1 5 (by decide)] at c2
      have := wd.1.2.2.2.2.1
      unfold FDx
      rw [s01, s02, q01, q02]
      omega
    · generalize hu : upC t 0 3 (atv 16002 (t 15) (t 6 4)) = u
      have ru : ∀ c j, c ≠ 0 → u c j = t c j := fun c j hc0 => by rw [← hu, rdC_ne hc0]
      have u01 : u 0 1 = t 0 1 := by rw [← hu]; rfl
      have u02 : u 0 2 = t 0 2 := by rw [← hu]; rfl
      clear hu
      have ft := it.2.2.2.2.1
      refine k _ _ o (iv_kp it (fun c j hc0 => ru c j (by omega)) ?_ (fun j => by rw [ru 15 j (by decide)]; exact it.2.2.2.2.2.2.1.1 j) (fun j hj => by rw [ru 13 j (by decide)] at hj; rw [ru 14 j (by decide), ru 15 j (by decide)]; exact it.2.2.2.2.2.2.1.2.1 j hj))
      unfold FDx at ft ⊢
      rw [u01, u02, ru 4 1 (by decide), ru 5 7 (by decide)]
      exact ft
end CMP2
