/-! a local more: the whole relation -/
section VMO
variable {w s r σ σ' σ1 s1 s2 τ t : St} {kd vl : Nat → Int} {n S m lo d u Lc : Nat} {vs z : List Nat} {a b c ty ex : Int32} {Q : St → Prop}
theorem rc_more (kr : Kp [(0, 12), (0, 13), (0, 49), (0, 53), (0, 17), (0, 10)] [8, 31, 32, 33, 34, 35, 36] σ σ') : ∀ c, ([8, 31, 32, 33, 34, 35, 36, 0] : List Nat).contains c = false → σ' c = σ c := fun c hn => by
  simp only [List.contains_cons, List.contains_nil, Bool.or_false, Bool.or_eq_false_iff, beq_eq_false_iff_ne, ne_eq] at hn
  refine funext (fun j => kr c j ?_ ?_)
  · simp only [List.contains_cons, List.contains_nil, Bool.or_false, Bool.or_eq_false_iff, beq_eq_false_iff_ne, ne_eq, Prod.mk.injEq, not_and]
    omega
  · simp only [List.contains_cons, List.contains_nil, Bool.or_false, Bool.or_eq_false_iff, beq_eq_false_iff_ne, ne_eq]
    omega
theorem rg_more (hG : RGs kd vl n S m lo d σ) (hS : S < 100) (hLc : Lc < 100) (h49 : (σ 0 49).toInt = (Lc : Int)) (hSL : S ≤ Lc) (hty : 0 ≤ ty.toInt ∧ ty.toInt ≤ 8) (hu : u ≤ n) (ku : kd u = 2) (hau : a.toInt = (u : Int)) (hbu : b.toInt = (Lc : Int))
    (kr : Kp [(0, 12), (0, 13), (0, 49), (0, 53), (0, 17), (0, 10)] [8, 31, 32, 33, 34, 35, 36] σ σ') (h12 : 0 ≤ (σ' 0 12).toInt) (g49 : (σ' 0 49).toInt = (Lc : Int) + 1) (g53 : (σ' 0 53).toInt = (S : Int) + 1) (g31 : ∀ j, σ' 31 j = if j = Lc then ty else σ 31 j) (g34 : ∀ j, σ' 34 j = if j = S then a else σ 34 j) (g35 : ∀ j, σ' 35 j = if j = S then b else σ 35 j) : RGs kd vl n (S + 1) m lo d σ' := by
  have rc := rc_more kr
  obtain ⟨hm, q2, q3, q4, q5⟩ := hG
  obtain ⟨h1, h2, h3, h4, h5, h6, h7, h8, h9, h10, h11, _⟩ := hm
  have g2 := rc 2 rfl
  have g3 := rc 3 rfl
  have g4 := rc 4 rfl
  have g6 := rc 6 rfl
  have g9 := rc 9 rfl
  have g10 := rc 10 rfl
  have g15 := rc 15 rfl
  have g16 := rc 16 rfl
  have g18 := rc 18 rfl
  have g19 := rc 19 rfl
  have g22 := rc 22 rfl
  have e35 : σ' 0 35 = σ 0 35 := kr 0 35 rfl rfl
  have e36 : σ' 0 36 = σ 0 36 := kr 0 36 rfl rfl
  have e37 : σ' 0 37 = σ 0 37 := kr 0 37 rfl rfl
  have tnu := h2 u hu ku
  refine ⟨⟨?_, ?_, ?_, ⟨by rw [g53]; rfl, hS, fun j hj => ?_⟩, ?_, h6, ⟨fun j => ?_, fun j hj => ?_⟩, ?_, fun j => ?_, ?_, ?_, h12⟩, by rw [kr 0 54 rfl rfl]; exact q2, ⟨Lc + 1, by rw [g49]; rfl, by omega, by omega⟩, by rw [kr 0 15 rfl rfl]; exact q4, by rw [g6]; exact q5⟩
  · unfold RTk at h1 ⊢
    rw [g2]
    exact h1
  · unfold TNm at h2 ⊢
    rw [g3, g4]
    exact h2
  · rw [g6]; exact h3
  · have h4' := h4.2.2
    unfold TNm mtk at h4' ⊢
    unfold TNm at tnu
    rw [g3, g4, g34]
    by_cases cj : j = S
    · rw [if_pos cj, hau]
      exact ⟨by omega, tnu⟩
    · rw [if_neg cj]
      exact h4' j (by omega)
  · unfold EOKm at h5 ⊢
    rw [e35, e36, g18, g19, g22, show σ' 0 31 = σ 0 31 from kr 0 31 rfl rfl]
    exact h5
  · rw [g31]
    by_cases cj : j = Lc
    · rw [if_pos cj]; omega
    · rw [if_neg cj]; exact h7.1 j
  · rw [g31]
    by_cases cj : (σ' 35 j).toInt.toNat = Lc
    · rw [if_pos cj]; exact hty.2
    · rw [if_neg cj]
      rw [g35] at cj ⊢
      by_cases cs : j = S
      · rw [if_pos cs, hbu] at cj
        exact absurd rfl cj
      · rw [if_neg cs]
        exact h7.2 j (by omega)
  · rw [g10]; exact h8
  · rw [g35]
    by_cases cs : j = S
    · rw [if_pos cs]; omega
    · rw [if_neg cs]; exact h9 j
  · rw [g9, g10, g15, g16]; exact h10
  · rw [e37]; exact h11
theorem ro_more (hE : REq kd n (S + 1) m lo s σ') (hC : SCq S d w σ) (hL : LCq S w σ) (hR : RTq w σ) (hLc : S ≤ Lc ∧ Lc < 100) (h10 : (w 6 10).toInt = (Lc : Int)) (hd : 1 ≤ d)
    (kw : Ko [(4, 1), (6, 3), (6, 4), (6, 10), (6, 15)] [24, 40, 41, 42, 43, 44, 8] w s) (e7 : (s 7 7).toInt = 0) (e86 : (s 8 6).toInt = -1) (f10 : (s 6 10).toInt = (Lc : Int) + 1) (f44 : ∀ j, s 44 j = if j = S then w 6 10 else w 44 j)
    (kr : Kp [(0, 12), (0, 13), (0, 49), (0, 53), (0, 17), (0, 10)] [8, 31, 32, 33, 34, 35, 36] σ σ') (g49 : (σ' 0 49).toInt = (Lc : Int) + 1) (g36 : ∀ j, σ' 36 j = if j = S then σ 0 54 else σ 36 j) : RSo kd n (S + 1) m lo d 0 s σ' := by
  obtain ⟨c1, c2, c3, c4⟩ := hC
  obtain ⟨Lc', l1, l2, l3, l4, l5⟩ := hL
  have e : Lc' = Lc := by omega
  rw [e] at l5
  have k45 : s 45 = w 45 := ko_rd kw 45 (by decide) rfl (fun _ => rfl)
  have k26 : s 26 = w 26 := ko_rd kw 26 (by decide) rfl (fun _ => rfl)
  refine ⟨hE, by rw [e7]; rfl, ⟨?_, by rw [kr 0 54 rfl rfl]; exact c2, fun i hi => ?_, fun j hj => ?_⟩, ⟨Lc + 1, by rw [f10]; rfl, by rw [g49]; rfl, by omega, by omega, fun j hj => ?_⟩, ?_, e86⟩
  · rw [kw 6 17 (op_lt (by decide)) rfl rfl]
    exact c1
  · rw [k45]
    obtain ⟨i0, i1, i2⟩ := c3 i hi
    refine ⟨i0, by omega, fun j hj => ?_⟩
    rw [g36]
    by_cases cj : j = S
    · rw [if_pos cj, c2, cj]
      exact ⟨fun _ => by omega, fun _ => i1⟩
    · rw [if_neg cj]
      exact i2 j (by omega)
  · rw [g36]
    by_cases cj : j = S
    · rw [if_pos cj, c2]
      omega
    · rw [if_neg cj]
      exact c4 j (by omega)
  · rw [f44]
    by_cases cj : j = S
    · rw [if_pos cj, h10]
      omega
    · rw [if_neg cj]
      have := l5 j (by omega)
      omega
  · unfold RTq
    rw [kw 6 6 (op_lt (by decide)) rfl rfl, k26, kr 0 55 rfl rfl, kr 0 56 rfl rfl]
    exact hR
/-- whatever is looked for -/
theorem xl_sameAny {Q : Int32 → Prop} (kk : ∀ v, Q v) : pk_X10_sameName a b w Q := by
  unfold pk_X10_sameName
  first
  | exact ⟨fun _ => ⟨fun _ => True, trivial, fun _ _ => ⟨fun _ => kk _, fun _ => ⟨fun _ => kk _, fun _ => ⟨fun _ => kk _, fun _ => ⟨fun _ => kk _, fun _ => kk _⟩⟩⟩⟩⟩, fun _ => kk _⟩
  | exact ⟨fun _ => ⟨fun _ => True, trivial, fun _ _ => ⟨fun _ => kk _, fun _ => ⟨fun _ => kk _, fun _ => ⟨fun _ => kk _, fun _ _ _ => ⟨fun _ => trivial, fun _ => kk _⟩⟩⟩⟩⟩, fun _ => kk _⟩
  | exact ⟨fun _ => ⟨fun _ => True, trivial, fun _ _ => ⟨fun _ => kk _, fun _ => ⟨fun c2 => trivial, fun c2 => ⟨fun c3 => trivial, fun c3 _ _ => ⟨fun c4 => trivial, fun c4 => kk _⟩⟩⟩⟩⟩, fun _ => kk _⟩
theorem xl_fromAny {Q : Int32 → Prop} (kk : ∀ v, Q v) : pk_X11_localFrom a b w Q := by
  unfold pk_X11_localFrom
  exact ⟨fun _ => True, trivial, fun _ _ => ⟨fun _ => kk _, fun _ => xl_sameAny (fun _ => ⟨fun _ => trivial, fun _ => kk _⟩)⟩⟩
/-- the class: a [ ] that is wrong -/
theorem xv_bad (hb : SQb w b) (k1 : ∀ s, (s 6 3).toInt ≠ 0 → Q s) : pk_X1_local a b w Q := by
  unfold pk_X1_local pk_X11_scopeStart
  have sq : ∀ s, Kp [(6, 3), (6, 4)] [] w s → pk_X1_checkSquare b s (fun s50 => ((s50 6 3).toInt = 0 → (pk_X11_declareLocal a (s50 8 11) (s50 8 12) (upC s50 8 10 (s50 6 10)) (fun s88 => ((s88 8 12).toInt ≠ -1 → (pk_X0_emit (15 : Int32) (s88 8 10) (s88 8 12) (0 : Int32) s88 (fun v133 s133 => Q s133))) ∧ ((s88 8 12).toInt = -1 → (pk_X0_emit (1 : Int32) (0 : Int32) (0 : Int32) (0 : Int32) s88 (fun v107 s107 => pk_X1_storeLocal s107 (fun s112 => Q s112))))))) ∧ ((s50 6 3).toInt ≠ 0 → (Q s50))) := fun s ks => by
    refine xc_square (fun s4 k4 h4 => ?_)
    have : (s4 6 3).toInt ≠ 0 := h4.2 (Or.inr (by
      unfold SQb at hb ⊢
      rw [ks 8 6 rfl rfl, ks 8 7 rfl rfl]
      exact hb))
    exact ⟨fun c => absurd c this, fun _ => k1 s4 this⟩
  refine xl_fromAny (fun v => ⟨fun s => Kp [(6, 3), (6, 4)] [] w s, fun s ks => ⟨fun s => Kp [(6, 3), (6, 4)] [] w s, fun s ks => sq s ks, fun _ => ks, fun _ => xl_fail (by decide) (fun s2 k2 _ => kp_tr ks k2)⟩, fun _ => kp_rf, fun _ => xl_fail (by decide) (fun s2 k2 _ => k2)⟩)
end VMO
