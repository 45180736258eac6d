/-! both sides: one more declared, or once more -/
section OAD
variable {w s r σ σ' σ1 : St} {kd : Nat → Int} {n S m lo u dn d e i : Nat} {sort : Int32}
theorem nar_same {x : Int32} (h : -128 ≤ x.toInt ∧ x.toInt ≤ 127) : vp_nar .byte x = x := by
  rw [vp_nar_byte]
  refine ieq ?_
  have h1 : (x.toInt8.toInt32).toInt = x.toInt8.toInt := by simp
  rw [h1, Int32.toInt_toInt8]
  have e : ((2 ^ 8 : Nat) : Int) = 256 := by decide
  rw [Int.bmod_def, e]
  split <;> omega
theorem byte_rng {f : Nat → Int32} (h : ByteOK f) (k : Nat) : -128 ≤ (f k).toInt ∧ (f k).toInt ≤ 127 := by
  have h1 : (decide (-128 ≤ f k) && decide (f k ≤ 127)) = true := h k
  have e1 : (-128 : Int32).toInt = -128 := by decide
  have e2 : (127 : Int32).toInt = 127 := by decide
  rw [Bool.and_eq_true, decide_eq_true_eq, decide_eq_true_eq, Int32.le_iff_toInt_le, Int32.le_iff_toInt_le, e1, e2] at h1
  exact h1
theorem dcf_n (hd : DCf σ σ1 u e i sort) : ∀ c, c ≠ 0 → c ≠ 9 → c ≠ 13 → c ≠ 14 → c ≠ 21 → c ≠ 18 → c ≠ 19 → c ≠ 20 → σ1 c = σ c := fun c h0 h9 h13 h14 h21 h18 h19 h20 => funext (fun j => hd.1 c j (by
  simp only [List.contains_cons, List.contains_nil, Bool.or_false, Bool.or_eq_false_iff, beq_eq_false_iff_ne, ne_eq, Prod.mk.injEq, not_and]
  omega) (by
  simp only [List.contains_cons, List.contains_nil, Bool.or_false, Bool.or_eq_false_iff, beq_eq_false_iff_ne, ne_eq]
  omega))
/-- the name of the new one -/
theorem ns_new (hT : TKR w σ kd n) (hu : u ≤ n) (ku : kd u = 2) (hb : ByteOK (w 1)) (hd : DCf σ σ1 u e i sort) (h31 : 0 ≤ (σ 0 31).toInt) (g18 : σ' 18 = σ1 18) (g19 : σ' 19 = σ1 19) (g20 : σ' 20 = σ1 20) (g1 : σ' 1 = σ 1) (g3 : σ' 3 = σ 3) (g4 : σ' 4 = σ 4) : NSm σ' e u := by
  obtain ⟨k, _, _, _, _, _, _, _, d18, d19, d20a, d20⟩ := hd
  obtain ⟨t1, t2, t3, t4, t5, t6⟩ := hT.2.2.2.1 u hu ku
  unfold NSm
  rw [g18, g19, g20, g1, g3, g4, d18, d19, if_pos rfl, if_pos rfl]
  refine ⟨sb (by omega) (by omega), fun q hq => ?_⟩
  rw [d20 q hq]
  have hb2 := byte_rng hb ((σ 3 u).toInt.toNat + q)
  have := hT.2.2.1 ((σ 3 u).toInt.toNat + q) (by omega)
  rw [nar_same (by omega)]
theorem ou_add (hO : OUR w σ kd n m lo) (hm : m < 100) (hl : lo + m < 10000) (c67 : (s 6 7).toInt = (m : Int) + 1) (c51 : (s 5 1).toInt = (w 5 1).toInt + 1) (c57 : (s 5 7).toInt = (w 5 7).toInt + ((σ 4 u).toInt - (σ 3 u).toInt)) (hlen : 0 ≤ (σ 4 u).toInt - (σ 3 u).toInt ∧ (σ 4 u).toInt - (σ 3 u).toInt ≤ 16000)
    (c38 : ∀ j, j < m → (s 38 j).toInt = (w 38 j).toInt) (c39 : ∀ j, j < m → s 39 j = w 39 j) (c25 : ∀ j, j ≠ (w 5 1).toInt.toNat → s 25 j = w 25 j ∧ s 26 j = w 26 j ∧ s 27 j = w 27 j ∧ s 28 j = w 28 j)
    (hd : DCf σ σ1 u (lo + m) m sort) (k1 : Kp [(0, 10), (0, 12), (0, 13), (0, 37)] [10, 11, 12, 13, 15, 16, 17] σ1 σ') (r10 : ∀ j, j ≠ lo + m → σ' 10 j = σ 10 j) (r11 : ∀ j, j ≠ lo + m → σ' 11 j = σ 11 j) (r12 : ∀ j, j ≠ lo + m → σ' 12 j = σ 12 j) (r13 : ∀ j, j ≠ lo + m → σ' 13 j = σ 13 j) (r15 : ∀ j, j ≠ lo + m → σ' 15 j = σ 15 j) (r16 : ∀ x, x < 8 * (lo + m) → σ' 16 x = σ 16 x) (r17 : ∀ j, j ≠ lo + m → σ' 17 j = σ 17 j)
    (hnew : ORR s σ' kd n m (w 5 1).toInt.toNat (lo + m)) : OUR s σ' kd n (m + 1) lo := by
  obtain ⟨o1, o2, o3, ⟨o4, o4b⟩, ⟨q1, q2, q3, q4, q5, q6, q7, q8⟩, o6⟩ := hO
  have nn := dcf_n hd
  obtain ⟨k0, d36, d31, d31b, d9, d13, d14, d21, d18, d19, d20a, d20⟩ := hd
  have kx : ∀ c, c ≠ 0 → c ≠ 10 → c ≠ 11 → c ≠ 12 → c ≠ 13 → c ≠ 15 → c ≠ 16 → c ≠ 17 → σ' c = σ1 c := fun c h0 h1 h2 h3 h4 h5 h6 h7 => funext (fun j => k1 c j (by
    simp only [List.contains_cons, List.contains_nil, Bool.or_false, Bool.or_eq_false_iff, beq_eq_false_iff_ne, ne_eq, Prod.mk.injEq, not_and]
    omega) (by
    simp only [List.contains_cons, List.contains_nil, Bool.or_false, Bool.or_eq_false_iff, beq_eq_false_iff_ne, ne_eq]
    omega))
  have g1 : σ' 1 = σ 1 := (kx 1 (by decide) (by decide) (by decide) (by decide) (by decide) (by decide) (by decide) (by decide)).trans (nn 1 (by decide) (by decide) (by decide) (by decide) (by decide) (by decide) (by decide) (by decide))
  have g3 : σ' 3 = σ 3 := (kx 3 (by decide) (by decide) (by decide) (by decide) (by decide) (by decide) (by decide) (by decide)).trans (nn 3 (by decide) (by decide) (by decide) (by decide) (by decide) (by decide) (by decide) (by decide))
  have g4 : σ' 4 = σ 4 := (kx 4 (by decide) (by decide) (by decide) (by decide) (by decide) (by decide) (by decide) (by decide)).trans (nn 4 (by decide) (by decide) (by decide) (by decide) (by decide) (by decide) (by decide) (by decide))
  have g22 : σ' 22 = σ 22 := (kx 22 (by decide) (by decide) (by decide) (by decide) (by decide) (by decide) (by decide) (by decide)).trans (nn 22 (by decide) (by decide) (by decide) (by decide) (by decide) (by decide) (by decide) (by decide))
  have g9 : σ' 9 = σ1 9 := kx 9 (by decide) (by decide) (by decide) (by decide) (by decide) (by decide) (by decide) (by decide)
  have g14 : σ' 14 = σ1 14 := kx 14 (by decide) (by decide) (by decide) (by decide) (by decide) (by decide) (by decide) (by decide)
  have g18 : σ' 18 = σ1 18 := kx 18 (by decide) (by decide) (by decide) (by decide) (by decide) (by decide) (by decide) (by decide)
  have g19 : σ' 19 = σ1 19 := kx 19 (by decide) (by decide) (by decide) (by decide) (by decide) (by decide) (by decide) (by decide)
  have g20 : σ' 20 = σ1 20 := kx 20 (by decide) (by decide) (by decide) (by decide) (by decide) (by decide) (by decide) (by decide)
  have g21 : σ' 21 = σ1 21 := kx 21 (by decide) (by decide) (by decide) (by decide) (by decide) (by decide) (by decide) (by decide)
  have e35 : σ' 0 35 = σ 0 35 := (k1 0 35 rfl rfl).trans (k0 0 35 rfl rfl)
  have e36 : σ' 0 36 = σ1 0 36 := k1 0 36 rfl rfl
  have e31 : σ' 0 31 = σ1 0 31 := k1 0 31 rfl rfl
  have e19 : ((σ 4 u) - (σ 3 u)).toInt = (σ 4 u).toInt - (σ 3 u).toInt := sb (by omega) (by omega)
  clear k0 k1 kx nn
  have eb : (s 5 1).toInt.toNat - (m + 1) = (w 5 1).toInt.toNat - m := by omega
  refine ⟨by rw [c67]; rfl, by omega, by omega, ⟨by omega, by rw [e31]; omega⟩, ⟨?_, ?_, by omega, by omega, fun e h1 h2 => ?_, ?_, ?_, fun e h1 h2 => ?_⟩, fun i hi => ?_⟩
  · rw [e35, g22]; exact q1
  · rw [e36, d36]; omega
  · rw [g18, g19, d18, d19]
    by_cases ce : e = lo + m
    · rw [if_pos ce, if_pos ce, e19]; omega
    · rw [if_neg ce, if_neg ce]; exact q5 e h1 (by omega)
  · rw [e31]; omega
  · rw [e31]; exact d31b
  · rw [g18, g19, d18, d19, e31]
    by_cases ce : e = lo + m
    · rw [if_pos ce, if_pos ce, e19]; omega
    · rw [if_neg ce, if_neg ce]
      have := q8 e h1 (by omega)
      omega
  · rw [eb]
    by_cases ci : i = m
    · rw [ci, show (w 5 1).toInt.toNat - m + m = (w 5 1).toInt.toNat from by omega]
      exact hnew
    · have hi' : i < m := by omega
      have hne : (w 5 1).toInt.toNat - m + i ≠ (w 5 1).toInt.toNat := by omega
      have hle : lo + i ≠ lo + m := by omega
      obtain ⟨e25, e26, e27, e28⟩ := c25 _ hne
      obtain ⟨p1, p2, p3, p4, p5, p6, p7, p8, p9, p10, p11, p12, p13, p14, p15, p16, p17, p18⟩ := o6 i hi'
      have eo : otk s i = otk w i := by unfold otk; rw [c38 i hi']
      have fl : ∀ b, FLq s ((w 5 1).toInt.toNat - m + i) b ↔ FLq w ((w 5 1).toInt.toNat - m + i) b := fun b => fl_same e25
      unfold ORR
      rw [eo, c38 i hi', c39 i hi', fl, fl, fl, fl, e26, e27, e28, g9, g14, g21, d9, d14, d21, r10 _ hle, r11 _ hle, r12 _ hle, r13 _ hle, r15 _ hle, r17 _ hle, if_neg hle, if_neg hle, if_neg ci]
      refine ⟨p1, p2, p3, ?_, p5, p6, p7, p8, p9, fun hf => ⟨(p10 hf).1, (p10 hf).2.1, fun k h0 hk => ?_⟩, p11, p12, p13, p14, p15, p16, p17, p18⟩
      · have q5' := q5 (lo + i) (by omega) (by omega)
        have q8' := q8 (lo + i) (by omega) (by omega)
        unfold NSm at p4 ⊢
        rw [g18, g19, g20, g1, g3, g4, d18, d19, if_neg hle, if_neg hle]
        refine ⟨p4.1, fun q hq => ?_⟩
        rw [d20a _ (by have := p4.1; omega)]
        exact p4.2 q hq
      · have h15 := (p10 hf).2.1
        rw [r16 _ (by omega)]
        exact (p10 hf).2.2 k h0 hk
theorem ou_upd (hO : OUR w σ kd n m lo) (hr : i < m) (c67 : s 6 7 = w 6 7) (c51 : s 5 1 = w 5 1) (c57 : s 5 7 = w 5 7) (c38 : s 38 = w 38) (c39 : s 39 = w 39) (c25 : ∀ j, j ≠ (w 5 1).toInt.toNat - m + i → s 25 j = w 25 j ∧ s 26 j = w 26 j ∧ s 27 j = w 27 j ∧ s 28 j = w 28 j)
    (k1 : Kp [(0, 10), (0, 12), (0, 13), (0, 37)] [11, 13, 17] σ σ') (r11 : ∀ j, j ≠ lo + i → σ' 11 j = σ 11 j) (r13 : ∀ j, j ≠ lo + i → σ' 13 j = σ 13 j) (r17 : ∀ j, j ≠ lo + i → σ' 17 j = σ 17 j)
    (hnew : ORR s σ' kd n i ((w 5 1).toInt.toNat - m + i) (lo + i)) : OUR s σ' kd n m lo := by
  obtain ⟨o1, o2, o3, ⟨o4, o4b⟩, o5, o6⟩ := hO
  have kx : ∀ c, c ≠ 0 → c ≠ 11 → c ≠ 13 → c ≠ 17 → σ' c = σ c := fun c h0 h1 h2 h3 => funext (fun j => k1 c j (by
    simp only [List.contains_cons, List.contains_nil, Bool.or_false, Bool.or_eq_false_iff, beq_eq_false_iff_ne, ne_eq, Prod.mk.injEq, not_and]
    omega) (by
    simp only [List.contains_cons, List.contains_nil, Bool.or_false, Bool.or_eq_false_iff, beq_eq_false_iff_ne, ne_eq]
    omega))
  have g1 := kx 1 (by decide) (by decide) (by decide) (by decide)
  have g3 := kx 3 (by decide) (by decide) (by decide) (by decide)
  have g4 := kx 4 (by decide) (by decide) (by decide) (by decide)
  have g9 := kx 9 (by decide) (by decide) (by decide) (by decide)
  have g10 := kx 10 (by decide) (by decide) (by decide) (by decide)
  have g12 := kx 12 (by decide) (by decide) (by decide) (by decide)
  have g14 := kx 14 (by decide) (by decide) (by decide) (by decide)
  have g15 := kx 15 (by decide) (by decide) (by decide) (by decide)
  have g16 := kx 16 (by decide) (by decide) (by decide) (by decide)
  have g18 := kx 18 (by decide) (by decide) (by decide) (by decide)
  have g19 := kx 19 (by decide) (by decide) (by decide) (by decide)
  have g20 := kx 20 (by decide) (by decide) (by decide) (by decide)
  have g21 := kx 21 (by decide) (by decide) (by decide) (by decide)
  have g22 := kx 22 (by decide) (by decide) (by decide) (by decide)
  have e35 : σ' 0 35 = σ 0 35 := k1 0 35 rfl rfl
  have e36 : σ' 0 36 = σ 0 36 := k1 0 36 rfl rfl
  have e31 : σ' 0 31 = σ 0 31 := k1 0 31 rfl rfl
  clear k1 kx
  refine ⟨by rw [c67]; exact o1, o2, by rw [c51]; exact o3, ⟨by rw [c51]; exact o4, by rw [c57, e31]; exact o4b⟩, ?_, fun j hj => ?_⟩
  · unfold EOKm at o5 ⊢
    rw [e35, e36, e31, g22, g18, g19]
    exact o5
  · rw [c51]
    by_cases cj : j = i
    · rw [cj]; exact hnew
    · have hne : (w 5 1).toInt.toNat - m + j ≠ (w 5 1).toInt.toNat - m + i := by omega
      have hle : lo + j ≠ lo + i := by omega
      obtain ⟨e25, e26, e27, e28⟩ := c25 _ hne
      have o6' := o6 j hj
      have eo : otk s j = otk w j := by unfold otk; rw [c38]
      have fl : ∀ b, FLq s ((w 5 1).toInt.toNat - m + j) b ↔ FLq w ((w 5 1).toInt.toNat - m + j) b := fun b => fl_same e25
      unfold ORR NSm at o6' ⊢
      rw [eo, c38, c39, fl, fl, fl, fl, e26, e27, e28, g1, g3, g4, g9, g10, g12, g14, g15, g16, g18, g19, g20, g21, r11 _ hle, r13 _ hle, r17 _ hle]
      exact o6'
/-- texts and locals are as they were -/
theorem tk_fr (h : TKR w σ kd n) (c1 : s 1 = w 1) (c13 : s 13 = w 13) (c14 : s 14 = w 14) (c15 : s 15 = w 15) (g1 : σ' 1 = σ 1) (g2 : σ' 2 = σ 2) (g3 : σ' 3 = σ 3) (g4 : σ' 4 = σ 4) (g6 : σ' 6 = σ 6) : TKR s σ' kd n := by
  unfold TKR RTk TNm at h ⊢
  rw [c1, c13, c14, c15, g1, g2, g3, g4, g6]
  exact h
theorem lo_fr (h : LOR w σ kd n S) (c40 : s 40 = w 40) (c41 : s 41 = w 41) (c42 : s 42 = w 42) (c44 : s 44 = w 44) (f15 : s 6 15 = w 6 15) (g31 : σ' 31 = σ 31) (g32 : σ' 32 = σ 32) (g34 : σ' 34 = σ 34) (g35 : σ' 35 = σ 35) (e53 : σ' 0 53 = σ 0 53) : LOR s σ' kd n S := by
  unfold LOR mtk at h ⊢
  rw [c40, c41, c42, c44, f15, g31, g32, g34, g35, e53]
  exact h
end OAD
