/-! a local variable is declared: both sides -/
section VDC
variable {w s r σ σ' σ1 s1 s2 τ t : St} {kd vl : Nat → Int} {n S m lo d u Lc : Nat} {vs z : List Nat} {a b c ty ex : Int32} {Q : St → Prop}
theorem xl_declareLocal (h10 : (w 6 10).toInt = (Lc : Int)) (hLc : Lc < 100) (h15 : (w 6 15).toInt = (S : Int)) (hS : S < 100) (kk : ∀ s, Kp [(6, 10), (6, 15)] [40, 41, 42, 43, 44] w s → (s 6 10).toInt = (Lc : Int) + 1 → (s 6 15).toInt = (S : Int) + 1 → (∀ j, s 40 j = if j = Lc then a else w 40 j) → (∀ j, s 41 j = if j = Lc then b else w 41 j) → (∀ j, s 42 j = if j = Lc then c else w 42 j) → (∀ j, s 44 j = if j = S then w 6 10 else w 44 j) → Q s) : pk_X11_declareLocal a b c w Q := by
  unfold pk_X11_declareLocal
  refine ⟨fun _ => True, fun y _ _ => ?_, fun _ => trivial, fun _ => trivial⟩
  refine kk _ (kp_f (kp_f (kp_F (kp_F (kp_F (kp_F (kp_F kp_rf rfl) rfl) rfl) rfl) rfl) rfl) rfl) ?_ ?_ (fun j => ?_) (fun j => ?_) (fun j => ?_) (fun j => ?_)
  · rw [rdA_ne (by decide), rdA_eq rfl, ad1 (by omega), h10]
  · rw [rdA_eq rfl, ad1 (by omega), h15]
  · rw [rdC_ne (by decide), rdC_ne (by decide), rdF_ne (by decide), rdF_ne (by decide), rdF_ne (by decide), rdF_ne (by decide), rdF_eq, setv_at h10 hLc]
  · rw [rdC_ne (by decide), rdC_ne (by decide), rdF_ne (by decide), rdF_ne (by decide), rdF_ne (by decide), rdF_eq, setv_at h10 hLc, rdF_ne (by decide)]
  · rw [rdC_ne (by decide), rdC_ne (by decide), rdF_ne (by decide), rdF_ne (by decide), rdF_eq, setv_at h10 hLc, rdF_ne (by decide), rdF_ne (by decide)]
  · rw [rdC_ne (by decide), rdC_ne (by decide), rdF_eq, setv_at h15 hS, rdF_ne (by decide), rdF_ne (by decide), rdF_ne (by decide), rdF_ne (by decide)]
/-- the class's step of a local variable -/
theorem xv_local (hE : REq kd n S m lo w σ) (hC : SCq S d w σ) (hd : 1 ≤ d ∧ d ≤ 26) (h10 : (w 6 10).toInt = (Lc : Int)) (hLc : S ≤ Lc ∧ Lc ≤ 100) (hf : (w 6 3).toInt = 0) (ha : a.toInt = (u : Int)) (hu : u ≤ n) (ku : kd u = 2)
    (k1 : ∀ s, (s 6 3).toInt ≠ 0 → HHm σ S d u ∨ Lc = 100 ∨ SQb w b → Q s)
    (k0 : ¬ (HHm σ S d u ∨ Lc = 100 ∨ SQb w b) → ∀ s, Kp [(4, 1), (6, 3), (6, 4), (6, 10), (6, 15), (8, 10)] [24, 40, 41, 42, 43, 44] w s → (s 6 3).toInt = 0 → (s 8 10).toInt = (Lc : Int) → (s 6 10).toInt = (Lc : Int) + 1 → (s 6 15).toInt = (S : Int) + 1 → (∀ j, s 40 j = if j = Lc then a else w 40 j) → (∀ j, s 41 j = if j = Lc then w 8 11 else w 41 j) → (∀ j, s 42 j = if j = Lc then w 8 12 else w 42 j) → (∀ j, s 44 j = if j = S then w 6 10 else w 44 j) → Q s) : pk_X1_local a b w Q := by
  obtain ⟨c1, c2, c3, c4⟩ := hC
  obtain ⟨b0, b1, b2⟩ := c3 (d - 1) (by omega)
  have hh := held_alike hE.1 hE.2.1 ⟨c1, c2, c3, c4⟩ hd.1 hu ku
  unfold pk_X1_local pk_X11_scopeStart
  have es : atv 52 (w 45) ((w 6 17) - (1 : Int32)) = w 45 (d - 1) := atv_at (by rw [sb1 (by omega), c1]; omega) (by omega)
  rw [es]
  refine xl_localFrom (S := S) (lo := (w 45 (d - 1)).toInt.toNat) (u := u) (by omega) ha (tn_class hE.1 (by have := hE.1.1.1; omega) hu ku) (lo_class hE.1 hE.2.1) (fun v hv => ?_)
  have nh : v.toInt < 0 ↔ ¬ HHm σ S d u := by
    rw [← hh]
    rcases hv with ⟨j, j1, j2, j3, j4, j5⟩ | ⟨j1, j2⟩
    · have := (hE.2.1.2.2.2.1 j j2).2.1
      exact ⟨fun h => by omega, fun h => absurd ⟨j, j1, j2, j3⟩ h⟩
    · exact ⟨fun _ ⟨j, q1, q2, q3⟩ => j1 j q1 q2 q3, fun _ => by omega⟩
  refine ⟨fun s => Kp [(6, 3), (6, 4)] [] w s ∧ ((s 6 3).toInt ≠ 0 ↔ HHm σ S d u), ?_, fun c => ⟨kp_rf, fun h => absurd hf h, fun h => absurd h (nh.1 c)⟩, fun c => xl_fail (by decide) (fun s ks hs => ⟨ks, fun _ => Classical.byContradiction (fun hn => by have := nh.2 hn; omega), fun _ => hs⟩)⟩
  rintro s ⟨ks, hs⟩
  refine ⟨fun s => Kp [(6, 3), (6, 4)] [] w s ∧ ((s 6 3).toInt ≠ 0 ↔ HHm σ S d u ∨ Lc = 100), ?_, fun c => ⟨ks, ?_⟩, fun c => xl_fail (by decide) (fun s2 k2 h2 => ⟨kp_tr ks k2, fun _ => Or.inr ?_, fun _ => h2⟩)⟩
  · rintro s3 ⟨k3, h3⟩
    refine xc_square (fun s4 k4 h4 => ?_)
    have kz : Kp [(6, 3), (6, 4)] [] w s4 := kp_tr k3 k4
    have sq : SQb s3 b ↔ SQb w b := by
      unfold SQb
      rw [k3 8 6 rfl rfl, k3 8 7 rfl rfl]
    rw [sq, h3] at h4
    replace h4 : (s4 6 3).toInt ≠ 0 ↔ HHm σ S d u ∨ Lc = 100 ∨ SQb w b := h4.trans ⟨fun h => h.elim (fun h => h.elim Or.inl (fun h => Or.inr (Or.inl h))) (fun h => Or.inr (Or.inr h)), fun h => h.elim (fun h => Or.inl (Or.inl h)) (fun h => h.elim (fun h => Or.inl (Or.inr h)) Or.inr)⟩
    refine ⟨fun c0 => ?_, fun c0 => k1 s4 c0 (h4.1 c0)⟩
    have nb : ¬ (HHm σ S d u ∨ Lc = 100 ∨ SQb w b) := fun hx => h4.2 hx c0
    have hLc2 : Lc < 100 := by
      have : ¬ Lc = 100 := fun hx => nb (Or.inr (Or.inl hx))
      omega
    have k5 : Kp [(6, 3), (6, 4), (8, 10)] [] w (upC s4 8 10 (s4 6 10)) := kp_f (kp_sub kz rfl rfl) rfl
    have e810 : (upC s4 8 10 (s4 6 10)) 8 10 = w 6 10 := by rw [rdA_eq rfl, kz 6 10 rfl rfl]
    have e63 : ((upC s4 8 10 (s4 6 10)) 6 3).toInt = 0 := by rw [rdC_ne (by decide)]; exact c0
    rw [kz 8 11 rfl rfl, kz 8 12 rfl rfl]
    generalize upC s4 8 10 (s4 6 10) = s5 at k5 e810 e63
    refine xl_declareLocal (Lc := Lc) (S := S) (by rw [k5 6 10 rfl rfl]; exact h10) hLc2 (by rw [k5 6 15 rfl rfl]; exact hE.2.1.1) (by omega) (fun s6 k6 f10 f15 f40 f41 f42 f44 => ?_)
    have fin : ∀ s7, Kp [(4, 1)] [24] s6 s7 → Q s7 := fun s7 k7 => by
      have kk : Kp [(4, 1), (6, 3), (6, 4), (6, 10), (6, 15), (8, 10)] [24, 40, 41, 42, 43, 44] w s7 := kp_tr (kp_tr (kp_sub k5 rfl rfl) (kp_sub k6 rfl rfl)) (kp_sub k7 rfl rfl)
      refine k0 nb s7 kk ?_ ?_ ?_ ?_ (fun j => ?_) (fun j => ?_) (fun j => ?_) (fun j => ?_)
      · rw [k7 6 3 rfl rfl, k6 6 3 rfl rfl]; exact e63
      · rw [k7 8 10 rfl rfl, k6 8 10 rfl rfl, e810]; exact h10
      · rw [k7 6 10 rfl rfl]; exact f10
      · rw [k7 6 15 rfl rfl]; exact f15
      · rw [k7 40 j rfl rfl, f40, k5 40 j rfl rfl]
      · rw [k7 41 j rfl rfl, f41, k5 41 j rfl rfl]
      · rw [k7 42 j rfl rfl, f42, k5 42 j rfl rfl]
      · rw [k7 44 j rfl rfl, f44, k5 44 j rfl rfl, k5 6 10 rfl rfl]
    unfold pk_X1_storeLocal
    exact ⟨fun _ => xl_emit (fun _ s7 k7 => fin s7 k7), fun _ => xl_emit (fun _ s7 k7 => xl_emit (fun _ s8 k8 => xl_emit (fun _ s9 k9 => fin s9 (kp_tr (kp_tr k7 k8) k9))))⟩
  · rw [ks 6 10 rfl rfl, h10] at c
    rw [hs]
    exact ⟨fun h => Or.inl h, fun h => h.elim id (fun h => by omega)⟩
  · rw [ks 6 10 rfl rfl, h10] at c
    omega
/-- both sides alike, a local more -/
theorem re_more (hE : REq kd n S m lo w σ) (hLc : S ≤ Lc ∧ Lc < 100) (h44 : ∀ j, j < S → (w 44 j).toInt < (Lc : Int)) (h10 : (w 6 10).toInt = (Lc : Int)) (hty : 0 ≤ ty.toInt ∧ ty.toInt ≤ 8) (hu : u ≤ n) (ku : kd u = 2) (hau : a.toInt = (u : Int)) (hbu : b.toInt = (Lc : Int))
    (kw : Ko [(4, 1), (6, 3), (6, 4), (6, 10), (6, 15)] [24, 40, 41, 42, 43, 44, 8] w s) (f15 : (s 6 15).toInt = (S : Int) + 1) (f40 : ∀ j, s 40 j = if j = Lc then a else w 40 j) (f41 : ∀ j, s 41 j = if j = Lc then ty else w 41 j) (f42 : ∀ j, s 42 j = if j = Lc then ex else w 42 j) (f44 : ∀ j, s 44 j = if j = S then w 6 10 else w 44 j)
    (kr : Kp [(0, 12), (0, 13), (0, 49), (0, 53), (0, 17), (0, 10)] [8, 31, 32, 33, 34, 35, 36] σ σ') (g53 : (σ' 0 53).toInt = (S : Int) + 1) (g31 : ∀ j, σ' 31 j = if j = Lc then ty else σ 31 j) (g32 : ∀ j, j ≠ Lc → σ' 32 j = σ 32 j) (g32L : (σ' 32 Lc).toInt < 0 ↔ ex.toInt < 0) (g34 : ∀ j, σ' 34 j = if j = S then a else σ 34 j) (g35 : ∀ j, σ' 35 j = if j = S then b else σ 35 j) : REq kd n (S + 1) m lo s σ' := by
  obtain ⟨h1, h2, h3, h4, h5⟩ := hE
  have kc : ∀ c, c < 47 → ([24, 40, 41, 42, 43, 44, 8, 4, 6] : List Nat).contains c = false → s c = w c := fun c hc hn => by
    simp only [List.contains_cons, List.contains_nil, Bool.or_false, Bool.or_eq_false_iff, beq_eq_false_iff_ne, ne_eq] at hn
    refine funext (fun j => kw c j (op_lt hc) ?_ ?_)
    · simp only [List.contains_cons, List.contains_nil, Bool.or_false, Bool.or_eq_false_iff, beq_eq_false_iff_ne, ne_eq, Prod.mk.injEq, not_and]
      omega
    · simp only [List.contains_cons, List.contains_nil, Bool.or_false, Bool.or_eq_false_iff, beq_eq_false_iff_ne, ne_eq]
      omega
  have rc : ∀ c, ([8, 31, 32, 33, 34, 35, 36, 0] : List Nat).contains c = false → σ' c = σ c := fun c hn => by
    simp only [List.contains_cons, List.contains_nil, Bool.or_false, Bool.or_eq_false_iff, beq_eq_false_iff_ne, ne_eq] at hn
    refine funext (fun j => kr c j ?_ ?_)
    · simp only [List.contains_cons, List.contains_nil, Bool.or_false, Bool.or_eq_false_iff, beq_eq_false_iff_ne, ne_eq, Prod.mk.injEq, not_and]
      omega
    · simp only [List.contains_cons, List.contains_nil, Bool.or_false, Bool.or_eq_false_iff, beq_eq_false_iff_ne, ne_eq]
      omega
  have c1 := kc 1 (by decide) rfl
  have c5 := kc 5 (by decide) rfl
  have c13 := kc 13 (by decide) rfl
  have c14 := kc 14 (by decide) rfl
  have c15 := kc 15 (by decide) rfl
  have c25 := kc 25 (by decide) rfl
  have c26 := kc 26 (by decide) rfl
  have c27 := kc 27 (by decide) rfl
  have c28 := kc 28 (by decide) rfl
  have c38 := kc 38 (by decide) rfl
  have c39 := kc 39 (by decide) rfl
  have f7 : s 6 7 = w 6 7 := kw 6 7 (op_lt (by decide)) rfl rfl
  have f5 : s 6 5 = w 6 5 := kw 6 5 (op_lt (by decide)) rfl rfl
  have g1 := rc 1 rfl
  have g2 := rc 2 rfl
  have g3 := rc 3 rfl
  have g4 := rc 4 rfl
  have g6 := rc 6 rfl
  have g9 := rc 9 rfl
  have g10 := rc 10 rfl
  have g11 := rc 11 rfl
  have g12 := rc 12 rfl
  have g13 := rc 13 rfl
  have g14 := rc 14 rfl
  have g15 := rc 15 rfl
  have g16 := rc 16 rfl
  have g17 := rc 17 rfl
  have g18 := rc 18 rfl
  have g19 := rc 19 rfl
  have g20 := rc 20 rfl
  have g21 := rc 21 rfl
  have g22 := rc 22 rfl
  have e35 : σ' 0 35 = σ 0 35 := kr 0 35 rfl rfl
  have e36 : σ' 0 36 = σ 0 36 := kr 0 36 rfl rfl
  have e37 : σ' 0 37 = σ 0 37 := kr 0 37 rfl rfl
  have t1 : TKR s σ' kd n := by
    unfold TKR RTk TNm at h1 ⊢
    rw [c1, c13, c14, c15, g1, g2, g3, g4, g6]
    exact h1
  have t3 : OUR s σ' kd n m lo := by
    unfold OUR ORR FLq NSm EOKm otk at h3 ⊢
    rw [c5, c25, c26, c27, c28, c38, c39, f7, g1, g3, g4, g9, g10, g11, g12, g13, g14, g15, g16, g17, g18, g19, g20, g21, g22, e35, e36, show σ' 0 31 = σ 0 31 from kr 0 31 rfl rfl]
    exact h3
  have ev : ∀ j, j < S → s 44 j = w 44 j := fun j hj => by rw [f44, if_neg (by omega)]
  have eS : (s 44 S).toInt = (Lc : Int) := by rw [f44, if_pos rfl]; exact h10
  have nS : (s 44 S).toInt.toNat = Lc := by rw [eS]; rfl
  refine ⟨t1, ⟨f15, g53, by omega, fun j hj => ?_, fun j hj => ?_⟩, t3, by rw [f5, e37]; exact h4, ⟨fun j hj => ?_, fun i hi => ?_⟩⟩
  · by_cases cj : j = S
    · rw [cj]
      unfold mtk
      rw [nS, eS, f40, if_pos rfl, g35, if_pos rfl, g34, if_pos rfl, hau, hbu]
      exact ⟨rfl, by omega, by omega, rfl, by omega, hu, ku⟩
    · have hj' : j < S := by omega
      obtain ⟨q1, q2, q3, q4, q5, q6, q7⟩ := h2.2.2.2.1 j hj'
      have q8 := h44 j hj'
      have em : mtk σ' j = mtk σ j := by unfold mtk; rw [g34, if_neg cj]
      rw [ev j hj', g35, if_neg cj, g34, if_neg cj, f40, if_neg (by omega), em]
      exact ⟨q1, q2, q3, q4, q5, q6, q7⟩
  · by_cases cj : j = S
    · rw [cj, nS, f41, if_pos rfl, f42, if_pos rfl, g31, if_pos rfl]
      exact ⟨rfl, g32L.symm⟩
    · have hj' : j < S := by omega
      obtain ⟨q1, q2, q3, _⟩ := h2.2.2.2.1 j hj'
      have q8 := h44 j hj'
      have nl : (w 44 j).toInt.toNat ≠ Lc := by omega
      rw [ev j hj', f41, if_neg nl, f42, if_neg nl, g31, if_neg nl, g32 _ nl]
      exact h2.2.2.2.2 j hj'
  · by_cases cj : j = S
    · rw [cj, nS, f41, if_pos rfl]
      omega
    · have hj' : j < S := by omega
      obtain ⟨q1, q2, q3, _⟩ := h2.2.2.2.1 j hj'
      have q8 := h44 j hj'
      have nl : (w 44 j).toInt.toNat ≠ Lc := by omega
      rw [ev j hj', f41, if_neg nl]
      exact h5.1 j hj'
  · rw [c26, c5]
    exact h5.2 i hi
end VDC
