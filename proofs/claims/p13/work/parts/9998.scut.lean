/-! both sides: cuts of scopes -/
section SCP
variable {w s r σ σ' σ1 σ2 τ t : St} {kd vl : Nat → Int} {n S m lo d c k p : Nat} {vs z : List Nat} {Q : St → Prop}
theorem re_cut (h : REq kd n S m lo w σ) (hk : k ≤ S) (k0 : ∀ c, c ≠ 6 → s c = w c) (f2 : s 6 7 = w 6 7) (f4 : s 6 5 = w 6 5) (r0 : ∀ c, c ≠ 0 → σ' c = σ c) (e1 : σ' 0 35 = σ 0 35) (e2 : σ' 0 36 = σ 0 36) (e4 : σ' 0 37 = σ 0 37) (e6 : σ' 0 31 = σ 0 31) (f1 : (s 6 15).toInt = (k : Int)) (e3 : (σ' 0 53).toInt = (k : Int)) : REq kd n k m lo s σ' := by
  have c1 := k0 1 (by decide)
  have c5 := k0 5 (by decide)
  have c13 := k0 13 (by decide)
  have c14 := k0 14 (by decide)
  have c15 := k0 15 (by decide)
  have c25 := k0 25 (by decide)
  have c26 := k0 26 (by decide)
  have c27 := k0 27 (by decide)
  have c28 := k0 28 (by decide)
  have c38 := k0 38 (by decide)
  have c39 := k0 39 (by decide)
  have c40 := k0 40 (by decide)
  have c41 := k0 41 (by decide)
  have c42 := k0 42 (by decide)
  have c44 := k0 44 (by decide)
  have g1 := r0 1 (by decide)
  have g2 := r0 2 (by decide)
  have g3 := r0 3 (by decide)
  have g4 := r0 4 (by decide)
  have g6 := r0 6 (by decide)
  have g9 := r0 9 (by decide)
  have g10 := r0 10 (by decide)
  have g11 := r0 11 (by decide)
  have g12 := r0 12 (by decide)
  have g13 := r0 13 (by decide)
  have g14 := r0 14 (by decide)
  have g15 := r0 15 (by decide)
  have g16 := r0 16 (by decide)
  have g17 := r0 17 (by decide)
  have g18 := r0 18 (by decide)
  have g19 := r0 19 (by decide)
  have g20 := r0 20 (by decide)
  have g21 := r0 21 (by decide)
  have g22 := r0 22 (by decide)
  have g31 := r0 31 (by decide)
  have g32 := r0 32 (by decide)
  have g34 := r0 34 (by decide)
  have g35 := r0 35 (by decide)
  clear k0 r0
  unfold REq TKR LOR OUR ORR TYR RTk TNm FLq NSm EOKm otk mtk at h ⊢
  rw [c1, c5, c13, c14, c15, c25, c26, c27, c28, c38, c39, c40, c41, c42, c44, f1, f2, f4, g1, g2, g3, g4, g6, g9, g10, g11, g12, g13, g14, g15, g16, g17, g18, g19, g20, g21, g22, g31, g32, g34, g35, e1, e2, e3, e4, e6]
  obtain ⟨h1, ⟨_, _, l3, l4, l5⟩, h3, h4, t1, t2⟩ := h
  exact ⟨h1, ⟨rfl, rfl, Nat.le_trans hk l3, fun j hj => l4 j (Nat.lt_of_lt_of_le hj hk), fun j hj => l5 j (Nat.lt_of_lt_of_le hj hk)⟩, h3, h4, fun j hj => t1 j (Nat.lt_of_lt_of_le hj hk), t2⟩
theorem rgm_cut (h : RGm kd n S m lo σ) (hk : k ≤ S) (r0 : ∀ c, c ≠ 0 → σ' c = σ c) (e1 : σ' 0 35 = σ 0 35) (e2 : σ' 0 36 = σ 0 36) (e4 : σ' 0 37 = σ 0 37) (e5 : σ' 0 12 = σ 0 12) (e6 : σ' 0 31 = σ 0 31) (e3 : (σ' 0 53).toInt = (k : Int)) : RGm kd n k m lo σ' := by
  have g2 := r0 2 (by decide)
  have g3 := r0 3 (by decide)
  have g4 := r0 4 (by decide)
  have g6 := r0 6 (by decide)
  have g9 := r0 9 (by decide)
  have g10 := r0 10 (by decide)
  have g15 := r0 15 (by decide)
  have g16 := r0 16 (by decide)
  have g18 := r0 18 (by decide)
  have g19 := r0 19 (by decide)
  have g22 := r0 22 (by decide)
  have g31 := r0 31 (by decide)
  have g34 := r0 34 (by decide)
  have g35 := r0 35 (by decide)
  clear r0
  obtain ⟨h1, h2, h3, h4, h5, h6, h7, h8, h9, h10, h11, h12⟩ := h
  unfold RGm
  unfold RTk TNm LOKm EOKm mtk TNm at *
  rw [g2, g3, g4, g6, g9, g10, g15, g16, g18, g19, g22, g31, g34, g35, e1, e2, e3, e4, e5, e6]
  exact ⟨h1, h2, h3, ⟨rfl, Nat.le_trans hk h4.2.1, fun j hj => h4.2.2 j (Nat.lt_of_lt_of_le hj hk)⟩, h5, h6, ⟨h7.1, fun j hj => h7.2 j (Nat.lt_of_lt_of_le hj hk)⟩, h8, h9, h10, h11, h12⟩
theorem mr_close {Q : St → St → List Nat → Prop} (h53 : (σ 0 53).toInt = (S : Int)) (hS : S ≤ 100) (h54 : (σ 0 54).toInt = (d : Int) + 1) (kk : ∀ s k, Kp [(0, 53), (0, 54)] [] σ s → k ≤ S → (s 0 53).toInt = (k : Int) → (s 0 54).toInt = (d : Int) → (∀ j, k ≤ j → j < S → (σ 36 j).toInt = (d : Int) + 1) → (0 < k → (σ 36 (k - 1)).toInt ≠ (d : Int) + 1) → Q s τ vs) : pp_close σ τ vs Q := by
  unfold pp_close
  refine ⟨fun s t z => t = τ ∧ z = vs ∧ Kp [(0, 53)] [] σ s ∧ ∃ k : Nat, k ≤ S ∧ (s 0 53).toInt = (k : Int) ∧ ∀ j, k ≤ j → j < S → (σ 36 j).toInt = (d : Int) + 1, ⟨rfl, rfl, kp_rf, S, Nat.le_refl S, h53, fun j h1 h2 => absurd h2 (Nat.not_lt.mpr h1)⟩, ?_⟩
  rintro s0 t0 z0 ⟨rfl, rfl, ks, k, hk, e53, hj⟩
  have e54 : s0 0 54 = σ 0 54 := ks 0 54 rfl rfl
  have fin : (0 < k → (σ 36 (k - 1)).toInt ≠ (d : Int) + 1) → Q (upC s0 0 54 ((s0 0 54) - (1 : Int32))) t0 z0 := fun kl => kk _ k (kp_f (kp_sub ks rfl rfl) rfl) hk (by rw [rdA_ne (by decide)]; exact e53) (by rw [rdA_eq rfl, sb1 (by rw [e54]; omega), e54, h54]; omega) hj kl
  refine ⟨fun c => fin (fun h => by omega), fun c _ => ?_⟩
  have ek : ((s0 0 53) - (1 : Int32)).toNatClampNeg = k - 1 := nat_of (by rw [sb1 (by omega), e53]; omega)
  rw [ek, show s0 36 = σ 36 from funext (fun j => ks 36 j rfl rfl)]
  refine ⟨fun c1 => fin (fun _ => by rw [e54, h54] at c1; exact c1), fun c1 => ⟨rfl, rfl, kp_f ks rfl, k - 1, by omega, by rw [rdA_eq rfl, sb1 (by omega), e53]; omega, fun j h1 h2 => ?_⟩⟩
  rw [e54, h54] at c1
  by_cases c2 : j = k - 1
  · rw [c2]; exact c1
  · exact hj j (by omega) h2
theorem ro_open (h : RSo kd n S m lo d c w σ) (ks : Kp [(6, 17)] [45] w s) (e17 : (s 6 17).toInt = (d : Int) + 1) (e45 : ∀ i, s 45 i = if i = d then w 6 15 else w 45 i) (kr : Kp [(0, 10), (0, 54)] [] σ σ') (e54 : (σ' 0 54).toInt = (d : Int) + 1) : RSo kd n S m lo (d + 1) c s σ' := by
  have hcd : CDq w s := cd_ko (ko_kp ks) rfl rfl
  have hdd : DDq σ σ' := dd_k kr rfl rfl
  obtain ⟨h1, h2, ⟨h3, h4, h5, h6⟩, h7, h8, h9⟩ := h
  have e36 : σ' 36 = σ 36 := funext (fun j => kr 36 j rfl rfl)
  have hS : (w 6 15).toInt = (S : Int) := h1.2.1.1
  refine ⟨re_cd h1 hcd hdd, by rw [ks 7 7 rfl rfl]; exact h2, ⟨by rw [e17]; rfl, by rw [e54]; rfl, fun i hi => ?_, fun j hj => ?_⟩, ?_, ?_, by rw [ks 8 6 rfl rfl]; exact h9⟩
  · rw [e45, e36]
    by_cases c1 : i = d
    · rw [if_pos c1, hS, c1]
      refine ⟨by omega, by omega, fun j hj => ⟨fun hx => by omega, fun hx => ?_⟩⟩
      have := h6 j hj
      omega
    · rw [if_neg c1]
      exact h5 i (by omega)
  · rw [e36]
    have := h6 j hj
    omega
  · unfold LCq
    rw [ks 6 10 rfl rfl, kr 0 49 rfl rfl, hcd.1 44 rfl]
    exact h7
  · unfold RTq
    rw [ks 6 6 rfl rfl, hcd.1 26 rfl, kr 0 55 rfl rfl, kr 0 56 rfl rfl]
    exact h8
theorem ro_close (h : RSo kd n S m lo (d + 1) c w σ) (hk : k ≤ S) (ks : Kp [(6, 17), (6, 15)] [] w s) (e17 : (s 6 17).toInt = (d : Int)) (e15 : s 6 15 = w 45 d) (kr : Kp [(0, 53), (0, 54)] [] σ σ') (e53 : (σ' 0 53).toInt = (k : Int)) (e54 : (σ' 0 54).toInt = (d : Int)) (hj1 : ∀ j, k ≤ j → j < S → (σ 36 j).toInt = (d : Int) + 1) (hj2 : 0 < k → (σ 36 (k - 1)).toInt ≠ (d : Int) + 1) : RSo kd n k m lo d c s σ' := by
  obtain ⟨h1, h2, ⟨h3, h4, h5, h6⟩, h7, h8, h9⟩ := h
  have e36 : σ' 36 = σ 36 := funext (fun j => kr 36 j rfl rfl)
  have e44 : s 44 = w 44 := funext (fun j => ks 44 j rfl rfl)
  have e26 : s 26 = w 26 := funext (fun j => ks 26 j rfl rfl)
  obtain ⟨b0, b1, b2⟩ := h5 d (by omega)
  have ek : (w 45 d).toInt = (k : Int) := by
    have up : (w 45 d).toInt ≤ (k : Int) := by
      by_cases c1 : k = S
      · omega
      · exact (b2 k (by omega)).2 (by have := hj1 k (Nat.le_refl k) (by omega); omega)
    by_cases c2 : 0 < k
    · have n1 := hj2 c2
      have n2 := h6 (k - 1) (by omega)
      have n3 := b2 (k - 1) (by omega)
      have n4 : ¬ ((w 45 d).toInt ≤ ((k - 1 : Nat) : Int)) := fun hx => by have := n3.1 hx; omega
      omega
    · omega
  have kw : ∀ c, c ≠ 6 → s c = w c := fun c hc => funext (fun j => ks c j (by
    simp only [List.contains_cons, List.contains_nil, Bool.or_false, Bool.or_eq_false_iff, beq_eq_false_iff_ne, ne_eq, Prod.mk.injEq, not_and]
    omega) rfl)
  have kσ : ∀ c, c ≠ 0 → σ' c = σ c := fun c hc => funext (fun j => kr c j (by
    simp only [List.contains_cons, List.contains_nil, Bool.or_false, Bool.or_eq_false_iff, beq_eq_false_iff_ne, ne_eq, Prod.mk.injEq, not_and]
    omega) rfl)
  refine ⟨re_cut h1 hk kw (ks 6 7 rfl rfl) (ks 6 5 rfl rfl) kσ (kr 0 35 rfl rfl) (kr 0 36 rfl rfl) (kr 0 37 rfl rfl) (kr 0 31 rfl rfl) (by rw [e15]; exact ek) e53, by rw [ks 7 7 rfl rfl]; exact h2, ⟨e17, e54, fun i hi => ?_, fun j hj => ?_⟩, ?_, ?_, by rw [ks 8 6 rfl rfl]; exact h9⟩
  · rw [kw 45 (by decide), e36]
    obtain ⟨i0, i1, i2⟩ := h5 i (by omega)
    refine ⟨i0, ?_, fun j hj => i2 j (by omega)⟩
    by_cases c1 : k = S
    · rw [c1]
      exact i1
    · exact (i2 k (by omega)).2 (by have := hj1 k (Nat.le_refl k) (by omega); omega)
  · rw [e36]
    have n1 := h6 j (by omega)
    have n2 := b2 j (by omega)
    have n3 : ¬ ((w 45 d).toInt ≤ (j : Int)) := by omega
    have n4 : ¬ ((d : Int) + 1 ≤ (σ 36 j).toInt) := fun hx => n3 (n2.2 hx)
    omega
  · obtain ⟨Lc, l1, l2, l3, l4, l5⟩ := h7
    refine ⟨Lc, by rw [ks 6 10 rfl rfl]; exact l1, by rw [kr 0 49 rfl rfl]; exact l2, by omega, l4, fun j hj => ?_⟩
    rw [e44]
    exact l5 j (by omega)
  · unfold RTq
    rw [ks 6 6 rfl rfl, e26, kr 0 55 rfl rfl, kr 0 56 rfl rfl]
    exact h8
theorem rg_close (h : RGs kd vl n S m lo (d + 1) σ) (hk : k ≤ S) (kr : Kp [(0, 53), (0, 54)] [] σ σ') (e53 : (σ' 0 53).toInt = (k : Int)) (e54 : (σ' 0 54).toInt = (d : Int)) : RGs kd vl n k m lo d σ' := by
  obtain ⟨h1, h2, ⟨Lc, l1, l2, l3⟩, h4, h5⟩ := h
  have kσ : ∀ c, c ≠ 0 → σ' c = σ c := fun c hc => funext (fun j => kr c j (by
    simp only [List.contains_cons, List.contains_nil, Bool.or_false, Bool.or_eq_false_iff, beq_eq_false_iff_ne, ne_eq, Prod.mk.injEq, not_and]
    omega) rfl)
  exact ⟨rgm_cut h1 hk kσ (kr 0 35 rfl rfl) (kr 0 36 rfl rfl) (kr 0 37 rfl rfl) (kr 0 12 rfl rfl) (kr 0 31 rfl rfl) e53, e54, ⟨Lc, by rw [kr 0 49 rfl rfl]; exact l1, by omega, l3⟩, by rw [kr 0 15 rfl rfl]; exact h4, by rw [kσ 6 (by decide)]; exact h5⟩
theorem rg_open (h : RGs kd vl n S m lo d σ) (kr : Kp [(0, 10), (0, 54)] [] σ σ') (e54 : (σ' 0 54).toInt = (d : Int) + 1) : RGs kd vl n S m lo (d + 1) σ' := by
  obtain ⟨h1, h2, h3, h4, h5⟩ := h
  have r := dd_k kr rfl rfl
  refine ⟨rgm_dd h1 r (by rw [kr 0 12 rfl rfl]; exact rgq_0 h1), by rw [e54]; rfl, ?_, by rw [kr 0 15 rfl rfl]; exact h4, by rw [r.1 6 rfl]; exact h5⟩
  rw [kr 0 49 rfl rfl]
  exact h3
/-- a scope begins and ends -/
theorem sa_20 {d : Nat} (h17 : (w 6 17).toInt = (d : Int)) (hd : d < 52) (kk : ∀ s, Kp [(6, 17)] [45] w s → (s 6 17).toInt = (d : Int) + 1 → (∀ i, s 45 i = if i = d then w 6 15 else w 45 i) → Q s) : SAq (stp 20 p) w Q := fun a b e0 e1 e2 => x7_open e0 (by simp [stp]) (by
  unfold pk_X11_open
  refine kk _ (kp_f (kp_F kp_rf rfl) rfl) ?_ (fun i => ?_)
  · rw [rdA_eq rfl, ad1 (by omega), h17]
  · rw [rdC_ne (by decide), rdF_eq, setv_at h17 hd])
theorem sa_21 {d : Nat} (h17 : (w 6 17).toInt = (d : Int) + 1) (hd : d < 52) (kk : ∀ s, Kp [(6, 17), (6, 15)] [] w s → (s 6 17).toInt = (d : Int) → s 6 15 = w 45 d → Q s) : SAq (stp 21 p) w Q := fun a b e0 e1 e2 => x7_close e0 (by simp [stp]) (by
  unfold pk_X11_close
  have e : ((w 6 17) - (1 : Int32)).toInt = (d : Int) := by rw [sb1 (by omega), h17]; omega
  refine kk _ (kp_f (kp_f kp_rf rfl) rfl) ?_ ?_
  · rw [rdA_ne (by decide), rdA_eq rfl, e]
  · rw [rdA_eq rfl, atv_at e hd])
end SCP
