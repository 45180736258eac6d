section
/-! both sides: cuts of scopes -/
section SCP
variable {w s r σ σ' σ1 σ2 τ t : St} {kd vl : Nat → Int} {n S m lo d c k p : Nat} {vs z : List Nat} {Q : St → Prop}
theorem re_cut (h : REq kd n S m lo w σ) (hk : k ≤ S) (k0 : ∀ c, c ≠ 6 → s c = w c) (f2 : s 6 7 = w 6 7) (f4 : s 6 5 = w 6 5) (r0 : ∀ c, c ≠ 0 → σ' c = σ c) (e1 : σ' 0 35 = σ 0 35) (e2 : σ' 0 36 = σ 0 36) (e4 : σ' 0 37 = σ 0 37) (e6 : σ' 0 31 = σ 0 31) (f1 : (s 6 15).toInt = (k : Int)) (e3 : (σ' 0 53).toInt = (k : Int)) : REq kd n k m lo s σ' := by
  have c1 := k0 1 (by decide)
  have c5 := k0 5 (by decide)
  have c13 := k0 13 (by decide)
  have c14 := k0 14 (by decide)
  have c15 := k0 15 (by decide)
  have c25 := k0 25 (by decide)
  have c26 := k0 26 (by decide)
  have c27 := k0 27 (by decide)
  have c38 := k0 38 (by decide)
  have c39 := k0 39 (by decide)
  have c40 := k0 40 (by decide)
  have c41 := k0 41 (by decide)
  have c42 := k0 42 (by decide)
  have c44 := k0 44 (by decide)
  have g1 := r0 1 (by decide)
  have g2 := r0 2 (by decide)
  have g3 := r0 3 (by decide)
  have g4 := r0 4 (by decide)
  have g6 := r0 6 (by decide)
  have g9 := r0 9 (by decide)
  have g10 := r0 10 (by decide)
  have g11 := r0 11 (by decide)
  have g12 := r0 12 (by decide)
  have g13 := r0 13 (by decide)
  have g14 := r0 14 (by decide)
  have g15 := r0 15 (by decide)
  have g16 := r0 16 (by decide)
  have g18 := r0 18 (by decide)
  have g19 := r0 19 (by decide)
  have g20 := r0 20 (by decide)
  have g21 := r0 21 (by decide)
  have g22 := r0 22 (by decide)
  have g31 := r0 31 (by decide)
  have g32 := r0 32 (by decide)
  have g34 := r0 34 (by decide)
  have g35 := r0 35 (by decide)
  clear k0 r0
  unfold REq TKR LOR OUR ORR TYR RTk TNm FLq NSm EOKm otk mtk at h ⊢
  rw [c1, c5, c13, c14, c15, c25, c26, c27, c38, c39, c40, c41, c42, c44, f1, f2, f4, g1, g2, g3, g4, g6, g9, g10, g11, g12, g13, g14, g15, g16, g18, g19, g20, g21, g22, g31, g32, g34, g35, e1, e2, e3, e4, e6]
  obtain ⟨h1, ⟨_, _, l3, l4, l5⟩, h3, h4, t1, t2⟩ := h
  exact ⟨h1, ⟨rfl, rfl, Nat.le_trans hk l3, fun j hj => l4 j (Nat.lt_of_lt_of_le hj hk), fun j hj => l5 j (Nat.lt_of_lt_of_le hj hk)⟩, h3, h4, fun j hj => t1 j (Nat.lt_of_lt_of_le hj hk), t2⟩
theorem rgm_cut (h : RGm kd n S m lo σ) (hk : k ≤ S) (r0 : ∀ c, c ≠ 0 → σ' c = σ c) (e1 : σ' 0 35 = σ 0 35) (e2 : σ' 0 36 = σ 0 36) (e4 : σ' 0 37 = σ 0 37) (e5 : σ' 0 12 = σ 0 12) (e6 : σ' 0 31 = σ 0 31) (e3 : (σ' 0 53).toInt = (k : Int)) : RGm kd n k m lo σ' := by
  have g2 := r0 2 (by decide)
  have g3 := r0 3 (by decide)
  have g4 := r0 4 (by decide)
  have g6 := r0 6 (by decide)
  have g9 := r0 9 (by decide)
  have g10 := r0 10 (by decide)
  have g15 := r0 15 (by decide)
  have g16 := r0 16 (by decide)
  have g18 := r0 18 (by decide)
  have g19 := r0 19 (by decide)
  have g22 := r0 22 (by decide)
  have g31 := r0 31 (by decide)
  have g34 := r0 34 (by decide)
  have g35 := r0 35 (by decide)
  clear r0
  obtain ⟨h1, h2, h3, h4, h5, h6, h7, h8, h9, h10, h11, h12⟩ := h
  unfold RGm
  unfold RTk TNm LOKm EOKm mtk TNm at *
  rw [g2, g3, g4, g6, g9, g10, g15, g16, g18, g19, g22, g31, g34, g35, e1, e2, e3, e4, e5, e6]
  exact ⟨h1, h2, h3, ⟨rfl, Nat.le_trans hk h4.2.1, fun j hj => h4.2.2 j (Nat.lt_of_lt_of_le hj hk)⟩, h5, h6, ⟨h7.1, fun j hj => h7.2 j (Nat.lt_of_lt_of_le hj hk)⟩, h8, h9, h10, h11, h12⟩
theorem mr_close {Q : St → St → List Nat → Prop} (h53 : (σ 0 53).toInt = (S : Int)) (hS : S ≤ 100) (h54 : (σ 0 54).toInt = (d : Int) + 1) (kk : ∀ s k, Kp [(0, 53), (0, 54)] [] σ s → k ≤ S → (s 0 53).toInt = (k : Int) → (s 0 54).toInt = (d : Int) → (∀ j, k ≤ j → j < S → (σ 36 j).toInt = (d : Int) + 1) → (0 < k → (σ 36 (k - 1)).toInt ≠ (d : Int) + 1) → Q s τ vs) : pp_close σ τ vs Q := by
  unfold pp_close
  refine ⟨fun s t z => t = τ ∧ z = vs ∧ Kp [(0, 53)] [] σ s ∧ ∃ k : Nat, k ≤ S ∧ (s 0 53).toInt = (k : Int) ∧ ∀ j, k ≤ j → j < S → (σ 36 j).toInt = (d : Int) + 1, ⟨rfl, rfl, kp_rf, S, Nat.le_refl S, h53, fun j h1 h2 => absurd h2 (Nat.not_lt.mpr h1)⟩, ?_⟩
  rintro s0 t0 z0 ⟨rfl, rfl, ks, k, hk, e53, hj⟩
  have e54 : s0 0 54 = σ 0 54 := ks 0 54 rfl rfl
  have fin : (0 < k → (σ 36 (k - 1)).toInt ≠ (d : Int) + 1) → Q (upC s0 0 54 ((s0 0 54) - (1 : Int32))) t0 z0 := fun kl => kk _ k (kp_f (kp_sub ks rfl rfl) rfl) hk (by rw [rdA_ne (by decide)]; exact e53) (by rw [rdA_eq rfl, sb1 (by rw [e54]; omega), e54, h54]; omega) hj kl
  refine ⟨fun c => fin (fun h => by omega), fun c _ => ?_⟩
  have ek : ((s0 0 53) - (1 : Int32)).toNatClampNeg = k - 1 := nat_of (by rw [sb1 (by omega), e53]; omega)
  rw [ek, show s0 36 = σ 36 from funext (fun j => ks 36 j rfl rfl)]
  refine ⟨fun c1 => fin (fun _ => by rw [e54, h54] at c1; exact c1), fun c1 => ⟨rfl, rfl, kp_f ks rfl, k - 1, by omega, by rw [rdA_eq rfl, sb1 (by omega), e53]; omega, fun j h1 h2 => ?_⟩⟩
  rw [e54, h54] at c1
  by_cases c2 : j = k - 1
  · rw [c2]; exact c1
  · exact hj j (by omega) h2
theorem ro_open (h : RSo kd n S m lo d c w σ) (ks : Kp [(6, 17)] [45] w s) (e17 : (s 6 17).toInt = (d : Int) + 1) (e45 : ∀ i, s 45 i = if i = d then w 6 15 else w 45 i) (kr : Kp [(0, 10), (0, 54)] [] σ σ') (e54 : (σ' 0 54).toInt = (d : Int) + 1) : RSo kd n S m lo (d + 1) c s σ' := by
  have hcd : CDq w s := cd_ko (ko_kp ks) rfl rfl
  have hdd : DDq σ σ' := dd_k kr rfl rfl
  obtain ⟨h1, h2, ⟨h3, h4, h5, h6⟩, h7, h8, h9⟩ := h
  have e36 : σ' 36 = σ 36 := funext (fun j => kr 36 j rfl rfl)
  have hS : (w 6 15).toInt = (S : Int) := h1.2.1.1
  refine ⟨re_cd h1 hcd hdd, by rw [ks 7 7 rfl rfl]; exact h2, ⟨by rw [e17]; rfl, by rw [e54]; rfl, fun i hi => ?_, fun j hj => ?_⟩, ?_, ?_, by rw [ks 8 6 rfl rfl]; exact h9⟩
  · rw [e45, e36]
    by_cases c1 : i = d
    · rw [if_pos c1, hS, c1]
      refine ⟨by omega, by omega, fun j hj => ⟨fun hx => by omega, fun hx => ?_⟩⟩
      have := h6 j hj
      omega
    · rw [if_neg c1]
      exact h5 i (by omega)
  · rw [e36]
    have := h6 j hj
    omega
  · unfold LCq
    rw [ks 6 10 rfl rfl, kr 0 49 rfl rfl, hcd.1 44 rfl]
    exact h7
  · unfold RTq
    rw [ks 6 6 rfl rfl, hcd.1 26 rfl, kr 0 55 rfl rfl, kr 0 56 rfl rfl]
    exact h8
theorem ro_close (h : RSo kd n S m lo (d + 1) c w σ) (hk : k ≤ S) (ks : Kp [(6, 17), (6, 15)] [] w s) (e17 : (s 6 17).toInt = (d : Int)) (e15 : s 6 15 = w 45 d) (kr : Kp [(0, 53), (0, 54)] [] σ σ') (e53 : (σ' 0 53).toInt = (k : Int)) (e54 : (σ' 0 54).toInt = (d : Int)) (hj1 : ∀ j, k ≤ j → j < S → (σ 36 j).toInt = (d : Int) + 1) (hj2 : 0 < k → (σ 36 (k - 1)).toInt ≠ (d : Int) + 1) : RSo kd n k m lo d c s σ' := by
  obtain ⟨h1, h2, ⟨h3, h4, h5, h6⟩, h7, h8, h9⟩ := h
  have e36 : σ' 36 = σ 36 := funext (fun j => kr 36 j rfl rfl)
  have e44 : s 44 = w 44 := funext (fun j => ks 44 j rfl rfl)
  have e26 : s 26 = w 26 := funext (fun j => ks 26 j rfl rfl)
  obtain ⟨b0, b1, b2⟩ := h5 d (by omega)
  have ek : (w 45 d).toInt = (k : Int) := by
    have up : (w 45 d).toInt ≤ (k : Int) := by
      by_cases c1 : k = S
      · omega
      · exact (b2 k (by omega)).2 (by have := hj1 k (Nat.le_refl k) (by omega); omega)
    by_cases c2 : 0 < k
    · have n1 := hj2 c2
      have n2 := h6 (k - 1) (by omega)
      have n3 := b2 (k - 1) (by omega)
      have n4 : ¬ ((w 45 d).toInt ≤ ((k - 1 : Nat) : Int)) := fun hx => by have := n3.1 hx; omega
      omega
    · omega
  have kw : ∀ c, c ≠ 6 → s c = w c := fun c hc => funext (fun j => ks c j (by
    simp only [List.contains_cons, List.contains_nil, Bool.or_false, Bool.or_eq_false_iff, beq_eq_false_iff_ne, ne_eq, Prod.mk.injEq, not_and]
    omega) rfl)
  have kσ : ∀ c, c ≠ 0 → σ' c = σ c := fun c hc => funext (fun j => kr c j (by
    simp only [List.contains_cons, List.contains_nil, Bool.or_false, Bool.or_eq_false_iff, beq_eq_false_iff_ne, ne_eq, Prod.mk.injEq, not_and]
    omega) rfl)
  refine ⟨re_cut h1 hk kw (ks 6 7 rfl rfl) (ks 6 5 rfl rfl) kσ (kr 0 35 rfl rfl) (kr 0 36 rfl rfl) (kr 0 37 rfl rfl) (kr 0 31 rfl rfl) (by rw [e15]; exact ek) e53, by rw [ks 7 7 rfl rfl]; exact h2, ⟨e17, e54, fun i hi => ?_, fun j hj => ?_⟩, ?_, ?_, by rw [ks 8 6 rfl rfl]; exact h9⟩
  · rw [kw 45 (by decide), e36]
    obtain ⟨i0, i1, i2⟩ := h5 i (by omega)
    refine ⟨i0, ?_, fun j hj => i2 j (by omega)⟩
    by_cases c1 : k = S
    · rw [c1]
      exact i1
    · exact (i2 k (by omega)).2 (by have := hj1 k (Nat.le_refl k) (by omega); omega)
  · rw [e36]
    have n1 := h6 j (by omega)
    have n2 := b2 j (by omega)
    have n3 : ¬ ((w 45 d).toInt ≤ (j : Int)) := by omega
    have n4 : ¬ ((d : Int) + 1 ≤ (σ 36 j).toInt) := fun hx => n3 (n2.2 hx)
    omega
  · obtain ⟨Lc, l1, l2, l3, l4, l5⟩ := h7
    refine ⟨Lc, by rw [ks 6 10 rfl rfl]; exact l1, by rw [kr 0 49 rfl rfl]; exact l2, by omega, l4, fun j hj => ?_⟩
    rw [e44]
    exact l5 j (by omega)
  · unfold RTq
    rw [ks 6 6 rfl rfl, e26, kr 0 55 rfl rfl, kr 0 56 rfl rfl]
    exact h8
theorem rg_close (h : RGs kd vl n S m lo (d + 1) σ) (hk : k ≤ S) (kr : Kp [(0, 53), (0, 54)] [] σ σ') (e53 : (σ' 0 53).toInt = (k : Int)) (e54 : (σ' 0 54).toInt = (d : Int)) : RGs kd vl n k m lo d σ' := by
  obtain ⟨h1, h2, ⟨Lc, l1, l2, l3⟩, h4, h5⟩ := h
  have kσ : ∀ c, c ≠ 0 → σ' c = σ c := fun c hc => funext (fun j => kr c j (by
    simp only [List.contains_cons, List.contains_nil, Bool.or_false, Bool.or_eq_false_iff, beq_eq_false_iff_ne, ne_eq, Prod.mk.injEq, not_and]
    omega) rfl)
  exact ⟨rgm_cut h1 hk kσ (kr 0 35 rfl rfl) (kr 0 36 rfl rfl) (kr 0 37 rfl rfl) (kr 0 12 rfl rfl) (kr 0 31 rfl rfl) e53, e54, ⟨Lc, by rw [kr 0 49 rfl rfl]; exact l1, by omega, l3⟩, by rw [kr 0 15 rfl rfl]; exact h4, by rw [kσ 6 (by decide)]; exact h5⟩
theorem rg_open (h : RGs kd vl n S m lo d σ) (kr : Kp [(0, 10), (0, 54)] [] σ σ') (e54 : (σ' 0 54).toInt = (d : Int) + 1) : RGs kd vl n S m lo (d + 1) σ' := by
  obtain ⟨h1, h2, h3, h4, h5⟩ := h
  have r := dd_k kr rfl rfl
  refine ⟨rgm_dd h1 r (by rw [kr 0 12 rfl rfl]; exact rgq_0 h1), by rw [e54]; rfl, ?_, by rw [kr 0 15 rfl rfl]; exact h4, by rw [r.1 6 rfl]; exact h5⟩
  rw [kr 0 49 rfl rfl]
  exact h3
/-- a scope begins and ends -/
theorem sa_20 {d : Nat} (h17 : (w 6 17).toInt = (d : Int)) (hd : d < 52) (kk : ∀ s, Kp [(6, 17)] [45] w s → (s 6 17).toInt = (d : Int) + 1 → (∀ i, s 45 i = if i = d then w 6 15 else w 45 i) → Q s) : SAq (stp 20 p) w Q := fun a b e0 e1 e2 => x7_open e0 (by simp [stp]) (by
  unfold pk_X11_open
  refine kk _ (kp_f (kp_F kp_rf rfl) rfl) ?_ (fun i => ?_)
  · rw [rdA_eq rfl, ad1 (by omega), h17]
  · rw [rdC_ne (by decide), rdF_eq, setv_at h17 hd])
theorem sa_21 {d : Nat} (h17 : (w 6 17).toInt = (d : Int) + 1) (hd : d < 52) (kk : ∀ s, Kp [(6, 17), (6, 15)] [] w s → (s 6 17).toInt = (d : Int) → s 6 15 = w 45 d → Q s) : SAq (stp 21 p) w Q := fun a b e0 e1 e2 => x7_close e0 (by simp [stp]) (by
  unfold pk_X11_close
  have e : ((w 6 17) - (1 : Int32)).toInt = (d : Int) := by rw [sb1 (by omega), h17]; omega
  refine kk _ (kp_f (kp_f kp_rf rfl) rfl) ?_ ?_
  · rw [rdA_ne (by decide), rdA_eq rfl, e]
  · rw [rdA_eq rfl, atv_at e hd])
end SCP
end

section
/-! the reference's statements: what is wanted, what is left -/
def onq (sel d : Nat) : Nat := if sel = 2 then d + 1 else d
def ESq (kd vl : Nat → Int) (n m lo sel d S p : Nat) (σ τ : St) (vs : List Nat) (s t : St) (z : List Nat) : Prop :=
  ∃ (p' S' : Nat) (g : List Gsq), EVq (fun N => STn kd vl N sel d p) (some (p', g)) ∧ p < p' ∧ GMt s n p' ∧ RGs kd vl n S' m lo d s ∧ MNq σ s ∧ s 0 57 = σ 0 57 ∧ TFq τ vs t z ∧ ∀ O, O < onq sel d → WSq kd n m lo d O S S' g σ s
/-- a method of the group: sel as the grammar's, d deep, from p on -/
def SWr (kd vl : Nat → Int) (n m lo sel d p : Nat) (f : St → St → List Nat → (St → St → List Nat → Prop) → (St → St → List Nat → Prop) → Prop) : Prop :=
  ∀ (S : Nat) (σ τ : St) (vs : List Nat) (Q : St → St → List Nat → Prop) (F : Prop), RGs kd vl n S m lo d σ → GMt σ n p → (0 ≤ (σ 0 57).toInt ∧ (σ 0 57).toInt < (onq sel d : Int)) → (∀ s t z, ESq kd vl n m lo sel d S p σ τ vs s t z → Q s t z) → (EVq (fun N => STn kd vl N sel d p) none → F) → f σ τ vs Q (fun _ _ _ => F)
/-- a condition's expression: what stands behind it is handed a value; the state s tells whether it is bad -/
def CDo (kd : Nat → Int) (n S m lo d : Nat) (l : List Stq) (σ s : St) : Prop := (σ 0 12).toInt = 0 → ∀ w, RSo kd n S m lo d 0 w σ → (w 6 3).toInt = 0 → ∀ (rest : List Gsq) (Q : St → Prop) (B : Prop), ((s 0 12).toInt ≠ 0 → B) → (∀ r, (r 6 3).toInt ≠ 0 → B → Q r) → (∀ r K T H Z F X i, (r 6 3).toInt = 0 → RSo kd n S m lo d 1 r s → STe 0 w r → AVq r 65 K T H Z F X i → (0 ≤ K ∧ K ≤ 3) → ((s 0 12).toInt ≠ 0 ↔ T = -1) → GWq rest r Q B) → GWq (gqs l ++ rest) w Q B
/-- the walk from O open to O2 open -/
def WOq (kd : Nat → Int) (n S m lo d O O2 : Nat) (g : List Gsq) (σ σ' : St) (b : Prop) : Prop :=
  (σ 0 12).toInt = 0 → ∀ w, RSo kd n S m lo d 0 w σ → (w 9 5).toInt = (O : Int) → (w 6 3).toInt = 0 → GWq g w (fun s => ((s 6 3).toInt ≠ 0 → (σ' 0 12).toInt ≠ 0) ∧ ((s 6 3).toInt = 0 → (σ' 0 12).toInt = 0 ∧ RSo kd n S m lo d 0 s σ' ∧ (s 9 5).toInt = (O2 : Int) ∧ (∀ i, i < O → i < O2 → s 49 i = w 49 i) ∧ (O < O2 → ((s 49 O).toInt ≠ 0 ↔ b)))) ((σ' 0 12).toInt ≠ 0)
section SRF
variable {w s r s8 σ σ' σ0 σ1 σ2 σ3 τ t : St} {kd vl : Nat → Int} {n S S1 S2 m lo d O O1 O2 p : Nat} {vs z : List Nat} {g g1 g2 g3 : List Gsq} {l : List Stq} {y : Stq} {b b2 b3 : Prop} {K T H Z F : Int} {X : Int32} {F0 : Prop}
theorem wo_cd (hy : 20 ≤ y.1 ∧ y.1 < 40) (hc : CDo kd n S m lo d l σ σ') (st : ∀ r K T H Z F X i, (r 9 5).toInt = (O : Int) → (r 7 7).toInt = 1 → (r 6 3).toInt = 0 → AVq r 65 K T H Z F X i → (0 ≤ K ∧ K ≤ 3) → SAq y r (CQq O O2 b T r)) : WOq kd n S m lo d O O2 (gqs l ++ [gq y]) σ σ' b := by
  intro h0 w hR hO hf
  refine hc h0 w hR hf _ _ _ id (fun r hr hb => ⟨fun _ => hb, fun hx => absurd hx hr⟩) (fun r K T H Z F X i r0 hR1 hste hA hk hT => ?_)
  refine gv_s hy (fun c0 => st_mono (st r K T H Z F X i (by rw [ste_95 hste]; exact hO) hR1.2.1 r0 hA hk) (fun s2 hs2 => ?_)) (fun hx => absurd r0 hx)
  obtain ⟨o, e7, e6⟩ := hs2
  refine ⟨fun hx => hT.2 (e6.1 hx), fun hx => ⟨?_, ro_cs hR1 (cs_w o.1) ds_rf (by rw [e7]; rfl), o.2.1, fun i h1 h2 => ?_, o.2.2.2⟩⟩
  · exact Decidable.byContradiction (fun hn => (e6.2 (hT.1 hn)) hx)
  · rw [o.2.2.1 i h1 h2, ste_49 hste]
theorem wo_st (hy : 20 ≤ y.1 ∧ y.1 < 40) (st : ∀ w, (w 9 5).toInt = (O : Int) → SAq y w (NQq O O2 b w)) (r : DSw σ σ') (e12 : σ' 0 12 = σ 0 12) : WOq kd n S m lo d O O2 [gq y] σ σ' b := by
  intro h0 w hR hO hf
  refine gv_s hy (fun _ => st_mono (st w hO) (fun s hs => ?_)) (fun hx => absurd hf hx)
  obtain ⟨o, e6, e7⟩ := hs
  exact ⟨fun hx => absurd (by rw [e6]; exact hf) hx, fun _ => ⟨by rw [e12]; exact h0, ro_cs hR (cs_w o.1) r (by rw [e7]; exact hR.2.1), o.2.1, o.2.2.1, o.2.2.2⟩⟩
theorem wo_app (h1 : WOq kd n S m lo d O O1 g σ σ1 b) (h2 : WOq kd n S m lo d O1 O2 g2 σ1 σ2 b2) (hm : MNq σ1 σ2) (hO : O = O1 ∧ (b ↔ b2) ∨ O1 = O2 ∨ O1 = O + 1 ∧ O2 = O) : WOq kd n S m lo d O O2 (g ++ g2) σ σ2 b := by
  intro h0 w hR hw hf
  refine gv_app (gv_mono (h1 h0 w hR hw hf) (fun s hs => ?_) hm)
  by_cases c0 : (s 6 3).toInt = 0
  · obtain ⟨a1, a2, a3, a4, a5⟩ := hs.2 c0
    refine gv_mono (h2 a1 s a2 a3 c0) (fun r hr => ⟨hr.1, fun c => ?_⟩) id
    obtain ⟨k1, k2, k3, k4, k5⟩ := hr.2 c
    clear hs hr h1 h2
    refine ⟨k1, k2, k3, fun i i1 i2 => ?_, fun hl => ?_⟩
    · have : i < O1 := by rcases hO with ⟨e, _⟩ | e | e <;> omega
      rw [k4 i this i2, a4 i i1 this]
    · rcases hO with ⟨e, e2⟩ | e | e
      · rw [e2, e]
        exact k5 (by omega)
      · rw [k4 O (by omega) hl]
        exact a5 (by omega)
      · omega
  · have := hm (hs.1 c0)
    exact gv_bad c0 this (fun s' h => ⟨fun _ => this, fun hx => absurd hx h⟩)
/-- the reference goes on without a fault, before or behind -/
theorem wo_src (h : DSw σ σ1) (e12 : σ1 0 12 = σ 0 12) (hw : WOq kd n S m lo d O O2 g σ1 σ2 b) : WOq kd n S m lo d O O2 g σ σ2 b := fun h0 w hR hO hf =>
  hw (by rw [e12]; exact h0) w (ro_cs hR cs_rf h hR.2.1) hO hf
theorem wo_ref (hw : WOq kd n S m lo d O O2 g σ σ1 b) (h : DSw σ1 σ2) (e12 : σ2 0 12 = σ1 0 12) : WOq kd n S m lo d O O2 g σ σ2 b := fun h0 w hR hO hf => by
  rw [e12]
  refine gv_mono (hw h0 w hR hO hf) (fun s hs => ⟨hs.1, fun c => ?_⟩) id
  obtain ⟨k1, k2, k3⟩ := hs.2 c
  exact ⟨k1, ro_cs k2 cs_rf h k2.2.1, k3⟩
theorem wo_nil (h : DSw σ σ') (e12 : σ' 0 12 = σ 0 12) : WOq kd n S m lo d O O [] σ σ' b := fun h0 w hR hO hf =>
  ⟨fun hx => absurd hf hx, fun _ => ⟨by rw [e12]; exact h0, ro_cs hR cs_rf h hR.2.1, hO, fun _ _ _ => rfl, fun h => absurd h (Nat.lt_irrefl O)⟩⟩
theorem lp_at (h : LPq O w σ) (e95 : (s 9 5).toInt = (O : Int)) (e49 : ∀ i, i < O → s 49 i = w 49 i) (e57 : σ' 0 57 = σ 0 57) : LPq O s σ' := by
  refine ⟨e95, ?_⟩
  rw [e57, ← h.2]
  exact ⟨fun ⟨i, h1, h2⟩ => ⟨i, h1, by rw [← e49 i h1]; exact h2⟩, fun ⟨i, h1, h2⟩ => ⟨i, h1, by rw [e49 i h1]; exact h2⟩⟩
theorem ws_of (h : WOq kd n S m lo d O O g σ σ' b) (e57 : σ' 0 57 = σ 0 57) : WSq kd n m lo d O S S g σ σ' := fun h0 w hR hf =>
  gv_mono (h h0 w hR.1 hR.2.1 hf) (fun s hs => ⟨hs.1, fun c => by
    obtain ⟨k1, k2, k3, k4, _⟩ := hs.2 c
    exact ⟨k1, ⟨k2, lp_at hR.2 k3 (fun i hi => k4 i hi hi) e57⟩, fun i hi => k4 i hi hi⟩⟩) id
/-- what opens, a body, what ends -/
theorem ws_loop (h1 : WOq kd n S m lo d O (O + 1) g1 σ σ1 b) (h2 : WSq kd n m lo d (O + 1) S S2 g2 σ1 σ2) (h3 : WOq kd n S2 m lo d (O + 1) O g3 σ2 σ3 b3) (m12 : MNq σ1 σ2) (m23 : MNq σ2 σ3) (e1 : (b ∧ 0 < (σ1 0 57).toInt) ∨ (¬ b ∧ σ1 0 57 = σ 0 57)) (e2 : σ3 0 57 = σ 0 57) : WSq kd n m lo d O S S2 (g1 ++ g2 ++ g3) σ σ3 := by
  intro h0 w hR hf
  rw [List.append_assoc]
  have m13 : MNq σ1 σ3 := fun hx => m23 (m12 hx)
  refine gv_app (gv_mono (h1 h0 w hR.1 hR.2.1 hf) (fun s hs => ?_) m13)
  by_cases c0 : (s 6 3).toInt = 0
  · obtain ⟨a1, a2, a3, a4, a5⟩ := hs.2 c0
    have hL : LPq (O + 1) s σ1 := by
      refine ⟨a3, ?_⟩
      have a5' := a5 (Nat.lt_succ_self O)
      rcases e1 with ⟨hb, hp⟩ | ⟨hb, he⟩
      · exact ⟨fun _ => hp, fun _ => ⟨O, Nat.lt_succ_self O, a5'.2 hb⟩⟩
      · rw [he, ← hR.2.2]
        refine ⟨fun ⟨i, i1, i2⟩ => ?_, fun ⟨i, i1, i2⟩ => ⟨i, Nat.lt_succ_of_lt i1, by rw [a4 i i1 (Nat.lt_succ_of_lt i1)]; exact i2⟩⟩
        by_cases ci : i = O
        · rw [ci] at i2
          exact absurd (a5'.1 i2) hb
        · have i3 : i < O := by clear hs a5' a5 h1 h2 h3; omega
          exact ⟨i, i3, by rw [← a4 i i3 i1]; exact i2⟩
    refine gv_app (gv_mono (h2 a1 s ⟨a2, hL⟩ c0) (fun s2 hs2 => ?_) m23)
    by_cases c2 : (s2 6 3).toInt = 0
    · obtain ⟨b1, b2', b4⟩ := hs2.2 c2
      refine gv_mono (h3 b1 s2 b2'.1 b2'.2.1 c2) (fun r hr => ⟨hr.1, fun c => ?_⟩) id
      obtain ⟨k1, k2, k3, k4, _⟩ := hr.2 c
      have kp : ∀ i, i < O → r 49 i = w 49 i := fun i hi => by rw [k4 i (Nat.lt_succ_of_lt hi) hi, b4 i (Nat.lt_succ_of_lt hi), a4 i hi (Nat.lt_succ_of_lt hi)]
      exact ⟨k1, ⟨k2, lp_at hR.2 k3 kp e2⟩, kp⟩
    · have := m23 (hs2.1 c2)
      exact gv_bad c2 this (fun s' h => ⟨fun _ => this, fun hx => absurd hx h⟩)
  · have := m13 (hs.1 c0)
    exact gv_bad c0 this (fun s' h => ⟨fun _ => this, fun hx => absurd hx h⟩)
theorem es_expr {Q : Nat → St → St → List Nat → Prop} (hG : RGs kd vl n S m lo d σ) (hg : GMt σ n p) (kk : ∀ u s t z p' l K T H Z F I X, EVq (fun N => EXn kd N p) (some (p', gqs l)) → p < p' → GMt s n p' → RGs kd vl n S m lo d s → KEr σ s → MNq σ s → TFq τ vs t z → u ∈ z → u ∉ vs → MVq t u K T H Z F X I → VRq K T H Z F → (∀ y, y ∈ l → 1 ≤ y.1 ∧ y.1 ≤ 16) → EXq kd n S m lo 0 l σ s K T H Z F X → Q u s t z) (kn : EVq (fun N => EXn kd N p) none → F0) : ppE_expression (1 : Int32) σ τ vs Q (fun _ _ _ => F0) :=
  er_expr p σ τ vs Q F0 hG.1 hg (fun u s t z he => by
    obtain ⟨p', l, h1, h2, h3, h4, h5, h6, h7, h8, h9, K, T, H, Z, F', I, X, g1, g2, g3, g4⟩ := he
    have hv : PVq kd 0 1 0 p [] (some (p', l)) := h1 []
    exact kk u s t z p' l K T H Z F' I X (ex_ev hv) h2 h3 (rg_ke hG h4 h6) h4 h5 h7 h8 h9 g1 g2 (pv_act hv) (g4 0 (by
      unfold ROq rmq
      rw [if_pos rfl]
      omega))) (fun hn => kn (ex_ev0 (hn [])))
theorem es_plain {Q : St → St → List Nat → Prop} (hG : RGs kd vl n S m lo d σ) (hg : GMt σ n p) (kk : ∀ s t z p' l, EVq (fun N => EXn kd N p) (some (p', gqs l)) → p < p' → GMt s n p' → RGs kd vl n S m lo d s → MNq σ s → s 0 57 = σ 0 57 → TFq τ vs t z → (∀ O q b, WOq kd n S m lo d O O (gqs l ++ [gq (stp 22 q)]) σ s b) → Q s t z) (kn : EVq (fun N => EXn kd N p) none → F0) : pp_plain σ τ vs Q (fun _ _ _ => F0) := by
  unfold pp_plain
  refine es_expr hG hg (fun u s t z p' l K T H Z F' I X hev hp g1 hG1 hr hm htf hu hun hmv hvr hact hex => ?_) kn
  have fin : ∀ s' t', Kp [(0, 17)] [8] s s' → TFq τ vs t' z → Q s' t' z := fun s' t' ks tf => by
    have hd := ds_k ks rfl rfl
    have e12 : s' 0 12 = s 0 12 := ks 0 12 rfl rfl
    refine kk s' t' z p' l hev hp (gm_k g1 (ks 0 10 rfl rfl)) (rg_ds hG1 hd (by rw [e12]; exact rgq_0 hG1.1)) (fun hx => by rw [e12]; exact hm hx) ((ks 0 57 rfl rfl).trans (hr 0 57 rfl rfl)) tf (fun O q b => ?_)
    refine wo_ref (σ1 := s) (fun h0 w hR hO hf => ?_) hd e12
    refine wx_ex (rest := [gq (stp 22 q)]) hex hact hG.2.2.2.1 hr h0 hR hf id (fun r hr hb => ⟨fun _ => hb, fun hx => absurd hx hr⟩) (fun r i r0 s0 T2 H6 hR1 hste hA => ?_)
    refine gv_s (by simp [stp]) (fun c0 => st_mono (sa_22 (O := O) (bb := b) (by rw [ste_95 hste]; exact hO) hR1.2.1 hA hvr.1) (fun s2 hs2 => ?_)) (fun hx => absurd r0 hx)
    obtain ⟨o, e6, e7⟩ := hs2
    exact ⟨fun hx => absurd (by rw [e6]; exact r0) hx, fun _ => ⟨s0, ro_cs hR1 (cs_w o.1) ds_rf (by rw [e7]; rfl), o.2.1, fun i h1 h2 => by rw [o.2.2.1 i h1 h2, ste_49 hste], o.2.2.2⟩⟩
  unfold pp_read_2
  exact fun _ => ⟨fun c => mr_read hmv (fun _ s2 t2 kw hne _ => ⟨fun c0 => absurd rfl c0, fun _ => mr_put0 (fun s3 k3 => fin s3 t2 (kp_tr kw k3) (tf_read htf hun hne))⟩), fun c => fin s t kp_rf htf⟩
theorem cd_of (hex : EXq kd n S m lo 0 l σ s8 K T H Z F X) (hact : ∀ y, y ∈ l → 1 ≤ y.1 ∧ y.1 ≤ 16) (h15 : (σ 0 15).toInt = 0) (hr : KEr σ s8) (hvr : VRq K T H Z F) (kz : Kp [(0, 10), (0, 12), (0, 13), (0, 17)] [8] s8 s) (hB : MNq s8 s) (hT : (s8 0 12).toInt = 0 → T ≠ -2 → ((s 0 12).toInt ≠ 0 ↔ T = -1)) (k0 : DSw σ0 σ) (e12 : σ 0 12 = σ0 0 12) : CDo kd n S m lo d l σ0 s := fun h0 w hR hf rest Q B hb hq kk =>
  wx_ex (rest := rest) hex hact h15 hr (by rw [e12]; exact h0) (ro_cs hR cs_rf k0 hR.2.1) hf (fun hx => hb (hB hx)) hq (fun r i r0 s0 T2 H6 hR1 hste hA => kk r K T H Z F X i r0 (ro_cs hR1 cs_rf (ds_k kz rfl rfl) hR1.2.1) hste hA hvr.1 (hT s0 T2))
theorem ft_any {a : Int32} (f : FTq σ s (a.toInt = 0)) (h15 : (σ 0 15).toInt = 0) (hv : a.toInt ≠ 0 ↔ 0 ≤ T) (hT : -2 ≤ T) (h0 : (σ 0 12).toInt = 0) (h2 : T ≠ -2) : (s 0 12).toInt ≠ 0 ↔ T = -1 := by
  rw [f.2]
  constructor
  · rintro (h | ⟨h, _⟩)
    · exact absurd h0 h
    · have : ¬ (0 ≤ T) := fun hx => (hv.2 hx) h
      omega
  · intro h
    refine Or.inr ⟨Decidable.byContradiction (fun hx => ?_), by omega⟩
    have := hv.1 hx
    omega
theorem es_condition {Q : St → St → List Nat → Prop} {a1 : Int32} (hG : RGs kd vl n S m lo d σ) (hg : GMt σ n p) (kk : ∀ s t z p' l, (∀ act wd, EVq (fun N => CNn kd N act wd p) (some (p', gqs l ++ [gq (stp act wd)]))) → p < p' → GMt s n p' → RGs kd vl n S m lo d s → MNq σ s → s 0 57 = σ 0 57 → TFq τ vs t z → CDo kd n S m lo d l σ s → Q s t z) (kn : (∀ act wd, EVq (fun N => CNn kd N act wd p) none) → F0) : pp_condition a1 σ τ vs Q (fun _ _ _ => F0) := by
  unfold pp_condition
  refine mr_expect hG.1.1 hg (c := 20) (by decide) (by decide) (fun k20 s3 ks3 g3 => ?_) (fun k20 => kn (fun act wd => ev_f k20 ev_c))
  have d3 := ds_k ks3 rfl rfl
  have e3 : s3 0 12 = σ 0 12 := ks3 0 12 rfl rfl
  have hG3 := rg_ds hG d3 (by rw [e3]; exact rgq_0 hG.1)
  refine es_expr hG3 g3 (fun u s8 t8 z8 p' l K T H Z F' I X hev hp g8 hG8 hr hm htf hu hun hmv hvr hact hex => ?_) (fun hn => kn (fun act wd => ev_t k20 (ev_b0 hn)))
  refine mr_read hmv (fun _ s14 t14 kw hne hmv2 => ?_)
  have hG14 := rg_ds hG8 (ds_k kw rfl rfl) (by rw [kw 0 12 rfl rfl]; exact rgq_0 hG8.1)
  have g14 : GMt s14 n p' := gm_k g8 (kw 0 10 rfl rfl)
  refine mr_expect hG14.1.1 g14 (c := 21) (by decide) (by decide) (fun k21 s20 ks20 g20 => ?_) (fun k21 => kn (fun act wd => ev_t k20 (ev_b hev (ev_f k21 ev_c))))
  have k820 : Kp [(0, 10), (0, 17)] [8] s8 s20 := kp_tr (kp_sub kw rfl rfl) (kp_sub ks20 rfl rfl)
  have e20 : s20 0 12 = s8 0 12 := k820 0 12 rfl rfl
  have e15 : (s20 0 15).toInt = 0 := by rw [k820 0 15 rfl rfl]; exact hG8.2.2.2.1
  refine mr_isA hmv2 (fun v _ hv => mr_must (by rw [e20]; exact rgq_0 hG8.1) (fun s29 k29 f29 => ?_))
  have kz : Kp [(0, 10), (0, 12), (0, 13), (0, 17)] [8] s8 s29 := kp_tr (kp_sub k820 rfl rfl) (kp_sub k29 rfl rfl)
  have hB : MNq s8 s29 := fun hx => f29.2.2 (Or.inl (by rw [e20]; exact hx))
  refine kk s29 t14 z8 (p' + 1) l (fun act wd => ev_t k20 (ev_b hev (ev_t k21 ev_c))) (by omega) (gm_k g20 (k29 0 10 rfl rfl)) (rg_ds hG8 (ds_k kz rfl rfl) f29.1) (fun hx => hB (hm (by rw [e3]; exact hx))) ?_ (tf_read htf hun hne) ?_
  · rw [kz 0 57 rfl rfl, hr 0 57 rfl rfl, ks3 0 57 rfl rfl]
  · exact cd_of hex hact hG3.2.2.2.1 hr hvr kz hB (fun h0 h2 => ft_any f29 e15 hv hvr.2.1.1 (by rw [e20]; exact h0) h2) d3 e3
end SRF
end

section
/-! statements: breaks, returns, scopes, lists, loops -/
section SBD
variable {w s r σ σ' σ0 σ1 σ2 σ3 τ t : St} {kd vl : Nat → Int} {n S S1 S2 m lo d O p q k : Nat} {vs z : List Nat} {g g1 g2 gc : List Gsq} {l : List Stq} {F0 : Prop} {a : Int32} {Q : St → Prop} {ky ty h zz f i : Int} {x : Int32}
theorem on_2 : onq 2 d = d + 1 := rfl
theorem on_0 : onq 0 d = d := rfl
theorem on_1 : onq 1 d = d := rfl
theorem xs_brk (hO : (w 9 5).toInt = (O : Int)) (hO9 : O ≤ 26) (h0 : (w 6 3).toInt = 0) (kk : ∀ s, Kp [(4, 1), (6, 3), (6, 4)] [24, 51] w s → ((s 6 3).toInt ≠ 0 ↔ ¬ ∃ i, i < O ∧ (w 49 i).toInt ≠ 0) → Q s) : pk_X7_leave_r51 a w Q := by
  unfold pk_X7_leave_r51
  refine ⟨fun x => ∃ j : Nat, x.toInt = (j : Int) - 1 ∧ j ≤ O ∧ ∀ i, j ≤ i → i < O → (w 49 i).toInt = 0, ⟨O, by rw [sb1 (by omega), hO], Nat.le_refl O, fun i h1 h2 => absurd h2 (Nat.not_lt.mpr h1)⟩, ?_⟩
  rintro x ⟨j, hx, hj, hz⟩
  refine ⟨0 ≤ x.toInt → (w 49 (j - 1)).toInt ≠ 0, fun hJ => ⟨fun c => xl_emit (fun v s ks => kk _ (kp_F (kp_sub ks rfl rfl) rfl) ?_), fun c => xl_fail (by decide) (fun s ks hs => kk s (kp_sub ks rfl rfl) ?_)⟩, fun c hc => absurd hc (by omega), fun c => ?_⟩
  · rw [rdF_ne (by decide), ks 6 3 rfl rfl]
    exact ⟨fun hx => absurd h0 hx, fun hx => absurd ⟨j - 1, by omega, hJ c⟩ hx⟩
  · exact ⟨fun _ ⟨i, i1, i2⟩ => i2 (hz i (by omega) i1), fun _ => hs⟩
  · rw [atv_at (j := j - 1) (by rw [hx]; omega) (by omega)]
    refine ⟨fun h1 _ => h1, fun h1 => ⟨j - 1, by rw [dc1 (by omega), hx]; omega, by omega, fun i i1 i2 => ?_⟩⟩
    by_cases ci : i = j - 1
    · rw [ci]
      exact h1
    · exact hz i (by omega) i2
theorem xs_cont (hO : (w 9 5).toInt = (O : Int)) (hO9 : O ≤ 26) (h0 : (w 6 3).toInt = 0) (kk : ∀ s, Kp [(4, 1), (6, 3), (6, 4)] [24, 52] w s → ((s 6 3).toInt ≠ 0 ↔ ¬ ∃ i, i < O ∧ (w 49 i).toInt ≠ 0) → Q s) : pk_X7_leave_r52 a w Q := by
  unfold pk_X7_leave_r52
  refine ⟨fun x => ∃ j : Nat, x.toInt = (j : Int) - 1 ∧ j ≤ O ∧ ∀ i, j ≤ i → i < O → (w 49 i).toInt = 0, ⟨O, by rw [sb1 (by omega), hO], Nat.le_refl O, fun i h1 h2 => absurd h2 (Nat.not_lt.mpr h1)⟩, ?_⟩
  rintro x ⟨j, hx, hj, hz⟩
  refine ⟨0 ≤ x.toInt → (w 49 (j - 1)).toInt ≠ 0, fun hJ => ⟨fun c => xl_emit (fun v s ks => kk _ (kp_F (kp_sub ks rfl rfl) rfl) ?_), fun c => xl_fail (by decide) (fun s ks hs => kk s (kp_sub ks rfl rfl) ?_)⟩, fun c hc => absurd hc (by omega), fun c => ?_⟩
  · rw [rdF_ne (by decide), ks 6 3 rfl rfl]
    exact ⟨fun hx => absurd h0 hx, fun hx => absurd ⟨j - 1, by omega, hJ c⟩ hx⟩
  · exact ⟨fun _ ⟨i, i1, i2⟩ => i2 (hz i (by omega) i1), fun _ => hs⟩
  · rw [atv_at (j := j - 1) (by rw [hx]; omega) (by omega)]
    refine ⟨fun h1 _ => h1, fun h1 => ⟨j - 1, by rw [dc1 (by omega), hx]; omega, by omega, fun i i1 i2 => ?_⟩⟩
    by_cases ci : i = j - 1
    · rw [ci]
      exact h1
    · exact hz i (by omega) i2
/-- a break or a continue -/
theorem ws_leave {y : Int} (hy : y = 36 ∨ y = 37) (hO9 : O ≤ 26) (r : DSw σ σ') (e57 : σ' 0 57 = σ 0 57) (hf' : (σ 0 12).toInt = 0 → ((σ' 0 12).toInt ≠ 0 ↔ ¬ 0 < (σ 0 57).toInt)) : WSq kd n m lo d O S S [gq (stp y p)] σ σ' := by
  intro h0 w hR hf
  have main : ∀ s, Kp [(4, 1), (6, 3), (6, 4)] [24, 51, 52] w s → ((s 6 3).toInt ≠ 0 ↔ ¬ ∃ i, i < O ∧ (w 49 i).toInt ≠ 0) → ((s 6 3).toInt ≠ 0 → (σ' 0 12).toInt ≠ 0) ∧ ((s 6 3).toInt = 0 → (σ' 0 12).toInt = 0 ∧ RSq kd n S m lo d O 0 s σ' ∧ ∀ i, i < O → s 49 i = w 49 i) := fun s ks hs => by
    have hl : (s 6 3).toInt ≠ 0 ↔ (σ' 0 12).toInt ≠ 0 := by rw [hs, hR.2.2, hf' h0]
    exact ⟨hl.1, fun hx => ⟨Decidable.byContradiction (fun hn => hl.2 hn hx), ⟨ro_cs hR.1 (cs_w (sw_k ks rfl rfl)) r (by rw [ks 7 7 rfl rfl]; exact hR.1.2.1), lp_at hR.2 (by rw [ks 9 5 rfl rfl]; exact hR.2.1) (fun i _ => ks 49 i rfl rfl) e57⟩, fun i _ => ks 49 i rfl rfl⟩⟩
  rcases hy with rfl | rfl
  · exact gv_s (by simp [stp]) (fun _ a b e0 e1 e2 => x7_brk e0 (by simp [stp]) (xs_brk hR.2.1 hO9 hf (fun s ks hs => main s (kp_sub ks rfl rfl) hs))) (fun hx => absurd hf hx)
  · exact gv_s (by simp [stp]) (fun _ a b e0 e1 e2 => x7_cont e0 (by simp [stp]) (xs_cont hR.2.1 hO9 hf (fun s ks hs => main s (kp_sub ks rfl rfl) hs))) (fun hx => absurd hf hx)
/-- a return, without and with a value -/
theorem sa_38 (h0 : (w 6 3).toInt = 0) : SAq (stp 38 p) w (fun s => Kp [(4, 1), (6, 3), (6, 4)] [24] w s ∧ ((s 6 3).toInt ≠ 0 ↔ (atv 10100 (w 26) (w 6 6)).toInt ≠ -1)) := fun a b e0 e1 e2 => x7_ret e0 (by simp [stp]) (fun y hy => by
  have y0 : y.toInt = 0 := Decidable.byContradiction (fun c => (hy.1 c) e2)
  unfold pk_X7_giveBack
  refine ⟨fun v => (v.toInt ≠ 0 ↔ (atv 10100 (w 26) (w 6 6)).toInt = -1), fun v _ hv => ?_, fun c => ⟨fun hx => absurd rfl hx, fun hx => absurd hx c⟩, fun c => ⟨fun _ => c, fun _ => by decide⟩⟩
  refine ⟨fun v2 s => (v2.toInt ≠ 0 ↔ (atv 10100 (w 26) (w 6 6)).toInt = -1) ∧ Kp [(4, 1)] [24] w s, fun v2 s _ hv2 => ?_, fun _ => xl_emit (fun _ s ks => ⟨hv, ks⟩), fun c => absurd y0 c⟩
  refine xl_emit (fun _ s2 k2 => ?_)
  have kk := kp_tr hv2.2 k2
  refine ⟨fun c => ⟨kp_sub kk rfl rfl, ?_⟩, fun c => xl_fail (by decide) (fun s3 k3 f3 => ⟨kp_tr (kp_sub kk rfl rfl) (kp_sub k3 rfl rfl), fun _ hx => absurd c (hv2.1.2 hx), fun _ => f3⟩)⟩
  rw [kk 6 3 rfl rfl]
  exact ⟨fun hx => absurd h0 hx, fun hx => absurd (hv2.1.1 c) hx⟩)
theorem sa_38c (hc : (w 7 7).toInt = 1) (h0 : (w 6 3).toInt = 0) (hA : AVq w 65 ky ty h zz f x i) (hk : 0 ≤ ky ∧ ky ≤ 3) : SAq (38, p, 1, 0) w (fun s => STx 0 w s ∧ (s 7 7).toInt = 0 ∧ ((s 6 3).toInt ≠ 0 ↔ ¬ ((ty = (atv 10100 (w 26) (w 6 6)).toInt ∧ (atv 10100 (w 26) (w 6 6)).toInt ≠ -1) ∨ (0 < (atv 10100 (w 26) (w 6 6)).toInt ∧ zz ≠ 0)))) := fun a b e0 e1 e2 => x7_ret e0 (by simp) (fun y hy => by
  have y1 : y.toInt ≠ 0 := hy.2 (by rw [e2]; simp)
  unfold pk_X7_giveBack
  refine ⟨fun v => True, fun v _ _ => ?_, fun c => trivial, fun c => trivial⟩
  refine ⟨fun v2 s => (v2.toInt ≠ 0 ↔ ((ty = (atv 10100 (w 26) (w 6 6)).toInt ∧ (atv 10100 (w 26) (w 6 6)).toInt ≠ -1) ∨ (0 < (atv 10100 (w 26) (w 6 6)).toInt ∧ zz ≠ 0))) ∧ STx 0 w s ∧ s 6 3 = w 6 3 ∧ (s 7 7).toInt = 0, fun v2 s _ hv2 => ?_, fun c => absurd c y1, fun _ => xl_pop (j := 0) (by rw [hc]; rfl) (by omega) hA hk (fun s ks e6 e7 hA2 => xl_fits hA2.2.1 hA2.2.2.2.1 (fun v hv1 hv2 => ⟨?_, ks, e6, e7⟩))⟩
  · obtain ⟨g1, g2, g3, g4⟩ := hv2
    refine xl_emit (fun _ s2 k2 => ⟨fun c => ⟨stq_tr g2 (stq_kp (kp_sub k2 rfl rfl)), by rw [k2 7 7 rfl rfl]; exact g4, ?_⟩, fun c => xl_fail (by decide) (fun s3 k3 f3 => ⟨stq_tr g2 (stq_tr (stq_kp (kp_sub k2 rfl rfl)) (stq_kp (kp_sub k3 rfl rfl))), by rw [k3 7 7 rfl rfl, k2 7 7 rfl rfl]; exact g4, fun _ hx => absurd c (g1.2 hx), fun _ => f3⟩)⟩)
    rw [k2 6 3 rfl rfl, g3]
    exact ⟨fun hx => absurd h0 hx, fun hx => absurd (g1.1 c) hx⟩
  · rw [← hv2]
    rcases hv1 with e | e
    · rw [e]; decide
    · rw [e]; decide)
theorem mr_aimAll {Q : St → St → List Nat → Prop} {b : Int32} (kk : ∀ s, Kp [] [8] σ s → Q s τ vs) : pp_aimAll a b σ τ vs Q := by
  unfold pp_aimAll
  refine ⟨fun _ s t z => t = τ ∧ z = vs ∧ Kp [] [8] σ s, ⟨rfl, rfl, kp_rf⟩, ?_⟩
  rintro x s t z ⟨rfl, rfl, ks⟩
  exact ⟨fun _ => kk s ks, fun _ _ _ => ⟨rfl, rfl, kp_a ks rfl⟩⟩
theorem ws_scope (k54 : Kp [(0, 10), (0, 54)] [] σ σ1) (e54 : (σ1 0 54).toInt = (d : Int) + 1) (hd : d < 52) (hW : WSq kd n m lo (d + 1) O S S1 g σ1 σ2) (hk : k ≤ S1) (kr2 : Kp [(0, 53), (0, 54)] [] σ2 σ3) (e53 : (σ3 0 53).toInt = (k : Int)) (e54' : (σ3 0 54).toInt = (d : Int)) (hj1 : ∀ j, k ≤ j → j < S1 → (σ2 36 j).toInt = (d : Int) + 1) (hj2 : 0 < k → (σ2 36 (k - 1)).toInt ≠ (d : Int) + 1) : WSq kd n m lo d O S k ([gq (stp 20 p)] ++ g ++ [gq (stp 21 q)]) σ σ3 := by
  intro h0 w hR hf
  rw [List.append_assoc]
  refine gv_app (gv_s (x := stp 20 p) (by simp [stp]) (fun _ => sa_20 hR.1.2.2.1.1 hd (fun s1 ks e17 e45 => ?_)) (fun hx => absurd hf hx))
  have hR1 := ro_open hR.1 ks e17 e45 k54 e54
  have hL : LPq O s1 σ1 := lp_at hR.2 (by rw [ks 9 5 rfl rfl]; exact hR.2.1) (fun i _ => ks 49 i rfl rfl) (k54 0 57 rfl rfl)
  refine gv_app (gv_mono (hW (by rw [k54 0 12 rfl rfl]; exact h0) s1 ⟨hR1, hL⟩ (by rw [ks 6 3 rfl rfl]; exact hf)) (fun s3 hs => ?_) (fun hx => by rw [kr2 0 12 rfl rfl]; exact hx))
  by_cases c0 : (s3 6 3).toInt = 0
  · obtain ⟨a1, a2, a3⟩ := hs.2 c0
    refine gv_s (x := stp 21 q) (by simp [stp]) (fun _ => sa_21 (d := d) (by rw [a2.1.2.2.1.1]; rfl) hd (fun s4 k4 e17' e15 => ⟨fun hx => absurd (by rw [k4 6 3 rfl rfl]; exact c0) hx, fun _ => ⟨by rw [kr2 0 12 rfl rfl]; exact a1, ⟨ro_close a2.1 hk k4 e17' e15 kr2 e53 e54' hj1 hj2, lp_at a2.2 (by rw [k4 9 5 rfl rfl]; exact a2.2.1) (fun i _ => k4 49 i rfl rfl) (kr2 0 57 rfl rfl)⟩, fun i hi => by rw [k4 49 i rfl rfl, a3 i hi, ks 49 i rfl rfl]⟩⟩)) (fun hx => absurd c0 hx)
  · have : (σ3 0 12).toInt ≠ 0 := by rw [kr2 0 12 rfl rfl]; exact hs.1 c0
    exact gv_bad c0 this (fun s' h => ⟨fun _ => this, fun hx => absurd hx h⟩)
theorem sl_step {pc p1 : Nat} (c : kd pc ≠ 23) (h1 : EVq (fun N => STn kd vl N 0 d pc) (some (p1, g1))) (hh : ∀ R, EVq (fun N => STn kd vl N 1 d pc) R → EVq (fun N => STn kd vl N 1 d p) (R.map (fun r => (r.1, gc ++ r.2)))) : ∀ R, EVq (fun N => STn kd vl N 1 d p1) R → EVq (fun N => STn kd vl N 1 d p) (R.map (fun r => (r.1, (gc ++ g1) ++ r.2))) := by
  intro R hR
  cases R with
  | none => exact hh none (sl_s c (ev_b h1 (ev_b0 hR)))
  | some r =>
    have := hh (some (r.1, g1 ++ r.2)) (sl_s c (ev_b h1 (ev_b hR ev_c)))
    rw [show ((some r).map (fun r : Nat × List Gsq => (r.1, (gc ++ g1) ++ r.2))) = some (r.1, gc ++ (g1 ++ r.2)) from by rw [← List.append_assoc]; rfl]
    exact this
variable {Kstatement Kinner Kblock : Int32 → St → St → List Nat → (St → St → List Nat → Prop) → (St → St → List Nat → Prop) → Prop} {Kloop : Int32 → Int32 → Int32 → St → St → List Nat → (St → St → List Nat → Prop) → (St → St → List Nat → Prop) → Prop} {KdoStatement KforStatement : Int32 → Int32 → St → St → List Nat → (St → St → List Nat → Prop) → (St → St → List Nat → Prop) → Prop}
theorem es_inner (ha : a.toInt = (d : Int)) (hd : d ≤ 25) (hK : ∀ v : Int32, v.toInt = (d : Int) + 1 → ∀ p, SWr kd vl n m lo 0 (d + 1) p (Kstatement v)) : SWr kd vl n m lo 2 d p (pp_inner Kstatement Kinner Kblock Kloop KdoStatement KforStatement a) := by
  intro S σ τ vs Q F hG hg h57 kk kn
  unfold pp_inner
  have k54 : Kp [(0, 54)] [] σ (upC σ 0 54 ((σ 0 54) + (1 : Int32))) := kp_f kp_rf rfl
  have e54 : ((upC σ 0 54 ((σ 0 54) + (1 : Int32))) 0 54).toInt = (d : Int) + 1 := by rw [rdA_eq rfl, ad1 (by rw [hG.2.1]; omega), hG.2.1]
  refine hK (a + (1 : Int32)) (by rw [ad1 (by omega), ha]) p S _ τ vs _ F (rg_open hG (kp_sub k54 rfl rfl) e54) (gm_k hg (k54 0 10 rfl rfl)) (by rw [k54 0 57 rfl rfl]; exact h57) (fun s t z he => ?_) (fun hn => kn (st_b (ev_b0 hn)))
  obtain ⟨p', S', g, h1, h2, h3, h4, h5, h6, h7, h8⟩ := he
  refine mr_close h4.1.2.2.2.1.1 h4.1.2.2.2.1.2.1 (by rw [h4.2.1]; rfl) (fun s2 k kr2 hk e53 e54' hj1 hj2 => kk s2 t z ⟨p', k, [gq (stp 20 p)] ++ g ++ [gq (stp 21 p')], st_b (ev_b h1 ev_c), h2, gm_k h3 (kr2 0 10 rfl rfl), rg_close h4 hk kr2 e53 e54', fun hx => ?_, ?_, h7, fun O hO => ws_scope (kp_sub k54 rfl rfl) e54 (by omega) (h8 O hO) hk kr2 e53 e54' hj1 hj2⟩)
  · rw [kr2 0 12 rfl rfl]
    exact h5 (by rw [k54 0 12 rfl rfl]; exact hx)
  · rw [kr2 0 57 rfl rfl, h6, k54 0 57 rfl rfl]
end SBD
end

section
/-! the reference's statements: lists, loops, returns -/
/-- a loop behind its word -/
def LWr (kd vl : Nat → Int) (n m lo d p : Nat) (f : St → St → List Nat → (St → St → List Nat → Prop) → (St → St → List Nat → Prop) → Prop) : Prop :=
  ∀ (S : Nat) (σ τ : St) (vs : List Nat) (Q : St → St → List Nat → Prop) (F : Prop), RGs kd vl n S m lo d σ → GMt σ n p → (0 ≤ (σ 0 57).toInt ∧ (σ 0 57).toInt < (d : Int)) →
  (∀ s t z p' S' gb σ1 σ2, EVq (fun N => STn kd vl N 2 d p) (some (p', gb)) → p < p' → GMt s n p' → RGs kd vl n S' m lo d s → MNq σ s → s 0 57 = σ 0 57 → TFq τ vs t z → DSw σ σ1 → σ1 0 12 = σ 0 12 → 0 < (σ1 0 57).toInt → MNq σ1 σ2 → DSw σ2 s → s 0 12 = σ2 0 12 → (∀ O, O < d → WSq kd n m lo d (O + 1) S S' gb σ1 σ2) → Q s t z) → (EVq (fun N => STn kd vl N 2 d p) none → F) → f σ τ vs Q (fun _ _ _ => F)
section SLP
variable {w s r σ σ' σ0 σ1 σ2 σ3 τ t : St} {kd vl : Nat → Int} {n S S1 S2 m lo d O p q k : Nat} {vs z : List Nat} {g g1 g2 gc : List Gsq} {l : List Stq} {F0 : Prop} {a a2 a3 : Int32} {Q : St → Prop}
variable {Kstatement Kinner Kblock : Int32 → St → St → List Nat → (St → St → List Nat → Prop) → (St → St → List Nat → Prop) → Prop} {Kloop : Int32 → Int32 → Int32 → St → St → List Nat → (St → St → List Nat → Prop) → (St → St → List Nat → Prop) → Prop} {KdoStatement KforStatement : Int32 → Int32 → St → St → List Nat → (St → St → List Nat → Prop) → (St → St → List Nat → Prop) → Prop}
theorem es_block (ha : a.toInt = (d : Int)) (hd : d ≤ 25) (c22 : kd p = 22) (hK : ∀ v : Int32, v.toInt = (d : Int) + 1 → ∀ p, SWr kd vl n m lo 0 (d + 1) p (Kstatement v)) : SWr kd vl n m lo 0 d p (pp_block Kstatement Kinner Kblock Kloop KdoStatement KforStatement a) := by
  intro S σ τ vs Q F hG hg h57 kk kn
  unfold pp_block
  refine mr_expect hG.1.1 hg (c := 22) (by decide) (by decide) (fun _ s3 ks3 g3 => ?_) (fun h => absurd c22 h)
  have hd' : ¬ 25 < d := Nat.not_lt.mpr hd
  have k3 : Kp [(0, 10), (0, 54)] [] σ (upC s3 0 54 ((s3 0 54) + (1 : Int32))) := kp_f (kp_sub ks3 rfl rfl) rfl
  have e54 : ((upC s3 0 54 ((s3 0 54) + (1 : Int32))) 0 54).toInt = (d : Int) + 1 := by rw [rdA_eq rfl, ks3 0 54 rfl rfl, ad1 (by rw [hG.2.1]; omega), hG.2.1]
  have g3' : GMt (upC s3 0 54 ((s3 0 54) + (1 : Int32))) n (p + 1) := gm_k g3 (rdA_ne (by decide))
  generalize hs1 : upC s3 0 54 ((s3 0 54) + (1 : Int32)) = σ1 at k3 e54 g3'
  have e12 : σ1 0 12 = σ 0 12 := k3 0 12 rfl rfl
  refine ⟨fun s t z => ∃ (pc Sc : Nat) (gc : List Gsq), p + 1 ≤ pc ∧ GMt s n pc ∧ RGs kd vl n Sc m lo (d + 1) s ∧ MNq σ1 s ∧ s 0 57 = σ 0 57 ∧ TFq τ vs t z ∧ (∀ R, EVq (fun N => STn kd vl N 1 (d + 1) pc) R → EVq (fun N => STn kd vl N 1 (d + 1) (p + 1)) (R.map (fun r => (r.1, gc ++ r.2)))) ∧ ∀ O, O < d + 1 → WSq kd n m lo (d + 1) O S Sc gc σ1 s, ⟨p + 1, S, [], Nat.le_refl _, g3', rg_open hG k3 e54, fun h => h, k3 0 57 rfl rfl, tf_rf, fun R hR => ?_, fun O _ => ws_nil ds_rf rfl rfl⟩, ?_⟩
  · cases R with
    | none => exact hR
    | some r => exact hR
  rintro s t z ⟨pc, Sc, gc, hp, gs, hGs, hm, e57, htf, hev, hW⟩
  refine mr_is hGs.1.1 gs (c := 23) (by decide) (by decide) (fun k23 => ⟨fun _ => ?_, fun h => absurd h (by decide)⟩) (fun k23 => ⟨fun h => absurd rfl h, fun _ => ?_⟩)
  · have k0 : Kp [(0, 10)] [] s (upC s 0 10 ((s 0 10) + (1 : Int32))) := kp_f kp_rf rfl
    have gn := gm_up hGs.1.1 gs (by rw [k23]; decide)
    generalize upC s 0 10 ((s 0 10) + (1 : Int32)) = s' at k0 gn
    have hG' := rg_ds hGs (ds_k k0 rfl rfl) (by rw [k0 0 12 rfl rfl]; exact rgq_0 hGs.1)
    refine mr_close hG'.1.2.2.2.1.1 hG'.1.2.2.2.1.2.1 (by rw [hG'.2.1]; rfl) (fun s2 k kr2 hk e53 e54' hj1 hj2 => kk s2 t z ⟨pc + 1, k, [gq (stp 20 p)] ++ (gc ++ []) ++ [gq (stp 21 p)], st_22 hd' c22 (ev_b (hev _ (sl_e k23)) ev_c), by omega, gm_k gn (kr2 0 10 rfl rfl), rg_close hG' hk kr2 e53 e54', fun hx => ?_, ?_, htf, fun O hO => ?_⟩)
    · rw [kr2 0 12 rfl rfl, k0 0 12 rfl rfl]
      exact hm (by rw [e12]; exact hx)
    · rw [kr2 0 57 rfl rfl, k0 0 57 rfl rfl, e57]
    · rw [List.append_nil]
      exact ws_scope k3 e54 (by omega) (ws_ref (hW O (Nat.lt_succ_of_lt hO)) (ds_k k0 rfl rfl) (k0 0 12 rfl rfl) (k0 0 57 rfl rfl)) hk kr2 e53 e54' hj1 hj2
  · refine hK (a + (1 : Int32)) (by rw [ad1 (by omega), ha]) pc Sc s t z _ F hGs gs (by rw [e57]; exact ⟨h57.1, by have := h57.2; rw [on_0] at this ⊢; omega⟩) (fun s2 t2 z2 he => ?_) (fun hn => kn (st_22 hd' c22 (ev_b0 (hev none (sl_s k23 (ev_b0 hn))))))
    obtain ⟨p1, S', g1, h1, h2, h3, h4, h5, h6, h7, h8⟩ := he
    exact ⟨p1, S', gc ++ g1, by omega, h3, h4, fun hx => h5 (hm hx), h6.trans e57, tf_tr htf h7, sl_step k23 h1 hev, fun O hO => ws_app (hW O hO) (h8 O hO) h5⟩
theorem es_loop (hd : d ≤ 25) (hK : ∀ p, SWr kd vl n m lo 2 d p (Kinner a)) : LWr kd vl n m lo d p (pp_loop Kstatement Kinner Kblock Kloop KdoStatement KforStatement a a2 a3) := by
  intro S σ τ vs Q F hG hg h57 kk kn
  unfold pp_loop
  refine fun _ => ?_
  have k0 : Kp [(0, 57), (0, 58), (0, 59)] [] σ (upC (upC (upC σ 0 58 ((-1) : Int32)) 0 59 ((-1) : Int32)) 0 57 ((σ 0 57) + (1 : Int32))) := kp_f (kp_f (kp_f kp_rf rfl) rfl) rfl
  have e0 : (upC (upC (upC σ 0 58 ((-1) : Int32)) 0 59 ((-1) : Int32)) 0 57 ((σ 0 57) + (1 : Int32))) 0 57 = (σ 0 57) + (1 : Int32) := rdA_eq rfl
  generalize upC (upC (upC σ 0 58 ((-1) : Int32)) 0 59 ((-1) : Int32)) 0 57 ((σ 0 57) + (1 : Int32)) = σa at k0 e0
  refine mr_put1 (fun s1 ks1 => ?_)
  have k1 : Kp [(0, 57), (0, 58), (0, 59), (0, 17)] [8] σ s1 := kp_tr (kp_sub k0 rfl rfl) (kp_sub ks1 rfl rfl)
  have e1 : s1 0 57 = (σ 0 57) + (1 : Int32) := by rw [ks1 0 57 rfl rfl, e0]
  have i1 : (s1 0 57).toInt = (σ 0 57).toInt + 1 := by rw [e1, ad1 (by omega)]
  have d1 : DSw σ s1 := ds_k k1 rfl rfl
  have e12 : s1 0 12 = σ 0 12 := k1 0 12 rfl rfl
  refine hK p S s1 τ vs _ F (rg_ds hG d1 (by rw [e12]; exact rgq_0 hG.1)) (gm_k hg (k1 0 10 rfl rfl)) (by rw [on_2, i1]; omega) (fun s t z he => ?_) kn
  obtain ⟨p', S', g, h1, h2, h3, h4, h5, h6, h7, h8⟩ := he
  refine ⟨fun _ => True, fun y _ => mr_aimAll (fun s2 k2 => ?_), fun _ => trivial, fun _ => trivial⟩
  have k3 : Kp [(0, 57), (0, 59), (0, 60)] [8] s (upC (upC s2 0 59 (σ 0 59)) 0 60 (σ 0 58)) := kp_f (kp_f (kp_tr (kp_f kp_rf rfl) (kp_sub k2 rfl rfl)) rfl) rfl
  refine kk _ t z p' S' g s1 s h1 h2 (gm_k h3 (k3 0 10 rfl rfl)) (rg_ds h4 (ds_k k3 rfl rfl) (by rw [k3 0 12 rfl rfl]; exact rgq_0 h4.1)) (fun hx => ?_) ?_ h7 d1 e12 (by rw [i1]; omega) h5 (ds_k k3 rfl rfl) (k3 0 12 rfl rfl) (fun O hO => h8 (O + 1) (by rw [on_2]; omega))
  · rw [k3 0 12 rfl rfl]
    exact h5 (by rw [e12]; exact hx)
  · rw [rdA_ne (by decide), rdA_ne (by decide), k2 0 57 rfl rfl, rdA_eq rfl]
    exact ieq (by rw [h6, sb1 (by rw [i1]; omega), i1]; omega)
theorem mn_k (e : σ' 0 12 = σ 0 12) : MNq σ σ' := fun hx => by rw [e]; exact hx
theorem es_do (hd : d ≤ 25) (c12 : kd p = 12) (ha2 : a2.toInt = (p : Int)) (hL : ∀ p a2 a3, LWr kd vl n m lo d p (Kloop a a2 a3)) : SWr kd vl n m lo 0 d p (pp_doStatement Kstatement Kinner Kblock Kloop KdoStatement KforStatement a a2) := by
  intro S σ τ vs Q F hG hg h57 kk kn
  unfold pp_doStatement
  have hd' : ¬ 25 < d := Nat.not_lt.mpr hd
  have k0 : Kp [(0, 10)] [] σ (upC σ 0 10 ((σ 0 10) + (1 : Int32))) := kp_f kp_rf rfl
  have g0 := gm_up hG.1.1 hg (by rw [c12]; decide)
  generalize upC σ 0 10 ((σ 0 10) + (1 : Int32)) = σa at k0 g0
  have hG0 := rg_ds hG (ds_k k0 rfl rfl) (by rw [k0 0 12 rfl rfl]; exact rgq_0 hG.1)
  refine hL (p + 1) a2 _ S σa τ vs _ F hG0 g0 (by rw [k0 0 57 rfl rfl]; exact h57) (fun s t z p1 S' gb σ1 σ2 h1 h2 h3 h4 h5 h6 h7 h8 h9 h10 h11 h12 h13 h14 => ?_) (fun hn => kn (st_12 hd' c12 (ev_b0 hn)))
  have k1 : Kp [(0, 58)] [] s (upC s 0 58 (s 0 60)) := kp_f kp_rf rfl
  generalize upC s 0 58 (s 0 60) = s1 at k1
  have e10 : s1 0 10 = s 0 10 := k1 0 10 rfl rfl
  have g1 : GMt s1 n p1 := gm_k h3 e10
  have hG1 := rg_ds h4 (ds_k k1 rfl rfl) (by rw [k1 0 12 rfl rfl]; exact rgq_0 h4.1)
  unfold pp_isWord
  refine fun _ => ?_
  rw [nat_of g1.1, hG1.1.1.2.1 p1 g1.2]
  refine ⟨fun c => ⟨fun hx => absurd rfl hx, fun _ => ?_⟩, fun c => ⟨fun _ => ?_, fun hx => absurd hx (by decide)⟩⟩
  · unfold pp_wrong pp_wrongAt
    exact fun _ => kn (st_12 hd' c12 (ev_b h1 (ev_f (fun hx => c (by rw [hx]; decide)) ev_c)))
  have k11 : kd p1 = 11 := rk_is hG1.1 11 (by decide) 11 (by decide) c
  have k2 : Kp [(0, 10)] [] s1 (upC s1 0 10 ((s 0 10) + (1 : Int32))) := kp_f kp_rf rfl
  have g2 := gm_up hG1.1.1 g1 (by rw [k11]; decide)
  rw [e10] at g2
  generalize upC s1 0 10 ((s 0 10) + (1 : Int32)) = s2 at k2 g2
  have k12 : Kp [(0, 10), (0, 58)] [] s s2 := kp_tr (kp_sub k1 rfl rfl) (kp_sub k2 rfl rfl)
  have hG2 := rg_ds h4 (ds_k k12 rfl rfl) (by rw [k12 0 12 rfl rfl]; exact rgq_0 h4.1)
  refine es_condition hG2 g2 (fun s3 t3 z3 p3 l hcn hp3 g3 hG3 hm3 e573 tf3 hcd => ?_) (fun hn => kn (st_12 hd' c12 (ev_b h1 (ev_t k11 (ev_b0 (hn 31 p1))))))
  refine mr_expect hG3.1.1 g3 (c := 27) (by decide) (by decide) (fun k27 s4 k4 g4 => ?_) (fun k27 => kn (st_12 hd' c12 (ev_b h1 (ev_t k11 (ev_b (hcn 31 p1) (ev_f k27 ev_c))))))
  refine mr_put1 (fun s5 k5 => mr_aimAll (fun s6 k6 => ?_))
  have k36 : Kp [(0, 10), (0, 17)] [8] s3 s6 := kp_tr (kp_tr (kp_sub k4 rfl rfl) (kp_sub k5 rfl rfl)) (kp_sub k6 rfl rfl)
  have k46 : Kp [(0, 17)] [8] s4 s6 := kp_tr k5 (kp_sub k6 rfl rfl)
  have e612 : s6 0 12 = s3 0 12 := k36 0 12 rfl rfl
  have e57a : s6 0 57 = σ 0 57 := by rw [k36 0 57 rfl rfl, e573, k12 0 57 rfl rfl, h6, k0 0 57 rfl rfl]
  have hm26 : MNq σ2 s6 := fun hx => by rw [e612]; exact hm3 (by rw [k12 0 12 rfl rfl, h13]; exact hx)
  refine kk s6 t3 z3 ⟨p3 + 1, S', [gq (stp 29 p)] ++ gb ++ [gq (stp 30 p1)] ++ (gqs l ++ [gq (stp 31 p1)]), st_12 hd' c12 (ev_b h1 (ev_t k11 (ev_b (hcn 31 p1) (ev_t k27 ev_c)))), by omega, gm_k g4 (k46 0 10 rfl rfl), rg_ds hG3 (ds_k k36 rfl rfl) (by rw [e612]; exact rgq_0 hG3.1), fun hx => hm26 (h11 (by rw [h9, k0 0 12 rfl rfl]; exact hx)), e57a, tf_tr h7 tf3, fun O hO => ?_⟩
  rw [on_0] at hO
  rw [List.append_assoc ([gq (stp 29 p)] ++ gb)]
  have A1 : WOq kd n S m lo d O (O + 1) [gq (stp 29 p)] σ σ1 True := wo_st (by simp [stp]) (fun w hw => sa_29 hw (by omega)) (ds_tr (ds_k k0 rfl rfl) h8) (by rw [h9, k0 0 12 rfl rfl])
  have A3 : WOq kd n S' m lo d (O + 1) O ([gq (stp 30 p1)] ++ (gqs l ++ [gq (stp 31 p1)])) σ2 s6 True := wo_src h12 h13 (wo_app (b2 := True) (wo_st (σ' := s2) (by simp [stp]) (fun w hw => sa_30 hw) (ds_k k12 rfl rfl) (k12 0 12 rfl rfl)) (wo_ref (wo_cd (by simp [stp]) hcd (fun r K T H Z F X i h95 h77 h63 hA hk => sa_31 h95 h77 h63 hA hk)) (ds_k k36 rfl rfl) e612) (fun hx => by rw [e612]; exact hm3 hx) (Or.inl ⟨rfl, Iff.rfl⟩))
  exact ws_loop A1 (h14 O hO) A3 h11 hm26 (Or.inl ⟨trivial, h10⟩) e57a
theorem es_for (hd : d ≤ 25) (c13 : kd p = 13) (ha2 : a2.toInt = (p : Int)) (hL : ∀ p a2 a3, LWr kd vl n m lo d p (Kloop a a2 a3)) : SWr kd vl n m lo 0 d p (pp_forStatement Kstatement Kinner Kblock Kloop KdoStatement KforStatement a a2) := by
  intro S σ τ vs Q F hG hg h57 kk kn
  unfold pp_forStatement
  have hd' : ¬ 25 < d := Nat.not_lt.mpr hd
  have fh : EVq (fun N => FHn kd N p) none → F := fun h => kn (st_13 hd' c13 (ev_b0 h))
  have k0 : Kp [(0, 10)] [] σ (upC σ 0 10 ((σ 0 10) + (1 : Int32))) := kp_f kp_rf rfl
  have g0 := gm_up hG.1.1 hg (by rw [c13]; decide)
  generalize upC σ 0 10 ((σ 0 10) + (1 : Int32)) = σa at k0 g0
  have hG0 := rg_ds hG (ds_k k0 rfl rfl) (by rw [k0 0 12 rfl rfl]; exact rgq_0 hG.1)
  refine mr_expect hG0.1.1 g0 (c := 20) (by decide) (by decide) (fun k20 s13 k13 g13 => ?_) (fun k20 => fh (ev_f k20 ev_c))
  have k013 : Kp [(0, 10)] [] σ s13 := kp_tr k0 k13
  have e13 : s13 0 12 = σ 0 12 := k013 0 12 rfl rfl
  have hG13 := rg_ds hG (ds_k k013 rfl rfl) (by rw [e13]; exact rgq_0 hG.1)
  refine mr_is1 hG13.1.1 g13 (c := 27) (by decide) (by decide) (fun v19 hv19 => ⟨fun s t z => ∃ (pa : Nat) (ga : List Gsq), EVq (fun N => if kd (p + 2) = 27 then some (p + 2, ([] : List Gsq)) else (EXn kd N (p + 2)).bind fun r => some (r.1, r.2 ++ [gq (stp 22 p)])) (some (pa, ga)) ∧ p + 2 ≤ pa ∧ GMt s n pa ∧ RGs kd vl n S m lo d s ∧ MNq σ s ∧ s 0 57 = σ 0 57 ∧ TFq τ vs t z ∧ ∀ O b, WOq kd n S m lo d O O ga σ s b, ?_, fun c => ?_, fun c => ?_⟩)
  · rintro s29 t29 z29 ⟨pa, ga, hA, hpa, g29, hG29, hm29, e29, tf29, hW29⟩
    refine mr_expect hG29.1.1 g29 (c := 27) (by decide) (by decide) (fun kA s32 k32 g32 => ?_) (fun kA => fh (ev_t k20 (ev_b hA (ev_f kA ev_c))))
    have hG32 := rg_ds hG29 (ds_k k32 rfl rfl) (by rw [k32 0 12 rfl rfl]; exact rgq_0 hG29.1)
    refine mr_is1 hG32.1.1 g32 (c := 27) (by decide) (by decide) (fun v46 hv46 => ⟨fun _ s t z => ∃ (pt : Nat) (gt : List Gsq) (x : Int), EVq (fun N => if kd (pa + 1) = 27 then some (pa + 1, ([] : List Gsq), (0 : Int)) else (EXn kd N (pa + 1)).bind fun r => some (r.1, r.2, 1)) (some (pt, gt, x)) ∧ pa + 1 ≤ pt ∧ GMt s n pt ∧ RGs kd vl n S m lo d s ∧ MNq s32 s ∧ s 0 57 = s32 0 57 ∧ TFq t29 z29 t z ∧ ∀ O b, WOq kd n S m lo d O O (gt ++ [gq (33, p, x, 0)]) s32 s b, ?_, fun c => ?_, fun c => ?_⟩)
    · rintro x4 s83 t83 z83 ⟨pt, gt, x, hT, hpt, g83, hG83, hm83, e83, tf83, hW83⟩
      refine mr_expect hG83.1.1 g83 (c := 27) (by decide) (by decide) (fun kT s86 k86 g86 => ?_) (fun kT => fh (ev_t k20 (ev_b hA (ev_t kA (ev_b hT (ev_f kT ev_c))))))
      refine mr_open (fun v92 s92 k92 => ?_)
      have k8392 : Kp [(0, 10), (0, 17)] [8] s83 s92 := kp_tr (kp_sub k86 rfl rfl) (kp_sub k92 rfl rfl)
      have e92 : s92 0 12 = s83 0 12 := k8392 0 12 rfl rfl
      have hG92 := rg_ds hG83 (ds_k k8392 rfl rfl) (by rw [e92]; exact rgq_0 hG83.1)
      have g92 : GMt s92 n (pt + 1) := gm_k g86 (k92 0 10 rfl rfl)
      refine mr_is1 hG92.1.1 g92 (c := 21) (by decide) (by decide) (fun v106 hv106 => ⟨fun s t z => ∃ (pl : Nat) (gl : List Gsq), EVq (fun N => if kd (pt + 1) = 21 then some (pt + 1, ([] : List Gsq)) else (EXn kd N (pt + 1)).bind fun r => some (r.1, r.2 ++ [gq (stp 22 p)])) (some (pl, gl)) ∧ pt + 1 ≤ pl ∧ GMt s n pl ∧ RGs kd vl n S m lo d s ∧ MNq s92 s ∧ s 0 57 = s92 0 57 ∧ TFq t83 z83 t z ∧ ∀ O b, WOq kd n S m lo d O O gl s92 s b, ?_, fun c => ?_, fun c => ?_⟩)
      · rintro s116 t116 z116 ⟨pl, gl, hLl, hpl, g116, hG116, hm116, e116, tf116, hW116⟩
        refine mr_put1 (fun s120 k120 => ?_)
        have hG120 := rg_ds hG116 (ds_k k120 rfl rfl) (by rw [k120 0 12 rfl rfl]; exact rgq_0 hG116.1)
        refine mr_expect hG120.1.1 (gm_k g116 (k120 0 10 rfl rfl)) (c := 21) (by decide) (by decide) (fun kL s126 k126 g126 => ?_) (fun kL => fh (ev_t k20 (ev_b hA (ev_t kA (ev_b hT (ev_t kT (ev_b hLl (ev_f kL ev_c))))))))
        have hfh : EVq (fun N => FHn kd N p) (some (pl + 1, ga ++ [gq (stp 32 p)] ++ gt ++ [gq (33, p, x, 0)] ++ gl ++ [gq (stp 34 p)])) := ev_t k20 (ev_b hA (ev_t kA (ev_b hT (ev_t kT (ev_b hLl (ev_t kL ev_c))))))
        refine mr_aim (fun s132 k132 => ?_)
        have k16 : Kp [(0, 10), (0, 17)] [8] s116 s132 := kp_tr (kp_tr (kp_sub k120 rfl rfl) (kp_sub k126 rfl rfl)) (kp_sub k132 rfl rfl)
        have e132 : s132 0 12 = s116 0 12 := k16 0 12 rfl rfl
        have hG132 := rg_ds hG116 (ds_k k16 rfl rfl) (by rw [e132]; exact rgq_0 hG116.1)
        have f132 : s132 0 57 = σ 0 57 := by rw [k16 0 57 rfl rfl, e116, k8392 0 57 rfl rfl, e83, k32 0 57 rfl rfl, e29]
        refine hL (pl + 1) a2 _ S s132 t116 z116 _ F hG132 (gm_k g126 (k132 0 10 rfl rfl)) (by rw [f132]; exact h57) (fun s t z p1 S' gb σ1 σ2 h1 h2 h3 h4 h5 h6 h7 h8 h9 h10 h11 h12 h13 h14 => ?_) (fun hn => kn (st_13 hd' c13 (ev_b hfh (ev_b0 hn))))
        refine mr_put1 (fun s162 k162 => ?_)
        have kS : Kp [(0, 17), (0, 58)] [8] s s162 := kp_tr (kp_f kp_rf rfl) (kp_sub k162 rfl rfl)
        refine ⟨fun s' t' z' => t' = t ∧ z' = z ∧ Kp [(0, 17), (0, 58)] [8] s s', ?_, fun _ => ⟨rfl, rfl, kS⟩, fun _ => mr_aim (fun s173 k173 => ⟨rfl, rfl, kp_tr kS (kp_sub k173 rfl rfl)⟩)⟩
        rintro s176 t176 z176 ⟨rfl, rfl, k176⟩
        refine mr_aimAll (fun s9 k9 => ?_)
        have kE : Kp [(0, 17), (0, 58)] [8] s s9 := kp_tr k176 (kp_sub k9 rfl rfl)
        have e9 : s9 0 12 = s 0 12 := kE 0 12 rfl rfl
        have f9 : s9 0 57 = σ 0 57 := by rw [kE 0 57 rfl rfl, h6, f132]
        have hm29' : MNq s32 s132 := fun hx => by rw [e132]; exact hm116 (by rw [e92]; exact hm83 hx)
        have hmσ : MNq σ s32 := fun hx => by rw [k32 0 12 rfl rfl]; exact hm29 hx
        have hm2 : MNq σ2 s9 := fun hx => by rw [e9, h13]; exact hx
        refine kk s9 t176 z176 ⟨p1, S', ga ++ [gq (stp 32 p)] ++ gt ++ [gq (33, p, x, 0)] ++ gl ++ [gq (stp 34 p)] ++ gb ++ [gq (stp 35 p)], st_13 hd' c13 (ev_b hfh (ev_b h1 ev_c)), by omega, gm_k h3 (kE 0 10 rfl rfl), rg_ds h4 (ds_k kE rfl rfl) (by rw [e9]; exact rgq_0 h4.1), fun hx => hm2 (h11 (by rw [h9]; exact hm29' (hmσ hx))), f9, tf_tr tf29 (tf_tr tf83 (tf_tr tf116 h7)), fun O hO => ?_⟩
        rw [on_0] at hO
        have A1 : WOq kd n S m lo d O (O + 1) (ga ++ [gq (stp 32 p)]) σ s32 True := wo_app (hW29 O True) (wo_st (by simp [stp]) (fun w hw => sa_32 hw (by omega)) (ds_k k32 rfl rfl) (k32 0 12 rfl rfl)) (mn_k (k32 0 12 rfl rfl)) (Or.inl ⟨rfl, Iff.rfl⟩)
        have A2 : WOq kd n S m lo d O (O + 1) ((ga ++ [gq (stp 32 p)]) ++ (gt ++ [gq (33, p, x, 0)])) σ s83 True := wo_app A1 (hW83 (O + 1) True) hm83 (Or.inr (Or.inl rfl))
        have A3 : WOq kd n S m lo d O (O + 1) (((ga ++ [gq (stp 32 p)]) ++ (gt ++ [gq (33, p, x, 0)])) ++ gl) σ s116 True := wo_app A2 (wo_src (ds_k k8392 rfl rfl) e92 (hW116 (O + 1) True)) (fun hx => hm116 (by rw [e92]; exact hx)) (Or.inr (Or.inl rfl))
        have A4 : WOq kd n S m lo d O (O + 1) ((((ga ++ [gq (stp 32 p)]) ++ (gt ++ [gq (33, p, x, 0)])) ++ gl) ++ [gq (stp 34 p)]) σ σ1 True := wo_app (b2 := True) A3 (wo_st (by simp [stp]) (fun w hw => sa_34 hw) (ds_tr (ds_k k16 rfl rfl) h8) (by rw [h9, e132])) (mn_k (by rw [h9, e132])) (Or.inr (Or.inl rfl))
        have A5 : WOq kd n S' m lo d (O + 1) O [gq (stp 35 p)] σ2 s9 True := wo_st (by simp [stp]) (fun w hw => sa_35 hw) (ds_tr h12 (ds_k kE rfl rfl)) (by rw [e9, h13])
        have A6 := ws_loop A4 (h14 O hO) A5 h11 hm2 (Or.inl ⟨trivial, h10⟩) f9
        simp only [List.append_assoc] at A6 ⊢
        exact A6
      · have k21 := hv106.1 c
        exact ⟨pt + 1, [], ev_t k21 ev_c, Nat.le_refl _, g92, hG92, fun h => h, rfl, tf_rf, fun O b => wo_nil ds_rf rfl⟩
      · have k21 : kd (pt + 1) ≠ 21 := fun h => (hv106.2 h) c
        exact es_plain hG92 g92 (fun s t z p' l hev hp g1 hG1 hm e57 tf hW => ⟨p', gqs l ++ [gq (stp 22 p)], ev_f k21 (ev_b hev ev_c), by omega, g1, hG1, hm, e57, tf, fun O b => hW O p b⟩) (fun hn => fh (ev_t k20 (ev_b hA (ev_t kA (ev_b hT (ev_t kT (ev_b0 (ev_f k21 (ev_b0 hn)))))))))
    · have k27 := hv46.1 c
      exact ⟨pa + 1, [], 0, ev_t k27 ev_c, Nat.le_refl _, g32, hG32, fun h => h, rfl, tf_rf, fun O b => wo_st (y := (33, p, 0, 0)) (by simp) (fun w hw => sa_33 hw) ds_rf rfl⟩
    · have k27 : kd (pa + 1) ≠ 27 := fun h => (hv46.2 h) c
      refine es_expr hG32 g32 (fun u s54 t54 z54 p' l K T H Z F' I X hev hp g54 hG54 hr hm htf hu hun hmv hvr hact hex => ?_) (fun hn => fh (ev_t k20 (ev_b hA (ev_t kA (ev_b0 (ev_f k27 (ev_b0 hn)))))))
      refine mr_read hmv (fun _ s62 t62 kw hne hmv2 => ?_)
      have e62 : s62 0 12 = s54 0 12 := kw 0 12 rfl rfl
      have e15 : (s62 0 15).toInt = 0 := by rw [kw 0 15 rfl rfl]; exact hG54.2.2.2.1
      refine mr_isA hmv2 (fun v _ hv => mr_must (by rw [e62]; exact rgq_0 hG54.1) (fun s72 k72 f72 => mr_open (fun v78 s78 k78 => ?_)))
      have kz : Kp [(0, 10), (0, 12), (0, 13), (0, 17)] [8] s54 s72 := kp_tr (kp_sub kw rfl rfl) (kp_sub k72 rfl rfl)
      have ky : Kp [(0, 10), (0, 12), (0, 13), (0, 17)] [8] s54 s78 := kp_tr kz (kp_sub k78 rfl rfl)
      have e78 : s78 0 12 = s72 0 12 := k78 0 12 rfl rfl
      have hB : MNq s54 s72 := fun hx => f72.2.2 (Or.inl (by rw [e62]; exact hx))
      have hcd : CDo kd n S m lo d l s32 s72 := cd_of hex hact hG32.2.2.2.1 hr hvr kz hB (fun h0 h2 => ft_any f72 e15 hv hvr.2.1.1 (by rw [e62]; exact h0) h2) ds_rf rfl
      exact ⟨p', gqs l, 1, ev_f k27 (ev_b hev ev_c), by omega, gm_k g54 (by rw [k78 0 10 rfl rfl, k72 0 10 rfl rfl, kw 0 10 rfl rfl]), rg_ds hG54 (ds_k ky rfl rfl) (by rw [e78]; exact f72.1), fun hx => by rw [e78]; exact hB (hm hx), by rw [ky 0 57 rfl rfl, hr 0 57 rfl rfl], tf_read htf hun hne, fun O b => wo_ref (wo_cd (y := (33, p, 1, 0)) (by simp) hcd (fun r K T H Z F X i h95 h77 h63 hA hk => sa_33c h95 h77 h63 hA hk)) (ds_k k78 rfl rfl) e78⟩
  · have k27 := hv19.1 c
    exact ⟨p + 2, [], ev_t k27 ev_c, Nat.le_refl _, g13, hG13, mn_k e13, k013 0 57 rfl rfl, tf_rf, fun O b => wo_nil (ds_k k013 rfl rfl) e13⟩
  · have k27 : kd (p + 2) ≠ 27 := fun h => (hv19.2 h) c
    exact es_plain hG13 g13 (fun s t z p' l hev hp g1 hG1 hm e57 tf hW => ⟨p', gqs l ++ [gq (stp 22 p)], ev_f k27 (ev_b hev ev_c), by omega, g1, hG1, fun hx => hm (by rw [e13]; exact hx), by rw [e57, k013 0 57 rfl rfl], tf, fun O b => wo_src (ds_k k013 rfl rfl) e13 (hW O p b)⟩) (fun hn => fh (ev_t k20 (ev_b0 (ev_f k27 (ev_b0 hn)))))
end SLP
end

section
/-! the reference's statements: returns, whole -/
/-- up to a semicolon -/
def SEm (kd vl : Nat → Int) (n m lo d S p : Nat) (σ τ : St) (vs : List Nat) (s t : St) (z : List Nat) : Prop :=
  ∃ (pr : Nat) (gr : List Gsq), p ≤ pr ∧ GMt s n pr ∧ RGs kd vl n S m lo d s ∧ MNq σ s ∧ s 0 57 = σ 0 57 ∧ TFq τ vs t z ∧ (kd pr = 27 → EVq (fun N => STn kd vl N 0 d p) (some (pr + 1, gr))) ∧ (kd pr ≠ 27 → EVq (fun N => STn kd vl N 0 d p) none) ∧ ∀ O, O < d → WSq kd n m lo d O S S gr σ s
section SST2
variable {w s r σ σ' σ0 σ1 σ2 σ3 τ t : St} {kd vl : Nat → Int} {n S S1 S2 m lo d O p q k : Nat} {vs z : List Nat} {g g1 g2 gc : List Gsq} {l : List Stq} {F0 : Prop} {a a2 a3 : Int32}
variable {Kstatement Kinner Kblock : Int32 → St → St → List Nat → (St → St → List Nat → Prop) → (St → St → List Nat → Prop) → Prop} {Kloop : Int32 → Int32 → Int32 → St → St → List Nat → (St → St → List Nat → Prop) → (St → St → List Nat → Prop) → Prop} {KdoStatement KforStatement : Int32 → Int32 → St → St → List Nat → (St → St → List Nat → Prop) → (St → St → List Nat → Prop) → Prop}
theorem es_semi {Q : St → St → List Nat → Prop} (h : SEm kd vl n m lo d S p σ τ vs s t z) (kk : ∀ s t z, ESq kd vl n m lo 0 d S p σ τ vs s t z → Q s t z) (kn : EVq (fun N => STn kd vl N 0 d p) none → F0) : pp_expect (27 : Int32) s t z Q (fun _ _ _ => F0) := by
  obtain ⟨pr, gr, h1, h2, h3, h4, h5, h6, h7, h8, h9⟩ := h
  exact mr_expect h3.1.1 h2 (c := 27) (by decide) (by decide) (fun k27 s' k g => kk s' t z ⟨pr + 1, S, gr, h7 k27, Nat.lt_succ_of_le h1, g, rg_ds h3 (ds_k k rfl rfl) (by rw [k 0 12 rfl rfl]; exact rgq_0 h3.1), fun hx => by rw [k 0 12 rfl rfl]; exact h4 hx, (k 0 57 rfl rfl).trans h5, h6, fun O hO => ws_ref (h9 O hO) (ds_k k rfl rfl) (k 0 12 rfl rfl) (k 0 57 rfl rfl)⟩) (fun k27 => kn (h8 k27))
theorem rs_end (hL : LPq O w σ) (hR1 : RSo kd n S m lo d k r σ) (k : STw r s) (e7 : (s 7 7).toInt = 0) (e95 : s 9 5 = w 9 5) (e49 : s 49 = w 49) (r1 : DSw σ σ') (e57 : σ' 0 57 = σ 0 57) (hl : (s 6 3).toInt ≠ 0 ↔ (σ' 0 12).toInt ≠ 0) : ((s 6 3).toInt ≠ 0 → (σ' 0 12).toInt ≠ 0) ∧ ((s 6 3).toInt = 0 → (σ' 0 12).toInt = 0 ∧ RSq kd n S m lo d O 0 s σ' ∧ ∀ i, i < O → s 49 i = w 49 i) :=
  ⟨hl.1, fun hx => ⟨Decidable.byContradiction (fun hn => hl.2 hn hx), ⟨ro_cs hR1 (cs_w k) r1 (by rw [e7]; rfl), lp_at hL (by rw [e95]; exact hL.1) (fun i _ => by rw [e49]) e57⟩, fun i _ => by rw [e49]⟩⟩
theorem es_return (hd : d ≤ 25) (c16 : kd p = 16) (ha : a.toInt = (p : Int)) : SWr kd vl n m lo 0 d p (pp_returnStatement a) := by
  intro S σ τ vs Q F hG hg h57 kk kn
  unfold pp_returnStatement
  have hd' : ¬ 25 < d := Nat.not_lt.mpr hd
  have nn : kd p ≠ 22 ∧ kd p ≠ 27 ∧ kd p ≠ 5 ∧ kd p ≠ 9 ∧ kd p ≠ 11 ∧ kd p ≠ 12 ∧ kd p ≠ 13 := by rw [c16]; decide
  have n14 : ¬ kd p = 14 := by rw [c16]; decide
  have n15 : ¬ kd p = 15 := by rw [c16]; decide
  have k0 : Kp [(0, 10)] [] σ (upC σ 0 10 ((σ 0 10) + (1 : Int32))) := kp_f kp_rf rfl
  have g0 := gm_up hG.1.1 hg (by rw [c16]; decide)
  generalize upC σ 0 10 ((σ 0 10) + (1 : Int32)) = σa at k0 g0
  have ea : σa 0 12 = σ 0 12 := k0 0 12 rfl rfl
  have hG0 := rg_ds hG (ds_k k0 rfl rfl) (by rw [ea]; exact rgq_0 hG.1)
  have h15 : (σa 0 15).toInt = 0 := hG0.2.2.2.1
  refine mr_is1 hG0.1.1 g0 (c := 27) (by decide) (by decide) (fun v13 hv13 => ⟨fun s t z => SEm kd vl n m lo d S p σ τ vs s t z, fun s t z h => es_semi h kk kn, fun c => ?_, fun c => ?_⟩)
  · have k27 : kd (p + 1) ≠ 27 := fun h => (hv13.2 h) c
    refine es_expr hG0 g0 (fun u s39 t39 z39 p' l K T H Z F' I X hev hp g39 hG39 hr hm htf hu hun hmv hvr hact hex => ?_) (fun hn => kn (st_s hd' nn (ev_f n14 (ev_f n15 (ev_t c16 (ev_f k27 (ev_b0 hn)))))))
    refine mr_read hmv (fun _ s45 t45 kw hne hmv2 => ?_)
    have e45 : s45 0 12 = s39 0 12 := kw 0 12 rfl rfl
    have e55 : s45 0 55 = σ 0 55 := by rw [kw 0 55 rfl rfl, hr 0 55 rfl rfl, k0 0 55 rfl rfl]
    have e56 : s45 0 56 = σ 0 56 := by rw [kw 0 56 rfl rfl, hr 0 56 rfl rfl, k0 0 56 rfl rfl]
    have e4515 : (s45 0 15).toInt = 0 := by rw [kw 0 15 rfl rfl]; exact hG39.2.2.2.1
    rw [e55, e56]
    refine ⟨fun y => (y.toInt ≠ 0 ↔ ((σ 0 55).toInt = 0 ∧ (T = (σ 0 56).toInt ∨ (0 < (σ 0 56).toInt ∧ Z ≠ 0)))), fun y _ hy => ?_, ¬ ((σ 0 55).toInt = 0 ∧ (T = (σ 0 56).toInt ∨ (0 < (σ 0 56).toInt ∧ Z ≠ 0))), fun hj => ⟨fun hx => absurd rfl hx, fun hx => absurd hx hj⟩, fun c55 hx => c55 hx.1, fun c55 => mr_fits hmv2 (fun v hv1 hv2 => ⟨fun c0 hx => ?_, fun c1 => ⟨fun _ => ⟨c55, hv2.1 ?_⟩, fun _ => by decide⟩⟩)⟩
    · refine mr_must (by rw [e45]; exact rgq_0 hG39.1) (fun s73 k73 f73 => mr_put0 (fun s79 k79 => ?_))
      have kz : Kp [(0, 12), (0, 13), (0, 17)] [8] s39 s79 := kp_tr (kp_tr (kp_sub kw rfl rfl) (kp_sub k73 rfl rfl)) (kp_sub k79 rfl rfl)
      have e79 : s79 0 12 = s73 0 12 := k79 0 12 rfl rfl
      have hB : MNq s39 s79 := fun hx => by rw [e79]; exact f73.2.2 (Or.inl (by rw [e45]; exact hx))
      have f57 : s79 0 57 = s39 0 57 := kz 0 57 rfl rfl
      have g57 : s39 0 57 = σ 0 57 := by rw [hr 0 57 rfl rfl, k0 0 57 rfl rfl]
      refine ⟨p', gqs l ++ [gq (38, p, 1, 0)], by omega, gm_k g39 (kz 0 10 rfl rfl), rg_ds hG39 (ds_k kz rfl rfl) (by rw [e79]; exact f73.1), fun hx => hB (hm (by rw [ea]; exact hx)), by rw [f57, g57], tf_read htf hun hne, fun hk => st_s hd' nn (ev_f n14 (ev_f n15 (ev_t c16 (ev_f k27 (ev_b hev (ev_t hk ev_c)))))), fun hk => st_s hd' nn (ev_f n14 (ev_f n15 (ev_t c16 (ev_f k27 (ev_b hev (ev_f hk ev_c)))))), fun O hO => ?_⟩
      refine ws_src (ds_k k0 rfl rfl) ea (k0 0 57 rfl rfl) (fun h0 w hR hf => ?_)
      refine wx_ex (rest := [gq (38, p, 1, 0)]) hex hact h15 hr h0 hR.1 hf hB (fun r hr hb => ⟨fun _ => hb, fun hx => absurd hx hr⟩) (fun r i r0 s0 T2 H6 hR1 hste hA => ?_)
      refine gv_s (x := (38, p, 1, 0)) (by simp) (fun _ => st_mono (sa_38c hR1.2.1 r0 hA hvr.1) (fun s2 hs2 => ?_)) (fun hx => absurd r0 hx)
      obtain ⟨o1, o2, o3⟩ := hs2
      obtain ⟨t1, t2, t3⟩ := hR1.2.2.2.2.1
      have e5 : (s39 0 55).toInt = (σ 0 55).toInt := by rw [← e55, kw 0 55 rfl rfl]
      have e6 : (s39 0 56).toInt = (σ 0 56).toInt := by rw [← e56, kw 0 56 rfl rfl]
      rw [e5, e6] at t3
      rw [t2, e6] at o3
      have hlp : LPq O w s39 := lp_cs hR.2 rfl (fun _ _ => rfl) (hr 0 57 rfl rfl)
      refine rs_end (σ := s39) (r := r) hlp hR1 (sw_x o1) o2 (by rw [o1.1 9 5 (op_lt (by omega)) rfl rfl, ste_95 hste]) (by rw [ko_rd o1.1 49 (by omega) rfl (fun _ => rfl), ste_49 hste]) (ds_k kz rfl rfl) f57 ?_
      rw [o3, e79, f73.2, e45]
      constructor
      · intro hx
        refine Or.inr ⟨Decidable.byContradiction (fun hy2 => ?_), by omega⟩
        obtain ⟨y1, y2⟩ := hy.1 hy2
        exact hx (y2.imp (fun e => ⟨e, fun e2 => (t3.2 e2) y1⟩) id)
      · rintro (hx | ⟨hx, _⟩)
        · exact absurd s0 hx
        · intro hz
          refine absurd hx (hy.2 ⟨Decidable.byContradiction (fun c5 => ?_), hz.imp (fun e => e.1) id⟩)
          have := t3.1 c5
          rcases hz with ⟨_, e⟩ | ⟨e, _⟩
          · exact e this
          · omega
    · have := hv2.2 hx.2
      omega
    · rcases hv1 with e | e
      · exact absurd e c1
      · exact e
  · have k27 := hv13.1 c
    refine mr_must (by rw [ea]; exact rgq_0 hG.1) (fun s25 k25 f25 => mr_put0 (fun s31 k31 => ?_))
    have kz : Kp [(0, 10), (0, 12), (0, 13), (0, 17)] [8] σ s31 := kp_tr (kp_tr (kp_sub k0 rfl rfl) (kp_sub k25 rfl rfl)) (kp_sub k31 rfl rfl)
    have e31 : s31 0 12 = s25 0 12 := k31 0 12 rfl rfl
    have hB : MNq σ s31 := fun hx => by rw [e31]; exact f25.2.2 (Or.inl (by rw [ea]; exact hx))
    refine ⟨p + 1, [gq (stp 38 p)], Nat.le_succ p, gm_k g0 (by rw [k31 0 10 rfl rfl, k25 0 10 rfl rfl]), rg_ds hG (ds_k kz rfl rfl) (by rw [e31]; exact f25.1), hB, kz 0 57 rfl rfl, tf_rf, fun _ => st_s hd' nn (ev_f n14 (ev_f n15 (ev_t c16 (ev_t k27 ev_c)))), fun h => absurd k27 h, fun O hO h0 w hR hf => ?_⟩
    refine gv_s (x := stp 38 p) (by simp [stp]) (fun _ => st_mono (sa_38 hf) (fun s hs => ?_)) (fun hx => absurd hf hx)
    obtain ⟨o1, o3⟩ := hs
    obtain ⟨t1, t2, t3⟩ := hR.1.2.2.2.2.1
    refine rs_end hR.2 hR.1 (sw_k o1 rfl rfl) (by rw [o1 7 7 rfl rfl]; exact hR.1.2.1) (o1 9 5 rfl rfl) (funext (fun j => o1 49 j rfl rfl)) (ds_k kz rfl rfl) (kz 0 57 rfl rfl) ?_
    rw [o3, e31, f25.2, ea, t2]
    constructor
    · intro hx
      refine Or.inr ⟨Decidable.byContradiction (fun hy2 => hx (t3.1 hy2)), by omega⟩
    · rintro (hx | ⟨hx, _⟩)
      · exact absurd h0 hx
      · exact fun e => (t3.2 e) hx
theorem es_statement (ha : a.toInt = (d : Int)) (hd : d ≤ 26)
    (hI : d ≤ 25 → ∀ p, SWr kd vl n m lo 2 d p (Kinner a)) (hB : d ≤ 25 → ∀ p, kd p = 22 → SWr kd vl n m lo 0 d p (Kblock a)) (hL : d ≤ 25 → ∀ p a2 a3, LWr kd vl n m lo d p (Kloop a a2 a3))
    (hD : d ≤ 25 → ∀ (p : Nat) (a2 : Int32), kd p = 12 → a2.toInt = (p : Int) → SWr kd vl n m lo 0 d p (KdoStatement a a2)) (hF : d ≤ 25 → ∀ (p : Nat) (a2 : Int32), kd p = 13 → a2.toInt = (p : Int) → SWr kd vl n m lo 0 d p (KforStatement a a2))
    (hV : d ≤ 25 → ∀ p, kd p = 5 → SWr kd vl n m lo 0 d p (fun σ τ vs Q T => pp_variables (0 : Int32) (0 : Int32) (1 : Int32) (upC σ 0 10 ((σ 0 10) + (1 : Int32))) τ vs Q T)) :
    SWr kd vl n m lo 0 d p (pp_statement Kstatement Kinner Kblock Kloop KdoStatement KforStatement a) := by
  intro S σ τ vs Q F hG hg h57 kk kn
  unfold pp_statement
  rw [ha]
  refine ⟨fun ca => ?_, fun ca => ?_⟩
  · have hd2 : d ≤ 25 := by omega
    have hd' : ¬ 25 < d := Nat.not_lt.mpr hd2
    have up : 2 ≤ kd p → GMt (upC σ 0 10 ((σ 0 10) + (1 : Int32))) n (p + 1) := fun h2 => gm_up hG.1.1 hg h2
    have k0 : Kp [(0, 10)] [] σ (upC σ 0 10 ((σ 0 10) + (1 : Int32))) := kp_f kp_rf rfl
    have ek : (σ 2 (σ 0 10).toNatClampNeg).toInt = rkI (kd p) := gm_kind hG.1.1 hg
    rw [ek]
    have hva := hV hd2 p
    refine fun _ => ⟨(kd p ≠ 5 ∧ kd p ≠ 9 ∧ kd p ≠ 11 ∧ kd p ≠ 12 ∧ kd p ≠ 13 ∧ kd p ≠ 14 ∧ kd p ≠ 15 ∧ kd p ≠ 16), fun hJ => ?_, (kd p = 14 ∨ kd p = 15), fun hJ _ => ?_, fun c => ?_, fun n5 => ⟨fun c => ?_, fun n6 => ⟨fun c => ?_, fun n7 => ⟨fun c => ?_, fun n8 => ⟨fun c => ?_, fun n9 => ⟨fun c => ?_, fun n10 => ⟨fun c => ?_, fun n11 => ⟨fun c => ?_, fun n12 => ⟨fun c => ?_, fun n13 => ⟨fun c => ?_, fun n14 => ⟨fun c => ?_, fun n15 => ⟨fun c => ?_, fun n16 => ?_⟩⟩⟩⟩⟩⟩⟩⟩⟩⟩⟩⟩
    · obtain ⟨j5, j9, j11, j12, j13, j14, j15, j16⟩ := hJ
      refine mr_is1 hG.1.1 hg (c := 22) (by decide) (by decide) (fun v hv => ⟨fun c0 => ?_, fun c1 => hB hd2 p (hv.1 c1) S σ τ vs _ F hG hg h57 kk kn⟩)
      have n22 : kd p ≠ 22 := fun h => (hv.2 h) c0
      refine mr_is1 hG.1.1 hg (c := 27) (by decide) (by decide) (fun v2 hv2 => ⟨fun s t z => SEm kd vl n m lo d S p σ τ vs s t z, fun s t z h => es_semi h kk kn, fun c1 => ?_, fun c1 => ?_⟩)
      · have k27 := hv2.1 c1
        exact ⟨p, [], Nat.le_refl p, hg, hG, fun h => h, rfl, tf_rf, fun _ => st_27 hd' k27, fun h => absurd k27 h, fun O hO => ws_nil ds_rf rfl rfl⟩
      · have n27 : kd p ≠ 27 := fun h => (hv2.2 h) c1
        have nn : kd p ≠ 22 ∧ kd p ≠ 27 ∧ kd p ≠ 5 ∧ kd p ≠ 9 ∧ kd p ≠ 11 ∧ kd p ≠ 12 ∧ kd p ≠ 13 := ⟨n22, n27, j5, j9, j11, j12, j13⟩
        exact es_plain hG hg (fun s t z p' l hev hp g1 hG1 hm e57 tf hW => ⟨p', gqs l ++ [gq (stp 22 p)], Nat.le_of_lt hp, g1, hG1, hm, e57, tf, fun hk => st_s hd' nn (ev_f j14 (ev_f j15 (ev_f j16 (ev_b hev (ev_t hk ev_c))))), fun hk => st_s hd' nn (ev_f j14 (ev_f j15 (ev_f j16 (ev_b hev (ev_f hk ev_c))))), fun O hO => ws_of (hW O p True) e57⟩) (fun hn => kn (st_s hd' nn (ev_f j14 (ev_f j15 (ev_f j16 (ev_b0 hn))))))
    · have nn : kd p ≠ 22 ∧ kd p ≠ 27 ∧ kd p ≠ 5 ∧ kd p ≠ 9 ∧ kd p ≠ 11 ∧ kd p ≠ 12 ∧ kd p ≠ 13 := by rcases hJ with e | e <;> rw [e] <;> decide
      have g0 := up (by rcases hJ with e | e <;> rw [e] <;> decide)
      generalize upC σ 0 10 ((σ 0 10) + (1 : Int32)) = σa at k0 g0 hva ⊢
      have hG0 := rg_ds hG (ds_k k0 rfl rfl) (by rw [k0 0 12 rfl rfl]; exact rgq_0 hG.1)
      have hno : kd (p + 1) ≠ 27 → EVq (fun N => STn kd vl N 0 d p) none := fun hk => by
        rcases hJ with e | e
        · exact st_s hd' nn (ev_t e (ev_f hk ev_c))
        · exact st_s hd' nn (ev_f (by rw [e]; decide) (ev_t e (ev_f hk ev_c)))
      refine ⟨fun _ => True, fun y0 _ _ => ?_, fun _ => trivial, fun _ => trivial⟩
      refine mr_expect hG0.1.1 g0 (c := 27) (by decide) (by decide) (fun k27 s3 k3 g3 => ?_) (fun hk => kn (hno hk))
      have k03 : Kp [(0, 10)] [] σ s3 := kp_tr k0 k3
      have e3 : s3 0 12 = σ 0 12 := k03 0 12 rfl rfl
      refine ⟨fun y => (y.toInt ≠ 0 ↔ 0 < (s3 0 57).toInt), fun y _ hy => ?_, fun c => ⟨fun hx => absurd rfl hx, fun hx => by omega⟩, fun c => ⟨fun _ => c, fun _ => by decide⟩⟩
      refine mr_must (by rw [e3]; exact rgq_0 hG.1) (fun s4 k4 f4 => ?_)
      have fin : ∀ s9, Kp [(0, 17), (0, 58), (0, 59)] [8] s4 s9 → Q s9 τ vs := fun s9 k9 => by
        have kz : Kp [(0, 10), (0, 12), (0, 13), (0, 17), (0, 58), (0, 59)] [8] σ s9 := kp_tr (kp_tr (kp_sub k03 rfl rfl) (kp_sub k4 rfl rfl)) (kp_sub k9 rfl rfl)
        have e9 : s9 0 12 = s4 0 12 := k9 0 12 rfl rfl
        have ev : ∃ y : Int, (y = 36 ∨ y = 37) ∧ EVq (fun N => STn kd vl N 0 d p) (some (p + 2, [gq (stp y p)])) := by
          rcases hJ with e | e
          · exact ⟨36, Or.inl rfl, st_s hd' nn (ev_t e (ev_t k27 ev_c))⟩
          · exact ⟨37, Or.inr rfl, st_s hd' nn (ev_f (by rw [e]; decide) (ev_t e (ev_t k27 ev_c)))⟩
        obtain ⟨y, hy2, hev⟩ := ev
        refine kk s9 τ vs ⟨p + 2, S, [gq (stp y p)], hev, by omega, gm_k g3 (by rw [k9 0 10 rfl rfl, k4 0 10 rfl rfl]), rg_ds hG (ds_k kz rfl rfl) (by rw [e9]; exact f4.1), fun hx => by rw [e9]; exact f4.2.2 (Or.inl (by rw [e3]; exact hx)), kz 0 57 rfl rfl, tf_rf, fun O hO => ws_leave hy2 (by rw [on_0] at hO; omega) (ds_k kz rfl rfl) (kz 0 57 rfl rfl) (fun h0 => ?_)⟩
        rw [e9, f4.2, e3]
        have e57 : s3 0 57 = σ 0 57 := k03 0 57 rfl rfl
        rw [e57] at hy
        constructor
        · rintro (hx | ⟨hx, _⟩)
          · exact absurd h0 hx
          · exact fun h => (hy.2 h) hx
        · intro hx
          refine Or.inr ⟨Decidable.byContradiction (fun h => hx (hy.1 h)), ?_⟩
          have := hG.2.2.2.1
          rw [k03 0 15 rfl rfl]
          omega
      refine ⟨fun _ => True, fun y2 _ => mr_put1 (fun s5 k5 => ⟨fun _ => fin _ (kp_f (kp_sub k5 rfl rfl) rfl), fun _ => fin _ (kp_f (kp_sub k5 rfl rfl) rfl)⟩), fun _ => trivial, fun _ => trivial⟩
    · exact hva (rk_is hG.1 5 (by decide) 5 (by decide) c) S σ τ vs _ F hG hg h57 kk kn
    · have e := rk_is hG.1 6 (by decide) 6 (by decide) c
      rw [e]; decide
    · have e := rk_is hG.1 7 (by decide) 7 (by decide) c
      rw [e]; decide
    · have e := rk_is hG.1 8 (by decide) 8 (by decide) c
      rw [e]; decide
    · have c9 := rk_is hG.1 9 (by decide) 9 (by decide) c
      have g0 := up (by rw [c9]; decide)
      generalize upC σ 0 10 ((σ 0 10) + (1 : Int32)) = σa at k0 g0 hva ⊢
      have hG0 := rg_ds hG (ds_k k0 rfl rfl) (by rw [k0 0 12 rfl rfl]; exact rgq_0 hG.1)
      refine es_condition hG0 g0 (fun s3 t3 z3 p3 l hcn hp3 g3 hG3 hm3 e573 tf3 hcd => mr_open (fun v4 s4 k4 => ?_)) (fun hn => kn (st_9 hd' c9 (ev_b0 (hn 23 p))))
      have e4 : s4 0 12 = s3 0 12 := k4 0 12 rfl rfl
      have f4 : s4 0 57 = σ 0 57 := by rw [k4 0 57 rfl rfl, e573, k0 0 57 rfl rfl]
      refine hI hd2 p3 S s4 t3 z3 _ F (rg_ds hG3 (ds_k k4 rfl rfl) (by rw [e4]; exact rgq_0 hG3.1)) (gm_k g3 (k4 0 10 rfl rfl)) (by rw [f4, on_2]; rw [on_0] at h57; omega) (fun s5 t5 z5 he => ?_) (fun hn => kn (st_9 hd' c9 (ev_b (hcn 23 p) (ev_b0 hn))))
      obtain ⟨p5, S5, gb, b1, b2, b3, b4, b5, b6, b7, b8⟩ := he
      have m04 : MNq σ s4 := fun hx => by rw [e4]; exact hm3 (by rw [k0 0 12 rfl rfl]; exact hx)
      have A1 : ∀ O, O < d → WOq kd n S m lo d O (O + 1) (gqs l ++ [gq (stp 23 p)]) σ s4 False := fun O hO => wo_ref (wo_src (ds_k k0 rfl rfl) (k0 0 12 rfl rfl) (wo_cd (by simp [stp]) hcd (fun r K T H Z F X i h95 h77 h63 hA hk => sa_23 h95 (by omega) h77 h63 hA hk))) (ds_k k4 rfl rfl) e4
      unfold pp_isWord
      rw [nat_of b3.1, b4.1.1.2.1 p5 b3.2]
      refine fun _ => ⟨fun c => ⟨fun hx => absurd rfl hx, fun _ => mr_aim (fun s6 k6 => ?_)⟩, fun c => ⟨fun _ => ?_, fun hx => absurd hx (by decide)⟩⟩
      · have n10' : kd p5 ≠ 10 := fun h => c (by rw [h]; decide)
        have e6 : s6 0 12 = s5 0 12 := k6 0 12 rfl rfl
        have f6 : s6 0 57 = σ 0 57 := by rw [k6 0 57 rfl rfl, b6, f4]
        refine kk s6 t5 z5 ⟨p5, S5, (gqs l ++ [gq (stp 23 p)]) ++ gb ++ [gq (stp 25 p)], st_9 hd' c9 (ev_b (hcn 23 p) (ev_b b1 (ev_f n10' ev_c))), by omega, gm_k b3 (k6 0 10 rfl rfl), rg_ds b4 (ds_k k6 rfl rfl) (by rw [e6]; exact rgq_0 b4.1), fun hx => by rw [e6]; exact b5 (m04 hx), f6, tf_tr tf3 b7, fun O hO => ?_⟩
        rw [on_0] at hO
        exact ws_loop (A1 O hO) (b8 (O + 1) (by rw [on_2]; omega)) (wo_st (b := True) (by simp [stp]) (fun w hw => sa_25 hw) (ds_k k6 rfl rfl) e6) b5 (mn_k e6) (Or.inr ⟨fun h => h, f4⟩) f6
      · have c10 : kd p5 = 10 := rk_is b4.1 10 (by decide) 10 (by decide) c
        have k6 : Kp [(0, 10)] [] s5 (upC s5 0 10 ((s5 0 10) + (1 : Int32))) := kp_f kp_rf rfl
        have g6 := gm_up b4.1.1 b3 (by rw [c10]; decide)
        generalize upC s5 0 10 ((s5 0 10) + (1 : Int32)) = s6 at k6 g6
        refine mr_open (fun v7 s7 k7 => mr_aim (fun s8 k8 => ?_))
        have k58 : Kp [(0, 10), (0, 17)] [8] s5 s8 := kp_tr (kp_tr (kp_sub k6 rfl rfl) (kp_sub k7 rfl rfl)) (kp_sub k8 rfl rfl)
        have e8 : s8 0 12 = s5 0 12 := k58 0 12 rfl rfl
        have f8 : s8 0 57 = s5 0 57 := k58 0 57 rfl rfl
        have f80 : s8 0 57 = σ 0 57 := by rw [f8, b6, f4]
        refine hI hd2 (p5 + 1) S5 s8 t5 z5 _ F (rg_ds b4 (ds_k k58 rfl rfl) (by rw [e8]; exact rgq_0 b4.1)) (gm_k g6 (by rw [k8 0 10 rfl rfl, k7 0 10 rfl rfl])) (by rw [f80, on_2]; rw [on_0] at h57; omega) (fun s9 t9 z9 he => mr_aim (fun sx kx => ?_)) (fun hn => kn (st_9 hd' c9 (ev_b (hcn 23 p) (ev_b b1 (ev_t c10 (ev_b0 hn))))))
        obtain ⟨p9, S9, ge, q1, q2, q3, q4, q5, q6, q7, q8⟩ := he
        have ex : sx 0 12 = s9 0 12 := kx 0 12 rfl rfl
        have fx : sx 0 57 = σ 0 57 := by rw [kx 0 57 rfl rfl, q6, f80]
        have m59 : MNq s5 s9 := fun hx => q5 (by rw [e8]; exact hx)
        refine kk sx t9 z9 ⟨p9, S9, (gqs l ++ [gq (stp 23 p)]) ++ gb ++ [gq (stp 24 p)] ++ ge ++ [gq (stp 25 p)], st_9 hd' c9 (ev_b (hcn 23 p) (ev_b b1 (ev_t c10 (ev_b q1 ev_c)))), by omega, gm_k q3 (kx 0 10 rfl rfl), rg_ds q4 (ds_k kx rfl rfl) (by rw [ex]; exact rgq_0 q4.1), fun hx => by rw [ex]; exact m59 (b5 (m04 hx)), fx, tf_tr (tf_tr tf3 b7) q7, fun O hO => ?_⟩
        rw [on_0] at hO
        have hO2 : O + 1 < onq 2 d := by rw [on_2]; omega
        have B1 : WSq kd n m lo d (O + 1) S S5 (gb ++ [gq (stp 24 p)]) s4 s8 := ws_app (b8 (O + 1) hO2) (ws_of (b := True) (wo_st (by simp [stp]) (fun w hw => sa_24 hw) (ds_k k58 rfl rfl) e8) f8) (mn_k e8)
        have B2 : WSq kd n m lo d (O + 1) S S9 ((gb ++ [gq (stp 24 p)]) ++ ge) s4 s9 := ws_app B1 (q8 (O + 1) hO2) q5
        have B3 := ws_loop (A1 O hO) B2 (wo_st (b := True) (y := stp 25 p) (by simp [stp]) (fun w hw => sa_25 hw) (ds_k kx rfl rfl) ex) (fun hx => m59 (b5 hx)) (mn_k ex) (Or.inr ⟨fun h => h, f4⟩) fx
        simp only [List.append_assoc] at B3 ⊢
        exact B3
    · have e := rk_is hG.1 10 (by decide) 10 (by decide) c
      rw [e]; decide
    · have c11 := rk_is hG.1 11 (by decide) 11 (by decide) c
      have g0 := up (by rw [c11]; decide)
      generalize upC σ 0 10 ((σ 0 10) + (1 : Int32)) = σa at k0 g0 hva ⊢
      have hG0 := rg_ds hG (ds_k k0 rfl rfl) (by rw [k0 0 12 rfl rfl]; exact rgq_0 hG.1)
      refine es_condition hG0 g0 (fun s3 t3 z3 p3 l hcn hp3 g3 hG3 hm3 e573 tf3 hcd => mr_open (fun v4 s4 k4 => ?_)) (fun hn => kn (st_11 hd' c11 (ev_b0 (hn 27 p))))
      have e4 : s4 0 12 = s3 0 12 := k4 0 12 rfl rfl
      have f4 : s4 0 57 = σ 0 57 := by rw [k4 0 57 rfl rfl, e573, k0 0 57 rfl rfl]
      have m04 : MNq σ s4 := fun hx => by rw [e4]; exact hm3 (by rw [k0 0 12 rfl rfl]; exact hx)
      refine hL hd2 p3 _ _ S s4 t3 z3 _ F (rg_ds hG3 (ds_k k4 rfl rfl) (by rw [e4]; exact rgq_0 hG3.1)) (gm_k g3 (k4 0 10 rfl rfl)) (by rw [f4]; exact h57) (fun s t z p1 S' gb σ1 σ2 h1 h2 h3 h4 h5 h6 h7 h8 h9 h10 h11 h12 h13 h14 => ?_) (fun hn => kn (st_11 hd' c11 (ev_b (hcn 27 p) (ev_b0 hn))))
      refine mr_put1 (fun s6 k6 => mr_aim (fun s7 k7 => mr_aimAll (fun s9 k9 => ?_)))
      have kE : Kp [(0, 17), (0, 58)] [8] s s9 := kp_tr (kp_tr (kp_tr (kp_f kp_rf rfl) (kp_sub k6 rfl rfl)) (kp_sub k7 rfl rfl)) (kp_sub k9 rfl rfl)
      have e9 : s9 0 12 = s 0 12 := kE 0 12 rfl rfl
      have f9 : s9 0 57 = σ 0 57 := by rw [kE 0 57 rfl rfl, h6, f4]
      have hm2 : MNq σ2 s9 := fun hx => by rw [e9, h13]; exact hx
      refine kk s9 t z ⟨p1, S', [gq (stp 26 p)] ++ (gqs l ++ [gq (stp 27 p)]) ++ gb ++ [gq (stp 28 p)], st_11 hd' c11 (ev_b (hcn 27 p) (ev_b h1 ev_c)), by omega, gm_k h3 (kE 0 10 rfl rfl), rg_ds h4 (ds_k kE rfl rfl) (by rw [e9]; exact rgq_0 h4.1), fun hx => hm2 (h11 (by rw [h9]; exact m04 hx)), f9, tf_tr tf3 h7, fun O hO => ?_⟩
      rw [on_0] at hO
      have A1 : WOq kd n S m lo d O (O + 1) [gq (stp 26 p)] σ σa True := wo_st (by simp [stp]) (fun w hw => sa_26 hw (by omega)) (ds_k k0 rfl rfl) (k0 0 12 rfl rfl)
      have A2 : WOq kd n S m lo d (O + 1) (O + 1) (gqs l ++ [gq (stp 27 p)]) σa s4 True := wo_ref (wo_cd (by simp [stp]) hcd (fun r K T H Z F X i h95 h77 h63 hA hk => sa_27 h95 h77 h63 hA hk)) (ds_k k4 rfl rfl) e4
      have A3 : WOq kd n S m lo d O (O + 1) ([gq (stp 26 p)] ++ (gqs l ++ [gq (stp 27 p)])) σ σ1 True := wo_ref (wo_app A1 A2 (fun hx => by rw [e4]; exact hm3 hx) (Or.inr (Or.inl rfl))) h8 h9
      exact ws_loop A3 (h14 O hO) (wo_st (b := True) (by simp [stp]) (fun w hw => sa_28 hw) (ds_tr h12 (ds_k kE rfl rfl)) (by rw [e9, h13])) h11 hm2 (Or.inl ⟨trivial, h10⟩) f9
    · exact hD hd2 p (σ 0 10) (rk_is hG.1 12 (by decide) 12 (by decide) c) hg.1 S σ τ vs _ F hG hg h57 kk kn
    · exact hF hd2 p (σ 0 10) (rk_is hG.1 13 (by decide) 13 (by decide) c) hg.1 S σ τ vs _ F hG hg h57 kk kn
    · exact Or.inl (rk_is hG.1 14 (by decide) 14 (by decide) c)
    · exact Or.inr (rk_is hG.1 15 (by decide) 15 (by decide) c)
    · exact es_return hd2 (rk_is hG.1 16 (by decide) 16 (by decide) c) hg.1 S σ τ vs _ F hG hg h57 kk kn
    · exact ⟨fun e => n5 (by rw [e]; decide), fun e => n9 (by rw [e]; decide), fun e => n11 (by rw [e]; decide), fun e => n12 (by rw [e]; decide), fun e => n13 (by rw [e]; decide), fun e => n14 (by rw [e]; decide), fun e => n15 (by rw [e]; decide), fun e => n16 (by rw [e]; decide)⟩
  · unfold pp_wrong pp_wrongAt
    exact fun _ => kn (st_0 (by omega))
end SST2
end

section
/-! the reference's statements: all of the group -/
def GSQ (kd vl : Nat → Int) (n m lo : Nat) (g : KTS) : Prop := ∀ (d : Nat) (a : Int32), a.toInt = (d : Int) → 1 ≤ d → d ≤ 26 →
  (∀ p, SWr kd vl n m lo 0 d p (g.1 a)) ∧ (d ≤ 25 → (∀ p, SWr kd vl n m lo 2 d p (g.2.1 a)) ∧ (∀ p, kd p = 22 → SWr kd vl n m lo 0 d p (g.2.2.1 a)) ∧ (∀ p a2 a3, LWr kd vl n m lo d p (g.2.2.2.1 a a2 a3))
  ∧ (∀ (p : Nat) (a2 : Int32), kd p = 12 → a2.toInt = (p : Int) → SWr kd vl n m lo 0 d p (g.2.2.2.2.1 a a2)) ∧ ∀ (p : Nat) (a2 : Int32), kd p = 13 → a2.toInt = (p : Int) → SWr kd vl n m lo 0 d p (g.2.2.2.2.2 a a2))
/-- variables of a function, a row that is wanted -/
def VWr (kd vl : Nat → Int) (n m lo : Nat) : Prop := ∀ d p, 1 ≤ d → d ≤ 25 → kd p = 5 → SWr kd vl n m lo 0 d p (fun σ τ vs Q T => pp_variables (0 : Int32) (0 : Int32) (1 : Int32) (upC σ 0 10 ((σ 0 10) + (1 : Int32))) τ vs Q T)
theorem es_group {kd vl : Nat → Int} {n m lo : Nat} (hV : VWr kd vl n m lo) : ∀ N, GSQ kd vl n m lo (PKKS N)
  | 0 => fun d a _ _ _ => ⟨fun _ _ _ _ _ _ _ _ _ _ _ _ => trivial, fun _ => ⟨fun _ _ _ _ _ _ _ _ _ _ _ _ => trivial, fun _ _ _ _ _ _ _ _ _ _ _ _ _ => trivial, fun _ _ _ _ _ _ _ _ _ _ _ _ _ _ => trivial, fun _ _ _ _ _ _ _ _ _ _ _ _ _ _ _ => trivial, fun _ _ _ _ _ _ _ _ _ _ _ _ _ _ _ => trivial⟩⟩
  | N + 1 => fun d a ha h1 hd => by
    have ih := es_group hV N
    obtain ⟨i0, iR⟩ := ih d a ha h1 hd
    have up : d ≤ 25 → ∀ v : Int32, v.toInt = (d : Int) + 1 → ∀ p, SWr kd vl n m lo 0 (d + 1) p ((PKKS N).1 v) := fun hd2 v hv => (ih (d + 1) v (by rw [hv]; rfl) (by omega) (by omega)).1
    exact ⟨fun p => es_statement (Kstatement := (PKKS N).1) (Kinner := (PKKS N).2.1) (Kblock := (PKKS N).2.2.1) (Kloop := (PKKS N).2.2.2.1) (KdoStatement := (PKKS N).2.2.2.2.1) (KforStatement := (PKKS N).2.2.2.2.2) ha hd (fun h => (iR h).1) (fun h => (iR h).2.1) (fun h => (iR h).2.2.1) (fun h => (iR h).2.2.2.1) (fun h => (iR h).2.2.2.2) (fun h p hp => hV d p h1 h hp),
      fun h => ⟨fun p => es_inner (Kstatement := (PKKS N).1) (Kinner := (PKKS N).2.1) (Kblock := (PKKS N).2.2.1) (Kloop := (PKKS N).2.2.2.1) (KdoStatement := (PKKS N).2.2.2.2.1) (KforStatement := (PKKS N).2.2.2.2.2) ha h (up h), fun p c => es_block (Kstatement := (PKKS N).1) (Kinner := (PKKS N).2.1) (Kblock := (PKKS N).2.2.1) (Kloop := (PKKS N).2.2.2.1) (KdoStatement := (PKKS N).2.2.2.2.1) (KforStatement := (PKKS N).2.2.2.2.2) ha h c (up h), fun p a2 a3 => es_loop (Kstatement := (PKKS N).1) (Kinner := (PKKS N).2.1) (Kblock := (PKKS N).2.2.1) (Kloop := (PKKS N).2.2.2.1) (KdoStatement := (PKKS N).2.2.2.2.1) (KforStatement := (PKKS N).2.2.2.2.2) h (iR h).1, fun p a2 c e => es_do (Kstatement := (PKKS N).1) (Kinner := (PKKS N).2.1) (Kblock := (PKKS N).2.2.1) (Kloop := (PKKS N).2.2.2.1) (KdoStatement := (PKKS N).2.2.2.2.1) (KforStatement := (PKKS N).2.2.2.2.2) h c e (iR h).2.2.1, fun p a2 c e => es_for (Kstatement := (PKKS N).1) (Kinner := (PKKS N).2.1) (Kblock := (PKKS N).2.2.1) (Kloop := (PKKS N).2.2.2.1) (KdoStatement := (PKKS N).2.2.2.2.1) (KforStatement := (PKKS N).2.2.2.2.2) h c e (iR h).2.2.1⟩⟩
/-- a statement of a function's body, d deep -/
theorem es_stmt {kd vl : Nat → Int} {n m lo d p : Nat} {a : Int32} (hV : VWr kd vl n m lo) (ha : a.toInt = (d : Int)) (h1 : 1 ≤ d) (hd : d ≤ 26) : SWr kd vl n m lo 0 d p (ppS_statement a) := (es_group hV 120 d a ha h1 hd).1 p
end

