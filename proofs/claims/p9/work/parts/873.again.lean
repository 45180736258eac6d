/-! steps of statements: where a do's condition begins -/
section SDA
variable {σ s z t : St} {g g' g1 : Gh} {X X0 Y : Nat → Prop} {b e e0 e' H H0 H' L L' m n c d p tt j : Nat} {K E G D : List Nat} {x y v : Int32}
theorem ss_doagain {Q : St → Prop} (h : SB σ g b (4 :: K) X 0) (hn : nzr K < 26) (cap : (σ 4 1).toInt ≤ 262150) (k : ∀ s, SRs σ s b (5 :: K) 0 0 → Q s) : wk_X0_aim (atv 26 (σ 52) ((σ 9 5) - (1 : Int32))) (σ 4 1) σ (fun s67 => Q s67) := by
  obtain ⟨h1, h2, h3, h4, h5, h6⟩ := h
  have c0 := clen_eq h4
  unfold CX at h2
  rw [if_neg (by decide)] at h2
  obtain ⟨Y, E, G, D, a1, a2, ⟨a3, a4, a5⟩, b1, b2, b3, b4, b5, b6, b7, b8, b9, b10⟩ := h2
  have eD : D = [] := b10 (by decide)
  subst eD
  have nk : nzr (4 :: K) = nzr K + 1 := nz_c (by decide)
  have nk5 : nzr (5 :: K) = nzr K + 1 := nz_c (by decide)
  have oi : ((σ 9 5) - (1 : Int32)).toInt = nzr K := by rw [sbc i1 (by omega) (by omega)]; omega
  have lv : LV (4 :: K) = LV K + 1 := rfl
  have b5' : ∀ p ∈ G, WJ (σ 24) g (clen σ) p (LV K + 1) := b5
  rw [atv_at oi hn]
  refine sp_aimE (E := G) (tt := clen σ) h1 (by omega) (Nat.le_refl _) (b2 (by decide)) (fun p hp => wj_pj (b5' p hp) (by rw [h1.2.1, lv]) (Or.inr ⟨Nat.le_refl _, Nat.le_refl _⟩)) h4 (by omega) (fun s kk w0 wo T2 cxk => k s ?_)
  have e4 : (s 4 1) = (σ 4 1) := kk 4 1 rfl rfl
  have e6 : (s 6 3) = (σ 6 3) := kk 6 3 rfl rfl
  have e7 : (s 7 7) = (σ 7 7) := kk 7 7 rfl rfl
  have e9 : (s 9 5) = (σ 9 5) := kk 9 5 rfl rfl
  have ecl : clen s = clen σ := by unfold clen; rw [e4]
  have r : s 49 = σ 49 ∧ s 50 = σ 50 ∧ s 51 = σ 51 := ⟨funext (fun j => kk 49 j rfl rfl), funext (fun j => kk 50 j rfl rfl), funext (fun j => kk 51 j rfl rfl)⟩
  have gp : ∀ p ∈ E, ∀ q ∈ G, p ≠ q + 1 := fun p hp q hq e2 => (wj_next h1 (b4 p hp)).1 (by rw [e2]; exact (wj_next h1 (b5' q hq)).2)
  refine ⟨ko_sub (ko_kp kk) (by decide) (by decide), mks_eq (funext (fun j => kk 25 j rfl rfl)) (funext (fun j => kk 39 j rfl rfl)), ⟨w0, by rw [ecl]; exact h1.1⟩, by rw [e4]; exact h4, by rw [e4]; omega, fun hf => ⟨by rw [← e6]; exact hf, g, _, ⟨T2, ?_, by rw [e7]; exact h3, by rw [e4]; exact h4, by rw [e9]; omega, by rw [ecl]; exact h6⟩, by omega⟩⟩
  unfold CX
  rw [if_neg (by decide)]
  refine ⟨Y, E, [], [], cxk K Y (fun q hq => (a4 q hq).1) a1, fun q => ?_, ⟨a3, fun q hq => (by cases hq), fun q hq => (by cases hq)⟩, ?_, fun z => absurd rfl z, by rw [r.1]; exact b3, fun p hp => ?_, fun p hp => (by cases hp), fun _ => rfl, fun _ => ?_, fun z => absurd z (by decide), fun z => absurd z (by decide), fun _ => rfl⟩
  · show (X q ∧ ¬ q ∈ G) ↔ _
    rw [a2 q]
    constructor
    · rintro ⟨y | y | y | y, hG⟩
      · exact Or.inl y
      · exact Or.inr (Or.inl y)
      · exact absurd y hG
      · cases y
    · rintro (y | y | y | y)
      · exact ⟨Or.inl y, fun hG => (a4 q hG).1 y⟩
      · exact ⟨Or.inr (Or.inl y), fun hG => (a4 q hG).2 y⟩
      · cases y
      · cases y
  · rw [r.2.2]
    exact chw_mono E _ (fun p hp => wo (p + 1) (fun q hq e2 => (a4 q hq).2 (by
      have : p = q := by omega
      rw [← this]
      exact hp))) b1
  · obtain ⟨n, k2, d1, d2, d3, d4, d5⟩ := b4 p hp
    exact ⟨n, k2, by rw [wo p (gp p hp)]; exact d1, d2, d3, by rw [ecl]; exact d4, d5⟩
  · obtain ⟨t, d1, d2, d3⟩ := b7 (by decide)
    exact ⟨t, by rw [r.2.1]; exact d1, by rw [ecl]; exact d2, d3⟩
end SDA
