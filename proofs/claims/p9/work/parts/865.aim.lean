/-! steps of statements: a chain aimed at a place; else, the end of an if -/
section AIE
variable {σ s z t : St} {g g' g1 : Gh} {X X0 Y : Nat → Prop} {b e e0 H H0 H' L L' m n c p tt : Nat} {K E G D : List Nat} {x y v : Int32}
theorem sp_aimE {Q : St → Prop} (T : TYp (σ 24) g (CPu σ) X b (clen σ) H L) (hv : y.toInt = tt) (htt : tt ≤ clen σ) (he : CHW (σ 24) x E) (hp : ∀ p ∈ E, PJ (σ 24) g (clen σ) p tt) (h0 : 0 ≤ (σ 4 1).toInt) (cap : (σ 4 1).toInt ≤ 262190) (k : ∀ s, Kp [] [24] σ s → (∀ j, j < b → (s 24) j = (σ 24) j) → (∀ i, (∀ p ∈ E, i ≠ p + 1) → (s 24) i = (σ 24) i) → TYp (s 24) g (CPu s) (fun q => X q ∧ ¬ q ∈ E) b (clen s) H L → (∀ K Y, (∀ q ∈ E, ¬ Y q) → CX σ g (clen σ) K Y → CX s g (clen s) K Y) → Q s) : wk_X0_aim x y σ Q := by
  have nx : ∀ p ∈ E, g p ≠ none ∧ g (p + 1) = none ∧ b ≤ p ∧ p + 2 ≤ clen σ := fun p hp2 => by
    obtain ⟨n, k, a1, a2, a3, a4, -⟩ := hp p hp2
    refine ⟨by rw [a3]; exact fun z => (by cases z), hole_next T a3 a4 a1 (by omega), ?_, a4⟩
    by_cases c : p < b
    · rw [T.2.2.1.1 p c] at a3
      cases a3
    · omega
  refine sp_aimN (l := E) he (fun p hp2 => (nx p hp2).2.2.2) h0 (by omega) ?_
  generalize h2 : upF σ 24 (pat (σ 24) E y) = s
  have q : ∀ c, c ≠ 24 → s c = σ c := fun c hc => by rw [← h2, rdF_ne hc]
  have q24 : (s 24) = pat (σ 24) E y := by rw [← h2, rdF_eq]
  have kk : Kp [] [24] σ s := by
    rw [← h2]
    exact kp_F kp_rf rfl
  have q4 : (s 4 1) = (σ 4 1) := by rw [q 4 (by decide)]
  have ecl : clen s = clen σ := by unfold clen; rw [q4]
  have kx : KXS σ s := ko_sub (ko_kp kk) (by decide) (by decide)
  have mk : MKs σ s := mks_eq (q 25 (by decide)) (q 39 (by decide))
  have pout : ∀ i, (∀ p ∈ E, i ≠ p + 1) → (s 24) i = (σ 24) i := fun i hi => by rw [q24]; exact pat_out hi
  refine k s kk (fun j hj => pout j (fun p hp2 => by have := nx p hp2; omega)) pout ?_ (fun K Y dis hy => ?_)
  · rw [ecl, q24]
    exact typ_mono (fun _ _ => rfl) agr_rf (cpu_x kx mk) (fun _ z => z) (typ_aimN hv htt E _ _ hp T)
  · rw [ecl]
    exact cx_pat K Y (fun j _ => ⟨by rw [q 49 (by decide)], by rw [q 50 (by decide)], by rw [q 51 (by decide)], by rw [q 52 (by decide)], by rw [q 53 (by decide)], by rw [q 54 (by decide)]⟩) pout (fun p hp2 => ⟨(nx p hp2).1, (nx p hp2).2.1⟩) dis hy
theorem fin_sr {s1 : St} {l d : Nat} (kx : KXS σ s1) (mk : MKs σ s1) (w : ∀ j, j < b → (s1 24) j = (σ 24) j) (hf1 : (s1 6 3).toInt = 0 → (σ 6 3).toInt = 0) (l1 : (s1 4 1).toInt = (σ 4 1).toInt + l) (h0 : 0 ≤ (σ 4 1).toInt) (kk : Kp [(9, 5)] [24] s1 s) (w2 : ∀ j, j < b → (s 24) j = (s1 24) j) (sb : SB s g b K Y H0) (hd : l ≤ d) : SRs σ s b K H0 d := by
  have e4 : (s 4 1) = (s1 4 1) := kk 4 1 rfl rfl
  have e6 : (s 6 3) = (s1 6 3) := kk 6 3 rfl rfl
  have l4 : (s 4 1).toInt = (σ 4 1).toInt + l := by rw [e4]; exact l1
  refine ⟨ko_tr kx (ko_sub (ko_kp kk) (by decide) (by decide)), mks_tr mk (mks_eq (funext (fun j => kk 25 j rfl rfl)) (funext (fun j => kk 39 j rfl rfl))), ⟨fun j hj => (w2 j hj).trans (w j hj), sb.1.1⟩, by omega, by omega, fun hf => ⟨hf1 (by rw [← e6]; exact hf), g, Y, sb, ?_⟩⟩
  have a := clen_eq (σ := s) (by omega)
  have c := clen_eq h0
  omega
theorem ss_ifend {Q : St → Prop} (h : SB σ g b (1 :: K) X 0) (hn : nzr K < 26) (cap : (σ 4 1).toInt ≤ 262150) (k : ∀ s, SRs σ s b K 0 0 → Q s) : wk_X7_finish σ Q := by
  obtain ⟨h1, h2, h3, h4, h5, h6⟩ := h
  have lv : LV (1 :: K) = LV K := rfl
  unfold CX at h2
  rw [if_neg (by decide)] at h2
  obtain ⟨Y, E, G, D, a1, a2, ⟨a3, a4, a5⟩, b1, b2, b3, b4, b5, b6, b7, b8, b9, b10⟩ := h2
  have eG : G = [] := b6 (Or.inl rfl)
  have eD : D = [] := b10 (by decide)
  subst eG eD
  rw [lv] at h1
  refine sp_fin (E := E) (Y := Y) h1 (fun q hq => ?_) a1 b1 b4 a3 h3 h4 (by omega) (by rw [h5, nz_c (by decide)]; rfl) hn h6 (fun s kk w sb => k s (fin_sr (l := 0) ko_rf (mks_eq rfl rfl) (fun _ _ => rfl) id (by omega) h4 kk w sb (Nat.le_refl _)))
  rcases (a2 q).mp hq with z | z | z | z
  · exact Or.inl z
  · exact Or.inr z
  · cases z
  · cases z
end AIE
