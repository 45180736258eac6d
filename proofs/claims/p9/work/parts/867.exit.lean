/-! steps of statements: out of a construct unless a condition holds -/
section EXI
variable {σ s z t : St} {g g' g1 : Gh} {X X0 Y : Nat → Prop} {b e e0 e' H H0 H' L L' m n c p tt j : Nat} {K E G D : List Nat} {x y v : Int32} {f : Nat → Int32}
theorem sr_exit (kx : KXS σ s) (mk : MKs σ s) (w : ∀ j, j < b → (s 24) j = (σ 24) j) (fu : (s 6 3) = (σ 6 3)) (le : (s 4 1).toInt = e') (hbe : b ≤ e') (l2 : e' ≤ clen σ + 2) (h0 : 0 ≤ (σ 4 1).toInt) (hc : ¬ (c = 0 ∨ 9 ≤ c)) (T : (σ 6 3).toInt = 0 → ∃ g2 X2, TYp (s 24) g2 (CPu s) X2 b e' 0 (LV (c :: K)) ∧ CX (upF s 51 f) g2 e' (c :: K) X2 ∧ BND g2 b e' (0 + 420) ∧ (s 7 7).toInt = 0 ∧ (s 9 5).toInt = nzr K + 1) : SRs σ (upF s 51 f) b (c :: K) 0 2 := by
  generalize hz : upF s 51 f = z at T ⊢
  have zr : ∀ c, c ≠ 51 → z c = s c := fun c hc => by rw [← hz]; exact rdF_ne hc
  have c0 := clen_eq h0
  have z4 : (z 4 1) = (s 4 1) := by rw [zr 4 (by decide)]
  have k2 : KXS s z := by
    rw [← hz]
    exact ko_kp (kp_F kp_rf rfl)
  have m2 : MKs s z := mks_eq (zr 25 (by decide)) (zr 39 (by decide))
  have z24 : (z 24) = (s 24) := zr 24 (by decide)
  refine ⟨ko_tr kx k2, mks_tr mk m2, ⟨fun j hj => by rw [z24]; exact w j hj, by
    have a := clen_eq (σ := z) (by rw [z4]; omega)
    rw [z4] at a
    omega⟩, by rw [z4]; omega, by rw [z4]; omega, fun hf => ?_⟩
  have f0 : (σ 6 3).toInt = 0 := by rw [← fu, ← zr 6 (by decide)]; exact hf
  obtain ⟨g2, X2, t1, t2, t3, t4, t5⟩ := T f0
  have ec : clen z = e' := by
    have a := clen_eq (σ := z) (by rw [z4]; omega)
    rw [z4] at a
    omega
  refine ⟨f0, g2, X2, ⟨?_, by rw [ec]; exact t2, by rw [zr 7 (by decide)]; exact t4, by rw [z4]; omega, by rw [zr 9 (by decide), t5, nz_c hc]; rfl, by rw [ec]; exact t3⟩, by rw [ec]; exact l2⟩
  rw [ec, z24]
  exact typ_mono (fun _ _ => rfl) agr_rf (cpu_x k2 m2) (fun _ z => z) t1
theorem sp_exit {Q : St → Prop} (ho : (σ 9 5).toInt = nzr K + 1) (hn : nzr K < 26) (h0 : 0 ≤ (σ 4 1).toInt) (cap : (σ 4 1).toInt ≤ 262180) (hc : c = 1 ∨ c = 2 ∨ c = 6) (hb : b ≤ e0) (hst : (σ 65 6).toInt = 1 → 0 ≤ (σ 65 9).toInt ∧ (σ 65 9).toInt ≤ (σ 4 1).toInt ∧ (σ 65 9).toInt = e0) (hbc : b ≤ clen σ) (hv : (σ 6 3).toInt = 0 → ∃ g, VS σ g b (c :: K) X 0 e0) (k : ∀ s, SRs σ s b (c :: K) 0 2 → Q s) : wk_X7_exitUnless 65 σ Q := by
  have c0 := clen_eq h0
  have oi : ((σ 9 5) - (1 : Int32)).toInt = nzr K := by rw [sbc i1 (by omega) (by omega)]; omega
  have hc2 : ¬ (c = 0 ∨ 9 ≤ c) := by omega
  have lv : LV (c :: K) = LV K := by rcases hc with e | e | e <;> subst e <;> rfl
  have nk : nzr (c :: K) = nzr K + 1 := nz_c hc2
  unfold wk_X7_exitUnless
  rw [atv_at oi hn]
  refine sk_unless h0 (by omega) (fun cc => ⟨(hst cc).1, (hst cc).2.1⟩) (fun v s ev em => ?_) (fun s1 s v cc k1 el em ev => ?_) (fun s1 cc k1 el => ?_)
  · rw [setv_at oi hn]
    obtain ⟨ek, emk, -, -, ef, ee⟩ := em_k em
    have ec := em_clen em (n := 27) rfl h0
    have el := em_len em (m := 27) rfl
    have l2 : ln 27 = 2 := rfl
    refine k _ (sr_exit (e' := clen σ + 2) (kxs_e ek) emk (fun j hj => em.2.2.1 j (by omega)) ef (by omega) (by omega) (Nat.le_refl _) h0 hc2 (fun f0 => ?_))
    obtain ⟨g, h1, h2, h3, h4, h5, h6, h7, h8, h9, h10⟩ := hv f0
    obtain ⟨g2, T2, ag2, gn⟩ := typ_hole (w' := (s 24)) (n := 27) (H' := 0) (L' := LV (c :: K)) (typ_mono (fun q _ => rfl) agr_rf (cpu_mono ek emk) (fun _ z => z) h1) em.2.2.1 (by rw [em.2.2.2.1]; rfl) (by decide) (fun _ => ⟨by omega, by omega, rfl⟩)
    obtain ⟨a1, a2, a3, a4, a5, a6, a7⟩ := kw_e ek
    refine ⟨g2, _, T2, cx_exit h2 hc2 ⟨a1, a2, a3, a4, a5, a6⟩ (fun q hq => em.2.2.1 q (by omega)) (agr_le ag2 h7) (by omega) h7 (by rw [ev]; omega) em.2.2.2.2.1 ⟨27, LV K, by rw [em.2.2.2.1]; rfl, Or.inr rfl, ?_, Nat.le_refl _, Nat.le_refl _⟩, ?_, by rw [ee]; exact h3, by rw [a7]; exact ho⟩
    · rw [ag2 _ (Nat.le_refl _), h1.2.1, lv]
      rfl
    · exact bnd_ext h6 ag2 (fun j a1 a2 => by
        have : j = clen σ + 1 := by omega
        rw [this]
        exact gn) T2.2.1 (by omega)
  · rw [setv_at oi hn]
    have hs := hst cc
    obtain ⟨ek, emk, -, -, ef, ee⟩ := em_k em
    have h01 : 0 ≤ (s1 4 1).toInt := by rw [el]; exact hs.1
    have e1 : clen s1 = e0 := by
      have := clen_eq h01
      rw [el] at this
      omega
    have ec := em_clen em (n := 26) rfl h01
    have el2 := em_len em (m := 26) rfl
    have l2 : ln 26 = 2 := rfl
    have hs1 := k4_of k1
    have kx1 : KXE σ s1 := ko_sub (ko_kp k1) (by decide) (by decide)
    have mk1 : MKs σ s1 := mks_eq (funext (fun j => hs1 25 j (by decide))) (funext (fun j => hs1 39 j (by decide)))
    have w1 : (s1 24) = (σ 24) := funext (fun j => hs1 24 j (by decide))
    have ww : ∀ j, j < e0 → (s 24) j = (σ 24) j := fun j hj => (em.2.2.1 j (by omega)).trans (by rw [w1])
    have lt : (s1 4 1).toInt = e0 := by rw [el]; exact hs.2.2
    have ke := ko_tr kx1 ek
    have me := mks_tr mk1 emk
    refine k _ (sr_exit (e' := e0 + 2) (kxs_e ke) me (fun j hj => ww j (by omega)) (ef.trans (hs1 6 3 (by decide))) (by omega) (by omega) (by omega) h0 hc2 (fun f0 => ?_))
    obtain ⟨g, h1, h2, h3, h4, h5, h6, h7, h8, h9, h10⟩ := hv f0
    obtain ⟨g2, T2, ag2, gn⟩ := typ_hole (w' := (s 24)) (n := 26) (H' := 0) (L' := LV (c :: K)) (typ_mono (fun q _ => rfl) agr_rf (cpu_mono ke me) (fun _ z => z) h8) ww (by rw [← e1, em.2.2.2.1]; rfl) (by decide) (fun z => absurd rfl z)
    obtain ⟨a1, a2, a3, a4, a5, a6, a7⟩ := kw_e ke
    refine ⟨g2, _, T2, cx_exit h2 hc2 ⟨a1, a2, a3, a4, a5, a6⟩ ww ag2 (by omega) (Nat.le_refl _) (by rw [ev]; exact lt) (by rw [← e1]; exact em.2.2.2.2.1) ⟨26, LV K, by rw [← e1, em.2.2.2.1]; rfl, Or.inl rfl, ?_, Nat.le_refl _, Nat.le_refl _⟩, ?_, by rw [ee, hs1 7 7 (by decide)]; exact h3, by rw [a7]; exact ho⟩
    · rw [ag2 _ (Nat.le_refl _), h8.2.1, lv]
      rfl
    · exact bnd_ext (bnd_le h6 (Nat.le_refl _) h7 (Nat.le_refl _)) ag2 (fun j a1 a2 => by
        have : j = e0 + 1 := by omega
        rw [this]
        exact gn) T2.2.1 (by omega)
  · rw [setv_at oi hn]
    have hs := hst cc
    have hs1 := k4_of k1
    have kx1 : KXE σ s1 := ko_sub (ko_kp k1) (by decide) (by decide)
    have mk1 : MKs σ s1 := mks_eq (funext (fun j => hs1 25 j (by decide))) (funext (fun j => hs1 39 j (by decide)))
    have w1 : (s1 24) = (σ 24) := funext (fun j => hs1 24 j (by decide))
    have lt : (s1 4 1).toInt = e0 := by rw [el]; exact hs.2.2
    refine k _ (sr_exit (e' := e0) (kxs_e kx1) mk1 (fun j _ => by rw [w1]) (hs1 6 3 (by decide)) lt hb (by omega) h0 hc2 (fun f0 => ?_))
    obtain ⟨g, h1, h2, h3, h4, h5, h6, h7, h8, h9, h10⟩ := hv f0
    refine ⟨g, X, typ_mono (fun q _ => by rw [w1]) agr_rf (cpu_mono kx1 mk1) (fun _ z => z) h8, ?_, bnd_le h6 (Nat.le_refl _) h7 (Nat.le_refl _), by rw [hs1 7 7 (by decide)]; exact h3, by rw [hs1 9 5 (by decide)]; exact ho⟩
    generalize hz : upF s1 51 _ = z
    have zr : ∀ c, c ≠ 51 → z c = s1 c := fun c hc => by rw [← hz]; exact rdF_ne hc
    have z51 : (z 51) = (σ 51) := by
      rw [← hz, rdF_eq]
      funext i
      show (if i = nzr K then (σ 51) (nzr K) else (s1 51) i) = _
      by_cases ci : i = nzr K
      · rw [if_pos ci, ci]
      · rw [if_neg ci]
        exact hs1 51 i (by decide)
    have r1 : ∀ c, c ≠ 4 → c ≠ 51 → z c = σ c := fun c h4 h51 => by
      rw [zr c h51]
      exact funext (fun j => hs1 c j h4)
    exact cx_mono (c :: K) X (fun j _ => ⟨by rw [r1 49 (by decide) (by decide)], by rw [r1 50 (by decide) (by decide)], by rw [z51], by rw [r1 52 (by decide) (by decide)], by rw [r1 53 (by decide) (by decide)], by rw [r1 54 (by decide) (by decide)]⟩) (fun q _ => by rw [r1 24 (by decide) (by decide)]) agr_rf (Nat.le_refl _) h2
end EXI
