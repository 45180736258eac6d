/-! steps of statements: the end of a for -/
section SFE
variable {σ s z t : St} {g g' g1 : Gh} {X X0 Y : Nat → Prop} {b e e0 e' H H0 H' L L' m n c d p tt j : Nat} {K E G D : List Nat} {x y v : Int32}
theorem ss_fend {Q : St → Prop} (h : SB σ g b (8 :: K) X 0) (hn : nzr K < 26) (cap : (σ 4 1).toInt ≤ 262150) (k : ∀ s, SRs σ s b K 0 2 → Q s) : wk_X0_aim (atv 26 (σ 52) ((σ 9 5) - (1 : Int32))) (atv 26 (σ 54) ((σ 9 5) - (1 : Int32))) σ (fun s169 => wk_X7_jumpBack (atv 26 (s169 54) ((s169 9 5) - (1 : Int32))) s169 (fun s186 => wk_X7_finish s186 (fun s190 => Q s190))) := by
  obtain ⟨h1, h2, h3, h4, h5, h6⟩ := h
  have c0 := clen_eq h4
  unfold CX at h2
  rw [if_neg (by decide)] at h2
  obtain ⟨Y, E, G, D, a1, a2, ⟨a3, a4, a5⟩, b1, b2, b3, b4, b5, b6, b7, b8, b9, b10⟩ := h2
  have eD : D = [] := b10 (by decide)
  subst eD
  obtain ⟨t, t1, t2, t3⟩ := b8 (Or.inr rfl)
  have nk : nzr (8 :: K) = nzr K + 1 := nz_c (by decide)
  have oi : ((σ 9 5) - (1 : Int32)).toInt = nzr K := by rw [sbc i1 (by omega) (by omega)]; omega
  have lv : LV (8 :: K) = LV K + 2 := rfl
  have b5' : ∀ p ∈ G, WJ (σ 24) g (clen σ) p (LV K + 2) := b5
  rw [atv_at oi hn, atv_at oi hn]
  refine sp_aimE (E := G) h1 t1 t2 (b2 (by decide)) (fun p hp => wj_pj (b5' p hp) t3 (Or.inl (Nat.lt_succ_self _))) h4 (by omega) (fun s kk w0 wo T2 cxk => ?_)
  have e4 : (s 4 1) = (σ 4 1) := kk 4 1 rfl rfl
  have ecl : clen s = clen σ := by unfold clen; rw [e4]
  have r50 : s 54 = σ 54 := funext (fun j => kk 54 j rfl rfl)
  have r51 : s 51 = σ 51 := funext (fun j => kk 51 j rfl rfl)
  have r9 : (s 9 5) = (σ 9 5) := kk 9 5 rfl rfl
  have ks : KXE σ s := ko_sub (ko_kp kk) (by decide) (by decide)
  have ms : MKs σ s := mks_eq (funext (fun j => kk 25 j rfl rfl)) (funext (fun j => kk 39 j rfl rfl))
  rw [r50, r9, atv_at oi hn]
  unfold wk_X7_jumpBack
  refine sk_emit (n := 26) rfl (by decide) (by rw [e4]; exact h4) (by rw [e4]; omega) (fun v z _ em => ?_)
  have h4s : 0 ≤ (s 4 1).toInt := by rw [e4]; exact h4
  have ec := em_clen em (n := 26) rfl h4s
  have el := em_len em (m := 26) rfl
  have l2 : ln 26 = 2 := rfl
  obtain ⟨ek, emk, -, -, ef, ee⟩ := em_k em
  have ec2 : clen z = clen s + 2 := ec
  obtain ⟨g2, T3, ag2, gn⟩ := typ_jump (w' := (z 24)) (n := 26) (tt := t) (H' := 0) (L' := LV K) (typ_mono (fun q _ => rfl) agr_rf (cpu_mono ek emk) (fun _ z => z) T2) em.2.2.1 (by rw [em.2.2.2.1]; rfl) (Or.inl rfl) (by rw [em.2.2.2.2.1]; exact t1) (by omega) (fun z => absurd rfl z) ⟨LV K + 1, by rw [if_pos rfl]; exact t3, Or.inl (by rw [lv]; exact Nat.lt_succ_self _)⟩
  obtain ⟨q1, q2, q3, q4, q5, q6, q7⟩ := kw_e ek
  have lts : (z 4 1).toInt = (σ 4 1).toInt + 2 := by rw [el, e4]; omega
  have gp : ∀ p ∈ E, ∀ q ∈ G, p ≠ q + 1 := fun p hp q hq e2 => (wj_next h1 (b4 p hp)).1 (by rw [e2]; exact (wj_next h1 (b5' q hq)).2)
  have ws : ∀ p ∈ E, WJ (s 24) g (clen s) p (LV K) := fun p hp => by
    obtain ⟨n, k2, d1, d2, d3, d4, d5⟩ := b4 p hp
    exact ⟨n, k2, by rw [wo p (gp p hp)]; exact d1, d2, d3, by rw [ecl]; exact d4, d5⟩
  refine sp_fin (σ := z) (E := E) (Y := Y) (by rw [ec2]; exact T3) (fun q hq => ?_) (cx_e ek em.2.2.1 ag2 (by omega) (cxk K Y (fun q hq => (a4 q hq).1) a1)) ?_ (fun p hp => wj_mono em.2.2.1 ag2 (by omega) (ws p hp)) a3 (by rw [ee, show (s 7 7) = (σ 7 7) from kk 7 7 rfl rfl]; exact h3) (by omega) (by omega) (by rw [q7, r9]; omega) hn ?_ (fun s9 k9 w9 sb => k s9 (fin_sr (s1 := z) (l := 2) (ko_tr (kxs_e ks) (kxs_e ek)) (mks_tr ms emk) (fun j hj => (em.2.2.1 j (by have := h1.1; omega)).trans (w0 j hj)) (fun f => by rw [ef] at f; rw [← show (s 6 3) = (σ 6 3) from kk 6 3 rfl rfl]; exact f) lts h4 k9 w9 sb (Nat.le_refl _)))
  · rcases (a2 q).mp hq.1 with y | y | y | y
    · exact Or.inl y
    · exact Or.inr y
    · exact absurd y hq.2
    · cases y
  · rw [q3, r51]
    exact chw_mono E _ (fun p hp => (em.2.2.1 (p + 1) (by have := wj_lt (ws p hp); omega)).trans (wo (p + 1) (fun q hq e2 => (a4 q hq).2 (by
      have : p = q := by omega
      rw [← this]
      exact hp)))) b1
  · rw [ec2]
    exact bnd_ext (by rw [ecl]; exact h6) ag2 (fun j a1 a2 => by
      have : j = clen s + 1 := by omega
      rw [this]
      exact gn) T3.2.1 (by omega)
end SFE
