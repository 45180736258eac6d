/-! steps of statements: a do's condition -/
section SDT
variable {σ s z t : St} {g g' g1 : Gh} {X X0 Y : Nat → Prop} {b e e0 e' H H0 H' L L' m n c d p tt j : Nat} {K E G D : List Nat} {x y v : Int32}
theorem se_typ (h : SE σ g b K X H0 e0 [iV]) : TYp (σ 24) g (CPu σ) X b e0 H0 (LV K) := by
  obtain ⟨⟨h1, h2, h3, Hh, Xh, h4⟩, -⟩ := h
  obtain ⟨-, s0, Hs, r1, -⟩ := rlx_Vi h4
  obtain ⟨rfl, rfl, rfl, T⟩ := r1
  exact T
theorem sr_bad (kx : KXS σ s) (mk : MKs σ s) (w : ∀ j, j < b → (s 24) j = (σ 24) j) (hb : b ≤ clen s) (h0 : 0 ≤ (s 4 1).toInt) (hl : (s 4 1).toInt ≤ (σ 4 1).toInt + m) (hf : (s 6 3).toInt ≠ 0) : SRs σ s b K H0 m := ⟨kx, mk, ⟨w, hb⟩, h0, hl, fun f => absurd f hf⟩
/-- the jumps out of a construct come here, under a fault -/
theorem sp_finb {Q : St → Prop} (he : CHW (σ 24) ((σ 51) (nzr K)) E) (hE : ∀ p ∈ E, b ≤ p ∧ p + 2 ≤ clen σ) (h0 : 0 ≤ (σ 4 1).toInt) (cap : (σ 4 1).toInt ≤ 262190) (ho : (σ 9 5).toInt = nzr K + 1) (hn : nzr K < 26) (k : ∀ s, Kp [(9, 5)] [24] σ s → (∀ j, j < b → (s 24) j = (σ 24) j) → Q s) : wk_X7_finish σ Q := by
  have c0 := clen_eq h0
  have oi : ((σ 9 5) - (1 : Int32)).toInt = nzr K := by rw [sbc i1 (by omega) (by omega)]; omega
  unfold wk_X7_finish
  rw [atv_at oi hn]
  generalize h1 : upC σ 9 5 ((σ 9 5) - (1 : Int32)) = σ1
  have r : ∀ c, c ≠ 9 → σ1 c = σ c := fun c hc => by rw [← h1]; exact rdC_ne hc
  have r24 : (σ1 24) = (σ 24) := r 24 (by decide)
  have r4 : (σ1 4 1) = (σ 4 1) := by rw [r 4 (by decide)]
  have ecl1 : clen σ1 = clen σ := by unfold clen; rw [r4]
  refine sp_aimN (l := E) (by rw [r24]; exact he) (fun p hp => by rw [ecl1]; exact (hE p hp).2) (by rw [r4]; exact h0) (by rw [r4]; omega) ?_
  refine k _ ?_ (fun j hj => ?_)
  · rw [← h1]
    exact kp_F (kp_f kp_rf rfl) rfl
  · rw [rdF_eq, r24]
    exact pat_out (fun p hp => by have := (hE p hp).1; omega)
theorem ss_dotest {Q : St → Prop} (h : SE σ g b (5 :: K) X 0 e0 [iV]) (hb : b ≤ e0) (hn : nzr K < 26) (cap : (σ 4 1).toInt ≤ 262150) (k : ∀ s, SRs σ s b K 0 (2 * plc σ [iV] + 2) → Q s) : wk_X7_condition x σ (fun u57 s57 => wk_X0_emit (28 : Int32) (atv 26 (s57 50) ((s57 9 5) - (1 : Int32))) (0 : Int32) (0 : Int32) s57 (fun v82 s82 => wk_X7_finish s82 (fun s87 => Q s87))) := by
  have hh0 := h.1.2.2.1
  have c0 := clen_eq hh0
  have ho := h.2.2.1
  have p1 : plc σ [iV] = pk σ 65 + 0 := plc_V
  have pk1 := pkq_le (σ := σ) (q := 65)
  have T0 := se_typ h
  have nk : nzr (5 :: K) = nzr K + 1 := nz_c (by decide)
  have lv : LV (5 :: K) = LV K + 1 := rfl
  have hx := h.2.1
  unfold CX at hx
  rw [if_neg (by decide)] at hx
  obtain ⟨Y0, E0, G0, D0, -, -, -, f1, -, -, f4, -⟩ := hx
  have E0b : ∀ p ∈ E0, b ≤ p ∧ p + 2 ≤ e0 := fun p hp => ⟨wj_b T0 (f4 p hp), wj_lt (f4 p hp)⟩
  refine sp_cond h (by omega) (fun s k1 m1 w1 l0 hcc hst hv => ?_)
  obtain ⟨hc, hce⟩ := hcc
  clear hst
  have c1 := clen_eq l0
  obtain ⟨q1, q2, q3, q4, q5, q6, q7⟩ := kw_e k1
  have oi : ((s 9 5) - (1 : Int32)).toInt = nzr K := by rw [q7, sbc i1 (by clear hv; omega) (by clear hv; omega)]; clear hv; omega
  rw [atv_at oi hn]
  refine sk_emit (n := 28) rfl (by decide) l0 (by clear hv; omega) (fun v z _ em => ?_)
  have ec := em_clen em (n := 28) rfl l0
  have el := em_len em (m := 28) rfl
  have l2 : ln 28 = 2 := rfl
  obtain ⟨ek, emk, -, -, ef, ee⟩ := em_k em
  have ec2 : clen z = clen s + 2 := ec
  have el2 : (z 4 1).toInt = (s 4 1).toInt + 2 := el
  obtain ⟨p1', p2', p3', p4', p5', p6', p7'⟩ := kw_e ek
  have ozz : (z 9 5).toInt = nzr K + 1 := by rw [p7', q7, ho, nk]; rfl
  have kxz : KXS σ z := kxs_e (ko_tr k1 ek)
  have mkz : MKs σ z := mks_tr m1 emk
  have wz : ∀ j, j < e0 → (z 24) j = (σ 24) j := fun j hj => (em.2.2.1 j (by clear hv; omega)).trans (w1 j hj)
  by_cases f0 : (s 6 3).toInt = 0
  · obtain ⟨f9, g1, ag, h1, h2, h3, h4, h5, h6, h7, h8, h9, h10⟩ := hv f0
    clear hv
    unfold CX at h2
    rw [if_neg (by decide)] at h2
    obtain ⟨Y, E, G, D, a1, a2, ⟨a3, a4, a5⟩, b1, b2, b3, b4, b5, b6, b7, b8, b9, b10⟩ := h2
    have eG : G = [] := b6 (Or.inr (Or.inr (Or.inl rfl)))
    have eD : D = [] := b10 (by decide)
    subst eG eD
    obtain ⟨t, t1, t2, t3⟩ := b7 (by decide)
    obtain ⟨g2, T3, ag2, gn⟩ := typ_jump (w' := (z 24)) (n := 28) (tt := t) (H' := 0) (L' := LV K) (typ_mono (fun q _ => rfl) agr_rf (cpu_mono ek emk) (fun _ z => z) h1) em.2.2.1 (by rw [em.2.2.2.1]; rfl) (Or.inr (Or.inr rfl)) (by rw [em.2.2.2.2.1]; exact t1) (by omega) (fun _ => ⟨by omega, by omega, by omega⟩) ⟨LV K, by rw [if_neg (by decide)]; exact t3, Or.inl (by rw [lv]; exact Nat.lt_succ_self _)⟩
    rw [← ec2] at T3
    refine sp_fin (σ := z) (E := E) (Y := Y) T3 (fun q hq => ?_) (cx_e ek (fun q hq => em.2.2.1 q (by omega)) (agr_le ag2 h7) (by omega) a1) ?_ (fun p hp => wj_mono (fun q hq => em.2.2.1 q (by omega)) (agr_le ag2 h7) (by omega) (b4 p hp)) a3 (by rw [ee]; exact h3) (by omega) (by omega) ozz hn ?_ (fun s9 k9 w9 sb => k s9 (sk_srtr (z := s) (d := 2 * plc σ [iV]) (kxs_e k1) m1 (fun j hj => w1 j (by omega)) (fun _ => f9) hc hh0 l0 (fin_sr (s1 := z) (l := 2) (kxs_e ek) emk (fun j hj => em.2.2.1 j (by omega)) (fun f => by rw [ef] at f; exact f) el2 l0 k9 w9 sb (Nat.le_refl _))))
    · rcases (a2 q).mp hq with y | y | y | y
      · exact Or.inl y
      · exact Or.inr y
      · cases y
      · cases y
    · rw [p3']
      exact chw_mono E _ (fun p hp => em.2.2.1 (p + 1) (by have := wj_lt (b4 p hp); omega)) b1
    · rw [ec2]
      exact bnd_ext h6 ag2 (fun j a1 a2 => by
        have : j = clen s + 1 := by omega
        rw [this]
        exact gn) (by rw [← ec2]; exact T3.2.1) (by omega)
  · clear hv
    refine sp_finb (σ := z) (E := E0) (b := b) ?_ (fun p hp => ⟨(E0b p hp).1, by have := (E0b p hp).2; omega⟩) (by omega) (by omega) ozz hn (fun s9 k9 w9 => k s9 (sr_bad (ko_tr kxz (ko_sub (ko_kp k9) (by decide) (by decide))) (mks_tr mkz (mks_eq (funext (fun j => k9 25 j rfl rfl)) (funext (fun j => k9 39 j rfl rfl)))) (fun j hj => (w9 j hj).trans (wz j (by omega))) ?_ ?_ ?_ ?_))
    · rw [p3', q3]
      exact chw_mono E0 _ (fun p hp => wz _ (by have := (E0b p hp).2; omega)) f1
    · have : clen s9 = clen z := by unfold clen; rw [show (s9 4 1) = (z 4 1) from k9 4 1 rfl rfl]
      omega
    · rw [show (s9 4 1) = (z 4 1) from k9 4 1 rfl rfl]
      omega
    · rw [show (s9 4 1) = (z 4 1) from k9 4 1 rfl rfl]
      omega
    · rw [show (s9 6 3) = (z 6 3) from k9 6 3 rfl rfl, ef]
      exact f0
end SDT
