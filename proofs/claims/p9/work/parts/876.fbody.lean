/-! steps of statements: where a for's body begins -/
section SFB
variable {σ s z t : St} {g g' g1 : Gh} {X X0 Y : Nat → Prop} {b e e0 e' H H0 H' L L' m n c d p tt j : Nat} {K E G D : List Nat} {x y v : Int32}
theorem ss_fbody {Q : St → Prop} (h : SB σ g b (7 :: K) X 0) (hn : nzr K < 26) (cap : (σ 4 1).toInt ≤ 262150) (k : ∀ s, SRs σ s b (8 :: K) 0 4 → Q s) : wk_X7_jumpBack (atv 26 (σ 50) ((σ 9 5) - (1 : Int32))) σ (fun s101 => wk_X0_aim (atv 26 (s101 53) ((s101 9 5) - (1 : Int32))) (s101 4 1) s101 (fun s128 => wk_X7_turn x s128 (fun s133 => Q s133))) := by
  obtain ⟨h1, h2, h3, h4, h5, h6⟩ := h
  have c0 := clen_eq h4
  have xlt := cx_lt (7 :: K) X h2
  unfold CX at h2
  rw [if_neg (by decide)] at h2
  obtain ⟨Y, E, G, D, a1, a2, ⟨a3, a4, a5⟩, b1, b2, b3, b4, b5, b6, b7, b8, b9, b10⟩ := h2
  have eG : G = [] := b6 (Or.inr (Or.inr (Or.inr (Or.inr rfl))))
  subst eG
  obtain ⟨tp, t1, t2, t3⟩ := b7 (by decide)
  obtain ⟨la, u1, u2, u3⟩ := b8 (Or.inl rfl)
  obtain ⟨pj, eD, d1, d2, d3, d4, d5⟩ := b9 rfl
  subst eD
  have nk : nzr (7 :: K) = nzr K + 1 := nz_c (by decide)
  have lv7 : LV (7 :: K) = LV K + 1 := rfl
  have lv8 : LV (8 :: K) = LV K + 2 := rfl
  have oi : ((σ 9 5) - (1 : Int32)).toInt = nzr K := by rw [sbc i1 (by omega) (by omega)]; omega
  rw [atv_at oi hn]
  unfold wk_X7_jumpBack
  refine sk_emit (n := 26) rfl (by decide) h4 (by omega) (fun v s _ em => ?_)
  have ec := em_clen em (n := 26) rfl h4
  have el := em_len em (m := 26) rfl
  have l2 : ln 26 = 2 := rfl
  obtain ⟨ek, emk, -, -, ef, ee⟩ := em_k em
  obtain ⟨q1, q2, q3, q4, q5, q6, q7⟩ := kw_e ek
  have ec2 : clen s = clen σ + 2 := ec
  have el2 : (s 4 1).toInt = (σ 4 1).toInt + 2 := el
  have oi2 : ((s 9 5) - (1 : Int32)).toInt = nzr K := by rw [q7]; exact oi
  obtain ⟨g2, T2, ag2, gn⟩ := typ_jump (w' := (s 24)) (n := 26) (tt := tp) (H' := 0) (L' := LV K) (typ_mono (fun q _ => rfl) agr_rf (cpu_mono ek emk) (fun _ z => z) h1) em.2.2.1 (by rw [em.2.2.2.1]; rfl) (Or.inl rfl) (by rw [em.2.2.2.2.1]; exact t1) (by omega) (fun z => absurd rfl z) ⟨LV K, by rw [if_pos rfl]; exact t3, Or.inl (by rw [lv7]; exact Nat.lt_succ_self _)⟩
  rw [← ec2] at T2
  have h4s : 0 ≤ (s 4 1).toInt := by omega
  have c1 := clen_eq h4s
  show wk_X0_aim (atv 26 (s 53) ((s 9 5) - (1 : Int32))) (s 4 1) s _
  rw [atv_at oi2 hn, q5]
  refine sp_aimE (σ := s) (E := [pj]) (tt := clen s) T2 (by omega) (Nat.le_refl _) ⟨d1, ?_, fun q hq => (by cases hq)⟩ (fun p hp => ?_) h4s (by omega) (fun u kk w0 wo T3 cxk => ?_)
  · show ((s 24) (pj + 1)).toInt < 0
    rw [em.2.2.1 (pj + 1) (by omega)]
    exact d3
  · rw [List.mem_singleton] at hp
    subst hp
    exact ⟨26, LV K, by rw [em.2.2.1 p (by omega)]; exact d2, Or.inl rfl, by rw [ag2 p (by omega)]; exact d5, by omega, LV K, T2.2.1, Or.inr ⟨rfl, by omega⟩⟩
  have u4 : (u 4 1) = (s 4 1) := kk 4 1 rfl rfl
  have ecu : clen u = clen s := by unfold clen; rw [u4]
  have h4u : 0 ≤ (u 4 1).toInt := by rw [u4]; exact h4s
  have ku : KXE s u := ko_sub (ko_kp kk) (by decide) (by decide)
  have mu : MKs s u := mks_eq (funext (fun j => kk 25 j rfl rfl)) (funext (fun j => kk 39 j rfl rfl))
  show wk_X7_turn x u _
  unfold wk_X7_turn
  refine sk_emit (n := 31) rfl (by decide) h4u (by rw [u4]; omega) (fun v2 w _ em2 => ?_)
  have ecw := em_clen em2 (n := 31) rfl h4u
  have elw := em_len em2 (m := 31) rfl
  have l3 : ln 31 = 2 := rfl
  obtain ⟨ek2, emk2, -, -, ef2, ee2⟩ := em_k em2
  have ecw2 : clen w = clen u + 2 := ecw
  have elw2 : (w 4 1).toInt = (u 4 1).toInt + 2 := elw
  have lw : (w 4 1).toInt = (σ 4 1).toInt + 4 := by rw [elw2, u4, el2]; omega
  obtain ⟨g3, T4, ag3, gn3⟩ := typ_turn (w' := (w 24)) (L' := LV (8 :: K)) (typ_mono (fun q _ => rfl) agr_rf (cpu_mono ek2 emk2) (fun _ z => z) T3) em2.2.2.1 (by rw [em2.2.2.2.1]; rfl)
  rw [← ecw2] at T4
  obtain ⟨y1, y2, y3, y4, y5, y6, y7⟩ := kw_e ku
  obtain ⟨x1, x2, x3, x4, x5, x6, x7⟩ := kw_e ek2
  have wlow : ∀ j, j < b → (w 24) j = (σ 24) j := fun j hj => (em2.2.2.1 j (by have := h1.1; omega)).trans ((w0 j hj).trans (em.2.2.1 j (by have := h1.1; omega)))
  have kkw : KXS σ w := ko_tr (kxs_e ek) (ko_tr (kxs_e ku) (kxs_e ek2))
  refine k w ⟨kkw, mks_tr emk (mks_tr mu emk2), ⟨wlow, by have := h1.1; omega⟩, by omega, by omega, fun hf => ⟨?_, g3, _, ⟨T4, ?_, ?_, by omega, ?_, ?_⟩, by omega⟩⟩
  · rw [← ef, ← show (u 6 3) = (s 6 3) from kk 6 3 rfl rfl, ← ef2]
    exact hf
  · -- the constructs around
    have pjn : ∀ q, X q → q ≠ pj → q + 1 ≠ pj + 1 := fun q _ hne e2 => hne (by omega)
    have wE : ∀ p ∈ E, (u 24) p = (s 24) p := fun p hp => wo p (fun q hq e2 => by
      rw [List.mem_singleton] at hq
      subst hq
      have g0 := (wj_next h1 (b4 p hp)).1
      have gj : g (q + 1) = none := hole_next (n := 26) h1 d5 d4 d2 ⟨by decide, by decide⟩
      rw [e2] at g0
      exact g0 gj)
    have wE1 : ∀ p ∈ E, (u 24) (p + 1) = (s 24) (p + 1) := fun p hp => wo (p + 1) (fun q hq e2 => by
      rw [List.mem_singleton] at hq
      subst hq
      have : p = q := by omega
      rw [this] at hp
      exact (a5 q (List.mem_singleton.mpr rfl)).2.1 hp)
    have cK0 : CX s g2 (clen s) K Y := cx_e ek em.2.2.1 ag2 (by omega) a1
    have cK1 : CX u g2 (clen u) K Y := cxk K Y (fun q hq => by
      rw [List.mem_singleton] at hq
      subst hq
      exact (a5 q (List.mem_singleton.mpr rfl)).1) cK0
    have cK2 : CX w g3 (clen w) K Y := cx_e ek2 em2.2.2.1 ag3 (by omega) cK1
    unfold CX
    rw [if_neg (by decide)]
    refine ⟨Y, E, [], [], cK2, fun q => ?_, ⟨a3, fun q hq => (by cases hq), fun q hq => (by cases hq)⟩, ?_, ?_, ?_, fun p hp => ?_, fun p hp => (by cases hp), fun _ => rfl, fun _ => ⟨tp, ?_, by omega, ?_⟩, fun _ => ⟨la, ?_, by omega, ?_⟩, fun c2 => absurd c2 (by decide), fun _ => rfl⟩
    · show (X q ∧ ¬ q ∈ [pj]) ↔ _
      rw [a2 q, List.mem_singleton]
      constructor
      · rintro ⟨y | y | y | y, hE⟩
        · exact Or.inl y
        · exact Or.inr (Or.inl y)
        · cases y
        · exact absurd y hE
      · rintro (y | y | y | y)
        · exact ⟨Or.inl y, fun e2 => (a5 pj (List.mem_singleton.mpr rfl)).1 (by rw [← e2]; exact y)⟩
        · exact ⟨Or.inr (Or.inl y), fun e2 => (a5 pj (List.mem_singleton.mpr rfl)).2.1 (by rw [← e2]; exact y)⟩
        · cases y
        · cases y
    · rw [x3, y3, q3]
      exact chw_mono E _ (fun p hp => by
        have := wj_lt (b4 p hp)
        exact (em2.2.2.1 (p + 1) (by omega)).trans ((wE1 p hp).trans (em.2.2.1 (p + 1) (by omega)))) b1
    · intro _
      rw [x4, y4, q4]
      exact b2 (by decide)
    · rw [x1, y1, q1]
      exact b3
    · obtain ⟨n, k2, z1, z2, z3, z4, z5⟩ := b4 p hp
      exact ⟨n, k2, by rw [em2.2.2.1 p (by omega), wE p hp, em.2.2.1 p (by omega)]; exact z1, z2, by rw [ag3 p (by omega), ag2 p (by omega)]; exact z3, by omega, z5⟩
    · rw [x2, y2, q2]
      exact t1
    · rw [ag3 tp (by omega), ag2 tp (by omega)]
      exact t3
    · rw [x6, y6, q6]
      exact u1
    · rw [ag3 la (by omega), ag2 la (by omega)]
      exact u3
  · rw [ee2, show (u 7 7) = (s 7 7) from kk 7 7 rfl rfl, ee]
    exact h3
  · rw [x7, y7, q7, nz_c (by decide)]
    rw [nk] at h5
    exact h5
  · rw [ecw2]
    refine bnd_ext ?_ ag3 (fun j a1 a2 => by
      have : j = clen u + 1 := by omega
      rw [this]
      exact gn3) (by rw [← ecw2]; exact T4.2.1) (by omega)
    rw [ecu, ec2]
    exact bnd_ext h6 ag2 (fun j a1 a2 => by
      have : j = clen σ + 1 := by omega
      rw [this]
      exact gn) (by rw [← ec2]; exact T2.2.1) (by omega)
end SFB
