/-! steps of statements: else -/
section SEL
variable {σ s z t : St} {g g' g1 : Gh} {X X0 Y : Nat → Prop} {b e e0 e' H H0 H' L L' m n c d p tt j : Nat} {K E G D : List Nat} {x y v : Int32}
theorem ss_else {Q : St → Prop} (h : SB σ g b (1 :: K) X 0) (hn : nzr K < 26) (cap : (σ 4 1).toInt ≤ 262150) (k : ∀ s, SRs σ s b (1 :: K) 0 2 → Q s) : wk_X0_emit (26 : Int32) ((-1) : Int32) (0 : Int32) (0 : Int32) σ (fun v40 s40 => wk_X0_aim (atv 26 (s40 51) ((s40 9 5) - (1 : Int32))) (s40 4 1) s40 (fun s68 => Q (upF s68 51 (setv 26 (s68 51) ((s68 9 5) - (1 : Int32)) v40)))) := by
  obtain ⟨h1, h2, h3, h4, h5, h6⟩ := h
  have c0 := clen_eq h4
  have xlt := cx_lt (1 :: K) X h2
  unfold CX at h2
  rw [if_neg (by decide)] at h2
  obtain ⟨Y, E, G, D, a1, a2, ⟨a3, a4, a5⟩, b1, b2, b3, b4, b5, b6, b7, b8, b9, b10⟩ := h2
  have eD : D = [] := b10 (by decide)
  have eG : G = [] := b6 (Or.inl rfl)
  subst eD eG
  have nk : nzr (1 :: K) = nzr K + 1 := nz_c (by decide)
  have lv : LV (1 :: K) = LV K := rfl
  refine sk_emit (n := 26) rfl (by decide) h4 (by omega) (fun v s ev em => ?_)
  have ec := em_clen em (n := 26) rfl h4
  have el := em_len em (m := 26) rfl
  have l2 : ln 26 = 2 := rfl
  obtain ⟨ek, emk, -, -, ef, ee⟩ := em_k em
  have ec2 : clen s = clen σ + 2 := ec
  obtain ⟨q1, q2, q3, q4, q5, q6, q7⟩ := kw_e ek
  have oi : ((s 9 5) - (1 : Int32)).toInt = nzr K := by rw [q7, sbc i1 (by omega) (by omega)]; omega
  have h4s : 0 ≤ (s 4 1).toInt := by omega
  obtain ⟨g2, T2, ag2, gn⟩ := typ_hole (w' := (s 24)) (n := 26) (H' := 0) (L' := LV (1 :: K)) (typ_mono (fun q _ => rfl) agr_rf (cpu_mono ek emk) (fun _ z => z) h1) em.2.2.1 (by rw [em.2.2.2.1]; rfl) (by decide) (fun z => absurd rfl z)
  rw [← ec2] at T2
  have c1 := clen_eq h4s
  rw [atv_at oi hn, q3]
  have ws : ∀ p ∈ E, WJ (s 24) g2 (clen s) p (LV K) := fun p hp => wj_mono em.2.2.1 ag2 (by omega) (b4 p hp)
  refine sp_aimE (σ := s) (E := E) (tt := clen s) T2 (by omega) (Nat.le_refl _) (chw_mono E _ (fun p hp => em.2.2.1 _ (by have := wj_lt (b4 p hp); omega)) b1) (fun p hp => wj_pj (ws p hp) (by rw [T2.2.1, lv]) (Or.inr ⟨Nat.le_refl _, Nat.le_refl _⟩)) h4s (by omega) (fun u kk w0 wo T3 cxk => ?_)
  have oi' : ((u 9 5) - (1 : Int32)).toInt = nzr K := by rw [show (u 9 5) = (s 9 5) from kk 9 5 rfl rfl]; exact oi
  rw [setv_at oi' hn]
  have u4 : (u 4 1) = (s 4 1) := kk 4 1 rfl rfl
  have ecu : clen u = clen s := by unfold clen; rw [u4]
  have ku : KXE s u := ko_sub (ko_kp kk) (by decide) (by decide)
  have mu : MKs s u := mks_eq (funext (fun j => kk 25 j rfl rfl)) (funext (fun j => kk 39 j rfl rfl))
  refine k _ (sr_exit (s := u) (e' := clen σ + 2) (ko_tr (kxs_e ek) (kxs_e ku)) (mks_tr emk mu) (fun j hj => (w0 j hj).trans (em.2.2.1 j (by have := h1.1; omega))) ((show (u 6 3) = (s 6 3) from kk 6 3 rfl rfl).trans ef) (by rw [u4]; omega) (by have := h1.1; omega) (Nat.le_refl _) h4 (by decide) (fun f0 => ⟨g2, _, by rw [← ec2, ← ecu]; exact T3, ?_, ?_, by rw [show (u 7 7) = (s 7 7) from kk 7 7 rfl rfl, ee]; exact h3, by rw [show (u 9 5) = (s 9 5) from kk 9 5 rfl rfl, q7]; omega⟩))
  · generalize hz : upF u 51 (fun k => if k = nzr K then v else (u 51) k) = z
    have zr : ∀ c, c ≠ 51 → z c = u c := fun c hc => by rw [← hz]; exact rdF_ne hc
    have z51 : (z 51) = fun k => if k = nzr K then v else (u 51) k := by rw [← hz]; exact rdF_eq
    have zs : ∀ c, c ≠ 51 → c ≠ 24 → z c = s c := fun c h1 h2 => by
      rw [zr c h1]
      exact funext (fun j => kk c j (by
        cases hh : (([] : List (Nat × Nat)).contains (c, j)) with
        | false => rfl
        | true => cases hh) (by
        simp only [List.contains_cons, List.contains_nil, Bool.or_false]
        exact beq_eq_false_iff_ne.mpr h2))
    unfold CX
    rw [if_neg (by decide)]
    have cK := cxk K Y a3 (cx_e ek em.2.2.1 ag2 (by omega) a1)
    rw [ecu, ec2] at cK
    refine ⟨Y, [clen σ], [], [], cx_mono K Y (fun i hi => ⟨by rw [zr 49 (by decide)], by rw [zr 50 (by decide)], ?_, by rw [zr 52 (by decide)], by rw [zr 53 (by decide)], by rw [zr 54 (by decide)]⟩) (fun q _ => by rw [zr 24 (by decide)]) agr_rf (Nat.le_refl _) cK, fun q => ?_, ⟨fun q hq => ?_, fun q hq => (by cases hq), fun q hq => (by cases hq)⟩, ?_, ?_, ?_, fun p hp => ?_, fun p hp => (by cases hp), fun _ => rfl, fun c2 => (by omega), fun c2 => (by omega), fun c2 => (by omega), fun _ => rfl⟩
    · rw [z51]
      show (if i = nzr K then v else (u 51) i) = _
      rw [if_neg (by omega)]
    · show ((X q ∨ q = clen σ) ∧ ¬ q ∈ E) ↔ _
      rw [a2 q]
      constructor
      · rintro ⟨(y | y | y | y) | y, hE⟩
        · exact Or.inl y
        · exact absurd y hE
        · cases y
        · cases y
        · exact Or.inr (Or.inl (List.mem_singleton.mpr y))
      · rintro (y | y | y | y)
        · exact ⟨Or.inl (Or.inl y), fun hE => a3 q hE y⟩
        · rw [List.mem_singleton] at y
          exact ⟨Or.inr y, fun hE => by have := wj_lt (b4 q hE); omega⟩
        · cases y
        · cases y
    · rw [List.mem_singleton] at hq
      exact fun hy => by have := xlt q ((a2 q).mpr (Or.inl hy)); omega
    · have ez : (z 51) (nzr K) = v := by rw [z51]; exact if_pos rfl
      rw [ez, zr 24 (by decide)]
      refine ⟨by rw [ev]; omega, ?_, fun q hq => (by cases hq)⟩
      show ((u 24) (clen σ + 1)).toInt < 0
      rw [wo (clen σ + 1) (fun p hp => by have := wj_lt (b4 p hp); omega), em.2.2.2.2.1]
      decide
    · intro _
      show ((z 52) (nzr K)).toInt < 0
      rw [zs 52 (by decide) (by decide), q4]
      exact b2 (by decide)
    · rw [zs 49 (by decide) (by decide), q1]
      exact b3
    · rw [List.mem_singleton] at hp
      rw [hp, zr 24 (by decide)]
      refine ⟨26, LV K, ?_, Or.inl rfl, ?_, Nat.le_refl _, Nat.le_refl _⟩
      · rw [wo (clen σ) (fun p hp e2 => by have := (wj_next h1 (b4 p hp)).2; rw [← e2, h1.2.1] at this; cases this), em.2.2.2.1]
        rfl
      · rw [ag2 _ (Nat.le_refl _), h1.2.1, lv]
        rfl
  · exact bnd_ext h6 ag2 (fun j a1 a2 => by
      have : j = clen σ + 1 := by omega
      rw [this]
      exact gn) (by rw [← ec2]; exact T2.2.1) (by omega)
end SEL
