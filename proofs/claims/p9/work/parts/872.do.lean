/-! steps of statements: a do begins -/
section SDO
variable {σ s z t : St} {g g' g1 : Gh} {X X0 Y : Nat → Prop} {b e e0 e' H H0 H' L L' m n c d p tt j : Nat} {K E G D : List Nat} {x y v : Int32}
theorem ss_do {Q : St → Prop} (h : SB σ g b K X 0) (hn : nzr K < 26) (cap : (σ 4 1).toInt ≤ 262150) (k : ∀ s, SRs σ s b (4 :: K) 0 2 → Q s) : wk_X7_begin (1 : Int32) σ (fun s8 => wk_X7_turn x s8 (fun s13 => Q s13)) := by
  obtain ⟨h1, h2, h3, h4, h5, h6⟩ := h
  have c0 := clen_eq h4
  refine sk_begin (n := nzr K) h5 hn (fun s kk o1 rs a1 a2 a3 a4 => ?_)
  have w0 : (s 24) = (σ 24) := funext (fun j => kk 24 j rfl rfl)
  have e4 : (s 4 1) = (σ 4 1) := kk 4 1 rfl rfl
  have e6 : (s 6 3) = (σ 6 3) := kk 6 3 rfl rfl
  have e7 : (s 7 7) = (σ 7 7) := kk 7 7 rfl rfl
  have ecl : clen s = clen σ := by unfold clen; rw [e4]
  have h4s : 0 ≤ (s 4 1).toInt := by rw [e4]; exact h4
  have kx : KXS σ s := ko_sub (ko_kp kk) (by decide) (by decide)
  have mk : MKs σ s := mks_eq (funext (fun j => kk 25 j rfl rfl)) (funext (fun j => kk 39 j rfl rfl))
  have cx : CX s g (clen σ) (4 :: K) X := cx_begin h2 kk rs (by rw [a1, if_neg (by decide)]; rfl) a3 a4 (Or.inr (Or.inr (Or.inl rfl))) (fun _ => ⟨by rw [a2]; omega, h1.2.1⟩)
  unfold wk_X7_turn
  refine sk_emit (n := 31) rfl (by decide) h4s (by rw [e4]; omega) (fun v t _ em => k t ?_)
  have el := em_len em (m := 31) rfl
  have ec := em_clen em (n := 31) rfl h4s
  have l2 : ln 31 = 2 := rfl
  obtain ⟨ek, emk, -, -, ef, ee⟩ := em_k em
  have ec2 : clen t = clen s + 2 := ec
  have lt : (t 4 1).toInt = (σ 4 1).toInt + 2 := by rw [el, e4]; omega
  have bb := h1.1
  refine ⟨ko_tr kx (kxs_e ek), mks_tr mk emk, ⟨fun j hj => (em.2.2.1 j (by omega)).trans (by rw [w0]), by omega⟩, by omega, by omega, fun hf => ⟨by rw [← e6, ← ef]; exact hf, ?_⟩⟩
  obtain ⟨g2, T2, ag2, gn⟩ := typ_turn (w' := (t 24)) (L' := LV (4 :: K)) (typ_mono (fun q _ => by rw [w0]) agr_rf (fun a m z => cpu_mono ek emk a m (cpu_x kx mk a m z)) (fun _ z => z) h1) (fun q hq => em.2.2.1 q (by omega)) (by rw [← ecl, em.2.2.2.1]; rfl)
  have ec3 : clen t = clen σ + 2 := by omega
  refine ⟨g2, X, ⟨by rw [ec3]; exact T2, cx_e ek (fun q hq => em.2.2.1 q (by omega)) ag2 (by omega) cx, by rw [ee, e7]; exact h3, by omega, by rw [(kw_e ek).2.2.2.2.2.2, o1, nz_c (by decide)]; rfl, ?_⟩, by omega⟩
  rw [ec3]
  exact bnd_ext h6 ag2 (fun j a1 a2 => by
    have : j = clen σ + 1 := by omega
    rw [this]
    exact gn) T2.2.1 (by omega)
end SDO
