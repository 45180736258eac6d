/-! steps of statements: a while's condition -/
section SWH
variable {σ s z t : St} {g g' g1 : Gh} {X X0 Y : Nat → Prop} {b e e0 e' H H0 H' L L' m n c d p tt j : Nat} {K E G D : List Nat} {x y v : Int32}
theorem cx_23 (h : CX σ g e (2 :: K) X) : CX σ g e (3 :: K) X := by
  unfold CX at h ⊢
  rw [if_neg (by decide)] at h ⊢
  obtain ⟨Y, E, G, D, a1, a2, a3, b1, b2, b3, b4, b5, b6, b7, b8, b9, b10⟩ := h
  have eG : G = [] := b6 (Or.inr (Or.inl rfl))
  refine ⟨Y, E, G, D, a1, a2, a3, b1, fun _ => b2 (by decide), b3, b4, fun p hp => ?_, fun _ => eG, fun _ => b7 (by decide), fun z => absurd z (by decide), fun z => absurd z (by decide), fun _ => b10 (by decide)⟩
  rw [eG] at hp
  cases hp
theorem ss_turn {Q : St → Prop} (r : SRs σ s b (2 :: K) 0 m) (cap : (s 4 1).toInt ≤ 262190) (k : ∀ t, SRs σ t b (3 :: K) 0 (m + 2) → Q t) : wk_X7_turn x s Q := by
  obtain ⟨r1, r2, r3, r4, r5, r6⟩ := r
  have c1 := clen_eq r4
  have hbc := r3.2
  unfold wk_X7_turn
  refine sk_emit (n := 31) rfl (by decide) r4 (by clear r6; omega) (fun v t _ em => k t ?_)
  have el := em_len em (m := 31) rfl
  have ec := em_clen em (n := 31) rfl r4
  have l2 : ln 31 = 2 := rfl
  obtain ⟨ek, emk, -, -, ef, ee⟩ := em_k em
  refine ⟨ko_tr r1 (kxs_e ek), mks_tr r2 emk, ⟨fun j hj => (em.2.2.1 j (by clear r6; omega)).trans (r3.1 j hj), by clear r6; omega⟩, by clear r6; omega, by clear r6; omega, fun hf => ?_⟩
  obtain ⟨f0, g', X', ⟨h1, h2, h3, h4, h5, h6⟩, a2⟩ := r6 (by rw [← ef]; exact hf)
  obtain ⟨g2, T2, ag2, gn⟩ := typ_turn (w' := (t 24)) (L' := LV (3 :: K)) (typ_mono (fun q _ => rfl) agr_rf (cpu_mono ek emk) (fun _ z => z) h1) em.2.2.1 (by rw [em.2.2.2.1]; rfl)
  have ec2 : clen t = clen s + 2 := ec
  refine ⟨f0, g2, X', ⟨by rw [ec2]; exact T2, cx_23 (cx_e ek (fun q hq => em.2.2.1 q hq) ag2 (by omega) h2), by rw [ee]; exact h3, by omega, by rw [(kw_e ek).2.2.2.2.2.2, h5, nz_c (by decide), nz_c (by decide)], ?_⟩, by omega⟩
  rw [ec2]
  exact bnd_ext h6 ag2 (fun j a1 a2 => by
    have : j = clen s + 1 := by omega
    rw [this]
    exact gn) T2.2.1 (by omega)
theorem ss_wtest {Q : St → Prop} (h : SE σ g b (2 :: K) X 0 e0 [iV]) (hb : b ≤ e0) (hn : nzr K < 26) (cap : (σ 4 1).toInt ≤ 262150) (k : ∀ s, SRs σ s b (3 :: K) 0 (2 * plc σ [iV] + 2 + 2) → Q s) : wk_X7_condition x σ (fun u23 s23 => wk_X7_exitUnless u23 s23 (fun s26 => wk_X7_turn y s26 (fun s31 => Q s31))) := by
  have hh0 := h.1.2.2.1
  have c0 := clen_eq hh0
  have ho := h.2.2.1
  have p1 : plc σ [iV] = pk σ 65 + 0 := plc_V
  have pk1 := pkq_le (σ := σ) (q := 65)
  refine sp_cond h (by omega) (fun s k1 m1 w1 l0 ⟨hc, hce⟩ hst hv => ?_)
  have c1 := clen_eq l0
  refine sp_exit (σ := s) (c := 2) (K := K) (X := X) (e0 := e0) (b := b) (by rw [(kw_e k1).2.2.2.2.2.2, ho, nz_c (by decide)]; rfl) hn l0 (by clear hst hv; omega) (Or.inr (Or.inl rfl)) hb hst (Nat.le_trans hb hce) (fun f => ?_) (fun z r => ?_)
  · obtain ⟨f1, g2, -, vs⟩ := hv f
    exact ⟨g2, vs⟩
  · have r' := sk_srtr (z := s) (kxs_e k1) m1 (fun j hj => w1 j (by clear hst hv; omega)) (fun f => (hv f).1) hc hh0 l0 r
    have rl := r'.2.2.2.2.1
    have r4 := r'.2.2.2.1
    exact ss_turn r' (by clear hst hv; omega) k
end SWH
