/-! steps of statements: a for's test, its body -/
section SFO
variable {σ s z t : St} {g g' g1 : Gh} {X X0 Y : Nat → Prop} {b e e0 e' H H0 H' L L' m n c d p tt j : Nat} {K E G D : List Nat} {x y v : Int32}
theorem sr_rf (h : SB σ g b K X H0) (hf : (σ 6 3).toInt = 0) : SRs σ σ b K H0 0 := ⟨ko_rf, mks_rf, ⟨fun _ _ => rfl, h.1.1⟩, h.2.2.2.1, by omega, fun _ => ⟨hf, g, X, h, by omega⟩⟩
/-- behind a for's test: the jump to the body -/
theorem ss_fjump {Q : St → Prop} (r : SRs σ s b (6 :: K) 0 m) (cap : (s 4 1).toInt ≤ 262190) (hn : nzr K < 26) (k : ∀ t, SRs σ t b (7 :: K) 0 (m + 2) → Q t) : wk_X0_emit (26 : Int32) ((-1) : Int32) (0 : Int32) (0 : Int32) s (fun v52 s52 => Q (upF (upF s52 53 (setv 26 (s52 53) ((s 9 5) - (1 : Int32)) v52)) 54 (setv 26 ((upF s52 53 (setv 26 (s52 53) ((s 9 5) - (1 : Int32)) v52)) 54) ((s52 9 5) - (1 : Int32)) (s52 4 1)))) := by
  obtain ⟨r1, r2, r3, r4, r5, r6⟩ := r
  have c1 := clen_eq r4
  have hbc := r3.2
  by_cases fz : (s 6 3).toInt = 0
  rotate_left
  · clear r6
    refine sk_emit (n := 26) rfl (by decide) r4 (by omega) (fun v t ev em => ?_)
    have el := em_len em (m := 26) rfl
    have ec := em_clen em (n := 26) rfl r4
    have l2 : ln 26 = 2 := rfl
    obtain ⟨ek, emk, -, -, ef, ee⟩ := em_k em
    generalize hz : upF (upF t 53 _) 54 _ = z
    have zr : ∀ c, c ≠ 53 → c ≠ 54 → z c = t c := fun c h1 h2 => by rw [← hz, rdF_ne h2, rdF_ne h1]
    have z24 : (z 24) = (t 24) := zr 24 (by decide) (by decide)
    have z4 : (z 4 1) = (t 4 1) := by rw [zr 4 (by decide) (by decide)]
    have ecz : clen z = clen t := by unfold clen; rw [z4]
    have kz : KXS t z := by
      rw [← hz]
      exact ko_kp (kp_F (kp_F kp_rf rfl) rfl)
    have mz : MKs t z := mks_eq (zr 25 (by decide) (by decide)) (zr 39 (by decide) (by decide))
    exact k z (sr_bad (ko_tr r1 (ko_tr (kxs_e ek) kz)) (mks_tr r2 (mks_tr emk mz)) (fun j hj => by rw [z24]; exact (em.2.2.1 j (by omega)).trans (r3.1 j hj)) (by omega) (by rw [z4]; omega) (by rw [z4]; omega) (by rw [zr 6 (by decide) (by decide), ef]; exact fz))
  have ho : (s 9 5).toInt = nzr K + 1 := by
    obtain ⟨-, g', X', ⟨-, -, -, -, h5, -⟩, -⟩ := r6 fz
    rw [h5, nz_c (by decide)]
    rfl
  have oi : ((s 9 5) - (1 : Int32)).toInt = nzr K := by rw [sbc i1 (by clear r6; omega) (by clear r6; omega)]; clear r6; omega
  refine sk_emit (n := 26) rfl (by decide) r4 (by clear r6; omega) (fun v t ev em => ?_)
  have el := em_len em (m := 26) rfl
  have ec := em_clen em (n := 26) rfl r4
  have l2 : ln 26 = 2 := rfl
  obtain ⟨ek, emk, -, -, ef, ee⟩ := em_k em
  obtain ⟨q1, q2, q3, q4, q5, q6, q7⟩ := kw_e ek
  have oi2 : ((t 9 5) - (1 : Int32)).toInt = nzr K := by rw [q7]; exact oi
  have ec2 : clen t = clen s + 2 := ec
  rw [setv_at oi hn, setv_at oi2 hn]
  generalize hz : upF (upF t 53 (fun k => if k = nzr K then v else (t 53) k)) 54 (fun k => if k = nzr K then (t 4 1) else (upF t 53 (fun k => if k = nzr K then v else (t 53) k)) 54 k) = z
  have zr : ∀ c, c ≠ 53 → c ≠ 54 → z c = t c := fun c h1 h2 => by rw [← hz, rdF_ne h2, rdF_ne h1]
  have z53 : (z 53) = fun k => if k = nzr K then v else (t 53) k := by rw [← hz, rdF_ne (by decide), rdF_eq]
  have z54 : (z 54) = fun k => if k = nzr K then (t 4 1) else (t 54) k := by rw [← hz, rdF_eq]; rfl
  have z24 : (z 24) = (t 24) := zr 24 (by decide) (by decide)
  have z4 : (z 4 1) = (t 4 1) := by rw [zr 4 (by decide) (by decide)]
  have ecz : clen z = clen t := by unfold clen; rw [z4]
  have kz : KXS t z := by
    rw [← hz]
    exact ko_kp (kp_F (kp_F kp_rf rfl) rfl)
  have mz : MKs t z := mks_eq (zr 25 (by decide) (by decide)) (zr 39 (by decide) (by decide))
  refine k z ⟨ko_tr r1 (ko_tr (kxs_e ek) kz), mks_tr r2 (mks_tr emk mz), ⟨fun j hj => by rw [z24]; exact (em.2.2.1 j (by clear r6; omega)).trans (r3.1 j hj), by clear r6; omega⟩, by rw [z4]; clear r6; omega, by rw [z4]; clear r6; omega, fun hf => ?_⟩
  obtain ⟨f0, g', X', ⟨h1, h2, h3, h4, h5, h6⟩, a9⟩ := r6 (by rw [← ef, ← zr 6 (by decide) (by decide)]; exact hf)
  have lv6 : LV (6 :: K) = LV K := rfl
  have lv7 : LV (7 :: K) = LV K + 1 := rfl
  obtain ⟨g2, T2, ag2, gn⟩ := typ_hole (w' := (t 24)) (n := 26) (H' := 0) (L' := LV (7 :: K)) (typ_mono (fun q _ => rfl) agr_rf (cpu_mono ek emk) (fun _ z => z) h1) em.2.2.1 (by rw [em.2.2.2.1]; rfl) (by decide) (fun z => absurd rfl z)
  rw [← ec2] at T2
  have xlt := cx_lt (6 :: K) X' h2
  refine ⟨f0, g2, fun q => X' q ∨ q = clen s, ⟨?_, ?_, by rw [zr 7 (by decide) (by decide), ee]; exact h3, by rw [z4]; omega, by rw [zr 9 (by decide) (by decide), q7, nz_c (by decide)]; exact ho, ?_⟩, by omega⟩
  · rw [ecz, z24]
    exact typ_mono (fun _ _ => rfl) agr_rf (cpu_x kz mz) (fun _ z => z) T2
  · unfold CX at h2 ⊢
    rw [if_neg (by decide)] at h2 ⊢
    obtain ⟨Y, E, G, D, a1, a2, ⟨a3, a4, a5⟩, b1, b2, b3, b4, b5, b6, b7, b8, b9, b10⟩ := h2
    have eG : G = [] := b6 (Or.inr (Or.inr (Or.inr (Or.inl rfl))))
    have eD : D = [] := b10 (by decide)
    subst eG eD
    have ws : ∀ q, q < clen s → (z 24) q = (s 24) q := fun q hq => by rw [z24]; exact em.2.2.1 q hq
    rw [ecz]
    refine ⟨Y, E, [], [clen s], cx_mono K Y (fun i hi => ⟨by rw [zr 49 (by decide) (by decide), q1], by rw [zr 50 (by decide) (by decide), q2], by rw [zr 51 (by decide) (by decide), q3], by rw [zr 52 (by decide) (by decide), q4], ?_, ?_⟩) ws ag2 (by omega) a1, fun q => ?_, ⟨a3, fun q hq => (by cases hq), fun q hq => ?_⟩, ?_, ?_, ?_, fun p hp => wj_mono ws ag2 (by omega) (b4 p hp), fun p hp => (by cases hp), fun _ => rfl, fun _ => ?_, fun _ => ⟨clen t, ?_, Nat.le_refl _, ?_⟩, fun _ => ⟨clen s, rfl, ?_, ?_, ?_, by omega, ?_⟩, fun c2 => absurd rfl c2⟩
    · rw [z53]
      show (if i = nzr K then v else (t 53) i) = _
      rw [if_neg (by omega), q5]
    · rw [z54]
      show (if i = nzr K then (t 4 1) else (t 54) i) = _
      rw [if_neg (by omega), q6]
    · show (X' q ∨ q = clen s) ↔ _
      rw [a2 q]
      constructor
      · rintro ((y | y | y | y) | y)
        · exact Or.inl y
        · exact Or.inr (Or.inl y)
        · cases y
        · cases y
        · exact Or.inr (Or.inr (Or.inr (List.mem_singleton.mpr y)))
      · rintro (y | y | y | y)
        · exact Or.inl (Or.inl y)
        · exact Or.inl (Or.inr (Or.inl y))
        · cases y
        · exact Or.inr (List.mem_singleton.mp y)
    · rw [List.mem_singleton] at hq
      refine ⟨fun hy => ?_, fun hy => ?_, fun hy => (by cases hy)⟩
      · have := xlt q ((a2 q).mpr (Or.inl hy))
        omega
      · have := xlt q ((a2 q).mpr (Or.inr (Or.inl hy)))
        omega
    · rw [zr 51 (by decide) (by decide), q3]
      exact chw_mono E _ (fun p hp => ws _ (by have := wj_lt (b4 p hp); omega)) b1
    · intro _
      rw [zr 52 (by decide) (by decide), q4]
      exact b2 (by decide)
    · rw [zr 49 (by decide) (by decide), q1]
      exact b3
    · obtain ⟨t0, d1, d2, d3⟩ := b7 (by decide)
      exact ⟨t0, by rw [zr 50 (by decide) (by decide), q2]; exact d1, by omega, by rw [ag2 t0 d2]; exact d3⟩
    · have ez : (z 54) (nzr K) = (t 4 1) := by rw [z54]; exact if_pos rfl
      rw [ez]
      omega
    · rw [T2.2.1, lv7]
    · have ez : (z 53) (nzr K) = v := by rw [z53]; exact if_pos rfl
      rw [ez, ev]
      omega
    · rw [z24, em.2.2.2.1]
      rfl
    · rw [z24, em.2.2.2.2.1]
      decide
    · rw [ag2 _ (Nat.le_refl _), h1.2.1, lv6]
  · rw [ecz, ec2]
    exact bnd_ext h6 ag2 (fun j a1 a2 => by
      have : j = clen s + 1 := by omega
      rw [this]
      exact gn) (by rw [← ec2]; exact T2.2.1) (by omega)
theorem ss_ftest {Q : St → Prop} (h : SE σ g b (6 :: K) X 0 e0 [iV]) (hb : b ≤ e0) (hn : nzr K < 26) (cap : (σ 4 1).toInt ≤ 262150) (k : ∀ s, SRs σ s b (6 :: K) 0 (2 * plc σ [iV] + 2) → Q s) : wk_X7_condition x σ (fun u27 s27 => wk_X7_exitUnless u27 s27 (fun s30 => Q s30)) := by
  have hh0 := h.1.2.2.1
  have c0 := clen_eq hh0
  have ho := h.2.2.1
  have p1 : plc σ [iV] = pk σ 65 + 0 := plc_V
  have pk1 := pkq_le (σ := σ) (q := 65)
  refine sp_cond h (by omega) (fun s k1 m1 w1 l0 hcc hst hv => ?_)
  obtain ⟨hc, hce⟩ := hcc
  have c1 := clen_eq l0
  have os : (s 9 5).toInt = nzr K + 1 := by rw [(kw_e k1).2.2.2.2.2.2, ho, nz_c (by decide)]; rfl
  refine sp_exit (σ := s) (c := 6) (K := K) (X := X) (e0 := e0) (b := b) os hn l0 (by clear hst hv; omega) (Or.inr (Or.inr rfl)) hb hst (Nat.le_trans hb hce) (fun f => ?_) (fun z r => ?_)
  · obtain ⟨f1, g2, -, vs⟩ := hv f
    exact ⟨g2, vs⟩
  · exact k z (sk_srtr (z := s) (kxs_e k1) m1 (fun j hj => w1 j (by clear hst hv; omega)) (fun f => (hv f).1) hc hh0 l0 r)
end SFO
