/-! steps of an expression: between the two of ? :, and behind them -/
section XCH
variable {σ s s7 z t : St} {g g' g1 : Gh} {CP CP' : Int → Nat → Prop} {X0 X Xs : Nat → Prop} {b e0 H0 L e H H' n q s00 Hs00 H2 H3 m Bb : Nat} {A B S : List It} {it : It} {x y : Int32}
theorem plc_M : plc σ (iM :: iC :: S) = plc σ S := by
  show (if (iM.1 = 0 ∨ iM.1 = 1) ∧ _ then 1 else 0) + ((if (iC.1 = 0 ∨ iC.1 = 1) ∧ _ then 1 else 0) + plc σ S) = _
  rw [if_neg (fun h => absurd h.1 (by decide)), if_neg (fun h => absurd h.1 (by decide))]
  omega
theorem plc_Q : plc σ (iQ :: S) = plc σ S := by
  show (if (iQ.1 = 0 ∨ iQ.1 = 1) ∧ _ then 1 else 0) + plc σ S = _
  rw [if_neg (fun h => absurd h.1 (by decide))]
  omega
theorem xs_colon {Q : St → Prop} (h : XC σ g X0 b e0 H0 L (iV :: iQ :: S)) (cap : (σ 4 1).toInt ≤ 262150) (hS : S.length + 1 < 500) (k : ∀ s, XRs σ s g X0 b e0 H0 L (iV :: iQ :: S) (iM :: iC :: S) 2 → Q s) : wk_X2_colon σ Q := by
  have he0 := xc_e0 h
  have c0 := clen_eq h.2.2.1
  have hcnt := h.1
  have hop := isOp_at (n := S.length) (by omega)
  unfold wk_X2_colon
  refine sp_otop (n := (iQ :: S).length) (by rw [h.1]; rfl) hS (xc_loaded (S := iQ :: S) h hS (by omega) (fun s5 g1 s9 Hs9 X9 ld ag va he hc h3 => ?_))
  obtain ⟨nc, r1, r2, r3, r4, ⟨v1, -, -, ⟨v4, v5⟩, v6⟩, v7⟩ := va
  obtain ⟨nc2, s00, Hs00, Xs, i1', i2', i3', i4', ⟨b1, ⟨b2, b3⟩, b4⟩⟩ := rlx_Qi r1
  subst b1
  have e1 := clen_eq h3
  have hs00 := (rlx_typ S _ _ _ i1').2
  have pk1 := pkq_le (σ := σ) (q := 65 + (iQ :: S).length)
  have okl := b2
  unfold HOK at okl
  have okr : 1 ≤ (s5 (65 + (S.length + 1)) 2).toInt ∧ (s5 (65 + (S.length + 1)) 2).toInt ≤ 60 := v4
  have br : BND g1 s9 (clen s5) (Hs9 + 7 * (s5 (65 + (S.length + 1)) 2).toInt.toNat) := v5
  have bl : BND g1 s00 s9 (Hs9 + 7 * (s5 (65 + S.length) 2).toInt.toNat) := b3
  have ldl := ld.2.2.2.2.2.1
  have ldw := ld.2.2.2.2.1
  have cnt5 : (s5 7 7).toInt = ((S.length + 1 + 1 : Nat) : Int) := by
    rw [ld.2.1 7 7 (by omega) (by decide) (by decide), hcnt]
    rfl
  have e2 : ((s5 7 7) - (2 : Int32)).toInt = (S.length : Int) := by rw [sbc i2 (by omega) (by omega)]; omega
  have en2 : ((s5 7 7) - (2 : Int32)).toNatClampNeg = S.length := by rw [nt', e2]; rfl
  refine ⟨fun y => y = 65 + S.length, ?_, False, fun f => f.elim, fun c => by omega, fun _ => ⟨fun c => by omega, fun _ => ⟨⟨by omega, by omega⟩, by rw [en2]⟩⟩⟩
  rintro y0 - rfl
  refine sk_emit (n := 26) rfl (by decide) h3 (by omega) (fun v57 s57 ev em => ?_)
  obtain ⟨ek, emk, elw, ex, ef, ee⟩ := em_k em
  have l2 : ln 26 = 2 := rfl
  have e57 := em_clen em (n := 26) rfl h3
  have ell := em_len em (m := 26) rfl
  have lt9 : s9 < clen s5 := by
    by_cases c : s9 = clen s5
    · have t1 := i4'.2.1
      have t2 := r4.2.1
      rw [c, t2] at t1
      have := congrArg Prod.fst (Option.some.inj t1)
      have : Hs9 + 1 = Hs9 := this
      omega
    · omega
  obtain ⟨g2, T2, ag2, gn⟩ := typ_hole (w' := (s57 24)) (n := 26) (H' := Hs9) (L' := L) (typ_mono (fun q _ => rfl) agr_rf (cpu_mono ek emk) (fun _ z => z) r4) em.2.2.1 (by rw [em.2.2.2.1]; rfl) (by decide) (fun c => absurd rfl c)
  have w57 : (s57 24) (clen s5) = 26 := em.2.2.2.1
  have w571 : (s57 24) (clen s5 + 1) = -1 := em.2.2.2.2.1
  have q57 : ∀ c j, c ≠ 4 → c ≠ 24 → s57 c j = s5 c j := em_cells em
  have m1e : ((-1 : Int32)).toInt < 0 := by decide
  have bd : BND g2 s00 (clen s5 + 2) (Hs9 + 7 * max (s5 (65 + S.length) 2).toInt.toNat (s5 (65 + (S.length + 1)) 2).toInt.toNat) := bnd_ext (bnd_join (bnd_le bl (Nat.le_refl _) (Nat.le_refl _) (by omega)) (bnd_le br (Nat.le_refl _) (Nat.le_refl _) (by omega)) (Nat.le_refl _)) ag2 (fun j a1 a2 => by
    have : j = clen s5 + 1 := by omega
    rw [this]
    exact gn) T2.2.1 (by omega)
  -- what is left, when the first jump is aimed
  have fin : ∀ s76 : St, (∀ c, c ≠ 24 → s76 c = s57 c) → (∀ i, (i < s00 ∨ i = clen s5 ∨ i = clen s5 + 1) → (s76 24) i = (s57 24) i) → TYp (s76 24) g2 (CPu s57) (XU Xs (clen s5)) b (clen s5 + 2) Hs9 L → Q (upC s76 (65 + S.length) 10 v57) := by
    intro s76 c76 w76 T
    generalize hz : upC s76 (65 + S.length) 10 v57 = z
    have zc : ∀ c j, c ≠ 65 + S.length → c ≠ 24 → z c j = s57 c j := fun c j hc h24 => by rw [← hz, rdC_ne hc, c76 c h24]
    have zq : ∀ j, j ≠ 10 → z (65 + S.length) j = s5 (65 + S.length) j := fun j hj => by rw [← hz, rdA_ne hj, c76 _ (by omega)]; exact q57 _ j (by omega) (by omega)
    have z10 : z (65 + S.length) 10 = v57 := by rw [← hz, rdA_eq rfl]
    have z24 : (z 24) = (s76 24) := by rw [← hz, rdC_ne (by omega)]
    have z4 : (z 4 1) = (s57 4 1) := zc 4 1 (by omega) (by decide)
    have kz7 : KXE s57 z := by
      rw [← hz]
      refine ko_op ?_ hop
      intro c j hc h1 h2
      by_cases c24 : c = 24
      · subst c24
        exact absurd h2 (by decide)
      · rw [c76 c c24]
    have mz7 : MKs s57 z := mks_eq (funext (fun j => zc 25 j (by omega) (by decide))) (funext (fun j => zc 39 j (by omega) (by decide)))
    have kz : KXE s5 z := ko_tr ek kz7
    have mz : MKs s5 z := mks_tr emk mz7
    have cm := cpu_mono kz mz
    have low : LOW S.length s5 z := fun j k hj => (zc _ k (by omega) (by omega)).trans (q57 _ k (by omega) (by omega))
    have ecz : clen z = clen s5 + 2 := by
      have : clen z = clen s57 := by unfold clen; rw [z4]
      omega
    have fz : (z 6 3) = (σ 6 3) := (zc 6 3 (by omega) (by decide)).trans (ef.trans (ld.2.1 6 3 (by omega) (by decide) (by decide)))
    have wz : ∀ j, j < s00 → (z 24) j = (s5 24) j := fun j hj => by rw [z24, w76 j (Or.inl hj)]; exact em.2.2.1 j (by omega)
    have zr : ∀ j, z (65 + (S.length + 1)) j = s5 (65 + (S.length + 1)) j := fun j => (zc _ j (by omega) (by omega)).trans (q57 _ j (by omega) (by omega))
    refine k z ⟨ko_tr (lds_k ld) kz, mks_tr (lds_m ld ⟨by show 65 + (S.length + 1) ≠ 25; omega, by show 65 + (S.length + 1) ≠ 39; omega⟩) mz, fun j hj => by rw [wz j (by omega)]; exact ldw j (by omega), by rw [z4]; omega, fun hf => by rw [fz] at hf; exact hf, by rw [z4]; omega, fun _ => ⟨g2, agr_tr (agr_le ag he0) (agr_le ag2 (by omega)) (Nat.le_refl _), ⟨?_, nc_of (by decide), by rw [z4]; omega, Hs9, XU Xs (clen s5), ?_⟩, ?_⟩⟩
    · rw [zc 7 7 (by omega) (by decide), q57 7 7 (by decide) (by decide), cnt5]
      rfl
    · rw [ecz]
      have ht : HT z (65 + S.length) = (s5 (65 + S.length) 2).toInt.toNat := by unfold HT; rw [zq 2 (by decide)]
      have ht1 : HT z (65 + S.length + 1) = (s5 (65 + (S.length + 1)) 2).toInt.toNat := by unfold HT; exact congrArg (fun v : Int32 => v.toInt.toNat) (zr 2)
      refine rlx_C nc2 (rlx_mono cm (funext (fun j => kz 27 j (op_lt (by decide)) rfl rfl)) S _ _ _ wz (agr_le ag2 (by omega)) low (Or.inl nc2) i1') (by omega) (by rw [zq 9 (by decide)]; exact i3') (by rw [z24]; exact typ_mono (fun _ _ => rfl) agr_rf (cpu_mono kz7 mz7) (fun _ h => h) T) ⟨rfl, by unfold HOK; rw [zq 2 (by decide)]; exact b2, ?_, by rw [ht, ht1]; exact bd, clen s5, ⟨by rw [z10, ev]; exact e1.symm, by omega, rfl, by rw [z24, w76 _ (Or.inr (Or.inl rfl)), w57]; rfl, by rw [ag2 _ (Nat.le_refl _)]; exact r4.2.1, by rw [z24, w76 _ (Or.inr (Or.inr rfl)), w571]; exact m1e⟩, rfl⟩ (by unfold KDq; rw [zr]; exact v7)
      have : z (65 + S.length + 1) 2 = s5 (65 + (S.length + 1)) 2 := zr 2
      unfold HOK
      rw [this]
      exact okr
    · have p2 : plc z S = plc σ S := (plc_low S low).trans (plc_low S (lds_low ld (by show 65 + S.length ≤ 65 + (S.length + 1); omega)))
      have p3 : plc σ (iV :: iQ :: S) = pk σ (65 + (iQ :: S).length) + plc σ (iQ :: S) := plc_V
      have p4 := plc_Q (σ := σ) (S := S)
      have p5 := plc_M (σ := z) (S := S)
      omega
  have w10 : s57 (65 + S.length) 10 = s5 (65 + S.length) 10 := q57 _ 10 (by omega) (by omega)
  rcases b4 with ⟨j1, j2⟩ | ⟨j, n, h', j1, ⟨j2, j3, j4, j5, j6, j7⟩, j8⟩
  · subst j2
    refine sp_aim0 (by rw [w10]; exact j1) ?_
    rintro _ rfl
    exact fin s57 (fun _ _ => rfl) (fun _ _ => rfl) T2
  · subst j8
    refine sp_aim1 (j := j) (by rw [w10]; exact j2) (by omega) (by rw [em.2.2.1 _ (by omega)]; exact j7) (by omega) ?_
    rintro _ rfl
    refine fin _ (fun c hc => rdF_ne hc) (fun i hi => ?_) ?_
    · rw [rdF_eq]
      show (if i = j + 1 then _ else _) = _
      rw [if_neg (by omega)]
    · rw [rdF_eq]
      refine typ_aim (w := (s57 24)) (X := XU Xs (clen s5)) (p := j) (t := clen s5 + 2) (n := n) (h0 := h') (k0 := L) (ht := Hs9) (v := s57 4 1) (typ_mono (fun q _ => rfl) agr_rf (fun _ _ h => h) (fun q hq => ?_) T2) (by rw [ag2 j (by omega)]; exact j6) (by omega) (by rw [em.2.2.1 j (by omega)]; exact j5) (by omega) (fun i hi => if_neg hi) (if_pos rfl) (by have := clen_eq (σ := s57) (by omega); omega) (Nat.le_refl _) ⟨L, T2.2.1, Or.inr ⟨rfl, by omega⟩⟩ ⟨fun c => by omega, fun c => by omega⟩
      rcases hq with (hq | hq) | hq
      · exact Or.inl (Or.inl hq)
      · exact Or.inr hq
      · exact Or.inl (Or.inr hq)
end XCH
