/-! steps of an expression: arguments, calls -/
section XCA
variable {σ s t : St} {g g' : Gh} {CP CP' : Int → Nat → Prop} {X0 X Xs : Nat → Prop} {b e0 H0 L e H H' n q s0 Hs : Nat} {A B S : List It} {it : It} {x y : Int32}
theorem max_i {a b : Int32} : (if a < b then b else a).toInt = max a.toInt b.toInt := by
  by_cases c : a < b
  · rw [if_pos c]
    have := Int32.lt_iff_toInt_lt.mp c
    omega
  · rw [if_neg c]
    have : ¬ a.toInt < b.toInt := fun h => c (Int32.lt_iff_toInt_lt.mpr h)
    omega
theorem bnd_join {s9 s1 B e' : Nat} (h : BND g s9 e B) (h2 : BND g s1 e' B) (hs : s1 ≤ e) : BND g s9 e' B := fun p hh k p1 p2 p3 => by
  by_cases c : p ≤ e
  · exact h p hh k p1 c p3
  · exact h2 p hh k (by omega) p2 p3
theorem xs_argument {Q : St → Prop} (h : XC σ g X0 b e0 H0 L (iV :: iF :: S)) (cap : (σ 4 1).toInt ≤ 262150) (hS : S.length + 1 < 500) (k : ∀ s, XRs σ s g X0 b e0 H0 L (iV :: iF :: S) (iF :: S) 0 → Q s) : wk_X2_argument σ Q := by
  unfold wk_X2_argument
  refine xc_pop (S := iF :: S) h hS (by omega) (fun s1 g' s0 Hs X k1 m1 l1 f1 hi w1 ag va cnt he hc hc2 h3 fu => ?_)
  obtain ⟨nc, r1, r2, r3, r4, ⟨v1, v2, v3, ⟨v4, v5⟩, v6⟩, v7⟩ := va
  obtain ⟨nc2, s00, Hs0, Xs, i1, i2, i3, i4, i5, i6, ar, i7, i8, i9, j1, j2, pr, j3, j4, j5, j6⟩ := rlx_Fi r1
  subst i5
  refine sp_otop (n := S.length) (by rw [cnt]; rfl) (by omega) ?_
  unfold wk_X8_parameters
  have e1 := clen_eq h3
  have lt : s0 < clen s1 := by
    by_cases c : s0 = clen s1
    · have t1 := i4.2.1
      have t2 := r4.2.1
      rw [c, t2] at t1
      have := (Option.some.inj t1)
      have := congrArg Prod.fst this
      have : Hs + 1 = Hs := this
      omega
    · omega
  have hu1 : ∀ j, j ≠ 0 → s1 (65 + (S.length + 1)) j = σ (65 + (S.length + 1)) j := f1
  have c0 := clen_eq (σ := σ) h.2.2.1
  have pk1 : pk σ (65 + (iF :: S).length) ≤ 1 := by unfold pk; split <;> omega
  have he0 : e0 ≤ clen σ := by
    obtain ⟨-, -, -, H9, X9, h9⟩ := h
    exact (rlx_typ _ _ _ _ h9).2
  -- what is left: the operand of the function told anew
  have fin : ∀ s58 : St, (s58 = s1 ∧ ar < pr) ∨ s58 = upC s1 (65 + S.length) 12 (1 : Int32) → ∀ s4n : St, s4n = upC s58 (65 + S.length) 11 ((s58 (65 + S.length) 11) + (1 : Int32)) → ∀ s6n : St, s6n = upC s4n (65 + S.length) 2 (if (s4n (65 + S.length) 2) < (s4n (65 + (iF :: S).length) 2) then (s4n (65 + (iF :: S).length) 2) else (s4n (65 + S.length) 2)) → Q s6n := by
    intro s58 h58 s4n e4 z ez
    have r58 : RO (65 + S.length) s1 s58 := by
      rcases h58 with ⟨e, -⟩ | e
      · rw [e]; exact ro_rf
      · rw [e]; exact ro_up ro_rf
    have rz : RO (65 + S.length) s1 z := by rw [ez, e4]; exact ro_up (ro_up r58)
    have q58 : ∀ j, j ≠ 12 → s58 (65 + S.length) j = s1 (65 + S.length) j := fun j hj => by
      rcases h58 with ⟨e, -⟩ | e
      · rw [e]
      · rw [e, rdA_ne hj]
    have hop := isOp_at (n := S.length) (by omega)
    have zq : ∀ j, j ≠ 2 → j ≠ 11 → z (65 + S.length) j = s58 (65 + S.length) j := fun j j2 j11 => by rw [ez, rdA_ne j2, e4, rdA_ne j11]
    have z11 : (z (65 + S.length) 11).toInt = ((ar + 1 : Nat) : Int) := by
      rw [ez, rdA_ne (by decide), e4, rdA_eq rfl, q58 11 (by decide), ad1 (by omega), i7]
      omega
    have t2 : s4n (65 + S.length) 2 = s1 (65 + S.length) 2 := by rw [e4, rdA_ne (by decide)]; exact q58 2 (by decide)
    have t3 : s4n (65 + (iF :: S).length) 2 = s1 (65 + (S.length + 1)) 2 := by
      show s4n (65 + (S.length + 1)) 2 = _
      rw [e4, rdC_ne (by omega)]
      exact r58 _ _ (by omega)
    have z2 : (z (65 + S.length) 2).toInt = max (s1 (65 + S.length) 2).toInt (s1 (65 + (S.length + 1)) 2).toInt := by
      rw [ez, rdA_eq rfl, max_i, t2, t3]
    have v4' : 1 ≤ (s1 (65 + (S.length + 1)) 2).toInt ∧ (s1 (65 + (S.length + 1)) 2).toInt ≤ 60 := v4
    have v5' : BND g' s0 (clen s1) (Hs + 7 * (s1 (65 + (S.length + 1)) 2).toInt.toNat) := v5
    have kz : KXE σ z := ko_tr k1 (ro_ko rz hop)
    have mz1 : MKs s1 z := ro_mks rz (by omega) (by omega)
    have mz : MKs σ z := mks_tr m1 mz1
    have wz : (z 24) = (s1 24) := funext (fun j => rz 24 j (by omega))
    have clz : (z 4 1) = (s1 4 1) := rz 4 1 (by omega)
    have ecl : clen z = clen s1 := by unfold clen; rw [clz]
    have fz : (z 6 3) = (σ 6 3) := (rz 6 3 (by omega)).trans fu
    have lz : LOW S.length s1 z := ro_low rz (Nat.le_refl _)
    have xz : (z 27) = (s1 27) := funext (fun j => rz 27 j (by omega))
    have kz1 : KXE s1 z := ro_ko rz hop
    have cm := cpu_mono kz1 mz1
    refine k z ⟨kz, mz, fun j hj => by rw [wz]; exact w1 j (by omega), by rw [clz]; omega, fun hf => by rw [fz] at hf; exact hf, by rw [clz]; omega, fun hf => ⟨g', agr_le ag (by omega), ⟨?_, nc_of (by decide), by rw [clz]; exact h3, Hs + 1, X, ?_⟩, ?_⟩⟩
    · rw [rz 7 7 (by omega), cnt]
    · rw [ecl]
      have hR : RLx z g' (CPu z) X0 b e0 H0 L S s00 Hs0 X := rlx_mono cm xz S _ _ _ (fun j _ => by rw [wz]) agr_rf lz (Or.inl nc2) i1
      have q12 : (z (65 + S.length) 12).toInt = 0 → (s1 (65 + S.length) 12).toInt = 0 ∧ ar < pr := fun hz => by
        rcases h58 with ⟨e, e2⟩ | e
        · rw [zq 12 (by decide) (by decide), e] at hz
          exact ⟨hz, e2⟩
        · rw [zq 12 (by decide) (by decide), e, rdA_eq rfl] at hz
          exact absurd hz (by decide)
      have nf := nt (x := z (65 + S.length) 2)
      refine rlx_F nc2 hR (by omega) (by rw [zq 9 (by decide) (by decide), q58 9 (by decide)]; exact i3) (by rw [wz]; exact typ_mono (fun _ _ => rfl) agr_rf cm (fun _ h => h) r4) ⟨rfl, by unfold KDq; rw [zq 0 (by decide) (by decide), q58 0 (by decide)]; exact i6, ar + 1, z11, by omega, by omega, by omega, fun _ => by omega, pr, j3, by rw [zq 4 (by decide) (by decide), q58 4 (by decide), xz]; exact j4, by rw [zq 4 (by decide) (by decide), q58 4 (by decide)]; exact cm _ _ j5, fun hz => ?_⟩
      obtain ⟨a1, a2⟩ := q12 hz
      obtain ⟨a3, a4⟩ := j6 a1
      have ht : HT z (65 + S.length) = (max (s1 (65 + S.length) 2).toInt (s1 (65 + (S.length + 1)) 2).toInt).toNat := by unfold HT; rw [z2]
      have ht1 : HT s1 (65 + S.length) = (s1 (65 + S.length) 2).toInt.toNat := rfl
      have b1 : Hs0 + 7 * HT s1 (65 + S.length) + 7 ≤ Hs0 + 7 * HT z (65 + S.length) + 7 := by rw [ht, ht1]; omega
      have b2 : Hs + 7 * (s1 (65 + (S.length + 1)) 2).toInt.toNat ≤ Hs0 + 7 * HT z (65 + S.length) + 7 := by rw [ht]; omega
      exact ⟨by omega, bnd_join (bnd_le a4 (Nat.le_refl _) (Nat.le_refl _) b1) (bnd_le v5' (Nat.le_refl _) (Nat.le_refl _) b2) (Nat.le_refl _)⟩
    · have p1 : plc z (iF :: S) = plc z S := plc_0 (Or.inr (by unfold KDq; rw [zq 0 (by decide) (by decide), q58 0 (by decide)]; exact i6))
      have p2 : plc z S = plc σ S := (plc_low S lz).trans (plc_low S (low_le l1 (Nat.le_succ _)))
      have p3 : plc σ (iV :: iF :: S) = pk σ (65 + (iF :: S).length) + plc σ (iF :: S) := plc_V
      have p4 : plc σ S ≤ plc σ (iF :: S) := plc_ge
      omega
  refine ⟨fun s58 => (s58 = s1 ∧ ar < pr) ∨ s58 = upC s1 (65 + S.length) 12 (1 : Int32), fin, True, fun _ s9 e9 => Or.inr e9, fun _ => trivial, fun c => ?_⟩
  unfold wk_X8_parameter
  have arp : ar < pr := by
    have j4' : (ushr (atv 10100 (s1 27) (s1 (65 + S.length) 4)) (24 : Int32)).toInt.toNat = pr := j4
    omega
  exact sk_fits ⟨fun e => absurd rfl e, fun _ => trivial⟩ ⟨fun _ => Or.inl ⟨rfl, arp⟩, fun _ => trivial⟩
theorem xs_call {Q : St → Prop} (h : XC σ g X0 b e0 H0 L (iF :: S)) (cap : (σ 4 1).toInt ≤ 262150) (hS : S.length < 500) (k : ∀ s, XRs σ s g X0 b e0 H0 L (iF :: S) (iV :: S) 3 → Q s) : wk_X2_call x σ Q := by
  obtain ⟨h1, h2, h3, H, X, h4⟩ := h
  obtain ⟨nc2, s00, Hs0, Xs, i1, i2, i3, i4, i5, i6, ar, i7, i8, i9, j1, j2, pr, j3, j4, j5, j6⟩ := rlx_Fi h4
  subst i5
  have hT := rlx_typ S _ _ _ i1
  have en := clen_eq h3
  have hop := isOp_at hS
  unfold wk_X2_call
  refine sp_otop (n := S.length) (by rw [h1]; rfl) hS ?_
  refine ⟨fun s => (s = σ ∧ (σ (65 + S.length) 12).toInt = 0 ∧ ar = pr) ∨ (Kp [(6, 3), (6, 4)] [] σ s ∧ (s 6 3).toInt ≠ 0), ?_, True, fun _ => sp_refuse (fun s hs hf => Or.inr ⟨hs, hf⟩), fun _ => trivial, fun c => ?_⟩
  · intro s41 h41
    have ks : Kp [(6, 3), (6, 4)] [] σ s41 := by
      rcases h41 with ⟨e, -⟩ | ⟨e, -⟩
      · rw [e]; exact kp_rf
      · exact e
    have cl41 : (s41 4 1) = (σ 4 1) := ks 4 1 rfl rfl
    have sq : ∀ c j, c ≠ 6 → s41 c j = σ c j := fun c j hc => ks c j (by
      simp only [List.contains_cons, List.contains_nil, Bool.or_false, Bool.or_eq_false_iff]
      refine ⟨?_, ?_⟩
      · cases z : ((c, j) == ((6 : Nat), (3 : Nat))) with
        | false => rfl
        | true => exact absurd (congrArg Prod.fst (eq_of_beq z)) hc
      · cases z : ((c, j) == ((6 : Nat), (4 : Nat))) with
        | false => rfl
        | true => exact absurd (congrArg Prod.fst (eq_of_beq z)) hc) rfl
    refine sp_lineOf (fun v => sk_emit (n := 32) rfl (by decide) (by rw [cl41]; exact h3) (by rw [cl41]; omega) (fun v2 s57 _ em => ?_))
    refine sp_become (fun s67 r67 b0 b1 b6 bq => ?_)
    have c41 : clen s41 = clen σ := by unfold clen; rw [cl41]
    have e57 : clen s57 = clen σ + 3 := by
      have := em_clen em (n := 32) rfl (by rw [cl41]; exact h3)
      have l3 : ln 32 = 3 := rfl
      omega
    have s57q : ∀ j, s57 (65 + S.length) j = σ (65 + S.length) j := fun j => (em_cells em _ j (by omega) (by omega)).trans (sq _ j (by omega))
    have q2 : s67 (65 + S.length) 2 = σ (65 + S.length) 2 := (bq 2 (by decide) (by decide) (by decide) (by decide)).trans (s57q 2)
    have e2 : (s67 (65 + S.length) 2 + (1 : Int32)).toInt = (σ (65 + S.length) 2).toInt + 1 := by rw [q2, ad1 (by omega)]
    refine sp_raise (q := 65 + S.length) (by omega) (fun z kz zc zo => ?_)
    -- all that is kept
    have rz6 : ∀ c j, c ≠ 65 + S.length → c ≠ 4 → c ≠ 24 → c ≠ 6 → z c j = σ c j := fun c j hc h4' h24 h6 => by
      rw [zc c j h6, rdC_ne hc, r67 c j hc, em_cells em c j h4' h24]
      exact sq c j h6
    have kall : KXE σ z := ko_tr (ko_tr (ko_tr (ko_sub (ko_kp ks) rfl rfl) (ko_sub (ko_kp em.1) rfl rfl)) (ro_ko r67 hop)) (ko_tr (ko_op ko_rf hop) (ko_sub kz rfl rfl))
    have mall : MKs σ z := mks_eq (funext (fun j => rz6 25 j (by omega) (by decide) (by decide) (by decide))) (funext (fun j => rz6 39 j (by omega) (by decide) (by decide) (by decide)))
    have z24 : (z 24) = (s57 24) := funext (fun j => by rw [zc 24 j (by decide), rdC_ne (by omega), r67 24 j (by omega)])
    have z4 : (z 4 1) = (s57 4 1) := by rw [zc 4 1 (by decide), rdC_ne (by omega), r67 4 1 (by omega)]
    have ecz : clen z = clen σ + 3 := by
      have : clen z = clen s57 := by unfold clen; rw [z4]
      omega
    have lz : (z 4 1).toInt = (σ 4 1).toInt + 3 := by
      rw [z4, em.2.1, cl41]
      rfl
    have ws : ∀ j, j < clen σ → (z 24) j = (σ 24) j := fun j hj => by
      rw [z24, em.2.2.1 j (by omega)]
      exact sq 24 j (by decide)
    have w0 : (z 24) (clen σ) = 32 := by rw [z24, ← c41]; exact em.2.2.2.1
    have w1 : (z 24) (clen σ + 1) = σ (65 + S.length) 4 := by rw [z24, ← c41, em.2.2.2.2.1]; exact sq _ 4 (by omega)
    have z63 : (z 6 3).toInt = 0 → (s41 6 3).toInt = 0 ∧ z = upC s67 (65 + S.length) 2 (s67 (65 + S.length) 2 + (1 : Int32)) ∧ (s67 (65 + S.length) 2 + (1 : Int32)).toInt ≤ 60 := fun hf => by
      rcases zo with ⟨e, e3⟩ | e
      · refine ⟨?_, e, e3⟩
        rw [e, rdC_ne (by omega), r67 6 3 (by omega), em_cells em 6 3 (by decide) (by decide)] at hf
        exact hf
      · exact absurd hf e
    refine k z ⟨kall, mall, fun j hj => ws j (by omega), by rw [lz]; omega, fun hf => ?_, by rw [lz]; omega, fun hf => ?_⟩
    · have h0 := (z63 hf).1
      rcases h41 with ⟨e, -⟩ | ⟨-, e⟩
      · rw [e] at h0; exact h0
      · exact absurd h0 e
    · obtain ⟨h0, ez, h60⟩ := z63 hf
      rcases h41 with ⟨e41, hm, har⟩ | ⟨-, e⟩
      · obtain ⟨a3, a4⟩ := j6 hm
        have cm := cpu_mono kall mall
        have xz : (z 27) = (σ 27) := funext (fun j => rz6 27 j (by omega) (by decide) (by decide) (by decide))
        have low : LOW S.length σ z := fun j k hj => rz6 _ k (by omega) (by omega) (by omega) (by omega)
        have T0 : TYp (z 24) g (CPu z) X b (clen σ) H L := typ_mono ws agr_rf cm (fun _ h => h) i4
        obtain ⟨g', T', ag, gi⟩ := typ_ext (w' := (z 24)) (X' := X) (n := 32) (H' := Hs0 + 1) (L' := L) T0 (fun _ _ => rfl) (fun _ h => h) (by rw [w0]; rfl) (by decide) (fun g' _ ge _ => by
          rw [w1]
          refine ⟨⟨by decide, by decide, by decide⟩, fun c => by exfalso; unfold PLn at c; omega, fun c => absurd c (by decide), fun c => absurd c (by decide), fun c => absurd c (by decide), fun c => absurd c (by decide), fun _ => ⟨pr, cm _ _ j5, by omega, ?_⟩, fun c => absurd c (by decide)⟩
          have eh : H - pr + 1 = Hs0 + 1 := by omega
          rw [eh]
          exact ⟨L, ge, Or.inr ⟨rfl, by omega⟩⟩)
        have l3 : ln 32 = 3 := rfl
        rw [l3] at T' gi
        have zqv : ∀ j, j ≠ 2 → z (65 + S.length) j = s67 (65 + S.length) j := fun j hj => by rw [ez, rdA_ne hj]
        have z2 : (z (65 + S.length) 2).toInt = (σ (65 + S.length) 2).toInt + 1 := by rw [ez, rdA_eq rfl, e2]
        have kd : KDq z (65 + S.length) = 0 := by unfold KDq; rw [zqv 0 (by decide)]; exact b0
        have hR : RLx z g' (CPu z) X0 b e0 H0 L S s00 Hs0 X := rlx_mono cm xz S _ _ _ (fun j hj => ws j (by omega)) (agr_le ag i2) low (Or.inl nc2) i1
        refine ⟨g', agr_le ag (by omega), ⟨?_, nc_of (by decide), by rw [lz]; omega, Hs0 + 1, X, ?_⟩, ?_⟩
        · rw [rz6 7 7 (by omega) (by decide) (by decide) (by decide), h1]
          rfl
        · rw [ecz]
          refine rlx_V nc2 hR (by omega) (by rw [zqv 9 (by decide), bq 9 (by decide) (by decide) (by decide) (by decide), s57q]; exact i3) T' ⟨by omega, fun z => by omega, fun _ => rfl, ⟨⟨by omega, by omega⟩, ?_⟩, fun z6 => ?_⟩
          · have ht : HT z (65 + S.length) = HT σ (65 + S.length) + 1 := by unfold HT; rw [z2]; omega
            rw [ht]
            exact bnd_ext (bnd_le a4 (Nat.le_refl _) (Nat.le_refl _) (by omega)) ag gi T'.2.1 (by omega)
          · rw [zqv 6 (by decide), b6] at z6
            exact absurd z6 (by decide)
        · have p1 : plc z (iV :: S) = plc z S := plc_0 (Or.inl kd)
          have p2 : plc z S = plc σ S := plc_low S low
          have p4 : plc σ S ≤ plc σ (iF :: S) := plc_ge
          omega
      · exact absurd h0 e
  · unfold wk_X8_parameters
    refine ⟨fun c2 => Or.inl ⟨rfl, c, ?_⟩, fun _ => trivial⟩
    have j4' : (ushr (atv 10100 (σ 27) (σ (65 + S.length) 4)) (24 : Int32)).toInt.toNat = pr := j4
    have c2' : (σ (65 + S.length) 11).toInt = (ushr (atv 10100 (σ 27) (σ (65 + S.length) 4)) (24 : Int32)).toInt := c2
    omega
end XCA
