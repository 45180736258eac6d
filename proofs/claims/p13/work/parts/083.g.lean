section
/-! steps of an expression: behind a left side -/
section XLE
variable {σ s t : St} {g g' : Gh} {CP CP' : Int → Nat → Prop} {X0 X Xs : Nat → Prop} {b e0 H0 L e H H' n q s0 Hs : Nat} {A B S : List It} {it : It} {x y : Int32}
theorem pkq_le : pk σ q ≤ 1 := by
  unfold pk
  split <;> omega
theorem xc_e0 (h : XC σ g X0 b e0 H0 L A) : e0 ≤ clen σ := by
  obtain ⟨-, -, -, H9, X9, h9⟩ := h
  exact (rlx_typ _ _ _ _ h9).2
/-- a fetched place -/
theorem sp_fetch {Q : St → Prop} (h0 : 0 ≤ (σ 4 1).toInt) (h1 : (σ 4 1).toInt < 262200) (k0 : ¬ (1 ≤ KDq σ q ∧ KDq σ q ≤ 3) → Q σ) (k1 : ∀ (n : Nat) (op a b c : Int32) s, op.toInt = n → (KDq σ q = 3 ∧ n = 21 ∨ (KDq σ q = 1 ∨ KDq σ q = 2) ∧ (n = 5 ∨ n = 8)) → EMi σ s op a b c → Q s) : wk_X2_fetch q x σ Q := by
  unfold wk_X2_fetch
  refine ⟨fun n3 => sp_isPlace (fun np => ⟨fun _ => k0 np, fun e => absurd rfl e⟩) (fun p => ⟨fun e => absurd e (by decide), fun _ => ?_⟩), fun c3 => ?_⟩
  · have n3' : KDq σ q ≠ 3 := n3
    refine ⟨fun y => y = 5 ∨ y = 8, ?_, fun _ => Or.inl rfl, fun _ => Or.inr rfl⟩
    rintro y hy
    have hy2 : ∃ n : Nat, y.toInt = n ∧ (n = 5 ∨ n = 8) := by
      rcases hy with e | e <;> subst e
      · exact ⟨5, rfl, Or.inl rfl⟩
      · exact ⟨8, rfl, Or.inr rfl⟩
    obtain ⟨n, hn, hn2⟩ := hy2
    exact sk_emit hn (by omega) h0 (by omega) (fun v s _ em => k1 n y _ _ _ s hn (Or.inr ⟨by omega, hn2⟩) em)
  · have c3' : KDq σ q = 3 := c3
    exact sk_emit (n := 21) rfl (by decide) h0 (by omega) (fun v s _ em => k1 21 _ _ _ _ s rfl (Or.inl ⟨c3', rfl⟩) em)
theorem xs_left {Q : St → Prop} (h : XC σ g X0 b e0 H0 L (iV :: S)) (cap : (σ 4 1).toInt ≤ 262150) (hS : S.length < 500) (ht : tkx σ x = 24 ∨ (30 ≤ tkx σ x ∧ tkx σ x ≤ 40) ∨ (41 ≤ tkx σ x ∧ tkx σ x ≤ 58)) (k : ∀ s, XRs σ s g X0 b e0 H0 L (iV :: S) (iL (tkx σ x) :: S) 2 → Q s) : wk_X2_left x σ Q := by
  have h' := h
  obtain ⟨h1, h2, h3, H, X, h4⟩ := h'
  obtain ⟨nc, s0, Hs, r1, r2, r3, r4, v⟩ := rlx_Vi h4
  obtain ⟨v1, v2, v3, ⟨v4, v5⟩, v6⟩ := v
  have hop := isOp_at hS
  have he0 := xc_e0 h
  have en := clen_eq h3
  have hs0 := (rlx_typ S _ _ _ r1).2
  unfold wk_X2_left
  refine sp_kindOf (fun v hv => sp_otop (n := S.length) (by rw [h1]; rfl) hS ?_)
  have etn : (tkx σ x).toNat = v.toInt.toNat := by rw [hv]
  have hsg : ((tkx σ x).toNat : Int) = tkx σ x := by omega
  by_cases c57 : tkx σ x = 57 ∨ tkx σ x = 58
  · -- && and ||
    have tail : ∀ s44 g1 s9 Hs9 X9, LDs σ s44 (65 + S.length) → AGR g g1 (clen σ) → VAL s44 g1 X0 b e0 H0 L S s9 Hs9 X9 → e0 ≤ s9 → clen s44 ≤ clen σ + 2 * pk σ (65 + S.length) → 0 ≤ (s44 4 1).toInt → ∀ (y : Int32) (n : Nat), y.toInt = n → (n = 29 ∨ n = 30) → wk_X0_emit y ((-1) : Int32) (0 : Int32) (0 : Int32) s44 (fun v81 s81 => (∀ s6n : St, s6n = upC s81 (65 + S.length) 10 v81 → Q s6n)) := by
      intro s44 g1 s9 Hs9 X9 ld ag va he hc h30 y n hy hn
      obtain ⟨nc9, q1, q2, q3, q4, ⟨w1, w2, w3, ⟨w4, w5⟩, w6⟩, w7⟩ := va
      have pkl := pkq_le (σ := σ) (q := 65 + S.length)
      have e44 := clen_eq h30
      refine sk_emit hy (by omega) h30 (by omega) (fun v81 s81 ev em => ?_)
      rintro z ez
      have k44 := lds_k ld
      have zq : ∀ j, j ≠ 10 → z (65 + S.length) j = s44 (65 + S.length) j := fun j hj => by rw [ez, rdA_ne hj]; exact em_cells em _ j (by omega) (by omega)
      have zc : ∀ c j, c ≠ 65 + S.length → z c j = s81 c j := fun c j hc => by rw [ez, rdC_ne hc]
      have z24 : (z 24) = (s81 24) := funext (fun j => zc 24 j (by omega))
      have z4 : (z 4 1) = (s81 4 1) := zc 4 1 (by omega)
      have l2 : ln n = 2 := by rcases hn with e | e <;> subst e <;> rfl
      have e81 : clen s81 = clen s44 + 2 := by have := em_clen em hy h30; omega
      have ecz : clen z = clen s44 + 2 := by
        have : clen z = clen s81 := by unfold clen; rw [z4]
        omega
      have lz : (z 4 1).toInt = (s44 4 1).toInt + 2 := by
        rw [z4, em.2.1]
        have : y.toInt.toNat = n := by omega
        rw [this, l2]
        rfl
      have k2 : KXE s44 z := by rw [ez]; exact ko_op (ko_sub (ko_kp em.1) rfl rfl) hop
      have m2 : MKs s44 z := mks_eq (funext (fun j => (zc 25 j (by omega)).trans (em_cells em 25 j (by decide) (by decide)))) (funext (fun j => (zc 39 j (by omega)).trans (em_cells em 39 j (by decide) (by decide))))
      have ws : ∀ j, j < clen s44 → (z 24) j = (s44 24) j := fun j hj => by rw [z24]; exact em.2.2.1 j hj
      have low : LOW S.length s44 z := fun j k hj => (zc _ k (by omega)).trans (em_cells em _ k (by omega) (by omega))
      have xz : (z 27) = (s44 27) := funext (fun j => k2 27 j (op_lt (by decide)) rfl rfl)
      have cm := cpu_mono k2 m2
      have w0 : (z 24) (clen s44) = y := by rw [z24]; exact em.2.2.2.1
      have wn : (z 24) (clen s44 + 1) = -1 := by rw [z24]; exact em.2.2.2.2.1
      obtain ⟨g2, T2, ag2, gn⟩ := typ_hole (w' := (z 24)) (n := n) (H' := Hs9) (L' := L) (typ_mono (fun q _ => rfl) agr_rf cm (fun _ z => z) q4) ws (by rw [w0]; exact hy) (by omega) (fun _ => ⟨by omega, by omega, rfl⟩)
      have fz : (z 6 3) = (σ 6 3) := (zc 6 3 (by omega)).trans ((em_cells em 6 3 (by decide) (by decide)).trans (ld.2.1 6 3 (by omega) (by decide) (by decide)))
      have ldw := ld.2.2.2.2.1
      have ldl := ld.2.2.2.2.2.1
      have hR : RLx z g2 (CPu z) X0 b e0 H0 L S s9 Hs9 X9 := rlx_mono cm xz S _ _ _ (fun j hj => ws j (by omega)) (agr_le ag2 q2) low (Or.inl nc9) q1
      have kd : KDq z (65 + S.length) = 0 := by unfold KDq; rw [zq 0 (by decide)]; exact w7
      refine k z ⟨ko_tr k44 k2, mks_tr (lds_m ld ⟨by omega, by omega⟩) m2, fun j hj => by rw [ws j (by omega)]; exact ldw j (by omega), by omega, fun hf => by rw [fz] at hf; exact hf, by omega, fun hf => ⟨g2, agr_le (agr_tr ag ag2 (by omega)) he0, ⟨?_, nc_of (by show ¬ (1 : Nat) = 3; decide), by omega, Hs9, XU X9 (clen s44), ?_⟩, ?_⟩⟩
      · rw [zc 7 7 (by omega), em_cells em 7 7 (by decide) (by decide), ld.2.1 7 7 (by omega) (by decide) (by decide), h1]
        rfl
      · rw [ecz]
        have hb : HB z g2 (65 + S.length) s9 Hs9 (clen s44 + 2) := by
          refine ⟨by unfold HOK; rw [zq 2 (by decide)]; exact w4, ?_⟩
          have ht2 : HT z (65 + S.length) = HT s44 (65 + S.length) := by unfold HT; rw [zq 2 (by decide)]
          rw [ht2]
          exact bnd_ext w5 ag2 (fun j a1 a2 => by have : j = clen s44 + 1 := by omega
                                                  rw [this]; exact gn) T2.2.1 (by omega)
        refine rlx_L nc9 hR (by omega) (by rw [zq 9 (by decide)]; exact q3) T2 ⟨hb, by omega, fun z6 => ⟨kd, by rw [zq 6 (by decide)] at z6; have := (w6 z6).2; omega⟩, fun _ => ⟨rfl, kd, clen s44, n, hn, ⟨?_, q2, rfl, by rw [w0]; exact hy, by rw [ag2 _ (Nat.le_refl _)]; exact q4.2.1, by rw [wn]; decide⟩, rfl⟩, fun c => absurd (by omega) c, fun c => by omega, fun c => by omega, fun c => by omega⟩
        rw [ez, rdA_eq rfl, ev]
        exact e44.symm
      · have p1 : plc z (iL (tkx σ x) :: S) = plc z S := plc_0 (Or.inl kd)
        have p2 : plc z S = plc σ S := (plc_low S low).trans (plc_low S (lds_low ld (Nat.le_refl _)))
        have p3 : plc σ (iV :: S) = pk σ (65 + S.length) + plc σ S := plc_V
        omega
    refine ⟨fun s48 => ∃ g1 s9 Hs9 X9, LDs σ s48 (65 + S.length) ∧ AGR g g1 (clen σ) ∧ VAL s48 g1 X0 b e0 H0 L S s9 Hs9 X9 ∧ e0 ≤ s9 ∧ clen s48 ≤ clen σ + 2 * pk σ (65 + S.length) ∧ 0 ≤ (s48 4 1).toInt, ?_, True, fun _ => ⟨fun c => by omega, fun _ => xc_loaded h hS (by omega) (fun s g1 s9 Hs9 X9 a1 a2 a3 a4 a5 a6 => ⟨g1, s9, Hs9, X9, a1, a2, a3, a4, a5, a6⟩)⟩, fun _ => trivial, fun c => ⟨fun _ => trivial, fun c2 => by omega⟩⟩
    rintro s48 ⟨g1, s9, Hs9, X9, a1, a2, a3, a4, a5, a6⟩
    refine ⟨True, fun _ => ⟨fun y => y = 30 ∨ y = 29, ?_, fun _ => Or.inl rfl, fun _ => Or.inr rfl⟩, fun _ => trivial, fun c58 => ⟨fun c => by omega, fun _ => trivial⟩⟩
    rintro y (e | e) <;> subst e
    · exact tail s48 g1 s9 Hs9 X9 a1 a2 a3 a4 a5 a6 30 30 rfl (Or.inr rfl)
    · exact tail s48 g1 s9 Hs9 X9 a1 a2 a3 a4 a5 a6 29 29 rfl (Or.inl rfl)
  · -- the others
    have go : ∀ s, XRs σ s g X0 b e0 H0 L (iV :: S) (iL (tkx σ x) :: S) 2 → (∃ J60 : Prop, (J60 → ((∃ J78 : Int32 → Prop, (∀ (y2_78 : Int32), J78 y2_78 → (wk_X0_emit y2_78 ((-1) : Int32) (0 : Int32) (0 : Int32) s (fun v81 s81 => (∀ s6n : St, s6n = upC s81 (65 + S.length) 10 v81 → Q s6n)))) ∧ (v.toInt ≠ 58 → J78 (30 : Int32)) ∧ (v.toInt = 58 → J78 (29 : Int32))))) ∧ (v.toInt = 58 → J60) ∧ (v.toInt ≠ 58 → (v.toInt ≠ 57 → Q s) ∧ (v.toInt = 57 → J60))) := fun s hs => ⟨False, fun f => f.elim, fun c => by omega, fun _ => ⟨fun _ => k s hs, fun c => by omega⟩⟩
    refine ⟨fun s48 => XRs σ s48 g X0 b e0 H0 L (iV :: S) (iL (tkx σ x) :: S) 2, go, v.toInt ≤ 30 ∨ 40 < v.toInt, fun c => ⟨fun c30 => ?_, fun c30 => ?_⟩, fun c => Or.inl c, fun c => ⟨fun c => Or.inr c, fun c40 => ?_⟩⟩
    · refine ⟨ko_rf, mks_rf, fun _ _ => rfl, by omega, id, by omega, fun hf => ⟨g, agr_rf, ⟨by rw [h1]; rfl, nc_of (by show ¬ (1 : Nat) = 3; decide), h3, H, X, ?_⟩, by rw [plc_L, plc_V]; omega⟩⟩
      exact rlx_L nc r1 r2 r3 r4 ⟨⟨v4, v5⟩, v1, v6, fun c => by omega, fun _ => rfl, fun _ => ⟨v2, v3⟩, fun c => by omega, fun c => by omega⟩
    · refine xc_loaded h hS (by omega) (fun s44 g1 s9 Hs9 X9 ld ag va he hc h30 => ?_)
      obtain ⟨nc9, q1, q2, q3, q4, ⟨w1, w2, w3, ⟨w4, w5⟩, w6⟩, w7⟩ := va
      have e44 := clen_eq h30
      have pkl := pkq_le (σ := σ) (q := 65 + S.length)
      have fz : (s44 6 3) = (σ 6 3) := ld.2.1 6 3 (by omega) (by decide) (by decide)
      have ldw := ld.2.2.2.2.1
      have ldl := ld.2.2.2.2.2.1
      refine ⟨lds_k ld, lds_m ld ⟨by omega, by omega⟩, fun j hj => ldw j (by omega), by omega, fun hf => by rw [fz] at hf; exact hf, by omega, fun hf => ⟨g1, agr_le ag he0, ⟨?_, nc_of (by show ¬ (1 : Nat) = 3; decide), h30, Hs9 + 1, X9, ?_⟩, ?_⟩⟩
      · rw [ld.2.1 7 7 (by omega) (by decide) (by decide), h1]
        rfl
      · exact rlx_L nc9 q1 q2 q3 q4 ⟨⟨w4, w5⟩, by omega, w6, fun c => by omega, fun _ => rfl, fun c => by omega, fun c => by omega, fun _ => ⟨rfl, w7⟩⟩
      · have p1 : plc s44 (iL (tkx σ x) :: S) = plc s44 S := plc_0 (Or.inl w7)
        have p2 : plc s44 S = plc σ S := plc_low S (lds_low ld (Nat.le_refl _))
        have p3 : plc σ (iV :: S) = pk σ (65 + S.length) + plc σ S := plc_V
        omega
    · refine sp_lineOf (fun vl => sp_fetch h3 (by omega) (fun np => ?_) (fun n op a b' c' s hn hn2 em => ?_))
      · refine ⟨ko_rf, mks_rf, fun _ _ => rfl, by omega, id, by omega, fun hf => ⟨g, agr_rf, ⟨by rw [h1]; rfl, nc_of (by show ¬ (1 : Nat) = 3; decide), h3, H, X, ?_⟩, by rw [plc_L, plc_V]; omega⟩⟩
        have kd0 : KDq σ (65 + S.length) = 0 := by omega
        exact rlx_L nc r1 r2 r3 r4 ⟨⟨v4, v5⟩, v1, v6, fun c => by omega, fun _ => rfl, fun c => by omega, fun _ => ⟨fun c => by omega, fun _ => v3 (Or.inl kd0)⟩, fun c => by omega⟩
      · have l2 : ln n = 2 := by
          have : n = 21 ∨ n = 5 ∨ n = 8 := by omega
          rcases this with e | e | e <;> subst e <;> rfl
        have cc := em_cells em
        have ecs : clen s = clen σ + 2 := by have := em_clen em hn h3; omega
        have lz : (s 4 1).toInt = (σ 4 1).toInt + 2 := by
          rw [em.2.1]
          have : op.toInt.toNat = n := by omega
          rw [this, l2]
          rfl
        have k2 : KXE σ s := ko_sub (ko_kp em.1) rfl rfl
        have m2 : MKs σ s := mks_eq (funext (fun j => cc 25 j (by decide) (by decide))) (funext (fun j => cc 39 j (by decide) (by decide)))
        have low : ∀ m, LOW m σ s := fun m j k _ => cc _ k (by omega) (by omega)
        have xz : (s 27) = (σ 27) := funext (fun j => cc 27 j (by decide) (by decide))
        have cm := cpu_mono k2 m2
        have w0 : (s 24) (clen σ) = op := em.2.2.2.1
        have kds : KDq s (65 + S.length) = KDq σ (65 + S.length) := by unfold KDq; rw [cc _ 0 (by omega) (by omega)]
        have hpo : po n ≤ H ∧ ((H + 1 : Nat) : Int) = H + de n := by
          rcases hn2 with ⟨e1, e⟩ | ⟨e1, e⟩
          · subst e
            have := v3 (Or.inr e1)
            have d : de 21 = 1 := rfl
            have p : po 21 = 1 := rfl
            rw [d, p]
            omega
          · have d : de n = 1 := by rcases e with e | e <;> subst e <;> rfl
            have p : po n = 0 := by rcases e with e | e <;> subst e <;> rfl
            rw [d, p]
            omega
        obtain ⟨g2, T2, ag2, gi⟩ := typ_pl (w' := (s 24)) (n := n) (H' := H + 1) (typ_mono (fun q _ => rfl) agr_rf cm (fun _ z => z) r4) em.2.2.1 (by rw [w0]; exact hn) (by omega) (by omega) (by omega) hpo.1 hpo.2
        rw [l2] at T2 gi
        have fz : (s 6 3) = (σ 6 3) := cc 6 3 (by decide) (by decide)
        refine ⟨k2, m2, fun j hj => em.2.2.1 j (by omega), by omega, fun hf => by rw [fz] at hf; exact hf, by omega, fun hf => ⟨g2, agr_le ag2 he0, ⟨?_, nc_of (by show ¬ (1 : Nat) = 3; decide), by omega, H + 1, X, ?_⟩, ?_⟩⟩
        · rw [cc 7 7 (by decide) (by decide), h1]
          rfl
        · rw [ecs]
          have hR : RLx s g2 (CPu s) X0 b e0 H0 L S s0 Hs X := rlx_mono cm xz S _ _ _ (fun j hj => em.2.2.1 j (by omega)) (agr_le ag2 r2) (low _) (Or.inl nc) r1
          have ht2 : HT s (65 + S.length) = HT σ (65 + S.length) := by unfold HT; rw [cc _ 2 (by omega) (by omega)]
          have hb : HB s g2 (65 + S.length) s0 Hs (clen σ + 2) := by
            refine ⟨by unfold HOK; rw [cc _ 2 (by omega) (by omega)]; exact v4, ?_⟩
            rw [ht2]
            refine bnd_ext v5 ag2 gi T2.2.1 ?_
            have : 1 ≤ HT σ (65 + S.length) := by unfold HT; have := v4.1; omega
            rcases hn2 with ⟨e1, e⟩ | ⟨e1, e⟩
            · have := v3 (Or.inr e1)
              omega
            · have := v2 e1
              omega
          refine rlx_L nc hR (by omega) (by rw [cc _ 9 (by omega) (by omega)]; exact r3) T2 ⟨hb, by rw [kds]; exact v1, fun z6 => ?_, fun c => by omega, fun _ => rfl, fun c => by omega, fun _ => ⟨fun c => ?_, fun c => ?_⟩, fun c => by omega⟩
          · rw [cc _ 6 (by omega) (by omega)] at z6
            have := v6 z6
            rcases hn2 with ⟨e1, e⟩ | ⟨e1, e⟩ <;> omega
          · rw [kds] at c
            have := v3 (Or.inr c)
            omega
          · rw [kds] at c
            rcases hn2 with ⟨e1, e⟩ | ⟨e1, e⟩
            · exact absurd e1 c
            · have := v2 e1
              omega
        · have p1 : plc s (iL (tkx σ x) :: S) = plc σ (iL (tkx σ x) :: S) := plc_low _ (low _)
          rw [p1, plc_L, plc_V]
          omega
end XLE
end

section
/-! steps of an expression: operators -/
section XOP
variable {σ s t : St} {g g' : Gh} {CP CP' : Int → Nat → Prop} {X0 X Xs : Nat → Prop} {b e0 H0 L e H H' n q q2 s0 Hs : Nat} {A B S : List It} {it : It} {x y : Int32}
theorem sk_typeOf {Q : Int32 → Prop} (k : ∀ v, Q v) : wk_X2_typeOf x q q2 σ Q := by
  unfold wk_X2_typeOf
  have f1 : wk_X6_fits q (σ q2 1) σ (fun v123 => (v123.toInt ≠ 0 → Q (0 : Int32)) ∧ (v123.toInt = 0 → wk_X6_fits q2 (σ q 1) σ (fun v134 => (v134.toInt = 0 → Q ((-2) : Int32)) ∧ (v134.toInt ≠ 0 → Q (0 : Int32))))) := by
    have f2 : wk_X6_fits q2 (σ q 1) σ (fun v134 => (v134.toInt = 0 → Q ((-2) : Int32)) ∧ (v134.toInt ≠ 0 → Q (0 : Int32))) := sk_fits ⟨fun _ => k _, fun _ => k _⟩ ⟨fun _ => k _, fun _ => k _⟩
    exact sk_fits ⟨fun _ => k _, fun _ => f2⟩ ⟨fun _ => k _, fun _ => f2⟩
  refine ⟨fun _ => k _, fun _ => ⟨fun _ => ⟨fun _ => True, fun y0 _ _ => ⟨True, fun _ => ⟨fun _ => k _, fun _ => ⟨fun _ => k _, fun _ => k _⟩⟩, True, fun _ => ⟨fun _ => k _, fun _ => k _⟩, True, fun _ => f1, fun _ => ⟨fun _ => ⟨fun _ => k _, fun _ => k _⟩, fun _ => k _⟩, ?_⟩, fun _ => trivial, fun _ => trivial⟩, fun _ => k _⟩⟩
  repeat' (first | exact trivial | exact k _ | apply And.intro | intro _)
/-- a jump alone is aimed -/
theorem sp_aim1 {j : Nat} {Q : St → Prop} (hx : x.toInt = j) (hj : j < 262200) (hw : ((σ 24) (j + 1)).toInt < 0) (hl : 0 < (σ 4 1).toInt) (k : Q (upF σ 24 (fun i => if i = j + 1 then y else (σ 24) i))) : wk_X0_aim x y σ Q := by
  have e1 : (x + (1 : Int32)).toInt = ((j + 1 : Nat) : Int) := by rw [ad0 i1 (by omega) (by omega)]; omega
  have es : setv 262208 (σ 24) (x + (1 : Int32)) y = fun i => if i = j + 1 then y else (σ 24) i := setv_at e1 (by omega)
  have ea : atv 262208 (σ 24) (x + (1 : Int32)) = (σ 24) (j + 1) := atv_at e1 (by omega)
  unfold wk_X0_aim
  refine ⟨fun n x3 x4 s => (n = 1 ∧ x3 = x ∧ 0 < x4.toInt ∧ s = σ) ∨ (n = 0 ∧ x3.toInt < 0 ∧ s = upF σ 24 (fun i => if i = j + 1 then y else (σ 24) i)), ⟨1, Or.inl ⟨rfl, rfl, hl, rfl⟩⟩, ?_⟩
  rintro n x3 x4 s (⟨rfl, rfl, h4, rfl⟩ | ⟨rfl, h3, rfl⟩)
  · refine ⟨fun c => by omega, fun _ => ⟨fun c => by omega, fun _ => ⟨0, by omega, Or.inr ⟨rfl, ?_, ?_⟩⟩⟩⟩
    · rw [ea]
      exact hw
    · rw [es]
  · exact ⟨fun _ => k, fun _ => ⟨fun _ => k, fun c => by omega⟩⟩
theorem sp_aim0 {Q : St → Prop} (hx : x.toInt < 0) (k : Q σ) : wk_X0_aim x y σ Q := by
  unfold wk_X0_aim
  refine ⟨fun n x3 _ s => n = 0 ∧ x3 = x ∧ s = σ, ⟨0, rfl, rfl, rfl⟩, ?_⟩
  rintro n x3 x4 s ⟨rfl, rfl, rfl⟩
  exact ⟨fun _ => k, fun _ => ⟨fun _ => k, fun c => by omega⟩⟩
theorem sp_combine {Q : St → Prop} (k : ∀ s, RO q σ s → (∀ j, j ≠ 6 → j ≠ 7 → j ≠ 8 → s q j = σ q j) → ((s q 6).toInt = 1 → (σ q 6).toInt = 1 ∧ x.toInt < 57) → Q s) : wk_X2_combine x q q2 σ Q := by
  have z0 : ∀ s6n : St, s6n = upC σ q 6 (0 : Int32) → Q s6n := by
    rintro _ rfl
    exact k _ (ro_up ro_rf) (fun j h6 _ _ => rdA_ne h6) (fun h => by rw [rdA_eq rfl] at h; exact absurd h (by decide))
  unfold wk_X2_combine
  refine ⟨fun _ => True, fun y0 _ _ => ⟨fun _ => True, fun y1 _ _ => sp_isConstant (fun n1 => ?_) (fun c1 => ?_), ?_⟩, ?_⟩
  · have tail : (∃ J126 : Prop, (J126 → ((x.toInt ≠ 43 → (∀ s6n : St, s6n = upC σ q 6 (0 : Int32) → Q s6n)) ∧ (x.toInt = 43 → wk_X6_isConstant q σ (fun v133 => (v133.toInt = 0 → (∀ s11n : St, s11n = upC σ q 6 (0 : Int32) → Q s11n)) ∧ (v133.toInt ≠ 0 → ((σ q2 6).toInt ≠ 2 → (∀ s15n : St, s15n = upC σ q 6 (0 : Int32) → Q s15n)) ∧ ((σ q2 6).toInt = 2 → (∀ s18n : St, s18n = upC σ q 6 (2 : Int32) → (∀ s20n : St, s20n = upC s18n q 7 (s18n q2 7) → (∀ s22n : St, s22n = upC s20n q 8 ((s20n q 8) + (s20n q2 8)) → Q s22n))))))))) ∧ (y1.toInt = 0 → J126) ∧ (y1.toInt ≠ 0 → ((σ q 6).toInt ≠ 2 → J126) ∧ ((σ q 6).toInt = 2 → wk_X6_isConstant q2 σ (fun v101 => (v101.toInt = 0 → J126) ∧ (v101.toInt ≠ 0 → wk_X5_worked x (σ q 8) (σ q2 8) σ (fun v117 => (∀ s32n : St, s32n = upC σ q 8 v117 → Q s32n))))))) := by
      refine ⟨True, fun _ => ⟨fun _ => z0, fun _ => sp_isConstant (fun _ => ⟨fun _ => z0, fun e => absurd rfl e⟩) (fun c => absurd c n1)⟩, fun _ => trivial, fun _ => ⟨fun _ => trivial, fun c2 => sp_isConstant (fun _ => ⟨fun _ => trivial, fun e => absurd rfl e⟩) (fun _ => ⟨fun _ => trivial, fun _ => sk_worked (fun v => ?_)⟩)⟩⟩
      rintro _ rfl
      exact k _ (ro_up ro_rf) (fun j _ _ h8 => rdA_ne h8) (fun h => by rw [rdA_ne (by decide)] at h; omega)
    exact ⟨True, fun _ => tail, fun _ => trivial, fun e => absurd rfl e⟩
  · have tail : (∃ J126 : Prop, (J126 → ((x.toInt ≠ 43 → (∀ s6n : St, s6n = upC σ q 6 (0 : Int32) → Q s6n)) ∧ (x.toInt = 43 → wk_X6_isConstant q σ (fun v133 => (v133.toInt = 0 → (∀ s11n : St, s11n = upC σ q 6 (0 : Int32) → Q s11n)) ∧ (v133.toInt ≠ 0 → ((σ q2 6).toInt ≠ 2 → (∀ s15n : St, s15n = upC σ q 6 (0 : Int32) → Q s15n)) ∧ ((σ q2 6).toInt = 2 → (∀ s18n : St, s18n = upC σ q 6 (2 : Int32) → (∀ s20n : St, s20n = upC s18n q 7 (s18n q2 7) → (∀ s22n : St, s22n = upC s20n q 8 ((s20n q 8) + (s20n q2 8)) → Q s22n))))))))) ∧ (y1.toInt = 0 → J126) ∧ (y1.toInt ≠ 0 → ((σ q 6).toInt ≠ 2 → J126) ∧ ((σ q 6).toInt = 2 → wk_X6_isConstant q2 σ (fun v101 => (v101.toInt = 0 → J126) ∧ (v101.toInt ≠ 0 → wk_X5_worked x (σ q 8) (σ q2 8) σ (fun v117 => (∀ s32n : St, s32n = upC σ q 8 v117 → Q s32n))))))) := by
      have add : ∀ s18n : St, s18n = upC σ q 6 (2 : Int32) → (∀ s20n : St, s20n = upC s18n q 7 (s18n q2 7) → (∀ s22n : St, s22n = upC s20n q 8 ((s20n q 8) + (s20n q2 8)) → Q s22n)) := by
        rintro _ rfl _ rfl _ rfl
        refine k _ (ro_up (ro_up (ro_up ro_rf))) (fun j h6 h7 h8 => by rw [rdA_ne h8, rdA_ne h7, rdA_ne h6]) (fun h => ?_)
        rw [rdA_ne (by decide), rdA_ne (by decide), rdA_eq rfl] at h
        exact absurd h (by decide)
      exact ⟨True, fun _ => ⟨fun _ => z0, fun _ => sp_isConstant (fun _ => ⟨fun _ => z0, fun e => absurd rfl e⟩) (fun _ => ⟨fun _ => z0, fun _ => ⟨fun _ => z0, fun _ => add⟩⟩)⟩, fun _ => trivial, fun _ => ⟨fun _ => trivial, fun c2 => by omega⟩⟩
    refine ⟨True, fun _ => tail, fun _ => trivial, fun _ => sp_isConstant (fun _ => ⟨fun _ => trivial, fun e => absurd rfl e⟩) (fun _ => ⟨fun _ => trivial, fun _ => ⟨fun _ => trivial, fun c57 => ⟨fun _ => trivial, fun _ => sk_worked (fun v => ?_)⟩⟩⟩)⟩
    rintro _ rfl
    exact k _ (ro_up ro_rf) (fun j _ _ h8 => rdA_ne h8) (fun _ => ⟨c1, c57⟩)
  · exact ⟨True, fun _ => trivial, fun _ => trivial, fun _ => ⟨fun _ => trivial, fun _ => trivial⟩⟩
  · exact ⟨True, fun _ => trivial, True, fun _ => ⟨fun _ => trivial, fun _ => trivial⟩, fun _ => trivial, fun _ => ⟨fun _ => trivial, fun _ => trivial⟩⟩
theorem sp_operate {v : Int32} {sg : Nat} {Q : St → Prop} (hx : x.toInt = sg) (hs : 41 ≤ sg ∧ sg ≤ 56) (h0 : 0 ≤ (σ 4 1).toInt) (h1 : (σ 4 1).toInt < 262200) (k : ∀ (n : Nat) (op a b c : Int32) s, op.toInt = n → 41 ≤ n → n ≤ 60 → EMi σ s op a b c → Q s) : wk_X2_operate x y v σ Q := by
  unfold wk_X2_operate
  refine ⟨fun z => z.toInt ≠ 0 → 53 ≤ x.toInt, ?_, True, fun _ e => absurd rfl e, fun _ => trivial, fun _ => ⟨fun _ => trivial, fun c => ⟨fun _ => trivial, fun _ _ => c⟩⟩⟩
  intro z hz hzx
  refine ⟨fun w => w = x ∨ (w = x + 4 ∧ 53 ≤ x.toInt), ?_, fun _ => Or.inl rfl, fun c => Or.inr ⟨rfl, hzx c⟩⟩
  rintro w (e | ⟨e, e2⟩)
  · subst e
    exact sk_emit hx (by omega) h0 (by omega) (fun _ s _ em => k sg _ _ _ _ s hx hs.1 (by omega) em)
  · subst e
    have e3 : (x + (4 : Int32)).toInt = ((sg + 4 : Nat) : Int) := by rw [ad0 i4 (by omega) (by omega)]; omega
    exact sk_emit e3 (by omega) h0 (by omega) (fun _ s _ em => k (sg + 4) _ _ _ _ s e3 (by omega) (by omega) em)
/-- a constant is one instruction -/
theorem sp_fold {Q : St → Prop} (h0 : 0 ≤ (σ 4 1).toInt) (h1 : (σ 4 1).toInt < 262200) (hst : (σ q 6).toInt = 1 → 0 ≤ (σ q 9).toInt ∧ (σ q 9).toInt ≤ (σ 4 1).toInt) (hq : q ≠ 4) (k0 : Q σ) (k1 : ∀ (s1 s : St) (v : Int32), (σ q 6).toInt = 1 → Kp [(4, 1)] [] σ s1 → (s1 4 1) = (σ q 9) → EMi s1 s 1 v 0 0 → Q s) : wk_X2_fold q σ Q := by
  unfold wk_X2_fold
  refine ⟨fun _ => k0, fun _ => sp_isConstant (fun _ => ⟨fun _ => k0, fun e => absurd rfl e⟩) (fun c => ⟨fun e => absurd e (by decide), fun _ => sk_cut (hst c).2 (fun s1 hs1 e1 => ?_)⟩)⟩
  have := hst c
  exact sk_emit (n := 1) rfl (by decide) (by rw [e1]; omega) (by rw [e1]; omega) (fun _ s _ em => k1 s1 s _ c hs1 e1 em)
end XOP
end

section
/-! steps of an expression: two sides -/
section XBI
variable {σ s t : St} {g g' : Gh} {CP CP' : Int → Nat → Prop} {X0 X Xs : Nat → Prop} {b e0 H0 L e H H' n q s0 Hs : Nat} {A B S : List It} {it : It} {x y : Int32}
theorem kd_ro {v : Int32} : KDq (upC σ q 2 v) q = KDq σ q := by
  unfold KDq
  rw [rdA_ne (by decide)]
/-- the height is told, the operand stands -/
theorem fin_raise {v : Int32} {c : Nat} {Q : St → Prop} (hS : S.length < 500) (k1 : KXE σ s) (m1 : MKs σ s) (w1 : ∀ j, j < e0 → (s 24) j = (σ 24) j) (he : e0 ≤ s0) (hle : s0 ≤ clen s) (h0 : 0 ≤ (s 4 1).toInt) (hl : (s 4 1).toInt ≤ (σ 4 1).toInt + 12) (hf : (s 6 3).toInt = 0 → (σ 6 3).toInt = 0) (ag : AGR g g' e0) (cnt : (s 7 7).toInt = S.length + 1) (nc : NC S) (hR : RLx s g' (CPu s) X0 b e0 H0 L S s0 Hs X) (st : (s (65 + S.length) 9).toInt = s0) (T : TYp (s 24) g' (CPu s) X b (clen s) (Hs + 1) L) (kd : KDq s (65 + S.length) = 0 ∨ KDq s (65 + S.length) = 3) (hv : 1 ≤ v.toInt) (bd : BND g' s0 (clen s) (Hs + 7 * v.toInt.toNat)) (fm : (s (65 + S.length) 6).toInt = 1 → KDq s (65 + S.length) = 0 ∧ s0 + 2 ≤ clen s) (cost : clen s + 2 * (pk s (65 + S.length) + plc s S) ≤ clen σ + 2 * plc σ A + c)
    (k : ∀ z, XRs σ z g X0 b e0 H0 L A (iV :: S) c → Q z) : wk_X2_raise (65 + S.length) v x s Q := by
  have hop := isOp_at hS
  refine sp_raise (q := 65 + S.length) (by omega) (fun z kz zc zo => k z ?_)
  have en := clen_eq h0
  have z6 : ∀ c j, c ≠ 65 + S.length → c ≠ 6 → z c j = s c j := fun c j hc h6 => by rw [zc c j h6, rdC_ne hc]
  have kall : KXE s z := ko_tr (ko_op ko_rf hop) (ko_sub kz rfl rfl)
  have mall : MKs s z := mks_eq (funext (fun j => z6 25 j (by omega) (by decide))) (funext (fun j => z6 39 j (by omega) (by decide)))
  have z24 : (z 24) = (s 24) := funext (fun j => z6 24 j (by omega) (by decide))
  have z4 : (z 4 1) = (s 4 1) := z6 4 1 (by omega) (by decide)
  have ecz : clen z = clen s := by unfold clen; rw [z4]
  refine ⟨ko_tr k1 kall, mks_tr m1 mall, fun j hj => by rw [z24]; exact w1 j hj, by rw [z4]; omega, fun hf0 => ?_, by rw [z4]; exact hl, fun hf0 => ?_⟩
  · rcases zo with ⟨e, -⟩ | e
    · rw [e, rdC_ne (by omega)] at hf0
      exact hf hf0
    · exact absurd hf0 e
  · rcases zo with ⟨e, h60⟩ | e
    · have cm := cpu_mono kall mall
      have low : LOW S.length s z := fun j k hj => z6 _ k (by omega) (by omega)
      have zq : ∀ j, j ≠ 2 → z (65 + S.length) j = s (65 + S.length) j := fun j hj => by rw [e, rdA_ne hj]
      have z2 : z (65 + S.length) 2 = v := by rw [e, rdA_eq rfl]
      have zkd : KDq z (65 + S.length) = KDq s (65 + S.length) := by unfold KDq; rw [zq 0 (by decide)]
      refine ⟨g', ag, ⟨by rw [z6 7 7 (by omega) (by decide), cnt]; rfl, nc_of (by decide), by rw [z4]; exact h0, Hs + 1, X, ?_⟩, ?_⟩
      · rw [ecz]
        refine rlx_V nc (rlx_mono cm (funext (fun j => z6 27 j (by omega) (by decide))) S _ _ _ (fun j _ => by rw [z24]) agr_rf low (Or.inl nc) hR) hle (by rw [zq 9 (by decide)]; exact st) (by rw [z24]; exact typ_mono (fun _ _ => rfl) agr_rf cm (fun _ h => h) T) ⟨by rw [zkd]; omega, fun c => by rw [zkd] at c; omega, fun _ => rfl, ⟨by unfold HOK; rw [z2]; exact ⟨hv, h60⟩, ?_⟩, fun c => by rw [zq 6 (by decide)] at c; rw [zkd]; exact fm c⟩
        have : HT z (65 + S.length) = v.toInt.toNat := by unfold HT; rw [z2]
        rw [this]
        exact bd
      · have p1 : plc z (iV :: S) = pk z (65 + S.length) + plc z S := plc_V
        have p2 : plc z S = plc s S := plc_low S low
        have p3 : pk z (65 + S.length) = pk s (65 + S.length) := by unfold pk; rw [zkd]
        omega
    · exact absurd hf0 e
/-- behind a fault -/
theorem fin_rbad {v : Int32} {c : Nat} {Q : St → Prop} (hS : S.length < 500) (k1 : KXE σ s) (m1 : MKs σ s) (w1 : ∀ j, j < e0 → (s 24) j = (σ 24) j) (he : (e0 : Int) ≤ (s 4 1).toInt) (hl : (s 4 1).toInt ≤ (σ 4 1).toInt + 12) (hf : (s 6 3).toInt ≠ 0)
    (k : ∀ z, XRs σ z g X0 b e0 H0 L A B c → Q z) : wk_X2_raise (65 + S.length) v x s Q := by
  have hop := isOp_at hS
  refine sp_raise (q := 65 + S.length) (by omega) (fun z kz zc zo => k z ?_)
  have z6 : ∀ c j, c ≠ 65 + S.length → c ≠ 6 → z c j = s c j := fun c j hc h6 => by rw [zc c j h6, rdC_ne hc]
  have kall : KXE s z := ko_tr (ko_op ko_rf hop) (ko_sub kz rfl rfl)
  have mall : MKs s z := mks_eq (funext (fun j => z6 25 j (by omega) (by decide))) (funext (fun j => z6 39 j (by omega) (by decide)))
  have z24 : (z 24) = (s 24) := funext (fun j => z6 24 j (by omega) (by decide))
  have z4 : (z 4 1) = (s 4 1) := z6 4 1 (by omega) (by decide)
  have zf : (z 6 3).toInt ≠ 0 := by
    rcases zo with ⟨e, -⟩ | e
    · rw [e, rdC_ne (by omega)]
      exact hf
    · exact e
  exact ⟨ko_tr k1 kall, mks_tr m1 mall, fun j hj => by rw [z24]; exact w1 j hj, by rw [z4]; exact he, fun c => absurd c zf, by rw [z4]; exact hl, fun c => absurd c zf⟩
theorem s6_of (ks : Kp [(6, 3), (6, 4)] [] σ s) : ∀ c j, c ≠ 6 → s c j = σ c j := fun c j hc => ks c j (by
  simp only [List.contains_cons, List.contains_nil, Bool.or_false, Bool.or_eq_false_iff]
  refine ⟨?_, ?_⟩
  · cases z : ((c, j) == ((6 : Nat), (3 : Nat))) with
    | false => rfl
    | true => exact absurd (congrArg Prod.fst (eq_of_beq z)) hc
  · cases z : ((c, j) == ((6 : Nat), (4 : Nat))) with
    | false => rfl
    | true => exact absurd (congrArg Prod.fst (eq_of_beq z)) hc) rfl
/-- a fault told, or none: nothing else changes -/
def FF (σ s : St) : Prop := (∀ c j, c ≠ 6 → s c j = σ c j) ∧ Kp [(6, 3), (6, 4)] [] σ s ∧ ((s 6 3).toInt = 0 → (σ 6 3).toInt = 0)
theorem ff_rf : FF σ σ := ⟨fun _ _ _ => rfl, kp_rf, id⟩
theorem ff_of (ks : Kp [(6, 3), (6, 4)] [] σ s) (hf : (s 6 3).toInt ≠ 0) : FF σ s := ⟨s6_of ks, ks, fun c => absurd c hf⟩
/-- from the two sides to one: what is put between the pop and the raise -/
theorem bin_tail {Q : St → Prop} {s7 : St} {g1 : Gh} {s00 Hs00 hr c : Nat} {v21 : Int32} (hS : S.length + 1 < 500) (k1 : KXE σ s) (m1 : MKs σ s) (w1 : ∀ j, j < e0 → (s 24) j = (σ 24) j) (he : e0 ≤ s00) (h0 : 0 ≤ (s 4 1).toInt) (hl : (s 4 1).toInt ≤ (σ 4 1).toInt + 8) (cap : (σ 4 1).toInt ≤ 262150) (hf : (s 6 3).toInt = 0 → (σ 6 3).toInt = 0) (ag : AGR g g1 e0) (cnt : (s 7 7).toInt = S.length + 1) (nc : NC S) (hR : RLx s g1 (CPu s) X0 b e0 H0 L S s00 Hs00 X) (st : (s (65 + S.length) 9).toInt = s00) (hle : s00 ≤ clen s) (T : TYp (s 24) g1 (CPu s) X b (clen s) (Hs00 + 1) L)
    (ok : HOK s (65 + S.length)) (okr : 1 ≤ (s (65 + (S.length + 1)) 2).toInt ∧ (s (65 + (S.length + 1)) 2).toInt ≤ 60) (bd : BND g1 s00 (clen s) (Hs00 + 7 * (1 + max (s (65 + S.length) 2).toInt.toNat (s (65 + (S.length + 1)) 2).toInt.toNat)))
    (fm : (s (65 + S.length) 6).toInt = 1 → s00 + 2 ≤ clen s) (hsX : y.toInt < 57 → TYp (s 24) g1 (CPu s) X b s00 Hs00 L) (cost : clen s + 2 * plc s S ≤ clen σ + 2 * plc σ A + c)
    (k : ∀ z, XRs σ z g X0 b e0 H0 L A (iV :: S) c → Q z) : wk_X2_combine y (65 + S.length) (65 + (S.length + 1)) s (fun s112 => wk_X6_become (65 + S.length) v21 (s112 (65 + S.length) 6) s112 (fun s124 => wk_X2_fold (65 + S.length) s124 (fun s130 => wk_X2_raise (65 + S.length) ((1 : Int32) + (if (s130 (65 + S.length) 2) < (s130 (65 + (S.length + 1)) 2) then (s130 (65 + (S.length + 1)) 2) else (s130 (65 + S.length) 2))) x s130 (fun s151 => Q s151)))) := by
  have hop := isOp_at (n := S.length) (by omega)
  have en := clen_eq h0
  refine sp_combine (fun s112 r112 f112 c112 => sp_become (fun s124 r124 b0 b1 b6 bq => ?_))
  have r : RO (65 + S.length) s s124 := ro_tr r112 r124
  have kk : KXE s s124 := ro_ko r hop
  have mm : MKs s s124 := ro_mks r (by omega) (by omega)
  have cl : (s124 4 1) = (s 4 1) := r 4 1 (by omega)
  have wd : (s124 24) = (s 24) := funext (fun j => r 24 j (by omega))
  have e124 : clen s124 = clen s := by unfold clen; rw [cl]
  have q9 : s124 (65 + S.length) 9 = s (65 + S.length) 9 := (bq 9 (by decide) (by decide) (by decide) (by decide)).trans (f112 9 (by decide) (by decide) (by decide))
  have q2 : s124 (65 + S.length) 2 = s (65 + S.length) 2 := (bq 2 (by decide) (by decide) (by decide) (by decide)).trans (f112 2 (by decide) (by decide) (by decide))
  have r2 : s124 (65 + (S.length + 1)) 2 = s (65 + (S.length + 1)) 2 := r _ 2 (by omega)
  have c6 : (s124 (65 + S.length) 6).toInt = 1 → (s (65 + S.length) 6).toInt = 1 ∧ y.toInt < 57 := fun h => by rw [b6] at h; exact c112 h
  have low : LOW S.length s s124 := ro_low r (Nat.le_refl _)
  have cm := cpu_mono kk mm
  have xz : (s124 27) = (s 27) := funext (fun j => r 27 j (by omega))
  have R1 : RLx s124 g1 (CPu s124) X0 b e0 H0 L S s00 Hs00 X := rlx_mono cm xz S _ _ _ (fun j _ => by rw [wd]) agr_rf low (Or.inl nc) hR
  have T1 : TYp (s124 24) g1 (CPu s124) X b (clen s124) (Hs00 + 1) L := by rw [wd, e124]; exact typ_mono (fun _ _ => rfl) agr_rf cm (fun _ h => h) T
  have ok' := ok
  unfold HOK at ok'
  -- the height
  have hv : ∀ z : St, z (65 + S.length) 2 = s124 (65 + S.length) 2 → z (65 + (S.length + 1)) 2 = s124 (65 + (S.length + 1)) 2 → ((1 : Int32) + (if (z (65 + S.length) 2) < (z (65 + (S.length + 1)) 2) then (z (65 + (S.length + 1)) 2) else (z (65 + S.length) 2))).toInt = 1 + max (s (65 + S.length) 2).toInt (s (65 + (S.length + 1)) 2).toInt := fun z e1 e2 => by
    rw [e1, e2, q2, r2]
    have := max_i (a := s (65 + S.length) 2) (b := s (65 + (S.length + 1)) 2)
    rw [ad (by rw [this, i1]; omega) (by rw [this, i1]; omega), this, i1]
  refine sp_fold (by rw [cl]; exact h0) (by rw [cl]; omega) (fun c => ?_) (by omega) ?_ (fun s1 z v c k1' e1 em => ?_)
  · rw [q9, cl, st]
    omega
  · have hv1 := hv s124 rfl rfl
    refine fin_raise (s0 := s00) (Hs := Hs00) (X := X) (g' := g1) (by omega) (ko_tr k1 kk) (mks_tr m1 mm) (fun j hj => by rw [wd]; exact w1 j hj) he (by rw [e124]; exact hle) (by rw [cl]; exact h0) (by rw [cl]; omega) (fun hf0 => hf (by rw [r 6 3 (by omega)] at hf0; exact hf0)) ag (by rw [r 7 7 (by omega)]; exact cnt) nc R1 (by rw [q9]; exact st) T1 (Or.inl b0) (by rw [hv1]; omega) ?_ (fun c => ⟨b0, by rw [e124]; exact fm (c6 c).1⟩) ?_ k
    · rw [hv1, e124]
      exact bnd_le bd (Nat.le_refl _) (Nat.le_refl _) (by omega)
    · have p1 : pk s124 (65 + S.length) = 0 := by unfold pk; rw [b0]; rfl
      have p2 : plc s124 S = plc s S := plc_low S low
      omega
  · obtain ⟨c1, c57⟩ := c6 c
    have hs1 : ∀ c j, c ≠ 4 → s1 c j = s124 c j := fun c j hc => k1' c j (by
      simp only [List.contains_cons, List.contains_nil, Bool.or_false]
      cases z : ((c, j) == ((4 : Nat), (1 : Nat))) with
      | false => rfl
      | true => exact absurd (congrArg Prod.fst (eq_of_beq z)) hc) rfl
    have l1 : (s1 4 1).toInt = s00 := by rw [e1, q9, st]
    have cl1 : clen s1 = s00 := by
      have := clen_eq (σ := s1) (by omega)
      omega
    have zc : ∀ c j, c ≠ 4 → c ≠ 24 → z c j = s124 c j := fun c j h4 h24 => (em_cells em c j h4 h24).trans (hs1 c j h4)
    have ecz : clen z = s00 + 2 := by
      have := em_clen em (n := 1) rfl (by omega)
      have l2 : ln 1 = 2 := rfl
      omega
    have lz : (z 4 1).toInt = s00 + 2 := by
      have := em.2.1
      rw [l1] at this
      exact this
    have ws : ∀ j, j < s00 → (z 24) j = (s 24) j := fun j hj => by
      rw [em.2.2.1 j (by omega)]
      show s1 24 j = _
      rw [hs1 24 j (by decide)]
      show s124 24 j = _
      exact r 24 j (by omega)
    have w0 : (z 24) s00 = 1 := by rw [← cl1]; exact em.2.2.2.1
    have k2 : KXE s z := ko_tr kk (ko_tr (ko_sub (ko_kp k1') rfl rfl) (ko_sub (ko_kp em.1) rfl rfl))
    have m2 : MKs s z := mks_eq (funext (fun j => (zc 25 j (by decide) (by decide)).trans (r 25 j (by omega)))) (funext (fun j => (zc 39 j (by decide) (by decide)).trans (r 39 j (by omega))))
    have cm2 := cpu_mono k2 m2
    have low2 : LOW S.length s z := fun j k hj => (zc _ k (by omega) (by omega)).trans (r _ k (by omega))
    have T0 := hsX c57
    obtain ⟨g2, T2, ag2, gi2⟩ := typ_pl (w' := (z 24)) (n := 1) (H' := Hs00 + 1) (typ_mono (fun q _ => rfl) agr_rf cm2 (fun _ z => z) T0) (fun q hq => ws q hq) (by rw [w0]; rfl) (by decide) (by decide) (by omega) (by show 0 ≤ Hs00; omega) (by show ((Hs00 + 1 : Nat) : Int) = Hs00 + 1; omega)
    have l2 : ln 1 = 2 := rfl
    rw [l2] at T2 gi2
    have zq : ∀ j, z (65 + S.length) j = s124 (65 + S.length) j := fun j => zc _ j (by omega) (by omega)
    have hv1 := hv z (zq 2) (zc _ 2 (by omega) (by omega))
    have f00 := fm c1
    refine fin_raise (s0 := s00) (Hs := Hs00) (X := X) (g' := g2) (by omega) (ko_tr k1 k2) (mks_tr m1 m2) (fun j hj => by rw [ws j (by omega)]; exact w1 j hj) he (by omega) (by omega) (by omega) (fun hf0 => hf (by rw [zc 6 3 (by decide) (by decide), r 6 3 (by omega)] at hf0; exact hf0)) (agr_tr ag (agr_le ag2 he) (Nat.le_refl _)) (by rw [zc 7 7 (by decide) (by decide), r 7 7 (by omega)]; exact cnt) nc (rlx_mono cm2 (funext (fun j => (zc 27 j (by decide) (by decide)).trans (r 27 j (by omega)))) S _ _ _ (fun j hj => ws j hj) (agr_le ag2 (Nat.le_refl _)) low2 (Or.inl nc) hR) (by rw [zq, q9]; exact st) (by rw [ecz]; exact T2) (Or.inl (by unfold KDq; rw [zq]; exact b0)) (by rw [hv1]; omega) ?_ (fun _ => ⟨by unfold KDq; rw [zq]; exact b0, by omega⟩) ?_ k
    · rw [hv1, ecz]
      exact bnd_ext (bnd_one (L := L) T0.2.1 (by omega)) ag2 gi2 T2.2.1 (by omega)
    · have p1 : pk z (65 + S.length) = 0 := by
        have : KDq z (65 + S.length) = 0 := by unfold KDq; rw [zq]; exact b0
        unfold pk
        rw [this]
        rfl
      have p2 : plc z S = plc s S := plc_low S low2
      omega
end XBI
end

section
/-! steps of an expression: two sides, whole -/
section XB2
variable {σ s t : St} {g g' : Gh} {CP CP' : Int → Nat → Prop} {X0 X Xs : Nat → Prop} {b e0 H0 L e H H' n q s0 Hs : Nat} {A B S : List It} {it : It} {x y : Int32}
theorem em_k {op a1 a2 a3 : Int32} (em : EMi σ s op a1 a2 a3) : KXE σ s ∧ MKs σ s ∧ (∀ n, LOW n σ s) ∧ (s 27) = (σ 27) ∧ (s 6 3) = (σ 6 3) ∧ (s 7 7) = (σ 7 7) :=
  ⟨ko_sub (ko_kp em.1) rfl rfl, mks_eq (funext (fun j => em_cells em 25 j (by decide) (by decide))) (funext (fun j => em_cells em 39 j (by decide) (by decide))), fun n j k _ => em_cells em _ k (by omega) (by omega), funext (fun j => em_cells em 27 j (by decide) (by decide)), em_cells em 6 3 (by decide) (by decide), em_cells em 7 7 (by decide) (by decide)⟩
theorem em_len {op a1 a2 a3 : Int32} {m : Nat} (em : EMi σ s op a1 a2 a3) (hm : op.toInt = m) : (s 4 1).toInt = (σ 4 1).toInt + ln m := by
  have e := em.2.1
  have en : op.toInt.toNat = m := by omega
  rw [en] at e
  exact e
theorem ff_k (f : FF σ s) : KXE σ s ∧ MKs σ s ∧ (∀ n, LOW n σ s) ∧ (s 27) = (σ 27) ∧ (s 24) = (σ 24) ∧ (s 4 1) = (σ 4 1) ∧ (s 7 7) = (σ 7 7) :=
  ⟨ko_sub (ko_kp f.2.1) rfl rfl, mks_eq (funext (fun j => f.1 25 j (by decide))) (funext (fun j => f.1 39 j (by decide))), fun n j k _ => f.1 _ k (by omega), funext (fun j => f.1 27 j (by decide)), funext (fun j => f.1 24 j (by decide)), f.1 4 1 (by decide), f.1 7 7 (by decide)⟩
theorem xs_binary {Q : St → Prop} (h : XC σ g X0 b e0 H0 L (iV :: iL (tkx σ x) :: S)) (cap : (σ 4 1).toInt ≤ 262150) (hS : S.length + 1 < 500) (ht : 41 ≤ tkx σ x ∧ tkx σ x ≤ 58) (k : ∀ s, XRs σ s g X0 b e0 H0 L (iV :: iL (tkx σ x) :: S) (iV :: S) 2 → Q s) : wk_X2_binary x σ Q := by
  have he0 := xc_e0 h
  have c0 := clen_eq h.2.2.1
  have h30 := h.2.2.1
  have hsg : ((tkx σ x).toNat : Int) = tkx σ x := by omega
  unfold wk_X2_binary
  refine sp_kindOf (fun v2 hv2 => ?_)
  refine xc_pop (S := iL (tkx σ x) :: S) h hS (by omega) (fun s7 g1 s9 Hs9 X9 k1 m1 l1 f1 hi w1 ag va cnt he hc hc2 h3 fu => ?_)
  obtain ⟨nc, r1, r2, r3, r4, ⟨v1, -, -, ⟨v4, v5⟩, v6⟩, v7⟩ := va
  obtain ⟨nc2, s00, Hs00, Xs, i1, i2, i3, i4, a1, a2, a3, a4, a5, a6, a7, a8⟩ := rlx_Li r1
  have hs00 := (rlx_typ S _ _ _ i1).2
  have e1 := clen_eq h3
  have pk1 := pkq_le (σ := σ) (q := 65 + (iL (tkx σ x) :: S).length)
  have okl := a1.1
  unfold HOK at okl
  have okr : 1 ≤ (s7 (65 + (S.length + 1)) 2).toInt ∧ (s7 (65 + (S.length + 1)) 2).toInt ≤ 60 := v4
  have br : BND g1 s9 (clen s7) (Hs9 + 7 * (s7 (65 + (S.length + 1)) 2).toInt.toNat) := v5
  have bl : BND g1 s00 s9 (Hs00 + 7 * (s7 (65 + S.length) 2).toInt.toNat) := a1.2
  have cnt7 : (s7 7 7).toInt = S.length + 1 := cnt
  have r3' : (s7 (65 + (S.length + 1)) 9).toInt = s9 := r3
  refine sp_otop (n := S.length) (by rw [cnt]; rfl) (by omega) (sk_typeOf (fun v21 => ?_))
  have plcS : plc s7 S = plc σ S := plc_low S (low_le l1 (Nat.le_succ _))
  have plcA : pk σ (65 + (iL (tkx σ x) :: S).length) + plc σ S ≤ plc σ (iV :: iL (tkx σ x) :: S) := by
    rw [plc_V]
    have := plc_ge (σ := σ) (A := S) (it := iL (tkx σ x))
    omega
  -- what stands when the operator's own words are put
  have fin : ∀ (s : St) (g2 : Gh), KXE s7 s → MKs s7 s → (∀ j, j < s00 → (s 24) j = (s7 24) j) → 0 ≤ (s 4 1).toInt → (s 4 1).toInt ≤ (s7 4 1).toInt + 2 → ((s 6 3).toInt = 0 → (s7 6 3).toInt = 0) → AGR g1 g2 s00 → (s 7 7) = (s7 7 7) → RLx s g2 (CPu s) X0 b e0 H0 L S s00 Hs00 Xs → LOW (S.length + 2) s7 s → s9 ≤ clen s → TYp (s 24) g2 (CPu s) Xs b (clen s) (Hs00 + 1) L → BND g2 s00 (clen s) (Hs00 + 7 * (1 + max (s7 (65 + S.length) 2).toInt.toNat (s7 (65 + (S.length + 1)) 2).toInt.toNat)) → clen s ≤ clen s7 + 2 → wk_X2_combine v2 (65 + S.length) (65 + (S.length + 1)) s (fun s112 => wk_X6_become (65 + S.length) v21 (s112 (65 + S.length) 6) s112 (fun s124 => wk_X2_fold (65 + S.length) s124 (fun s130 => wk_X2_raise (65 + S.length) ((1 : Int32) + (if (s130 (65 + S.length) 2) < (s130 (65 + (S.length + 1)) 2) then (s130 (65 + (S.length + 1)) 2) else (s130 (65 + S.length) 2))) x s130 (fun s151 => Q s151)))) := by
    intro s g2 kk mm ww c1 c2 ff ag2 ec R low lr T bd cc
    have sq : ∀ j, s (65 + S.length) j = s7 (65 + S.length) j := fun j => low S.length j (by omega)
    have sr : ∀ j, s (65 + (S.length + 1)) j = s7 (65 + (S.length + 1)) j := fun j => low (S.length + 1) j (by omega)
    refine bin_tail (s7 := s7) (s00 := s00) (Hs00 := Hs00) (hr := 0) (X := Xs) (g1 := g2) hS (ko_tr k1 kk) (mks_tr m1 mm) (fun j hj => by rw [ww j (by omega)]; exact w1 j (by omega)) hs00 c1 (by omega) cap (fun hf0 => by have := ff hf0; rw [fu] at this; exact this) (agr_tr (agr_le ag he0) (agr_le ag2 hs00) (Nat.le_refl _)) (by rw [ec]; exact cnt7) nc2 R (by rw [sq]; exact i3) (by omega) T (by unfold HOK; rw [sq]; exact okl) (by rw [sr]; exact okr) (by rw [sq, sr]; exact bd) (fun c => by rw [sq] at c; have := (a3 c).2; omega) (fun _ => (rlx_typ S _ _ _ R).1) ?_ k
    have p2 : plc s S = plc s7 S := plc_low S (low_le low (by omega))
    omega
  refine ⟨FF s7, fun s38 ff => ⟨_, fun _ h => h, tkx σ x = 57 ∨ tkx σ x = 58, fun c57 => ?_, fun c => by right; omega, fun c58 => ⟨fun c57 => ?_, fun c => by left; omega⟩⟩, fun _ => ff_rf, fun _ => sp_refuse (fun s hs hf => ff_of hs hf)⟩
  · -- && and ||
    obtain ⟨b1, b2, j, n, b3, ⟨j1, j2, j3, j4, j5, j6⟩, b5⟩ := a4 (by omega)
    clear a4
    obtain ⟨fk, fm, fl, fx, fw, fc, fe⟩ := ff_k ff
    subst b5
    have c38 : clen s38 = clen s7 := by unfold clen; rw [fc]
    refine sk_emit (n := 25) rfl (by decide) (by rw [fc]; exact h3) (by rw [fc]; omega) (fun _ s59 _ em => ?_)
    obtain ⟨ek, emk, el, ex, ef, ee⟩ := em_k em
    have e59 : clen s59 = clen s7 + 1 := by
      have := em_clen em (n := 25) rfl (by rw [fc]; exact h3)
      have l1 : ln 25 = 1 := rfl
      omega
    have len59 : (s59 4 1).toInt = (s7 4 1).toInt + 1 := by
      have := em_len em (m := 25) rfl
      rw [fc] at this
      exact this
    have ws59 : ∀ i, i < clen s7 → (s59 24) i = (s7 24) i := fun i hi => (em.2.2.1 i (by omega)).trans (by rw [fw])
    have w59 : (s59 24) (clen s7) = 25 := by rw [← c38]; exact em.2.2.2.1
    have q59 : ∀ c j, c ≠ 4 → c ≠ 24 → c ≠ 6 → s59 c j = s7 c j := fun c j h4 h24 h6 => (em_cells em c j h4 h24).trans (ff.1 c j h6)
    have k59 : KXE s7 s59 := ko_tr fk ek
    have m59 : MKs s7 s59 := mks_tr fm emk
    have cm := cpu_mono k59 m59
    have lt9 : s9 < clen s7 := by
      by_cases c : s9 = clen s7
      · have t1 := i4.2.1
        have t2 := r4.2.1
        rw [c, t2] at t1
        have := congrArg Prod.fst (Option.some.inj t1)
        have : Hs9 + 1 = Hs9 := this
        omega
      · omega
    obtain ⟨g2, T2, ag2, gi2⟩ := typ_pl (w' := (s59 24)) (n := 25) (H' := Hs9 + 1) (typ_mono (fun q _ => rfl) agr_rf cm (fun _ z => z) r4) ws59 (by rw [w59]; rfl) (by decide) (by decide) (by omega) (by show 1 ≤ Hs9 + 1; omega) (by show ((Hs9 + 1 : Nat) : Int) = ((Hs9 + 1 : Nat) : Int) + 0; omega)
    have l25 : ln 25 = 1 := rfl
    rw [l25] at T2 gi2
    rw [b1] at T2
    refine sp_aim1 (j := j) (by rw [q59 _ 10 (by omega) (by omega) (by omega)]; exact j1) (by omega) (by rw [ws59 _ (by omega)]; exact j6) (by omega) ?_
    generalize hz : upF s59 24 (fun i => if i = j + 1 then (s59 4 1) else (s59 24) i) = z
    have z24 : ∀ i, (z 24) i = if i = j + 1 then (s59 4 1) else (s59 24) i := fun i => by rw [← hz, rdF_eq]
    have zc : ∀ c, c ≠ 24 → z c = s59 c := fun c hc => by rw [← hz, rdF_ne hc]
    have ecz : clen z = clen s7 + 1 := by
      have : clen z = clen s59 := by unfold clen; rw [zc 4 (by decide)]
      omega
    have kz : KXE s7 z := ko_tr k59 (by rw [← hz]; exact ko_kp (kp_F kp_rf rfl))
    have mz : MKs s7 z := mks_tr m59 (mks_eq (zc 25 (by decide)) (zc 39 (by decide)))
    have cmz := cpu_mono kz mz
    have cmz2 : ∀ a m, CPu s59 a m → CPu z a m := cpu_mono (by rw [← hz]; exact ko_kp (kp_F kp_rf rfl)) (mks_eq (zc 25 (by decide)) (zc 39 (by decide)))
    have lowz : LOW (S.length + 2) s7 z := fun i k hi => by rw [zc _ (by omega)]; exact q59 _ k (by omega) (by omega) (by omega)
    have wz : ∀ i, i < s00 → (z 24) i = (s7 24) i := fun i hi => by
      rw [z24, if_neg (by omega)]
      exact ws59 i (by omega)
    have T3 : TYp (z 24) g2 (CPu z) Xs b (clen z) (Hs00 + 1) L := by
      rw [ecz]
      refine typ_aim (w := (s59 24)) (p := j) (t := clen s7 + 1) (n := n) (h0 := Hs00 + 1) (k0 := L) (ht := Hs00 + 1) (v := s59 4 1) (typ_mono (fun q _ => rfl) agr_rf cmz2 (fun _ h => h) T2) (by rw [ag2 j (by omega)]; exact j5) (by omega) (by rw [ws59 j (by omega)]; exact j4) (by omega) (fun i hi => by rw [z24, if_neg hi]) (by rw [z24, if_pos rfl]) (by omega) (Nat.le_refl _) ⟨L, T2.2.1, Or.inr ⟨rfl, by omega⟩⟩ ⟨fun _ => rfl, fun c => by omega⟩
    refine fin z g2 kz mz wz (by rw [zc 4 (by decide)]; omega) (by rw [zc 4 (by decide)]; omega) (fun hf0 => ?_) (agr_le ag2 (by omega)) (by rw [zc 7 (by decide)]; exact q59 7 7 (by decide) (by decide) (by decide)) (rlx_mono cmz (funext (fun i => by rw [zc 27 (by decide)]; exact q59 27 i (by decide) (by decide) (by decide))) S _ _ _ wz (agr_le ag2 (by omega)) (low_le lowz (by omega)) (Or.inl nc2) i1) lowz (by omega) T3 ?_ (by omega)
    · rw [zc 6 (by decide), ef] at hf0
      exact ff.2.2 hf0
    · rw [ecz]
      exact bnd_ext (bnd_join (bnd_le bl (Nat.le_refl _) (Nat.le_refl _) (by omega)) (bnd_le br (Nat.le_refl _) (Nat.le_refl _) (by omega)) (Nat.le_refl _)) ag2 gi2 T2.2.1 (by omega)
  · -- the other signs
    have sgx : tkx σ x ≤ 56 := by omega
    obtain ⟨b1, b2⟩ := a8 (Or.inr (by omega))
    have b5 := a5 (by omega)
    subst b5
    obtain ⟨fk, fm, fl, fx, fw, fc, fe⟩ := ff_k ff
    have c38 : clen s38 = clen s7 := by unfold clen; rw [fc]
    refine ⟨fun _ => True, fun y2 _ _ => sp_lineOf (fun v102 => ?_), fun _ => trivial, fun _ => trivial⟩
    refine sp_operate (sg := (tkx σ x).toNat) (by omega) (by omega) (by rw [fc]; exact h3) (by rw [fc]; omega) (fun n op a1' b1' c1' s105 hn n1 n2 em => ?_)
    obtain ⟨ek, emk, el, ex, ef, ee⟩ := em_k em
    have l12 : ∀ m, m < 61 → 41 ≤ m → 1 ≤ ln m ∧ ln m ≤ 2 := by decide
    have l3 := l12 n (by omega) n1
    have e105 : clen s105 = clen s7 + ln n := by
      have := em_clen em hn (by rw [fc]; exact h3)
      omega
    have len105 : (s105 4 1).toInt = (s7 4 1).toInt + ln n := by
      have := em_len em hn
      rw [fc] at this
      exact this
    have ws : ∀ i, i < clen s7 → (s105 24) i = (s7 24) i := fun i hi => (em.2.2.1 i (by omega)).trans (by rw [fw])
    have w0 : (s105 24) (clen s7) = op := by rw [← c38]; exact em.2.2.2.1
    have q5 : ∀ c j, c ≠ 4 → c ≠ 24 → c ≠ 6 → s105 c j = s7 c j := fun c j h4 h24 h6 => (em_cells em c j h4 h24).trans (ff.1 c j h6)
    have k5 : KXE s7 s105 := ko_tr fk ek
    have m5 : MKs s7 s105 := mks_tr fm emk
    have cm := cpu_mono k5 m5
    have dn : de n = -1 := by unfold de; rw [if_pos n1]
    have pn : po n = 2 := by unfold po; rw [if_pos n1]
    obtain ⟨g2, T2, ag2, gi2⟩ := typ_pl (w' := (s105 24)) (n := n) (H' := Hs00 + 1) (typ_mono (fun q _ => rfl) agr_rf cm (fun _ z => z) r4) ws (by rw [w0]; exact hn) (by omega) n2 (Or.inr n1) (by omega) (by rw [dn]; omega)
    have low5 : LOW (S.length + 2) s7 s105 := fun i k hi => q5 _ k (by omega) (by omega) (by omega)
    refine fin s105 g2 k5 m5 (fun i hi => ws i (by omega)) (by omega) (by omega) (fun hf0 => by rw [ef] at hf0; exact ff.2.2 hf0) (agr_le ag2 (by omega)) (q5 7 7 (by decide) (by decide) (by decide)) (rlx_mono cm (funext (fun i => q5 27 i (by decide) (by decide) (by decide))) S _ _ _ (fun i hi => ws i (by omega)) (agr_le ag2 (by omega)) (low_le low5 (by omega)) (Or.inl nc2) i1) low5 (by omega) (by rw [e105]; exact T2) ?_ (by omega)
    rw [e105]
    exact bnd_ext (bnd_join (bnd_le bl (Nat.le_refl _) (Nat.le_refl _) (by omega)) (bnd_le br (Nat.le_refl _) (Nat.le_refl _) (by omega)) (Nat.le_refl _)) ag2 gi2 T2.2.1 (by omega)
end XB2
end

section
/-! steps of an expression: from the operands read to the height told -/
def AT (s7 s : St) (g1 : Gh) (Xs : Nat → Prop) (b L n s00 B : Nat) (H2 m : Nat) : Prop :=
  KXE s7 s ∧ MKs s7 s ∧ (∀ j, j < clen s7 → (s 24) j = (s7 24) j) ∧ (0 ≤ (s7 4 1).toInt ∧ (s7 4 1).toInt ≤ (s 4 1).toInt ∧ (s 4 1).toInt ≤ (s7 4 1).toInt + m) ∧ LOW (n + 2) s7 s ∧ (s 7 7) = (s7 7 7) ∧ ((s 6 3).toInt = 0 → (s7 6 3).toInt = 0) ∧
  ((s 6 3).toInt = 0 → ∃ g2, AGR g1 g2 (clen s7) ∧ TYp (s 24) g2 (CPu s) Xs b (clen s) H2 L ∧ BND g2 s00 (clen s) B)
section XAT
variable {σ s s7 z t : St} {g g' g1 : Gh} {CP CP' : Int → Nat → Prop} {X0 X Xs : Nat → Prop} {b e0 H0 L e H H' n q s00 Hs00 H2 H3 m Bb : Nat} {A B S : List It} {it : It} {x y : Int32}
theorem at_rf (T : TYp (s7 24) g1 (CPu s7) Xs b (clen s7) H2 L) (bd : BND g1 s00 (clen s7) Bb) (h0 : 0 ≤ (s7 4 1).toInt) : AT s7 s7 g1 Xs b L n s00 Bb H2 0 :=
  ⟨ko_rf, mks_rf, fun _ _ => rfl, ⟨h0, by omega, by omega⟩, low_rf, rfl, id, fun _ => ⟨g1, agr_rf, T, bd⟩⟩
theorem at_ff (h : AT s7 s g1 Xs b L n s00 Bb H2 m) (f : FF s t) : AT s7 t g1 Xs b L n s00 Bb H2 m := by
  obtain ⟨h1, h2, h3, h4, h5, h6, h7, h8⟩ := h
  obtain ⟨fk, fm, fl, fx, fw, fc, fe⟩ := ff_k f
  have ec : clen t = clen s := by unfold clen; rw [fc]
  refine ⟨ko_tr h1 fk, mks_tr h2 fm, fun j hj => by rw [fw]; exact h3 j hj, by rw [fc]; exact h4, low_tr h5 (fl _), fe.trans h6, fun c => h7 (f.2.2 c), fun c => ?_⟩
  obtain ⟨g2, a1, a2, a3⟩ := h8 (f.2.2 c)
  exact ⟨g2, a1, by rw [fw, ec]; exact typ_mono (fun _ _ => rfl) agr_rf (cpu_mono fk fm) (fun _ h => h) a2, by rw [ec]; exact a3⟩
/-- a fault: what is typed matters no more -/
theorem at_bad (h : AT s7 s g1 Xs b L n s00 Bb H2 m) (hf : (s 6 3).toInt ≠ 0) : AT s7 s g1 Xs b L n s00 Bb H3 m := by
  obtain ⟨h1, h2, h3, h4, h5, h6, h7, h8⟩ := h
  exact ⟨h1, h2, h3, h4, h5, h6, h7, fun c => absurd c hf⟩
theorem at_emit {op a1 a2 a3 : Int32} {k : Nat} (h : AT s7 s g1 Xs b L n s00 Bb H2 m) (em : EMi s t op a1 a2 a3) (hk : op.toInt = k) (k1 : 1 ≤ k ∧ k ≤ 60) (pl : k ≤ 25 ∨ 41 ≤ k) (hp : (s 6 3).toInt = 0 → po k ≤ H2 ∧ (H3 : Int) = H2 + de k ∧ H3 ≤ Bb) : AT s7 t g1 Xs b L n s00 Bb H3 (m + ln k) := by
  obtain ⟨h1, h2, h3, h4, h5, h6, h7, h8⟩ := h
  obtain ⟨ek, emk, el, ex, ef, ee⟩ := em_k em
  have es : 0 ≤ (s 4 1).toInt := by omega
  have ec := em_clen em hk es
  have el2 := em_len em hk
  have e7 := clen_eq h4.1
  have e8 := clen_eq es
  refine ⟨ko_tr h1 ek, mks_tr h2 emk, fun j hj => (em.2.2.1 j (by omega)).trans (h3 j hj), by omega, low_tr h5 (el _), ee.trans h6, fun c => h7 (by rw [← ef]; exact c), fun c => ?_⟩
  have c' : (s 6 3).toInt = 0 := by rw [← ef]; exact c
  obtain ⟨g2, a1, a2, a3⟩ := h8 c'
  obtain ⟨p1, p2, p3⟩ := hp c'
  have w0 : (t 24) (clen s) = op := em.2.2.2.1
  obtain ⟨g3, T3, ag3, gi3⟩ := typ_pl (w' := (t 24)) (n := k) (H' := H3) (typ_mono (fun q _ => rfl) agr_rf (cpu_mono ek emk) (fun _ z => z) a2) em.2.2.1 (by rw [w0]; exact hk) k1.1 k1.2 pl p1 p2
  refine ⟨g3, agr_tr a1 ag3 (by omega), by rw [ec]; exact T3, ?_⟩
  rw [ec]
  exact bnd_ext a3 ag3 gi3 T3.2.1 p3
/-- the height is told -/
theorem at_raise {v : Int32} {c : Nat} {Q : St → Prop} (h : AT s7 s g1 Xs b L S.length s00 Bb (Hs00 + 1) m) (hm : m ≤ 6) (r : RO (65 + S.length) s z) (z9 : z (65 + S.length) 9 = s7 (65 + S.length) 9) (zk : KDq z (65 + S.length) = 0 ∨ KDq z (65 + S.length) = 3) (z6 : (z (65 + S.length) 6).toInt ≠ 1) (hv : 1 ≤ v.toInt) (hB : Bb ≤ Hs00 + 7 * v.toInt.toNat) (hS : S.length < 500)
    (k1 : KXE σ s7) (m1 : MKs σ s7) (w1 : ∀ j, j < e0 → (s7 24) j = (σ 24) j) (he : e0 ≤ s00) (hle : s00 ≤ clen s7) (hl : (s7 4 1).toInt ≤ (σ 4 1).toInt + 4) (fu : (s7 6 3).toInt = 0 → (σ 6 3).toInt = 0) (ag : AGR g g1 e0) (cnt : (s7 7 7).toInt = S.length + 1) (nc : NC S) (hR : RLx s7 g1 (CPu s7) X0 b e0 H0 L S s00 Hs00 Xs) (st : (s7 (65 + S.length) 9).toInt = s00)
    (cost : (s 6 3).toInt = 0 → clen s + 2 * (pk z (65 + S.length) + plc s7 S) ≤ clen σ + 2 * plc σ A + c) (k : ∀ z, XRs σ z g X0 b e0 H0 L A (iV :: S) c → Q z) : wk_X2_raise (65 + S.length) v x z Q := by
  have hop := isOp_at hS
  obtain ⟨h1, h2, h3, h4, h5, h6, h7, h8⟩ := h
  have kr : KXE s z := ro_ko r hop
  have mr : MKs s z := ro_mks r (by omega) (by omega)
  have zl : (z 4 1) = (s 4 1) := r 4 1 (by omega)
  have zw : (z 24) = (s 24) := funext (fun j => r 24 j (by omega))
  have ecz : clen z = clen s := by unfold clen; rw [zl]
  have fz : (z 6 3) = (s 6 3) := r 6 3 (by omega)
  have e7 := clen_eq h4.1
  have es : 0 ≤ (s 4 1).toInt := by omega
  have e8 := clen_eq es
  have kz : KXE s7 z := ko_tr h1 kr
  have mz : MKs s7 z := mks_tr h2 mr
  have lz : LOW S.length s7 z := low_tr (low_le h5 (by omega)) (ro_low r (Nat.le_refl _))
  have wd : ∀ j, j < e0 → (z 24) j = (σ 24) j := fun j hj => by
    rw [zw]
    exact (h3 j (by omega)).trans (w1 j hj)
  by_cases c0 : (z 6 3).toInt = 0
  · have c1 : (s 6 3).toInt = 0 := by rw [← fz]; exact c0
    obtain ⟨g2, a1, a2, a3⟩ := h8 c1
    have cm := cpu_mono kz mz
    refine fin_raise (s0 := s00) (Hs := Hs00) (X := Xs) (g' := g2) hS (ko_tr k1 kz) (mks_tr m1 mz) wd he (by omega) (by rw [zl]; exact es) (by rw [zl]; omega) (fun _ => fu (h7 c1)) (agr_tr ag (agr_le a1 (by omega)) (Nat.le_refl _)) (by rw [r 7 7 (by omega), h6]; exact cnt) nc (rlx_mono cm (funext (fun j => kz 27 j (op_lt (by decide)) rfl rfl)) S _ _ _ (fun j hj => by rw [zw]; exact h3 j (by omega)) (agr_le a1 hle) lz (Or.inl nc) hR) (by rw [z9]; exact st) (by rw [zw, ecz]; exact typ_mono (fun _ _ => rfl) agr_rf (cpu_mono kr mr) (fun _ h => h) a2) zk hv (by rw [ecz]; exact bnd_le a3 (Nat.le_refl _) (Nat.le_refl _) hB) (fun c => absurd c z6) ?_ k
    have p2 : plc z S = plc s7 S := plc_low S lz
    have p3 := cost c1
    omega
  · exact fin_rbad hS (ko_tr k1 kz) (mks_tr m1 mz) wd (by rw [zl]; omega) (by rw [zl]; omega) c0 k
end XAT
end

section
/-! steps of an expression: what is assigned, what an index tells -/
section XAS
variable {σ s s7 z t : St} {g g' g1 : Gh} {CP CP' : Int → Nat → Prop} {X0 X Xs : Nat → Prop} {b e0 H0 L e H H' n q s00 Hs00 H2 H3 m Bb : Nat} {A B S : List It} {it : It} {x y : Int32}
theorem hv_max {z : St} {q1 q2 : Nat} {a c : Int32} (e1 : z q1 2 = a) (e2 : z q2 2 = c) (h1 : 0 ≤ a.toInt ∧ a.toInt ≤ 60) (h2 : 0 ≤ c.toInt ∧ c.toInt ≤ 60) : ((1 : Int32) + (if (z q1 2) < (z q2 2) then (z q2 2) else (z q1 2))).toInt = 1 + max a.toInt c.toInt := by
  rw [e1, e2]
  have := max_i (a := a) (b := c)
  rw [ad (by rw [this, i1]; omega) (by rw [this, i1]; omega), this, i1]
theorem xs_assign {Q : St → Prop} (h : XC σ g X0 b e0 H0 L (iV :: iL (tkx σ x) :: S)) (cap : (σ 4 1).toInt ≤ 262150) (hS : S.length + 1 < 500) (ht : 30 ≤ tkx σ x ∧ tkx σ x ≤ 40) (k : ∀ s, XRs σ s g X0 b e0 H0 L (iV :: iL (tkx σ x) :: S) (iV :: S) 2 → Q s) : wk_X2_assign x σ Q := by
  have he0 := xc_e0 h
  have c0 := clen_eq h.2.2.1
  have h30 := h.2.2.1
  have hsg : ((tkx σ x).toNat : Int) = tkx σ x := by omega
  unfold wk_X2_assign
  refine sp_kindOf (fun v2 hv2 => ?_)
  refine xc_pop (S := iL (tkx σ x) :: S) h hS (by omega) (fun s7 g1 s9 Hs9 X9 k1 m1 l1 f1 hi w1 ag va cnt he hc hc2 h3 fu => ?_)
  obtain ⟨nc, r1, r2, r3, r4, ⟨v1, -, -, ⟨v4, v5⟩, v6⟩, v7⟩ := va
  obtain ⟨nc2, s00, Hs00, Xs, i1', i2', i3', i4', a1, a2, a3, a4, a5, a6, a7, a8⟩ := rlx_Li r1
  clear a4
  have b5 := a5 (by omega)
  subst b5
  have hs00 := (rlx_typ S _ _ _ i1').2
  have e1 := clen_eq h3
  have pk1 := pkq_le (σ := σ) (q := 65 + (iL (tkx σ x) :: S).length)
  have okl := a1.1
  unfold HOK at okl
  have okr : 1 ≤ (s7 (65 + (S.length + 1)) 2).toInt ∧ (s7 (65 + (S.length + 1)) 2).toInt ≤ 60 := v4
  have br : BND g1 s9 (clen s7) (Hs9 + 7 * (s7 (65 + (S.length + 1)) 2).toInt.toNat) := v5
  have bl : BND g1 s00 s9 (Hs00 + 7 * (s7 (65 + S.length) 2).toInt.toNat) := a1.2
  have cnt7 : (s7 7 7).toInt = S.length + 1 := cnt
  -- the heights before the store, as the left side asks
  have hH : 1 ≤ KDq s7 (65 + S.length) ∧ KDq s7 (65 + S.length) ≤ 3 → (tkx σ x = 30 → Hs9 + 1 = if KDq s7 (65 + S.length) = 3 then Hs00 + 2 else Hs00 + 1) ∧ (tkx σ x ≠ 30 → Hs9 = if KDq s7 (65 + S.length) = 3 then Hs00 + 2 else Hs00 + 1) := fun p => by
    refine ⟨fun c => ?_, fun c => ?_⟩
    · obtain ⟨q1, q2⟩ := a6 (by omega)
      by_cases c3 : KDq s7 (65 + S.length) = 3
      · rw [if_pos c3]
        have := q2 (Or.inr c3)
        omega
      · rw [if_neg c3]
        have := q1 (by omega)
        omega
    · obtain ⟨q1, q2⟩ := a7 (by omega)
      by_cases c3 : KDq s7 (65 + S.length) = 3
      · rw [if_pos c3]
        exact q1 c3
      · rw [if_neg c3]
        exact q2 c3
  have hs9 : Hs9 ≤ Hs00 + 2 := by
    by_cases c : tkx σ x = 30
    · obtain ⟨q1, q2⟩ := a6 (by omega)
      have : KDq s7 (65 + S.length) = 0 ∨ KDq s7 (65 + S.length) = 1 ∨ KDq s7 (65 + S.length) = 2 ∨ KDq s7 (65 + S.length) = 3 := by omega
      rcases this with e | e | e | e
      · have := q2 (Or.inl e); omega
      · have := q1 (Or.inl e); omega
      · have := q1 (Or.inr e); omega
      · have := q2 (Or.inr e); omega
    · obtain ⟨q1, q2⟩ := a7 (by omega)
      by_cases c3 : KDq s7 (65 + S.length) = 3
      · have := q1 c3; omega
      · have := q2 c3; omega
  have h31 : tkx σ x ≠ 30 → 1 ≤ Hs9 := fun c => by
    obtain ⟨q1, q2⟩ := a7 (by omega)
    by_cases c3 : KDq s7 (65 + S.length) = 3
    · have := q1 c3; omega
    · have := q2 c3; omega
  clear a6 a7 a8
  generalize hBb : Hs00 + 7 * (1 + max (s7 (65 + S.length) 2).toInt.toNat (s7 (65 + (S.length + 1)) 2).toInt.toNat) = Bb
  have at0 := at_rf (n := S.length) r4 (bnd_join (bnd_le bl (Nat.le_refl _) (Nat.le_refl _) (by omega)) (bnd_le br (Nat.le_refl _) (Nat.le_refl _) (by omega)) (Nat.le_refl _) : BND g1 s00 (clen s7) Bb) h3
  refine sp_otop (n := S.length) (by rw [cnt]; rfl) (by omega) ?_
  have plcS : plc s7 S = plc σ S := plc_low S (low_le l1 (Nat.le_succ _))
  have kdl : KDq σ (65 + S.length) = KDq s7 (65 + S.length) := by
    unfold KDq
    rw [l1 S.length 0 (by show S.length < S.length + 1; omega)]
  have plcA : plc σ (iV :: iL (tkx σ x) :: S) = pk σ (65 + (iL (tkx σ x) :: S).length) + (pk σ (65 + S.length) + plc σ S) := by rw [plc_V, plc_L]
  refine ⟨fun _ => True, fun y0 _ _ => ⟨fun _ => True, fun y1 _ _ => ?_, fun _ => ⟨True, fun _ => trivial, fun _ => trivial, fun _ => ⟨True, fun _ => trivial, fun _ => trivial, fun _ => ⟨fun _ => trivial, fun _ => trivial⟩⟩⟩, fun _ => sk_fits trivial trivial⟩, True, fun _ => trivial, fun _ => trivial, fun _ => ⟨fun _ => trivial, fun _ => trivial⟩⟩
  have main : ∀ s99 : St, FF s7 s99 → ((s99 6 3).toInt = 0 → 1 ≤ KDq s7 (65 + S.length) ∧ KDq s7 (65 + S.length) ≤ 3) → ((∃ J119 : St → Prop, (∀ (s119 : St), J119 s119 → ((∃ J179 : St → Prop, (∀ (s179 : St), J179 s179 → (wk_X6_become (65 + S.length) (s179 (65 + S.length) 1) (0 : Int32) s179 (fun s187 => wk_X2_raise (65 + S.length) ((1 : Int32) + (if (s187 (65 + S.length) 2) < (s187 (65 + (iL (tkx σ x) :: S).length) 2) then (s187 (65 + (iL (tkx σ x) :: S).length) 2) else (s187 (65 + S.length) 2))) x s187 (fun s208 => Q s208)))) ∧ ((s119 (65 + S.length) 0).toInt ≠ 3 → (∃ J168 : Int32 → Prop, (∀ (y1_168 : Int32), J168 y1_168 → (wk_X0_emit y1_168 (s119 (65 + S.length) 4) (0 : Int32) (0 : Int32) s119 (fun v175 s175 => J179 s175))) ∧ ((s119 (65 + S.length) 0).toInt ≠ 1 → J168 (6 : Int32)) ∧ ((s119 (65 + S.length) 0).toInt = 1 → J168 (9 : Int32)))) ∧ ((s119 (65 + S.length) 0).toInt = 3 → wk_X2_lineOf x s119 (fun v136 => wk_X0_emit (19 : Int32) v136 (0 : Int32) (0 : Int32) s119 (fun v141 s141 => J179 s141)))))) ∧ (v2.toInt = 30 → J119 s99) ∧ (v2.toInt ≠ 30 → wk_X2_lineOf x s99 (fun v113 => wk_X2_operate (v2 + (10 : Int32)) (0 : Int32) v113 s99 (fun s116 => J119 s116))))) := by
    intro s99 ff hpl
    have at9 := at_ff at0 ff
    have f7 := (ff_k ff).2.2.2.2.2.1
    refine ⟨fun s => ∃ m, m ≤ 2 ∧ AT s7 s g1 X9 b L S.length s00 Bb (if KDq s7 (65 + S.length) = 3 then Hs00 + 2 else Hs00 + 1) m ∧ ((s 6 3).toInt = 0 → 1 ≤ KDq s7 (65 + S.length) ∧ KDq s7 (65 + S.length) ≤ 3), ?_, fun c30 => ⟨0, by omega, ?_, hpl⟩, fun c30 => sp_lineOf (fun vl => ?_)⟩
    · rintro s119 ⟨m, hm, at1, hp1⟩
      have at1' := at1
      obtain ⟨t1, t2, t3, t4, t5, t6, t7, t8⟩ := at1'
      clear t8
      have kd1 : KDq s119 (65 + S.length) = KDq s7 (65 + S.length) := by
        unfold KDq
        rw [t5 S.length 0 (by omega)]
      refine ⟨fun s => ∃ m', m' ≤ m + 2 ∧ AT s7 s g1 X9 b L S.length s00 Bb (Hs00 + 1) m' ∧ ((s 6 3).toInt = 0 → 1 ≤ KDq s7 (65 + S.length) ∧ KDq s7 (65 + S.length) ≤ 3), ?_, fun n3 => ⟨fun y => y = 6 ∨ y = 9, ?_, fun _ => Or.inl rfl, fun _ => Or.inr rfl⟩, fun c3 => sp_lineOf (fun vl => ?_)⟩
      · rintro s179 ⟨m', hm', at2, hp2⟩
        have at2' := at2
        obtain ⟨u1, u2, u3, u4, u5, u6, u7, u8⟩ := at2'
        clear u8
        refine sp_become (fun s187 r187 b0 b1 b6 bq => ?_)
        have q2 : s187 (65 + S.length) 2 = s7 (65 + S.length) 2 := (bq 2 (by decide) (by decide) (by decide) (by decide)).trans (u5 S.length 2 (by omega))
        have q2r : s187 (65 + (S.length + 1)) 2 = s7 (65 + (S.length + 1)) 2 := (r187 _ 2 (by omega)).trans (u5 (S.length + 1) 2 (by omega))
        have hv := hv_max (z := s187) (q1 := 65 + S.length) (q2 := 65 + (S.length + 1)) q2 q2r (by omega) (by omega)
        have e17 := clen_eq (σ := s179) (by omega)
        refine at_raise (s7 := s7) (s := s179) (g1 := g1) (Xs := X9) (s00 := s00) (Hs00 := Hs00) (Bb := Bb) (m := m') at2 (by omega) r187 ((bq 9 (by decide) (by decide) (by decide) (by decide)).trans (u5 S.length 9 (by omega))) (Or.inl b0) (by rw [b6]; decide) (by show 1 ≤ ((1 : Int32) + (if (s187 (65 + S.length) 2) < (s187 (65 + (S.length + 1)) 2) then (s187 (65 + (S.length + 1)) 2) else (s187 (65 + S.length) 2))).toInt; rw [hv]; omega) (by show Bb ≤ Hs00 + 7 * ((1 : Int32) + (if (s187 (65 + S.length) 2) < (s187 (65 + (S.length + 1)) 2) then (s187 (65 + (S.length + 1)) 2) else (s187 (65 + S.length) 2))).toInt.toNat; rw [hv]; omega) (by omega) k1 m1 (fun j hj => w1 j (by omega)) hs00 (by omega) (by omega) (fun c => by rw [fu] at c; exact c) (agr_le ag he0) cnt7 nc2 i1' i3' (fun cf => ?_) k
        have pz : pk s187 (65 + S.length) = 0 := by unfold pk; rw [b0]; rfl
        have pl1 : pk σ (65 + S.length) = 1 := by
          have := hp2 cf
          unfold pk
          rw [if_pos (by omega)]
        omega
      · have n3' : KDq s119 (65 + S.length) ≠ 3 := n3
        have fin : ∀ (yy : Int32) (kk : Nat), yy.toInt = kk → (kk = 6 ∨ kk = 9) → wk_X0_emit yy (s119 (65 + S.length) 4) (0 : Int32) (0 : Int32) s119 (fun v175 s175 => ∃ m', m' ≤ m + 2 ∧ AT s7 s175 g1 X9 b L S.length s00 Bb (Hs00 + 1) m' ∧ ((s175 6 3).toInt = 0 → 1 ≤ KDq s7 (65 + S.length) ∧ KDq s7 (65 + S.length) ≤ 3)) := fun yy kk hy hk => by
          refine sk_emit hy (by omega) (by omega) (by omega) (fun _ s175 _ em => ?_)
          have l2 : ln kk = 2 := by rcases hk with e | e <;> subst e <;> rfl
          have d0 : de kk = 0 := by rcases hk with e | e <;> subst e <;> rfl
          have p1 : po kk = 1 := by rcases hk with e | e <;> subst e <;> rfl
          refine ⟨m + ln kk, by omega, at_emit at1 em hy (by omega) (by omega) (fun _ => ?_), fun c => hp1 (by rw [← (em_k em).2.2.2.2.1]; exact c)⟩
          rw [if_neg (by rw [← kd1]; exact n3'), d0, p1]
          omega
        rintro y2 (e | e) <;> subst e
        · exact fin 6 6 rfl (Or.inl rfl)
        · exact fin 9 9 rfl (Or.inr rfl)
      · have c3' : KDq s119 (65 + S.length) = 3 := c3
        refine sk_emit (n := 19) rfl (by decide) (by omega) (by omega) (fun _ s141 _ em => ?_)
        have l2 : ln 19 = 2 := rfl
        refine ⟨m + ln 19, by omega, at_emit at1 em (k := 19) rfl (by decide) (Or.inl (by decide)) (fun _ => ?_), fun c => hp1 (by rw [← (em_k em).2.2.2.2.1]; exact c)⟩
        rw [if_pos (by rw [← kd1]; exact c3')]
        have d0 : de 19 = -1 := rfl
        have p1 : po 19 = 2 := rfl
        rw [d0, p1]
        omega
    · by_cases cf : (s99 6 3).toInt = 0
      · rw [← (hH (hpl cf)).1 (by omega)]
        exact at9
      · exact at_bad at9 cf
    · have e40 : (v2 + (10 : Int32)).toInt = (((tkx σ x).toNat + 10 : Nat) : Int) := by rw [ad0 (n := 10) (by decide) (by omega) (by omega)]; omega
      refine sp_operate (sg := (tkx σ x).toNat + 10) e40 (by omega) (by rw [f7]; exact h3) (by rw [f7]; omega) (fun n op a1' b1' c1' s105 hn n1 n2 em => ?_)
      have l12 : ∀ m, m < 61 → 41 ≤ m → 1 ≤ ln m ∧ ln m ≤ 2 := by decide
      have l3 := l12 n (by omega) n1
      have dn : de n = -1 := by unfold de; rw [if_pos n1]
      have pn : po n = 2 := by unfold po; rw [if_pos n1]
      have f5 : (s105 6 3) = (s99 6 3) := (em_k em).2.2.2.2.1
      have h31' := h31 (by omega)
      have atx := at_emit (H3 := Hs9) at9 em hn (by omega) (Or.inr n1) (fun _ => by rw [dn, pn]; omega)
      refine ⟨0 + ln n, by omega, ?_, fun c => hpl (by rw [← f5]; exact c)⟩
      by_cases cf : (s105 6 3).toInt = 0
      · rw [← (hH (hpl (by rw [← f5]; exact cf))).2 (by omega)]
        exact atx
      · exact at_bad atx cf
  refine sp_isPlace (fun np => ?_) (fun p => ?_)
  · exact ⟨fun s => FF s7 s ∧ ((s 6 3).toInt = 0 → 1 ≤ KDq s7 (65 + S.length) ∧ KDq s7 (65 + S.length) ≤ 3), fun s h => main s h.1 h.2, True, fun _ => sp_refuse (fun s hs hf => ⟨ff_of hs hf, fun c => absurd c hf⟩), fun _ => trivial, fun e => absurd rfl e⟩
  · exact ⟨fun s => FF s7 s ∧ ((s 6 3).toInt = 0 → 1 ≤ KDq s7 (65 + S.length) ∧ KDq s7 (65 + S.length) ≤ 3), fun s h => main s h.1 h.2, True, fun _ => sp_refuse (fun s hs hf => ⟨ff_of hs hf, fun c => absurd c hf⟩), fun _ => trivial, fun _ => ⟨fun _ => ⟨ff_rf, fun _ => p⟩, fun _ => trivial⟩⟩
end XAS
end

section
/-! steps of an expression: an index, a cast, a step up or down, a pointer, an address -/
section XIX
variable {σ s s7 z t : St} {g g' g1 : Gh} {CP CP' : Int → Nat → Prop} {X0 X Xs : Nat → Prop} {b e0 H0 L e H H' n q s00 Hs00 H2 H3 m Bb : Nat} {A B S : List It} {it : It} {x y : Int32}
theorem sk_pointed {Q : St → Prop} (hq : isOp q) (k : ∀ s13 z, FF σ s13 → RO q s13 z → KDq z q = 3 → (z q 6) = 0 → (∀ j, j ≠ 0 → j ≠ 1 → j ≠ 3 → j ≠ 5 → j ≠ 6 → z q j = s13 q j) → Q z) : wk_X2_pointed q x σ Q := by
  unfold wk_X2_pointed
  refine ⟨FF σ, fun s13 ff => sp_become (fun s21 r b0 b1 b6 bq => ?_), fun _ => ff_rf, fun _ => sp_refuse (fun s hs hf => ff_of hs hf)⟩
  rintro _ rfl
  refine sp_lineOf (fun v => ?_)
  rintro _ rfl
  refine k s13 _ ff (ro_tr r (ro_up (ro_up ro_rf))) ?_ ?_ (fun j j0 j1 j3 j5 j6 => ?_)
  · unfold KDq
    rw [rdA_ne (by decide), rdA_eq rfl]
    rfl
  · rw [rdA_ne (by decide), rdA_ne (by decide)]
    exact b6
  · rw [rdA_ne j5, rdA_ne j0]
    exact bq j j0 j1 j6 j3
theorem hv_one {z : St} {a : Int32} (e1 : z q 2 = a) (h1 : 0 ≤ a.toInt ∧ a.toInt ≤ 60) : ((1 : Int32) + (z q 2)).toInt = 1 + a.toInt := by
  rw [e1, ad (by rw [i1]; omega) (by rw [i1]; omega), i1]
theorem xs_index {Q : St → Prop} (h : XC σ g X0 b e0 H0 L (iV :: iL 24 :: S)) (cap : (σ 4 1).toInt ≤ 262150) (hS : S.length + 1 < 500) (k : ∀ s, XRs σ s g X0 b e0 H0 L (iV :: iL 24 :: S) (iV :: S) 3 → Q s) : wk_X2_index x σ Q := by
  have he0 := xc_e0 h
  have c0 := clen_eq h.2.2.1
  unfold wk_X2_index
  refine xc_pop (S := iL 24 :: S) h hS (by omega) (fun s7 g1 s9 Hs9 X9 k1 m1 l1 f1 hi w1 ag va cnt he hc hc2 h3 fu => ?_)
  obtain ⟨nc, r1, r2, r3, r4, ⟨v1, -, -, ⟨v4, v5⟩, v6⟩, v7⟩ := va
  obtain ⟨nc2, s00, Hs00, Xs, i1', i2', i3', i4', a1, a2, a3, a4, a5, a6, a7, a8⟩ := rlx_Li r1
  clear a4
  have b5 := a5 (by decide)
  subst b5
  obtain ⟨b1, b2⟩ := a8 (Or.inl rfl)
  clear a6 a7 a8
  have hs00 := (rlx_typ S _ _ _ i1').2
  have e1 := clen_eq h3
  have pk1 := pkq_le (σ := σ) (q := 65 + (iL 24 :: S).length)
  have okl := a1.1
  unfold HOK at okl
  have okr : 1 ≤ (s7 (65 + (S.length + 1)) 2).toInt ∧ (s7 (65 + (S.length + 1)) 2).toInt ≤ 60 := v4
  have br : BND g1 s9 (clen s7) (Hs9 + 7 * (s7 (65 + (S.length + 1)) 2).toInt.toNat) := v5
  have bl : BND g1 s00 s9 (Hs00 + 7 * (s7 (65 + S.length) 2).toInt.toNat) := a1.2
  have cnt7 : (s7 7 7).toInt = S.length + 1 := cnt
  generalize hBb : Hs00 + 7 * (1 + max (s7 (65 + S.length) 2).toInt.toNat (s7 (65 + (S.length + 1)) 2).toInt.toNat) = Bb
  have at0 := at_rf (n := S.length) r4 (bnd_join (bnd_le bl (Nat.le_refl _) (Nat.le_refl _) (by omega)) (bnd_le br (Nat.le_refl _) (Nat.le_refl _) (by omega)) (Nat.le_refl _) : BND g1 s00 (clen s7) Bb) h3
  have plcS : plc s7 S = plc σ S := plc_low S (low_le l1 (Nat.le_succ _))
  have plcA : pk σ (65 + (iL 24 :: S).length) + plc σ S ≤ plc σ (iV :: iL 24 :: S) := by
    rw [plc_V]
    have := plc_ge (σ := σ) (A := S) (it := iL 24)
    omega
  have hop := isOp_at (n := S.length) (by omega)
  refine sp_otop (n := S.length) (by rw [cnt]; rfl) (by omega) ?_
  refine ⟨FF s7, fun s22 ff => ?_, fun _ => ff_rf, fun _ => sp_refuse (fun s hs hf => ff_of hs hf)⟩
  have f7 := (ff_k ff).2.2.2.2.2.1
  refine sk_emit (n := 43) rfl (by decide) (by rw [f7]; exact h3) (by rw [f7]; omega) (fun _ s31 _ em => ?_)
  have l1' : ln 43 = 1 := rfl
  have at1 := at_emit (H3 := Hs00 + 1) (at_ff at0 ff) em (k := 43) rfl (by decide) (Or.inr (by decide)) (fun _ => by
    have d : de 43 = -1 := rfl
    have p : po 43 = 2 := rfl
    rw [d, p]
    omega)
  refine sk_pointed hop (fun s13 z ff2 rz z0 z6 zq => ?_)
  have at2 := at_ff at1 ff2
  have at2' := at2
  obtain ⟨u1, u2, u3, u4, u5, u6, u7, u8⟩ := at2'
  clear u8
  have q2 : z (65 + S.length) 2 = s7 (65 + S.length) 2 := (zq 2 (by decide) (by decide) (by decide) (by decide) (by decide)).trans (u5 S.length 2 (by omega))
  have q2r : z (65 + (S.length + 1)) 2 = s7 (65 + (S.length + 1)) 2 := (rz _ 2 (by omega)).trans (u5 (S.length + 1) 2 (by omega))
  have hv := hv_max (z := z) (q1 := 65 + S.length) (q2 := 65 + (S.length + 1)) q2 q2r (by omega) (by omega)
  have e17 := clen_eq (σ := s13) (by omega)
  refine at_raise (s7 := s7) (s := s13) (g1 := g1) (Xs := X9) (s00 := s00) (Hs00 := Hs00) (Bb := Bb) at2 (by omega) rz ((zq 9 (by decide) (by decide) (by decide) (by decide) (by decide)).trans (u5 S.length 9 (by omega))) (Or.inr z0) (by rw [z6]; decide) (by show 1 ≤ ((1 : Int32) + (if (z (65 + S.length) 2) < (z (65 + (S.length + 1)) 2) then (z (65 + (S.length + 1)) 2) else (z (65 + S.length) 2))).toInt; rw [hv]; omega) (by show Bb ≤ Hs00 + 7 * ((1 : Int32) + (if (z (65 + S.length) 2) < (z (65 + (S.length + 1)) 2) then (z (65 + (S.length + 1)) 2) else (z (65 + S.length) 2))).toInt.toNat; rw [hv]; omega) (by omega) k1 m1 (fun j hj => w1 j (by omega)) hs00 (by omega) (by omega) (fun c => by rw [fu] at c; exact c) (agr_le ag he0) cnt7 nc2 i1' i3' (fun cf => ?_) k
  have pz := pkq_le (σ := z) (q := 65 + S.length)
  omega
theorem xs_cast {Q : St → Prop} (h : XC σ g X0 b e0 H0 L (iV :: S)) (cap : (σ 4 1).toInt ≤ 262150) (hS : S.length < 500) (k : ∀ s, XRs σ s g X0 b e0 H0 L (iV :: S) (iV :: S) 0 → Q s) : wk_X2_cast x y σ Q := by
  have he0 := xc_e0 h
  have c0 := clen_eq h.2.2.1
  unfold wk_X2_cast
  refine sp_otop (n := S.length) (by rw [h.1]; rfl) hS (xc_loaded h hS (by omega) (fun s7 g1 s00 Hs00 X9 ld ag va he hc h3 => ?_))
  obtain ⟨nc2, r1, r2, r3, r4, ⟨v1, -, -, ⟨v4, v5⟩, v6⟩, v7⟩ := va
  have e1 := clen_eq h3
  have pk1 := pkq_le (σ := σ) (q := 65 + S.length)
  have okl := v4
  unfold HOK at okl
  have ldl := ld.2.2.2.2.2.1
  generalize hBb : Hs00 + 7 * (1 + (s7 (65 + S.length) 2).toInt.toNat) = Bb
  have v5' : BND g1 s00 (clen s7) (Hs00 + 7 * (s7 (65 + S.length) 2).toInt.toNat) := v5
  have at0 := at_rf (n := S.length) r4 (bnd_le v5' (Nat.le_refl _) (Nat.le_refl _) (by omega) : BND g1 s00 (clen s7) Bb) h3
  have plcS : plc s7 S = plc σ S := plc_low S (lds_low ld (Nat.le_refl _))
  have plcA : plc σ (iV :: S) = pk σ (65 + S.length) + plc σ S := plc_V
  refine ⟨FF s7, fun s22 ff => sp_become (fun z rz b0 b1 b6 bq => ?_), fun _ => ff_rf, fun _ => sp_refuse (fun s hs hf => ff_of hs hf)⟩
  have at2 := at_ff at0 ff
  have at2' := at2
  obtain ⟨u1, u2, u3, u4, u5, u6, u7, u8⟩ := at2'
  clear u8
  have q2 : z (65 + S.length) 2 = s7 (65 + S.length) 2 := (bq 2 (by decide) (by decide) (by decide) (by decide)).trans (u5 S.length 2 (by omega))
  have hv := hv_one (q := 65 + S.length) q2 (by omega)
  have e17 := clen_eq (σ := s22) (by omega)
  refine at_raise (s7 := s7) (s := s22) (g1 := g1) (Xs := X9) (s00 := s00) (Hs00 := Hs00) (Bb := Bb) at2 (by omega) rz ((bq 9 (by decide) (by decide) (by decide) (by decide)).trans (u5 S.length 9 (by omega))) (Or.inl b0) (by rw [b6]; decide) (by rw [hv]; omega) (by rw [hv]; omega) (by omega) (lds_k ld) (lds_m ld ⟨by omega, by omega⟩) (fun j hj => ld.2.2.2.2.1 j (by omega)) he (by omega) (by omega) (fun c => by rw [ld.2.1 6 3 (by omega) (by decide) (by decide)] at c; exact c) (agr_le ag he0) (by rw [ld.2.1 7 7 (by omega) (by decide) (by decide), h.1]; rfl) nc2 r1 r3 (fun cf => ?_) k
  have pz : pk z (65 + S.length) = 0 := by unfold pk; rw [b0]; rfl
  omega
/-- the sign ++ or -- -/
theorem xs_step {Q : St → Prop} (h : XC σ g X0 b e0 H0 L (iV :: S)) (cap : (σ 4 1).toInt ≤ 262150) (hS : S.length < 500) (k : ∀ s, XRs σ s g X0 b e0 H0 L (iV :: S) (iV :: S) 2 → Q s) : wk_X2_step (65 + S.length) x y σ Q := by
  have he0 := xc_e0 h
  have c0 := clen_eq h.2.2.1
  have h3 := h.2.2.1
  have hcnt := h.1
  obtain ⟨-, -, -, H, X, h4⟩ := h
  obtain ⟨nc2, s00, Hs00, r1, r2, r3, r4, v1, v2, v3, ⟨v4, v5⟩, v6⟩ := rlx_Vi h4
  have hs00 := (rlx_typ S _ _ _ r1).2
  have okl := v4
  unfold HOK at okl
  have v5' : BND g s00 (clen σ) (Hs00 + 7 * (σ (65 + S.length) 2).toInt.toNat) := v5
  generalize hBb : Hs00 + 7 * (1 + (σ (65 + S.length) 2).toInt.toNat) = Bb
  have at0 := at_rf (n := S.length) r4 (bnd_le v5' (Nat.le_refl _) (Nat.le_refl _) (by omega) : BND g s00 (clen σ) Bb) h3
  have plcA : plc σ (iV :: S) = pk σ (65 + S.length) + plc σ S := plc_V
  unfold wk_X2_step
  have main : ∀ s12 : St, FF σ s12 → ((s12 6 3).toInt = 0 → 1 ≤ KDq σ (65 + S.length) ∧ KDq σ (65 + S.length) ≤ 3) → (wk_X2_kindOf x s12 (fun v14 => (∃ J27 : Int32 → Prop, (∀ (y0_27 : Int32), J27 y0_27 → ((∃ J39 : Int32 → Prop, (∀ (y0_39 : Int32), J39 y0_39 → ((∃ J102 : St → Prop, (∀ (s102 : St), J102 s102 → (wk_X6_become (65 + S.length) (s102 (65 + S.length) 1) (0 : Int32) s102 (fun s108 => wk_X2_raise (65 + S.length) ((1 : Int32) + (s108 (65 + S.length) 2)) x s108 (fun s120 => Q s120)))) ∧ ((s12 (65 + S.length) 0).toInt ≠ 3 → (∃ J90 : Int32 → Prop, (∀ (y1_90 : Int32), J90 y1_90 → (wk_X0_emit y1_90 (s12 (65 + S.length) 4) y0_27 y0_39 s12 (fun v98 s98 => J102 s98))) ∧ ((s12 (65 + S.length) 0).toInt ≠ 1 → J90 (7 : Int32)) ∧ ((s12 (65 + S.length) 0).toInt = 1 → J90 (10 : Int32)))) ∧ ((s12 (65 + S.length) 0).toInt = 3 → wk_X2_lineOf x s12 (fun v57 => wk_X0_emit (20 : Int32) v57 y0_27 y0_39 s12 (fun v64 s64 => J102 s64)))))) ∧ (y.toInt = 0 → J39 (0 : Int32)) ∧ (y.toInt ≠ 0 → J39 y0_27)))) ∧ (v14.toInt ≠ 61 → J27 ((-1) : Int32)) ∧ (v14.toInt = 61 → J27 (1 : Int32))))) := by
    intro s12 ff hpl
    have at1 := at_ff at0 ff
    have f7 := (ff_k ff).2.2.2.2.2.1
    have kd1 : KDq s12 (65 + S.length) = KDq σ (65 + S.length) := by
      unfold KDq
      rw [ff.1 _ 0 (by omega)]
    refine sp_kindOf (fun v14 _ => ⟨fun _ => True, fun y27 _ => ⟨fun _ => True, fun y39 _ => ?_, fun _ => trivial, fun _ => trivial⟩, fun _ => trivial, fun _ => trivial⟩)
    refine ⟨fun s => ∃ m', m' ≤ 4 ∧ AT σ s g X b L S.length s00 Bb (Hs00 + 1) m' ∧ ((s 6 3).toInt = 0 → 1 ≤ KDq σ (65 + S.length) ∧ KDq σ (65 + S.length) ≤ 3), ?_, fun n3 => ⟨fun y => y = 7 ∨ y = 10, ?_, fun _ => Or.inl rfl, fun _ => Or.inr rfl⟩, fun c3 => sp_lineOf (fun vl => ?_)⟩
    · rintro s179 ⟨m', hm', at2, hp2⟩
      have at2' := at2
      obtain ⟨u1, u2, u3, u4, u5, u6, u7, u8⟩ := at2'
      clear u8
      refine sp_become (fun z rz b0 b1 b6 bq => ?_)
      have q2 : z (65 + S.length) 2 = σ (65 + S.length) 2 := (bq 2 (by decide) (by decide) (by decide) (by decide)).trans (u5 S.length 2 (by omega))
      have hv := hv_one (q := 65 + S.length) q2 (by omega)
      have e17 := clen_eq (σ := s179) (by omega)
      refine at_raise (s7 := σ) (s := s179) (g1 := g) (Xs := X) (s00 := s00) (Hs00 := Hs00) (Bb := Bb) at2 (by omega) rz ((bq 9 (by decide) (by decide) (by decide) (by decide)).trans (u5 S.length 9 (by omega))) (Or.inl b0) (by rw [b6]; decide) (by rw [hv]; omega) (by rw [hv]; omega) hS ko_rf mks_rf (fun _ _ => rfl) hs00 r2 (by omega) id agr_rf (by rw [hcnt]; rfl) nc2 r1 r3 (fun cf => ?_) k
      have pz : pk z (65 + S.length) = 0 := by unfold pk; rw [b0]; rfl
      have pl1 : pk σ (65 + S.length) = 1 := by
        have := hp2 cf
        unfold pk
        rw [if_pos (by omega)]
      omega
    · have n3' : KDq s12 (65 + S.length) ≠ 3 := n3
      have fin : ∀ (yy : Int32) (kk : Nat), yy.toInt = kk → (kk = 7 ∨ kk = 10) → wk_X0_emit yy (s12 (65 + S.length) 4) y27 y39 s12 (fun v98 s98 => ∃ m', m' ≤ 4 ∧ AT σ s98 g X b L S.length s00 Bb (Hs00 + 1) m' ∧ ((s98 6 3).toInt = 0 → 1 ≤ KDq σ (65 + S.length) ∧ KDq σ (65 + S.length) ≤ 3)) := fun yy kk hy hk => by
        refine sk_emit hy (by omega) (by rw [f7]; exact h3) (by rw [f7]; omega) (fun _ s175 _ em => ?_)
        have l2 : ln kk = 4 := by rcases hk with e | e <;> subst e <;> rfl
        have d0 : de kk = 1 := by rcases hk with e | e <;> subst e <;> rfl
        have p1 : po kk = 0 := by rcases hk with e | e <;> subst e <;> rfl
        have f5 : (s175 6 3) = (s12 6 3) := (em_k em).2.2.2.2.1
        refine ⟨0 + ln kk, by omega, at_emit at1 em hy (by omega) (by omega) (fun cf => ?_), fun c => hpl (by rw [← f5]; exact c)⟩
        have := hpl cf
        have := v2 (by omega)
        rw [d0, p1]
        omega
      rintro y2 (e | e) <;> subst e
      · exact fin 7 7 rfl (Or.inl rfl)
      · exact fin 10 10 rfl (Or.inr rfl)
    · have c3' : KDq s12 (65 + S.length) = 3 := c3
      refine sk_emit (n := 20) rfl (by decide) (by rw [f7]; exact h3) (by rw [f7]; omega) (fun _ s141 _ em => ?_)
      have l2 : ln 20 = 4 := rfl
      have f5 : (s141 6 3) = (s12 6 3) := (em_k em).2.2.2.2.1
      refine ⟨0 + ln 20, by omega, at_emit at1 em (k := 20) rfl (by decide) (Or.inl (by decide)) (fun _ => ?_), fun c => hpl (by rw [← f5]; exact c)⟩
      have := v3 (Or.inr (by omega))
      have d0 : de 20 = 0 := rfl
      have p1 : po 20 = 1 := rfl
      rw [d0, p1]
      omega
  refine sp_isPlace (fun np => ?_) (fun p => ?_)
  · exact ⟨fun s => FF σ s ∧ ((s 6 3).toInt = 0 → 1 ≤ KDq σ (65 + S.length) ∧ KDq σ (65 + S.length) ≤ 3), fun s h => main s h.1 h.2, fun e => absurd rfl e, fun _ => sp_refuse (fun s hs hf => ⟨ff_of hs hf, fun c => absurd c hf⟩)⟩
  · exact ⟨fun s => FF σ s ∧ ((s 6 3).toInt = 0 → 1 ≤ KDq σ (65 + S.length) ∧ KDq σ (65 + S.length) ≤ 3), fun s h => main s h.1 h.2, fun _ => ⟨ff_rf, fun _ => p⟩, fun e => absurd e (by decide)⟩
end XIX
end

section
/-! steps of an expression: signs before an operand -/
section XUN
variable {σ s s7 z t : St} {g g' g1 : Gh} {CP CP' : Int → Nat → Prop} {X0 X Xs : Nat → Prop} {b e0 H0 L e H H' n q s00 Hs00 H2 H3 m Bb : Nat} {A B S : List It} {it : It} {x y : Int32}
theorem at_row (h : AT s7 s g1 Xs b L n s00 Bb H2 m) (k : Kp [] [43] s t) : AT s7 t g1 Xs b L n s00 Bb H2 m := by
  obtain ⟨h1, h2, h3, h4, h5, h6, h7, h8⟩ := h
  have fc : (t 4 1) = (s 4 1) := k 4 1 rfl rfl
  have fw : (t 24) = (s 24) := funext (fun j => k 24 j rfl rfl)
  have ec : clen t = clen s := by unfold clen; rw [fc]
  have fk : KXE s t := ko_sub (ko_kp k) rfl rfl
  have fm : MKs s t := mks_eq (funext (fun j => k 25 j rfl rfl)) (funext (fun j => k 39 j rfl rfl))
  have ff : (t 6 3) = (s 6 3) := k 6 3 rfl rfl
  refine ⟨ko_tr h1 fk, mks_tr h2 fm, fun j hj => by rw [fw]; exact h3 j hj, by rw [fc]; exact h4, low_tr h5 (low_kp k rfl rfl), (k 7 7 rfl rfl).trans h6, fun c => h7 (by rw [← ff]; exact c), fun c => ?_⟩
  obtain ⟨g2, a1, a2, a3⟩ := h8 (by rw [← ff]; exact c)
  exact ⟨g2, a1, by rw [fw, ec]; exact typ_mono (fun _ _ => rfl) agr_rf (cpu_mono fk fm) (fun _ h => h) a2, by rw [ec]; exact a3⟩
/-- a place becomes the pointer to it -/
theorem sk_address {Q : St → Prop} (hq : isOp q) (h0 : 0 ≤ (σ 4 1).toInt) (h1 : (σ 4 1).toInt < 262200) (k : ∀ s75 z, ((KDq σ q = 1 ∨ KDq σ q = 2) → ∃ (σ' : St) (nn : Nat) (op a1 a2 a3 : Int32), Kp [] [43] σ σ' ∧ op.toInt = nn ∧ (nn = 14 ∨ nn = 4) ∧ EMi σ' s75 op a1 a2 a3) → (¬ (KDq σ q = 1 ∨ KDq σ q = 2) → s75 = σ) → RO q s75 z → KDq z q = 0 → (z q 6).toInt ≠ 1 → (∀ j, j ≠ 0 → j ≠ 1 → j ≠ 3 → j ≠ 6 → j ≠ 7 → j ≠ 8 → z q j = s75 q j) → Q z) : wk_X2_address q σ Q := by
  unfold wk_X2_address
  have fin : ∀ s75, ((KDq σ q = 1 ∨ KDq σ q = 2) → ∃ (σ' : St) (nn : Nat) (op a1 a2 a3 : Int32), Kp [] [43] σ σ' ∧ op.toInt = nn ∧ (nn = 14 ∨ nn = 4) ∧ EMi σ' s75 op a1 a2 a3) → (¬ (KDq σ q = 1 ∨ KDq σ q = 2) → s75 = σ) → ∀ y2 : Int32, (y2 = 0 ∨ y2 = 2) → wk_X6_become q ((s75 q 1) + (1 : Int32)) y2 s75 (fun s91 => (∀ s4n : St, s4n = upC s91 q 7 (s91 q 4) → (∀ s6n : St, s6n = upC s4n q 8 (0 : Int32) → Q s6n))) := by
    intro s75 e1 e2 y2 hy
    refine sp_become (fun s91 r b0 b1 b6 bq => ?_)
    rintro _ rfl _ rfl
    refine k s75 _ e1 e2 (ro_tr r (ro_up (ro_up ro_rf))) ?_ ?_ (fun j j0 j1 j3 j6 j7 j8 => ?_)
    · unfold KDq
      rw [rdA_ne (by decide), rdA_ne (by decide)]
      exact b0
    · rw [rdA_ne (by decide), rdA_ne (by decide), b6]
      rcases hy with e | e <;> subst e <;> decide
    · rw [rdA_ne j8, rdA_ne j7]
      exact bq j j0 j1 j6 j3
  refine ⟨fun y => y.toInt ≠ 0 ↔ KDq σ q = 2, ?_, fun c => ⟨fun h => absurd rfl h, fun h => absurd h c⟩, fun c => ⟨fun _ => c, fun _ => by decide⟩⟩
  intro y hy hy2
  refine ⟨fun s75 => ((KDq σ q = 1 ∨ KDq σ q = 2) → ∃ (σ' : St) (nn : Nat) (op a1 a2 a3 : Int32), Kp [] [43] σ σ' ∧ op.toInt = nn ∧ (nn = 14 ∨ nn = 4) ∧ EMi σ' s75 op a1 a2 a3) ∧ (¬ (KDq σ q = 1 ∨ KDq σ q = 2) → s75 = σ), ?_, fun c1 => ⟨fun cy => ?_, fun cy => ?_⟩, fun c1 => ?_⟩
  · rintro s75 ⟨e1, e2⟩
    refine ⟨fun y2 => y2 = 0 ∨ y2 = 2, fun y2 h => fin s75 e1 e2 y2 h, fun _ => Or.inl rfl, fun _ => Or.inr rfl⟩
  · have n2 : KDq σ q ≠ 2 := fun h => (hy2.mpr h) cy
    have n1 : KDq σ q ≠ 1 := c1
    exact ⟨fun h => h.elim (fun h => absurd h n1) (fun h => absurd h n2), fun _ => rfl⟩
  · have c2 : KDq σ q = 2 := hy2.mp cy
    exact sk_emit (n := 4) rfl (by decide) h0 (by omega) (fun _ s _ em => ⟨fun _ => ⟨σ, 4, _, _, _, _, kp_rf, rfl, Or.inr rfl, em⟩, fun h => absurd (Or.inr c2) h⟩)
  · have c2 : KDq σ q = 1 := c1
    have kp : Kp [] [43] σ (upF σ 43 (setv 100 (σ 43) (σ q 4) (1 : Int32))) := kp_F kp_rf rfl
    have el : ((upF σ 43 (setv 100 (σ 43) (σ q 4) (1 : Int32))) 4 1) = (σ 4 1) := kp 4 1 rfl rfl
    exact sk_emit (n := 14) rfl (by decide) (by rw [el]; exact h0) (by rw [el]; omega) (fun _ s _ em => ⟨fun _ => ⟨_, 14, _, _, _, _, kp, rfl, Or.inl rfl, em⟩, fun h => absurd (Or.inl c2) h⟩)
/-- a constant may be one instruction; then the height -/
theorem un_tail {Q : St → Prop} {s124 : St} {g1 : Gh} {c : Nat} (hS : S.length < 500) (k1 : KXE σ s) (m1 : MKs σ s) (w1 : ∀ j, j < e0 → (s 24) j = (σ 24) j) (he : e0 ≤ s00) (h0 : 0 ≤ (s 4 1).toInt) (hl : (s 4 1).toInt ≤ (σ 4 1).toInt + 8) (cap : (σ 4 1).toInt ≤ 262150) (hf : (s 6 3).toInt = 0 → (σ 6 3).toInt = 0) (ag : AGR g g1 e0) (cnt : (s 7 7).toInt = S.length + 1) (nc : NC S) (hR : RLx s g1 (CPu s) X0 b e0 H0 L S s00 Hs00 X) (st : (s (65 + S.length) 9).toInt = s00) (hle : s00 ≤ clen s) (T : TYp (s 24) g1 (CPu s) X b (clen s) (Hs00 + 1) L)
    (ok : HOK s (65 + S.length)) (bd : BND g1 s00 (clen s) (Hs00 + 7 * (1 + (s (65 + S.length) 2).toInt.toNat))) (r : RO (65 + S.length) s s124) (b0 : KDq s124 (65 + S.length) = 0) (q9 : s124 (65 + S.length) 9 = s (65 + S.length) 9) (q2 : s124 (65 + S.length) 2 = s (65 + S.length) 2) (fm : (s124 (65 + S.length) 6).toInt = 1 → s00 + 2 ≤ clen s) (cost : clen s + 2 * plc s S ≤ clen σ + 2 * plc σ A + c)
    (k : ∀ z, XRs σ z g X0 b e0 H0 L A (iV :: S) c → Q z) : wk_X2_fold (65 + S.length) s124 (fun s130 => wk_X2_raise (65 + S.length) ((1 : Int32) + (s130 (65 + S.length) 2)) x s130 (fun s151 => Q s151)) := by
  have hop := isOp_at (n := S.length) (by omega)
  have en := clen_eq h0
  have kk : KXE s s124 := ro_ko r hop
  have mm : MKs s s124 := ro_mks r (by omega) (by omega)
  have cl : (s124 4 1) = (s 4 1) := r 4 1 (by omega)
  have wd : (s124 24) = (s 24) := funext (fun j => r 24 j (by omega))
  have e124 : clen s124 = clen s := by unfold clen; rw [cl]
  have low : LOW S.length s s124 := ro_low r (Nat.le_refl _)
  have cm := cpu_mono kk mm
  have xz : (s124 27) = (s 27) := funext (fun j => r 27 j (by omega))
  have R1 : RLx s124 g1 (CPu s124) X0 b e0 H0 L S s00 Hs00 X := rlx_mono cm xz S _ _ _ (fun j _ => by rw [wd]) agr_rf low (Or.inl nc) hR
  have T1 : TYp (s124 24) g1 (CPu s124) X b (clen s124) (Hs00 + 1) L := by rw [wd, e124]; exact typ_mono (fun _ _ => rfl) agr_rf cm (fun _ h => h) T
  have ok' := ok
  unfold HOK at ok'
  have hv : ∀ z : St, z (65 + S.length) 2 = s124 (65 + S.length) 2 → ((1 : Int32) + (z (65 + S.length) 2)).toInt = 1 + (s (65 + S.length) 2).toInt := fun z e1 => hv_one (q := 65 + S.length) (e1.trans q2) (by omega)
  refine sp_fold (by rw [cl]; exact h0) (by rw [cl]; omega) (fun c => ?_) (by omega) ?_ (fun s1 z v c k1' e1 em => ?_)
  · rw [q9, cl, st]
    omega
  · have hv1 := hv s124 rfl
    refine fin_raise (s0 := s00) (Hs := Hs00) (X := X) (g' := g1) (by omega) (ko_tr k1 kk) (mks_tr m1 mm) (fun j hj => by rw [wd]; exact w1 j hj) he (by rw [e124]; exact hle) (by rw [cl]; exact h0) (by rw [cl]; omega) (fun hf0 => hf (by rw [r 6 3 (by omega)] at hf0; exact hf0)) ag (by rw [r 7 7 (by omega)]; exact cnt) nc R1 (by rw [q9]; exact st) T1 (Or.inl b0) (by rw [hv1]; omega) ?_ (fun c => ⟨b0, by rw [e124]; exact fm c⟩) ?_ k
    · rw [hv1, e124]
      exact bnd_le bd (Nat.le_refl _) (Nat.le_refl _) (by omega)
    · have p1 : pk s124 (65 + S.length) = 0 := by unfold pk; rw [b0]; rfl
      have p2 : plc s124 S = plc s S := plc_low S low
      omega
  · have hs1 : ∀ c j, c ≠ 4 → s1 c j = s124 c j := fun c j hc => k1' c j (by
      simp only [List.contains_cons, List.contains_nil, Bool.or_false]
      cases z : ((c, j) == ((4 : Nat), (1 : Nat))) with
      | false => rfl
      | true => exact absurd (congrArg Prod.fst (eq_of_beq z)) hc) rfl
    have l1 : (s1 4 1).toInt = s00 := by rw [e1, q9, st]
    have cl1 : clen s1 = s00 := by
      have := clen_eq (σ := s1) (by omega)
      omega
    have zc : ∀ c j, c ≠ 4 → c ≠ 24 → z c j = s124 c j := fun c j h4 h24 => (em_cells em c j h4 h24).trans (hs1 c j h4)
    have ecz : clen z = s00 + 2 := by
      have := em_clen em (n := 1) rfl (by omega)
      have l2 : ln 1 = 2 := rfl
      omega
    have lz : (z 4 1).toInt = s00 + 2 := by
      have := em.2.1
      rw [l1] at this
      exact this
    have ws : ∀ j, j < s00 → (z 24) j = (s 24) j := fun j hj => by
      rw [em.2.2.1 j (by omega)]
      show s1 24 j = _
      rw [hs1 24 j (by decide)]
      show s124 24 j = _
      exact r 24 j (by omega)
    have w0 : (z 24) s00 = 1 := by rw [← cl1]; exact em.2.2.2.1
    have k2 : KXE s z := ko_tr kk (ko_tr (ko_sub (ko_kp k1') rfl rfl) (ko_sub (ko_kp em.1) rfl rfl))
    have m2 : MKs s z := mks_eq (funext (fun j => (zc 25 j (by decide) (by decide)).trans (r 25 j (by omega)))) (funext (fun j => (zc 39 j (by decide) (by decide)).trans (r 39 j (by omega))))
    have cm2 := cpu_mono k2 m2
    have low2 : LOW S.length s z := fun j k hj => (zc _ k (by omega) (by omega)).trans (r _ k (by omega))
    have T0 := (rlx_typ S _ _ _ hR).1
    obtain ⟨g2, T2, ag2, gi2⟩ := typ_pl (w' := (z 24)) (n := 1) (H' := Hs00 + 1) (typ_mono (fun q _ => rfl) agr_rf cm2 (fun _ z => z) T0) (fun q hq => ws q hq) (by rw [w0]; rfl) (by decide) (by decide) (by omega) (by show 0 ≤ Hs00; omega) (by show ((Hs00 + 1 : Nat) : Int) = Hs00 + 1; omega)
    have l2 : ln 1 = 2 := rfl
    rw [l2] at T2 gi2
    have zq : ∀ j, z (65 + S.length) j = s124 (65 + S.length) j := fun j => zc _ j (by omega) (by omega)
    have hv1 := hv z (zq 2)
    have f00 := fm c
    refine fin_raise (s0 := s00) (Hs := Hs00) (X := X) (g' := g2) (by omega) (ko_tr k1 k2) (mks_tr m1 m2) (fun j hj => by rw [ws j (by omega)]; exact w1 j hj) he (by omega) (by omega) (by omega) (fun hf0 => hf (by rw [zc 6 3 (by decide) (by decide), r 6 3 (by omega)] at hf0; exact hf0)) (agr_tr ag (agr_le ag2 he) (Nat.le_refl _)) (by rw [zc 7 7 (by decide) (by decide), r 7 7 (by omega)]; exact cnt) nc (rlx_mono cm2 (funext (fun j => (zc 27 j (by decide) (by decide)).trans (r 27 j (by omega)))) S _ _ _ (fun j hj => ws j hj) (agr_le ag2 (Nat.le_refl _)) low2 (Or.inl nc) hR) (by rw [zq, q9]; exact st) (by rw [ecz]; exact T2) (Or.inl (by unfold KDq; rw [zq]; exact b0)) (by rw [hv1]; omega) ?_ (fun _ => ⟨by unfold KDq; rw [zq]; exact b0, by omega⟩) ?_ k
    · rw [hv1, ecz]
      exact bnd_ext (bnd_one (L := L) T0.2.1 (by omega)) ag2 gi2 T2.2.1 (by omega)
    · have p1 : pk z (65 + S.length) = 0 := by
        have : KDq z (65 + S.length) = 0 := by unfold KDq; rw [zq]; exact b0
        unfold pk
        rw [this]
        rfl
      have p2 : plc z S = plc s S := plc_low S low2
      omega
end XUN
end

