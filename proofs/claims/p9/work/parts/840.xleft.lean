/-! steps of an expression: behind a left side -/
section XLE
variable {σ s t : St} {g g' : Gh} {CP CP' : Int → Nat → Prop} {X0 X Xs : Nat → Prop} {b e0 H0 L e H H' n q s0 Hs : Nat} {A B S : List It} {it : It} {x y : Int32}
theorem pkq_le : pk σ q ≤ 1 := by
  unfold pk
  split <;> omega
theorem xc_e0 (h : XC σ g X0 b e0 H0 L A) : e0 ≤ clen σ := by
  obtain ⟨-, -, -, H9, X9, h9⟩ := h
  exact (rlx_typ _ _ _ _ h9).2
/-- a fetched place -/
theorem sp_fetch {Q : St → Prop} (h0 : 0 ≤ (σ 4 1).toInt) (h1 : (σ 4 1).toInt < 262200) (k0 : ¬ (1 ≤ KDq σ q ∧ KDq σ q ≤ 3) → Q σ) (k1 : ∀ (n : Nat) (op a b c : Int32) s, op.toInt = n → (KDq σ q = 3 ∧ n = 21 ∨ (KDq σ q = 1 ∨ KDq σ q = 2) ∧ (n = 5 ∨ n = 8)) → EMi σ s op a b c → Q s) : wk_X2_fetch q x σ Q := by
  unfold wk_X2_fetch
  refine ⟨fun n3 => sp_isPlace (fun np => ⟨fun _ => k0 np, fun e => absurd rfl e⟩) (fun p => ⟨fun e => absurd e (by decide), fun _ => ?_⟩), fun c3 => ?_⟩
  · have n3' : KDq σ q ≠ 3 := n3
    refine ⟨fun y => y = 5 ∨ y = 8, ?_, fun _ => Or.inl rfl, fun _ => Or.inr rfl⟩
    rintro y hy
    have hy2 : ∃ n : Nat, y.toInt = n ∧ (n = 5 ∨ n = 8) := by
      rcases hy with e | e <;> subst e
      · exact ⟨5, rfl, Or.inl rfl⟩
      · exact ⟨8, rfl, Or.inr rfl⟩
    obtain ⟨n, hn, hn2⟩ := hy2
    exact sk_emit hn (by omega) h0 (by omega) (fun v s _ em => k1 n y _ _ _ s hn (Or.inr ⟨by omega, hn2⟩) em)
  · have c3' : KDq σ q = 3 := c3
    exact sk_emit (n := 21) rfl (by decide) h0 (by omega) (fun v s _ em => k1 21 _ _ _ _ s rfl (Or.inl ⟨c3', rfl⟩) em)
theorem xs_left {Q : St → Prop} (h : XC σ g X0 b e0 H0 L (iV :: S)) (cap : (σ 4 1).toInt ≤ 262150) (hS : S.length < 500) (ht : tkx σ x = 24 ∨ (30 ≤ tkx σ x ∧ tkx σ x ≤ 40) ∨ (41 ≤ tkx σ x ∧ tkx σ x ≤ 58)) (k : ∀ s, XRs σ s g X0 b e0 H0 L (iV :: S) (iL (tkx σ x) :: S) 2 → Q s) : wk_X2_left x σ Q := by
  have h' := h
  obtain ⟨h1, h2, h3, H, X, h4⟩ := h'
  obtain ⟨nc, s0, Hs, r1, r2, r3, r4, v⟩ := rlx_Vi h4
  obtain ⟨v1, v2, v3, ⟨v4, v5⟩, v6⟩ := v
  have hop := isOp_at hS
  have he0 := xc_e0 h
  have en := clen_eq h3
  have hs0 := (rlx_typ S _ _ _ r1).2
  unfold wk_X2_left
  refine sp_kindOf (fun v hv => sp_otop (n := S.length) (by rw [h1]; rfl) hS ?_)
  have etn : (tkx σ x).toNat = v.toInt.toNat := by rw [hv]
  have hsg : ((tkx σ x).toNat : Int) = tkx σ x := by omega
  by_cases c57 : tkx σ x = 57 ∨ tkx σ x = 58
  · -- && and ||
    have tail : ∀ s44 g1 s9 Hs9 X9, LDs σ s44 (65 + S.length) → AGR g g1 (clen σ) → VAL s44 g1 X0 b e0 H0 L S s9 Hs9 X9 → e0 ≤ s9 → clen s44 ≤ clen σ + 2 * pk σ (65 + S.length) → 0 ≤ (s44 4 1).toInt → ∀ (y : Int32) (n : Nat), y.toInt = n → (n = 29 ∨ n = 30) → wk_X0_emit y ((-1) : Int32) (0 : Int32) (0 : Int32) s44 (fun v81 s81 => (∀ s6n : St, s6n = upC s81 (65 + S.length) 10 v81 → Q s6n)) := by
      intro s44 g1 s9 Hs9 X9 ld ag va he hc h30 y n hy hn
      obtain ⟨nc9, q1, q2, q3, q4, ⟨w1, w2, w3, ⟨w4, w5⟩, w6⟩, w7⟩ := va
      have pkl := pkq_le (σ := σ) (q := 65 + S.length)
      have e44 := clen_eq h30
      refine sk_emit hy (by omega) h30 (by omega) (fun v81 s81 ev em => ?_)
      rintro z ez
      have k44 := lds_k ld
      have zq : ∀ j, j ≠ 10 → z (65 + S.length) j = s44 (65 + S.length) j := fun j hj => by rw [ez, rdA_ne hj]; exact em_cells em _ j (by omega) (by omega)
      have zc : ∀ c j, c ≠ 65 + S.length → z c j = s81 c j := fun c j hc => by rw [ez, rdC_ne hc]
      have z24 : (z 24) = (s81 24) := funext (fun j => zc 24 j (by omega))
      have z4 : (z 4 1) = (s81 4 1) := zc 4 1 (by omega)
      have l2 : ln n = 2 := by rcases hn with e | e <;> subst e <;> rfl
      have e81 : clen s81 = clen s44 + 2 := by have := em_clen em hy h30; omega
      have ecz : clen z = clen s44 + 2 := by
        have : clen z = clen s81 := by unfold clen; rw [z4]
        omega
      have lz : (z 4 1).toInt = (s44 4 1).toInt + 2 := by
        rw [z4, em.2.1]
        have : y.toInt.toNat = n := by omega
        rw [this, l2]
        rfl
      have k2 : KXE s44 z := by rw [ez]; exact ko_op (ko_sub (ko_kp em.1) rfl rfl) hop
      have m2 : MKs s44 z := mks_eq (funext (fun j => (zc 25 j (by omega)).trans (em_cells em 25 j (by decide) (by decide)))) (funext (fun j => (zc 39 j (by omega)).trans (em_cells em 39 j (by decide) (by decide))))
      have ws : ∀ j, j < clen s44 → (z 24) j = (s44 24) j := fun j hj => by rw [z24]; exact em.2.2.1 j hj
      have low : LOW S.length s44 z := fun j k hj => (zc _ k (by omega)).trans (em_cells em _ k (by omega) (by omega))
      have xz : (z 27) = (s44 27) := funext (fun j => k2 27 j (op_lt (by decide)) rfl rfl)
      have cm := cpu_mono k2 m2
      have w0 : (z 24) (clen s44) = y := by rw [z24]; exact em.2.2.2.1
      have wn : (z 24) (clen s44 + 1) = -1 := by rw [z24]; exact em.2.2.2.2.1
      obtain ⟨g2, T2, ag2, gn⟩ := typ_hole (w' := (z 24)) (n := n) (H' := Hs9) (L' := L) (typ_mono (fun q _ => rfl) agr_rf cm (fun _ z => z) q4) ws (by rw [w0]; exact hy) (by omega) (fun _ => ⟨by omega, by omega, rfl⟩)
      have fz : (z 6 3) = (σ 6 3) := (zc 6 3 (by omega)).trans ((em_cells em 6 3 (by decide) (by decide)).trans (ld.2.1 6 3 (by omega) (by decide) (by decide)))
      have ldw := ld.2.2.2.2.1
      have ldl := ld.2.2.2.2.2.1
      have hR : RLx z g2 (CPu z) X0 b e0 H0 L S s9 Hs9 X9 := rlx_mono cm xz S _ _ _ (fun j hj => ws j (by omega)) (agr_le ag2 q2) low (Or.inl nc9) q1
      have kd : KDq z (65 + S.length) = 0 := by unfold KDq; rw [zq 0 (by decide)]; exact w7
      refine k z ⟨ko_tr k44 k2, mks_tr (lds_m ld ⟨by omega, by omega⟩) m2, fun j hj => by rw [ws j (by omega)]; exact ldw j (by omega), by omega, fun hf => by rw [fz] at hf; exact hf, by omega, fun hf => ⟨g2, agr_le (agr_tr ag ag2 (by omega)) he0, ⟨?_, nc_of (by show ¬ (1 : Nat) = 3; decide), by omega, Hs9, XU X9 (clen s44), ?_⟩, ?_⟩⟩
      · rw [zc 7 7 (by omega), em_cells em 7 7 (by decide) (by decide), ld.2.1 7 7 (by omega) (by decide) (by decide), h1]
        rfl
      · rw [ecz]
        have hb : HB z g2 (65 + S.length) s9 Hs9 (clen s44 + 2) := by
          refine ⟨by unfold HOK; rw [zq 2 (by decide)]; exact w4, ?_⟩
          have ht2 : HT z (65 + S.length) = HT s44 (65 + S.length) := by unfold HT; rw [zq 2 (by decide)]
          rw [ht2]
          exact bnd_ext w5 ag2 (fun j a1 a2 => by have : j = clen s44 + 1 := by omega
                                                  rw [this]; exact gn) T2.2.1 (by omega)
        refine rlx_L nc9 hR (by omega) (by rw [zq 9 (by decide)]; exact q3) T2 ⟨hb, by omega, fun z6 => ⟨kd, by rw [zq 6 (by decide)] at z6; have := (w6 z6).2; omega⟩, fun _ => ⟨rfl, kd, clen s44, n, hn, ⟨?_, q2, rfl, by rw [w0]; exact hy, by rw [ag2 _ (Nat.le_refl _)]; exact q4.2.1, by rw [wn]; decide⟩, rfl⟩, fun c => absurd (by omega) c, fun c => by omega, fun c => by omega, fun c => by omega⟩
        rw [ez, rdA_eq rfl, ev]
        exact e44.symm
      · have p1 : plc z (iL (tkx σ x) :: S) = plc z S := plc_0 (Or.inl kd)
        have p2 : plc z S = plc σ S := (plc_low S low).trans (plc_low S (lds_low ld (Nat.le_refl _)))
        have p3 : plc σ (iV :: S) = pk σ (65 + S.length) + plc σ S := plc_V
        omega
    refine ⟨fun s48 => ∃ g1 s9 Hs9 X9, LDs σ s48 (65 + S.length) ∧ AGR g g1 (clen σ) ∧ VAL s48 g1 X0 b e0 H0 L S s9 Hs9 X9 ∧ e0 ≤ s9 ∧ clen s48 ≤ clen σ + 2 * pk σ (65 + S.length) ∧ 0 ≤ (s48 4 1).toInt, ?_, True, fun _ => ⟨fun c => by omega, fun _ => xc_loaded h hS (by omega) (fun s g1 s9 Hs9 X9 a1 a2 a3 a4 a5 a6 => ⟨g1, s9, Hs9, X9, a1, a2, a3, a4, a5, a6⟩)⟩, fun _ => trivial, fun c => ⟨fun _ => trivial, fun c2 => by omega⟩⟩
    rintro s48 ⟨g1, s9, Hs9, X9, a1, a2, a3, a4, a5, a6⟩
    refine ⟨True, fun _ => ⟨fun y => y = 30 ∨ y = 29, ?_, fun _ => Or.inl rfl, fun _ => Or.inr rfl⟩, fun _ => trivial, fun c58 => ⟨fun c => by omega, fun _ => trivial⟩⟩
    rintro y (e | e) <;> subst e
    · exact tail s48 g1 s9 Hs9 X9 a1 a2 a3 a4 a5 a6 30 30 rfl (Or.inr rfl)
    · exact tail s48 g1 s9 Hs9 X9 a1 a2 a3 a4 a5 a6 29 29 rfl (Or.inl rfl)
  · -- the others
    have go : ∀ s, XRs σ s g X0 b e0 H0 L (iV :: S) (iL (tkx σ x) :: S) 2 → (∃ J60 : Prop, (J60 → ((∃ J78 : Int32 → Prop, (∀ (y2_78 : Int32), J78 y2_78 → (wk_X0_emit y2_78 ((-1) : Int32) (0 : Int32) (0 : Int32) s (fun v81 s81 => (∀ s6n : St, s6n = upC s81 (65 + S.length) 10 v81 → Q s6n)))) ∧ (v.toInt ≠ 58 → J78 (30 : Int32)) ∧ (v.toInt = 58 → J78 (29 : Int32))))) ∧ (v.toInt = 58 → J60) ∧ (v.toInt ≠ 58 → (v.toInt ≠ 57 → Q s) ∧ (v.toInt = 57 → J60))) := fun s hs => ⟨False, fun f => f.elim, fun c => by omega, fun _ => ⟨fun _ => k s hs, fun c => by omega⟩⟩
    refine ⟨fun s48 => XRs σ s48 g X0 b e0 H0 L (iV :: S) (iL (tkx σ x) :: S) 2, go, v.toInt ≤ 30 ∨ 40 < v.toInt, fun c => ⟨fun c30 => ?_, fun c30 => ?_⟩, fun c => Or.inl c, fun c => ⟨fun c => Or.inr c, fun c40 => ?_⟩⟩
    · refine ⟨ko_rf, mks_rf, fun _ _ => rfl, by omega, id, by omega, fun hf => ⟨g, agr_rf, ⟨by rw [h1]; rfl, nc_of (by show ¬ (1 : Nat) = 3; decide), h3, H, X, ?_⟩, by rw [plc_L, plc_V]; omega⟩⟩
      exact rlx_L nc r1 r2 r3 r4 ⟨⟨v4, v5⟩, v1, v6, fun c => by omega, fun _ => rfl, fun _ => ⟨v2, v3⟩, fun c => by omega, fun c => by omega⟩
    · refine xc_loaded h hS (by omega) (fun s44 g1 s9 Hs9 X9 ld ag va he hc h30 => ?_)
      obtain ⟨nc9, q1, q2, q3, q4, ⟨w1, w2, w3, ⟨w4, w5⟩, w6⟩, w7⟩ := va
      have e44 := clen_eq h30
      have pkl := pkq_le (σ := σ) (q := 65 + S.length)
      have fz : (s44 6 3) = (σ 6 3) := ld.2.1 6 3 (by omega) (by decide) (by decide)
      have ldw := ld.2.2.2.2.1
      have ldl := ld.2.2.2.2.2.1
      refine ⟨lds_k ld, lds_m ld ⟨by omega, by omega⟩, fun j hj => ldw j (by omega), by omega, fun hf => by rw [fz] at hf; exact hf, by omega, fun hf => ⟨g1, agr_le ag he0, ⟨?_, nc_of (by show ¬ (1 : Nat) = 3; decide), h30, Hs9 + 1, X9, ?_⟩, ?_⟩⟩
      · rw [ld.2.1 7 7 (by omega) (by decide) (by decide), h1]
        rfl
      · exact rlx_L nc9 q1 q2 q3 q4 ⟨⟨w4, w5⟩, by omega, w6, fun c => by omega, fun _ => rfl, fun c => by omega, fun c => by omega, fun _ => ⟨rfl, w7⟩⟩
      · have p1 : plc s44 (iL (tkx σ x) :: S) = plc s44 S := plc_0 (Or.inl w7)
        have p2 : plc s44 S = plc σ S := plc_low S (lds_low ld (Nat.le_refl _))
        have p3 : plc σ (iV :: S) = pk σ (65 + S.length) + plc σ S := plc_V
        omega
    · refine sp_lineOf (fun vl => sp_fetch h3 (by omega) (fun np => ?_) (fun n op a b' c' s hn hn2 em => ?_))
      · refine ⟨ko_rf, mks_rf, fun _ _ => rfl, by omega, id, by omega, fun hf => ⟨g, agr_rf, ⟨by rw [h1]; rfl, nc_of (by show ¬ (1 : Nat) = 3; decide), h3, H, X, ?_⟩, by rw [plc_L, plc_V]; omega⟩⟩
        have kd0 : KDq σ (65 + S.length) = 0 := by omega
        exact rlx_L nc r1 r2 r3 r4 ⟨⟨v4, v5⟩, v1, v6, fun c => by omega, fun _ => rfl, fun c => by omega, fun _ => ⟨fun c => by omega, fun _ => v3 (Or.inl kd0)⟩, fun c => by omega⟩
      · have l2 : ln n = 2 := by
          have : n = 21 ∨ n = 5 ∨ n = 8 := by omega
          rcases this with e | e | e <;> subst e <;> rfl
        have cc := em_cells em
        have ecs : clen s = clen σ + 2 := by have := em_clen em hn h3; omega
        have lz : (s 4 1).toInt = (σ 4 1).toInt + 2 := by
          rw [em.2.1]
          have : op.toInt.toNat = n := by omega
          rw [this, l2]
          rfl
        have k2 : KXE σ s := ko_sub (ko_kp em.1) rfl rfl
        have m2 : MKs σ s := mks_eq (funext (fun j => cc 25 j (by decide) (by decide))) (funext (fun j => cc 39 j (by decide) (by decide)))
        have low : ∀ m, LOW m σ s := fun m j k _ => cc _ k (by omega) (by omega)
        have xz : (s 27) = (σ 27) := funext (fun j => cc 27 j (by decide) (by decide))
        have cm := cpu_mono k2 m2
        have w0 : (s 24) (clen σ) = op := em.2.2.2.1
        have kds : KDq s (65 + S.length) = KDq σ (65 + S.length) := by unfold KDq; rw [cc _ 0 (by omega) (by omega)]
        have hpo : po n ≤ H ∧ ((H + 1 : Nat) : Int) = H + de n := by
          rcases hn2 with ⟨e1, e⟩ | ⟨e1, e⟩
          · subst e
            have := v3 (Or.inr e1)
            have d : de 21 = 1 := rfl
            have p : po 21 = 1 := rfl
            rw [d, p]
            omega
          · have d : de n = 1 := by rcases e with e | e <;> subst e <;> rfl
            have p : po n = 0 := by rcases e with e | e <;> subst e <;> rfl
            rw [d, p]
            omega
        obtain ⟨g2, T2, ag2, gi⟩ := typ_pl (w' := (s 24)) (n := n) (H' := H + 1) (typ_mono (fun q _ => rfl) agr_rf cm (fun _ z => z) r4) em.2.2.1 (by rw [w0]; exact hn) (by omega) (by omega) (by omega) hpo.1 hpo.2
        rw [l2] at T2 gi
        have fz : (s 6 3) = (σ 6 3) := cc 6 3 (by decide) (by decide)
        refine ⟨k2, m2, fun j hj => em.2.2.1 j (by omega), by omega, fun hf => by rw [fz] at hf; exact hf, by omega, fun hf => ⟨g2, agr_le ag2 he0, ⟨?_, nc_of (by show ¬ (1 : Nat) = 3; decide), by omega, H + 1, X, ?_⟩, ?_⟩⟩
        · rw [cc 7 7 (by decide) (by decide), h1]
          rfl
        · rw [ecs]
          have hR : RLx s g2 (CPu s) X0 b e0 H0 L S s0 Hs X := rlx_mono cm xz S _ _ _ (fun j hj => em.2.2.1 j (by omega)) (agr_le ag2 r2) (low _) (Or.inl nc) r1
          have ht2 : HT s (65 + S.length) = HT σ (65 + S.length) := by unfold HT; rw [cc _ 2 (by omega) (by omega)]
          have hb : HB s g2 (65 + S.length) s0 Hs (clen σ + 2) := by
            refine ⟨by unfold HOK; rw [cc _ 2 (by omega) (by omega)]; exact v4, ?_⟩
            rw [ht2]
            refine bnd_ext v5 ag2 gi T2.2.1 ?_
            have : 1 ≤ HT σ (65 + S.length) := by unfold HT; have := v4.1; omega
            rcases hn2 with ⟨e1, e⟩ | ⟨e1, e⟩
            · have := v3 (Or.inr e1)
              omega
            · have := v2 e1
              omega
          refine rlx_L nc hR (by omega) (by rw [cc _ 9 (by omega) (by omega)]; exact r3) T2 ⟨hb, by rw [kds]; exact v1, fun z6 => ?_, fun c => by omega, fun _ => rfl, fun c => by omega, fun _ => ⟨fun c => ?_, fun c => ?_⟩, fun c => by omega⟩
          · rw [cc _ 6 (by omega) (by omega)] at z6
            have := v6 z6
            rcases hn2 with ⟨e1, e⟩ | ⟨e1, e⟩ <;> omega
          · rw [kds] at c
            have := v3 (Or.inr c)
            omega
          · rw [kds] at c
            rcases hn2 with ⟨e1, e⟩ | ⟨e1, e⟩
            · exact absurd e1 c
            · have := v2 e1
              omega
        · have p1 : plc s (iL (tkx σ x) :: S) = plc σ (iL (tkx σ x) :: S) := plc_low _ (low _)
          rw [p1, plc_L, plc_V]
          omega
end XLE
