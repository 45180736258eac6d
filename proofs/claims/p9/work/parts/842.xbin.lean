/-! steps of an expression: two sides -/
section XBI
variable {σ s t : St} {g g' : Gh} {CP CP' : Int → Nat → Prop} {X0 X Xs : Nat → Prop} {b e0 H0 L e H H' n q s0 Hs : Nat} {A B S : List It} {it : It} {x y : Int32}
theorem kd_ro {v : Int32} : KDq (upC σ q 2 v) q = KDq σ q := by
  unfold KDq
  rw [rdA_ne (by decide)]
/-- the height is told, the operand stands -/
theorem fin_raise {v : Int32} {c : Nat} {Q : St → Prop} (hS : S.length < 500) (k1 : KXE σ s) (m1 : MKs σ s) (w1 : ∀ j, j < e0 → (s 24) j = (σ 24) j) (he : e0 ≤ s0) (hle : s0 ≤ clen s) (h0 : 0 ≤ (s 4 1).toInt) (hl : (s 4 1).toInt ≤ (σ 4 1).toInt + 12) (hf : (s 6 3).toInt = 0 → (σ 6 3).toInt = 0) (ag : AGR g g' e0) (cnt : (s 7 7).toInt = S.length + 1) (nc : NC S) (hR : RLx s g' (CPu s) X0 b e0 H0 L S s0 Hs X) (st : (s (65 + S.length) 9).toInt = s0) (T : TYp (s 24) g' (CPu s) X b (clen s) (Hs + 1) L) (kd : KDq s (65 + S.length) = 0 ∨ KDq s (65 + S.length) = 3) (hv : 1 ≤ v.toInt) (bd : BND g' s0 (clen s) (Hs + 7 * v.toInt.toNat)) (fm : (s (65 + S.length) 6).toInt = 1 → KDq s (65 + S.length) = 0 ∧ s0 + 2 ≤ clen s) (cost : clen s + 2 * (pk s (65 + S.length) + plc s S) ≤ clen σ + 2 * plc σ A + c)
    (k : ∀ z, XRs σ z g X0 b e0 H0 L A (iV :: S) c → Q z) : wk_X2_raise (65 + S.length) v x s Q := by
  have hop := isOp_at hS
  refine sp_raise (q := 65 + S.length) (by omega) (fun z kz zc zo => k z ?_)
  have en := clen_eq h0
  have z6 : ∀ c j, c ≠ 65 + S.length → c ≠ 6 → z c j = s c j := fun c j hc h6 => by rw [zc c j h6, rdC_ne hc]
  have kall : KXE s z := ko_tr (ko_op ko_rf hop) (ko_sub kz rfl rfl)
  have mall : MKs s z := mks_eq (funext (fun j => z6 25 j (by omega) (by decide))) (funext (fun j => z6 39 j (by omega) (by decide)))
  have z24 : (z 24) = (s 24) := funext (fun j => z6 24 j (by omega) (by decide))
  have z4 : (z 4 1) = (s 4 1) := z6 4 1 (by omega) (by decide)
  have ecz : clen z = clen s := by unfold clen; rw [z4]
  refine ⟨ko_tr k1 kall, mks_tr m1 mall, fun j hj => by rw [z24]; exact w1 j hj, by rw [z4]; omega, fun hf0 => ?_, by rw [z4]; exact hl, fun hf0 => ?_⟩
  · rcases zo with ⟨e, -⟩ | e
    · rw [e, rdC_ne (by omega)] at hf0
      exact hf hf0
    · exact absurd hf0 e
  · rcases zo with ⟨e, h60⟩ | e
    · have cm := cpu_mono kall mall
      have low : LOW S.length s z := fun j k hj => z6 _ k (by omega) (by omega)
      have zq : ∀ j, j ≠ 2 → z (65 + S.length) j = s (65 + S.length) j := fun j hj => by rw [e, rdA_ne hj]
      have z2 : z (65 + S.length) 2 = v := by rw [e, rdA_eq rfl]
      have zkd : KDq z (65 + S.length) = KDq s (65 + S.length) := by unfold KDq; rw [zq 0 (by decide)]
      refine ⟨g', ag, ⟨by rw [z6 7 7 (by omega) (by decide), cnt]; rfl, nc_of (by decide), by rw [z4]; exact h0, Hs + 1, X, ?_⟩, ?_⟩
      · rw [ecz]
        refine rlx_V nc (rlx_mono cm (funext (fun j => z6 27 j (by omega) (by decide))) S _ _ _ (fun j _ => by rw [z24]) agr_rf low (Or.inl nc) hR) hle (by rw [zq 9 (by decide)]; exact st) (by rw [z24]; exact typ_mono (fun _ _ => rfl) agr_rf cm (fun _ h => h) T) ⟨by rw [zkd]; omega, fun c => by rw [zkd] at c; omega, fun _ => rfl, ⟨by unfold HOK; rw [z2]; exact ⟨hv, h60⟩, ?_⟩, fun c => by rw [zq 6 (by decide)] at c; rw [zkd]; exact fm c⟩
        have : HT z (65 + S.length) = v.toInt.toNat := by unfold HT; rw [z2]
        rw [this]
        exact bd
      · have p1 : plc z (iV :: S) = pk z (65 + S.length) + plc z S := plc_V
        have p2 : plc z S = plc s S := plc_low S low
        have p3 : pk z (65 + S.length) = pk s (65 + S.length) := by unfold pk; rw [zkd]
        omega
    · exact absurd hf0 e
/-- behind a fault -/
theorem fin_rbad {v : Int32} {c : Nat} {Q : St → Prop} (hS : S.length < 500) (k1 : KXE σ s) (m1 : MKs σ s) (w1 : ∀ j, j < e0 → (s 24) j = (σ 24) j) (he : (e0 : Int) ≤ (s 4 1).toInt) (hl : (s 4 1).toInt ≤ (σ 4 1).toInt + 12) (hf : (s 6 3).toInt ≠ 0)
    (k : ∀ z, XRs σ z g X0 b e0 H0 L A B c → Q z) : wk_X2_raise (65 + S.length) v x s Q := by
  have hop := isOp_at hS
  refine sp_raise (q := 65 + S.length) (by omega) (fun z kz zc zo => k z ?_)
  have z6 : ∀ c j, c ≠ 65 + S.length → c ≠ 6 → z c j = s c j := fun c j hc h6 => by rw [zc c j h6, rdC_ne hc]
  have kall : KXE s z := ko_tr (ko_op ko_rf hop) (ko_sub kz rfl rfl)
  have mall : MKs s z := mks_eq (funext (fun j => z6 25 j (by omega) (by decide))) (funext (fun j => z6 39 j (by omega) (by decide)))
  have z24 : (z 24) = (s 24) := funext (fun j => z6 24 j (by omega) (by decide))
  have z4 : (z 4 1) = (s 4 1) := z6 4 1 (by omega) (by decide)
  have zf : (z 6 3).toInt ≠ 0 := by
    rcases zo with ⟨e, -⟩ | e
    · rw [e, rdC_ne (by omega)]
      exact hf
    · exact e
  exact ⟨ko_tr k1 kall, mks_tr m1 mall, fun j hj => by rw [z24]; exact w1 j hj, by rw [z4]; exact he, fun c => absurd c zf, by rw [z4]; exact hl, fun c => absurd c zf⟩
theorem s6_of (ks : Kp [(6, 3), (6, 4)] [] σ s) : ∀ c j, c ≠ 6 → s c j = σ c j := fun c j hc => ks c j (by
  simp only [List.contains_cons, List.contains_nil, Bool.or_false, Bool.or_eq_false_iff]
  refine ⟨?_, ?_⟩
  · cases z : ((c, j) == ((6 : Nat), (3 : Nat))) with
    | false => rfl
    | true => exact absurd (congrArg Prod.fst (eq_of_beq z)) hc
  · cases z : ((c, j) == ((6 : Nat), (4 : Nat))) with
    | false => rfl
    | true => exact absurd (congrArg Prod.fst (eq_of_beq z)) hc) rfl
/-- a fault told, or none: nothing else changes -/
def FF (σ s : St) : Prop := (∀ c j, c ≠ 6 → s c j = σ c j) ∧ Kp [(6, 3), (6, 4)] [] σ s ∧ ((s 6 3).toInt = 0 → (σ 6 3).toInt = 0)
theorem ff_rf : FF σ σ := ⟨fun _ _ _ => rfl, kp_rf, id⟩
theorem ff_of (ks : Kp [(6, 3), (6, 4)] [] σ s) (hf : (s 6 3).toInt ≠ 0) : FF σ s := ⟨s6_of ks, ks, fun c => absurd c hf⟩
/-- from the two sides to one: what is put between the pop and the raise -/
theorem bin_tail {Q : St → Prop} {s7 : St} {g1 : Gh} {s00 Hs00 hr c : Nat} {v21 : Int32} (hS : S.length + 1 < 500) (k1 : KXE σ s) (m1 : MKs σ s) (w1 : ∀ j, j < e0 → (s 24) j = (σ 24) j) (he : e0 ≤ s00) (h0 : 0 ≤ (s 4 1).toInt) (hl : (s 4 1).toInt ≤ (σ 4 1).toInt + 8) (cap : (σ 4 1).toInt ≤ 262150) (hf : (s 6 3).toInt = 0 → (σ 6 3).toInt = 0) (ag : AGR g g1 e0) (cnt : (s 7 7).toInt = S.length + 1) (nc : NC S) (hR : RLx s g1 (CPu s) X0 b e0 H0 L S s00 Hs00 X) (st : (s (65 + S.length) 9).toInt = s00) (hle : s00 ≤ clen s) (T : TYp (s 24) g1 (CPu s) X b (clen s) (Hs00 + 1) L)
    (ok : HOK s (65 + S.length)) (okr : 1 ≤ (s (65 + (S.length + 1)) 2).toInt ∧ (s (65 + (S.length + 1)) 2).toInt ≤ 60) (bd : BND g1 s00 (clen s) (Hs00 + 7 * (1 + max (s (65 + S.length) 2).toInt.toNat (s (65 + (S.length + 1)) 2).toInt.toNat)))
    (fm : (s (65 + S.length) 6).toInt = 1 → s00 + 2 ≤ clen s) (hsX : y.toInt < 57 → TYp (s 24) g1 (CPu s) X b s00 Hs00 L) (cost : clen s + 2 * plc s S ≤ clen σ + 2 * plc σ A + c)
    (k : ∀ z, XRs σ z g X0 b e0 H0 L A (iV :: S) c → Q z) : wk_X2_combine y (65 + S.length) (65 + (S.length + 1)) s (fun s112 => wk_X6_become (65 + S.length) v21 (s112 (65 + S.length) 6) s112 (fun s124 => wk_X2_fold (65 + S.length) s124 (fun s130 => wk_X2_raise (65 + S.length) ((1 : Int32) + (if (s130 (65 + S.length) 2) < (s130 (65 + (S.length + 1)) 2) then (s130 (65 + (S.length + 1)) 2) else (s130 (65 + S.length) 2))) x s130 (fun s151 => Q s151)))) := by
  have hop := isOp_at (n := S.length) (by omega)
  have en := clen_eq h0
  refine sp_combine (fun s112 r112 f112 c112 => sp_become (fun s124 r124 b0 b1 b6 bq => ?_))
  have r : RO (65 + S.length) s s124 := ro_tr r112 r124
  have kk : KXE s s124 := ro_ko r hop
  have mm : MKs s s124 := ro_mks r (by omega) (by omega)
  have cl : (s124 4 1) = (s 4 1) := r 4 1 (by omega)
  have wd : (s124 24) = (s 24) := funext (fun j => r 24 j (by omega))
  have e124 : clen s124 = clen s := by unfold clen; rw [cl]
  have q9 : s124 (65 + S.length) 9 = s (65 + S.length) 9 := (bq 9 (by decide) (by decide) (by decide) (by decide)).trans (f112 9 (by decide) (by decide) (by decide))
  have q2 : s124 (65 + S.length) 2 = s (65 + S.length) 2 := (bq 2 (by decide) (by decide) (by decide) (by decide)).trans (f112 2 (by decide) (by decide) (by decide))
  have r2 : s124 (65 + (S.length + 1)) 2 = s (65 + (S.length + 1)) 2 := r _ 2 (by omega)
  have c6 : (s124 (65 + S.length) 6).toInt = 1 → (s (65 + S.length) 6).toInt = 1 ∧ y.toInt < 57 := fun h => by rw [b6] at h; exact c112 h
  have low : LOW S.length s s124 := ro_low r (Nat.le_refl _)
  have cm := cpu_mono kk mm
  have xz : (s124 27) = (s 27) := funext (fun j => r 27 j (by omega))
  have R1 : RLx s124 g1 (CPu s124) X0 b e0 H0 L S s00 Hs00 X := rlx_mono cm xz S _ _ _ (fun j _ => by rw [wd]) agr_rf low (Or.inl nc) hR
  have T1 : TYp (s124 24) g1 (CPu s124) X b (clen s124) (Hs00 + 1) L := by rw [wd, e124]; exact typ_mono (fun _ _ => rfl) agr_rf cm (fun _ h => h) T
  have ok' := ok
  unfold HOK at ok'
  -- the height
  have hv : ∀ z : St, z (65 + S.length) 2 = s124 (65 + S.length) 2 → z (65 + (S.length + 1)) 2 = s124 (65 + (S.length + 1)) 2 → ((1 : Int32) + (if (z (65 + S.length) 2) < (z (65 + (S.length + 1)) 2) then (z (65 + (S.length + 1)) 2) else (z (65 + S.length) 2))).toInt = 1 + max (s (65 + S.length) 2).toInt (s (65 + (S.length + 1)) 2).toInt := fun z e1 e2 => by
    rw [e1, e2, q2, r2]
    have := max_i (a := s (65 + S.length) 2) (b := s (65 + (S.length + 1)) 2)
    rw [ad (by rw [this, i1]; omega) (by rw [this, i1]; omega), this, i1]
  refine sp_fold (by rw [cl]; exact h0) (by rw [cl]; omega) (fun c => ?_) (by omega) ?_ (fun s1 z v c k1' e1 em => ?_)
  · rw [q9, cl, st]
    omega
  · have hv1 := hv s124 rfl rfl
    refine fin_raise (s0 := s00) (Hs := Hs00) (X := X) (g' := g1) (by omega) (ko_tr k1 kk) (mks_tr m1 mm) (fun j hj => by rw [wd]; exact w1 j hj) he (by rw [e124]; exact hle) (by rw [cl]; exact h0) (by rw [cl]; omega) (fun hf0 => hf (by rw [r 6 3 (by omega)] at hf0; exact hf0)) ag (by rw [r 7 7 (by omega)]; exact cnt) nc R1 (by rw [q9]; exact st) T1 (Or.inl b0) (by rw [hv1]; omega) ?_ (fun c => ⟨b0, by rw [e124]; exact fm (c6 c).1⟩) ?_ k
    · rw [hv1, e124]
      exact bnd_le bd (Nat.le_refl _) (Nat.le_refl _) (by omega)
    · have p1 : pk s124 (65 + S.length) = 0 := by unfold pk; rw [b0]; rfl
      have p2 : plc s124 S = plc s S := plc_low S low
      omega
  · obtain ⟨c1, c57⟩ := c6 c
    have hs1 : ∀ c j, c ≠ 4 → s1 c j = s124 c j := fun c j hc => k1' c j (by
      simp only [List.contains_cons, List.contains_nil, Bool.or_false]
      cases z : ((c, j) == ((4 : Nat), (1 : Nat))) with
      | false => rfl
      | true => exact absurd (congrArg Prod.fst (eq_of_beq z)) hc) rfl
    have l1 : (s1 4 1).toInt = s00 := by rw [e1, q9, st]
    have cl1 : clen s1 = s00 := by
      have := clen_eq (σ := s1) (by omega)
      omega
    have zc : ∀ c j, c ≠ 4 → c ≠ 24 → z c j = s124 c j := fun c j h4 h24 => (em_cells em c j h4 h24).trans (hs1 c j h4)
    have ecz : clen z = s00 + 2 := by
      have := em_clen em (n := 1) rfl (by omega)
      have l2 : ln 1 = 2 := rfl
      omega
    have lz : (z 4 1).toInt = s00 + 2 := by
      have := em.2.1
      rw [l1] at this
      exact this
    have ws : ∀ j, j < s00 → (z 24) j = (s 24) j := fun j hj => by
      rw [em.2.2.1 j (by omega)]
      show s1 24 j = _
      rw [hs1 24 j (by decide)]
      show s124 24 j = _
      exact r 24 j (by omega)
    have w0 : (z 24) s00 = 1 := by rw [← cl1]; exact em.2.2.2.1
    have k2 : KXE s z := ko_tr kk (ko_tr (ko_sub (ko_kp k1') rfl rfl) (ko_sub (ko_kp em.1) rfl rfl))
    have m2 : MKs s z := mks_eq (funext (fun j => (zc 25 j (by decide) (by decide)).trans (r 25 j (by omega)))) (funext (fun j => (zc 39 j (by decide) (by decide)).trans (r 39 j (by omega))))
    have cm2 := cpu_mono k2 m2
    have low2 : LOW S.length s z := fun j k hj => (zc _ k (by omega) (by omega)).trans (r _ k (by omega))
    have T0 := hsX c57
    obtain ⟨g2, T2, ag2, gi2⟩ := typ_pl (w' := (z 24)) (n := 1) (H' := Hs00 + 1) (typ_mono (fun q _ => rfl) agr_rf cm2 (fun _ z => z) T0) (fun q hq => ws q hq) (by rw [w0]; rfl) (by decide) (by decide) (by omega) (by show 0 ≤ Hs00; omega) (by show ((Hs00 + 1 : Nat) : Int) = Hs00 + 1; omega)
    have l2 : ln 1 = 2 := rfl
    rw [l2] at T2 gi2
    have zq : ∀ j, z (65 + S.length) j = s124 (65 + S.length) j := fun j => zc _ j (by omega) (by omega)
    have hv1 := hv z (zq 2) (zc _ 2 (by omega) (by omega))
    have f00 := fm c1
    refine fin_raise (s0 := s00) (Hs := Hs00) (X := X) (g' := g2) (by omega) (ko_tr k1 k2) (mks_tr m1 m2) (fun j hj => by rw [ws j (by omega)]; exact w1 j hj) he (by omega) (by omega) (by omega) (fun hf0 => hf (by rw [zc 6 3 (by decide) (by decide), r 6 3 (by omega)] at hf0; exact hf0)) (agr_tr ag (agr_le ag2 he) (Nat.le_refl _)) (by rw [zc 7 7 (by decide) (by decide), r 7 7 (by omega)]; exact cnt) nc (rlx_mono cm2 (funext (fun j => (zc 27 j (by decide) (by decide)).trans (r 27 j (by omega)))) S _ _ _ (fun j hj => ws j hj) (agr_le ag2 (Nat.le_refl _)) low2 (Or.inl nc) hR) (by rw [zq, q9]; exact st) (by rw [ecz]; exact T2) (Or.inl (by unfold KDq; rw [zq]; exact b0)) (by rw [hv1]; omega) ?_ (fun _ => ⟨by unfold KDq; rw [zq]; exact b0, by omega⟩) ?_ k
    · rw [hv1, ecz]
      exact bnd_ext (bnd_one (L := L) T0.2.1 (by omega)) ag2 gi2 T2.2.1 (by omega)
    · have p1 : pk z (65 + S.length) = 0 := by
        have : KDq z (65 + S.length) = 0 := by unfold KDq; rw [zq]; exact b0
        unfold pk
        rw [this]
        rfl
      have p2 : plc z S = plc s S := plc_low S low2
      omega
end XBI
