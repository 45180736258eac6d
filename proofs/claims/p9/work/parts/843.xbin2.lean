/-! steps of an expression: two sides, whole -/
section XB2
variable {σ s t : St} {g g' : Gh} {CP CP' : Int → Nat → Prop} {X0 X Xs : Nat → Prop} {b e0 H0 L e H H' n q s0 Hs : Nat} {A B S : List It} {it : It} {x y : Int32}
theorem em_k {op a1 a2 a3 : Int32} (em : EMi σ s op a1 a2 a3) : KXE σ s ∧ MKs σ s ∧ (∀ n, LOW n σ s) ∧ (s 27) = (σ 27) ∧ (s 6 3) = (σ 6 3) ∧ (s 7 7) = (σ 7 7) :=
  ⟨ko_sub (ko_kp em.1) rfl rfl, mks_eq (funext (fun j => em_cells em 25 j (by decide) (by decide))) (funext (fun j => em_cells em 39 j (by decide) (by decide))), fun n j k _ => em_cells em _ k (by omega) (by omega), funext (fun j => em_cells em 27 j (by decide) (by decide)), em_cells em 6 3 (by decide) (by decide), em_cells em 7 7 (by decide) (by decide)⟩
theorem em_len {op a1 a2 a3 : Int32} {m : Nat} (em : EMi σ s op a1 a2 a3) (hm : op.toInt = m) : (s 4 1).toInt = (σ 4 1).toInt + ln m := by
  have e := em.2.1
  have en : op.toInt.toNat = m := by omega
  rw [en] at e
  exact e
theorem ff_k (f : FF σ s) : KXE σ s ∧ MKs σ s ∧ (∀ n, LOW n σ s) ∧ (s 27) = (σ 27) ∧ (s 24) = (σ 24) ∧ (s 4 1) = (σ 4 1) ∧ (s 7 7) = (σ 7 7) :=
  ⟨ko_sub (ko_kp f.2.1) rfl rfl, mks_eq (funext (fun j => f.1 25 j (by decide))) (funext (fun j => f.1 39 j (by decide))), fun n j k _ => f.1 _ k (by omega), funext (fun j => f.1 27 j (by decide)), funext (fun j => f.1 24 j (by decide)), f.1 4 1 (by decide), f.1 7 7 (by decide)⟩
theorem xs_binary {Q : St → Prop} (h : XC σ g X0 b e0 H0 L (iV :: iL (tkx σ x) :: S)) (cap : (σ 4 1).toInt ≤ 262150) (hS : S.length + 1 < 500) (ht : 41 ≤ tkx σ x ∧ tkx σ x ≤ 58) (k : ∀ s, XRs σ s g X0 b e0 H0 L (iV :: iL (tkx σ x) :: S) (iV :: S) 2 → Q s) : wk_X2_binary x σ Q := by
  have he0 := xc_e0 h
  have c0 := clen_eq h.2.2.1
  have h30 := h.2.2.1
  have hsg : ((tkx σ x).toNat : Int) = tkx σ x := by omega
  unfold wk_X2_binary
  refine sp_kindOf (fun v2 hv2 => ?_)
  refine xc_pop (S := iL (tkx σ x) :: S) h hS (by omega) (fun s7 g1 s9 Hs9 X9 k1 m1 l1 f1 hi w1 ag va cnt he hc hc2 h3 fu => ?_)
  obtain ⟨nc, r1, r2, r3, r4, ⟨v1, -, -, ⟨v4, v5⟩, v6⟩, v7⟩ := va
  obtain ⟨nc2, s00, Hs00, Xs, i1, i2, i3, i4, a1, a2, a3, a4, a5, a6, a7, a8⟩ := rlx_Li r1
  have hs00 := (rlx_typ S _ _ _ i1).2
  have e1 := clen_eq h3
  have pk1 := pkq_le (σ := σ) (q := 65 + (iL (tkx σ x) :: S).length)
  have okl := a1.1
  unfold HOK at okl
  have okr : 1 ≤ (s7 (65 + (S.length + 1)) 2).toInt ∧ (s7 (65 + (S.length + 1)) 2).toInt ≤ 60 := v4
  have br : BND g1 s9 (clen s7) (Hs9 + 7 * (s7 (65 + (S.length + 1)) 2).toInt.toNat) := v5
  have bl : BND g1 s00 s9 (Hs00 + 7 * (s7 (65 + S.length) 2).toInt.toNat) := a1.2
  have cnt7 : (s7 7 7).toInt = S.length + 1 := cnt
  have r3' : (s7 (65 + (S.length + 1)) 9).toInt = s9 := r3
  refine sp_otop (n := S.length) (by rw [cnt]; rfl) (by omega) (sk_typeOf (fun v21 => ?_))
  have plcS : plc s7 S = plc σ S := plc_low S (low_le l1 (Nat.le_succ _))
  have plcA : pk σ (65 + (iL (tkx σ x) :: S).length) + plc σ S ≤ plc σ (iV :: iL (tkx σ x) :: S) := by
    rw [plc_V]
    have := plc_ge (σ := σ) (A := S) (it := iL (tkx σ x))
    omega
  -- what stands when the operator's own words are put
  have fin : ∀ (s : St) (g2 : Gh), KXE s7 s → MKs s7 s → (∀ j, j < s00 → (s 24) j = (s7 24) j) → 0 ≤ (s 4 1).toInt → (s 4 1).toInt ≤ (s7 4 1).toInt + 2 → ((s 6 3).toInt = 0 → (s7 6 3).toInt = 0) → AGR g1 g2 s00 → (s 7 7) = (s7 7 7) → RLx s g2 (CPu s) X0 b e0 H0 L S s00 Hs00 Xs → LOW (S.length + 2) s7 s → s9 ≤ clen s → TYp (s 24) g2 (CPu s) Xs b (clen s) (Hs00 + 1) L → BND g2 s00 (clen s) (Hs00 + 7 * (1 + max (s7 (65 + S.length) 2).toInt.toNat (s7 (65 + (S.length + 1)) 2).toInt.toNat)) → clen s ≤ clen s7 + 2 → wk_X2_combine v2 (65 + S.length) (65 + (S.length + 1)) s (fun s112 => wk_X6_become (65 + S.length) v21 (s112 (65 + S.length) 6) s112 (fun s124 => wk_X2_fold (65 + S.length) s124 (fun s130 => wk_X2_raise (65 + S.length) ((1 : Int32) + (if (s130 (65 + S.length) 2) < (s130 (65 + (S.length + 1)) 2) then (s130 (65 + (S.length + 1)) 2) else (s130 (65 + S.length) 2))) x s130 (fun s151 => Q s151)))) := by
    intro s g2 kk mm ww c1 c2 ff ag2 ec R low lr T bd cc
    have sq : ∀ j, s (65 + S.length) j = s7 (65 + S.length) j := fun j => low S.length j (by omega)
    have sr : ∀ j, s (65 + (S.length + 1)) j = s7 (65 + (S.length + 1)) j := fun j => low (S.length + 1) j (by omega)
    refine bin_tail (s7 := s7) (s00 := s00) (Hs00 := Hs00) (hr := 0) (X := Xs) (g1 := g2) hS (ko_tr k1 kk) (mks_tr m1 mm) (fun j hj => by rw [ww j (by omega)]; exact w1 j (by omega)) hs00 c1 (by omega) cap (fun hf0 => by have := ff hf0; rw [fu] at this; exact this) (agr_tr (agr_le ag he0) (agr_le ag2 hs00) (Nat.le_refl _)) (by rw [ec]; exact cnt7) nc2 R (by rw [sq]; exact i3) (by omega) T (by unfold HOK; rw [sq]; exact okl) (by rw [sr]; exact okr) (by rw [sq, sr]; exact bd) (fun c => by rw [sq] at c; have := (a3 c).2; omega) (fun _ => (rlx_typ S _ _ _ R).1) ?_ k
    have p2 : plc s S = plc s7 S := plc_low S (low_le low (by omega))
    omega
  refine ⟨FF s7, fun s38 ff => ⟨_, fun _ h => h, tkx σ x = 57 ∨ tkx σ x = 58, fun c57 => ?_, fun c => by right; omega, fun c58 => ⟨fun c57 => ?_, fun c => by left; omega⟩⟩, fun _ => ff_rf, fun _ => sp_refuse (fun s hs hf => ff_of hs hf)⟩
  · -- && and ||
    obtain ⟨b1, b2, j, n, b3, ⟨j1, j2, j3, j4, j5, j6⟩, b5⟩ := a4 (by omega)
    clear a4
    obtain ⟨fk, fm, fl, fx, fw, fc, fe⟩ := ff_k ff
    subst b5
    have c38 : clen s38 = clen s7 := by unfold clen; rw [fc]
    refine sk_emit (n := 25) rfl (by decide) (by rw [fc]; exact h3) (by rw [fc]; omega) (fun _ s59 _ em => ?_)
    obtain ⟨ek, emk, el, ex, ef, ee⟩ := em_k em
    have e59 : clen s59 = clen s7 + 1 := by
      have := em_clen em (n := 25) rfl (by rw [fc]; exact h3)
      have l1 : ln 25 = 1 := rfl
      omega
    have len59 : (s59 4 1).toInt = (s7 4 1).toInt + 1 := by
      have := em_len em (m := 25) rfl
      rw [fc] at this
      exact this
    have ws59 : ∀ i, i < clen s7 → (s59 24) i = (s7 24) i := fun i hi => (em.2.2.1 i (by omega)).trans (by rw [fw])
    have w59 : (s59 24) (clen s7) = 25 := by rw [← c38]; exact em.2.2.2.1
    have q59 : ∀ c j, c ≠ 4 → c ≠ 24 → c ≠ 6 → s59 c j = s7 c j := fun c j h4 h24 h6 => (em_cells em c j h4 h24).trans (ff.1 c j h6)
    have k59 : KXE s7 s59 := ko_tr fk ek
    have m59 : MKs s7 s59 := mks_tr fm emk
    have cm := cpu_mono k59 m59
    have lt9 : s9 < clen s7 := by
      by_cases c : s9 = clen s7
      · have t1 := i4.2.1
        have t2 := r4.2.1
        rw [c, t2] at t1
        have := congrArg Prod.fst (Option.some.inj t1)
        have : Hs9 + 1 = Hs9 := this
        omega
      · omega
    obtain ⟨g2, T2, ag2, gi2⟩ := typ_pl (w' := (s59 24)) (n := 25) (H' := Hs9 + 1) (typ_mono (fun q _ => rfl) agr_rf cm (fun _ z => z) r4) ws59 (by rw [w59]; rfl) (by decide) (by decide) (by omega) (by show 1 ≤ Hs9 + 1; omega) (by show ((Hs9 + 1 : Nat) : Int) = ((Hs9 + 1 : Nat) : Int) + 0; omega)
    have l25 : ln 25 = 1 := rfl
    rw [l25] at T2 gi2
    rw [b1] at T2
    refine sp_aim1 (j := j) (by rw [q59 _ 10 (by omega) (by omega) (by omega)]; exact j1) (by omega) (by rw [ws59 _ (by omega)]; exact j6) (by omega) ?_
    generalize hz : upF s59 24 (fun i => if i = j + 1 then (s59 4 1) else (s59 24) i) = z
    have z24 : ∀ i, (z 24) i = if i = j + 1 then (s59 4 1) else (s59 24) i := fun i => by rw [← hz, rdF_eq]
    have zc : ∀ c, c ≠ 24 → z c = s59 c := fun c hc => by rw [← hz, rdF_ne hc]
    have ecz : clen z = clen s7 + 1 := by
      have : clen z = clen s59 := by unfold clen; rw [zc 4 (by decide)]
      omega
    have kz : KXE s7 z := ko_tr k59 (by rw [← hz]; exact ko_kp (kp_F kp_rf rfl))
    have mz : MKs s7 z := mks_tr m59 (mks_eq (zc 25 (by decide)) (zc 39 (by decide)))
    have cmz := cpu_mono kz mz
    have cmz2 : ∀ a m, CPu s59 a m → CPu z a m := cpu_mono (by rw [← hz]; exact ko_kp (kp_F kp_rf rfl)) (mks_eq (zc 25 (by decide)) (zc 39 (by decide)))
    have lowz : LOW (S.length + 2) s7 z := fun i k hi => by rw [zc _ (by omega)]; exact q59 _ k (by omega) (by omega) (by omega)
    have wz : ∀ i, i < s00 → (z 24) i = (s7 24) i := fun i hi => by
      rw [z24, if_neg (by omega)]
      exact ws59 i (by omega)
    have T3 : TYp (z 24) g2 (CPu z) Xs b (clen z) (Hs00 + 1) L := by
      rw [ecz]
      refine typ_aim (w := (s59 24)) (p := j) (t := clen s7 + 1) (n := n) (h0 := Hs00 + 1) (k0 := L) (ht := Hs00 + 1) (v := s59 4 1) (typ_mono (fun q _ => rfl) agr_rf cmz2 (fun _ h => h) T2) (by rw [ag2 j (by omega)]; exact j5) (by omega) (by rw [ws59 j (by omega)]; exact j4) (by omega) (fun i hi => by rw [z24, if_neg hi]) (by rw [z24, if_pos rfl]) (by omega) (Nat.le_refl _) ⟨L, T2.2.1, Or.inr ⟨rfl, by omega⟩⟩ ⟨fun _ => rfl, fun c => by omega⟩
    refine fin z g2 kz mz wz (by rw [zc 4 (by decide)]; omega) (by rw [zc 4 (by decide)]; omega) (fun hf0 => ?_) (agr_le ag2 (by omega)) (by rw [zc 7 (by decide)]; exact q59 7 7 (by decide) (by decide) (by decide)) (rlx_mono cmz (funext (fun i => by rw [zc 27 (by decide)]; exact q59 27 i (by decide) (by decide) (by decide))) S _ _ _ wz (agr_le ag2 (by omega)) (low_le lowz (by omega)) (Or.inl nc2) i1) lowz (by omega) T3 ?_ (by omega)
    · rw [zc 6 (by decide), ef] at hf0
      exact ff.2.2 hf0
    · rw [ecz]
      exact bnd_ext (bnd_join (bnd_le bl (Nat.le_refl _) (Nat.le_refl _) (by omega)) (bnd_le br (Nat.le_refl _) (Nat.le_refl _) (by omega)) (Nat.le_refl _)) ag2 gi2 T2.2.1 (by omega)
  · -- the other signs
    have sgx : tkx σ x ≤ 56 := by omega
    obtain ⟨b1, b2⟩ := a8 (Or.inr (by omega))
    have b5 := a5 (by omega)
    subst b5
    obtain ⟨fk, fm, fl, fx, fw, fc, fe⟩ := ff_k ff
    have c38 : clen s38 = clen s7 := by unfold clen; rw [fc]
    refine ⟨fun _ => True, fun y2 _ _ => sp_lineOf (fun v102 => ?_), fun _ => trivial, fun _ => trivial⟩
    refine sp_operate (sg := (tkx σ x).toNat) (by omega) (by omega) (by rw [fc]; exact h3) (by rw [fc]; omega) (fun n op a1' b1' c1' s105 hn n1 n2 em => ?_)
    obtain ⟨ek, emk, el, ex, ef, ee⟩ := em_k em
    have l12 : ∀ m, m < 61 → 41 ≤ m → 1 ≤ ln m ∧ ln m ≤ 2 := by decide
    have l3 := l12 n (by omega) n1
    have e105 : clen s105 = clen s7 + ln n := by
      have := em_clen em hn (by rw [fc]; exact h3)
      omega
    have len105 : (s105 4 1).toInt = (s7 4 1).toInt + ln n := by
      have := em_len em hn
      rw [fc] at this
      exact this
    have ws : ∀ i, i < clen s7 → (s105 24) i = (s7 24) i := fun i hi => (em.2.2.1 i (by omega)).trans (by rw [fw])
    have w0 : (s105 24) (clen s7) = op := by rw [← c38]; exact em.2.2.2.1
    have q5 : ∀ c j, c ≠ 4 → c ≠ 24 → c ≠ 6 → s105 c j = s7 c j := fun c j h4 h24 h6 => (em_cells em c j h4 h24).trans (ff.1 c j h6)
    have k5 : KXE s7 s105 := ko_tr fk ek
    have m5 : MKs s7 s105 := mks_tr fm emk
    have cm := cpu_mono k5 m5
    have dn : de n = -1 := by unfold de; rw [if_pos n1]
    have pn : po n = 2 := by unfold po; rw [if_pos n1]
    obtain ⟨g2, T2, ag2, gi2⟩ := typ_pl (w' := (s105 24)) (n := n) (H' := Hs00 + 1) (typ_mono (fun q _ => rfl) agr_rf cm (fun _ z => z) r4) ws (by rw [w0]; exact hn) (by omega) n2 (Or.inr n1) (by omega) (by rw [dn]; omega)
    have low5 : LOW (S.length + 2) s7 s105 := fun i k hi => q5 _ k (by omega) (by omega) (by omega)
    refine fin s105 g2 k5 m5 (fun i hi => ws i (by omega)) (by omega) (by omega) (fun hf0 => by rw [ef] at hf0; exact ff.2.2 hf0) (agr_le ag2 (by omega)) (q5 7 7 (by decide) (by decide) (by decide)) (rlx_mono cm (funext (fun i => q5 27 i (by decide) (by decide) (by decide))) S _ _ _ (fun i hi => ws i (by omega)) (agr_le ag2 (by omega)) (low_le low5 (by omega)) (Or.inl nc2) i1) low5 (by omega) (by rw [e105]; exact T2) ?_ (by omega)
    rw [e105]
    exact bnd_ext (bnd_join (bnd_le bl (Nat.le_refl _) (Nat.le_refl _) (by omega)) (bnd_le br (Nat.le_refl _) (Nat.le_refl _) (by omega)) (Nat.le_refl _)) ag2 gi2 T2.2.1 (by omega)
end XB2
