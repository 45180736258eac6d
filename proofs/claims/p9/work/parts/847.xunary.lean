/-! steps of an expression: signs before an operand -/
section XUN
variable {σ s s7 z t : St} {g g' g1 : Gh} {CP CP' : Int → Nat → Prop} {X0 X Xs : Nat → Prop} {b e0 H0 L e H H' n q s00 Hs00 H2 H3 m Bb : Nat} {A B S : List It} {it : It} {x y : Int32}
theorem at_row (h : AT s7 s g1 Xs b L n s00 Bb H2 m) (k : Kp [] [43] s t) : AT s7 t g1 Xs b L n s00 Bb H2 m := by
  obtain ⟨h1, h2, h3, h4, h5, h6, h7, h8⟩ := h
  have fc : (t 4 1) = (s 4 1) := k 4 1 rfl rfl
  have fw : (t 24) = (s 24) := funext (fun j => k 24 j rfl rfl)
  have ec : clen t = clen s := by unfold clen; rw [fc]
  have fk : KXE s t := ko_sub (ko_kp k) rfl rfl
  have fm : MKs s t := mks_eq (funext (fun j => k 25 j rfl rfl)) (funext (fun j => k 39 j rfl rfl))
  have ff : (t 6 3) = (s 6 3) := k 6 3 rfl rfl
  refine ⟨ko_tr h1 fk, mks_tr h2 fm, fun j hj => by rw [fw]; exact h3 j hj, by rw [fc]; exact h4, low_tr h5 (low_kp k rfl rfl), (k 7 7 rfl rfl).trans h6, fun c => h7 (by rw [← ff]; exact c), fun c => ?_⟩
  obtain ⟨g2, a1, a2, a3⟩ := h8 (by rw [← ff]; exact c)
  exact ⟨g2, a1, by rw [fw, ec]; exact typ_mono (fun _ _ => rfl) agr_rf (cpu_mono fk fm) (fun _ h => h) a2, by rw [ec]; exact a3⟩
/-- a place becomes the pointer to it -/
theorem sk_address {Q : St → Prop} (hq : isOp q) (h0 : 0 ≤ (σ 4 1).toInt) (h1 : (σ 4 1).toInt < 262200) (k : ∀ s75 z, ((KDq σ q = 1 ∨ KDq σ q = 2) → ∃ (σ' : St) (nn : Nat) (op a1 a2 a3 : Int32), Kp [] [43] σ σ' ∧ op.toInt = nn ∧ (nn = 14 ∨ nn = 4) ∧ EMi σ' s75 op a1 a2 a3) → (¬ (KDq σ q = 1 ∨ KDq σ q = 2) → s75 = σ) → RO q s75 z → KDq z q = 0 → (z q 6).toInt ≠ 1 → (∀ j, j ≠ 0 → j ≠ 1 → j ≠ 3 → j ≠ 6 → j ≠ 7 → j ≠ 8 → z q j = s75 q j) → Q z) : wk_X2_address q σ Q := by
  unfold wk_X2_address
  have fin : ∀ s75, ((KDq σ q = 1 ∨ KDq σ q = 2) → ∃ (σ' : St) (nn : Nat) (op a1 a2 a3 : Int32), Kp [] [43] σ σ' ∧ op.toInt = nn ∧ (nn = 14 ∨ nn = 4) ∧ EMi σ' s75 op a1 a2 a3) → (¬ (KDq σ q = 1 ∨ KDq σ q = 2) → s75 = σ) → ∀ y2 : Int32, (y2 = 0 ∨ y2 = 2) → wk_X6_become q ((s75 q 1) + (1 : Int32)) y2 s75 (fun s91 => (∀ s4n : St, s4n = upC s91 q 7 (s91 q 4) → (∀ s6n : St, s6n = upC s4n q 8 (0 : Int32) → Q s6n))) := by
    intro s75 e1 e2 y2 hy
    refine sp_become (fun s91 r b0 b1 b6 bq => ?_)
    rintro _ rfl _ rfl
    refine k s75 _ e1 e2 (ro_tr r (ro_up (ro_up ro_rf))) ?_ ?_ (fun j j0 j1 j3 j6 j7 j8 => ?_)
    · unfold KDq
      rw [rdA_ne (by decide), rdA_ne (by decide)]
      exact b0
    · rw [rdA_ne (by decide), rdA_ne (by decide), b6]
      rcases hy with e | e <;> subst e <;> decide
    · rw [rdA_ne j8, rdA_ne j7]
      exact bq j j0 j1 j6 j3
  refine ⟨fun y => y.toInt ≠ 0 ↔ KDq σ q = 2, ?_, fun c => ⟨fun h => absurd rfl h, fun h => absurd h c⟩, fun c => ⟨fun _ => c, fun _ => by decide⟩⟩
  intro y hy hy2
  refine ⟨fun s75 => ((KDq σ q = 1 ∨ KDq σ q = 2) → ∃ (σ' : St) (nn : Nat) (op a1 a2 a3 : Int32), Kp [] [43] σ σ' ∧ op.toInt = nn ∧ (nn = 14 ∨ nn = 4) ∧ EMi σ' s75 op a1 a2 a3) ∧ (¬ (KDq σ q = 1 ∨ KDq σ q = 2) → s75 = σ), ?_, fun c1 => ⟨fun cy => ?_, fun cy => ?_⟩, fun c1 => ?_⟩
  · rintro s75 ⟨e1, e2⟩
    refine ⟨fun y2 => y2 = 0 ∨ y2 = 2, fun y2 h => fin s75 e1 e2 y2 h, fun _ => Or.inl rfl, fun _ => Or.inr rfl⟩
  · have n2 : KDq σ q ≠ 2 := fun h => (hy2.mpr h) cy
    have n1 : KDq σ q ≠ 1 := c1
    exact ⟨fun h => h.elim (fun h => absurd h n1) (fun h => absurd h n2), fun _ => rfl⟩
  · have c2 : KDq σ q = 2 := hy2.mp cy
    exact sk_emit (n := 4) rfl (by decide) h0 (by omega) (fun _ s _ em => ⟨fun _ => ⟨σ, 4, _, _, _, _, kp_rf, rfl, Or.inr rfl, em⟩, fun h => absurd (Or.inr c2) h⟩)
  · have c2 : KDq σ q = 1 := c1
    have kp : Kp [] [43] σ (upF σ 43 (setv 100 (σ 43) (σ q 4) (1 : Int32))) := kp_F kp_rf rfl
    have el : ((upF σ 43 (setv 100 (σ 43) (σ q 4) (1 : Int32))) 4 1) = (σ 4 1) := kp 4 1 rfl rfl
    exact sk_emit (n := 14) rfl (by decide) (by rw [el]; exact h0) (by rw [el]; omega) (fun _ s _ em => ⟨fun _ => ⟨_, 14, _, _, _, _, kp, rfl, Or.inl rfl, em⟩, fun h => absurd (Or.inl c2) h⟩)
/-- a constant may be one instruction; then the height -/
theorem un_tail {Q : St → Prop} {s124 : St} {g1 : Gh} {c : Nat} (hS : S.length < 500) (k1 : KXE σ s) (m1 : MKs σ s) (w1 : ∀ j, j < e0 → (s 24) j = (σ 24) j) (he : e0 ≤ s00) (h0 : 0 ≤ (s 4 1).toInt) (hl : (s 4 1).toInt ≤ (σ 4 1).toInt + 8) (cap : (σ 4 1).toInt ≤ 262150) (hf : (s 6 3).toInt = 0 → (σ 6 3).toInt = 0) (ag : AGR g g1 e0) (cnt : (s 7 7).toInt = S.length + 1) (nc : NC S) (hR : RLx s g1 (CPu s) X0 b e0 H0 L S s00 Hs00 X) (st : (s (65 + S.length) 9).toInt = s00) (hle : s00 ≤ clen s) (T : TYp (s 24) g1 (CPu s) X b (clen s) (Hs00 + 1) L)
    (ok : HOK s (65 + S.length)) (bd : BND g1 s00 (clen s) (Hs00 + 7 * (1 + (s (65 + S.length) 2).toInt.toNat))) (r : RO (65 + S.length) s s124) (b0 : KDq s124 (65 + S.length) = 0) (q9 : s124 (65 + S.length) 9 = s (65 + S.length) 9) (q2 : s124 (65 + S.length) 2 = s (65 + S.length) 2) (fm : (s124 (65 + S.length) 6).toInt = 1 → s00 + 2 ≤ clen s) (cost : clen s + 2 * plc s S ≤ clen σ + 2 * plc σ A + c)
    (k : ∀ z, XRs σ z g X0 b e0 H0 L A (iV :: S) c → Q z) : wk_X2_fold (65 + S.length) s124 (fun s130 => wk_X2_raise (65 + S.length) ((1 : Int32) + (s130 (65 + S.length) 2)) x s130 (fun s151 => Q s151)) := by
  have hop := isOp_at (n := S.length) (by omega)
  have en := clen_eq h0
  have kk : KXE s s124 := ro_ko r hop
  have mm : MKs s s124 := ro_mks r (by omega) (by omega)
  have cl : (s124 4 1) = (s 4 1) := r 4 1 (by omega)
  have wd : (s124 24) = (s 24) := funext (fun j => r 24 j (by omega))
  have e124 : clen s124 = clen s := by unfold clen; rw [cl]
  have low : LOW S.length s s124 := ro_low r (Nat.le_refl _)
  have cm := cpu_mono kk mm
  have xz : (s124 27) = (s 27) := funext (fun j => r 27 j (by omega))
  have R1 : RLx s124 g1 (CPu s124) X0 b e0 H0 L S s00 Hs00 X := rlx_mono cm xz S _ _ _ (fun j _ => by rw [wd]) agr_rf low (Or.inl nc) hR
  have T1 : TYp (s124 24) g1 (CPu s124) X b (clen s124) (Hs00 + 1) L := by rw [wd, e124]; exact typ_mono (fun _ _ => rfl) agr_rf cm (fun _ h => h) T
  have ok' := ok
  unfold HOK at ok'
  have hv : ∀ z : St, z (65 + S.length) 2 = s124 (65 + S.length) 2 → ((1 : Int32) + (z (65 + S.length) 2)).toInt = 1 + (s (65 + S.length) 2).toInt := fun z e1 => hv_one (q := 65 + S.length) (e1.trans q2) (by omega)
  refine sp_fold (by rw [cl]; exact h0) (by rw [cl]; omega) (fun c => ?_) (by omega) ?_ (fun s1 z v c k1' e1 em => ?_)
  · rw [q9, cl, st]
    omega
  · have hv1 := hv s124 rfl
    refine fin_raise (s0 := s00) (Hs := Hs00) (X := X) (g' := g1) (by omega) (ko_tr k1 kk) (mks_tr m1 mm) (fun j hj => by rw [wd]; exact w1 j hj) he (by rw [e124]; exact hle) (by rw [cl]; exact h0) (by rw [cl]; omega) (fun hf0 => hf (by rw [r 6 3 (by omega)] at hf0; exact hf0)) ag (by rw [r 7 7 (by omega)]; exact cnt) nc R1 (by rw [q9]; exact st) T1 (Or.inl b0) (by rw [hv1]; omega) ?_ (fun c => ⟨b0, by rw [e124]; exact fm c⟩) ?_ k
    · rw [hv1, e124]
      exact bnd_le bd (Nat.le_refl _) (Nat.le_refl _) (by omega)
    · have p1 : pk s124 (65 + S.length) = 0 := by unfold pk; rw [b0]; rfl
      have p2 : plc s124 S = plc s S := plc_low S low
      omega
  · have hs1 : ∀ c j, c ≠ 4 → s1 c j = s124 c j := fun c j hc => k1' c j (by
      simp only [List.contains_cons, List.contains_nil, Bool.or_false]
      cases z : ((c, j) == ((4 : Nat), (1 : Nat))) with
      | false => rfl
      | true => exact absurd (congrArg Prod.fst (eq_of_beq z)) hc) rfl
    have l1 : (s1 4 1).toInt = s00 := by rw [e1, q9, st]
    have cl1 : clen s1 = s00 := by
      have := clen_eq (σ := s1) (by omega)
      omega
    have zc : ∀ c j, c ≠ 4 → c ≠ 24 → z c j = s124 c j := fun c j h4 h24 => (em_cells em c j h4 h24).trans (hs1 c j h4)
    have ecz : clen z = s00 + 2 := by
      have := em_clen em (n := 1) rfl (by omega)
      have l2 : ln 1 = 2 := rfl
      omega
    have lz : (z 4 1).toInt = s00 + 2 := by
      have := em.2.1
      rw [l1] at this
      exact this
    have ws : ∀ j, j < s00 → (z 24) j = (s 24) j := fun j hj => by
      rw [em.2.2.1 j (by omega)]
      show s1 24 j = _
      rw [hs1 24 j (by decide)]
      show s124 24 j = _
      exact r 24 j (by omega)
    have w0 : (z 24) s00 = 1 := by rw [← cl1]; exact em.2.2.2.1
    have k2 : KXE s z := ko_tr kk (ko_tr (ko_sub (ko_kp k1') rfl rfl) (ko_sub (ko_kp em.1) rfl rfl))
    have m2 : MKs s z := mks_eq (funext (fun j => (zc 25 j (by decide) (by decide)).trans (r 25 j (by omega)))) (funext (fun j => (zc 39 j (by decide) (by decide)).trans (r 39 j (by omega))))
    have cm2 := cpu_mono k2 m2
    have low2 : LOW S.length s z := fun j k hj => (zc _ k (by omega) (by omega)).trans (r _ k (by omega))
    have T0 := (rlx_typ S _ _ _ hR).1
    obtain ⟨g2, T2, ag2, gi2⟩ := typ_pl (w' := (z 24)) (n := 1) (H' := Hs00 + 1) (typ_mono (fun q _ => rfl) agr_rf cm2 (fun _ z => z) T0) (fun q hq => ws q hq) (by rw [w0]; rfl) (by decide) (by decide) (by omega) (by show 0 ≤ Hs00; omega) (by show ((Hs00 + 1 : Nat) : Int) = Hs00 + 1; omega)
    have l2 : ln 1 = 2 := rfl
    rw [l2] at T2 gi2
    have zq : ∀ j, z (65 + S.length) j = s124 (65 + S.length) j := fun j => zc _ j (by omega) (by omega)
    have hv1 := hv z (zq 2)
    have f00 := fm c
    refine fin_raise (s0 := s00) (Hs := Hs00) (X := X) (g' := g2) (by omega) (ko_tr k1 k2) (mks_tr m1 m2) (fun j hj => by rw [ws j (by omega)]; exact w1 j hj) he (by omega) (by omega) (by omega) (fun hf0 => hf (by rw [zc 6 3 (by decide) (by decide), r 6 3 (by omega)] at hf0; exact hf0)) (agr_tr ag (agr_le ag2 he) (Nat.le_refl _)) (by rw [zc 7 7 (by decide) (by decide), r 7 7 (by omega)]; exact cnt) nc (rlx_mono cm2 (funext (fun j => (zc 27 j (by decide) (by decide)).trans (r 27 j (by omega)))) S _ _ _ (fun j hj => ws j hj) (agr_le ag2 (Nat.le_refl _)) low2 (Or.inl nc) hR) (by rw [zq, q9]; exact st) (by rw [ecz]; exact T2) (Or.inl (by unfold KDq; rw [zq]; exact b0)) (by rw [hv1]; omega) ?_ (fun _ => ⟨by unfold KDq; rw [zq]; exact b0, by omega⟩) ?_ k
    · rw [hv1, ecz]
      exact bnd_ext (bnd_one (L := L) T0.2.1 (by omega)) ag2 gi2 T2.2.1 (by omega)
    · have p1 : pk z (65 + S.length) = 0 := by
        have : KDq z (65 + S.length) = 0 := by unfold KDq; rw [zq]; exact b0
        unfold pk
        rw [this]
        rfl
      have p2 : plc z S = plc s S := plc_low S low2
      omega
end XUN
