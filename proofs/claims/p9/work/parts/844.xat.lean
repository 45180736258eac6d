/-! steps of an expression: from the operands read to the height told -/
def AT (s7 s : St) (g1 : Gh) (Xs : Nat → Prop) (b L n s00 B : Nat) (H2 m : Nat) : Prop :=
  KXE s7 s ∧ MKs s7 s ∧ (∀ j, j < clen s7 → (s 24) j = (s7 24) j) ∧ (0 ≤ (s7 4 1).toInt ∧ (s7 4 1).toInt ≤ (s 4 1).toInt ∧ (s 4 1).toInt ≤ (s7 4 1).toInt + m) ∧ LOW (n + 2) s7 s ∧ (s 7 7) = (s7 7 7) ∧ ((s 6 3).toInt = 0 → (s7 6 3).toInt = 0) ∧
  ((s 6 3).toInt = 0 → ∃ g2, AGR g1 g2 (clen s7) ∧ TYp (s 24) g2 (CPu s) Xs b (clen s) H2 L ∧ BND g2 s00 (clen s) B)
section XAT
variable {σ s s7 z t : St} {g g' g1 : Gh} {CP CP' : Int → Nat → Prop} {X0 X Xs : Nat → Prop} {b e0 H0 L e H H' n q s00 Hs00 H2 H3 m Bb : Nat} {A B S : List It} {it : It} {x y : Int32}
theorem at_rf (T : TYp (s7 24) g1 (CPu s7) Xs b (clen s7) H2 L) (bd : BND g1 s00 (clen s7) Bb) (h0 : 0 ≤ (s7 4 1).toInt) : AT s7 s7 g1 Xs b L n s00 Bb H2 0 :=
  ⟨ko_rf, mks_rf, fun _ _ => rfl, ⟨h0, by omega, by omega⟩, low_rf, rfl, id, fun _ => ⟨g1, agr_rf, T, bd⟩⟩
theorem at_ff (h : AT s7 s g1 Xs b L n s00 Bb H2 m) (f : FF s t) : AT s7 t g1 Xs b L n s00 Bb H2 m := by
  obtain ⟨h1, h2, h3, h4, h5, h6, h7, h8⟩ := h
  obtain ⟨fk, fm, fl, fx, fw, fc, fe⟩ := ff_k f
  have ec : clen t = clen s := by unfold clen; rw [fc]
  refine ⟨ko_tr h1 fk, mks_tr h2 fm, fun j hj => by rw [fw]; exact h3 j hj, by rw [fc]; exact h4, low_tr h5 (fl _), fe.trans h6, fun c => h7 (f.2.2 c), fun c => ?_⟩
  obtain ⟨g2, a1, a2, a3⟩ := h8 (f.2.2 c)
  exact ⟨g2, a1, by rw [fw, ec]; exact typ_mono (fun _ _ => rfl) agr_rf (cpu_mono fk fm) (fun _ h => h) a2, by rw [ec]; exact a3⟩
/-- a fault: what is typed matters no more -/
theorem at_bad (h : AT s7 s g1 Xs b L n s00 Bb H2 m) (hf : (s 6 3).toInt ≠ 0) : AT s7 s g1 Xs b L n s00 Bb H3 m := by
  obtain ⟨h1, h2, h3, h4, h5, h6, h7, h8⟩ := h
  exact ⟨h1, h2, h3, h4, h5, h6, h7, fun c => absurd c hf⟩
theorem at_emit {op a1 a2 a3 : Int32} {k : Nat} (h : AT s7 s g1 Xs b L n s00 Bb H2 m) (em : EMi s t op a1 a2 a3) (hk : op.toInt = k) (k1 : 1 ≤ k ∧ k ≤ 60) (pl : k ≤ 25 ∨ 41 ≤ k) (hp : (s 6 3).toInt = 0 → po k ≤ H2 ∧ (H3 : Int) = H2 + de k ∧ H3 ≤ Bb) : AT s7 t g1 Xs b L n s00 Bb H3 (m + ln k) := by
  obtain ⟨h1, h2, h3, h4, h5, h6, h7, h8⟩ := h
  obtain ⟨ek, emk, el, ex, ef, ee⟩ := em_k em
  have es : 0 ≤ (s 4 1).toInt := by omega
  have ec := em_clen em hk es
  have el2 := em_len em hk
  have e7 := clen_eq h4.1
  have e8 := clen_eq es
  refine ⟨ko_tr h1 ek, mks_tr h2 emk, fun j hj => (em.2.2.1 j (by omega)).trans (h3 j hj), by omega, low_tr h5 (el _), ee.trans h6, fun c => h7 (by rw [← ef]; exact c), fun c => ?_⟩
  have c' : (s 6 3).toInt = 0 := by rw [← ef]; exact c
  obtain ⟨g2, a1, a2, a3⟩ := h8 c'
  obtain ⟨p1, p2, p3⟩ := hp c'
  have w0 : (t 24) (clen s) = op := em.2.2.2.1
  obtain ⟨g3, T3, ag3, gi3⟩ := typ_pl (w' := (t 24)) (n := k) (H' := H3) (typ_mono (fun q _ => rfl) agr_rf (cpu_mono ek emk) (fun _ z => z) a2) em.2.2.1 (by rw [w0]; exact hk) k1.1 k1.2 pl p1 p2
  refine ⟨g3, agr_tr a1 ag3 (by omega), by rw [ec]; exact T3, ?_⟩
  rw [ec]
  exact bnd_ext a3 ag3 gi3 T3.2.1 p3
/-- the height is told -/
theorem at_raise {v : Int32} {c : Nat} {Q : St → Prop} (h : AT s7 s g1 Xs b L S.length s00 Bb (Hs00 + 1) m) (hm : m ≤ 6) (r : RO (65 + S.length) s z) (z9 : z (65 + S.length) 9 = s7 (65 + S.length) 9) (zk : KDq z (65 + S.length) = 0 ∨ KDq z (65 + S.length) = 3) (z6 : (z (65 + S.length) 6).toInt ≠ 1) (hv : 1 ≤ v.toInt) (hB : Bb ≤ Hs00 + 7 * v.toInt.toNat) (hS : S.length < 500)
    (k1 : KXE σ s7) (m1 : MKs σ s7) (w1 : ∀ j, j < e0 → (s7 24) j = (σ 24) j) (he : e0 ≤ s00) (hle : s00 ≤ clen s7) (hl : (s7 4 1).toInt ≤ (σ 4 1).toInt + 4) (fu : (s7 6 3).toInt = 0 → (σ 6 3).toInt = 0) (ag : AGR g g1 e0) (cnt : (s7 7 7).toInt = S.length + 1) (nc : NC S) (hR : RLx s7 g1 (CPu s7) X0 b e0 H0 L S s00 Hs00 Xs) (st : (s7 (65 + S.length) 9).toInt = s00)
    (cost : (s 6 3).toInt = 0 → clen s + 2 * (pk z (65 + S.length) + plc s7 S) ≤ clen σ + 2 * plc σ A + c) (k : ∀ z, XRs σ z g X0 b e0 H0 L A (iV :: S) c → Q z) : wk_X2_raise (65 + S.length) v x z Q := by
  have hop := isOp_at hS
  obtain ⟨h1, h2, h3, h4, h5, h6, h7, h8⟩ := h
  have kr : KXE s z := ro_ko r hop
  have mr : MKs s z := ro_mks r (by omega) (by omega)
  have zl : (z 4 1) = (s 4 1) := r 4 1 (by omega)
  have zw : (z 24) = (s 24) := funext (fun j => r 24 j (by omega))
  have ecz : clen z = clen s := by unfold clen; rw [zl]
  have fz : (z 6 3) = (s 6 3) := r 6 3 (by omega)
  have e7 := clen_eq h4.1
  have es : 0 ≤ (s 4 1).toInt := by omega
  have e8 := clen_eq es
  have kz : KXE s7 z := ko_tr h1 kr
  have mz : MKs s7 z := mks_tr h2 mr
  have lz : LOW S.length s7 z := low_tr (low_le h5 (by omega)) (ro_low r (Nat.le_refl _))
  have wd : ∀ j, j < e0 → (z 24) j = (σ 24) j := fun j hj => by
    rw [zw]
    exact (h3 j (by omega)).trans (w1 j hj)
  by_cases c0 : (z 6 3).toInt = 0
  · have c1 : (s 6 3).toInt = 0 := by rw [← fz]; exact c0
    obtain ⟨g2, a1, a2, a3⟩ := h8 c1
    have cm := cpu_mono kz mz
    refine fin_raise (s0 := s00) (Hs := Hs00) (X := Xs) (g' := g2) hS (ko_tr k1 kz) (mks_tr m1 mz) wd he (by omega) (by rw [zl]; exact es) (by rw [zl]; omega) (fun _ => fu (h7 c1)) (agr_tr ag (agr_le a1 (by omega)) (Nat.le_refl _)) (by rw [r 7 7 (by omega), h6]; exact cnt) nc (rlx_mono cm (funext (fun j => kz 27 j (op_lt (by decide)) rfl rfl)) S _ _ _ (fun j hj => by rw [zw]; exact h3 j (by omega)) (agr_le a1 hle) lz (Or.inl nc) hR) (by rw [z9]; exact st) (by rw [zw, ecz]; exact typ_mono (fun _ _ => rfl) agr_rf (cpu_mono kr mr) (fun _ h => h) a2) zk hv (by rw [ecz]; exact bnd_le a3 (Nat.le_refl _) (Nat.le_refl _) hB) (fun c => absurd c z6) ?_ k
    have p2 : plc z S = plc s7 S := plc_low S lz
    have p3 := cost c1
    omega
  · exact fin_rbad hS (ko_tr k1 kz) (mks_tr m1 mz) wd (by rw [zl]; omega) (by rw [zl]; omega) c0 k
end XAT
