/-! the top operand: read, taken -/
def pk (σ : St) (q : Nat) : Nat := if 1 ≤ KDq σ q ∧ KDq σ q ≤ 3 then 1 else 0
/-- the value on top, and what stands below it -/
def VAL (s : St) (g : Gh) (X0 : Nat → Prop) (b e0 H0 L : Nat) (S : List It) (s0 Hs : Nat) (X : Nat → Prop) : Prop := NC S ∧ RLx s g (CPu s) X0 b e0 H0 L S s0 Hs X ∧ s0 ≤ clen s ∧ (s (65 + S.length) 9).toInt = s0 ∧ TYp (s 24) g (CPu s) X b (clen s) (Hs + 1) L ∧ itV s g (65 + S.length) s0 Hs (clen s) (Hs + 1) ∧ KDq s (65 + S.length) = 0
section XLD
variable {σ s t : St} {g g' : Gh} {CP CP' : Int → Nat → Prop} {X0 X Xs : Nat → Prop} {b e0 H0 L e H H' n q s0 Hs : Nat} {A B S : List It} {it : It} {x y : Int32}
theorem lds_k (h : LDs σ s q) : KXE σ s := ko_sub h.1 rfl rfl
theorem lds_m (h : LDs σ s q) (hq : q ≠ 25 ∧ q ≠ 39) : MKs σ s := mks_eq (funext (fun j => h.2.1 25 j (Ne.symm hq.1) (by decide) (by decide))) (funext (fun j => h.2.1 39 j (Ne.symm hq.2) (by decide) (by decide)))
theorem lds_low (h : LDs σ s q) (hq : 65 + n ≤ q) : LOW n σ s := fun j k hj => h.2.1 _ k (by omega) (by omega) (by omega)
theorem plc_V : plc σ (iV :: S) = pk σ (65 + S.length) + plc σ S := by
  unfold pk
  show (if (iV.1 = 0 ∨ iV.1 = 1) ∧ 1 ≤ KDq σ (65 + S.length) ∧ KDq σ (65 + S.length) ≤ 3 then 1 else 0) + plc σ S = _
  by_cases c : 1 ≤ KDq σ (65 + S.length) ∧ KDq σ (65 + S.length) ≤ 3
  · rw [if_pos c, if_pos ⟨Or.inl rfl, c⟩]
  · rw [if_neg c, if_neg (fun z => c z.2)]
theorem plc_L {sg : Int} : plc σ (iL sg :: S) = pk σ (65 + S.length) + plc σ S := by
  unfold pk
  show (if ((iL sg).1 = 0 ∨ (iL sg).1 = 1) ∧ 1 ≤ KDq σ (65 + S.length) ∧ KDq σ (65 + S.length) ≤ 3 then 1 else 0) + plc σ S = _
  by_cases c : 1 ≤ KDq σ (65 + S.length) ∧ KDq σ (65 + S.length) ≤ 3
  · rw [if_pos c, if_pos ⟨Or.inr rfl, c⟩]
  · rw [if_neg c, if_neg (fun z => c z.2)]
theorem xc_loaded {Q : Nat → St → Prop} (h : XC σ g X0 b e0 H0 L (iV :: S)) (hS : S.length < 500) (cap : (σ 4 1).toInt ≤ 262180)
    (k : ∀ s g' s0 Hs X, LDs σ s (65 + S.length) → AGR g g' (clen σ) → VAL s g' X0 b e0 H0 L S s0 Hs X → e0 ≤ s0 → clen s ≤ clen σ + 2 * pk σ (65 + S.length) → 0 ≤ (s 4 1).toInt → Q (65 + S.length) s) : wk_X2_loaded (65 + S.length) σ Q := by
  obtain ⟨h1, h2, h3, H, X, h4⟩ := h
  obtain ⟨nc, s0, Hs, r1, r2, r3, r4, v⟩ := rlx_Vi h4
  have hT := rlx_typ S _ _ _ r1
  have v' := v
  obtain ⟨v1, v2, v3, ⟨v4, v5⟩, v6⟩ := v'
  have hq := isOp_at hS
  have en := clen_eq h3
  refine sp_loaded h3 (by omega) hq ⟨v1.1, by omega⟩ (fun s ld kp kn => ?_) (by omega)
  have k2 := lds_k ld
  have m2 := lds_m ld ⟨by omega, by omega⟩
  have low : LOW S.length σ s := lds_low ld (Nat.le_refl _)
  have ext : (s 27) = (σ 27) := funext (fun j => k2 27 j (op_lt (by decide)) rfl rfl)
  have ht : HT s (65 + S.length) = HT σ (65 + S.length) := by unfold HT; rw [ld.2.2.2.1 2 (by decide)]
  have hok : HOK s (65 + S.length) := by unfold HOK; rw [ld.2.2.2.1 2 (by decide)]; exact v4
  have s3 : 0 ≤ (s 4 1).toInt := by have := ld.2.2.2.2.2.1; omega
  by_cases c : 1 ≤ KDq σ (65 + S.length) ∧ KDq σ (65 + S.length) ≤ 3
  · obtain ⟨m, s1, a1, a2, a3, op, hm, hm2, em, es⟩ := kp c
    have l2 : ln m = 2 := by
      have : m = 18 ∨ m = 5 ∨ m = 8 := by omega
      rcases this with e | e | e <;> subst e <;> rfl
    have ws : ∀ j, j < clen σ → (s 24) j = (σ 24) j := ld.2.2.2.2.1
    have wop : (s 24) (clen σ) = op := by
      rw [es, rdC_ne (by omega)]
      exact em.2.2.2.1
    have ecl : clen s = clen σ + 2 := by
      have e1 := em_clen em hm h3
      have : clen s = clen s1 := by
        unfold clen
        rw [es, rdC_ne (by omega)]
      rw [this, e1, l2]
    have hpo : po m ≤ H ∧ ((Hs + 1 : Nat) : Int) = H + de m := by
      rcases hm2 with ⟨e, e2⟩ | ⟨e, e2⟩
      · subst e
        have := v3 (Or.inr e2)
        have d : de 18 = 0 := rfl
        have p : po 18 = 1 := rfl
        rw [d, p]
        omega
      · have := v2 (by omega)
        have d : de m = 1 := by rcases e with e | e <;> subst e <;> rfl
        have p : po m = 0 := by rcases e with e | e <;> subst e <;> rfl
        rw [d, p]
        omega
    obtain ⟨g', T', ag, gi⟩ := typ_pl (w' := (s 24)) (n := m) (H' := Hs + 1) (typ_mono (g' := g) (CP' := CPu s) (fun q _ => rfl) agr_rf (cpu_mono k2 m2) (fun _ z => z) r4) ws (by rw [wop]; exact hm) (by omega) (by omega) (by omega) hpo.1 hpo.2
    rw [l2] at T' gi
    rw [← ecl] at T'
    have gi' : ∀ j, clen σ < j → j < clen σ + 2 → g' j = none := gi
    refine k s g' s0 Hs X ld ag ⟨nc, rlx_mono (cpu_mono k2 m2) ext S _ _ _ (fun j hj => ws j (by omega)) (agr_le ag r2) low (Or.inl nc) r1, by omega, by rw [ld.2.2.2.1 9 (by decide)]; exact r3, T', ⟨by rw [ld.2.2.1]; omega, fun z => by rw [ld.2.2.1] at z; omega, fun _ => rfl, ⟨hok, ?_⟩, fun z => ⟨ld.2.2.1, by rw [ld.2.2.2.1 6 (by decide)] at z; have := (v6 z).2; omega⟩⟩, ld.2.2.1⟩ (by have := hT.2; omega) (by unfold pk; rw [if_pos c]; omega) s3
    rw [ht, ecl]
    exact bnd_ext v5 ag gi' (by rw [← ecl]; exact T'.2.1) (by have := v4.1; unfold HT; omega)
  · have kd : KDq σ (65 + S.length) = 0 := by omega
    obtain ⟨es, -⟩ := kn (Or.inl kd)
    subst es
    have eH := v3 (Or.inl kd)
    subst eH
    exact k s g s0 Hs X ld agr_rf ⟨nc, r1, r2, r3, r4, v, kd⟩ (by have := hT.2; omega) (Nat.le_add_right _ _) h3
/-- it is taken away: its value is left on the stack -/
theorem xc_pop {Q : Nat → St → Prop} (h : XC σ g X0 b e0 H0 L (iV :: S)) (hS : S.length < 500) (cap : (σ 4 1).toInt ≤ 262180)
    (k : ∀ s g' s0 Hs X, KXE σ s → MKs σ s → LOW S.length σ s → (∀ j, j ≠ 0 → s (65 + S.length) j = σ (65 + S.length) j) → (∀ c j, 65 + S.length < c → s c j = σ c j) → (∀ j, j < clen σ → (s 24) j = (σ 24) j) → AGR g g' (clen σ) → VAL s g' X0 b e0 H0 L S s0 Hs X → (s 7 7).toInt = S.length → e0 ≤ s0 → clen s ≤ clen σ + 2 * pk σ (65 + S.length) → clen σ ≤ clen s → 0 ≤ (s 4 1).toInt → (s 6 3) = (σ 6 3) → Q (65 + S.length) s) : wk_X2_pop σ Q := by
  have cnt := h.1
  unfold wk_X2_pop
  refine sp_otop (n := S.length) (by rw [cnt]; rfl) hS (xc_loaded h hS cap (fun s g' s0 Hs X ld ag va he hc hl => ?_))
  have e7 : (s 7 7) = (σ 7 7) := ld.2.1 7 7 (by omega) (by decide) (by decide)
  have cnt' : (σ 7 7).toInt = ((S.length + 1 : Nat) : Int) := cnt
  refine ⟨fun c => ?_, fun _ => ?_⟩
  · have : (s 7 7).toInt ≤ 0 := c
    rw [e7] at this
    omega
  have s3 : 0 ≤ (σ 4 1).toInt := h.2.2.1
  have en := clen_eq s3
  have en2 := clen_eq hl
  have lw := ld.2.2.2.2.2.1
  generalize hz : upC s 7 7 ((s 7 7) - (1 : Int32)) = z
  have zc : ∀ c j, c ≠ 7 → z c j = s c j := fun c j hc7 => by rw [← hz, rdC_ne hc7]
  have z7 : (z 7 7).toInt = S.length := by
    rw [← hz, rdA_eq rfl, e7, sb1 (by omega)]
    omega
  have kz : KXE s z := by rw [← hz]; exact ko_kp (kp_f kp_rf rfl)
  have k2 := lds_k ld
  have mz : MKs s z := mks_eq (funext (fun j => zc 25 j (by decide))) (funext (fun j => zc 39 j (by decide)))
  have zcl : clen z = clen s := by unfold clen; rw [zc 4 1 (by decide)]
  obtain ⟨nc, r1, r2, r3, r4, r5, r6⟩ := va
  obtain ⟨w1, w2, w3, ⟨w4, w5⟩, w6⟩ := r5
  have kd : KDq z (65 + S.length) = KDq s (65 + S.length) := by unfold KDq; rw [zc _ 0 (by omega)]
  have ht : HT z (65 + S.length) = HT s (65 + S.length) := by unfold HT; rw [zc _ 2 (by omega)]
  have hok : HOK z (65 + S.length) := by unfold HOK; rw [zc _ 2 (by omega)]; exact w4
  have lz : ∀ n, LOW n s z := fun n j k _ => zc _ k (by omega)
  refine k z g' s0 Hs X (ko_tr k2 kz) (mks_tr (lds_m ld ⟨by omega, by omega⟩) mz) (low_tr (lds_low ld (Nat.le_refl _)) (lz _)) (fun j hj => by rw [zc _ j (by omega)]; exact ld.2.2.2.1 j hj) (fun c j hc => by rw [zc c j (by omega)]; exact ld.2.1 c j (by omega) (by omega) (by omega)) (fun j hj => by rw [show (z 24) j = (s 24) j from zc 24 j (by decide)]; exact ld.2.2.2.2.1 j hj) ag ⟨nc, ?_, by rw [zcl]; exact r2, by rw [zc _ 9 (by omega)]; exact r3, ?_, ⟨by rw [kd]; exact w1, by rw [kd]; exact w2, by rw [kd]; exact w3, ⟨hok, by rw [ht, zcl]; exact w5⟩, by rw [kd, zc _ 6 (by omega), zcl]; exact w6⟩, by rw [kd]; exact r6⟩ z7 he (by rw [zcl]; exact hc) (by rw [zcl]; omega) (by rw [zc 4 1 (by decide)]; exact hl) ?_
  · exact rlx_mono (cpu_mono kz mz) (funext (fun j => zc 27 j (by decide))) S _ _ _ (fun j _ => zc 24 j (by decide)) agr_rf (lz _) (Or.inl nc) r1
  · rw [zcl]
    exact typ_mono (fun j _ => zc 24 j (by decide)) agr_rf (cpu_mono kz mz) (fun _ h => h) r4
  · rw [zc 6 3 (by decide)]
    exact ld.2.1 6 3 (by omega) (by decide) (by decide)
end XLD
