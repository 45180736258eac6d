/-! steps of an expression: ? and : -/
section XQU
variable {σ s s7 z t : St} {g g' g1 : Gh} {CP CP' : Int → Nat → Prop} {X0 X Xs : Nat → Prop} {b e0 H0 L e H H' n q s00 Hs00 H2 H3 m Bb : Nat} {A B S : List It} {it : It} {x y : Int32}
theorem sk_unless {Q : Int32 → St → Prop} (h0 : 0 ≤ (σ 4 1).toInt) (h1 : (σ 4 1).toInt < 262200) (hst : (σ q 6).toInt = 1 → 0 ≤ (σ q 9).toInt ∧ (σ q 9).toInt ≤ (σ 4 1).toInt) (k1 : ∀ v s, v = (σ 4 1) → EMi σ s 27 x 0 0 → Q v s) (k2 : ∀ (s1 s : St) (v : Int32), (σ q 6).toInt = 1 → Kp [(4, 1)] [] σ s1 → (s1 4 1) = (σ q 9) → EMi s1 s 26 x 0 0 → v = (s1 4 1) → Q v s) (k3 : ∀ s1 : St, (σ q 6).toInt = 1 → Kp [(4, 1)] [] σ s1 → (s1 4 1) = (σ q 9) → Q x s1) : wk_X2_unless q x σ Q := by
  unfold wk_X2_unless
  refine ⟨True, fun _ => sk_emit (n := 27) rfl (by decide) h0 (by omega) (fun v s e em => k1 v s e em), fun _ => trivial, fun _ => sp_isConstant (fun _ => ⟨fun _ => trivial, fun e => absurd rfl e⟩) (fun c => ⟨fun _ => trivial, fun _ => sk_cut (hst c).2 (fun s1 hs1 e1 => ⟨fun _ => ?_, fun _ => k3 s1 c hs1 e1⟩)⟩)⟩
  have := hst c
  exact sk_emit (n := 26) rfl (by decide) (by rw [e1]; omega) (by rw [e1]; omega) (fun v s e em => k2 s1 s v c hs1 e1 em e)
theorem k4_of (k1' : Kp [(4, 1)] [] σ s) : ∀ c j, c ≠ 4 → s c j = σ c j := fun c j hc => k1' c j (by
  simp only [List.contains_cons, List.contains_nil, Bool.or_false]
  cases z : ((c, j) == ((4 : Nat), (1 : Nat))) with
  | false => rfl
  | true => exact absurd (congrArg Prod.fst (eq_of_beq z)) hc) rfl
theorem xs_quest {Q : St → Prop} (h : XC σ g X0 b e0 H0 L (iV :: S)) (cap : (σ 4 1).toInt ≤ 262150) (hS : S.length < 500) (k : ∀ s, XRs σ s g X0 b e0 H0 L (iV :: S) (iQ :: S) 2 → Q s) : wk_X2_top σ (fun u216 => wk_X2_top σ (fun u222 => wk_X2_loaded u222 σ (fun u225 s225 => wk_X2_unless u225 ((-1) : Int32) s225 (fun v229 s229 => (∀ s45n : St, s45n = upC s229 u216 10 v229 → Q s45n))))) := by
  have he0 := xc_e0 h
  have c0 := clen_eq h.2.2.1
  have hcnt := h.1
  have hop := isOp_at hS
  refine sp_otop (n := S.length) (by rw [h.1]; rfl) hS (sp_otop (n := S.length) (by rw [h.1]; rfl) hS (xc_loaded h hS (by omega) (fun s7 g1 s00 Hs00 X9 ld ag va he hc h3 => ?_)))
  obtain ⟨nc2, r1, r2, r3, r4, ⟨v1, -, -, ⟨v4, v5⟩, v6⟩, v7⟩ := va
  have e1 := clen_eq h3
  have pk1 := pkq_le (σ := σ) (q := 65 + S.length)
  have okl := v4
  unfold HOK at okl
  have ldl := ld.2.2.2.2.2.1
  have ldw := ld.2.2.2.2.1
  have plcA : plc σ (iV :: S) = pk σ (65 + S.length) + plc σ S := plc_V
  have fu : (s7 6 3) = (σ 6 3) := ld.2.1 6 3 (by omega) (by decide) (by decide)
  have hT0 := (rlx_typ S _ _ _ r1).1
  -- what is left, from what is told of its code
  have fin : ∀ (s : St) (g2 : Gh) (v : Int32) (e9 : Nat) (X2 : Nat → Prop), KXE s7 s → MKs s7 s → (∀ c j, c ≠ 4 → c ≠ 24 → s c j = s7 c j) → (∀ j, j < s00 → (s 24) j = (s7 24) j) → (s 4 1).toInt = e9 → s00 ≤ e9 → e9 ≤ clen s7 + 2 → AGR g1 g2 s00 → TYp (s 24) g2 (CPu s) X2 b e9 Hs00 L → BND g2 s00 e9 (Hs00 + 7 * (s7 (65 + S.length) 2).toInt.toNat) → ((v.toInt < 0 ∧ X2 = X9) ∨ ∃ j n h, ((n = 26 ∧ h = Hs00) ∨ (n = 27 ∧ h = Hs00 + 1)) ∧ (v.toInt = (j : Nat) ∧ s00 ≤ j ∧ j + 2 = e9 ∧ ((s 24) j).toInt = (n : Nat) ∧ g2 j = some (h, L) ∧ ((s 24) (j + 1)).toInt < 0) ∧ X2 = XU X9 j) → Q (upC s (65 + S.length) 10 v) := by
    intro s g2 v e9 X2 kk mm cc ww el1 el2 el3 ag2 T bd jj
    generalize hz : upC s (65 + S.length) 10 v = z
    have zc : ∀ c j, c ≠ 65 + S.length → z c j = s c j := fun c j hc => by rw [← hz, rdC_ne hc]
    have zq : ∀ j, j ≠ 10 → z (65 + S.length) j = s7 (65 + S.length) j := fun j hj => by rw [← hz, rdA_ne hj]; exact cc _ j (by omega) (by omega)
    have z10 : z (65 + S.length) 10 = v := by rw [← hz, rdA_eq rfl]
    have z24 : (z 24) = (s 24) := funext (fun j => zc 24 j (by omega))
    have z4 : (z 4 1) = (s 4 1) := zc 4 1 (by omega)
    have kz : KXE s7 z := ko_tr kk (by rw [← hz]; exact ko_op ko_rf hop)
    have m' : MKs s z := mks_eq (funext (fun j => zc 25 j (by omega))) (funext (fun j => zc 39 j (by omega)))
    have mz : MKs s7 z := mks_tr mm m'
    have cm := cpu_mono kz mz
    have cm' : ∀ a m, CPu s a m → CPu z a m := cpu_mono (by rw [← hz]; exact ko_op ko_rf hop) m'
    have low : LOW S.length s7 z := fun j k hj => (zc _ k (by omega)).trans (cc _ k (by omega) (by omega))
    have ecz : clen z = e9 := by
      have := clen_eq (σ := z) (by rw [z4]; omega)
      rw [z4] at this
      omega
    have fz : (z 6 3) = (s7 6 3) := (zc 6 3 (by omega)).trans (cc 6 3 (by decide) (by decide))
    refine k z ⟨ko_tr (lds_k ld) kz, mks_tr (lds_m ld ⟨by omega, by omega⟩) mz, fun j hj => by rw [z24, ww j (by omega)]; exact ldw j (by omega), by rw [z4]; omega, fun hf => by rw [fz, fu] at hf; exact hf, by rw [z4]; omega, fun _ => ⟨g2, agr_tr (agr_le ag he0) (agr_le ag2 he) (Nat.le_refl _), ⟨?_, nc_of (by decide), by rw [z4]; omega, Hs00, X2, ?_⟩, ?_⟩⟩
    · rw [zc 7 7 (by omega), cc 7 7 (by decide) (by decide), ld.2.1 7 7 (by omega) (by decide) (by decide), hcnt]
      rfl
    · rw [ecz]
      have ht : HT z (65 + S.length) = (s7 (65 + S.length) 2).toInt.toNat := by unfold HT; rw [zq 2 (by decide)]
      refine rlx_Q nc2 (rlx_mono cm (funext (fun j => kz 27 j (op_lt (by decide)) rfl rfl)) S _ _ _ (fun j hj => by rw [z24]; exact ww j hj) ag2 low (Or.inl nc2) r1) el2 (by rw [zq 9 (by decide)]; exact r3) (by rw [z24]; exact typ_mono (fun _ _ => rfl) agr_rf cm' (fun _ h => h) T) ⟨rfl, ⟨by unfold HOK; rw [zq 2 (by decide)]; exact v4, by rw [ht]; exact bd⟩, ?_⟩
      rcases jj with ⟨j1, j2⟩ | ⟨j, n, h, j1, ⟨j2, j3, j4, j5, j6, j7⟩, j8⟩
      · exact Or.inl ⟨by rw [z10]; exact j1, j2⟩
      · exact Or.inr ⟨j, n, h, j1, ⟨by rw [z10]; exact j2, j3, j4, by rw [z24]; exact j5, j6, by rw [z24]; exact j7⟩, j8⟩
    · have p1 : plc z (iQ :: S) = plc z S := by
        show (if (iQ.1 = 0 ∨ iQ.1 = 1) ∧ _ then 1 else 0) + plc z S = _
        rw [if_neg (fun h => absurd h.1 (by decide))]
        omega
      have p2 : plc z S = plc σ S := (plc_low S low).trans (plc_low S (lds_low ld (Nat.le_refl _)))
      omega
  have v5' : BND g1 s00 (clen s7) (Hs00 + 7 * (s7 (65 + S.length) 2).toInt.toNat) := v5
  have m1e : ((-1 : Int32)).toInt < 0 := by decide
  refine sk_unless h3 (by omega) (fun c => ⟨by omega, by omega⟩) (fun v s ev em => ?_) (fun s1 s v c k1 el em ev => ?_) (fun s1 c k1 el => ?_)
  · rintro _ rfl
    have e2 := em_clen em (n := 27) rfl h3
    have l2 : ln 27 = 2 := rfl
    have ell := em_len em (m := 27) rfl
    obtain ⟨ek, emk, elw, ex, ef, ee⟩ := em_k em
    obtain ⟨g2, T2, ag2, gn⟩ := typ_hole (w' := (s 24)) (n := 27) (H' := Hs00) (L' := L) (typ_mono (fun q _ => rfl) agr_rf (cpu_mono ek emk) (fun _ z => z) r4) em.2.2.1 (by rw [em.2.2.2.1]; rfl) (by decide) (fun _ => ⟨by omega, by omega, rfl⟩)
    refine fin s g2 v (clen s7 + 2) (XU X9 (clen s7)) ek emk (em_cells em) (fun j hj => em.2.2.1 j (by omega)) (by omega) (by omega) (Nat.le_refl _) (agr_le ag2 r2) T2 ?_ (Or.inr ⟨clen s7, 27, Hs00 + 1, Or.inr ⟨rfl, rfl⟩, ⟨by rw [ev]; exact e1.symm, r2, rfl, by rw [em.2.2.2.1]; rfl, by rw [ag2 _ (Nat.le_refl _)]; exact r4.2.1, by rw [em.2.2.2.2.1]; exact m1e⟩, rfl⟩)
    exact bnd_ext v5' ag2 (fun j a1 a2 => by
      have : j = clen s7 + 1 := by omega
      rw [this]
      exact gn) T2.2.1 (by omega)
  · rintro _ rfl
    have hs1 := k4_of k1
    have l1 : (s1 4 1).toInt = s00 := by rw [el]; exact r3
    have cl1 : clen s1 = s00 := by
      have := clen_eq (σ := s1) (by omega)
      omega
    have e2 := em_clen em (n := 26) rfl (by omega)
    have l2 : ln 26 = 2 := rfl
    have ell := em_len em (m := 26) rfl
    obtain ⟨ek, emk, elw, ex, ef, ee⟩ := em_k em
    have kk1 : KXE s7 s1 := ko_sub (ko_kp k1) rfl rfl
    have mm1 : MKs s7 s1 := mks_eq (funext (fun j => hs1 25 j (by decide))) (funext (fun j => hs1 39 j (by decide)))
    have kk : KXE s7 s := ko_tr kk1 ek
    have mm : MKs s7 s := mks_tr mm1 emk
    have w24 : (s1 24) = (s7 24) := funext (fun j => hs1 24 j (by decide))
    have ws : ∀ j, j < s00 → (s 24) j = (s7 24) j := fun j hj => (em.2.2.1 j (by omega)).trans (by rw [w24])
    have w0 : (s 24) s00 = 26 := by rw [← cl1]; exact em.2.2.2.1
    have w1 : (s 24) (s00 + 1) = -1 := by rw [← cl1]; exact em.2.2.2.2.1
    obtain ⟨g2, T2, ag2, gn⟩ := typ_hole (w' := (s 24)) (n := 26) (H' := Hs00) (L' := L) (typ_mono (fun q _ => rfl) agr_rf (cpu_mono kk mm) (fun _ z => z) hT0) ws (by rw [w0]; rfl) (by decide) (fun c => absurd rfl c)
    have f00 := (v6 c).2
    refine fin s g2 v (s00 + 2) (XU X9 s00) kk mm (fun c j h4 h24 => (em_cells em c j h4 h24).trans (hs1 c j h4)) ws (by omega) (by omega) (by omega) ag2 T2 ?_ (Or.inr ⟨s00, 26, Hs00, Or.inl ⟨rfl, rfl⟩, ⟨by rw [ev]; exact l1, Nat.le_refl _, rfl, by rw [w0]; rfl, by rw [ag2 _ (Nat.le_refl _)]; exact hT0.2.1, by rw [w1]; exact m1e⟩, rfl⟩)
    exact bnd_ext (bnd_one (L := L) hT0.2.1 (by omega)) ag2 (fun j a1 a2 => by
      have : j = s00 + 1 := by omega
      rw [this]
      exact gn) T2.2.1 (by omega)
  · rintro _ rfl
    have hs1 := k4_of k1
    have l1 : (s1 4 1).toInt = s00 := by rw [el]; exact r3
    have kk1 : KXE s7 s1 := ko_sub (ko_kp k1) rfl rfl
    have mm1 : MKs s7 s1 := mks_eq (funext (fun j => hs1 25 j (by decide))) (funext (fun j => hs1 39 j (by decide)))
    have w24 : (s1 24) = (s7 24) := funext (fun j => hs1 24 j (by decide))
    exact fin s1 g1 (-1) s00 X9 kk1 mm1 (fun c j h4 _ => hs1 c j h4) (fun j _ => by rw [w24]) l1 (Nat.le_refl _) (by omega) agr_rf (by rw [w24]; exact typ_mono (fun _ _ => rfl) agr_rf (cpu_mono kk1 mm1) (fun _ h => h) hT0) (bnd_one (L := L) hT0.2.1 (by omega)) (Or.inl ⟨m1e, rfl⟩)
end XQU
