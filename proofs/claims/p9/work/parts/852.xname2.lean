/-! steps of an expression: strings, names -/
section XN2
variable {σ s s7 z t : St} {g g' g1 : Gh} {CP CP' : Int → Nat → Prop} {X0 X Xs : Nat → Prop} {b e0 H0 L e H H' n q s00 Hs00 H2 H3 m Bb : Nat} {A B S : List It} {it : It} {x y : Int32}
theorem sk_byteAt {Q : Int32 → Prop} (k : ∀ v, Q v) : wk_X10_byteAt x σ Q := by
  unfold wk_X10_byteAt
  exact ⟨fun _ => k _, fun c => ⟨fun _ => k _, fun _ => ⟨fun _ => k _, fun c2 => ⟨⟨c, c2⟩, k _⟩⟩⟩⟩
theorem sk_codeAt {Q : Int32 → Prop} (k : ∀ v, Q v) : wk_X10_codeAt x y σ Q := by
  unfold wk_X10_codeAt
  refine sk_byteAt (fun v => ⟨fun _ => sk_byteAt (fun v2 => ?_), fun _ => ⟨fun _ => k _, fun _ => ⟨fun _ => k _, fun _ => ⟨fun _ => k _, fun _ => k _⟩⟩⟩⟩)
  exact ⟨fun _ => k _, fun _ => ⟨fun _ => k _, fun _ => ⟨fun _ => k _, fun _ => ⟨fun _ => k _, fun _ => ⟨fun _ => k _, fun _ => k _⟩⟩⟩⟩⟩
theorem sk_widthAt {Q : Int32 → Prop} (k : ∀ v, Q v) : wk_X10_widthAt x σ Q := by
  unfold wk_X10_widthAt
  exact sk_byteAt (fun v => ⟨fun _ => k _, fun _ => k _⟩)
theorem sk_readCodes {Q : Int32 → St → Prop} (k : ∀ v s, Kp [] [17] σ s → v.toInt = min 200 (vlx σ x) → Q v s) : wk_X10_readCodes x σ Q := by
  unfold wk_X10_readCodes
  have hv : (if (200 : Int32) < (atv 16002 (σ 14) x) then (200 : Int32) else (atv 16002 (σ 14) x)).toInt = min 200 (vlx σ x) := by
    have e2 : (200 : Int32).toInt = 200 := by decide
    by_cases c : (200 : Int32) < (atv 16002 (σ 14) x)
    · rw [if_pos c]
      have h := Int32.lt_iff_toInt_lt.mp c
      have : vlx σ x = (atv 16002 (σ 14) x).toInt := rfl
      omega
    · rw [if_neg c]
      have h : ¬ (200 : Int32).toInt < (atv 16002 (σ 14) x).toInt := fun h => c (Int32.lt_iff_toInt_lt.mpr h)
      have : vlx σ x = (atv 16002 (σ 14) x).toInt := rfl
      omega
  generalize (if (200 : Int32) < (atv 16002 (σ 14) x) then (200 : Int32) else (atv 16002 (σ 14) x)) = V at *
  refine ⟨fun n _ y s => n = (V.toInt - y.toInt).toNat ∧ Kp [] [17] σ s, ⟨_, rfl, kp_rf⟩, ?_⟩
  rintro n x3 y s ⟨hn, hs⟩
  refine ⟨fun _ => k _ s hs hv, fun c => sk_codeAt (fun v => sk_widthAt (fun v2 => ⟨(V.toInt - (y + 1).toInt).toNat, by rw [up_lt c]; omega, rfl, kp_F hs rfl⟩))⟩
theorem sk_addInitial {a1 a2 a3 : Int32} {Q : St → Prop} (k : ∀ s, Kp [(5, 9)] [31, 32, 33] σ s → Q s) : wk_X8_addInitial a1 a2 a3 σ Q :=
  k _ (kp_f (kp_F (kp_F (kp_F kp_rf rfl) rfl) rfl) rfl)
abbrev KST (a b : St) : Prop := Kp [(6, 3), (6, 4), (6, 5), (5, 9)] [17, 31, 32, 33] a b
theorem xs_string {Q : St → Prop} (h : XC σ g X0 b e0 H0 L A) (cap : (σ 4 1).toInt ≤ 262150) (hA : A.length < 500) (k : ∀ s, XRs σ s g X0 b e0 H0 L A (iV :: A) 3 → Q s) : wk_X2_string x σ Q := by
  have hop := isOp_at hA
  unfold wk_X2_string
  refine sk_readCodes (fun v5 s5 k5 _ => ?_)
  have f0 : ∀ s, Kp [] [17] σ s → ((s 6 3).toInt = 0 → (σ 6 3).toInt = 0) := fun s hs c => by
    have e : (s 6 3) = (σ 6 3) := hs 6 3 rfl rfl
    rw [e] at c
    exact c
  have main : ∀ s37, KST σ s37 → ((s37 6 3).toInt = 0 → (σ 6 3).toInt = 0) → (∃ L55 : Nat → Int32 → St → Prop, (∃ n, L55 n (0 : Int32) (upC s37 6 5 ((s37 6 5) + (v5 + (1 : Int32))))) ∧ ∀ (n55 : Nat) (x4_55 : Int32) (s55 : St), L55 n55 x4_55 s55 → ((v5.toInt ≤ x4_55.toInt → wk_X2_push s55 (fun u93 s93 => wk_X6_become u93 (1 : Int32) (2 : Int32) s93 (fun s102 => (∀ s5n : St, s5n = upC s102 u93 7 ((-1) : Int32) → (∀ s7n : St, s7n = upC s5n u93 8 (s5 6 5) → wk_X0_emit (3 : Int32) ((s7n 5 13) + (1 : Int32)) (s5 6 5) (0 : Int32) s7n (fun v133 s133 => Q s133)))))) ∧ (x4_55.toInt < v5.toInt → wk_X8_addInitial ((s5 6 5) + x4_55) ((-2) : Int32) (atv 200 (s55 17) x4_55) s55 (fun s83 => ∃ m, m < n55 ∧ L55 m (x4_55 + 1) s83)))) := by
    intro s37 k37 hf37
    refine ⟨fun n y s => n = (v5.toInt - y.toInt).toNat ∧ KST σ s ∧ ((s 6 3).toInt = 0 → (σ 6 3).toInt = 0), ⟨_, rfl, kp_f k37 rfl, hf37⟩, ?_⟩
    rintro n y s ⟨hn, hs, hf⟩
    refine ⟨fun _ => ?_, fun c => sk_addInitial (fun s2 hs2 => ⟨(v5.toInt - (y + 1).toInt).toNat, by rw [up_lt c]; omega, rfl, kp_tr hs (kp_sub hs2 rfl rfl), fun c2 => hf (by have e : (s2 6 3) = (s 6 3) := hs2 6 3 rfl rfl; rw [e] at c2; exact c2)⟩)⟩
    refine sp_opush (n := A.length) (by rw [hs 7 7 rfl rfl]; exact h.1) hA (fun s1 p => sp_become (fun s102 r b0 b1 b6 bq => ?_))
    rintro _ rfl _ rfl
    obtain ⟨w1, c1, fl1, ct1, fu1⟩ := psh_rows p
    generalize hz : upC (upC s102 (65 + A.length) 7 ((-1) : Int32)) (65 + A.length) 8 (s5 6 5) = z
    have hro : RO (65 + A.length) s1 z := by rw [← hz]; exact ro_tr r (ro_up (ro_up ro_rf))
    have zq : ∀ j, j ≠ 7 → j ≠ 8 → z (65 + A.length) j = s102 (65 + A.length) j := fun j h7 h8 => by rw [← hz, rdA_ne h8, rdA_ne h7]
    have ks : KXE σ s := ko_sub (ko_kp hs) rfl rfl
    have kz : KXE σ z := ko_tr (ko_tr ks (psh_k p)) (ro_ko hro hop)
    have mz : MKs σ z := mks_tr (mks_tr (mks_eq (funext (fun j => hs 25 j rfl rfl)) (funext (fun j => hs 39 j rfl rfl))) (mks_eq fl1 ct1)) (ro_mks hro (by omega) (by omega))
    have cz : (z 4 1) = (σ 4 1) := ((hro 4 1 (by omega)).trans c1).trans (hs 4 1 rfl rfl)
    have z0 : 0 ≤ (z 4 1).toInt := by rw [cz]; exact h.2.2.1
    have z1 : (z 4 1).toInt < 262204 := by rw [cz]; omega
    refine sk_emit (n := 3) rfl (by decide) z0 z1 (fun v s133 _ em => k s133 ?_)
    have fz : (z 6 3) = (s 6 3) := (hro 6 3 (by omega)).trans fu1
    have fs : (s133 6 3) = (z 6 3) := em_cells em 6 3 (by decide) (by decide)
    exact xr_leaf h (fun c => hf (by rw [fs, fz] at c; exact c)) hA kz mz (low_tr (low_tr (low_kp hs rfl rfl) p.2.1) (ro_low hro (Nat.le_refl _))) ((funext (fun j => hro 24 j (by omega))).trans (w1.trans (funext (fun j => hs 24 j rfl rfl)))) cz (by rw [hro 7 7 (by omega)]; exact p.2.2.1) (by rw [zq 9 (by decide) (by decide), bq 9 (by decide) (by decide) (by decide) (by decide), p.2.2.2.2.2.2.1, hs 4 1 rfl rfl]) (by rw [zq 2 (by decide) (by decide), bq 2 (by decide) (by decide) (by decide) (by decide)]; exact p.2.2.2.2.1) (by unfold KDq; rw [zq 0 (by decide) (by decide)]; exact b0) (fun c => by rw [zq 6 (by decide) (by decide), b6] at c; exact absurd c (by decide)) em (m := 3) rfl (by decide) rfl rfl (by decide) fs
  refine ⟨fun s => KST σ s ∧ ((s 6 3).toInt = 0 → (σ 6 3).toInt = 0), fun s h => main s h.1 h.2, fun _ => ⟨kp_sub k5 rfl rfl, f0 s5 k5⟩, fun _ => sp_ufail (by decide) (fun s hs hf => ⟨kp_tr (kp_sub k5 rfl rfl) (kp_sub hs rfl rfl), fun c => absurd c hf⟩)⟩
theorem xs_named {Q : St → Prop} (u : UXs σ) (h : XC σ g X0 b e0 H0 L A) (cap : (σ 4 1).toInt ≤ 262150) (hA : A.length < 500) (k : ∀ s, XRs σ s g X0 b e0 H0 L A (iV :: A) 2 → Q s) : wk_X2_named x σ Q := by
  obtain ⟨u1, u2, u3, u4, u5⟩ := u
  have hop := isOp_at hA
  have refuse : wk_X2_refuse x σ (fun s43 => Q s43) := sp_refuse (fun s hs hf => k s (xr_bad h hs hf))
  have h' := h
  obtain ⟨h1, h2, h3, H, X, h4⟩ := h'
  have hT := rlx_typ A _ H X h4
  have en := clen_eq h3
  unfold wk_X2_named
  refine sp_localFrom u1 u4 (by decide) (fun v6 => ?_)
  -- the operand as it stands before it may become a pointer
  have place : ∀ s, KXE σ s → MKs σ s → LOW A.length σ s → (s 24) = (σ 24) → (s 4 1) = (σ 4 1) → (s 6 3) = (σ 6 3) → (s 7 7).toInt = A.length + 1 → (KDq s (65 + A.length) = 1 ∨ KDq s (65 + A.length) = 2) → (s (65 + A.length) 2).toInt = 1 → (s (65 + A.length) 6) = 0 → (s (65 + A.length) 9) = (σ 4 1) → Q s ∧ wk_X2_address (65 + A.length) s (fun s162 => Q s162) := by
    intro s ks ms ls ws cs fs cnt kd ht f6 st
    have ecl : clen s = clen σ := by unfold clen; rw [cs]
    have cm := cpu_mono ks ms
    have xs := (funext (fun j => ks 27 j (op_lt (by decide)) rfl rfl) : (s 27) = (σ 27))
    have hR : RLx s g (CPu s) X0 b e0 H0 L A (clen σ) H X := rlx_mono cm xs A _ H X (fun j _ => by rw [ws]) agr_rf ls (Or.inl h2) h4
    have T0 := (rlx_typ A _ H X hR).1
    refine ⟨k s ⟨ks, ms, fun j _ => by rw [ws], by rw [cs]; have := hT.2; omega, fun c => by rw [fs] at c; exact c, by rw [cs]; omega, fun _ => ⟨g, agr_rf, ⟨by rw [cnt]; rfl, nc_of (by decide), by rw [cs]; exact h3, H, X, ?_⟩, ?_⟩⟩, ?_⟩
    · rw [ecl]
      refine rlx_V h2 hR (Nat.le_refl _) (by rw [st]; exact en.symm) T0 ⟨by omega, fun _ => rfl, fun c => by omega, ⟨by unfold HOK; omega, ?_⟩, fun c => by rw [f6] at c; exact absurd c (by decide)⟩
      exact bnd_one (L := L) T0.2.1 (by omega)
    · have p1 : plc s (iV :: A) = pk s (65 + A.length) + plc s A := plc_V
      have p2 : plc s A = plc σ A := plc_low A ls
      have p3 := pkq_le (σ := s) (q := 65 + A.length)
      omega
    · refine sk_address hop (by rw [cs]; exact h3) (by rw [cs]; omega) (fun s75 z y1 y0 rz z0 z6 zq => ?_)
      obtain ⟨σ', nn, op, a1, a2, a3, p1, p2, p3, p4⟩ := y1 kd
      clear y1
      have l2 : ln nn = 2 := by rcases p3 with e | e <;> subst e <;> rfl
      have d0 : de nn = 1 := by rcases p3 with e | e <;> subst e <;> rfl
      have po0 : po nn = 0 := by rcases p3 with e | e <;> subst e <;> rfl
      have at0 : AT s s g X b L A.length (clen σ) (H + 7) H 0 := at_rf (by rw [ecl]; exact T0) (by rw [ecl]; exact bnd_one (L := L) T0.2.1 (by omega)) (by rw [cs]; exact h3)
      have at1 := at_emit (H3 := H + 1) (at_row at0 p1) p4 p2 (by omega) (by omega) (fun _ => by rw [d0, po0]; omega)
      obtain ⟨t1, t2, t3, t4, t5, t6, t7, t8⟩ := at1
      have kr : KXE s75 z := ro_ko rz hop
      have mr : MKs s75 z := ro_mks rz (by omega) (by omega)
      have zl : (z 4 1) = (s75 4 1) := rz 4 1 (by omega)
      have zw : (z 24) = (s75 24) := funext (fun j => rz 24 j (by omega))
      have e75 := em_clen p4 p2 (by rw [p1 4 1 rfl rfl, cs]; exact h3)
      have ecz : clen z = clen σ + 2 := by
        have a1' : clen z = clen s75 := by unfold clen; rw [zl]
        have a2' : clen σ' = clen s := by unfold clen; rw [p1 4 1 rfl rfl]
        omega
      have el := em_len p4 p2
      have el2 : (σ' 4 1) = (s 4 1) := p1 4 1 rfl rfl
      rw [el2, cs] at el
      have kz := ko_tr t1 kr
      have mz := mks_tr t2 mr
      have lz : LOW A.length s z := low_tr (low_le t5 (by omega)) (ro_low rz (Nat.le_refl _))
      have zv : ∀ j, j ≠ 0 → j ≠ 1 → j ≠ 3 → j ≠ 6 → j ≠ 7 → j ≠ 8 → z (65 + A.length) j = s (65 + A.length) j := fun j j0 j1 j3 j6 j7 j8 => (zq j j0 j1 j3 j6 j7 j8).trans (t5 A.length j (by omega))
      have fz : (z 6 3) = (s75 6 3) := rz 6 3 (by omega)
      refine k z ⟨ko_tr ks kz, mks_tr ms mz, fun j hj => by rw [zw, t3 j (by have := hT.2; omega), ws], by rw [zl]; have := hT.2; omega, fun c => by rw [fz] at c; have := t7 c; rw [fs] at this; exact this, by rw [zl]; omega, fun c => ?_⟩
      obtain ⟨g2, a1', a2', a3'⟩ := t8 (by rw [← fz]; exact c)
      rw [ecl] at a1'
      refine ⟨g2, agr_le a1' hT.2, ⟨by rw [rz 7 7 (by omega), t6, cnt]; rfl, nc_of (by decide), by rw [zl]; omega, H + 1, X, ?_⟩, ?_⟩
      · have cz := cpu_mono kz mz
        have e3 : clen s75 = clen z := by unfold clen; rw [zl]
        refine rlx_V h2 (rlx_mono cz (funext (fun j => kz 27 j (op_lt (by decide)) rfl rfl)) A _ H X (fun j hj => by rw [zw]; exact t3 j (by omega)) a1' lz (Or.inl h2) hR) (by omega) (by rw [zv 9 (by decide) (by decide) (by decide) (by decide) (by decide) (by decide), st]; exact en.symm) (by rw [zw, ← e3]; exact typ_mono (fun _ _ => rfl) agr_rf (cpu_mono kr mr) (fun _ h => h) a2') ⟨by omega, fun q => by omega, fun _ => rfl, ⟨by unfold HOK; rw [zv 2 (by decide) (by decide) (by decide) (by decide) (by decide) (by decide)]; omega, ?_⟩, fun q => absurd q z6⟩
        have eh : HT z (65 + A.length) = 1 := by unfold HT; rw [zv 2 (by decide) (by decide) (by decide) (by decide) (by decide) (by decide), ht]; rfl
        rw [eh, ← e3]
        exact a3'
      · have p1' : plc z (iV :: A) = plc z A := plc_0 (Or.inl z0)
        have p2' : plc z A = plc s A := plc_low A lz
        have p3' : plc s A = plc σ A := plc_low A ls
        omega
  have go : ∀ y0 : Int32, (wk_X2_push σ (fun u54 s54 => (∀ s4n : St, s4n = upC s54 u54 4 (if v6 < y0 then y0 else v6) → (∃ J80 : Int32 → Prop, (∀ (y1_80 : Int32), J80 y1_80 → ((∀ s7n : St, s7n = upC s4n u54 0 y1_80 → (∃ J114 : Int32 → Prop, (∀ (y1_114 : Int32), J114 y1_114 → ((∀ s10n : St, s10n = upC s7n u54 1 y1_114 → wk_X8_mark y0 (8 : Int32) s10n (fun s124 => (v6.toInt < 0 → ((atv 10100 (s124 27) (s124 u54 4)).toInt < 0 → Q s124) ∧ (0 ≤ (atv 10100 (s124 27) (s124 u54 4)).toInt → wk_X2_address u54 s124 (fun s162 => Q s162))) ∧ (0 ≤ v6.toInt → ((atv 100 (s124 42) (s124 u54 4)).toInt < 0 → Q s124) ∧ (0 ≤ (atv 100 (s124 42) (s124 u54 4)).toInt → wk_X2_address u54 s124 (fun s162 => Q s162))))))) ∧ (v6.toInt < 0 → J114 (atv 10100 (s7n 26) y0)) ∧ (0 ≤ v6.toInt → J114 (atv 100 (s7n 41) v6)))))) ∧ (v6.toInt < 0 → J80 (2 : Int32)) ∧ (0 ≤ v6.toInt → J80 (1 : Int32)))))) := by
    intro y0
    refine sp_opush h1 hA (fun s1 p => ?_)
    rintro _ rfl
    refine ⟨fun y => y = 1 ∨ y = 2, ?_, fun _ => Or.inr rfl, fun _ => Or.inl rfl⟩
    rintro y hy _ rfl
    refine ⟨fun _ => True, ?_, fun _ => trivial, fun _ => trivial⟩
    rintro y2 - _ rfl
    obtain ⟨w1, c1, fl1, ct1, fu1⟩ := psh_rows p
    generalize hz : upC (upC (upC s1 (65 + A.length) 4 (if v6 < y0 then y0 else v6)) (65 + A.length) 0 y) (65 + A.length) 1 y2 = z
    have hro : RO (65 + A.length) s1 z := by rw [← hz]; exact ro_up (ro_up (ro_up ro_rf))
    have zq : ∀ j, j ≠ 4 → j ≠ 0 → j ≠ 1 → z (65 + A.length) j = s1 (65 + A.length) j := fun j h4 h0 h1 => by rw [← hz, rdA_ne h1, rdA_ne h0, rdA_ne h4]
    have z00 : z (65 + A.length) 0 = y := by rw [← hz, rdA_ne (by decide), rdA_eq rfl]
    refine sp_mark8 (fun s hs ms _ => ?_)
    have sc : ∀ c j, c ≠ 25 → s c j = z c j := fun c j hc => hs c j rfl (by
      simp only [List.contains_cons, List.contains_nil, Bool.or_false]
      cases q : (c == (25 : Nat)) with
      | false => rfl
      | true => exact absurd (eq_of_beq q) hc)
    have kz : KXE σ z := ko_tr (psh_k p) (ro_ko hro hop)
    have mz : MKs σ z := mks_tr (mks_eq fl1 ct1) (ro_mks hro (by omega) (by omega))
    have kd : KDq s (65 + A.length) = 1 ∨ KDq s (65 + A.length) = 2 := by
      unfold KDq
      rw [sc _ 0 (by omega), z00]
      rcases hy with e | e <;> subst e
      · exact Or.inl rfl
      · exact Or.inr rfl
    have P := place s (ko_tr kz (ko_sub (ko_kp hs) rfl rfl)) (mks_tr mz ms) (low_tr (low_tr p.2.1 (ro_low hro (Nat.le_refl _))) (low_kp hs rfl rfl)) ((funext (fun j => (sc 24 j (by decide)).trans (hro 24 j (by omega)))).trans w1) ((sc 4 1 (by decide)).trans ((hro 4 1 (by omega)).trans c1)) ((sc 6 3 (by decide)).trans ((hro 6 3 (by omega)).trans fu1)) (by rw [sc 7 7 (by decide), hro 7 7 (by omega)]; exact p.2.2.1) kd (by rw [sc _ 2 (by omega), zq 2 (by decide) (by decide) (by decide)]; exact p.2.2.2.2.1) (by rw [sc _ 6 (by omega), zq 6 (by decide) (by decide) (by decide)]; exact p.2.2.2.2.2.1) (by rw [sc _ 9 (by omega), zq 9 (by decide) (by decide) (by decide)]; exact p.2.2.2.2.2.2.1)
    exact ⟨fun _ => ⟨fun _ => P.1, fun _ => P.2⟩, fun _ => ⟨fun _ => P.1, fun _ => P.2⟩⟩
  refine ⟨fun _ => True, fun y0 _ => ⟨True, fun _ => go y0, fun _ => trivial, fun _ => ⟨True, fun _ => refuse, fun _ => trivial, fun _ => sk_is (fun _ => ⟨fun _ => trivial, fun _ => trivial⟩) (fun _ => ⟨fun _ => trivial, fun _ => trivial⟩)⟩⟩, fun _ => trivial, fun _ => sp_outerOf u1 u2 u3 trivial (fun _ _ _ => trivial)⟩
end XN2
