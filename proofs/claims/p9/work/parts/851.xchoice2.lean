/-! steps of an expression: behind the two of ? : -/
section XC2
variable {σ s s7 z t : St} {g g' g1 : Gh} {CP CP' : Int → Nat → Prop} {X0 X Xs : Nat → Prop} {b e0 H0 L e H H' n q s00 Hs00 H2 H3 m Bb : Nat} {A B S : List It} {it : It} {x y : Int32}
/-- a value is taken away -/
theorem sp_pop0 {Q : Nat → St → Prop} (hc : (σ 7 7).toInt = ((n + 1 : Nat) : Int)) (hn : n < 500) (kd : KDq σ (65 + n) = 0) (k : Q (65 + n) (upC σ 7 7 ((σ 7 7) - (1 : Int32)))) : wk_X2_pop σ Q := by
  unfold wk_X2_pop
  refine sp_otop hc hn ?_
  unfold wk_X2_loaded
  refine sp_isPlace (fun _ => ⟨fun _ => ⟨fun c => by omega, fun _ => k⟩, fun e => absurd rfl e⟩) (fun p => by omega)
theorem xs_choice {Q : St → Prop} (h : XC σ g X0 b e0 H0 L (iV :: iM :: iC :: S)) (cap : (σ 4 1).toInt ≤ 262150) (hS : S.length + 2 < 500) (k : ∀ s, XRs σ s g X0 b e0 H0 L (iV :: iM :: iC :: S) (iV :: S) 0 → Q s) : wk_X2_choice x σ Q := by
  have he0 := xc_e0 h
  have c0 := clen_eq h.2.2.1
  have hcnt := h.1
  have hop := isOp_at (n := S.length) (by omega)
  unfold wk_X2_choice
  refine xc_pop (S := iM :: iC :: S) h hS (by omega) (fun s1 g1 s9 Hs9 X9 k1 m1 l1 f1 hi w1 ag va cnt he hc hc2 h3 fu => ?_)
  obtain ⟨nc, r1, r2, r3, r4, ⟨v1, -, -, ⟨v4, v5⟩, v6⟩, v7⟩ := va
  obtain ⟨kdM, nc2, s00, Hs00, Xs, i1', i2', i3', i4', ⟨b1, b2, b3, b4, j, ⟨j2, j3, j4, j5, j6, j7⟩, j8⟩⟩ := rlx_Ci r1
  subst b1 j8
  have e1 := clen_eq h3
  have hs00 := (rlx_typ S _ _ _ i1').2
  have pk1 := pkq_le (σ := σ) (q := 65 + (iM :: iC :: S).length)
  have cnt1 : (s1 7 7).toInt = ((S.length + 1 + 1 : Nat) : Int) := cnt
  refine sp_pop0 (n := S.length + 1) cnt1 (by omega) kdM ?_
  generalize hs6 : upC s1 7 7 ((s1 7 7) - (1 : Int32)) = s6
  have c6 : ∀ c i, c ≠ 7 → s6 c i = s1 c i := fun c i hc => by rw [← hs6, rdC_ne hc]
  have cnt6 : (s6 7 7).toInt = ((S.length + 1 : Nat) : Int) := by
    rw [← hs6, rdA_eq rfl, sb1 (by omega), cnt1]
    omega
  refine sp_otop (n := S.length) cnt6 (by omega) ?_
  have okr : 1 ≤ (s1 (65 + (S.length + 2)) 2).toInt ∧ (s1 (65 + (S.length + 2)) 2).toInt ≤ 60 := v4
  have okf := b2
  unfold HOK at okf
  have okm : 1 ≤ (s1 (65 + (S.length + 1)) 2).toInt ∧ (s1 (65 + (S.length + 1)) 2).toInt ≤ 60 := b3
  have br : BND g1 s9 (clen s1) (Hs9 + 7 * (s1 (65 + (S.length + 2)) 2).toInt.toNat) := v5
  have bl : BND g1 s00 s9 (Hs9 + 7 * max (s1 (65 + S.length) 2).toInt.toNat (s1 (65 + (S.length + 1)) 2).toInt.toNat) := b4
  have l6 : (s6 4 1) = (s1 4 1) := c6 4 1 (by decide)
  have w6 : (s6 24) = (s1 24) := funext (fun i => c6 24 i (by decide))
  refine sp_aim1 (j := j) (by rw [c6 _ 10 (by omega)]; exact j2) (by omega) (by rw [w6]; exact j7) (by rw [l6]; omega) ?_
  generalize hs32 : upF s6 24 (fun i => if i = j + 1 then (s6 4 1) else (s6 24) i) = s32
  have c32 : ∀ c i, c ≠ 7 → c ≠ 24 → s32 c i = s1 c i := fun c i h7 h24 => by rw [← hs32, rdF_ne h24]; exact c6 c i h7
  have w32 : ∀ i, (s32 24) i = if i = j + 1 then (s6 4 1) else (s1 24) i := fun i => by
    rw [← hs32, rdF_eq, w6]
  have cnt32 : (s32 7 7).toInt = S.length + 1 := by
    rw [← hs32, rdF_ne (by decide), cnt6]
    omega
  have k32 : KXE s1 s32 := by
    rw [← hs32, ← hs6]
    exact ko_kp (kp_F (kp_f kp_rf rfl) rfl)
  have m32 : MKs s1 s32 := mks_eq (funext (fun i => c32 25 i (by decide) (by decide))) (funext (fun i => c32 39 i (by decide) (by decide)))
  have cm := cpu_mono k32 m32
  have el : clen s32 = clen s1 := by unfold clen; rw [c32 4 1 (by decide) (by decide)]
  have T3 : TYp (s32 24) g1 (CPu s32) Xs b (clen s1) (Hs9 + 1) L := by
    refine typ_aim (w := (s1 24)) (p := j) (t := clen s1) (n := 26) (h0 := Hs9 + 1) (k0 := L) (ht := Hs9 + 1) (v := s6 4 1) (typ_mono (fun q _ => rfl) agr_rf cm (fun _ h => h) r4) j6 (by omega) j5 (by decide) (fun i hi => by rw [w32, if_neg hi]) (by rw [w32, if_pos rfl]) (by rw [l6]; exact e1.symm) (Nat.le_refl _) ⟨L, r4.2.1, Or.inr ⟨rfl, by omega⟩⟩ ⟨fun _ => rfl, fun c => by omega⟩
  have ws : ∀ i, i < s00 → (s32 24) i = (s1 24) i := fun i hi => by rw [w32, if_neg (by omega)]
  have low : LOW S.length s1 s32 := fun i k hi => c32 _ k (by omega) (by omega)
  have plcS : plc s32 S = plc σ S := (plc_low S low).trans (plc_low S (low_le l1 (by show S.length ≤ S.length + 1 + 1; omega)))
  have plcA : plc σ (iV :: iM :: iC :: S) = pk σ (65 + (iM :: iC :: S).length) + plc σ (iM :: iC :: S) := plc_V
  have plcB := plc_M (σ := σ) (S := S)
  have main : ∀ s71 : St, FF s32 s71 → wk_X6_become (65 + S.length) (if (s71 (65 + (S.length + 1)) 1) < (s71 (65 + (iM :: iC :: S).length) 1) then (s71 (65 + (iM :: iC :: S).length) 1) else (s71 (65 + (S.length + 1)) 1)) (0 : Int32) s71 (fun s106 => wk_X2_raise (65 + S.length) ((1 : Int32) + (if (s71 (65 + S.length) 2) < (if (s71 (65 + (S.length + 1)) 2) < (s71 (65 + (iM :: iC :: S).length) 2) then (s71 (65 + (iM :: iC :: S).length) 2) else (s71 (65 + (S.length + 1)) 2)) then (if (s71 (65 + (S.length + 1)) 2) < (s71 (65 + (iM :: iC :: S).length) 2) then (s71 (65 + (iM :: iC :: S).length) 2) else (s71 (65 + (S.length + 1)) 2)) else (s71 (65 + S.length) 2))) x s106 (fun s117 => Q s117)) := by
    intro s71 ff
    obtain ⟨fk, fm, fl, fx, fw, fc, fe⟩ := ff_k ff
    have q7 : ∀ c i, c ≠ 7 → c ≠ 24 → c ≠ 6 → s71 c i = s1 c i := fun c i h7 h24 h6 => (ff.1 c i h6).trans (c32 c i h7 h24)
    have hv : ((1 : Int32) + (if (s71 (65 + S.length) 2) < (if (s71 (65 + (S.length + 1)) 2) < (s71 (65 + (iM :: iC :: S).length) 2) then (s71 (65 + (iM :: iC :: S).length) 2) else (s71 (65 + (S.length + 1)) 2)) then (if (s71 (65 + (S.length + 1)) 2) < (s71 (65 + (iM :: iC :: S).length) 2) then (s71 (65 + (iM :: iC :: S).length) 2) else (s71 (65 + (S.length + 1)) 2)) else (s71 (65 + S.length) 2))).toInt = 1 + max (s1 (65 + S.length) 2).toInt (max (s1 (65 + (S.length + 1)) 2).toInt (s1 (65 + (S.length + 2)) 2).toInt) := by
      have eA : s71 (65 + S.length) 2 = s1 (65 + S.length) 2 := q7 _ 2 (by omega) (by omega) (by omega)
      have eB : s71 (65 + (S.length + 1)) 2 = s1 (65 + (S.length + 1)) 2 := q7 _ 2 (by omega) (by omega) (by omega)
      have eC : s71 (65 + (iM :: iC :: S).length) 2 = s1 (65 + (S.length + 2)) 2 := q7 (65 + (S.length + 2)) 2 (by omega) (by omega) (by omega)
      rw [eA, eB, eC]
      have m1' := max_i (a := s1 (65 + (S.length + 1)) 2) (b := s1 (65 + (S.length + 2)) 2)
      have m2' := max_i (a := s1 (65 + S.length) 2) (b := (if (s1 (65 + (S.length + 1)) 2) < (s1 (65 + (S.length + 2)) 2) then (s1 (65 + (S.length + 2)) 2) else (s1 (65 + (S.length + 1)) 2)))
      rw [m1'] at m2'
      rw [ad (by rw [m2', i1]; omega) (by rw [m2', i1]; omega), m2', i1]
    generalize ((1 : Int32) + (if (s71 (65 + S.length) 2) < (if (s71 (65 + (S.length + 1)) 2) < (s71 (65 + (iM :: iC :: S).length) 2) then (s71 (65 + (iM :: iC :: S).length) 2) else (s71 (65 + (S.length + 1)) 2)) then (if (s71 (65 + (S.length + 1)) 2) < (s71 (65 + (iM :: iC :: S).length) 2) then (s71 (65 + (iM :: iC :: S).length) 2) else (s71 (65 + (S.length + 1)) 2)) else (s71 (65 + S.length) 2))) = V at hv ⊢
    refine sp_become (fun z rz b0 b1 b6 bq => ?_)
    have kz : KXE s32 z := ko_tr fk (ro_ko rz hop)
    have mz : MKs s32 z := mks_tr fm (ro_mks rz (by omega) (by omega))
    have zw : (z 24) = (s32 24) := (funext (fun i => rz 24 i (by omega))).trans fw
    have zl : (z 4 1) = (s1 4 1) := (rz 4 1 (by omega)).trans (fc.trans (c32 4 1 (by decide) (by decide)))
    have ez : clen z = clen s1 := by unfold clen; rw [zl]
    have cz := cpu_mono kz mz
    have lz : LOW S.length s32 z := low_tr (fl _) (ro_low rz (Nat.le_refl _))
    have kz1 : KXE s1 z := ko_tr k32 kz
    have mz1 : MKs s1 z := mks_tr m32 mz
    refine fin_raise (s0 := s00) (Hs := Hs9) (X := Xs) (g' := g1) (by omega) (ko_tr k1 kz1) (mks_tr m1 mz1) (fun i hi => by rw [zw, ws i (by omega)]; exact w1 i (by omega)) hs00 (by omega) (by rw [zl]; exact h3) (by rw [zl]; omega) (fun hf0 => ?_) (agr_le ag he0) ?_ nc2 (rlx_mono (cpu_mono kz1 mz1) (funext (fun i => kz1 27 i (op_lt (by decide)) rfl rfl)) S _ _ _ (fun i hi => by rw [zw]; exact ws i hi) agr_rf (low_tr low lz) (Or.inl nc2) i1') ?_ (by rw [zw, ez]; exact typ_mono (fun _ _ => rfl) agr_rf cz (fun _ h => h) T3) (Or.inl b0) (by rw [hv]; omega) ?_ (fun c => by rw [b6] at c; exact absurd c (by decide)) ?_ k
    · have : (s71 6 3).toInt = 0 := by rw [rz 6 3 (by omega)] at hf0; exact hf0
      have := ff.2.2 this
      rw [c32 6 3 (by decide) (by decide), fu] at this
      exact this
    · rw [rz 7 7 (by omega), fe]
      exact cnt32
    · rw [bq 9 (by decide) (by decide) (by decide) (by decide), q7 _ 9 (by omega) (by omega) (by omega)]
      exact i3'
    · rw [hv, ez]
      exact bnd_join (bnd_le bl (Nat.le_refl _) (Nat.le_refl _) (by omega)) (bnd_le br (Nat.le_refl _) (Nat.le_refl _) (by omega)) (Nat.le_refl _)
    · have pz : pk z (65 + S.length) = 0 := by unfold pk; rw [b0]; rfl
      have p2 : plc z S = plc s32 S := plc_low S lz
      omega
  refine ⟨FF s32, main, True, fun _ => sp_refuse (fun s hs hf => ff_of hs hf), fun _ => trivial, fun _ => sk_fits ⟨fun e => absurd rfl e, fun _ => sk_fits ⟨fun e => absurd rfl e, fun _ => trivial⟩ ⟨fun _ => ff_rf, fun _ => trivial⟩⟩ ⟨fun _ => ff_rf, fun _ => sk_fits ⟨fun e => absurd rfl e, fun _ => trivial⟩ ⟨fun _ => ff_rf, fun _ => trivial⟩⟩⟩
end XC2
