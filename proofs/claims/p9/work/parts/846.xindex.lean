/-! steps of an expression: an index, a cast, a step up or down, a pointer, an address -/
section XIX
variable {σ s s7 z t : St} {g g' g1 : Gh} {CP CP' : Int → Nat → Prop} {X0 X Xs : Nat → Prop} {b e0 H0 L e H H' n q s00 Hs00 H2 H3 m Bb : Nat} {A B S : List It} {it : It} {x y : Int32}
theorem sk_pointed {Q : St → Prop} (hq : isOp q) (k : ∀ s13 z, FF σ s13 → RO q s13 z → KDq z q = 3 → (z q 6) = 0 → (∀ j, j ≠ 0 → j ≠ 1 → j ≠ 3 → j ≠ 5 → j ≠ 6 → z q j = s13 q j) → Q z) : wk_X2_pointed q x σ Q := by
  unfold wk_X2_pointed
  refine ⟨FF σ, fun s13 ff => sp_become (fun s21 r b0 b1 b6 bq => ?_), fun _ => ff_rf, fun _ => sp_refuse (fun s hs hf => ff_of hs hf)⟩
  rintro _ rfl
  refine sp_lineOf (fun v => ?_)
  rintro _ rfl
  refine k s13 _ ff (ro_tr r (ro_up (ro_up ro_rf))) ?_ ?_ (fun j j0 j1 j3 j5 j6 => ?_)
  · unfold KDq
    rw [rdA_ne (by decide), rdA_eq rfl]
    rfl
  · rw [rdA_ne (by decide), rdA_ne (by decide)]
    exact b6
  · rw [rdA_ne j5, rdA_ne j0]
    exact bq j j0 j1 j6 j3
theorem hv_one {z : St} {a : Int32} (e1 : z q 2 = a) (h1 : 0 ≤ a.toInt ∧ a.toInt ≤ 60) : ((1 : Int32) + (z q 2)).toInt = 1 + a.toInt := by
  rw [e1, ad (by rw [i1]; omega) (by rw [i1]; omega), i1]
theorem xs_index {Q : St → Prop} (h : XC σ g X0 b e0 H0 L (iV :: iL 24 :: S)) (cap : (σ 4 1).toInt ≤ 262150) (hS : S.length + 1 < 500) (k : ∀ s, XRs σ s g X0 b e0 H0 L (iV :: iL 24 :: S) (iV :: S) 3 → Q s) : wk_X2_index x σ Q := by
  have he0 := xc_e0 h
  have c0 := clen_eq h.2.2.1
  unfold wk_X2_index
  refine xc_pop (S := iL 24 :: S) h hS (by omega) (fun s7 g1 s9 Hs9 X9 k1 m1 l1 f1 hi w1 ag va cnt he hc hc2 h3 fu => ?_)
  obtain ⟨nc, r1, r2, r3, r4, ⟨v1, -, -, ⟨v4, v5⟩, v6⟩, v7⟩ := va
  obtain ⟨nc2, s00, Hs00, Xs, i1', i2', i3', i4', a1, a2, a3, a4, a5, a6, a7, a8⟩ := rlx_Li r1
  clear a4
  have b5 := a5 (by decide)
  subst b5
  obtain ⟨b1, b2⟩ := a8 (Or.inl rfl)
  clear a6 a7 a8
  have hs00 := (rlx_typ S _ _ _ i1').2
  have e1 := clen_eq h3
  have pk1 := pkq_le (σ := σ) (q := 65 + (iL 24 :: S).length)
  have okl := a1.1
  unfold HOK at okl
  have okr : 1 ≤ (s7 (65 + (S.length + 1)) 2).toInt ∧ (s7 (65 + (S.length + 1)) 2).toInt ≤ 60 := v4
  have br : BND g1 s9 (clen s7) (Hs9 + 7 * (s7 (65 + (S.length + 1)) 2).toInt.toNat) := v5
  have bl : BND g1 s00 s9 (Hs00 + 7 * (s7 (65 + S.length) 2).toInt.toNat) := a1.2
  have cnt7 : (s7 7 7).toInt = S.length + 1 := cnt
  generalize hBb : Hs00 + 7 * (1 + max (s7 (65 + S.length) 2).toInt.toNat (s7 (65 + (S.length + 1)) 2).toInt.toNat) = Bb
  have at0 := at_rf (n := S.length) r4 (bnd_join (bnd_le bl (Nat.le_refl _) (Nat.le_refl _) (by omega)) (bnd_le br (Nat.le_refl _) (Nat.le_refl _) (by omega)) (Nat.le_refl _) : BND g1 s00 (clen s7) Bb) h3
  have plcS : plc s7 S = plc σ S := plc_low S (low_le l1 (Nat.le_succ _))
  have plcA : pk σ (65 + (iL 24 :: S).length) + plc σ S ≤ plc σ (iV :: iL 24 :: S) := by
    rw [plc_V]
    have := plc_ge (σ := σ) (A := S) (it := iL 24)
    omega
  have hop := isOp_at (n := S.length) (by omega)
  refine sp_otop (n := S.length) (by rw [cnt]; rfl) (by omega) ?_
  refine ⟨FF s7, fun s22 ff => ?_, fun _ => ff_rf, fun _ => sp_refuse (fun s hs hf => ff_of hs hf)⟩
  have f7 := (ff_k ff).2.2.2.2.2.1
  refine sk_emit (n := 43) rfl (by decide) (by rw [f7]; exact h3) (by rw [f7]; omega) (fun _ s31 _ em => ?_)
  have l1' : ln 43 = 1 := rfl
  have at1 := at_emit (H3 := Hs00 + 1) (at_ff at0 ff) em (k := 43) rfl (by decide) (Or.inr (by decide)) (fun _ => by
    have d : de 43 = -1 := rfl
    have p : po 43 = 2 := rfl
    rw [d, p]
    omega)
  refine sk_pointed hop (fun s13 z ff2 rz z0 z6 zq => ?_)
  have at2 := at_ff at1 ff2
  have at2' := at2
  obtain ⟨u1, u2, u3, u4, u5, u6, u7, u8⟩ := at2'
  clear u8
  have q2 : z (65 + S.length) 2 = s7 (65 + S.length) 2 := (zq 2 (by decide) (by decide) (by decide) (by decide) (by decide)).trans (u5 S.length 2 (by omega))
  have q2r : z (65 + (S.length + 1)) 2 = s7 (65 + (S.length + 1)) 2 := (rz _ 2 (by omega)).trans (u5 (S.length + 1) 2 (by omega))
  have hv := hv_max (z := z) (q1 := 65 + S.length) (q2 := 65 + (S.length + 1)) q2 q2r (by omega) (by omega)
  have e17 := clen_eq (σ := s13) (by omega)
  refine at_raise (s7 := s7) (s := s13) (g1 := g1) (Xs := X9) (s00 := s00) (Hs00 := Hs00) (Bb := Bb) at2 (by omega) rz ((zq 9 (by decide) (by decide) (by decide) (by decide) (by decide)).trans (u5 S.length 9 (by omega))) (Or.inr z0) (by rw [z6]; decide) (by show 1 ≤ ((1 : Int32) + (if (z (65 + S.length) 2) < (z (65 + (S.length + 1)) 2) then (z (65 + (S.length + 1)) 2) else (z (65 + S.length) 2))).toInt; rw [hv]; omega) (by show Bb ≤ Hs00 + 7 * ((1 : Int32) + (if (z (65 + S.length) 2) < (z (65 + (S.length + 1)) 2) then (z (65 + (S.length + 1)) 2) else (z (65 + S.length) 2))).toInt.toNat; rw [hv]; omega) (by omega) k1 m1 (fun j hj => w1 j (by omega)) hs00 (by omega) (by omega) (fun c => by rw [fu] at c; exact c) (agr_le ag he0) cnt7 nc2 i1' i3' (fun cf => ?_) k
  have pz := pkq_le (σ := z) (q := 65 + S.length)
  omega
theorem xs_cast {Q : St → Prop} (h : XC σ g X0 b e0 H0 L (iV :: S)) (cap : (σ 4 1).toInt ≤ 262150) (hS : S.length < 500) (k : ∀ s, XRs σ s g X0 b e0 H0 L (iV :: S) (iV :: S) 0 → Q s) : wk_X2_cast x y σ Q := by
  have he0 := xc_e0 h
  have c0 := clen_eq h.2.2.1
  unfold wk_X2_cast
  refine sp_otop (n := S.length) (by rw [h.1]; rfl) hS (xc_loaded h hS (by omega) (fun s7 g1 s00 Hs00 X9 ld ag va he hc h3 => ?_))
  obtain ⟨nc2, r1, r2, r3, r4, ⟨v1, -, -, ⟨v4, v5⟩, v6⟩, v7⟩ := va
  have e1 := clen_eq h3
  have pk1 := pkq_le (σ := σ) (q := 65 + S.length)
  have okl := v4
  unfold HOK at okl
  have ldl := ld.2.2.2.2.2.1
  generalize hBb : Hs00 + 7 * (1 + (s7 (65 + S.length) 2).toInt.toNat) = Bb
  have v5' : BND g1 s00 (clen s7) (Hs00 + 7 * (s7 (65 + S.length) 2).toInt.toNat) := v5
  have at0 := at_rf (n := S.length) r4 (bnd_le v5' (Nat.le_refl _) (Nat.le_refl _) (by omega) : BND g1 s00 (clen s7) Bb) h3
  have plcS : plc s7 S = plc σ S := plc_low S (lds_low ld (Nat.le_refl _))
  have plcA : plc σ (iV :: S) = pk σ (65 + S.length) + plc σ S := plc_V
  refine ⟨FF s7, fun s22 ff => sp_become (fun z rz b0 b1 b6 bq => ?_), fun _ => ff_rf, fun _ => sp_refuse (fun s hs hf => ff_of hs hf)⟩
  have at2 := at_ff at0 ff
  have at2' := at2
  obtain ⟨u1, u2, u3, u4, u5, u6, u7, u8⟩ := at2'
  clear u8
  have q2 : z (65 + S.length) 2 = s7 (65 + S.length) 2 := (bq 2 (by decide) (by decide) (by decide) (by decide)).trans (u5 S.length 2 (by omega))
  have hv := hv_one (q := 65 + S.length) q2 (by omega)
  have e17 := clen_eq (σ := s22) (by omega)
  refine at_raise (s7 := s7) (s := s22) (g1 := g1) (Xs := X9) (s00 := s00) (Hs00 := Hs00) (Bb := Bb) at2 (by omega) rz ((bq 9 (by decide) (by decide) (by decide) (by decide)).trans (u5 S.length 9 (by omega))) (Or.inl b0) (by rw [b6]; decide) (by rw [hv]; omega) (by rw [hv]; omega) (by omega) (lds_k ld) (lds_m ld ⟨by omega, by omega⟩) (fun j hj => ld.2.2.2.2.1 j (by omega)) he (by omega) (by omega) (fun c => by rw [ld.2.1 6 3 (by omega) (by decide) (by decide)] at c; exact c) (agr_le ag he0) (by rw [ld.2.1 7 7 (by omega) (by decide) (by decide), h.1]; rfl) nc2 r1 r3 (fun cf => ?_) k
  have pz : pk z (65 + S.length) = 0 := by unfold pk; rw [b0]; rfl
  omega
/-- the sign ++ or -- -/
theorem xs_step {Q : St → Prop} (h : XC σ g X0 b e0 H0 L (iV :: S)) (cap : (σ 4 1).toInt ≤ 262150) (hS : S.length < 500) (k : ∀ s, XRs σ s g X0 b e0 H0 L (iV :: S) (iV :: S) 2 → Q s) : wk_X2_step (65 + S.length) x y σ Q := by
  have he0 := xc_e0 h
  have c0 := clen_eq h.2.2.1
  have h3 := h.2.2.1
  have hcnt := h.1
  obtain ⟨-, -, -, H, X, h4⟩ := h
  obtain ⟨nc2, s00, Hs00, r1, r2, r3, r4, v1, v2, v3, ⟨v4, v5⟩, v6⟩ := rlx_Vi h4
  have hs00 := (rlx_typ S _ _ _ r1).2
  have okl := v4
  unfold HOK at okl
  have v5' : BND g s00 (clen σ) (Hs00 + 7 * (σ (65 + S.length) 2).toInt.toNat) := v5
  generalize hBb : Hs00 + 7 * (1 + (σ (65 + S.length) 2).toInt.toNat) = Bb
  have at0 := at_rf (n := S.length) r4 (bnd_le v5' (Nat.le_refl _) (Nat.le_refl _) (by omega) : BND g s00 (clen σ) Bb) h3
  have plcA : plc σ (iV :: S) = pk σ (65 + S.length) + plc σ S := plc_V
  unfold wk_X2_step
  have main : ∀ s12 : St, FF σ s12 → ((s12 6 3).toInt = 0 → 1 ≤ KDq σ (65 + S.length) ∧ KDq σ (65 + S.length) ≤ 3) → (wk_X2_kindOf x s12 (fun v14 => (∃ J27 : Int32 → Prop, (∀ (y0_27 : Int32), J27 y0_27 → ((∃ J39 : Int32 → Prop, (∀ (y0_39 : Int32), J39 y0_39 → ((∃ J102 : St → Prop, (∀ (s102 : St), J102 s102 → (wk_X6_become (65 + S.length) (s102 (65 + S.length) 1) (0 : Int32) s102 (fun s108 => wk_X2_raise (65 + S.length) ((1 : Int32) + (s108 (65 + S.length) 2)) x s108 (fun s120 => Q s120)))) ∧ ((s12 (65 + S.length) 0).toInt ≠ 3 → (∃ J90 : Int32 → Prop, (∀ (y1_90 : Int32), J90 y1_90 → (wk_X0_emit y1_90 (s12 (65 + S.length) 4) y0_27 y0_39 s12 (fun v98 s98 => J102 s98))) ∧ ((s12 (65 + S.length) 0).toInt ≠ 1 → J90 (7 : Int32)) ∧ ((s12 (65 + S.length) 0).toInt = 1 → J90 (10 : Int32)))) ∧ ((s12 (65 + S.length) 0).toInt = 3 → wk_X2_lineOf x s12 (fun v57 => wk_X0_emit (20 : Int32) v57 y0_27 y0_39 s12 (fun v64 s64 => J102 s64)))))) ∧ (y.toInt = 0 → J39 (0 : Int32)) ∧ (y.toInt ≠ 0 → J39 y0_27)))) ∧ (v14.toInt ≠ 61 → J27 ((-1) : Int32)) ∧ (v14.toInt = 61 → J27 (1 : Int32))))) := by
    intro s12 ff hpl
    have at1 := at_ff at0 ff
    have f7 := (ff_k ff).2.2.2.2.2.1
    have kd1 : KDq s12 (65 + S.length) = KDq σ (65 + S.length) := by
      unfold KDq
      rw [ff.1 _ 0 (by omega)]
    refine sp_kindOf (fun v14 _ => ⟨fun _ => True, fun y27 _ => ⟨fun _ => True, fun y39 _ => ?_, fun _ => trivial, fun _ => trivial⟩, fun _ => trivial, fun _ => trivial⟩)
    refine ⟨fun s => ∃ m', m' ≤ 4 ∧ AT σ s g X b L S.length s00 Bb (Hs00 + 1) m' ∧ ((s 6 3).toInt = 0 → 1 ≤ KDq σ (65 + S.length) ∧ KDq σ (65 + S.length) ≤ 3), ?_, fun n3 => ⟨fun y => y = 7 ∨ y = 10, ?_, fun _ => Or.inl rfl, fun _ => Or.inr rfl⟩, fun c3 => sp_lineOf (fun vl => ?_)⟩
    · rintro s179 ⟨m', hm', at2, hp2⟩
      have at2' := at2
      obtain ⟨u1, u2, u3, u4, u5, u6, u7, u8⟩ := at2'
      clear u8
      refine sp_become (fun z rz b0 b1 b6 bq => ?_)
      have q2 : z (65 + S.length) 2 = σ (65 + S.length) 2 := (bq 2 (by decide) (by decide) (by decide) (by decide)).trans (u5 S.length 2 (by omega))
      have hv := hv_one (q := 65 + S.length) q2 (by omega)
      have e17 := clen_eq (σ := s179) (by omega)
      refine at_raise (s7 := σ) (s := s179) (g1 := g) (Xs := X) (s00 := s00) (Hs00 := Hs00) (Bb := Bb) at2 (by omega) rz ((bq 9 (by decide) (by decide) (by decide) (by decide)).trans (u5 S.length 9 (by omega))) (Or.inl b0) (by rw [b6]; decide) (by rw [hv]; omega) (by rw [hv]; omega) hS ko_rf mks_rf (fun _ _ => rfl) hs00 r2 (by omega) id agr_rf (by rw [hcnt]; rfl) nc2 r1 r3 (fun cf => ?_) k
      have pz : pk z (65 + S.length) = 0 := by unfold pk; rw [b0]; rfl
      have pl1 : pk σ (65 + S.length) = 1 := by
        have := hp2 cf
        unfold pk
        rw [if_pos (by omega)]
      omega
    · have n3' : KDq s12 (65 + S.length) ≠ 3 := n3
      have fin : ∀ (yy : Int32) (kk : Nat), yy.toInt = kk → (kk = 7 ∨ kk = 10) → wk_X0_emit yy (s12 (65 + S.length) 4) y27 y39 s12 (fun v98 s98 => ∃ m', m' ≤ 4 ∧ AT σ s98 g X b L S.length s00 Bb (Hs00 + 1) m' ∧ ((s98 6 3).toInt = 0 → 1 ≤ KDq σ (65 + S.length) ∧ KDq σ (65 + S.length) ≤ 3)) := fun yy kk hy hk => by
        refine sk_emit hy (by omega) (by rw [f7]; exact h3) (by rw [f7]; omega) (fun _ s175 _ em => ?_)
        have l2 : ln kk = 4 := by rcases hk with e | e <;> subst e <;> rfl
        have d0 : de kk = 1 := by rcases hk with e | e <;> subst e <;> rfl
        have p1 : po kk = 0 := by rcases hk with e | e <;> subst e <;> rfl
        have f5 : (s175 6 3) = (s12 6 3) := (em_k em).2.2.2.2.1
        refine ⟨0 + ln kk, by omega, at_emit at1 em hy (by omega) (by omega) (fun cf => ?_), fun c => hpl (by rw [← f5]; exact c)⟩
        have := hpl cf
        have := v2 (by omega)
        rw [d0, p1]
        omega
      rintro y2 (e | e) <;> subst e
      · exact fin 7 7 rfl (Or.inl rfl)
      · exact fin 10 10 rfl (Or.inr rfl)
    · have c3' : KDq s12 (65 + S.length) = 3 := c3
      refine sk_emit (n := 20) rfl (by decide) (by rw [f7]; exact h3) (by rw [f7]; omega) (fun _ s141 _ em => ?_)
      have l2 : ln 20 = 4 := rfl
      have f5 : (s141 6 3) = (s12 6 3) := (em_k em).2.2.2.2.1
      refine ⟨0 + ln 20, by omega, at_emit at1 em (k := 20) rfl (by decide) (Or.inl (by decide)) (fun _ => ?_), fun c => hpl (by rw [← f5]; exact c)⟩
      have := v3 (Or.inr (by omega))
      have d0 : de 20 = 0 := rfl
      have p1 : po 20 = 1 := rfl
      rw [d0, p1]
      omega
  refine sp_isPlace (fun np => ?_) (fun p => ?_)
  · exact ⟨fun s => FF σ s ∧ ((s 6 3).toInt = 0 → 1 ≤ KDq σ (65 + S.length) ∧ KDq σ (65 + S.length) ≤ 3), fun s h => main s h.1 h.2, fun e => absurd rfl e, fun _ => sp_refuse (fun s hs hf => ⟨ff_of hs hf, fun c => absurd c hf⟩)⟩
  · exact ⟨fun s => FF σ s ∧ ((s 6 3).toInt = 0 → 1 ≤ KDq σ (65 + S.length) ∧ KDq σ (65 + S.length) ≤ 3), fun s h => main s h.1 h.2, fun _ => ⟨ff_rf, fun _ => p⟩, fun e => absurd e (by decide)⟩
end XIX
