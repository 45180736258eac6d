/-! steps of an expression: signs before an operand, whole -/
section XU2
variable {σ s s7 z t : St} {g g' g1 : Gh} {CP CP' : Int → Nat → Prop} {X0 X Xs : Nat → Prop} {b e0 H0 L e H H' n q s00 Hs00 H2 H3 m Bb : Nat} {A B S : List It} {it : It} {x y : Int32}
theorem xs_unary {Q : St → Prop} (h : XC σ g X0 b e0 H0 L (iV :: S)) (cap : (σ 4 1).toInt ≤ 262150) (hS : S.length < 500) (k : ∀ s, XRs σ s g X0 b e0 H0 L (iV :: S) (iV :: S) 2 → Q s) : wk_X2_unary x σ Q := by
  have he0 := xc_e0 h
  have c0 := clen_eq h.2.2.1
  have hc3 := h.2.2.1
  have hcnt := h.1
  have hop := isOp_at hS
  unfold wk_X2_unary
  refine sp_kindOf (fun v2 _ => sp_otop (n := S.length) (by rw [h.1]; rfl) hS ?_)
  refine ⟨True, fun _ => xs_step h cap hS k, fun _ => trivial, fun _ => ⟨fun _ => ⟨_, fun _ h => h, fun _ => ⟨fun _ => ?_, fun _ => ?_⟩, fun _ => ?_⟩, fun _ => trivial⟩⟩
  · -- - ~ !
    refine xc_loaded h hS (by omega) (fun s7 g1 s00 Hs00 X9 ld ag va he hc h3 => ?_)
    obtain ⟨nc2, r1, r2, r3, r4, ⟨v1, -, -, ⟨v4, v5⟩, v6⟩, v7⟩ := va
    have e1 := clen_eq h3
    have pk1 := pkq_le (σ := σ) (q := 65 + S.length)
    have ldl := ld.2.2.2.2.2.1
    have v4' := v4
    unfold HOK at v4'
    have v5' : BND g1 s00 (clen s7) (Hs00 + 7 * (s7 (65 + S.length) 2).toInt.toNat) := v5
    have plcS : plc s7 S = plc σ S := plc_low S (lds_low ld (Nat.le_refl _))
    have plcA : plc σ (iV :: S) = pk σ (65 + S.length) + plc σ S := plc_V
    unfold wk_X2_invert
    have main : ∀ s29 : St, FF s7 s29 → (∃ J53 : Int32 → Prop, (∀ (y0_53 : Int32), J53 y0_53 → (wk_X0_emit y0_53 (0 : Int32) (0 : Int32) (0 : Int32) s29 (fun v64 s64 => wk_X5_inverted y0_53 (s64 (65 + S.length) 8) s64 (fun v75 => (∀ s4n : St, s4n = upC s64 (65 + S.length) 8 v75 → wk_X6_isConstant (65 + S.length) s4n (fun v84 => (∃ J95 : Int32 → Prop, (∀ (y2_95 : Int32), y2_95 = 0 ∨ y2_95 = 1 → J95 y2_95 → (wk_X6_become (65 + S.length) (0 : Int32) y2_95 s4n (fun s95 => wk_X2_fold (65 + S.length) s95 (fun s100 => wk_X2_raise (65 + S.length) ((1 : Int32) + (s100 (65 + S.length) 2)) x s100 (fun s105 => Q s105))))) ∧ (v84.toInt = 0 → J95 (0 : Int32)) ∧ (v84.toInt ≠ 0 → J95 (1 : Int32))))))))) ∧ (v2.toInt ≠ 59 → (v2.toInt ≠ 60 → J53 (22 : Int32)) ∧ (v2.toInt = 60 → J53 (23 : Int32))) ∧ (v2.toInt = 59 → J53 (24 : Int32))) := by
      intro s29 ff
      obtain ⟨fk, fm, fl, fx, fw, fc, fe⟩ := ff_k ff
      have c38 : clen s29 = clen s7 := by unfold clen; rw [fc]
      have em1 : ∀ (yy : Int32) (nn : Nat), yy.toInt = nn → (nn = 22 ∨ nn = 23 ∨ nn = 24) → (wk_X0_emit yy (0 : Int32) (0 : Int32) (0 : Int32) s29 (fun v64 s64 => wk_X5_inverted yy (s64 (65 + S.length) 8) s64 (fun v75 => (∀ s4n : St, s4n = upC s64 (65 + S.length) 8 v75 → wk_X6_isConstant (65 + S.length) s4n (fun v84 => (∃ J95 : Int32 → Prop, (∀ (y2_95 : Int32), y2_95 = 0 ∨ y2_95 = 1 → J95 y2_95 → (wk_X6_become (65 + S.length) (0 : Int32) y2_95 s4n (fun s95 => wk_X2_fold (65 + S.length) s95 (fun s100 => wk_X2_raise (65 + S.length) ((1 : Int32) + (s100 (65 + S.length) 2)) x s100 (fun s105 => Q s105))))) ∧ (v84.toInt = 0 → J95 (0 : Int32)) ∧ (v84.toInt ≠ 0 → J95 (1 : Int32)))))))) := by
        intro yy nn hyy hnn
        refine sk_emit hyy (by omega) (by rw [fc]; exact h3) (by rw [fc]; omega) (fun _ s64 _ em => sp_inverted (fun v75 => ?_))
        rintro s4n e4
        obtain ⟨ek, emk, el, ex, ef, ee⟩ := em_k em
        have l1' : ln nn = 1 := by rcases hnn with e | e | e <;> subst e <;> rfl
        have d0 : de nn = 0 := by rcases hnn with e | e | e <;> subst e <;> rfl
        have p1 : po nn = 1 := by rcases hnn with e | e | e <;> subst e <;> rfl
        have e64 : clen s64 = clen s7 + 1 := by
          have := em_clen em hyy (by rw [fc]; exact h3)
          omega
        have len64 : (s64 4 1).toInt = (s7 4 1).toInt + 1 := by
          have := em_len em hyy
          rw [fc, l1'] at this
          exact this
        have ws : ∀ i, i < clen s7 → (s64 24) i = (s7 24) i := fun i hi => (em.2.2.1 i (by omega)).trans (by rw [fw])
        have w0 : (s64 24) (clen s7) = yy := by rw [← c38]; exact em.2.2.2.1
        have q6 : ∀ c j, c ≠ 4 → c ≠ 24 → c ≠ 6 → s64 c j = s7 c j := fun c j h4 h24 h6 => (em_cells em c j h4 h24).trans (ff.1 c j h6)
        have k6 : KXE s7 s64 := ko_tr fk ek
        have m6 : MKs s7 s64 := mks_tr fm emk
        have cm := cpu_mono k6 m6
        obtain ⟨g2, T2, ag2, gi2⟩ := typ_pl (w' := (s64 24)) (n := nn) (H' := Hs00 + 1) (typ_mono (fun q _ => rfl) agr_rf cm (fun _ z => z) r4) ws (by rw [w0]; exact hyy) (by omega) (by omega) (Or.inl (by omega)) (by omega) (by rw [d0]; omega)
        rw [l1'] at T2 gi2
        have low6 : ∀ n, n ≤ 400 → LOW n s7 s64 := fun n _ i k hi => q6 _ k (by omega) (by omega) (by omega)
        have lowS : LOW S.length s7 s64 := fun i k hi => q6 _ k (by omega) (by omega) (by omega)
        have sq : ∀ j, s64 (65 + S.length) j = s7 (65 + S.length) j := fun j => q6 _ j (by omega) (by omega) (by omega)
        have plc6 : plc s64 S = plc s7 S := plc_low S lowS
        have go : ∀ y2 : Int32, (y2 = 0 ∨ y2 = 1) → (y2 = 1 → (s7 (65 + S.length) 6).toInt = 1) → wk_X6_become (65 + S.length) (0 : Int32) y2 s4n (fun s95 => wk_X2_fold (65 + S.length) s95 (fun s100 => wk_X2_raise (65 + S.length) ((1 : Int32) + (s100 (65 + S.length) 2)) x s100 (fun s105 => Q s105))) := by
          intro y2 hy2 hy3
          refine sp_become (fun s95 r95 b0 b1 b6 bq => ?_)
          have r4n : RO (65 + S.length) s64 s4n := by rw [e4]; exact ro_up ro_rf
          have q4n : ∀ j, j ≠ 8 → s4n (65 + S.length) j = s64 (65 + S.length) j := fun j hj => by rw [e4, rdA_ne hj]
          refine un_tail (s := s64) (s00 := s00) (Hs00 := Hs00) (X := X9) (g1 := g2) hS (ko_tr (lds_k ld) k6) (mks_tr (lds_m ld ⟨by omega, by omega⟩) m6) (fun j hj => by rw [ws j (by omega)]; exact ld.2.2.2.2.1 j (by omega)) he (by omega) (by omega) cap (fun hf0 => ?_) (agr_tr (agr_le ag he0) (agr_le ag2 (by omega)) (Nat.le_refl _)) ?_ nc2 (rlx_mono cm (funext (fun i => q6 27 i (by decide) (by decide) (by decide))) S _ _ _ (fun i hi => ws i (by omega)) (agr_le ag2 (by omega)) lowS (Or.inl nc2) r1) (by rw [sq]; exact r3) (by omega) (by rw [e64]; exact T2) (by unfold HOK; rw [sq]; exact v4') ?_ (ro_tr r4n r95) b0 ((bq 9 (by decide) (by decide) (by decide) (by decide)).trans (q4n 9 (by decide))) ((bq 2 (by decide) (by decide) (by decide) (by decide)).trans (q4n 2 (by decide))) (fun c => ?_) (by omega) k
          · rw [ef] at hf0
            have := ff.2.2 hf0
            rw [ld.2.1 6 3 (by omega) (by decide) (by decide)] at this
            exact this
          · rw [q6 7 7 (by decide) (by decide) (by decide), ld.2.1 7 7 (by omega) (by decide) (by decide), hcnt]
            rfl
          · rw [sq, e64]
            exact bnd_ext (bnd_le v5' (Nat.le_refl _) (Nat.le_refl _) (by omega)) ag2 gi2 T2.2.1 (by omega)
          · rw [b6] at c
            rcases hy2 with e | e
            · rw [e] at c
              exact absurd c (by decide)
            · have := (v6 (hy3 e)).2
              omega
        have s6 : (s4n (65 + S.length) 6) = s7 (65 + S.length) 6 := by rw [e4, rdA_ne (by decide)]; exact sq 6
        refine sp_isConstant (fun c6 => ⟨fun y2 => y2 = 0, fun y2 hy e => go y2 hy (fun h => by rw [e] at h; exact absurd h (by decide)), fun _ => rfl, fun h => absurd rfl h⟩) (fun c6 => ⟨fun y2 => y2 = 1, fun y2 hy e => go y2 hy (fun _ => by rw [← s6]; exact c6), fun h => absurd h (by decide), fun _ => rfl⟩)
      refine ⟨fun y => y = 22 ∨ y = 23 ∨ y = 24, ?_, fun _ => ⟨fun _ => Or.inl rfl, fun _ => Or.inr (Or.inl rfl)⟩, fun _ => Or.inr (Or.inr rfl)⟩
      rintro y (e | e | e) <;> subst e
      · exact em1 22 22 rfl (Or.inl rfl)
      · exact em1 23 23 rfl (Or.inr (Or.inl rfl))
      · exact em1 24 24 rfl (Or.inr (Or.inr rfl))
    refine ⟨FF s7, main, True, fun _ => sp_refuse (fun s hs hf => ff_of hs hf), fun _ => ⟨fun _ => ff_rf, fun _ => trivial⟩, fun _ => ⟨fun _ => ff_rf, fun _ => trivial⟩⟩
  · -- *
    refine xc_loaded h hS (by omega) (fun s7 g1 s00 Hs00 X9 ld ag va he hc h3 => ?_)
    obtain ⟨nc2, r1, r2, r3, r4, ⟨v1, -, -, ⟨v4, v5⟩, v6⟩, v7⟩ := va
    have e1 := clen_eq h3
    have pk1 := pkq_le (σ := σ) (q := 65 + S.length)
    have okl := v4
    unfold HOK at okl
    have ldl := ld.2.2.2.2.2.1
    generalize hBb : Hs00 + 7 * (1 + (s7 (65 + S.length) 2).toInt.toNat) = Bb
    have v5' : BND g1 s00 (clen s7) (Hs00 + 7 * (s7 (65 + S.length) 2).toInt.toNat) := v5
    have at0 := at_rf (n := S.length) r4 (bnd_le v5' (Nat.le_refl _) (Nat.le_refl _) (by omega) : BND g1 s00 (clen s7) Bb) h3
    have plcS : plc s7 S = plc σ S := plc_low S (lds_low ld (Nat.le_refl _))
    have plcA : plc σ (iV :: S) = pk σ (65 + S.length) + plc σ S := plc_V
    refine sk_pointed hop (fun s13 z ff rz z0 z6 zq => ?_)
    have at2 := at_ff at0 ff
    have at2' := at2
    obtain ⟨u1, u2, u3, u4, u5, u6, u7, u8⟩ := at2'
    clear u8
    have q2 : z (65 + S.length) 2 = s7 (65 + S.length) 2 := (zq 2 (by decide) (by decide) (by decide) (by decide) (by decide)).trans (u5 S.length 2 (by omega))
    have hv := hv_one (q := 65 + S.length) q2 (by omega)
    have e17 := clen_eq (σ := s13) (by omega)
    refine at_raise (s7 := s7) (s := s13) (g1 := g1) (Xs := X9) (s00 := s00) (Hs00 := Hs00) (Bb := Bb) at2 (by omega) rz ((zq 9 (by decide) (by decide) (by decide) (by decide) (by decide)).trans (u5 S.length 9 (by omega))) (Or.inr z0) (by rw [z6]; decide) (by rw [hv]; omega) (by rw [hv]; omega) (by omega) (lds_k ld) (lds_m ld ⟨by omega, by omega⟩) (fun j hj => ld.2.2.2.2.1 j (by omega)) he (by omega) (by omega) (fun c => by rw [ld.2.1 6 3 (by omega) (by decide) (by decide)] at c; exact c) (agr_le ag he0) (by rw [ld.2.1 7 7 (by omega) (by decide) (by decide), hcnt]; rfl) nc2 r1 r3 (fun cf => ?_) k
    have pz := pkq_le (σ := z) (q := 65 + S.length)
    omega
  · -- &
    obtain ⟨-, -, -, H, X, h4⟩ := h
    obtain ⟨nc2, s00, Hs00, r1, r2, r3, r4, v1, v2', v3, ⟨v4, v5⟩, v6⟩ := rlx_Vi h4
    have hs00 := (rlx_typ S _ _ _ r1).2
    have okl := v4
    unfold HOK at okl
    have v5' : BND g s00 (clen σ) (Hs00 + 7 * (σ (65 + S.length) 2).toInt.toNat) := v5
    generalize hBb : Hs00 + 7 * (1 + (σ (65 + S.length) 2).toInt.toNat) = Bb
    have at0 := at_rf (n := S.length) r4 (bnd_le v5' (Nat.le_refl _) (Nat.le_refl _) (by omega) : BND g s00 (clen σ) Bb) hc3
    have plcA : plc σ (iV :: S) = pk σ (65 + S.length) + plc σ S := plc_V
    have main : ∀ s58, FF σ s58 → wk_X2_address (65 + S.length) s58 (fun s60 => wk_X2_raise (65 + S.length) ((1 : Int32) + (s60 (65 + S.length) 2)) x s60 (fun s105 => Q s105)) := by
      intro s58 ff
      have at1 := at_ff at0 ff
      have f7 := (ff_k ff).2.2.2.2.2.1
      have kd1 : KDq s58 (65 + S.length) = KDq σ (65 + S.length) := by
        unfold KDq
        rw [ff.1 _ 0 (by omega)]
      refine sk_address hop (by rw [f7]; exact hc3) (by rw [f7]; omega) (fun s75 z y1 y0 rz z0 z6 zq => ?_)
      have at2 : ∃ m, m ≤ 2 * pk σ (65 + S.length) ∧ AT σ s75 g X b L S.length s00 Bb (Hs00 + 1) m := by
        by_cases c : KDq s58 (65 + S.length) = 1 ∨ KDq s58 (65 + S.length) = 2
        · obtain ⟨σ', nn, op, a1, a2, a3, p1, p2, p3, p4⟩ := y1 c
          clear y1
          have l2 : ln nn = 2 := by rcases p3 with e | e <;> subst e <;> rfl
          have d0 : de nn = 1 := by rcases p3 with e | e <;> subst e <;> rfl
          have po0 : po nn = 0 := by rcases p3 with e | e <;> subst e <;> rfl
          have pk2 : pk σ (65 + S.length) = 1 := by unfold pk; rw [if_pos (by omega)]
          have := v2' (by omega)
          exact ⟨0 + ln nn, by omega, at_emit (at_row at1 p1) p4 p2 (by omega) (by omega) (fun _ => by rw [d0, po0]; omega)⟩
        · clear y1
          rw [y0 c]
          have e := v3 (by omega)
          rw [← e]
          exact ⟨0, by omega, at1⟩
      obtain ⟨m, hm, at2⟩ := at2
      clear y1
      have pk1 := pkq_le (σ := σ) (q := 65 + S.length)
      have at2' := at2
      obtain ⟨u1, u2, u3, u4, u5, u6, u7, u8⟩ := at2'
      clear u8
      have q2 : z (65 + S.length) 2 = σ (65 + S.length) 2 := (zq 2 (by decide) (by decide) (by decide) (by decide) (by decide) (by decide)).trans (u5 S.length 2 (by omega))
      have hv := hv_one (q := 65 + S.length) q2 (by omega)
      have e17 := clen_eq (σ := s75) (by omega)
      refine at_raise (s7 := σ) (s := s75) (g1 := g) (Xs := X) (s00 := s00) (Hs00 := Hs00) (Bb := Bb) at2 (by omega) rz ((zq 9 (by decide) (by decide) (by decide) (by decide) (by decide) (by decide)).trans (u5 S.length 9 (by omega))) (Or.inl z0) z6 (by rw [hv]; omega) (by rw [hv]; omega) hS ko_rf mks_rf (fun _ _ => rfl) hs00 r2 (by omega) id agr_rf (by rw [hcnt]; rfl) nc2 r1 r3 (fun cf => ?_) k
      have pz : pk z (65 + S.length) = 0 := by unfold pk; rw [z0]; rfl
      omega
    refine sp_isPlace (fun np => ?_) (fun p => ?_)
    · exact ⟨FF σ, main, True, fun _ => sp_refuse (fun s hs hf => ff_of hs hf), fun _ => trivial, fun e => absurd rfl e⟩
    · exact ⟨FF σ, main, True, fun _ => sp_refuse (fun s hs hf => ff_of hs hf), fun _ => trivial, fun _ => ⟨fun _ => ff_rf, fun _ => trivial⟩⟩
end XU2
