section
/-! steps of an expression: signs before an operand, whole -/
section XU2
variable {σ s s7 z t : St} {g g' g1 : Gh} {CP CP' : Int → Nat → Prop} {X0 X Xs : Nat → Prop} {b e0 H0 L e H H' n q s00 Hs00 H2 H3 m Bb : Nat} {A B S : List It} {it : It} {x y : Int32}
theorem xs_unary {Q : St → Prop} (h : XC σ g X0 b e0 H0 L (iV :: S)) (cap : (σ 4 1).toInt ≤ 262150) (hS : S.length < 500) (k : ∀ s, XRs σ s g X0 b e0 H0 L (iV :: S) (iV :: S) 2 → Q s) : wk_X2_unary x σ Q := by
  have he0 := xc_e0 h
  have c0 := clen_eq h.2.2.1
  have hc3 := h.2.2.1
  have hcnt := h.1
  have hop := isOp_at hS
  unfold wk_X2_unary
  refine sp_kindOf (fun v2 _ => sp_otop (n := S.length) (by rw [h.1]; rfl) hS ?_)
  refine ⟨True, fun _ => xs_step h cap hS k, fun _ => trivial, fun _ => ⟨fun _ => ⟨_, fun _ h => h, fun _ => ⟨fun _ => ?_, fun _ => ?_⟩, fun _ => ?_⟩, fun _ => trivial⟩⟩
  · -- - ~ !
    refine xc_loaded h hS (by omega) (fun s7 g1 s00 Hs00 X9 ld ag va he hc h3 => ?_)
    obtain ⟨nc2, r1, r2, r3, r4, ⟨v1, -, -, ⟨v4, v5⟩, v6⟩, v7⟩ := va
    have e1 := clen_eq h3
    have pk1 := pkq_le (σ := σ) (q := 65 + S.length)
    have ldl := ld.2.2.2.2.2.1
    have v4' := v4
    unfold HOK at v4'
    have v5' : BND g1 s00 (clen s7) (Hs00 + 7 * (s7 (65 + S.length) 2).toInt.toNat) := v5
    have plcS : plc s7 S = plc σ S := plc_low S (lds_low ld (Nat.le_refl _))
    have plcA : plc σ (iV :: S) = pk σ (65 + S.length) + plc σ S := plc_V
    unfold wk_X2_invert
    have main : ∀ s29 : St, FF s7 s29 → (∃ J53 : Int32 → Prop, (∀ (y0_53 : Int32), J53 y0_53 → (wk_X0_emit y0_53 (0 : Int32) (0 : Int32) (0 : Int32) s29 (fun v64 s64 => wk_X5_inverted y0_53 (s64 (65 + S.length) 8) s64 (fun v75 => (∀ s4n : St, s4n = upC s64 (65 + S.length) 8 v75 → wk_X6_isConstant (65 + S.length) s4n (fun v84 => (∃ J95 : Int32 → Prop, (∀ (y2_95 : Int32), y2_95 = 0 ∨ y2_95 = 1 → J95 y2_95 → (wk_X6_become (65 + S.length) (0 : Int32) y2_95 s4n (fun s95 => wk_X2_fold (65 + S.length) s95 (fun s100 => wk_X2_raise (65 + S.length) ((1 : Int32) + (s100 (65 + S.length) 2)) x s100 (fun s105 => Q s105))))) ∧ (v84.toInt = 0 → J95 (0 : Int32)) ∧ (v84.toInt ≠ 0 → J95 (1 : Int32))))))))) ∧ (v2.toInt ≠ 59 → (v2.toInt ≠ 60 → J53 (22 : Int32)) ∧ (v2.toInt = 60 → J53 (23 : Int32))) ∧ (v2.toInt = 59 → J53 (24 : Int32))) := by
      intro s29 ff
      obtain ⟨fk, fm, fl, fx, fw, fc, fe⟩ := ff_k ff
      have c38 : clen s29 = clen s7 := by unfold clen; rw [fc]
      have em1 : ∀ (yy : Int32) (nn : Nat), yy.toInt = nn → (nn = 22 ∨ nn = 23 ∨ nn = 24) → (wk_X0_emit yy (0 : Int32) (0 : Int32) (0 : Int32) s29 (fun v64 s64 => wk_X5_inverted yy (s64 (65 + S.length) 8) s64 (fun v75 => (∀ s4n : St, s4n = upC s64 (65 + S.length) 8 v75 → wk_X6_isConstant (65 + S.length) s4n (fun v84 => (∃ J95 : Int32 → Prop, (∀ (y2_95 : Int32), y2_95 = 0 ∨ y2_95 = 1 → J95 y2_95 → (wk_X6_become (65 + S.length) (0 : Int32) y2_95 s4n (fun s95 => wk_X2_fold (65 + S.length) s95 (fun s100 => wk_X2_raise (65 + S.length) ((1 : Int32) + (s100 (65 + S.length) 2)) x s100 (fun s105 => Q s105))))) ∧ (v84.toInt = 0 → J95 (0 : Int32)) ∧ (v84.toInt ≠ 0 → J95 (1 : Int32)))))))) := by
        intro yy nn hyy hnn
        refine sk_emit hyy (by omega) (by rw [fc]; exact h3) (by rw [fc]; omega) (fun _ s64 _ em => sp_inverted (fun v75 => ?_))
        rintro s4n e4
        obtain ⟨ek, emk, el, ex, ef, ee⟩ := em_k em
        have l1' : ln nn = 1 := by rcases hnn with e | e | e <;> subst e <;> rfl
        have d0 : de nn = 0 := by rcases hnn with e | e | e <;> subst e <;> rfl
        have p1 : po nn = 1 := by rcases hnn with e | e | e <;> subst e <;> rfl
        have e64 : clen s64 = clen s7 + 1 := by
          have := em_clen em hyy (by rw [fc]; exact h3)
          omega
        have len64 : (s64 4 1).toInt = (s7 4 1).toInt + 1 := by
          have := em_len em hyy
          rw [fc, l1'] at this
          exact this
        have ws : ∀ i, i < clen s7 → (s64 24) i = (s7 24) i := fun i hi => (em.2.2.1 i (by omega)).trans (by rw [fw])
        have w0 : (s64 24) (clen s7) = yy := by rw [← c38]; exact em.2.2.2.1
        have q6 : ∀ c j, c ≠ 4 → c ≠ 24 → c ≠ 6 → s64 c j = s7 c j := fun c j h4 h24 h6 => (em_cells em c j h4 h24).trans (ff.1 c j h6)
        have k6 : KXE s7 s64 := ko_tr fk ek
        have m6 : MKs s7 s64 := mks_tr fm emk
        have cm := cpu_mono k6 m6
        obtain ⟨g2, T2, ag2, gi2⟩ := typ_pl (w' := (s64 24)) (n := nn) (H' := Hs00 + 1) (typ_mono (fun q _ => rfl) agr_rf cm (fun _ z => z) r4) ws (by rw [w0]; exact hyy) (by omega) (by omega) (Or.inl (by omega)) (by omega) (by rw [d0]; omega)
        rw [l1'] at T2 gi2
        have low6 : ∀ n, n ≤ 400 → LOW n s7 s64 := fun n _ i k hi => q6 _ k (by omega) (by omega) (by omega)
        have lowS : LOW S.length s7 s64 := fun i k hi => q6 _ k (by omega) (by omega) (by omega)
        have sq : ∀ j, s64 (65 + S.length) j = s7 (65 + S.length) j := fun j => q6 _ j (by omega) (by omega) (by omega)
        have plc6 : plc s64 S = plc s7 S := plc_low S lowS
        have go : ∀ y2 : Int32, (y2 = 0 ∨ y2 = 1) → (y2 = 1 → (s7 (65 + S.length) 6).toInt = 1) → wk_X6_become (65 + S.length) (0 : Int32) y2 s4n (fun s95 => wk_X2_fold (65 + S.length) s95 (fun s100 => wk_X2_raise (65 + S.length) ((1 : Int32) + (s100 (65 + S.length) 2)) x s100 (fun s105 => Q s105))) := by
          intro y2 hy2 hy3
          refine sp_become (fun s95 r95 b0 b1 b6 bq => ?_)
          have r4n : RO (65 + S.length) s64 s4n := by rw [e4]; exact ro_up ro_rf
          have q4n : ∀ j, j ≠ 8 → s4n (65 + S.length) j = s64 (65 + S.length) j := fun j hj => by rw [e4, rdA_ne hj]
          refine un_tail (s := s64) (s00 := s00) (Hs00 := Hs00) (X := X9) (g1 := g2) hS (ko_tr (lds_k ld) k6) (mks_tr (lds_m ld ⟨by omega, by omega⟩) m6) (fun j hj => by rw [ws j (by omega)]; exact ld.2.2.2.2.1 j (by omega)) he (by omega) (by omega) cap (fun hf0 => ?_) (agr_tr (agr_le ag he0) (agr_le ag2 (by omega)) (Nat.le_refl _)) ?_ nc2 (rlx_mono cm (funext (fun i => q6 27 i (by decide) (by decide) (by decide))) S _ _ _ (fun i hi => ws i (by omega)) (agr_le ag2 (by omega)) lowS (Or.inl nc2) r1) (by rw [sq]; exact r3) (by omega) (by rw [e64]; exact T2) (by unfold HOK; rw [sq]; exact v4') ?_ (ro_tr r4n r95) b0 ((bq 9 (by decide) (by decide) (by decide) (by decide)).trans (q4n 9 (by decide))) ((bq 2 (by decide) (by decide) (by decide) (by decide)).trans (q4n 2 (by decide))) (fun c => ?_) (by omega) k
          · rw [ef] at hf0
            have := ff.2.2 hf0
            rw [ld.2.1 6 3 (by omega) (by decide) (by decide)] at this
            exact this
          · rw [q6 7 7 (by decide) (by decide) (by decide), ld.2.1 7 7 (by omega) (by decide) (by decide), hcnt]
            rfl
          · rw [sq, e64]
            exact bnd_ext (bnd_le v5' (Nat.le_refl _) (Nat.le_refl _) (by omega)) ag2 gi2 T2.2.1 (by omega)
          · rw [b6] at c
            rcases hy2 with e | e
            · rw [e] at c
              exact absurd c (by decide)
            · have := (v6 (hy3 e)).2
              omega
        have s6 : (s4n (65 + S.length) 6) = s7 (65 + S.length) 6 := by rw [e4, rdA_ne (by decide)]; exact sq 6
        refine sp_isConstant (fun c6 => ⟨fun y2 => y2 = 0, fun y2 hy e => go y2 hy (fun h => by rw [e] at h; exact absurd h (by decide)), fun _ => rfl, fun h => absurd rfl h⟩) (fun c6 => ⟨fun y2 => y2 = 1, fun y2 hy e => go y2 hy (fun _ => by rw [← s6]; exact c6), fun h => absurd h (by decide), fun _ => rfl⟩)
      refine ⟨fun y => y = 22 ∨ y = 23 ∨ y = 24, ?_, fun _ => ⟨fun _ => Or.inl rfl, fun _ => Or.inr (Or.inl rfl)⟩, fun _ => Or.inr (Or.inr rfl)⟩
      rintro y (e | e | e) <;> subst e
      · exact em1 22 22 rfl (Or.inl rfl)
      · exact em1 23 23 rfl (Or.inr (Or.inl rfl))
      · exact em1 24 24 rfl (Or.inr (Or.inr rfl))
    refine ⟨FF s7, main, True, fun _ => sp_refuse (fun s hs hf => ff_of hs hf), fun _ => ⟨fun _ => ff_rf, fun _ => trivial⟩, fun _ => ⟨fun _ => ff_rf, fun _ => trivial⟩⟩
  · -- *
    refine xc_loaded h hS (by omega) (fun s7 g1 s00 Hs00 X9 ld ag va he hc h3 => ?_)
    obtain ⟨nc2, r1, r2, r3, r4, ⟨v1, -, -, ⟨v4, v5⟩, v6⟩, v7⟩ := va
    have e1 := clen_eq h3
    have pk1 := pkq_le (σ := σ) (q := 65 + S.length)
    have okl := v4
    unfold HOK at okl
    have ldl := ld.2.2.2.2.2.1
    generalize hBb : Hs00 + 7 * (1 + (s7 (65 + S.length) 2).toInt.toNat) = Bb
    have v5' : BND g1 s00 (clen s7) (Hs00 + 7 * (s7 (65 + S.length) 2).toInt.toNat) := v5
    have at0 := at_rf (n := S.length) r4 (bnd_le v5' (Nat.le_refl _) (Nat.le_refl _) (by omega) : BND g1 s00 (clen s7) Bb) h3
    have plcS : plc s7 S = plc σ S := plc_low S (lds_low ld (Nat.le_refl _))
    have plcA : plc σ (iV :: S) = pk σ (65 + S.length) + plc σ S := plc_V
    refine sk_pointed hop (fun s13 z ff rz z0 z6 zq => ?_)
    have at2 := at_ff at0 ff
    have at2' := at2
    obtain ⟨u1, u2, u3, u4, u5, u6, u7, u8⟩ := at2'
    clear u8
    have q2 : z (65 + S.length) 2 = s7 (65 + S.length) 2 := (zq 2 (by decide) (by decide) (by decide) (by decide) (by decide)).trans (u5 S.length 2 (by omega))
    have hv := hv_one (q := 65 + S.length) q2 (by omega)
    have e17 := clen_eq (σ := s13) (by omega)
    refine at_raise (s7 := s7) (s := s13) (g1 := g1) (Xs := X9) (s00 := s00) (Hs00 := Hs00) (Bb := Bb) at2 (by omega) rz ((zq 9 (by decide) (by decide) (by decide) (by decide) (by decide)).trans (u5 S.length 9 (by omega))) (Or.inr z0) (by rw [z6]; decide) (by rw [hv]; omega) (by rw [hv]; omega) (by omega) (lds_k ld) (lds_m ld ⟨by omega, by omega⟩) (fun j hj => ld.2.2.2.2.1 j (by omega)) he (by omega) (by omega) (fun c => by rw [ld.2.1 6 3 (by omega) (by decide) (by decide)] at c; exact c) (agr_le ag he0) (by rw [ld.2.1 7 7 (by omega) (by decide) (by decide), hcnt]; rfl) nc2 r1 r3 (fun cf => ?_) k
    have pz := pkq_le (σ := z) (q := 65 + S.length)
    omega
  · -- &
    obtain ⟨-, -, -, H, X, h4⟩ := h
    obtain ⟨nc2, s00, Hs00, r1, r2, r3, r4, v1, v2', v3, ⟨v4, v5⟩, v6⟩ := rlx_Vi h4
    have hs00 := (rlx_typ S _ _ _ r1).2
    have okl := v4
    unfold HOK at okl
    have v5' : BND g s00 (clen σ) (Hs00 + 7 * (σ (65 + S.length) 2).toInt.toNat) := v5
    generalize hBb : Hs00 + 7 * (1 + (σ (65 + S.length) 2).toInt.toNat) = Bb
    have at0 := at_rf (n := S.length) r4 (bnd_le v5' (Nat.le_refl _) (Nat.le_refl _) (by omega) : BND g s00 (clen σ) Bb) hc3
    have plcA : plc σ (iV :: S) = pk σ (65 + S.length) + plc σ S := plc_V
    have main : ∀ s58, FF σ s58 → wk_X2_address (65 + S.length) s58 (fun s60 => wk_X2_raise (65 + S.length) ((1 : Int32) + (s60 (65 + S.length) 2)) x s60 (fun s105 => Q s105)) := by
      intro s58 ff
      have at1 := at_ff at0 ff
      have f7 := (ff_k ff).2.2.2.2.2.1
      have kd1 : KDq s58 (65 + S.length) = KDq σ (65 + S.length) := by
        unfold KDq
        rw [ff.1 _ 0 (by omega)]
      refine sk_address hop (by rw [f7]; exact hc3) (by rw [f7]; omega) (fun s75 z y1 y0 rz z0 z6 zq => ?_)
      have at2 : ∃ m, m ≤ 2 * pk σ (65 + S.length) ∧ AT σ s75 g X b L S.length s00 Bb (Hs00 + 1) m := by
        by_cases c : KDq s58 (65 + S.length) = 1 ∨ KDq s58 (65 + S.length) = 2
        · obtain ⟨σ', nn, op, a1, a2, a3, p1, p2, p3, p4⟩ := y1 c
          clear y1
          have l2 : ln nn = 2 := by rcases p3 with e | e <;> subst e <;> rfl
          have d0 : de nn = 1 := by rcases p3 with e | e <;> subst e <;> rfl
          have po0 : po nn = 0 := by rcases p3 with e | e <;> subst e <;> rfl
          have pk2 : pk σ (65 + S.length) = 1 := by unfold pk; rw [if_pos (by omega)]
          have := v2' (by omega)
          exact ⟨0 + ln nn, by omega, at_emit (at_row at1 p1) p4 p2 (by omega) (by omega) (fun _ => by rw [d0, po0]; omega)⟩
        · clear y1
          rw [y0 c]
          have e := v3 (by omega)
          rw [← e]
          exact ⟨0, by omega, at1⟩
      obtain ⟨m, hm, at2⟩ := at2
      clear y1
      have pk1 := pkq_le (σ := σ) (q := 65 + S.length)
      have at2' := at2
      obtain ⟨u1, u2, u3, u4, u5, u6, u7, u8⟩ := at2'
      clear u8
      have q2 : z (65 + S.length) 2 = σ (65 + S.length) 2 := (zq 2 (by decide) (by decide) (by decide) (by decide) (by decide) (by decide)).trans (u5 S.length 2 (by omega))
      have hv := hv_one (q := 65 + S.length) q2 (by omega)
      have e17 := clen_eq (σ := s75) (by omega)
      refine at_raise (s7 := σ) (s := s75) (g1 := g) (Xs := X) (s00 := s00) (Hs00 := Hs00) (Bb := Bb) at2 (by omega) rz ((zq 9 (by decide) (by decide) (by decide) (by decide) (by decide) (by decide)).trans (u5 S.length 9 (by omega))) (Or.inl z0) z6 (by rw [hv]; omega) (by rw [hv]; omega) hS ko_rf mks_rf (fun _ _ => rfl) hs00 r2 (by omega) id agr_rf (by rw [hcnt]; rfl) nc2 r1 r3 (fun cf => ?_) k
      have pz : pk z (65 + S.length) = 0 := by unfold pk; rw [z0]; rfl
      omega
    refine sp_isPlace (fun np => ?_) (fun p => ?_)
    · exact ⟨FF σ, main, True, fun _ => sp_refuse (fun s hs hf => ff_of hs hf), fun _ => trivial, fun e => absurd rfl e⟩
    · exact ⟨FF σ, main, True, fun _ => sp_refuse (fun s hs hf => ff_of hs hf), fun _ => trivial, fun _ => ⟨fun _ => ff_rf, fun _ => trivial⟩⟩
end XU2
end

section
/-! steps of an expression: ? and : -/
section XQU
variable {σ s s7 z t : St} {g g' g1 : Gh} {CP CP' : Int → Nat → Prop} {X0 X Xs : Nat → Prop} {b e0 H0 L e H H' n q s00 Hs00 H2 H3 m Bb : Nat} {A B S : List It} {it : It} {x y : Int32}
theorem sk_unless {Q : Int32 → St → Prop} (h0 : 0 ≤ (σ 4 1).toInt) (h1 : (σ 4 1).toInt < 262200) (hst : (σ q 6).toInt = 1 → 0 ≤ (σ q 9).toInt ∧ (σ q 9).toInt ≤ (σ 4 1).toInt) (k1 : ∀ v s, v = (σ 4 1) → EMi σ s 27 x 0 0 → Q v s) (k2 : ∀ (s1 s : St) (v : Int32), (σ q 6).toInt = 1 → Kp [(4, 1)] [] σ s1 → (s1 4 1) = (σ q 9) → EMi s1 s 26 x 0 0 → v = (s1 4 1) → Q v s) (k3 : ∀ s1 : St, (σ q 6).toInt = 1 → Kp [(4, 1)] [] σ s1 → (s1 4 1) = (σ q 9) → Q x s1) : wk_X2_unless q x σ Q := by
  unfold wk_X2_unless
  refine ⟨True, fun _ => sk_emit (n := 27) rfl (by decide) h0 (by omega) (fun v s e em => k1 v s e em), fun _ => trivial, fun _ => sp_isConstant (fun _ => ⟨fun _ => trivial, fun e => absurd rfl e⟩) (fun c => ⟨fun _ => trivial, fun _ => sk_cut (hst c).2 (fun s1 hs1 e1 => ⟨fun _ => ?_, fun _ => k3 s1 c hs1 e1⟩)⟩)⟩
  have := hst c
  exact sk_emit (n := 26) rfl (by decide) (by rw [e1]; omega) (by rw [e1]; omega) (fun v s e em => k2 s1 s v c hs1 e1 em e)
theorem k4_of (k1' : Kp [(4, 1)] [] σ s) : ∀ c j, c ≠ 4 → s c j = σ c j := fun c j hc => k1' c j (by
  simp only [List.contains_cons, List.contains_nil, Bool.or_false]
  cases z : ((c, j) == ((4 : Nat), (1 : Nat))) with
  | false => rfl
  | true => exact absurd (congrArg Prod.fst (eq_of_beq z)) hc) rfl
theorem xs_quest {Q : St → Prop} (h : XC σ g X0 b e0 H0 L (iV :: S)) (cap : (σ 4 1).toInt ≤ 262150) (hS : S.length < 500) (k : ∀ s, XRs σ s g X0 b e0 H0 L (iV :: S) (iQ :: S) 2 → Q s) : wk_X2_top σ (fun u216 => wk_X2_top σ (fun u222 => wk_X2_loaded u222 σ (fun u225 s225 => wk_X2_unless u225 ((-1) : Int32) s225 (fun v229 s229 => (∀ s45n : St, s45n = upC s229 u216 10 v229 → Q s45n))))) := by
  have he0 := xc_e0 h
  have c0 := clen_eq h.2.2.1
  have hcnt := h.1
  have hop := isOp_at hS
  refine sp_otop (n := S.length) (by rw [h.1]; rfl) hS (sp_otop (n := S.length) (by rw [h.1]; rfl) hS (xc_loaded h hS (by omega) (fun s7 g1 s00 Hs00 X9 ld ag va he hc h3 => ?_)))
  obtain ⟨nc2, r1, r2, r3, r4, ⟨v1, -, -, ⟨v4, v5⟩, v6⟩, v7⟩ := va
  have e1 := clen_eq h3
  have pk1 := pkq_le (σ := σ) (q := 65 + S.length)
  have okl := v4
  unfold HOK at okl
  have ldl := ld.2.2.2.2.2.1
  have ldw := ld.2.2.2.2.1
  have plcA : plc σ (iV :: S) = pk σ (65 + S.length) + plc σ S := plc_V
  have fu : (s7 6 3) = (σ 6 3) := ld.2.1 6 3 (by omega) (by decide) (by decide)
  have hT0 := (rlx_typ S _ _ _ r1).1
  -- what is left, from what is told of its code
  have fin : ∀ (s : St) (g2 : Gh) (v : Int32) (e9 : Nat) (X2 : Nat → Prop), KXE s7 s → MKs s7 s → (∀ c j, c ≠ 4 → c ≠ 24 → s c j = s7 c j) → (∀ j, j < s00 → (s 24) j = (s7 24) j) → (s 4 1).toInt = e9 → s00 ≤ e9 → e9 ≤ clen s7 + 2 → AGR g1 g2 s00 → TYp (s 24) g2 (CPu s) X2 b e9 Hs00 L → BND g2 s00 e9 (Hs00 + 7 * (s7 (65 + S.length) 2).toInt.toNat) → ((v.toInt < 0 ∧ X2 = X9) ∨ ∃ j n h, ((n = 26 ∧ h = Hs00) ∨ (n = 27 ∧ h = Hs00 + 1)) ∧ (v.toInt = (j : Nat) ∧ s00 ≤ j ∧ j + 2 = e9 ∧ ((s 24) j).toInt = (n : Nat) ∧ g2 j = some (h, L) ∧ ((s 24) (j + 1)).toInt < 0) ∧ X2 = XU X9 j) → Q (upC s (65 + S.length) 10 v) := by
    intro s g2 v e9 X2 kk mm cc ww el1 el2 el3 ag2 T bd jj
    generalize hz : upC s (65 + S.length) 10 v = z
    have zc : ∀ c j, c ≠ 65 + S.length → z c j = s c j := fun c j hc => by rw [← hz, rdC_ne hc]
    have zq : ∀ j, j ≠ 10 → z (65 + S.length) j = s7 (65 + S.length) j := fun j hj => by rw [← hz, rdA_ne hj]; exact cc _ j (by omega) (by omega)
    have z10 : z (65 + S.length) 10 = v := by rw [← hz, rdA_eq rfl]
    have z24 : (z 24) = (s 24) := funext (fun j => zc 24 j (by omega))
    have z4 : (z 4 1) = (s 4 1) := zc 4 1 (by omega)
    have kz : KXE s7 z := ko_tr kk (by rw [← hz]; exact ko_op ko_rf hop)
    have m' : MKs s z := mks_eq (funext (fun j => zc 25 j (by omega))) (funext (fun j => zc 39 j (by omega)))
    have mz : MKs s7 z := mks_tr mm m'
    have cm := cpu_mono kz mz
    have cm' : ∀ a m, CPu s a m → CPu z a m := cpu_mono (by rw [← hz]; exact ko_op ko_rf hop) m'
    have low : LOW S.length s7 z := fun j k hj => (zc _ k (by omega)).trans (cc _ k (by omega) (by omega))
    have ecz : clen z = e9 := by
      have := clen_eq (σ := z) (by rw [z4]; omega)
      rw [z4] at this
      omega
    have fz : (z 6 3) = (s7 6 3) := (zc 6 3 (by omega)).trans (cc 6 3 (by decide) (by decide))
    refine k z ⟨ko_tr (lds_k ld) kz, mks_tr (lds_m ld ⟨by omega, by omega⟩) mz, fun j hj => by rw [z24, ww j (by omega)]; exact ldw j (by omega), by rw [z4]; omega, fun hf => by rw [fz, fu] at hf; exact hf, by rw [z4]; omega, fun _ => ⟨g2, agr_tr (agr_le ag he0) (agr_le ag2 he) (Nat.le_refl _), ⟨?_, nc_of (by decide), by rw [z4]; omega, Hs00, X2, ?_⟩, ?_⟩⟩
    · rw [zc 7 7 (by omega), cc 7 7 (by decide) (by decide), ld.2.1 7 7 (by omega) (by decide) (by decide), hcnt]
      rfl
    · rw [ecz]
      have ht : HT z (65 + S.length) = (s7 (65 + S.length) 2).toInt.toNat := by unfold HT; rw [zq 2 (by decide)]
      refine rlx_Q nc2 (rlx_mono cm (funext (fun j => kz 27 j (op_lt (by decide)) rfl rfl)) S _ _ _ (fun j hj => by rw [z24]; exact ww j hj) ag2 low (Or.inl nc2) r1) el2 (by rw [zq 9 (by decide)]; exact r3) (by rw [z24]; exact typ_mono (fun _ _ => rfl) agr_rf cm' (fun _ h => h) T) ⟨rfl, ⟨by unfold HOK; rw [zq 2 (by decide)]; exact v4, by rw [ht]; exact bd⟩, ?_⟩
      rcases jj with ⟨j1, j2⟩ | ⟨j, n, h, j1, ⟨j2, j3, j4, j5, j6, j7⟩, j8⟩
      · exact Or.inl ⟨by rw [z10]; exact j1, j2⟩
      · exact Or.inr ⟨j, n, h, j1, ⟨by rw [z10]; exact j2, j3, j4, by rw [z24]; exact j5, j6, by rw [z24]; exact j7⟩, j8⟩
    · have p1 : plc z (iQ :: S) = plc z S := by
        show (if (iQ.1 = 0 ∨ iQ.1 = 1) ∧ _ then 1 else 0) + plc z S = _
        rw [if_neg (fun h => absurd h.1 (by decide))]
        omega
      have p2 : plc z S = plc σ S := (plc_low S low).trans (plc_low S (lds_low ld (Nat.le_refl _)))
      omega
  have v5' : BND g1 s00 (clen s7) (Hs00 + 7 * (s7 (65 + S.length) 2).toInt.toNat) := v5
  have m1e : ((-1 : Int32)).toInt < 0 := by decide
  refine sk_unless h3 (by omega) (fun c => ⟨by omega, by omega⟩) (fun v s ev em => ?_) (fun s1 s v c k1 el em ev => ?_) (fun s1 c k1 el => ?_)
  · rintro _ rfl
    have e2 := em_clen em (n := 27) rfl h3
    have l2 : ln 27 = 2 := rfl
    have ell := em_len em (m := 27) rfl
    obtain ⟨ek, emk, elw, ex, ef, ee⟩ := em_k em
    obtain ⟨g2, T2, ag2, gn⟩ := typ_hole (w' := (s 24)) (n := 27) (H' := Hs00) (L' := L) (typ_mono (fun q _ => rfl) agr_rf (cpu_mono ek emk) (fun _ z => z) r4) em.2.2.1 (by rw [em.2.2.2.1]; rfl) (by decide) (fun _ => ⟨by omega, by omega, rfl⟩)
    refine fin s g2 v (clen s7 + 2) (XU X9 (clen s7)) ek emk (em_cells em) (fun j hj => em.2.2.1 j (by omega)) (by omega) (by omega) (Nat.le_refl _) (agr_le ag2 r2) T2 ?_ (Or.inr ⟨clen s7, 27, Hs00 + 1, Or.inr ⟨rfl, rfl⟩, ⟨by rw [ev]; exact e1.symm, r2, rfl, by rw [em.2.2.2.1]; rfl, by rw [ag2 _ (Nat.le_refl _)]; exact r4.2.1, by rw [em.2.2.2.2.1]; exact m1e⟩, rfl⟩)
    exact bnd_ext v5' ag2 (fun j a1 a2 => by
      have : j = clen s7 + 1 := by omega
      rw [this]
      exact gn) T2.2.1 (by omega)
  · rintro _ rfl
    have hs1 := k4_of k1
    have l1 : (s1 4 1).toInt = s00 := by rw [el]; exact r3
    have cl1 : clen s1 = s00 := by
      have := clen_eq (σ := s1) (by omega)
      omega
    have e2 := em_clen em (n := 26) rfl (by omega)
    have l2 : ln 26 = 2 := rfl
    have ell := em_len em (m := 26) rfl
    obtain ⟨ek, emk, elw, ex, ef, ee⟩ := em_k em
    have kk1 : KXE s7 s1 := ko_sub (ko_kp k1) rfl rfl
    have mm1 : MKs s7 s1 := mks_eq (funext (fun j => hs1 25 j (by decide))) (funext (fun j => hs1 39 j (by decide)))
    have kk : KXE s7 s := ko_tr kk1 ek
    have mm : MKs s7 s := mks_tr mm1 emk
    have w24 : (s1 24) = (s7 24) := funext (fun j => hs1 24 j (by decide))
    have ws : ∀ j, j < s00 → (s 24) j = (s7 24) j := fun j hj => (em.2.2.1 j (by omega)).trans (by rw [w24])
    have w0 : (s 24) s00 = 26 := by rw [← cl1]; exact em.2.2.2.1
    have w1 : (s 24) (s00 + 1) = -1 := by rw [← cl1]; exact em.2.2.2.2.1
    obtain ⟨g2, T2, ag2, gn⟩ := typ_hole (w' := (s 24)) (n := 26) (H' := Hs00) (L' := L) (typ_mono (fun q _ => rfl) agr_rf (cpu_mono kk mm) (fun _ z => z) hT0) ws (by rw [w0]; rfl) (by decide) (fun c => absurd rfl c)
    have f00 := (v6 c).2
    refine fin s g2 v (s00 + 2) (XU X9 s00) kk mm (fun c j h4 h24 => (em_cells em c j h4 h24).trans (hs1 c j h4)) ws (by omega) (by omega) (by omega) ag2 T2 ?_ (Or.inr ⟨s00, 26, Hs00, Or.inl ⟨rfl, rfl⟩, ⟨by rw [ev]; exact l1, Nat.le_refl _, rfl, by rw [w0]; rfl, by rw [ag2 _ (Nat.le_refl _)]; exact hT0.2.1, by rw [w1]; exact m1e⟩, rfl⟩)
    exact bnd_ext (bnd_one (L := L) hT0.2.1 (by omega)) ag2 (fun j a1 a2 => by
      have : j = s00 + 1 := by omega
      rw [this]
      exact gn) T2.2.1 (by omega)
  · rintro _ rfl
    have hs1 := k4_of k1
    have l1 : (s1 4 1).toInt = s00 := by rw [el]; exact r3
    have kk1 : KXE s7 s1 := ko_sub (ko_kp k1) rfl rfl
    have mm1 : MKs s7 s1 := mks_eq (funext (fun j => hs1 25 j (by decide))) (funext (fun j => hs1 39 j (by decide)))
    have w24 : (s1 24) = (s7 24) := funext (fun j => hs1 24 j (by decide))
    exact fin s1 g1 (-1) s00 X9 kk1 mm1 (fun c j h4 _ => hs1 c j h4) (fun j _ => by rw [w24]) l1 (Nat.le_refl _) (by omega) agr_rf (by rw [w24]; exact typ_mono (fun _ _ => rfl) agr_rf (cpu_mono kk1 mm1) (fun _ h => h) hT0) (bnd_one (L := L) hT0.2.1 (by omega)) (Or.inl ⟨m1e, rfl⟩)
end XQU
end

section
/-! steps of an expression: between the two of ? :, and behind them -/
section XCH
variable {σ s s7 z t : St} {g g' g1 : Gh} {CP CP' : Int → Nat → Prop} {X0 X Xs : Nat → Prop} {b e0 H0 L e H H' n q s00 Hs00 H2 H3 m Bb : Nat} {A B S : List It} {it : It} {x y : Int32}
theorem plc_M : plc σ (iM :: iC :: S) = plc σ S := by
  show (if (iM.1 = 0 ∨ iM.1 = 1) ∧ _ then 1 else 0) + ((if (iC.1 = 0 ∨ iC.1 = 1) ∧ _ then 1 else 0) + plc σ S) = _
  rw [if_neg (fun h => absurd h.1 (by decide)), if_neg (fun h => absurd h.1 (by decide))]
  omega
theorem plc_Q : plc σ (iQ :: S) = plc σ S := by
  show (if (iQ.1 = 0 ∨ iQ.1 = 1) ∧ _ then 1 else 0) + plc σ S = _
  rw [if_neg (fun h => absurd h.1 (by decide))]
  omega
theorem xs_colon {Q : St → Prop} (h : XC σ g X0 b e0 H0 L (iV :: iQ :: S)) (cap : (σ 4 1).toInt ≤ 262150) (hS : S.length + 1 < 500) (k : ∀ s, XRs σ s g X0 b e0 H0 L (iV :: iQ :: S) (iM :: iC :: S) 2 → Q s) : wk_X2_colon σ Q := by
  have he0 := xc_e0 h
  have c0 := clen_eq h.2.2.1
  have hcnt := h.1
  have hop := isOp_at (n := S.length) (by omega)
  unfold wk_X2_colon
  refine sp_otop (n := (iQ :: S).length) (by rw [h.1]; rfl) hS (xc_loaded (S := iQ :: S) h hS (by omega) (fun s5 g1 s9 Hs9 X9 ld ag va he hc h3 => ?_))
  obtain ⟨nc, r1, r2, r3, r4, ⟨v1, -, -, ⟨v4, v5⟩, v6⟩, v7⟩ := va
  obtain ⟨nc2, s00, Hs00, Xs, i1', i2', i3', i4', ⟨b1, ⟨b2, b3⟩, b4⟩⟩ := rlx_Qi r1
  subst b1
  have e1 := clen_eq h3
  have hs00 := (rlx_typ S _ _ _ i1').2
  have pk1 := pkq_le (σ := σ) (q := 65 + (iQ :: S).length)
  have okl := b2
  unfold HOK at okl
  have okr : 1 ≤ (s5 (65 + (S.length + 1)) 2).toInt ∧ (s5 (65 + (S.length + 1)) 2).toInt ≤ 60 := v4
  have br : BND g1 s9 (clen s5) (Hs9 + 7 * (s5 (65 + (S.length + 1)) 2).toInt.toNat) := v5
  have bl : BND g1 s00 s9 (Hs9 + 7 * (s5 (65 + S.length) 2).toInt.toNat) := b3
  have ldl := ld.2.2.2.2.2.1
  have ldw := ld.2.2.2.2.1
  have cnt5 : (s5 7 7).toInt = ((S.length + 1 + 1 : Nat) : Int) := by
    rw [ld.2.1 7 7 (by omega) (by decide) (by decide), hcnt]
    rfl
  have e2 : ((s5 7 7) - (2 : Int32)).toInt = (S.length : Int) := by rw [sbc i2 (by omega) (by omega)]; omega
  have en2 : ((s5 7 7) - (2 : Int32)).toNatClampNeg = S.length := by rw [nt', e2]; rfl
  refine ⟨fun y => y = 65 + S.length, ?_, False, fun f => f.elim, fun c => by omega, fun _ => ⟨fun c => by omega, fun _ => ⟨⟨by omega, by omega⟩, by rw [en2]⟩⟩⟩
  rintro y0 - rfl
  refine sk_emit (n := 26) rfl (by decide) h3 (by omega) (fun v57 s57 ev em => ?_)
  obtain ⟨ek, emk, elw, ex, ef, ee⟩ := em_k em
  have l2 : ln 26 = 2 := rfl
  have e57 := em_clen em (n := 26) rfl h3
  have ell := em_len em (m := 26) rfl
  have lt9 : s9 < clen s5 := by
    by_cases c : s9 = clen s5
    · have t1 := i4'.2.1
      have t2 := r4.2.1
      rw [c, t2] at t1
      have := congrArg Prod.fst (Option.some.inj t1)
      have : Hs9 + 1 = Hs9 := this
      omega
    · omega
  obtain ⟨g2, T2, ag2, gn⟩ := typ_hole (w' := (s57 24)) (n := 26) (H' := Hs9) (L' := L) (typ_mono (fun q _ => rfl) agr_rf (cpu_mono ek emk) (fun _ z => z) r4) em.2.2.1 (by rw [em.2.2.2.1]; rfl) (by decide) (fun c => absurd rfl c)
  have w57 : (s57 24) (clen s5) = 26 := em.2.2.2.1
  have w571 : (s57 24) (clen s5 + 1) = -1 := em.2.2.2.2.1
  have q57 : ∀ c j, c ≠ 4 → c ≠ 24 → s57 c j = s5 c j := em_cells em
  have m1e : ((-1 : Int32)).toInt < 0 := by decide
  have bd : BND g2 s00 (clen s5 + 2) (Hs9 + 7 * max (s5 (65 + S.length) 2).toInt.toNat (s5 (65 + (S.length + 1)) 2).toInt.toNat) := bnd_ext (bnd_join (bnd_le bl (Nat.le_refl _) (Nat.le_refl _) (by omega)) (bnd_le br (Nat.le_refl _) (Nat.le_refl _) (by omega)) (Nat.le_refl _)) ag2 (fun j a1 a2 => by
    have : j = clen s5 + 1 := by omega
    rw [this]
    exact gn) T2.2.1 (by omega)
  -- what is left, when the first jump is aimed
  have fin : ∀ s76 : St, (∀ c, c ≠ 24 → s76 c = s57 c) → (∀ i, (i < s00 ∨ i = clen s5 ∨ i = clen s5 + 1) → (s76 24) i = (s57 24) i) → TYp (s76 24) g2 (CPu s57) (XU Xs (clen s5)) b (clen s5 + 2) Hs9 L → Q (upC s76 (65 + S.length) 10 v57) := by
    intro s76 c76 w76 T
    generalize hz : upC s76 (65 + S.length) 10 v57 = z
    have zc : ∀ c j, c ≠ 65 + S.length → c ≠ 24 → z c j = s57 c j := fun c j hc h24 => by rw [← hz, rdC_ne hc, c76 c h24]
    have zq : ∀ j, j ≠ 10 → z (65 + S.length) j = s5 (65 + S.length) j := fun j hj => by rw [← hz, rdA_ne hj, c76 _ (by omega)]; exact q57 _ j (by omega) (by omega)
    have z10 : z (65 + S.length) 10 = v57 := by rw [← hz, rdA_eq rfl]
    have z24 : (z 24) = (s76 24) := by rw [← hz, rdC_ne (by omega)]
    have z4 : (z 4 1) = (s57 4 1) := zc 4 1 (by omega) (by decide)
    have kz7 : KXE s57 z := by
      rw [← hz]
      refine ko_op ?_ hop
      intro c j hc h1 h2
      by_cases c24 : c = 24
      · subst c24
        exact absurd h2 (by decide)
      · rw [c76 c c24]
    have mz7 : MKs s57 z := mks_eq (funext (fun j => zc 25 j (by omega) (by decide))) (funext (fun j => zc 39 j (by omega) (by decide)))
    have kz : KXE s5 z := ko_tr ek kz7
    have mz : MKs s5 z := mks_tr emk mz7
    have cm := cpu_mono kz mz
    have low : LOW S.length s5 z := fun j k hj => (zc _ k (by omega) (by omega)).trans (q57 _ k (by omega) (by omega))
    have ecz : clen z = clen s5 + 2 := by
      have : clen z = clen s57 := by unfold clen; rw [z4]
      omega
    have fz : (z 6 3) = (σ 6 3) := (zc 6 3 (by omega) (by decide)).trans (ef.trans (ld.2.1 6 3 (by omega) (by decide) (by decide)))
    have wz : ∀ j, j < s00 → (z 24) j = (s5 24) j := fun j hj => by rw [z24, w76 j (Or.inl hj)]; exact em.2.2.1 j (by omega)
    have zr : ∀ j, z (65 + (S.length + 1)) j = s5 (65 + (S.length + 1)) j := fun j => (zc _ j (by omega) (by omega)).trans (q57 _ j (by omega) (by omega))
    refine k z ⟨ko_tr (lds_k ld) kz, mks_tr (lds_m ld ⟨by show 65 + (S.length + 1) ≠ 25; omega, by show 65 + (S.length + 1) ≠ 39; omega⟩) mz, fun j hj => by rw [wz j (by omega)]; exact ldw j (by omega), by rw [z4]; omega, fun hf => by rw [fz] at hf; exact hf, by rw [z4]; omega, fun _ => ⟨g2, agr_tr (agr_le ag he0) (agr_le ag2 (by omega)) (Nat.le_refl _), ⟨?_, nc_of (by decide), by rw [z4]; omega, Hs9, XU Xs (clen s5), ?_⟩, ?_⟩⟩
    · rw [zc 7 7 (by omega) (by decide), q57 7 7 (by decide) (by decide), cnt5]
      rfl
    · rw [ecz]
      have ht : HT z (65 + S.length) = (s5 (65 + S.length) 2).toInt.toNat := by unfold HT; rw [zq 2 (by decide)]
      have ht1 : HT z (65 + S.length + 1) = (s5 (65 + (S.length + 1)) 2).toInt.toNat := by unfold HT; exact congrArg (fun v : Int32 => v.toInt.toNat) (zr 2)
      refine rlx_C nc2 (rlx_mono cm (funext (fun j => kz 27 j (op_lt (by decide)) rfl rfl)) S _ _ _ wz (agr_le ag2 (by omega)) low (Or.inl nc2) i1') (by omega) (by rw [zq 9 (by decide)]; exact i3') (by rw [z24]; exact typ_mono (fun _ _ => rfl) agr_rf (cpu_mono kz7 mz7) (fun _ h => h) T) ⟨rfl, by unfold HOK; rw [zq 2 (by decide)]; exact b2, ?_, by rw [ht, ht1]; exact bd, clen s5, ⟨by rw [z10, ev]; exact e1.symm, by omega, rfl, by rw [z24, w76 _ (Or.inr (Or.inl rfl)), w57]; rfl, by rw [ag2 _ (Nat.le_refl _)]; exact r4.2.1, by rw [z24, w76 _ (Or.inr (Or.inr rfl)), w571]; exact m1e⟩, rfl⟩ (by unfold KDq; rw [zr]; exact v7)
      have : z (65 + S.length + 1) 2 = s5 (65 + (S.length + 1)) 2 := zr 2
      unfold HOK
      rw [this]
      exact okr
    · have p2 : plc z S = plc σ S := (plc_low S low).trans (plc_low S (lds_low ld (by show 65 + S.length ≤ 65 + (S.length + 1); omega)))
      have p3 : plc σ (iV :: iQ :: S) = pk σ (65 + (iQ :: S).length) + plc σ (iQ :: S) := plc_V
      have p4 := plc_Q (σ := σ) (S := S)
      have p5 := plc_M (σ := z) (S := S)
      omega
  have w10 : s57 (65 + S.length) 10 = s5 (65 + S.length) 10 := q57 _ 10 (by omega) (by omega)
  rcases b4 with ⟨j1, j2⟩ | ⟨j, n, h', j1, ⟨j2, j3, j4, j5, j6, j7⟩, j8⟩
  · subst j2
    refine sp_aim0 (by rw [w10]; exact j1) ?_
    rintro _ rfl
    exact fin s57 (fun _ _ => rfl) (fun _ _ => rfl) T2
  · subst j8
    refine sp_aim1 (j := j) (by rw [w10]; exact j2) (by omega) (by rw [em.2.2.1 _ (by omega)]; exact j7) (by omega) ?_
    rintro _ rfl
    refine fin _ (fun c hc => rdF_ne hc) (fun i hi => ?_) ?_
    · rw [rdF_eq]
      show (if i = j + 1 then _ else _) = _
      rw [if_neg (by omega)]
    · rw [rdF_eq]
      refine typ_aim (w := (s57 24)) (X := XU Xs (clen s5)) (p := j) (t := clen s5 + 2) (n := n) (h0 := h') (k0 := L) (ht := Hs9) (v := s57 4 1) (typ_mono (fun q _ => rfl) agr_rf (fun _ _ h => h) (fun q hq => ?_) T2) (by rw [ag2 j (by omega)]; exact j6) (by omega) (by rw [em.2.2.1 j (by omega)]; exact j5) (by omega) (fun i hi => if_neg hi) (if_pos rfl) (by have := clen_eq (σ := s57) (by omega); omega) (Nat.le_refl _) ⟨L, T2.2.1, Or.inr ⟨rfl, by omega⟩⟩ ⟨fun c => by omega, fun c => by omega⟩
      rcases hq with (hq | hq) | hq
      · exact Or.inl (Or.inl hq)
      · exact Or.inr hq
      · exact Or.inl (Or.inr hq)
end XCH
end

section
/-! steps of an expression: behind the two of ? : -/
section XC2
variable {σ s s7 z t : St} {g g' g1 : Gh} {CP CP' : Int → Nat → Prop} {X0 X Xs : Nat → Prop} {b e0 H0 L e H H' n q s00 Hs00 H2 H3 m Bb : Nat} {A B S : List It} {it : It} {x y : Int32}
/-- a value is taken away -/
theorem sp_pop0 {Q : Nat → St → Prop} (hc : (σ 7 7).toInt = ((n + 1 : Nat) : Int)) (hn : n < 500) (kd : KDq σ (65 + n) = 0) (k : Q (65 + n) (upC σ 7 7 ((σ 7 7) - (1 : Int32)))) : wk_X2_pop σ Q := by
  unfold wk_X2_pop
  refine sp_otop hc hn ?_
  unfold wk_X2_loaded
  refine sp_isPlace (fun _ => ⟨fun _ => ⟨fun c => by omega, fun _ => k⟩, fun e => absurd rfl e⟩) (fun p => by omega)
theorem xs_choice {Q : St → Prop} (h : XC σ g X0 b e0 H0 L (iV :: iM :: iC :: S)) (cap : (σ 4 1).toInt ≤ 262150) (hS : S.length + 2 < 500) (k : ∀ s, XRs σ s g X0 b e0 H0 L (iV :: iM :: iC :: S) (iV :: S) 0 → Q s) : wk_X2_choice x σ Q := by
  have he0 := xc_e0 h
  have c0 := clen_eq h.2.2.1
  have hcnt := h.1
  have hop := isOp_at (n := S.length) (by omega)
  unfold wk_X2_choice
  refine xc_pop (S := iM :: iC :: S) h hS (by omega) (fun s1 g1 s9 Hs9 X9 k1 m1 l1 f1 hi w1 ag va cnt he hc hc2 h3 fu => ?_)
  obtain ⟨nc, r1, r2, r3, r4, ⟨v1, -, -, ⟨v4, v5⟩, v6⟩, v7⟩ := va
  obtain ⟨kdM, nc2, s00, Hs00, Xs, i1', i2', i3', i4', ⟨b1, b2, b3, b4, j, ⟨j2, j3, j4, j5, j6, j7⟩, j8⟩⟩ := rlx_Ci r1
  subst b1 j8
  have e1 := clen_eq h3
  have hs00 := (rlx_typ S _ _ _ i1').2
  have pk1 := pkq_le (σ := σ) (q := 65 + (iM :: iC :: S).length)
  have cnt1 : (s1 7 7).toInt = ((S.length + 1 + 1 : Nat) : Int) := cnt
  refine sp_pop0 (n := S.length + 1) cnt1 (by omega) kdM ?_
  generalize hs6 : upC s1 7 7 ((s1 7 7) - (1 : Int32)) = s6
  have c6 : ∀ c i, c ≠ 7 → s6 c i = s1 c i := fun c i hc => by rw [← hs6, rdC_ne hc]
  have cnt6 : (s6 7 7).toInt = ((S.length + 1 : Nat) : Int) := by
    rw [← hs6, rdA_eq rfl, sb1 (by omega), cnt1]
    omega
  refine sp_otop (n := S.length) cnt6 (by omega) ?_
  have okr : 1 ≤ (s1 (65 + (S.length + 2)) 2).toInt ∧ (s1 (65 + (S.length + 2)) 2).toInt ≤ 60 := v4
  have okf := b2
  unfold HOK at okf
  have okm : 1 ≤ (s1 (65 + (S.length + 1)) 2).toInt ∧ (s1 (65 + (S.length + 1)) 2).toInt ≤ 60 := b3
  have br : BND g1 s9 (clen s1) (Hs9 + 7 * (s1 (65 + (S.length + 2)) 2).toInt.toNat) := v5
  have bl : BND g1 s00 s9 (Hs9 + 7 * max (s1 (65 + S.length) 2).toInt.toNat (s1 (65 + (S.length + 1)) 2).toInt.toNat) := b4
  have l6 : (s6 4 1) = (s1 4 1) := c6 4 1 (by decide)
  have w6 : (s6 24) = (s1 24) := funext (fun i => c6 24 i (by decide))
  refine sp_aim1 (j := j) (by rw [c6 _ 10 (by omega)]; exact j2) (by omega) (by rw [w6]; exact j7) (by rw [l6]; omega) ?_
  generalize hs32 : upF s6 24 (fun i => if i = j + 1 then (s6 4 1) else (s6 24) i) = s32
  have c32 : ∀ c i, c ≠ 7 → c ≠ 24 → s32 c i = s1 c i := fun c i h7 h24 => by rw [← hs32, rdF_ne h24]; exact c6 c i h7
  have w32 : ∀ i, (s32 24) i = if i = j + 1 then (s6 4 1) else (s1 24) i := fun i => by
    rw [← hs32, rdF_eq, w6]
  have cnt32 : (s32 7 7).toInt = S.length + 1 := by
    rw [← hs32, rdF_ne (by decide), cnt6]
    omega
  have k32 : KXE s1 s32 := by
    rw [← hs32, ← hs6]
    exact ko_kp (kp_F (kp_f kp_rf rfl) rfl)
  have m32 : MKs s1 s32 := mks_eq (funext (fun i => c32 25 i (by decide) (by decide))) (funext (fun i => c32 39 i (by decide) (by decide)))
  have cm := cpu_mono k32 m32
  have el : clen s32 = clen s1 := by unfold clen; rw [c32 4 1 (by decide) (by decide)]
  have T3 : TYp (s32 24) g1 (CPu s32) Xs b (clen s1) (Hs9 + 1) L := by
    refine typ_aim (w := (s1 24)) (p := j) (t := clen s1) (n := 26) (h0 := Hs9 + 1) (k0 := L) (ht := Hs9 + 1) (v := s6 4 1) (typ_mono (fun q _ => rfl) agr_rf cm (fun _ h => h) r4) j6 (by omega) j5 (by decide) (fun i hi => by rw [w32, if_neg hi]) (by rw [w32, if_pos rfl]) (by rw [l6]; exact e1.symm) (Nat.le_refl _) ⟨L, r4.2.1, Or.inr ⟨rfl, by omega⟩⟩ ⟨fun _ => rfl, fun c => by omega⟩
  have ws : ∀ i, i < s00 → (s32 24) i = (s1 24) i := fun i hi => by rw [w32, if_neg (by omega)]
  have low : LOW S.length s1 s32 := fun i k hi => c32 _ k (by omega) (by omega)
  have plcS : plc s32 S = plc σ S := (plc_low S low).trans (plc_low S (low_le l1 (by show S.length ≤ S.length + 1 + 1; omega)))
  have plcA : plc σ (iV :: iM :: iC :: S) = pk σ (65 + (iM :: iC :: S).length) + plc σ (iM :: iC :: S) := plc_V
  have plcB := plc_M (σ := σ) (S := S)
  have main : ∀ s71 : St, FF s32 s71 → wk_X6_become (65 + S.length) (if (s71 (65 + (S.length + 1)) 1) < (s71 (65 + (iM :: iC :: S).length) 1) then (s71 (65 + (iM :: iC :: S).length) 1) else (s71 (65 + (S.length + 1)) 1)) (0 : Int32) s71 (fun s106 => wk_X2_raise (65 + S.length) ((1 : Int32) + (if (s71 (65 + S.length) 2) < (if (s71 (65 + (S.length + 1)) 2) < (s71 (65 + (iM :: iC :: S).length) 2) then (s71 (65 + (iM :: iC :: S).length) 2) else (s71 (65 + (S.length + 1)) 2)) then (if (s71 (65 + (S.length + 1)) 2) < (s71 (65 + (iM :: iC :: S).length) 2) then (s71 (65 + (iM :: iC :: S).length) 2) else (s71 (65 + (S.length + 1)) 2)) else (s71 (65 + S.length) 2))) x s106 (fun s117 => Q s117)) := by
    intro s71 ff
    obtain ⟨fk, fm, fl, fx, fw, fc, fe⟩ := ff_k ff
    have q7 : ∀ c i, c ≠ 7 → c ≠ 24 → c ≠ 6 → s71 c i = s1 c i := fun c i h7 h24 h6 => (ff.1 c i h6).trans (c32 c i h7 h24)
    have hv : ((1 : Int32) + (if (s71 (65 + S.length) 2) < (if (s71 (65 + (S.length + 1)) 2) < (s71 (65 + (iM :: iC :: S).length) 2) then (s71 (65 + (iM :: iC :: S).length) 2) else (s71 (65 + (S.length + 1)) 2)) then (if (s71 (65 + (S.length + 1)) 2) < (s71 (65 + (iM :: iC :: S).length) 2) then (s71 (65 + (iM :: iC :: S).length) 2) else (s71 (65 + (S.length + 1)) 2)) else (s71 (65 + S.length) 2))).toInt = 1 + max (s1 (65 + S.length) 2).toInt (max (s1 (65 + (S.length + 1)) 2).toInt (s1 (65 + (S.length + 2)) 2).toInt) := by
      have eA : s71 (65 + S.length) 2 = s1 (65 + S.length) 2 := q7 _ 2 (by omega) (by omega) (by omega)
      have eB : s71 (65 + (S.length + 1)) 2 = s1 (65 + (S.length + 1)) 2 := q7 _ 2 (by omega) (by omega) (by omega)
      have eC : s71 (65 + (iM :: iC :: S).length) 2 = s1 (65 + (S.length + 2)) 2 := q7 (65 + (S.length + 2)) 2 (by omega) (by omega) (by omega)
      rw [eA, eB, eC]
      have m1' := max_i (a := s1 (65 + (S.length + 1)) 2) (b := s1 (65 + (S.length + 2)) 2)
      have m2' := max_i (a := s1 (65 + S.length) 2) (b := (if (s1 (65 + (S.length + 1)) 2) < (s1 (65 + (S.length + 2)) 2) then (s1 (65 + (S.length + 2)) 2) else (s1 (65 + (S.length + 1)) 2)))
      rw [m1'] at m2'
      rw [ad (by rw [m2', i1]; omega) (by rw [m2', i1]; omega), m2', i1]
    generalize ((1 : Int32) + (if (s71 (65 + S.length) 2) < (if (s71 (65 + (S.length + 1)) 2) < (s71 (65 + (iM :: iC :: S).length) 2) then (s71 (65 + (iM :: iC :: S).length) 2) else (s71 (65 + (S.length + 1)) 2)) then (if (s71 (65 + (S.length + 1)) 2) < (s71 (65 + (iM :: iC :: S).length) 2) then (s71 (65 + (iM :: iC :: S).length) 2) else (s71 (65 + (S.length + 1)) 2)) else (s71 (65 + S.length) 2))) = V at hv ⊢
    refine sp_become (fun z rz b0 b1 b6 bq => ?_)
    have kz : KXE s32 z := ko_tr fk (ro_ko rz hop)
    have mz : MKs s32 z := mks_tr fm (ro_mks rz (by omega) (by omega))
    have zw : (z 24) = (s32 24) := (funext (fun i => rz 24 i (by omega))).trans fw
    have zl : (z 4 1) = (s1 4 1) := (rz 4 1 (by omega)).trans (fc.trans (c32 4 1 (by decide) (by decide)))
    have ez : clen z = clen s1 := by unfold clen; rw [zl]
    have cz := cpu_mono kz mz
    have lz : LOW S.length s32 z := low_tr (fl _) (ro_low rz (Nat.le_refl _))
    have kz1 : KXE s1 z := ko_tr k32 kz
    have mz1 : MKs s1 z := mks_tr m32 mz
    refine fin_raise (s0 := s00) (Hs := Hs9) (X := Xs) (g' := g1) (by omega) (ko_tr k1 kz1) (mks_tr m1 mz1) (fun i hi => by rw [zw, ws i (by omega)]; exact w1 i (by omega)) hs00 (by omega) (by rw [zl]; exact h3) (by rw [zl]; omega) (fun hf0 => ?_) (agr_le ag he0) ?_ nc2 (rlx_mono (cpu_mono kz1 mz1) (funext (fun i => kz1 27 i (op_lt (by decide)) rfl rfl)) S _ _ _ (fun i hi => by rw [zw]; exact ws i hi) agr_rf (low_tr low lz) (Or.inl nc2) i1') ?_ (by rw [zw, ez]; exact typ_mono (fun _ _ => rfl) agr_rf cz (fun _ h => h) T3) (Or.inl b0) (by rw [hv]; omega) ?_ (fun c => by rw [b6] at c; exact absurd c (by decide)) ?_ k
    · have : (s71 6 3).toInt = 0 := by rw [rz 6 3 (by omega)] at hf0; exact hf0
      have := ff.2.2 this
      rw [c32 6 3 (by decide) (by decide), fu] at this
      exact this
    · rw [rz 7 7 (by omega), fe]
      exact cnt32
    · rw [bq 9 (by decide) (by decide) (by decide) (by decide), q7 _ 9 (by omega) (by omega) (by omega)]
      exact i3'
    · rw [hv, ez]
      exact bnd_join (bnd_le bl (Nat.le_refl _) (Nat.le_refl _) (by omega)) (bnd_le br (Nat.le_refl _) (Nat.le_refl _) (by omega)) (Nat.le_refl _)
    · have pz : pk z (65 + S.length) = 0 := by unfold pk; rw [b0]; rfl
      have p2 : plc z S = plc s32 S := plc_low S lz
      omega
  refine ⟨FF s32, main, True, fun _ => sp_refuse (fun s hs hf => ff_of hs hf), fun _ => trivial, fun _ => sk_fits ⟨fun e => absurd rfl e, fun _ => sk_fits ⟨fun e => absurd rfl e, fun _ => trivial⟩ ⟨fun _ => ff_rf, fun _ => trivial⟩⟩ ⟨fun _ => ff_rf, fun _ => sk_fits ⟨fun e => absurd rfl e, fun _ => trivial⟩ ⟨fun _ => ff_rf, fun _ => trivial⟩⟩⟩
end XC2
end

section
/-! steps of an expression: strings, names -/
section XN2
variable {σ s s7 z t : St} {g g' g1 : Gh} {CP CP' : Int → Nat → Prop} {X0 X Xs : Nat → Prop} {b e0 H0 L e H H' n q s00 Hs00 H2 H3 m Bb : Nat} {A B S : List It} {it : It} {x y : Int32}
theorem sk_byteAt {Q : Int32 → Prop} (k : ∀ v, Q v) : wk_X10_byteAt x σ Q := by
  unfold wk_X10_byteAt
  exact ⟨fun _ => k _, fun c => ⟨fun _ => k _, fun _ => ⟨fun _ => k _, fun c2 => ⟨⟨c, c2⟩, k _⟩⟩⟩⟩
theorem sk_codeAt {Q : Int32 → Prop} (k : ∀ v, Q v) : wk_X10_codeAt x y σ Q := by
  unfold wk_X10_codeAt
  refine sk_byteAt (fun v => ⟨fun _ => sk_byteAt (fun v2 => ?_), fun _ => ⟨fun _ => k _, fun _ => ⟨fun _ => k _, fun _ => ⟨fun _ => k _, fun _ => k _⟩⟩⟩⟩)
  exact ⟨fun _ => k _, fun _ => ⟨fun _ => k _, fun _ => ⟨fun _ => k _, fun _ => ⟨fun _ => k _, fun _ => ⟨fun _ => k _, fun _ => k _⟩⟩⟩⟩⟩
theorem sk_widthAt {Q : Int32 → Prop} (k : ∀ v, Q v) : wk_X10_widthAt x σ Q := by
  unfold wk_X10_widthAt
  exact sk_byteAt (fun v => ⟨fun _ => k _, fun _ => k _⟩)
theorem sk_readCodes {Q : Int32 → St → Prop} (k : ∀ v s, Kp [] [17] σ s → v.toInt = min 200 (vlx σ x) → Q v s) : wk_X10_readCodes x σ Q := by
  unfold wk_X10_readCodes
  have hv : (if (200 : Int32) < (atv 16002 (σ 14) x) then (200 : Int32) else (atv 16002 (σ 14) x)).toInt = min 200 (vlx σ x) := by
    have e2 : (200 : Int32).toInt = 200 := by decide
    by_cases c : (200 : Int32) < (atv 16002 (σ 14) x)
    · rw [if_pos c]
      have h := Int32.lt_iff_toInt_lt.mp c
      have : vlx σ x = (atv 16002 (σ 14) x).toInt := rfl
      omega
    · rw [if_neg c]
      have h : ¬ (200 : Int32).toInt < (atv 16002 (σ 14) x).toInt := fun h => c (Int32.lt_iff_toInt_lt.mpr h)
      have : vlx σ x = (atv 16002 (σ 14) x).toInt := rfl
      omega
  generalize (if (200 : Int32) < (atv 16002 (σ 14) x) then (200 : Int32) else (atv 16002 (σ 14) x)) = V at *
  refine ⟨fun n _ y s => n = (V.toInt - y.toInt).toNat ∧ Kp [] [17] σ s, ⟨_, rfl, kp_rf⟩, ?_⟩
  rintro n x3 y s ⟨hn, hs⟩
  refine ⟨fun _ => k _ s hs hv, fun c => sk_codeAt (fun v => sk_widthAt (fun v2 => ⟨(V.toInt - (y + 1).toInt).toNat, by rw [up_lt c]; omega, rfl, kp_F hs rfl⟩))⟩
theorem sk_addInitial {a1 a2 a3 : Int32} {Q : St → Prop} (k : ∀ s, Kp [(5, 9)] [31, 32, 33] σ s → Q s) : wk_X8_addInitial a1 a2 a3 σ Q :=
  k _ (kp_f (kp_F (kp_F (kp_F kp_rf rfl) rfl) rfl) rfl)
abbrev KST (a b : St) : Prop := Kp [(6, 3), (6, 4), (6, 5), (5, 9)] [17, 31, 32, 33] a b
theorem xs_string {Q : St → Prop} (h : XC σ g X0 b e0 H0 L A) (cap : (σ 4 1).toInt ≤ 262150) (hA : A.length < 500) (k : ∀ s, XRs σ s g X0 b e0 H0 L A (iV :: A) 3 → Q s) : wk_X2_string x σ Q := by
  have hop := isOp_at hA
  unfold wk_X2_string
  refine sk_readCodes (fun v5 s5 k5 _ => ?_)
  have f0 : ∀ s, Kp [] [17] σ s → ((s 6 3).toInt = 0 → (σ 6 3).toInt = 0) := fun s hs c => by
    have e : (s 6 3) = (σ 6 3) := hs 6 3 rfl rfl
    rw [e] at c
    exact c
  have main : ∀ s37, KST σ s37 → ((s37 6 3).toInt = 0 → (σ 6 3).toInt = 0) → (∃ L55 : Nat → Int32 → St → Prop, (∃ n, L55 n (0 : Int32) (upC s37 6 5 ((s37 6 5) + (v5 + (1 : Int32))))) ∧ ∀ (n55 : Nat) (x4_55 : Int32) (s55 : St), L55 n55 x4_55 s55 → ((v5.toInt ≤ x4_55.toInt → wk_X2_push s55 (fun u93 s93 => wk_X6_become u93 (1 : Int32) (2 : Int32) s93 (fun s102 => (∀ s5n : St, s5n = upC s102 u93 7 ((-1) : Int32) → (∀ s7n : St, s7n = upC s5n u93 8 (s5 6 5) → wk_X0_emit (3 : Int32) ((s7n 5 13) + (1 : Int32)) (s5 6 5) (0 : Int32) s7n (fun v133 s133 => Q s133)))))) ∧ (x4_55.toInt < v5.toInt → wk_X8_addInitial ((s5 6 5) + x4_55) ((-2) : Int32) (atv 200 (s55 17) x4_55) s55 (fun s83 => ∃ m, m < n55 ∧ L55 m (x4_55 + 1) s83)))) := by
    intro s37 k37 hf37
    refine ⟨fun n y s => n = (v5.toInt - y.toInt).toNat ∧ KST σ s ∧ ((s 6 3).toInt = 0 → (σ 6 3).toInt = 0), ⟨_, rfl, kp_f k37 rfl, hf37⟩, ?_⟩
    rintro n y s ⟨hn, hs, hf⟩
    refine ⟨fun _ => ?_, fun c => sk_addInitial (fun s2 hs2 => ⟨(v5.toInt - (y + 1).toInt).toNat, by rw [up_lt c]; omega, rfl, kp_tr hs (kp_sub hs2 rfl rfl), fun c2 => hf (by have e : (s2 6 3) = (s 6 3) := hs2 6 3 rfl rfl; rw [e] at c2; exact c2)⟩)⟩
    refine sp_opush (n := A.length) (by rw [hs 7 7 rfl rfl]; exact h.1) hA (fun s1 p => sp_become (fun s102 r b0 b1 b6 bq => ?_))
    rintro _ rfl _ rfl
    obtain ⟨w1, c1, fl1, ct1, fu1⟩ := psh_rows p
    generalize hz : upC (upC s102 (65 + A.length) 7 ((-1) : Int32)) (65 + A.length) 8 (s5 6 5) = z
    have hro : RO (65 + A.length) s1 z := by rw [← hz]; exact ro_tr r (ro_up (ro_up ro_rf))
    have zq : ∀ j, j ≠ 7 → j ≠ 8 → z (65 + A.length) j = s102 (65 + A.length) j := fun j h7 h8 => by rw [← hz, rdA_ne h8, rdA_ne h7]
    have ks : KXE σ s := ko_sub (ko_kp hs) rfl rfl
    have kz : KXE σ z := ko_tr (ko_tr ks (psh_k p)) (ro_ko hro hop)
    have mz : MKs σ z := mks_tr (mks_tr (mks_eq (funext (fun j => hs 25 j rfl rfl)) (funext (fun j => hs 39 j rfl rfl))) (mks_eq fl1 ct1)) (ro_mks hro (by omega) (by omega))
    have cz : (z 4 1) = (σ 4 1) := ((hro 4 1 (by omega)).trans c1).trans (hs 4 1 rfl rfl)
    have z0 : 0 ≤ (z 4 1).toInt := by rw [cz]; exact h.2.2.1
    have z1 : (z 4 1).toInt < 262204 := by rw [cz]; omega
    refine sk_emit (n := 3) rfl (by decide) z0 z1 (fun v s133 _ em => k s133 ?_)
    have fz : (z 6 3) = (s 6 3) := (hro 6 3 (by omega)).trans fu1
    have fs : (s133 6 3) = (z 6 3) := em_cells em 6 3 (by decide) (by decide)
    exact xr_leaf h (fun c => hf (by rw [fs, fz] at c; exact c)) hA kz mz (low_tr (low_tr (low_kp hs rfl rfl) p.2.1) (ro_low hro (Nat.le_refl _))) ((funext (fun j => hro 24 j (by omega))).trans (w1.trans (funext (fun j => hs 24 j rfl rfl)))) cz (by rw [hro 7 7 (by omega)]; exact p.2.2.1) (by rw [zq 9 (by decide) (by decide), bq 9 (by decide) (by decide) (by decide) (by decide), p.2.2.2.2.2.2.1, hs 4 1 rfl rfl]) (by rw [zq 2 (by decide) (by decide), bq 2 (by decide) (by decide) (by decide) (by decide)]; exact p.2.2.2.2.1) (by unfold KDq; rw [zq 0 (by decide) (by decide)]; exact b0) (fun c => by rw [zq 6 (by decide) (by decide), b6] at c; exact absurd c (by decide)) em (m := 3) rfl (by decide) rfl rfl (by decide) fs
  refine ⟨fun s => KST σ s ∧ ((s 6 3).toInt = 0 → (σ 6 3).toInt = 0), fun s h => main s h.1 h.2, fun _ => ⟨kp_sub k5 rfl rfl, f0 s5 k5⟩, fun _ => sp_ufail (by decide) (fun s hs hf => ⟨kp_tr (kp_sub k5 rfl rfl) (kp_sub hs rfl rfl), fun c => absurd c hf⟩)⟩
theorem xs_named {Q : St → Prop} (u : UXs σ) (h : XC σ g X0 b e0 H0 L A) (cap : (σ 4 1).toInt ≤ 262150) (hA : A.length < 500) (k : ∀ s, XRs σ s g X0 b e0 H0 L A (iV :: A) 2 → Q s) : wk_X2_named x σ Q := by
  obtain ⟨u1, u2, u3, u4, u5⟩ := u
  have hop := isOp_at hA
  have refuse : wk_X2_refuse x σ (fun s43 => Q s43) := sp_refuse (fun s hs hf => k s (xr_bad h hs hf))
  have h' := h
  obtain ⟨h1, h2, h3, H, X, h4⟩ := h'
  have hT := rlx_typ A _ H X h4
  have en := clen_eq h3
  unfold wk_X2_named
  refine sp_localFrom u1 u4 (by decide) (fun v6 => ?_)
  -- the operand as it stands before it may become a pointer
  have place : ∀ s, KXE σ s → MKs σ s → LOW A.length σ s → (s 24) = (σ 24) → (s 4 1) = (σ 4 1) → (s 6 3) = (σ 6 3) → (s 7 7).toInt = A.length + 1 → (KDq s (65 + A.length) = 1 ∨ KDq s (65 + A.length) = 2) → (s (65 + A.length) 2).toInt = 1 → (s (65 + A.length) 6) = 0 → (s (65 + A.length) 9) = (σ 4 1) → Q s ∧ wk_X2_address (65 + A.length) s (fun s162 => Q s162) := by
    intro s ks ms ls ws cs fs cnt kd ht f6 st
    have ecl : clen s = clen σ := by unfold clen; rw [cs]
    have cm := cpu_mono ks ms
    have xs := (funext (fun j => ks 27 j (op_lt (by decide)) rfl rfl) : (s 27) = (σ 27))
    have hR : RLx s g (CPu s) X0 b e0 H0 L A (clen σ) H X := rlx_mono cm xs A _ H X (fun j _ => by rw [ws]) agr_rf ls (Or.inl h2) h4
    have T0 := (rlx_typ A _ H X hR).1
    refine ⟨k s ⟨ks, ms, fun j _ => by rw [ws], by rw [cs]; have := hT.2; omega, fun c => by rw [fs] at c; exact c, by rw [cs]; omega, fun _ => ⟨g, agr_rf, ⟨by rw [cnt]; rfl, nc_of (by decide), by rw [cs]; exact h3, H, X, ?_⟩, ?_⟩⟩, ?_⟩
    · rw [ecl]
      refine rlx_V h2 hR (Nat.le_refl _) (by rw [st]; exact en.symm) T0 ⟨by omega, fun _ => rfl, fun c => by omega, ⟨by unfold HOK; omega, ?_⟩, fun c => by rw [f6] at c; exact absurd c (by decide)⟩
      exact bnd_one (L := L) T0.2.1 (by omega)
    · have p1 : plc s (iV :: A) = pk s (65 + A.length) + plc s A := plc_V
      have p2 : plc s A = plc σ A := plc_low A ls
      have p3 := pkq_le (σ := s) (q := 65 + A.length)
      omega
    · refine sk_address hop (by rw [cs]; exact h3) (by rw [cs]; omega) (fun s75 z y1 y0 rz z0 z6 zq => ?_)
      obtain ⟨σ', nn, op, a1, a2, a3, p1, p2, p3, p4⟩ := y1 kd
      clear y1
      have l2 : ln nn = 2 := by rcases p3 with e | e <;> subst e <;> rfl
      have d0 : de nn = 1 := by rcases p3 with e | e <;> subst e <;> rfl
      have po0 : po nn = 0 := by rcases p3 with e | e <;> subst e <;> rfl
      have at0 : AT s s g X b L A.length (clen σ) (H + 7) H 0 := at_rf (by rw [ecl]; exact T0) (by rw [ecl]; exact bnd_one (L := L) T0.2.1 (by omega)) (by rw [cs]; exact h3)
      have at1 := at_emit (H3 := H + 1) (at_row at0 p1) p4 p2 (by omega) (by omega) (fun _ => by rw [d0, po0]; omega)
      obtain ⟨t1, t2, t3, t4, t5, t6, t7, t8⟩ := at1
      have kr : KXE s75 z := ro_ko rz hop
      have mr : MKs s75 z := ro_mks rz (by omega) (by omega)
      have zl : (z 4 1) = (s75 4 1) := rz 4 1 (by omega)
      have zw : (z 24) = (s75 24) := funext (fun j => rz 24 j (by omega))
      have e75 := em_clen p4 p2 (by rw [p1 4 1 rfl rfl, cs]; exact h3)
      have ecz : clen z = clen σ + 2 := by
        have a1' : clen z = clen s75 := by unfold clen; rw [zl]
        have a2' : clen σ' = clen s := by unfold clen; rw [p1 4 1 rfl rfl]
        omega
      have el := em_len p4 p2
      have el2 : (σ' 4 1) = (s 4 1) := p1 4 1 rfl rfl
      rw [el2, cs] at el
      have kz := ko_tr t1 kr
      have mz := mks_tr t2 mr
      have lz : LOW A.length s z := low_tr (low_le t5 (by omega)) (ro_low rz (Nat.le_refl _))
      have zv : ∀ j, j ≠ 0 → j ≠ 1 → j ≠ 3 → j ≠ 6 → j ≠ 7 → j ≠ 8 → z (65 + A.length) j = s (65 + A.length) j := fun j j0 j1 j3 j6 j7 j8 => (zq j j0 j1 j3 j6 j7 j8).trans (t5 A.length j (by omega))
      have fz : (z 6 3) = (s75 6 3) := rz 6 3 (by omega)
      refine k z ⟨ko_tr ks kz, mks_tr ms mz, fun j hj => by rw [zw, t3 j (by have := hT.2; omega), ws], by rw [zl]; have := hT.2; omega, fun c => by rw [fz] at c; have := t7 c; rw [fs] at this; exact this, by rw [zl]; omega, fun c => ?_⟩
      obtain ⟨g2, a1', a2', a3'⟩ := t8 (by rw [← fz]; exact c)
      rw [ecl] at a1'
      refine ⟨g2, agr_le a1' hT.2, ⟨by rw [rz 7 7 (by omega), t6, cnt]; rfl, nc_of (by decide), by rw [zl]; omega, H + 1, X, ?_⟩, ?_⟩
      · have cz := cpu_mono kz mz
        have e3 : clen s75 = clen z := by unfold clen; rw [zl]
        refine rlx_V h2 (rlx_mono cz (funext (fun j => kz 27 j (op_lt (by decide)) rfl rfl)) A _ H X (fun j hj => by rw [zw]; exact t3 j (by omega)) a1' lz (Or.inl h2) hR) (by omega) (by rw [zv 9 (by decide) (by decide) (by decide) (by decide) (by decide) (by decide), st]; exact en.symm) (by rw [zw, ← e3]; exact typ_mono (fun _ _ => rfl) agr_rf (cpu_mono kr mr) (fun _ h => h) a2') ⟨by omega, fun q => by omega, fun _ => rfl, ⟨by unfold HOK; rw [zv 2 (by decide) (by decide) (by decide) (by decide) (by decide) (by decide)]; omega, ?_⟩, fun q => absurd q z6⟩
        have eh : HT z (65 + A.length) = 1 := by unfold HT; rw [zv 2 (by decide) (by decide) (by decide) (by decide) (by decide) (by decide), ht]; rfl
        rw [eh, ← e3]
        exact a3'
      · have p1' : plc z (iV :: A) = plc z A := plc_0 (Or.inl z0)
        have p2' : plc z A = plc s A := plc_low A lz
        have p3' : plc s A = plc σ A := plc_low A ls
        omega
  have go : ∀ y0 : Int32, (wk_X2_push σ (fun u54 s54 => (∀ s4n : St, s4n = upC s54 u54 4 (if v6 < y0 then y0 else v6) → (∃ J80 : Int32 → Prop, (∀ (y1_80 : Int32), J80 y1_80 → ((∀ s7n : St, s7n = upC s4n u54 0 y1_80 → (∃ J114 : Int32 → Prop, (∀ (y1_114 : Int32), J114 y1_114 → ((∀ s10n : St, s10n = upC s7n u54 1 y1_114 → wk_X8_mark y0 (8 : Int32) s10n (fun s124 => (v6.toInt < 0 → ((atv 10100 (s124 27) (s124 u54 4)).toInt < 0 → Q s124) ∧ (0 ≤ (atv 10100 (s124 27) (s124 u54 4)).toInt → wk_X2_address u54 s124 (fun s162 => Q s162))) ∧ (0 ≤ v6.toInt → ((atv 100 (s124 42) (s124 u54 4)).toInt < 0 → Q s124) ∧ (0 ≤ (atv 100 (s124 42) (s124 u54 4)).toInt → wk_X2_address u54 s124 (fun s162 => Q s162))))))) ∧ (v6.toInt < 0 → J114 (atv 10100 (s7n 26) y0)) ∧ (0 ≤ v6.toInt → J114 (atv 100 (s7n 41) v6)))))) ∧ (v6.toInt < 0 → J80 (2 : Int32)) ∧ (0 ≤ v6.toInt → J80 (1 : Int32)))))) := by
    intro y0
    refine sp_opush h1 hA (fun s1 p => ?_)
    rintro _ rfl
    refine ⟨fun y => y = 1 ∨ y = 2, ?_, fun _ => Or.inr rfl, fun _ => Or.inl rfl⟩
    rintro y hy _ rfl
    refine ⟨fun _ => True, ?_, fun _ => trivial, fun _ => trivial⟩
    rintro y2 - _ rfl
    obtain ⟨w1, c1, fl1, ct1, fu1⟩ := psh_rows p
    generalize hz : upC (upC (upC s1 (65 + A.length) 4 (if v6 < y0 then y0 else v6)) (65 + A.length) 0 y) (65 + A.length) 1 y2 = z
    have hro : RO (65 + A.length) s1 z := by rw [← hz]; exact ro_up (ro_up (ro_up ro_rf))
    have zq : ∀ j, j ≠ 4 → j ≠ 0 → j ≠ 1 → z (65 + A.length) j = s1 (65 + A.length) j := fun j h4 h0 h1 => by rw [← hz, rdA_ne h1, rdA_ne h0, rdA_ne h4]
    have z00 : z (65 + A.length) 0 = y := by rw [← hz, rdA_ne (by decide), rdA_eq rfl]
    refine sp_mark8 (fun s hs ms _ => ?_)
    have sc : ∀ c j, c ≠ 25 → s c j = z c j := fun c j hc => hs c j rfl (by
      simp only [List.contains_cons, List.contains_nil, Bool.or_false]
      cases q : (c == (25 : Nat)) with
      | false => rfl
      | true => exact absurd (eq_of_beq q) hc)
    have kz : KXE σ z := ko_tr (psh_k p) (ro_ko hro hop)
    have mz : MKs σ z := mks_tr (mks_eq fl1 ct1) (ro_mks hro (by omega) (by omega))
    have kd : KDq s (65 + A.length) = 1 ∨ KDq s (65 + A.length) = 2 := by
      unfold KDq
      rw [sc _ 0 (by omega), z00]
      rcases hy with e | e <;> subst e
      · exact Or.inl rfl
      · exact Or.inr rfl
    have P := place s (ko_tr kz (ko_sub (ko_kp hs) rfl rfl)) (mks_tr mz ms) (low_tr (low_tr p.2.1 (ro_low hro (Nat.le_refl _))) (low_kp hs rfl rfl)) ((funext (fun j => (sc 24 j (by decide)).trans (hro 24 j (by omega)))).trans w1) ((sc 4 1 (by decide)).trans ((hro 4 1 (by omega)).trans c1)) ((sc 6 3 (by decide)).trans ((hro 6 3 (by omega)).trans fu1)) (by rw [sc 7 7 (by decide), hro 7 7 (by omega)]; exact p.2.2.1) kd (by rw [sc _ 2 (by omega), zq 2 (by decide) (by decide) (by decide)]; exact p.2.2.2.2.1) (by rw [sc _ 6 (by omega), zq 6 (by decide) (by decide) (by decide)]; exact p.2.2.2.2.2.1) (by rw [sc _ 9 (by omega), zq 9 (by decide) (by decide) (by decide)]; exact p.2.2.2.2.2.2.1)
    exact ⟨fun _ => ⟨fun _ => P.1, fun _ => P.2⟩, fun _ => ⟨fun _ => P.1, fun _ => P.2⟩⟩
  refine ⟨fun _ => True, fun y0 _ => ⟨True, fun _ => go y0, fun _ => trivial, fun _ => ⟨True, fun _ => refuse, fun _ => trivial, fun _ => sk_is (fun _ => ⟨fun _ => trivial, fun _ => trivial⟩) (fun _ => ⟨fun _ => trivial, fun _ => trivial⟩)⟩⟩, fun _ => trivial, fun _ => sp_outerOf u1 u2 u3 trivial (fun _ _ _ => trivial)⟩
end XN2
end

section
/-! a step of an expression is looked at -/
section XTK
variable {σ s s7 z t : St} {g g' g1 : Gh} {CP CP' : Int → Nat → Prop} {X0 X Xs : Nat → Prop} {b e0 H0 L e H H' n q s00 Hs00 H2 H3 m Bb : Nat} {A B S : List It} {it : It} {x y : Int32}
theorem xr_le {c c' : Nat} (h : XRs σ s g X0 b e0 H0 L A B c) (hc : c ≤ c') : XRs σ s g X0 b e0 H0 L A B c' := by
  obtain ⟨h1, h2, h3, h4, h5, h6, h7⟩ := h
  refine ⟨h1, h2, h3, h4, h5, h6, fun hf => ?_⟩
  obtain ⟨g', a1, a2, a3⟩ := h7 hf
  exact ⟨g', a1, a2, by omega⟩
theorem dx_len {a tk : Int} (h : dx a tk A B) (hA : A.length ≤ 500) : B.length ≤ 500 := by
  unfold dx at h
  rcases h with h | h | h | h | h | h | h | h | h | h | h | h
  · rw [h.2.2]
    show A.length + 1 ≤ 500
    omega
  · rw [h.2.2.2]
    show A.length + 1 ≤ 500
    omega
  · obtain ⟨-, S, rfl, rfl⟩ := h
    have : S.length + 1 + 1 ≤ 500 := hA
    show S.length + 1 ≤ 500
    omega
  · obtain ⟨-, S, rfl, rfl⟩ := h
    exact hA
  · obtain ⟨-, -, S, rfl, rfl⟩ := h
    exact hA
  · obtain ⟨-, -, S, rfl, rfl⟩ := h
    have : S.length + 1 + 1 ≤ 500 := hA
    show S.length + 1 ≤ 500
    omega
  · obtain ⟨-, -, S, rfl, rfl⟩ := h
    have : S.length + 1 + 1 ≤ 500 := hA
    show S.length + 1 ≤ 500
    omega
  · obtain ⟨-, S, rfl, rfl⟩ := h
    have : S.length + 1 + 1 ≤ 500 := hA
    show S.length + 1 ≤ 500
    omega
  · obtain ⟨-, S, rfl, rfl⟩ := h
    exact hA
  · obtain ⟨-, S, rfl, rfl⟩ := h
    exact hA
  · obtain ⟨-, S, rfl, rfl⟩ := h
    exact hA
  · obtain ⟨-, S, rfl, rfl⟩ := h
    have : S.length + 1 + 1 + 1 ≤ 500 := hA
    show S.length + 1 ≤ 500
    omega
theorem cst_x {i : Nat} {a : Nat} (h : act σ i = a) (ha : a ≤ 16) : cst σ i = ([0, 2, 3, 2, 0, 0, 3, 2, 2, 2, 3, 2, 0, 2, 2, 2, 0] : List Nat).getD a 0 := by
  unfold cst
  rw [h, if_neg (by omega)]
  have : ∀ m, m ≤ 16 → ([0, 2, 3, 2, 0, 0, 3, 2, 2, 2, 3, 2, 0, 2, 2, 2, 0, 0, 0, 0, 0, 0, 1, 2, 2, 0, 0, 4, 2, 2, 0, 2, 0, 4, 4, 2, 2, 2, 3, 0, 0, 0, 0, 5, 3, 0, 3, 4, 0, 3] : List Nat).getD m 0 = ([0, 2, 3, 2, 0, 0, 3, 2, 2, 2, 3, 2, 0, 2, 2, 2, 0] : List Nat).getD m 0 := by decide
  exact this a ha
theorem xs_take {i : Nat} {Q : St → Prop} (u : UXs σ) (h : XC σ g X0 b e0 H0 L A) (cap : (σ 4 1).toInt ≤ 262150) (hA : A.length ≤ 500) (hx : x.toInt = i) (hi : i < 32100) (hd : dx (act σ i) (tkx σ ((σ 19) i)) A B) (k : ∀ s, XRs σ s g X0 b e0 H0 L A B (cst σ i) → Q s) : wk_X2_take x σ Q := by
  have ea : atv 32100 (σ 18) x = (σ 18) i := atv_at hx hi
  have et : atv 32100 (σ 19) x = (σ 19) i := atv_at hx hi
  have eact : ((σ 18) i).toInt = act σ i := rfl
  unfold wk_X2_take
  rw [ea, et, eact]
  have go : ∀ (a c : Nat), act σ i = a → a ≤ 16 → ([0, 2, 3, 2, 0, 0, 3, 2, 2, 2, 3, 2, 0, 2, 2, 2, 0] : List Nat).getD a 0 = c → ∀ s, XRs σ s g X0 b e0 H0 L A B c → Q s := fun a c h1 h2 h3 s hs => k s (by rw [cst_x h1 h2, h3]; exact hs)
  have no : ∀ {a a' : Int} {P : Prop}, act σ i = a → a ≠ a' → (act σ i = a' → P) := fun h1 h2 h3 => absurd (h1.symm.trans h3) h2
  unfold dx at hd
  rcases hd with ⟨h1, h2, rfl⟩ | ⟨h1, h2, h3, rfl⟩ | ⟨h1, S, rfl, rfl⟩ | ⟨h1, S, rfl, rfl⟩ | ⟨h1, h2, S, rfl, rfl⟩ | ⟨h1, h2, S, rfl, rfl⟩ | ⟨h1, h2, S, rfl, rfl⟩ | ⟨h1, S, rfl, rfl⟩ | ⟨h1, S, rfl, rfl⟩ | ⟨h1, S, rfl, rfl⟩ | ⟨h1, S, rfl, rfl⟩ | ⟨h1, S, rfl, rfl⟩
  · refine ⟨fun c => xs_number h cap h2 (go 1 2 c (by decide) rfl), fun n1 => ⟨fun c => xs_string h cap h2 (go 2 3 c (by decide) rfl), fun n2 => ⟨fun c => xs_named u h cap h2 (go 3 2 c (by decide) rfl), fun n3 => by omega⟩⟩⟩
  · refine ⟨no h1 (by decide), fun _ => ⟨no h1 (by decide), fun _ => ⟨no h1 (by decide), fun _ => ⟨fun c => xs_callee u h h2 h3 (go 4 0 c (by decide) rfl), fun n => absurd h1 n⟩⟩⟩⟩
  · have hl : S.length + 1 + 1 ≤ 500 := hA
    refine ⟨no h1 (by decide), fun _ => ⟨no h1 (by decide), fun _ => ⟨no h1 (by decide), fun _ => ⟨no h1 (by decide), fun _ => ⟨fun c => xs_argument h cap (by omega) (go 5 0 c (by decide) rfl), fun n => absurd h1 n⟩⟩⟩⟩⟩
  · have hl : S.length + 1 ≤ 500 := hA
    refine ⟨no h1 (by decide), fun _ => ⟨no h1 (by decide), fun _ => ⟨no h1 (by decide), fun _ => ⟨no h1 (by decide), fun _ => ⟨no h1 (by decide), fun _ => ⟨fun c => xs_call h cap (by omega) (go 6 3 c (by decide) rfl), fun n => absurd h1 n⟩⟩⟩⟩⟩⟩
  · have hl : S.length + 1 ≤ 500 := hA
    refine ⟨no h1 (by decide), fun _ => ⟨no h1 (by decide), fun _ => ⟨no h1 (by decide), fun _ => ⟨no h1 (by decide), fun _ => ⟨no h1 (by decide), fun _ => ⟨no h1 (by decide), fun _ => ⟨fun c => xs_left h cap (by omega) h2 (go 7 2 c (by decide) rfl), fun n => absurd h1 n⟩⟩⟩⟩⟩⟩⟩
  · have hl : S.length + 1 + 1 ≤ 500 := hA
    refine ⟨no h1 (by decide), fun _ => ⟨no h1 (by decide), fun _ => ⟨no h1 (by decide), fun _ => ⟨no h1 (by decide), fun _ => ⟨no h1 (by decide), fun _ => ⟨no h1 (by decide), fun _ => ⟨no h1 (by decide), fun _ => ⟨fun c => xs_binary h cap (by omega) h2 (go 8 2 c (by decide) rfl), fun n => absurd h1 n⟩⟩⟩⟩⟩⟩⟩⟩
  · have hl : S.length + 1 + 1 ≤ 500 := hA
    refine ⟨no h1 (by decide), fun _ => ⟨no h1 (by decide), fun _ => ⟨no h1 (by decide), fun _ => ⟨no h1 (by decide), fun _ => ⟨no h1 (by decide), fun _ => ⟨no h1 (by decide), fun _ => ⟨no h1 (by decide), fun _ => ⟨no h1 (by decide), fun _ => ⟨fun c => xs_assign h cap (by omega) h2 (go 9 2 c (by decide) rfl), fun n => absurd h1 n⟩⟩⟩⟩⟩⟩⟩⟩⟩
  · have hl : S.length + 1 + 1 ≤ 500 := hA
    refine ⟨no h1 (by decide), fun _ => ⟨no h1 (by decide), fun _ => ⟨no h1 (by decide), fun _ => ⟨no h1 (by decide), fun _ => ⟨no h1 (by decide), fun _ => ⟨no h1 (by decide), fun _ => ⟨no h1 (by decide), fun _ => ⟨no h1 (by decide), fun _ => ⟨no h1 (by decide), fun _ => ⟨fun c => xs_index h cap (by omega) (go 10 3 c (by decide) rfl), fun n => absurd h1 n⟩⟩⟩⟩⟩⟩⟩⟩⟩⟩
  · have hl : S.length + 1 ≤ 500 := hA
    have cnt := h.1
    refine ⟨fun c => by omega, fun _ => ⟨fun c => by omega, fun _ => ⟨fun c => by omega, fun _ => ⟨fun c => by omega, fun _ => ⟨fun c => by omega, fun _ => ⟨fun c => by omega, fun _ => ⟨fun c => by omega, fun _ => ⟨fun c => by omega, fun _ => ⟨fun c => by omega, fun _ => ⟨fun c => by omega, fun _ => ⟨fun c => xs_unary h cap (by omega) (go 11 2 c (by decide) rfl), fun n1 => ⟨fun c => xs_cast h cap (by omega) (go 12 0 c (by decide) rfl), fun n2 => ⟨fun c => sp_otop (n := S.length) (by rw [cnt]; rfl) (by omega) (xs_step h cap (by omega) (go 13 2 c (by decide) rfl)), fun n3 => by omega⟩⟩⟩⟩⟩⟩⟩⟩⟩⟩⟩⟩⟩
  · have hl : S.length + 1 ≤ 500 := hA
    refine ⟨no h1 (by decide), fun _ => ⟨no h1 (by decide), fun _ => ⟨no h1 (by decide), fun _ => ⟨no h1 (by decide), fun _ => ⟨no h1 (by decide), fun _ => ⟨no h1 (by decide), fun _ => ⟨no h1 (by decide), fun _ => ⟨no h1 (by decide), fun _ => ⟨no h1 (by decide), fun _ => ⟨no h1 (by decide), fun _ => ⟨no h1 (by decide), fun _ => ⟨no h1 (by decide), fun _ => ⟨no h1 (by decide), fun _ => ⟨fun c => xs_quest h cap (by omega) (go 14 2 c (by decide) rfl), fun n => absurd h1 n⟩⟩⟩⟩⟩⟩⟩⟩⟩⟩⟩⟩⟩⟩
  · have hl : S.length + 1 + 1 ≤ 500 := hA
    refine ⟨no h1 (by decide), fun _ => ⟨no h1 (by decide), fun _ => ⟨no h1 (by decide), fun _ => ⟨no h1 (by decide), fun _ => ⟨no h1 (by decide), fun _ => ⟨no h1 (by decide), fun _ => ⟨no h1 (by decide), fun _ => ⟨no h1 (by decide), fun _ => ⟨no h1 (by decide), fun _ => ⟨no h1 (by decide), fun _ => ⟨no h1 (by decide), fun _ => ⟨no h1 (by decide), fun _ => ⟨no h1 (by decide), fun _ => ⟨no h1 (by decide), fun _ => ⟨fun c => xs_colon h cap (by omega) (go 15 2 c (by decide) rfl), fun n => absurd h1 n⟩⟩⟩⟩⟩⟩⟩⟩⟩⟩⟩⟩⟩⟩⟩
  · have hl : S.length + 1 + 1 + 1 ≤ 500 := hA
    refine ⟨no h1 (by decide), fun _ => ⟨no h1 (by decide), fun _ => ⟨no h1 (by decide), fun _ => ⟨no h1 (by decide), fun _ => ⟨no h1 (by decide), fun _ => ⟨no h1 (by decide), fun _ => ⟨no h1 (by decide), fun _ => ⟨no h1 (by decide), fun _ => ⟨no h1 (by decide), fun _ => ⟨no h1 (by decide), fun _ => ⟨no h1 (by decide), fun _ => ⟨no h1 (by decide), fun _ => ⟨no h1 (by decide), fun _ => ⟨no h1 (by decide), fun _ => ⟨no h1 (by decide), fun _ => xs_choice h cap (by omega) (go 16 0 h1 (by decide) rfl)⟩⟩⟩⟩⟩⟩⟩⟩⟩⟩⟩⟩⟩⟩⟩
end XTK
end

section
/-! chains of jumps, each of which holds the one before it -/
def CHW (w : Nat → Int32) : Int32 → List Nat → Prop
  | c, [] => c.toInt < 0
  | c, p :: l => c.toInt = p ∧ CHW w (w (p + 1)) l ∧ ∀ q ∈ l, q + 2 ≤ p
def pat (w : Nat → Int32) (l : List Nat) (v : Int32) (i : Nat) : Int32 := if ∃ p, p ∈ l ∧ i = p + 1 then v else w i
section CHN
variable {σ s t : St} {g g' : Gh} {CP : Int → Nat → Prop} {X : Nat → Prop} {w w' : Nat → Int32} {b e H L : Nat} {x y v : Int32} {l : List Nat}
theorem pat_nil : pat w [] v = w := funext (fun i => if_neg (fun ⟨p, h, _⟩ => by cases h))
theorem pat_in {p : Nat} (h : p ∈ l) : pat w l v (p + 1) = v := if_pos ⟨p, h, rfl⟩
theorem pat_out {i : Nat} (h : ∀ p, p ∈ l → i ≠ p + 1) : pat w l v i = w i := if_neg (fun ⟨p, h1, h2⟩ => h p h1 h2)
theorem chw_len : ∀ (l : List Nat) (c : Int32) (e : Nat), CHW w c l → (∀ p ∈ l, p + 2 ≤ e) → l.length ≤ e
  | [], c, e => fun _ _ => Nat.zero_le _
  | p :: l, c, e => fun h he => by
    obtain ⟨h1, h2, h3⟩ := h
    have := chw_len l _ p h2 h3
    have := he p (List.mem_cons_self)
    show l.length + 1 ≤ e
    omega
theorem chw_mono : ∀ (l : List Nat) (c : Int32), (∀ p ∈ l, w' (p + 1) = w (p + 1)) → CHW w c l → CHW w' c l
  | [], c => fun _ h => h
  | p :: l, c => fun e h => by
    obtain ⟨h1, h2, h3⟩ := h
    refine ⟨h1, ?_, h3⟩
    rw [e p List.mem_cons_self]
    exact chw_mono l _ (fun q hq => e q (List.mem_cons_of_mem _ hq)) h2
/-- a chain is aimed -/
theorem sp_aimN {Q : St → Prop} (hc : CHW (σ 24) x l) (hl : ∀ p ∈ l, p + 2 ≤ clen σ) (h0 : 0 ≤ (σ 4 1).toInt) (h1 : (σ 4 1).toInt ≤ 262200) (k : Q (upF σ 24 (pat (σ 24) l y))) : wk_X0_aim x y σ Q := by
  have en := clen_eq h0
  have ll := chw_len l x (clen σ) hc hl
  unfold wk_X0_aim
  refine ⟨fun n x3 x4 s => ∃ l1 l2, (∀ p, p ∈ l ↔ p ∈ l1 ∨ p ∈ l2) ∧ n = l2.length ∧ CHW (σ 24) x3 l2 ∧ (∀ p ∈ l2, p + 2 ≤ clen σ) ∧ (∀ q ∈ l1, ∀ p ∈ l2, p + 2 ≤ q) ∧ (l2.length : Int) ≤ x4.toInt ∧ s = upF σ 24 (pat (σ 24) l1 y), ⟨l.length, [], l, fun p => ⟨Or.inr, fun h => h.elim (fun h => by cases h) id⟩, rfl, hc, hl, fun q hq => (by cases hq), by omega, ?_⟩, ?_⟩
  · rw [pat_nil]
    exact upF_id.symm
  · rintro n x3 x4 s ⟨l1, l2, hm, hn, h3, h4, h5, h6, rfl⟩
    have fin : l2 = [] → Q (upF σ 24 (pat (σ 24) l1 y)) := fun e => by
      have : pat (σ 24) l1 y = pat (σ 24) l y := funext (fun i => by
        have ee : (∃ p, p ∈ l1 ∧ i = p + 1) ↔ (∃ p, p ∈ l ∧ i = p + 1) := ⟨fun ⟨p, a, c⟩ => ⟨p, (hm p).mpr (Or.inl a), c⟩, fun ⟨p, a, c⟩ => ⟨p, ((hm p).mp a).elim id (fun z => by rw [e] at z; cases z), c⟩⟩
        unfold pat
        by_cases c : ∃ p, p ∈ l1 ∧ i = p + 1
        · rw [if_pos c, if_pos (ee.mp c)]
        · rw [if_neg c, if_neg (fun z => c (ee.mpr z))])
      rw [this]
      exact k
    match l2, hm, hn, h3, h4, h5, h6, fin with
    | [], hm, hn, h3, h4, h5, h6, fin => exact ⟨fun _ => fin rfl, fun _ => ⟨fun _ => fin rfl, fun c => absurd h3 (by show ¬ x3.toInt < 0; omega)⟩⟩
    | p :: l3, hm, hn, ⟨a1, a2, a3⟩, h4, h5, h6, fin =>
      have hp := h4 p List.mem_cons_self
      have el : ((p :: l3).length : Int) = l3.length + 1 := rfl
      have e1 : (x3 + (1 : Int32)).toInt = ((p + 1 : Nat) : Int) := by rw [ad0 i1 (by omega) (by omega)]; omega
      refine ⟨fun c => by omega, fun c => ⟨fun c2 => by omega, fun _ => ⟨l3.length, ?_, l1 ++ [p], l3, ?_, rfl, ?_, fun q hq => h4 q (List.mem_cons_of_mem _ hq), ?_, ?_, ?_⟩⟩⟩
      · rw [hn]
        show l3.length < l3.length + 1
        omega
      · intro q
        rw [hm q, List.mem_append, List.mem_singleton, List.mem_cons]
        constructor
        · rintro (h | h | h)
          · exact Or.inl (Or.inl h)
          · exact Or.inl (Or.inr h)
          · exact Or.inr h
        · rintro ((h | h) | h)
          · exact Or.inl h
          · exact Or.inr (Or.inl h)
          · exact Or.inr (Or.inr h)
      · have er : atv 262208 ((upF σ 24 (pat (σ 24) l1 y)) 24) (x3 + (1 : Int32)) = (σ 24) (p + 1) := by
          rw [rdF_eq, atv_at e1 (by omega)]
          exact pat_out (fun q hq => by have := h5 q hq p List.mem_cons_self; omega)
        rw [er]
        exact a2
      · intro q hq r hr
        rw [List.mem_append, List.mem_singleton] at hq
        rcases hq with hq | hq
        · exact h5 q hq r (List.mem_cons_of_mem _ hr)
        · subst hq
          exact a3 r hr
      · rw [dc1 (by omega)]
        omega
      · have es : setv 262208 ((upF σ 24 (pat (σ 24) l1 y)) 24) (x3 + (1 : Int32)) y = pat (σ 24) (l1 ++ [p]) y := by
          rw [rdF_eq, setv_at e1 (by omega)]
          funext i
          show (if i = p + 1 then y else pat (σ 24) l1 y i) = _
          by_cases c1 : i = p + 1
          · rw [if_pos c1, c1]
            exact (pat_in (by rw [List.mem_append, List.mem_singleton]; exact Or.inr rfl)).symm
          · rw [if_neg c1]
            have ee : (∃ q, q ∈ l1 ∧ i = q + 1) ↔ (∃ q, q ∈ l1 ++ [p] ∧ i = q + 1) := ⟨fun ⟨q, a, c⟩ => ⟨q, by rw [List.mem_append]; exact Or.inl a, c⟩, fun ⟨q, a, c⟩ => ⟨q, by
              rw [List.mem_append, List.mem_singleton] at a
              rcases a with a | a
              · exact a
              · rw [a] at c
                exact absurd c c1, c⟩⟩
            unfold pat
            by_cases c : ∃ q, q ∈ l1 ∧ i = q + 1
            · rw [if_pos c, if_pos (ee.mp c)]
            · rw [if_neg c, if_neg (fun z => c (ee.mpr z))]
        rw [es]
        unfold upF
        funext q
        by_cases c : q = 24
        · rw [if_pos c, if_pos c]
        · rw [if_neg c, if_neg c, if_neg c]
/-- a jump that waits for an aim at t, where nothing is on the stack -/
def PJ (w : Nat → Int32) (g : Gh) (e p t : Nat) : Prop := ∃ n k : Nat, (w p).toInt = n ∧ (n = 26 ∨ n = 27) ∧ g p = some (if n = 26 then 0 else 1, k) ∧ p + 2 ≤ e ∧ Jn g k p t 0
theorem typ_aimN {tt : Nat} (hv : v.toInt = tt) (hte : tt ≤ e) : ∀ (l : List Nat) (w : Nat → Int32) (X : Nat → Prop), (∀ p ∈ l, PJ w g e p tt) → TYp w g CP X b e H L → TYp (pat w l v) g CP (fun q => X q ∧ ¬ q ∈ l) b e H L
  | [], w, X => fun _ T => by
    rw [pat_nil]
    exact typ_mono (fun _ _ => rfl) agr_rf (fun _ _ h => h) (fun q hq => ⟨hq, fun h => by cases h⟩) T
  | p :: l, w, X => fun hp T => by
    have ih := typ_aimN hv hte l w X (fun q hq => hp q (List.mem_cons_of_mem _ hq)) T
    obtain ⟨n, k, a1, a2, a3, a4, a5⟩ := hp p List.mem_cons_self
    have Tb := T
    have n26 : 26 ≤ n ∧ n ≤ 30 := by omega
    -- no jump of the list stands in another
    have np : ∀ q, q ∈ l → p ≠ q + 1 := fun q hq e2 => by
      obtain ⟨n2, k2, b1, b2, b3, b4, b5⟩ := hp q (List.mem_cons_of_mem _ hq)
      obtain ⟨-, m, d1, d2, d3, d4⟩ := Tb.2.2.2 q _ _ b3 (by omega)
      have em : m = n2 := by omega
      subst em
      have l2 : ln m = 2 := by rcases b2 with c | c <;> subst c <;> rfl
      have := d4 p (by omega) (by omega)
      rw [rs_le (by omega), a3] at this
      cases this
    have wp : pat w l v p = w p := pat_out np
    have e2 : pat w (p :: l) v = fun i => if i = p + 1 then v else pat w l v i := funext (fun i => by
      by_cases c : i = p + 1
      · rw [if_pos c, c]
        exact pat_in List.mem_cons_self
      · rw [if_neg c]
        have ee : (∃ q, q ∈ l ∧ i = q + 1) ↔ (∃ q, q ∈ p :: l ∧ i = q + 1) := ⟨fun ⟨q, a, c⟩ => ⟨q, List.mem_cons_of_mem _ a, c⟩, fun ⟨q, a, c2⟩ => ⟨q, (List.mem_cons.mp a).elim (fun z => absurd (by rw [z] at c2; exact c2) c) id, c2⟩⟩
        unfold pat
        by_cases c3 : ∃ q, q ∈ l ∧ i = q + 1
        · rw [if_pos c3, if_pos (ee.mp c3)]
        · rw [if_neg c3, if_neg (fun z => c3 (ee.mpr z))])
    refine typ_aim (w := pat w l v) (X := fun q => X q ∧ ¬ q ∈ p :: l) (p := p) (t := tt) (n := n) (h0 := if n = 26 then 0 else 1) (k0 := k) (ht := 0) (v := v) (typ_mono (fun _ _ => rfl) agr_rf (fun _ _ h => h) (fun q hq => ?_) ih) a3 a4 (by rw [wp]; exact a1) n26 (fun i hi => by rw [e2]; exact if_neg hi) (by rw [e2]; exact if_pos rfl) hv hte a5 ⟨fun c => ?_, fun c => ?_⟩
    · by_cases c : q = p
      · exact Or.inr c
      · exact Or.inl ⟨hq.1, fun z => (List.mem_cons.mp z).elim c hq.2⟩
    · rcases a2 with e | e
      · rw [if_pos e]
      · omega
    · rcases a2 with e | e
      · omega
      · rw [if_neg (by omega)]
end CHN
end

section
/-! the constructs around: where they go on, the jumps that wait -/
def LV : List Nat → Nat
  | [] => 0
  | c :: K => if c = 3 ∨ c = 4 ∨ c = 5 ∨ c = 7 then LV K + 1 else if c = 8 then LV K + 2 else LV K
/-- a jump that waits, at a level of so much at the least -/
def WJ (w : Nat → Int32) (g : Gh) (e p lv : Nat) : Prop := ∃ n k : Nat, (w p).toInt = n ∧ (n = 26 ∨ n = 27) ∧ g p = some (if n = 26 then 0 else 1, k) ∧ p + 2 ≤ e ∧ lv ≤ k
/-- one construct: its chains of jumps out of it (E), of jumps to where it goes on (G), the jump to a body (D) -/
def CX1 (σ : St) (g : Gh) (e c j lv : Nat) (E G D : List Nat) : Prop :=
  CHW (σ 24) ((σ 51) j) E ∧ (c ≠ 5 → CHW (σ 24) ((σ 52) j) G) ∧ ((σ 49) j).toInt = (if c = 1 then 0 else 1) ∧
  (∀ p ∈ E, WJ (σ 24) g e p lv) ∧ (∀ p ∈ G, WJ (σ 24) g e p (if c = 8 then lv + 2 else lv + 1)) ∧
  ((c = 1 ∨ c = 2 ∨ c = 5 ∨ c = 6 ∨ c = 7) → G = []) ∧
  (2 ≤ c → ∃ t : Nat, ((σ 50) j).toInt = t ∧ t ≤ e ∧ g t = some (0, lv)) ∧
  ((c = 7 ∨ c = 8) → ∃ t : Nat, ((σ 54) j).toInt = t ∧ t ≤ e ∧ g t = some (0, lv + 1)) ∧
  (c = 7 → ∃ p : Nat, D = [p] ∧ ((σ 53) j).toInt = p ∧ ((σ 24) p).toInt = 26 ∧ ((σ 24) (p + 1)).toInt < 0 ∧ p + 2 ≤ e ∧ g p = some (0, lv)) ∧ (c ≠ 7 → D = [])
def CX (σ : St) (g : Gh) (e : Nat) : List Nat → (Nat → Prop) → Prop
  | [], X => ∀ q, ¬ X q
  | c :: K, X => if c = 0 ∨ 9 ≤ c then CX σ g e K X else
    ∃ (Y : Nat → Prop) (E G D : List Nat), CX σ g e K Y ∧ (∀ q, X q ↔ Y q ∨ q ∈ E ∨ q ∈ G ∨ q ∈ D) ∧
      ((∀ q ∈ E, ¬ Y q) ∧ (∀ q ∈ G, ¬ Y q ∧ ¬ q ∈ E) ∧ (∀ q ∈ D, ¬ Y q ∧ ¬ q ∈ E ∧ ¬ q ∈ G)) ∧ CX1 σ g e c (nzr K) (LV K) E G D
section CTX
variable {σ s t : St} {g g' : Gh} {CP : Int → Nat → Prop} {X Y : Nat → Prop} {w w' : Nat → Int32} {b e e' H L c j lv : Nat} {E G D K : List Nat}
theorem wj_mono {p : Nat} (hw : ∀ q, q < e → w' q = w q) (hg : AGR g g' e) (he : e ≤ e') (h : WJ w g e p lv) : WJ w' g' e' p lv := by
  obtain ⟨n, k, a1, a2, a3, a4, a5⟩ := h
  exact ⟨n, k, by rw [hw p (by omega)]; exact a1, a2, by rw [hg p (by omega)]; exact a3, by omega, a5⟩
theorem wj_lt {p : Nat} (h : WJ w g e p lv) : p + 2 ≤ e := by
  obtain ⟨n, k, a1, a2, a3, a4, a5⟩ := h
  exact a4
/-- the rows of statements stay -/
def KW (σ s : St) : Prop := (s 49) = (σ 49) ∧ (s 50) = (σ 50) ∧ (s 51) = (σ 51) ∧ (s 52) = (σ 52) ∧ (s 53) = (σ 53) ∧ (s 54) = (σ 54)
theorem cx1_mono (hk : (s 49) j = (σ 49) j ∧ (s 50) j = (σ 50) j ∧ (s 51) j = (σ 51) j ∧ (s 52) j = (σ 52) j ∧ (s 53) j = (σ 53) j ∧ (s 54) j = (σ 54) j) (hw : ∀ q, q < e → (s 24) q = (σ 24) q) (hg : AGR g g' e) (he : e ≤ e') (h : CX1 σ g e c j lv E G D) : CX1 s g' e' c j lv E G D := by
  obtain ⟨h1, h2, h3, h4, h5, h6, h7, h8, h9, h10⟩ := h
  obtain ⟨k1, k2, k3, k4, k5, k6⟩ := hk
  refine ⟨?_, ?_, by rw [k1]; exact h3, fun p hp => wj_mono hw hg he (h4 p hp), fun p hp => wj_mono hw hg he (h5 p hp), h6, fun c => ?_, fun c => ?_, fun c => ?_, h10⟩
  · rw [k3]
    exact chw_mono E _ (fun p hp => hw _ (by have := wj_lt (h4 p hp); omega)) h1
  · intro c5
    rw [k4]
    exact chw_mono G _ (fun p hp => hw _ (by have := wj_lt (h5 p hp); omega)) (h2 c5)
  · obtain ⟨t, a1, a2, a3⟩ := h7 c
    exact ⟨t, by rw [k2]; exact a1, by omega, by rw [hg t a2]; exact a3⟩
  · obtain ⟨t, a1, a2, a3⟩ := h8 c
    exact ⟨t, by rw [k6]; exact a1, by omega, by rw [hg t a2]; exact a3⟩
  · obtain ⟨p, a1, a2, a3, a4, a5, a6⟩ := h9 c
    exact ⟨p, a1, by rw [k5]; exact a2, by rw [hw p (by omega)]; exact a3, by rw [hw (p + 1) (by omega)]; exact a4, by omega, by rw [hg p (by omega)]; exact a6⟩
/-- the jumps that wait stand before the end -/
theorem cx_lt : ∀ (K : List Nat) (X : Nat → Prop), CX σ g e K X → ∀ q, X q → q + 2 ≤ e
  | [], X => fun h q hq => absurd hq (h q)
  | c :: K, X => fun h q hq => by
    unfold CX at h
    by_cases c0 : c = 0 ∨ 9 ≤ c
    · rw [if_pos c0] at h
      exact cx_lt K X h q hq
    · rw [if_neg c0] at h
      obtain ⟨Y, E, G, D, h1, h2, h3, h4⟩ := h
      rcases (h2 q).mp hq with a | a | a | a
      · exact cx_lt K Y h1 q a
      · exact wj_lt (h4.2.2.2.1 q a)
      · exact wj_lt (h4.2.2.2.2.1 q a)
      · by_cases c7 : c = 7
        · obtain ⟨p, a1, a2, a3, a4, a5, a6⟩ := h4.2.2.2.2.2.2.2.2.1 c7
          rw [a1, List.mem_singleton] at a
          omega
        · rw [h4.2.2.2.2.2.2.2.2.2 c7] at a
          cases a
theorem nz_c (h : ¬ (c = 0 ∨ 9 ≤ c)) : nzr (c :: K) = nzr K + 1 := by
  unfold nzr
  rw [List.filter_cons_of_pos (by exact decide_eq_true ⟨by omega, by omega⟩)]
  rfl
theorem nz_0 (h : c = 0 ∨ 9 ≤ c) : nzr (c :: K) = nzr K := by
  unfold nzr
  rw [List.filter_cons_of_neg (by
    intro h2
    have := of_decide_eq_true h2
    omega)]
/-- they stay where code, heights and the rows below stay -/
theorem cx_mono : ∀ (K : List Nat) (X : Nat → Prop), (∀ j, j < nzr K → (s 49) j = (σ 49) j ∧ (s 50) j = (σ 50) j ∧ (s 51) j = (σ 51) j ∧ (s 52) j = (σ 52) j ∧ (s 53) j = (σ 53) j ∧ (s 54) j = (σ 54) j) → (∀ q, q < e → (s 24) q = (σ 24) q) → AGR g g' e → e ≤ e' → CX σ g e K X → CX s g' e' K X
  | [], X => fun _ _ _ _ h => h
  | c :: K, X => fun hk hw hg he h => by
    unfold CX at h ⊢
    by_cases c0 : c = 0 ∨ 9 ≤ c
    · rw [if_pos c0] at h ⊢
      rw [nz_0 c0] at hk
      exact cx_mono K X hk hw hg he h
    · rw [if_neg c0] at h ⊢
      rw [nz_c c0] at hk
      obtain ⟨Y, E, G, D, h1, h2, h3, h4⟩ := h
      exact ⟨Y, E, G, D, cx_mono K Y (fun j hj => hk j (by omega)) hw hg he h1, h2, h3, cx1_mono (hk _ (by omega)) hw hg he h4⟩
/-- words patched behind jumps that do not wait in them -/
theorem cx_pat {l : List Nat} : ∀ (K : List Nat) (X : Nat → Prop), (∀ j, j < nzr K → (s 49) j = (σ 49) j ∧ (s 50) j = (σ 50) j ∧ (s 51) j = (σ 51) j ∧ (s 52) j = (σ 52) j ∧ (s 53) j = (σ 53) j ∧ (s 54) j = (σ 54) j) → (∀ i, (∀ p ∈ l, i ≠ p + 1) → (s 24) i = (σ 24) i) → (∀ p ∈ l, g p ≠ none ∧ g (p + 1) = none) → (∀ p ∈ l, ¬ X p) → CX σ g e K X → CX s g e K X
  | [], X => fun _ _ _ _ h => h
  | c :: K, X => fun hk hw hl hx h => by
    unfold CX at h ⊢
    by_cases c0 : c = 0 ∨ 9 ≤ c
    · rw [if_pos c0] at h ⊢
      rw [nz_0 c0] at hk
      exact cx_pat K X hk hw hl hx h
    · rw [if_neg c0] at h ⊢
      rw [nz_c c0] at hk
      obtain ⟨Y, E, G, D, h1, h2, h3, h4⟩ := h
      obtain ⟨a1, a2, a3, a4, a5, a6, a7, a8, a9, a10⟩ := h4
      obtain ⟨k1, k2, k3, k4, k5, k6⟩ := hk (nzr K) (by omega)
      have at0 : ∀ q, g q ≠ none → (s 24) q = (σ 24) q := fun q hq => hw q (fun p hp e2 => hq (by rw [e2]; exact (hl p hp).2))
      have at1 : ∀ q, X q → (s 24) (q + 1) = (σ 24) (q + 1) := fun q hq => hw _ (fun p hp e2 => by
        have : q = p := by omega
        rw [this] at hq
        exact hx p hp hq)
      have wj : ∀ q lv, WJ (σ 24) g e q lv → WJ (s 24) g e q lv := fun q lv z => by
        obtain ⟨n, k, b1, b2, b3, b4, b5⟩ := z
        exact ⟨n, k, by rw [at0 q (by rw [b3]; exact fun z => by cases z)]; exact b1, b2, b3, b4, b5⟩
      refine ⟨Y, E, G, D, cx_pat K Y (fun j hj => hk j (by omega)) hw hl (fun p hp z => hx p hp ((h2 p).mpr (Or.inl z))) h1, h2, h3, ?_, ?_, by rw [k1]; exact a3, fun p hp => wj p _ (a4 p hp), fun p hp => wj p _ (a5 p hp), a6, fun c => ?_, fun c => ?_, fun c => ?_, a10⟩
      · rw [k3]
        exact chw_mono E _ (fun p hp => at1 p ((h2 p).mpr (Or.inr (Or.inl hp)))) a1
      · intro c5
        rw [k4]
        exact chw_mono G _ (fun p hp => at1 p ((h2 p).mpr (Or.inr (Or.inr (Or.inl hp))))) (a2 c5)
      · rw [k2]
        exact a7 c
      · rw [k6]
        exact a8 c
      · obtain ⟨p, b1, b2, b3, b4, b5, b6⟩ := a9 c
        exact ⟨p, b1, by rw [k5]; exact b2, by rw [at0 p (by rw [b6]; exact fun z => by cases z)]; exact b3, by rw [at1 p ((h2 p).mpr (Or.inr (Or.inr (Or.inr (by rw [b1]; exact List.mem_singleton.mpr rfl)))))]; exact b4, b5, b6⟩
end CTX
end

section
/-! steps of statements: a value taken, an instruction put -/
/-- what a step of a statement keeps: rows and counts of expressions, code -/
abbrev KXS (a b : St) : Prop := Ko [(7, 7), (4, 1), (6, 3), (6, 4), (6, 5), (5, 9), (9, 5)] [17, 24, 25, 31, 32, 33, 39, 43, 49, 50, 51, 52, 53, 54] a b
/-- between statements, within a function: typed code up to the end, the jumps that wait -/
def SB (σ : St) (g : Gh) (b : Nat) (K : List Nat) (X : Nat → Prop) (H0 : Nat) : Prop := TYp (σ 24) g (CPu σ) X b (clen σ) H0 (LV K) ∧ CX σ g (clen σ) K X ∧ (σ 7 7).toInt = 0 ∧ 0 ≤ (σ 4 1).toInt ∧ (σ 9 5).toInt = nzr K ∧ BND g b (clen σ) (H0 + 420)
section STM
variable {σ s z t : St} {g g' g1 : Gh} {X X0 Y : Nat → Prop} {b e e0 H H0 L m n : Nat} {K : List Nat} {x y : Int32}
theorem xc_nil (h : SB σ g b K X H0) : XC σ g X b (clen σ) H0 (LV K) [] := ⟨h.2.2.1, (fun y B e => by cases e), h.2.2.2.1, H0, X, rfl, rfl, rfl, h.1⟩
/-- an expression stands behind the last statement -/
def SE (σ : St) (g : Gh) (b : Nat) (K : List Nat) (X : Nat → Prop) (H0 e0 : Nat) (A : List It) : Prop := XC σ g X b e0 H0 (LV K) A ∧ CX σ g e0 K X ∧ (σ 9 5).toInt = nzr K ∧ BND g b e0 (H0 + 420)
theorem se_nil (h : SB σ g b K X H0) : SE σ g b K X H0 (clen σ) [] := ⟨xc_nil h, h.2.1, h.2.2.2.2.1, h.2.2.2.2.2⟩
theorem sb_nil (h : SE σ g b K X H0 e0 []) : SB σ g b K X H0 := by
  obtain ⟨⟨h1, h2, h3, H, X', h4⟩, h5, h6, h7⟩ := h
  obtain ⟨rfl, rfl, rfl, T⟩ := h4
  exact ⟨T, h5, h1, h3, h6, h7⟩
theorem kw_e (k : KXE σ s) : (s 49) = (σ 49) ∧ (s 50) = (σ 50) ∧ (s 51) = (σ 51) ∧ (s 52) = (σ 52) ∧ (s 53) = (σ 53) ∧ (s 54) = (σ 54) ∧ (s 9 5) = (σ 9 5) :=
  ⟨ko_rd k 49 (Or.inr (by decide)) rfl (fun _ => rfl), ko_rd k 50 (Or.inr (by decide)) rfl (fun _ => rfl), ko_rd k 51 (Or.inr (by decide)) rfl (fun _ => rfl), ko_rd k 52 (Or.inr (by decide)) rfl (fun _ => rfl), ko_rd k 53 (Or.inr (by decide)) rfl (fun _ => rfl), ko_rd k 54 (Or.inr (by decide)) rfl (fun _ => rfl), k 9 5 (op_lt (by decide)) rfl rfl⟩
theorem cx_e (k : KXE σ s) (hw : ∀ q, q < e → (s 24) q = (σ 24) q) (hg : AGR g g' e) {e' : Nat} (he : e ≤ e') (h : CX σ g e K X) : CX s g' e' K X := by
  obtain ⟨a1, a2, a3, a4, a5, a6, -⟩ := kw_e k
  exact cx_mono K X (fun j _ => ⟨by rw [a1], by rw [a2], by rw [a3], by rw [a4], by rw [a5], by rw [a6]⟩) hw hg he h
/-- a step of the expression -/
theorem se_take {i : Nat} {A B : List It} {Q : St → Prop} (u : UXs σ) (h : SE σ g b K X H0 e0 A) (cap : (σ 4 1).toInt ≤ 262150) (hA : A.length ≤ 500) (hx : x.toInt = i) (hi : i < 32100) (hd : dx (act σ i) (tkx σ ((σ 19) i)) A B) (k : ∀ s, KXE σ s → MKs σ s → (∀ j, j < e0 → (s 24) j = (σ 24) j) → (e0 : Int) ≤ (s 4 1).toInt → (s 4 1).toInt ≤ (σ 4 1).toInt + 12 → ((s 6 3).toInt = 0 → ∃ g', AGR g g' e0 ∧ SE s g' b K X H0 e0 B ∧ clen s + 2 * plc s B ≤ clen σ + 2 * plc σ A + cst σ i) → Q s) : wk_X2_take x σ Q := by
  obtain ⟨h1, h2, h3, h4⟩ := h
  refine xs_take u h1 cap hA hx hi hd (fun s r => ?_)
  obtain ⟨r1, r2, r3, r4, r5, r6, r7⟩ := r
  refine k s r1 r2 r3 r4 r6 (fun hf => ?_)
  obtain ⟨g', a1, a2, a3⟩ := r7 hf
  exact ⟨g', a1, ⟨a2, cx_e r1 r3 a1 (Nat.le_refl _) h2, by rw [(kw_e r1).2.2.2.2.2.2]; exact h3, bnd_agr h4 a1⟩, a3⟩
/-- the value of an expression is taken: it is left on the stack -/
def VS (s : St) (g : Gh) (b : Nat) (K : List Nat) (X : Nat → Prop) (H0 e0 : Nat) : Prop := TYp (s 24) g (CPu s) X b (clen s) (H0 + 1) (LV K) ∧ CX s g e0 K X ∧ (s 7 7).toInt = 0 ∧ 0 ≤ (s 4 1).toInt ∧ (s 9 5).toInt = nzr K ∧ BND g b (clen s) (H0 + 420) ∧ e0 ≤ clen s ∧ TYp (s 24) g (CPu s) X b e0 H0 (LV K) ∧ (s 65 9).toInt = e0 ∧ ((s 65 6).toInt = 1 → e0 + 2 ≤ clen s)
theorem vs_pop {Q : Nat → St → Prop} (h : SE σ g b K X H0 e0 [iV]) (cap : (σ 4 1).toInt ≤ 262180) (k : ∀ s g', KXE σ s → MKs σ s → (∀ j, j < e0 → (s 24) j = (σ 24) j) → AGR g g' e0 → VS s g' b K X H0 e0 → clen s ≤ clen σ + 2 * plc σ [iV] → (s 6 3) = (σ 6 3) → (∀ j, j ≠ 0 → s 65 j = σ 65 j) → Q 65 s) : wk_X2_pop σ Q := by
  obtain ⟨h1, h2, h3, h4⟩ := h
  have he0 := xc_e0 h1
  refine xc_pop (S := []) h1 (by decide) cap (fun s g' s0 Hs X' k1 m1 l1 f1 hi w1 ag va cnt he hc hc2 hl fu => ?_)
  obtain ⟨nc, ⟨rfl, rfl, rfl, r1⟩, r2, r3, r4, ⟨v1, v2, v3, ⟨v4, v5⟩, v6⟩, v7⟩ := va
  have v4' : 1 ≤ (s 65 2).toInt ∧ (s 65 2).toInt ≤ 60 := v4
  have hb : BND g' s0 (clen s) (Hs + 7 * HT s 65) := v5
  have ht : HT s 65 ≤ 60 := by unfold HT; omega
  have p1 : plc σ [iV] = pk σ 65 + 0 := plc_V
  have hc' : clen s ≤ clen σ + 2 * pk σ 65 := hc
  have ag0 := agr_le ag he0
  exact k s g' k1 m1 (fun j hj => w1 j (by omega)) ag0 ⟨r4, cx_e k1 (fun q hq => w1 q (by omega)) ag0 (Nat.le_refl _) h2, cnt, hl, by rw [(kw_e k1).2.2.2.2.2.2]; exact h3, bnd_join (bnd_le (bnd_agr h4 ag0) (Nat.le_refl _) (Nat.le_refl _) (by omega)) (bnd_le hb (Nat.le_refl _) (Nat.le_refl _) (by omega)) (Nat.le_refl _), r2, r1, r3, fun c => (v6 c).2⟩ (by omega) fu (fun j hj => f1 j hj)
/-- and a plain instruction that uses it up -/
theorem vs_emit {op a1 a2 a3 : Int32} {k : Nat} (h : VS s g b K X H0 e0) (em : EMi s t op a1 a2 a3) (hk : op.toInt = k) (k1 : 1 ≤ k ∧ k ≤ 25) (hp : po k ≤ 1) (hd : de k = -1 ∨ de k = 0) : ∃ g', AGR g g' (clen s) ∧ (de k = -1 → SB t g' b K X H0) ∧ (de k = 0 → TYp (t 24) g' (CPu t) X b (clen t) (H0 + 1) (LV K)) := by
  obtain ⟨h1, h2, h3, h4, h5, h6, h7, h8, h9, h10⟩ := h
  obtain ⟨ek, emk, el, ex, ef, ee⟩ := em_k em
  have ec := em_clen em hk h4
  have el2 := em_len em hk
  have w0 : (t 24) (clen s) = op := em.2.2.2.1
  rcases hd with d | d
  · obtain ⟨g2, T2, ag2, gi2⟩ := typ_pl (w' := (t 24)) (n := k) (H' := H0) (typ_mono (fun q _ => rfl) agr_rf (cpu_mono ek emk) (fun _ z => z) h1) em.2.2.1 (by rw [w0]; exact hk) k1.1 (by omega) (Or.inl k1.2) (by omega) (by rw [d]; omega)
    refine ⟨g2, ag2, fun _ => ⟨by rw [ec]; exact T2, cx_e ek (fun q hq => em.2.2.1 q (by omega)) (agr_le ag2 h7) (by omega) h2, by rw [ee]; exact h3, by omega, by rw [(kw_e ek).2.2.2.2.2.2]; exact h5, ?_⟩, fun c => by omega⟩
    rw [ec]
    exact bnd_ext h6 ag2 gi2 T2.2.1 (by omega)
  · obtain ⟨g2, T2, ag2, gi2⟩ := typ_pl (w' := (t 24)) (n := k) (H' := H0 + 1) (typ_mono (fun q _ => rfl) agr_rf (cpu_mono ek emk) (fun _ z => z) h1) em.2.2.1 (by rw [w0]; exact hk) k1.1 (by omega) (Or.inl k1.2) (by omega) (by rw [d]; omega)
    exact ⟨g2, ag2, fun c => by omega, fun _ => by rw [ec]; exact T2⟩
end STM
end

