/-! steps of an expression: what is assigned, what an index tells -/
section XAS
variable {σ s s7 z t : St} {g g' g1 : Gh} {CP CP' : Int → Nat → Prop} {X0 X Xs : Nat → Prop} {b e0 H0 L e H H' n q s00 Hs00 H2 H3 m Bb : Nat} {A B S : List It} {it : It} {x y : Int32}
theorem hv_max {z : St} {q1 q2 : Nat} {a c : Int32} (e1 : z q1 2 = a) (e2 : z q2 2 = c) (h1 : 0 ≤ a.toInt ∧ a.toInt ≤ 60) (h2 : 0 ≤ c.toInt ∧ c.toInt ≤ 60) : ((1 : Int32) + (if (z q1 2) < (z q2 2) then (z q2 2) else (z q1 2))).toInt = 1 + max a.toInt c.toInt := by
  rw [e1, e2]
  have := max_i (a := a) (b := c)
  rw [ad (by rw [this, i1]; omega) (by rw [this, i1]; omega), this, i1]
theorem xs_assign {Q : St → Prop} (h : XC σ g X0 b e0 H0 L (iV :: iL (tkx σ x) :: S)) (cap : (σ 4 1).toInt ≤ 262150) (hS : S.length + 1 < 500) (ht : 30 ≤ tkx σ x ∧ tkx σ x ≤ 40) (k : ∀ s, XRs σ s g X0 b e0 H0 L (iV :: iL (tkx σ x) :: S) (iV :: S) 2 → Q s) : wk_X2_assign x σ Q := by
  have he0 := xc_e0 h
  have c0 := clen_eq h.2.2.1
  have h30 := h.2.2.1
  have hsg : ((tkx σ x).toNat : Int) = tkx σ x := by omega
  unfold wk_X2_assign
  refine sp_kindOf (fun v2 hv2 => ?_)
  refine xc_pop (S := iL (tkx σ x) :: S) h hS (by omega) (fun s7 g1 s9 Hs9 X9 k1 m1 l1 f1 hi w1 ag va cnt he hc hc2 h3 fu => ?_)
  obtain ⟨nc, r1, r2, r3, r4, ⟨v1, -, -, ⟨v4, v5⟩, v6⟩, v7⟩ := va
  obtain ⟨nc2, s00, Hs00, Xs, i1', i2', i3', i4', a1, a2, a3, a4, a5, a6, a7, a8⟩ := rlx_Li r1
  clear a4
  have b5 := a5 (by omega)
  subst b5
  have hs00 := (rlx_typ S _ _ _ i1').2
  have e1 := clen_eq h3
  have pk1 := pkq_le (σ := σ) (q := 65 + (iL (tkx σ x) :: S).length)
  have okl := a1.1
  unfold HOK at okl
  have okr : 1 ≤ (s7 (65 + (S.length + 1)) 2).toInt ∧ (s7 (65 + (S.length + 1)) 2).toInt ≤ 60 := v4
  have br : BND g1 s9 (clen s7) (Hs9 + 7 * (s7 (65 + (S.length + 1)) 2).toInt.toNat) := v5
  have bl : BND g1 s00 s9 (Hs00 + 7 * (s7 (65 + S.length) 2).toInt.toNat) := a1.2
  have cnt7 : (s7 7 7).toInt = S.length + 1 := cnt
  -- the heights before the store, as the left side asks
  have hH : 1 ≤ KDq s7 (65 + S.length) ∧ KDq s7 (65 + S.length) ≤ 3 → (tkx σ x = 30 → Hs9 + 1 = if KDq s7 (65 + S.length) = 3 then Hs00 + 2 else Hs00 + 1) ∧ (tkx σ x ≠ 30 → Hs9 = if KDq s7 (65 + S.length) = 3 then Hs00 + 2 else Hs00 + 1) := fun p => by
    refine ⟨fun c => ?_, fun c => ?_⟩
    · obtain ⟨q1, q2⟩ := a6 (by omega)
      by_cases c3 : KDq s7 (65 + S.length) = 3
      · rw [if_pos c3]
        have := q2 (Or.inr c3)
        omega
      · rw [if_neg c3]
        have := q1 (by omega)
        omega
    · obtain ⟨q1, q2⟩ := a7 (by omega)
      by_cases c3 : KDq s7 (65 + S.length) = 3
      · rw [if_pos c3]
        exact q1 c3
      · rw [if_neg c3]
        exact q2 c3
  have hs9 : Hs9 ≤ Hs00 + 2 := by
    by_cases c : tkx σ x = 30
    · obtain ⟨q1, q2⟩ := a6 (by omega)
      have : KDq s7 (65 + S.length) = 0 ∨ KDq s7 (65 + S.length) = 1 ∨ KDq s7 (65 + S.length) = 2 ∨ KDq s7 (65 + S.length) = 3 := by omega
      rcases this with e | e | e | e
      · have := q2 (Or.inl e); omega
      · have := q1 (Or.inl e); omega
      · have := q1 (Or.inr e); omega
      · have := q2 (Or.inr e); omega
    · obtain ⟨q1, q2⟩ := a7 (by omega)
      by_cases c3 : KDq s7 (65 + S.length) = 3
      · have := q1 c3; omega
      · have := q2 c3; omega
  have h31 : tkx σ x ≠ 30 → 1 ≤ Hs9 := fun c => by
    obtain ⟨q1, q2⟩ := a7 (by omega)
    by_cases c3 : KDq s7 (65 + S.length) = 3
    · have := q1 c3; omega
    · have := q2 c3; omega
  clear a6 a7 a8
  generalize hBb : Hs00 + 7 * (1 + max (s7 (65 + S.length) 2).toInt.toNat (s7 (65 + (S.length + 1)) 2).toInt.toNat) = Bb
  have at0 := at_rf (n := S.length) r4 (bnd_join (bnd_le bl (Nat.le_refl _) (Nat.le_refl _) (by omega)) (bnd_le br (Nat.le_refl _) (Nat.le_refl _) (by omega)) (Nat.le_refl _) : BND g1 s00 (clen s7) Bb) h3
  refine sp_otop (n := S.length) (by rw [cnt]; rfl) (by omega) ?_
  have plcS : plc s7 S = plc σ S := plc_low S (low_le l1 (Nat.le_succ _))
  have kdl : KDq σ (65 + S.length) = KDq s7 (65 + S.length) := by
    unfold KDq
    rw [l1 S.length 0 (by show S.length < S.length + 1; omega)]
  have plcA : plc σ (iV :: iL (tkx σ x) :: S) = pk σ (65 + (iL (tkx σ x) :: S).length) + (pk σ (65 + S.length) + plc σ S) := by rw [plc_V, plc_L]
  refine ⟨fun _ => True, fun y0 _ _ => ⟨fun _ => True, fun y1 _ _ => ?_, fun _ => ⟨True, fun _ => trivial, fun _ => trivial, fun _ => ⟨True, fun _ => trivial, fun _ => trivial, fun _ => ⟨fun _ => trivial, fun _ => trivial⟩⟩⟩, fun _ => sk_fits trivial trivial⟩, True, fun _ => trivial, fun _ => trivial, fun _ => ⟨fun _ => trivial, fun _ => trivial⟩⟩
  have main : ∀ s99 : St, FF s7 s99 → ((s99 6 3).toInt = 0 → 1 ≤ KDq s7 (65 + S.length) ∧ KDq s7 (65 + S.length) ≤ 3) → ((∃ J119 : St → Prop, (∀ (s119 : St), J119 s119 → ((∃ J179 : St → Prop, (∀ (s179 : St), J179 s179 → (wk_X6_become (65 + S.length) (s179 (65 + S.length) 1) (0 : Int32) s179 (fun s187 => wk_X2_raise (65 + S.length) ((1 : Int32) + (if (s187 (65 + S.length) 2) < (s187 (65 + (iL (tkx σ x) :: S).length) 2) then (s187 (65 + (iL (tkx σ x) :: S).length) 2) else (s187 (65 + S.length) 2))) x s187 (fun s208 => Q s208)))) ∧ ((s119 (65 + S.length) 0).toInt ≠ 3 → (∃ J168 : Int32 → Prop, (∀ (y1_168 : Int32), J168 y1_168 → (wk_X0_emit y1_168 (s119 (65 + S.length) 4) (0 : Int32) (0 : Int32) s119 (fun v175 s175 => J179 s175))) ∧ ((s119 (65 + S.length) 0).toInt ≠ 1 → J168 (6 : Int32)) ∧ ((s119 (65 + S.length) 0).toInt = 1 → J168 (9 : Int32)))) ∧ ((s119 (65 + S.length) 0).toInt = 3 → wk_X2_lineOf x s119 (fun v136 => wk_X0_emit (19 : Int32) v136 (0 : Int32) (0 : Int32) s119 (fun v141 s141 => J179 s141)))))) ∧ (v2.toInt = 30 → J119 s99) ∧ (v2.toInt ≠ 30 → wk_X2_lineOf x s99 (fun v113 => wk_X2_operate (v2 + (10 : Int32)) (0 : Int32) v113 s99 (fun s116 => J119 s116))))) := by
    intro s99 ff hpl
    have at9 := at_ff at0 ff
    have f7 := (ff_k ff).2.2.2.2.2.1
    refine ⟨fun s => ∃ m, m ≤ 2 ∧ AT s7 s g1 X9 b L S.length s00 Bb (if KDq s7 (65 + S.length) = 3 then Hs00 + 2 else Hs00 + 1) m ∧ ((s 6 3).toInt = 0 → 1 ≤ KDq s7 (65 + S.length) ∧ KDq s7 (65 + S.length) ≤ 3), ?_, fun c30 => ⟨0, by omega, ?_, hpl⟩, fun c30 => sp_lineOf (fun vl => ?_)⟩
    · rintro s119 ⟨m, hm, at1, hp1⟩
      have at1' := at1
      obtain ⟨t1, t2, t3, t4, t5, t6, t7, t8⟩ := at1'
      clear t8
      have kd1 : KDq s119 (65 + S.length) = KDq s7 (65 + S.length) := by
        unfold KDq
        rw [t5 S.length 0 (by omega)]
      refine ⟨fun s => ∃ m', m' ≤ m + 2 ∧ AT s7 s g1 X9 b L S.length s00 Bb (Hs00 + 1) m' ∧ ((s 6 3).toInt = 0 → 1 ≤ KDq s7 (65 + S.length) ∧ KDq s7 (65 + S.length) ≤ 3), ?_, fun n3 => ⟨fun y => y = 6 ∨ y = 9, ?_, fun _ => Or.inl rfl, fun _ => Or.inr rfl⟩, fun c3 => sp_lineOf (fun vl => ?_)⟩
      · rintro s179 ⟨m', hm', at2, hp2⟩
        have at2' := at2
        obtain ⟨u1, u2, u3, u4, u5, u6, u7, u8⟩ := at2'
        clear u8
        refine sp_become (fun s187 r187 b0 b1 b6 bq => ?_)
        have q2 : s187 (65 + S.length) 2 = s7 (65 + S.length) 2 := (bq 2 (by decide) (by decide) (by decide) (by decide)).trans (u5 S.length 2 (by omega))
        have q2r : s187 (65 + (S.length + 1)) 2 = s7 (65 + (S.length + 1)) 2 := (r187 _ 2 (by omega)).trans (u5 (S.length + 1) 2 (by omega))
        have hv := hv_max (z := s187) (q1 := 65 + S.length) (q2 := 65 + (S.length + 1)) q2 q2r (by omega) (by omega)
        have e17 := clen_eq (σ := s179) (by omega)
        refine at_raise (s7 := s7) (s := s179) (g1 := g1) (Xs := X9) (s00 := s00) (Hs00 := Hs00) (Bb := Bb) (m := m') at2 (by omega) r187 ((bq 9 (by decide) (by decide) (by decide) (by decide)).trans (u5 S.length 9 (by omega))) (Or.inl b0) (by rw [b6]; decide) (by show 1 ≤ ((1 : Int32) + (if (s187 (65 + S.length) 2) < (s187 (65 + (S.length + 1)) 2) then (s187 (65 + (S.length + 1)) 2) else (s187 (65 + S.length) 2))).toInt; rw [hv]; omega) (by show Bb ≤ Hs00 + 7 * ((1 : Int32) + (if (s187 (65 + S.length) 2) < (s187 (65 + (S.length + 1)) 2) then (s187 (65 + (S.length + 1)) 2) else (s187 (65 + S.length) 2))).toInt.toNat; rw [hv]; omega) (by omega) k1 m1 (fun j hj => w1 j (by omega)) hs00 (by omega) (by omega) (fun c => by rw [fu] at c; exact c) (agr_le ag he0) cnt7 nc2 i1' i3' (fun cf => ?_) k
        have pz : pk s187 (65 + S.length) = 0 := by unfold pk; rw [b0]; rfl
        have pl1 : pk σ (65 + S.length) = 1 := by
          have := hp2 cf
          unfold pk
          rw [if_pos (by omega)]
        omega
      · have n3' : KDq s119 (65 + S.length) ≠ 3 := n3
        have fin : ∀ (yy : Int32) (kk : Nat), yy.toInt = kk → (kk = 6 ∨ kk = 9) → wk_X0_emit yy (s119 (65 + S.length) 4) (0 : Int32) (0 : Int32) s119 (fun v175 s175 => ∃ m', m' ≤ m + 2 ∧ AT s7 s175 g1 X9 b L S.length s00 Bb (Hs00 + 1) m' ∧ ((s175 6 3).toInt = 0 → 1 ≤ KDq s7 (65 + S.length) ∧ KDq s7 (65 + S.length) ≤ 3)) := fun yy kk hy hk => by
          refine sk_emit hy (by omega) (by omega) (by omega) (fun _ s175 _ em => ?_)
          have l2 : ln kk = 2 := by rcases hk with e | e <;> subst e <;> rfl
          have d0 : de kk = 0 := by rcases hk with e | e <;> subst e <;> rfl
          have p1 : po kk = 1 := by rcases hk with e | e <;> subst e <;> rfl
          refine ⟨m + ln kk, by omega, at_emit at1 em hy (by omega) (by omega) (fun _ => ?_), fun c => hp1 (by rw [← (em_k em).2.2.2.2.1]; exact c)⟩
          rw [if_neg (by rw [← kd1]; exact n3'), d0, p1]
          omega
        rintro y2 (e | e) <;> subst e
        · exact fin 6 6 rfl (Or.inl rfl)
        · exact fin 9 9 rfl (Or.inr rfl)
      · have c3' : KDq s119 (65 + S.length) = 3 := c3
        refine sk_emit (n := 19) rfl (by decide) (by omega) (by omega) (fun _ s141 _ em => ?_)
        have l2 : ln 19 = 2 := rfl
        refine ⟨m + ln 19, by omega, at_emit at1 em (k := 19) rfl (by decide) (Or.inl (by decide)) (fun _ => ?_), fun c => hp1 (by rw [← (em_k em).2.2.2.2.1]; exact c)⟩
        rw [if_pos (by rw [← kd1]; exact c3')]
        have d0 : de 19 = -1 := rfl
        have p1 : po 19 = 2 := rfl
        rw [d0, p1]
        omega
    · by_cases cf : (s99 6 3).toInt = 0
      · rw [← (hH (hpl cf)).1 (by omega)]
        exact at9
      · exact at_bad at9 cf
    · have e40 : (v2 + (10 : Int32)).toInt = (((tkx σ x).toNat + 10 : Nat) : Int) := by rw [ad0 (n := 10) (by decide) (by omega) (by omega)]; omega
      refine sp_operate (sg := (tkx σ x).toNat + 10) e40 (by omega) (by rw [f7]; exact h3) (by rw [f7]; omega) (fun n op a1' b1' c1' s105 hn n1 n2 em => ?_)
      have l12 : ∀ m, m < 61 → 41 ≤ m → 1 ≤ ln m ∧ ln m ≤ 2 := by decide
      have l3 := l12 n (by omega) n1
      have dn : de n = -1 := by unfold de; rw [if_pos n1]
      have pn : po n = 2 := by unfold po; rw [if_pos n1]
      have f5 : (s105 6 3) = (s99 6 3) := (em_k em).2.2.2.2.1
      have h31' := h31 (by omega)
      have atx := at_emit (H3 := Hs9) at9 em hn (by omega) (Or.inr n1) (fun _ => by rw [dn, pn]; omega)
      refine ⟨0 + ln n, by omega, ?_, fun c => hpl (by rw [← f5]; exact c)⟩
      by_cases cf : (s105 6 3).toInt = 0
      · rw [← (hH (hpl (by rw [← f5]; exact cf))).2 (by omega)]
        exact atx
      · exact at_bad atx cf
  refine sp_isPlace (fun np => ?_) (fun p => ?_)
  · exact ⟨fun s => FF s7 s ∧ ((s 6 3).toInt = 0 → 1 ≤ KDq s7 (65 + S.length) ∧ KDq s7 (65 + S.length) ≤ 3), fun s h => main s h.1 h.2, True, fun _ => sp_refuse (fun s hs hf => ⟨ff_of hs hf, fun c => absurd c hf⟩), fun _ => trivial, fun e => absurd rfl e⟩
  · exact ⟨fun s => FF s7 s ∧ ((s 6 3).toInt = 0 → 1 ≤ KDq s7 (65 + S.length) ∧ KDq s7 (65 + S.length) ≤ 3), fun s h => main s h.1 h.2, True, fun _ => sp_refuse (fun s hs hf => ⟨ff_of hs hf, fun c => absurd c hf⟩), fun _ => trivial, fun _ => ⟨fun _ => ⟨ff_rf, fun _ => p⟩, fun _ => trivial⟩⟩
end XAS
