section
/-! a variable outside of functions, whole -/
section GV2
variable {w s r s2 s3 s95 s285 σ σ' τ t : St} {kd vl : Nat → Int} {n m m' lo d p pb u ty D : Nat} {vs z : List Nat} {a b c a1 a2 a3 a4 a5 v kn st ex y1 : Int32} {F0 : Prop} {g : List Gsq} {gb : List Gsq} {giv lk lk4 szi : Int} {x6 x7 x8 rr cells : Int} {ext stc lack B : Prop} {Q : St → Prop}
theorem kn_0 (h : KNq x6 x7 = 0) (hs : ¬ SQm x6 x7 x8 lack) : 0 ≤ x6 ∧ x8 = 0 ∧ x7 = 0 ∧ lack := by
  have c : 0 ≤ x6 := kn_br.1 (by rw [h]; decide)
  have c2 : ¬ (1 ≤ x7 ∧ x7 ≤ 4000) := fun hx => by
    unfold KNq at h
    rw [if_pos c, if_pos hx] at h
    omega
  have := Classical.byContradiction (fun hx => hs ⟨c, c2, hx⟩)
  exact ⟨c, this⟩
theorem cl_n {w2 : St} (h12 : (w2 8 12).toInt = y1.toInt) (hex : (w2 8 13).toInt ≠ 0 ↔ ex.toInt ≠ 0) (hn : y1.toInt ≠ 0 ∨ ex.toInt ≠ 0) (hk : -1 ≤ y1.toInt) : (ex.toInt ≠ 0 → CLw w2 = 0) ∧ (ex.toInt = 0 → CLw w2 = if y1.toInt < 1 then 1 else y1.toInt) := by
  unfold CLw
  refine ⟨fun h => if_pos (hex.2 h), fun h => ?_⟩
  rw [if_neg (fun hx => (hex.1 hx) h), h12]
  by_cases c : y1.toInt = -1
  · rw [if_pos c, if_pos (by omega)]
  · rw [if_neg c, if_neg (by omega)]
/-- behind the name, where all is well -/
theorem gv_good (hrr : EFm s95 lo (lo + m) u rr) (hgn : ∃ s v, GNf s95 s lo m u v a2 y1 st ex rr) (hgd : ¬ BDm s95 m lo a2 y1 st ex rr (SQm x6 x7 x8 lack) D cells → GDf s95 s285 u m lo m' a2 y1 (ex.toInt ≠ 0) (st.toInt ≠ 0) rr cells) (hG : RGs kd vl n 0 m' lo d s285) (hu : u ≤ n) (ku : kd u = 2) (hty : a2.toInt = (ty : Int)) (hty5 : ty ≤ 5) (hD : (s95 0 37).toInt = (D : Int)) (hD9 : D ≤ 16000) (hy1 : y1.toInt = KNq x6 x7) (hst : lk = 1 ↔ st.toInt ≠ 0) (hse : lk = 2 ↔ ex.toInt ≠ 0) (hn : y1.toInt ≠ 0 ∨ ex.toInt ≠ 0) (hce : cells = if y1.toInt < 1 then 1 else y1.toInt)
    {w2 s : St} {b : Int32} {dd : Nat} (cb : b.toInt = lk) (hE2 : REq kd n 0 m lo w2 s95) (e11 : (w2 8 11).toInt = (ty : Int)) (e12 : (w2 8 12).toInt = KNq x6 x7) (e13 : (w2 8 13).toInt ≠ 0 ↔ ex.toInt ≠ 0) (sq : SQl w2 lack ↔ SQm x6 x7 x8 lack) (nb : ¬ BDc w2 m lo b lack rr) (q0 : rr = -1 → m < 100 ∧ dd = (w2 5 1).toInt.toNat) (q1 : ∀ r : Nat, rr = ((lo + r : Nat) : Int) → r < m ∧ dd = (w2 5 1).toInt.toNat - m + r) (hou : OUf w2 s u m dd (rr = -1) b) : ¬ BDm s95 m lo a2 y1 st ex rr (SQm x6 x7 x8 lack) D cells ∧ REq kd n 0 m' lo s s285 := by
  have kb : -1 ≤ y1.toInt := by
    rw [hy1]
    unfold KNq
    split
    · split <;> omega
    · decide
  have hcl := cl_n (w2 := w2) (y1 := y1) (ex := ex) (by rw [e12, hy1]) e13 hn kb
  rw [← hce] at hcl
  obtain ⟨be, je⟩ := bd_eq (B := SQm x6 x7 x8 lack) (a2 := a2) (kn := y1) (st := st) (ex := ex) (cells := cells) hE2 hrr cb (by rw [e11, hty]) (by rw [e12, hy1]) kb hst e13 sq hD hD9 hcl
  have nb2 := fun h => nb (be.2 h)
  refine ⟨nb2, ?_⟩
  have hq : rr = -1 ∨ ∃ r : Nat, r < m ∧ rr = ((lo + r : Nat) : Int) := by
    rcases hrr with ⟨e, h1, h2, h3, h4, h5⟩ | ⟨h1, h2⟩
    · exact Or.inr ⟨e - lo, by omega, by omega⟩
    · exact Or.inl h2
  obtain ⟨s0, v0, hgn⟩ := hgn
  have hD' : (s285 0 37).toInt ≤ 16000 := by
    obtain ⟨D', h1, h2⟩ := rgq_D hG.1
    omega
  refine re_gvar (lk := b) (ty := a2) (kn := y1) (stc := st.toInt ≠ 0) (ext := ex.toInt ≠ 0) (cells := cells) hE2 hu ku hq q0 q1 hou (fun r hr => ?_) (fun hr => (gn_lm hgn hr (q0 hr).1).1) (ieq (by rw [e11, hty])) (ieq (by rw [e12, hy1])) ⟨by omega, by omega⟩ kb e13 (by rw [cb]; exact hst) (fun h1 h2 => ?_) (hgd nb2) ⟨hcl.1, fun h => hcl.2 (Decidable.byContradiction h)⟩ (by rw [hce]; split <;> omega) hD'
  · rw [(q1 r hr).2]
    exact Classical.byContradiction (fun h => nb (Or.inl (Or.inr ⟨r, hr, h⟩)))
  · have := hst.2 h1
    have := hse.2 h2
    omega
theorem es_gvar {Q : St → St → List Nat → Prop} (h1 : a1.toInt = (u : Int)) (hu : u ≤ n) (ku : kd u = 2) (h2 : a2.toInt = (ty : Int)) (hty : ty ≤ 5) (h5 : a5.toInt = 0) (hst3 : a3 = 0 ∨ a3 = 1) (hl : lk = 0 ∨ lk = 1 ∨ lk = 2) (hst : lk = 1 ↔ a3.toInt ≠ 0) (hex : lk = 2 ↔ a4.toInt ≠ 0) (hG : RGs kd vl n 0 m lo d σ) (hg : GMt σ n p)
    (kk : ∀ s t z p' m' g, EVq (fun N => V1n kd vl N lk u ty p) (some (p', g)) → p ≤ p' → GMt s n p' → RGs kd vl n 0 m' lo d s → MNq σ s → s 0 57 = σ 0 57 → TFq τ vs t z → USq kd n m m' lo g σ s → Q s t z)
    (kn : EVq (fun N => V1n kd vl N lk u ty p) none → F0) : pp_variable a1 a2 a3 a4 a5 σ τ vs Q (fun _ _ _ => F0) := by
  unfold pp_variable
  refine mr_is1 hG.1.1 hg (c := 24) (by decide) (by decide) (fun v12 hv12 => ⟨fun x6 x7 x8 s t z => BKv kd vl n 0 m lo d p σ τ vs x6 x7 x8 s t z, ?_, mr_bracket hv12 hG hg (fun x6 x7 x8 s t z _ h => h) (fun k24 hn => kn (ev_t k24 (ev_b0 hn)))⟩)
  rintro x6 x7 x8 s95 t95 z95 _ ⟨pb, gb, giv, b1, b2, b3, b4, b5, b6, b7, b8, b9, bx, b10⟩
  obtain ⟨D, hD, hD9⟩ := rgq_D b6.1
  have hm100 : m ≤ 100 := hG.1.2.2.2.2.2.1
  refine ⟨fun y => 0 ≤ x6.toInt → (y.toInt ≠ 0 ↔ 1 ≤ x7.toInt ∧ x7.toInt ≤ 4000), fun y0 _ hy0 => ⟨fun y1 => y1.toInt = KNq x6.toInt x7.toInt, fun y1 hy1 => ?_, fun c => ⟨fun c0 => ?_, fun c0 => ?_⟩, fun c => ?_⟩, 0 ≤ x6.toInt → 1 ≤ x7.toInt ∧ x7.toInt ≤ 4000, fun hj c => ⟨fun _ => hj c, fun _ => by decide⟩, fun c hx => by omega, fun c => ⟨¬ (1 ≤ x7.toInt ∧ x7.toInt ≤ 4000), fun hj _ => ⟨fun h => absurd rfl h, fun h => absurd h hj⟩, fun c2 h => by omega, fun c2 => ⟨fun c3 h => by omega, fun c3 _ => ⟨c2, c3⟩⟩⟩⟩
  · have kb : -1 ≤ y1.toInt ∧ y1.toInt ≤ 4000 := by
      rw [hy1]
      unfold KNq
      split
      · split
        · omega
        · decide
      · decide
    have ifc : (if y1 < (1 : Int32) then (1 : Int32) else y1).toInt = if y1.toInt < 1 then 1 else y1.toInt := by
      by_cases cv : y1 < (1 : Int32)
      · rw [if_pos cv, if_pos (show y1.toInt < 1 from Int32.lt_iff_toInt_lt.mp cv)]
        rfl
      · rw [if_neg cv, if_neg (show ¬ y1.toInt < 1 from fun hx => cv (Int32.lt_iff_toInt_lt.mpr hx))]
    generalize hce : (if y1.toInt < 1 then 1 else y1.toInt) = cells at ifc
    have cb : 1 ≤ cells ∧ cells ≤ 4000 := by
      rw [← hce]
      split <;> omega
    refine ⟨fun v s t z => t = t95 ∧ z = z95 ∧ ∃ rr, EFm s95 lo (lo + m) u rr ∧ GNf s95 s lo m u v a2 y1 a3 a4 rr, ?_, fun _ => mr_globalName h1 (b6.1.2.1 u hu ku) b6.1.2.2.2.2.1 hm100 (rgq_0 b6.1) (fun rr v s q1 q2 => ⟨rfl, rfl, rr, q1, q2⟩), fun c => absurd h5 c⟩
    rintro v s170 t170 z170 ⟨et, ez, rr, hrr, hgn⟩
    rw [et, ez]
    have fr170 : s170 0 10 = s95 0 10 ∧ 0 ≤ (s170 0 12).toInt ∧ s170 2 = s95 2 ∧ s170 0 37 = s95 0 37 := by
      rcases hgn with ⟨_, _, _, k, f⟩ | ⟨_, _, _, _, s1, hd, es⟩ | ⟨r, _, _, k, f, _⟩
      · exact ⟨k 0 10 rfl rfl, f.1, funext (fun j => k 2 j rfl rfl), k 0 37 rfl rfl⟩
      · refine ⟨?_, ?_, ?_, ?_⟩
        · rw [es, rdC_ne (by decide), rdC_ne (by decide), rdC_ne (by decide)]; exact hd.1 0 10 rfl rfl
        · rw [es, rdC_ne (by decide), rdC_ne (by decide), rdC_ne (by decide), hd.1 0 12 rfl rfl]; exact rgq_0 b6.1
        · rw [es, rdC_ne (by decide), rdC_ne (by decide), rdC_ne (by decide)]; exact funext (fun j => hd.1 2 j rfl rfl)
        · rw [es, rdC_ne (by decide), rdC_ne (by decide), rdC_ne (by decide)]; exact hd.1 0 37 rfl rfl
      · exact ⟨k 0 10 rfl rfl, f.1, funext (fun j => k 2 j rfl rfl), k 0 37 rfl rfl⟩
    refine ⟨fun s t z => t = t95 ∧ z = z95 ∧ Kp [(0, 12), (0, 13)] [] s170 s ∧ FTq s170 s (SQm x6.toInt x7.toInt x8.toInt (a4.toInt ≠ 0 ∨ kd pb = 30)), ?_, mr_square (J232 := fun s t z => t = t95 ∧ z = z95 ∧ Kp [(0, 12), (0, 13)] [] s170 s ∧ FTq s170 s (SQm x6.toInt x7.toInt x8.toInt (a4.toInt ≠ 0 ∨ kd pb = 30))) (lack := a4.toInt ≠ 0 ∨ kd pb = 30) (by
      have := b6.1.1
      unfold RTk at this ⊢
      rw [fr170.2.2.1]
      exact this) (gm_k b5 fr170.1) fr170.2.1 Iff.rfl hy0 (fun s' k' f' => ⟨rfl, rfl, k', f'⟩)⟩
    rintro s232 t232 z232 ⟨et2, ez2, k232, f232⟩
    rw [et2, ez2]
    refine ⟨fun s t z => t = t95 ∧ z = z95 ∧ LYf s232 s v a4 D cells, ?_, fun c => absurd h5 c, fun _ => ⟨fun cv => ⟨rfl, rfl, Or.inl ⟨rfl, Or.inl cv⟩⟩, fun cv => ⟨fun c4 => ⟨rfl, rfl, Or.inl ⟨rfl, Or.inr c4⟩⟩, fun c4 => mr_lay (r := v.toInt.toNat) (D := D) f232.1 (by omega) (by rw [k232 0 37 rfl rfl, fr170.2.2.2]; exact hD) hD9 (by rw [ifc]; exact cb) (fun s k f q1 q2 q3 => ⟨rfl, rfl, Or.inr ⟨c4, v.toInt.toNat, by omega, k, by rw [ifc] at f; exact f, q1, by rw [ifc] at q2; exact q2, by rw [ifc] at q3; exact q3⟩⟩)⟩⟩⟩
    rintro s260 t260 z260 ⟨et3, ez3, hly⟩
    rw [et3, ez3]
    refine ⟨fun s t z => t = t95 ∧ z = z95 ∧ s = s260, ?_, fun _ => ⟨rfl, rfl, rfl⟩, fun c => absurd h5 c⟩
    rintro s285 t285 z285 ⟨et4, ez4, es4⟩
    rw [et4, ez4, es4]
    obtain ⟨m', hG3, e10, e57', hft, hgd⟩ := gn_fin b6 hu ku (by omega) hD hD9 cb.1 hst3 hgn k232 f232 hly
    clear hly k232 f232 fr170
    have g285 : GMt s260 n pb := gm_k b5 e10
    have hm285 : MNq σ s260 := fun hx => hft.2.2 (Or.inl (by rw [b7]; exact hx))
    have e57 : s260 0 57 = σ 0 57 := by rw [e57', b8 0 57 rfl rfl]
    have hvl : ∀ q, q ≤ n → kd q = 4 → 0 ≤ vl q := fun q q1 q2 => by
      have := (hG.1.2.2.1 q q1 q2).1
      rw [hG.2.2.2.2 q q1] at this
      exact this
    have h15 : (s95 0 15).toInt = 0 := b6.2.2.2.1
    have bdB : BDm s95 m lo a2 y1 a3 a4 rr (SQm x6.toInt x7.toInt x8.toInt (a4.toInt ≠ 0 ∨ kd pb = 30)) D cells → (s260 0 12).toInt ≠ 0 := fun h => hft.2.2 (Or.inr ⟨h, by omega⟩)
    have n285 : (σ 0 12).toInt = 0 → ¬ BDm s95 m lo a2 y1 a3 a4 rr (SQm x6.toInt x7.toInt x8.toInt (a4.toInt ≠ 0 ∨ kd pb = 30)) D cells → (s260 0 12).toInt = 0 := fun h0 h => Decidable.byContradiction (fun hx => (hft.2.1 hx).elim (fun h2 => h2 (by rw [b7]; exact h0)) (fun h2 => h h2.1))
    -- the class's walk, up to the initial
    have walk : ∀ {lk4 szi : Int} {rest : List Gsq} {Q : St → Prop} {B : Prop} {w : St}, ((lk4 = lk ∧ kd pb ≠ 30) ∨ (lk4 = lk + 4 ∧ kd pb = 30)) → ((σ 0 12).toInt = 0 → ∀ w, REq kd n 0 m lo w σ → (w 6 3).toInt = 0 → (w 7 7).toInt = 0 → (w 8 6).toInt = -1 → GWq (bkl kd p gb giv szi) w (fun w1 => (w1 6 3).toInt = 0 ∧ BKg kd n 0 m lo x6.toInt x7.toInt x8.toInt w w1 s95) False) → ((s260 0 12).toInt ≠ 0 → B) → (∀ s, (s 6 3).toInt ≠ 0 → B → Q s) → (σ 0 12).toInt = 0 → URq kd n m lo w σ → (w 6 3).toInt = 0 → (y1.toInt ≠ 0 ∨ a4.toInt ≠ 0 → ∀ r, (r 6 3).toInt = 0 → (s260 0 12).toInt = 0 → URq kd n m' lo r s260 → ¬ SQm x6.toInt x7.toInt x8.toInt (a4.toInt ≠ 0 ∨ kd pb = 30) → (r 8 11).toInt = (ty : Int) → (r 8 9).toInt = 0 → (r 8 15).toInt = 0 → (r 8 16).toInt = 0 → (r 8 12).toInt = KNq x6.toInt x7.toInt → ((r 8 13).toInt ≠ 0 ↔ a4.toInt ≠ 0) → GWq rest r Q B) → (y1.toInt = 0 → a4.toInt = 0 → ¬ SQm x6.toInt x7.toInt x8.toInt (a4.toInt ≠ 0 ∨ kd pb = 30) → B ∧ ∀ r, (r 8 12).toInt = 0 → GWq rest r Q B) → GWq (bkl kd p gb giv szi ++ ([gq (43, u, (ty : Int), lk4)] ++ rest)) w Q B := fun {lk4 szi rest Q B w} hlk hbk hB hq h0 hR hf k1 k2 => by
      refine gw0 (lack := a4.toInt ≠ 0 ∨ kd pb = 30) (ext := a4.toInt ≠ 0) hlk hl hex.symm Iff.rfl hu ku hbk hrr (fun hr hm => gn_lm hgn hr hm) (fun w2 b cb hE2 e11 e12 e13 sq hbc => ?_) (fun h => hB (bdB (Or.inr (Or.inl (h _))))) hq h0 hR hf (fun w2 b s dd cb hE2 e11 e12 e13 sq nb q0 q1 hou w77 w66 w95 w9 w15 w16 => ?_)
      · by_cases cn : y1.toInt ≠ 0 ∨ a4.toInt ≠ 0
        · have hcl := cl_n (w2 := w2) (y1 := y1) (ex := a4) (by rw [e12, hy1]) e13 cn kb.1
          rw [hce] at hcl
          exact hB (bdB ((bd_eq (B := SQm x6.toInt x7.toInt x8.toInt (a4.toInt ≠ 0 ∨ kd pb = 30)) (a2 := a2) (kn := y1) (st := a3) (ex := a4) (cells := cells) hE2 hrr cb (by rw [e11, h2]) (by rw [e12, hy1]) kb.1 hst e13 sq hD hD9 hcl).1.1 hbc))
        · have c1 : y1.toInt = 0 := Decidable.byContradiction (fun h => cn (Or.inl h))
          have c2 : a4.toInt = 0 := Decidable.byContradiction (fun h => cn (Or.inr h))
          by_cases cs : SQm x6.toInt x7.toInt x8.toInt (a4.toInt ≠ 0 ∨ kd pb = 30)
          · exact hB (bdB (Or.inr (Or.inl cs)))
          · exact (k2 c1 c2 cs).1
      · have nsq : ¬ SQm x6.toInt x7.toInt x8.toInt (a4.toInt ≠ 0 ∨ kd pb = 30) := fun h => nb (Or.inr (Or.inl (sq.2 h)))
        have hko := hou.1
        by_cases cn : y1.toInt ≠ 0 ∨ a4.toInt ≠ 0
        · obtain ⟨nb2, hE3⟩ := gv_good (lack := a4.toInt ≠ 0 ∨ kd pb = 30) (vl := vl) (d := d) (st := a3) (ex := a4) (cells := cells) hrr ⟨_, _, hgn⟩ hgd hG3 hu ku h2 hty hD hD9 hy1 hst hex cn hce.symm cb hE2 e11 e12 e13 sq nb q0 q1 hou
          have hE4 : REq kd n 0 m' lo (upC s 8 6 ((-1) : Int32)) s260 := re_cd hE3 (cd_ko (fs := [(8, 6)]) (cs := []) (ko_kp (kp_f kp_rf rfl)) rfl rfl) dd_rf
          refine k1 cn _ ?_ (n285 h0 nb2) (ur_var hE4 hko w77 w66 w95) nsq ?_ ?_ ?_ ?_ ?_ ?_
          · rw [rdC_ne (by decide)]; exact hou.2.1
          · rw [rdA_ne (by decide), hko 8 11 rfl rfl]; exact e11
          · rw [rdA_ne (by decide), hko 8 9 rfl rfl]; exact w9
          · rw [rdA_ne (by decide), hko 8 15 rfl rfl]; exact w15
          · rw [rdA_ne (by decide), hko 8 16 rfl rfl]; exact w16
          · rw [rdA_ne (by decide), hko 8 12 rfl rfl]; exact e12
          · rw [rdA_ne (by decide), hko 8 13 rfl rfl]; exact e13
        · have c1 : y1.toInt = 0 := Decidable.byContradiction (fun h => cn (Or.inl h))
          have c2 : a4.toInt = 0 := Decidable.byContradiction (fun h => cn (Or.inr h))
          refine (k2 c1 c2 nsq).2 _ ?_
          rw [rdA_ne (by decide), hko 8 12 rfl rfl, e12, ← hy1]
          exact c1
    refine es_set (loc := False) h2 ⟨fun h => absurd h5 h, False.elim⟩ hG3 g285 (fun c30 s' t' z' p' g szi br cells2 e1 hcl hev htl hp g1 hG1 hm hke htf hin har => ?_) (fun n30 => ?_) (fun c30 br e1 hn => kn (v1_none b1 b2 c30 (e1.trans b3) hn))
    · refine kk s' t' z' p' m' (bkl kd p gb giv szi ++ [gq (43, u, (ty : Int), lk + 4)] ++ g) (v1_set b1 b2 c30 (e1.trans b3) hev) (by omega) g1 hG1 (fun hx => hm (hm285 hx)) (by rw [hke 0 57 rfl rfl]; exact e57) (tf_tr b9 htf) ?_
      intro h0 w hR hf
      rw [List.append_assoc]
      have hts : 0 ≤ x6.toInt → TSz kd vl pb szi := fun c => ⟨fun _ => by
        have : br = true := e1.2 c
        rw [this] at htl
        exact htl, fun h => absurd c30 h⟩
      have hbk : (σ 0 12).toInt = 0 → ∀ w, REq kd n 0 m lo w σ → (w 6 3).toInt = 0 → (w 7 7).toInt = 0 → (w 8 6).toInt = -1 → GWq (bkl kd p gb giv szi) w (fun w1 => (w1 6 3).toInt = 0 ∧ BKg kd n 0 m lo x6.toInt x7.toInt x8.toInt w w1 s95) False := by
        by_cases c : 0 ≤ x6.toInt
        · exact b10 szi (hts c)
        · have n24 : ¬ kd p = 24 := fun h => c (b3.2 h)
          intro h0' w' q1 q2 q3 q4
          unfold bkl
          rw [if_neg n24]
          by_cases ct : ∃ sz, TSz kd vl pb sz
          · obtain ⟨sz, hsz⟩ := ct
            have hx := b10 sz hsz h0' w' q1 q2 q3 q4
            rw [if_neg n24] at hx
            exact hx
          · exfalso
            refine ct ⟨if kd (pb + 1) = 22 then szi else if ALq kd (pb + 1) then vl (pb + 1) + 1 else 0, fun _ => ⟨fun h => ?_, fun h => ?_, fun h h3 => ?_⟩, fun h => absurd c30 h⟩
            · rw [if_pos h]
              exact htl.1 h
            · rw [if_neg (fun hx => by have := h.2.1; omega), if_pos h.2]
            · rw [if_neg h, if_neg (fun hx => h3 ⟨rfl, hx⟩)]
      have sz1 : br = true → kd (pb + 1) = 22 ∨ ALq kd (pb + 1) → 1 ≤ szi := fun hb hr => tl_pos htl hb (fun h => hvl _ (by have := g1.2; omega) h) hr
      refine walk (Or.inr ⟨rfl, c30⟩) hbk hm (fun s hs hb => ⟨fun _ => hb, fun hx => absurd hx hs⟩) h0 hR hf (fun cn r r63 nf hUR nsq f11 f9 f15 f16 f12 f13 => ?_) (fun c1 c2 nsq => ?_)
      · have hin2 := hin nf r hUR.1 r63 hUR.2.1 f11 ⟨fun h => absurd f9 h, False.elim⟩ f15 f16 (by rw [f12, kn_br]; exact e1.symm) (fun hbr => by
          have hb := hbr.1
          have c6 := e1.1 hb
          rw [f12, hcl hb, hy1]
          have : 1 ≤ KNq x6.toInt x7.toInt := kn_cells c6 nsq (fun h8 => by
            have := bx szi (hts c6) h8
            have := sz1 hb hbr.2
            omega)
          rw [if_neg (by omega)]) f13
        refine gv_mono hin2 (fun s2 hs2 => ⟨hs2.1, fun c => ?_⟩) id
        obtain ⟨k1, k2, k3, k4⟩ := hs2.2 c
        refine ⟨k1, k2, k3, ?_, ?_, ?_⟩
        · rw [k4 6 6 (op_lt (by decide)) rfl rfl]; exact hUR.2.2.1
        · rw [k4 8 6 (op_lt (by decide)) rfl rfl]; exact hUR.2.2.2.1
        · rw [k4 9 5 (op_lt (by decide)) rfl rfl]; exact hUR.2.2.2.2
      · obtain ⟨d6, d8, d7, _⟩ := kn_0 (by rw [← hy1]; exact c1) nsq
        have hb := e1.2 d6
        have nr : ¬ (kd (pb + 1) = 22 ∨ ALq kd (pb + 1)) := fun hr => by
          have := bx szi (hts d6) d8
          have := sz1 hb hr
          omega
        obtain ⟨hB, hA⟩ := har hb nr
        exact ⟨hB, fun r hr => hA r _ _ (by rw [hr]; decide) hB (fun s hs => ⟨fun _ => hB, fun hx => absurd hx hs⟩)⟩
    · refine kk s260 t95 z95 pb m' (bkl kd p gb giv 0 ++ [gq (43, u, (ty : Int), lk)]) (v1_no b1 b2 n30) b4 g285 hG3 hm285 e57 b9 ?_
      intro h0 w hR hf
      have hts : TSz kd vl pb 0 := ⟨fun h => absurd h n30, fun _ => rfl⟩
      refine walk (lk4 := lk) (szi := 0) (rest := []) (Or.inl ⟨rfl, n30⟩) (b10 0 hts) id (fun s hs hb => ⟨fun _ => hb, fun hx => absurd hx hs⟩) h0 hR hf (fun cn r r63 nf hUR nsq f11 f9 f15 f16 f12 f13 => ?_) (fun c1 c2 nsq => ?_)
      · exact ⟨fun hx => absurd r63 hx, fun _ => ⟨nf, hUR⟩⟩
      · obtain ⟨_, _, _, d9⟩ := kn_0 (by rw [← hy1]; exact c1) nsq
        exact absurd d9 (fun h => h.elim (fun h => h c2) n30)
  · show ((0 : Int32)).toInt = KNq x6.toInt x7.toInt
    unfold KNq
    rw [if_pos c, if_neg (fun h => ((hy0 c).2 h) c0)]
    rfl
  · show x7.toInt = KNq x6.toInt x7.toInt
    unfold KNq
    rw [if_pos c, if_pos ((hy0 c).1 c0)]
  · show ((-1 : Int32)).toInt = KNq x6.toInt x7.toInt
    unfold KNq
    rw [if_neg (by omega)]
    rfl
end GV2
end

section
/-! the unit: variables, one behind the other; heads of functions -/
section UVA
variable {w s r σ σ' σ1 σ2 τ t : St} {kd vl : Nat → Int} {n m m' m1 m2 lo d p : Nat} {vs z : List Nat} {g g2 : List Gsq} {lk : Int} {F0 : Prop} {a1 a2 a3 : Int32}
theorem us_nil (dd : DDq σ σ') (e12 : σ' 0 12 = σ 0 12) : USq kd n m m lo [] σ σ' := fun h0 w hR hf => ⟨fun hx => absurd hf hx, fun _ => ⟨by rw [e12]; exact h0, re_cd hR.1 cd_rf dd, hR.2⟩⟩
theorem us_src (dd : DDq σ σ1) (e12 : σ1 0 12 = σ 0 12) (h : USq kd n m m' lo g σ1 σ') : USq kd n m m' lo g σ σ' := fun h0 w hR hf => h (by rw [e12]; exact h0) w ⟨re_cd hR.1 cd_rf dd, hR.2⟩ hf
theorem us_ref (h : USq kd n m m' lo g σ σ1) (dd : DDq σ1 σ') (e12 : σ' 0 12 = σ1 0 12) : USq kd n m m' lo g σ σ' := fun h0 w hR hf => by
  rw [e12]
  exact gv_mono (h h0 w hR hf) (fun s hs => ⟨hs.1, fun c => ⟨(hs.2 c).1, re_cd (hs.2 c).2.1 cd_rf dd, (hs.2 c).2.2⟩⟩) id
theorem us_app (h1 : USq kd n m m1 lo g σ σ1) (h2 : USq kd n m1 m2 lo g2 σ1 σ2) (hm : MNq σ1 σ2) : USq kd n m m2 lo (g ++ g2) σ σ2 := by
  intro h0 w hR hf
  refine gv_app (gv_mono (h1 h0 w hR hf) (fun s hs => ?_) hm)
  by_cases c0 : (s 6 3).toInt = 0
  · obtain ⟨g1, g2'⟩ := hs.2 c0
    exact h2 g1 s g2' c0
  · have := hm (hs.1 c0)
    exact gv_bad c0 this (fun s' h => ⟨fun _ => this, fun hx => absurd hx h⟩)
/-- variables of the unit, behind the int -/
theorem es_uvars {Q : St → St → List Nat → Prop} (hst3 : a1 = 0 ∨ a1 = 1) (hl : lk = 0 ∨ lk = 1 ∨ lk = 2) (hst : lk = 1 ↔ a1.toInt ≠ 0) (hex : lk = 2 ↔ a2.toInt ≠ 0) (hG : RGs kd vl n 0 m lo d σ) (hg : GMt σ n p)
    (kk : ∀ s t z p' m' g, EVq (fun N => VNn kd vl N lk p) (some (p', g)) → p < p' → GMt s n p' → RGs kd vl n 0 m' lo d s → MNq σ s → TFq τ vs t z → USq kd n m m' lo g σ s → Q s t z) (kn : EVq (fun N => VNn kd vl N lk p) none → F0) : pp_variables a1 a2 (0 : Int32) σ τ vs Q (fun _ _ _ => F0) := by
  refine vars_loop (n := n) (lk := lk) (p0 := p) (I := fun p g s t z => ∃ m', GMt s n p ∧ RGs kd vl n 0 m' lo d s ∧ MNq σ s ∧ TFq τ vs t z ∧ USq kd n m m' lo g σ s) (fun p g s t z h => ?_) (fun p p' g s s' t z h k g' => ?_) (fun p g s t z a v u ty Q h hau hvt hty ku hu hup k1 k0 => ?_) ⟨m, hg, hG, id, tf_rf, us_nil dd_rf rfl⟩ (fun p' g s t z hev hp hI => ?_) kn
  · obtain ⟨m', h1, h2, _⟩ := h
    exact ⟨h2.1.1, h1⟩
  · obtain ⟨m', h1, h2, h3, h4, h5⟩ := h
    have e : s' 0 12 = s 0 12 := k 0 12 rfl rfl
    have dd := ds_k k rfl rfl
    exact ⟨m', g', rg_ds h2 dd (by rw [e]; exact rgq_0 h2.1), fun hx => by rw [e]; exact h3 hx, h4, us_ref h5 dd.1 e⟩
  · obtain ⟨m', i1, i2, i3, i4, i5⟩ := h
    refine es_gvar hau hu ku hvt hty rfl hst3 hl hst hex i2 i1 (fun s' t' z' p' m2 g' hev hp' g1 hG1 hm e57 htf hw => ?_) k0
    exact k1 p' g' s' t' z' hev hp' ⟨m2, g1, hG1, fun hx => hm (i3 hx), tf_tr i4 htf, us_app i5 hw hm⟩
  · obtain ⟨m', i1, i2, i3, i4, i5⟩ := hI
    exact kk s t z p' m' g hev hp i1 i2 i3 i4 i5
end UVA
/-- what stands in a head's rows -/
def HRq (kd : Nat → Int) (n : Nat) (s : St) (l : List (Nat × Nat)) : Prop := (s 0 64).toInt = (l.length : Int) ∧ l.length ≤ 8 ∧ ∀ k x, l[k]? = some x → (s 37 k).toInt = (x.1 : Int) ∧ x.1 ≤ 6 ∧ x.2 ≤ n ∧ (kd x.2 = 2 → (s 38 k).toInt = (x.2 : Int)) ∧ (kd x.2 ≠ 2 → (s 38 k).toInt < 0)
section HEA
variable {w s r σ σ' σ1 σ2 τ t : St} {kd vl : Nat → Int} {n m lo d p : Nat} {vs z : List Nat} {F0 : Prop}
theorem sr_5 {i q : Nat} : ∀ {k p : Nat}, SRq kd k p = some (i, q) → i ≤ k
  | 0, p, h => by
    unfold SRq at h
    by_cases c : kd p = 45
    · rw [if_pos c] at h; cases h
    · rw [if_neg c] at h
      cases h
      exact Nat.le_refl _
  | k + 1, p, h => by
    unfold SRq at h
    by_cases c : kd p = 45
    · rw [if_pos c] at h
      cases h1 : SRq kd k (p + 1) with
      | none => rw [h1] at h; cases h
      | some r =>
        rw [h1] at h
        have h2 : r.1 + 1 = i ∧ r.2 = q := by
          have := Option.some.inj h
          exact ⟨congrArg Prod.fst this, congrArg Prod.snd this⟩
        have := sr_5 (i := r.1) (q := r.2) (k := k) (p := p + 1) (by rw [h1])
        omega
    · rw [if_neg c] at h
      cases h
      exact Nat.zero_le _
theorem hr_add {l0 : List (Nat × Nat)} {x : Nat × Nat} (h : HRq kd n σ l0) (hlt : l0.length < 8) (hx1 : x.1 ≤ 6) (hx2 : x.2 ≤ n) {a b c : Int32} (ea : a.toInt = (x.1 : Int)) (eb : kd x.2 = 2 → b.toInt = (x.2 : Int)) (eb0 : kd x.2 ≠ 2 → b.toInt < 0) (k : Kp [(0, 10)] [] (upC (upC (upC (upC σ 37 (σ 0 64).toNatClampNeg a) 38 (σ 0 64).toNatClampNeg b) 39 (σ 0 64).toNatClampNeg c) 0 64 ((σ 0 64) + (1 : Int32))) s) : HRq kd n s (l0 ++ [x]) := by
  obtain ⟨h1, h2, h3⟩ := h
  have en : (σ 0 64).toNatClampNeg = l0.length := nat_of h1
  rw [en] at k
  have e37 : ∀ j, s 37 j = if j = l0.length then a else σ 37 j := fun j => by rw [k 37 j rfl rfl, rdC_ne (by decide), rdC_ne (by decide), rdC_ne (by decide), rdC_eq]
  have e38 : ∀ j, s 38 j = if j = l0.length then b else σ 38 j := fun j => by rw [k 38 j rfl rfl, rdC_ne (by decide), rdC_ne (by decide), rdC_eq, rdC_ne (by decide)]
  refine ⟨?_, by rw [List.length_append]; exact hlt, fun q y hy => ?_⟩
  · rw [k 0 64 rfl rfl, rdA_eq rfl, ad1 (by omega), h1, List.length_append]
    rfl
  · rw [e37, e38]
    by_cases c : q = l0.length
    · rw [if_pos c, if_pos c]
      rw [c, List.getElem?_append_right (Nat.le_refl _), Nat.sub_self] at hy
      have : x = y := Option.some.inj hy
      rw [← this]
      exact ⟨ea, hx1, hx2, eb, eb0⟩
    · have hq : q < l0.length := by
        have := (List.getElem?_eq_some_iff.mp hy).1
        rw [List.length_append] at this
        have : q < l0.length + 1 := this
        omega
      rw [if_neg c, if_neg c]
      rw [List.getElem?_append_left hq] at hy
      exact h3 q y hy
theorem mr_head {Q : St → St → List Nat → Prop} (tk : RTk σ kd n) (hg : GMt σ n p) (kk : ∀ s p' l, HDn kd p = some (p', l) → p < p' → GMt s n p' → Kp [(0, 10), (0, 64)] [37, 38, 39] σ s → HRq kd n s l → Q s τ vs) (kn : HDn kd p = none → F0) : pp_head σ τ vs Q (fun _ _ _ => F0) := by
  unfold pp_head
  have hn := tk.1
  have k0 : Kp [(0, 64)] [] σ (upC σ 0 64 (0 : Int32)) := kp_f kp_rf rfl
  have e64 : ((upC σ 0 64 (0 : Int32)) 0 64).toInt = 0 := by rw [rdA_eq rfl]; rfl
  have g0 : GMt (upC σ 0 64 (0 : Int32)) n p := gm_k hg (rdA_ne (by decide))
  generalize upC σ 0 64 (0 : Int32) = σ0 at k0 e64 g0
  have tk0 : RTk σ0 kd n := rtk_k k0 (fun _ => rfl) rfl tk
  have hr0 : ∀ s, Kp [(0, 10)] [] σ0 s → HRq kd n s [] := fun s k => ⟨by rw [k 0 64 rfl rfl]; exact e64, by decide, fun k x h => by cases h⟩
  refine mr_expect tk0 g0 (c := 20) (by decide) (by decide) (fun c20 s8 k8 g8 => ?_) (fun c20 => kn (by unfold HDn; rw [if_neg c20]))
  have tk8 : RTk s8 kd n := rtk_k k8 (fun _ => rfl) rfl tk0
  have hd : ∀ R, (if kd (p + 1) = 6 then some (p + 2, []) else if kd (p + 1) = 21 then some (p + 1, []) else PMn kd 8 (p + 1)) = R → HDn kd p = R.bind fun r => if kd r.1 = 21 then some (r.1 + 1, r.2) else none := fun R hR => by
    unfold HDn
    rw [if_pos c20, hR]
  refine mr_accept1 tk8 g8 (c := 21) (by decide) (by decide) (fun v14 s14 p14 hv k14 g14 f1 f0 => ⟨fun cv => ?_, fun cv => ?_⟩)
  rotate_left
  · have c21 := hv.1 cv
    rw [f1 c21] at g14
    have h6 : kd (p + 1) ≠ 6 := by omega
    refine kk s14 (p + 2) [] ?_ (by omega) g14 (kp_tr (kp_sub k0 rfl rfl) (kp_tr (kp_sub k8 rfl rfl) (kp_sub k14 rfl rfl))) (hr0 s14 (kp_tr k8 k14))
    rw [hd (some (p + 1, [])) (by rw [if_neg h6, if_pos c21])]
    exact if_pos c21
  have c21 : kd (p + 1) ≠ 21 := fun h => (hv.2 h) cv
  rw [f0 c21] at g14
  have tk14 : RTk s14 kd n := rtk_k k14 (fun _ => rfl) rfl tk8
  have e14 : (s14 0 10).toNatClampNeg = p + 1 := nat_of g14.1
  have r6 : (s14 2 (p + 1)).toInt = 6 ↔ kd (p + 1) = 6 := rk_to tk14 g14.2 6 (by decide) (j := 6) (by decide)
  rw [e14]
  refine fun _ => ⟨fun n6 => ?_, fun c6 => ?_⟩
  rotate_left
  · have k6 := r6.1 c6
    have ka : Kp [(0, 10)] [] s14 (upC s14 0 10 ((s14 0 10) + (1 : Int32))) := kp_f kp_rf rfl
    have ga := gm_up tk14 g14 (by omega)
    have tka : RTk (upC s14 0 10 ((s14 0 10) + (1 : Int32))) kd n := rtk_k ka (fun _ => rfl) rfl tk14
    have hd6 := hd (some (p + 2, [])) (by rw [if_pos k6])
    refine mr_expect tka ga (c := 21) (by decide) (by decide) (fun c s48 k48 g48 => ?_) (fun c => kn (by rw [hd6]; exact if_neg c))
    exact kk s48 (p + 3) [] (by rw [hd6]; exact if_pos c) (by omega) g48 (kp_tr (kp_sub k0 rfl rfl) (kp_tr (kp_sub k8 rfl rfl) (kp_tr (kp_sub k14 rfl rfl) (kp_tr (kp_sub ka rfl rfl) (kp_sub k48 rfl rfl))))) (hr0 s48 (kp_tr k8 (kp_tr k14 (kp_tr ka k48))))
  have k6 : kd (p + 1) ≠ 6 := fun h => n6 (r6.2 h)
  have hdp := hd (PMn kd 8 (p + 1)) (by rw [if_neg k6, if_neg c21])
  refine ⟨fun s t z => t = τ ∧ z = vs ∧ ∃ (p1 : Nat) (l0 : List (Nat × Nat)), p + 1 ≤ p1 ∧ GMt s n p1 ∧ Kp [(0, 10), (0, 64)] [37, 38, 39] σ s ∧ HRq kd n s l0 ∧ ∀ R, PMn kd (8 - l0.length) p1 = R → PMn kd 8 (p + 1) = R.map (fun r => (r.1, l0 ++ r.2)), ⟨rfl, rfl, p + 1, [], Nat.le_refl _, g14, kp_tr (kp_sub k0 rfl rfl) (kp_tr (kp_sub k8 rfl rfl) (kp_sub k14 rfl rfl)), hr0 s14 (kp_tr k8 k14), fun R h => ?_⟩, ?_⟩
  · show PMn kd 8 (p + 1) = R.map (fun r => (r.1, [] ++ r.2))
    rw [← h]
    show PMn kd 8 (p + 1) = (PMn kd 8 (p + 1)).map (fun r => (r.1, [] ++ r.2))
    cases PMn kd 8 (p + 1) with
    | none => rfl
    | some r => rfl
  rintro s t z ⟨et, ez, p1, l0, hp, g1, kσ, hH, hR⟩
  rw [et, ez]
  have tk1 : RTk s kd n := rtk_k kσ (fun _ => rfl) rfl tk
  have e1 : (s 0 10).toNatClampNeg = p1 := nat_of g1.1
  have r5 : (s 2 p1).toInt = 5 ↔ kd p1 = 5 := rk_to tk1 g1.2 5 (by decide) (j := 5) (by decide)
  have none_of : PMn kd (8 - l0.length) p1 = none → F0 := fun h => kn (by rw [hdp, hR _ h]; rfl)
  rw [e1]
  refine fun _ => ⟨kd p1 ≠ 5 ∨ l0.length = 8, fun hj => ?_, fun c => Or.inl (fun h => c (r5.2 h)), fun c => ⟨fun c8 => ?_, fun c8 => Or.inr (by have := hH.1; omega)⟩⟩
  · unfold pp_wrong pp_wrongAt
    refine fun _ => none_of ?_
    rcases hj with h | h
    · cases h8 : 8 - l0.length with
      | zero => rfl
      | succ k => unfold PMn; rw [if_neg h]
    · rw [h]
      rfl
  have k5 := r5.1 c
  have hlt : l0.length < 8 := by
    have h1 := hH.1
    have h2 := hH.2.1
    omega
  have e8 : 8 - l0.length = (8 - (l0.length + 1)) + 1 := by omega
  have ka : Kp [(0, 10)] [] s (upC s 0 10 ((s 0 10) + (1 : Int32))) := kp_f kp_rf rfl
  have ga := gm_up tk1 g1 (by omega)
  generalize upC s 0 10 ((s 0 10) + (1 : Int32)) = sa at ka ga
  have tka : RTk sa kd n := rtk_k ka (fun _ => rfl) rfl tk1
  refine mr_stars tka ga (fun y s90 i q hy hi hs hq g90 k90 => ?_) (fun hs => none_of (by rw [e8, PMn, if_pos k5, hs]; rfl))
  have tk90 : RTk s90 kd n := rtk_k k90 (fun _ => rfl) rfl tka
  have e90 : (s90 0 10).toNatClampNeg = q := nat_of g90.1
  have r2 : (s90 2 q).toInt = 2 ↔ kd q = 2 := rk_to tk90 g90.2 2 (by decide) (j := 2) (by decide)
  have kb : Kp [(0, 10)] [] s s90 := kp_tr ka k90
  rw [e90]
  refine fun _ => ⟨fun x s' t' z' => t' = τ ∧ z' = vs ∧ Kp [(0, 10)] [] s s' ∧ GMt s' n (if kd q = 2 then q + 1 else q) ∧ (kd q = 2 → x.toInt = (q : Int)) ∧ (kd q ≠ 2 → x.toInt < 0), ?_, fun c2 => ⟨rfl, rfl, kb, ?_, fun h => absurd (r2.2 h) c2, fun _ => by decide⟩, fun c2 => ⟨rfl, rfl, kp_tr kb (kp_f kp_rf rfl), ?_, fun _ => g90.1, fun h => absurd (r2.1 c2) h⟩⟩
  rotate_left
  · rw [if_neg (fun h => c2 (r2.2 h))]
    exact g90
  · rw [if_pos (r2.1 c2)]
    exact gm_up tk90 g90 (by have := r2.1 c2; omega)
  rintro x s124 t124 z124 ⟨et1, ez1, k124, g124, x2, x0⟩
  rw [et1, ez1]
  have tk124 : RTk s124 kd n := rtk_k k124 (fun _ => rfl) rfl tk1
  -- behind the name: [ ] or not
  have pm : ∀ R, ((if kd (if kd q = 2 then q + 1 else q) = 24 then (if kd ((if kd q = 2 then q + 1 else q) + 1) = 25 then some ((if kd q = 2 then q + 1 else q) + 2, i + 1) else none) else some ((if kd q = 2 then q + 1 else q), i)).bind fun e => if kd e.1 = 26 then (PMn kd (8 - (l0.length + 1)) (e.1 + 1)).bind fun r => some (r.1, (e.2, if kd q = 2 then q else e.1) :: r.2) else some (e.1, [(e.2, if kd q = 2 then q else e.1)])) = R → PMn kd (8 - l0.length) p1 = R := fun R h => by
    rw [e8, PMn, if_pos k5, hs]
    exact h
  generalize hq1 : (if kd q = 2 then q + 1 else q) = q1 at g124 pm
  have hqq : q ≤ q1 := by rw [← hq1]; split <;> omega
  refine mr_accept1 tk124 g124 (c := 24) (by decide) (by decide) (fun v127 s127 p127 hv127 k127 g127 f24 n24 => ⟨fun x1 s' t' z' => t' = τ ∧ z' = vs ∧ ∃ (q2 i2 : Nat), q1 ≤ q2 ∧ x1.toInt = (i2 : Int) ∧ i2 ≤ 6 ∧ Kp [(0, 10)] [] s s' ∧ GMt s' n q2 ∧ ∀ R, (if kd q2 = 26 then (PMn kd (8 - (l0.length + 1)) (q2 + 1)).bind fun r => some (r.1, (i2, if kd q = 2 then q else q2) :: r.2) else some (q2, [(i2, if kd q = 2 then q else q2)])) = R → PMn kd (8 - l0.length) p1 = R, ?_, fun c0 => ?_, fun c1 => ?_⟩)
  rotate_left
  · have c24 : kd q1 ≠ 24 := fun h => (hv127.2 h) c0
    rw [n24 c24] at g127
    exact ⟨rfl, rfl, q1, i, Nat.le_refl _, hy, by omega, kp_tr k124 k127, g127, fun R h => pm R (by rw [if_neg c24]; exact h)⟩
  · have c24 := hv127.1 c1
    rw [f24 c24] at g127
    have tk127 : RTk s127 kd n := rtk_k k127 (fun _ => rfl) rfl tk124
    refine mr_expect tk127 g127 (c := 25) (by decide) (by decide) (fun c25 s136 k136 g136 => ⟨rfl, rfl, q1 + 2, i + 1, by omega, ?_, by omega, kp_tr k124 (kp_tr k127 k136), g136, fun R h => pm R (by rw [if_pos c24, if_pos c25]; exact h)⟩) (fun c25 => none_of (pm none (by rw [if_pos c24, if_neg c25]; rfl)))
    show (y + (1 : Int32)).toInt = _
    rw [ad1 (by omega), hy]
    rfl
  rintro x1 s142 t142 z142 ⟨et2, ez2, q2, i2, hq2, hx1, hi2, k142, g142, pm2⟩
  rw [et2, ez2]
  have hH142 : HRq kd n s142 l0 := by
    obtain ⟨b1, b2, b3⟩ := hH
    refine ⟨by rw [k142 0 64 rfl rfl]; exact b1, b2, fun k x hx => ?_⟩
    rw [k142 37 k rfl rfl, k142 38 k rfl rfl]
    exact b3 k x hx
  have kσ142 : Kp [(0, 10), (0, 64)] [37, 38, 39] σ s142 := kp_tr kσ (kp_sub k142 rfl rfl)
  have tk142 : RTk s142 kd n := rtk_k k142 (fun _ => rfl) rfl tk1
  refine fun _ _ _ => ?_
  have kc : Kp [(0, 64)] [37, 38, 39] s142 (upC (upC (upC (upC s142 37 (s142 0 64).toNatClampNeg x1) 38 (s142 0 64).toNatClampNeg x) 39 (s142 0 64).toNatClampNeg (s142 0 10)) 0 64 ((s142 0 64) + (1 : Int32))) := kp_f (kp_a (kp_a (kp_a kp_rf rfl) rfl) rfl) rfl
  have hadd : ∀ s', Kp [(0, 10)] [] (upC (upC (upC (upC s142 37 (s142 0 64).toNatClampNeg x1) 38 (s142 0 64).toNatClampNeg x) 39 (s142 0 64).toNatClampNeg (s142 0 10)) 0 64 ((s142 0 64) + (1 : Int32))) s' → (kd q ≠ 2 → kd q2 ≠ 2) → HRq kd n s' (l0 ++ [(i2, if kd q = 2 then q else q2)]) := fun s' k' hn2 => by
    refine hr_add hH142 hlt hi2 ?_ hx1 ?_ ?_ k'
    · show (if kd q = 2 then q else q2) ≤ n
      have := g90.2
      have := g142.2
      split <;> omega
    · show kd (if kd q = 2 then q else q2) = 2 → x.toInt = ((if kd q = 2 then q else q2 : Nat) : Int)
      by_cases cq : kd q = 2
      · rw [if_pos cq]; exact fun _ => x2 cq
      · rw [if_neg cq]; exact fun h => absurd h (hn2 cq)
    · show kd (if kd q = 2 then q else q2) ≠ 2 → x.toInt < 0
      by_cases cq : kd q = 2
      · rw [if_pos cq]; exact fun h => absurd cq h
      · rw [if_neg cq]; exact fun _ => x0 cq
  have g142' : GMt (upC (upC (upC (upC s142 37 (s142 0 64).toNatClampNeg x1) 38 (s142 0 64).toNatClampNeg x) 39 (s142 0 64).toNatClampNeg (s142 0 10)) 0 64 ((s142 0 64) + (1 : Int32))) n q2 := gm_k g142 (kc 0 10 rfl rfl)
  have tk142' : RTk (upC (upC (upC (upC s142 37 (s142 0 64).toNatClampNeg x1) 38 (s142 0 64).toNatClampNeg x) 39 (s142 0 64).toNatClampNeg (s142 0 10)) 0 64 ((s142 0 64) + (1 : Int32))) kd n := rtk_k kc (fun _ => rfl) rfl tk142
  generalize upC (upC (upC (upC s142 37 (s142 0 64).toNatClampNeg x1) 38 (s142 0 64).toNatClampNeg x) 39 (s142 0 64).toNatClampNeg (s142 0 10)) 0 64 ((s142 0 64) + (1 : Int32)) = sb at kc hadd g142' tk142'
  refine mr_accept1 tk142' g142' (c := 26) (by decide) (by decide) (fun v188 s188 p188 hv188 k188 g188 f26 n26 => ⟨fun c1 => ?_, fun c0 => ?_⟩)
  · have c26 := hv188.1 c1
    rw [f26 c26] at g188
    refine ⟨rfl, rfl, q2 + 1, l0 ++ [(i2, if kd q = 2 then q else q2)], by omega, g188, kp_tr kσ142 (kp_tr (kp_sub kc rfl rfl) (kp_sub k188 rfl rfl)), hadd s188 k188 (fun _ => by omega), fun R h => ?_⟩
    rw [List.length_append] at h
    replace h : PMn kd (8 - (l0.length + 1)) (q2 + 1) = R := h
    have := hR _ (pm2 _ (by rw [if_pos c26, h]))
    rw [this]
    cases R with
    | none => rfl
    | some r =>
      show some (r.1, l0 ++ ((i2, if kd q = 2 then q else q2) :: r.2)) = some (r.1, l0 ++ [(i2, if kd q = 2 then q else q2)] ++ r.2)
      rw [List.append_assoc]
      rfl
  · have c26 : kd q2 ≠ 26 := fun h => (hv188.2 h) c0
    rw [n26 c26] at g188
    have tk188 : RTk s188 kd n := rtk_k k188 (fun _ => rfl) rfl tk142'
    have hpm := hR _ (pm2 _ (by rw [if_neg c26]))
    rw [hpm] at hdp
    refine mr_expect tk188 g188 (c := 21) (by decide) (by decide) (fun c s197 k197 g197 => ?_) (fun c => kn (by rw [hdp]; exact if_neg c))
    exact kk s197 (q2 + 1) (l0 ++ [(i2, if kd q = 2 then q else q2)]) (by rw [hdp]; exact if_pos c) (by omega) g197 (kp_tr kσ142 (kp_tr (kp_sub kc rfl rfl) (kp_tr (kp_sub k188 rfl rfl) (kp_sub k197 rfl rfl)))) (hadd s197 (kp_tr k188 k197) (fun _ => by omega))
end HEA
end

section
/-! a function's name: the reference -/
def JFm (σ : St) (e : Nat) (res st : Int32) (body : Prop) (l : List (Nat × Nat)) : Prop := (σ 9 e).toInt = 2 ∧ ((σ 10 e).toInt = res.toInt ∧ (σ 15 e).toInt = (l.length : Int) ∧ ∀ k x, l[k]? = some x → (σ 16 (8 * e + k)).toInt = (x.1 : Int)) ∧ (σ 12 e).toInt = st.toInt ∧ ¬ (body ∧ (σ 13 e).toInt ≠ 0)
def FNf (σ s : St) (lo m u : Nat) (v res st : Int32) (body : Prop) (l : List (Nat × Nat)) (rr : Int) : Prop :=
  (rr = -1 ∧ m = 100 ∧ v.toInt < 0 ∧ KFr σ s ∧ FTq σ s True)
  ∨ (rr = -1 ∧ m < 100 ∧ lo + m < 10000 ∧ v.toInt = ((lo + m : Nat) : Int) ∧ ∃ s1, DCf σ s1 u (lo + m) m 2 ∧ Kp [] [10, 12, 15, 16] s1 s ∧ (∀ j, s 10 j = if j = lo + m then res else σ 10 j) ∧ (∀ j, s 12 j = if j = lo + m then vp_nar .boolean st else σ 12 j) ∧ (∀ j, j ≠ lo + m → s 15 j = σ 15 j) ∧ (s 15 (lo + m)).toInt = (l.length : Int) ∧ (∀ x, x < 8 * (lo + m) → s 16 x = σ 16 x) ∧ (∀ x, s 16 x = σ 16 x ∨ 0 ≤ (s 16 x).toInt) ∧ ∀ k x, l[k]? = some x → (s 16 (8 * (lo + m) + k)).toInt = (x.1 : Int))
  ∨ ∃ r : Nat, rr = ((lo + r : Nat) : Int) ∧ r < m ∧ KFr σ s ∧ FTq σ s (¬ JFm σ (lo + r) res st body l) ∧ v.toInt = ((lo + r : Nat) : Int)
section FNM
variable {w s r σ σ' σ1 σ2 τ t : St} {kd vl : Nat → Int} {n m lo d p u e : Nat} {vs z : List Nat} {F0 : Prop} {a1 a2 a3 v7 v14 : Int32} {l : List (Nat × Nat)} {body : Prop}
theorem m8l {x : Int32} (h0 : 0 ≤ x.toInt) (h1 : x.toInt ≤ 100000) : ((8 : Int32) * x).toInt = 8 * x.toInt := by
  rw [Int32.toInt_mul]
  have e8 : ((8 : Int32)).toInt = 8 := rfl
  rw [e8, Int.bmod_def]
  have e : ((2 ^ 32 : Nat) : Int) = 4294967296 := by decide
  rw [e]
  split <;> omega
theorem l_at {k : Nat} (h : k < l.length) : ∃ x, l[k]? = some x := ⟨l[k], List.getElem?_eq_getElem h⟩
theorem mr_sameHead {Q : Int32 → Prop} (hv : a1.toInt = (e : Int)) (he : e < 10000) (hH : HRq kd n σ l) (h15 : 0 ≤ (σ 15 e).toInt ∨ True) (k1 : ((σ 10 e).toInt = a2.toInt ∧ (σ 15 e).toInt = (l.length : Int) ∧ ∀ k x, l[k]? = some x → (σ 16 (8 * e + k)).toInt = (x.1 : Int)) → Q 1) (k0 : ¬ ((σ 10 e).toInt = a2.toInt ∧ (σ 15 e).toInt = (l.length : Int) ∧ ∀ k x, l[k]? = some x → (σ 16 (8 * e + k)).toInt = (x.1 : Int)) → Q 0) : pp_isSameHead a1 a2 σ τ vs Q := by
  obtain ⟨h1, h2, h3⟩ := hH
  unfold pp_isSameHead
  have en : a1.toNatClampNeg = e := nat_of hv
  rw [en, h1]
  refine fun _ => ⟨fun c => k0 (fun h => c h.1), fun c10 _ => ⟨fun c15 => ?_, fun c => k0 (fun h => c h.2.1)⟩⟩
  refine ⟨fun x => ∃ k : Nat, x.toInt = (k : Int) ∧ k ≤ l.length ∧ ∀ q y, q < k → l[q]? = some y → (σ 16 (8 * e + q)).toInt = (y.1 : Int), ⟨0, rfl, Nat.zero_le _, fun q y h => absurd h (Nat.not_lt_zero q)⟩, ?_⟩
  rintro x ⟨k, hx, hk, hq⟩
  refine ⟨fun c => k1 ⟨c10, c15, fun q y hy => hq q y (by
    have := (List.getElem?_eq_some_iff.mp hy).1
    omega) hy⟩, fun c _ _ => ?_⟩
  obtain ⟨y, hy⟩ := l_at (l := l) (k := k) (by omega)
  have e8 : (((8 : Int32) * a1) + x).toInt = ((8 * e + k : Nat) : Int) := by
    rw [ad (by rw [m8l (by omega) (by omega)]; omega) (by rw [m8l (by omega) (by omega)]; omega), m8l (by omega) (by omega), hv, hx]
    omega
  have n8 : (((8 : Int32) * a1) + x).toNatClampNeg = 8 * e + k := nat_of e8
  have nx : x.toNatClampNeg = k := nat_of hx
  have h37 := (h3 k y hy).1
  rw [n8, nx, h37]
  refine ⟨fun ce => ⟨k + 1, by show (x + (1 : Int32)).toInt = _; rw [ad1 (by omega), hx]; rfl, by omega, fun q y' hq' hy' => ?_⟩, fun ce => k0 (fun h => ce (h.2.2 k y hy))⟩
  by_cases cq : q = k
  · rw [cq] at hy' ⊢
    rw [hy] at hy'
    rw [← Option.some.inj hy']
    exact ce
  · exact hq q y' (by omega) hy'
theorem mr_fname {J162 : Int32 → St → St → List Nat → Prop} (ha : a1.toInt = (u : Int)) (tu : TNm σ u) (hE : EOKm σ lo (lo + m)) (hm : m ≤ 100) (h0 : 0 ≤ (σ 0 12).toInt) (hH : HRq kd n σ l) (hb : v7.toInt ≠ 0 ↔ body) (he : EFm σ lo (lo + m) u v14.toInt) (kk : ∀ v s, FNf σ s lo m u v a2 a3 body l v14.toInt → J162 v s τ vs) : ((v14.toInt < 0 → (pp_declare a1 (2 : Int32) σ τ vs (fun v87 s87 t87 z87 => (v87.toInt < 0 → (J162 v87 s87 t87 z87)) ∧ (0 ≤ v87.toInt → ((0 ≤ v87.toInt ∧ v87.toInt < 10000) → ((0 ≤ v87.toInt ∧ v87.toInt < 10000) → ((0 ≤ v87.toInt ∧ v87.toInt < 10000) → (∃ L127 : Int32 → St → St → List Nat → Prop, (L127 (0 : Int32) (upC (upC (upC s87 10 v87.toNatClampNeg a2) 12 v87.toNatClampNeg (vp_nar .boolean a3)) 15 v87.toNatClampNeg (s87 0 64)) t87 z87) ∧ ∀ (x6_127 : Int32) (s127 t127 : St) (z127 : List Nat), L127 x6_127 s127 t127 z127 → (((s127 0 64).toInt ≤ x6_127.toInt → (J162 v87 s127 t127 z127)) ∧ (x6_127.toInt < (s127 0 64).toInt → ((0 ≤ x6_127.toInt ∧ x6_127.toInt < 8) → ((0 ≤ (((8 : Int32) * v87) + x6_127).toInt ∧ (((8 : Int32) * v87) + x6_127).toInt < 80000) → (L127 (x6_127 + 1) (upC s127 16 (((8 : Int32) * v87) + x6_127).toNatClampNeg (s127 37 x6_127.toNatClampNeg)) t127 z127))))))))))))) ∧ (0 ≤ v14.toInt → ((0 ≤ v14.toInt ∧ v14.toInt < 10000) → (∃ J77 : Int32 → Prop, (∀ (y1_77 : Int32), y1_77 = 0 ∨ y1_77 = 1 → (J77 y1_77 → (pp_must y1_77 a1 σ τ vs (fun s78 t78 z78 => J162 v14 s78 t78 z78)))) ∧ (∃ J76 : Prop, (J76 → (J77 (0 : Int32))) ∧ (((σ 9 v14.toNatClampNeg).toInt ≠ 2 → (J76)) ∧ ((σ 9 v14.toNatClampNeg).toInt = 2 → (pp_isSameHead v14 a2 σ τ vs (fun v40 => (v40.toInt = 0 → (J76)) ∧ (v40.toInt ≠ 0 → ((0 ≤ v14.toInt ∧ v14.toInt < 10000) → (((σ 12 v14.toNatClampNeg).toInt ≠ a3.toInt → (J76)) ∧ ((σ 12 v14.toNatClampNeg).toInt = a3.toInt → (∃ J72 : Prop, (J72 → (J77 (1 : Int32))) ∧ ((v7.toInt = 0 → (J72)) ∧ (v7.toInt ≠ 0 → ((0 ≤ v14.toInt ∧ v14.toInt < 10000) → (((σ 13 v14.toNatClampNeg).toInt ≠ 0 → (J76)) ∧ ((σ 13 v14.toNatClampNeg).toInt = 0 → (J72)))))))))))))))))))) := by
  refine ⟨fun c => ?_, fun c _ => ?_⟩
  · have hrr : v14.toInt = -1 := by
      rcases he with ⟨e, h1, h2, h3, h4, h5⟩ | ⟨h1, h2⟩
      · omega
      · exact h2
    rw [hrr] at kk
    refine mr_declare ha tu hE hm h0 (fun e100 s k f => ⟨fun _ => kk _ _ (Or.inl ⟨rfl, e100, by decide, k, f⟩), fun cx => absurd cx (by decide)⟩) (fun hm1 hlm v s1 hv hd => ⟨fun cx => by omega, fun _ _ _ _ => ?_⟩)
    have en : v.toNatClampNeg = lo + m := nat_of hv
    rw [en]
    have e64 : s1 0 64 = σ 0 64 := hd.1 0 64 rfl rfl
    have nn := dcf_n hd
    have s10 : s1 10 = σ 10 := nn 10 (by decide) (by decide) (by decide) (by decide) (by decide) (by decide) (by decide) (by decide)
    have s12 : s1 12 = σ 12 := nn 12 (by decide) (by decide) (by decide) (by decide) (by decide) (by decide) (by decide) (by decide)
    have s15 : s1 15 = σ 15 := nn 15 (by decide) (by decide) (by decide) (by decide) (by decide) (by decide) (by decide) (by decide)
    have s16 : s1 16 = σ 16 := nn 16 (by decide) (by decide) (by decide) (by decide) (by decide) (by decide) (by decide) (by decide)
    have s37 : s1 37 = σ 37 := nn 37 (by decide) (by decide) (by decide) (by decide) (by decide) (by decide) (by decide) (by decide)
    have k0 : Kp [] [10, 12, 15] s1 (upC (upC (upC s1 10 (lo + m) a2) 12 (lo + m) (vp_nar .boolean a3)) 15 (lo + m) (s1 0 64)) := kp_a (kp_a (kp_a kp_rf rfl) rfl) rfl
    have a10 : ∀ j, (upC (upC (upC s1 10 (lo + m) a2) 12 (lo + m) (vp_nar .boolean a3)) 15 (lo + m) (s1 0 64)) 10 j = if j = lo + m then a2 else σ 10 j := fun j => by rw [rdC_ne (by decide), rdC_ne (by decide), rdC_eq, s10]
    have a12 : ∀ j, (upC (upC (upC s1 10 (lo + m) a2) 12 (lo + m) (vp_nar .boolean a3)) 15 (lo + m) (s1 0 64)) 12 j = if j = lo + m then vp_nar .boolean a3 else σ 12 j := fun j => by rw [rdC_ne (by decide), rdC_eq, rdC_ne (by decide), s12]
    have a15 : ∀ j, (upC (upC (upC s1 10 (lo + m) a2) 12 (lo + m) (vp_nar .boolean a3)) 15 (lo + m) (s1 0 64)) 15 j = if j = lo + m then σ 0 64 else σ 15 j := fun j => by rw [rdC_eq, rdC_ne (by decide), rdC_ne (by decide), s15, e64]
    generalize upC (upC (upC s1 10 (lo + m) a2) 12 (lo + m) (vp_nar .boolean a3)) 15 (lo + m) (s1 0 64) = S0 at k0 a10 a12 a15
    refine ⟨fun x s t z => t = τ ∧ z = vs ∧ Kp [] [16] S0 s ∧ ∃ k : Nat, x.toInt = (k : Int) ∧ k ≤ l.length ∧ (∀ x, x < 8 * (lo + m) → s 16 x = σ 16 x) ∧ (∀ x, s 16 x = σ 16 x ∨ 0 ≤ (s 16 x).toInt) ∧ ∀ q y, q < k → l[q]? = some y → (s 16 (8 * (lo + m) + q)).toInt = (y.1 : Int), ⟨rfl, rfl, kp_rf, 0, rfl, Nat.zero_le _, fun x _ => ?_, fun x => Or.inl ?_, fun q y h => absurd h (Nat.not_lt_zero q)⟩, ?_⟩
    · rw [k0 16 x rfl rfl, s16]
    · rw [k0 16 x rfl rfl, s16]
    rintro x s t z ⟨et, ez, k1, k, hx, hk, g1, g2, g3⟩
    rw [et, ez]
    have f64 : (s 0 64).toInt = (l.length : Int) := by rw [k1 0 64 rfl rfl, k0 0 64 rfl rfl, e64]; exact hH.1
    rw [f64]
    refine ⟨fun c1 => ?_, fun c1 _ _ => ⟨rfl, rfl, kp_a k1 rfl, k + 1, by show (x + (1 : Int32)).toInt = _; rw [ad1 (by omega), hx]; rfl, by omega, ?_⟩⟩
    · refine kk _ _ (Or.inr (Or.inl ⟨rfl, hm1, hlm, hv, s1, hd, kp_tr (kp_sub k0 rfl rfl) (kp_sub k1 rfl rfl), fun j => ?_, fun j => ?_, fun j hj => ?_, ?_, g1, g2, fun q y hy => g3 q y ?_ hy⟩))
      · rw [k1 10 j rfl rfl]; exact a10 j
      · rw [k1 12 j rfl rfl]; exact a12 j
      · rw [k1 15 j rfl rfl, a15, if_neg hj]
      · rw [k1 15 (lo + m) rfl rfl, a15, if_pos rfl]; exact hH.1
      · have := (List.getElem?_eq_some_iff.mp hy).1
        omega
    · have h28 := hH.2.1
      have e8 : (((8 : Int32) * v) + x).toInt = ((8 * (lo + m) + k : Nat) : Int) := by
        rw [ad (by rw [m8l (by omega) (by omega)]; omega) (by rw [m8l (by omega) (by omega)]; omega), m8l (by omega) (by omega), hv, hx]
        omega
      have n8 : (((8 : Int32) * v) + x).toNatClampNeg = 8 * (lo + m) + k := nat_of e8
      have nx : x.toNatClampNeg = k := nat_of hx
      obtain ⟨y, hy⟩ := l_at (l := l) (k := k) (by omega)
      have h37 := (hH.2.2 k y hy).1
      have e37 : s 37 k = σ 37 k := by rw [k1 37 k rfl rfl, k0 37 k rfl rfl, s37]
      rw [n8, nx, e37]
      refine ⟨fun q hq => ?_, fun q => ?_, fun q y' hq hy' => ?_⟩
      · rw [rdA_ne (by omega)]; exact g1 q hq
      · by_cases cq : q = 8 * (lo + m) + k
        · rw [rdA_eq cq]
          exact Or.inr (by omega)
        · rw [rdA_ne cq]; exact g2 q
      · by_cases cq : q = k
        · rw [cq] at hy' ⊢
          rw [hy] at hy'
          rw [rdA_eq rfl, ← Option.some.inj hy']
          exact h37
        · rw [rdA_ne (by omega)]
          exact g3 q y' (by omega) hy'
  · obtain ⟨r, hr, er⟩ : ∃ r : Nat, r < m ∧ v14.toInt = ((lo + r : Nat) : Int) := by
      rcases he with ⟨e, h1, h2, h3, h4, h5⟩ | ⟨h1, h2⟩
      · exact ⟨e - lo, by omega, by omega⟩
      · omega
    have en : v14.toNatClampNeg = lo + r := nat_of er
    have hl9 : lo + r < 10000 := by
      have := hE.2.2.2.1
      omega
    rw [en]
    refine ⟨fun y => (y.toInt ≠ 0 ↔ JFm σ (lo + r) a2 a3 body l), fun y _ hy => mr_must h0 (fun s k f => kk _ _ (Or.inr (Or.inr ⟨r, er, hr, k, ft_iff f ⟨fun h hx => (hy.2 hx) h, fun h => Decidable.byContradiction (fun hx => h (hy.1 hx))⟩, er⟩))), ¬ JFm σ (lo + r) a2 a3 body l, fun hj => ⟨fun h => absurd rfl h, fun h => absurd h hj⟩, fun c9 h => c9 h.1, fun c9 => mr_sameHead er hl9 hH (Or.inr trivial) (fun hs => ⟨fun h => absurd h (by decide), fun _ _ => ⟨fun c12 h => c12 h.2.2.1, fun c12 => ⟨JFm σ (lo + r) a2 a3 body l, fun hj => ⟨fun _ => hj, fun _ => by decide⟩, fun c7 => ⟨c9, hs, c12, fun h => (hb.2 h.1) c7⟩, fun c7 _ => ⟨fun c13 h => h.2.2.2 ⟨hb.1 c7, c13⟩, fun c13 => ⟨c9, hs, c12, fun h => h.2 c13⟩⟩⟩⟩⟩) (fun hs => ⟨fun _ h => hs h.2.1, fun h => absurd rfl h⟩)⟩
/-- the reference's details behind a function's name -/
def GFd (σ s : St) (u m lo m' : Nat) (res st : Int32) (body : Prop) (l : List (Nat × Nat)) (rr : Int) : Prop :=
  (rr = -1 → m' = m + 1 ∧ ∃ s1, DCf σ s1 u (lo + m) m 2 ∧ Kp [(0, 10), (0, 12), (0, 13), (0, 37)] [10, 11, 12, 13, 15, 16, 17] s1 s ∧ s 11 = σ 11 ∧ (∀ j, s 10 j = if j = lo + m then res else σ 10 j) ∧ (∀ j, j ≠ lo + m → s 12 j = σ 12 j) ∧ (((s 12 (lo + m)).toInt ≠ 0 ↔ st.toInt ≠ 0) ∧ ((s 12 (lo + m)).toInt = 0 ∨ (s 12 (lo + m)).toInt = 1)) ∧ (∀ j, j ≠ lo + m → s 15 j = σ 15 j) ∧ (s 15 (lo + m)).toInt = (l.length : Int) ∧ (∀ x, x < 8 * (lo + m) → s 16 x = σ 16 x) ∧ (∀ k x, l[k]? = some x → (s 16 (8 * (lo + m) + k)).toInt = (x.1 : Int)) ∧ (∀ j, j ≠ lo + m → s 13 j = σ 13 j) ∧ ((s 13 (lo + m)).toInt ≠ 0 ↔ body))
  ∧ (∀ r : Nat, rr = ((lo + r : Nat) : Int) → m' = m ∧ Kp [(0, 10), (0, 12), (0, 13), (0, 37)] [11, 13, 17] σ s ∧ s 11 = σ 11 ∧ (∀ j, j ≠ lo + r → s 13 j = σ 13 j) ∧ ((s 13 (lo + r)).toInt ≠ 0 ↔ body ∨ (σ 13 (lo + r)).toInt ≠ 0)) ∧ s 0 37 = σ 0 37
def BFm (σ : St) (m lo : Nat) (res st : Int32) (body : Prop) (l : List (Nat × Nat)) (rr : Int) : Prop := (rr = -1 ∧ m = 100) ∨ ∃ r : Nat, rr = ((lo + r : Nat) : Int) ∧ ¬ JFm σ (lo + r) res st body l
/-- what stands where the body begins, if one does -/
def DFf (s2 s3 : St) (v : Int32) (body : Prop) : Prop := (¬ body ∧ s3 = s2) ∨ (body ∧ ((s3 = s2 ∧ (v.toInt < 0 ∨ ∃ e : Nat, v.toInt = (e : Int) ∧ (s2 9 e).toInt ≠ 2)) ∨ ∃ e : Nat, v.toInt = (e : Int) ∧ (s2 9 e).toInt = 2 ∧ Kp [] [13, 17] s2 s3 ∧ ∀ j, s3 13 j = if j = e then 1 else s2 13 j))
theorem fn_fin {v : Int32} {rr : Int} {s2 s3 : St} {S : Nat} (hG : RGs kd vl n S m lo d σ) (hu : u ≤ n) (ku : kd u = 2) (hres : -1 ≤ a2.toInt ∧ a2.toInt ≤ 5) (hst : a3 = 0 ∨ a3 = 1) (hl8 : l.length ≤ 8) (hgn : FNf σ s2 lo m u v a2 a3 body l rr) (hdf : DFf s2 s3 v body) : ∃ m', RGs kd vl n S m' lo d s3 ∧ s3 0 10 = σ 0 10 ∧ s3 0 64 = σ 0 64 ∧ s3 37 = σ 37 ∧ s3 38 = σ 38 ∧ FTq σ s3 (BFm σ m lo a2 a3 body l rr) ∧ (¬ BFm σ m lo a2 a3 body l rr → GFd σ s3 u m lo m' a2 a3 body l rr) := by
  have h0 := rgq_0 hG.1
  rcases hgn with ⟨hr, h100, hv, k1, f1⟩ | ⟨hr, hm, hl, hv, s1, hd, k1, r10, r12, r15, r15n, r16, r16b, r16n⟩ | ⟨r, hr, hrm, k1, f1, hv⟩
  · have hbf : BFm σ m lo a2 a3 body l rr := Or.inl ⟨hr, h100⟩
    have e3 : s3 = s2 := by
      rcases hdf with h | ⟨_, h | ⟨e, h, _⟩⟩
      · exact h.2
      · exact h.1
      · omega
    rw [e3]
    exact ⟨m, rg_ds hG (ds_k k1 rfl rfl) f1.1, k1 0 10 rfl rfl, k1 0 64 rfl rfl, funext (fun j => k1 37 j rfl rfl), funext (fun j => k1 38 j rfl rfl), ft_iff f1 ⟨fun _ => hbf, fun _ => trivial⟩, fun h => absurd hbf h⟩
  · have nn := dcf_n hd
    have evb : vp_nar .boolean a3 = a3 := by
      rcases hst with h | h <;> rw [h] <;> rfl
    have e9 : s2 9 (lo + m) = 2 := by rw [k1 9 (lo + m) rfl rfl, hd.2.2.2.2.1, if_pos rfl]
    have e13 : ∀ j, s2 13 j = if j = lo + m then 0 else σ 13 j := fun j => by rw [k1 13 j rfl rfl, hd.2.2.2.2.2.1]
    have nb : ¬ BFm σ m lo a2 a3 body l rr := fun h => by
      rcases h with h | ⟨r, h, _⟩
      · omega
      · omega
    have fin : ∀ s3, Kp [] [13, 17] s2 s3 → (∀ j, j ≠ lo + m → s3 13 j = s2 13 j) → ((s3 13 (lo + m)).toInt ≠ 0 ↔ body) → ∃ m', RGs kd vl n S m' lo d s3 ∧ s3 0 10 = σ 0 10 ∧ s3 0 64 = σ 0 64 ∧ s3 37 = σ 37 ∧ s3 38 = σ 38 ∧ FTq σ s3 (BFm σ m lo a2 a3 body l rr) ∧ (¬ BFm σ m lo a2 a3 body l rr → GFd σ s3 u m lo m' a2 a3 body l rr) := fun s3 k3 q13 q13n => by
      have kz : Kp [(0, 10), (0, 12), (0, 13), (0, 37)] [10, 11, 12, 13, 15, 16, 17] s1 s3 := kp_tr (kp_sub k1 rfl rfl) (kp_sub k3 rfl rfl)
      have kx : ∀ c, c ≠ 13 → c ≠ 17 → s3 c = s2 c := fun c h1 h2 => funext (fun j => k3 c j rfl (by
        simp only [List.contains_cons, List.contains_nil, Bool.or_false, Bool.or_eq_false_iff, beq_eq_false_iff_ne, ne_eq]
        omega))
      have f0 : ∀ f, f ≠ 36 → f ≠ 31 → s3 0 f = σ 0 f := fun f h1 h2 => by
        rw [k3 0 f rfl rfl, k1 0 f rfl rfl]
        exact hd.1 0 f (by
          simp only [List.contains_cons, List.contains_nil, Bool.or_false, Bool.or_eq_false_iff, beq_eq_false_iff_ne, ne_eq, Prod.mk.injEq, not_and]
          omega) rfl
      have e12 : s3 0 12 = σ 0 12 := f0 12 (by decide) (by decide)
      have e37 : s3 0 37 = σ 0 37 := f0 37 (by decide) (by decide)
      have c11 : s3 11 = σ 11 := by
        rw [kx 11 (by decide) (by decide), show s2 11 = s1 11 from funext (fun j => k1 11 j rfl rfl)]
        exact nn 11 (by decide) (by decide) (by decide) (by decide) (by decide) (by decide) (by decide) (by decide)
      have c37 : s3 37 = σ 37 := by
        rw [kx 37 (by decide) (by decide), show s2 37 = s1 37 from funext (fun j => k1 37 j rfl rfl)]
        exact nn 37 (by decide) (by decide) (by decide) (by decide) (by decide) (by decide) (by decide) (by decide)
      have c38 : s3 38 = σ 38 := by
        rw [kx 38 (by decide) (by decide), show s2 38 = s1 38 from funext (fun j => k1 38 j rfl rfl)]
        exact nn 38 (by decide) (by decide) (by decide) (by decide) (by decide) (by decide) (by decide) (by decide)
      have b10 := kx 10 (by decide) (by decide)
      have b12 := kx 12 (by decide) (by decide)
      have b15 := kx 15 (by decide) (by decide)
      have b16 := kx 16 (by decide) (by decide)
      refine ⟨m + 1, rg_decl hG hm hl hu ku hd kz (fun j hj => by rw [b10, r10, if_neg hj]) (by rw [b10, r10, if_pos rfl]; omega) (fun h => absurd h (by decide)) (fun j hj => by rw [b15, r15 j hj]) (fun x => by rw [b16]; exact (r16b x).imp id (fun h => by omega)) (fun _ j hj => ?_) (by rw [e37]; exact rgq_D hG.1) (by rw [e12]; exact h0), f0 10 (by decide) (by decide), f0 64 (by decide) (by decide), c37, c38, ft_iff (ft_same h0 e12) ⟨False.elim, fun h => nb h⟩, fun _ => ⟨fun _ => ⟨rfl, s1, hd, kz, c11, fun j => by rw [b10]; exact r10 j, fun j hj => by rw [b12, r12, if_neg hj], ⟨by rw [b12, r12, if_pos rfl, evb], by rw [b12, r12, if_pos rfl, evb]; rcases hst with h | h <;> rw [h] <;> decide⟩, fun j hj => by rw [b15]; exact r15 j hj, by rw [b15]; exact r15n, fun x hx => by rw [b16]; exact r16 x hx, fun k x hx => by rw [b16]; exact r16n k x hx, fun j hj => by rw [q13 j hj, e13, if_neg hj], q13n⟩, fun r hr2 => by omega, e37⟩⟩
      rw [b15, r15n] at hj
      obtain ⟨y, hy⟩ := l_at (l := l) (k := j) (by omega)
      rw [b16, r16n j y hy]
      omega
    rcases hdf with ⟨hb, e3⟩ | ⟨hb, ⟨e3, h⟩ | ⟨e, he, h9, k3, g13⟩⟩
    · rw [e3]
      exact fin s2 kp_rf (fun j _ => rfl) ⟨fun h => absurd (by rw [e13, if_pos rfl]; rfl) h, fun h => absurd h hb⟩
    · exfalso
      rcases h with h | ⟨e, h1, h2⟩
      · omega
      · have : e = lo + m := by omega
        rw [this, e9] at h2
        exact h2 rfl
    · have : e = lo + m := by omega
      rw [this] at g13
      exact fin s3 k3 (fun j hj => by rw [g13, if_neg hj]) ⟨fun _ => hb, fun _ => by rw [g13, if_pos rfl]; decide⟩
  · have bd1 : BFm σ m lo a2 a3 body l rr ↔ ¬ JFm σ (lo + r) a2 a3 body l := by
      unfold BFm
      constructor
      · rintro (h | ⟨q, h1, h2⟩)
        · omega
        · have : q = r := by omega
          rw [this] at h2
          exact h2
      · exact fun h => Or.inr ⟨r, hr, h⟩
    have fin : ∀ s3, Kp [] [13, 17] s2 s3 → (∀ j, j ≠ lo + r → s3 13 j = s2 13 j) → (¬ BFm σ m lo a2 a3 body l rr → ((s3 13 (lo + r)).toInt ≠ 0 ↔ body ∨ (σ 13 (lo + r)).toInt ≠ 0)) → ∃ m', RGs kd vl n S m' lo d s3 ∧ s3 0 10 = σ 0 10 ∧ s3 0 64 = σ 0 64 ∧ s3 37 = σ 37 ∧ s3 38 = σ 38 ∧ FTq σ s3 (BFm σ m lo a2 a3 body l rr) ∧ (¬ BFm σ m lo a2 a3 body l rr → GFd σ s3 u m lo m' a2 a3 body l rr) := fun s3 k3 q13 q13n => by
      have kz : Kp [(0, 10), (0, 12), (0, 13), (0, 37)] [11, 13, 17] σ s3 := kp_tr (kp_sub k1 rfl rfl) (kp_sub k3 rfl rfl)
      have kz2 : Kp [(0, 12), (0, 13)] [13, 17] σ s3 := kp_tr (kp_sub k1 rfl rfl) (kp_sub k3 rfl rfl)
      have e12 : s3 0 12 = s2 0 12 := k3 0 12 rfl rfl
      have e37 : s3 0 37 = σ 0 37 := kz2 0 37 rfl rfl
      exact ⟨m, rg_fr hG kz (by rw [e37]; exact rgq_D hG.1) (by rw [e12]; exact f1.1), kz2 0 10 rfl rfl, kz2 0 64 rfl rfl, funext (fun j => kz2 37 j rfl rfl), funext (fun j => kz2 38 j rfl rfl), ft_k (ft_iff f1 bd1.symm) e12, fun nb => ⟨fun h => by omega, fun r' hr' => by
        have : r' = r := by omega
        rw [this]
        exact ⟨rfl, kz, funext (fun j => kz2 11 j rfl rfl), fun j hj => by rw [q13 j hj]; exact k1 13 j rfl rfl, q13n nb⟩, e37⟩⟩
    have e13 : ∀ j, s2 13 j = σ 13 j := fun j => k1 13 j rfl rfl
    have e9 : ∀ j, s2 9 j = σ 9 j := fun j => k1 9 j rfl rfl
    rcases hdf with ⟨hb, e3⟩ | ⟨hb, ⟨e3, h⟩ | ⟨e, he, h9, k3, g13⟩⟩
    · rw [e3]
      exact fin s2 kp_rf (fun j _ => rfl) (fun _ => by rw [e13]; exact ⟨Or.inr, fun h => h.elim (fun h => absurd h hb) id⟩)
    · rw [e3]
      refine fin s2 kp_rf (fun j _ => rfl) (fun nb => ?_)
      exfalso
      have jf : JFm σ (lo + r) a2 a3 body l := Classical.byContradiction (fun h => nb (bd1.2 h))
      rcases h with h | ⟨e, h1, h2⟩
      · omega
      · have : e = lo + r := by omega
        rw [this, e9] at h2
        exact h2 jf.1
    · have : e = lo + r := by omega
      rw [this] at g13
      exact fin s3 k3 (fun j hj => by rw [g13, if_neg hj]) (fun _ => ⟨fun _ => Or.inl hb, fun _ => by rw [g13, if_pos rfl]; decide⟩)
end FNM
end

section
/-! a function's name: the class; both sides -/
def JFw (w : St) (d : Nat) (res sig : Int32) (stc body : Prop) : Prop := FLq w d 1 ∧ (w 26 d).toInt = res.toInt ∧ (w 27 d).toInt = sig.toInt ∧ (FLq w d 2 ↔ stc) ∧ ¬ (body ∧ FLq w d 4)
def BFw (w : St) (m lo : Nat) (res sig : Int32) (stc body : Prop) (rr : Int) : Prop := (rr = -1 ∧ m = 100) ∨ ∃ r : Nat, rr = ((lo + r : Nat) : Int) ∧ ¬ JFw w ((w 5 1).toInt.toNat - m + r) res sig stc body
def FLg (w s : St) (d : Nat) (nw c2 c4 : Prop) : Prop := FLq s d 1 ∧ (FLq s d 2 ↔ (¬ nw ∧ FLq w d 2) ∨ c2) ∧ (FLq s d 4 ↔ (¬ nw ∧ FLq w d 4) ∨ c4) ∧ (FLq s d 8 ↔ ¬ nw ∧ FLq w d 8)
def FUf (w s : St) (u m d : Nat) (nw : Prop) (res sig : Int32) (stc body : Prop) : Prop :=
  Kp [(6, 3), (6, 4), (6, 7), (5, 7), (5, 1), (4, 1), (6, 6), (6, 10), (6, 15), (6, 17)] [25, 26, 27, 28, 29, 30, 38, 39, 45] w s ∧ (s 6 3).toInt = 0 ∧ NWf w s u m d nw ∧ (∀ j, j ≠ d → s 25 j = w 25 j ∧ s 26 j = w 26 j ∧ s 27 j = w 27 j) ∧ s 26 d = res ∧ s 27 d = sig ∧ FLg w s d nw stc body
  ∧ (body → (s 6 6).toInt = (d : Int) ∧ (s 6 10).toInt = 0 ∧ (s 6 15).toInt = 0 ∧ (s 6 17).toInt = 1 ∧ (s 45 0).toInt = 0) ∧ (¬ body → s 6 6 = w 6 6 ∧ s 6 10 = w 6 10 ∧ s 6 15 = w 6 15 ∧ s 6 17 = w 6 17 ∧ s 45 = w 45)
section XFU
variable {w s r σ σ' : St} {kd : Nat → Int} {n m m' lo u d e i : Nat} {a1 a2 a3 res sig st : Int32} {Q : St → Prop} {rr lk rs : Int} {nw c2 c4 stc body : Prop} {l : List (Nat × Nat)}
/-- the third number of a function's step -/
theorem fn_bits (hl : lk = 0 ∨ lk = 1 ∨ lk = 2) (hr : -1 ≤ rs ∧ rs ≤ 5) (hc : (a3.toInt = (rs + 1) * 8 + lk ∧ ¬ body) ∨ (a3.toInt = (rs + 1) * 8 + lk + 4 ∧ body)) : ((a3 / (8 : Int32)) - (1 : Int32)).toInt = rs ∧ ((a3 &&& (3 : Int32)).toInt = 1 ↔ lk = 1) ∧ ((a3 &&& (4 : Int32)).toInt ≠ 0 ↔ body) := by
  have key : ∀ k : Nat, k < 64 → (((Int32.ofNat k) / (8 : Int32)) - (1 : Int32)).toInt = (k : Int) / 8 - 1 ∧ ((Int32.ofNat k &&& (3 : Int32)).toInt = (k : Int) % 4) ∧ (((Int32.ofNat k) &&& (4 : Int32)).toInt ≠ 0 ↔ 4 ≤ (k : Int) % 8) := by decide
  have ek : a3 = Int32.ofNat a3.toInt.toNat := ieq (by
    rw [Int32.toInt_ofNat_of_lt (by omega)]
    omega)
  have h := key a3.toInt.toNat (by omega)
  rw [← ek] at h
  obtain ⟨h1, h2, h3⟩ := h
  rw [h1, h2, h3]
  rcases hc with ⟨hc, hb⟩ | ⟨hc, hb⟩
  · exact ⟨by omega, by omega, ⟨fun h => by omega, fun h => absurd h hb⟩⟩
  · exact ⟨by omega, by omega, ⟨fun _ => hb, fun _ => by omega⟩⟩
theorem flg_4 (h : FLg w s d nw c2 False) (e : r 25 d = (s 25 d) ||| (4 : Int32)) (h4 : c4) : FLg w r d nw c2 c4 := by
  obtain ⟨h1, h2, _, h8⟩ := h
  exact ⟨(fl_no e (by decide)).2 h1, (fl_no e (by decide)).trans h2, ⟨fun _ => Or.inr h4, fun _ => fl_yes e (by decide) (by decide)⟩, (fl_no e (by decide)).trans h8⟩
theorem flg_1 (h : FLv w s d nw False False) (e : r 25 d = (s 25 d) ||| (1 : Int32)) (h2 : ¬ c2) : FLg w r d nw c2 False := by
  obtain ⟨_, g2, g4, g8⟩ := h
  exact ⟨fl_yes e (by decide) (by decide), ((fl_no e (by decide)).trans g2).trans ⟨fun h => h.imp id False.elim, fun h => h.imp id (fun h => absurd h h2)⟩, (fl_no e (by decide)).trans g4, (fl_no e (by decide)).trans g8⟩
theorem flg_3 (h : FLv w s d nw False False) (e : r 25 d = (s 25 d) ||| (3 : Int32)) (h2 : c2) : FLg w r d nw c2 False := by
  obtain ⟨_, g2, g4, g8⟩ := h
  exact ⟨fl_yes e (by decide) (by decide), ⟨fun _ => Or.inr h2, fun _ => fl_yes e (by decide) (by decide)⟩, (fl_no e (by decide)).trans g4, (fl_no e (by decide)).trans g8⟩
theorem flg_s (h : FLg w s d nw c2 c4) (e : r 25 d = s 25 d) : FLg w r d nw c2 c4 := ⟨(fl_same e).2 h.1, (fl_same e).trans h.2.1, (fl_same e).trans h.2.2.1, (fl_same e).trans h.2.2.2⟩
theorem xf_function (hE : REq kd n 0 m lo w σ) (hf : (w 6 3).toInt = 0) (ha : a1.toInt = (u : Int)) (hu : u ≤ n) (ku : kd u = 2) (hl : lk = 0 ∨ lk = 1 ∨ lk = 2) (hr : -1 ≤ rs ∧ rs ≤ 5) (hc : (a3.toInt = (rs + 1) * 8 + lk ∧ ¬ body) ∨ (a3.toInt = (rs + 1) * 8 + lk + 4 ∧ body)) (hres : res.toInt = rs) (hst : stc ↔ lk = 1) (hrr : EFm σ lo (lo + m) u rr) (hlm : rr = -1 → m < 100 → lo + m < 10000 ∧ (σ 0 31).toInt + ((σ 4 u).toInt - (σ 3 u).toInt) ≤ 65536)
    (k1 : BFw w m lo res a2 stc body rr → ∀ s, (s 6 3).toInt ≠ 0 → Q s)
    (k0 : ¬ BFw w m lo res a2 stc body rr → ∀ s d, (rr = -1 → m < 100 ∧ d = (w 5 1).toInt.toNat) → (∀ r : Nat, rr = ((lo + r : Nat) : Int) → r < m ∧ d = (w 5 1).toInt.toNat - m + r) → FUf w s u m d (rr = -1) res a2 stc body → Q s) : pk_X1_function a1 a2 a3 w Q := by
  have hE' := hE
  obtain ⟨hT, hL, ⟨o1, o2, o3, ⟨o4, o4b⟩, o5, o6⟩, _, hY⟩ := hE'
  have o59 := o5.2.2.2.1
  obtain ⟨b8, b3, b4⟩ := fn_bits hl hr hc
  have eres : (a3 / (8 : Int32)) - (1 : Int32) = res := ieq (by rw [b8, hres])
  unfold pk_X1_function
  rw [eres]
  refine ⟨fun y => (y.toInt = 0 ∨ y.toInt = 1) ∧ (y.toInt ≠ 0 ↔ stc), fun y20 _ h20 => ⟨fun y => (y.toInt ≠ 0 ↔ body), fun y33 _ h33 => xo_find hE ha hu ku hrr (fun v40 q1 q2 q3 => ?_), fun cc => ⟨fun h => absurd rfl h, fun h => absurd cc (b4.2 h)⟩, fun cc => ⟨fun _ => b4.1 cc, fun _ => by decide⟩⟩, fun cc => ⟨Or.inl rfl, ⟨fun h => absurd rfl h, fun h => absurd (b3.2 (hst.1 h)) cc⟩⟩, fun cc => ⟨Or.inr rfl, ⟨fun _ => hst.2 (b3.1 cc), fun _ => by decide⟩⟩⟩
  have nv : v40.toInt < 0 ↔ rr = -1 := by
    constructor
    · intro h
      rcases q3 with h3 | ⟨r, h3, h4⟩
      · exact h3
      · have := q2 r h4
        omega
    · exact q1
  refine ⟨fun y => (y.toInt ≠ 0 ↔ ¬ ∃ r : Nat, rr = ((lo + r : Nat) : Int) ∧ ¬ JFw w ((w 5 1).toInt.toNat - m + r) res a2 stc body), fun y134 _ h134 => xl_checkOuter (fun s142 k142 f142 => ?_), ¬ ∃ r : Nat, rr = ((lo + r : Nat) : Int) ∧ ¬ JFw w ((w 5 1).toInt.toNat - m + r) res a2 stc body, fun hj => ⟨fun _ => hj, fun _ => by decide⟩, fun cv => ?_, fun cv => ?_⟩
  rotate_left
  · rintro ⟨r, h1, _⟩
    have := nv.1 cv
    omega
  · rcases q3 with h3 | ⟨r, h3, h4⟩
    · exact absurd (nv.2 h3) (by omega)
    · have hv := q2 r h4
      have hdn : (w 5 1).toInt.toNat - m + r < 10100 := by omega
      have e25 : atv 10100 (w 25) v40 = w 25 ((w 5 1).toInt.toNat - m + r) := atv_at hv hdn
      have e26 : atv 10100 (w 26) v40 = w 26 ((w 5 1).toInt.toNat - m + r) := atv_at hv hdn
      have e27 : atv 10100 (w 27) v40 = w 27 ((w 5 1).toInt.toNat - m + r) := atv_at hv hdn
      rw [e26, e27]
      have good : JFw w ((w 5 1).toInt.toNat - m + r) res a2 stc body → ¬ ∃ r : Nat, rr = ((lo + r : Nat) : Int) ∧ ¬ JFw w ((w 5 1).toInt.toNat - m + r) res a2 stc body := fun hj => by
        rintro ⟨r', h1, h2⟩
        have : r' = r := by omega
        rw [this] at h2
        exact h2 hj
      refine xl_is (fun v57 _ h57 => ⟨¬ JFw w ((w 5 1).toInt.toNat - m + r) res a2 stc body, fun hj => ⟨fun h => absurd rfl h, fun h => absurd ⟨r, h4, hj⟩ h⟩, fun c h => ?_, fun c1 => ⟨fun c h => c h.2.1, fun c26 => ⟨fun c h => c h.2.2.1, fun c27 => xl_is (fun v103 b103 h103 => ?_)⟩⟩⟩)
      · rw [e25] at h57
        exact (h57.2 h.1) c
      · rw [e25] at h57 h103
        have f2 : v103.toInt ≠ 0 ↔ FLq w ((w 5 1).toInt.toNat - m + r) 2 := h103
        have g20 := h20.1
        have i20 := h20.2
        refine ⟨fun c h => ?_, fun c2 => ⟨fun c33 => good ⟨h57.1 c1, c26, c27, ?_, fun h => (h33.2 h.1) c33⟩, fun c33 => xl_is (fun v123 _ h123 => ?_)⟩⟩
        · have h4 := h.2.2.2.1
          by_cases cs : stc
          · have := i20.2 cs
            have := f2.2 (h4.2 cs)
            omega
          · have n1 : ¬ v103.toInt ≠ 0 := fun hx => cs (h4.1 (f2.1 hx))
            have n2 : ¬ y20.toInt ≠ 0 := fun hx => cs (i20.1 hx)
            omega
        · rw [← f2, ← i20, c2]
        · rw [e25] at h123
          have f4 : v123.toInt ≠ 0 ↔ FLq w ((w 5 1).toInt.toNat - m + r) 4 := h123
          refine ⟨fun c h => h.2.2.2.2 ⟨h33.1 c33, f4.1 c⟩, fun c => good ⟨h57.1 c1, c26, c27, ?_, fun h => (f4.2 h.2) c⟩⟩
          rw [← f2, ← i20, c2]
  have fb : (s142 6 3).toInt ≠ 0 ↔ BFw w m lo res a2 stc body rr := by
    rw [f142, nv, o1]
    unfold BFw
    constructor
    · rintro (h | h | h)
      · exact absurd hf h
      · exact Or.inr (Classical.byContradiction (fun hx => (h134.2 hx) h))
      · exact Or.inl ⟨h.1, by omega⟩
    · rintro (h | h)
      · exact Or.inr (Or.inr ⟨h.1, by omega⟩)
      · exact Or.inr (Or.inl (Decidable.byContradiction (fun hx => (h134.1 hx) h)))
  refine ⟨fun c0 => ?_, fun c0 => k1 (fb.1 c0) s142 c0⟩
  have nb : ¬ BFw w m lo res a2 stc body rr := fun h => (fb.2 h) c0
  obtain ⟨d, hdn, hd1, hd9⟩ : ∃ d : Nat, (rr = -1 → m < 100 ∧ d = (w 5 1).toInt.toNat) ∧ (∀ r : Nat, rr = ((lo + r : Nat) : Int) → r < m ∧ d = (w 5 1).toInt.toNat - m + r) ∧ d < 10100 := by
    rcases q3 with h3 | ⟨r, h3, h4⟩
    · have hm : m < 100 := by
        have : ¬ m = 100 := fun h => nb (Or.inl ⟨h3, h⟩)
        omega
      have := (hlm h3 hm).1
      exact ⟨(w 5 1).toInt.toNat, fun _ => ⟨hm, rfl⟩, fun r hr => by omega, by omega⟩
    · exact ⟨(w 5 1).toInt.toNat - m + r, fun h => by omega, fun r' hr' => by
        have : r' = r := by omega
        rw [this]
        exact ⟨h3, rfl⟩, by omega⟩
  have fl0 : ∀ s : St, s 25 d = 0 → rr = -1 → FLv w s d (rr = -1) False False := fun s h c => ⟨⟨fun h1 => absurd h1 (fl_zero h), fun h1 => absurd c h1.1⟩, ⟨fun h1 => absurd h1 (fl_zero h), fun h1 => h1.elim (fun h1 => absurd c h1.1) False.elim⟩, ⟨fun h1 => absurd h1 (fl_zero h), fun h1 => h1.elim (fun h1 => absurd c h1.1) False.elim⟩, ⟨fun h1 => absurd h1 (fl_zero h), fun h1 => absurd c h1.1⟩⟩
  have fl1 : ∀ s : St, ¬ rr = -1 → s 25 d = w 25 d → FLv w s d (rr = -1) False False := fun s c h => ⟨(fl_same h).trans ⟨fun h => ⟨c, h⟩, fun h => h.2⟩, (fl_same h).trans ⟨fun h => Or.inl ⟨c, h⟩, fun h => h.elim (fun h => h.2) False.elim⟩, (fl_same h).trans ⟨fun h => Or.inl ⟨c, h⟩, fun h => h.elim (fun h => h.2) False.elim⟩, (fl_same h).trans ⟨fun h => ⟨c, h⟩, fun h => h.2⟩⟩
  refine ⟨fun y s => y.toInt = (d : Int) ∧ Kp [(6, 3), (6, 4), (6, 7), (5, 7), (5, 1)] [38, 39, 30, 29, 25, 28] w s ∧ (s 6 3).toInt = 0 ∧ (∀ j, j ≠ d → s 25 j = w 25 j) ∧ FLv w s d (rr = -1) False False ∧ NWf w s u m d (rr = -1), ?_, fun cv => ?_, fun cv => ?_⟩
  rotate_left
  · have c : ¬ rr = -1 := fun h => by have := nv.2 h; omega
    rcases q3 with h3 | ⟨r, h3, h4⟩
    · exact absurd h3 c
    · refine ⟨by rw [q2 r h4, (hd1 r h4).2], kp_sub k142 rfl rfl, c0, fun j _ => k142 25 j rfl rfl, fl1 _ c (k142 25 d rfl rfl), fun h => absurd h c, fun _ => ⟨k142 6 7 rfl rfl, k142 5 1 rfl rfl, k142 5 7 rfl rfl, funext (fun j => k142 38 j rfl rfl), funext (fun j => k142 39 j rfl rfl)⟩⟩
  · have c : rr = -1 := nv.1 cv
    obtain ⟨hm, hd⟩ := hdn c
    obtain ⟨hl1, hl2⟩ := hlm c hm
    have hE1 : REq kd n 0 m lo s142 σ := re_cd hE (cd_ko (ko_kp k142) rfl rfl) dd_rf
    refine xl_declareOuter hE1 ha hu ku hm hl1 hl2 (fun v s dn g1 g2 g3 hcd => ?_)
    obtain ⟨p1, p2, p3, p4, p5, p6, p7, p8⟩ := hcd
    have e51 : (s142 5 1).toInt = (w 5 1).toInt := by rw [k142 5 1 rfl rfl]
    have edn : dn = d := by omega
    have e14 : s142 14 u = w 14 u := k142 14 u rfl rfl
    have e57 : s142 5 7 = w 5 7 := k142 5 7 rfl rfl
    have e38 : s142 38 = w 38 := funext (fun j => k142 38 j rfl rfl)
    have e39 : s142 39 = w 39 := funext (fun j => k142 39 j rfl rfl)
    have e1 : s142 1 = w 1 := funext (fun j => k142 1 j rfl rfl)
    rw [e14, e57] at p4
    rw [e38] at p5
    rw [e39] at p6
    rw [edn] at p3 p7 g2
    rw [e1] at p8
    refine ⟨g2, kp_tr (kp_sub k142 rfl rfl) (kp_sub p1 rfl rfl), by rw [p1 6 3 rfl rfl]; exact c0, fun j hj => ?_, fl0 s (by rw [p7, if_pos rfl]) c, fun _ => ⟨p2, by omega, p3, p4, p5, p6, p8⟩, fun h => absurd c h⟩
    rw [p7, if_neg hj]
    exact k142 25 j rfl rfl
  rintro y174 s174 ⟨hy, k174, f174, g25, gfl, gnw⟩
  have e26 : s174 26 = w 26 := funext (fun j => k174 26 j rfl rfl)
  have e27 : s174 27 = w 27 := funext (fun j => k174 27 j rfl rfl)
  refine ⟨fun y => (stc ∧ y = 3) ∨ (¬ stc ∧ y = 1), fun y192 h192 => xl_mark hy hd9 (fun s192 k192 m192 => ?_), fun cc => Or.inr ⟨fun h => (h20.2.2 h) cc, rfl⟩, fun cc => Or.inl ⟨h20.2.1 cc, rfl⟩⟩
  have gfg : FLg w s192 d (rr = -1) stc False := by
    have hm := m192 d
    rw [if_pos rfl] at hm
    rcases h192 with ⟨h1, h2⟩ | ⟨h1, h2⟩
    · rw [h2] at hm
      exact flg_3 gfl hm h1
    · rw [h2] at hm
      exact flg_1 gfl hm h1
  rw [setv_at hy hd9, setv_at hy hd9, rdF_ne (by decide)]
  have i26 : s192 26 = w 26 := by rw [show s192 26 = s174 26 from funext (fun j => k192 26 j rfl rfl), e26]
  have i27 : s192 27 = w 27 := by rw [show s192 27 = s174 27 from funext (fun j => k192 27 j rfl rfl), e27]
  rw [i26, i27]
  have kA : Kp [] [25, 26, 27] s174 (upF (upF s192 26 (fun k => if k = d then res else w 26 k)) 27 (fun k => if k = d then a2 else w 27 k)) := kp_F (kp_F (kp_sub k192 rfl rfl) rfl) rfl
  have fA25 : (upF (upF s192 26 (fun k => if k = d then res else w 26 k)) 27 (fun k => if k = d then a2 else w 27 k)) 25 = s192 25 := by rw [rdF_ne (by decide), rdF_ne (by decide)]
  have fA26 : (upF (upF s192 26 (fun k => if k = d then res else w 26 k)) 27 (fun k => if k = d then a2 else w 27 k)) 26 = fun k => if k = d then res else w 26 k := by rw [rdF_ne (by decide), rdF_eq]
  have fA27 : (upF (upF s192 26 (fun k => if k = d then res else w 26 k)) 27 (fun k => if k = d then a2 else w 27 k)) 27 = fun k => if k = d then a2 else w 27 k := by rw [rdF_eq]
  generalize upF (upF s192 26 (fun k => if k = d then res else w 26 k)) 27 (fun k => if k = d then a2 else w 27 k) = sA at kA fA25 fA26 fA27
  have hA25 : ∀ j, j ≠ d → sA 25 j = w 25 j := fun j hj => by rw [fA25, m192, if_neg hj]; exact g25 j hj
  have gA : FLg w sA d (rr = -1) stc False := flg_s gfg (by rw [fA25])
  refine ⟨fun c33 => ?_, fun c33 => xl_mark hy hd9 (fun s234 k234 m234 => ?_)⟩
  · have nbd : ¬ body := fun h => (h33.2 h) c33
    have kz : Kp [(6, 3), (6, 4), (6, 7), (5, 7), (5, 1)] [25, 26, 27, 28, 29, 30, 38, 39] w sA := kp_tr (kp_sub k174 rfl rfl) (kp_sub kA rfl rfl)
    exact k0 nb sA d hdn hd1 ⟨kp_sub kz rfl rfl, by rw [kA 6 3 rfl rfl]; exact f174, nwf_k gnw (kp_sub kA rfl rfl), fun j hj => ⟨hA25 j hj, by rw [fA26]; exact if_neg hj, by rw [fA27]; exact if_neg hj⟩, by rw [fA26]; exact if_pos rfl, by rw [fA27]; exact if_pos rfl, ⟨gA.1, gA.2.1, gA.2.2.1.trans ⟨fun h => h.imp id False.elim, fun h => h.imp id (fun h => absurd h nbd)⟩, gA.2.2.2⟩, fun h => absurd h nbd, fun _ => ⟨kz 6 6 rfl rfl, kz 6 10 rfl rfl, kz 6 15 rfl rfl, kz 6 17 rfl rfl, funext (fun j => kz 45 j rfl rfl)⟩⟩
  · have hbd := h33.1 c33
    have gB : FLg w s234 d (rr = -1) stc body := flg_4 gA (by rw [m234, if_pos rfl]) hbd
    have hB25 : ∀ j, j ≠ d → s234 25 j = w 25 j := fun j hj => by rw [m234, if_neg hj]; exact hA25 j hj
    have fin : ∀ (v : Int32) (x : Int32), pk_X11_enter y174 (upF (upC s234 4 1 x) 28 (setv 10100 ((upC s234 4 1 x) 28) y174 v)) (fun s262 => Q s262) := fun v x => by
      unfold pk_X11_enter pk_X11_leave pk_X11_open
      dsimp only
      have k1' : Kp [(4, 1), (6, 6), (6, 10), (6, 15), (6, 17)] [28] s234 (upC (upC (upC (upC (upC (upF (upC s234 4 1 x) 28 (setv 10100 ((upC s234 4 1 x) 28) y174 v)) 6 6 ((-1) : Int32)) 6 10 (0 : Int32)) 6 15 (0 : Int32)) 6 17 (0 : Int32)) 6 6 y174) := kp_f (kp_f (kp_f (kp_f (kp_f (kp_F (kp_f kp_rf rfl) rfl) rfl) rfl) rfl) rfl) rfl
      have e66 : (upC (upC (upC (upC (upC (upF (upC s234 4 1 x) 28 (setv 10100 ((upC s234 4 1 x) 28) y174 v)) 6 6 ((-1) : Int32)) 6 10 (0 : Int32)) 6 15 (0 : Int32)) 6 17 (0 : Int32)) 6 6 y174) 6 6 = y174 := rdA_eq rfl
      have e610 : (upC (upC (upC (upC (upC (upF (upC s234 4 1 x) 28 (setv 10100 ((upC s234 4 1 x) 28) y174 v)) 6 6 ((-1) : Int32)) 6 10 (0 : Int32)) 6 15 (0 : Int32)) 6 17 (0 : Int32)) 6 6 y174) 6 10 = 0 := by rw [rdA_ne (by decide), rdA_ne (by decide), rdA_ne (by decide), rdA_eq rfl]
      have e615 : (upC (upC (upC (upC (upC (upF (upC s234 4 1 x) 28 (setv 10100 ((upC s234 4 1 x) 28) y174 v)) 6 6 ((-1) : Int32)) 6 10 (0 : Int32)) 6 15 (0 : Int32)) 6 17 (0 : Int32)) 6 6 y174) 6 15 = 0 := by rw [rdA_ne (by decide), rdA_ne (by decide), rdA_eq rfl]
      have e617 : (upC (upC (upC (upC (upC (upF (upC s234 4 1 x) 28 (setv 10100 ((upC s234 4 1 x) 28) y174 v)) 6 6 ((-1) : Int32)) 6 10 (0 : Int32)) 6 15 (0 : Int32)) 6 17 (0 : Int32)) 6 6 y174) 6 17 = 0 := by rw [rdA_ne (by decide), rdA_eq rfl]
      generalize upC (upC (upC (upC (upC (upF (upC s234 4 1 x) 28 (setv 10100 ((upC s234 4 1 x) 28) y174 v)) 6 6 ((-1) : Int32)) 6 10 (0 : Int32)) 6 15 (0 : Int32)) 6 17 (0 : Int32)) 6 6 y174 = s5 at k1' e66 e610 e615 e617
      rw [e617, e615]
      have k6 : Kp [(6, 17)] [45] s5 (upC (upF s5 45 (setv 52 (s5 45) (0 : Int32) (0 : Int32))) 6 17 ((0 : Int32) + (1 : Int32))) := kp_f (kp_F kp_rf rfl) rfl
      have f17 : ((upC (upF s5 45 (setv 52 (s5 45) (0 : Int32) (0 : Int32))) 6 17 ((0 : Int32) + (1 : Int32))) 6 17).toInt = 1 := by rw [rdA_eq rfl]; rfl
      have f45 : ((upC (upF s5 45 (setv 52 (s5 45) (0 : Int32) (0 : Int32))) 6 17 ((0 : Int32) + (1 : Int32))) 45 0).toInt = 0 := by
        rw [rdC_ne (by decide), rdF_eq, setv_at (j := 0) rfl (by decide)]
        rfl
      generalize upC (upF s5 45 (setv 52 (s5 45) (0 : Int32) (0 : Int32))) 6 17 ((0 : Int32) + (1 : Int32)) = s6 at k6 f17 f45
      have kB : Kp [(4, 1), (6, 6), (6, 10), (6, 15), (6, 17)] [28, 45] s234 s6 := kp_tr (kp_sub k1' rfl rfl) (kp_sub k6 rfl rfl)
      have kC : Kp [(4, 1), (6, 6), (6, 10), (6, 15), (6, 17)] [25, 26, 27, 28, 45] s174 s6 := kp_tr (kp_sub kA rfl rfl) (kp_tr (kp_sub k234 rfl rfl) (kp_sub kB rfl rfl))
      have c25 : s6 25 = s234 25 := funext (fun j => kB 25 j rfl rfl)
      have c26 : s6 26 = sA 26 := by rw [show s6 26 = s234 26 from funext (fun j => kB 26 j rfl rfl)]; exact funext (fun j => k234 26 j rfl rfl)
      have c27 : s6 27 = sA 27 := by rw [show s6 27 = s234 27 from funext (fun j => kB 27 j rfl rfl)]; exact funext (fun j => k234 27 j rfl rfl)
      have gnw' : NWf w s6 u m d (rr = -1) := by
        have e38 : s6 38 = s174 38 := funext (fun j => kC 38 j rfl rfl)
        have e39 : s6 39 = s174 39 := funext (fun j => kC 39 j rfl rfl)
        unfold NWf
        rw [kC 6 7 rfl rfl, kC 5 1 rfl rfl, kC 5 7 rfl rfl, e38, e39]
        exact gnw
      refine k0 nb s6 d hdn hd1 ⟨kp_tr (kp_sub k174 rfl rfl) (kp_sub kC rfl rfl), by rw [kC 6 3 rfl rfl]; exact f174, gnw', fun j hj => ⟨by rw [c25]; exact hB25 j hj, by rw [c26, fA26]; exact if_neg hj, by rw [c27, fA27]; exact if_neg hj⟩, by rw [c26, fA26]; exact if_pos rfl, by rw [c27, fA27]; exact if_pos rfl, flg_s gB (by rw [c25]), fun _ => ⟨by rw [k6 6 6 rfl rfl, e66]; exact hy, by rw [k6 6 10 rfl rfl, e610]; rfl, by rw [k6 6 15 rfl rfl, e615]; rfl, f17, f45⟩, fun h => absurd hbd h⟩
    unfold pk_X0_header
    exact ⟨fun _ => fin _ _, fun _ => fin _ _⟩
end XFU
end

section
/-! a function's name: both sides alike -/
section GFN
variable {w s r σ σ' : St} {kd : Nat → Int} {n m m' lo u d e i : Nat} {a1 a2 a3 res sig st : Int32} {Q : St → Prop} {rr lk rs : Int} {nw c2 c4 stc body : Prop} {l l2 : List (Nat × Nat)}
theorem sgv_ext : ∀ {l l2 : List (Nat × Nat)}, l.length = l2.length → (∀ (k : Nat) (x y : Nat × Nat), l[k]? = some x → l2[k]? = some y → x.1 = y.1) → sgV l = sgV l2
  | [], [], _, _ => rfl
  | [], _ :: _, h, _ => by cases h
  | _ :: _, [], h, _ => by cases h
  | x :: l, y :: l2, h, g => by
    have h1 := g 0 x y rfl rfl
    have h2 := sgv_ext (l := l) (l2 := l2) (Nat.succ.inj h) (fun k a b ha hb => g (k + 1) a b ha hb)
    show x.1 + 8 * sgV l = y.1 + 8 * sgV l2
    rw [h1, h2]
theorem sg_nI (hl : l.length ≤ 8) (ht : Tyq l) (h : sig.toInt = sgI l) : sig = nI (sgX l) := ieq (by rw [h, sgx_int hl ht])
theorem ki_nI {k : Int32} (h0 : 0 ≤ k.toInt) (h1 : k.toInt < 100) : k = nI k.toInt.toNat := ieq (by rw [nI_toInt (by omega)]; omega)
/-- what a signature says -/
theorem sg_says (hl : l.length ≤ 8) (ht : Tyq l) (h : sig.toInt = sgI l) : sgN sig = (l.length : Int) ∧ ∀ (k : Nat) x, l[k]? = some x → sgT sig (nI k) = (x.1 : Int) := by
  rw [sg_nI hl ht h]
  refine ⟨sgn_I hl ht, fun k x hx => sgt_X hl ht hx (List.getElem?_eq_some_iff.mp hx).1⟩
/-- both sides: may be declared once more -/
theorem jf_eq (hO : ORR w σ kd n i d e) (hl : l.length ≤ 8) (ht : Tyq l) (hsig : sig.toInt = sgI l) (hst01 : st = 0 ∨ st = 1) (hst : stc ↔ st.toInt ≠ 0) : JFw w d res sig stc body ↔ JFm σ e res st body l := by
  obtain ⟨p1, p2, p3, p4, p5, p6, p7, p8, p9, p10, p11, p12, p13, p14, p15, p16⟩ := hO
  obtain ⟨g1, g2⟩ := sg_says hl ht hsig
  have h12b := p16.2
  have e12 : (FLq w d 2 ↔ stc) ↔ (σ 12 e).toInt = st.toInt := by
    rw [p12, hst]
    rcases hst01 with h | h
    · have : st.toInt = 0 := by rw [h]; rfl
      rw [this]
      rcases h12b with h2 | h2 <;> rw [h2] <;> decide
    · have : st.toInt = 1 := by rw [h]; rfl
      rw [this]
      rcases h12b with h2 | h2 <;> rw [h2] <;> decide
  have sgq : FLq w d 1 → ((w 27 d).toInt = sig.toInt ↔ (σ 15 e).toInt = (l.length : Int) ∧ ∀ k x, l[k]? = some x → (σ 16 (8 * e + k)).toInt = (x.1 : Int)) := fun hf => by
    obtain ⟨a1, a2, a3⟩ := p10 hf
    obtain ⟨l2, b1, b2, b3⟩ := p16.1 hf
    obtain ⟨c1, c2⟩ := sg_says b1 b2 b3
    have at3 : ∀ k : Nat, k < l2.length → sgT (w 27 d) (nI k) = (σ 16 (8 * e + k)).toInt := fun k hk => by
      have h0 : (nI k).toInt = (k : Int) := nI_toInt (by omega)
      have := a3 (nI k) (by omega) (by omega)
      rw [this, h0]
      rfl
    constructor
    · intro h
      have ew : w 27 d = sig := ieq h
      rw [ew] at a1 at3 c1
      have hlen : l2.length = l.length := by omega
      refine ⟨by omega, fun k x hx => ?_⟩
      have hk := (List.getElem?_eq_some_iff.mp hx).1
      rw [← at3 k (by omega), g2 k x hx]
    · rintro ⟨h1, h2⟩
      have hlen : l2.length = l.length := by omega
      have hv : sgV l2 = sgV l := sgv_ext hlen (fun k x y hx hy => by
        have hk := (List.getElem?_eq_some_iff.mp hx).1
        have q1 := c2 k x hx
        have q2 := h2 k y hy
        have q3 := at3 k hk
        omega)
      rw [b3, hsig]
      unfold sgI sgX
      rw [hlen, hv]
  unfold JFw JFm
  constructor
  · rintro ⟨q1, q2, q3, q4, q5⟩
    have i9 : (σ 9 e).toInt = 2 := by
      have := p5.1 q1
      omega
    obtain ⟨r1, r2⟩ := (sgq q1).1 q3
    exact ⟨i9, ⟨by rw [← p7]; exact q2, r1, r2⟩, e12.1 q4, fun h => q5 ⟨h.1, p13.2 h.2⟩⟩
  · rintro ⟨q1, ⟨q2, q3, q3b⟩, q4, q5⟩
    have f1 : FLq w d 1 := p5.2 (by omega)
    exact ⟨f1, by rw [p7]; exact q2, (sgq f1).2 ⟨q3, q3b⟩, e12.2 q4, fun h => q5 ⟨h.1, p13.1 h.2⟩⟩
theorem re_gfun (hE : REq kd n 0 m lo w σ) (hu : u ≤ n) (ku : kd u = 2) (hq : rr = -1 ∨ ∃ r : Nat, r < m ∧ rr = ((lo + r : Nat) : Int)) (hd0 : rr = -1 → m < 100 ∧ d = (w 5 1).toInt.toNat) (hd1 : ∀ r : Nat, rr = ((lo + r : Nat) : Int) → r < m ∧ d = (w 5 1).toInt.toNat - m + r) (hFU : FUf w s u m d (rr = -1) res sig stc body) (hjf : ∀ r : Nat, rr = ((lo + r : Nat) : Int) → JFw w d res sig stc body) (hlm : rr = -1 → lo + m < 10000) (hl : l.length ≤ 8) (ht : Tyq l) (hsig : sig.toInt = sgI l) (hres : -1 ≤ res.toInt ∧ res.toInt ≤ 5) (hst : stc ↔ st.toInt ≠ 0)
    (hG : GFd σ σ' u m lo m' res st body l rr) : REq kd n 0 m' lo s σ' := by
  obtain ⟨hT, hL, hO, ⟨D, hD1, hD2, hD3⟩, y1, y2⟩ := hE
  obtain ⟨ko, f63, fnw, fj, f26, f27, ⟨fl1, fl2, fl4, fl8⟩, fb, fnb⟩ := hFU
  obtain ⟨g0, g1, gx⟩ := hG
  obtain ⟨sN, sT⟩ := sg_says hl ht hsig
  have cs : ∀ c, c ≠ 4 → c ≠ 5 → c ≠ 6 → ([25, 26, 27, 28, 29, 30, 38, 39, 45] : List Nat).contains c = false → s c = w c := fun c h4 h5 h6 hc => funext (fun j => ko c j (by
    simp only [List.contains_cons, List.contains_nil, Bool.or_false, Bool.or_eq_false_iff, beq_eq_false_iff_ne, ne_eq, Prod.mk.injEq, not_and]
    omega) hc)
  have c1 := cs 1 (by decide) (by decide) (by decide) rfl
  have c13 := cs 13 (by decide) (by decide) (by decide) rfl
  have c14 := cs 14 (by decide) (by decide) (by decide) rfl
  have c15 := cs 15 (by decide) (by decide) (by decide) rfl
  have c40 := cs 40 (by decide) (by decide) (by decide) rfl
  have c41 := cs 41 (by decide) (by decide) (by decide) rfl
  have c42 := cs 42 (by decide) (by decide) (by decide) rfl
  have c44 := cs 44 (by decide) (by decide) (by decide) rfl
  have f15 : s 6 15 = w 6 15 := by
    by_cases c : body
    · exact ieq (by rw [(fb c).2.2.1, hL.1]; rfl)
    · exact (fnb c).2.2.1
  have hDD : ∃ D : Nat, (s 6 5).toInt = (D : Int) ∧ (σ' 0 37).toInt = (D : Int) ∧ D ≤ 16000 := ⟨D, by rw [ko 6 5 rfl rfl]; exact hD1, by rw [gx]; exact hD2, hD3⟩
  have y1' : ∀ j, j < 0 → -1 ≤ (s 41 ((s 44 j).toInt.toNat)).toInt ∧ (s 41 ((s 44 j).toInt.toNat)).toInt ≤ 9 := fun j hj => absurd hj (Nat.not_lt_zero j)
  have hT' := hT
  obtain ⟨t1, t2, t3, t4, t5, t6⟩ := hT'.2.2.2.1 u hu ku
  have ho3 := hO.2.2.1
  have ho4 := hO.2.2.2.1.1
  rcases hq with hr | ⟨r, hrm, hr⟩
  · obtain ⟨hm, ed⟩ := hd0 hr
    have hlm' := hlm hr
    obtain ⟨em, σ1, hd, k1, r11, r10, r12, ⟨r12n, r12b⟩, r15, r15n, r16, r16n, r13, r13n⟩ := g0 hr
    obtain ⟨n67, nd, n51, n57, n38, n39, nby⟩ := fnw.1 hr
    have nn := dcf_n hd
    have kx : ∀ c, c ≠ 0 → c ≠ 10 → c ≠ 11 → c ≠ 12 → c ≠ 13 → c ≠ 15 → c ≠ 16 → c ≠ 17 → σ' c = σ1 c := fun c h0 h1 h2 h3 h4 h5 h6 h7 => funext (fun j => k1 c j (by
      simp only [List.contains_cons, List.contains_nil, Bool.or_false, Bool.or_eq_false_iff, beq_eq_false_iff_ne, ne_eq, Prod.mk.injEq, not_and]
      omega) (by
      simp only [List.contains_cons, List.contains_nil, Bool.or_false, Bool.or_eq_false_iff, beq_eq_false_iff_ne, ne_eq]
      omega))
    have gs : ∀ c, c ≠ 0 → c ≠ 9 → c ≠ 13 → c ≠ 14 → c ≠ 21 → c ≠ 18 → c ≠ 19 → c ≠ 20 → c ≠ 10 → c ≠ 11 → c ≠ 12 → c ≠ 15 → c ≠ 16 → c ≠ 17 → σ' c = σ c := fun c b0 b9 b13 b14 b21 b18 b19 b20 b10 b11 b12 b15 b16 b17 => (kx c b0 b10 b11 b12 b13 b15 b16 b17).trans (nn c b0 b9 b13 b14 b21 b18 b19 b20)
    have q1 : σ' 1 = σ 1 := gs 1 (by decide) (by decide) (by decide) (by decide) (by decide) (by decide) (by decide) (by decide) (by decide) (by decide) (by decide) (by decide) (by decide) (by decide)
    have q2 : σ' 2 = σ 2 := gs 2 (by decide) (by decide) (by decide) (by decide) (by decide) (by decide) (by decide) (by decide) (by decide) (by decide) (by decide) (by decide) (by decide) (by decide)
    have q3 : σ' 3 = σ 3 := gs 3 (by decide) (by decide) (by decide) (by decide) (by decide) (by decide) (by decide) (by decide) (by decide) (by decide) (by decide) (by decide) (by decide) (by decide)
    have q4 : σ' 4 = σ 4 := gs 4 (by decide) (by decide) (by decide) (by decide) (by decide) (by decide) (by decide) (by decide) (by decide) (by decide) (by decide) (by decide) (by decide) (by decide)
    have q6 : σ' 6 = σ 6 := gs 6 (by decide) (by decide) (by decide) (by decide) (by decide) (by decide) (by decide) (by decide) (by decide) (by decide) (by decide) (by decide) (by decide) (by decide)
    have q31 : σ' 31 = σ 31 := gs 31 (by decide) (by decide) (by decide) (by decide) (by decide) (by decide) (by decide) (by decide) (by decide) (by decide) (by decide) (by decide) (by decide) (by decide)
    have q32 : σ' 32 = σ 32 := gs 32 (by decide) (by decide) (by decide) (by decide) (by decide) (by decide) (by decide) (by decide) (by decide) (by decide) (by decide) (by decide) (by decide) (by decide)
    have q34 : σ' 34 = σ 34 := gs 34 (by decide) (by decide) (by decide) (by decide) (by decide) (by decide) (by decide) (by decide) (by decide) (by decide) (by decide) (by decide) (by decide) (by decide)
    have q35 : σ' 35 = σ 35 := gs 35 (by decide) (by decide) (by decide) (by decide) (by decide) (by decide) (by decide) (by decide) (by decide) (by decide) (by decide) (by decide) (by decide) (by decide)
    have e53 : σ' 0 53 = σ 0 53 := (k1 0 53 rfl rfl).trans (hd.1 0 53 rfl rfl)
    have hd' := hd
    obtain ⟨_, _, _, _, d9, _, d14, d21, _, _, _, _⟩ := hd'
    have g9 : σ' 9 = σ1 9 := kx 9 (by decide) (by decide) (by decide) (by decide) (by decide) (by decide) (by decide) (by decide)
    have g14 : σ' 14 = σ1 14 := kx 14 (by decide) (by decide) (by decide) (by decide) (by decide) (by decide) (by decide) (by decide)
    have g21 : σ' 21 = σ1 21 := kx 21 (by decide) (by decide) (by decide) (by decide) (by decide) (by decide) (by decide) (by decide)
    have g18 : σ' 18 = σ1 18 := kx 18 (by decide) (by decide) (by decide) (by decide) (by decide) (by decide) (by decide) (by decide)
    have g19 : σ' 19 = σ1 19 := kx 19 (by decide) (by decide) (by decide) (by decide) (by decide) (by decide) (by decide) (by decide)
    have g20 : σ' 20 = σ1 20 := kx 20 (by decide) (by decide) (by decide) (by decide) (by decide) (by decide) (by decide) (by decide)
    have hns := ns_new hT hu ku nby hd hO.2.2.2.2.1.2.2.2.2.2.1 g18 g19 g20 q1 q3 q4
    have n8 : ¬ FLq s d 8 := fun h => (fl8.1 h).1 hr
    have eot : otk s m = u := by
      unfold otk
      rw [n38, if_pos rfl]
      rfl
    rw [em]
    refine ⟨tk_fr hT c1 c13 c14 c15 q1 q2 q3 q4 q6, lo_fr hL c40 c41 c42 c44 f15 q31 q32 q34 q35 e53, ou_add (u := u) hO hm hlm' n67 (by rw [n51]; omega) (by rw [n57]; omega) ⟨by omega, by omega⟩ (fun j hj => by rw [n38, if_neg (by omega)]) (fun j hj => by rw [n39, if_neg (by omega)]) (fun j hj => fj j (by rw [ed]; exact hj)) hd k1 (fun j hj => by rw [r10, if_neg hj]) (fun j _ => by rw [r11]) r12 r13 r15 r16 ?_, hDD, y1', fun i hi => ?_⟩
    · rw [← ed]
      unfold ORR
      rw [eot, n38, if_pos rfl, f26, f27, g9, g14, g21, d9, d14, d21, r10, n39, if_pos rfl, if_pos rfl, if_pos rfl, if_pos rfl, if_pos rfl]
      refine ⟨by omega, hu, ku, hns, ⟨fun _ => by decide, fun _ => fl1⟩, Or.inr rfl, rfl, ⟨fun h => absurd h n8, fun h => absurd rfl h⟩, fun h => absurd fl1 h, fun _ => ⟨by rw [sN, r15n], by rw [r15n]; omega, fun k h0 hk => ?_⟩, Iff.rfl, ?_, ?_, fun h => absurd fl1 h, fun h => absurd fl1 h, fun _ => ⟨l, hl, ht, hsig⟩, r12b⟩
      · rw [r15n] at hk
        obtain ⟨x, hx⟩ := l_at (l := l) (k := k.toInt.toNat) (by omega)
        rw [r16n _ x hx]
        rw [ki_nI h0 (by omega)]
        exact sT _ x hx
      · rw [fl2, r12n, ← hst]
        exact ⟨fun h => h.elim (fun h => absurd hr h.1) id, Or.inr⟩
      · rw [fl4, r13n]
        exact ⟨fun h => h.elim (fun h => absurd hr h.1) id, Or.inr⟩
    · have eb : (s 5 1).toInt.toNat - (m + 1) = (w 5 1).toInt.toNat - m := by omega
      rw [eb]
      by_cases ci : i = m
      · rw [ci, show (w 5 1).toInt.toNat - m + m = d from by omega, f26]
        omega
      · rw [(fj _ (by omega)).2.1]
        exact y2 i (by omega)
  · have hne : ¬ rr = -1 := by omega
    obtain ⟨_, ed⟩ := hd1 r hr
    obtain ⟨em, k1, r11, r13, r13e⟩ := g1 r hr
    obtain ⟨n67, n51, n57, n38, n39⟩ := fnw.2 hne
    obtain ⟨j1, j2, j3, j4, j5⟩ := hjf r hr
    have hO6 := hO.2.2.2.2.2 r hrm
    rw [← ed] at hO6
    obtain ⟨p1, p2, p3, p4, p5, p6, p7, p8, p9, p10, p11, p12, p13, p14, p15, p16⟩ := hO6
    have gs : ∀ c, c ≠ 0 → c ≠ 11 → c ≠ 13 → c ≠ 17 → σ' c = σ c := fun c h0 h1 h2 h3 => funext (fun j => k1 c j (by
      simp only [List.contains_cons, List.contains_nil, Bool.or_false, Bool.or_eq_false_iff, beq_eq_false_iff_ne, ne_eq, Prod.mk.injEq, not_and]
      omega) (by
      simp only [List.contains_cons, List.contains_nil, Bool.or_false, Bool.or_eq_false_iff, beq_eq_false_iff_ne, ne_eq]
      omega))
    have e53 : σ' 0 53 = σ 0 53 := k1 0 53 rfl rfl
    have eot : otk s r = otk w r := by unfold otk; rw [n38]
    have e26 : s 26 d = w 26 d := ieq (by rw [f26, j2])
    have e27 : s 27 d = w 27 d := ieq (by rw [f27, j3])
    rw [em]
    refine ⟨tk_fr hT c1 c13 c14 c15 (gs 1 (by decide) (by decide) (by decide) (by decide)) (gs 2 (by decide) (by decide) (by decide) (by decide)) (gs 3 (by decide) (by decide) (by decide) (by decide)) (gs 4 (by decide) (by decide) (by decide) (by decide)) (gs 6 (by decide) (by decide) (by decide) (by decide)), lo_fr hL c40 c41 c42 c44 f15 (gs 31 (by decide) (by decide) (by decide) (by decide)) (gs 32 (by decide) (by decide) (by decide) (by decide)) (gs 34 (by decide) (by decide) (by decide) (by decide)) (gs 35 (by decide) (by decide) (by decide) (by decide)) e53, ou_upd (i := r) hO hrm n67 n51 n57 n38 n39 (fun j hj => fj j (by rw [ed]; exact hj)) k1 (fun j _ => by rw [r11]) r13 ?_, hDD, y1', fun i hi => ?_⟩
    · rw [← ed]
      have fe1 : FLq s d 1 ↔ FLq w d 1 := ⟨fun _ => j1, fun _ => fl1⟩
      have fe2 : FLq s d 2 ↔ FLq w d 2 := by
        rw [fl2, j4]
        exact ⟨fun h => h.elim (fun h => h.2) id, fun h => Or.inr h⟩
      have fe8 : FLq s d 8 ↔ FLq w d 8 := by
        rw [fl8]
        exact ⟨fun h => h.2, fun h => ⟨hne, h⟩⟩
      unfold ORR NSm
      rw [eot, n38, n39, e26, e27, fe1, fe2, fe8, r11, gs 1 (by decide) (by decide) (by decide) (by decide), gs 3 (by decide) (by decide) (by decide) (by decide), gs 4 (by decide) (by decide) (by decide) (by decide), gs 9 (by decide) (by decide) (by decide) (by decide), gs 10 (by decide) (by decide) (by decide) (by decide), gs 12 (by decide) (by decide) (by decide) (by decide), gs 14 (by decide) (by decide) (by decide) (by decide), gs 15 (by decide) (by decide) (by decide) (by decide), gs 16 (by decide) (by decide) (by decide) (by decide), gs 18 (by decide) (by decide) (by decide) (by decide), gs 19 (by decide) (by decide) (by decide) (by decide), gs 20 (by decide) (by decide) (by decide) (by decide), gs 21 (by decide) (by decide) (by decide) (by decide)]
      refine ⟨p1, p2, p3, p4, p5, p6, p7, p8, p9, p10, p11, p12, ?_, fun h => absurd j1 h, p15, p16⟩
      rw [fl4, r13e, ← p13]
      exact ⟨fun h => h.elim (fun h => Or.inr h.2) Or.inl, fun h => h.elim Or.inr (fun h => Or.inl ⟨hne, h⟩)⟩
    · rw [n51]
      by_cases ci : (w 5 1).toInt.toNat - m + i = d
      · rw [ci, f26]
        omega
      · rw [(fj _ ci).2.1]
        exact y2 i hi
end GFN
end

