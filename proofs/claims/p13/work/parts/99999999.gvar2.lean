/-! a variable outside of functions, whole -/
section GV2
variable {w s r s2 s3 s95 s285 σ σ' τ t : St} {kd vl : Nat → Int} {n m m' lo d p pb u ty D : Nat} {vs z : List Nat} {a b c a1 a2 a3 a4 a5 v kn st ex y1 : Int32} {F0 : Prop} {g : List Gsq} {gb : List Gsq} {giv lk lk4 szi : Int} {x6 x7 x8 rr cells : Int} {ext stc lack B : Prop} {Q : St → Prop}
theorem kn_0 (h : KNq x6 x7 = 0) (hs : ¬ SQm x6 x7 x8 lack) : 0 ≤ x6 ∧ x8 = 0 ∧ x7 = 0 ∧ lack := by
  have c : 0 ≤ x6 := kn_br.1 (by rw [h]; decide)
  have c2 : ¬ (1 ≤ x7 ∧ x7 ≤ 4000) := fun hx => by
    unfold KNq at h
    rw [if_pos c, if_pos hx] at h
    omega
  have := Classical.byContradiction (fun hx => hs ⟨c, c2, hx⟩)
  exact ⟨c, this⟩
theorem cl_n {w2 : St} (h12 : (w2 8 12).toInt = y1.toInt) (hex : (w2 8 13).toInt ≠ 0 ↔ ex.toInt ≠ 0) (hn : y1.toInt ≠ 0 ∨ ex.toInt ≠ 0) (hk : -1 ≤ y1.toInt) : (ex.toInt ≠ 0 → CLw w2 = 0) ∧ (ex.toInt = 0 → CLw w2 = if y1.toInt < 1 then 1 else y1.toInt) := by
  unfold CLw
  refine ⟨fun h => if_pos (hex.2 h), fun h => ?_⟩
  rw [if_neg (fun hx => (hex.1 hx) h), h12]
  by_cases c : y1.toInt = -1
  · rw [if_pos c, if_pos (by omega)]
  · rw [if_neg c, if_neg (by omega)]
/-- behind the name, where all is well -/
theorem gv_good (hrr : EFm s95 lo (lo + m) u rr) (hgn : ∃ s v, GNf s95 s lo m u v a2 y1 st ex rr) (hgd : ¬ BDm s95 m lo a2 y1 st ex rr (SQm x6 x7 x8 lack) D cells → GDf s95 s285 u m lo m' a2 y1 (ex.toInt ≠ 0) (st.toInt ≠ 0) rr cells) (hG : RGs kd vl n 0 m' lo d s285) (hu : u ≤ n) (ku : kd u = 2) (hty : a2.toInt = (ty : Int)) (hty5 : ty ≤ 5) (hD : (s95 0 37).toInt = (D : Int)) (hD9 : D ≤ 16000) (hy1 : y1.toInt = KNq x6 x7) (hst : lk = 1 ↔ st.toInt ≠ 0) (hse : lk = 2 ↔ ex.toInt ≠ 0) (hn : y1.toInt ≠ 0 ∨ ex.toInt ≠ 0) (hce : cells = if y1.toInt < 1 then 1 else y1.toInt)
    {w2 s : St} {b : Int32} {dd : Nat} (cb : b.toInt = lk) (hE2 : REq kd n 0 m lo w2 s95) (e11 : (w2 8 11).toInt = (ty : Int)) (e12 : (w2 8 12).toInt = KNq x6 x7) (e13 : (w2 8 13).toInt ≠ 0 ↔ ex.toInt ≠ 0) (sq : SQl w2 lack ↔ SQm x6 x7 x8 lack) (nb : ¬ BDc w2 m lo b lack rr) (q0 : rr = -1 → m < 100 ∧ dd = (w2 5 1).toInt.toNat) (q1 : ∀ r : Nat, rr = ((lo + r : Nat) : Int) → r < m ∧ dd = (w2 5 1).toInt.toNat - m + r) (hou : OUf w2 s u m dd (rr = -1) b) : ¬ BDm s95 m lo a2 y1 st ex rr (SQm x6 x7 x8 lack) D cells ∧ REq kd n 0 m' lo s s285 := by
  have kb : -1 ≤ y1.toInt := by
    rw [hy1]
    unfold KNq
    split
    · split <;> omega
    · decide
  have hcl := cl_n (w2 := w2) (y1 := y1) (ex := ex) (by rw [e12, hy1]) e13 hn kb
  rw [← hce] at hcl
  obtain ⟨be, je⟩ := bd_eq (B := SQm x6 x7 x8 lack) (a2 := a2) (kn := y1) (st := st) (ex := ex) (cells := cells) hE2 hrr cb (by rw [e11, hty]) (by rw [e12, hy1]) kb hst e13 sq hD hD9 hcl
  have nb2 := fun h => nb (be.2 h)
  refine ⟨nb2, ?_⟩
  have hq : rr = -1 ∨ ∃ r : Nat, r < m ∧ rr = ((lo + r : Nat) : Int) := by
    rcases hrr with ⟨e, h1, h2, h3, h4, h5⟩ | ⟨h1, h2⟩
    · exact Or.inr ⟨e - lo, by omega, by omega⟩
    · exact Or.inl h2
  obtain ⟨s0, v0, hgn⟩ := hgn
  have hD' : (s285 0 37).toInt ≤ 16000 := by
    obtain ⟨D', h1, h2⟩ := rgq_D hG.1
    omega
  refine re_gvar (lk := b) (ty := a2) (kn := y1) (stc := st.toInt ≠ 0) (ext := ex.toInt ≠ 0) (cells := cells) hE2 hu ku hq q0 q1 hou (fun r hr => ?_) (fun hr => (gn_lm hgn hr (q0 hr).1).1) (ieq (by rw [e11, hty])) (ieq (by rw [e12, hy1])) ⟨by omega, by omega⟩ kb e13 (by rw [cb]; exact hst) (fun h1 h2 => ?_) (hgd nb2) ⟨hcl.1, fun h => hcl.2 (Decidable.byContradiction h)⟩ (by rw [hce]; split <;> omega) hD'
  · rw [(q1 r hr).2]
    exact Classical.byContradiction (fun h => nb (Or.inl (Or.inr ⟨r, hr, h⟩)))
  · have := hst.2 h1
    have := hse.2 h2
    omega
theorem es_gvar {Q : St → St → List Nat → Prop} (h1 : a1.toInt = (u : Int)) (hu : u ≤ n) (ku : kd u = 2) (h2 : a2.toInt = (ty : Int)) (hty : ty ≤ 5) (h5 : a5.toInt = 0) (hst3 : a3 = 0 ∨ a3 = 1) (hl : lk = 0 ∨ lk = 1 ∨ lk = 2) (hst : lk = 1 ↔ a3.toInt ≠ 0) (hex : lk = 2 ↔ a4.toInt ≠ 0) (hG : RGs kd vl n 0 m lo d σ) (hg : GMt σ n p)
    (kk : ∀ s t z p' m' g, EVq (fun N => V1n kd vl N lk u ty p) (some (p', g)) → p ≤ p' → GMt s n p' → RGs kd vl n 0 m' lo d s → MNq σ s → s 0 57 = σ 0 57 → TFq τ vs t z → USq kd n m m' lo g σ s → Q s t z)
    (kn : EVq (fun N => V1n kd vl N lk u ty p) none → F0) : pp_variable a1 a2 a3 a4 a5 σ τ vs Q (fun _ _ _ => F0) := by
  unfold pp_variable
  refine mr_is1 hG.1.1 hg (c := 24) (by decide) (by decide) (fun v12 hv12 => ⟨fun x6 x7 x8 s t z => BKv kd vl n 0 m lo d p σ τ vs x6 x7 x8 s t z, ?_, mr_bracket hv12 hG hg (fun x6 x7 x8 s t z _ h => h) (fun k24 hn => kn (ev_t k24 (ev_b0 hn)))⟩)
  rintro x6 x7 x8 s95 t95 z95 _ ⟨pb, gb, giv, b1, b2, b3, b4, b5, b6, b7, b8, b9, bx, b10⟩
  obtain ⟨D, hD, hD9⟩ := rgq_D b6.1
  have hm100 : m ≤ 100 := hG.1.2.2.2.2.2.1
  refine ⟨fun y => 0 ≤ x6.toInt → (y.toInt ≠ 0 ↔ 1 ≤ x7.toInt ∧ x7.toInt ≤ 4000), fun y0 _ hy0 => ⟨fun y1 => y1.toInt = KNq x6.toInt x7.toInt, fun y1 hy1 => ?_, fun c => ⟨fun c0 => ?_, fun c0 => ?_⟩, fun c => ?_⟩, 0 ≤ x6.toInt → 1 ≤ x7.toInt ∧ x7.toInt ≤ 4000, fun hj c => ⟨fun _ => hj c, fun _ => by decide⟩, fun c hx => by omega, fun c => ⟨¬ (1 ≤ x7.toInt ∧ x7.toInt ≤ 4000), fun hj _ => ⟨fun h => absurd rfl h, fun h => absurd h hj⟩, fun c2 h => by omega, fun c2 => ⟨fun c3 h => by omega, fun c3 _ => ⟨c2, c3⟩⟩⟩⟩
  · have kb : -1 ≤ y1.toInt ∧ y1.toInt ≤ 4000 := by
      rw [hy1]
      unfold KNq
      split
      · split
        · omega
        · decide
      · decide
    have ifc : (if y1 < (1 : Int32) then (1 : Int32) else y1).toInt = if y1.toInt < 1 then 1 else y1.toInt := by
      by_cases cv : y1 < (1 : Int32)
      · rw [if_pos cv, if_pos (show y1.toInt < 1 from Int32.lt_iff_toInt_lt.mp cv)]
        rfl
      · rw [if_neg cv, if_neg (show ¬ y1.toInt < 1 from fun hx => cv (Int32.lt_iff_toInt_lt.mpr hx))]
    generalize hce : (if y1.toInt < 1 then 1 else y1.toInt) = cells at ifc
    have cb : 1 ≤ cells ∧ cells ≤ 4000 := by
      rw [← hce]
      split <;> omega
    refine ⟨fun v s t z => t = t95 ∧ z = z95 ∧ ∃ rr, EFm s95 lo (lo + m) u rr ∧ GNf s95 s lo m u v a2 y1 a3 a4 rr, ?_, fun _ => mr_globalName h1 (b6.1.2.1 u hu ku) b6.1.2.2.2.2.1 hm100 (rgq_0 b6.1) (fun rr v s q1 q2 => ⟨rfl, rfl, rr, q1, q2⟩), fun c => absurd h5 c⟩
    rintro v s170 t170 z170 ⟨et, ez, rr, hrr, hgn⟩
    rw [et, ez]
    have fr170 : s170 0 10 = s95 0 10 ∧ 0 ≤ (s170 0 12).toInt ∧ s170 2 = s95 2 ∧ s170 0 37 = s95 0 37 := by
      rcases hgn with ⟨_, _, _, k, f⟩ | ⟨_, _, _, _, s1, hd, es⟩ | ⟨r, _, _, k, f, _⟩
      · exact ⟨k 0 10 rfl rfl, f.1, funext (fun j => k 2 j rfl rfl), k 0 37 rfl rfl⟩
      · refine ⟨?_, ?_, ?_, ?_⟩
        · rw [es, rdC_ne (by decide), rdC_ne (by decide), rdC_ne (by decide)]; exact hd.1 0 10 rfl rfl
        · rw [es, rdC_ne (by decide), rdC_ne (by decide), rdC_ne (by decide), hd.1 0 12 rfl rfl]; exact rgq_0 b6.1
        · rw [es, rdC_ne (by decide), rdC_ne (by decide), rdC_ne (by decide)]; exact funext (fun j => hd.1 2 j rfl rfl)
        · rw [es, rdC_ne (by decide), rdC_ne (by decide), rdC_ne (by decide)]; exact hd.1 0 37 rfl rfl
      · exact ⟨k 0 10 rfl rfl, f.1, funext (fun j => k 2 j rfl rfl), k 0 37 rfl rfl⟩
    refine ⟨fun s t z => t = t95 ∧ z = z95 ∧ Kp [(0, 12), (0, 13)] [] s170 s ∧ FTq s170 s (SQm x6.toInt x7.toInt x8.toInt (a4.toInt ≠ 0 ∨ kd pb = 30)), ?_, mr_square (J232 := fun s t z => t = t95 ∧ z = z95 ∧ Kp [(0, 12), (0, 13)] [] s170 s ∧ FTq s170 s (SQm x6.toInt x7.toInt x8.toInt (a4.toInt ≠ 0 ∨ kd pb = 30))) (lack := a4.toInt ≠ 0 ∨ kd pb = 30) (by
      have := b6.1.1
      unfold RTk at this ⊢
      rw [fr170.2.2.1]
      exact this) (gm_k b5 fr170.1) fr170.2.1 Iff.rfl hy0 (fun s' k' f' => ⟨rfl, rfl, k', f'⟩)⟩
    rintro s232 t232 z232 ⟨et2, ez2, k232, f232⟩
    rw [et2, ez2]
    refine ⟨fun s t z => t = t95 ∧ z = z95 ∧ LYf s232 s v a4 D cells, ?_, fun c => absurd h5 c, fun _ => ⟨fun cv => ⟨rfl, rfl, Or.inl ⟨rfl, Or.inl cv⟩⟩, fun cv => ⟨fun c4 => ⟨rfl, rfl, Or.inl ⟨rfl, Or.inr c4⟩⟩, fun c4 => mr_lay (r := v.toInt.toNat) (D := D) f232.1 (by omega) (by rw [k232 0 37 rfl rfl, fr170.2.2.2]; exact hD) hD9 (by rw [ifc]; exact cb) (fun s k f q1 q2 q3 q4 => ⟨rfl, rfl, Or.inr ⟨c4, v.toInt.toNat, by omega, k, by rw [ifc] at f; exact f, q1, by rw [ifc] at q2; exact q2, by rw [ifc] at q3; exact q3, q4⟩⟩)⟩⟩⟩
    rintro s260 t260 z260 ⟨et3, ez3, hly⟩
    rw [et3, ez3]
    refine ⟨fun s t z => t = t95 ∧ z = z95 ∧ s = s260, ?_, fun _ => ⟨rfl, rfl, rfl⟩, fun c => absurd h5 c⟩
    rintro s285 t285 z285 ⟨et4, ez4, es4⟩
    rw [et4, ez4, es4]
    obtain ⟨m', hG3, e10, e57', hft, hgd⟩ := gn_fin b6 hu ku (by omega) hD hD9 cb.1 hst3 hgn k232 f232 hly
    clear hly k232 f232 fr170
    have g285 : GMt s260 n pb := gm_k b5 e10
    have hm285 : MNq σ s260 := fun hx => hft.2.2 (Or.inl (by rw [b7]; exact hx))
    have e57 : s260 0 57 = σ 0 57 := by rw [e57', b8 0 57 rfl rfl]
    have hvl : ∀ q, q ≤ n → kd q = 4 → 0 ≤ vl q := fun q q1 q2 => by
      have := (hG.1.2.2.1 q q1 q2).1
      rw [hG.2.2.2.2 q q1] at this
      exact this
    have h15 : (s95 0 15).toInt = 0 := b6.2.2.2.1
    have bdB : BDm s95 m lo a2 y1 a3 a4 rr (SQm x6.toInt x7.toInt x8.toInt (a4.toInt ≠ 0 ∨ kd pb = 30)) D cells → (s260 0 12).toInt ≠ 0 := fun h => hft.2.2 (Or.inr ⟨h, by omega⟩)
    have n285 : (σ 0 12).toInt = 0 → ¬ BDm s95 m lo a2 y1 a3 a4 rr (SQm x6.toInt x7.toInt x8.toInt (a4.toInt ≠ 0 ∨ kd pb = 30)) D cells → (s260 0 12).toInt = 0 := fun h0 h => Decidable.byContradiction (fun hx => (hft.2.1 hx).elim (fun h2 => h2 (by rw [b7]; exact h0)) (fun h2 => h h2.1))
    -- the class's walk, up to the initial
    have walk : ∀ {lk4 szi : Int} {rest : List Gsq} {Q : St → Prop} {B : Prop} {w : St}, ((lk4 = lk ∧ kd pb ≠ 30) ∨ (lk4 = lk + 4 ∧ kd pb = 30)) → ((σ 0 12).toInt = 0 → ∀ w, REq kd n 0 m lo w σ → (w 6 3).toInt = 0 → (w 7 7).toInt = 0 → (w 8 6).toInt = -1 → GWq (bkl kd p gb giv szi) w (fun w1 => (w1 6 3).toInt = 0 ∧ BKg kd n 0 m lo x6.toInt x7.toInt x8.toInt w w1 s95) False) → ((s260 0 12).toInt ≠ 0 → B) → (∀ s, (s 6 3).toInt ≠ 0 → B → Q s) → (σ 0 12).toInt = 0 → URq kd n m lo w σ → (w 6 3).toInt = 0 → (y1.toInt ≠ 0 ∨ a4.toInt ≠ 0 → ∀ r, (r 6 3).toInt = 0 → (s260 0 12).toInt = 0 → URq kd n m' lo r s260 → ¬ SQm x6.toInt x7.toInt x8.toInt (a4.toInt ≠ 0 ∨ kd pb = 30) → (r 8 11).toInt = (ty : Int) → (r 8 9).toInt = 0 → (r 8 15).toInt = 0 → (r 8 16).toInt = 0 → (r 8 12).toInt = KNq x6.toInt x7.toInt → ((r 8 13).toInt ≠ 0 ↔ a4.toInt ≠ 0) → GWq rest r Q B) → (y1.toInt = 0 → a4.toInt = 0 → ¬ SQm x6.toInt x7.toInt x8.toInt (a4.toInt ≠ 0 ∨ kd pb = 30) → B ∧ ∀ r, (r 8 12).toInt = 0 → GWq rest r Q B) → GWq (bkl kd p gb giv szi ++ ([gq (43, u, (ty : Int), lk4)] ++ rest)) w Q B := fun {lk4 szi rest Q B w} hlk hbk hB hq h0 hR hf k1 k2 => by
      refine gw0 (lack := a4.toInt ≠ 0 ∨ kd pb = 30) (ext := a4.toInt ≠ 0) hlk hl hex.symm Iff.rfl hu ku hbk hrr (fun hr hm => gn_lm hgn hr hm) (fun w2 b cb hE2 e11 e12 e13 sq hbc => ?_) (fun h => hB (bdB (Or.inr (Or.inl (h _))))) hq h0 hR hf (fun w2 b s dd cb hE2 e11 e12 e13 sq nb q0 q1 hou w77 w66 w95 w9 w15 w16 => ?_)
      · by_cases cn : y1.toInt ≠ 0 ∨ a4.toInt ≠ 0
        · have hcl := cl_n (w2 := w2) (y1 := y1) (ex := a4) (by rw [e12, hy1]) e13 cn kb.1
          rw [hce] at hcl
          exact hB (bdB ((bd_eq (B := SQm x6.toInt x7.toInt x8.toInt (a4.toInt ≠ 0 ∨ kd pb = 30)) (a2 := a2) (kn := y1) (st := a3) (ex := a4) (cells := cells) hE2 hrr cb (by rw [e11, h2]) (by rw [e12, hy1]) kb.1 hst e13 sq hD hD9 hcl).1.1 hbc))
        · have c1 : y1.toInt = 0 := Decidable.byContradiction (fun h => cn (Or.inl h))
          have c2 : a4.toInt = 0 := Decidable.byContradiction (fun h => cn (Or.inr h))
          by_cases cs : SQm x6.toInt x7.toInt x8.toInt (a4.toInt ≠ 0 ∨ kd pb = 30)
          · exact hB (bdB (Or.inr (Or.inl cs)))
          · exact (k2 c1 c2 cs).1
      · have nsq : ¬ SQm x6.toInt x7.toInt x8.toInt (a4.toInt ≠ 0 ∨ kd pb = 30) := fun h => nb (Or.inr (Or.inl (sq.2 h)))
        have hko := hou.1
        by_cases cn : y1.toInt ≠ 0 ∨ a4.toInt ≠ 0
        · obtain ⟨nb2, hE3⟩ := gv_good (lack := a4.toInt ≠ 0 ∨ kd pb = 30) (vl := vl) (d := d) (st := a3) (ex := a4) (cells := cells) hrr ⟨_, _, hgn⟩ hgd hG3 hu ku h2 hty hD hD9 hy1 hst hex cn hce.symm cb hE2 e11 e12 e13 sq nb q0 q1 hou
          have hE4 : REq kd n 0 m' lo (upC s 8 6 ((-1) : Int32)) s260 := re_cd hE3 (cd_ko (fs := [(8, 6)]) (cs := []) (ko_kp (kp_f kp_rf rfl)) rfl rfl) dd_rf
          refine k1 cn _ ?_ (n285 h0 nb2) (ur_var hE4 hko w77 w66 w95) nsq ?_ ?_ ?_ ?_ ?_ ?_
          · rw [rdC_ne (by decide)]; exact hou.2.1
          · rw [rdA_ne (by decide), hko 8 11 rfl rfl]; exact e11
          · rw [rdA_ne (by decide), hko 8 9 rfl rfl]; exact w9
          · rw [rdA_ne (by decide), hko 8 15 rfl rfl]; exact w15
          · rw [rdA_ne (by decide), hko 8 16 rfl rfl]; exact w16
          · rw [rdA_ne (by decide), hko 8 12 rfl rfl]; exact e12
          · rw [rdA_ne (by decide), hko 8 13 rfl rfl]; exact e13
        · have c1 : y1.toInt = 0 := Decidable.byContradiction (fun h => cn (Or.inl h))
          have c2 : a4.toInt = 0 := Decidable.byContradiction (fun h => cn (Or.inr h))
          refine (k2 c1 c2 nsq).2 _ ?_
          rw [rdA_ne (by decide), hko 8 12 rfl rfl, e12, ← hy1]
          exact c1
    refine es_set (loc := False) h2 ⟨fun h => absurd h5 h, False.elim⟩ hG3 g285 (fun c30 s' t' z' p' g szi br cells2 e1 hcl hev htl hp g1 hG1 hm hke htf hin har => ?_) (fun n30 => ?_) (fun c30 br e1 hn => kn (v1_none b1 b2 c30 (e1.trans b3) hn))
    · refine kk s' t' z' p' m' (bkl kd p gb giv szi ++ [gq (43, u, (ty : Int), lk + 4)] ++ g) (v1_set b1 b2 c30 (e1.trans b3) hev) (by omega) g1 hG1 (fun hx => hm (hm285 hx)) (by rw [hke 0 57 rfl rfl]; exact e57) (tf_tr b9 htf) ?_
      intro h0 w hR hf
      rw [List.append_assoc]
      have hts : 0 ≤ x6.toInt → TSz kd vl pb szi := fun c => ⟨fun _ => by
        have : br = true := e1.2 c
        rw [this] at htl
        exact htl, fun h => absurd c30 h⟩
      have hbk : (σ 0 12).toInt = 0 → ∀ w, REq kd n 0 m lo w σ → (w 6 3).toInt = 0 → (w 7 7).toInt = 0 → (w 8 6).toInt = -1 → GWq (bkl kd p gb giv szi) w (fun w1 => (w1 6 3).toInt = 0 ∧ BKg kd n 0 m lo x6.toInt x7.toInt x8.toInt w w1 s95) False := by
        by_cases c : 0 ≤ x6.toInt
        · exact b10 szi (hts c)
        · have n24 : ¬ kd p = 24 := fun h => c (b3.2 h)
          intro h0' w' q1 q2 q3 q4
          unfold bkl
          rw [if_neg n24]
          by_cases ct : ∃ sz, TSz kd vl pb sz
          · obtain ⟨sz, hsz⟩ := ct
            have hx := b10 sz hsz h0' w' q1 q2 q3 q4
            rw [if_neg n24] at hx
            exact hx
          · exfalso
            refine ct ⟨if kd (pb + 1) = 22 then szi else if ALq kd (pb + 1) then vl (pb + 1) + 1 else 0, fun _ => ⟨fun h => ?_, fun h => ?_, fun h h3 => ?_⟩, fun h => absurd c30 h⟩
            · rw [if_pos h]
              exact htl.1 h
            · rw [if_neg (fun hx => by have := h.2.1; omega), if_pos h.2]
            · rw [if_neg h, if_neg (fun hx => h3 ⟨rfl, hx⟩)]
      have sz1 : br = true → kd (pb + 1) = 22 ∨ ALq kd (pb + 1) → 1 ≤ szi := fun hb hr => tl_pos htl hb (fun h => hvl _ (by have := g1.2; omega) h) hr
      refine walk (Or.inr ⟨rfl, c30⟩) hbk hm (fun s hs hb => ⟨fun _ => hb, fun hx => absurd hx hs⟩) h0 hR hf (fun cn r r63 nf hUR nsq f11 f9 f15 f16 f12 f13 => ?_) (fun c1 c2 nsq => ?_)
      · have hin2 := hin nf r hUR.1 r63 hUR.2.1 f11 ⟨fun h => absurd f9 h, False.elim⟩ f15 f16 (by rw [f12, kn_br]; exact e1.symm) (fun hbr => by
          have hb := hbr.1
          have c6 := e1.1 hb
          rw [f12, hcl hb, hy1]
          have : 1 ≤ KNq x6.toInt x7.toInt := kn_cells c6 nsq (fun h8 => by
            have := bx szi (hts c6) h8
            have := sz1 hb hbr.2
            omega)
          rw [if_neg (by omega)]) f13
        refine gv_mono hin2 (fun s2 hs2 => ⟨hs2.1, fun c => ?_⟩) id
        obtain ⟨k1, k2, k3, k4⟩ := hs2.2 c
        refine ⟨k1, k2, k3, ?_, ?_, ?_⟩
        · rw [k4 6 6 (op_lt (by decide)) rfl rfl]; exact hUR.2.2.1
        · rw [k4 8 6 (op_lt (by decide)) rfl rfl]; exact hUR.2.2.2.1
        · rw [k4 9 5 (op_lt (by decide)) rfl rfl]; exact hUR.2.2.2.2
      · obtain ⟨d6, d8, d7, _⟩ := kn_0 (by rw [← hy1]; exact c1) nsq
        have hb := e1.2 d6
        have nr : ¬ (kd (pb + 1) = 22 ∨ ALq kd (pb + 1)) := fun hr => by
          have := bx szi (hts d6) d8
          have := sz1 hb hr
          omega
        obtain ⟨hB, hA⟩ := har hb nr
        exact ⟨hB, fun r hr => hA r _ _ (by rw [hr]; decide) hB (fun s hs => ⟨fun _ => hB, fun hx => absurd hx hs⟩)⟩
    · refine kk s260 t95 z95 pb m' (bkl kd p gb giv 0 ++ [gq (43, u, (ty : Int), lk)]) (v1_no b1 b2 n30) b4 g285 hG3 hm285 e57 b9 ?_
      intro h0 w hR hf
      have hts : TSz kd vl pb 0 := ⟨fun h => absurd h n30, fun _ => rfl⟩
      refine walk (lk4 := lk) (szi := 0) (rest := []) (Or.inl ⟨rfl, n30⟩) (b10 0 hts) id (fun s hs hb => ⟨fun _ => hb, fun hx => absurd hx hs⟩) h0 hR hf (fun cn r r63 nf hUR nsq f11 f9 f15 f16 f12 f13 => ?_) (fun c1 c2 nsq => ?_)
      · exact ⟨fun hx => absurd r63 hx, fun _ => ⟨nf, hUR⟩⟩
      · obtain ⟨_, _, _, d9⟩ := kn_0 (by rw [← hy1]; exact c1) nsq
        exact absurd d9 (fun h => h.elim (fun h => h c2) n30)
  · show ((0 : Int32)).toInt = KNq x6.toInt x7.toInt
    unfold KNq
    rw [if_pos c, if_neg (fun h => ((hy0 c).2 h) c0)]
    rfl
  · show x7.toInt = KNq x6.toInt x7.toInt
    unfold KNq
    rw [if_pos c, if_pos ((hy0 c).1 c0)]
  · show ((-1 : Int32)).toInt = KNq x6.toInt x7.toInt
    unfold KNq
    rw [if_neg (by omega)]
    rfl
end GV2
