/-! a function's name: the class; both sides -/
def JFw (w : St) (d : Nat) (res sig : Int32) (stc body : Prop) : Prop := FLq w d 1 ∧ (w 26 d).toInt = res.toInt ∧ (w 27 d).toInt = sig.toInt ∧ (FLq w d 2 ↔ stc) ∧ ¬ (body ∧ FLq w d 4)
def BFw (w : St) (m lo : Nat) (res sig : Int32) (stc body : Prop) (rr : Int) : Prop := (rr = -1 ∧ m = 100) ∨ ∃ r : Nat, rr = ((lo + r : Nat) : Int) ∧ ¬ JFw w ((w 5 1).toInt.toNat - m + r) res sig stc body
def FLg (w s : St) (d : Nat) (nw c2 c4 : Prop) : Prop := FLq s d 1 ∧ (FLq s d 2 ↔ (¬ nw ∧ FLq w d 2) ∨ c2) ∧ (FLq s d 4 ↔ (¬ nw ∧ FLq w d 4) ∨ c4) ∧ (FLq s d 8 ↔ ¬ nw ∧ FLq w d 8)
def FUf (w s : St) (u m d : Nat) (nw : Prop) (res sig : Int32) (stc body : Prop) : Prop :=
  Kp [(6, 3), (6, 4), (6, 7), (5, 7), (5, 1), (4, 1), (6, 6), (6, 10), (6, 15), (6, 17)] [25, 26, 27, 28, 29, 30, 38, 39, 45] w s ∧ (s 6 3).toInt = 0 ∧ NWf w s u m d nw ∧ (∀ j, j ≠ d → s 25 j = w 25 j ∧ s 26 j = w 26 j ∧ s 27 j = w 27 j ∧ s 28 j = w 28 j) ∧ s 26 d = res ∧ s 27 d = sig ∧ FLg w s d nw stc body
  ∧ (body → (s 6 6).toInt = (d : Int) ∧ (s 6 10).toInt = 0 ∧ (s 6 15).toInt = 0 ∧ (s 6 17).toInt = 1 ∧ (s 45 0).toInt = 0) ∧ (¬ body → s 6 6 = w 6 6 ∧ s 6 10 = w 6 10 ∧ s 6 15 = w 6 15 ∧ s 6 17 = w 6 17 ∧ s 45 = w 45)
section XFU
variable {w s r σ σ' : St} {kd : Nat → Int} {n m m' lo u d e i : Nat} {a1 a2 a3 res sig st : Int32} {Q : St → Prop} {rr lk rs : Int} {nw c2 c4 stc body : Prop} {l : List (Nat × Nat)}
/-- the third number of a function's step -/
theorem fn_bits (hl : lk = 0 ∨ lk = 1 ∨ lk = 2) (hr : -1 ≤ rs ∧ rs ≤ 5) (hc : (a3.toInt = (rs + 1) * 8 + lk ∧ ¬ body) ∨ (a3.toInt = (rs + 1) * 8 + lk + 4 ∧ body)) : ((a3 / (8 : Int32)) - (1 : Int32)).toInt = rs ∧ ((a3 &&& (3 : Int32)).toInt = 1 ↔ lk = 1) ∧ ((a3 &&& (4 : Int32)).toInt ≠ 0 ↔ body) := by
  have key : ∀ k : Nat, k < 64 → (((Int32.ofNat k) / (8 : Int32)) - (1 : Int32)).toInt = (k : Int) / 8 - 1 ∧ ((Int32.ofNat k &&& (3 : Int32)).toInt = (k : Int) % 4) ∧ (((Int32.ofNat k) &&& (4 : Int32)).toInt ≠ 0 ↔ 4 ≤ (k : Int) % 8) := by decide
  have ek : a3 = Int32.ofNat a3.toInt.toNat := ieq (by
    rw [Int32.toInt_ofNat_of_lt (by omega)]
    omega)
  have h := key a3.toInt.toNat (by omega)
  rw [← ek] at h
  obtain ⟨h1, h2, h3⟩ := h
  rw [h1, h2, h3]
  rcases hc with ⟨hc, hb⟩ | ⟨hc, hb⟩
  · exact ⟨by omega, by omega, ⟨fun h => by omega, fun h => absurd h hb⟩⟩
  · exact ⟨by omega, by omega, ⟨fun _ => hb, fun _ => by omega⟩⟩
theorem flg_4 (h : FLg w s d nw c2 False) (e : r 25 d = (s 25 d) ||| (4 : Int32)) (h4 : c4) : FLg w r d nw c2 c4 := by
  obtain ⟨h1, h2, _, h8⟩ := h
  exact ⟨(fl_no e (by decide)).2 h1, (fl_no e (by decide)).trans h2, ⟨fun _ => Or.inr h4, fun _ => fl_yes e (by decide) (by decide)⟩, (fl_no e (by decide)).trans h8⟩
theorem flg_1 (h : FLv w s d nw False False) (e : r 25 d = (s 25 d) ||| (1 : Int32)) (h2 : ¬ c2) : FLg w r d nw c2 False := by
  obtain ⟨_, g2, g4, g8⟩ := h
  exact ⟨fl_yes e (by decide) (by decide), ((fl_no e (by decide)).trans g2).trans ⟨fun h => h.imp id False.elim, fun h => h.imp id (fun h => absurd h h2)⟩, (fl_no e (by decide)).trans g4, (fl_no e (by decide)).trans g8⟩
theorem flg_3 (h : FLv w s d nw False False) (e : r 25 d = (s 25 d) ||| (3 : Int32)) (h2 : c2) : FLg w r d nw c2 False := by
  obtain ⟨_, g2, g4, g8⟩ := h
  exact ⟨fl_yes e (by decide) (by decide), ⟨fun _ => Or.inr h2, fun _ => fl_yes e (by decide) (by decide)⟩, (fl_no e (by decide)).trans g4, (fl_no e (by decide)).trans g8⟩
theorem flg_s (h : FLg w s d nw c2 c4) (e : r 25 d = s 25 d) : FLg w r d nw c2 c4 := ⟨(fl_same e).2 h.1, (fl_same e).trans h.2.1, (fl_same e).trans h.2.2.1, (fl_same e).trans h.2.2.2⟩
theorem xf_function (hE : REq kd n 0 m lo w σ) (hf : (w 6 3).toInt = 0) (ha : a1.toInt = (u : Int)) (hu : u ≤ n) (ku : kd u = 2) (hl : lk = 0 ∨ lk = 1 ∨ lk = 2) (hr : -1 ≤ rs ∧ rs ≤ 5) (hc : (a3.toInt = (rs + 1) * 8 + lk ∧ ¬ body) ∨ (a3.toInt = (rs + 1) * 8 + lk + 4 ∧ body)) (hres : res.toInt = rs) (hst : stc ↔ lk = 1) (hrr : EFm σ lo (lo + m) u rr) (hlm : rr = -1 → m < 100 → lo + m < 10000 ∧ (σ 0 31).toInt + ((σ 4 u).toInt - (σ 3 u).toInt) ≤ 65536)
    (k1 : BFw w m lo res a2 stc body rr → ∀ s, (s 6 3).toInt ≠ 0 → Q s)
    (k0 : ¬ BFw w m lo res a2 stc body rr → ∀ s d, (rr = -1 → m < 100 ∧ d = (w 5 1).toInt.toNat) → (∀ r : Nat, rr = ((lo + r : Nat) : Int) → r < m ∧ d = (w 5 1).toInt.toNat - m + r) → FUf w s u m d (rr = -1) res a2 stc body → Q s) : pk_X1_function a1 a2 a3 w Q := by
  have hE' := hE
  obtain ⟨hT, hL, ⟨o1, o2, o3, ⟨o4, o4b⟩, o5, o6⟩, _, hY⟩ := hE'
  have o59 := o5.2.2.2.1
  obtain ⟨b8, b3, b4⟩ := fn_bits hl hr hc
  have eres : (a3 / (8 : Int32)) - (1 : Int32) = res := ieq (by rw [b8, hres])
  unfold pk_X1_function
  rw [eres]
  refine ⟨fun y => (y.toInt = 0 ∨ y.toInt = 1) ∧ (y.toInt ≠ 0 ↔ stc), fun y20 _ h20 => ⟨fun y => (y.toInt ≠ 0 ↔ body), fun y33 _ h33 => xo_find hE ha hu ku hrr (fun v40 q1 q2 q3 => ?_), fun cc => ⟨fun h => absurd rfl h, fun h => absurd cc (b4.2 h)⟩, fun cc => ⟨fun _ => b4.1 cc, fun _ => by decide⟩⟩, fun cc => ⟨Or.inl rfl, ⟨fun h => absurd rfl h, fun h => absurd (b3.2 (hst.1 h)) cc⟩⟩, fun cc => ⟨Or.inr rfl, ⟨fun _ => hst.2 (b3.1 cc), fun _ => by decide⟩⟩⟩
  have nv : v40.toInt < 0 ↔ rr = -1 := by
    constructor
    · intro h
      rcases q3 with h3 | ⟨r, h3, h4⟩
      · exact h3
      · have := q2 r h4
        omega
    · exact q1
  refine ⟨fun y => (y.toInt ≠ 0 ↔ ¬ ∃ r : Nat, rr = ((lo + r : Nat) : Int) ∧ ¬ JFw w ((w 5 1).toInt.toNat - m + r) res a2 stc body), fun y134 _ h134 => xl_checkOuter (fun s142 k142 f142 => ?_), ¬ ∃ r : Nat, rr = ((lo + r : Nat) : Int) ∧ ¬ JFw w ((w 5 1).toInt.toNat - m + r) res a2 stc body, fun hj => ⟨fun _ => hj, fun _ => by decide⟩, fun cv => ?_, fun cv => ?_⟩
  rotate_left
  · rintro ⟨r, h1, _⟩
    have := nv.1 cv
    omega
  · rcases q3 with h3 | ⟨r, h3, h4⟩
    · exact absurd (nv.2 h3) (by omega)
    · have hv := q2 r h4
      have hdn : (w 5 1).toInt.toNat - m + r < 10100 := by omega
      have e25 : atv 10100 (w 25) v40 = w 25 ((w 5 1).toInt.toNat - m + r) := atv_at hv hdn
      have e26 : atv 10100 (w 26) v40 = w 26 ((w 5 1).toInt.toNat - m + r) := atv_at hv hdn
      have e27 : atv 10100 (w 27) v40 = w 27 ((w 5 1).toInt.toNat - m + r) := atv_at hv hdn
      rw [e26, e27]
      have good : JFw w ((w 5 1).toInt.toNat - m + r) res a2 stc body → ¬ ∃ r : Nat, rr = ((lo + r : Nat) : Int) ∧ ¬ JFw w ((w 5 1).toInt.toNat - m + r) res a2 stc body := fun hj => by
        rintro ⟨r', h1, h2⟩
        have : r' = r := by omega
        rw [this] at h2
        exact h2 hj
      refine xl_is (fun v57 _ h57 => ⟨¬ JFw w ((w 5 1).toInt.toNat - m + r) res a2 stc body, fun hj => ⟨fun h => absurd rfl h, fun h => absurd ⟨r, h4, hj⟩ h⟩, fun c h => ?_, fun c1 => ⟨fun c h => c h.2.1, fun c26 => ⟨fun c h => c h.2.2.1, fun c27 => xl_is (fun v103 b103 h103 => ?_)⟩⟩⟩)
      · rw [e25] at h57
        exact (h57.2 h.1) c
      · rw [e25] at h57 h103
        have f2 : v103.toInt ≠ 0 ↔ FLq w ((w 5 1).toInt.toNat - m + r) 2 := h103
        have g20 := h20.1
        have i20 := h20.2
        refine ⟨fun c h => ?_, fun c2 => ⟨fun c33 => good ⟨h57.1 c1, c26, c27, ?_, fun h => (h33.2 h.1) c33⟩, fun c33 => xl_is (fun v123 _ h123 => ?_)⟩⟩
        · have h4 := h.2.2.2.1
          by_cases cs : stc
          · have := i20.2 cs
            have := f2.2 (h4.2 cs)
            omega
          · have n1 : ¬ v103.toInt ≠ 0 := fun hx => cs (h4.1 (f2.1 hx))
            have n2 : ¬ y20.toInt ≠ 0 := fun hx => cs (i20.1 hx)
            omega
        · rw [← f2, ← i20, c2]
        · rw [e25] at h123
          have f4 : v123.toInt ≠ 0 ↔ FLq w ((w 5 1).toInt.toNat - m + r) 4 := h123
          refine ⟨fun c h => h.2.2.2.2 ⟨h33.1 c33, f4.1 c⟩, fun c => good ⟨h57.1 c1, c26, c27, ?_, fun h => (f4.2 h.2) c⟩⟩
          rw [← f2, ← i20, c2]
  have fb : (s142 6 3).toInt ≠ 0 ↔ BFw w m lo res a2 stc body rr := by
    rw [f142, nv, o1]
    unfold BFw
    constructor
    · rintro (h | h | h)
      · exact absurd hf h
      · exact Or.inr (Classical.byContradiction (fun hx => (h134.2 hx) h))
      · exact Or.inl ⟨h.1, by omega⟩
    · rintro (h | h)
      · exact Or.inr (Or.inr ⟨h.1, by omega⟩)
      · exact Or.inr (Or.inl (Decidable.byContradiction (fun hx => (h134.1 hx) h)))
  refine ⟨fun c0 => ?_, fun c0 => k1 (fb.1 c0) s142 c0⟩
  have nb : ¬ BFw w m lo res a2 stc body rr := fun h => (fb.2 h) c0
  obtain ⟨d, hdn, hd1, hd9⟩ : ∃ d : Nat, (rr = -1 → m < 100 ∧ d = (w 5 1).toInt.toNat) ∧ (∀ r : Nat, rr = ((lo + r : Nat) : Int) → r < m ∧ d = (w 5 1).toInt.toNat - m + r) ∧ d < 10100 := by
    rcases q3 with h3 | ⟨r, h3, h4⟩
    · have hm : m < 100 := by
        have : ¬ m = 100 := fun h => nb (Or.inl ⟨h3, h⟩)
        omega
      have := (hlm h3 hm).1
      exact ⟨(w 5 1).toInt.toNat, fun _ => ⟨hm, rfl⟩, fun r hr => by omega, by omega⟩
    · exact ⟨(w 5 1).toInt.toNat - m + r, fun h => by omega, fun r' hr' => by
        have : r' = r := by omega
        rw [this]
        exact ⟨h3, rfl⟩, by omega⟩
  have fl0 : ∀ s : St, s 25 d = 0 → rr = -1 → FLv w s d (rr = -1) False False := fun s h c => ⟨⟨fun h1 => absurd h1 (fl_zero h), fun h1 => absurd c h1.1⟩, ⟨fun h1 => absurd h1 (fl_zero h), fun h1 => h1.elim (fun h1 => absurd c h1.1) False.elim⟩, ⟨fun h1 => absurd h1 (fl_zero h), fun h1 => h1.elim (fun h1 => absurd c h1.1) False.elim⟩, ⟨fun h1 => absurd h1 (fl_zero h), fun h1 => absurd c h1.1⟩⟩
  have fl1 : ∀ s : St, ¬ rr = -1 → s 25 d = w 25 d → FLv w s d (rr = -1) False False := fun s c h => ⟨(fl_same h).trans ⟨fun h => ⟨c, h⟩, fun h => h.2⟩, (fl_same h).trans ⟨fun h => Or.inl ⟨c, h⟩, fun h => h.elim (fun h => h.2) False.elim⟩, (fl_same h).trans ⟨fun h => Or.inl ⟨c, h⟩, fun h => h.elim (fun h => h.2) False.elim⟩, (fl_same h).trans ⟨fun h => ⟨c, h⟩, fun h => h.2⟩⟩
  refine ⟨fun y s => y.toInt = (d : Int) ∧ Kp [(6, 3), (6, 4), (6, 7), (5, 7), (5, 1)] [38, 39, 30, 29, 25, 28] w s ∧ (s 6 3).toInt = 0 ∧ (∀ j, j ≠ d → s 25 j = w 25 j) ∧ FLv w s d (rr = -1) False False ∧ NWf w s u m d (rr = -1) ∧ (∀ j, j ≠ d → s 28 j = w 28 j), ?_, fun cv => ?_, fun cv => ?_⟩
  rotate_left
  · have c : ¬ rr = -1 := fun h => by have := nv.2 h; omega
    rcases q3 with h3 | ⟨r, h3, h4⟩
    · exact absurd h3 c
    · refine ⟨by rw [q2 r h4, (hd1 r h4).2], kp_sub k142 rfl rfl, c0, fun j _ => k142 25 j rfl rfl, fl1 _ c (k142 25 d rfl rfl), ⟨fun h => absurd h c, fun _ => ⟨k142 6 7 rfl rfl, k142 5 1 rfl rfl, k142 5 7 rfl rfl, funext (fun j => k142 38 j rfl rfl), funext (fun j => k142 39 j rfl rfl)⟩⟩, fun j _ => k142 28 j rfl rfl⟩
  · have c : rr = -1 := nv.1 cv
    obtain ⟨hm, hd⟩ := hdn c
    obtain ⟨hl1, hl2⟩ := hlm c hm
    have hE1 : REq kd n 0 m lo s142 σ := re_cd hE (cd_ko (ko_kp k142) rfl rfl) dd_rf
    refine xl_declareOuter hE1 ha hu ku hm hl1 hl2 (fun v s dn g1 g2 g3 hcd => ?_)
    obtain ⟨p1, p2, p3, p4, p5, p6, p7, p8, p9⟩ := hcd
    have e51 : (s142 5 1).toInt = (w 5 1).toInt := by rw [k142 5 1 rfl rfl]
    have edn : dn = d := by omega
    have e14 : s142 14 u = w 14 u := k142 14 u rfl rfl
    have e57 : s142 5 7 = w 5 7 := k142 5 7 rfl rfl
    have e38 : s142 38 = w 38 := funext (fun j => k142 38 j rfl rfl)
    have e39 : s142 39 = w 39 := funext (fun j => k142 39 j rfl rfl)
    have e1 : s142 1 = w 1 := funext (fun j => k142 1 j rfl rfl)
    rw [e14, e57] at p4
    rw [e38] at p5
    rw [e39] at p6
    rw [edn] at p3 p7 p9 g2
    rw [e1] at p8
    refine ⟨g2, kp_tr (kp_sub k142 rfl rfl) (kp_sub p1 rfl rfl), by rw [p1 6 3 rfl rfl]; exact c0, fun j hj => ?_, fl0 s (by rw [p7, if_pos rfl]) c, ⟨fun _ => ⟨p2, by omega, p3, p4, p5, p6, p8⟩, fun h => absurd c h⟩, fun j hj => (p9 j hj).trans (k142 28 j rfl rfl)⟩
    rw [p7, if_neg hj]
    exact k142 25 j rfl rfl
  rintro y174 s174 ⟨hy, k174, f174, g25, gfl, gnw, g28⟩
  have e26 : s174 26 = w 26 := funext (fun j => k174 26 j rfl rfl)
  have e27 : s174 27 = w 27 := funext (fun j => k174 27 j rfl rfl)
  refine ⟨fun y => (stc ∧ y = 3) ∨ (¬ stc ∧ y = 1), fun y192 h192 => xl_mark hy hd9 (fun s192 k192 m192 => ?_), fun cc => Or.inr ⟨fun h => (h20.2.2 h) cc, rfl⟩, fun cc => Or.inl ⟨h20.2.1 cc, rfl⟩⟩
  have gfg : FLg w s192 d (rr = -1) stc False := by
    have hm := m192 d
    rw [if_pos rfl] at hm
    rcases h192 with ⟨h1, h2⟩ | ⟨h1, h2⟩
    · rw [h2] at hm
      exact flg_3 gfl hm h1
    · rw [h2] at hm
      exact flg_1 gfl hm h1
  rw [setv_at hy hd9, setv_at hy hd9, rdF_ne (by decide)]
  have i26 : s192 26 = w 26 := by rw [show s192 26 = s174 26 from funext (fun j => k192 26 j rfl rfl), e26]
  have i27 : s192 27 = w 27 := by rw [show s192 27 = s174 27 from funext (fun j => k192 27 j rfl rfl), e27]
  rw [i26, i27]
  have kA : Kp [] [25, 26, 27] s174 (upF (upF s192 26 (fun k => if k = d then res else w 26 k)) 27 (fun k => if k = d then a2 else w 27 k)) := kp_F (kp_F (kp_sub k192 rfl rfl) rfl) rfl
  have fA25 : (upF (upF s192 26 (fun k => if k = d then res else w 26 k)) 27 (fun k => if k = d then a2 else w 27 k)) 25 = s192 25 := by rw [rdF_ne (by decide), rdF_ne (by decide)]
  have fA26 : (upF (upF s192 26 (fun k => if k = d then res else w 26 k)) 27 (fun k => if k = d then a2 else w 27 k)) 26 = fun k => if k = d then res else w 26 k := by rw [rdF_ne (by decide), rdF_eq]
  have fA27 : (upF (upF s192 26 (fun k => if k = d then res else w 26 k)) 27 (fun k => if k = d then a2 else w 27 k)) 27 = fun k => if k = d then a2 else w 27 k := by rw [rdF_eq]
  generalize upF (upF s192 26 (fun k => if k = d then res else w 26 k)) 27 (fun k => if k = d then a2 else w 27 k) = sA at kA fA25 fA26 fA27
  have hA25 : ∀ j, j ≠ d → sA 25 j = w 25 j := fun j hj => by rw [fA25, m192, if_neg hj]; exact g25 j hj
  have hA28 : ∀ j, j ≠ d → sA 28 j = w 28 j := fun j hj => (kA 28 j rfl rfl).trans (g28 j hj)
  have gA : FLg w sA d (rr = -1) stc False := flg_s gfg (by rw [fA25])
  refine ⟨fun c33 => ?_, fun c33 => xl_mark hy hd9 (fun s234 k234 m234 => ?_)⟩
  · have nbd : ¬ body := fun h => (h33.2 h) c33
    have kz : Kp [(6, 3), (6, 4), (6, 7), (5, 7), (5, 1)] [25, 26, 27, 28, 29, 30, 38, 39] w sA := kp_tr (kp_sub k174 rfl rfl) (kp_sub kA rfl rfl)
    exact k0 nb sA d hdn hd1 ⟨kp_sub kz rfl rfl, by rw [kA 6 3 rfl rfl]; exact f174, nwf_k gnw (kp_sub kA rfl rfl), fun j hj => ⟨hA25 j hj, by rw [fA26]; exact if_neg hj, by rw [fA27]; exact if_neg hj, hA28 j hj⟩, by rw [fA26]; exact if_pos rfl, by rw [fA27]; exact if_pos rfl, ⟨gA.1, gA.2.1, gA.2.2.1.trans ⟨fun h => h.imp id False.elim, fun h => h.imp id (fun h => absurd h nbd)⟩, gA.2.2.2⟩, fun h => absurd h nbd, fun _ => ⟨kz 6 6 rfl rfl, kz 6 10 rfl rfl, kz 6 15 rfl rfl, kz 6 17 rfl rfl, funext (fun j => kz 45 j rfl rfl)⟩⟩
  · have hbd := h33.1 c33
    have gB : FLg w s234 d (rr = -1) stc body := flg_4 gA (by rw [m234, if_pos rfl]) hbd
    have hB25 : ∀ j, j ≠ d → s234 25 j = w 25 j := fun j hj => by rw [m234, if_neg hj]; exact hA25 j hj
    have fin : ∀ (v : Int32) (x : Int32), pk_X11_enter y174 (upF (upC s234 4 1 x) 28 (setv 10100 ((upC s234 4 1 x) 28) y174 v)) (fun s262 => Q s262) := fun v x => by
      unfold pk_X11_enter pk_X11_leave pk_X11_open
      dsimp only
      have k1' : Kp [(4, 1), (6, 6), (6, 10), (6, 15), (6, 17)] [28] s234 (upC (upC (upC (upC (upC (upF (upC s234 4 1 x) 28 (setv 10100 ((upC s234 4 1 x) 28) y174 v)) 6 6 ((-1) : Int32)) 6 10 (0 : Int32)) 6 15 (0 : Int32)) 6 17 (0 : Int32)) 6 6 y174) := kp_f (kp_f (kp_f (kp_f (kp_f (kp_F (kp_f kp_rf rfl) rfl) rfl) rfl) rfl) rfl) rfl
      have e28 : ∀ j, j ≠ d → (upC (upC (upC (upC (upC (upF (upC s234 4 1 x) 28 (setv 10100 ((upC s234 4 1 x) 28) y174 v)) 6 6 ((-1) : Int32)) 6 10 (0 : Int32)) 6 15 (0 : Int32)) 6 17 (0 : Int32)) 6 6 y174) 28 j = s234 28 j := fun j hj => by
        rw [rdC_ne (by decide), rdC_ne (by decide), rdC_ne (by decide), rdC_ne (by decide), rdC_ne (by decide), rdF_eq, setv_at hy hd9]
        exact (if_neg hj).trans (congrFun (rdC_ne (by decide)) j)
      have e66 : (upC (upC (upC (upC (upC (upF (upC s234 4 1 x) 28 (setv 10100 ((upC s234 4 1 x) 28) y174 v)) 6 6 ((-1) : Int32)) 6 10 (0 : Int32)) 6 15 (0 : Int32)) 6 17 (0 : Int32)) 6 6 y174) 6 6 = y174 := rdA_eq rfl
      have e610 : (upC (upC (upC (upC (upC (upF (upC s234 4 1 x) 28 (setv 10100 ((upC s234 4 1 x) 28) y174 v)) 6 6 ((-1) : Int32)) 6 10 (0 : Int32)) 6 15 (0 : Int32)) 6 17 (0 : Int32)) 6 6 y174) 6 10 = 0 := by rw [rdA_ne (by decide), rdA_ne (by decide), rdA_ne (by decide), rdA_eq rfl]
      have e615 : (upC (upC (upC (upC (upC (upF (upC s234 4 1 x) 28 (setv 10100 ((upC s234 4 1 x) 28) y174 v)) 6 6 ((-1) : Int32)) 6 10 (0 : Int32)) 6 15 (0 : Int32)) 6 17 (0 : Int32)) 6 6 y174) 6 15 = 0 := by rw [rdA_ne (by decide), rdA_ne (by decide), rdA_eq rfl]
      have e617 : (upC (upC (upC (upC (upC (upF (upC s234 4 1 x) 28 (setv 10100 ((upC s234 4 1 x) 28) y174 v)) 6 6 ((-1) : Int32)) 6 10 (0 : Int32)) 6 15 (0 : Int32)) 6 17 (0 : Int32)) 6 6 y174) 6 17 = 0 := by rw [rdA_ne (by decide), rdA_eq rfl]
      generalize upC (upC (upC (upC (upC (upF (upC s234 4 1 x) 28 (setv 10100 ((upC s234 4 1 x) 28) y174 v)) 6 6 ((-1) : Int32)) 6 10 (0 : Int32)) 6 15 (0 : Int32)) 6 17 (0 : Int32)) 6 6 y174 = s5 at k1' e28 e66 e610 e615 e617
      rw [e617, e615]
      have k6 : Kp [(6, 17)] [45] s5 (upC (upF s5 45 (setv 52 (s5 45) (0 : Int32) (0 : Int32))) 6 17 ((0 : Int32) + (1 : Int32))) := kp_f (kp_F kp_rf rfl) rfl
      have f17 : ((upC (upF s5 45 (setv 52 (s5 45) (0 : Int32) (0 : Int32))) 6 17 ((0 : Int32) + (1 : Int32))) 6 17).toInt = 1 := by rw [rdA_eq rfl]; rfl
      have f45 : ((upC (upF s5 45 (setv 52 (s5 45) (0 : Int32) (0 : Int32))) 6 17 ((0 : Int32) + (1 : Int32))) 45 0).toInt = 0 := by
        rw [rdC_ne (by decide), rdF_eq, setv_at (j := 0) rfl (by decide)]
        rfl
      generalize upC (upF s5 45 (setv 52 (s5 45) (0 : Int32) (0 : Int32))) 6 17 ((0 : Int32) + (1 : Int32)) = s6 at k6 f17 f45
      have kB : Kp [(4, 1), (6, 6), (6, 10), (6, 15), (6, 17)] [28, 45] s234 s6 := kp_tr (kp_sub k1' rfl rfl) (kp_sub k6 rfl rfl)
      have kC : Kp [(4, 1), (6, 6), (6, 10), (6, 15), (6, 17)] [25, 26, 27, 28, 45] s174 s6 := kp_tr (kp_sub kA rfl rfl) (kp_tr (kp_sub k234 rfl rfl) (kp_sub kB rfl rfl))
      have c25 : s6 25 = s234 25 := funext (fun j => kB 25 j rfl rfl)
      have c26 : s6 26 = sA 26 := by rw [show s6 26 = s234 26 from funext (fun j => kB 26 j rfl rfl)]; exact funext (fun j => k234 26 j rfl rfl)
      have c27 : s6 27 = sA 27 := by rw [show s6 27 = s234 27 from funext (fun j => kB 27 j rfl rfl)]; exact funext (fun j => k234 27 j rfl rfl)
      have gnw' : NWf w s6 u m d (rr = -1) := by
        have e38 : s6 38 = s174 38 := funext (fun j => kC 38 j rfl rfl)
        have e39 : s6 39 = s174 39 := funext (fun j => kC 39 j rfl rfl)
        unfold NWf
        rw [kC 6 7 rfl rfl, kC 5 1 rfl rfl, kC 5 7 rfl rfl, e38, e39]
        exact gnw
      refine k0 nb s6 d hdn hd1 ⟨kp_tr (kp_sub k174 rfl rfl) (kp_sub kC rfl rfl), by rw [kC 6 3 rfl rfl]; exact f174, gnw', fun j hj => ⟨by rw [c25]; exact hB25 j hj, by rw [c26, fA26]; exact if_neg hj, by rw [c27, fA27]; exact if_neg hj, by rw [k6 28 j rfl rfl, e28 j hj, k234 28 j rfl rfl]; exact hA28 j hj⟩, by rw [c26, fA26]; exact if_pos rfl, by rw [c27, fA27]; exact if_pos rfl, flg_s gB (by rw [c25]), fun _ => ⟨by rw [k6 6 6 rfl rfl, e66]; exact hy, by rw [k6 6 10 rfl rfl, e610]; rfl, by rw [k6 6 15 rfl rfl, e615]; rfl, f17, f45⟩, fun h => absurd hbd h⟩
    unfold pk_X0_header
    exact ⟨fun _ => fin _ _, fun _ => fin _ _⟩
end XFU
