section
/-! outside of functions: the class's variables -/
def SQl (w : St) (lack : Prop) : Prop := 0 ≤ (w 8 6).toInt ∧ (((w 8 7).toInt = -1 ∧ ¬ lack) ∨ ((w 8 7).toInt ≠ -1 ∧ (w 8 7).toInt < 1) ∨ 4000 < (w 8 7).toInt)
def FLv (w s : St) (d : Nat) (nw c2 c4 : Prop) : Prop := (FLq s d 1 ↔ ¬ nw ∧ FLq w d 1) ∧ (FLq s d 2 ↔ (¬ nw ∧ FLq w d 2) ∨ c2) ∧ (FLq s d 4 ↔ (¬ nw ∧ FLq w d 4) ∨ c4) ∧ (FLq s d 8 ↔ ¬ nw ∧ FLq w d 8)
/-- what is declared, once more or first -/
def NWf (w s : St) (u m d : Nat) (nw : Prop) : Prop := (nw → (s 6 7).toInt = (m : Int) + 1 ∧ (d : Int) = (w 5 1).toInt ∧ (s 5 1).toInt = (d : Int) + 1 ∧ (s 5 7).toInt = (w 5 7).toInt + (w 14 u).toInt ∧ (∀ j, (s 38 j).toInt = if j = m then (u : Int) else (w 38 j).toInt) ∧ (∀ j, s 39 j = if j = m then -1 else w 39 j) ∧ ByteOK (w 1)) ∧ (¬ nw → s 6 7 = w 6 7 ∧ s 5 1 = w 5 1 ∧ s 5 7 = w 5 7 ∧ s 38 = w 38 ∧ s 39 = w 39)
/-- a variable outside of functions is declared -/
def OUf (w s : St) (u m d : Nat) (nw : Prop) (lk : Int32) : Prop :=
  Kp [(6, 3), (6, 4), (8, 10), (8, 14), (6, 5), (6, 7), (5, 7), (5, 1)] [25, 26, 27, 28, 29, 30, 38, 39] w s ∧ (s 6 3).toInt = 0 ∧ NWf w s u m d nw ∧ (∀ j, j ≠ d → s 25 j = w 25 j ∧ s 26 j = w 26 j ∧ s 27 j = w 27 j) ∧ s 26 d = w 8 11 ∧ (nw ∨ 0 < (w 8 12).toInt → s 27 d = w 8 12) ∧ (¬ nw → ¬ 0 < (w 8 12).toInt → s 27 d = w 27 d) ∧ FLv w s d nw (lk.toInt = 1) ((w 8 13).toInt = 0) ∧ (s 6 5).toInt = (w 6 5).toInt + CLw w
def BDc (w : St) (m lo : Nat) (lk : Int32) (lack : Prop) (rr : Int) : Prop := ((rr = -1 ∧ m = 100) ∨ ∃ r : Nat, rr = ((lo + r : Nat) : Int) ∧ ¬ JNw w ((w 5 1).toInt.toNat - m + r) lk) ∨ SQl w lack ∨ 16000 < (w 6 5).toInt + CLw w
section XOU
variable {w s r σ σ' : St} {kd : Nat → Int} {n S m lo u dn d : Nat} {a b c y84 : Int32} {Q : St → Prop} {rr : Int} {nw c2 c4 : Prop}
theorem sq_l {lack : Prop} {y : Int32} (h : y.toInt ≠ 0 ↔ lack) : SQb w y ↔ SQl w lack := by
  unfold SQb SQl
  constructor
  · rintro ⟨h0, h1 | h1 | h1⟩
    · exact ⟨h0, Or.inl ⟨h1.1, fun hx => (h.2 hx) h1.2⟩⟩
    · exact ⟨h0, Or.inr (Or.inl h1)⟩
    · exact ⟨h0, Or.inr (Or.inr h1)⟩
  · rintro ⟨h0, h1 | h1 | h1⟩
    · exact ⟨h0, Or.inl ⟨h1.1, Decidable.byContradiction (fun hx => h1.2 (h.1 hx))⟩⟩
    · exact ⟨h0, Or.inr (Or.inl h1)⟩
    · exact ⟨h0, Or.inr (Or.inr h1)⟩
theorem sq_k (k : Kp [(6, 3), (6, 4)] [] w s) {y : Int32} : SQb s y ↔ SQb w y := by
  unfold SQb
  rw [k 8 6 rfl rfl, k 8 7 rfl rfl]
theorem flv_2 (h : FLv w s d nw False False) (e : r 25 d = (s 25 d) ||| (2 : Int32)) (h2 : c2) : FLv w r d nw c2 False := by
  obtain ⟨h1, _, h4, h8⟩ := h
  exact ⟨(fl_no e (by decide)).trans h1, ⟨fun _ => Or.inr h2, fun _ => fl_yes e (by decide) (by decide)⟩, (fl_no e (by decide)).trans h4, (fl_no e (by decide)).trans h8⟩
theorem flv_4 (h : FLv w s d nw c2 False) (e : r 25 d = (s 25 d) ||| (4 : Int32)) (h4 : c4) : FLv w r d nw c2 c4 := by
  obtain ⟨h1, h2, _, h8⟩ := h
  exact ⟨(fl_no e (by decide)).trans h1, (fl_no e (by decide)).trans h2, ⟨fun _ => Or.inr h4, fun _ => fl_yes e (by decide) (by decide)⟩, (fl_no e (by decide)).trans h8⟩
theorem flv_s (h : FLv w s d nw c2 c4) (e : r 25 d = s 25 d) : FLv w r d nw c2 c4 := ⟨(fl_same e).trans h.1, (fl_same e).trans h.2.1, (fl_same e).trans h.2.2.1, (fl_same e).trans h.2.2.2⟩
theorem flv_c {c2' c4' : Prop} (h : FLv w s d nw c2 c4) (e2 : c2 ↔ c2') (e4 : c4 ↔ c4') : FLv w s d nw c2' c4' := ⟨h.1, by rw [h.2.1, e2], by rw [h.2.2.1, e4], h.2.2.2⟩
theorem nwf_k (h : NWf w s u m d nw) (k : Kp [(6, 3), (6, 4), (8, 10), (8, 14), (6, 5)] [25, 26, 27, 28] s r) : NWf w r u m d nw := by
  have e38 : r 38 = s 38 := funext (fun j => k 38 j rfl rfl)
  have e39 : r 39 = s 39 := funext (fun j => k 39 j rfl rfl)
  unfold NWf
  rw [k 6 7 rfl rfl, k 5 1 rfl rfl, k 5 7 rfl rfl, e38, e39]
  exact h
theorem xo_outer {lack : Prop} (hE : REq kd n S m lo w σ) (hf : (w 6 3).toInt = 0) (ha : a.toInt = (u : Int)) (hu : u ≤ n) (ku : kd u = 2) (h8 : -1 ≤ (w 8 12).toInt ∧ (w 8 12).toInt ≤ 4000) (hlk : lack ↔ c.toInt ≠ 0 ∨ (w 8 13).toInt ≠ 0) (hrr : EFm σ lo (lo + m) u rr) (hlm : rr = -1 → m < 100 → lo + m < 10000 ∧ (σ 0 31).toInt + ((σ 4 u).toInt - (σ 3 u).toInt) ≤ 65536)
    (k1 : BDc w m lo b lack rr → ∀ s, (s 6 3).toInt ≠ 0 → Q s)
    (k0 : ¬ BDc w m lo b lack rr → ∀ s d, (rr = -1 → m < 100 ∧ d = (w 5 1).toInt.toNat) → (∀ r : Nat, rr = ((lo + r : Nat) : Int) → r < m ∧ d = (w 5 1).toInt.toNat - m + r) → OUf w s u m d (rr = -1) b → Q s) : pk_X1_outer a b c w Q := by
  have hE' := hE
  obtain ⟨hT, hL, ⟨o1, o2, o3, ⟨o4, o4b⟩, o5, o6⟩, ⟨D, hD1, hD2, hD3⟩, hY⟩ := hE'
  have o59 := o5.2.2.2.1
  unfold pk_X1_outer
  refine xo_find hE ha hu ku hrr (fun v5 q1 q2 q3 => ?_)
  have nv : v5.toInt < 0 ↔ rr = -1 := by
    constructor
    · intro h
      rcases q3 with h3 | ⟨r, h3, h4⟩
      · exact h3
      · have := q2 r h4
        omega
    · exact q1
  refine ⟨fun y => (y.toInt ≠ 0 ↔ ¬ ∃ r : Nat, rr = ((lo + r : Nat) : Int) ∧ ¬ JNw w ((w 5 1).toInt.toNat - m + r) b), fun y34 _ h34 => xl_checkOuter (fun s34 k34 f34 => ⟨fun y => (y.toInt ≠ 0 ↔ lack), fun y54 _ h54 => xc_square (fun s54 k54 f54 => ?_), lack, fun hj => ⟨fun _ => hj, fun _ => by decide⟩, fun cc => hlk.2 (Or.inl cc), fun cc => ⟨fun c13 => ⟨fun h => absurd rfl h, fun h => ?_⟩, fun c13 => ?_⟩⟩), ¬ ∃ r : Nat, rr = ((lo + r : Nat) : Int) ∧ ¬ JNw w ((w 5 1).toInt.toNat - m + r) b, fun hj => ⟨fun _ => hj, fun _ => by decide⟩, fun cv => ?_, fun cv => ?_⟩
  rotate_left
  · rw [k34 8 13 rfl rfl] at c13
    exact (hlk.1 h).elim (fun h => absurd cc h) (fun h => absurd c13 h)
  · rw [k34 8 13 rfl rfl] at c13
    exact hlk.2 (Or.inr c13)
  · rintro ⟨r, h1, _⟩
    have := nv.1 cv
    omega
  · rcases q3 with h3 | ⟨r, h3, h4⟩
    · exact absurd (nv.2 h3) (by omega)
    · have hv := q2 r h4
      refine xl_joins hv (by omega) (fun hj => ⟨fun h => absurd h (by decide), fun _ => ?_⟩) (fun hj => ⟨fun _ => ⟨fun h => absurd rfl h, fun h => absurd ⟨r, h4, hj⟩ h⟩, fun h => absurd rfl h⟩)
      rintro ⟨r', h1, h2⟩
      have : r' = r := by omega
      rw [this] at h2
      exact h2 hj
  have k254 : Kp [(6, 3), (6, 4)] [] w s54 := kp_tr k34 k54
  have fb : (s54 6 3).toInt ≠ 0 ↔ ((rr = -1 ∧ m = 100) ∨ ∃ r : Nat, rr = ((lo + r : Nat) : Int) ∧ ¬ JNw w ((w 5 1).toInt.toNat - m + r) b) ∨ SQl w lack := by
    rw [f54, f34, sq_k k34, sq_l h54, nv, o1]
    constructor
    · rintro ((h | h | h) | h)
      · exact absurd hf h
      · exact Or.inl (Or.inr (Classical.byContradiction (fun hx => (h34.2 hx) h)))
      · exact Or.inl (Or.inl ⟨h.1, by omega⟩)
      · exact Or.inr h
    · rintro ((h | h) | h)
      · exact Or.inl (Or.inr (Or.inr ⟨h.1, by omega⟩))
      · exact Or.inl (Or.inr (Or.inl (Decidable.byContradiction (fun hx => (h34.1 hx) h))))
      · exact Or.inr h
  have e13 : s54 8 13 = w 8 13 := k254 8 13 rfl rfl
  have e12 : s54 8 12 = w 8 12 := k254 8 12 rfl rfl
  have e65 : s54 6 5 = w 6 5 := k254 6 5 rfl rfl
  rw [e13, e12, e65]
  have cl0 : 0 ≤ CLw w ∧ CLw w ≤ 4000 := by
    unfold CLw
    split
    · decide
    · split
      · decide
      · omega
  refine ⟨fun y => y.toInt = CLw w, fun y84 h84 => ?_, fun c13 => ⟨fun c12 => ?_, fun c12 => ?_⟩, fun c13 => ?_⟩
  rotate_left
  · show (w 8 12).toInt = CLw w
    unfold CLw
    rw [if_neg (fun h => h c13), if_neg c12]
  · show ((1 : Int32)).toInt = CLw w
    unfold CLw
    rw [if_neg (fun h => h c13), if_pos c12]
    rfl
  · show ((0 : Int32)).toInt = CLw w
    unfold CLw
    rw [if_pos c13]
    rfl
  have e84 : ((w 6 5) + y84).toInt = (w 6 5).toInt + CLw w := by rw [ad (by omega) (by omega), h84]
  rw [e84]
  refine ⟨fun s => Kp [(6, 3), (6, 4)] [] w s ∧ ((s 6 3).toInt ≠ 0 ↔ BDc w m lo b lack rr), ?_, fun c1 => ⟨k254, ?_⟩, fun c1 => xl_fail (by decide) (fun s k f => ⟨kp_tr k254 k, fun _ => Or.inr (Or.inr c1), fun _ => f⟩)⟩
  rotate_left
  · rw [fb]
    unfold BDc
    exact ⟨fun h => h.elim Or.inl (fun h => Or.inr (Or.inl h)), fun h => h.elim Or.inl (fun h => h.elim Or.inr (fun h => by omega))⟩
  rintro s111 ⟨k111, f111⟩
  refine ⟨fun c0 => ?_, fun c0 => k1 (f111.1 c0) s111 c0⟩
  have nb : ¬ BDc w m lo b lack rr := fun h => (f111.2 h) c0
  obtain ⟨d, hdn, hd0, hd1, hd9⟩ : ∃ d : Nat, (rr = -1 → m < 100 ∧ d = (w 5 1).toInt.toNat) ∧ (rr = -1 → True) ∧ (∀ r : Nat, rr = ((lo + r : Nat) : Int) → r < m ∧ d = (w 5 1).toInt.toNat - m + r) ∧ d < 10100 := by
    rcases q3 with h3 | ⟨r, h3, h4⟩
    · have hm : m < 100 := by
        have : ¬ m = 100 := fun h => nb (Or.inl (Or.inl ⟨h3, h⟩))
        omega
      have := (hlm h3 hm).1
      exact ⟨(w 5 1).toInt.toNat, fun _ => ⟨hm, rfl⟩, fun _ => trivial, fun r hr => by omega, by omega⟩
    · exact ⟨(w 5 1).toInt.toNat - m + r, fun h => by omega, fun _ => trivial, fun r' hr' => by
        have : r' = r := by omega
        rw [this]
        exact ⟨h3, rfl⟩, by omega⟩
  have b12 : s111 8 12 = w 8 12 := k111 8 12 rfl rfl
  have fl0 : ∀ s : St, s 25 d = 0 → FLv w s d (rr = -1) False False ∨ ¬ rr = -1 := fun s h => by
    by_cases c : rr = -1
    · exact Or.inl ⟨⟨fun h1 => absurd h1 (fl_zero h), fun h1 => absurd c h1.1⟩, ⟨fun h1 => absurd h1 (fl_zero h), fun h1 => h1.elim (fun h1 => absurd c h1.1) False.elim⟩, ⟨fun h1 => absurd h1 (fl_zero h), fun h1 => h1.elim (fun h1 => absurd c h1.1) False.elim⟩, ⟨fun h1 => absurd h1 (fl_zero h), fun h1 => absurd c h1.1⟩⟩
    · exact Or.inr c
  have fl1 : ∀ s : St, ¬ rr = -1 → s 25 d = w 25 d → FLv w s d (rr = -1) False False := fun s c h => ⟨(fl_same h).trans ⟨fun h => ⟨c, h⟩, fun h => h.2⟩, (fl_same h).trans ⟨fun h => Or.inl ⟨c, h⟩, fun h => h.elim (fun h => h.2) False.elim⟩, (fl_same h).trans ⟨fun h => Or.inl ⟨c, h⟩, fun h => h.elim (fun h => h.2) False.elim⟩, (fl_same h).trans ⟨fun h => ⟨c, h⟩, fun h => h.2⟩⟩
  refine ⟨fun y s => y.toInt = (d : Int) ∧ Kp [(6, 3), (6, 4), (6, 7), (5, 7), (5, 1)] [38, 39, 30, 29, 25, 28] w s ∧ (s 6 3).toInt = 0 ∧ (∀ j, j ≠ d → s 25 j = w 25 j) ∧ FLv w s d (rr = -1) False False ∧ NWf w s u m d (rr = -1), ?_, fun cv => ?_, fun cv => ?_⟩
  rotate_left
  · have c : ¬ rr = -1 := fun h => by have := nv.2 h; omega
    rcases q3 with h3 | ⟨r, h3, h4⟩
    · exact absurd h3 c
    · refine ⟨by rw [q2 r h4, (hd1 r h4).2], kp_sub k111 rfl rfl, c0, fun j _ => k111 25 j rfl rfl, fl1 _ c (k111 25 d rfl rfl), fun h => absurd h c, fun _ => ⟨k111 6 7 rfl rfl, k111 5 1 rfl rfl, k111 5 7 rfl rfl, funext (fun j => k111 38 j rfl rfl), funext (fun j => k111 39 j rfl rfl)⟩⟩
  · have c : rr = -1 := nv.1 cv
    obtain ⟨hm, hd⟩ := hdn c
    obtain ⟨hl1, hl2⟩ := hlm c hm
    have hE1 : REq kd n S m lo s111 σ := re_cd hE (cd_ko (ko_kp k111) rfl rfl) dd_rf
    refine xl_declareOuter hE1 ha hu ku hm hl1 hl2 (fun v s dn g1 g2 g3 hcd => ?_)
    obtain ⟨p1, p2, p3, p4, p5, p6, p7, p8⟩ := hcd
    have e51 : (s111 5 1).toInt = (w 5 1).toInt := by rw [k111 5 1 rfl rfl]
    have edn : dn = d := by omega
    have e14 : s111 14 u = w 14 u := k111 14 u rfl rfl
    have e57 : s111 5 7 = w 5 7 := k111 5 7 rfl rfl
    have e38 : s111 38 = w 38 := funext (fun j => k111 38 j rfl rfl)
    have e39 : s111 39 = w 39 := funext (fun j => k111 39 j rfl rfl)
    have e1 : s111 1 = w 1 := funext (fun j => k111 1 j rfl rfl)
    rw [e14, e57] at p4
    rw [e38] at p5
    rw [e39] at p6
    rw [edn] at p3 p7 g2
    rw [e1] at p8
    refine ⟨g2, kp_tr (kp_sub k111 rfl rfl) (kp_sub p1 rfl rfl), by rw [p1 6 3 rfl rfl]; exact c0, fun j hj => ?_, (fl0 s (by rw [p7, if_pos rfl])).elim id (fun h => absurd c h), fun _ => ⟨p2, by omega, p3, p4, p5, p6, p8⟩, fun h => absurd c h⟩
    rw [p7, if_neg hj]
    exact k111 25 j rfl rfl
  rintro y141 s141 ⟨hy, k141, f141, g25, gfl, gnw⟩
  have b8 : ∀ j, s141 8 j = w 8 j := fun j => k141 8 j rfl rfl
  have e26 : s141 26 = w 26 := funext (fun j => k141 26 j rfl rfl)
  have e27 : s141 27 = w 27 := funext (fun j => k141 27 j rfl rfl)
  rw [b8, b8]
  refine ⟨fun s => Kp [(8, 10)] [26, 27] s141 s ∧ (s 8 10).toInt = (d : Int) ∧ (∀ j, j ≠ d → s 26 j = w 26 j ∧ s 27 j = w 27 j) ∧ s 26 d = w 8 11 ∧ (rr = -1 ∨ 0 < (w 8 12).toInt → s 27 d = w 8 12) ∧ (¬ rr = -1 → ¬ 0 < (w 8 12).toInt → s 27 d = w 27 d), ?_, rr = -1 ∨ 0 < (w 8 12).toInt, fun hj => ?_, fun cv => Or.inl (nv.1 cv), fun cv => ⟨fun c12 => ?_, fun c12 => Or.inr c12⟩⟩
  rotate_left
  · rw [setv_at hy hd9, setv_at hy hd9, rdF_ne (by decide), rdC_ne (by decide), rdC_ne (by decide), e26, e27]
    refine ⟨kp_F (kp_F (kp_f kp_rf rfl) rfl) rfl, ?_, fun j hj => ⟨?_, ?_⟩, ?_, fun _ => ?_, fun h1 h2 => absurd hj (fun h => h.elim h1 h2)⟩
    · rw [rdF_ne (by decide), rdF_ne (by decide), rdA_eq rfl]; exact hy
    · rw [rdF_ne (by decide), rdF_eq]; exact if_neg hj
    · rw [rdF_eq]; exact if_neg hj
    · rw [rdF_ne (by decide), rdF_eq]; exact if_pos rfl
    · rw [rdF_eq]; exact if_pos rfl
  · rw [setv_at hy hd9, rdC_ne (by decide), e26]
    have c : ¬ rr = -1 := fun h => by have := nv.2 h; omega
    refine ⟨kp_F (kp_f kp_rf rfl) rfl, ?_, fun j hj => ⟨?_, ?_⟩, ?_, fun h => h.elim (fun h => absurd h c) (fun h => by omega), fun _ _ => ?_⟩
    · rw [rdF_ne (by decide), rdA_eq rfl]; exact hy
    · rw [rdF_eq]; exact if_neg hj
    · rw [rdF_ne (by decide), rdC_ne (by decide), e27]
    · rw [rdF_eq]; exact if_pos rfl
    · rw [rdF_ne (by decide), rdC_ne (by decide), e27]
  rintro s192 ⟨k192, p10, pj, p26, p27, p27b⟩
  have e25 : s192 25 = s141 25 := funext (fun j => k192 25 j rfl rfl)
  refine ⟨fun s => Kp [] [25] s192 s ∧ (∀ j, j ≠ d → s 25 j = w 25 j) ∧ FLv w s d (rr = -1) (b.toInt = 1) False, ?_, fun cb => ⟨kp_rf, fun j hj => by rw [e25]; exact g25 j hj, flv_c (flv_s gfl (by rw [e25])) ⟨False.elim, fun h => absurd h cb⟩ Iff.rfl⟩, fun cb => xl_mark p10 hd9 (fun s ks hs => ⟨ks, fun j hj => ?_, flv_2 gfl (by rw [hs, if_pos rfl, e25]) cb⟩)⟩
  rotate_left
  · rw [hs, if_neg hj, e25]
    exact g25 j hj
  rintro s209 ⟨k209, h25, hfl⟩
  have k92 : Kp [(8, 10)] [25, 26, 27] s141 s209 := kp_tr (kp_sub k192 rfl rfl) (kp_sub k209 rfl rfl)
  have e913 : s209 8 13 = w 8 13 := by rw [k92 8 13 rfl rfl, b8]
  have e910 : (s209 8 10).toInt = (d : Int) := by rw [k209 8 10 rfl rfl]; exact p10
  rw [e913]
  refine ⟨fun s => Kp [] [25, 28] s209 s ∧ (∀ j, j ≠ d → s 25 j = w 25 j) ∧ FLv w s d (rr = -1) (b.toInt = 1) ((w 8 13).toInt = 0), ?_, fun cb => ⟨kp_rf, h25, flv_c hfl Iff.rfl ⟨False.elim, fun h => absurd h cb⟩⟩, fun cb => xl_mark e910 hd9 (fun s ks hs => ?_)⟩
  rotate_left
  · have e : (upF s 28 (setv 10100 (s 28) (s 8 10) (s 6 5))) 25 = s 25 := by rw [rdF_ne (by decide)]
    refine ⟨kp_F (kp_sub ks rfl rfl) rfl, fun j hj => ?_, flv_4 hfl (by rw [e, hs, if_pos rfl]) cb⟩
    rw [e, hs, if_neg hj]
    exact h25 j hj
  rintro s249 ⟨k249, h25b, hflb⟩
  have kz : Kp [(8, 10)] [25, 26, 27, 28] s141 s249 := kp_tr (kp_sub k92 rfl rfl) (kp_sub k249 rfl rfl)
  have kz2 : Kp [(8, 10), (8, 14), (6, 5)] [25, 26, 27, 28] s141 (upC (upC s249 8 14 (s249 6 5)) 6 5 ((s249 6 5) + y84)) := kp_f (kp_f (kp_sub kz rfl rfl) rfl) rfl
  have c25 : (upC (upC s249 8 14 (s249 6 5)) 6 5 ((s249 6 5) + y84)) 25 = s249 25 := by rw [rdC_ne (by decide), rdC_ne (by decide)]
  have c26 : (upC (upC s249 8 14 (s249 6 5)) 6 5 ((s249 6 5) + y84)) 26 = s192 26 := by rw [rdC_ne (by decide), rdC_ne (by decide), show s249 26 = s209 26 from funext (fun j => k249 26 j rfl rfl), show s209 26 = s192 26 from funext (fun j => k209 26 j rfl rfl)]
  have c27 : (upC (upC s249 8 14 (s249 6 5)) 6 5 ((s249 6 5) + y84)) 27 = s192 27 := by rw [rdC_ne (by decide), rdC_ne (by decide), show s249 27 = s209 27 from funext (fun j => k249 27 j rfl rfl), show s209 27 = s192 27 from funext (fun j => k209 27 j rfl rfl)]
  have c65 : ((upC (upC s249 8 14 (s249 6 5)) 6 5 ((s249 6 5) + y84)) 6 5).toInt = (w 6 5).toInt + CLw w := by
    have e : s249 6 5 = w 6 5 := by rw [kz 6 5 rfl rfl, k141 6 5 rfl rfl]
    rw [rdA_eq rfl, e]
    exact e84
  have c63 : ((upC (upC s249 8 14 (s249 6 5)) 6 5 ((s249 6 5) + y84)) 6 3).toInt = 0 := by rw [kz2 6 3 rfl rfl]; exact f141
  generalize upC (upC s249 8 14 (s249 6 5)) 6 5 ((s249 6 5) + y84) = sE at kz2 c25 c26 c27 c65 c63
  refine k0 nb sE d hdn hd1 ⟨kp_tr (kp_sub k141 rfl rfl) (kp_sub kz2 rfl rfl), c63, nwf_k gnw (kp_sub kz2 rfl rfl), fun j hj => ⟨?_, ?_, ?_⟩, ?_, fun h => ?_, fun h1 h2 => ?_, flv_s hflb (by rw [c25]), c65⟩
  · rw [c25]; exact h25b j hj
  · rw [c26]; exact (pj j hj).1
  · rw [c27]; exact (pj j hj).2
  · rw [c26]; exact p26
  · rw [c27]; exact p27 h
  · rw [c27]; exact p27b h1 h2
end XOU
end

section
/-! both sides: one more declared, or once more -/
section OAD
variable {w s r σ σ' σ1 : St} {kd : Nat → Int} {n S m lo u dn d e i : Nat} {sort : Int32}
theorem nar_same {x : Int32} (h : -128 ≤ x.toInt ∧ x.toInt ≤ 127) : vp_nar .byte x = x := by
  rw [vp_nar_byte]
  refine ieq ?_
  have h1 : (x.toInt8.toInt32).toInt = x.toInt8.toInt := by simp
  rw [h1, Int32.toInt_toInt8]
  have e : ((2 ^ 8 : Nat) : Int) = 256 := by decide
  rw [Int.bmod_def, e]
  split <;> omega
theorem byte_rng {f : Nat → Int32} (h : ByteOK f) (k : Nat) : -128 ≤ (f k).toInt ∧ (f k).toInt ≤ 127 := by
  have h1 : (decide (-128 ≤ f k) && decide (f k ≤ 127)) = true := h k
  have e1 : (-128 : Int32).toInt = -128 := by decide
  have e2 : (127 : Int32).toInt = 127 := by decide
  rw [Bool.and_eq_true, decide_eq_true_eq, decide_eq_true_eq, Int32.le_iff_toInt_le, Int32.le_iff_toInt_le, e1, e2] at h1
  exact h1
theorem dcf_n (hd : DCf σ σ1 u e i sort) : ∀ c, c ≠ 0 → c ≠ 9 → c ≠ 13 → c ≠ 14 → c ≠ 21 → c ≠ 18 → c ≠ 19 → c ≠ 20 → σ1 c = σ c := fun c h0 h9 h13 h14 h21 h18 h19 h20 => funext (fun j => hd.1 c j (by
  simp only [List.contains_cons, List.contains_nil, Bool.or_false, Bool.or_eq_false_iff, beq_eq_false_iff_ne, ne_eq, Prod.mk.injEq, not_and]
  omega) (by
  simp only [List.contains_cons, List.contains_nil, Bool.or_false, Bool.or_eq_false_iff, beq_eq_false_iff_ne, ne_eq]
  omega))
/-- the name of the new one -/
theorem ns_new (hT : TKR w σ kd n) (hu : u ≤ n) (ku : kd u = 2) (hb : ByteOK (w 1)) (hd : DCf σ σ1 u e i sort) (h31 : 0 ≤ (σ 0 31).toInt) (g18 : σ' 18 = σ1 18) (g19 : σ' 19 = σ1 19) (g20 : σ' 20 = σ1 20) (g1 : σ' 1 = σ 1) (g3 : σ' 3 = σ 3) (g4 : σ' 4 = σ 4) : NSm σ' e u := by
  obtain ⟨k, _, _, _, _, _, _, _, d18, d19, d20a, d20⟩ := hd
  obtain ⟨t1, t2, t3, t4, t5, t6⟩ := hT.2.2.2.1 u hu ku
  unfold NSm
  rw [g18, g19, g20, g1, g3, g4, d18, d19, if_pos rfl, if_pos rfl]
  refine ⟨sb (by omega) (by omega), fun q hq => ?_⟩
  rw [d20 q hq]
  have hb2 := byte_rng hb ((σ 3 u).toInt.toNat + q)
  have := hT.2.2.1 ((σ 3 u).toInt.toNat + q) (by omega)
  rw [nar_same (by omega)]
theorem ou_add (hO : OUR w σ kd n m lo) (hm : m < 100) (hl : lo + m < 10000) (c67 : (s 6 7).toInt = (m : Int) + 1) (c51 : (s 5 1).toInt = (w 5 1).toInt + 1) (c57 : (s 5 7).toInt = (w 5 7).toInt + ((σ 4 u).toInt - (σ 3 u).toInt)) (hlen : 0 ≤ (σ 4 u).toInt - (σ 3 u).toInt ∧ (σ 4 u).toInt - (σ 3 u).toInt ≤ 16000)
    (c38 : ∀ j, j < m → (s 38 j).toInt = (w 38 j).toInt) (c39 : ∀ j, j < m → s 39 j = w 39 j) (c25 : ∀ j, j ≠ (w 5 1).toInt.toNat → s 25 j = w 25 j ∧ s 26 j = w 26 j ∧ s 27 j = w 27 j)
    (hd : DCf σ σ1 u (lo + m) m sort) (k1 : Kp [(0, 10), (0, 12), (0, 13), (0, 37)] [10, 11, 12, 13, 15, 16, 17] σ1 σ') (r10 : ∀ j, j ≠ lo + m → σ' 10 j = σ 10 j) (r11 : ∀ j, j ≠ lo + m → σ' 11 j = σ 11 j) (r12 : ∀ j, j ≠ lo + m → σ' 12 j = σ 12 j) (r13 : ∀ j, j ≠ lo + m → σ' 13 j = σ 13 j) (r15 : ∀ j, j ≠ lo + m → σ' 15 j = σ 15 j) (r16 : ∀ x, x < 8 * (lo + m) → σ' 16 x = σ 16 x)
    (hnew : ORR s σ' kd n m (w 5 1).toInt.toNat (lo + m)) : OUR s σ' kd n (m + 1) lo := by
  obtain ⟨o1, o2, o3, ⟨o4, o4b⟩, ⟨q1, q2, q3, q4, q5, q6, q7, q8⟩, o6⟩ := hO
  have nn := dcf_n hd
  obtain ⟨k0, d36, d31, d31b, d9, d13, d14, d21, d18, d19, d20a, d20⟩ := hd
  have kx : ∀ c, c ≠ 0 → c ≠ 10 → c ≠ 11 → c ≠ 12 → c ≠ 13 → c ≠ 15 → c ≠ 16 → c ≠ 17 → σ' c = σ1 c := fun c h0 h1 h2 h3 h4 h5 h6 h7 => funext (fun j => k1 c j (by
    simp only [List.contains_cons, List.contains_nil, Bool.or_false, Bool.or_eq_false_iff, beq_eq_false_iff_ne, ne_eq, Prod.mk.injEq, not_and]
    omega) (by
    simp only [List.contains_cons, List.contains_nil, Bool.or_false, Bool.or_eq_false_iff, beq_eq_false_iff_ne, ne_eq]
    omega))
  have g1 : σ' 1 = σ 1 := (kx 1 (by decide) (by decide) (by decide) (by decide) (by decide) (by decide) (by decide) (by decide)).trans (nn 1 (by decide) (by decide) (by decide) (by decide) (by decide) (by decide) (by decide) (by decide))
  have g3 : σ' 3 = σ 3 := (kx 3 (by decide) (by decide) (by decide) (by decide) (by decide) (by decide) (by decide) (by decide)).trans (nn 3 (by decide) (by decide) (by decide) (by decide) (by decide) (by decide) (by decide) (by decide))
  have g4 : σ' 4 = σ 4 := (kx 4 (by decide) (by decide) (by decide) (by decide) (by decide) (by decide) (by decide) (by decide)).trans (nn 4 (by decide) (by decide) (by decide) (by decide) (by decide) (by decide) (by decide) (by decide))
  have g22 : σ' 22 = σ 22 := (kx 22 (by decide) (by decide) (by decide) (by decide) (by decide) (by decide) (by decide) (by decide)).trans (nn 22 (by decide) (by decide) (by decide) (by decide) (by decide) (by decide) (by decide) (by decide))
  have g9 : σ' 9 = σ1 9 := kx 9 (by decide) (by decide) (by decide) (by decide) (by decide) (by decide) (by decide) (by decide)
  have g14 : σ' 14 = σ1 14 := kx 14 (by decide) (by decide) (by decide) (by decide) (by decide) (by decide) (by decide) (by decide)
  have g18 : σ' 18 = σ1 18 := kx 18 (by decide) (by decide) (by decide) (by decide) (by decide) (by decide) (by decide) (by decide)
  have g19 : σ' 19 = σ1 19 := kx 19 (by decide) (by decide) (by decide) (by decide) (by decide) (by decide) (by decide) (by decide)
  have g20 : σ' 20 = σ1 20 := kx 20 (by decide) (by decide) (by decide) (by decide) (by decide) (by decide) (by decide) (by decide)
  have g21 : σ' 21 = σ1 21 := kx 21 (by decide) (by decide) (by decide) (by decide) (by decide) (by decide) (by decide) (by decide)
  have e35 : σ' 0 35 = σ 0 35 := (k1 0 35 rfl rfl).trans (k0 0 35 rfl rfl)
  have e36 : σ' 0 36 = σ1 0 36 := k1 0 36 rfl rfl
  have e31 : σ' 0 31 = σ1 0 31 := k1 0 31 rfl rfl
  have e19 : ((σ 4 u) - (σ 3 u)).toInt = (σ 4 u).toInt - (σ 3 u).toInt := sb (by omega) (by omega)
  clear k0 k1 kx nn
  have eb : (s 5 1).toInt.toNat - (m + 1) = (w 5 1).toInt.toNat - m := by omega
  refine ⟨by rw [c67]; rfl, by omega, by omega, ⟨by omega, by rw [e31]; omega⟩, ⟨?_, ?_, by omega, by omega, fun e h1 h2 => ?_, ?_, ?_, fun e h1 h2 => ?_⟩, fun i hi => ?_⟩
  · rw [e35, g22]; exact q1
  · rw [e36, d36]; omega
  · rw [g18, g19, d18, d19]
    by_cases ce : e = lo + m
    · rw [if_pos ce, if_pos ce, e19]; omega
    · rw [if_neg ce, if_neg ce]; exact q5 e h1 (by omega)
  · rw [e31]; omega
  · rw [e31]; exact d31b
  · rw [g18, g19, d18, d19, e31]
    by_cases ce : e = lo + m
    · rw [if_pos ce, if_pos ce, e19]; omega
    · rw [if_neg ce, if_neg ce]
      have := q8 e h1 (by omega)
      omega
  · rw [eb]
    by_cases ci : i = m
    · rw [ci, show (w 5 1).toInt.toNat - m + m = (w 5 1).toInt.toNat from by omega]
      exact hnew
    · have hi' : i < m := by omega
      have hne : (w 5 1).toInt.toNat - m + i ≠ (w 5 1).toInt.toNat := by omega
      have hle : lo + i ≠ lo + m := by omega
      obtain ⟨e25, e26, e27⟩ := c25 _ hne
      obtain ⟨p1, p2, p3, p4, p5, p6, p7, p8, p9, p10, p11, p12, p13, p14, p15, p16⟩ := o6 i hi'
      have eo : otk s i = otk w i := by unfold otk; rw [c38 i hi']
      have fl : ∀ b, FLq s ((w 5 1).toInt.toNat - m + i) b ↔ FLq w ((w 5 1).toInt.toNat - m + i) b := fun b => fl_same e25
      unfold ORR
      rw [eo, c38 i hi', c39 i hi', fl, fl, fl, fl, e26, e27, g9, g14, g21, d9, d14, d21, r10 _ hle, r11 _ hle, r12 _ hle, r13 _ hle, r15 _ hle, if_neg hle, if_neg hle, if_neg ci]
      refine ⟨p1, p2, p3, ?_, p5, p6, p7, p8, p9, fun hf => ⟨(p10 hf).1, (p10 hf).2.1, fun k h0 hk => ?_⟩, p11, p12, p13, p14, p15, p16⟩
      · have q5' := q5 (lo + i) (by omega) (by omega)
        have q8' := q8 (lo + i) (by omega) (by omega)
        unfold NSm at p4 ⊢
        rw [g18, g19, g20, g1, g3, g4, d18, d19, if_neg hle, if_neg hle]
        refine ⟨p4.1, fun q hq => ?_⟩
        rw [d20a _ (by have := p4.1; omega)]
        exact p4.2 q hq
      · have h15 := (p10 hf).2.1
        rw [r16 _ (by omega)]
        exact (p10 hf).2.2 k h0 hk
theorem ou_upd (hO : OUR w σ kd n m lo) (hr : i < m) (c67 : s 6 7 = w 6 7) (c51 : s 5 1 = w 5 1) (c57 : s 5 7 = w 5 7) (c38 : s 38 = w 38) (c39 : s 39 = w 39) (c25 : ∀ j, j ≠ (w 5 1).toInt.toNat - m + i → s 25 j = w 25 j ∧ s 26 j = w 26 j ∧ s 27 j = w 27 j)
    (k1 : Kp [(0, 10), (0, 12), (0, 13), (0, 37)] [11, 13, 17] σ σ') (r11 : ∀ j, j ≠ lo + i → σ' 11 j = σ 11 j) (r13 : ∀ j, j ≠ lo + i → σ' 13 j = σ 13 j)
    (hnew : ORR s σ' kd n i ((w 5 1).toInt.toNat - m + i) (lo + i)) : OUR s σ' kd n m lo := by
  obtain ⟨o1, o2, o3, ⟨o4, o4b⟩, o5, o6⟩ := hO
  have kx : ∀ c, c ≠ 0 → c ≠ 11 → c ≠ 13 → c ≠ 17 → σ' c = σ c := fun c h0 h1 h2 h3 => funext (fun j => k1 c j (by
    simp only [List.contains_cons, List.contains_nil, Bool.or_false, Bool.or_eq_false_iff, beq_eq_false_iff_ne, ne_eq, Prod.mk.injEq, not_and]
    omega) (by
    simp only [List.contains_cons, List.contains_nil, Bool.or_false, Bool.or_eq_false_iff, beq_eq_false_iff_ne, ne_eq]
    omega))
  have g1 := kx 1 (by decide) (by decide) (by decide) (by decide)
  have g3 := kx 3 (by decide) (by decide) (by decide) (by decide)
  have g4 := kx 4 (by decide) (by decide) (by decide) (by decide)
  have g9 := kx 9 (by decide) (by decide) (by decide) (by decide)
  have g10 := kx 10 (by decide) (by decide) (by decide) (by decide)
  have g12 := kx 12 (by decide) (by decide) (by decide) (by decide)
  have g14 := kx 14 (by decide) (by decide) (by decide) (by decide)
  have g15 := kx 15 (by decide) (by decide) (by decide) (by decide)
  have g16 := kx 16 (by decide) (by decide) (by decide) (by decide)
  have g18 := kx 18 (by decide) (by decide) (by decide) (by decide)
  have g19 := kx 19 (by decide) (by decide) (by decide) (by decide)
  have g20 := kx 20 (by decide) (by decide) (by decide) (by decide)
  have g21 := kx 21 (by decide) (by decide) (by decide) (by decide)
  have g22 := kx 22 (by decide) (by decide) (by decide) (by decide)
  have e35 : σ' 0 35 = σ 0 35 := k1 0 35 rfl rfl
  have e36 : σ' 0 36 = σ 0 36 := k1 0 36 rfl rfl
  have e31 : σ' 0 31 = σ 0 31 := k1 0 31 rfl rfl
  clear k1 kx
  refine ⟨by rw [c67]; exact o1, o2, by rw [c51]; exact o3, ⟨by rw [c51]; exact o4, by rw [c57, e31]; exact o4b⟩, ?_, fun j hj => ?_⟩
  · unfold EOKm at o5 ⊢
    rw [e35, e36, e31, g22, g18, g19]
    exact o5
  · rw [c51]
    by_cases cj : j = i
    · rw [cj]; exact hnew
    · have hne : (w 5 1).toInt.toNat - m + j ≠ (w 5 1).toInt.toNat - m + i := by omega
      have hle : lo + j ≠ lo + i := by omega
      obtain ⟨e25, e26, e27⟩ := c25 _ hne
      have o6' := o6 j hj
      have eo : otk s j = otk w j := by unfold otk; rw [c38]
      have fl : ∀ b, FLq s ((w 5 1).toInt.toNat - m + j) b ↔ FLq w ((w 5 1).toInt.toNat - m + j) b := fun b => fl_same e25
      unfold ORR NSm at o6' ⊢
      rw [eo, c38, c39, fl, fl, fl, fl, e26, e27, g1, g3, g4, g9, g10, g12, g14, g15, g16, g18, g19, g20, g21, r11 _ hle, r13 _ hle]
      exact o6'
/-- texts and locals are as they were -/
theorem tk_fr (h : TKR w σ kd n) (c1 : s 1 = w 1) (c13 : s 13 = w 13) (c14 : s 14 = w 14) (c15 : s 15 = w 15) (g1 : σ' 1 = σ 1) (g2 : σ' 2 = σ 2) (g3 : σ' 3 = σ 3) (g4 : σ' 4 = σ 4) (g6 : σ' 6 = σ 6) : TKR s σ' kd n := by
  unfold TKR RTk TNm at h ⊢
  rw [c1, c13, c14, c15, g1, g2, g3, g4, g6]
  exact h
theorem lo_fr (h : LOR w σ kd n S) (c40 : s 40 = w 40) (c41 : s 41 = w 41) (c42 : s 42 = w 42) (c44 : s 44 = w 44) (f15 : s 6 15 = w 6 15) (g31 : σ' 31 = σ 31) (g32 : σ' 32 = σ 32) (g34 : σ' 34 = σ 34) (g35 : σ' 35 = σ 35) (e53 : σ' 0 53 = σ 0 53) : LOR s σ' kd n S := by
  unfold LOR mtk at h ⊢
  rw [c40, c41, c42, c44, f15, g31, g32, g34, g35, e53]
  exact h
end OAD
end

section
/-! outside of functions: what a variable's name, its [ ] and its cells leave -/
def GDf (σ s : St) (u m lo m' : Nat) (ty kn : Int32) (ext stc : Prop) (rr cells : Int) : Prop :=
  (rr = -1 → m' = m + 1 ∧ ∃ s1, DCf σ s1 u (lo + m) m 1 ∧ Kp [(0, 10), (0, 12), (0, 13), (0, 37)] [10, 11, 12, 13, 15, 16, 17] s1 s ∧ s 15 = σ 15 ∧ s 16 = σ 16 ∧ (∀ j, s 10 j = if j = lo + m then ty else σ 10 j) ∧ (∀ j, s 11 j = if j = lo + m then kn else σ 11 j) ∧ (∀ j, j ≠ lo + m → s 12 j = σ 12 j) ∧ (((s 12 (lo + m)).toInt ≠ 0 ↔ stc) ∧ ((s 12 (lo + m)).toInt = 0 ∨ (s 12 (lo + m)).toInt = 1)) ∧ (∀ j, j ≠ lo + m → s 13 j = σ 13 j) ∧ ((s 13 (lo + m)).toInt ≠ 0 ↔ ¬ ext))
  ∧ (∀ r : Nat, rr = ((lo + r : Nat) : Int) → m' = m ∧ Kp [(0, 10), (0, 12), (0, 13), (0, 37)] [11, 13, 17] σ s ∧ (∀ j, j ≠ lo + r → s 11 j = σ 11 j) ∧ (s 11 (lo + r) = if 0 < kn.toInt then kn else σ 11 (lo + r)) ∧ (∀ j, j ≠ lo + r → s 13 j = σ 13 j) ∧ ((s 13 (lo + r)).toInt ≠ 0 ↔ ¬ ext ∨ (σ 13 (lo + r)).toInt ≠ 0))
  ∧ (ext → s 0 37 = σ 0 37) ∧ (¬ ext → (s 0 37).toInt = (σ 0 37).toInt + cells)
section GDT
variable {w s r s1 s2 s3 σ σ' σ1 : St} {kd vl : Nat → Int} {n S m m' lo u dn d e i : Nat} {sort lk ty kn st ex v : Int32} {rr cells D : Int} {ext stc : Prop}
/-- both sides: may be declared once more -/
theorem jn_eq (hO : ORR w σ kd n i d e) (h11 : (w 8 11).toInt = ty.toInt) (h12 : (w 8 12).toInt = kn.toInt) (hkn : -1 ≤ kn.toInt) (hst : lk.toInt = 1 ↔ st.toInt ≠ 0) (hex : (w 8 13).toInt ≠ 0 ↔ ex.toInt ≠ 0) : JNw w d lk ↔ JNm σ e ty kn st ex := by
  obtain ⟨p1, p2, p3, p4, p5, p6, p7, p8, p9, p10, p11, p12, p13, p14, p15, p16⟩ := hO
  unfold JNw JNm
  rw [h11, h12, hex]
  constructor
  · rintro ⟨⟨q1, q2, q3⟩, q4, ⟨q5, q6⟩, q7⟩
    have i9 : (σ 9 e).toInt = 1 := Decidable.byContradiction (fun h => q1 (p5.2 h))
    have e11 := p9 q1
    have g1 := p15 q1
    rw [e11] at q3 q4 g1
    refine ⟨⟨i9, by omega, ?_, ?_⟩, Decidable.byContradiction (fun h => q6 (p12.2 h)), Decidable.byContradiction (fun h => q5 (hst.2 h)), q7.imp id (fun h => Decidable.byContradiction (fun h2 => h (p13.2 h2)))⟩
    · constructor
      · intro h
        have := q3.1 (by omega)
        omega
      · intro h
        have := q3.2 (by omega)
        omega
    · by_cases c : kn.toInt ≤ 0
      · exact Or.inl c
      · rcases q4 with h | h | h
        · refine Or.inr (Or.inl ?_)
          by_cases c2 : (σ 11 e).toInt = -1
          · have := q3.1 c2
            omega
          · omega
        · exact absurd h c
        · exact Or.inr (Or.inr h)
  · rintro ⟨⟨q1, q2, q3, q4⟩, q5, q6, q7⟩
    have f1 : ¬ FLq w d 1 := fun h => (p5.1 h) q1
    have e11 := p9 f1
    have g1 := p15 f1
    rw [e11] at g1
    rw [e11]
    refine ⟨⟨f1, by omega, ?_⟩, ?_, ⟨fun h => (hst.1 h) q6, fun h => (p12.1 h) q5⟩, q7.imp id (fun h h2 => (p13.1 h2) h)⟩
    · constructor
      · intro h
        have := q3.1 (by omega)
        omega
      · intro h
        have := q3.2 (by omega)
        omega
    · rcases q4 with h | h | h
      · exact Or.inr (Or.inl h)
      · exact Or.inl (by omega)
      · exact Or.inr (Or.inr h)
theorem re_gvar (hE : REq kd n S m lo w σ) (hu : u ≤ n) (ku : kd u = 2) (hq : rr = -1 ∨ ∃ r : Nat, r < m ∧ rr = ((lo + r : Nat) : Int)) (hd0 : rr = -1 → m < 100 ∧ d = (w 5 1).toInt.toNat) (hd1 : ∀ r : Nat, rr = ((lo + r : Nat) : Int) → r < m ∧ d = (w 5 1).toInt.toNat - m + r) (hOU : OUf w s u m d (rr = -1) lk) (hjn : ∀ r : Nat, rr = ((lo + r : Nat) : Int) → JNw w d lk) (hlm : rr = -1 → lo + m < 10000) (h11 : w 8 11 = ty) (h12 : w 8 12 = kn) (hty : 0 ≤ ty.toInt ∧ ty.toInt ≤ 8) (hkn : -1 ≤ kn.toInt) (hext : (w 8 13).toInt ≠ 0 ↔ ext) (hst : lk.toInt = 1 ↔ stc) (hse : stc → ¬ ext)
    (hG : GDf σ σ' u m lo m' ty kn ext stc rr cells) (hcl : (ext → CLw w = 0) ∧ (¬ ext → CLw w = cells)) (hc0 : 0 ≤ cells) (hD9 : (σ' 0 37).toInt ≤ 16000) : REq kd n S m' lo s σ' := by
  obtain ⟨hT, hL, hO, ⟨D, hD1, hD2, hD3⟩, y1, y2⟩ := hE
  obtain ⟨ko, f63, fnw, fj, f26, f27a, f27b, ⟨fl1, fl2, fl4, fl8⟩, f65⟩ := hOU
  obtain ⟨g0, g1, gx, gn⟩ := hG
  have cs : ∀ c, c ≠ 5 → c ≠ 6 → c ≠ 8 → ([25, 26, 27, 28, 29, 30, 38, 39] : List Nat).contains c = false → s c = w c := fun c h5 h6 h8 hc => funext (fun j => ko c j (by
    simp only [List.contains_cons, List.contains_nil, Bool.or_false, Bool.or_eq_false_iff, beq_eq_false_iff_ne, ne_eq, Prod.mk.injEq, not_and]
    omega) hc)
  have c1 := cs 1 (by decide) (by decide) (by decide) rfl
  have c13 := cs 13 (by decide) (by decide) (by decide) rfl
  have c14 := cs 14 (by decide) (by decide) (by decide) rfl
  have c15 := cs 15 (by decide) (by decide) (by decide) rfl
  have c40 := cs 40 (by decide) (by decide) (by decide) rfl
  have c41 := cs 41 (by decide) (by decide) (by decide) rfl
  have c42 := cs 42 (by decide) (by decide) (by decide) rfl
  have c44 := cs 44 (by decide) (by decide) (by decide) rfl
  have f15 : s 6 15 = w 6 15 := ko 6 15 rfl rfl
  have hDD : ∃ D : Nat, (s 6 5).toInt = (D : Int) ∧ (σ' 0 37).toInt = (D : Int) ∧ D ≤ 16000 := by
    by_cases c : ext
    · have := gx c
      have := hcl.1 c
      exact ⟨D, by omega, by rw [gx c]; exact hD2, hD3⟩
    · have := gn c
      have := hcl.2 c
      exact ⟨(D + cells).toNat, by omega, by omega, by omega⟩
  have y1' : ∀ j, j < S → -1 ≤ (s 41 ((s 44 j).toInt.toNat)).toInt ∧ (s 41 ((s 44 j).toInt.toNat)).toInt ≤ 9 := fun j hj => by rw [c41, c44]; exact y1 j hj
  have hT' := hT
  obtain ⟨t1, t2, t3, t4, t5, t6⟩ := hT'.2.2.2.1 u hu ku
  have ho3 := hO.2.2.1
  have ho4 := hO.2.2.2.1.1
  rcases hq with hr | ⟨r, hrm, hr⟩
  · obtain ⟨hm, ed⟩ := hd0 hr
    have hl := hlm hr
    obtain ⟨em, σ1, hd, k1, r15, r16, r10, r11, r12, ⟨r12n, r12b⟩, r13, r13n⟩ := g0 hr
    obtain ⟨n67, nd, n51, n57, n38, n39, nby⟩ := fnw.1 hr
    have nn := dcf_n hd
    have kx : ∀ c, c ≠ 0 → c ≠ 10 → c ≠ 11 → c ≠ 12 → c ≠ 13 → c ≠ 15 → c ≠ 16 → c ≠ 17 → σ' c = σ1 c := fun c h0 h1 h2 h3 h4 h5 h6 h7 => funext (fun j => k1 c j (by
      simp only [List.contains_cons, List.contains_nil, Bool.or_false, Bool.or_eq_false_iff, beq_eq_false_iff_ne, ne_eq, Prod.mk.injEq, not_and]
      omega) (by
      simp only [List.contains_cons, List.contains_nil, Bool.or_false, Bool.or_eq_false_iff, beq_eq_false_iff_ne, ne_eq]
      omega))
    have gs : ∀ c, c ≠ 0 → c ≠ 9 → c ≠ 13 → c ≠ 14 → c ≠ 21 → c ≠ 18 → c ≠ 19 → c ≠ 20 → c ≠ 10 → c ≠ 11 → c ≠ 12 → c ≠ 15 → c ≠ 16 → c ≠ 17 → σ' c = σ c := fun c b0 b9 b13 b14 b21 b18 b19 b20 b10 b11 b12 b15 b16 b17 => (kx c b0 b10 b11 b12 b13 b15 b16 b17).trans (nn c b0 b9 b13 b14 b21 b18 b19 b20)
    have q1 : σ' 1 = σ 1 := gs 1 (by decide) (by decide) (by decide) (by decide) (by decide) (by decide) (by decide) (by decide) (by decide) (by decide) (by decide) (by decide) (by decide) (by decide)
    have q2 : σ' 2 = σ 2 := gs 2 (by decide) (by decide) (by decide) (by decide) (by decide) (by decide) (by decide) (by decide) (by decide) (by decide) (by decide) (by decide) (by decide) (by decide)
    have q3 : σ' 3 = σ 3 := gs 3 (by decide) (by decide) (by decide) (by decide) (by decide) (by decide) (by decide) (by decide) (by decide) (by decide) (by decide) (by decide) (by decide) (by decide)
    have q4 : σ' 4 = σ 4 := gs 4 (by decide) (by decide) (by decide) (by decide) (by decide) (by decide) (by decide) (by decide) (by decide) (by decide) (by decide) (by decide) (by decide) (by decide)
    have q6 : σ' 6 = σ 6 := gs 6 (by decide) (by decide) (by decide) (by decide) (by decide) (by decide) (by decide) (by decide) (by decide) (by decide) (by decide) (by decide) (by decide) (by decide)
    have q31 : σ' 31 = σ 31 := gs 31 (by decide) (by decide) (by decide) (by decide) (by decide) (by decide) (by decide) (by decide) (by decide) (by decide) (by decide) (by decide) (by decide) (by decide)
    have q32 : σ' 32 = σ 32 := gs 32 (by decide) (by decide) (by decide) (by decide) (by decide) (by decide) (by decide) (by decide) (by decide) (by decide) (by decide) (by decide) (by decide) (by decide)
    have q34 : σ' 34 = σ 34 := gs 34 (by decide) (by decide) (by decide) (by decide) (by decide) (by decide) (by decide) (by decide) (by decide) (by decide) (by decide) (by decide) (by decide) (by decide)
    have q35 : σ' 35 = σ 35 := gs 35 (by decide) (by decide) (by decide) (by decide) (by decide) (by decide) (by decide) (by decide) (by decide) (by decide) (by decide) (by decide) (by decide) (by decide)
    have e53 : σ' 0 53 = σ 0 53 := (k1 0 53 rfl rfl).trans (hd.1 0 53 rfl rfl)
    have hd' := hd
    obtain ⟨_, _, _, _, d9, _, d14, d21, _, _, _, _⟩ := hd'
    have g9 : σ' 9 = σ1 9 := kx 9 (by decide) (by decide) (by decide) (by decide) (by decide) (by decide) (by decide) (by decide)
    have g14 : σ' 14 = σ1 14 := kx 14 (by decide) (by decide) (by decide) (by decide) (by decide) (by decide) (by decide) (by decide)
    have g21 : σ' 21 = σ1 21 := kx 21 (by decide) (by decide) (by decide) (by decide) (by decide) (by decide) (by decide) (by decide)
    have g18 : σ' 18 = σ1 18 := kx 18 (by decide) (by decide) (by decide) (by decide) (by decide) (by decide) (by decide) (by decide)
    have g19 : σ' 19 = σ1 19 := kx 19 (by decide) (by decide) (by decide) (by decide) (by decide) (by decide) (by decide) (by decide)
    have g20 : σ' 20 = σ1 20 := kx 20 (by decide) (by decide) (by decide) (by decide) (by decide) (by decide) (by decide) (by decide)
    have hns := ns_new hT hu ku nby hd hO.2.2.2.2.1.2.2.2.2.2.1 g18 g19 g20 q1 q3 q4
    have n1 : ¬ FLq s d 1 := fun h => (fl1.1 h).1 hr
    have n8 : ¬ FLq s d 8 := fun h => (fl8.1 h).1 hr
    have eot : otk s m = u := by
      unfold otk
      rw [n38, if_pos rfl]
      rfl
    rw [em]
    refine ⟨tk_fr hT c1 c13 c14 c15 q1 q2 q3 q4 q6, lo_fr hL c40 c41 c42 c44 f15 q31 q32 q34 q35 e53, ou_add (u := u) hO hm hl n67 (by rw [n51]; omega) (by rw [n57]; omega) ⟨by omega, by omega⟩ (fun j hj => by rw [n38, if_neg (by omega)]) (fun j hj => by rw [n39, if_neg (by omega)]) (fun j hj => fj j (by rw [ed]; exact hj)) hd k1 (fun j hj => by rw [r10, if_neg hj]) (fun j hj => by rw [r11, if_neg hj]) r12 r13 (fun j _ => by rw [r15]) (fun x _ => by rw [r16]) ?_, hDD, y1', fun i hi => ?_⟩
    · rw [← ed]
      unfold ORR
      rw [eot, n38, if_pos rfl, f26, f27a (Or.inl hr), h11, h12, g9, g14, g21, d9, d14, d21, r10, r11, n39, if_pos rfl, if_pos rfl, if_pos rfl, if_pos rfl, if_pos rfl, if_pos rfl]
      refine ⟨by omega, hu, ku, hns, ⟨fun h => absurd h n1, fun h => absurd rfl h⟩, Or.inl rfl, rfl, ⟨fun h => absurd h n8, fun h => absurd rfl h⟩, fun _ => rfl, fun h => absurd h n1, Iff.rfl, ?_, ?_, fun _ h => ?_, fun _ => hkn, fun h => absurd h n1, r12b⟩
      · rw [fl2, r12n, hst]
        exact ⟨fun h => h.elim (fun h => absurd hr h.1) id, Or.inr⟩
      · rw [fl4, r13n]
        constructor
        · rintro (h | h)
          · exact absurd hr h.1
          · exact fun hx => (hext.2 hx) h
        · intro h
          exact Or.inr (Decidable.byContradiction (fun hx => h (hext.1 hx)))
      · have h2 : stc := (fl2.1 h).elim (fun h => absurd hr h.1) hst.1
        exact fl4.2 (Or.inr (Decidable.byContradiction (fun hx => hse h2 (hext.1 hx))))
    · have eb : (s 5 1).toInt.toNat - (m + 1) = (w 5 1).toInt.toNat - m := by omega
      rw [eb]
      by_cases ci : i = m
      · rw [ci, show (w 5 1).toInt.toNat - m + m = d from by omega, f26, h11]
        omega
      · rw [(fj _ (by omega)).2.1]
        exact y2 i (by omega)
  · have hne : ¬ rr = -1 := by omega
    obtain ⟨_, ed⟩ := hd1 r hr
    obtain ⟨em, k1, r11, r11e, r13, r13e⟩ := g1 r hr
    obtain ⟨n67, n51, n57, n38, n39⟩ := fnw.2 hne
    have jn := hjn r hr
    have hO6 := hO.2.2.2.2.2 r hrm
    rw [← ed] at hO6
    obtain ⟨p1, p2, p3, p4, p5, p6, p7, p8, p9, p10, p11, p12, p13, p14, p15, p16⟩ := hO6
    obtain ⟨⟨j1, j2, j3⟩, j4, ⟨j5, j6⟩, j7⟩ := jn
    have gs : ∀ c, c ≠ 0 → c ≠ 11 → c ≠ 13 → c ≠ 17 → σ' c = σ c := fun c h0 h1 h2 h3 => funext (fun j => k1 c j (by
      simp only [List.contains_cons, List.contains_nil, Bool.or_false, Bool.or_eq_false_iff, beq_eq_false_iff_ne, ne_eq, Prod.mk.injEq, not_and]
      omega) (by
      simp only [List.contains_cons, List.contains_nil, Bool.or_false, Bool.or_eq_false_iff, beq_eq_false_iff_ne, ne_eq]
      omega))
    have e53 : σ' 0 53 = σ 0 53 := k1 0 53 rfl rfl
    have n1 : ¬ FLq s d 1 := fun h => j1 (fl1.1 h).2
    have eot : otk s r = otk w r := by unfold otk; rw [n38]
    rw [em]
    refine ⟨tk_fr hT c1 c13 c14 c15 (gs 1 (by decide) (by decide) (by decide) (by decide)) (gs 2 (by decide) (by decide) (by decide) (by decide)) (gs 3 (by decide) (by decide) (by decide) (by decide)) (gs 4 (by decide) (by decide) (by decide) (by decide)) (gs 6 (by decide) (by decide) (by decide) (by decide)), lo_fr hL c40 c41 c42 c44 f15 (gs 31 (by decide) (by decide) (by decide) (by decide)) (gs 32 (by decide) (by decide) (by decide) (by decide)) (gs 34 (by decide) (by decide) (by decide) (by decide)) (gs 35 (by decide) (by decide) (by decide) (by decide)) e53, ou_upd (i := r) hO hrm n67 n51 n57 n38 n39 (fun j hj => fj j (by rw [ed]; exact hj)) k1 r11 r13 ?_, hDD, y1', fun i hi => ?_⟩
    · rw [← ed]
      have e27 : s 27 d = σ' 11 (lo + r) ∨ (s 27 d).toInt = (σ' 11 (lo + r)).toInt := by
        by_cases c : 0 < (w 8 12).toInt
        · refine Or.inl ?_
          rw [f27a (Or.inr c), r11e, h12, if_pos (by rw [← h12]; exact c)]
        · refine Or.inr ?_
          rw [f27b hne c, r11e, if_neg (by rw [← h12]; exact c)]
          exact p9 j1
      have e27' : (s 27 d).toInt = (σ' 11 (lo + r)).toInt := e27.elim (fun h => by rw [h]) id
      have g27 : -1 ≤ (s 27 d).toInt := by
        by_cases c : 0 < (w 8 12).toInt
        · rw [f27a (Or.inr c)]; omega
        · rw [f27b hne c]; exact p15 j1
      have nst : ¬ FLq s d 2 := fun h => (fl2.1 h).elim (fun h => j6 h.2) (fun h => j5 h)
      unfold ORR NSm
      rw [eot, n38, n39, f26, gs 1 (by decide) (by decide) (by decide) (by decide), gs 3 (by decide) (by decide) (by decide) (by decide), gs 4 (by decide) (by decide) (by decide) (by decide), gs 9 (by decide) (by decide) (by decide) (by decide), gs 10 (by decide) (by decide) (by decide) (by decide), gs 12 (by decide) (by decide) (by decide) (by decide), gs 14 (by decide) (by decide) (by decide) (by decide), gs 15 (by decide) (by decide) (by decide) (by decide), gs 16 (by decide) (by decide) (by decide) (by decide), gs 18 (by decide) (by decide) (by decide) (by decide), gs 19 (by decide) (by decide) (by decide) (by decide), gs 20 (by decide) (by decide) (by decide) (by decide), gs 21 (by decide) (by decide) (by decide) (by decide)]
      refine ⟨p1, p2, p3, p4, ⟨fun h => absurd h n1, fun h => absurd (p5.2 h) j1⟩, p6, by rw [← p7, j2], ?_, fun _ => e27', fun h => absurd h n1, p11, ⟨fun h => absurd h nst, fun h => absurd (p12.2 h) j6⟩, ?_, fun _ h => absurd h nst, fun _ => g27, fun h => absurd h n1, p16.2⟩
      · rw [fl8, ← p8]
        exact ⟨fun h => h.2, fun h => ⟨hne, h⟩⟩
      · rw [fl4, r13e, ← p13]
        constructor
        · rintro (h | h)
          · exact Or.inr h.2
          · exact Or.inl (fun hx => (hext.2 hx) h)
        · rintro (h | h)
          · exact Or.inr (Decidable.byContradiction (fun hx => h (hext.1 hx)))
          · exact Or.inl ⟨hne, h⟩
    · rw [n51]
      by_cases ci : (w 5 1).toInt.toNat - m + i = d
      · rw [ci, f26, h11]
        omega
      · rw [(fj _ ci).2.1]
        exact y2 i hi
end GDT
end

section
/-! outside of functions: the reference's own state -/
section GRF
variable {w s r s1 s2 s3 σ σ' σ1 τ t : St} {kd vl : Nat → Int} {n S m m' lo u d e i D : Nat} {sort lk ty kn st ex v : Int32} {rr cells : Int} {ext stc B : Prop} {vs z : List Nat}
theorem rg_fr (h : RGs kd vl n S m lo d σ) (k : Kp [(0, 10), (0, 12), (0, 13), (0, 37)] [11, 13, 17] σ s) (hD : ∃ D : Nat, (s 0 37).toInt = (D : Int) ∧ D ≤ 16000) (h12 : 0 ≤ (s 0 12).toInt) : RGs kd vl n S m lo d s := by
  obtain ⟨⟨h1, h2, h3, h4, h5, h6, h7, h8, h9, h10, h11, _⟩, q2, q3, q4, q5⟩ := h
  have gs : ∀ c, c ≠ 0 → c ≠ 11 → c ≠ 13 → c ≠ 17 → s c = σ c := fun c h0 h1 h2 h3 => funext (fun j => k c j (by
    simp only [List.contains_cons, List.contains_nil, Bool.or_false, Bool.or_eq_false_iff, beq_eq_false_iff_ne, ne_eq, Prod.mk.injEq, not_and]
    omega) (by
    simp only [List.contains_cons, List.contains_nil, Bool.or_false, Bool.or_eq_false_iff, beq_eq_false_iff_ne, ne_eq]
    omega))
  have g2 := gs 2 (by decide) (by decide) (by decide) (by decide)
  have g3 := gs 3 (by decide) (by decide) (by decide) (by decide)
  have g4 := gs 4 (by decide) (by decide) (by decide) (by decide)
  have g6 := gs 6 (by decide) (by decide) (by decide) (by decide)
  have g9 := gs 9 (by decide) (by decide) (by decide) (by decide)
  have g10 := gs 10 (by decide) (by decide) (by decide) (by decide)
  have g15 := gs 15 (by decide) (by decide) (by decide) (by decide)
  have g16 := gs 16 (by decide) (by decide) (by decide) (by decide)
  have g18 := gs 18 (by decide) (by decide) (by decide) (by decide)
  have g19 := gs 19 (by decide) (by decide) (by decide) (by decide)
  have g22 := gs 22 (by decide) (by decide) (by decide) (by decide)
  have g31 := gs 31 (by decide) (by decide) (by decide) (by decide)
  have g34 := gs 34 (by decide) (by decide) (by decide) (by decide)
  have g35 := gs 35 (by decide) (by decide) (by decide) (by decide)
  refine ⟨⟨?_, ?_, ?_, ?_, ?_, h6, ?_, ?_, ?_, ?_, hD, h12⟩, by rw [k 0 54 rfl rfl]; exact q2, by rw [k 0 49 rfl rfl]; exact q3, by rw [k 0 15 rfl rfl]; exact q4, by rw [g6]; exact q5⟩
  · unfold RTk at h1 ⊢; rw [g2]; exact h1
  · unfold TNm at h2 ⊢; rw [g3, g4]; exact h2
  · rw [g6]; exact h3
  · unfold LOKm TNm mtk at h4 ⊢; rw [g3, g4, g34, k 0 53 rfl rfl]; exact h4
  · unfold EOKm at h5 ⊢; rw [g18, g19, g22, k 0 35 rfl rfl, k 0 36 rfl rfl, k 0 31 rfl rfl]; exact h5
  · rw [g31, g35]; exact h7
  · rw [g10]; exact h8
  · rw [g35]; exact h9
  · rw [g9, g10, g15, g16]; exact h10
theorem rg_decl (h : RGs kd vl n S m lo d σ) (hm : m < 100) (hl : lo + m < 10000) (hu : u ≤ n) (ku : kd u = 2) (hd : DCf σ σ1 u (lo + m) m sort) (k1 : Kp [(0, 10), (0, 12), (0, 13), (0, 37)] [10, 11, 12, 13, 15, 16, 17] σ1 s) (r10 : ∀ j, j ≠ lo + m → s 10 j = σ 10 j) (r10n : -2 ≤ (s 10 (lo + m)).toInt ∧ (s 10 (lo + m)).toInt ≤ 8) (r10s : sort.toInt = 1 → 0 ≤ (s 10 (lo + m)).toInt) (r15 : ∀ j, j ≠ lo + m → s 15 j = σ 15 j) (r16 : ∀ x, s 16 x = σ 16 x ∨ (s 16 x).toInt ≠ -1) (r16n : sort.toInt ≠ 1 → ∀ j : Nat, (j : Int) < (s 15 (lo + m)).toInt → (s 16 (8 * (lo + m) + j)).toInt ≠ -1) (hD : ∃ D : Nat, (s 0 37).toInt = (D : Int) ∧ D ≤ 16000) (h12 : 0 ≤ (s 0 12).toInt) : RGs kd vl n S (m + 1) lo d s := by
  obtain ⟨⟨h1, h2, h3, h4, ⟨e1, e2, e3, e4, e5, e6, e7, e8⟩, h6, h7, h8, h9, h10, h11, _⟩, q2, q3, q4, q5⟩ := h
  have tu := h2 u hu ku
  have nn := dcf_n hd
  obtain ⟨k0, d36, d31, d31b, d9, d13, d14, d21, d18, d19, d20a, d20⟩ := hd
  have kx : ∀ c, c ≠ 0 → c ≠ 10 → c ≠ 11 → c ≠ 12 → c ≠ 13 → c ≠ 15 → c ≠ 16 → c ≠ 17 → s c = σ1 c := fun c h0 h1 h2 h3 h4 h5 h6 h7 => funext (fun j => k1 c j (by
    simp only [List.contains_cons, List.contains_nil, Bool.or_false, Bool.or_eq_false_iff, beq_eq_false_iff_ne, ne_eq, Prod.mk.injEq, not_and]
    omega) (by
    simp only [List.contains_cons, List.contains_nil, Bool.or_false, Bool.or_eq_false_iff, beq_eq_false_iff_ne, ne_eq]
    omega))
  have gs : ∀ c, c ≠ 0 → c ≠ 9 → c ≠ 13 → c ≠ 14 → c ≠ 21 → c ≠ 18 → c ≠ 19 → c ≠ 20 → c ≠ 10 → c ≠ 11 → c ≠ 12 → c ≠ 15 → c ≠ 16 → c ≠ 17 → s c = σ c := fun c b0 b9 b13 b14 b21 b18 b19 b20 b10 b11 b12 b15 b16 b17 => (kx c b0 b10 b11 b12 b13 b15 b16 b17).trans (nn c b0 b9 b13 b14 b21 b18 b19 b20)
  have g2 : s 2 = σ 2 := gs 2 (by decide) (by decide) (by decide) (by decide) (by decide) (by decide) (by decide) (by decide) (by decide) (by decide) (by decide) (by decide) (by decide) (by decide)
  have g3 : s 3 = σ 3 := gs 3 (by decide) (by decide) (by decide) (by decide) (by decide) (by decide) (by decide) (by decide) (by decide) (by decide) (by decide) (by decide) (by decide) (by decide)
  have g4 : s 4 = σ 4 := gs 4 (by decide) (by decide) (by decide) (by decide) (by decide) (by decide) (by decide) (by decide) (by decide) (by decide) (by decide) (by decide) (by decide) (by decide)
  have g6 : s 6 = σ 6 := gs 6 (by decide) (by decide) (by decide) (by decide) (by decide) (by decide) (by decide) (by decide) (by decide) (by decide) (by decide) (by decide) (by decide) (by decide)
  have g22 : s 22 = σ 22 := gs 22 (by decide) (by decide) (by decide) (by decide) (by decide) (by decide) (by decide) (by decide) (by decide) (by decide) (by decide) (by decide) (by decide) (by decide)
  have g31 : s 31 = σ 31 := gs 31 (by decide) (by decide) (by decide) (by decide) (by decide) (by decide) (by decide) (by decide) (by decide) (by decide) (by decide) (by decide) (by decide) (by decide)
  have g34 : s 34 = σ 34 := gs 34 (by decide) (by decide) (by decide) (by decide) (by decide) (by decide) (by decide) (by decide) (by decide) (by decide) (by decide) (by decide) (by decide) (by decide)
  have g35 : s 35 = σ 35 := gs 35 (by decide) (by decide) (by decide) (by decide) (by decide) (by decide) (by decide) (by decide) (by decide) (by decide) (by decide) (by decide) (by decide) (by decide)
  have g9 : s 9 = σ1 9 := kx 9 (by decide) (by decide) (by decide) (by decide) (by decide) (by decide) (by decide) (by decide)
  have g18 : s 18 = σ1 18 := kx 18 (by decide) (by decide) (by decide) (by decide) (by decide) (by decide) (by decide) (by decide)
  have g19 : s 19 = σ1 19 := kx 19 (by decide) (by decide) (by decide) (by decide) (by decide) (by decide) (by decide) (by decide)
  have ef : ∀ f, f ≠ 10 → f ≠ 12 → f ≠ 13 → f ≠ 37 → f ≠ 36 → f ≠ 31 → s 0 f = σ 0 f := fun f b1 b2 b3 b4 b5 b6 => (k1 0 f (by
    simp only [List.contains_cons, List.contains_nil, Bool.or_false, Bool.or_eq_false_iff, beq_eq_false_iff_ne, ne_eq, Prod.mk.injEq, not_and]
    omega) rfl).trans (k0 0 f (by
    simp only [List.contains_cons, List.contains_nil, Bool.or_false, Bool.or_eq_false_iff, beq_eq_false_iff_ne, ne_eq, Prod.mk.injEq, not_and]
    omega) rfl)
  have f36 : s 0 36 = σ1 0 36 := k1 0 36 rfl rfl
  have f31 : s 0 31 = σ1 0 31 := k1 0 31 rfl rfl
  have e19 : ((σ 4 u) - (σ 3 u)).toInt = (σ 4 u).toInt - (σ 3 u).toInt := by
    obtain ⟨t1, t2, t3, t4⟩ := tu
    exact sb (by omega) (by omega)
  obtain ⟨t1, t2, t3, t4⟩ := tu
  refine ⟨⟨?_, ?_, ?_, ?_, ⟨?_, ?_, by omega, by omega, fun e a1 a2 => ?_, ?_, ?_, fun e a1 a2 => ?_⟩, by omega, ?_, fun j => ?_, ?_, fun e a1 a2 => ?_, hD, h12⟩, ?_, ?_, ?_, by rw [g6]; exact q5⟩
  · unfold RTk at h1 ⊢; rw [g2]; exact h1
  · unfold TNm at h2 ⊢; rw [g3, g4]; exact h2
  · rw [g6]; exact h3
  · unfold LOKm TNm mtk at h4 ⊢; rw [g3, g4, g34, ef 53 (by decide) (by decide) (by decide) (by decide) (by decide) (by decide)]; exact h4
  · rw [g22, ef 35 (by decide) (by decide) (by decide) (by decide) (by decide) (by decide)]; exact e1
  · rw [f36, d36]; omega
  · rw [g18, g19, d18, d19]
    by_cases ce : e = lo + m
    · rw [if_pos ce, if_pos ce, e19]; omega
    · rw [if_neg ce, if_neg ce]; exact e5 e a1 (by omega)
  · rw [f31]; omega
  · rw [f31]; exact d31b
  · rw [g18, g19, d18, d19, f31]
    by_cases ce : e = lo + m
    · rw [if_pos ce, if_pos ce, e19]; omega
    · rw [if_neg ce, if_neg ce]
      have := e8 e a1 (by omega)
      omega
  · rw [g31, g35]; exact h7
  · by_cases cj : j = lo + m
    · rw [cj]; omega
    · rw [r10 j cj]; exact h8 j
  · rw [g35]; exact h9
  · rw [g9, d9]
    by_cases ce : e = lo + m
    · rw [if_pos ce, ce]
      exact ⟨⟨r10s, r10n.2⟩, r16n⟩
    · rw [if_neg ce, r10 e ce, r15 e ce]
      have h10' := h10 e a1 (by omega)
      refine ⟨h10'.1, fun h9' j hj => ?_⟩
      rcases r16 (8 * e + j) with h | h
      · rw [h]; exact h10'.2 h9' j hj
      · exact h
  · rw [ef 54 (by decide) (by decide) (by decide) (by decide) (by decide) (by decide)]; exact q2
  · rw [ef 49 (by decide) (by decide) (by decide) (by decide) (by decide) (by decide)]; exact q3
  · rw [ef 15 (by decide) (by decide) (by decide) (by decide) (by decide) (by decide)]; exact q4
/-- what lay() leaves, or nothing -/
def LYf (s2 s3 : St) (v ex : Int32) (D : Nat) (cells : Int) : Prop := (s3 = s2 ∧ (v.toInt < 0 ∨ ex.toInt ≠ 0)) ∨ (ex.toInt = 0 ∧ ∃ r : Nat, v.toInt = (r : Int) ∧ Kp [(0, 12), (0, 13), (0, 37)] [13, 17] s2 s3 ∧ FTq s2 s3 (16000 < (D : Int) + cells) ∧ (∀ j, s3 13 j = if j = r then 1 else s2 13 j) ∧ ((D : Int) + cells ≤ 16000 → (s3 0 37).toInt = (D : Int) + cells) ∧ (16000 < (D : Int) + cells → s3 0 37 = s2 0 37))
def BDm (σ : St) (m lo : Nat) (ty kn st ex : Int32) (rr : Int) (B : Prop) (D : Nat) (cells : Int) : Prop := ((rr = -1 ∧ m = 100) ∨ ∃ r : Nat, rr = ((lo + r : Nat) : Int) ∧ ¬ JNm σ (lo + r) ty kn st ex) ∨ B ∨ (ex.toInt = 0 ∧ 16000 < (D : Int) + cells)
theorem gn_fin (hG : RGs kd vl n S m lo d σ) (hu : u ≤ n) (ku : kd u = 2) (hty : 0 ≤ ty.toInt ∧ ty.toInt ≤ 8) (hD : (σ 0 37).toInt = (D : Int)) (hD9 : D ≤ 16000) (hc : 1 ≤ cells) (hst : st = 0 ∨ st = 1) (hgn : GNf σ s lo m u v ty kn st ex rr) (k : Kp [(0, 12), (0, 13)] [] s s2) (f : FTq s s2 B) (hly : LYf s2 s3 v ex D cells) : ∃ m', RGs kd vl n S m' lo d s3 ∧ s3 0 10 = σ 0 10 ∧ s3 0 57 = σ 0 57 ∧ FTq σ s3 (BDm σ m lo ty kn st ex rr B D cells) ∧ (¬ BDm σ m lo ty kn st ex rr B D cells → GDf σ s3 u m lo m' ty kn (ex.toInt ≠ 0) (st.toInt ≠ 0) rr cells) := by
  have h0 := rgq_0 hG.1
  rcases hgn with ⟨hr, h100, hv, k1, f1⟩ | ⟨hr, hm, hl, hv, s1, hd, es⟩ | ⟨r, hr, hrm, k1, f1, r11, r11e, v1, v2⟩
  · have hly' : s3 = s2 := by
      rcases hly with h | ⟨_, q, hq, _⟩
      · exact h.1
      · omega
    rw [hly']
    have kz : Kp [(0, 12), (0, 13)] [] σ s2 := kp_tr k1 k
    have hbd : BDm σ m lo ty kn st ex rr B D cells := Or.inl (Or.inl ⟨hr, h100⟩)
    exact ⟨m, rg_ds hG (ds_k kz rfl rfl) f.1, kz 0 10 rfl rfl, kz 0 57 rfl rfl, ft_iff (ft_tr f1 f (k1 0 15 rfl rfl)) ⟨fun _ => hbd, fun _ => Or.inl trivial⟩, fun h => absurd hbd h⟩
  · have nv : ¬ v.toInt < 0 := by omega
    have evb : vp_nar .boolean st = st := by
      rcases hst with h | h <;> rw [h] <;> rfl
    rw [evb] at es
    have ks : Kp [(0, 10), (0, 12), (0, 13), (0, 37)] [10, 11, 12, 13, 15, 16, 17] s1 s := by
      rw [es]
      exact kp_a (kp_a (kp_a kp_rf rfl) rfl) rfl
    have nn := dcf_n hd
    have s1e : s1 10 = σ 10 := nn 10 (by decide) (by decide) (by decide) (by decide) (by decide) (by decide) (by decide) (by decide)
    have s11e : s1 11 = σ 11 := nn 11 (by decide) (by decide) (by decide) (by decide) (by decide) (by decide) (by decide) (by decide)
    have s12e : s1 12 = σ 12 := nn 12 (by decide) (by decide) (by decide) (by decide) (by decide) (by decide) (by decide) (by decide)
    have s15e : s1 15 = σ 15 := nn 15 (by decide) (by decide) (by decide) (by decide) (by decide) (by decide) (by decide) (by decide)
    have s16e : s1 16 = σ 16 := nn 16 (by decide) (by decide) (by decide) (by decide) (by decide) (by decide) (by decide) (by decide)
    have a10 : ∀ j, s 10 j = if j = lo + m then ty else σ 10 j := fun j => by rw [es, rdC_ne (by decide), rdC_ne (by decide), rdC_eq, s1e]
    have a11 : ∀ j, s 11 j = if j = lo + m then kn else σ 11 j := fun j => by rw [es, rdC_ne (by decide), rdC_eq, rdC_ne (by decide), s11e]
    have a12 : ∀ j, s 12 j = if j = lo + m then st else σ 12 j := fun j => by rw [es, rdC_eq, rdC_ne (by decide), rdC_ne (by decide), s12e]
    have a15 : s 15 = σ 15 := by rw [es, rdC_ne (by decide), rdC_ne (by decide), rdC_ne (by decide), s15e]
    have a16 : s 16 = σ 16 := by rw [es, rdC_ne (by decide), rdC_ne (by decide), rdC_ne (by decide), s16e]
    have a13 : s 13 = s1 13 := by rw [es, rdC_ne (by decide), rdC_ne (by decide), rdC_ne (by decide)]
    have fld : ∀ x, s 0 x = s1 0 x := fun x => by rw [es, rdC_ne (by decide), rdC_ne (by decide), rdC_ne (by decide)]
    have e12 : s 0 12 = σ 0 12 := (fld 12).trans (hd.1 0 12 rfl rfl)
    have e15 : s 0 15 = σ 0 15 := (fld 15).trans (hd.1 0 15 rfl rfl)
    have e37 : s 0 37 = σ 0 37 := (fld 37).trans (hd.1 0 37 rfl rfl)
    have e10 : s 0 10 = σ 0 10 := (fld 10).trans (hd.1 0 10 rfl rfl)
    have e57 : s 0 57 = σ 0 57 := (fld 57).trans (hd.1 0 57 rfl rfl)
    have hd' := hd
    obtain ⟨_, _, _, _, _, d13, _⟩ := hd'
    -- the end, whatever lay() did
    have fin : ∀ (s3 : St), Kp [(0, 12), (0, 13), (0, 37)] [13, 17] s s3 → FTq s s3 (B ∨ (ex.toInt = 0 ∧ 16000 < (D : Int) + cells)) → (∃ D : Nat, (s3 0 37).toInt = (D : Int) ∧ D ≤ 16000) → (∀ j, j ≠ lo + m → s3 13 j = s 13 j) → ((s3 13 (lo + m)).toInt ≠ 0 ↔ ¬ ex.toInt ≠ 0) → (ex.toInt ≠ 0 → s3 0 37 = s 0 37) → (ex.toInt = 0 → (D : Int) + cells ≤ 16000 → (s3 0 37).toInt = (D : Int) + cells) → ∃ m', RGs kd vl n S m' lo d s3 ∧ s3 0 10 = σ 0 10 ∧ s3 0 57 = σ 0 57 ∧ FTq σ s3 (BDm σ m lo ty kn st ex rr B D cells) ∧ (¬ BDm σ m lo ty kn st ex rr B D cells → GDf σ s3 u m lo m' ty kn (ex.toInt ≠ 0) (st.toInt ≠ 0) rr cells) := fun s3 k3 f3 hD3 r13 r13n gx gn => by
      have kk1 : Kp [(0, 10), (0, 12), (0, 13), (0, 37)] [10, 11, 12, 13, 15, 16, 17] s1 s3 := kp_tr ks (kp_sub k3 rfl rfl)
      have b10 : ∀ j, s3 10 j = if j = lo + m then ty else σ 10 j := fun j => by rw [k3 10 j rfl rfl, a10]
      have b11 : ∀ j, s3 11 j = if j = lo + m then kn else σ 11 j := fun j => by rw [k3 11 j rfl rfl, a11]
      have b12 : ∀ j, s3 12 j = if j = lo + m then st else σ 12 j := fun j => by rw [k3 12 j rfl rfl, a12]
      have b15 : s3 15 = σ 15 := by rw [← a15]; exact funext (fun j => k3 15 j rfl rfl)
      have b16 : s3 16 = σ 16 := by rw [← a16]; exact funext (fun j => k3 16 j rfl rfl)
      have b13 : ∀ j, j ≠ lo + m → s3 13 j = σ 13 j := fun j hj => by rw [r13 j hj, a13, d13, if_neg hj]
      refine ⟨m + 1, rg_decl hG hm hl hu ku hd kk1 (fun j hj => by rw [b10, if_neg hj]) (by rw [b10, if_pos rfl]; omega) (fun _ => by rw [b10, if_pos rfl]; omega) (fun j _ => by rw [b15]) (fun x => Or.inl (by rw [b16])) (fun h => absurd rfl h) hD3 f3.1, by rw [k3 0 10 rfl rfl, e10], by rw [k3 0 57 rfl rfl, e57], ?_, fun nb => ⟨fun _ => ⟨rfl, s1, hd, kk1, b15, b16, b10, b11, fun j hj => by rw [b12, if_neg hj], ⟨by rw [b12, if_pos rfl], by rw [b12, if_pos rfl]; rcases hst with h | h <;> rw [h] <;> decide⟩, b13, r13n⟩, fun r hr2 => by omega, fun h => by rw [gx h, e37], fun h => ?_⟩⟩
      · refine ft_from e12 e15 (ft_iff f3 ?_)
        unfold BDm
        constructor
        · rintro h
          exact Or.inr h
        · rintro (h | h)
          · rcases h with h | ⟨r, h, _⟩
            · omega
            · omega
          · exact h
      · have h0' : ex.toInt = 0 := Decidable.byContradiction h
        rw [hD]
        refine gn h0' ?_
        have : ¬ (16000 < (D : Int) + cells) := fun hx => nb (Or.inr (Or.inr ⟨h0', hx⟩))
        omega
    rcases hly with ⟨e3, hx⟩ | ⟨hex, q, hq, k3, f3, g13, gD1, gD2⟩
    · rw [e3]
      have hex : ex.toInt ≠ 0 := hx.elim (fun h => absurd h nv) id
      refine fin s2 (kp_sub k rfl rfl) (ft_iff f ⟨Or.inl, fun h => h.elim id (fun h => absurd h.1 hex)⟩) ⟨D, by rw [k 0 37 rfl rfl, e37]; exact hD, hD9⟩ (fun j _ => k 13 j rfl rfl) ⟨fun h => ?_, fun h => absurd hex h⟩ (fun _ => k 0 37 rfl rfl) (fun h => absurd h hex)
      rw [k 13 (lo + m) rfl rfl, a13, d13, if_pos rfl] at h
      exact absurd rfl h
    · have eq : q = lo + m := by omega
      rw [eq] at g13
      have e2D : (s2 0 37).toInt = (D : Int) := by rw [k 0 37 rfl rfl, e37]; exact hD
      refine fin s3 (kp_tr (kp_sub k rfl rfl) k3) (ft_iff (ft_tr f f3 (k 0 15 rfl rfl)) ⟨fun h => h.imp id (fun h => ⟨hex, h⟩), fun h => h.imp id (fun h => h.2)⟩) ?_ (fun j hj => by rw [g13, if_neg hj, k 13 j rfl rfl]) ⟨fun _ h => h hex, fun _ => by rw [g13, if_pos rfl]; decide⟩ (fun h => absurd hex h) (fun _ h => gD1 h)
      by_cases c : (D : Int) + cells ≤ 16000
      · exact ⟨((D : Int) + cells).toNat, by rw [gD1 c]; omega, by omega⟩
      · exact ⟨D, by rw [gD2 (by omega)]; exact e2D, hD9⟩
  · have k2 : Kp [(0, 12), (0, 13)] [11] σ s2 := kp_tr k1 (kp_sub k rfl rfl)
    have f2 : FTq σ s2 (¬ JNm σ (lo + r) ty kn st ex ∨ B) := ft_tr f1 f (k1 0 15 rfl rfl)
    have b11 : ∀ j, s2 11 j = s 11 j := fun j => k 11 j rfl rfl
    have fin : ∀ (s3 : St), Kp [(0, 12), (0, 13), (0, 37)] [13, 17] s2 s3 → FTq σ s3 (BDm σ m lo ty kn st ex rr B D cells) → (∃ D : Nat, (s3 0 37).toInt = (D : Int) ∧ D ≤ 16000) → (∀ j, j ≠ lo + r → s3 13 j = s2 13 j) → (¬ BDm σ m lo ty kn st ex rr B D cells → ((s3 13 (lo + r)).toInt ≠ 0 ↔ ¬ ex.toInt ≠ 0 ∨ (σ 13 (lo + r)).toInt ≠ 0)) → (ex.toInt ≠ 0 → s3 0 37 = s2 0 37) → (¬ BDm σ m lo ty kn st ex rr B D cells → ex.toInt = 0 → (s3 0 37).toInt = (D : Int) + cells) → ∃ m', RGs kd vl n S m' lo d s3 ∧ s3 0 10 = σ 0 10 ∧ s3 0 57 = σ 0 57 ∧ FTq σ s3 (BDm σ m lo ty kn st ex rr B D cells) ∧ (¬ BDm σ m lo ty kn st ex rr B D cells → GDf σ s3 u m lo m' ty kn (ex.toInt ≠ 0) (st.toInt ≠ 0) rr cells) := fun s3 k3 f3 hD3 r13 r13e gx gn => by
      have kz : Kp [(0, 10), (0, 12), (0, 13), (0, 37)] [11, 13, 17] σ s3 := kp_tr (kp_sub k2 rfl rfl) (kp_sub k3 rfl rfl)
      have c11 : ∀ j, s3 11 j = s 11 j := fun j => by rw [k3 11 j rfl rfl, b11]
      refine ⟨m, rg_fr hG kz hD3 f3.1, by rw [k3 0 10 rfl rfl]; exact k2 0 10 rfl rfl, kz 0 57 rfl rfl, f3, fun nb => ⟨fun h => by omega, fun r' hr' => ?_, fun h => by rw [gx h]; exact k2 0 37 rfl rfl, fun h => by rw [hD]; exact gn nb (Decidable.byContradiction h)⟩⟩
      have er : r' = r := by omega
      rw [er]
      have jn : JNm σ (lo + r) ty kn st ex := Classical.byContradiction (fun h => nb (Or.inl (Or.inr ⟨r, hr, h⟩)))
      exact ⟨rfl, kz, fun j hj => by rw [c11]; exact r11 j hj, by rw [c11]; exact r11e jn, fun j hj => by rw [r13 j hj]; exact k2 13 j rfl rfl, r13e nb⟩
    have njv : v.toInt < 0 → ¬ JNm σ (lo + r) ty kn st ex := fun h hx => by
      have := v1 hx.1.1
      omega
    have bd1 : BDm σ m lo ty kn st ex rr B D cells ↔ (¬ JNm σ (lo + r) ty kn st ex ∨ B) ∨ (ex.toInt = 0 ∧ 16000 < (D : Int) + cells) := by
      unfold BDm
      constructor
      · rintro ((h | ⟨q, h1, h2⟩) | h | h)
        · omega
        · have : q = r := by omega
          rw [this] at h2
          exact Or.inl (Or.inl h2)
        · exact Or.inl (Or.inr h)
        · exact Or.inr h
      · rintro ((h | h) | h)
        · exact Or.inl (Or.inr ⟨r, hr, h⟩)
        · exact Or.inr (Or.inl h)
        · exact Or.inr (Or.inr h)
    have e2D : (s2 0 37).toInt = (D : Int) := by rw [k2 0 37 rfl rfl]; exact hD
    rcases hly with ⟨e3, hx⟩ | ⟨hex, q, hq, k3, f3, g13, gD1, gD2⟩
    · rw [e3]
      have imp : ¬ BDm σ m lo ty kn st ex rr B D cells → ex.toInt ≠ 0 := fun nb => hx.elim (fun h => absurd (bd1.2 (Or.inl (Or.inl (njv h)))) nb) id
      refine fin s2 kp_rf (ft_iff f2 ?_) ⟨D, e2D, hD9⟩ (fun j _ => rfl) (fun nb => ?_) (fun _ => rfl) (fun nb h => absurd h (imp nb))
      · rw [bd1]
        exact ⟨Or.inl, fun h => h.elim id (fun h => Or.inl (hx.elim njv (fun h2 => absurd h.1 h2)))⟩
      · rw [k2 13 (lo + r) rfl rfl]
        exact ⟨Or.inr, fun h => h.elim (fun h => absurd (imp nb) h) id⟩
    · have eq : (σ 9 (lo + r)).toInt = 1 → q = lo + r := fun h => by have := v1 h; omega
      have e9 : (σ 9 (lo + r)).toInt = 1 := Decidable.byContradiction (fun h => by have := v2 h; omega)
      have eq2 := eq e9
      rw [eq2] at g13
      refine fin s3 k3 (ft_iff (ft_tr f2 f3 (k2 0 15 rfl rfl)) ?_) ?_ (fun j hj => by rw [g13, if_neg hj]) (fun _ => ⟨fun _ => Or.inl (fun h => h hex), fun _ => by rw [g13, if_pos rfl]; decide⟩) (fun h => absurd hex h) (fun nb _ => gD1 ?_)
      · rw [bd1]
        exact ⟨fun h => h.imp id (fun h => ⟨hex, h⟩), fun h => h.imp id (fun h => h.2)⟩
      · by_cases c : (D : Int) + cells ≤ 16000
        · exact ⟨((D : Int) + cells).toNat, by rw [gD1 c]; omega, by omega⟩
        · exact ⟨D, by rw [gD2 (by omega)]; exact e2D, hD9⟩
      · have : ¬ (16000 < (D : Int) + cells) := fun hx => nb (bd1.2 (Or.inr ⟨hex, hx⟩))
        omega
end GRF
end

section
/-! a variable outside of functions: both sides -/
/-- between what is declared outside of functions -/
def URq (kd : Nat → Int) (n m lo : Nat) (w σ : St) : Prop := REq kd n 0 m lo w σ ∧ (w 7 7).toInt = 0 ∧ (w 6 6).toInt = -1 ∧ (w 8 6).toInt = -1 ∧ (w 9 5).toInt = 0
def USq (kd : Nat → Int) (n m m' lo : Nat) (g : List Gsq) (σ σ' : St) : Prop := (σ 0 12).toInt = 0 → ∀ w, URq kd n m lo w σ → (w 6 3).toInt = 0 → GWq g w (fun s => ((s 6 3).toInt ≠ 0 → (σ' 0 12).toInt ≠ 0) ∧ ((s 6 3).toInt = 0 → (σ' 0 12).toInt = 0 ∧ URq kd n m' lo s σ')) ((σ' 0 12).toInt ≠ 0)
section GVR
variable {w s r s2 s3 s95 s285 σ σ' τ t : St} {kd vl : Nat → Int} {n m m' lo d p pb u ty D : Nat} {vs z : List Nat} {a b c a1 a2 a3 a4 a5 v kn st ex : Int32} {F0 : Prop} {g : List Gsq} {gb : List Gsq} {giv lk lk4 szi : Int} {x6 x7 x8 rr cells : Int} {ext stc lack B : Prop} {Q : St → Prop}
theorem xv_gvar (h66 : (w 6 6).toInt < 0) (kk : ∀ (w2 : St) (y : Int32), Kp [(8, 9), (8, 11), (8, 12), (8, 13), (8, 15), (8, 16)] [] w w2 → w2 8 11 = b → (w2 8 12).toInt = EXw w → (w2 8 15).toInt = 0 → (w2 8 16).toInt = 0 → (w2 8 9).toInt = 0 → ((w2 8 13).toInt ≠ 0 ↔ (c &&& (3 : Int32)).toInt = 2) → (y.toInt ≠ 0 ↔ (c &&& (4 : Int32)).toInt ≠ 0) → pk_X1_outer a (c &&& (3 : Int32)) y w2 (fun s => Q (upC s 8 6 ((-1) : Int32)))) : pk_X1_variable a b c w Q := by
  unfold pk_X1_variable
  refine ⟨fun y => (y.toInt ≠ 0 ↔ (c &&& (4 : Int32)).toInt ≠ 0), fun y _ hy => ⟨fun x => x.toInt = EXw w, fun x hx => ⟨fun y2 => y2.toInt = 0, fun y2 _ h2 => ⟨fun y3 => (y3.toInt ≠ 0 ↔ (c &&& (3 : Int32)).toInt = 2), fun y3 _ h3 => ⟨fun _ => kk _ y (kp_f (kp_f (kp_f (kp_f (kp_f (kp_f kp_rf rfl) rfl) rfl) rfl) rfl) rfl) ?_ ?_ ?_ ?_ ?_ ?_ hy, fun cc => absurd h2 cc⟩, fun cc => ⟨fun hx => absurd rfl hx, fun hx => absurd hx cc⟩, fun cc => ⟨fun _ => cc, fun _ => by decide⟩⟩, fun _ => rfl, fun cc => by omega⟩, fun cc => ⟨EXw w = 0, fun hj => hj.symm, fun c1 => ?_, fun c1 => ⟨fun c2 => ?_, fun c2 => ?_⟩⟩, fun cc => ?_⟩, fun cc => ⟨fun hx => absurd rfl hx, fun hx => absurd cc hx⟩, fun cc => ⟨fun _ => cc, fun _ => by decide⟩⟩
  · rw [rdA_ne (by decide), rdA_ne (by decide), rdA_ne (by decide), rdA_ne (by decide), rdA_ne (by decide), rdA_eq rfl]
  · rw [rdA_ne (by decide), rdA_ne (by decide), rdA_ne (by decide), rdA_ne (by decide), rdA_eq rfl]
    exact hx
  · rw [rdA_ne (by decide), rdA_ne (by decide), rdA_ne (by decide), rdA_eq rfl]
    rfl
  · rw [rdA_ne (by decide), rdA_ne (by decide), rdA_eq rfl]
    rfl
  · rw [rdA_ne (by decide), rdA_eq rfl]
    exact h2
  · rw [rdA_eq rfl]
    exact h3
  · unfold EXw
    rw [if_pos cc, if_neg (fun h => by omega)]
  · unfold EXw
    rw [if_pos cc, if_neg (fun h => by omega)]
  · show (w 8 7).toInt = EXw w
    unfold EXw
    rw [if_pos cc, if_pos ⟨c1, c2⟩]
  · show ((-1 : Int32)).toInt = EXw w
    unfold EXw
    rw [if_neg (fun h => by omega)]
    rfl
theorem gn_lm (h : GNf σ s lo m u v a2 kn st ex rr) (hr : rr = -1) (hm : m < 100) : lo + m < 10000 ∧ (σ 0 31).toInt + ((σ 4 u).toInt - (σ 3 u).toInt) ≤ 65536 := by
  rcases h with ⟨_, h, _⟩ | ⟨_, _, h1, _, s1, h2, _⟩ | ⟨r, h, _⟩
  · omega
  · have := h2.2.2.1
    have := h2.2.2.2.1
    exact ⟨h1, by omega⟩
  · omega
/-- the class's walk over a variable, up to its initial -/
theorem gw0 {rest : List Gsq} (hlk : (lk4 = lk ∧ kd pb ≠ 30) ∨ (lk4 = lk + 4 ∧ kd pb = 30)) (hl : lk = 0 ∨ lk = 1 ∨ lk = 2) (hex : ext ↔ lk = 2) (hla : lack ↔ ext ∨ kd pb = 30) (hu : u ≤ n) (ku : kd u = 2)
    (hbk : (σ 0 12).toInt = 0 → ∀ w, REq kd n 0 m lo w σ → (w 6 3).toInt = 0 → (w 7 7).toInt = 0 → (w 8 6).toInt = -1 → GWq (bkl kd p gb giv szi) w (fun w1 => (w1 6 3).toInt = 0 ∧ BKg kd n 0 m lo x6 x7 x8 w w1 s95) False)
    (hrr : EFm s95 lo (lo + m) u rr) (hlm : rr = -1 → m < 100 → lo + m < 10000 ∧ (s95 0 31).toInt + ((s95 4 u).toInt - (s95 3 u).toInt) ≤ 65536)
    (hbd : ∀ (w2 : St) (b : Int32), b.toInt = lk → REq kd n 0 m lo w2 s95 → (w2 8 11).toInt = (ty : Int) → (w2 8 12).toInt = KNq x6 x7 → ((w2 8 13).toInt ≠ 0 ↔ ext) → (SQl w2 lack ↔ SQm x6 x7 x8 lack) → BDc w2 m lo b lack rr → B) (hsq : (∀ lack, SQm x6 x7 x8 lack) → B) (hq : ∀ s, (s 6 3).toInt ≠ 0 → B → Q s)
    (h0 : (σ 0 12).toInt = 0) (hR : URq kd n m lo w σ) (hf : (w 6 3).toInt = 0)
    (kk : ∀ (w2 : St) (b : Int32) (s : St) (d : Nat), b.toInt = lk → REq kd n 0 m lo w2 s95 → (w2 8 11).toInt = (ty : Int) → (w2 8 12).toInt = KNq x6 x7 → ((w2 8 13).toInt ≠ 0 ↔ ext) → (SQl w2 lack ↔ SQm x6 x7 x8 lack) → ¬ BDc w2 m lo b lack rr → (rr = -1 → m < 100 ∧ d = (w2 5 1).toInt.toNat) → (∀ r : Nat, rr = ((lo + r : Nat) : Int) → r < m ∧ d = (w2 5 1).toInt.toNat - m + r) → OUf w2 s u m d (rr = -1) b → (w2 7 7).toInt = 0 → (w2 6 6).toInt = -1 → (w2 9 5).toInt = 0 → (w2 8 9).toInt = 0 → (w2 8 15).toInt = 0 → (w2 8 16).toInt = 0 → GWq rest (upC s 8 6 ((-1) : Int32)) Q B) : GWq (bkl kd p gb giv szi ++ ([gq (43, u, (ty : Int), lk4)] ++ rest)) w Q B := by
  refine gv_app (gv_mono (hbk h0 w hR.1 hf hR.2.1 hR.2.2.2.1) (fun w1 hw1 => ?_) False.elim)
  obtain ⟨f1, hg⟩ := hw1
  rcases hg with ⟨b1, b2, b3, b4, b5, b6⟩ | ⟨b1, b2, b3⟩
  · have w66 : (w1 6 6).toInt = -1 := by rw [b3 6 6 (op_lt (by decide)) rfl rfl]; exact hR.2.2.1
    have w95 : (w1 9 5).toInt = 0 := by rw [b3 9 5 (op_lt (by decide)) rfl rfl]; exact hR.2.2.2.2
    refine gv_app (gv_d (x := (43, u, (ty : Int), lk4)) (by simp) (fun _ => da_var (fun a b c ea eb ec => xv_gvar (by omega) (fun w2 y k2 g11 g12 g15 g16 g9 g13 hy => ?_))) (fun hx => absurd f1 hx))
    obtain ⟨cb, c3, c4⟩ : (c &&& (3 : Int32)).toInt = lk ∧ ((c &&& (3 : Int32)).toInt = 2 ↔ ext) ∧ ((c &&& (4 : Int32)).toInt ≠ 0 ↔ kd pb = 30) := by
      have hcx : ∀ k : Int32, ec = ec → k.toInt = lk4 → c = k := fun k _ h => ieq (by rw [ec, h])
      rcases hlk with ⟨h, h2⟩ | ⟨h, h2⟩
      · rcases hl with e | e | e
        · rw [hcx 0 rfl (by rw [h, e]; rfl), hex, e]
          exact ⟨by decide, by decide, ⟨fun h => absurd rfl h, fun h => absurd h h2⟩⟩
        · rw [hcx 1 rfl (by rw [h, e]; rfl), hex, e]
          exact ⟨by decide, by decide, ⟨fun h => absurd rfl h, fun h => absurd h h2⟩⟩
        · rw [hcx 2 rfl (by rw [h, e]; rfl), hex, e]
          exact ⟨by decide, by decide, ⟨fun h => absurd rfl h, fun h => absurd h h2⟩⟩
      · rcases hl with e | e | e
        · rw [hcx 4 rfl (by rw [h, e]; rfl), hex, e]
          exact ⟨by decide, by decide, ⟨fun _ => h2, fun _ => by decide⟩⟩
        · rw [hcx 5 rfl (by rw [h, e]; rfl), hex, e]
          exact ⟨by decide, by decide, ⟨fun _ => h2, fun _ => by decide⟩⟩
        · rw [hcx 6 rfl (by rw [h, e]; rfl), hex, e]
          exact ⟨by decide, by decide, ⟨fun _ => h2, fun _ => by decide⟩⟩
    have hE2 : REq kd n 0 m lo w2 s95 := re_cd b1 (cd_ko (ko_kp k2) rfl rfl) dd_rf
    have f2 : (w2 6 3).toInt = 0 := by rw [k2 6 3 rfl rfl]; exact f1
    have e13 : (w2 8 13).toInt ≠ 0 ↔ ext := g13.trans c3
    have e11 : (w2 8 11).toInt = (ty : Int) := by rw [g11, eb]
    have e12 : (w2 8 12).toInt = KNq x6 x7 := by rw [g12, b4]
    have hlk2 : lack ↔ y.toInt ≠ 0 ∨ (w2 8 13).toInt ≠ 0 := by
      rw [hla, hy, c4, e13]
      exact Or.comm
    have sq : SQl w2 lack ↔ SQm x6 x7 x8 lack := by
      by_cases hl2 : lack
      · rw [← b6 1 lack ⟨fun _ => hl2, fun _ => by decide⟩, sq_l (y := 1) (w := w1) ⟨fun _ => hl2, fun _ => by decide⟩]
        unfold SQl
        rw [k2 8 6 rfl rfl, k2 8 7 rfl rfl]
      · rw [← b6 0 lack ⟨fun h => absurd rfl h, fun h => absurd h hl2⟩, sq_l (y := 0) (w := w1) ⟨fun h => absurd rfl h, fun h => absurd h hl2⟩]
        unfold SQl
        rw [k2 8 6 rfl rfl, k2 8 7 rfl rfl]
    have kb : -1 ≤ KNq x6 x7 ∧ KNq x6 x7 ≤ 4000 := by
      unfold KNq
      split
      · split
        · omega
        · decide
      · decide
    refine xo_outer (lack := lack) hE2 f2 ea hu ku (by omega) hlk2 hrr hlm (fun hbc s hs => ?_) (fun nb s d q0 q1 hou => ?_)
    · have hB := hbd w2 _ cb hE2 e11 e12 e13 sq hbc
      have e63 : ((upC s 8 6 ((-1) : Int32)) 6 3).toInt ≠ 0 := by rw [rdC_ne (by decide)]; exact hs
      exact gv_bad e63 hB (fun s' h => hq s' h hB)
    · exact kk w2 _ s d cb hE2 e11 e12 e13 sq nb q0 q1 hou (by rw [k2 7 7 rfl rfl]; exact b2) (by rw [k2 6 6 rfl rfl]; exact w66) (by rw [k2 9 5 rfl rfl]; exact w95) g9 g15 g16
  · have hB := hsq b3
    exact gv_app (gv_d (x := (43, u, (ty : Int), lk4)) (by simp) (fun _ => da_var (fun a b c _ _ _ => xv_badAny b1 b2 (fun s h => gv_bad h hB (fun s' h' => hq s' h' hB)))) (fun _ => hB))
/-- the class's faults at a variable are the reference's -/
theorem bd_eq {w2 : St} (hE : REq kd n 0 m lo w2 s95) (hrr : EFm s95 lo (lo + m) u rr) (hb : b.toInt = lk) (h11 : (w2 8 11).toInt = a2.toInt) (h12 : (w2 8 12).toInt = kn.toInt) (hkn : -1 ≤ kn.toInt) (hst : lk = 1 ↔ st.toInt ≠ 0) (hex : (w2 8 13).toInt ≠ 0 ↔ ex.toInt ≠ 0) (hsq : SQl w2 lack ↔ B) (hD : (s95 0 37).toInt = (D : Int)) (hD9 : D ≤ 16000) (hc : (ex.toInt ≠ 0 → CLw w2 = 0) ∧ (ex.toInt = 0 → CLw w2 = cells)) : (BDc w2 m lo b lack rr ↔ BDm s95 m lo a2 kn st ex rr B D cells) ∧ ∀ r : Nat, r < m → (JNw w2 ((w2 5 1).toInt.toNat - m + r) b ↔ JNm s95 (lo + r) a2 kn st ex) := by
  have hj : ∀ r : Nat, r < m → (JNw w2 ((w2 5 1).toInt.toNat - m + r) b ↔ JNm s95 (lo + r) a2 kn st ex) := fun r hr => jn_eq (hE.2.2.1.2.2.2.2.2 r hr) h11 h12 hkn (by rw [hb]; exact hst) hex
  have hrm : ∀ r : Nat, rr = ((lo + r : Nat) : Int) → r < m := fun r hr => by
    rcases hrr with ⟨e, h1, h2, h3, h4, h5⟩ | ⟨h1, h2⟩
    · omega
    · omega
  obtain ⟨D', d1, d2, d3⟩ := hE.2.2.2.1
  have hDD : (w2 6 5).toInt = (D : Int) := by omega
  refine ⟨?_, hj⟩
  unfold BDc BDm
  rw [hsq, hDD]
  constructor
  · rintro ((h | ⟨r, h1, h2⟩) | h | h)
    · exact Or.inl (Or.inl h)
    · exact Or.inl (Or.inr ⟨r, h1, fun hx => h2 ((hj r (hrm r h1)).2 hx)⟩)
    · exact Or.inr (Or.inl h)
    · refine Or.inr (Or.inr ?_)
      have : ex.toInt = 0 := Decidable.byContradiction (fun hx => by
        have := hc.1 hx
        omega)
      have := hc.2 this
      exact ⟨‹_›, by omega⟩
  · rintro ((h | ⟨r, h1, h2⟩) | h | h)
    · exact Or.inl (Or.inl h)
    · exact Or.inl (Or.inr ⟨r, h1, fun hx => h2 ((hj r (hrm r h1)).1 hx)⟩)
    · exact Or.inr (Or.inl h)
    · have := hc.2 h.1
      exact Or.inr (Or.inr (by omega))
/-- both sides between two declarations, behind a variable -/
theorem ur_var {w2 : St} (hE : REq kd n 0 m' lo (upC s 8 6 ((-1) : Int32)) s285) (hk : Kp [(6, 3), (6, 4), (8, 10), (8, 14), (6, 5), (6, 7), (5, 7), (5, 1)] [25, 26, 27, 28, 29, 30, 38, 39] w2 s) (h77 : (w2 7 7).toInt = 0) (h66 : (w2 6 6).toInt = -1) (h95 : (w2 9 5).toInt = 0) : URq kd n m' lo (upC s 8 6 ((-1) : Int32)) s285 :=
  ⟨hE, by rw [rdC_ne (by decide), hk 7 7 rfl rfl]; exact h77, by rw [rdC_ne (by decide), hk 6 6 rfl rfl]; exact h66, by rw [rdA_eq rfl]; rfl, by rw [rdC_ne (by decide), hk 9 5 rfl rfl]; exact h95⟩
end GVR
end

