/-! outside of functions: the class's variables -/
def SQl (w : St) (lack : Prop) : Prop := 0 ≤ (w 8 6).toInt ∧ (((w 8 7).toInt = -1 ∧ ¬ lack) ∨ ((w 8 7).toInt ≠ -1 ∧ (w 8 7).toInt < 1) ∨ 4000 < (w 8 7).toInt)
def FLv (w s : St) (d : Nat) (nw c2 c4 : Prop) : Prop := (FLq s d 1 ↔ ¬ nw ∧ FLq w d 1) ∧ (FLq s d 2 ↔ (¬ nw ∧ FLq w d 2) ∨ c2) ∧ (FLq s d 4 ↔ (¬ nw ∧ FLq w d 4) ∨ c4) ∧ (FLq s d 8 ↔ ¬ nw ∧ FLq w d 8)
/-- what is declared, once more or first -/
def NWf (w s : St) (u m d : Nat) (nw : Prop) : Prop := (nw → (s 6 7).toInt = (m : Int) + 1 ∧ (d : Int) = (w 5 1).toInt ∧ (s 5 1).toInt = (d : Int) + 1 ∧ (s 5 7).toInt = (w 5 7).toInt + (w 14 u).toInt ∧ (∀ j, (s 38 j).toInt = if j = m then (u : Int) else (w 38 j).toInt) ∧ (∀ j, s 39 j = if j = m then -1 else w 39 j) ∧ ByteOK (w 1)) ∧ (¬ nw → s 6 7 = w 6 7 ∧ s 5 1 = w 5 1 ∧ s 5 7 = w 5 7 ∧ s 38 = w 38 ∧ s 39 = w 39)
/-- a variable outside of functions is declared -/
def OUf (w s : St) (u m d : Nat) (nw : Prop) (lk : Int32) : Prop :=
  Kp [(6, 3), (6, 4), (8, 10), (8, 14), (6, 5), (6, 7), (5, 7), (5, 1)] [25, 26, 27, 28, 29, 30, 38, 39] w s ∧ (s 6 3).toInt = 0 ∧ NWf w s u m d nw ∧ (∀ j, j ≠ d → s 25 j = w 25 j ∧ s 26 j = w 26 j ∧ s 27 j = w 27 j ∧ s 28 j = w 28 j) ∧ s 26 d = w 8 11 ∧ (nw ∨ 0 < (w 8 12).toInt → s 27 d = w 8 12) ∧ (¬ nw → ¬ 0 < (w 8 12).toInt → s 27 d = w 27 d) ∧ FLv w s d nw (lk.toInt = 1) ((w 8 13).toInt = 0) ∧ (s 6 5).toInt = (w 6 5).toInt + CLw w ∧ ((w 8 13).toInt = 0 → s 28 d = w 6 5) ∧ (¬ nw → (w 8 13).toInt ≠ 0 → s 28 d = w 28 d)
def BDc (w : St) (m lo : Nat) (lk : Int32) (lack : Prop) (rr : Int) : Prop := ((rr = -1 ∧ m = 100) ∨ ∃ r : Nat, rr = ((lo + r : Nat) : Int) ∧ ¬ JNw w ((w 5 1).toInt.toNat - m + r) lk) ∨ SQl w lack ∨ 16000 < (w 6 5).toInt + CLw w
section XOU
variable {w s r σ σ' : St} {kd : Nat → Int} {n S m lo u dn d : Nat} {a b c y84 : Int32} {Q : St → Prop} {rr : Int} {nw c2 c4 : Prop}
theorem sq_l {lack : Prop} {y : Int32} (h : y.toInt ≠ 0 ↔ lack) : SQb w y ↔ SQl w lack := by
  unfold SQb SQl
  constructor
  · rintro ⟨h0, h1 | h1 | h1⟩
    · exact ⟨h0, Or.inl ⟨h1.1, fun hx => (h.2 hx) h1.2⟩⟩
    · exact ⟨h0, Or.inr (Or.inl h1)⟩
    · exact ⟨h0, Or.inr (Or.inr h1)⟩
  · rintro ⟨h0, h1 | h1 | h1⟩
    · exact ⟨h0, Or.inl ⟨h1.1, Decidable.byContradiction (fun hx => h1.2 (h.1 hx))⟩⟩
    · exact ⟨h0, Or.inr (Or.inl h1)⟩
    · exact ⟨h0, Or.inr (Or.inr h1)⟩
theorem sq_k (k : Kp [(6, 3), (6, 4)] [] w s) {y : Int32} : SQb s y ↔ SQb w y := by
  unfold SQb
  rw [k 8 6 rfl rfl, k 8 7 rfl rfl]
theorem flv_2 (h : FLv w s d nw False False) (e : r 25 d = (s 25 d) ||| (2 : Int32)) (h2 : c2) : FLv w r d nw c2 False := by
  obtain ⟨h1, _, h4, h8⟩ := h
  exact ⟨(fl_no e (by decide)).trans h1, ⟨fun _ => Or.inr h2, fun _ => fl_yes e (by decide) (by decide)⟩, (fl_no e (by decide)).trans h4, (fl_no e (by decide)).trans h8⟩
theorem flv_4 (h : FLv w s d nw c2 False) (e : r 25 d = (s 25 d) ||| (4 : Int32)) (h4 : c4) : FLv w r d nw c2 c4 := by
  obtain ⟨h1, h2, _, h8⟩ := h
  exact ⟨(fl_no e (by decide)).trans h1, (fl_no e (by decide)).trans h2, ⟨fun _ => Or.inr h4, fun _ => fl_yes e (by decide) (by decide)⟩, (fl_no e (by decide)).trans h8⟩
theorem flv_s (h : FLv w s d nw c2 c4) (e : r 25 d = s 25 d) : FLv w r d nw c2 c4 := ⟨(fl_same e).trans h.1, (fl_same e).trans h.2.1, (fl_same e).trans h.2.2.1, (fl_same e).trans h.2.2.2⟩
theorem flv_c {c2' c4' : Prop} (h : FLv w s d nw c2 c4) (e2 : c2 ↔ c2') (e4 : c4 ↔ c4') : FLv w s d nw c2' c4' := ⟨h.1, by rw [h.2.1, e2], by rw [h.2.2.1, e4], h.2.2.2⟩
theorem nwf_k (h : NWf w s u m d nw) (k : Kp [(6, 3), (6, 4), (8, 10), (8, 14), (6, 5)] [25, 26, 27, 28] s r) : NWf w r u m d nw := by
  have e38 : r 38 = s 38 := funext (fun j => k 38 j rfl rfl)
  have e39 : r 39 = s 39 := funext (fun j => k 39 j rfl rfl)
  unfold NWf
  rw [k 6 7 rfl rfl, k 5 1 rfl rfl, k 5 7 rfl rfl, e38, e39]
  exact h
theorem xo_outer {lack : Prop} (hE : REq kd n S m lo w σ) (hf : (w 6 3).toInt = 0) (ha : a.toInt = (u : Int)) (hu : u ≤ n) (ku : kd u = 2) (h8 : -1 ≤ (w 8 12).toInt ∧ (w 8 12).toInt ≤ 4000) (hlk : lack ↔ c.toInt ≠ 0 ∨ (w 8 13).toInt ≠ 0) (hrr : EFm σ lo (lo + m) u rr) (hlm : rr = -1 → m < 100 → lo + m < 10000 ∧ (σ 0 31).toInt + ((σ 4 u).toInt - (σ 3 u).toInt) ≤ 65536)
    (k1 : BDc w m lo b lack rr → ∀ s, (s 6 3).toInt ≠ 0 → Q s)
    (k0 : ¬ BDc w m lo b lack rr → ∀ s d, (rr = -1 → m < 100 ∧ d = (w 5 1).toInt.toNat) → (∀ r : Nat, rr = ((lo + r : Nat) : Int) → r < m ∧ d = (w 5 1).toInt.toNat - m + r) → OUf w s u m d (rr = -1) b → Q s) : pk_X1_outer a b c w Q := by
  have hE' := hE
  obtain ⟨hT, hL, ⟨o1, o2, o3, ⟨o4, o4b⟩, o5, o6⟩, ⟨D, hD1, hD2, hD3⟩, hY⟩ := hE'
  have o59 := o5.2.2.2.1
  unfold pk_X1_outer
  refine xo_find hE ha hu ku hrr (fun v5 q1 q2 q3 => ?_)
  have nv : v5.toInt < 0 ↔ rr = -1 := by
    constructor
    · intro h
      rcases q3 with h3 | ⟨r, h3, h4⟩
      · exact h3
      · have := q2 r h4
        omega
    · exact q1
  refine ⟨fun y => (y.toInt ≠ 0 ↔ ¬ ∃ r : Nat, rr = ((lo + r : Nat) : Int) ∧ ¬ JNw w ((w 5 1).toInt.toNat - m + r) b), fun y34 _ h34 => xl_checkOuter (fun s34 k34 f34 => ⟨fun y => (y.toInt ≠ 0 ↔ lack), fun y54 _ h54 => xc_square (fun s54 k54 f54 => ?_), lack, fun hj => ⟨fun _ => hj, fun _ => by decide⟩, fun cc => hlk.2 (Or.inl cc), fun cc => ⟨fun c13 => ⟨fun h => absurd rfl h, fun h => ?_⟩, fun c13 => ?_⟩⟩), ¬ ∃ r : Nat, rr = ((lo + r : Nat) : Int) ∧ ¬ JNw w ((w 5 1).toInt.toNat - m + r) b, fun hj => ⟨fun _ => hj, fun _ => by decide⟩, fun cv => ?_, fun cv => ?_⟩
  rotate_left
  · rw [k34 8 13 rfl rfl] at c13
    exact (hlk.1 h).elim (fun h => absurd cc h) (fun h => absurd c13 h)
  · rw [k34 8 13 rfl rfl] at c13
    exact hlk.2 (Or.inr c13)
  · rintro ⟨r, h1, _⟩
    have := nv.1 cv
    omega
  · rcases q3 with h3 | ⟨r, h3, h4⟩
    · exact absurd (nv.2 h3) (by omega)
    · have hv := q2 r h4
      refine xl_joins hv (by omega) (fun hj => ⟨fun h => absurd h (by decide), fun _ => ?_⟩) (fun hj => ⟨fun _ => ⟨fun h => absurd rfl h, fun h => absurd ⟨r, h4, hj⟩ h⟩, fun h => absurd rfl h⟩)
      rintro ⟨r', h1, h2⟩
      have : r' = r := by omega
      rw [this] at h2
      exact h2 hj
  have k254 : Kp [(6, 3), (6, 4)] [] w s54 := kp_tr k34 k54
  have fb : (s54 6 3).toInt ≠ 0 ↔ ((rr = -1 ∧ m = 100) ∨ ∃ r : Nat, rr = ((lo + r : Nat) : Int) ∧ ¬ JNw w ((w 5 1).toInt.toNat - m + r) b) ∨ SQl w lack := by
    rw [f54, f34, sq_k k34, sq_l h54, nv, o1]
    constructor
    · rintro ((h | h | h) | h)
      · exact absurd hf h
      · exact Or.inl (Or.inr (Classical.byContradiction (fun hx => (h34.2 hx) h)))
      · exact Or.inl (Or.inl ⟨h.1, by omega⟩)
      · exact Or.inr h
    · rintro ((h | h) | h)
      · exact Or.inl (Or.inr (Or.inr ⟨h.1, by omega⟩))
      · exact Or.inl (Or.inr (Or.inl (Decidable.byContradiction (fun hx => (h34.1 hx) h))))
      · exact Or.inr h
  have e13 : s54 8 13 = w 8 13 := k254 8 13 rfl rfl
  have e12 : s54 8 12 = w 8 12 := k254 8 12 rfl rfl
  have e65 : s54 6 5 = w 6 5 := k254 6 5 rfl rfl
  rw [e13, e12, e65]
  have cl0 : 0 ≤ CLw w ∧ CLw w ≤ 4000 := by
    unfold CLw
    split
    · decide
    · split
      · decide
      · omega
  refine ⟨fun y => y.toInt = CLw w, fun y84 h84 => ?_, fun c13 => ⟨fun c12 => ?_, fun c12 => ?_⟩, fun c13 => ?_⟩
  rotate_left
  · show (w 8 12).toInt = CLw w
    unfold CLw
    rw [if_neg (fun h => h c13), if_neg c12]
  · show ((1 : Int32)).toInt = CLw w
    unfold CLw
    rw [if_neg (fun h => h c13), if_pos c12]
    rfl
  · show ((0 : Int32)).toInt = CLw w
    unfold CLw
    rw [if_pos c13]
    rfl
  have e84 : ((w 6 5) + y84).toInt = (w 6 5).toInt + CLw w := by rw [ad (by omega) (by omega), h84]
  rw [e84]
  refine ⟨fun s => Kp [(6, 3), (6, 4)] [] w s ∧ ((s 6 3).toInt ≠ 0 ↔ BDc w m lo b lack rr), ?_, fun c1 => ⟨k254, ?_⟩, fun c1 => xl_fail (by decide) (fun s k f => ⟨kp_tr k254 k, fun _ => Or.inr (Or.inr c1), fun _ => f⟩)⟩
  rotate_left
  · rw [fb]
    unfold BDc
    exact ⟨fun h => h.elim Or.inl (fun h => Or.inr (Or.inl h)), fun h => h.elim Or.inl (fun h => h.elim Or.inr (fun h => by omega))⟩
  rintro s111 ⟨k111, f111⟩
  refine ⟨fun c0 => ?_, fun c0 => k1 (f111.1 c0) s111 c0⟩
  have nb : ¬ BDc w m lo b lack rr := fun h => (f111.2 h) c0
  obtain ⟨d, hdn, hd0, hd1, hd9⟩ : ∃ d : Nat, (rr = -1 → m < 100 ∧ d = (w 5 1).toInt.toNat) ∧ (rr = -1 → True) ∧ (∀ r : Nat, rr = ((lo + r : Nat) : Int) → r < m ∧ d = (w 5 1).toInt.toNat - m + r) ∧ d < 10100 := by
    rcases q3 with h3 | ⟨r, h3, h4⟩
    · have hm : m < 100 := by
        have : ¬ m = 100 := fun h => nb (Or.inl (Or.inl ⟨h3, h⟩))
        omega
      have := (hlm h3 hm).1
      exact ⟨(w 5 1).toInt.toNat, fun _ => ⟨hm, rfl⟩, fun _ => trivial, fun r hr => by omega, by omega⟩
    · exact ⟨(w 5 1).toInt.toNat - m + r, fun h => by omega, fun _ => trivial, fun r' hr' => by
        have : r' = r := by omega
        rw [this]
        exact ⟨h3, rfl⟩, by omega⟩
  have b12 : s111 8 12 = w 8 12 := k111 8 12 rfl rfl
  have fl0 : ∀ s : St, s 25 d = 0 → FLv w s d (rr = -1) False False ∨ ¬ rr = -1 := fun s h => by
    by_cases c : rr = -1
    · exact Or.inl ⟨⟨fun h1 => absurd h1 (fl_zero h), fun h1 => absurd c h1.1⟩, ⟨fun h1 => absurd h1 (fl_zero h), fun h1 => h1.elim (fun h1 => absurd c h1.1) False.elim⟩, ⟨fun h1 => absurd h1 (fl_zero h), fun h1 => h1.elim (fun h1 => absurd c h1.1) False.elim⟩, ⟨fun h1 => absurd h1 (fl_zero h), fun h1 => absurd c h1.1⟩⟩
    · exact Or.inr c
  have fl1 : ∀ s : St, ¬ rr = -1 → s 25 d = w 25 d → FLv w s d (rr = -1) False False := fun s c h => ⟨(fl_same h).trans ⟨fun h => ⟨c, h⟩, fun h => h.2⟩, (fl_same h).trans ⟨fun h => Or.inl ⟨c, h⟩, fun h => h.elim (fun h => h.2) False.elim⟩, (fl_same h).trans ⟨fun h => Or.inl ⟨c, h⟩, fun h => h.elim (fun h => h.2) False.elim⟩, (fl_same h).trans ⟨fun h => ⟨c, h⟩, fun h => h.2⟩⟩
  refine ⟨fun y s => y.toInt = (d : Int) ∧ Kp [(6, 3), (6, 4), (6, 7), (5, 7), (5, 1)] [38, 39, 30, 29, 25, 28] w s ∧ (s 6 3).toInt = 0 ∧ (∀ j, j ≠ d → s 25 j = w 25 j) ∧ FLv w s d (rr = -1) False False ∧ NWf w s u m d (rr = -1) ∧ (∀ j, j ≠ d → s 28 j = w 28 j) ∧ (¬ rr = -1 → s 28 d = w 28 d), ?_, fun cv => ?_, fun cv => ?_⟩
  rotate_left
  · have c : ¬ rr = -1 := fun h => by have := nv.2 h; omega
    rcases q3 with h3 | ⟨r, h3, h4⟩
    · exact absurd h3 c
    · refine ⟨by rw [q2 r h4, (hd1 r h4).2], kp_sub k111 rfl rfl, c0, fun j _ => k111 25 j rfl rfl, fl1 _ c (k111 25 d rfl rfl), ⟨fun h => absurd h c, fun _ => ⟨k111 6 7 rfl rfl, k111 5 1 rfl rfl, k111 5 7 rfl rfl, funext (fun j => k111 38 j rfl rfl), funext (fun j => k111 39 j rfl rfl)⟩⟩, fun j _ => k111 28 j rfl rfl, fun _ => k111 28 d rfl rfl⟩
  · have c : rr = -1 := nv.1 cv
    obtain ⟨hm, hd⟩ := hdn c
    obtain ⟨hl1, hl2⟩ := hlm c hm
    have hE1 : REq kd n S m lo s111 σ := re_cd hE (cd_ko (ko_kp k111) rfl rfl) dd_rf
    refine xl_declareOuter hE1 ha hu ku hm hl1 hl2 (fun v s dn g1 g2 g3 hcd => ?_)
    obtain ⟨p1, p2, p3, p4, p5, p6, p7, p8, p9⟩ := hcd
    have e51 : (s111 5 1).toInt = (w 5 1).toInt := by rw [k111 5 1 rfl rfl]
    have edn : dn = d := by omega
    have e14 : s111 14 u = w 14 u := k111 14 u rfl rfl
    have e57 : s111 5 7 = w 5 7 := k111 5 7 rfl rfl
    have e38 : s111 38 = w 38 := funext (fun j => k111 38 j rfl rfl)
    have e39 : s111 39 = w 39 := funext (fun j => k111 39 j rfl rfl)
    have e1 : s111 1 = w 1 := funext (fun j => k111 1 j rfl rfl)
    rw [e14, e57] at p4
    rw [e38] at p5
    rw [e39] at p6
    rw [edn] at p3 p7 p9 g2
    rw [e1] at p8
    refine ⟨g2, kp_tr (kp_sub k111 rfl rfl) (kp_sub p1 rfl rfl), by rw [p1 6 3 rfl rfl]; exact c0, fun j hj => ?_, (fl0 s (by rw [p7, if_pos rfl])).elim id (fun h => absurd c h), ⟨fun _ => ⟨p2, by omega, p3, p4, p5, p6, p8⟩, fun h => absurd c h⟩, fun j hj => (p9 j hj).trans (k111 28 j rfl rfl), fun h => absurd c h⟩
    rw [p7, if_neg hj]
    exact k111 25 j rfl rfl
  rintro y141 s141 ⟨hy, k141, f141, g25, gfl, gnw, g28, g28d⟩
  have b8 : ∀ j, s141 8 j = w 8 j := fun j => k141 8 j rfl rfl
  have e26 : s141 26 = w 26 := funext (fun j => k141 26 j rfl rfl)
  have e27 : s141 27 = w 27 := funext (fun j => k141 27 j rfl rfl)
  rw [b8, b8]
  refine ⟨fun s => Kp [(8, 10)] [26, 27] s141 s ∧ (s 8 10).toInt = (d : Int) ∧ (∀ j, j ≠ d → s 26 j = w 26 j ∧ s 27 j = w 27 j) ∧ s 26 d = w 8 11 ∧ (rr = -1 ∨ 0 < (w 8 12).toInt → s 27 d = w 8 12) ∧ (¬ rr = -1 → ¬ 0 < (w 8 12).toInt → s 27 d = w 27 d), ?_, rr = -1 ∨ 0 < (w 8 12).toInt, fun hj => ?_, fun cv => Or.inl (nv.1 cv), fun cv => ⟨fun c12 => ?_, fun c12 => Or.inr c12⟩⟩
  rotate_left
  · rw [setv_at hy hd9, setv_at hy hd9, rdF_ne (by decide), rdC_ne (by decide), rdC_ne (by decide), e26, e27]
    refine ⟨kp_F (kp_F (kp_f kp_rf rfl) rfl) rfl, ?_, fun j hj => ⟨?_, ?_⟩, ?_, fun _ => ?_, fun h1 h2 => absurd hj (fun h => h.elim h1 h2)⟩
    · rw [rdF_ne (by decide), rdF_ne (by decide), rdA_eq rfl]; exact hy
    · rw [rdF_ne (by decide), rdF_eq]; exact if_neg hj
    · rw [rdF_eq]; exact if_neg hj
    · rw [rdF_ne (by decide), rdF_eq]; exact if_pos rfl
    · rw [rdF_eq]; exact if_pos rfl
  · rw [setv_at hy hd9, rdC_ne (by decide), e26]
    have c : ¬ rr = -1 := fun h => by have := nv.2 h; omega
    refine ⟨kp_F (kp_f kp_rf rfl) rfl, ?_, fun j hj => ⟨?_, ?_⟩, ?_, fun h => h.elim (fun h => absurd h c) (fun h => by omega), fun _ _ => ?_⟩
    · rw [rdF_ne (by decide), rdA_eq rfl]; exact hy
    · rw [rdF_eq]; exact if_neg hj
    · rw [rdF_ne (by decide), rdC_ne (by decide), e27]
    · rw [rdF_eq]; exact if_pos rfl
    · rw [rdF_ne (by decide), rdC_ne (by decide), e27]
  rintro s192 ⟨k192, p10, pj, p26, p27, p27b⟩
  have e25 : s192 25 = s141 25 := funext (fun j => k192 25 j rfl rfl)
  refine ⟨fun s => Kp [] [25] s192 s ∧ (∀ j, j ≠ d → s 25 j = w 25 j) ∧ FLv w s d (rr = -1) (b.toInt = 1) False, ?_, fun cb => ⟨kp_rf, fun j hj => by rw [e25]; exact g25 j hj, flv_c (flv_s gfl (by rw [e25])) ⟨False.elim, fun h => absurd h cb⟩ Iff.rfl⟩, fun cb => xl_mark p10 hd9 (fun s ks hs => ⟨ks, fun j hj => ?_, flv_2 gfl (by rw [hs, if_pos rfl, e25]) cb⟩)⟩
  rotate_left
  · rw [hs, if_neg hj, e25]
    exact g25 j hj
  rintro s209 ⟨k209, h25, hfl⟩
  have k92 : Kp [(8, 10)] [25, 26, 27] s141 s209 := kp_tr (kp_sub k192 rfl rfl) (kp_sub k209 rfl rfl)
  have e913 : s209 8 13 = w 8 13 := by rw [k92 8 13 rfl rfl, b8]
  have e910 : (s209 8 10).toInt = (d : Int) := by rw [k209 8 10 rfl rfl]; exact p10
  rw [e913]
  have e28 : s209 28 = s141 28 := funext (fun j => k92 28 j rfl rfl)
  have e965 : s209 6 5 = w 6 5 := by rw [k92 6 5 rfl rfl, k141 6 5 rfl rfl]
  refine ⟨fun s => Kp [] [25, 28] s209 s ∧ (∀ j, j ≠ d → s 25 j = w 25 j) ∧ FLv w s d (rr = -1) (b.toInt = 1) ((w 8 13).toInt = 0) ∧ (∀ j, j ≠ d → s 28 j = w 28 j) ∧ ((w 8 13).toInt = 0 → s 28 d = w 6 5) ∧ (¬ rr = -1 → (w 8 13).toInt ≠ 0 → s 28 d = w 28 d), ?_, fun cb => ⟨kp_rf, h25, flv_c hfl Iff.rfl ⟨False.elim, fun h => absurd h cb⟩, fun j hj => by rw [e28]; exact g28 j hj, fun h => absurd h cb, fun h _ => by rw [e28]; exact g28d h⟩, fun cb => xl_mark e910 hd9 (fun s ks hs => ?_)⟩
  rotate_left
  · have e : (upF s 28 (setv 10100 (s 28) (s 8 10) (s 6 5))) 25 = s 25 := by rw [rdF_ne (by decide)]
    have es8 : (s 8 10).toInt = (d : Int) := by rw [ks 8 10 rfl rfl]; exact e910
    have es6 : s 6 5 = w 6 5 := by rw [ks 6 5 rfl rfl]; exact e965
    have es28 : s 28 = s209 28 := funext (fun j => ks 28 j rfl rfl)
    refine ⟨kp_F (kp_sub ks rfl rfl) rfl, fun j hj => ?_, flv_4 hfl (by rw [e, hs, if_pos rfl]) cb, fun j hj => ?_, fun _ => ?_, fun _ h => absurd cb h⟩
    · rw [e, hs, if_neg hj]
      exact h25 j hj
    · rw [rdF_eq, setv_at es8 hd9]
      refine (if_neg hj).trans ?_
      rw [es28, e28]
      exact g28 j hj
    · rw [rdF_eq, setv_at es8 hd9]
      exact (if_pos rfl).trans es6
  rintro s249 ⟨k249, h25b, hflb, h28a, h28b, h28c⟩
  have kz : Kp [(8, 10)] [25, 26, 27, 28] s141 s249 := kp_tr (kp_sub k92 rfl rfl) (kp_sub k249 rfl rfl)
  have kz2 : Kp [(8, 10), (8, 14), (6, 5)] [25, 26, 27, 28] s141 (upC (upC s249 8 14 (s249 6 5)) 6 5 ((s249 6 5) + y84)) := kp_f (kp_f (kp_sub kz rfl rfl) rfl) rfl
  have c25 : (upC (upC s249 8 14 (s249 6 5)) 6 5 ((s249 6 5) + y84)) 25 = s249 25 := by rw [rdC_ne (by decide), rdC_ne (by decide)]
  have c26 : (upC (upC s249 8 14 (s249 6 5)) 6 5 ((s249 6 5) + y84)) 26 = s192 26 := by rw [rdC_ne (by decide), rdC_ne (by decide), show s249 26 = s209 26 from funext (fun j => k249 26 j rfl rfl), show s209 26 = s192 26 from funext (fun j => k209 26 j rfl rfl)]
  have c27 : (upC (upC s249 8 14 (s249 6 5)) 6 5 ((s249 6 5) + y84)) 27 = s192 27 := by rw [rdC_ne (by decide), rdC_ne (by decide), show s249 27 = s209 27 from funext (fun j => k249 27 j rfl rfl), show s209 27 = s192 27 from funext (fun j => k209 27 j rfl rfl)]
  have c28 : (upC (upC s249 8 14 (s249 6 5)) 6 5 ((s249 6 5) + y84)) 28 = s249 28 := by rw [rdC_ne (by decide), rdC_ne (by decide)]
  have c65 : ((upC (upC s249 8 14 (s249 6 5)) 6 5 ((s249 6 5) + y84)) 6 5).toInt = (w 6 5).toInt + CLw w := by
    have e : s249 6 5 = w 6 5 := by rw [kz 6 5 rfl rfl, k141 6 5 rfl rfl]
    rw [rdA_eq rfl, e]
    exact e84
  have c63 : ((upC (upC s249 8 14 (s249 6 5)) 6 5 ((s249 6 5) + y84)) 6 3).toInt = 0 := by rw [kz2 6 3 rfl rfl]; exact f141
  generalize upC (upC s249 8 14 (s249 6 5)) 6 5 ((s249 6 5) + y84) = sE at kz2 c25 c26 c27 c28 c65 c63
  refine k0 nb sE d hdn hd1 ⟨kp_tr (kp_sub k141 rfl rfl) (kp_sub kz2 rfl rfl), c63, nwf_k gnw (kp_sub kz2 rfl rfl), fun j hj => ⟨?_, ?_, ?_, ?_⟩, ?_, fun h => ?_, fun h1 h2 => ?_, flv_s hflb (by rw [c25]), c65, fun h => by rw [c28]; exact h28b h, fun h1 h2 => by rw [c28]; exact h28c h1 h2⟩
  · rw [c25]; exact h25b j hj
  · rw [c26]; exact (pj j hj).1
  · rw [c27]; exact (pj j hj).2
  · rw [c28]; exact h28a j hj
  · rw [c26]; exact p26
  · rw [c27]; exact p27 h
  · rw [c27]; exact p27b h1 h2
end XOU
