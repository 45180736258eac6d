/-! a local variable: both sides -/
/-- the reference behind a local's name -/
def LNf (σ s : St) (Lc : Nat) (v ty sz : Int32) (A : Prop) : Prop := Kp [(0, 12), (0, 13), (0, 49)] [31, 32, 33] σ s ∧ FTq σ s A ∧ (Lc < 100 → v.toInt = (Lc : Int) ∧ (s 0 49).toInt = (Lc : Int) + 1 ∧ (∀ j, s 31 j = if j = Lc then ty else σ 31 j) ∧ (∀ j, j ≠ Lc → s 32 j = σ 32 j) ∧ ((s 32 Lc).toInt < 0 ↔ sz.toInt < 0)) ∧ (Lc = 100 → v.toInt < 0 ∧ s 0 49 = σ 0 49 ∧ s 31 = σ 31 ∧ s 32 = σ 32)
/-- and where it holds -/
def LHf (σ s : St) (S Lc : Nat) (v tk ty sz : Int32) (A : Prop) : Prop := Kp [(0, 12), (0, 13), (0, 49), (0, 53), (0, 17), (0, 10)] [8, 31, 32, 33, 34, 35, 36] σ s ∧ s 0 10 = σ 0 10 ∧ FTq σ s A ∧ (Lc < 100 → v.toInt = (Lc : Int) ∧ (s 0 49).toInt = (Lc : Int) + 1 ∧ (s 0 53).toInt = (S : Int) + 1 ∧ (∀ j, s 31 j = if j = Lc then ty else σ 31 j) ∧ (∀ j, j ≠ Lc → s 32 j = σ 32 j) ∧ ((s 32 Lc).toInt < 0 ↔ sz.toInt < 0) ∧ (∀ j, s 34 j = if j = S then tk else σ 34 j) ∧ (∀ j, s 35 j = if j = S then v else σ 35 j) ∧ ∀ j, s 36 j = if j = S then σ 0 54 else σ 36 j) ∧ (Lc = 100 → DSw σ s ∧ A)
section VL2
variable {w s r s2 s95 s285 σ σ' τ t : St} {kd vl : Nat → Int} {n S m lo d p pb u Lc ty O : Nat} {vs z : List Nat} {a1 a2 a3 a4 a5 v tk tyv sz : Int32} {F0 : Prop} {A B : Prop} {g : List Gsq} {gb : List Gsq} {giv lk szi : Int} {x6 x7 x8 : Int}
theorem ln_k (h : LNf σ s Lc v tyv sz A) (k : Kp [(0, 12), (0, 13)] [] s s2) (f : FTq s s2 B) : LNf σ s2 Lc v tyv sz (A ∨ B) := by
  obtain ⟨h1, h2, h3, h4⟩ := h
  have e31 : s2 31 = s 31 := funext (fun j => k 31 j rfl rfl)
  have e32 : s2 32 = s 32 := funext (fun j => k 32 j rfl rfl)
  have e49 : s2 0 49 = s 0 49 := k 0 49 rfl rfl
  refine ⟨kp_tr h1 (kp_sub k rfl rfl), ft_tr h2 f (h1 0 15 rfl rfl), fun hl => ?_, fun hl => ?_⟩
  · rw [e31, e32, e49]; exact h3 hl
  · rw [e31, e32, e49]; exact h4 hl
theorem ds_ln (h : LNf σ s Lc v tyv sz A) (hl : Lc = 100) : DSw σ s := by
  obtain ⟨h1, _, _, h4⟩ := h
  obtain ⟨_, e49, e31, e32⟩ := h4 hl
  have k : Kp [(0, 12), (0, 13)] [33] σ s := fun c j hf hc => by
    by_cases c31 : c = 31
    · rw [c31]; exact congrFun e31 j
    by_cases c32 : c = 32
    · rw [c32]; exact congrFun e32 j
    by_cases c49 : c = 0 ∧ j = 49
    · rw [c49.1, c49.2]; exact e49
    · refine h1 c j ?_ ?_
      · simp only [List.contains_cons, List.contains_nil, Bool.or_false, Bool.or_eq_false_iff, beq_eq_false_iff_ne, ne_eq, Prod.mk.injEq, not_and] at hf ⊢
        omega
      · simp only [List.contains_cons, List.contains_nil, Bool.or_false, Bool.or_eq_false_iff, beq_eq_false_iff_ne, ne_eq] at hc ⊢
        omega
  exact ds_k k rfl rfl
theorem ro_parts (hR : RSo kd n S m lo d 0 w σ) (k : Ko [(4, 1), (6, 3), (6, 4), (7, 7), (6, 5), (5, 9), (8, 6), (8, 7), (8, 8), (8, 9), (8, 10), (8, 11), (8, 12), (8, 13), (8, 15), (8, 16)] [24, 43, 17, 31, 32, 33, 25, 39] w s) (hr : KEr σ σ') : SCq S d s σ' ∧ LCq S s σ' ∧ RTq s σ' := by
  obtain ⟨_, _, h3, h4, h6, h7⟩ := hR
  have e617 : s 6 17 = w 6 17 := k 6 17 (op_lt (by omega)) rfl rfl
  have e610 : s 6 10 = w 6 10 := k 6 10 (op_lt (by omega)) rfl rfl
  have e66 : s 6 6 = w 6 6 := k 6 6 (op_lt (by omega)) rfl rfl
  have e45 : s 45 = w 45 := ko_rd k 45 (by omega) rfl (fun _ => rfl)
  have e44 : s 44 = w 44 := ko_rd k 44 (by omega) rfl (fun _ => rfl)
  have e26 : s 26 = w 26 := ko_rd k 26 (by omega) rfl (fun _ => rfl)
  have e36 : σ' 36 = σ 36 := funext (fun j => hr 36 j rfl rfl)
  refine ⟨?_, ?_, ?_⟩
  · unfold SCq
    rw [e617, e45, e36, hr 0 54 rfl rfl]
    exact h3
  · unfold LCq
    rw [e610, hr 0 49 rfl rfl, e44]
    exact h4
  · unfold RTq
    rw [e66, e26, hr 0 55 rfl rfl, hr 0 56 rfl rfl]
    exact h6
/-- the class: wherever, a size that is none -/
theorem xl_outerAny {a : Int32} {Q : Int32 → Prop} (kk : ∀ v, Q v) : pk_X11_outerOf a w Q := by
  unfold pk_X11_outerOf
  exact ⟨fun _ => True, trivial, fun _ _ => ⟨fun _ => kk _, fun _ => xl_sameAny (fun _ => ⟨fun _ => trivial, fun _ => kk _⟩)⟩⟩
theorem xl_joinsAny {a b : Int32} {Q : Int32 → Prop} (kk : ∀ v, Q v) : pk_X1_joins a b w Q := by
  unfold pk_X1_joins
  refine xl_is (fun v _ _ => ⟨fun _ => True, fun _ _ _ => ⟨fun _ => True, fun _ _ _ => ⟨fun _ => True, fun _ _ _ => ⟨fun _ => kk _, fun _ => ⟨fun _ => kk _, fun _ => ⟨fun _ => kk _, fun _ => ⟨fun _ => kk _, fun _ => xl_is (fun v2 _ _ => ⟨fun _ => kk _, fun _ => kk _⟩)⟩⟩⟩⟩, True, fun _ => trivial, fun _ => trivial, fun _ => xl_is (fun v2 _ _ => ⟨fun _ => trivial, fun _ => trivial⟩)⟩, True, fun _ => trivial, fun _ => trivial, fun _ => ⟨fun _ => trivial, fun _ => ⟨fun _ => trivial, fun _ => trivial⟩⟩⟩, True, fun _ => trivial, fun _ => trivial, fun _ => ⟨fun _ => trivial, fun _ => ⟨fun _ => True, fun _ _ _ => ⟨fun _ => True, fun _ _ _ => ⟨fun _ => trivial, fun _ => trivial⟩, fun _ => trivial, fun _ => trivial⟩, fun _ => trivial, fun _ => trivial⟩⟩⟩)
theorem xl_checkOuterAny {a b c : Int32} {Q : St → Prop} (kk : ∀ s, Kp [(6, 3), (6, 4)] [] w s → Q s) : pk_X1_checkOuter a b c w Q := by
  unfold pk_X1_checkOuter
  exact ⟨fun s => Kp [(6, 3), (6, 4)] [] w s, fun s ks => ⟨fun _ => kk s ks, fun _ => ⟨fun _ => kk s ks, fun _ => xl_fail (by decide) (fun s2 k2 _ => kk s2 (kp_tr ks k2))⟩⟩, fun _ => kp_rf, fun _ => xl_fail (by decide) (fun s2 k2 _ => k2)⟩
theorem xo_bad {a b c : Int32} {Q : St → Prop} (hb : ∀ y, SQb w y) (k1 : ∀ s, (s 6 3).toInt ≠ 0 → Q s) : pk_X1_outer a b c w Q := by
  unfold pk_X1_outer
  refine xl_outerAny (fun v => ⟨fun _ => True, fun y _ _ => xl_checkOuterAny (fun s ks => ⟨fun _ => True, fun y2 _ _ => xc_square (fun s4 k4 h4 => ?_), True, fun _ => trivial, fun _ => trivial, fun _ => ⟨fun _ => trivial, fun _ => trivial⟩⟩), True, fun _ => trivial, fun _ => trivial, fun _ => xl_joinsAny (fun v2 => ⟨fun _ => trivial, fun _ => trivial⟩)⟩)
  have h63 : (s4 6 3).toInt ≠ 0 := h4.2 (Or.inr (by
    have := hb y2
    unfold SQb at this ⊢
    rw [ks 8 6 rfl rfl, ks 8 7 rfl rfl]
    exact this))
  exact ⟨fun _ => True, fun y3 _ => ⟨fun s => (s 6 3).toInt ≠ 0, fun s h => ⟨fun c => absurd c h, fun _ => k1 s h⟩, fun _ => h63, fun _ => xl_fail (by decide) (fun s2 _ h2 => h2)⟩, fun _ => ⟨fun _ => trivial, fun _ => trivial⟩, fun _ => trivial⟩
theorem xv_badAny {a b c : Int32} {Q : St → Prop} (h6 : 0 ≤ (w 8 6).toInt) (h7 : (w 8 7).toInt = 0) (k1 : ∀ s, (s 6 3).toInt ≠ 0 → Q s) : pk_X1_variable a b c w Q := by
  have sq : ∀ w2 y, Kp [(8, 9), (8, 11), (8, 12), (8, 13), (8, 15), (8, 16)] [] w w2 → SQb w2 y := fun w2 y k => by
    unfold SQb
    rw [k 8 6 rfl rfl, k 8 7 rfl rfl]
    exact ⟨h6, Or.inr (Or.inl ⟨by omega, by omega⟩)⟩
  have kq : ∀ s, (s 6 3).toInt ≠ 0 → Q (upC s 8 6 ((-1) : Int32)) := fun s h => k1 _ (by rw [rdC_ne (by decide)]; exact h)
  unfold pk_X1_variable
  exact ⟨fun _ => True, fun y _ _ => ⟨fun _ => True, fun x _ => ⟨fun _ => True, fun y2 _ _ => ⟨fun _ => True, fun y3 _ _ => ⟨fun _ => xo_bad (fun y => sq _ y (kp_f (kp_f (kp_f (kp_f (kp_f (kp_f kp_rf rfl) rfl) rfl) rfl) rfl) rfl)) kq, fun _ => xv_bad (sq _ _ (kp_f (kp_f (kp_f (kp_f (kp_f (kp_f kp_rf rfl) rfl) rfl) rfl) rfl) rfl)) kq⟩, fun _ => trivial, fun _ => trivial⟩, fun _ => trivial, fun _ => trivial⟩, fun _ => ⟨True, fun _ => trivial, fun _ => trivial, fun _ => ⟨fun _ => trivial, fun _ => trivial⟩⟩, fun _ => trivial⟩, fun _ => trivial, fun _ => trivial⟩
/-- the class's walk over a local variable, up to its initial -/
theorem vl_walk {rest : List Gsq} {Q : St → Prop} {B : Prop} (hlk : lk = 0 ∧ kd pb ≠ 30 ∨ lk = 4 ∧ kd pb = 30) (hu : u ≤ n) (ku : kd u = 2) (htk : tk.toInt = (u : Int)) (htv : tyv.toInt = (ty : Int)) (hty : ty ≤ 5) (hd : 1 ≤ d ∧ d ≤ 26) (l2 : S ≤ Lc ∧ Lc ≤ 100) (l49 : (s95 0 49).toInt = (Lc : Int))
    (hbk : (σ 0 12).toInt = 0 → ∀ w, REq kd n S m lo w σ → (w 6 3).toInt = 0 → (w 7 7).toInt = 0 → (w 8 6).toInt = -1 → GWq (bkl kd p gb giv szi) w (fun w1 => (w1 6 3).toInt = 0 ∧ BKg kd n S m lo x6 x7 x8 w w1 s95) False) (hke : KEr σ s95) (e12 : s95 0 12 = σ 0 12) (e15 : (s95 0 15).toInt = 0) (hsz : sz.toInt = KNq x6 x7)
    (hlh : LHf s95 s285 S Lc v tk tyv sz ((HHm s95 S d u ∨ Lc = 100) ∨ SQm x6 x7 x8 (kd pb = 30))) (hB : (s285 0 12).toInt ≠ 0 → B) (hq : ∀ s, (s 6 3).toInt ≠ 0 → B → Q s) (h0 : (σ 0 12).toInt = 0) (hR : RSo kd n S m lo d 0 w σ) (hf : (w 6 3).toInt = 0)
    (kk : ∀ r, (r 6 3).toInt = 0 → (s285 0 12).toInt = 0 → RSo kd n (S + 1) m lo d 0 r s285 → Lc < 100 → ¬ SQm x6 x7 x8 (kd pb = 30) → r 9 5 = w 9 5 → r 49 = w 49 → (r 8 11).toInt = (ty : Int) → (r 8 9).toInt ≠ 0 → (r 8 15).toInt = 0 → (r 8 16).toInt = 0 → (r 8 12).toInt = KNq x6 x7 → (r 8 13).toInt = 0 → GWq rest r Q B) : GWq (bkl kd p gb giv szi ++ ([gq (43, u, (ty : Int), lk)] ++ rest)) w Q B := by
  have f95 : (s95 0 12).toInt = 0 := by rw [e12]; exact h0
  refine gv_app (gv_mono (hbk h0 w hR.1 hf hR.2.1 hR.2.2.2.2.2) (fun w1 hw1 => ?_) False.elim)
  obtain ⟨f1, hg⟩ := hw1
  have bad : ∀ A2, A2 → (((HHm s95 S d u ∨ Lc = 100) ∨ SQm x6 x7 x8 (kd pb = 30)) ↔ A2) → B := fun A2 h e => hB (hlh.2.2.1.2.2 (Or.inr ⟨e.2 h, by omega⟩))
  rcases hg with ⟨b1, b2, b3, b4, b5, b6⟩ | ⟨b1, b2, b3⟩
  · obtain ⟨hC, hL, hT⟩ := ro_parts hR (ko_sub b3 rfl rfl) hke
    refine gv_app (gv_d (x := (43, u, (ty : Int), lk)) (by simp) (fun _ => da_var (fun a b c ea eb ec => xv_variable hT.1 (fun w2 y k2 g11 g12 g15 g16 g9 g13 hy => ?_))) (fun hx => absurd f1 hx))
    have hyl : y.toInt ≠ 0 ↔ kd pb = 30 := by
      rw [hy]
      rcases hlk with ⟨h, h2⟩ | ⟨h, h2⟩
      · have : c = 0 := ieq (by rw [ec, h]; rfl)
        rw [this]
        exact ⟨fun h => absurd rfl h, fun h => absurd h h2⟩
      · have : c = 4 := ieq (by rw [ec, h]; rfl)
        rw [this]
        exact ⟨fun _ => h2, fun _ => by decide⟩
    have c3 : ¬ (c &&& (3 : Int32)).toInt = 2 := by
      rcases hlk with ⟨h, h2⟩ | ⟨h, h2⟩
      · have : c = 0 := ieq (by rw [ec, h]; rfl)
        rw [this]; decide
      · have : c = 4 := ieq (by rw [ec, h]; rfl)
        rw [this]; decide
    have sq : SQb w2 y ↔ SQm x6 x7 x8 (kd pb = 30) := by
      rw [← b6 y _ hyl]
      unfold SQb
      rw [k2 8 6 rfl rfl, k2 8 7 rfl rfl]
    have eab : a = tk := ieq (by rw [ea, htk])
    have ebt : b = tyv := ieq (by rw [eb, htv])
    have hE2 : REq kd n S m lo w2 s95 := re_cd b1 (cd_ko (ko_kp k2) rfl rfl) dd_rf
    have hC2 : SCq S d w2 s95 := by
      unfold SCq at hC ⊢
      rw [k2 6 17 rfl rfl, show w2 45 = w1 45 from funext (fun j => k2 45 j rfl rfl)]
      exact hC
    obtain ⟨Lc', q1, q2, q3, q4, q5⟩ := hL
    have eL : Lc' = Lc := by omega
    rw [eL] at q1 q5
    have w210 : (w2 6 10).toInt = (Lc : Int) := by rw [k2 6 10 rfl rfl]; exact q1
    have f2 : (w2 6 3).toInt = 0 := by rw [k2 6 3 rfl rfl]; exact f1
    refine xv_local hE2 hC2 hd w210 l2 f2 ea hu ku (fun s h63 hb => ?_) (fun nb s ks h63 f810 f10 f15 f40 f41 f42 f44 => ?_)
    · have hBB : B := bad _ hb (by rw [sq, or_assoc])
      have e63 : ((upC s 8 6 ((-1) : Int32)) 6 3).toInt ≠ 0 := by rw [rdC_ne (by decide)]; exact h63
      exact gv_bad e63 hBB (fun s' h => hq s' h hBB)
    · rw [sq, ← or_assoc] at nb
      have hl : Lc < 100 := by
        have : ¬ Lc = 100 := fun h => nb (Or.inl (Or.inr h))
        omega
      obtain ⟨kr, e10, hft, hlt, _⟩ := hlh
      obtain ⟨hv, g49, g53, g31, g32, g32L, g34, g35, g36⟩ := hlt hl
      have n285 : (s285 0 12).toInt = 0 := Decidable.byContradiction (fun hx => (hft.2.1 hx).elim (fun h => h f95) (fun h => nb h.1))
      have k3 : Kp [(4, 1), (6, 3), (6, 4), (6, 10), (6, 15), (8, 10), (8, 6)] [24, 40, 41, 42, 43, 44] w2 (upC s 8 6 ((-1) : Int32)) := kp_f (kp_sub ks rfl rfl) rfl
      have a40 : ∀ j, (upC s 8 6 ((-1) : Int32)) 40 j = if j = Lc then tk else w2 40 j := fun j => by rw [rdC_ne (by decide), f40, eab]
      have a41 : ∀ j, (upC s 8 6 ((-1) : Int32)) 41 j = if j = Lc then tyv else w2 41 j := fun j => by rw [rdC_ne (by decide), f41, g11, ebt]
      have a42 : ∀ j, (upC s 8 6 ((-1) : Int32)) 42 j = if j = Lc then w2 8 12 else w2 42 j := fun j => by rw [rdC_ne (by decide), f42]
      have a44 : ∀ j, (upC s 8 6 ((-1) : Int32)) 44 j = if j = S then w2 6 10 else w2 44 j := fun j => by rw [rdC_ne (by decide), f44]
      have a10 : ((upC s 8 6 ((-1) : Int32)) 6 10).toInt = (Lc : Int) + 1 := by rw [rdC_ne (by decide)]; exact f10
      have a15 : ((upC s 8 6 ((-1) : Int32)) 6 15).toInt = (S : Int) + 1 := by rw [rdC_ne (by decide)]; exact f15
      have a63 : ((upC s 8 6 ((-1) : Int32)) 6 3).toInt = 0 := by rw [rdC_ne (by decide)]; exact h63
      have a86 : ((upC s 8 6 ((-1) : Int32)) 8 6).toInt = -1 := by rw [rdA_eq rfl]; rfl
      clear f40 f41 f42 f44 f10 f15 h63 ks
      generalize upC s 8 6 ((-1) : Int32) = s3 at k3 a40 a41 a42 a44 a10 a15 a63 a86
      have ko3 : Ko [(4, 1), (6, 3), (6, 4), (6, 10), (6, 15)] [24, 40, 41, 42, 43, 44, 8] w2 s3 := ko_sub (ko_kp k3) rfl rfl
      have e44 : w2 44 = w1 44 := funext (fun j => k2 44 j rfl rfl)
      have exz : (w2 8 12).toInt < 0 ↔ sz.toInt < 0 := by rw [g12, b4, hsz]
      have hE3 : REq kd n (S + 1) m lo s3 s285 := re_more (a := tk) (b := v) (ty := tyv) (ex := w2 8 12) (Lc := Lc) (u := u) hE2 ⟨l2.1, hl⟩ (fun j hj => by rw [e44]; exact q5 j hj) w210 (by omega) hu ku htk hv ko3 a15 a40 a41 a42 a44 kr g53 g31 g32 (g32L.trans exz.symm) g34 g35
      have hL2 : LCq S w2 s95 := ⟨Lc, w210, l49, l2.1, l2.2, fun j hj => by rw [e44]; exact q5 j hj⟩
      have hT2 : RTq w2 s95 := by
        unfold RTq at hT ⊢
        rw [k2 6 6 rfl rfl, show w2 26 = w1 26 from funext (fun j => k2 26 j rfl rfl)]
        exact hT
      have e77 : (s3 7 7).toInt = 0 := by rw [k3 7 7 rfl rfl, k2 7 7 rfl rfl]; exact b2
      have hRo : RSo kd n (S + 1) m lo d 0 s3 s285 := ro_more hE3 hC2 hL2 hT2 ⟨l2.1, hl⟩ w210 hd.1 ko3 e77 a86 a10 a44 kr g49 g36
      refine kk s3 a63 n285 hRo hl (fun h => nb (Or.inr h)) ?_ ?_ ?_ ?_ ?_ ?_ ?_ ?_
      · rw [k3 9 5 rfl rfl, k2 9 5 rfl rfl, b3 9 5 (op_lt (by decide)) rfl rfl]
      · rw [show s3 49 = w2 49 from funext (fun j => k3 49 j rfl rfl), show w2 49 = w1 49 from funext (fun j => k2 49 j rfl rfl), ko_rd b3 49 (by omega) rfl (fun _ => rfl)]
      · rw [k3 8 11 rfl rfl, g11, eb]
      · rw [k3 8 9 rfl rfl]; exact g9
      · rw [k3 8 15 rfl rfl]; exact g15
      · rw [k3 8 16 rfl rfl]; exact g16
      · rw [k3 8 12 rfl rfl, g12, b4]
      · rw [k3 8 13 rfl rfl]
        exact Decidable.byContradiction (fun h => c3 (g13.1 h))
  · have hBB : B := bad _ (b3 (kd pb = 30)) ⟨fun _ => b3 _, fun h => Or.inr h⟩
    exact gv_app (gv_d (x := (43, u, (ty : Int), lk)) (by simp) (fun _ => da_var (fun a b c _ _ _ => xv_badAny b1 b2 (fun s h => gv_bad h hBB (fun s' h' => hq s' h' hBB)))) (fun _ => hBB))
end VL2
