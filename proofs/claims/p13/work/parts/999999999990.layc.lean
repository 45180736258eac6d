/-! link(), the class: where all stands -/
/-- where the data of what is picked as x-th begin -/
def bsI (w : St) : Nat → Int32
  | 0 => 16
  | n + 1 => bsI w n + atv 101 (w 37) (kxI w (nI n))
def RGd (w : St) : Prop := (∀ x x' d : Int32, 0 ≤ x.toInt → x.toInt < (w 10 5).toInt → 0 ≤ x'.toInt → x'.toInt < (w 10 5).toInt → RGi w x d → RGi w x' d → x = x') ∧ (∀ x x' : Int32, 0 ≤ x.toInt → x.toInt < (w 10 5).toInt → 0 ≤ x'.toInt → x'.toInt < (w 10 5).toInt → (kxI w x).toInt = (kxI w x').toInt → x = x') ∧ ∀ x : Int32, 0 ≤ x.toInt → x.toInt < (w 10 5).toInt → 0 ≤ (kxI w x).toInt ∧ (kxI w x).toInt < 101
/-- all declarations of what is picked below the n-th -/
def ADx (w : St) (n : Int) (b : Nat → Int32) : Prop := ∀ x : Int32, 0 ≤ x.toInt → x.toInt < n → ∀ d, RGi w x d → (FLb (atv 10100 (w 25) d) 1 → atv 10100 b d = atv 10100 (w 28) d) ∧ (¬ FLb (atv 10100 (w 25) d) 1 → atv 10100 b d = bsI w x.toInt.toNat + atv 10100 (w 28) d)
def BAx (w : St) (n : Int) (t : St) : Prop := (∀ x : Int32, 0 ≤ x.toInt → x.toInt < n → atv 101 (t 57) x = kxI w x) ∧ ∀ x : Int32, 0 ≤ x.toInt → x.toInt < n → atv 101 (t 58) (kxI w x) = bsI w x.toInt.toNat
def LYc (w t : St) : Prop := t 10 7 = w 10 5 ∧ BAx w (w 10 5).toInt t ∧ ∃ b, ADx w (w 10 5).toInt b ∧ ADd w t b ∧ ∀ x : Int32, 1 ≤ x.toInt → x.toInt < (w 10 5).toInt → ∀ d, RGi w x d → ¬ FLb (atv 10100 (w 25) d) 4 → ADn w t b d
section LYS
variable {w σ s z t u ρ : St} {m i j k o d : Nat} {n : Int} {x y v a a1 a2 a3 a4 a5 : Int32} {C : Int32 → Prop} {b : Nat → Int32}
theorem bs_up (h : 0 ≤ x.toInt) : bsI σ (x.toInt.toNat + 1) = bsI σ x.toInt.toNat + atv 101 (σ 37) (kxI σ x) := by
  have e : nI x.toInt.toNat = x := ieq (by rw [nI_toInt (by have := (s_rng x).2; omega)]; omega)
  show bsI σ x.toInt.toNat + atv 101 (σ 37) (kxI σ (nI x.toInt.toNat)) = _
  rw [e]
theorem sk_settlex {Q : St → Prop} (hb : NEb σ) (rn : RNo σ) (rd : RGd σ) (hp : 1 ≤ (σ 10 5).toInt ∧ (σ 10 5).toInt ≤ 101) (k : ∀ t, KxS σ t → LYc σ t → Q t) : wk_X4_settle σ Q := by
  obtain ⟨rd1, rd2, rd3⟩ := rd
  unfold wk_X4_settle
  generalize hu : upC σ 10 7 (σ 10 5) = u0
  have k0 : KxS σ u0 := by rw [← hu]; exact kp_f kp_rf rfl
  have e0 : u0 10 7 = σ 10 5 := by rw [← hu]; rfl
  clear hu
  let P : Int32 → St → Prop := fun x s => KxS σ s ∧ s 10 7 = σ 10 5 ∧ 0 ≤ x.toInt ∧ BAx σ x.toInt s ∧ ADx σ x.toInt (s 59)
  refine ⟨fun m w x s => m = ((σ 10 5).toInt - x.toInt).toNat ∧ w = bsI σ x.toInt.toNat ∧ P x s, ⟨_, rfl, rfl, k0, e0, by decide, ⟨fun x' p1 p2 => absurd p2 (by rw [i0]; omega), fun x' p1 p2 => absurd p2 (by rw [i0]; omega)⟩, fun x' p1 p2 => absurd p2 (by rw [i0]; omega)⟩, ?_⟩
  rintro m w x s ⟨hm, hw, ks, e7, h0, ⟨h57, h58⟩, h59⟩
  obtain ⟨r56, r34, r25, r29, r30, r28, r37⟩ := kx_rows ks
  refine ⟨fun c => ?_, fun c => ?_⟩
  · -- the second loop
    rw [e7] at c
    let R : Int32 → St → Prop := fun y t => 1 ≤ y.toInt ∧ Kp [] [59] s t ∧ ADd σ t (s 59) ∧ ∀ x', 1 ≤ x'.toInt → x'.toInt < y.toInt → ∀ d, RGi σ x' d → ¬ FLb (atv 10100 (σ 25) d) 4 → ADn σ t (s 59) d
    refine ⟨fun q y t => q = ((σ 10 5).toInt - y.toInt).toNat ∧ R y t, ⟨_, rfl, by decide, kp_rf, fun _ _ => rfl, fun x' p1 p2 => absurd p2 (by rw [i1]; omega)⟩, ?_⟩
    rintro q y t ⟨hq, h1, kt, hd, hn⟩
    have t7 : t 10 7 = σ 10 5 := by rw [kt 10 7 rfl rfl, e7]
    have ktx : KxS σ t := kp_tr ks (kp_sub kt rfl rfl)
    have t57 : t 57 = s 57 := funext (fun j => kt 57 j rfl rfl)
    have t58 : t 58 = s 58 := funext (fun j => kt 58 j rfl rfl)
    rw [t7]
    refine ⟨fun c1 => k t ktx ⟨t7, ⟨fun x' p1 p2 => by rw [t57]; exact h57 x' p1 (by omega), fun x' p1 p2 => by rw [t58]; exact h58 x' p1 (by omega)⟩, s 59, fun x' p1 p2 => h59 x' p1 (by omega), hd, fun x' p1 p2 => hn x' p1 (by omega)⟩, fun c1 => ?_⟩
    have up := up_lt c1
    have ey : atv 101 (t 57) y = kxI σ y := by
      rw [t57]
      exact h57 y (by omega) (by omega)
    rw [ey]
    refine sp_refer hb (rn y (by omega) c1) ktx t7 hd (fun t2 k2 hd2 hr ho => ⟨_, by rw [up]; omega, rfl, by rw [up]; omega, kp_tr kt k2, hd2, fun x' p1 p2 d p3 p4 => ?_⟩)
    rw [up] at p2
    by_cases ce : x'.toInt = y.toInt
    · have ex : x' = y := Int32.toInt_inj.mp ce
      rw [ex] at p3
      exact hr d p3 p4
    · exact ho d p4 (hn x' p1 (by omega) d p3 p4)
  · -- a unit
    rw [e7] at c
    have up := up_lt c
    have un : (x.toInt + 1).toNat = x.toInt.toNat + 1 := by omega
    obtain ⟨g0, g1⟩ := rn x h0 c
    obtain ⟨kx0, kx1⟩ := rd3 x h0 c
    rw [r56]
    generalize hv : upF (upF s 57 (setv 101 (s 57) x (atv 101 (σ 56) x))) 58 _ = u
    have ku : Kp [] [57, 58] s u := by rw [← hv]; exact kp_F (kp_F kp_rf rfl) rfl
    have u57 : u 57 = setv 101 (s 57) x (atv 101 (σ 56) x) := by rw [← hv, rdF_ne (by decide), rdF_eq]
    have u58 : u 58 = setv 101 (s 58) (kxI σ x) w := by rw [← hv, rdF_eq, rdF_ne (by decide)]; rfl
    clear hv
    refine sp_firstS (x := x) (by rw [show u 34 = s 34 from funext (fun j => ku 34 j rfl rfl), r34]) (fun v0 hv0 => ?_)
    let R : Int32 → St → Prop := fun y t => Kp [] [59] u t ∧ LOi σ x ≤ y.toInt ∧ ADx σ x.toInt (t 59) ∧ ∀ d, RGi σ x d → d.toInt < y.toInt → (FLb (atv 10100 (σ 25) d) 1 → atv 10100 (t 59) d = atv 10100 (σ 28) d) ∧ (¬ FLb (atv 10100 (σ 25) d) 1 → atv 10100 (t 59) d = bsI σ x.toInt.toNat + atv 10100 (σ 28) d)
    refine ⟨fun q y t => q = (HIi σ x - y.toInt).toNat ∧ R y t, ⟨_, rfl, kp_rf, by omega, fun x' p1 p2 d p3 => by rw [show u 59 = s 59 from funext (fun j => ku 59 j rfl rfl)]; exact h59 x' p1 p2 d p3, fun d p1 p2 => absurd p1.1 (by omega)⟩, ?_⟩
    rintro q y t ⟨hq, kt, hl, ho, hy⟩
    have kut : Kp [] [57, 58, 59] s t := kp_tr (kp_sub ku rfl rfl) (kp_sub kt rfl rfl)
    have ktx : KxS σ t := kp_tr ks (kp_sub kut rfl rfl)
    obtain ⟨w56, w34, w25, w29, w30, w28, w37⟩ := kx_rows ktx
    have t57 : t 57 = u 57 := funext (fun j => kt 57 j rfl rfl)
    have t58 : t 58 = u 58 := funext (fun j => kt 58 j rfl rfl)
    have at58 : atv 101 (t 58) (kxI σ x) = bsI σ x.toInt.toNat := by rw [t58, u58, atv_set ⟨kx0, kx1⟩, hw]
    rw [w34]
    refine ⟨fun c1 => ?_, fun c1 => ?_⟩
    · have c2 : HIi σ x ≤ y.toInt := c1
      refine ⟨_, by rw [up]; omega, rfl, ?_, ktx, by rw [kut 10 7 rfl rfl]; exact e7, by rw [up]; omega, ⟨fun x' p1 p2 => ?_, fun x' p1 p2 => ?_⟩, fun x' p1 p2 d p3 => ?_⟩
      · rw [up, un, bs_up h0, hw, r37]
        rfl
      · rw [t57, u57]
        rw [up] at p2
        by_cases ce : x'.toInt = x.toInt
        · have ex : x' = x := Int32.toInt_inj.mp ce
          rw [ex, atv_set ⟨h0, by omega⟩]
          rfl
        · rw [atv_nst ce]
          exact h57 x' p1 (by omega)
      · rw [up] at p2
        by_cases ce : x'.toInt = x.toInt
        · have ex : x' = x := Int32.toInt_inj.mp ce
          rw [ex]
          exact at58
        · rw [t58, u58, atv_nst (fun e => ce (congrArg Int32.toInt (rd2 x' x p1 (by omega) h0 c e)))]
          exact h58 x' p1 (by omega)
      · rw [up] at p2
        by_cases ce : x'.toInt = x.toInt
        · have ex : x' = x := Int32.toInt_inj.mp ce
          rw [ex] at p3 ⊢
          exact hy d p3 (by have := p3.2; omega)
        · exact ho x' p1 (by omega) d p3
    · have c2 : y.toInt < HIi σ x := c1
      have upy := up_lt c1
      have ry : RGi σ x y := ⟨hl, c2⟩
      refine is_all (fun v95 n95 y95 _ => ?_)
      rw [w25] at n95 y95
      refine ⟨fun y0 => (FLb (atv 10100 (σ 25) y) 1 → y0 = 0) ∧ (¬ FLb (atv 10100 (σ 25) y) 1 → y0 = bsI σ x.toInt.toNat), fun y0 hy0 => ⟨_, by rw [upy]; omega, rfl, kp_F kt rfl, by rw [upy]; omega, fun x' p1 p2 d p3 => ?_, fun d p1 p2 => ?_⟩, fun c3 => ⟨fun f => absurd f (n95 c3), fun _ => at58⟩, fun c3 => ⟨fun _ => rfl, fun f => absurd (y95 c3) f⟩⟩
      · rw [rdF_eq]
        by_cases ce : d.toInt = y.toInt
        · have ex : d = y := Int32.toInt_inj.mp ce
          rw [ex] at p3
          have := congrArg Int32.toInt (rd1 x' x y p1 (by omega) h0 c p3 ry)
          omega
        · rw [atv_nst ce]
          exact ho x' p1 p2 d p3
      · rw [upy] at p2
        rw [rdF_eq]
        by_cases ce : d.toInt = y.toInt
        · have ex : d = y := Int32.toInt_inj.mp ce
          rw [ex, atv_set ⟨by omega, by omega⟩, w28]
          refine ⟨fun f => ?_, fun f => ?_⟩
          · rw [hy0.1 f, Int32.zero_add]
          · rw [hy0.2 f]
        · rw [atv_nst ce]
          exact hy d p1 (by omega)
/-- picked objects are different ones, and their declarations -/
theorem rgd_iv (h : IVx w o) : RGd w := by
  have pk := h.2.2.2.2.2.2.2.2.2.2.1
  have o2 := h.1.2
  have de := h.2.1
  have dl := de_le de
  have dm := fun i hi => de_mono (i := i) de hi
  have K := fun x h0 h1 => rg_k h (x := x) h0 h1
  have kz : ∀ x : Int32, 0 ≤ x.toInt → x.toInt < (w 10 5).toInt → kxI w x = w 56 x.toInt.toNat := fun x h0 h1 => atv_at (by omega) (by have := pk.1; omega)
  have inj : ∀ x x' : Int32, 0 ≤ x.toInt → x.toInt < (w 10 5).toInt → 0 ≤ x'.toInt → x'.toInt < (w 10 5).toInt → (kxI w x).toInt = (kxI w x').toInt → x = x' := fun x x' p0 p1 q0 q1 e => by
    rw [kz x p0 p1, kz x' q0 q1] at e
    refine ieq ?_
    have z0 := pk.2.1
    have pos : ∀ x : Int32, 0 ≤ x.toInt → x.toInt < (w 10 5).toInt → x.toInt ≠ 0 → 1 ≤ (w 56 x.toInt.toNat).toInt := fun x a b c => (pk.2.2.1 x.toInt.toNat (by omega) (by omega)).1
    by_cases c : x.toInt = 0
    · by_cases c' : x'.toInt = 0
      · omega
      · have := pos x' q0 q1 c'
        rw [c, show (0 : Int).toNat = 0 from rfl, z0] at e
        omega
    · by_cases c' : x'.toInt = 0
      · have := pos x p0 p1 c
        rw [c', show (0 : Int).toNat = 0 from rfl, z0] at e
        omega
      · rcases (by omega : x.toInt < x'.toInt ∨ x.toInt = x'.toInt ∨ x'.toInt < x.toInt) with l | l | l
        · exact absurd e (pk.2.2.2 x.toInt.toNat x'.toInt.toNat (by omega) (by omega) (by omega))
        · exact l
        · exact absurd e.symm (pk.2.2.2 x'.toInt.toNat x.toInt.toNat (by omega) (by omega) (by omega))
  refine ⟨fun x x' d p0 p1 q0 q1 r r' => ?_, inj, fun x p0 p1 => ?_⟩
  · refine inj x x' p0 p1 q0 q1 ?_
    obtain ⟨A, a1, a2, a3, a4⟩ := K x p0 p1
    obtain ⟨B, b1, b2, b3, b4⟩ := K x' q0 q1
    have ra := r.1
    have rb := r.2
    have ra' := r'.1
    have rb' := r'.2
    have z4 := de.1
    have ax : ∀ (A : Nat) (x : Int32), A ≤ o → (A = 0 → LOi w x = 0 ∧ HIi w x = 4) → (1 ≤ A → LOi w x = ((w 34) (A - 1)).toInt ∧ HIi w x = ((w 34) A).toInt ∧ 1 ≤ x.toInt) → LOi w x = (if A = 0 then 0 else ((w 34) (A - 1)).toInt) ∧ HIi w x = ((w 34) A).toInt := fun A x hA f g => by
      by_cases c : A = 0
      · rw [if_pos c]
        obtain ⟨f1, f2⟩ := f c
        rw [c]
        exact ⟨f1, by rw [f2, z4]⟩
      · rw [if_neg c]
        obtain ⟨g1, g2, _⟩ := g (by omega)
        exact ⟨g1, g2⟩
    obtain ⟨u1, u2⟩ := ax A x a2 a3 a4
    obtain ⟨v1, v2⟩ := ax B x' b2 b3 b4
    rw [a1, b1]
    rcases (by omega : A < B ∨ A = B ∨ B < A) with l | l | l
    · rw [if_neg (by omega)] at v1
      have := dm (B - 1) (by omega) A (by omega)
      omega
    · rw [l]
    · rw [if_neg (by omega)] at u1
      have := dm (A - 1) (by omega) B (by omega)
      omega
  · obtain ⟨A, a1, a2, _⟩ := K x p0 p1
    omega
end LYS
