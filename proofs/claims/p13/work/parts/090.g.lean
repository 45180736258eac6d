section
/-! link(): settle() -/
section STL2
variable {σ s z t ρ : St} {m i j k o d : Nat} {n : Int} {x y v a a1 a2 a3 a4 a5 : Int32} {C : Int32 → Prop} {b : Nat → Int32}
def RNo (σ : St) : Prop := ∀ x : Int32, 0 ≤ x.toInt → x.toInt < (σ 10 5).toInt → 0 ≤ LOi σ x ∧ HIi σ x ≤ 10100
/-- a picked unit's functions have what they are declared with -/
def ADv (σ : St) (b : Nat → Int32) : Prop := ∀ x : Int32, 0 ≤ x.toInt → x.toInt < (σ 10 5).toInt → ∀ d, RGi σ x d → FLb (atv 10100 (σ 25) d) 1 → atv 10100 b d = atv 10100 (σ 28) d
theorem sk_settle {Q : St → Prop} (hb : NEb σ) (rn : RNo σ) (hp : 1 ≤ (σ 10 5).toInt ∧ (σ 10 5).toInt ≤ 101) (k : ∀ t b, KxS σ t → ADv σ b → ADd σ t b → (∀ x, 1 ≤ x.toInt → x.toInt < (σ 10 5).toInt → ∀ d, RGi σ x d → ¬ FLb (atv 10100 (σ 25) d) 4 → ADn σ t b d) → Q t) : wk_X4_settle σ Q := by
  unfold wk_X4_settle
  generalize hu : upC σ 10 7 (σ 10 5) = u0
  have k0 : KxS σ u0 := by rw [← hu]; exact kp_f kp_rf rfl
  have e0 : u0 10 7 = σ 10 5 := by rw [← hu]; rfl
  clear hu
  let P : Int32 → St → Prop := fun x s => KxS σ s ∧ s 10 7 = σ 10 5 ∧ 0 ≤ x.toInt ∧ (∀ x', 0 ≤ x'.toInt → x'.toInt < x.toInt → atv 101 (s 57) x' = kxI σ x') ∧ ∀ x', 0 ≤ x'.toInt → x'.toInt < x.toInt → ∀ d, RGi σ x' d → FLb (atv 10100 (σ 25) d) 1 → atv 10100 (s 59) d = atv 10100 (σ 28) d
  refine ⟨fun m _ x s => m = ((σ 10 5).toInt - x.toInt).toNat ∧ P x s, ⟨_, rfl, k0, e0, by decide, fun x' p1 p2 => absurd p2 (by rw [i0]; omega), fun x' p1 p2 => absurd p2 (by rw [i0]; omega)⟩, ?_⟩
  rintro m w x s ⟨hm, ks, e7, h0, h57, h59⟩
  obtain ⟨r56, r34, r25, r29, r30, r28, r37⟩ := kx_rows ks
  refine ⟨fun c => ?_, fun c => ?_⟩
  · -- the second loop
    rw [e7] at c
    let R : Int32 → St → Prop := fun y t => 1 ≤ y.toInt ∧ Kp [] [59] s t ∧ ADd σ t (s 59) ∧ ∀ x', 1 ≤ x'.toInt → x'.toInt < y.toInt → ∀ d, RGi σ x' d → ¬ FLb (atv 10100 (σ 25) d) 4 → ADn σ t (s 59) d
    refine ⟨fun q y t => q = ((σ 10 5).toInt - y.toInt).toNat ∧ R y t, ⟨_, rfl, by decide, kp_rf, fun _ _ => rfl, fun x' p1 p2 => absurd p2 (by rw [i1]; omega)⟩, ?_⟩
    rintro q y t ⟨hq, h1, kt, hd, hn⟩
    have t7 : t 10 7 = σ 10 5 := by rw [kt 10 7 rfl rfl, e7]
    have ktx : KxS σ t := kp_tr ks (kp_sub kt rfl rfl)
    rw [t7]
    refine ⟨fun c1 => k t (s 59) ktx (fun x' p1 p2 => h59 x' p1 (by omega)) hd (fun x' p1 p2 => hn x' p1 (by omega)), fun c1 => ?_⟩
    have up := up_lt c1
    have ey : atv 101 (t 57) y = kxI σ y := by
      rw [show t 57 = s 57 from funext (fun j => kt 57 j rfl rfl)]
      exact h57 y (by omega) (by omega)
    rw [ey]
    refine sp_refer hb (rn y (by omega) c1) ktx t7 hd (fun t2 k2 hd2 hr ho => ⟨_, by rw [up]; omega, rfl, by rw [up]; omega, kp_tr kt k2, hd2, fun x' p1 p2 d p3 p4 => ?_⟩)
    rw [up] at p2
    by_cases ce : x'.toInt = y.toInt
    · have ex : x' = y := Int32.toInt_inj.mp ce
      rw [ex] at p3
      exact hr d p3 p4
    · exact ho d p4 (hn x' p1 (by omega) d p3 p4)
  · -- a unit
    rw [e7] at c
    have up := up_lt c
    obtain ⟨g0, g1⟩ := rn x h0 c
    rw [r56]
    generalize hv : upF (upF s 57 (setv 101 (s 57) x (atv 101 (σ 56) x))) 58 _ = u
    have ku : Kp [] [57, 58] s u := by rw [← hv]; exact kp_F (kp_F kp_rf rfl) rfl
    have u57 : u 57 = setv 101 (s 57) x (atv 101 (σ 56) x) := by rw [← hv, rdF_ne (by decide), rdF_eq]
    clear hv
    refine sp_firstS (x := x) (by rw [show u 34 = s 34 from funext (fun j => ku 34 j rfl rfl), r34]) (fun v0 hv0 => ?_)
    let R : Int32 → St → Prop := fun y t => Kp [] [59] u t ∧ LOi σ x ≤ y.toInt ∧ (∀ x', 0 ≤ x'.toInt → x'.toInt < x.toInt → ∀ d, RGi σ x' d → FLb (atv 10100 (σ 25) d) 1 → atv 10100 (t 59) d = atv 10100 (σ 28) d) ∧ ∀ d, RGi σ x d → d.toInt < y.toInt → FLb (atv 10100 (σ 25) d) 1 → atv 10100 (t 59) d = atv 10100 (σ 28) d
    refine ⟨fun q y t => q = (HIi σ x - y.toInt).toNat ∧ R y t, ⟨_, rfl, kp_rf, by omega, fun x' p1 p2 d p3 p4 => by rw [show u 59 = s 59 from funext (fun j => ku 59 j rfl rfl)]; exact h59 x' p1 p2 d p3 p4, fun d p1 p2 => absurd p1.1 (by omega)⟩, ?_⟩
    rintro q y t ⟨hq, kt, hl, ho, hy⟩
    have kut : Kp [] [57, 58, 59] s t := kp_tr (kp_sub ku rfl rfl) (kp_sub kt rfl rfl)
    have ktx : KxS σ t := kp_tr ks (kp_sub kut rfl rfl)
    obtain ⟨w56, w34, w25, w29, w30, w28, w37⟩ := kx_rows ktx
    rw [w34]
    refine ⟨fun c1 => ?_, fun c1 => ?_⟩
    · have c2 : HIi σ x ≤ y.toInt := c1
      refine ⟨_, by rw [up]; omega, rfl, ktx, by rw [kut 10 7 rfl rfl]; exact e7, by rw [up]; omega, fun x' p1 p2 => ?_, fun x' p1 p2 d p3 p4 => ?_⟩
      · rw [show t 57 = u 57 from funext (fun j => kt 57 j rfl rfl), u57]
        rw [up] at p2
        by_cases ce : x'.toInt = x.toInt
        · have ex : x' = x := Int32.toInt_inj.mp ce
          rw [ex, atv_set ⟨h0, by omega⟩]
          rfl
        · rw [atv_nst ce]
          exact h57 x' p1 (by omega)
      · rw [up] at p2
        by_cases ce : x'.toInt = x.toInt
        · have ex : x' = x := Int32.toInt_inj.mp ce
          rw [ex] at p3
          exact hy d p3 (by have := p3.2; omega) p4
        · exact ho x' p1 (by omega) d p3 p4
    · have c2 : y.toInt < HIi σ x := c1
      have upy := up_lt c1
      refine is_all (fun v95 n95 y95 _ => ?_)
      rw [w25] at n95 y95
      refine ⟨fun y0 => FLb (atv 10100 (σ 25) y) 1 → y0 = 0, fun y0 hy0 => ⟨_, by rw [upy]; omega, rfl, kp_F kt rfl, by rw [upy]; omega, fun x' p1 p2 d p3 p4 => ?_, fun d p1 p2 p4 => ?_⟩, fun c3 f => absurd f (n95 c3), fun _ _ => rfl⟩
      · rw [rdF_eq]
        by_cases ce : d.toInt = y.toInt
        · have ex : d = y := Int32.toInt_inj.mp ce
          rw [ex] at p4 ⊢
          rw [atv_set ⟨by omega, by omega⟩, hy0 p4, w28, Int32.zero_add]
        · rw [atv_nst ce]
          exact ho x' p1 p2 d p3 p4
      · rw [upy] at p2
        rw [rdF_eq]
        by_cases ce : d.toInt = y.toInt
        · have ex : d = y := Int32.toInt_inj.mp ce
          rw [ex] at p4 ⊢
          rw [atv_set ⟨by omega, by omega⟩, hy0 p4, w28, Int32.zero_add]
        · rw [atv_nst ce]
          exact hy d p1 (by omega) p4
end STL2
end

section
/-! link(): what is linked can be run -/
section LNK
variable {σ s z t ρ : St} {m i j k o d K : Nat} {n : Int} {x y v a a1 a2 a3 a4 a5 : Int32} {C : Int32 → Prop} {b : Nat → Int32}
theorem iv_10 (h : IVx σ o) (r : ∀ c, c ≠ 10 → c ≠ 56 → c ≠ 57 → c ≠ 58 → c ≠ 59 → s c = σ c) (rd : RDy s) (pk : PKx s o) : IVx s o := by
  obtain ⟨h1, h2, h3, h4, h5, h6, ⟨g1, g2, g3, g4⟩, h8, h9, ha, hb, hc, hi⟩ := h
  have R : ∀ c, c < 56 → c ≠ 10 → s c = σ c := fun c c1 c2 => r c c2 (by omega) (by omega) (by omega) (by omega)
  have r4 := R 4 (by decide) (by decide)
  have r5 := R 5 (by decide) (by decide)
  have r34 := R 34 (by decide) (by decide)
  have r25 := R 25 (by decide) (by decide)
  have r27 := R 27 (by decide) (by decide)
  have r28 := R 28 (by decide) (by decide)
  have ecl : clen s = clen σ := by unfold clen; rw [r4]
  refine ⟨by rw [r5]; exact h1, by unfold DEx; rw [r34]; exact h2, by rw [r5, r34]; exact h3, by rw [r4, R 36 (by decide) (by decide)]; exact h4, by unfold FDx; rw [R 0 (by decide) (by decide), r4, r5]; exact h5, by unfold NME; rw [r5, R 29 (by decide) (by decide)]; exact h6, ⟨by unfold PLA; rw [R 15 (by decide) (by decide)]; exact g1, by unfold NMr; rw [R 13 (by decide) (by decide), R 14 (by decide) (by decide), R 15 (by decide) (by decide)]; exact g2, by rw [R 1 (by decide) (by decide)]; exact g3, by rw [r25, r27]; exact g4⟩, by unfold LBr; rw [R 29 (by decide) (by decide), r25, r28, r27]; exact h8, fun k k1 k2 => ?_, rd, pk, by rw [R 12 (by decide) (by decide)]; exact hc, by rw [R 11 (by decide) (by decide)]; exact hi⟩
  unfold FNo CPo
  rw [r34, r25, r27, r28, R 24 (by decide) (by decide), ecl]
  exact h9 k k1 k2
theorem rg_k (h : IVx σ o) (h0 : 0 ≤ x.toInt) (h1 : x.toInt < (σ 10 5).toInt) : ∃ K : Nat, (kxI σ x).toInt = K ∧ K ≤ o ∧ (K = 0 → LOi σ x = 0 ∧ HIi σ x = 4) ∧ (1 ≤ K → LOi σ x = ((σ 34) (K - 1)).toInt ∧ HIi σ x = ((σ 34) K).toInt ∧ 1 ≤ x.toInt) := by
  obtain ⟨⟨o1, o2⟩, de, -, -, -, -, -, -, -, -, ⟨⟨p1, p2⟩, p3, p4, -⟩, -, -⟩ := h
  obtain ⟨X, hX⟩ : ∃ X : Nat, x.toInt = X := ⟨x.toInt.toNat, by omega⟩
  have ek : kxI σ x = σ 56 X := atv_at hX (by omega)
  have kr : 0 ≤ (σ 56 X).toInt ∧ (σ 56 X).toInt ≤ o := by
    by_cases c : X = 0
    · rw [c, p3]; omega
    · have := p4 X (by omega) (by omega)
      omega
  refine ⟨(kxI σ x).toInt.toNat, by rw [ek]; omega, by rw [ek]; omega, fun c => ?_, fun c => ⟨?_, ?_, ?_⟩⟩
  · have z : (kxI σ x).toInt = 0 := by rw [ek] at c ⊢; omega
    unfold LOi HIi
    rw [z, if_neg (by omega), atv_at (j := 0) z (by decide)]
    exact ⟨rfl, de.1⟩
  · have z : 0 < (kxI σ x).toInt := by omega
    have e1 : ((kxI σ x) - (1 : Int32)).toInt = (((kxI σ x).toInt.toNat - 1 : Nat) : Int) := by
      rw [sb (by rw [i1]; omega) (by rw [i1, ek]; omega), i1]
      omega
    unfold LOi
    rw [if_pos z, atv_at e1 (by rw [ek]; omega)]
  · unfold HIi
    rw [atv_at (j := (kxI σ x).toInt.toNat) (by omega) (by rw [ek]; omega)]
  · by_cases c0 : X = 0
    · rw [ek, c0, p3] at c
      exact absurd c (by decide)
    · omega
theorem rn_iv (h : IVx σ o) : RNo σ := fun x h0 h1 => by
  obtain ⟨K, k1, k2, k3, k4⟩ := rg_k h h0 h1
  have d := de_le h.2.1
  have o2 := h.1.2
  by_cases c : K = 0
  · obtain ⟨q1, q2⟩ := k3 c
    omega
  · obtain ⟨q1, q2, q3⟩ := k4 (by omega)
    have d1 := d K k2
    have d2 := d (K - 1) (by omega)
    omega
/-- a picked unit's function that is defined -/
def Fsi (σ : St) (hd n : Nat) : Prop := ∃ x d : Int32, (0 ≤ x.toInt ∧ x.toInt < (σ 10 5).toInt) ∧ 1 ≤ (kxI σ x).toInt ∧ RGi σ x d ∧ FLb (atv 10100 (σ 25) d) 1 ∧ FLb (atv 10100 (σ 25) d) 4 ∧ (atv 10100 (σ 28) d).toInt = hd ∧ spar (atv 10100 (σ 27) d) = n
/-- what a defined function's address is -/
theorem ad_def (h : IVx σ o) (h0 : 0 ≤ x.toInt) (h1 : x.toInt < (σ 10 5).toInt) (hr : RGi σ x v) (f1 : FLb (atv 10100 (σ 25) v) 1) (f4 : FLb (atv 10100 (σ 25) v) 4) (hm : spar (atv 10100 (σ 27) v) = m) : ((atv 10100 (σ 28) v).toInt = -1 ∧ m = 0) ∨ ((atv 10100 (σ 28) v).toInt < -1 ∧ -4 ≤ (atv 10100 (σ 28) v).toInt ∧ m = 1) ∨ ∃ hd : Nat, (atv 10100 (σ 28) v).toInt = hd ∧ Fsi σ hd m := by
  obtain ⟨K, k1, k2, k3, k4⟩ := rg_k h h0 h1
  obtain ⟨g0, g1⟩ := rn_iv h x h0 h1
  obtain ⟨V, hV⟩ : ∃ V : Nat, v.toInt = V := ⟨v.toInt.toNat, by have := hr.1; omega⟩
  have lt : V < 10100 := by have := hr.2; omega
  by_cases c : K = 0
  · obtain ⟨q1, q2⟩ := k3 c
    have lt4 : V < 4 := by have := hr.2; omega
    obtain ⟨w1, w2, w3, w4⟩ := h.2.2.2.2.2.2.2.1.2 V lt4
    rw [atv_at hV lt] at hm ⊢
    by_cases c0 : V = 0
    · rw [if_pos c0] at w4
      exact Or.inl ⟨by omega, by omega⟩
    · rw [if_neg c0] at w4
      exact Or.inr (Or.inl ⟨by omega, by omega, by omega⟩)
  · obtain ⟨q1, q2, q3⟩ := k4 (by omega)
    have fn := h.2.2.2.2.2.2.2.2.1 K (by omega) k2
    have f1' := f1
    have f4' := f4
    rw [atv_at hV lt] at f1' f4'
    obtain ⟨hd, L, g, w1, w2⟩ := fn V (by have := hr.1; omega) (by have := hr.2; omega) f1' f4'
    have ev : (atv 10100 (σ 28) v).toInt = hd := by rw [atv_at hV lt]; exact w1
    exact Or.inr (Or.inr ⟨hd, ev, x, v, ⟨h0, h1⟩, by omega, hr, f1, f4, ev, hm⟩)
theorem rd_link {w : St} (h : IVx σ o) (l32 : LKd σ 32) (l33 : LKd σ 33) (kt : KxS σ t) (av : ADv σ b) (ad' : ADd σ t b) (an : ∀ x, 1 ≤ x.toInt → x.toInt < (σ 10 5).toInt → ∀ d, RGi σ x d → ¬ FLb (atv 10100 (σ 25) d) 4 → ADn σ t b d) (hf : FSTi σ (σ 10 5).toInt (CDi σ (σ 55) 4 0 4) v) (m0 : 0 ≤ v.toInt) (m1 : FLb (atv 10100 (σ 25) v) 1) (m2 : (atv 10100 (σ 27) v).toInt = 0) (hw : ∀ c, c ≠ 10 → w c = t c) (wm : (w 10 11).toInt = (atv 10100 (t 59) v).toInt) : RDy w := fun _ => by
  have w24 : w 24 = σ 24 := (hw 24 (by decide)).trans (funext (fun j => kt 24 j rfl rfl))
  have w4 : w 4 = σ 4 := (hw 4 (by decide)).trans (funext (fun j => kt 4 j rfl rfl))
  have ecl : clen w = clen σ := by unfold clen; rw [w4]
  have w59 := hw 59 (by decide)
  refine ⟨Fsi σ, ?_⟩
  have lk : LKe w (Fsi σ) (clen w) := fun hd n hfs => by
    obtain ⟨x, d, ⟨h0, h1⟩, hk, hr, f1, f4, hv, hn⟩ := hfs
    obtain ⟨K, k1, k2, k3, k4⟩ := rg_k h h0 h1
    obtain ⟨q1, q2, q3⟩ := k4 (by omega)
    obtain ⟨g0, g1⟩ := rn_iv h x h0 h1
    obtain ⟨V, hV⟩ : ∃ V : Nat, d.toInt = V := ⟨d.toInt.toNat, by have := hr.1; omega⟩
    have lt : V < 10100 := by have := hr.2; omega
    rw [atv_at hV lt] at f1 f4 hv hn
    obtain ⟨hd', L, g, p1, p2⟩ := h.2.2.2.2.2.2.2.2.1 K (by omega) k2 V (by have := hr.1; omega) (by have := hr.2; omega) f1 f4
    have eh : hd' = hd := by omega
    subst eh
    rw [hn] at p2
    refine ⟨L, g, fune_mono (fun j _ => by rw [w24]) (fun a m ha => ?_) (by rw [ecl]; exact Nat.le_refl _) p2⟩
    obtain ⟨⟨c1, c2, c3, c4⟩, e1, e2, e3, e4⟩ := ha
    obtain ⟨A, hA⟩ : ∃ A : Int32, A.toInt = (a.toNat : Nat) := ⟨nI a.toNat, nI_toInt (by omega)⟩
    have rA : RGi σ x A := ⟨by omega, by omega⟩
    have at25 : atv 10100 (σ 25) A = σ 25 a.toNat := atv_at hA (by omega)
    have at27 : atv 10100 (σ 27) A = σ 27 a.toNat := atv_at hA (by omega)
    have at59 : atv 10100 (t 59) A = w 59 a.toNat := by rw [w59]; exact atv_at hA (by omega)
    refine ⟨⟨c3, c4⟩, ?_⟩
    rw [← at59]
    by_cases c : FLb (σ 25 a.toNat) 4
    · rw [ad' A (by rw [at25]; exact c), av x h0 h1 A rA (by rw [at25]; exact e1)]
      exact ad_def h h0 h1 rA (by rw [at25]; exact e1) (by rw [at25]; exact c) (by rw [at27]; exact e3)
    · have ns : ¬ FLb (atv 10100 (σ 25) A) 2 := by rw [at25]; exact fun q => c (e4 q)
      have nd : ¬ FLb (atv 10100 (σ 25) A) 4 := by rw [at25]; exact c
      obtain ⟨v1, d1, z1⟩ := (l32 x q3 h1 A rA ns).1 rfl nd (by rw [at25]; exact e2)
      obtain ⟨v2, d2, z2⟩ := (l33 x q3 h1 A rA ns).2 rfl nd
      have ev := fst_one d2 d1
      subst ev
      obtain ⟨y1, y2⟩ := z2 (by rw [at25]; exact e1) z1
      rw [an x q3 h1 A rA nd v2 d1]
      rcases d1 with ⟨r1, -⟩ | ⟨x', ⟨r1, r2⟩, r3, r4, -, -⟩
      · rw [r1] at z1
        exact absurd z1 (by decide)
      · rw [av x' r1 r2 v2 r3 y1]
        exact ad_def h r1 r2 r3 y1 r4.1 (by rw [← y2, at27]; exact e3)
  rcases hf with ⟨r1, -⟩ | ⟨x, ⟨r1, r2⟩, r3, r4, -, -⟩
  · rw [r1] at m0
    exact absurd m0 (by decide)
  obtain ⟨g0, g1⟩ := rn_iv h x r1 r2
  have sp0 : spar (atv 10100 (σ 27) v) = 0 := by
    rw [show atv 10100 (σ 27) v = 0 from Int32.toInt_inj.mp m2]
    decide
  have adv : atv 10100 (t 59) v = atv 10100 (σ 28) v := by rw [ad' v r4.1, av x r1 r2 v r3 m1]
  rcases ad_def h r1 r2 r3 m1 r4.1 sp0 with ⟨e1, -⟩ | ⟨-, -, e3⟩ | ⟨hd, e1, e2⟩
  · exfalso
    obtain ⟨K, k1, k2, k3, k4⟩ := rg_k h r1 r2
    obtain ⟨V, hV⟩ : ∃ V : Nat, v.toInt = V := ⟨v.toInt.toNat, by omega⟩
    have lt : V < 10100 := by have := r3.2; omega
    by_cases c : K = 0
    · obtain ⟨q1, q2⟩ := k3 c
      have lt4 : V < 4 := by have := r3.2; omega
      obtain ⟨w0, w1⟩ := h.2.2.2.2.2.2.2.1
      obtain ⟨w2, w3, w4', w5⟩ := w1 V lt4
      rw [atv_at hV lt] at sp0 e1
      by_cases c0 : V = 0
      · have nq := r4.2.2.1
        rw [c0] at hV
        rw [atv_at (j := 0) hV (by decide), atv_out (Or.inl (by rw [sb (by rw [i1]; omega) (by rw [i1]; omega), i1]; omega)), show (σ 29 0) - (0 : Int32) = σ 29 0 from Int32.sub_zero _, w0] at nq
        exact absurd nq (by decide)
      · rw [if_neg c0] at w5
        omega
    · obtain ⟨q1, q2, q3⟩ := k4 (by omega)
      have f1 := m1
      have f4 := r4.1
      rw [atv_at hV lt] at f1 f4 e1
      obtain ⟨hd, L, g, p1, p2⟩ := h.2.2.2.2.2.2.2.2.1 K (by omega) k2 V (by have := r3.1; omega) (by have := r3.2; omega) f1 f4
      omega
  · exact absurd e3 (by decide)
  · exact ⟨hd, lk, by rw [wm, adv]; exact e1, e2⟩
end LNK
end

section
/-! link(), whole -/
section JN
variable {σ s z t ρ : St} {m i j k o d K : Nat} {n : Int} {x y v a a1 a2 a3 a4 a5 : Int32} {C : Int32 → Prop} {b : Nat → Int32}
theorem fst_same {B : Nat → Int32} {cap : Nat} (h56 : s 56 = σ 56) (h34 : s 34 = σ 34) (h25 : s 25 = σ 25) (h29 : s 29 = σ 29) (h30 : s 30 = σ 30) : FSTi s n (CDi s B cap a1 a2) v ↔ FSTi σ n (CDi σ B cap a1 a2) v := by
  unfold FSTi CDi NMq RGi LOi HIi kxI
  rw [h56, h34, h25, h29, h30]
abbrev KfS (a b : St) : Prop := Kp [(10, 3), (10, 4)] [] a b
theorem kf_rows (k : KfS σ s) : ∀ c, c ≠ 10 → s c = σ c := fun c hc => funext (fun j => k c j (by
  simp only [List.contains_cons, List.contains_nil, Bool.or_false, Bool.or_eq_false_iff, beq_eq_false_iff_ne, ne_eq, Prod.mk.injEq, not_and]
  omega) rfl)
theorem lkd_same (k : KfS σ s) : LKd s a ↔ LKd σ a := by
  have r := kf_rows k
  unfold LKd GDi AGi DFi FSTi CDi NMq RGi LOi HIi kxI
  rw [r 56 (by decide), r 34 (by decide), r 25 (by decide), r 29 (by decide), r 30 (by decide), r 27 (by decide), show s 10 5 = σ 10 5 from k 10 5 rfl rfl]
theorem iv_kf (h : IVx σ o) (k : KfS σ s) : IVx s o := by
  have r := kf_rows k
  refine iv_10 h (fun c c1 _ _ _ _ => r c c1) (fun hr => ?_) ?_
  · rw [show s 10 2 = σ 10 2 from k 10 2 rfl rfl] at hr
    obtain ⟨Fs, hd, q1, q2, q3⟩ := h.2.2.2.2.2.2.2.2.2.1 hr
    refine ⟨Fs, hd, fun hd' n hf => ?_, by rw [show s 10 11 = σ 10 11 from k 10 11 rfl rfl]; exact q2, q3⟩
    obtain ⟨L, g, f⟩ := q1 hd' n hf
    exact ⟨L, g, fune_mono (fun j _ => by rw [r 24 (by decide)]) (cpi_mono (r 59 (by decide))) (by unfold clen; rw [r 4 (by decide)]; exact Nat.le_refl _) f⟩
  · have p := h.2.2.2.2.2.2.2.2.2.2.1
    unfold PKx at p ⊢
    rw [r 56 (by decide), show s 10 5 = σ 10 5 from k 10 5 rfl rfl]
    exact p
/-- what is picked is forgotten -/
theorem iv_p1 (h : IVx σ o) : IVx (upC σ 10 5 (1 : Int32)) o := by
  have r : ∀ c, c ≠ 10 → (upC σ 10 5 (1 : Int32)) c = σ c := fun c hc => rdC_ne hc
  refine iv_10 h (fun c c1 _ _ _ _ => r c c1) (fun hr => ?_) ?_
  · obtain ⟨Fs, hd, q1, q2, q3⟩ := h.2.2.2.2.2.2.2.2.2.1 hr
    refine ⟨Fs, hd, fun hd' n hf => ?_, q2, q3⟩
    obtain ⟨L, g, f⟩ := q1 hd' n hf
    exact ⟨L, g, fune_mono (fun j _ => by rw [r 24 (by decide)]) (cpi_mono (r 59 (by decide))) (by unfold clen; rw [r 4 (by decide)]; exact Nat.le_refl _) f⟩
  · have p := h.2.2.2.2.2.2.2.2.2.2.1
    have e : (upC σ 10 5 (1 : Int32)) 10 5 = 1 := rfl
    unfold PKx at p ⊢
    rw [r 56 (by decide), e]
    exact ⟨⟨by decide, by rw [i1]; omega⟩, p.2.1, fun j j1 j2 => by rw [i1] at j2; omega, fun i j i1' i2 i3 => by rw [i1] at i3; omega⟩
theorem sp_dataCells {Q : Int32 → Prop} (k : ∀ v, Q v) : wk_X4_dataCells σ Q := by
  unfold wk_X4_dataCells
  refine ⟨fun m _ x => m = ((σ 10 5).toInt - x.toInt).toNat, ⟨_, rfl⟩, ?_⟩
  rintro m w x hm
  refine ⟨fun _ => k _, fun c => ?_⟩
  have up := up_lt c
  have c' : x.toInt < (σ 10 5).toInt := c
  exact ⟨_, by rw [up]; omega, rfl⟩
theorem sp_isMain {Q : Int32 → Prop} (k0 : Q 0) (k1 : 0 ≤ v.toInt → FLb (atv 10100 (σ 25) v) 1 → (atv 10100 (σ 27) v).toInt = 0 → Q 1) : wk_X4_isMain v σ Q := by
  unfold wk_X4_isMain
  exact ⟨fun _ => k0, fun c => is_all (fun v10 n10 y10 _ => ⟨fun _ => k0, fun c1 => ⟨fun _ => k0, fun _ => ⟨fun _ => k0, fun c3 => k1 c (y10 c1) c3⟩⟩⟩)⟩
theorem sk_link {Q : Int32 → St → Prop} (h : IVx σ o) (k : ∀ v t, IVx t o → Q v t) : wk_X12_link σ Q := by
  unfold wk_X12_link wk_X4_join
  generalize hu : upC (upC σ 10 3 ((-1) : Int32)) 10 4 ((-1) : Int32) = u0
  have k0 : KfS σ u0 := by rw [← hu]; exact kp_f (kp_f kp_rf rfl) rfl
  clear hu
  have r0 := kf_rows k0
  refine sp_find55 (by unfold NEb; rw [r0 29 (by decide)]; exact h.2.2.2.2.2.1.2) (by decide) (by decide) (fun v25 hf0 => ?_)
  rw [fst_same (r0 56 (by decide)) (r0 34 (by decide)) (r0 25 (by decide)) (r0 29 (by decide)) (r0 30 (by decide)), r0 55 (by decide)] at hf0
  refine ⟨fun m x2 x3 s => m = (34 - x3.toInt).toNat ∧ (31 ≤ x3.toInt ∧ x3.toInt ≤ 34) ∧ KfS σ s ∧ (x2.toInt ≠ 0 ∨ ∀ a : Int32, 31 ≤ a.toInt → a.toInt < x3.toInt → LKd σ a), ⟨_, rfl, by decide, k0, Or.inr (fun a p1 p2 => absurd p2 (by rw [show ((31 : Int32)).toInt = 31 from rfl]; omega))⟩, ?_⟩
  rintro m x2 x3 s ⟨hm, hx, ks, hv⟩
  have ivs := iv_kf h ks
  have rs := kf_rows ks
  let G1 : Prop := LKd σ 32 ∧ LKd σ 33
  let G2 : Prop := 0 ≤ v25.toInt ∧ FLb (atv 10100 (s 25) v25) 1 ∧ (atv 10100 (s 27) v25).toInt = 0
  refine ⟨x2.toInt ≠ 0 ∨ G1, fun hj => ?_, fun c => ?_, fun c => ⟨fun c2 => Or.inl c2, fun c2 => ?_⟩⟩
  · refine ⟨fun y => y.toInt ≠ 0 ∨ (G1 ∧ G2), fun y hy => ?_, fun c2 => Or.inl c2, fun c2 => sp_isMain ⟨fun z => absurd rfl z, fun _ => Or.inl (by decide)⟩ (fun m0 m1 m2 => ⟨fun _ => Or.inr ⟨hj.resolve_left (fun z => z c2), m0, m1, m2⟩, fun z => absurd z (by decide)⟩)⟩
    refine ⟨fun y8 => y8.toInt ≠ 0 ∨ (G1 ∧ G2), fun y8 hy8 => ⟨fun _ => k _ _ (iv_p1 ivs), fun c8 => ?_⟩, fun c7 => Or.inl c7, fun c7 => sp_dataCells (fun v76 => ⟨fun _ => hy, fun _ => Or.inl (by decide)⟩)⟩
    obtain ⟨⟨l2, l3⟩, m0, m1, m2⟩ := hy8.resolve_left (fun z => z c8)
    have pk := ivs.2.2.2.2.2.2.2.2.2.2.1
    have o2 := ivs.1.2
    have pk2 := pk.1.2
    refine sk_settle ivs.2.2.2.2.2.1.2 (rn_iv ivs) ⟨pk.1.1, by omega⟩ (fun t b kt av ad' an => ?_)
    have e5 : s 10 5 = σ 10 5 := ks 10 5 rfl rfl
    have hf : FSTi s (s 10 5).toInt (CDi s (s 55) 4 0 4) v25 := by
      rw [fst_same (rs 56 (by decide)) (rs 34 (by decide)) (rs 25 (by decide)) (rs 29 (by decide)) (rs 30 (by decide)), rs 55 (by decide), e5]
      exact hf0
    generalize hw : upC (upC (upC t 10 11 (atv 10100 (t 59) v25)) 10 2 (1 : Int32)) 10 5 (1 : Int32) = w
    have rw' : ∀ c, c ≠ 10 → w c = t c := fun c hc => by rw [← hw, rdC_ne hc, rdC_ne hc, rdC_ne hc]
    have w11 : w 10 11 = atv 10100 (t 59) v25 := by rw [← hw]; rfl
    have w5 : w 10 5 = 1 := by rw [← hw]; rfl
    clear hw
    refine k _ w (iv_10 ivs (fun c c1 c56 c2 c3 c4 => ?_) (rd_link ivs ((lkd_same ks).mpr l2) ((lkd_same ks).mpr l3) kt av ad' an hf m0 m1 m2 rw' (by rw [w11])) ?_)
    · rw [rw' c c1]
      exact funext (fun j => kt c j (by
        simp only [List.contains_cons, List.contains_nil, Bool.or_false, beq_eq_false_iff_ne, ne_eq, Prod.mk.injEq, not_and]
        omega) (by
        simp only [List.contains_cons, List.contains_nil, Bool.or_false, Bool.or_eq_false_iff, beq_eq_false_iff_ne, ne_eq]
        omega))
    · unfold PKx at pk ⊢
      rw [w5, rw' 56 (by decide), show t 56 = s 56 from funext (fun j => kt 56 j rfl rfl)]
      exact ⟨⟨by decide, by rw [i1]; omega⟩, pk.2.1, fun j j1 j2 => by rw [i1] at j2; omega, fun i j i1' i2 i3 => by rw [i1] at i3; omega⟩
  · rcases hv with q | q
    · exact Or.inl q
    · exact Or.inr ⟨q 32 (by decide) (by rw [show ((32 : Int32)).toInt = 32 from rfl]; omega), q 33 (by decide) (by rw [show ((33 : Int32)).toInt = 33 from rfl]; omega)⟩
  · have up : (x3 + 1).toInt = x3.toInt + 1 := ad1 (by omega)
    have q := hv.resolve_left (fun z => z c2)
    refine sk_look ivs.2.2.2.2.2.1.2 (fun l => ⟨_, by rw [up]; omega, rfl, by rw [up]; omega, ks, Or.inr (fun a p1 p2 => ?_)⟩) (fun u ku => ⟨_, by rw [up]; omega, rfl, by rw [up]; omega, kp_tr ks ku, Or.inl (by omega)⟩)
    rw [up] at p2
    by_cases ce : a.toInt = x3.toInt
    · rw [show a = x3 from Int32.toInt_inj.mp ce]
      exact (lkd_same ks).mp l
    · exact q a p1 (by omega)
end JN
end

section
/-! the other methods -/
section EZ
variable {σ s z t ρ : St} {m i j k o d K : Nat} {n : Int} {x y v a a1 a2 a3 a4 a5 : Int32} {C : Int32 → Prop} {b : Nat → Int32}
theorem dc8 {x : Int32} (h : -2147483600 < x.toInt) : (x + (-8)).toInt = x.toInt - 8 := by
  have r := s_rng x
  have e8 : ((-8 : Int32)).toInt = -8 := by decide
  rw [ad (by rw [e8]; omega) (by rw [e8]; omega), e8]
  omega
theorem tk_m {x : Int32} {n : Nat} (hn : n = (x.toInt + 8).toNat) (h : 0 ≤ x.toInt) : ((x + (-8)).toInt + 8).toNat < n := by
  rw [dc8 (by omega), hn]
  omega
theorem tk_h {x : Int32} {H h0 : Int} (h : 8 * (H - h0) ≤ 24 - x.toInt) (hx : 0 ≤ x.toInt) : 8 * (H + 1 - h0) ≤ 24 - (x + (-8)).toInt := by
  rw [dc8 (by omega)]
  omega
theorem tk_r {x : Int32} (h : -8 ≤ x.toInt ∧ x.toInt ≤ 24) (hx : 0 ≤ x.toInt) : -8 ≤ (x + (-8)).toInt ∧ (x + (-8)).toInt ≤ 24 := by
  rw [dc8 (by omega)]
  omega
theorem sp_takeBytes {Q : St → Prop} (hh : 0 ≤ (σ 0 1).toInt ∧ (σ 0 1).toInt ≤ 16000) (hb : ByteOK (σ 1)) (k : ∀ s, Kp [(0, 1)] [1] σ s → ByteOK (s 1) → (σ 0 1).toInt ≤ (s 0 1).toInt → (s 0 1).toInt ≤ (σ 0 1).toInt + 4 → (s 0 1).toInt ≤ 16000 → Q s) : wk_X12_takeBytes x σ Q := by
  unfold wk_X12_takeBytes
  refine ⟨fun m y s => m = (y.toInt + 8).toNat ∧ (-8 ≤ y.toInt ∧ y.toInt ≤ 24) ∧ 8 * ((s 0 1).toInt - (σ 0 1).toInt) ≤ 24 - y.toInt ∧ ((σ 0 1).toInt ≤ (s 0 1).toInt ∧ (s 0 1).toInt ≤ 16000) ∧ Kp [(0, 1)] [1] σ s ∧ ByteOK (s 1), ⟨_, rfl, by decide, by rw [show ((24 : Int32)).toInt = 24 from rfl]; omega, ⟨Int.le_refl _, hh.2⟩, kp_rf, hb⟩, ?_⟩
  rintro m y s ⟨hm, hy, h8, hl, ks, hbs⟩
  refine ⟨fun c => k s ks hbs hl.1 (by omega) hl.2, fun c => ⟨fun c1 => k s ks hbs hl.1 (by omega) hl.2, fun c1 => ⟨⟨by omega, c1⟩, _, tk_m hm c, rfl, tk_r hy c, ?_, ?_, kp_f (kp_a ks rfl) rfl, ?_⟩⟩⟩
  · rw [rdA_eq rfl, ad0 i1 (by omega) (by omega)]
    exact tk_h h8 c
  · rw [rdA_eq rfl, ad0 i1 (by omega) (by omega)]
    omega
  · rw [rdC_ne (by decide)]
    exact byte_up hbs
theorem sk_feed {Q : Int32 → St → Prop} (h : IVx σ o) (k : ∀ v t, IVx t o → Q v t) : wk_X12_feed a1 a2 a3 a4 a5 σ Q := by
  have h' := h
  obtain ⟨h1, h2, h3, h4, ⟨f1, f2, f3⟩, h6, ⟨g1, g2, g3, g4⟩, h8, h9, ha, hb, hc, hi⟩ := h'
  have e20 : ((20 : Int32)).toInt = 20 := rfl
  unfold wk_X12_feed
  refine ⟨fun _ => k _ _ h, fun c1 => ⟨fun c2 => ?_, fun _ => k _ _ h⟩⟩
  rw [ad0 e20 (by omega) (by omega)] at c1 c2
  refine sp_takeBytes ⟨by omega, by omega⟩ g3 (fun s1 k1 b1 l1 m1 n1 => ?_)
  refine sp_takeBytes ⟨by omega, by omega⟩ b1 (fun s2 k2 b2 l2 m2 n2 => ?_)
  refine sp_takeBytes ⟨by omega, by omega⟩ b2 (fun s3 k3 b3 l3 m3 n3 => ?_)
  refine sp_takeBytes ⟨by omega, by omega⟩ b3 (fun s4 k4 b4 l4 m4 n4 => ?_)
  refine sp_takeBytes ⟨by omega, by omega⟩ b4 (fun s5 k5 b5 l5 m5 n5 => ?_)
  have kk : Kp [(0, 1)] [1] σ s5 := kp_tr (kp_tr (kp_tr (kp_tr k1 k2) k3) k4) k5
  have e02 : s5 0 2 = σ 0 2 := kk 0 2 rfl rfl
  have e57 : s5 5 7 = σ 5 7 := kk 5 7 rfl rfl
  have e41 : s5 4 1 = σ 4 1 := kk 4 1 rfl rfl
  generalize hu : upC s5 0 2 ((s5 0 2) + (20 : Int32)) = u
  have ku : Kp [(0, 1), (0, 2)] [1] σ u := by rw [← hu]; exact kp_f (kp_sub kk rfl rfl) rfl
  have u1 : u 1 = s5 1 := by rw [← hu]; rfl
  have u01 : u 0 1 = s5 0 1 := by rw [← hu]; rfl
  have u02 : (u 0 2).toInt = (σ 0 2).toInt + 20 := by
    rw [← hu, rdA_eq rfl, e02]
    exact ad0 e20 (by omega) (by omega)
  have u41 : u 4 1 = σ 4 1 := ku 4 1 rfl rfl
  have u57 : u 5 7 = σ 5 7 := ku 5 7 rfl rfl
  clear hu
  have kc : ∀ c j, c ≠ 0 → c ≠ 1 → u c j = σ c j := fun c j c0 c1 => ku c j (by
    simp only [List.contains_cons, List.contains_nil, Bool.or_false, Bool.or_eq_false_iff, beq_eq_false_iff_ne, ne_eq, Prod.mk.injEq, not_and]
    omega) (by
    simp only [List.contains_cons, List.contains_nil, Bool.or_false, Bool.or_eq_false_iff, beq_eq_false_iff_ne, ne_eq]
    omega)
  have ivt : IVx (upF u 1 (σ 1)) o := iv_kp h (fun c j hc0 => by
    by_cases c1 : c = 1
    · rw [c1, rdF_eq]
    · rw [rdF_ne c1]
      exact kc c j (by omega) c1) (by
    unfold FDx
    rw [rdF_ne (by decide), rdF_ne (by decide), rdF_ne (by decide), u01, u02, u41, u57]
    omega) (fun j => by rw [rdF_ne (by decide), kc 15 j (by decide) (by decide)]; exact g1 j) (fun j hj => by
    rw [rdF_ne (by decide), kc 13 j (by decide) (by decide)] at hj
    rw [rdF_ne (by decide), rdF_ne (by decide), kc 14 j (by decide) (by decide), kc 15 j (by decide) (by decide)]
    exact g2 j hj)
  obtain ⟨q1, q2, q3, q4, q5, q6, ⟨p1, p2, p3, p4⟩, q8, q9, qa, qb, qc, qi⟩ := ivt
  exact k _ u ⟨q1, q2, q3, q4, q5, q6, ⟨p1, p2, by rw [u1]; exact b5, p4⟩, q8, q9, qa, qb, qc, qi⟩
theorem iv_few (h : IVx σ o) (K : ∀ c j, c ≠ 0 → c ≠ 60 → c ≠ 61 → c ≠ 62 → c ≠ 63 → c ≠ 64 → c ≠ 11 → (c = 12 → j = 18) → s c j = σ c j) (fd : FDx s) (hi : 0 ≤ (s 11 0).toInt) : IVx s o := by
  have hi' := h.2.2.2.2.2.2.2.2.2.2.2.2
  have q : IVx (upF s 11 (σ 11)) o := iv_kp h (fun c j hc => by
    by_cases c11 : c = 11
    · rw [c11, rdF_eq]
    · rw [rdF_ne c11]
      exact K c j (by omega) (by omega) (by omega) (by omega) (by omega) (by omega) c11 (by omega)) (by
    unfold FDx
    rw [rdF_ne (by decide), rdF_ne (by decide), rdF_ne (by decide)]
    exact fd) (fun j => by rw [rdF_ne (by decide), K 15 j (by decide) (by decide) (by decide) (by decide) (by decide) (by decide) (by decide) (fun z => absurd z (by decide))]; exact h.2.2.2.2.2.2.1.1 j) (fun j hj => by
    rw [rdF_ne (by decide), K 13 j (by decide) (by decide) (by decide) (by decide) (by decide) (by decide) (by decide) (fun z => absurd z (by decide))] at hj
    rw [rdF_ne (by decide), rdF_ne (by decide), K 14 j (by decide) (by decide) (by decide) (by decide) (by decide) (by decide) (by decide) (fun z => absurd z (by decide)), K 15 j (by decide) (by decide) (by decide) (by decide) (by decide) (by decide) (by decide) (fun z => absurd z (by decide))]
    exact h.2.2.2.2.2.2.1.2.1 j hj)
  obtain ⟨q1, q2, q3, q4, q5, q6, q7, q8, q9, qa, qb, qc, qi⟩ := q
  exact ⟨q1, q2, q3, q4, q5, q6, q7, q8, q9, qa, qb, qc, hi⟩
theorem sk_end {Q : Int32 → St → Prop} (h : IVx σ o) (k : ∀ v t, IVx t o → Q v t) : wk_X12_end a1 σ Q := by
  have f := h.2.2.2.2.1
  have hi := h.2.2.2.2.2.2.2.2.2.2.2.2
  unfold wk_X12_end
  refine ⟨fun _ => k _ _ h, fun c => ⟨fun c1 => k _ _ (iv_few h (fun c j c0 _ _ _ _ _ _ _ => by rw [rdC_ne c0]) ?_ hi), fun _ => k _ _ h⟩⟩
  have e1 : (upC σ 0 1 a1) 0 1 = a1 := rfl
  have e2 : (upC σ 0 1 a1) 0 2 = σ 0 2 := rfl
  have e3 : (upC σ 0 1 a1) 4 1 = σ 4 1 := rfl
  have e4 : (upC σ 0 1 a1) 5 7 = σ 5 7 := rfl
  unfold FDx at f ⊢
  rw [e1, e2, e3, e4]
  omega
theorem iv_held0 (h : IVx σ o) : IVx (upC σ 0 1 (0 : Int32)) o := by
  have f := h.2.2.2.2.1
  have hi := h.2.2.2.2.2.2.2.2.2.2.2.2
  refine iv_few h (fun c j c0 _ _ _ _ _ _ _ => by rw [rdC_ne c0]) ?_ hi
  have e1 : ((upC σ 0 1 (0 : Int32)) 0 1).toInt = 0 := rfl
  have e2 : (upC σ 0 1 (0 : Int32)) 0 2 = σ 0 2 := rfl
  have e3 : (upC σ 0 1 (0 : Int32)) 4 1 = σ 4 1 := rfl
  have e4 : (upC σ 0 1 (0 : Int32)) 5 7 = σ 5 7 := rfl
  unfold FDx at f ⊢
  rw [e1, e2, e3, e4]
  omega
theorem sk_input {Q : Int32 → St → Prop} (h : IVx σ o) (k : ∀ v t, IVx t o → Q v t) : wk_X12_input a1 σ Q := by
  have f := h.2.2.2.2.1
  have hi := h.2.2.2.2.2.2.2.2.2.2.2.2
  unfold wk_X12_input wk_X9_give
  refine ⟨fun _ => k _ _ h, fun c => ⟨fun c1 => ⟨⟨hi, c⟩, k _ _ (iv_few h (fun c j c0 c60 _ _ _ _ c11 _ => by rw [rdC_ne c11, rdC_ne c60]) ?_ ?_)⟩, fun _ => k _ _ h⟩⟩
  · unfold FDx
    rw [rdC_ne (by decide), rdC_ne (by decide), rdC_ne (by decide), rdC_ne (by decide), rdC_ne (by decide), rdC_ne (by decide)]
    exact f
  · rw [rdA_eq rfl, ad0 i1 (by omega) (by omega)]
    omega
theorem sp_hasI {Q : Int32 → Prop} (k0 : Q 0) (k1 : 1 ≤ a1.toInt → a1.toInt ≤ (σ 5 13).toInt → Q 1) : wk_X8_has a1 σ Q := by
  unfold wk_X8_has
  exact ⟨fun _ => k0, fun c => ⟨fun _ => k0, fun c1 => k1 c c1⟩⟩
theorem sk_run {Q : Int32 → St → Prop} (h : IVx σ o) (k : ∀ v t, IVx t o → Q v t) : wk_X12_run a1 σ Q := by
  have f := h.2.2.2.2.1
  unfold wk_X12_run
  refine ⟨fun hr => ⟨fun _ => k _ _ h, fun c => ⟨fun c1 => ?_, fun _ => k _ _ h⟩⟩, fun _ => k _ _ h⟩
  obtain ⟨Fs, hd, q1, q2, q3⟩ := h.2.2.2.2.2.2.2.2.2.1 hr
  have cl := clen_eq f.2.1.1
  have fb := f.1
  have fl := f.2.1.2
  refine sp_execute (N := clen σ) (Fs := Fs) (n := 0) ⟨by omega, fun hd' n hf => ?_⟩ cl ⟨c, c1⟩ q2 q3 rfl (fun r s ks s0 => k r s (iv_few h (fun c j c0 c60 c61 c62 c63 c64 c11 c12 => ks c j (by
    simp only [List.contains_cons, List.contains_nil, Bool.or_false, Bool.or_eq_false_iff, beq_eq_false_iff_ne, ne_eq, Prod.mk.injEq, not_and]
    omega) (by
    simp only [List.contains_cons, List.contains_nil, Bool.or_false, Bool.or_eq_false_iff, beq_eq_false_iff_ne, ne_eq]
    omega)) ?_ (by rw [s0]; exact Int.le_refl _)))
  · obtain ⟨L, g, F⟩ := q1 hd' n hf
    exact ⟨L, g, F.1⟩
  · unfold FDx
    rw [ks 0 1 rfl rfl, ks 0 2 rfl rfl, ks 4 1 rfl rfl, ks 5 7 rfl rfl]
    exact f
end EZ
end

section
/-! pick(), cell() and what only reads -/
section PCK
variable {σ s z t ρ : St} {m i j k o d K : Nat} {n : Int} {x y v a a1 a2 a3 a4 a5 : Int32} {C : Int32 → Prop} {b : Nat → Int32}
/-- no more of them than places -/
theorem pgh : ∀ (m n : Nat) (f : Nat → Nat), (∀ i, i < n → f i < m) → (∀ i j, i < j → j < n → f i ≠ f j) → n ≤ m
  | 0, n, f, h1, _ => by
    by_cases c : n = 0
    · omega
    · exact absurd (h1 0 (by omega)) (by omega)
  | m + 1, n, f, h1, h2 => by
    by_cases c : n = 0
    · omega
    -- the last one's place is filled by the greatest
    let g : Nat → Nat := fun i => if f i = m then f (n - 1) else f i
    have q := pgh m (n - 1) g (fun i hi => ?_) (fun i j hij hj => ?_)
    · omega
    · show (if f i = m then f (n - 1) else f i) < m
      have a1 := h1 i (by omega)
      have a2 := h1 (n - 1) (by omega)
      have a3 := h2 i (n - 1) (by omega) (by omega)
      by_cases e : f i = m
      · rw [if_pos e]; omega
      · rw [if_neg e]; omega
    · show (if f i = m then f (n - 1) else f i) ≠ (if f j = m then f (n - 1) else f j)
      have a1 := h2 i j hij (by omega)
      have a2 := h2 i (n - 1) (by omega) (by omega)
      have a3 := h2 j (n - 1) (by omega) (by omega)
      by_cases e : f i = m
      · rw [if_pos e]
        by_cases e2 : f j = m
        · omega
        · rw [if_neg e2]; omega
      · rw [if_neg e]
        by_cases e2 : f j = m
        · rw [if_pos e2]; omega
        · rw [if_neg e2]; exact a1
theorem sk_pick {Q : Int32 → St → Prop} (h : IVx σ o) (k : ∀ v t, IVx t o → Q v t) : wk_X12_pick a1 σ Q := by
  have pk := h.2.2.2.2.2.2.2.2.2.2.1
  have h1 := h.1
  obtain ⟨⟨p1, p1'⟩, p2, p3, p4⟩ := pk
  obtain ⟨P, hP⟩ : ∃ P : Nat, (σ 10 5).toInt = P := ⟨(σ 10 5).toInt.toNat, by omega⟩
  unfold wk_X12_pick
  refine sp_hasI ⟨fun _ => k _ _ h, fun z => absurd rfl z⟩ (fun c0 c1 => ⟨fun z => absurd z (by decide), fun _ => ?_⟩)
  unfold wk_X4_choose
  refine ⟨fun m x => m = ((σ 10 5).toInt - x.toInt).toNat ∧ 1 ≤ x.toInt ∧ ∀ j : Nat, 1 ≤ j → (j : Int) < x.toInt → (j : Int) < (σ 10 5).toInt → (σ 56 j).toInt ≠ a1.toInt, ⟨_, rfl, by decide, fun j j1 j2 => by rw [i1] at j2; omega⟩, ?_⟩
  rintro m x ⟨hm, hx, ha⟩
  refine ⟨fun c => ?_, fun c => ⟨fun ne => ?_, fun _ => k _ _ h⟩⟩
  · -- it is new
    have new : ∀ j : Nat, 1 ≤ j → (j : Int) < P → (σ 56 j).toInt ≠ a1.toInt := fun j j1 j2 => ha j j1 (by omega) (by omega)
    have cnt : P ≤ o := pgh o P (fun i => if i + 1 = P then a1.toInt.toNat - 1 else (σ 56 (i + 1)).toInt.toNat - 1) (fun i hi => by
      show (if i + 1 = P then a1.toInt.toNat - 1 else (σ 56 (i + 1)).toInt.toNat - 1) < o
      by_cases e : i + 1 = P
      · rw [if_pos e]; omega
      · rw [if_neg e]
        have := p3 (i + 1) (by omega) (by omega)
        omega) (fun i j hij hj => by
      show (if i + 1 = P then a1.toInt.toNat - 1 else (σ 56 (i + 1)).toInt.toNat - 1) ≠ (if j + 1 = P then a1.toInt.toNat - 1 else (σ 56 (j + 1)).toInt.toNat - 1)
      rw [if_neg (by omega)]
      have b1 := p3 (i + 1) (by omega) (by omega)
      by_cases e : j + 1 = P
      · rw [if_pos e]
        have := new (i + 1) (by omega) (by omega)
        omega
      · rw [if_neg e]
        have b2 := p3 (j + 1) (by omega) (by omega)
        have := p4 (i + 1) (j + 1) (by omega) (by omega) (by omega)
        omega)
    have ep : ((σ 10 5) + (1 : Int32)).toInt = (σ 10 5).toInt + 1 := ad0 i1 (by omega) (by omega)
    generalize hu : upC (upF σ 56 (setv 101 (σ 56) (σ 10 5) a1)) 10 5 ((σ 10 5) + (1 : Int32)) = u
    have ru : ∀ c, c ≠ 10 → c ≠ 56 → u c = σ c := fun c c10 c56 => by rw [← hu, rdC_ne c10, rdF_ne c56]
    have u5 : (u 10 5).toInt = (σ 10 5).toInt + 1 := by rw [← hu, rdA_eq rfl]; exact ep
    have u10 : ∀ q, q ≠ 5 → u 10 q = σ 10 q := fun q hq => by rw [← hu, rdA_ne hq, rdF_ne (by decide)]
    have u56 : u 56 = fun q => if q = P then a1 else σ 56 q := by rw [← hu, rdC_ne (by decide), rdF_eq, setv_at hP (by omega)]
    clear hu
    have rd : RDy u := fun hr => by
      rw [u10 2 (by decide)] at hr
      obtain ⟨Fs, hd, q1, q2, q3⟩ := h.2.2.2.2.2.2.2.2.2.1 hr
      refine ⟨Fs, hd, fun hd' n hf => ?_, by rw [u10 11 (by decide)]; exact q2, q3⟩
      obtain ⟨L, g, f⟩ := q1 hd' n hf
      exact ⟨L, g, fune_mono (fun j _ => by rw [ru 24 (by decide) (by decide)]) (cpi_mono (ru 59 (by decide) (by decide))) (by unfold clen; rw [ru 4 (by decide) (by decide)]; exact Nat.le_refl _) f⟩
    have pku : PKx u o := by
      refine ⟨by rw [u5]; omega, ?_, fun j j1 j2 => ?_, fun i j i1' i2 i3 => ?_⟩
      · rw [u56]
        show (if 0 = P then a1 else σ 56 0).toInt = 0
        rw [if_neg (by omega)]
        exact p2
      · rw [u5] at j2
        rw [u56]
        show 1 ≤ (if j = P then a1 else σ 56 j).toInt ∧ (if j = P then a1 else σ 56 j).toInt ≤ o
        by_cases e : j = P
        · rw [if_pos e]; omega
        · rw [if_neg e]; exact p3 j j1 (by omega)
      · rw [u5] at i3
        rw [u56]
        show (if i = P then a1 else σ 56 i).toInt ≠ (if j = P then a1 else σ 56 j).toInt
        rw [if_neg (show ¬ i = P by omega)]
        by_cases e : j = P
        · rw [if_pos e]; exact new i i1' (by omega)
        · rw [if_neg e]; exact p4 i j i1' i2 (by omega)
    exact k _ u (iv_10 h (fun c c1 c2 _ _ _ => ru c c1 c2) rd pku)
  · obtain ⟨X, hX⟩ : ∃ X : Nat, x.toInt = X := ⟨x.toInt.toNat, by omega⟩
    have up := up_lt c
    rw [atv_at hX (by omega)] at ne
    have c' : x.toInt < (σ 10 5).toInt := c
    refine ⟨_, by rw [up]; omega, rfl, by rw [up]; omega, fun j j1 j2 j3 => ?_⟩
    rw [up] at j2
    by_cases e : j = X
    · rw [e]; exact ne
    · exact ha j j1 (by omega) j3
theorem sp_isNamed1 {Q : Int32 → Prop} (hb : NEb σ) (h3 : a3.toInt ≤ 65600) (h4 : a4.toInt ≤ 65600) (k1 : Q 1) (k0 : Q 0) : wk_X8_isNamed_r1 a1 a3 a4 σ Q := by
  have b := neb_at hb (a1 - (1 : Int32))
  unfold wk_X8_isNamed_r1
  refine ⟨fun e => ?_, fun e => k0⟩
  refine ⟨fun m x => m = (a4.toInt - x.toInt).toNat ∧ 0 ≤ x.toInt, ⟨_, rfl, by decide⟩, ?_⟩
  rintro m x ⟨hm, h0⟩
  refine ⟨fun c => k1, fun c => ?_⟩
  have up := up_lt c
  have e1 : ((atv 10100 (σ 29) (a1 - (1 : Int32))) + x).toInt = (atv 10100 (σ 29) (a1 - (1 : Int32))).toInt + x.toInt := ad (by omega) (by omega)
  refine ⟨fun c1 => k0, fun c1 => ⟨fun c2 => k0, fun c2 => ?_⟩⟩
  have e2 : (a3 + x).toInt = a3.toInt + x.toInt := ad (by omega) (by omega)
  exact ⟨fun c3 => k0, fun c3 => ⟨⟨by omega, c1⟩, ⟨by omega, c3⟩, fun c4 => ⟨_, by rw [up]; omega, rfl, by rw [up]; omega⟩, fun c4 => k0⟩⟩
theorem sp_firstA {Q : Int32 → Prop} (k : ∀ v, Q v) : wk_X8_firstOf x σ Q := by
  unfold wk_X8_firstOf
  exact ⟨fun _ => k _, fun _ => k _⟩
theorem sp_find57 {Q : Int32 → Prop} (hb : NEb σ) (h3 : a4.toInt ≤ 65600) (h4 : a5.toInt ≤ 65600) (k : ∀ v, Q v) : wk_X4_find_r57_r1 a2 a4 a5 σ Q := by
  unfold wk_X4_find_r57_r1
  refine ⟨fun m x => m = (a2.toInt - x.toInt).toNat, ⟨_, rfl⟩, ?_⟩
  rintro m x hm
  refine ⟨fun c => k _, fun c => sp_firstA (fun v0 => ?_)⟩
  have up := up_lt c
  refine ⟨fun q y => q = ((atv 101 (σ 34) (atv 101 (σ 57) x)).toInt - y.toInt).toNat, ⟨_, rfl⟩, ?_⟩
  rintro q y hq
  refine ⟨fun c1 => ⟨_, by rw [up]; omega, rfl⟩, fun c1 => ?_⟩
  have upy := up_lt c1
  exact is_all (fun v52 _ _ _ => ⟨True, fun _ => ⟨_, by rw [upy]; omega, rfl⟩, fun _ => trivial, fun _ => is_all (fun v65 _ _ _ => ⟨fun _ => trivial, fun _ => sp_isNamed1 hb h3 h4 ⟨fun z => absurd z (by decide), fun _ => k _⟩ ⟨fun _ => trivial, fun z => absurd rfl z⟩⟩)⟩)
theorem sk_cell {Q : Int32 → St → Prop} (h : IVx σ o) (k : ∀ v t, IVx t o → Q v t) : wk_X12_cell σ Q := by
  have iv := iv_held0 h
  have f := h.2.2.2.2.1
  have nb := iv.2.2.2.2.2.1.2
  unfold wk_X12_cell
  generalize upC σ 0 1 (0 : Int32) = u at *
  unfold wk_X4_cellOf_r1
  have fin : ∀ y : Int32, (0 ≤ y.toInt → wk_X8_is y (1 : Int32) u (fun v39 => (v39.toInt = 0 → Q (atv 10100 (u 59) y) u) ∧ (v39.toInt ≠ 0 → Q (0 : Int32) u))) ∧ (y.toInt < 0 → Q ((-1) : Int32) u) := fun y => ⟨fun _ => is_all (fun v _ _ _ => ⟨fun _ => k _ _ iv, fun _ => k _ _ iv⟩), fun _ => k _ _ iv⟩
  exact ⟨fun _ => True, fun y _ => fin y, fun _ => trivial, fun _ => sp_find57 nb (by decide) (by have := f.1; omega) (fun v => trivial)⟩
/-! what only reads -/
theorem sk_symbolsOf {Q : Int32 → Prop} (k : ∀ v, Q v) : wk_X8_symbolsOf a1 σ Q := by
  unfold wk_X8_symbolsOf
  refine sp_firstA (fun v0 => ⟨fun m _ x => m = ((atv 101 (σ 34) a1).toInt - x.toInt).toNat, ⟨_, rfl⟩, ?_⟩)
  rintro m w x hm
  refine ⟨fun _ => k _, fun c => ?_⟩
  have up := up_lt c
  exact is_all (fun v _ _ _ => ⟨fun _ => True, fun _ _ _ => ⟨_, by rw [up]; omega, rfl⟩, fun _ => trivial, fun _ => trivial⟩)
theorem sk_count {Q : Int32 → Prop} (k : ∀ v, Q v) : wk_X12_count a1 a2 σ Q := by
  unfold wk_X12_count
  exact sp_hasI ⟨fun _ => k _, fun z => absurd rfl z⟩ (fun _ _ => ⟨fun z => absurd z (by decide), fun _ => ⟨fun _ => k _, fun _ => ⟨fun _ => ⟨fun _ => k _, fun _ => sk_symbolsOf k⟩, fun _ => k _⟩⟩⟩)
theorem sk_symbolAt {Q : Int32 → Prop} (k : ∀ v, Q v) : wk_X8_symbolAt a1 a2 σ Q := by
  unfold wk_X8_symbolAt
  have body : ∀ y : Int32, wk_X8_firstOf a1 σ (fun v20 => ∃ L25 : Nat → Int32 → Int32 → Prop, (∃ n, L25 n y v20) ∧ ∀ (n25 : Nat) (x3_25 : Int32) (x4_25 : Int32), L25 n25 x3_25 x4_25 → ((x3_25.toInt < 0 → Q ((-1) : Int32)) ∧ (0 ≤ x3_25.toInt → ((atv 101 (σ 34) a1).toInt ≤ x4_25.toInt → Q ((-1) : Int32)) ∧ (x4_25.toInt < (atv 101 (σ 34) a1).toInt → wk_X8_is x4_25 (2 : Int32) σ (fun v46 => (∃ J62 : Int32 → Prop, (∀ (x3_62 : Int32), J62 x3_62 → (∃ m, m < n25 ∧ L25 m x3_62 (x4_25 + 1))) ∧ (v46.toInt ≠ 0 → J62 x3_25) ∧ (v46.toInt = 0 → (x3_25.toInt ≠ 0 → J62 (x3_25 + (-1))) ∧ (x3_25.toInt = 0 → Q x4_25)))))))) := fun y => by
    refine sp_firstA (fun v0 => ⟨fun m _ x => m = ((atv 101 (σ 34) a1).toInt - x.toInt).toNat, ⟨_, rfl⟩, ?_⟩)
    rintro m w x hm
    refine ⟨fun _ => k _, fun _ => ⟨fun _ => k _, fun c => ?_⟩⟩
    have up := up_lt c
    exact is_all (fun v _ _ _ => ⟨fun _ => True, fun _ _ => ⟨_, by rw [up]; omega, rfl⟩, fun _ => trivial, fun _ => ⟨fun _ => trivial, fun _ => k _⟩⟩)
  exact sp_hasI ⟨fun _ => True, fun y _ => body y, True, fun _ => trivial, fun _ => trivial, fun z => absurd rfl z⟩ (fun _ _ => ⟨fun _ => True, fun y _ => body y, True, fun _ => trivial, fun _ => trivial, fun _ => ⟨fun _ => trivial, fun _ => trivial⟩⟩)
theorem sk_name {Q : Int32 → Prop} (hb : NEb σ) (k : ∀ v, Q v) : wk_X12_name a1 a2 a3 σ Q := by
  unfold wk_X12_name
  refine sk_symbolAt (fun v => ?_)
  unfold wk_X8_nameByte wk_X8_nameStart
  have b := neb_at hb (v - (1 : Int32))
  have b2 := neb_at hb v
  refine ⟨fun y => y.toInt ≤ 65600, fun y hy => ⟨fun _ => k _, fun c => ⟨fun _ => k _, fun c1 => ⟨fun _ => k _, fun c2 => ⟨⟨?_, c2⟩, k _⟩⟩⟩⟩, fun _ => ?_, fun _ => by decide⟩
  · rw [ad (by omega) (by omega)]
    omega
  · show ((atv 10100 (σ 29) v) - (atv 10100 (σ 29) (v - (1 : Int32)))).toInt ≤ 65600
    rw [sb (by omega) (by omega)]
    omega
theorem sk_symbol {Q : Int32 → Prop} (k : ∀ v, Q v) : wk_X12_symbol a1 a2 σ Q := by
  unfold wk_X12_symbol
  refine sk_symbolAt (fun v => ⟨fun _ => is_all (fun v22 _ _ _ => ⟨fun _ => True, fun y _ => is_all (fun v41 _ _ _ => ⟨fun _ => is_all (fun v59 _ _ _ => ⟨fun _ => k _, fun _ => k _⟩), fun _ => k _⟩), fun _ => trivial, fun _ => trivial⟩), fun _ => k _⟩)
theorem sk_fault {Q : Int32 → Prop} (k : ∀ v, Q v) : wk_X12_fault a1 σ Q := by
  unfold wk_X12_fault
  exact ⟨fun _ => ⟨fun _ => k _, fun _ => k _⟩, fun _ => k _⟩
theorem sk_objectAt {Q : Int32 → Prop} (h : (σ 5 13).toInt ≤ 100) (k : ∀ v, Q v) : wk_X8_objectAt a1 σ Q := by
  unfold wk_X8_objectAt
  refine ⟨fun m x => m = (200 - x.toInt).toNat ∧ 1 ≤ x.toInt, ⟨_, rfl, by decide⟩, ?_⟩
  rintro m x ⟨hm, hx⟩
  refine ⟨fun _ => k _, fun c => ⟨fun _ => k _, fun _ => ⟨fun _ => ?_, fun _ => k _⟩⟩⟩
  have up : (x + 1).toInt = x.toInt + 1 := ad1 (by omega)
  exact ⟨_, by rw [up]; omega, rfl, by rw [up]; omega⟩
theorem sk_trap {Q : Int32 → Prop} (h : (σ 5 13).toInt ≤ 100) (k : ∀ v, Q v) : wk_X12_trap a1 σ Q := by
  unfold wk_X12_trap
  exact ⟨fun _ => ⟨fun _ => k _, fun _ => k _⟩, fun _ => sk_objectAt h k⟩
theorem sk_out {Q : Int32 → Prop} (k : ∀ v, Q v) : wk_X12_out a1 σ Q := by
  unfold wk_X12_out wk_X9_byteAt
  exact ⟨fun _ => k _, fun c => ⟨fun _ => k _, fun _ => ⟨fun _ => k _, fun c2 => ⟨⟨c, c2⟩, k _⟩⟩⟩⟩
theorem sk_strays {Q : Int32 → Prop} (h : IVx σ o) (k : Q 0) : wk_X12_strays σ Q := by
  unfold wk_X12_strays
  rw [show σ 12 18 = 0 from Int32.toInt_inj.mp h.2.2.2.2.2.2.2.2.2.2.2.1]
  exact k
end PCK
end

section
/-! the start -/
section STR
theorem sp16 : spar (16777216 : Int32) = 1 := by decide
theorem iv_0 : IVx sc0 0 := by
  have e34 : sc0 34 = sDe := rfl
  have e29 : sc0 29 = sNe := rfl
  have e25 : sc0 25 = sFl := rfl
  have e27 : sc0 27 = sEx := rfl
  have e28 : sc0 28 = sVa := rfl
  have z0 : ∀ lo hi : Int, lo ≤ 0 → 0 ≤ hi → AllIn lo hi (fun _ => 0) := fun lo hi h0 h1 => zin h0 h1
  have nb : AllIn 0 65600 sNe := uin (uin (uin (uin (zin (by decide) (by decide)) (by decide)) (by decide)) (by decide)) (by decide)
  have sx : ∀ j, spar (sEx j) ≤ 8 := fun j => by
    unfold sEx upd
    by_cases c3 : j = (3 : Int32).toNatClampNeg
    · rw [if_pos c3, sp16]; decide
    rw [if_neg c3]
    by_cases c2 : j = (2 : Int32).toNatClampNeg
    · rw [if_pos c2, sp16]; decide
    rw [if_neg c2]
    by_cases c1 : j = (1 : Int32).toNatClampNeg
    · rw [if_pos c1, sp16]; decide
    rw [if_neg c1]
    by_cases c0 : j = (0 : Int32).toNatClampNeg
    · rw [if_pos c0]; decide
    rw [if_neg c0]
    show spar (0 : Int32) ≤ 8
    decide
  refine ⟨⟨by decide, by decide⟩, ⟨by decide, fun k hk => absurd hk (by omega)⟩, by decide, by decide, ⟨by decide, by decide, by decide⟩, ⟨fun d hd => ?_, fun d => by rw [e29]; exact nb d⟩, ⟨fun j => ?_, fun j hj => ?_, fun j => ?_, fun j _ => by rw [e27]; exact sx j⟩, ⟨by decide, fun d hd => ?_⟩, fun k k1 k2 => by omega, fun hr => absurd hr (by decide), ⟨by decide, by decide, fun j j1 j2 => ?_, fun i j i1' i2 i3 => ?_⟩, by decide, by decide⟩
  · have e : (sc0 5 1).toInt = 4 := by decide
    rw [e] at hd
    obtain rfl : d = 3 := by omega
    decide
  · show 0 ≤ (0 : Int32).toInt ∧ (0 : Int32).toInt ≤ 16000
    decide
  · exact absurd hj (by decide : ¬ (0 : Int32).toInt = 2)
  · exact (by decide : fits .byte (.int (0 : Int32)) = true)
  · obtain rfl | rfl | rfl | rfl : d = 0 ∨ d = 1 ∨ d = 2 ∨ d = 3 := by omega
    all_goals
      rw [e25, e28, e27]
      unfold FLb
      decide
  · have e : (sc0 10 5).toInt = 1 := by decide
    rw [e] at j2
    omega
  · have e : (sc0 10 5).toInt = 1 := by decide
    rw [e] at i3
    omega
end STR
end

