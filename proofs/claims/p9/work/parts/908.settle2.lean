/-! link(): settle() -/
section STL2
variable {σ s z t ρ : St} {m i j k o d : Nat} {n : Int} {x y v a a1 a2 a3 a4 a5 : Int32} {C : Int32 → Prop} {b : Nat → Int32}
def RNo (σ : St) : Prop := ∀ x : Int32, 0 ≤ x.toInt → x.toInt < (σ 10 5).toInt → 0 ≤ LOi σ x ∧ HIi σ x ≤ 10100
/-- a picked unit's functions have what they are declared with -/
def ADv (σ : St) (b : Nat → Int32) : Prop := ∀ x : Int32, 0 ≤ x.toInt → x.toInt < (σ 10 5).toInt → ∀ d, RGi σ x d → FLb (atv 10100 (σ 25) d) 1 → atv 10100 b d = atv 10100 (σ 28) d
theorem sk_settle {Q : St → Prop} (hb : NEb σ) (rn : RNo σ) (hp : 1 ≤ (σ 10 5).toInt ∧ (σ 10 5).toInt ≤ 101) (k : ∀ t b, KxS σ t → ADv σ b → ADd σ t b → (∀ x, 1 ≤ x.toInt → x.toInt < (σ 10 5).toInt → ∀ d, RGi σ x d → ¬ FLb (atv 10100 (σ 25) d) 4 → ADn σ t b d) → Q t) : wk_X4_settle σ Q := by
  unfold wk_X4_settle
  generalize hu : upC σ 10 7 (σ 10 5) = u0
  have k0 : KxS σ u0 := by rw [← hu]; exact kp_f kp_rf rfl
  have e0 : u0 10 7 = σ 10 5 := by rw [← hu]; rfl
  clear hu
  let P : Int32 → St → Prop := fun x s => KxS σ s ∧ s 10 7 = σ 10 5 ∧ 0 ≤ x.toInt ∧ (∀ x', 0 ≤ x'.toInt → x'.toInt < x.toInt → atv 101 (s 57) x' = kxI σ x') ∧ ∀ x', 0 ≤ x'.toInt → x'.toInt < x.toInt → ∀ d, RGi σ x' d → FLb (atv 10100 (σ 25) d) 1 → atv 10100 (s 59) d = atv 10100 (σ 28) d
  refine ⟨fun m _ x s => m = ((σ 10 5).toInt - x.toInt).toNat ∧ P x s, ⟨_, rfl, k0, e0, by decide, fun x' p1 p2 => absurd p2 (by rw [i0]; omega), fun x' p1 p2 => absurd p2 (by rw [i0]; omega)⟩, ?_⟩
  rintro m w x s ⟨hm, ks, e7, h0, h57, h59⟩
  obtain ⟨r56, r34, r25, r29, r30, r28, r37⟩ := kx_rows ks
  refine ⟨fun c => ?_, fun c => ?_⟩
  · -- the second loop
    rw [e7] at c
    let R : Int32 → St → Prop := fun y t => 1 ≤ y.toInt ∧ Kp [] [59] s t ∧ ADd σ t (s 59) ∧ ∀ x', 1 ≤ x'.toInt → x'.toInt < y.toInt → ∀ d, RGi σ x' d → ¬ FLb (atv 10100 (σ 25) d) 4 → ADn σ t (s 59) d
    refine ⟨fun q y t => q = ((σ 10 5).toInt - y.toInt).toNat ∧ R y t, ⟨_, rfl, by decide, kp_rf, fun _ _ => rfl, fun x' p1 p2 => absurd p2 (by rw [i1]; omega)⟩, ?_⟩
    rintro q y t ⟨hq, h1, kt, hd, hn⟩
    have t7 : t 10 7 = σ 10 5 := by rw [kt 10 7 rfl rfl, e7]
    have ktx : KxS σ t := kp_tr ks (kp_sub kt rfl rfl)
    rw [t7]
    refine ⟨fun c1 => k t (s 59) ktx (fun x' p1 p2 => h59 x' p1 (by omega)) hd (fun x' p1 p2 => hn x' p1 (by omega)), fun c1 => ?_⟩
    have up := up_lt c1
    have ey : atv 101 (t 57) y = kxI σ y := by
      rw [show t 57 = s 57 from funext (fun j => kt 57 j rfl rfl)]
      exact h57 y (by omega) (by omega)
    rw [ey]
    refine sp_refer hb (rn y (by omega) c1) ktx t7 hd (fun t2 k2 hd2 hr ho => ⟨_, by rw [up]; omega, rfl, by rw [up]; omega, kp_tr kt k2, hd2, fun x' p1 p2 d p3 p4 => ?_⟩)
    rw [up] at p2
    by_cases ce : x'.toInt = y.toInt
    · have ex : x' = y := Int32.toInt_inj.mp ce
      rw [ex] at p3
      exact hr d p3 p4
    · exact ho d p4 (hn x' p1 (by omega) d p3 p4)
  · -- a unit
    rw [e7] at c
    have up := up_lt c
    obtain ⟨g0, g1⟩ := rn x h0 c
    rw [r56]
    generalize hv : upF (upF s 57 (setv 101 (s 57) x (atv 101 (σ 56) x))) 58 _ = u
    have ku : Kp [] [57, 58] s u := by rw [← hv]; exact kp_F (kp_F kp_rf rfl) rfl
    have u57 : u 57 = setv 101 (s 57) x (atv 101 (σ 56) x) := by rw [← hv, rdF_ne (by decide), rdF_eq]
    clear hv
    refine sp_firstS (x := x) (by rw [show u 34 = s 34 from funext (fun j => ku 34 j rfl rfl), r34]) (fun v0 hv0 => ?_)
    let R : Int32 → St → Prop := fun y t => Kp [] [59] u t ∧ LOi σ x ≤ y.toInt ∧ (∀ x', 0 ≤ x'.toInt → x'.toInt < x.toInt → ∀ d, RGi σ x' d → FLb (atv 10100 (σ 25) d) 1 → atv 10100 (t 59) d = atv 10100 (σ 28) d) ∧ ∀ d, RGi σ x d → d.toInt < y.toInt → FLb (atv 10100 (σ 25) d) 1 → atv 10100 (t 59) d = atv 10100 (σ 28) d
    refine ⟨fun q y t => q = (HIi σ x - y.toInt).toNat ∧ R y t, ⟨_, rfl, kp_rf, by omega, fun x' p1 p2 d p3 p4 => by rw [show u 59 = s 59 from funext (fun j => ku 59 j rfl rfl)]; exact h59 x' p1 p2 d p3 p4, fun d p1 p2 => absurd p1.1 (by omega)⟩, ?_⟩
    rintro q y t ⟨hq, kt, hl, ho, hy⟩
    have kut : Kp [] [57, 58, 59] s t := kp_tr (kp_sub ku rfl rfl) (kp_sub kt rfl rfl)
    have ktx : KxS σ t := kp_tr ks (kp_sub kut rfl rfl)
    obtain ⟨w56, w34, w25, w29, w30, w28, w37⟩ := kx_rows ktx
    rw [w34]
    refine ⟨fun c1 => ?_, fun c1 => ?_⟩
    · have c2 : HIi σ x ≤ y.toInt := c1
      refine ⟨_, by rw [up]; omega, rfl, ktx, by rw [kut 10 7 rfl rfl]; exact e7, by rw [up]; omega, fun x' p1 p2 => ?_, fun x' p1 p2 d p3 p4 => ?_⟩
      · rw [show t 57 = u 57 from funext (fun j => kt 57 j rfl rfl), u57]
        rw [up] at p2
        by_cases ce : x'.toInt = x.toInt
        · have ex : x' = x := Int32.toInt_inj.mp ce
          rw [ex, atv_set ⟨h0, by omega⟩]
          rfl
        · rw [atv_nst ce]
          exact h57 x' p1 (by omega)
      · rw [up] at p2
        by_cases ce : x'.toInt = x.toInt
        · have ex : x' = x := Int32.toInt_inj.mp ce
          rw [ex] at p3
          exact hy d p3 (by have := p3.2; omega) p4
        · exact ho x' p1 (by omega) d p3 p4
    · have c2 : y.toInt < HIi σ x := c1
      have upy := up_lt c1
      refine is_all (fun v95 n95 y95 _ => ?_)
      rw [w25] at n95 y95
      refine ⟨fun y0 => FLb (atv 10100 (σ 25) y) 1 → y0 = 0, fun y0 hy0 => ⟨_, by rw [upy]; omega, rfl, kp_F kt rfl, by rw [upy]; omega, fun x' p1 p2 d p3 p4 => ?_, fun d p1 p2 p4 => ?_⟩, fun c3 f => absurd f (n95 c3), fun _ _ => rfl⟩
      · rw [rdF_eq]
        by_cases ce : d.toInt = y.toInt
        · have ex : d = y := Int32.toInt_inj.mp ce
          rw [ex] at p4 ⊢
          rw [atv_set ⟨by omega, by omega⟩, hy0 p4, w28, Int32.zero_add]
        · rw [atv_nst ce]
          exact ho x' p1 p2 d p3 p4
      · rw [upy] at p2
        rw [rdF_eq]
        by_cases ce : d.toInt = y.toInt
        · have ex : d = y := Int32.toInt_inj.mp ce
          rw [ex] at p4 ⊢
          rw [atv_set ⟨by omega, by omega⟩, hy0 p4, w28, Int32.zero_add]
        · rw [atv_nst ce]
          exact hy d p1 (by omega) p4
end STL2
