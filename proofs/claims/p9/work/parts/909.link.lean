/-! link(): what is linked can be run -/
section LNK
variable {σ s z t ρ : St} {m i j k o d K : Nat} {n : Int} {x y v a a1 a2 a3 a4 a5 : Int32} {C : Int32 → Prop} {b : Nat → Int32}
theorem iv_10 (h : IVx σ o) (r : ∀ c, c ≠ 10 → c ≠ 56 → c ≠ 57 → c ≠ 58 → c ≠ 59 → s c = σ c) (rd : RDy s) (pk : PKx s o) : IVx s o := by
  obtain ⟨h1, h2, h3, h4, h5, h6, ⟨g1, g2, g3, g4⟩, h8, h9, ha, hb, hc, hi⟩ := h
  have R : ∀ c, c < 56 → c ≠ 10 → s c = σ c := fun c c1 c2 => r c c2 (by omega) (by omega) (by omega) (by omega)
  have r4 := R 4 (by decide) (by decide)
  have r5 := R 5 (by decide) (by decide)
  have r34 := R 34 (by decide) (by decide)
  have r25 := R 25 (by decide) (by decide)
  have r27 := R 27 (by decide) (by decide)
  have r28 := R 28 (by decide) (by decide)
  have ecl : clen s = clen σ := by unfold clen; rw [r4]
  refine ⟨by rw [r5]; exact h1, by unfold DEx; rw [r34]; exact h2, by rw [r5, r34]; exact h3, by rw [r4, R 36 (by decide) (by decide)]; exact h4, by unfold FDx; rw [R 0 (by decide) (by decide), r4, r5]; exact h5, by unfold NME; rw [r5, R 29 (by decide) (by decide)]; exact h6, ⟨by unfold PLA; rw [R 15 (by decide) (by decide)]; exact g1, by unfold NMr; rw [R 13 (by decide) (by decide), R 14 (by decide) (by decide), R 15 (by decide) (by decide)]; exact g2, by rw [R 1 (by decide) (by decide)]; exact g3, by rw [r25, r27]; exact g4⟩, by unfold LBr; rw [R 29 (by decide) (by decide), r25, r28, r27]; exact h8, fun k k1 k2 => ?_, rd, pk, by rw [R 12 (by decide) (by decide)]; exact hc, by rw [R 11 (by decide) (by decide)]; exact hi⟩
  unfold FNo CPo
  rw [r34, r25, r27, r28, R 24 (by decide) (by decide), ecl]
  exact h9 k k1 k2
theorem rg_k (h : IVx σ o) (h0 : 0 ≤ x.toInt) (h1 : x.toInt < (σ 10 5).toInt) : ∃ K : Nat, (kxI σ x).toInt = K ∧ K ≤ o ∧ (K = 0 → LOi σ x = 0 ∧ HIi σ x = 4) ∧ (1 ≤ K → LOi σ x = ((σ 34) (K - 1)).toInt ∧ HIi σ x = ((σ 34) K).toInt ∧ 1 ≤ x.toInt) := by
  obtain ⟨⟨o1, o2⟩, de, -, -, -, -, -, -, -, -, ⟨⟨p1, p2⟩, p3, p4, -⟩, -, -⟩ := h
  obtain ⟨X, hX⟩ : ∃ X : Nat, x.toInt = X := ⟨x.toInt.toNat, by omega⟩
  have ek : kxI σ x = σ 56 X := atv_at hX (by omega)
  have kr : 0 ≤ (σ 56 X).toInt ∧ (σ 56 X).toInt ≤ o := by
    by_cases c : X = 0
    · rw [c, p3]; omega
    · have := p4 X (by omega) (by omega)
      omega
  refine ⟨(kxI σ x).toInt.toNat, by rw [ek]; omega, by rw [ek]; omega, fun c => ?_, fun c => ⟨?_, ?_, ?_⟩⟩
  · have z : (kxI σ x).toInt = 0 := by rw [ek] at c ⊢; omega
    unfold LOi HIi
    rw [z, if_neg (by omega), atv_at (j := 0) z (by decide)]
    exact ⟨rfl, de.1⟩
  · have z : 0 < (kxI σ x).toInt := by omega
    have e1 : ((kxI σ x) - (1 : Int32)).toInt = (((kxI σ x).toInt.toNat - 1 : Nat) : Int) := by
      rw [sb (by rw [i1]; omega) (by rw [i1, ek]; omega), i1]
      omega
    unfold LOi
    rw [if_pos z, atv_at e1 (by rw [ek]; omega)]
  · unfold HIi
    rw [atv_at (j := (kxI σ x).toInt.toNat) (by omega) (by rw [ek]; omega)]
  · by_cases c0 : X = 0
    · rw [ek, c0, p3] at c
      exact absurd c (by decide)
    · omega
theorem rn_iv (h : IVx σ o) : RNo σ := fun x h0 h1 => by
  obtain ⟨K, k1, k2, k3, k4⟩ := rg_k h h0 h1
  have d := de_le h.2.1
  have o2 := h.1.2
  by_cases c : K = 0
  · obtain ⟨q1, q2⟩ := k3 c
    omega
  · obtain ⟨q1, q2, q3⟩ := k4 (by omega)
    have d1 := d K k2
    have d2 := d (K - 1) (by omega)
    omega
/-- a picked unit's function that is defined -/
def Fsi (σ : St) (hd n : Nat) : Prop := ∃ x d : Int32, (0 ≤ x.toInt ∧ x.toInt < (σ 10 5).toInt) ∧ 1 ≤ (kxI σ x).toInt ∧ RGi σ x d ∧ FLb (atv 10100 (σ 25) d) 1 ∧ FLb (atv 10100 (σ 25) d) 4 ∧ (atv 10100 (σ 28) d).toInt = hd ∧ spar (atv 10100 (σ 27) d) = n
/-- what a defined function's address is -/
theorem ad_def (h : IVx σ o) (h0 : 0 ≤ x.toInt) (h1 : x.toInt < (σ 10 5).toInt) (hr : RGi σ x v) (f1 : FLb (atv 10100 (σ 25) v) 1) (f4 : FLb (atv 10100 (σ 25) v) 4) (hm : spar (atv 10100 (σ 27) v) = m) : ((atv 10100 (σ 28) v).toInt = -1 ∧ m = 0) ∨ ((atv 10100 (σ 28) v).toInt < -1 ∧ -4 ≤ (atv 10100 (σ 28) v).toInt ∧ m = 1) ∨ ∃ hd : Nat, (atv 10100 (σ 28) v).toInt = hd ∧ Fsi σ hd m := by
  obtain ⟨K, k1, k2, k3, k4⟩ := rg_k h h0 h1
  obtain ⟨g0, g1⟩ := rn_iv h x h0 h1
  obtain ⟨V, hV⟩ : ∃ V : Nat, v.toInt = V := ⟨v.toInt.toNat, by have := hr.1; omega⟩
  have lt : V < 10100 := by have := hr.2; omega
  by_cases c : K = 0
  · obtain ⟨q1, q2⟩ := k3 c
    have lt4 : V < 4 := by have := hr.2; omega
    obtain ⟨w1, w2, w3, w4⟩ := h.2.2.2.2.2.2.2.1.2 V lt4
    rw [atv_at hV lt] at hm ⊢
    by_cases c0 : V = 0
    · rw [if_pos c0] at w4
      exact Or.inl ⟨by omega, by omega⟩
    · rw [if_neg c0] at w4
      exact Or.inr (Or.inl ⟨by omega, by omega, by omega⟩)
  · obtain ⟨q1, q2, q3⟩ := k4 (by omega)
    have fn := h.2.2.2.2.2.2.2.2.1 K (by omega) k2
    have f1' := f1
    have f4' := f4
    rw [atv_at hV lt] at f1' f4'
    obtain ⟨hd, L, g, w1, w2⟩ := fn V (by have := hr.1; omega) (by have := hr.2; omega) f1' f4'
    have ev : (atv 10100 (σ 28) v).toInt = hd := by rw [atv_at hV lt]; exact w1
    exact Or.inr (Or.inr ⟨hd, ev, x, v, ⟨h0, h1⟩, by omega, hr, f1, f4, ev, hm⟩)
theorem rd_link {w : St} (h : IVx σ o) (l32 : LKd σ 32) (l33 : LKd σ 33) (kt : KxS σ t) (av : ADv σ b) (ad' : ADd σ t b) (an : ∀ x, 1 ≤ x.toInt → x.toInt < (σ 10 5).toInt → ∀ d, RGi σ x d → ¬ FLb (atv 10100 (σ 25) d) 4 → ADn σ t b d) (hf : FSTi σ (σ 10 5).toInt (CDi σ (σ 55) 4 0 4) v) (m0 : 0 ≤ v.toInt) (m1 : FLb (atv 10100 (σ 25) v) 1) (m2 : (atv 10100 (σ 27) v).toInt = 0) (hw : ∀ c, c ≠ 10 → w c = t c) (wm : (w 10 11).toInt = (atv 10100 (t 59) v).toInt) : RDy w := fun _ => by
  have w24 : w 24 = σ 24 := (hw 24 (by decide)).trans (funext (fun j => kt 24 j rfl rfl))
  have w4 : w 4 = σ 4 := (hw 4 (by decide)).trans (funext (fun j => kt 4 j rfl rfl))
  have ecl : clen w = clen σ := by unfold clen; rw [w4]
  have w59 := hw 59 (by decide)
  refine ⟨Fsi σ, ?_⟩
  have lk : LKe w (Fsi σ) (clen w) := fun hd n hfs => by
    obtain ⟨x, d, ⟨h0, h1⟩, hk, hr, f1, f4, hv, hn⟩ := hfs
    obtain ⟨K, k1, k2, k3, k4⟩ := rg_k h h0 h1
    obtain ⟨q1, q2, q3⟩ := k4 (by omega)
    obtain ⟨g0, g1⟩ := rn_iv h x h0 h1
    obtain ⟨V, hV⟩ : ∃ V : Nat, d.toInt = V := ⟨d.toInt.toNat, by have := hr.1; omega⟩
    have lt : V < 10100 := by have := hr.2; omega
    rw [atv_at hV lt] at f1 f4 hv hn
    obtain ⟨hd', L, g, p1, p2⟩ := h.2.2.2.2.2.2.2.2.1 K (by omega) k2 V (by have := hr.1; omega) (by have := hr.2; omega) f1 f4
    have eh : hd' = hd := by omega
    subst eh
    rw [hn] at p2
    refine ⟨L, g, fune_mono (fun j _ => by rw [w24]) (fun a m ha => ?_) (by rw [ecl]; exact Nat.le_refl _) p2⟩
    obtain ⟨⟨c1, c2, c3, c4⟩, e1, e2, e3, e4⟩ := ha
    obtain ⟨A, hA⟩ : ∃ A : Int32, A.toInt = (a.toNat : Nat) := ⟨nI a.toNat, nI_toInt (by omega)⟩
    have rA : RGi σ x A := ⟨by omega, by omega⟩
    have at25 : atv 10100 (σ 25) A = σ 25 a.toNat := atv_at hA (by omega)
    have at27 : atv 10100 (σ 27) A = σ 27 a.toNat := atv_at hA (by omega)
    have at59 : atv 10100 (t 59) A = w 59 a.toNat := by rw [w59]; exact atv_at hA (by omega)
    refine ⟨⟨c3, c4⟩, ?_⟩
    rw [← at59]
    by_cases c : FLb (σ 25 a.toNat) 4
    · rw [ad' A (by rw [at25]; exact c), av x h0 h1 A rA (by rw [at25]; exact e1)]
      exact ad_def h h0 h1 rA (by rw [at25]; exact e1) (by rw [at25]; exact c) (by rw [at27]; exact e3)
    · have ns : ¬ FLb (atv 10100 (σ 25) A) 2 := by rw [at25]; exact fun q => c (e4 q)
      have nd : ¬ FLb (atv 10100 (σ 25) A) 4 := by rw [at25]; exact c
      obtain ⟨v1, d1, z1⟩ := (l32 x q3 h1 A rA ns).1 rfl nd (by rw [at25]; exact e2)
      obtain ⟨v2, d2, z2⟩ := (l33 x q3 h1 A rA ns).2 rfl nd
      have ev := fst_one d2 d1
      subst ev
      obtain ⟨y1, y2⟩ := z2 (by rw [at25]; exact e1) z1
      rw [an x q3 h1 A rA nd v2 d1]
      rcases d1 with ⟨r1, -⟩ | ⟨x', ⟨r1, r2⟩, r3, r4, -, -⟩
      · rw [r1] at z1
        exact absurd z1 (by decide)
      · rw [av x' r1 r2 v2 r3 y1]
        exact ad_def h r1 r2 r3 y1 r4.1 (by rw [← y2, at27]; exact e3)
  rcases hf with ⟨r1, -⟩ | ⟨x, ⟨r1, r2⟩, r3, r4, -, -⟩
  · rw [r1] at m0
    exact absurd m0 (by decide)
  obtain ⟨g0, g1⟩ := rn_iv h x r1 r2
  have sp0 : spar (atv 10100 (σ 27) v) = 0 := by
    rw [show atv 10100 (σ 27) v = 0 from Int32.toInt_inj.mp m2]
    decide
  have adv : atv 10100 (t 59) v = atv 10100 (σ 28) v := by rw [ad' v r4.1, av x r1 r2 v r3 m1]
  rcases ad_def h r1 r2 r3 m1 r4.1 sp0 with ⟨e1, -⟩ | ⟨-, -, e3⟩ | ⟨hd, e1, e2⟩
  · exfalso
    obtain ⟨K, k1, k2, k3, k4⟩ := rg_k h r1 r2
    obtain ⟨V, hV⟩ : ∃ V : Nat, v.toInt = V := ⟨v.toInt.toNat, by omega⟩
    have lt : V < 10100 := by have := r3.2; omega
    by_cases c : K = 0
    · obtain ⟨q1, q2⟩ := k3 c
      have lt4 : V < 4 := by have := r3.2; omega
      obtain ⟨w0, w1⟩ := h.2.2.2.2.2.2.2.1
      obtain ⟨w2, w3, w4', w5⟩ := w1 V lt4
      rw [atv_at hV lt] at sp0 e1
      by_cases c0 : V = 0
      · have nq := r4.2.2.1
        rw [c0] at hV
        rw [atv_at (j := 0) hV (by decide), atv_out (Or.inl (by rw [sb (by rw [i1]; omega) (by rw [i1]; omega), i1]; omega)), show (σ 29 0) - (0 : Int32) = σ 29 0 from Int32.sub_zero _, w0] at nq
        exact absurd nq (by decide)
      · rw [if_neg c0] at w5
        omega
    · obtain ⟨q1, q2, q3⟩ := k4 (by omega)
      have f1 := m1
      have f4 := r4.1
      rw [atv_at hV lt] at f1 f4 e1
      obtain ⟨hd, L, g, p1, p2⟩ := h.2.2.2.2.2.2.2.2.1 K (by omega) k2 V (by have := r3.1; omega) (by have := r3.2; omega) f1 f4
      omega
  · exact absurd e3 (by decide)
  · exact ⟨hd, lk, by rw [wm, adv]; exact e1, e2⟩
end LNK
