/-! link(), both sides: the same definitions are found, the same faults -/
/-- where a library function's name stands on either side, and how long it is -/
def lbS (j : Nat) : Nat := [0, 3, 6, 11].getD j 0
def lbK (j : Nat) : Nat := [1, 5, 9, 15].getD j 0
def lbL (j : Nat) : Nat := [3, 3, 5, 4].getD j 0
/-- what both sides know between calls, at a link() -/
def LKx (w σ τ : St) (vs : List Nat) (o : Nat) : Prop := IVx w o ∧ GLI σ τ vs ∧ RLp w σ ∧ RLe w σ ∧ PKr w σ ∧ RLf w σ
section LEQ
variable {w σ s t τ : St} {vs z : List Nat} {x d dd v a3 a4 : Int32} {o e f p q j : Nat} {l l2 : List (Nat × Nat)}
theorem lb_bytes : ∀ j, j < 4 → ∀ k, k < lbL j → (sc0 30 (lbS j + k)).toInt = (chI (SF 2 (lbK j + k))).toInt := by decide +kernel
theorem lb_ends : ∀ j, j < 4 → (sc0 29 j).toInt = (lbS j + lbL j : Nat) ∧ lbS j + lbL j ≤ 15 ∧ ((sc0 25 j) &&& 4).toInt ≠ 0 ∧ ((sc0 25 j) &&& 2).toInt = 0 ∧ ((sc0 25 j) &&& 1).toInt ≠ 0 ∧ (sc0 26 j).toInt = (if j = 0 then 0 else -1) ∧ (sc0 27 j).toInt = (if j = 0 then 0 else 16777216) := by decide +kernel
theorem lb_starts : ∀ j, j < 3 → (sc0 29 j).toInt = (lbS (j + 1) : Nat) := by decide +kernel
theorem lib_at (e : Nat) : LIB σ e x ↔ (∃ j : Nat, j < 4 ∧ x.toInt = (j : Int) ∧ LBk σ e (lbK j) (lbL j) ∧ ∀ i, i < j → ¬ LBk σ e (lbK i) (lbL i)) ∨ (x.toInt = -1 ∧ ∀ i, i < 4 → ¬ LBk σ e (lbK i) (lbL i)) := by
  unfold LIB
  constructor
  · rintro (⟨h, a⟩ | ⟨h, a, b⟩ | ⟨h, a, b, c⟩ | ⟨h, a, b, c, d⟩ | ⟨h, a, b, c, d⟩)
    · exact Or.inl ⟨0, by decide, h, a, fun i hi => absurd hi (Nat.not_lt_zero i)⟩
    · refine Or.inl ⟨1, by decide, h, b, fun i hi => ?_⟩
      rw [show i = 0 from by omega]; exact a
    · refine Or.inl ⟨2, by decide, h, c, fun i hi => ?_⟩
      rcases (by omega : i = 0 ∨ i = 1) with g | g <;> rw [g]
      · exact a
      · exact b
    · refine Or.inl ⟨3, by decide, h, d, fun i hi => ?_⟩
      rcases (by omega : i = 0 ∨ i = 1 ∨ i = 2) with g | g | g <;> rw [g]
      · exact a
      · exact b
      · exact c
    · refine Or.inr ⟨h, fun i hi => ?_⟩
      rcases (by omega : i = 0 ∨ i = 1 ∨ i = 2 ∨ i = 3) with g | g | g | g <;> rw [g]
      · exact a
      · exact b
      · exact c
      · exact d
  · rintro (⟨j, hj, h, a, b⟩ | ⟨h, b⟩)
    · rcases (by omega : j = 0 ∨ j = 1 ∨ j = 2 ∨ j = 3) with g | g | g | g <;> rw [g] at h a b
      · exact Or.inl ⟨h, a⟩
      · exact Or.inr (Or.inl ⟨h, b 0 (by decide), a⟩)
      · exact Or.inr (Or.inr (Or.inl ⟨h, b 0 (by decide), b 1 (by decide), a⟩))
      · exact Or.inr (Or.inr (Or.inr (Or.inl ⟨h, b 0 (by decide), b 1 (by decide), b 2 (by decide), a⟩)))
    · exact Or.inr (Or.inr (Or.inr (Or.inr ⟨h, b 0 (by decide), b 1 (by decide), b 2 (by decide), b 3 (by decide)⟩)))
/-- where what is picked as p-th stands -/
theorem rg_at (K : LKx w σ τ vs o) (hp : (p : Int) < (σ 0 67).toInt) (hx : x.toInt = (p : Int) + 1) : PO σ p + 1 ≤ o ∧ (x.toInt < (w 10 5).toInt) ∧ LOi w x = fO σ (PO σ p) + 4 ∧ HIi w x = fO σ (PO σ p + 1) + 4 ∧ 0 ≤ fO σ (PO σ p) ∧ fO σ (PO σ p + 1) ≤ (σ 0 36).toInt := by
  obtain ⟨h, hG, r, re, pk, rf⟩ := K
  have hpk := hG.2.2.2.2.1.2.1 p hp
  have e56 := pk.2 p hp
  have hlt : x.toInt < (w 10 5).toInt := by have := pk.1; omega
  obtain ⟨A, a1, a2, a3, a4⟩ := rg_k h (x := x) (by omega) hlt
  have o100 := h.1.2
  have h13 := h.1.1
  have ek : kxI w x = w 56 (p + 1) := atv_at (by rw [hx]; rfl) (by have := hG.2.2.2.2.1.1.2; omega)
  have eA : (A : Int) = (σ 40 p).toInt := by rw [← a1, ek, e56]
  have ePO : PO σ p + 1 = A := by unfold PO; omega
  obtain ⟨b1, b2, b3⟩ := a4 (by omega)
  have w1 := re.1 (A - 1) (by omega)
  have w2 := re.1 A (by omega)
  have hd := hd_le h r re
  have hb := hd.2 (PO σ p) (by have := r.1; omega)
  refine ⟨by omega, hlt, ?_, ?_, hb.1, hb.2⟩
  · rw [b1, w1, ← ePO]
    rfl
  · rw [b2, w2, ePO]
    rfl
theorem rg_lib (K : LKx w σ τ vs o) (hx : x.toInt = 0) : LOi w x = 0 ∧ HIi w x = 4 := by
  obtain ⟨h, hG, r, re, pk, rf⟩ := K
  have hp0 := hG.2.2.2.2.1.1.1
  obtain ⟨A, a1, a2, a3, a4⟩ := rg_k h (x := x) (by omega) (by have := pk.1; omega)
  have ek : kxI w x = w 56 0 := atv_at hx (by decide)
  have e0 := h.2.2.2.2.2.2.2.2.2.2.1.2.1
  exact a3 (by rw [ek, e0] at a1; omega)
/-- a name that both sides have, and another -/
theorem nm_eq (K : LKx w σ τ vs o) (he : (e : Int) < (σ 0 36).toInt) (hf : (f : Int) < (σ 0 36).toInt) (hdd : dd.toInt = ((e + 4 : Nat) : Int)) (hd : d.toInt = ((f + 4 : Nat) : Int)) (hl : (σ 0 36).toInt ≤ 10000) : NMq w (w 30) 65600 d (atv 10100 (w 29) (dd - (1 : Int32))) ((atv 10100 (w 29) dd) - (atv 10100 (w 29) (dd - (1 : Int32)))) ↔ ALK σ e f := by
  obtain ⟨h, hG, r, re, pk, rf⟩ := K
  obtain ⟨_, _, _, _, a1, a2, a3, a4, a5, a6, a7⟩ := rf.2.1 e he
  obtain ⟨_, _, _, _, b1, b2, b3, b4, b5, b6, b7⟩ := rf.2.1 f hf
  have n57 := h.2.2.2.2.1.2.2
  have f65 := h.2.2.2.2.1.1
  have x1 : atv 10100 (w 29) dd = w 29 (e + 4) := atv_at hdd (by omega)
  have x2 : atv 10100 (w 29) (dd - (1 : Int32)) = w 29 (e + 3) := atv_at (by rw [sb (by rw [i1]; omega) (by rw [i1]; omega), i1]; omega) (by omega)
  have y1 : atv 10100 (w 29) d = w 29 (f + 4) := atv_at hd (by omega)
  have y2 : atv 10100 (w 29) (d - (1 : Int32)) = w 29 (f + 3) := atv_at (by rw [sb (by rw [i1]; omega) (by rw [i1]; omega), i1]; omega) (by omega)
  have z1 : ((w 29 (e + 4)) - (w 29 (e + 3))).toInt = (σ 19 e).toInt := by rw [sb (by omega) (by omega)]; exact a1
  have z2 : ((w 29 (f + 4)) - (w 29 (f + 3))).toInt = (σ 19 f).toInt := by rw [sb (by omega) (by omega)]; exact b1
  unfold NMq ALK nfm
  rw [x1, x2, y1, y2, z1, z2]
  constructor
  · rintro ⟨c1, c2⟩
    refine ⟨c1.symm, fun k hk => ?_⟩
    obtain ⟨d1, d2, d3, d4⟩ := c2 k hk
    have p1 := (a7 k hk).1
    have p2 := (b7 k (by omega)).1
    rw [show ((σ 18 e).toInt + (k : Int)).toNat = (σ 18 e).toInt.toNat + k from by omega, show ((σ 18 f).toInt + (k : Int)).toNat = (σ 18 f).toInt.toNat + k from by omega]
    rw [show ((w 29 (f + 3)).toInt + (k : Int)).toNat = (w 29 (f + 3)).toInt.toNat + k from by omega, show ((w 29 (e + 3)).toInt + (k : Int)).toNat = (w 29 (e + 3)).toInt.toNat + k from by omega] at d4
    omega
  · rintro ⟨c1, c2⟩
    refine ⟨c1.symm, fun k hk => ⟨by omega, a3, by show (w 29 (e + 3)).toInt + (k : Int) < ((65600 : Nat) : Int); omega, ?_⟩⟩
    have d4 := c2 k hk
    have p1 := (a7 k hk).1
    have p2 := (b7 k (by omega)).1
    rw [show ((σ 18 e).toInt + (k : Int)).toNat = (σ 18 e).toInt.toNat + k from by omega, show ((σ 18 f).toInt + (k : Int)).toNat = (σ 18 f).toInt.toNat + k from by omega] at d4
    rw [show ((w 29 (f + 3)).toInt + (k : Int)).toNat = (w 29 (f + 3)).toInt.toNat + k from by omega, show ((w 29 (e + 3)).toInt + (k : Int)).toNat = (w 29 (e + 3)).toInt.toNat + k from by omega]
    omega
/-- a name and one of the library -/
theorem nm_lib (K : LKx w σ τ vs o) (he : (e : Int) < (σ 0 36).toInt) (hdd : dd.toInt = ((e + 4 : Nat) : Int)) (hj : j < 4) (hd : d.toInt = (j : Int)) (hl : (σ 0 36).toInt ≤ 10000) : NMq w (w 30) 65600 d (atv 10100 (w 29) (dd - (1 : Int32))) ((atv 10100 (w 29) dd) - (atv 10100 (w 29) (dd - (1 : Int32)))) ↔ LBk σ e (lbK j) (lbL j) := by
  obtain ⟨h, hG, r, re, pk, rf⟩ := K
  obtain ⟨_, _, _, _, a1, a2, a3, a4, a5, a6, a7⟩ := rf.2.1 e he
  have n57 := h.2.2.2.2.1.2.2
  have f65 := h.2.2.2.2.1.1
  have x1 : atv 10100 (w 29) dd = w 29 (e + 4) := atv_at hdd (by omega)
  have x2 : atv 10100 (w 29) (dd - (1 : Int32)) = w 29 (e + 3) := atv_at (by rw [sb (by rw [i1]; omega) (by rw [i1]; omega), i1]; omega) (by omega)
  have z1 : ((w 29 (e + 4)) - (w 29 (e + 3))).toInt = (σ 19 e).toInt := by rw [sb (by omega) (by omega)]; exact a1
  have lb := lb_ends j hj
  have y1 : (atv 10100 (w 29) d).toInt = ((lbS j + lbL j : Nat) : Int) := by
    rw [atv_at hd (by omega), (rf.1.1 j hj).2.2.2.2]
    exact lb.1
  have y2 : (atv 10100 (w 29) (d - (1 : Int32))).toInt = (lbS j : Int) := by
    have ed : (d - (1 : Int32)).toInt = (j : Int) - 1 := by rw [sb (by rw [i1]; omega) (by rw [i1]; omega), i1, hd]
    by_cases j0 : j = 0
    · rw [j0] at ed ⊢
      rcases atv_cases 10100 (w 29) (d - (1 : Int32)) with ⟨g1, g2⟩ | ⟨i, g1, g2, g3⟩
      · rw [g1]; rfl
      · omega
    · rw [atv_at (j := j - 1) (by rw [ed]; omega) (by omega), (rf.1.1 (j - 1) (by omega)).2.2.2.2, lb_starts (j - 1) (by omega), show j - 1 + 1 = j from by omega]
  have z2 : ((atv 10100 (w 29) d) - (atv 10100 (w 29) (d - (1 : Int32)))).toInt = (lbL j : Int) := by rw [sb (by omega) (by omega)]; omega
  have lby : ∀ k : Nat, k < lbL j → (w 30 (lbS j + k)).toInt = (chI (SF 2 (lbK j + k))).toInt := fun k hk => by
    rw [rf.1.2 (lbS j + k) (by omega)]
    exact lb_bytes j hj k hk
  unfold NMq LBk nfm
  rw [x1, x2, y2, z1, z2]
  constructor
  · rintro ⟨c1, c2⟩
    refine ⟨c1.symm, fun k hk => ?_⟩
    obtain ⟨d1, d2, d3, d4⟩ := c2 k (by omega)
    have p1 := (a7 k (by omega)).1
    rw [show ((σ 18 e).toInt + (k : Int)).toNat = (σ 18 e).toInt.toNat + k from by omega, ← lby k hk]
    rw [show ((lbS j : Int) + (k : Int)).toNat = lbS j + k from by omega, show ((w 29 (e + 3)).toInt + (k : Int)).toNat = (w 29 (e + 3)).toInt.toNat + k from by omega] at d4
    omega
  · rintro ⟨c1, c2⟩
    refine ⟨c1.symm, fun k hk => ⟨by omega, a3, by show (w 29 (e + 3)).toInt + (k : Int) < ((65600 : Nat) : Int); omega, ?_⟩⟩
    have d4 := c2 k (by omega)
    have p1 := (a7 k hk).1
    rw [show ((σ 18 e).toInt + (k : Int)).toNat = (σ 18 e).toInt.toNat + k from by omega, ← lby k (by omega)] at d4
    rw [show ((lbS j : Int) + (k : Int)).toNat = lbS j + k from by omega, show ((w 29 (e + 3)).toInt + (k : Int)).toNat = (w 29 (e + 3)).toInt.toNat + k from by omega]
    omega
/-- its flags -/
theorem fl_at (K : LKx w σ τ vs o) (hf : (f : Int) < (σ 0 36).toInt) (hl : (σ 0 36).toInt ≤ 10000) (hd : d.toInt = ((f + 4 : Nat) : Int)) : (FLb (atv 10100 (w 25) d) 1 ↔ (σ 9 f).toInt ≠ 1) ∧ (FLb (atv 10100 (w 25) d) 2 ↔ (σ 12 f).toInt ≠ 0) ∧ (FLb (atv 10100 (w 25) d) 4 ↔ (σ 13 f).toInt = 1) ∧ (FLb (atv 10100 (w 25) d) 8 ↔ (σ 14 f).toInt ≠ 0) ∧ ((σ 9 f).toInt = 1 ∨ (σ 9 f).toInt = 2) ∧ ((σ 13 f).toInt = 0 ∨ (σ 13 f).toInt = 1) := by
  obtain ⟨h, hG, r, re, pk, rf⟩ := K
  have q := re.2.2 f hf
  have q8 := (rf.2.1 f hf).2.1
  have b13 := rf.2.2.2 f
  rw [atv_at hd (by omega)]
  unfold FLq at q q8
  unfold FLb
  refine ⟨q.1, q.2.1, ⟨fun g => ?_, fun g => q.2.2.1.2 (by omega)⟩, q8, q.2.2.2, b13⟩
  have := q.2.2.1.1 g
  omega
theorem lib_fl (K : LKx w σ τ vs o) (hj : j < 4) (hd : d.toInt = (j : Int)) : FLb (atv 10100 (w 25) d) 4 ∧ ¬ FLb (atv 10100 (w 25) d) 2 ∧ FLb (atv 10100 (w 25) d) 1 ∧ (atv 10100 (w 26) d).toInt = (if j = 0 then 0 else -1) ∧ (atv 10100 (w 27) d).toInt = (if j = 0 then 0 else 16777216) := by
  obtain ⟨h, hG, r, re, pk, rf⟩ := K
  obtain ⟨l1, l2, l3, l4, l5⟩ := rf.1.1 j hj
  obtain ⟨_, _, b3, b4, b5, b6, b7⟩ := lb_ends j hj
  rw [atv_at hd (by omega), atv_at hd (by omega), atv_at hd (by omega), l1, l2, l3]
  exact ⟨b3, fun g => g b4, b5, b6, b7⟩
/-- what is found on both sides -/
theorem df_eq (K : LKx w σ τ vs o) (hl : (σ 0 36).toInt ≤ 10000) (he : (e : Int) < (σ 0 36).toInt) (hdd : dd.toInt = ((e + 4 : Nat) : Int)) (hq : (q : Int) ≤ (σ 0 67).toInt) (h : DFi w ((q : Int) + 1) dd v) : (∃ j : Nat, j < 4 ∧ v.toInt = (j : Int) ∧ ∃ r, LIB σ e r ∧ r.toInt = (j : Int)) ∨ ((∃ r, LIB σ e r ∧ r.toInt < 0) ∧ ((NFD σ e q ∧ v = -1) ∨ ∃ p f : Nat, FND σ e q p f ∧ v.toInt = ((f + 4 : Nat) : Int))) := by
  have q100 : q ≤ 100 := by have := K.2.1.2.2.2.2.1.1.2; omega
  have fit : ∀ (p f : Nat) (d : Int32), (p : Int) < (σ 0 67).toInt → InO σ (PO σ p) f → d.toInt = ((f + 4 : Nat) : Int) → (CDi w (w 30) 65600 (atv 10100 (w 29) (dd - (1 : Int32))) ((atv 10100 (w 29) dd) - (atv 10100 (w 29) (dd - (1 : Int32)))) d ↔ MT σ e f) := fun p f d hp hf hd => by
    have p100 : p ≤ 100 := by have := K.2.1.2.2.2.2.1.1.2; omega
    obtain ⟨_, _, _, _, _, g6⟩ := rg_at K hp (x := nI (p + 1)) (by rw [nI_toInt (by omega)]; rfl)
    have hf2 : (f : Int) < (σ 0 36).toInt := by have := hf.2; omega
    obtain ⟨_, f2, f4, _, _, f13⟩ := fl_at K hf2 hl hd
    unfold CDi MT
    rw [nm_eq K he hf2 hdd hd hl, f4, f2]
    constructor
    · rintro ⟨c1, c2, c3⟩
      exact ⟨Classical.byContradiction c2, c1, c3⟩
    · rintro ⟨c1, c2, c3⟩
      exact ⟨c2, fun g => g c1, c3⟩
  have lfit : ∀ (j : Nat) (d : Int32), j < 4 → d.toInt = (j : Int) → (CDi w (w 30) 65600 (atv 10100 (w 29) (dd - (1 : Int32))) ((atv 10100 (w 29) dd) - (atv 10100 (w 29) (dd - (1 : Int32)))) d ↔ LBk σ e (lbK j) (lbL j)) := fun j d hj hd => by
    obtain ⟨f4, f2, _⟩ := lib_fl K hj hd
    unfold CDi
    rw [nm_lib K he hdd hj hd hl]
    exact ⟨fun c => c.2.2, fun c => ⟨f4, f2, c⟩⟩
  have z0 : ((0 : Int32)).toInt = 0 := rfl
  obtain ⟨rl, rh⟩ := rg_lib K z0
  have nolib : (∀ d, RGi w (0 : Int32) d → ¬ CDi w (w 30) 65600 (atv 10100 (w 29) (dd - (1 : Int32))) ((atv 10100 (w 29) dd) - (atv 10100 (w 29) (dd - (1 : Int32)))) d) → ∃ r, LIB σ e r ∧ r.toInt < 0 := fun hn => ⟨(-1 : Int32), (lib_at e).2 (Or.inr ⟨by decide, fun i hi g => hn (nI i) ⟨by rw [rl, nI_toInt (by omega)]; omega, by rw [rh, nI_toInt (by omega)]; omega⟩ ((lfit i (nI i) hi (nI_toInt (by omega))).2 g)⟩), by decide⟩
  have nofnd : ∀ m : Nat, m ≤ q → (∀ x : Int32, 0 ≤ x.toInt → x.toInt < (m : Int) + 1 → ∀ d, RGi w x d → ¬ CDi w (w 30) 65600 (atv 10100 (w 29) (dd - (1 : Int32))) ((atv 10100 (w 29) dd) - (atv 10100 (w 29) (dd - (1 : Int32)))) d) → NFD σ e m := fun m hm hn p hp f hf g => by
    have hx : (nI (p + 1)).toInt = (p : Int) + 1 := by rw [nI_toInt (by omega)]; rfl
    obtain ⟨_, _, g3, g4, g5, g6⟩ := rg_at K (by omega) hx
    have hf4 : (nI (f + 4)).toInt = ((f + 4 : Nat) : Int) := nI_toInt (by have := hf.2; omega)
    exact hn (nI (p + 1)) (by omega) (by omega) (nI (f + 4)) ⟨by rw [g3, hf4]; have := hf.1; omega, by rw [g4, hf4]; have := hf.2; omega⟩ ((fit p f (nI (f + 4)) (by omega) hf hf4).2 g)
  rcases h with ⟨h1, h2⟩ | ⟨x, h1, h2, h3, h4, h5⟩
  · exact Or.inr ⟨nolib (h2 0 (by rw [z0]; omega) (by rw [z0]; omega)), Or.inl ⟨nofnd q (Nat.le_refl _) h2, h1⟩⟩
  · by_cases x0 : x.toInt = 0
    · have ex : x = 0 := ieq x0
      rw [ex] at h2 h5
      obtain ⟨j, hj⟩ : ∃ j : Nat, v.toInt = (j : Int) := ⟨v.toInt.toNat, by have := h2.1; omega⟩
      have j4 : j < 4 := by have := h2.2; omega
      refine Or.inl ⟨j, j4, hj, nI j, (lib_at e).2 (Or.inl ⟨j, j4, nI_toInt (by omega), (lfit j v j4 hj).1 h3, fun i hi g => ?_⟩), nI_toInt (by omega)⟩
      exact h5 (nI i) ⟨by rw [rl, nI_toInt (by omega)]; omega, by rw [rh, nI_toInt (by omega)]; omega⟩ (by rw [nI_toInt (by omega)]; omega) ((lfit i (nI i) (by omega) (nI_toInt (by omega))).2 g)
    · obtain ⟨p, hp⟩ : ∃ p : Nat, x.toInt = (p : Int) + 1 := ⟨(x.toInt - 1).toNat, by omega⟩
      have hpq : (p : Int) < (σ 0 67).toInt := by omega
      obtain ⟨_, _, g3, g4, g5, g6⟩ := rg_at K hpq hp
      obtain ⟨f, hf⟩ : ∃ f : Nat, v.toInt = ((f + 4 : Nat) : Int) := ⟨(v.toInt - 4).toNat, by have := h2.1; omega⟩
      have hin : InO σ (PO σ p) f := ⟨by have := h2.1; omega, by have := h2.2; omega⟩
      refine Or.inr ⟨nolib (h4 0 (by rw [z0]; omega) (by rw [z0]; omega)), Or.inr ⟨p, f, ⟨by omega, hin, (fit p f v hpq hin hf).1 h3, nofnd p (by omega) (fun x' a b => h4 x' a (by omega)), fun f' a b g => ?_⟩, hf⟩⟩
      have hf4 : (nI (f' + 4)).toInt = ((f' + 4 : Nat) : Int) := nI_toInt (by have := hin.2; omega)
      exact h5 (nI (f' + 4)) ⟨by rw [g3, hf4]; omega, by have := h2.2; rw [hf4]; omega⟩ (by rw [hf4]; omega) ((fit p f' (nI (f' + 4)) hpq ⟨a, by have := hin.2; omega⟩ hf4).2 g)
/-- signatures are one where all is one that they tell -/
theorem sg_same {a b : Int32} (hl : l.length ≤ 8) (ht : Tyq l) (ha : a.toInt = sgI l) (hl2 : l2.length ≤ 8) (ht2 : Tyq l2) (hb : b.toInt = sgI l2) (hn : sgN a = sgN b) (hk : ∀ k : Nat, (k : Int) < sgN a → sgT a (nI k) = sgT b (nI k)) : a.toInt = b.toInt := by
  obtain ⟨a1, a2⟩ := sg_says hl ht ha
  obtain ⟨b1, b2⟩ := sg_says hl2 ht2 hb
  have el : l.length = l2.length := by omega
  rw [ha, hb]
  unfold sgI sgX
  rw [el, sgv_ext el (fun k x y hx hy => ?_)]
  have hk' := hk k (by rw [a1]; have := (List.getElem?_eq_some_iff.mp hx).1; omega)
  rw [a2 k x hx, b2 k y hy] at hk'
  omega
/-- the types of a declaration and its definition -/
theorem ag_eq (K : LKx w σ τ vs o) (hl : (σ 0 36).toInt ≤ 10000) (he : (e : Int) < (σ 0 36).toInt) (hf : (f : Int) < (σ 0 36).toInt) (hdd : dd.toInt = ((e + 4 : Nat) : Int)) (hv : v.toInt = ((f + 4 : Nat) : Int)) : AGc w dd v ↔ HTm σ e f := by
  obtain ⟨e1, _, _, _, e9, _⟩ := fl_at K he hl hdd
  obtain ⟨f1, _, _, _, f9, _⟩ := fl_at K hf hl hv
  obtain ⟨h, hG, r, re, pk, rf⟩ := K
  obtain ⟨⟨a1, _⟩, _, a3, a4, _⟩ := rf.2.1 e he
  obtain ⟨⟨b1, _⟩, _, b3, b4, _⟩ := rf.2.1 f hf
  have x26 : atv 10100 (w 26) dd = w 26 (e + 4) := atv_at hdd (by omega)
  have y26 : atv 10100 (w 26) v = w 26 (f + 4) := atv_at hv (by omega)
  have x27 : atv 10100 (w 27) dd = w 27 (e + 4) := atv_at hdd (by omega)
  have y27 : atv 10100 (w 27) v = w 27 (f + 4) := atv_at hv (by omega)
  have x25 : FLb (atv 10100 (w 25) dd) 1 ↔ FLq w (e + 4) 1 := by rw [atv_at hdd (by omega)]; exact Iff.rfl
  have y25 : FLb (atv 10100 (w 25) v) 1 ↔ FLq w (f + 4) 1 := by rw [atv_at hv (by omega)]; exact Iff.rfl
  unfold AGc HTm
  rw [x26, y26, x27, y27, e1, f1, a1, b1]
  have nv : ¬ v.toInt < 0 := by omega
  by_cases c9 : (σ 9 e).toInt = 1
  · have ne : ¬ FLq w (e + 4) 1 := fun g => (e1.1 (x25.2 g)) c9
    by_cases d9 : (σ 9 f).toInt = 1
    · have nf : ¬ FLq w (f + 4) 1 := fun g => (f1.1 (y25.2 g)) d9
      obtain ⟨a5, a6⟩ := a3 ne
      obtain ⟨b5, b6⟩ := b3 nf
      rw [a5, b5]
      rw [a5] at a6
      rw [b5] at b6
      constructor
      · rintro (g | ⟨_, g2, g3⟩)
        · exact absurd g nv
        · refine ⟨by omega, g2, fun _ => ?_, fun g => absurd c9 g⟩
          rcases g3 with g | ⟨_, g, g'⟩
          · exact ⟨by omega, Or.inr g⟩
          · exact ⟨by omega, Or.inl (by omega)⟩
      · rintro ⟨_, g2, g3, _⟩
        obtain ⟨g4, g5⟩ := g3 c9
        refine Or.inr ⟨⟨fun g => absurd c9 g, fun g => absurd d9 g⟩, g2, ?_⟩
        rcases g5 with g | g
        · by_cases z : (σ 11 e).toInt = (σ 11 f).toInt
          · exact Or.inl z
          · refine Or.inr ⟨fun g => g c9, ?_, ?_⟩
            · by_cases y : (σ 11 e).toInt = 0
              · exact y
              · have : ¬ 0 ≤ (σ 11 f).toInt := fun q => by have := g4.2 q; omega
                omega
            · by_cases y : (σ 11 e).toInt = 0
              · have := g4.1 (by omega)
                omega
              · have : ¬ 0 ≤ (σ 11 f).toInt := fun q => by have := g4.2 q; omega
                omega
        · exact Or.inl g
    · constructor
      · rintro (g | ⟨g, _⟩)
        · exact absurd g nv
        · exact absurd c9 (g.2 d9)
      · rintro ⟨g, _⟩
        omega
  · by_cases d9 : (σ 9 f).toInt = 1
    · constructor
      · rintro (g | ⟨g, _⟩)
        · exact absurd g nv
        · exact absurd d9 (g.1 c9)
      · rintro ⟨g, _⟩
        omega
    · have ye : FLq w (e + 4) 1 := x25.1 (e1.2 c9)
      have yf : FLq w (f + 4) 1 := y25.1 (f1.2 d9)
      obtain ⟨a5, a6, a7, l, a8, a9, a10⟩ := a4 ye
      obtain ⟨b5, b6, b7, l2, b8, b9, b10⟩ := b4 yf
      constructor
      · rintro (g | ⟨_, g2, g3⟩)
        · exact absurd g nv
        · have g4 : (w 27 (e + 4)).toInt = (w 27 (f + 4)).toInt := by
            rcases g3 with g | ⟨g, _⟩
            · exact g
            · exact absurd c9 g
          have g5 := ieq g4
          refine ⟨by omega, g2, fun g => absurd g c9, fun _ => ⟨by rw [← a5, ← b5, g5], fun k hk => ?_⟩⟩
          have k1 := a7 (nI k) (by rw [nI_toInt (by omega)]; omega) (by rw [nI_toInt (by omega)]; exact hk)
          have k2 := b7 (nI k) (by rw [nI_toInt (by omega)]; omega) (by rw [nI_toInt (by omega), ← b5, ← g5, a5]; exact hk)
          rw [nI_toInt (by omega)] at k1 k2
          rw [show ((k : Int)).toNat = k from rfl] at k1 k2
          rw [← k1, ← k2, g5]
      · rintro ⟨_, g2, _, g4⟩
        obtain ⟨g5, g6⟩ := g4 c9
        refine Or.inr ⟨⟨fun _ => d9, fun _ => c9⟩, g2, Or.inl (sg_same a8 a9 a10 b8 b9 b10 (by rw [a5, b5]; exact g5) (fun k hk => ?_))⟩
        rw [a5] at hk
        have k1 := a7 (nI k) (by rw [nI_toInt (by omega)]; omega) (by rw [nI_toInt (by omega)]; exact hk)
        have k2 := b7 (nI k) (by rw [nI_toInt (by omega)]; omega) (by rw [nI_toInt (by omega)]; omega)
        rw [nI_toInt (by omega)] at k1 k2
        rw [show ((k : Int)).toNat = k from rfl] at k1 k2
        rw [k1, k2]
        exact g6 k hk
/-- the types of a declaration and the library's function -/
theorem ag_lib (K : LKx w σ τ vs o) (hl : (σ 0 36).toInt ≤ 10000) (he : (e : Int) < (σ 0 36).toInt) (hdd : dd.toInt = ((e + 4 : Nat) : Int)) (hj : j < 4) (hv : v.toInt = (j : Int)) : AGc w dd v ↔ HLm σ e j := by
  obtain ⟨e1, _, _, _, e9, _⟩ := fl_at K he hl hdd
  obtain ⟨_, _, v1, v26, v27⟩ := lib_fl K hj hv
  obtain ⟨h, hG, r, re, pk, rf⟩ := K
  obtain ⟨⟨a1, _⟩, _, a3, a4, _⟩ := rf.2.1 e he
  have x26 : atv 10100 (w 26) dd = w 26 (e + 4) := atv_at hdd (by omega)
  have x27 : atv 10100 (w 27) dd = w 27 (e + 4) := atv_at hdd (by omega)
  have x25 : FLb (atv 10100 (w 25) dd) 1 ↔ FLq w (e + 4) 1 := by rw [atv_at hdd (by omega)]; exact Iff.rfl
  unfold AGc HLm
  rw [x26, x27, e1, v26, v27, a1]
  have nv : ¬ v.toInt < 0 := by omega
  by_cases c9 : (σ 9 e).toInt = 1
  · constructor
    · rintro (g | ⟨g, _⟩)
      · exact absurd g nv
      · exact absurd c9 (g.2 v1)
    · rintro ⟨g, _⟩
      omega
  · have ye : FLq w (e + 4) 1 := x25.1 (e1.2 c9)
    obtain ⟨a5, a6, a7, l, a8, a9, a10⟩ := a4 ye
    obtain ⟨s1, s2⟩ := sg_says a8 a9 a10
    have vlt := sgv_lt a9
    have d9 : (σ 9 e).toInt = 2 := by omega
    have eg : (w 27 (e + 4)).toInt = 16777216 * (l.length : Int) + (sgV l : Int) := by
      rw [a10]
      unfold sgI sgX
      omega
    have len : (l.length : Int) = (σ 15 e).toInt := by rw [← s1]; exact a5
    by_cases j0 : j = 0
    · rw [if_pos j0, if_pos j0]
      constructor
      · rintro (g | ⟨_, g2, g3⟩)
        · exact absurd g nv
        · have g4 : (w 27 (e + 4)).toInt = 0 := by
            rcases g3 with g | ⟨g, _⟩
            · exact g
            · exact absurd c9 g
          exact ⟨d9, fun _ => ⟨g2, by omega⟩, fun g => absurd (by omega : (j : Int) = 0) g⟩
      · rintro ⟨_, g2, _⟩
        obtain ⟨g3, g4⟩ := g2 (by omega)
        have l0 : l.length = 0 := by omega
        have ln : l = [] := List.eq_nil_of_length_eq_zero l0
        refine Or.inr ⟨⟨fun _ => v1, fun _ => c9⟩, g3, Or.inl ?_⟩
        rw [eg, ln]
        rfl
    · rw [if_neg j0, if_neg j0]
      constructor
      · rintro (g | ⟨_, g2, g3⟩)
        · exact absurd g nv
        · have g4 : (w 27 (e + 4)).toInt = 16777216 := by
            rcases g3 with g | ⟨g, _⟩
            · exact g
            · exact absurd c9 g
          have l1 : l.length = 1 := by
            have p8 : 8 ^ l.length ≤ 8 ^ 8 := Nat.pow_le_pow_right (by decide) a8
            have : (8 : Nat) ^ 8 = 16777216 := by decide
            omega
          obtain ⟨y, hy⟩ := List.length_eq_one_iff.mp l1
          have v0 : sgV l = 0 := by omega
          rw [hy] at v0
          have y0 : y.1 = 0 := by
            have : y.1 + 8 * 0 = 0 := v0
            omega
          refine ⟨d9, fun g => absurd (by omega : j = 0) j0, fun _ => ⟨g2, by omega, ?_⟩⟩
          have k1 := a7 (nI 0) (by rw [nI_toInt (by decide)]; omega) (by rw [nI_toInt (by decide)]; omega)
          rw [s2 0 y (by rw [hy]; rfl), nI_toInt (by decide), y0] at k1
          exact k1.symm
      · rintro ⟨_, _, g2⟩
        obtain ⟨g3, g4, g5⟩ := g2 (by omega)
        have l1 : l.length = 1 := by omega
        obtain ⟨y, hy⟩ := List.length_eq_one_iff.mp l1
        have k1 := a7 (nI 0) (by rw [nI_toInt (by decide)]; omega) (by rw [nI_toInt (by decide)]; omega)
        rw [s2 0 y (by rw [hy]; rfl), nI_toInt (by decide)] at k1
        have k2 : (y.1 : Int) = 0 := k1.trans g5
        refine Or.inr ⟨⟨fun _ => v1, fun _ => c9⟩, g3, Or.inl ?_⟩
        rw [eg, l1, hy]
        show 16777216 * (((1 : Nat)) : Int) + ((y.1 + 8 * 0 : Nat) : Int) = 16777216
        omega
end LEQ
