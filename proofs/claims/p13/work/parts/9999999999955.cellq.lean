/-! cell(), both sides -/
section CLQ
variable {w σ τ : St} {vs : List Nat} {v v2 x d : Int32} {o p f j : Nat}
/-- the declarations of what is linked as p-th -/
theorem lr_at (K : LKx w σ τ vs o) (hl : LYp w σ p) (hp : p < 100) (hx : x.toInt = (p : Int) + 1) : LOi (LQd w) x = fO σ (LPo σ p) + 4 ∧ HIi (LQd w) x = fO σ (LPo σ p + 1) + 4 ∧ 0 ≤ fO σ (LPo σ p) ∧ fO σ (LPo σ p + 1) ≤ (σ 0 36).toInt := by
  obtain ⟨h, hG, r, re, pk, rf⟩ := K
  obtain ⟨l1, l2, _⟩ := hl
  have o100 := h.1.2
  have h13 := h.1.1
  have r1 := r.1
  have hO : (LPo σ p : Int) = (σ 41 p).toInt - 1 := by unfold LPo; omega
  have e57 : atv 101 (w 57) x = w 57 (p + 1) := atv_at (by rw [hx]; rfl) (by omega)
  have w1 := re.1 (LPo σ p) (by omega)
  have w2 := re.1 (LPo σ p + 1) (by omega)
  have hb := (hd_le h r re).2 (LPo σ p) (by omega)
  rw [lk_lo, lk_hi, e57, if_pos (by omega), atv_at (j := LPo σ p) (by rw [sb (by rw [i1]; omega) (by rw [i1]; omega), i1]; omega) (by omega), atv_at (j := LPo σ p + 1) (by omega) (by omega), w1, w2]
  exact ⟨rfl, rfl, hb.1, hb.2⟩
theorem lr_lib (K : LKx w σ τ vs o) (h57 : (w 57 0).toInt = 0) (hx : x.toInt = 0) : LOi (LQd w) x = 0 ∧ HIi (LQd w) x = 4 := by
  have e57 : atv 101 (w 57) x = w 57 0 := atv_at (j := 0) hx (by decide)
  rw [lk_lo, lk_hi, e57, if_neg (by omega), atv_at (j := 0) h57 (by decide)]
  exact ⟨rfl, K.1.2.1.1⟩
theorem tr_fit (K : LKx w σ τ vs o) (hf : (f : Int) < (σ 0 36).toInt) (hd : d.toInt = ((f + 4 : Nat) : Int)) : CDi w (w 1) 16000 0 (w 0 1) d ↔ TRm σ f := by
  have hl := kx_le K
  obtain ⟨_, f2, f4, _, _, _⟩ := fl_at K hf hl hd
  obtain ⟨h, hG, r, re, pk, rf⟩ := K
  have h01 : (w 0 1).toInt = (σ 0 1).toInt := r.2.2.2.1
  have h1 : ∀ j, (w 1 j).toInt = (σ 1 j).toInt := r.2.2.2.2.2
  obtain ⟨_, _, _, _, b1, b2, b3, b4, b5, b6, b7⟩ := rf.2.1 f hf
  have n57 := h.2.2.2.2.1.2.2
  have f65 := h.2.2.2.2.1.1
  have y1 : atv 10100 (w 29) d = w 29 (f + 4) := atv_at hd (by omega)
  have y2 : atv 10100 (w 29) (d - (1 : Int32)) = w 29 (f + 3) := atv_at (by rw [sb (by rw [i1]; omega) (by rw [i1]; omega), i1]; omega) (by omega)
  have z2 : ((w 29 (f + 4)) - (w 29 (f + 3))).toInt = (σ 19 f).toInt := by rw [sb (by omega) (by omega)]; exact b1
  have e0 : (0 : Int32).toInt = 0 := rfl
  have by' : ∀ k : Nat, (k : Int) < (σ 19 f).toInt → (w 30 ((w 29 (f + 3)).toInt + (k : Int)).toNat).toInt = nfm σ f k := fun k hk => by
    unfold nfm
    rw [show ((w 29 (f + 3)).toInt + (k : Int)).toNat = (w 29 (f + 3)).toInt.toNat + k from by omega, show ((σ 18 f).toInt + (k : Int)).toNat = (σ 18 f).toInt.toNat + k from by omega]
    exact (b7 k hk).1
  unfold CDi NMq TRm
  rw [f2, f4, y1, y2, z2, e0]
  constructor
  · rintro ⟨c1, c2, c3, c4⟩
    refine ⟨⟨Classical.byContradiction c2, c1⟩, by rw [← h01]; exact c3, fun k hk => ?_⟩
    have q := (c4 k (by omega)).2.2.2
    rw [by' k (by omega), show ((0 : Int) + (k : Int)).toNat = k from by omega, h1] at q
    exact q
  · rintro ⟨⟨c1, c2⟩, c3, c4⟩
    refine ⟨c2, fun g => g c1, by rw [h01]; exact c3, fun k hk => ⟨by omega, Int.le_refl _, by show (0 : Int) + (k : Int) < ((16000 : Nat) : Int); omega, ?_⟩⟩
    rw [by' k (by omega), show ((0 : Int) + (k : Int)).toNat = k from by omega, h1]
    exact c4 k (by omega)
theorem tr_lib (K : LKx w σ τ vs o) (hj : j < 4) (hd : d.toInt = (j : Int)) : CDi w (w 1) 16000 0 (w 0 1) d ↔ LBt σ j := by
  obtain ⟨l4, l2, _, _, _⟩ := lib_fl K hj hd
  obtain ⟨h, hG, r, re, pk, rf⟩ := K
  have h01 : (w 0 1).toInt = (σ 0 1).toInt := r.2.2.2.1
  have h1 : ∀ j, (w 1 j).toInt = (σ 1 j).toInt := r.2.2.2.2.2
  have f65 := h.2.2.2.2.1.1
  have lb := lb_ends j hj
  have y1 : (atv 10100 (w 29) d).toInt = ((lbS j + lbL j : Nat) : Int) := by
    rw [atv_at hd (by omega), (rf.1.1 j hj).2.2.2.2]
    exact lb.1
  have y2 : (atv 10100 (w 29) (d - (1 : Int32))).toInt = (lbS j : Int) := by
    have ed : (d - (1 : Int32)).toInt = (j : Int) - 1 := by rw [sb (by rw [i1]; omega) (by rw [i1]; omega), i1, hd]
    by_cases j0 : j = 0
    · rw [j0] at ed ⊢
      rcases atv_cases 10100 (w 29) (d - (1 : Int32)) with ⟨g1, g2⟩ | ⟨i, g1, g2, g3⟩
      · rw [g1]; rfl
      · omega
    · rw [atv_at (j := j - 1) (by rw [ed]; omega) (by omega), (rf.1.1 (j - 1) (by omega)).2.2.2.2, lb_starts (j - 1) (by omega), show j - 1 + 1 = j from by omega]
  have z2 : ((atv 10100 (w 29) d) - (atv 10100 (w 29) (d - (1 : Int32)))).toInt = (lbL j : Int) := by rw [sb (by omega) (by omega)]; omega
  have lby : ∀ k : Nat, k < lbL j → (w 30 (lbS j + k)).toInt = (chI (SF 2 (lbK j + k))).toInt := fun k hk => by
    rw [rf.1.2 (lbS j + k) (by omega)]
    exact lb_bytes j hj k hk
  have e0 : (0 : Int32).toInt = 0 := rfl
  unfold CDi NMq LBt
  rw [y2, z2, e0]
  constructor
  · rintro ⟨_, _, c3, c4⟩
    refine ⟨by rw [← h01]; exact c3, fun k hk => ?_⟩
    have q := (c4 k (by omega)).2.2.2
    rw [show ((lbS j : Int) + (k : Int)).toNat = lbS j + k from by omega, lby k hk, show ((0 : Int) + (k : Int)).toNat = k from by omega, h1] at q
    exact q
  · rintro ⟨c3, c4⟩
    refine ⟨l4, l2, by rw [h01]; exact c3, fun k hk => ⟨by omega, Int.le_refl _, by show (0 : Int) + (k : Int) < ((16000 : Nat) : Int); omega, ?_⟩⟩
    rw [show ((lbS j : Int) + (k : Int)).toNat = lbS j + k from by omega, lby k (by omega), show ((0 : Int) + (k : Int)).toNat = k from by omega, h1]
    exact c4 k (by omega)
/-- cell(): one answer -/
theorem cl_eq (K : LKx w σ τ vs o) (ly : LYr w σ) (hr : (w 10 2).toInt ≠ 0 ↔ 0 ≤ (σ 0 70).toInt) (c : CZc w v) (m : CZm σ v2) : v2 = v := by
  by_cases h0 : (w 10 2).toInt = 0
  · rw [c.1 h0, m.1 (by have := mt hr.2 (fun g => g h0); omega)]
  obtain ⟨d, hf, cn, cp⟩ := c.2 h0
  obtain ⟨⟨n7, n0, n100⟩, z57, lp, _⟩ := ly h0
  have mm := m.2 (hr.1 h0)
  clear m c
  have hl := kx_le K
  have z0 : ((0 : Int32)).toInt = 0 := rfl
  have hx : ∀ p : Nat, (p : Int) < (σ 0 70).toInt → (nI (p + 1)).toInt = (p : Int) + 1 := fun p hp => by rw [nI_toInt (by omega)]; rfl
  have fit : ∀ p f : Nat, (p : Int) < (σ 0 70).toInt → InO σ (LPo σ p) f → (nI (f + 4)).toInt = ((f + 4 : Nat) : Int) ∧ (f : Int) < (σ 0 36).toInt ∧ RGi (LQd w) (nI (p + 1)) (nI (f + 4)) ∧ (CDi w (w 1) 16000 0 (w 0 1) (nI (f + 4)) ↔ TRm σ f) := fun p f hp hi => by
    obtain ⟨a1, a2, a3, a4⟩ := lr_at K (lp p hp) (by omega) (hx p hp)
    have i1 := hi.1
    have i2 := hi.2
    have hd : (nI (f + 4)).toInt = ((f + 4 : Nat) : Int) := nI_toInt (by omega)
    exact ⟨hd, by omega, ⟨by omega, by omega⟩, tr_fit K (by omega) hd⟩
  have lr0 := lr_lib K z57 z0
  have libr : ∀ j : Nat, j < 4 → RGi (LQd w) 0 (nI j) ∧ (CDi w (w 1) 16000 0 (w 0 1) (nI j) ↔ LBt σ j) := fun j hj => by
    have hd : (nI j).toInt = (j : Int) := nI_toInt (by omega)
    exact ⟨⟨by omega, by omega⟩, tr_lib K hj hd⟩
  have notlib : ∀ p f : Nat, (p : Int) < (σ 0 70).toInt → InO σ (LPo σ p) f → TRm σ f → ∀ j, j < 4 → ¬ LBt σ j := fun p f hp hi tr j hj hb => by
    obtain ⟨_, _, _, _, _, _, n31⟩ := lp p hp
    obtain ⟨⟨t1, t2⟩, t3, t4⟩ := tr
    refine n31 f hi t1 (by rw [t2]; decide) j hj ⟨by rw [t3, ← hb.1], fun k hk => ?_⟩
    rw [hb.2 k hk, t4 k (by have := hb.1; omega)]
  -- where the class finds it
  have place : ∀ x : Int32, 0 ≤ x.toInt → x.toInt < (w 10 7).toInt → RGi (LQd w) x d → CDi w (w 1) 16000 0 (w 0 1) d → (∃ j : Nat, j < 4 ∧ x = 0 ∧ d.toInt = (j : Int) ∧ LBt σ j) ∨ ∃ p f : Nat, (p : Int) < (σ 0 70).toInt ∧ x = nI (p + 1) ∧ d = nI (f + 4) ∧ InO σ (LPo σ p) f ∧ TRm σ f := fun x x0 x1 rg cd => by
    by_cases e0 : x.toInt = 0
    · have ex : x = 0 := ieq e0
      rw [ex] at rg
      have b1 := rg.1
      have b2 := rg.2
      obtain ⟨j, hj⟩ : ∃ j : Nat, d.toInt = (j : Int) := ⟨d.toInt.toNat, by omega⟩
      exact Or.inl ⟨j, by omega, ex, hj, (tr_lib K (by omega) hj).1 cd⟩
    · obtain ⟨p, hp⟩ : ∃ p : Nat, x.toInt = (p : Int) + 1 := ⟨(x.toInt - 1).toNat, by omega⟩
      have hpn : (p : Int) < (σ 0 70).toInt := by omega
      obtain ⟨a1, a2, a3, a4⟩ := lr_at K (lp p hpn) (by omega) hp
      have b1 := rg.1
      have b2 := rg.2
      obtain ⟨f, hf⟩ : ∃ f : Nat, d.toInt = ((f + 4 : Nat) : Int) := ⟨(d.toInt - 4).toNat, by omega⟩
      have hi : InO σ (LPo σ p) f := ⟨by omega, by omega⟩
      obtain ⟨c1, _, _, c4⟩ := fit p f hpn hi
      have ed : d = nI (f + 4) := ieq (by omega)
      rw [ed] at cd
      exact Or.inr ⟨p, f, hpn, ieq (by rw [hp, hx p hpn]), ed, hi, c4.1 cd⟩
  rcases mm with ⟨p, f, hp, hi, tr, e1, e2, v1, v9⟩ | ⟨no, yes, non⟩
  · obtain ⟨c1, c2, c3, c4⟩ := fit p f hp hi
    rcases hf with ⟨_, g⟩ | ⟨x, ⟨x0, x1⟩, rg, cd, g1, g2⟩
    · exact absurd (c4.2 tr) (g (nI (p + 1)) (by rw [hx p hp]; omega) (by rw [hx p hp]; omega) (nI (f + 4)) c3)
    · rcases place x x0 x1 rg cd with ⟨j, hj, _, _, hb⟩ | ⟨p', f', hp', ex, ed, hi', tr'⟩
      · exact absurd hb (notlib p f hp hi tr j hj)
      · have ep : p' = p := by
          rcases Nat.lt_trichotomy p' p with q | q | q
          · exact absurd tr' (e1 p' q f' hi')
          · exact q
          · exact absurd (c4.2 tr) (g1 (nI (p + 1)) (by rw [hx p hp]; omega) (by rw [ex, hx p hp, hx p' hp']; omega) (nI (f + 4)) c3)
        rw [ep] at ex hi'
        obtain ⟨d1, _, _, _⟩ := fit p f' hp hi'
        have ef : f' = f := by
          rcases Nat.lt_trichotomy f' f with q | q | q
          · exact absurd tr' (e2 f' hi' q)
          · exact q
          · rw [ex] at g2
            exact absurd (c4.2 tr) (g2 (nI (f + 4)) c3 (by rw [ed, c1, d1]; omega))
        rw [ef] at ed
        obtain ⟨f1, _, _, _, f9, _⟩ := fl_at K c2 hl c1
        obtain ⟨q1, q2⟩ := cp (by rw [ed, c1]; omega)
        rw [ed] at q1 q2
        by_cases c9 : (σ 9 f).toInt = 1
        · rw [v9 c9, q2 (fun g => (f1.1 g) c9), atv_at c1 (by omega)]
          obtain ⟨_, _, _, _, _, le, _⟩ := lp p hp
          exact (((le f hi).1 (by rw [tr.1.2]; decide)).1 c9).1.symm
        · rw [v1 c9, q1 (f1.2 c9)]
  · rcases hf with ⟨dv, g⟩ | ⟨x, ⟨x0, x1⟩, rg, cd, _, _⟩
    · rw [cn (by rw [dv]; decide)]
      exact non (fun j hj hb => g 0 (by omega) (by omega) (nI j) (libr j hj).1 ((libr j hj).2.2 hb))
    · rcases place x x0 x1 rg cd with ⟨j, hj, _, hd, hb⟩ | ⟨p', f', hp', ex, ed, hi', tr'⟩
      · obtain ⟨q1, _⟩ := cp (by omega)
        rw [yes ⟨j, hj, hb⟩, q1 (lib_fl K hj hd).2.2.1]
      · exact absurd tr' (no p' hp' f' hi')
end CLQ
