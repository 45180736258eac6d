section
/-! the steps of expressions: the class's, names and strings -/
/-- a name's token -/
def TNq (w : St) (t : Nat) : Prop := t < 16002 ∧ 0 ≤ (w 15 t).toInt ∧ 0 ≤ (w 14 t).toInt ∧ (w 15 t).toInt + (w 14 t).toInt ≤ 16000
def NMw (w : St) (t u : Nat) : Prop := (w 14 t).toInt = (w 14 u).toInt ∧ ∀ i : Nat, (i : Int) < (w 14 t).toInt → (w 1 ((w 15 t).toInt.toNat + i)).toInt = (w 1 ((w 15 u).toInt.toNat + i)).toInt
/-- the token of the j-th local that is seen; of the i-th name outside of functions -/
def ltk (w : St) (j : Nat) : Nat := (w 40 ((w 44 j).toInt.toNat)).toInt.toNat
def otk (w : St) (i : Nat) : Nat := (w 38 i).toInt.toNat
def LOKq (w : St) (S : Nat) : Prop := (w 6 15).toInt = (S : Int) ∧ S ≤ 100 ∧ ∀ j, j < S → (0 ≤ (w 44 j).toInt ∧ (w 44 j).toInt < 100) ∧ 0 ≤ (w 40 ((w 44 j).toInt.toNat)).toInt ∧ TNq w (ltk w j)
def OOKq (w : St) (n : Nat) : Prop := (w 6 7).toInt = (n : Int) ∧ n ≤ 100 ∧ (n : Int) ≤ (w 5 1).toInt ∧ (w 5 1).toInt ≤ 10100 ∧ ∀ i, i < n → 0 ≤ (w 38 i).toInt ∧ TNq w (otk w i)
def LFq (w : St) (S lo u : Nat) (v : Int) : Prop := (∃ j, lo ≤ j ∧ j < S ∧ NMw w (ltk w j) u ∧ (∀ j', j < j' → j' < S → ¬ NMw w (ltk w j') u) ∧ v = (w 44 j).toInt) ∨ ((∀ j, lo ≤ j → j < S → ¬ NMw w (ltk w j) u) ∧ v = -1)
def OFq (w : St) (n u : Nat) (v : Int) : Prop := (∃ i : Nat, i < n ∧ NMw w (otk w i) u ∧ (∀ i', i' < i → ¬ NMw w (otk w i') u) ∧ v = i) ∨ ((∀ i, i < n → ¬ NMw w (otk w i) u) ∧ v = -1)
def STy (j : Nat) (a b : St) : Prop := Ko [(4, 1), (6, 3), (6, 4), (7, 7)] [24, 43, 25, 39] a b ∧ LOW j a b
def STs (j : Nat) (a b : St) : Prop := Ko [(4, 1), (6, 3), (6, 4), (7, 7), (6, 5), (5, 9)] [24, 43, 17, 31, 32, 33] a b ∧ LOW j a b
section XCP
variable {w s t : St} {j : Nat} {k ty h z f i : Int} {x a b c d : Int32}
theorem sty_of (h : STx j w s) : STy j w s := ⟨ko_sub h.1 rfl rfl, h.2⟩
theorem sts_of (h : STx j w s) : STs j w s := ⟨ko_sub h.1 rfl rfl, h.2⟩
theorem sty_tr (h : STy j w s) (g : STy j s t) : STy j w t := ⟨ko_tr h.1 g.1, low_tr h.2 g.2⟩
theorem sts_tr (h : STs j w s) (g : STs j s t) : STs j w t := ⟨ko_tr h.1 g.1, low_tr h.2 g.2⟩
theorem low_fs {n : Nat} {fs : List (Nat × Nat)} {cs : List Nat} (hk : Kp fs cs w s) (h1 : ∀ c k, 65 ≤ c → fs.contains (c, k) = false) (h2 : ∀ c, 65 ≤ c → cs.contains c = false) : LOW n w s := fun i m _ => hk (65 + i) m (h1 _ _ (by omega)) (h2 _ (by omega))
theorem low25 {n : Nat} (hk : Kp [] [25] w s) : LOW n w s := fun i m _ => hk (65 + i) m rfl (by
  simp only [List.contains_cons, List.contains_nil, Bool.or_false, beq_eq_false_iff_ne, ne_eq]
  omega)
theorem low39 {n : Nat} (hk : Kp [] [39] w s) : LOW n w s := fun i m _ => hk (65 + i) m rfl (by
  simp only [List.contains_cons, List.contains_nil, Bool.or_false, beq_eq_false_iff_ne, ne_eq]
  omega)
theorem xl_sameName {Q : Int32 → Prop} {t u : Nat} (ht : a.toInt = (t : Int)) (hu : b.toInt = (u : Int)) (tn : TNq w t) (un : TNq w u) (kk : ∀ v : Int32, (v.toInt = 0 ∨ v.toInt = 1) → (v.toInt = 1 ↔ NMw w t u) → Q v) : pk_X10_sameName a b w Q := by
  obtain ⟨t1, t2, t3, t4⟩ := tn
  obtain ⟨u1, u2, u3, u4⟩ := un
  have e1 : atv 16002 (w 14) a = w 14 t := atv_at ht t1
  have e2 : atv 16002 (w 14) b = w 14 u := atv_at hu u1
  have e3 : atv 16002 (w 15) a = w 15 t := atv_at ht t1
  have e4 : atv 16002 (w 15) b = w 15 u := atv_at hu u1
  unfold pk_X10_sameName
  rw [e1, e2, e3, e4]
  refine ⟨fun e => ⟨fun y => 0 ≤ y.toInt ∧ y.toInt ≤ (w 14 t).toInt ∧ ∀ i : Nat, (i : Int) < y.toInt → (w 1 ((w 15 t).toInt.toNat + i)).toInt = (w 1 ((w 15 u).toInt.toNat + i)).toInt, ⟨by decide, t3, fun i hi => by rw [i0] at hi; omega⟩, ?_⟩, fun e => kk 0 (Or.inl rfl) ⟨fun hx => absurd hx (by decide), fun hx => absurd hx.1 e⟩⟩
  rintro y ⟨y1, y2, y3⟩
  have a1 : ((w 15 t) + y).toInt = (w 15 t).toInt + y.toInt := ad (by omega) (by omega)
  have a2 : ((w 15 u) + y).toInt = (w 15 u).toInt + y.toInt := ad (by omega) (by omega)
  have n1 : ((w 15 t) + y).toNatClampNeg = (w 15 t).toInt.toNat + y.toInt.toNat := by rw [nt', a1]; omega
  have n2 : ((w 15 u) + y).toNatClampNeg = (w 15 u).toInt.toNat + y.toInt.toNat := by rw [nt', a2]; omega
  rw [n1, n2]
  refine ⟨fun c1 => kk 1 (Or.inr rfl) ⟨fun _ => ⟨e, fun i hi => y3 i (by omega)⟩, fun _ => rfl⟩, fun c1 => ⟨fun c2 => by omega, fun c2 => ⟨fun c3 => by omega, fun c3 _ _ => ⟨fun c4 => ⟨?_, ?_, fun i hi => ?_⟩, fun c4 => kk 0 (Or.inl rfl) ⟨fun hx => absurd hx (by decide), fun hx => absurd (hx.2 y.toInt.toNat (by omega)) c4⟩⟩⟩⟩⟩
  · rw [ad1 (by omega)]
    omega
  · rw [ad1 (by omega)]
    omega
  · rw [ad1 (by omega)] at hi
    by_cases q : (i : Int) = y.toInt
    · have : i = y.toInt.toNat := by omega
      subst this
      exact c4
    · exact y3 i (by omega)
theorem xl_localFrom {Q : Int32 → Prop} {S lo u : Nat} (ha : a.toInt = (lo : Int)) (hu : b.toInt = (u : Int)) (un : TNq w u) (hS : LOKq w S) (kk : ∀ v : Int32, LFq w S lo u v.toInt → Q v) : pk_X11_localFrom a b w Q := by
  obtain ⟨s1, s2, s3⟩ := hS
  unfold pk_X11_localFrom
  have e0 : ((w 6 15) - (1 : Int32)).toInt = (S : Int) - 1 := by rw [sb1 (by omega), s1]
  refine ⟨fun y => -1 ≤ y.toInt ∧ y.toInt < S ∧ ∀ j : Nat, y.toInt < j → j < S → ¬ NMw w (ltk w j) u, ⟨by omega, by omega, fun j h1 h2 => by omega⟩, ?_⟩
  rintro y ⟨y1, y2, y3⟩
  refine ⟨fun c => kk _ (Or.inr ⟨fun j h1 h2 => y3 j (by omega) h2, by decide⟩), fun c => ?_⟩
  obtain ⟨m, hm⟩ : ∃ m : Nat, y.toInt = m := ⟨y.toInt.toNat, by omega⟩
  obtain ⟨⟨r1, r2⟩, r3, r4⟩ := s3 m (by omega)
  have e1 : atv 100 (w 44) y = w 44 m := atv_at hm (by omega)
  have e2 : atv 100 (w 40) (w 44 m) = w 40 ((w 44 m).toInt.toNat) := atv_at (j := (w 44 m).toInt.toNat) (by omega) (by omega)
  rw [e1, e2]
  refine xl_sameName (t := ltk w m) (by unfold ltk; omega) hu r4 un (fun v hv0 hv => ⟨fun c1 => ?_, fun c1 => kk _ (Or.inl ⟨m, by omega, by omega, hv.mp (by omega), fun j' h1 h2 => y3 j' (by omega) h2, rfl⟩)⟩)
  have e3 : (y + (-1)).toInt = y.toInt - 1 := dc1 (by omega)
  refine ⟨?_, ?_, fun j' h1 h2 => ?_⟩
  · rw [e3]
    clear e3
    omega
  · rw [e3]
    clear e3
    omega
  · rw [e3] at h1
    clear e3
    by_cases q : j' = m
    · subst q
      intro hx
      have := hv.mpr hx
      omega
    · exact y3 j' (by omega) h2
theorem xl_outerOf {Q : Int32 → Prop} {n u : Nat} (hu : b.toInt = (u : Int)) (un : TNq w u) (hO : OOKq w n) (kk : ∀ v : Int32, ∀ r, OFq w n u r → ((r < 0 ∧ v.toInt < 0) ∨ (0 ≤ r ∧ v.toInt = (w 5 1).toInt - n + r)) → Q v) : pk_X11_outerOf b w Q := by
  obtain ⟨s1, s2, s3, s4, s5⟩ := hO
  unfold pk_X11_outerOf
  refine ⟨fun y => 0 ≤ y.toInt ∧ y.toInt ≤ n ∧ ∀ i : Nat, (i : Int) < y.toInt → ¬ NMw w (otk w i) u, ⟨by decide, by rw [i0]; omega, fun i h => by rw [i0] at h; omega⟩, ?_⟩
  rintro y ⟨y1, y2, y3⟩
  refine ⟨fun c => kk _ (-1) (Or.inr ⟨fun i hi => y3 i (by omega), rfl⟩) (Or.inl ⟨by omega, by decide⟩), fun c => ?_⟩
  obtain ⟨m, hm⟩ : ∃ m : Nat, y.toInt = m := ⟨y.toInt.toNat, by omega⟩
  obtain ⟨r1, r2⟩ := s5 m (by omega)
  have e1 : atv 100 (w 38) y = w 38 m := atv_at hm (by omega)
  have e2 : ((w 5 1) - (w 6 7)).toInt = (w 5 1).toInt - n := by rw [sb (by omega) (by omega), s1]
  have e3 : (((w 5 1) - (w 6 7)) + y).toInt = (w 5 1).toInt - n + m := by rw [ad (by omega) (by omega), e2, hm]
  rw [e1]
  refine xl_sameName (t := otk w m) (by unfold otk; omega) hu r2 un (fun v hv0 hv => ⟨fun c1 => ⟨by rw [ad1 (by omega)]; omega, by rw [ad1 (by omega)]; omega, fun i hi => ?_⟩, fun c1 => kk _ m (Or.inl ⟨m, by omega, hv.mp (by omega), fun i hi => y3 i (by omega), rfl⟩) (Or.inr ⟨by omega, e3⟩)⟩)
  rw [ad1 (by omega)] at hi
  by_cases q : i = m
  · subst q
    intro hx
    have := hv.mpr hx
    omega
  · exact y3 i (by omega)
theorem xl_is {Q : Int32 → Prop} (kk : ∀ v : Int32, (v.toInt = 0 ∨ v.toInt = 1) → (v.toInt ≠ 0 ↔ ((atv 10100 (w 25) a) &&& b).toInt ≠ 0) → Q v) : pk_X8_is a b w Q := by
  unfold pk_X8_is
  exact ⟨fun c => kk 0 (Or.inl rfl) ⟨fun hx => absurd rfl hx, fun hx => absurd c hx⟩, fun c => kk 1 (Or.inr rfl) ⟨fun _ => c, fun _ => by decide⟩⟩
theorem xl_mark {Q : St → Prop} {dn : Nat} (hd : a.toInt = (dn : Int)) (hdn : dn < 10100) (kk : ∀ s, Kp [] [25] w s → (∀ m, s 25 m = if m = dn then (w 25 dn) ||| b else w 25 m) → Q s) : pk_X8_mark a b w Q := by
  unfold pk_X8_mark
  refine kk _ (kp_F kp_rf rfl) (fun m => ?_)
  rw [rdF_eq, setv_at hd hdn, atv_at hd hdn]
theorem xl_mark0 {Q : St → Prop} (hd : a.toInt < 0) (kk : Q w) : pk_X8_mark a b w Q := by
  unfold pk_X8_mark
  have e : setv 10100 (w 25) a ((atv 10100 (w 25) a) ||| b) = w 25 := setv_out (Or.inl hd)
  rw [e, upF_id]
  exact kk
theorem lf_in {S u v : Nat} (h : LFq w S 0 u (v : Int)) : ∃ j', j' < S ∧ (w 44 j').toInt.toNat = v := by
  rcases h with ⟨j', _, h1, _, _, h2⟩ | ⟨_, h2⟩
  · exact ⟨j', h1, by omega⟩
  · omega
/-- a name: a local, a variable outside of functions, or a fault -/
theorem xt_named {Q : St → Prop} {S n u : Nat} (hc : (w 7 7).toInt = (j : Int)) (hj : j < 500) (h0 : (w 6 3).toInt = 0) (hu : a.toInt = (u : Int)) (un : TNq w u) (hS : LOKq w S) (hO : OOKq w n) (hty : (∀ j', j' < S → -1 ≤ (w 41 ((w 44 j').toInt.toNat)).toInt ∧ (w 41 ((w 44 j').toInt.toNat)).toInt ≤ 9) ∧ (∀ i, i < n → -1 ≤ (w 26 ((w 5 1).toInt.toNat - n + i)).toInt ∧ (w 26 ((w 5 1).toInt.toNat - n + i)).toInt ≤ 9))
    (kl : ∀ s (v : Nat), LFq w S 0 u v → v < 100 → STx j w s → s 6 3 = w 6 3 → (s 7 7).toInt = (j : Int) + 1 → AVq s (65 + j) (if (w 42 v).toInt < 0 then 1 else 0) (if (w 42 v).toInt < 0 then (w 41 v).toInt else (w 41 v).toInt + 1) 1 0 0 0 v → Q s)
    (ko : ∀ s (r : Nat), LFq w S 0 u (-1) → OFq w n u r → ∀ dn : Nat, (dn : Int) = (w 5 1).toInt - n + r → dn < 10100 → ((w 25 dn) &&& (1 : Int32)).toInt = 0 → STy j w s → s 6 3 = w 6 3 → (s 7 7).toInt = (j : Int) + 1 → s 39 = w 39 → (∀ m, s 25 m = if m = dn then (w 25 dn) ||| (8 : Int32) else w 25 m) → AVq s (65 + j) (if (w 27 dn).toInt < 0 then 2 else 0) (if (w 27 dn).toInt < 0 then (w 26 dn).toInt else (w 26 dn).toInt + 1) 1 0 (if (w 27 dn).toInt < 0 then 0 else 2) 0 dn → Q s)
    (kb : ∀ s, (LFq w S 0 u (-1) ∧ (OFq w n u (-1) ∨ ∃ r : Nat, OFq w n u r ∧ ∀ dn : Nat, (dn : Int) = (w 5 1).toInt - n + r → ((w 25 dn) &&& (1 : Int32)).toInt ≠ 0)) → (s 6 3).toInt ≠ 0 → Q s) : pk_X2_named a w Q := by
  unfold pk_X2_named
  refine xl_localFrom (lo := 0) rfl hu un hS (fun lv hlv => ?_)
  have hO' := hO
  obtain ⟨o1, o2, o3, o4, o5⟩ := hO'
  -- what was found
  refine ⟨fun y => (0 ≤ lv.toInt ∧ y.toInt = -1) ∨ (lv.toInt < 0 ∧ ∃ r, OFq w n u r ∧ ((r < 0 ∧ y.toInt < 0) ∨ (0 ≤ r ∧ y.toInt = (w 5 1).toInt - n + r))), ?_, fun c => Or.inl ⟨c, by decide⟩, fun c => xl_outerOf hu un hO (fun v r hr hv => Or.inr ⟨c, r, hr, hv⟩)⟩
  rintro y hy
  have lvr : lv.toInt < 0 → lv.toInt = -1 := fun hx => by
    rcases hlv with ⟨j1, q1, q2, q3, q4, q5⟩ | ⟨q1, q2⟩
    · have := (hS.2.2 j1 q2).1.1
      omega
    · exact q2
  refine ⟨0 ≤ lv.toInt ∨ (lv.toInt < 0 ∧ 0 ≤ y.toInt ∧ ((atv 10100 (w 25) y) &&& (1 : Int32)).toInt = 0), ?_, fun c => Or.inl c, fun c => ⟨y.toInt < 0 ∨ ((atv 10100 (w 25) y) &&& (1 : Int32)).toInt ≠ 0, fun hb => xl_refuse (fun s ks fs => kb s ⟨by rw [← lvr c]; exact hlv, ?_⟩ fs), fun c2 => Or.inl c2, fun c2 => xl_is (fun v hv0 hv => ⟨fun c3 => Or.inr ⟨c, c2, ?_⟩, fun c3 => Or.inr (hv.mp c3)⟩)⟩⟩
  · intro hgood
    refine xl_push hc hj (fun s1 k1 e6 e7 a1 _ => ?_)
    rintro s2 rfl
    have e41 : s1 41 = w 41 := ko_rd k1.1 41 (by omega) rfl (fun _ => rfl)
    have e26 : s1 26 = w 26 := ko_rd k1.1 26 (by omega) rfl (fun _ => rfl)
    have e42 : s1 42 = w 42 := ko_rd k1.1 42 (by omega) rfl (fun _ => rfl)
    have e27 : s1 27 = w 27 := ko_rd k1.1 27 (by omega) rfl (fun _ => rfl)
    have e25 : s1 25 = w 25 := ko_rd k1.1 25 (by omega) rfl (fun _ => rfl)
    have e39 : s1 39 = w 39 := ko_rd k1.1 39 (by omega) rfl (fun _ => rfl)
    by_cases cl : 0 ≤ lv.toInt
    · obtain ⟨v, hv⟩ : ∃ v : Nat, lv.toInt = v := ⟨lv.toInt.toNat, by omega⟩
      have hv9 : v < 100 := by
        rcases hlv with ⟨j1, q1, q2, q3, q4, q5⟩ | ⟨q1, q2⟩
        · have := (hS.2.2 j1 q2).1.2
          omega
        · omega
      have hyn : y.toInt = -1 := by rcases hy with hy | hy <;> omega
      have ei : (if lv < y then y else lv) = lv := if_neg (fun hx => by have := i_lt.mp hx; omega)
      rw [ei]
      refine ⟨fun y1 => y1.toInt = 1, ?_, fun c => by omega, fun _ => by decide⟩
      rintro y1 hy1 s3 rfl
      refine ⟨fun y2 => y2 = w 41 v, ?_, fun c => by omega, fun _ => ?_⟩
      · rintro y2 rfl s4 rfl
        refine xl_mark0 (by omega) ⟨fun c => by omega, fun _ => ?_⟩
        obtain ⟨q0, q1, q2, q3, q4, q5, q6⟩ := a1
        have a4 : AVq (upC (upC (upC s1 (65 + j) 4 lv) (65 + j) 0 y1) (65 + j) 1 (w 41 v)) (65 + j) 1 (w 41 v).toInt 1 0 0 0 v := by
          refine ⟨?_, ?_, ?_, ?_, ?_, fun hf => absurd hf (by decide), fun _ => ?_⟩
          · rw [rdA_ne (by decide), rdA_eq rfl]
            exact hy1
          · rw [rdA_eq rfl]
          · rw [rdA_ne (by decide), rdA_ne (by decide), rdA_ne (by decide)]
            exact q2
          · rw [rdA_ne (by decide), rdA_ne (by decide), rdA_ne (by decide)]
            exact q3
          · rw [rdA_ne (by decide), rdA_ne (by decide), rdA_ne (by decide)]
            exact q4
          · rw [rdA_ne (by decide), rdA_ne (by decide), rdA_eq rfl]
            exact hv
        have k4 : STx j w (upC (upC (upC s1 (65 + j) 4 lv) (65 + j) 0 y1) (65 + j) 1 (w 41 v)) := stq_tr k1 (stq_tr (stq_op hj) (stq_tr (stq_op hj) (stq_op hj)))
        have e4i : upC (upC (upC s1 (65 + j) 4 lv) (65 + j) 0 y1) (65 + j) 1 (w 41 v) (65 + j) 4 = lv := by rw [rdA_ne (by decide), rdA_ne (by decide), rdA_eq rfl]
        have e442 : upC (upC (upC s1 (65 + j) 4 lv) (65 + j) 0 y1) (65 + j) 1 (w 41 v) 42 = w 42 := by rw [rdC_ne (by omega), rdC_ne (by omega), rdC_ne (by omega), e42]
        have e46 : upC (upC (upC s1 (65 + j) 4 lv) (65 + j) 0 y1) (65 + j) 1 (w 41 v) 6 3 = w 6 3 := by rw [rdC_ne (by omega), rdC_ne (by omega), rdC_ne (by omega), e6]
        have e47 : (upC (upC (upC s1 (65 + j) 4 lv) (65 + j) 0 y1) (65 + j) 1 (w 41 v) 7 7).toInt = (j : Int) + 1 := by rw [rdC_ne (by omega), rdC_ne (by omega), rdC_ne (by omega), e7]
        generalize upC (upC (upC s1 (65 + j) 4 lv) (65 + j) 0 y1) (65 + j) 1 (w 41 v) = s4 at a4 k4 e4i e442 e46 e47
        have ea : atv 100 (s4 42) (s4 (65 + j) 4) = w 42 v := by rw [e442, e4i]; exact atv_at hv hv9
        rw [ea]
        refine ⟨fun c => kl s4 v (by rw [← hv]; exact hlv) hv9 k4 e46 e47 ?_, fun c => xl_address a4 hj (by
          obtain ⟨j', j1, j2⟩ := lf_in (v := v) (by rw [← hv]; exact hlv)
          have := hty.1 j' j1
          rw [j2] at this
          omega) (fun s5 k5 e57 e56 a5 => kl s5 v (by rw [← hv]; exact hlv) hv9 (stq_tr k4 k5) (e56.trans e46) (by rw [e57]; exact e47) ?_)⟩
        · rw [if_pos c, if_pos c]
          exact a4
        · rw [if_neg (by omega), if_neg (by omega)]
          exact ⟨a5.1, a5.2.1, a5.2.2.1, a5.2.2.2.1, a5.2.2.2.2.1, fun hf => absurd hf (by decide), fun hi => absurd hi (by decide)⟩
      · have : upC (upC s1 (65 + j) 4 lv) (65 + j) 0 y1 41 = w 41 := by rw [rdC_ne (by omega), rdC_ne (by omega), e41]
        rw [this]
        exact atv_at hv hv9
    · have hg2 : 0 ≤ y.toInt ∧ ((atv 10100 (w 25) y) &&& (1 : Int32)).toInt = 0 := by rcases hgood with h | h; exact absurd h cl; exact h.2
      obtain ⟨r, hr, hrv⟩ : ∃ r, OFq w n u r ∧ 0 ≤ r ∧ y.toInt = (w 5 1).toInt - n + r := by
        rcases hy with hy | ⟨_, r, hr, hv | hv⟩
        · omega
        · omega
        · exact ⟨r, hr, hv⟩
      obtain ⟨rn, hrn⟩ : ∃ rn : Nat, r = rn := ⟨r.toNat, by omega⟩
      subst hrn
      obtain ⟨dn, hdn⟩ : ∃ dn : Nat, y.toInt = dn := ⟨y.toInt.toNat, by omega⟩
      have hrn9 : rn < n := by
        rcases hr with ⟨i', q1, _, _, q2⟩ | ⟨_, q2⟩ <;> omega
      have hdn9 : dn < 10100 := by omega
      have ei : (if lv < y then y else lv) = y := if_pos (i_lt.mpr (by omega))
      rw [ei]
      refine ⟨fun y1 => y1.toInt = 2, ?_, fun c => by decide, fun _ => by omega⟩
      rintro y1 hy1 s3 rfl
      refine ⟨fun y2 => y2 = w 26 dn, ?_, fun _ => ?_, fun c => by omega⟩
      · rintro y2 rfl s4 rfl
        refine xl_mark hdn hdn9 (fun s5 k5 m5 => ⟨fun _ => ?_, fun c => by omega⟩)
        obtain ⟨q0, q1, q2, q3, q4, q5, q6⟩ := a1
        have o5 : ∀ m, s5 (65 + j) m = upC (upC (upC s1 (65 + j) 4 y) (65 + j) 0 y1) (65 + j) 1 (w 26 dn) (65 + j) m := fun m => low25 (n := j + 1) k5 j m (by omega)
        have a5 : AVq s5 (65 + j) 2 (w 26 dn).toInt 1 0 0 0 dn := by
          refine ⟨?_, ?_, ?_, ?_, ?_, fun hf => absurd hf (by decide), fun _ => ?_⟩
          · rw [o5, rdA_ne (by decide), rdA_eq rfl]
            exact hy1
          · rw [o5, rdA_eq rfl]
          · rw [o5, rdA_ne (by decide), rdA_ne (by decide), rdA_ne (by decide)]
            exact q2
          · rw [o5, rdA_ne (by decide), rdA_ne (by decide), rdA_ne (by decide)]
            exact q3
          · rw [o5, rdA_ne (by decide), rdA_ne (by decide), rdA_ne (by decide)]
            exact q4
          · rw [o5, rdA_ne (by decide), rdA_ne (by decide), rdA_eq rfl]
            exact hdn
        have k6 : STy j w s5 := sty_tr (sty_of (stq_tr k1 (stq_tr (stq_op hj) (stq_tr (stq_op hj) (stq_op hj))))) ⟨ko_kp (kp_sub k5 rfl rfl), low25 k5⟩
        have e4i : s5 (65 + j) 4 = y := by rw [o5, rdA_ne (by decide), rdA_ne (by decide), rdA_eq rfl]
        have e527 : s5 27 = w 27 := by rw [show s5 27 = upC (upC (upC s1 (65 + j) 4 y) (65 + j) 0 y1) (65 + j) 1 (w 26 dn) 27 from funext (fun m => k5 27 m rfl rfl), rdC_ne (by omega), rdC_ne (by omega), rdC_ne (by omega), e27]
        have e539 : s5 39 = w 39 := by rw [show s5 39 = upC (upC (upC s1 (65 + j) 4 y) (65 + j) 0 y1) (65 + j) 1 (w 26 dn) 39 from funext (fun m => k5 39 m rfl rfl), rdC_ne (by omega), rdC_ne (by omega), rdC_ne (by omega), e39]
        have m25 : ∀ m, s5 25 m = if m = dn then (w 25 dn) ||| (8 : Int32) else w 25 m := fun m => by
          rw [m5 m]
          have : upC (upC (upC s1 (65 + j) 4 y) (65 + j) 0 y1) (65 + j) 1 (w 26 dn) 25 = w 25 := by rw [rdC_ne (by omega), rdC_ne (by omega), rdC_ne (by omega), e25]
          rw [this]
        have e56 : s5 6 3 = w 6 3 := by rw [k5 6 3 rfl rfl, rdC_ne (by omega), rdC_ne (by omega), rdC_ne (by omega), e6]
        have e57 : (s5 7 7).toInt = (j : Int) + 1 := by rw [k5 7 7 rfl rfl, rdC_ne (by omega), rdC_ne (by omega), rdC_ne (by omega), e7]
        have ea : atv 10100 (s5 27) (s5 (65 + j) 4) = w 27 dn := by rw [e527, e4i]; exact atv_at hdn hdn9
        have hf1 : ((w 25 dn) &&& (1 : Int32)).toInt = 0 := by
          have := hg2.2
          rwa [atv_at hdn hdn9] at this
        have hlm : LFq w S 0 u (-1) := by rw [← lvr (by omega)]; exact hlv
        rw [ea]
        refine ⟨fun c => ko s5 rn hlm hr dn (by omega) hdn9 hf1 k6 e56 e57 e539 m25 ?_, fun c => xl_address a5 hj (by
          have := hty.2 rn hrn9
          rw [show (w 5 1).toInt.toNat - n + rn = dn from by omega] at this
          omega) (fun s7 k7 e77 e76 a7 => ko s7 rn hlm hr dn (by omega) hdn9 hf1 (sty_tr k6 (sty_of k7)) (e76.trans e56) (by rw [e77]; exact e57) ?_ (fun m => ?_) ?_)⟩
        · rw [if_pos c, if_pos c, if_pos c]
          exact a5
        · rw [show s7 39 = s5 39 from ko_rd k7.1 39 (by omega) rfl (fun _ => rfl), e539]
        · rw [show s7 25 = s5 25 from ko_rd k7.1 25 (by omega) rfl (fun _ => rfl), m25]
        · rw [if_neg (by omega), if_neg (by omega), if_neg (by omega)]
          exact ⟨a7.1, a7.2.1, a7.2.2.1, a7.2.2.2.1, a7.2.2.2.2.1, fun hf => absurd hf (by decide), fun hi => absurd hi (by decide)⟩
      · have : upC (upC s1 (65 + j) 4 y) (65 + j) 0 y1 26 = w 26 := by rw [rdC_ne (by omega), rdC_ne (by omega), e26]
        rw [this]
        exact atv_at hdn hdn9
  · rcases hy with hy | ⟨_, r, hr, hv⟩
    · omega
    · rcases hv with hv | hv
      · left
        have : r = -1 := by
          rcases hr with ⟨i', _, _, _, q2⟩ | ⟨_, q2⟩ <;> omega
        rw [← this]
        exact hr
      · right
        have hb2 : ((atv 10100 (w 25) y) &&& (1 : Int32)).toInt ≠ 0 := by
          rcases hb with hb | hb
          · have hr9 : r < n := by
              rcases hr with ⟨i', q1, _, _, q2⟩ | ⟨_, q2⟩ <;> omega
            omega
          · exact hb
        obtain ⟨rn, hrn⟩ : ∃ rn : Nat, r = rn := ⟨r.toNat, by omega⟩
        subst hrn
        have hr9 : rn < n := by
          rcases hr with ⟨i', q1, _, _, q2⟩ | ⟨_, q2⟩ <;> omega
        refine ⟨rn, hr, fun dn hdn => ?_⟩
        rwa [atv_at (j := dn) (by omega) (by omega)] at hb2
  · by_cases q : ((atv 10100 (w 25) y) &&& (1 : Int32)).toInt = 0
    · exact q
    · have := hv.mpr q
      omega
end XCP
end

section
/-! the steps of expressions: the class's, what is called, strings -/
section XCQ
variable {w s t : St} {j : Nat} {k ty h z f i : Int} {x a b c d : Int32}
theorem xt_callee {Q : St → Prop} {S n u : Nat} (hc : (w 7 7).toInt = (j : Int)) (hj : j < 500) (h0 : (w 6 3).toInt = 0) (hu : a.toInt = (u : Int)) (un : TNq w u) (hS : LOKq w S) (hO : OOKq w n)
    (ko : ∀ s (r : Nat), LFq w S 0 u (-1) → OFq w n u r → ∀ dn : Nat, (dn : Int) = (w 5 1).toInt - n + r → dn < 10100 → ((w 25 dn) &&& (1 : Int32)).toInt ≠ 0 → STy j w s → s 6 3 = w 6 3 → (s 7 7).toInt = (j : Int) + 1 → (∀ m, s 39 m = if m = r ∧ (w 39 r).toInt < 0 then a else w 39 m) → (∀ m, s 25 m = if m = dn then (w 25 dn) ||| (8 : Int32) else w 25 m) → AVq s (65 + j) 4 (w 26 dn).toInt 0 0 0 0 dn → (s (65 + j) 11).toInt = 0 ∧ (s (65 + j) 12).toInt = 0 → Q s)
    (kb : ∀ s, (LFq w S 0 u (-1) → (OFq w n u (-1) ∨ ∃ r : Nat, OFq w n u r ∧ ∀ dn : Nat, (dn : Int) = (w 5 1).toInt - n + r → ((w 25 dn) &&& (1 : Int32)).toInt = 0)) → (s 6 3).toInt ≠ 0 → Q s) : pk_X2_callee a w Q := by
  unfold pk_X2_callee
  refine xl_localFrom (lo := 0) rfl hu un hS (fun lv hlv => ?_)
  have hO' := hO
  obtain ⟨o1, o2, o3, o4, o5⟩ := hO'
  have lvr : lv.toInt < 0 → lv.toInt = -1 := fun hx => by
    rcases hlv with ⟨j1, q1, q2, q3, q4, q5⟩ | ⟨q1, q2⟩
    · have := (hS.2.2 j1 q2).1.1
      omega
    · exact q2
  have lvn : 0 ≤ lv.toInt → ¬ LFq w S 0 u (-1) := fun hx hl => by
    rcases hlv with ⟨j1, q1, q2, q3, q4, q5⟩ | ⟨q1, q2⟩
    · rcases hl with ⟨j2, p1, p2, p3, p4, p5⟩ | ⟨p1, p2⟩
      · have := (hS.2.2 j2 p2).1.1
        omega
      · exact p1 j1 q1 q2 q3
    · omega
  refine ⟨fun y => (0 ≤ lv.toInt ∧ y.toInt = -1) ∨ (lv.toInt < 0 ∧ ∃ r, OFq w n u r ∧ ((r < 0 ∧ y.toInt < 0) ∨ (0 ≤ r ∧ y.toInt = (w 5 1).toInt - n + r))), ?_, fun c => Or.inl ⟨c, by decide⟩, fun c => xl_outerOf hu un hO (fun v r hr hv => Or.inr ⟨c, r, hr, hv⟩)⟩
  rintro y hy
  refine ⟨0 ≤ lv.toInt ∨ (lv.toInt < 0 ∧ (y.toInt < 0 ∨ ((atv 10100 (w 25) y) &&& (1 : Int32)).toInt = 0)), fun hb => xl_refuse (fun s ks fs => kb s (fun hl => ?_) fs), fun c => ?_, fun c => xl_is (fun v hv0 hv => ⟨fun c3 => ?_, fun c3 => Or.inr ⟨?_, Or.inr ?_⟩⟩)⟩
  · rcases hb with hb | ⟨hb1, hb⟩
    · exact absurd hl (lvn hb)
    rcases hy with hy | ⟨_, r, hr, hv⟩
    · omega
    · rcases hv with hv | hv
      · left
        have : r = -1 := by
          rcases hr with ⟨i', _, _, _, q2⟩ | ⟨_, q2⟩ <;> omega
        rw [← this]
        exact hr
      · right
        obtain ⟨rn, hrn⟩ : ∃ rn : Nat, r = rn := ⟨r.toNat, by omega⟩
        subst hrn
        have hr9 : rn < n := by
          rcases hr with ⟨i', q1, _, _, q2⟩ | ⟨_, q2⟩ <;> omega
        refine ⟨rn, hr, fun dn hdn => ?_⟩
        rcases hb with hb | hb
        · omega
        · rwa [atv_at (j := dn) (by omega) (by omega)] at hb
  · by_cases q : 0 ≤ lv.toInt
    · exact Or.inl q
    · exact Or.inr ⟨by omega, Or.inl c⟩
  · have cl : lv.toInt < 0 := by rcases hy with hy | hy <;> omega
    obtain ⟨r, hr, hrv⟩ : ∃ r, OFq w n u r ∧ 0 ≤ r ∧ y.toInt = (w 5 1).toInt - n + r := by
      rcases hy with hy | ⟨_, r, hr, hv | hv⟩
      · omega
      · omega
      · exact ⟨r, hr, hv⟩
    obtain ⟨rn, hrn⟩ : ∃ rn : Nat, r = rn := ⟨r.toNat, by omega⟩
    subst hrn
    obtain ⟨dn, hdn⟩ : ∃ dn : Nat, y.toInt = dn := ⟨y.toInt.toNat, by omega⟩
    have hrn9 : rn < n := by
      rcases hr with ⟨i', q1, _, _, q2⟩ | ⟨_, q2⟩ <;> omega
    have hdn9 : dn < 10100 := by omega
    have hfl : ((w 25 dn) &&& (1 : Int32)).toInt ≠ 0 := by
      have := hv.mp c3
      rwa [atv_at hdn hdn9] at this
    unfold pk_X11_mentionCall
    refine xl_mark hdn hdn9 (fun s5 k5 m5 => ?_)
    have e2 : ((w 5 1) - (w 6 7)).toInt = (w 5 1).toInt - n := by rw [sb (by omega) (by omega), o1]
    have e3 : (y - ((w 5 1) - (w 6 7))).toInt = (rn : Int) := by rw [sb (by omega) (by omega), e2]; omega
    have e539 : s5 39 = w 39 := funext (fun m => k5 39 m rfl rfl)
    have ea : atv 100 (s5 39) (y - ((w 5 1) - (w 6 7))) = w 39 rn := by rw [e539]; exact atv_at e3 (by omega)
    rw [ea]
    have fin : ∀ s6, Kp [] [39] s5 s6 → (∀ m, s6 39 m = if m = rn ∧ (w 39 rn).toInt < 0 then a else w 39 m) → pk_X2_push s6 (fun u57 s57 => ∀ s10n : St, s10n = upC s57 u57 0 (4 : Int32) → (∀ s12n : St, s12n = upC s10n u57 4 y → (∀ s14n : St, s14n = upC s12n u57 1 (atv 10100 (s12n 26) y) → (∀ s16n : St, s16n = upC s14n u57 2 (0 : Int32) → (Q s16n))))) := fun s6 k6 m6 => by
      have kk6 : STy j w s6 := sty_tr ⟨ko_kp (kp_sub k5 rfl rfl), low25 k5⟩ ⟨ko_kp (kp_sub k6 rfl rfl), low39 k6⟩
      have e67 : (s6 7 7).toInt = (j : Int) := by rw [k6 7 7 rfl rfl, k5 7 7 rfl rfl]; exact hc
      refine xl_push e67 hj (fun s7 k7 e76 e77 a7 x7 => ?_)
      rintro s8 rfl s9 rfl s10 rfl s11 rfl
      have e26 : upC (upC s7 (65 + j) 0 (4 : Int32)) (65 + j) 4 y 26 = w 26 := by rw [rdC_ne (by omega), rdC_ne (by omega), show s7 26 = s6 26 from ko_rd k7.1 26 (by omega) rfl (fun _ => rfl), show s6 26 = s5 26 from funext (fun m => k6 26 m rfl rfl), show s5 26 = w 26 from funext (fun m => k5 26 m rfl rfl)]
      rw [e26, atv_at hdn hdn9]
      obtain ⟨q0, q1, q2, q3, q4, q5, q6⟩ := a7
      refine ko _ rn (by rw [← lvr cl]; exact hlv) hr dn (by omega) hdn9 hfl (sty_tr kk6 (sty_of (stq_tr k7 (stq_tr (stq_op hj) (stq_tr (stq_op hj) (stq_tr (stq_op hj) (stq_op hj))))))) ?_ ?_ (fun m => ?_) (fun m => ?_) ⟨?_, ?_, ?_, ?_, ?_, fun hf => absurd hf (by decide), fun _ => ?_⟩ ⟨?_, ?_⟩
      · rw [rdC_ne (by omega), rdC_ne (by omega), rdC_ne (by omega), rdC_ne (by omega), e76, k6 6 3 rfl rfl, k5 6 3 rfl rfl]
      · rw [rdC_ne (by omega), rdC_ne (by omega), rdC_ne (by omega), rdC_ne (by omega)]
        exact e77
      · rw [rdC_ne (by omega), rdC_ne (by omega), rdC_ne (by omega), rdC_ne (by omega), show s7 39 = s6 39 from ko_rd k7.1 39 (by omega) rfl (fun _ => rfl)]
        exact m6 m
      · rw [rdC_ne (by omega), rdC_ne (by omega), rdC_ne (by omega), rdC_ne (by omega), show s7 25 = s6 25 from ko_rd k7.1 25 (by omega) rfl (fun _ => rfl), show s6 25 m = s5 25 m from k6 25 m rfl rfl]
        exact m5 m
      · rw [rdA_ne (by decide), rdA_ne (by decide), rdA_ne (by decide), rdA_eq rfl]
        rfl
      · rw [rdA_ne (by decide), rdA_eq rfl]
      · rw [rdA_eq rfl]
        rfl
      · rw [rdA_ne (by decide), rdA_ne (by decide), rdA_ne (by decide), rdA_ne (by decide)]
        exact q3
      · rw [rdA_ne (by decide), rdA_ne (by decide), rdA_ne (by decide), rdA_ne (by decide)]
        exact q4
      · rw [rdA_ne (by decide), rdA_ne (by decide), rdA_eq rfl]
        exact hdn
      · rw [rdA_ne (by decide), rdA_ne (by decide), rdA_ne (by decide), rdA_ne (by decide)]
        exact x7.1
      · rw [rdA_ne (by decide), rdA_ne (by decide), rdA_ne (by decide), rdA_ne (by decide)]
        exact x7.2
    refine ⟨fun c => fin s5 kp_rf (fun m => by rw [e539, if_neg (by omega)]), fun c => fin _ (kp_F kp_rf rfl) (fun m => ?_)⟩
    rw [rdF_eq, e539, setv_at e3 (by omega)]
    dsimp only
    by_cases q : m = rn
    · rw [if_pos q, if_pos ⟨q, c⟩]
    · rw [if_neg q, if_neg (fun hx => q hx.1)]
  · rcases hy with hy | hy
    · omega
    · exact hy.1
  · by_cases q : ((atv 10100 (w 25) y) &&& (1 : Int32)).toInt = 0
    · exact q
    · have := hv.mpr q
      omega
theorem xl_readCodes {Q : Int32 → St → Prop} {u : Nat} (hu : a.toInt = (u : Int)) (hun : u < 16002) (hv : 0 ≤ (w 14 u).toInt ∧ (w 14 u).toInt ≤ 200) (kk : ∀ v s, v = w 14 u → Kp [] [17] w s → Q v s) : pk_X10_readCodes a w Q := by
  have e200 : ((200 : Int32)).toInt = 200 := by decide
  have e1 : atv 16002 (w 14) a = w 14 u := atv_at hu hun
  have e2 : (if (200 : Int32) < (w 14 u) then (200 : Int32) else (w 14 u)) = w 14 u := if_neg (fun hx => by have := i_lt.mp hx; omega)
  unfold pk_X10_readCodes
  rw [e1, e2]
  refine ⟨fun _ _ s => Kp [] [17] w s, kp_rf, fun x y s ks => ⟨fun _ => kk _ s rfl ks, fun _ => ?_⟩⟩
  -- whatever the codes are
  have any1 : ∀ (P : Int32 → Prop) (p q : Int32) (r : St), (∀ v, P v) → pk_X10_byteAt p r P := fun P p q r hp => by
    unfold pk_X10_byteAt
    exact ⟨fun _ => hp _, fun _ => ⟨fun _ => hp _, fun _ => ⟨fun _ => hp _, fun _ _ => hp _⟩⟩⟩
  unfold pk_X10_codeAt pk_X10_widthAt
  refine any1 _ _ 0 _ (fun v => ?_)
  have go : ∀ v45 : Int32, pk_X10_byteAt x (upF s 17 (setv 200 (s 17) y v45)) (fun v2 => (v2.toInt ≠ 92 → (Kp [] [17] w (upF s 17 (setv 200 (s 17) y v45)))) ∧ (v2.toInt = 92 → (Kp [] [17] w (upF s 17 (setv 200 (s 17) y v45))))) := fun v45 => any1 _ _ 0 _ (fun v2 => ⟨fun _ => kp_tr ks (kp_F kp_rf rfl), fun _ => kp_tr ks (kp_F kp_rf rfl)⟩)
  exact ⟨fun _ => any1 _ _ 0 _ (fun v3 => ⟨fun _ => go _, fun _ => ⟨fun _ => go _, fun _ => ⟨fun _ => go _, fun _ => ⟨fun _ => go _, fun _ => ⟨fun _ => go _, fun _ => go _⟩⟩⟩⟩⟩), fun _ => ⟨fun _ => go _, fun _ => ⟨fun _ => go _, fun _ => ⟨fun _ => go _, fun _ => go _⟩⟩⟩⟩
theorem xt_string {Q : St → Prop} {u : Nat} {D : Int} (hc : (w 7 7).toInt = (j : Int)) (hj : j < 500) (h0 : (w 6 3).toInt = 0) (hu : a.toInt = (u : Int)) (hun : u < 16002) (hv : 0 ≤ (w 14 u).toInt ∧ (w 14 u).toInt ≤ 200) (hD : (w 6 5).toInt = D) (hD9 : 0 ≤ D ∧ D ≤ 16000)
    (kk : ∀ s, STs j w s → (s 7 7).toInt = (j : Int) + 1 → (s 6 5).toInt = D + (w 14 u).toInt + 1 → AVq s (65 + j) 0 1 1 0 2 0 0 → ((s 6 3).toInt ≠ 0 ↔ 16000 < D + (w 14 u).toInt + 1) → Q s) : pk_X2_string a w Q := by
  unfold pk_X2_string
  refine xl_readCodes hu hun hv (fun v s1 ev k1 => ?_)
  subst ev
  have e65 : s1 6 5 = w 6 5 := k1 6 5 rfl rfl
  have ev1 : ((w 14 u) + (1 : Int32)).toInt = (w 14 u).toInt + 1 := ad0 i1 (by omega) (by omega)
  have ed : ((s1 6 5) + ((w 14 u) + (1 : Int32))).toInt = D + (w 14 u).toInt + 1 := by rw [ad (by rw [e65, ev1]; omega) (by rw [e65, ev1]; omega), e65, ev1]; omega
  have ed2 : (((s1 6 5) + (w 14 u)) + (1 : Int32)).toInt = D + (w 14 u).toInt + 1 := by
    have q : ((s1 6 5) + (w 14 u)).toInt = D + (w 14 u).toInt := by rw [ad (by rw [e65]; omega) (by rw [e65]; omega), e65]; omega
    rw [ad0 i1 (by omega) (by omega), q]
  have kl : ∀ {r r2 : St}, Kp [(6, 5), (5, 9)] [17, 31, 32, 33] r r2 → STs j r r2 := fun {r r2} hk => ⟨ko_kp (kp_sub hk rfl rfl), fun i' m _ => hk (65 + i') m (by
    simp only [List.contains_cons, List.contains_nil, Bool.or_false, Bool.or_eq_false_iff, beq_eq_false_iff_ne, ne_eq, Prod.mk.injEq, not_and]
    omega) (by
    simp only [List.contains_cons, List.contains_nil, Bool.or_false, Bool.or_eq_false_iff, beq_eq_false_iff_ne, ne_eq]
    omega)⟩
  refine ⟨fun s => STs j w s ∧ (s 7 7).toInt = (j : Int) ∧ s 6 5 = s1 6 5 ∧ ((s 6 3).toInt ≠ 0 ↔ 16000 < D + (w 14 u).toInt + 1), ?_, fun c => ⟨kl (kp_sub k1 rfl rfl), by rw [k1 7 7 rfl rfl]; exact hc, rfl, by rw [k1 6 3 rfl rfl, h0]; exact ⟨fun hx => absurd rfl hx, fun hx => by omega⟩⟩, fun c => xl_fail (by decide) (fun s2 k2 f2 => ⟨sts_tr (kl (kp_sub k1 rfl rfl)) (sts_of (stq_kp (e63 k2))), by rw [k2 7 7 rfl rfl, k1 7 7 rfl rfl]; exact hc, k2 6 5 rfl rfl, ⟨fun _ => by omega, fun _ => f2⟩⟩)⟩
  rintro s2 ⟨k2, e27, e265, f2⟩
  refine ⟨fun _ s => STs j w s ∧ (s 7 7).toInt = (j : Int) ∧ (s 6 5).toInt = D + (w 14 u).toInt + 1 ∧ ((s 6 3).toInt ≠ 0 ↔ 16000 < D + (w 14 u).toInt + 1), ⟨sts_tr k2 (kl (kp_f kp_rf rfl)), by rw [rdC_ne (by decide)]; exact e27, by rw [rdA_eq rfl, e265]; exact ed, by rw [rdA_ne (by decide)]; exact f2⟩, ?_⟩
  rintro x4 s3 ⟨k3, e37, e365, f3⟩
  refine ⟨fun _ => xl_push e37 hj (fun s4 k4 e46 e47 a4 _ => ?_), fun _ => ?_⟩
  · have a4' : AVq s4 (65 + j) 0 0 1 0 0 (s4 (65 + j) 8) 0 := ⟨a4.1, a4.2.1, a4.2.2.1, a4.2.2.2.1, a4.2.2.2.2.1, fun _ => rfl, a4.2.2.2.2.2.2⟩
    refine xl_become a4' hj (fun _ => rfl) (fun s5 k5 e56 e57 a5 o5 n5 => ?_)
    rintro s6 rfl s7 rfl
    refine xl_emit (fun _ s8 k8 => ?_)
    have kz : STx j s3 s8 := stq_tr k4 (stq_tr k5 (stq_tr (stq_op hj) (stq_tr (stq_op hj) (stq_kp (e24 k8)))))
    refine kk s8 (sts_tr k3 (sts_of kz)) ?_ ?_ (av_kp ⟨?_, ?_, ?_, ?_, ?_, fun hf => absurd hf (by decide), fun hi => absurd hi (by decide)⟩ (e24 k8)) ?_
    · rw [k8 7 7 rfl rfl, rdC_ne (by omega), rdC_ne (by omega), e57]
      exact e47
    · rw [show s8 6 5 = s3 6 5 from kz.1 6 5 (op_lt (by decide)) rfl rfl]
      exact e365
    · rw [rdA_ne (by decide), rdA_ne (by decide)]
      exact a5.1
    · rw [rdA_ne (by decide), rdA_ne (by decide)]
      exact a5.2.1
    · rw [rdA_ne (by decide), rdA_ne (by decide)]
      exact a5.2.2.1
    · rw [rdA_ne (by decide), rdA_ne (by decide)]
      exact a5.2.2.2.1
    · rw [rdA_ne (by decide), rdA_ne (by decide)]
      exact a5.2.2.2.2.1
    · rw [k8 6 3 rfl rfl, rdC_ne (by omega), rdC_ne (by omega), e56, e46]
      exact f3
  · unfold pk_X8_addInitial
    have kq : Kp [(5, 9)] [31, 32, 33] s3 (upC (upF (upF (upF s3 31 (setv 65536 (s3 31) (s3 5 9) ((s1 6 5) + x4))) 32 (setv 65536 ((upF s3 31 (setv 65536 (s3 31) (s3 5 9) ((s1 6 5) + x4))) 32) (s3 5 9) ((-2) : Int32))) 33 (setv 65536 ((upF (upF s3 31 (setv 65536 (s3 31) (s3 5 9) ((s1 6 5) + x4))) 32 (setv 65536 ((upF s3 31 (setv 65536 (s3 31) (s3 5 9) ((s1 6 5) + x4))) 32) (s3 5 9) ((-2) : Int32))) 33) (s3 5 9) (atv 200 (s3 17) x4))) 5 9 (if (65536 : Int32) < ((s3 5 9) + (1 : Int32)) then (65536 : Int32) else ((s3 5 9) + (1 : Int32)))) := kp_f (kp_F (kp_F (kp_F kp_rf rfl) rfl) rfl) rfl
    refine ⟨sts_tr k3 (kl (kp_sub kq rfl rfl)), ?_, ?_, ?_⟩
    · rw [kq 7 7 rfl rfl]
      exact e37
    · rw [kq 6 5 rfl rfl]
      exact e365
    · rw [kq 6 3 rfl rfl]
      exact f3
end XCQ
end

section
/-! the reference's expressions: small methods -/
abbrev KWr (a b : St) : Prop := Kp [(0, 17)] [8] a b
abbrev KFr (a b : St) : Prop := Kp [(0, 12), (0, 13)] [] a b
abbrev KXr (a b : St) : Prop := Kp [(0, 12), (0, 13), (0, 17)] [8, 33] a b
/-- a Value: how, type, height, zero, known, worth, number -/
def MVq (τ : St) (u : Nat) (k t h z f : Int) (x : Int32) (i : Int) : Prop := (τ u 1).toInt = k ∧ (τ u 0).toInt = t ∧ (τ u 3).toInt = h ∧ (τ u 5).toInt = z ∧ (τ u 6).toInt = f ∧ (f = 1 → τ u 7 = x) ∧ (1 ≤ k ∧ k ≤ 2 → (τ u 2).toInt = i)
/-- the Values that are there stay -/
def TFq (τ : St) (vs : List Nat) (t : St) (z : List Nat) : Prop := (∀ u, u ∈ vs → u ∈ z) ∧ ∀ u, u ∈ vs → ∀ m, t u m = τ u m
/-- a fault is told if B -/
def FTq (σ s : St) (B : Prop) : Prop := 0 ≤ (s 0 12).toInt ∧ ((s 0 12).toInt ≠ 0 ↔ (σ 0 12).toInt ≠ 0 ∨ (B ∧ (σ 0 15).toInt ≤ 0))
section RSM
variable {σ s r τ t : St} {vs z : List Nat} {u v : Nat} {k ty h zz f i k2 ty2 h2 z2 f2 i2 : Int} {x x2 a b c : Int32} {B B2 : Prop}
theorem tf_rf : TFq τ vs τ vs := ⟨fun _ h => h, fun _ _ _ => rfl⟩
theorem tf_tr {t2 : St} {y : List Nat} (h1 : TFq τ vs t z) (h2 : TFq t z t2 y) : TFq τ vs t2 y := ⟨fun u hu => h2.1 u (h1.1 u hu), fun u hu m => (h2.2 u (h1.1 u hu) m).trans (h1.2 u hu m)⟩
theorem mv_tf (hA : MVq τ u k ty h zz f x i) (hu : u ∈ vs) (hT : TFq τ vs t z) : MVq t u k ty h zz f x i := by
  unfold MVq
  rw [hT.2 u hu 0, hT.2 u hu 1, hT.2 u hu 2, hT.2 u hu 3, hT.2 u hu 5, hT.2 u hu 6, hT.2 u hu 7]
  exact hA
theorem mv_eq (hA : MVq τ u k ty h zz f x i) (e : ∀ m, t u m = τ u m) : MVq t u k ty h zz f x i := by
  unfold MVq
  rw [e 0, e 1, e 2, e 3, e 5, e 6, e 7]
  exact hA
theorem ft_rf (h0 : 0 ≤ (σ 0 12).toInt) : FTq σ σ False := ⟨h0, ⟨Or.inl, fun hx => by rcases hx with hx | hx; exact hx; exact hx.1.elim⟩⟩
theorem ft_tr (h1 : FTq σ s B) (h2 : FTq s r B2) (e : s 0 15 = σ 0 15) : FTq σ r (B ∨ B2) := ⟨h2.1, by
  rw [h2.2, h1.2, e]
  constructor
  · rintro ((q | ⟨q, q2⟩) | ⟨q, q2⟩)
    · exact Or.inl q
    · exact Or.inr ⟨Or.inl q, q2⟩
    · exact Or.inr ⟨Or.inr q, q2⟩
  · rintro (q | ⟨q | q, q2⟩)
    · exact Or.inl (Or.inl q)
    · exact Or.inl (Or.inr ⟨q, q2⟩)
    · exact Or.inr ⟨q, q2⟩⟩
theorem ft_iff (h1 : FTq σ s B) (e : B ↔ B2) : FTq σ s B2 := ⟨h1.1, by rw [h1.2, e]⟩
theorem ft_k (h1 : FTq σ s B) (e : r 0 12 = s 0 12) : FTq σ r B := by
  unfold FTq
  rw [e]
  exact h1
theorem ft_same (h0 : 0 ≤ (σ 0 12).toInt) (e : s 0 12 = σ 0 12) : FTq σ s False := ft_k (ft_rf h0) e
theorem mr_put0 {Q : St → St → List Nat → Prop} (kk : ∀ s, KWr σ s → Q s τ vs) : pp_put_0 a σ τ vs Q := by
  unfold pp_put_0
  exact ⟨fun _ _ => kk _ (kp_f (kp_a kp_rf rfl) rfl), fun _ => trivial⟩
theorem mr_put1 {Q : St → St → List Nat → Prop} (kk : ∀ s, KWr σ s → Q s τ vs) : pp_put_1 a b σ τ vs Q := by
  unfold pp_put_1
  exact mr_put0 (fun s k1 => mr_put0 (fun s2 k2 => kk s2 (kp_tr k1 k2)))
theorem mr_put2 {Q : St → St → List Nat → Prop} (kk : ∀ s, KWr σ s → Q s τ vs) : pp_put_2 a b c σ τ vs Q := by
  unfold pp_put_2
  exact mr_put1 (fun s k1 => mr_put0 (fun s2 k2 => kk s2 (kp_tr k1 k2)))
theorem mr_open {Q : Int32 → St → St → List Nat → Prop} (kk : ∀ v s, KWr σ s → Q v s τ vs) : pp_open a σ τ vs Q := by
  unfold pp_open
  exact mr_put1 (fun s k1 => kk _ s k1)
theorem mr_aim {Q : St → St → List Nat → Prop} (kk : ∀ s, KWr σ s → Q s τ vs) : pp_aim a σ τ vs Q := fun _ => kk _ (kp_a kp_rf rfl)
/-- reads it -/
theorem mr_read {Q : St → St → List Nat → Prop} (hA : MVq τ u k ty h zz f x i) (kk : u ∈ vs → ∀ s t, KWr σ s → (∀ v, v ≠ u → ∀ m, t v m = τ v m) → MVq t u 0 ty h zz f x i → Q s t vs) : pp_read_1 u σ τ vs Q := by
  unfold pp_read_1
  intro hu
  have go : ∀ s, KWr σ s → Q s (upC τ u 1 (0 : Int32)) vs := fun s ks => by
    obtain ⟨q0, q1, q2, q3, q4, q5, q6⟩ := hA
    exact kk hu s _ ks (fun v hv m => by rw [rdC_ne hv]) ⟨by rw [rdA_eq rfl]; rfl, by rw [rdA_ne (by decide)]; exact q1, by rw [rdA_ne (by decide)]; exact q2, by rw [rdA_ne (by decide)]; exact q3, by rw [rdA_ne (by decide)]; exact q4, fun hf => by rw [rdA_ne (by decide)]; exact q5 hf, fun hi => by omega⟩
  refine ⟨fun s t z => KWr σ s ∧ t = τ ∧ z = vs, ?_, fun _ => ⟨kp_rf, rfl, rfl⟩, fun _ => mr_put1 (fun s ks => ⟨ks, rfl, rfl⟩)⟩
  rintro s t1 z1 ⟨ks, e1, e2⟩ _
  subst e1
  subst e2
  refine ⟨fun s t' z' => KWr σ s ∧ t' = t1 ∧ z' = z1, ?_, fun _ => ⟨ks, rfl, rfl⟩, fun _ => mr_put1 (fun s2 k2 => ⟨kp_tr ks k2, rfl, rfl⟩)⟩
  rintro s2 t2 z2 ⟨k2, e1, e2⟩ _
  subst e1
  subst e2
  exact ⟨fun _ => go s2 k2, fun _ _ => mr_put1 (fun s3 k3 _ => go s3 (kp_tr k2 k3))⟩
theorem mr_tell {Q : St → St → List Nat → Prop} (h0 : 0 ≤ (σ 0 12).toInt) (ha : 0 < a.toInt) (kk : ∀ s, KFr σ s → FTq σ s True → Q s τ vs) : pp_tell a b σ τ vs Q := by
  unfold pp_tell
  refine ⟨fun c => kk σ kp_rf ⟨h0, ⟨Or.inl, fun _ => by omega⟩⟩, fun c => ⟨fun c2 _ => kk _ (kp_f (kp_f kp_rf rfl) rfl) ⟨?_, ?_⟩, fun c2 => kk σ kp_rf ⟨h0, ⟨Or.inl, fun hx => by rcases hx with hx | hx; exact hx; omega⟩⟩⟩⟩
  · rw [rdA_ne (by decide), rdA_eq rfl]
    omega
  · rw [rdA_ne (by decide), rdA_eq rfl]
    exact ⟨fun _ => Or.inr ⟨trivial, c2⟩, fun _ => by omega⟩
theorem mr_must {Q : St → St → List Nat → Prop} (h0 : 0 ≤ (σ 0 12).toInt) (kk : ∀ s, KFr σ s → FTq σ s (a.toInt = 0) → Q s τ vs) : pp_must a b σ τ vs Q := by
  unfold pp_must
  exact ⟨fun c => kk σ kp_rf (ft_iff (ft_rf h0) ⟨fun hx => hx.elim, fun hx => absurd hx c⟩), fun c => mr_tell h0 (by decide) (fun s ks fs => kk s ks (ft_iff fs ⟨fun _ => c, fun _ => trivial⟩))⟩
theorem mem_app {q : Nat} (h : u ∈ vs) : u ∈ vs ++ [q] := List.mem_append_left _ h
theorem nvq {q : Nat} (hq : q ∉ vs) (hu : v ∈ vs) : v ≠ q := fun e => by
  subst e
  exact hq hu
/-- a new Value -/
theorem mr_new {q : Nat} (hq : q ∉ vs) (hu : v ∈ vs) (m : Nat) {g : Nat → Int32} : upF τ q g v m = τ v m := by
  rw [rdF_ne (nvq hq hu)]
theorem mr_made {Q : Nat → St → St → List Nat → Prop} (h0 : 0 ≤ (σ 0 12).toInt) (hA : MVq τ u k ty h zz f x i) (hB : MVq τ v k2 ty2 h2 z2 f2 x2 i2) (hu : u ∈ vs) (hv : v ∈ vs) (hh : 0 ≤ h ∧ h ≤ 20000 ∧ 0 ≤ h2 ∧ h2 ≤ 20000)
    (kk : ∀ q s t, q ∉ vs → KFr σ s → TFq τ vs t (vs ++ [q]) → (∀ m, m ≠ 0 → m ≠ 3 → t q m = 0) → MVq t q 0 a.toInt (1 + mxq h h2) 0 0 0 0 → FTq σ s (60 < 1 + mxq h h2) → Q q s t (vs ++ [q])) : pp_made a u v b σ τ vs Q := by
  unfold pp_made pp_Vinit
  intro _ q hq _ _ _ _
  have e1 : ∀ m, upC (upC (upF τ q (fun _ => 0)) q 3 (1 : Int32)) q 0 a u m = τ u m := fun m => by rw [rdC_ne (nvq hq hu), rdC_ne (nvq hq hu), mr_new hq hu]
  have e2 : ∀ m, upC (upC (upF τ q (fun _ => 0)) q 3 (1 : Int32)) q 0 a v m = τ v m := fun m => by rw [rdC_ne (nvq hq hv), rdC_ne (nvq hq hv), mr_new hq hv]
  rw [e1 3, e2 3]
  have em : (if (τ u 3) < (τ v 3) then (τ v 3) else (τ u 3)).toInt = mxq h h2 := by rw [mx_int, hA.2.2.1, hB.2.2.1]
  have hm : 0 ≤ mxq h h2 ∧ mxq h h2 ≤ 20000 := by unfold mxq; split <;> omega
  have e3 : ((if (τ u 3) < (τ v 3) then (τ v 3) else (τ u 3)) + (1 : Int32)).toInt = 1 + mxq h h2 := by rw [ad0 i1 (by omega) (by omega), em]; omega
  generalize hg : upC (upC (upC (upF τ q (fun _ => 0)) q 3 (1 : Int32)) q 0 a) q 3 ((if (τ u 3) < (τ v 3) then (τ v 3) else (τ u 3)) + (1 : Int32)) = t
  have tq : ∀ m, t q m = if m = 3 then ((if (τ u 3) < (τ v 3) then (τ v 3) else (τ u 3)) + (1 : Int32)) else if m = 0 then a else 0 := fun m => by
    rw [← hg, rdA]
    by_cases q3 : m = 3
    · rw [if_pos q3, if_pos q3]
    · rw [if_neg q3, if_neg q3, rdA]
      by_cases q0 : m = 0
      · rw [if_pos q0, if_pos q0]
      · rw [if_neg q0, if_neg q0, rdA_ne q3, rdF_eq]
  have tf : TFq τ vs t (vs ++ [q]) := ⟨fun w hw => mem_app hw, fun w hw m => by rw [← hg, rdC_ne (nvq hq hw), rdC_ne (nvq hq hw), rdC_ne (nvq hq hw), mr_new hq hw]⟩
  have mv : MVq t q 0 a.toInt (1 + mxq h h2) 0 0 0 0 := by
    refine ⟨?_, ?_, ?_, ?_, ?_, fun hf => absurd hf (by decide), fun hi => by omega⟩
    · rw [tq]; rfl
    · rw [tq, if_neg (by decide), if_pos rfl]
    · rw [tq, if_pos rfl, e3]
    · rw [tq]; rfl
    · rw [tq]; rfl
  have t0 : ∀ m, m ≠ 0 → m ≠ 3 → t q m = 0 := fun m m0 m3 => by rw [tq, if_neg m3, if_neg m0]
  rw [e3]
  exact ⟨fun c => kk q σ t hq kp_rf tf t0 mv (ft_iff (ft_rf h0) ⟨fun hx => hx.elim, fun hx => by omega⟩), fun c => mr_tell h0 (by decide) (fun s ks fs => kk q s t hq ks tf t0 mv (ft_iff fs ⟨fun _ => c, fun _ => trivial⟩))⟩
theorem mr_isInt {Q : Int32 → Prop} (hA : MVq τ u k ty h zz f x i) (k1 : ty = 0 → Q 1) (k0 : ty ≠ 0 → Q 0) : pp_isInt u σ τ vs Q := by
  unfold pp_isInt
  have := hA.2.1
  exact fun _ => ⟨fun c => k0 (by omega), fun c => k1 (by omega)⟩
theorem mr_isPointer {Q : Int32 → Prop} (hA : MVq τ u k ty h zz f x i) (k1 : 0 < ty → Q 1) (k0 : ty ≤ 0 → Q 0) : pp_isPointer u σ τ vs Q := by
  unfold pp_isPointer
  have := hA.2.1
  exact fun _ => ⟨fun c => k0 (by omega), fun c => k1 (by omega)⟩
theorem mr_isAny {Q : Int32 → Prop} (hA : MVq τ u k ty h zz f x i) (k1 : 0 ≤ ty → Q 1) (k0 : ty < 0 → Q 0) : pp_isAny u σ τ vs Q := by
  unfold pp_isAny
  have := hA.2.1
  exact fun _ => ⟨fun c => k0 (by omega), fun c => k1 (by omega)⟩
theorem mr_fits {Q : Int32 → Prop} (hA : MVq τ u k ty h zz f x i) (kk : ∀ v : Int32, (v.toInt = 0 ∨ v.toInt = 1) → (v.toInt = 1 ↔ ty = a.toInt ∨ (0 < a.toInt ∧ zz ≠ 0)) → Q v) : pp_fits u a σ τ vs Q := by
  unfold pp_fits
  have h1 := hA.2.1
  have h3 := hA.2.2.2.1
  exact fun _ => ⟨fun c => kk 1 (Or.inr rfl) ⟨fun _ => Or.inl (by omega), fun _ => rfl⟩, fun c => ⟨fun c2 => kk 0 (Or.inl rfl) ⟨fun hx => absurd hx (by decide), fun hx => by omega⟩, fun c2 => ⟨fun c3 => kk 0 (Or.inl rfl) ⟨fun hx => absurd hx (by decide), fun hx => by omega⟩, fun c3 => kk 1 (Or.inr rfl) ⟨fun _ => Or.inr ⟨c2, by omega⟩, fun _ => rfl⟩⟩⟩⟩
/-- tokens -/
def RTk (σ : St) (kd : Nat → Int) (n : Nat) : Prop := n ≤ 16000 ∧ (∀ p, p ≤ n → (σ 2 p).toInt = rkI (kd p)) ∧ (∀ p, 0 ≤ kd p ∧ kd p ≤ 62) ∧ (∀ p, n < p → kd p = 0) ∧ kd n ≤ 1
def GMt (σ : St) (n p : Nat) : Prop := (σ 0 10).toInt = (p : Int) ∧ p ≤ n
theorem rk_inj : ∀ a : Nat, a < 63 → ∀ b : Nat, b < 63 → rkI (a : Int) = rkI (b : Int) → a = b := by decide
theorem rk_one {a b : Int} (ha : 0 ≤ a ∧ a ≤ 62) (hb : 0 ≤ b ∧ b ≤ 62) (h : rkI a = rkI b) : a = b := by
  have e1 : ((a.toNat : Nat) : Int) = a := by omega
  have e2 : ((b.toNat : Nat) : Int) = b := by omega
  have := rk_inj a.toNat (by omega) b.toNat (by omega) (by rw [e1, e2]; exact h)
  omega
variable {kd : Nat → Int} {n p : Nat}
theorem rtk_k {fs : List (Nat × Nat)} {cs : List Nat} (hk : Kp fs cs σ s) (h1 : ∀ j, fs.contains (2, j) = false) (h2 : cs.contains 2 = false) (h : RTk σ kd n) : RTk s kd n := by
  have e : s 2 = σ 2 := funext (fun j => hk 2 j (h1 j) h2)
  unfold RTk
  rw [e]
  exact h
theorem gm_kind (tk : RTk σ kd n) (g : GMt σ n p) : (σ 2 (σ 0 10).toNatClampNeg).toInt = rkI (kd p) := by
  rw [show (σ 0 10).toNatClampNeg = p from by rw [nt', g.1]; rfl]
  exact tk.2.1 p g.2
theorem gm_lt (tk : RTk σ kd n) (g : GMt σ n p) (h2 : 2 ≤ kd p) : p < n := by
  by_cases c : p = n
  · have := tk.2.2.2.2
    rw [c] at h2
    omega
  · have := g.2
    omega
theorem gm_up (tk : RTk σ kd n) (g : GMt σ n p) (h2 : 2 ≤ kd p) : GMt (upC σ 0 10 ((σ 0 10) + (1 : Int32))) n (p + 1) := by
  have := gm_lt tk g h2
  have h16 := tk.1
  refine ⟨?_, by omega⟩
  rw [rdA_eq rfl, ad0 i1 (by have := g.1; omega) (by have := g.1; omega), g.1]
  rfl
theorem mr_is {Q : Int32 → Prop} {c : Int} (tk : RTk σ kd n) (g : GMt σ n p) (hc : 0 ≤ c ∧ c ≤ 62) (ha : ((32 : Int32) + a).toInt = rkI c) (k1 : kd p = c → Q 1) (k0 : kd p ≠ c → Q 0) : pp_is a σ τ vs Q := by
  unfold pp_is
  intro _
  rw [gm_kind tk g, ha]
  exact ⟨fun d => k0 (fun e => d (by rw [e])), fun d => k1 (rk_one (tk.2.2.1 p) hc d)⟩
theorem mr_expect {Q : St → St → List Nat → Prop} {F : Prop} {c : Int} (tk : RTk σ kd n) (g : GMt σ n p) (hc : 2 ≤ c ∧ c ≤ 62) (ha : ((32 : Int32) + a).toInt = rkI c) (k1 : kd p = c → ∀ s, Kp [(0, 10)] [] σ s → GMt s n (p + 1) → Q s τ vs) (k0 : kd p ≠ c → F) : pp_expect a σ τ vs Q (fun _ _ _ => F) := by
  unfold pp_expect pp_wrong pp_wrongAt
  exact mr_is tk g (by omega) ha (fun e => ⟨fun _ => k1 e _ (kp_f kp_rf rfl) (gm_up tk g (by omega)), fun hx => absurd hx (by decide)⟩) (fun e => ⟨fun hx => absurd rfl hx, fun _ _ => k0 e⟩)
theorem mr_accept {Q : Int32 → St → St → List Nat → Prop} {c : Int} (tk : RTk σ kd n) (g : GMt σ n p) (hc : 2 ≤ c ∧ c ≤ 62) (ha : ((32 : Int32) + a).toInt = rkI c) (k1 : kd p = c → ∀ s, Kp [(0, 10)] [] σ s → GMt s n (p + 1) → Q 1 s τ vs) (k0 : kd p ≠ c → Q 0 σ τ vs) : pp_accept a σ τ vs Q := by
  unfold pp_accept
  exact mr_is tk g (by omega) ha (fun e => ⟨fun _ => k1 e _ (kp_f kp_rf rfl) (gm_up tk g (by omega)), fun hx => absurd hx (by decide)⟩) (fun e => ⟨fun hx => absurd rfl hx, fun _ => k0 e⟩)
theorem mr_deeper {Q : Int32 → St → St → List Nat → Prop} {F : Prop} {d : Nat} (hx : a.toInt = (d : Int)) (hd : d ≤ 25) (k1 : d < 25 → ∀ v : Int32, v.toInt = (d : Int) + 1 → Q v σ τ vs) (k0 : ¬ d < 25 → F) : pp_deeper a σ τ vs Q (fun _ _ _ => F) := by
  unfold pp_deeper pp_wrong pp_wrongAt
  exact ⟨fun c => k1 (by omega) _ (by rw [ad1 (by omega), hx]), fun c _ => k0 (by omega)⟩
theorem mr_sign {Q : Int32 → Prop} (tk : RTk σ kd n) (g : GMt σ n p) (kk : ∀ v : Int32, v.toInt = rkI (kd p) - 32 → Q v) : pp_sign σ τ vs Q := by
  unfold pp_sign
  intro _
  refine kk _ ?_
  have e := gm_kind tk g
  have hr : ∀ a : Nat, a < 63 → 0 ≤ rkI (a : Int) ∧ rkI (a : Int) ≤ 100 := by decide
  have h1 := tk.2.2.1 p
  have h2 := hr (kd p).toNat (by omega)
  rw [show (((kd p).toNat : Nat) : Int) = kd p from by omega] at h2
  rw [sbc (n := 32) (by decide) (by omega) (by omega), e]
/-- signs by their class's numbers -/
theorem sg_asg : ∀ a : Nat, a < 63 → ((0 ≤ rkI (a : Int) - 32 ∧ rkI (a : Int) - 32 ≤ 9) ∨ rkI (a : Int) - 32 = 30 ↔ 30 ≤ a ∧ a ≤ 40) := by decide
theorem mr_isAssignment {Q : Int32 → Prop} {k : Int} (hk : 0 ≤ k ∧ k ≤ 62) (ha : a.toInt = rkI k - 32) (k1 : 30 ≤ k ∧ k ≤ 40 → Q 1) (k0 : ¬ (30 ≤ k ∧ k ≤ 40) → Q 0) : pp_isAssignment a σ τ vs Q := by
  have h := sg_asg k.toNat (by omega)
  rw [show ((k.toNat : Nat) : Int) = k from by omega, ← ha] at h
  unfold pp_isAssignment
  refine ⟨¬ (0 ≤ a.toInt ∧ a.toInt ≤ 9), fun hj => ⟨fun c => k0 (by omega), fun c => k1 (by omega)⟩, fun c => by omega, fun c => ⟨fun c2 => k1 (by omega), fun c2 => by omega⟩⟩
theorem rk_rank : ∀ a : Nat, a < 63 → (if rkI (a : Int) - 32 = 10 then 1 else if rkI (a : Int) - 32 = 11 then 2 else if rkI (a : Int) - 32 = 31 then 3 else if rkI (a : Int) - 32 = 32 then 4 else if rkI (a : Int) - 32 = 33 then 5 else if rkI (a : Int) - 32 = 12 ∨ rkI (a : Int) - 32 = 13 then 6 else if rkI (a : Int) - 32 = 14 ∨ rkI (a : Int) - 32 = 15 ∨ rkI (a : Int) - 32 = 34 ∨ rkI (a : Int) - 32 = 35 then 7 else if rkI (a : Int) - 32 = 16 ∨ rkI (a : Int) - 32 = 17 then 8 else if rkI (a : Int) - 32 = 36 ∨ rkI (a : Int) - 32 = 37 then 9 else if rkI (a : Int) - 32 = 38 ∨ rkI (a : Int) - 32 = 39 ∨ rkI (a : Int) - 32 = 40 then 10 else 0) = lvq (a : Int) := by decide
theorem mr_rank {Q : Int32 → Prop} {k : Int} (hk : 0 ≤ k ∧ k ≤ 62) (ha : a.toInt = rkI k - 32) (kk : ∀ v : Int32, v.toInt = lvq k → Q v) : pp_rank a σ τ vs Q := by
  have h := rk_rank k.toNat (by omega)
  rw [show ((k.toNat : Nat) : Int) = k from by omega, ← ha] at h
  have go : ∀ v : Int32, v.toInt = (if a.toInt = 10 then 1 else if a.toInt = 11 then 2 else if a.toInt = 31 then 3 else if a.toInt = 32 then 4 else if a.toInt = 33 then 5 else if a.toInt = 12 ∨ a.toInt = 13 then 6 else if a.toInt = 14 ∨ a.toInt = 15 ∨ a.toInt = 34 ∨ a.toInt = 35 then 7 else if a.toInt = 16 ∨ a.toInt = 17 then 8 else if a.toInt = 36 ∨ a.toInt = 37 then 9 else if a.toInt = 38 ∨ a.toInt = 39 ∨ a.toInt = 40 then 10 else 0) → Q v := fun v hv => kk v (by rw [hv, h])
  clear h kk
  unfold pp_rank
  generalize a.toInt = m at go ⊢
  have g0 := go 0
  have g1 := go 1
  have g2 := go 2
  have g3 := go 3
  have g4 := go 4
  have g5 := go 5
  have g6 := go 6
  have g7 := go 7
  have g8 := go 8
  have g9 := go 9
  have g10 := go 10
  have l0 : ((0 : Int32)).toInt = 0 := by decide
  have l1 : ((1 : Int32)).toInt = 1 := by decide
  have l2 : ((2 : Int32)).toInt = 2 := by decide
  have l3 : ((3 : Int32)).toInt = 3 := by decide
  have l4 : ((4 : Int32)).toInt = 4 := by decide
  have l5 : ((5 : Int32)).toInt = 5 := by decide
  have l6 : ((6 : Int32)).toInt = 6 := by decide
  have l7 : ((7 : Int32)).toInt = 7 := by decide
  have l8 : ((8 : Int32)).toInt = 8 := by decide
  have l9 : ((9 : Int32)).toInt = 9 := by decide
  have l10 : ((10 : Int32)).toInt = 10 := by decide
  rw [l0] at g0
  rw [l1] at g1
  rw [l2] at g2
  rw [l3] at g3
  rw [l4] at g4
  rw [l5] at g5
  rw [l6] at g6
  rw [l7] at g7
  rw [l8] at g8
  rw [l9] at g9
  rw [l10] at g10
  refine ⟨fun n10 => ⟨fun n11 => ⟨fun n31 => ⟨fun n32 => ⟨fun n33 => ⟨fun e => g6 ?_, fun n12 => ⟨fun n13 => ⟨fun e => g7 ?_, fun n14 => ⟨fun e => g7 ?_, fun n15 => ⟨fun e => g7 ?_, fun n34 => ⟨fun n35 => ⟨fun e => g8 ?_, fun n16 => ⟨fun n17 => ⟨fun e => g9 ?_, fun n36 => ⟨fun n37 => ⟨fun e => g10 ?_, fun n38 => ⟨fun e => g10 ?_, fun n39 => ⟨fun e => g0 ?_, fun e => g10 ?_⟩⟩⟩, fun e => g9 ?_⟩⟩, fun e => g8 ?_⟩⟩, fun e => g7 ?_⟩⟩⟩⟩, fun e => g6 ?_⟩⟩, fun e => g5 ?_⟩, fun e => g4 ?_⟩, fun e => g3 ?_⟩, fun e => g2 ?_⟩, fun e => g1 ?_⟩
  all_goals (repeat' split) <;> omega
end RSM
end

section
/-! the reference's operators on Values -/
section ROP
variable {σ s r τ t : St} {vs z : List Nat} {u v : Nat} {k ty h zz f i k2 ty2 h2 z2 f2 i2 sg : Int} {x x2 a b c : Int32} {B B2 : Prop}
theorem mr_isI {Q : Int32 → Prop} (hA : MVq τ u k ty h zz f x i) (kk : ∀ v : Int32, (v = 0 ∨ v = 1) → (v.toInt ≠ 0 ↔ ty = 0) → Q v) : pp_isInt u σ τ vs Q :=
  mr_isInt hA (fun e => kk 1 (Or.inr rfl) ⟨fun _ => e, fun _ => by decide⟩) (fun e => kk 0 (Or.inl rfl) ⟨fun hx => absurd rfl hx, fun hx => absurd hx e⟩)
theorem mr_isP {Q : Int32 → Prop} (hA : MVq τ u k ty h zz f x i) (kk : ∀ v : Int32, (v = 0 ∨ v = 1) → (v.toInt ≠ 0 ↔ 0 < ty) → Q v) : pp_isPointer u σ τ vs Q :=
  mr_isPointer hA (fun e => kk 1 (Or.inr rfl) ⟨fun _ => e, fun _ => by decide⟩) (fun e => kk 0 (Or.inl rfl) ⟨fun hx => absurd rfl hx, fun hx => by omega⟩)
theorem mr_isA {Q : Int32 → Prop} (hA : MVq τ u k ty h zz f x i) (kk : ∀ v : Int32, (v = 0 ∨ v = 1) → (v.toInt ≠ 0 ↔ 0 ≤ ty) → Q v) : pp_isAny u σ τ vs Q :=
  mr_isAny hA (fun e => kk 1 (Or.inr rfl) ⟨fun _ => e, fun _ => by decide⟩) (fun e => kk 0 (Or.inl rfl) ⟨fun hx => absurd rfl hx, fun hx => by omega⟩)
theorem sn_of (h9 : 0 ≤ sg ∧ sg ≤ 62) (hs : a.toInt = rkI sg - 32) (m : Nat) (hm : m ≤ 62) (n : Int) (hn : rkI (m : Int) - 32 = n) (e : a.toInt = n) : sg = (m : Int) := rk_one h9 (by omega) (by omega)
theorem rk_rng : ∀ a : Nat, a < 57 → a < 41 ∨ (12 ≤ rkI (a : Int) - 32 ∧ rkI (a : Int) - 32 ≤ 40) := by decide
theorem rk_j : ∀ a : Nat, a < 57 → a < 41 ∨ 53 ≤ a ∨ ¬ (rkI (a : Int) - 32 = 14 ∨ rkI (a : Int) - 32 = 15 ∨ rkI (a : Int) - 32 = 34 ∨ rkI (a : Int) - 32 = 35 ∨ (18 ≤ rkI (a : Int) - 32 ∧ rkI (a : Int) - 32 ≤ 30)) := by decide
theorem rk_j2 : ∀ a : Nat, a < 57 → a < 53 ∨ (rkI (a : Int) - 32 = 14 ∨ rkI (a : Int) - 32 = 15 ∨ rkI (a : Int) - 32 = 34 ∨ rkI (a : Int) - 32 = 35) := by decide
theorem dv_m1 (b : Int32) : b / (-1) = -b := Int32.toInt_inj.mp (by rw [Int32.toInt_div, show ((-1 : Int32)).toInt = -1 from by decide, Int32.toInt_neg, Int.tdiv_neg, Int.tdiv_one])
theorem ml_m1 (b : Int32) : b - -b * (-1) = 0 := by grind
theorem mr_work {Q : Int32 → Prop} (hr : 41 ≤ sg ∧ sg ≤ 56) (hs : a.toInt = rkI sg - 32) (hq : Q (wkq sg b c)) : pp_work a b c σ τ vs Q := by
  have sx := sn_of (a := a) (sg := sg) (by omega) hs
  have hrg : 12 ≤ a.toInt ∧ a.toInt ≤ 40 := by
    have := rk_rng sg.toNat (by omega)
    rw [show ((sg.toNat : Nat) : Int) = sg from by omega, ← hs] at this
    omega
  have jj : (a.toInt = 14 ∨ a.toInt = 15 ∨ a.toInt = 34 ∨ a.toInt = 35 ∨ (18 ≤ a.toInt ∧ a.toInt ≤ 30)) → 53 ≤ sg := fun hj => by
    have := rk_j sg.toNat (by omega)
    rw [show ((sg.toNat : Nat) : Int) = sg from by omega, ← hs] at this
    omega
  have g : ∀ m : Nat, m ≤ 62 → ∀ n : Int, rkI (m : Int) - 32 = n → a.toInt = n → ∀ {y : Int32}, wkq (m : Int) b c = y → Q y := fun m hm n hn e y hy => by
    rw [← hy, ← sx m hm n hn e]
    exact hq
  have h1 : ∀ m : Nat, m ≤ 62 → ∀ n : Int, rkI (m : Int) - 32 = n → a.toInt = n → (((m : Int) = 51 ∧ b.toInt = c.toInt) ∨ ((m : Int) = 52 ∧ b.toInt ≠ c.toInt) ∨ ((m : Int) = 53 ∧ b.toInt < c.toInt) ∨ ((m : Int) = 54 ∧ c.toInt < b.toInt) ∨ ((m : Int) = 55 ∧ b.toInt ≤ c.toInt) ∨ ((m : Int) = 56 ∧ c.toInt ≤ b.toInt)) → Q 1 := fun m hm n hn e hc => g m hm n hn e (by
    unfold wkq
    rw [if_neg (by omega), if_neg (by omega), if_neg (by omega), if_neg (by omega), if_neg (by omega), if_neg (by omega), if_neg (by omega), if_neg (by omega), if_neg (by omega), if_neg (by omega), if_pos hc])
  have h2 : ∀ m : Nat, m ≤ 62 → ∀ n : Int, rkI (m : Int) - 32 = n → a.toInt = n → (((m : Int) = 51 ∧ ¬ b.toInt = c.toInt) ∨ ((m : Int) = 52 ∧ ¬ b.toInt ≠ c.toInt) ∨ ((m : Int) = 53 ∧ ¬ b.toInt < c.toInt) ∨ ((m : Int) = 54 ∧ ¬ c.toInt < b.toInt) ∨ ((m : Int) = 55 ∧ ¬ b.toInt ≤ c.toInt) ∨ ((m : Int) = 56 ∧ ¬ c.toInt ≤ b.toInt)) → Q 0 := fun m hm n hn e hc => g m hm n hn e (by
    unfold wkq
    rw [if_neg (by omega), if_neg (by omega), if_neg (by omega), if_neg (by omega), if_neg (by omega), if_neg (by omega), if_neg (by omega), if_neg (by omega), if_neg (by omega), if_neg (by omega), if_neg (by omega)])
  have gd : a.toInt = 39 → c.toInt = -1 → Q (-b) := fun e hc => g 46 (by decide) 39 (by decide) e (by
    have : c = -1 := Int32.toInt_inj.mp (by rw [hc]; rfl)
    subst this
    show b / (-1) = -b
    exact dv_m1 b)
  have gr : a.toInt = 40 → c.toInt = -1 → Q 0 := fun e hc => g 47 (by decide) 40 (by decide) e (by
    have : c = -1 := Int32.toInt_inj.mp (by rw [hc]; rfl)
    subst this
    show b - b / (-1) * (-1) = 0
    rw [dv_m1]
    exact ml_m1 b)
  clear hq
  unfold pp_work
  refine ⟨53 ≤ sg, fun hj => ⟨fun y => y = a, fun y hy => ⟨fun y2 => y2 = b, fun y2 hy2 => ⟨fun y3 => y3 = c, fun y3 hy3 => ?_, fun hx => by omega, fun _ => rfl⟩, fun hx => by omega, fun _ => rfl⟩, fun hx => by omega, fun _ => rfl⟩, ?_⟩
  · rw [hy, hy2, hy3]
    have h4 : a.toInt = 14 ∨ a.toInt = 15 ∨ a.toInt = 34 ∨ a.toInt = 35 := by
      have := rk_j2 sg.toNat (by omega)
      rw [show ((sg.toNat : Nat) : Int) = sg from by omega, ← hs] at this
      omega
    unfold pp_compared
    exact ⟨fun n34 => ⟨fun n35 => ⟨fun n14 => ⟨fun q => ⟨fun _ => h2 56 (by decide) 15 (by decide) (by omega) (Or.inr (Or.inr (Or.inr (Or.inr (Or.inr (⟨rfl, by omega⟩)))))), fun hx => absurd rfl hx⟩, fun q => ⟨fun hx => absurd hx (by decide), fun _ => h1 56 (by decide) 15 (by decide) (by omega) (Or.inr (Or.inr (Or.inr (Or.inr (Or.inr (⟨rfl, by omega⟩))))))⟩⟩, fun e => ⟨fun q => ⟨fun _ => h2 55 (by decide) 14 (by decide) e (Or.inr (Or.inr (Or.inr (Or.inr (Or.inl ⟨rfl, by omega⟩))))), fun hx => absurd rfl hx⟩, fun q => ⟨fun hx => absurd hx (by decide), fun _ => h1 55 (by decide) 14 (by decide) e (Or.inr (Or.inr (Or.inr (Or.inr (Or.inl ⟨rfl, by omega⟩)))))⟩⟩⟩, fun e => ⟨fun q => ⟨fun _ => h2 54 (by decide) 35 (by decide) e (Or.inr (Or.inr (Or.inr (Or.inl ⟨rfl, by omega⟩)))), fun hx => absurd rfl hx⟩, fun q => ⟨fun hx => absurd hx (by decide), fun _ => h1 54 (by decide) 35 (by decide) e (Or.inr (Or.inr (Or.inr (Or.inl ⟨rfl, by omega⟩))))⟩⟩⟩, fun e => ⟨fun q => ⟨fun _ => h2 53 (by decide) 34 (by decide) e (Or.inr (Or.inr (Or.inl ⟨rfl, by omega⟩))), fun hx => absurd rfl hx⟩, fun q => ⟨fun hx => absurd hx (by decide), fun _ => h1 53 (by decide) 34 (by decide) e (Or.inr (Or.inr (Or.inl ⟨rfl, by omega⟩)))⟩⟩⟩
  · exact ⟨fun e => ⟨fun c => h2 51 (by decide) 12 (by decide) e (Or.inl ⟨rfl, fun d => c d⟩), fun c => h1 51 (by decide) 12 (by decide) e (Or.inl ⟨rfl, c⟩)⟩, fun n12 => ⟨fun e => ⟨fun c => h2 52 (by decide) 13 (by decide) e (Or.inr (Or.inl ⟨rfl, fun d => d c⟩)), fun c => h1 52 (by decide) 13 (by decide) e (Or.inr (Or.inl ⟨rfl, c⟩))⟩, fun n13 => ⟨fun e => jj (by omega), fun n14 => ⟨fun e => jj (by omega), fun n15 => ⟨fun e => g 41 (by decide) 16 (by decide) e rfl, fun n16 => ⟨fun e => g 42 (by decide) 17 (by decide) e rfl, fun n17 => ⟨fun e => jj (by omega), fun n18 => ⟨fun e => jj (by omega), fun n19 => ⟨fun e => jj (by omega), fun n20 => ⟨fun e => jj (by omega), fun n21 => ⟨fun e => jj (by omega), fun n22 => ⟨fun e => jj (by omega), fun n23 => ⟨fun e => jj (by omega), fun n24 => ⟨fun e => jj (by omega), fun n25 => ⟨fun e => jj (by omega), fun n26 => ⟨fun e => jj (by omega), fun n27 => ⟨fun e => jj (by omega), fun n28 => ⟨fun e => jj (by omega), fun n29 => ⟨fun e => jj (by omega), fun n30 => ⟨fun e => g 49 (by decide) 31 (by decide) e rfl, fun n31 => ⟨fun e => g 50 (by decide) 32 (by decide) e rfl, fun n32 => ⟨fun e => g 48 (by decide) 33 (by decide) e rfl, fun n33 => ⟨fun e => jj (by omega), fun n34 => ⟨fun e => jj (by omega), fun n35 => ⟨fun e => g 43 (by decide) 36 (by decide) e rfl, fun n36 => ⟨fun e => g 44 (by decide) 37 (by decide) e rfl, fun n37 => ⟨fun e => g 45 (by decide) 38 (by decide) e rfl, fun n38 => ⟨fun e => ⟨fun c c0 => g 46 (by decide) 39 (by decide) e rfl, fun c => gd e c⟩, fun n39 => ⟨fun e => ⟨fun c c0 => g 47 (by decide) 40 (by decide) e rfl, fun c => gr e c⟩, fun n40 => jj (by omega)⟩⟩⟩⟩⟩⟩⟩⟩⟩⟩⟩⟩⟩⟩⟩⟩⟩⟩⟩⟩⟩⟩⟩⟩⟩⟩⟩⟩⟩
theorem rk_iff : ∀ a : Nat, a < 63 → (rkI (a : Int) - 32 = 36 ↔ a = 43) ∧ (rkI (a : Int) - 32 = 37 ↔ a = 44) ∧ (rkI (a : Int) - 32 = 12 ↔ a = 51) ∧ (rkI (a : Int) - 32 = 13 ↔ a = 52) ∧ (lvq (a : Int) = 7 ↔ 53 ≤ a ∧ a ≤ 56) := by decide
section TYL
variable {sg ta tb za zb : Int}
theorem ty_43p (h : sg = 43 ∧ tb = 0 ∧ ta ≠ -1) : tyq sg ta tb za zb = ta := by unfold tyq; (repeat' split) <;> omega
theorem ty_43q (h : sg = 43 ∧ ta = 0 ∧ tb ≠ -1) : tyq sg ta tb za zb = tb := by unfold tyq; (repeat' split) <;> omega
theorem ty_43n (h : sg = 43 ∧ (ta = -1 ∨ tb = -1 ∨ (ta ≠ 0 ∧ tb ≠ 0))) : tyq sg ta tb za zb = -2 := by unfold tyq; (repeat' split) <;> omega
theorem ty_44p (h : sg = 44 ∧ tb = 0 ∧ ta ≠ -1) : tyq sg ta tb za zb = ta := by unfold tyq; (repeat' split) <;> omega
theorem ty_44z (h : sg = 44 ∧ ta = tb ∧ ta ≠ -1) : tyq sg ta tb za zb = 0 := by unfold tyq; (repeat' split) <;> omega
theorem ty_44n (h : sg = 44 ∧ (ta = -1 ∨ tb = -1 ∨ (tb ≠ 0 ∧ ta ≠ tb))) : tyq sg ta tb za zb = -2 := by unfold tyq; (repeat' split) <;> omega
theorem ty_51z (h : (51 ≤ sg ∧ sg ≤ 52) ∧ ta ≠ -1 ∧ tb ≠ -1 ∧ (ta = tb ∨ (0 < tb ∧ za ≠ 0) ∨ (0 < ta ∧ zb ≠ 0))) : tyq sg ta tb za zb = 0 := by unfold tyq; (repeat' split) <;> omega
theorem ty_51n (h : (51 ≤ sg ∧ sg ≤ 52) ∧ (ta = -1 ∨ tb = -1 ∨ (ta ≠ tb ∧ ¬ (0 < tb ∧ za ≠ 0) ∧ ¬ (0 < ta ∧ zb ≠ 0)))) : tyq sg ta tb za zb = -2 := by unfold tyq; (repeat' split) <;> omega
theorem ty_53z (h : (53 ≤ sg ∧ sg ≤ 56) ∧ ta = tb ∧ ta ≠ -1) : tyq sg ta tb za zb = 0 := by unfold tyq; (repeat' split) <;> omega
theorem ty_53n (h : (53 ≤ sg ∧ sg ≤ 56) ∧ (ta = -1 ∨ tb = -1 ∨ ta ≠ tb)) : tyq sg ta tb za zb = -2 := by unfold tyq; (repeat' split) <;> omega
theorem ty_ez (h : sg ≤ 56 ∧ ta = 0 ∧ tb = 0) : tyq sg ta tb za zb = 0 := by unfold tyq; (repeat' split) <;> omega
theorem ty_en (h : (sg ≤ 42 ∨ (45 ≤ sg ∧ sg ≤ 50)) ∧ ¬ (ta = 0 ∧ tb = 0)) : tyq sg ta tb za zb = -2 := by unfold tyq; (repeat' split) <;> omega
end TYL
theorem mr_typeOf {Q : Int32 → Prop} (hA : MVq τ u k ty h zz f x i) (hB : MVq τ v k2 ty2 h2 z2 f2 x2 i2) (hr : 41 ≤ sg ∧ sg ≤ 56) (hs : a.toInt = rkI sg - 32) (hty : -2 ≤ ty ∧ ty ≤ 9 ∧ -2 ≤ ty2 ∧ ty2 ≤ 9) (hz : (zz ≠ 0 → ty ≠ -1) ∧ (z2 ≠ 0 → ty2 ≠ -1)) (kk : ∀ r : Int32, -2 ≤ r.toInt ∧ r.toInt ≤ 9 → (ty ≠ -2 → ty2 ≠ -2 → r.toInt = tyq sg ty ty2 zz z2) → Q r) : pp_typeOf a u v σ τ vs Q := by
  have m2 : ((-2 : Int32)).toInt = -2 := by decide
  have m0 : ((0 : Int32)).toInt = 0 := by decide
  have a0 := hA.2.1
  have b0 := hB.2.1
  have az := hA.2.2.2.1
  have bz := hB.2.2.2.1
  have hi := rk_iff sg.toNat (by omega)
  rw [show ((sg.toNat : Nat) : Int) = sg from by omega, ← hs] at hi
  obtain ⟨i36, i37, i12, i13, i7⟩ := hi
  have hrk : ∀ {P : Int32 → Prop}, (∀ v : Int32, v.toInt = lvq sg → P v) → pp_rank a σ τ vs P := fun hp => mr_rank (by omega) hs hp
  generalize lvq sg = lv at hrk i7
  clear hs
  unfold pp_typeOf
  refine mr_isI hA (fun v1 _ w1 => ⟨fun y => (y.toInt ≠ 0 ↔ ty = 0 ∧ ty2 = 0), fun y _ hy => mr_isP hA (fun v2 _ w2 => ⟨fun y' => (y'.toInt ≠ 0 ↔ 0 < ty ∧ ty = ty2), fun y' _ hy' => ?_, ¬ (0 < ty ∧ ty = ty2), fun hj => ⟨fun hx => absurd rfl hx, fun hx => absurd hx hj⟩, fun c => by omega, fun c _ _ => ⟨fun c2 => by omega, fun c2 => ⟨fun _ => by omega, fun _ => by decide⟩⟩⟩), ¬ (ty = 0 ∧ ty2 = 0), fun hj => ⟨fun hx => absurd rfl hx, fun hx => absurd hx hj⟩, fun c => by omega, fun c => mr_isI hB (fun v3 _ w3 => ⟨fun c2 => by omega, fun c2 => ⟨fun _ => by omega, fun _ => by decide⟩⟩)⟩)
  clear w1 w2
  exact ⟨fun n36 => ⟨fun n37 => ⟨sg = 51 ∨ sg = 52, fun hj => ⟨fun c1 => kk _ (by omega) (fun q1 q2 => by rw [ty_51z (by omega)]; exact m0), fun c1 => ⟨fun c2 => kk _ (by omega) (fun q1 q2 => by rw [ty_51z (by omega)]; exact m0), fun c2 => mr_isP hA (fun v3 _ w3 => ⟨¬ (0 < ty ∧ z2 ≠ 0), fun hj2 => mr_isP hB (fun v4 _ w4 => ⟨fun c3 => kk _ (by omega) (fun q1 q2 => by rw [ty_51n (by omega)]; exact m2), fun c3 _ => ⟨fun c4 => kk _ (by omega) (fun q1 q2 => by rw [ty_51n (by omega)]; exact m2), fun c4 => kk _ (by omega) (fun q1 q2 => by rw [ty_51z (by omega)]; exact m0)⟩⟩), fun c3 => by omega, fun c3 _ => ⟨fun c4 => kk _ (by omega) (fun q1 q2 => by rw [ty_51z (by omega)]; exact m0), fun c4 => by omega⟩⟩)⟩⟩, fun c1 => by omega, fun c1 => ⟨fun c2 => hrk (fun v hv => ⟨fun c3 => ⟨fun c4 => kk _ (by omega) (fun q1 q2 => by rw [ty_en (by omega)]; exact m2), fun c4 => kk _ (by omega) (fun q1 q2 => by rw [ty_ez (by omega)]; exact m0)⟩, fun c3 => ⟨fun c4 => kk _ (by omega) (fun q1 q2 => by rw [ty_53z (by omega)]; exact m0), fun c4 => ⟨fun c5 => kk _ (by omega) (fun q1 q2 => by rw [ty_53n (by omega)]; exact m2), fun c5 => kk _ (by omega) (fun q1 q2 => by rw [ty_53z (by omega)]; exact m0)⟩⟩⟩), fun c2 => by omega⟩⟩, fun c37 => ⟨fun c1 => kk _ (by omega) (fun q1 q2 => by rw [ty_44z (by omega)]; exact m0), fun c1 => ⟨fun c2 => mr_isP hA (fun v3 _ w3 => ⟨fun c3 => kk _ (by omega) (fun q1 q2 => by rw [ty_44n (by omega)]; exact m2), fun c3 => mr_isI hB (fun v4 _ w4 => ⟨fun c4 => kk _ (by omega) (fun q1 q2 => by rw [ty_44n (by omega)]; exact m2), fun c4 _ => kk _ (by omega) (fun q1 q2 => by rw [ty_44p (by omega)]; exact a0)⟩)⟩), fun c2 => kk _ (by omega) (fun q1 q2 => by rw [ty_44z (by omega)]; exact m0)⟩⟩⟩, fun c36 => ⟨fun c1 => mr_isP hA (fun v3 _ w3 => ⟨¬ (0 < ty ∧ ty2 = 0), fun hj2 => mr_isI hA (fun v4 _ w4 => ⟨fun c3 => kk _ (by omega) (fun q1 q2 => by rw [ty_43n (by omega)]; exact m2), fun c3 => mr_isP hB (fun v5 _ w5 => ⟨fun c4 => kk _ (by omega) (fun q1 q2 => by rw [ty_43n (by omega)]; exact m2), fun c4 _ => kk _ (by omega) (fun q1 q2 => by rw [ty_43q (by omega)]; exact b0)⟩)⟩), fun c3 => by omega, fun c3 => mr_isI hB (fun v4 _ w4 => ⟨fun c4 => by omega, fun c4 _ => kk _ (by omega) (fun q1 q2 => by rw [ty_43p (by omega)]; exact a0)⟩)⟩), fun c1 => kk _ (by omega) (fun q1 q2 => by rw [ty_ez (by omega)]; exact m0)⟩⟩
end ROP
end

section
/-! the reference's operators on Values, on -/
section ROP2
variable {σ s r τ t : St} {vs z : List Nat} {u v q : Nat} {k ty h zz f i k2 ty2 h2 z2 f2 i2 sg : Int} {x x2 y a b c : Int32} {B B2 : Prop}
theorem mv_const (hA : MVq t q k ty h zz f x i) : MVq (upC (upC t q 6 (1 : Int32)) q 7 y) q k ty h zz 1 y i := by
  obtain ⟨q0, q1, q2, q3, q4, q5, q6⟩ := hA
  refine ⟨?_, ?_, ?_, ?_, ?_, fun _ => rdA_eq rfl, fun hi => ?_⟩
  · rw [rdA_ne (by decide), rdA_ne (by decide)]; exact q0
  · rw [rdA_ne (by decide), rdA_ne (by decide)]; exact q1
  · rw [rdA_ne (by decide), rdA_ne (by decide)]; exact q2
  · rw [rdA_ne (by decide), rdA_ne (by decide)]; exact q3
  · rw [rdA_ne (by decide), rdA_eq rfl]; rfl
  · rw [rdA_ne (by decide), rdA_ne (by decide)]; exact q6 hi
theorem mv_addr (hA : MVq t q k ty h zz f x i) : MVq (upC (upC (upC t q 6 (2 : Int32)) q 8 a) q 7 b) q k ty h zz 2 0 i := by
  obtain ⟨q0, q1, q2, q3, q4, q5, q6⟩ := hA
  refine ⟨?_, ?_, ?_, ?_, ?_, fun hf => absurd hf (by decide), fun hi => ?_⟩
  · rw [rdA_ne (by decide), rdA_ne (by decide), rdA_ne (by decide)]; exact q0
  · rw [rdA_ne (by decide), rdA_ne (by decide), rdA_ne (by decide)]; exact q1
  · rw [rdA_ne (by decide), rdA_ne (by decide), rdA_ne (by decide)]; exact q2
  · rw [rdA_ne (by decide), rdA_ne (by decide), rdA_ne (by decide)]; exact q3
  · rw [rdA_ne (by decide), rdA_ne (by decide), rdA_eq rfl]; rfl
  · rw [rdA_ne (by decide), rdA_ne (by decide), rdA_ne (by decide)]; exact q6 hi
theorem tf_up {m : Nat} (hT : TFq τ vs t z) (hq : q ∉ vs) : TFq τ vs (upC t q m a) z := ⟨hT.1, fun w hw m' => by rw [rdC_ne (nvq hq hw)]; exact hT.2 w hw m'⟩
theorem kw_x (h : KWr σ s) : KXr σ s := kp_sub h rfl rfl
theorem kf_x (h : KFr σ s) : KXr σ s := kp_sub h rfl rfl
theorem fc_0 {sg fa fb : Int} {xb : Int32} (h : ¬ (fa = 1 ∧ fb = 1 ∧ sg < 57 ∧ ¬ ((sg = 46 ∨ sg = 47) ∧ xb.toInt = 0)) ∧ ¬ ((sg = 43 ∨ sg = 44) ∧ fa = 2 ∧ fb = 1) ∧ ¬ (sg = 43 ∧ fa = 1 ∧ fb = 2)) : fcq sg fa fb xb = 0 := by
  unfold fcq
  rw [if_neg h.1, if_neg h.2.1, if_neg h.2.2]
theorem fc_1 {sg fa fb : Int} {xb : Int32} (h : fa = 1 ∧ fb = 1 ∧ sg < 57 ∧ ¬ ((sg = 46 ∨ sg = 47) ∧ xb.toInt = 0)) : fcq sg fa fb xb = 1 := by
  unfold fcq
  rw [if_pos h]
theorem fc_2 {sg fa fb : Int} {xb : Int32} (h : ((sg = 43 ∨ sg = 44) ∧ fa = 2 ∧ fb = 1) ∨ (sg = 43 ∧ fa = 1 ∧ fb = 2)) : fcq sg fa fb xb = 2 := by
  unfold fcq
  (repeat' split) <;> omega
theorem lt_57 {n : Int} (h : n ≤ 56) : n < 57 := by omega
/-- two Values by a sign -/
theorem mr_two {Q : Nat → St → St → List Nat → Prop} (h0 : 0 ≤ (σ 0 12).toInt) (hA : MVq τ u k ty h zz f x i) (hB : MVq τ v k2 ty2 h2 z2 f2 x2 i2) (hu : u ∈ vs) (hv : v ∈ vs) (hr : 41 ≤ sg ∧ sg ≤ 56) (hs : a.toInt = rkI sg - 32)
    (hty : -2 ≤ ty ∧ ty ≤ 9 ∧ -2 ≤ ty2 ∧ ty2 ≤ 9) (hz : (zz ≠ 0 → ty ≠ -1) ∧ (z2 ≠ 0 → ty2 ≠ -1)) (hf : (f = 1 → ty = 0) ∧ (f = 2 → 0 < ty ∨ ty = -2) ∧ (f2 = 1 → ty2 = 0) ∧ (f2 = 2 → 0 < ty2 ∨ ty2 = -2)) (hh : 0 ≤ h ∧ h ≤ 20000 ∧ 0 ≤ h2 ∧ h2 ≤ 20000)
    (kk : ∀ q s t T F X, q ∉ vs → (0 ≤ F ∧ F ≤ 2) → KXr σ s → TFq τ vs t (vs ++ [q]) → MVq t q 0 T (1 + mxq h h2) 0 F X 0 → -2 ≤ T ∧ T ≤ 9 → (F = 1 → T = 0 ∧ f = 1 ∧ f2 = 1 ∧ 1 + mxq h h2 ≤ 60) → (F = 2 → 0 < T) → FTq σ s (T = -2 ∨ 60 < 1 + mxq h h2) → (ty ≠ -2 → ty2 ≠ -2 → T = tyq sg ty ty2 zz z2 ∧ (T ≠ -2 → 1 + mxq h h2 ≤ 60 → F = fcq sg f f2 x2 ∧ (F = 1 → X = wkq sg x x2))) → Q q s t (vs ++ [q])) : pp_two a u v b σ τ vs Q := by
  have hi := rk_iff sg.toNat (by omega)
  rw [show ((sg.toNat : Nat) : Int) = sg from by omega, ← hs] at hi
  obtain ⟨i36, i37, _, _, _⟩ := hi
  have i39 : a.toInt = 39 → sg = 46 := sn_of (by omega) hs 46 (by decide) 39 (by decide)
  have i40 : a.toInt = 40 → sg = 47 := sn_of (by omega) hs 47 (by decide) 40 (by decide)
  have hn43 : sg.toNat = 43 → sg = 43 := fun e => by omega
  have hn44 : sg.toNat = 44 → sg = 44 := fun e => by omega
  have hm43 : sg = 43 → sg.toNat = 43 := fun e => by omega
  have hm44 : sg = 44 → sg.toNat = 44 := fun e => by omega
  unfold pp_two
  refine mr_typeOf hA hB hr hs hty hz (fun r hr9 hT => ⟨fun y => (y.toInt = 0 ↔ r.toInt = -2), fun y _ hy => mr_must h0 (fun s k1 f1 => mr_made f1.1 hA hB hu hv hh (fun q s2 t hq k2 tf t0 mv f2' => mr_rank (by omega) hs (fun vr hvr => ⟨fun _ => True, fun y3 _ _ => ⟨fun _ => True, fun y4 _ _ => mr_put2 (fun s3 k3 _ => ?_), fun _ => trivial, fun _ => trivial⟩, True, fun _ => trivial, fun _ => trivial, fun _ => mr_isP (mv_tf hA hu tf) (fun _ _ _ => ⟨fun _ => trivial, fun _ => trivial⟩)⟩))), fun c => ⟨fun _ => c, fun _ => rfl⟩, fun c => ⟨fun hx => absurd hx (by decide), fun hx => absurd hx c⟩⟩)
  have ks : KXr σ s3 := kp_tr (kp_tr (kf_x k1) (kf_x k2)) (kw_x k3)
  have fs : FTq σ s3 (r.toInt = -2 ∨ 60 < 1 + mxq h h2) := ft_k (ft_iff (ft_tr f1 f2' (k1 0 15 rfl rfl)) (or_congr hy Iff.rfl)) (k3 0 12 rfl rfl)
  have am := mv_tf hA hu tf
  have bm := mv_tf hB hv tf
  have kf : ∀ t' F X, (0 ≤ F ∧ F ≤ 2) → TFq τ vs t' (vs ++ [q]) → MVq t' q 0 r.toInt (1 + mxq h h2) 0 F X 0 → (F = 1 → r.toInt = 0 ∧ f = 1 ∧ f2 = 1 ∧ 1 + mxq h h2 ≤ 60) → (F = 2 → 0 < r.toInt) → (ty ≠ -2 → ty2 ≠ -2 → r.toInt = tyq sg ty ty2 zz z2 → r.toInt ≠ -2 → 1 + mxq h h2 ≤ 60 → F = fcq sg f f2 x2 ∧ (F = 1 → X = wkq sg x x2)) → Q q s3 t' (vs ++ [q])   := fun t' F X g0 g1 g2 g3 g4 g5 => kk q s3 t' r.toInt F X hq g0 ks g1 g2 hr9 g3 g4 fs (fun e1 e2 => ⟨hT e1 e2, fun e3 e4 => g5 e1 e2 (hT e1 e2) e3 e4⟩)
  have hT0 : ty = 0 → ty2 = 0 → r.toInt = 0 := fun e1 e2 => by
    rw [hT (by omega) (by omega)]
    exact ty_ez ⟨by omega, e1, e2⟩
  have hT1 : (sg = 43 ∨ sg = 44) → 0 < ty → ty2 = 0 → 0 < r.toInt := fun e0 e1 e2 => by
    rw [hT (by omega) (by omega)]
    rcases e0 with e0 | e0
    · rw [ty_43p ⟨e0, e2, by omega⟩]; exact e1
    · rw [ty_44p ⟨e0, e2, by omega⟩]; exact e1
  have hT2 : sg = 43 → ty = 0 → 0 < ty2 → 0 < r.toInt := fun e0 e1 e2 => by
    rw [hT (by omega) (by omega), ty_43q ⟨e0, e1, by omega⟩]
    exact e2
  have hT3 : sg = 44 → ty = 0 → 0 < ty2 → ¬ 0 < r.toInt := fun e0 e1 e2 => by
    rw [hT (by omega) (by omega), ty_44n ⟨e0, by omega⟩]
    decide
  have am6 := am.2.2.2.2.1
  have bm6 := bm.2.2.2.2.1
  clear hT k1 k2 k3 f1 f2' kk
  have n0 : (ty ≠ -2 → ty2 ≠ -2 → ¬ (f = 1 ∧ f2 = 1 ∧ ¬ ((sg = 46 ∨ sg = 47) ∧ x2.toInt = 0)) ∧ ¬ ((sg = 43 ∨ sg = 44) ∧ f = 2 ∧ f2 = 1) ∧ ¬ (sg = 43 ∧ f = 1 ∧ f2 = 2)) → Q q s3 t (vs ++ [q]) := fun ee => kf t 0 0 ⟨by decide, by decide⟩ tf mv (fun hx => absurd hx (by decide)) (fun hx => absurd hx (by decide)) (fun q1 q2 _ _ _ => ⟨(fc_0 ⟨fun hx => (ee q1 q2).1 ⟨hx.1, hx.2.1, hx.2.2.2⟩, (ee q1 q2).2.1, (ee q1 q2).2.2⟩).symm, fun hx => absurd hx (by decide)⟩)
  have n2 : ∀ b1 b2 : Int32, 0 < r.toInt → (ty ≠ -2 → ty2 ≠ -2 → ((sg = 43 ∨ sg = 44) ∧ f = 2 ∧ f2 = 1) ∨ (sg = 43 ∧ f = 1 ∧ f2 = 2)) → Q q s3 (upC (upC (upC t q 6 (2 : Int32)) q 8 b1) q 7 b2) (vs ++ [q]) := fun b1 b2 e1 e2 => kf _ 2 0 ⟨by decide, by decide⟩ (tf_up (tf_up (tf_up tf hq) hq) hq) (mv_addr mv) (fun hx => absurd hx (by decide)) (fun _ => e1) (fun q1 q2 _ _ _ => ⟨(fc_2 (e2 q1 q2)).symm, fun hx => absurd hx (by decide)⟩)
  have hf1 := hf.1
  have hf2 := hf.2.1
  have hf3 := hf.2.2.1
  have hf4 := hf.2.2.2
  refine ⟨fun c60 _ => ⟨¬ (f = 1 ∧ f2 = 1 ∧ ty = 0 ∧ ty2 = 0), fun hj => ⟨fun y => (y.toInt ≠ 0 ↔ (0 < r.toInt ∧ (sg = 43 ∨ sg = 44))), fun y5 _ hy5 => ⟨¬ (y5.toInt ≠ 0 ∧ f = 2 ∧ f2 = 1), fun hj2 => ?_, fun c hx => hx.1 c, fun c => ⟨fun c2 hx => c2 (am6.trans hx.2.1), fun c2 _ => ⟨fun c3 hx => c3 (bm6.trans hx.2.2), fun c3 => ⟨fun _ => True, fun y6 _ _ => n2 _ _ (hy5.1 c).1 (fun _ _ => Or.inl ⟨(hy5.1 c).2, am6.symm.trans c2, bm6.symm.trans c3⟩), fun _ => trivial, fun _ => trivial⟩⟩⟩⟩, ?_⟩, ?_⟩, fun c60 => ?_⟩
  · have hj' : ¬ (f = 1 ∧ f2 = 1 ∧ ¬ ((sg = 46 ∨ sg = 47) ∧ x2.toInt = 0)) := fun hx => hj ⟨hx.1, hx.2.1, hf1 hx.1, hf3 hx.2.1⟩
    have hb : ty ≠ -2 → ((sg = 43 ∨ sg = 44) ∧ f = 2 ∧ f2 = 1) → y5.toInt ≠ 0 := fun e hx => hy5.2 ⟨hT1 hx.1 ((hf2 hx.2.1).resolve_right e) (hf3 hx.2.2), hx.1⟩
    have hc : ty2 ≠ -2 → (sg = 43 ∧ f = 1 ∧ f2 = 2) → y5.toInt ≠ 0 := fun e hx => hy5.2 ⟨hT2 hx.1 (hf1 hx.2.1) ((hf4 hx.2.2).resolve_right e), Or.inl hx.1⟩
    refine ⟨fun c => n0 (fun e1 e2 => ⟨hj', fun hx => hb e1 hx c, fun hx => hc e2 hx c⟩), fun c => ⟨fun c2 => n0 (fun e1 e2 => ⟨hj', fun hx => hj2 ⟨c, hx.2⟩, fun hx => c2 (am6.trans hx.2.1)⟩), fun c2 _ => ⟨fun c3 => n0 (fun e1 e2 => ⟨hj', fun hx => hj2 ⟨c, hx.2⟩, fun hx => c3 (bm6.trans hx.2.2)⟩), fun c3 _ => n2 _ _ (hy5.1 c).1 (fun e1 e2 => Or.inr ⟨?_, am6.symm.trans c2, bm6.symm.trans c3⟩)⟩⟩⟩
    rcases (hy5.1 c).2 with e | e
    · exact e
    · exact absurd (hy5.1 c).1 (hT3 e (hf1 (am6.symm.trans c2)) ((hf4 (bm6.symm.trans c3)).resolve_right e2))
  · refine ⟨¬ (0 < r.toInt ∧ (sg = 43 ∨ sg = 44)), fun hx => ⟨fun e => absurd rfl e, fun e => absurd e hx⟩, sg = 43 ∨ sg = 44, fun hx => mr_isP mv (fun v6 _ w6 => ⟨fun c hy6 => w6.2 hy6.1 c, fun c => ⟨fun _ => ⟨w6.1 c, hx⟩, fun _ => by decide⟩⟩), fun c => Or.inl (hn43 (i36.1 c)), fun c => ⟨fun c2 hy6 => ?_, fun c2 => Or.inr (hn44 (i37.1 c2))⟩⟩
    rcases hy6.2 with e | e
    · exact c (i36.2 (hm43 e))
    · exact c2 (i37.2 (hm44 e))
  · refine ⟨fun c hx => c (am6.trans hx.1), fun c _ => ⟨fun c2 hx => c2 (bm6.trans hx.2.1), fun c2 => mr_isI am (fun v6 _ w6 => ⟨fun c3 hx => w6.2 hx.2.2.1 c3, fun c3 => mr_isI bm (fun v7 _ w7 => ⟨fun c4 hx => w7.2 hx.2.2.2 c4, fun c4 => ⟨¬ ((sg = 46 ∨ sg = 47) ∧ x2.toInt = 0), fun hj => ?_, sg = 46 ∨ sg = 47, fun hj => ⟨fun c5 hx => c5 ?_, fun c5 => ?_⟩, fun c5 => Or.inl (i39 c5), fun c5 => ⟨fun c6 hx => ?_, fun c6 => Or.inr (i40 c6)⟩⟩⟩)⟩)⟩⟩
    · have e1 := am.2.2.2.2.2.1 (am6.symm.trans c)
      have e2 := bm.2.2.2.2.2.1 (bm6.symm.trans c2)
      rw [e1, e2]
      refine mr_work hr hs (fun _ => ?_)
      have e3 := mv.2.2.1
      exact kf _ 1 (wkq sg x x2) ⟨by decide, by decide⟩ (tf_up (tf_up tf hq) hq) (mv_const mv) (fun _ => ⟨hT0 (w6.1 c3) (w7.1 c4), am6.symm.trans c, bm6.symm.trans c2, by rw [← e3]; exact c60⟩) (fun hx => absurd hx (by decide)) (fun _ _ _ _ _ => ⟨(fc_1 ⟨am6.symm.trans c, bm6.symm.trans c2, lt_57 hr.2, hj⟩).symm, fun _ => rfl⟩)
    · rw [bm.2.2.2.2.2.1 (bm6.symm.trans c2)]
      exact hx.2
    · rw [bm.2.2.2.2.2.1 (bm6.symm.trans c2)] at c5
      exact n0 (fun _ _ => ⟨fun hx => hx.2.2 ⟨hj, c5⟩, fun hx => absurd (am6.symm.trans c |>.symm.trans hx.2.1) (by decide), fun hx => absurd (bm6.symm.trans c2 |>.symm.trans hx.2.2) (by decide)⟩)
    · rcases hx.1 with e | e
      · exact c5 (by rw [hs, e]; decide)
      · exact c6 (by rw [hs, e]; decide)
  · have e3 := mv.2.2.1
    rw [e3] at c60
    exact kf t 0 0 ⟨by decide, by decide⟩ tf mv (fun hx => absurd hx (by decide)) (fun hx => absurd hx (by decide)) (fun _ _ _ _ hx => absurd c60 (Int.not_lt.mpr hx))
end ROP2
end

section
/-! the reference's operators on one Value -/
def onB (sg ty : Int) : Prop := if sg = 59 then ty < 0 else ty ≠ 0
section ROP3
variable {σ s r τ t : St} {vs z : List Nat} {u v q : Nat} {k ty h zz f i sg : Int} {x y a b c : Int32} {B B2 : Prop}
theorem mx_same : mxq h h = h := by unfold mxq; split <;> rfl
theorem rk_iff2 : ∀ a : Nat, a < 63 → (rkI (a : Int) - 32 = 41 ↔ a = 59) ∧ (rkI (a : Int) - 32 = 37 ↔ a = 44) ∧ (rkI (a : Int) - 32 = 33 ↔ a = 48) ∧ (rkI (a : Int) - 32 = 38 ↔ a = 45) ∧ (rkI (a : Int) - 32 = 18 ↔ a = 61) ∧ (rkI (a : Int) - 32 = 19 ↔ a = 62) := by decide
theorem rk_iff3 (hr : 0 ≤ sg ∧ sg ≤ 62) (hs : a.toInt = rkI sg - 32) : (a.toInt = 41 ↔ sg = 59) ∧ (a.toInt = 37 ↔ sg = 44) ∧ (a.toInt = 33 ↔ sg = 48) ∧ (a.toInt = 38 ↔ sg = 45) ∧ (a.toInt = 18 ↔ sg = 61) ∧ (a.toInt = 19 ↔ sg = 62) := by
  have hi := rk_iff2 sg.toNat (by omega)
  rw [show ((sg.toNat : Nat) : Int) = sg from by omega, ← hs] at hi
  omega
theorem mr_one {Q : Nat → St → St → List Nat → Prop} (h0 : 0 ≤ (σ 0 12).toInt) (hA : MVq τ u k ty h zz f x i) (hu : u ∈ vs) (hr : sg = 44 ∨ sg = 59 ∨ sg = 60) (hs : a.toInt = rkI sg - 32) (hf : f = 1 → ty = 0) (hh : 0 ≤ h ∧ h ≤ 20000)
    (kk : ∀ q s t F X, q ∉ vs → KXr σ s → TFq τ vs t (vs ++ [q]) → MVq t q 0 0 (1 + h) 0 F X 0 → (F = 0 ∨ F = 1) → (F = 1 → f = 1 ∧ 1 + h ≤ 60) → FTq σ s (onB sg ty ∨ 60 < 1 + h) → (1 + h ≤ 60 → F = (if f = 1 then 1 else 0) ∧ (F = 1 → X = ivq sg x)) → Q q s t (vs ++ [q])) : pp_one_2 a u b σ τ vs Q := by
  obtain ⟨i41, i37, _⟩ := rk_iff3 (by omega) hs
  unfold pp_one_2
  have nx : ∀ y : Int32, (y.toInt = 0 ↔ onB sg ty) → pp_must y b σ τ vs (fun s19 t19 z19 => pp_made (0 : Int32) u u b s19 t19 z19 (fun u27 s27 t27 z27 => ∃ J57 : Int32 → Prop, (∀ (y1_57 : Int32), J57 y1_57 → (pp_put_0 y1_57 s27 t27 z27 (fun s57 t57 z57 => (u ∈ z57) → (((t57 u 6).toInt ≠ 1 → (Q u27 s57 t57 z57)) ∧ ((t57 u 6).toInt = 1 → (pp_isInt u s57 t57 z57 (fun v69 => (v69.toInt = 0 → (Q u27 s57 t57 z57)) ∧ (v69.toInt ≠ 0 → ((u27 ∈ z57) → (((t57 u27 3).toInt ≤ 60 → (∃ J131 : Int32 → Prop, (∀ (y1_131 : Int32), J131 y1_131 → (pp_Vconstant u27 y1_131 s57 t57 z57 (fun u131 s131 t131 z131 => Q u131 s131 t131 z131))) ∧ ((a.toInt ≠ 41 → ((a.toInt ≠ 37 → (J131 ((t57 u 7) ^^^ ((-1) : Int32)))) ∧ (a.toInt = 37 → (J131 (-(t57 u 7)))))) ∧ (a.toInt = 41 → (((t57 u 7).toInt ≠ 0 → (J131 (0 : Int32))) ∧ ((t57 u 7).toInt = 0 → (J131 (1 : Int32)))))))) ∧ (60 < (t57 u27 3).toInt → (Q u27 s57 t57 z57)))))))))))) ∧ ((a.toInt ≠ 41 → ((a.toInt ≠ 37 → (J57 (13 : Int32))) ∧ (a.toInt = 37 → (J57 (12 : Int32))))) ∧ (a.toInt = 41 → (J57 (14 : Int32)))))) := fun y hy => by
    refine mr_must h0 (fun s k1 f1 => mr_made f1.1 hA hA hu hu ⟨hh.1, hh.2, hh.1, hh.2⟩ (fun q s2 t hq k2 tf t0 mv f2 => ⟨fun _ => True, fun y2 _ => mr_put0 (fun s3 k3 _ => ?_), fun _ => ⟨fun _ => trivial, fun _ => trivial⟩, fun _ => trivial⟩))
    rw [mx_same] at mv f2
    have ks : KXr σ s3 := kp_tr (kp_tr (kf_x k1) (kf_x k2)) (kw_x k3)
    have fs : FTq σ s3 (onB sg ty ∨ 60 < 1 + h) := ft_k (ft_iff (ft_tr f1 f2 (k1 0 15 rfl rfl)) (or_congr hy Iff.rfl)) (k3 0 12 rfl rfl)
    have am := mv_tf hA hu tf
    have am6 := am.2.2.2.2.1
    have mv3 := mv.2.2.1
    refine ⟨fun c => kk q s3 t 0 0 hq ks tf mv (Or.inl rfl) (fun hx => absurd hx (by decide)) fs (fun _ => ⟨by rw [if_neg (fun e => c (am6.trans e))], fun hx => absurd hx (by decide)⟩), fun c => mr_isI am (fun v _ hv => ⟨fun c2 => absurd c2 (hv.2 (hf (am6.symm.trans c))), fun c2 _ => ⟨fun c3 => ?_, fun c3 => kk q s3 t 0 0 hq ks tf mv (Or.inl rfl) (fun hx => absurd hx (by decide)) fs (fun hx => absurd c3 (by rw [mv3]; omega))⟩⟩)⟩
    have ax := am.2.2.2.2.2.1 (am6.symm.trans c)
    rw [mv3] at c3
    refine ⟨fun y => y = ivq sg x, fun y3 hy3 _ => kk q s3 _ 1 y3 hq ks (tf_up (tf_up tf hq) hq) (mv_const mv) (Or.inr rfl) (fun _ => ⟨am6.symm.trans c, c3⟩) fs (fun _ => ⟨by rw [if_pos (am6.symm.trans c)], fun _ => hy3⟩), fun d => ⟨fun d2 => ?_, fun d2 => ?_⟩, fun d => ⟨fun d2 => ?_, fun d2 => ?_⟩⟩
    · unfold ivq
      rw [ax, if_neg (fun e => d2 (i37.2 e)), if_pos (by rcases hr with e | e | e; exact absurd (i37.2 e) d2; exact absurd (i41.2 e) d; exact e)]
    · unfold ivq
      rw [ax, if_pos (i37.1 d2)]
    · have e := i41.1 d
      unfold ivq
      rw [ax] at d2
      rw [if_neg (by omega), if_neg (by omega), if_neg d2]
    · have e := i41.1 d
      unfold ivq
      rw [ax] at d2
      rw [if_neg (by omega), if_neg (by omega), if_pos d2]
  refine ⟨fun y => (y.toInt = 0 ↔ onB sg ty), fun y _ hy => nx y hy, fun c => mr_isI hA (fun v _ hv => ?_), fun c => mr_isA hA (fun v _ hv => ?_)⟩
  · unfold onB
    rw [if_neg (fun e => c (i41.2 e))]
    omega
  · unfold onB
    rw [if_pos (i41.1 c)]
    omega
/-- behind a pointer -/
theorem mr_pointedTo {Q : Nat → St → St → List Nat → Prop} (h0 : 0 ≤ (σ 0 12).toInt) (hA : MVq τ u k ty h zz f x i) (hu : u ∈ vs) (hty : -2 ≤ ty ∧ ty ≤ 9) (hh : 0 ≤ h ∧ h ≤ 20000)
    (kk : ∀ q s t, q ∉ vs → KXr σ s → TFq τ vs t (vs ++ [q]) → MVq t q 3 (if 0 < ty then ty - 1 else -2) (1 + h) 0 0 0 0 → FTq σ s (ty < 1 ∨ 60 < 1 + h) → Q q s t (vs ++ [q])) : pp_pointedTo u b σ τ vs Q := by
  unfold pp_pointedTo
  refine mr_isP hA (fun v _ hv => mr_must h0 (fun s k1 f1 => mr_isP hA (fun v2 _ hv2 => ⟨fun y => y.toInt = (if 0 < ty then ty - 1 else -2), fun y hy => mr_made f1.1 hA hA hu hu ⟨hh.1, hh.2, hh.1, hh.2⟩ (fun q s2 t hq k2 tf t0 mv f2 _ => ?_), fun c => ?_, fun c _ => ?_⟩)))
  · rw [mx_same] at mv f2
    rw [hy] at mv
    refine kk q s2 _ hq (kp_tr (kf_x k1) (kf_x k2)) (tf_up (tf_up tf hq) hq) ?_ (ft_iff (ft_tr f1 f2 (k1 0 15 rfl rfl)) (or_congr (by omega) Iff.rfl))
    obtain ⟨q0, q1, q2, q3, q4, q5, q6⟩ := mv
    refine ⟨?_, ?_, ?_, ?_, ?_, fun hf => absurd hf (by decide), fun hi => by omega⟩
    · rw [rdA_ne (by decide), rdA_eq rfl]; rfl
    · rw [rdA_ne (by decide), rdA_ne (by decide)]; exact q1
    · rw [rdA_ne (by decide), rdA_ne (by decide)]; exact q2
    · rw [rdA_ne (by decide), rdA_ne (by decide)]; exact q3
    · rw [rdA_ne (by decide), rdA_ne (by decide)]; exact q4
  · rw [if_neg (by omega)]
    rfl
  · have := hA.2.1
    show ((τ u 0) - (1 : Int32)).toInt = _
    rw [if_pos (by omega), sb1 (by omega)]
    omega
/-- the address of a place -/
def ptB (k ty : Int) : Prop := k = 0 ∨ ty < 0 ∨ 9 ≤ ty
theorem mr_pointed {Q : Nat → St → St → List Nat → Prop} (h0 : 0 ≤ (σ 0 12).toInt) (hA : MVq τ u k ty h zz f x i) (hu : u ∈ vs) (hk : 0 ≤ k ∧ k ≤ 3) (hty : -2 ≤ ty ∧ ty ≤ 9) (hh : 0 ≤ h ∧ h ≤ 20000)
    (kk : ∀ q s t T F, q ∉ vs → KXr σ s → TFq τ vs t (vs ++ [q]) → MVq t q 0 T (1 + h) 0 F 0 0 → (ptB k ty → T = -2) → (¬ ptB k ty → T = ty + 1) → (F = if k = 2 ∧ 1 + h ≤ 60 then 2 else 0) → FTq σ s (ptB k ty ∨ 60 < 1 + h) → Q q s t (vs ++ [q])) : pp_pointed u b σ τ vs Q := by
  unfold pp_pointed
  have a1 := hA.1
  have a2 := hA.2.1
  refine fun _ => ⟨fun y => (y.toInt = 0 ↔ ptB k ty), fun y _ hy => mr_must h0 (fun s k1 f1 => ⟨fun y => (ptB k ty → y.toInt = -2) ∧ (¬ ptB k ty → y.toInt = ty + 1), fun y1 hy1 => mr_made f1.1 hA hA hu hu ⟨hh.1, hh.2, hh.1, hh.2⟩ (fun q s2 t hq k2 tf t0 mv f2 _ => ?_), fun c => ⟨fun _ => by decide, fun hx => absurd (hy.1 c) hx⟩, fun c _ => ⟨fun hx => absurd (hy.2 hx) c, fun hx => ?_⟩⟩), ptB k ty, fun hx => ⟨fun _ => hx, fun _ => rfl⟩, fun c => Or.inl (a1.symm.trans c), fun c => ⟨fun c2 => Or.inr (Or.inl (by omega)), fun c2 => ⟨fun c3 => Or.inr (Or.inr (by omega)), fun c3 => ⟨fun hx => absurd hx (by decide), fun hx => ?_⟩⟩⟩⟩
  · rw [mx_same] at mv f2
    have k12 : KXr σ s2 := kp_tr (kf_x k1) (kf_x k2)
    have fs : FTq σ s2 (ptB k ty ∨ 60 < 1 + h) := ft_iff (ft_tr f1 f2 (k1 0 15 rfl rfl)) (or_congr hy Iff.rfl)
    have am := mv_tf hA hu tf
    have am1 := am.1
    have mv3 := mv.2.2.1
    refine ⟨fun s' t' z' => KXr σ s' ∧ FTq σ s' (ptB k ty ∨ 60 < 1 + h) ∧ t' = t ∧ z' = vs ++ [q], ?_, fun c => ⟨k12, fs, rfl, rfl⟩, fun c _ => mr_put1 (fun s3 k3 => ⟨kp_tr k12 (kp_tr (kp_a kp_rf rfl) (kw_x k3)), ft_k fs ((k3 0 12 rfl rfl).trans (by rw [rdC_ne (by decide)])), rfl, rfl⟩)⟩
    rintro s3 t3 z3 ⟨k3, f3, rfl, rfl⟩ _
    refine ⟨fun c => mr_put1 (fun s4 k4 _ => ⟨fun c6 _ _ => ?_, fun c6 => ?_⟩), fun c => kk q s3 _ _ 0 hq k3 tf mv hy1.1 hy1.2 (by rw [if_neg (fun hx => c (am1.trans hx.1))]) f3⟩
    · rw [mv3] at c6
      exact kk q s4 _ _ 2 hq (kp_tr k3 (kw_x k4)) (tf_up (tf_up (tf_up tf hq) hq) hq) (mv_addr mv) hy1.1 hy1.2 (by rw [if_pos ⟨am1.symm.trans c, c6⟩]) (ft_k f3 (k4 0 12 rfl rfl))
    · rw [mv3] at c6
      exact kk q s4 _ _ 0 hq (kp_tr k3 (kw_x k4)) tf mv hy1.1 hy1.2 (by rw [if_neg (fun hx => by omega)]) (ft_k f3 (k4 0 12 rfl rfl))
  · unfold ptB at hx
    show ((τ u 0) + (1 : Int32)).toInt = _
    rw [ad0 i1 (by omega) (by omega), a2]
  · unfold ptB at hx
    omega
/-- one more or less of a place -/
theorem mr_stepped {Q : Nat → St → St → List Nat → Prop} (h0 : 0 ≤ (σ 0 12).toInt) (hA : MVq τ u k ty h zz f x i) (hu : u ∈ vs) (hh : 0 ≤ h ∧ h ≤ 20000)
    (kk : ∀ q s t T, q ∉ vs → KXr σ s → TFq τ vs t (vs ++ [q]) → MVq t q 0 T (1 + h) 0 0 0 0 → (k = 0 ∨ ty < 0 → T = -2) → (¬ (k = 0 ∨ ty < 0) → T = ty) → FTq σ s ((k = 0 ∨ ty < 0) ∨ 60 < 1 + h) → Q q s t (vs ++ [q])) : pp_stepped u a c b σ τ vs Q := by
  unfold pp_stepped
  have a1 := hA.1
  have a2 := hA.2.1
  refine fun _ => ⟨fun y => (y.toInt = 0 ↔ (k = 0 ∨ ty < 0)), fun y _ hy => mr_must h0 (fun s k1 f1 => ⟨fun y => ((k = 0 ∨ ty < 0) → y.toInt = -2) ∧ (¬ (k = 0 ∨ ty < 0) → y.toInt = ty), fun y1 hy1 => mr_made f1.1 hA hA hu hu ⟨hh.1, hh.2, hh.1, hh.2⟩ (fun q s2 t hq k2 tf t0 mv f2 => ⟨fun _ => True, fun y2 _ _ => ?_, fun _ => trivial, fun _ => trivial⟩), fun c => ⟨fun _ => by decide, fun hx => absurd (hy.1 c) hx⟩, fun c _ => ⟨fun hx => absurd (hy.2 hx) c, fun hx => a2⟩⟩), (k = 0 ∨ ty < 0), fun hx => ⟨fun _ => hx, fun _ => rfl⟩, fun c => Or.inl (a1.symm.trans c), fun c => ⟨fun c2 => Or.inr (by omega), fun c2 => ⟨fun hx => absurd hx (by decide), fun hx => ?_⟩⟩⟩
  · rw [mx_same] at mv f2
    have k12 : KXr σ s2 := kp_tr (kf_x k1) (kf_x k2)
    have fs : FTq σ s2 ((k = 0 ∨ ty < 0) ∨ 60 < 1 + h) := ft_iff (ft_tr f1 f2 (k1 0 15 rfl rfl)) (or_congr hy Iff.rfl)
    have fin : ∀ s', KXr σ s' → FTq σ s' ((k = 0 ∨ ty < 0) ∨ 60 < 1 + h) → Q q s' t (vs ++ [q]) := fun s' g1 g2 => kk q s' t y1.toInt hq g1 tf mv hy1.1 hy1.2 g2
    refine ⟨fun s' t' z' => KXr σ s' ∧ FTq σ s' ((k = 0 ∨ ty < 0) ∨ 60 < 1 + h) ∧ t' = t ∧ z' = vs ++ [q], ?_, fun c => ⟨k12, fs, rfl, rfl⟩, fun c => mr_put1 (fun s3 k3 => ⟨kp_tr k12 (kw_x k3), ft_k fs (k3 0 12 rfl rfl), rfl, rfl⟩)⟩
    rintro s3 t3 z3 ⟨k3, f3, rfl, rfl⟩ _
    refine ⟨fun s' t' z' => KXr σ s' ∧ FTq σ s' ((k = 0 ∨ ty < 0) ∨ 60 < 1 + h) ∧ t' = t3 ∧ z' = vs ++ [q], ?_, fun c _ => mr_put2 (fun s4 k4 => ⟨kp_tr k3 (kw_x k4), ft_k f3 (k4 0 12 rfl rfl), rfl, rfl⟩), fun c => mr_put2 (fun s4 k4 => ⟨kp_tr k3 (kw_x k4), ft_k f3 (k4 0 12 rfl rfl), rfl, rfl⟩)⟩
    rintro s5 t5 z5 ⟨k5, f5, rfl, rfl⟩
    exact mr_put0 (fun s6 k6 => fin s6 (kp_tr k5 (kw_x k6)) (ft_k f5 (k6 0 12 rfl rfl)))
  · omega
end ROP3
end

