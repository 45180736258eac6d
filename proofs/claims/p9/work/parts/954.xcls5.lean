/-! the steps of expressions: the class's, names and strings -/
/-- a name's token -/
def TNq (w : St) (t : Nat) : Prop := t < 16002 ∧ 0 ≤ (w 15 t).toInt ∧ 0 ≤ (w 14 t).toInt ∧ (w 15 t).toInt + (w 14 t).toInt ≤ 16000
def NMw (w : St) (t u : Nat) : Prop := (w 14 t).toInt = (w 14 u).toInt ∧ ∀ i : Nat, (i : Int) < (w 14 t).toInt → (w 1 ((w 15 t).toInt.toNat + i)).toInt = (w 1 ((w 15 u).toInt.toNat + i)).toInt
/-- the token of the j-th local that is seen; of the i-th name outside of functions -/
def ltk (w : St) (j : Nat) : Nat := (w 40 ((w 44 j).toInt.toNat)).toInt.toNat
def otk (w : St) (i : Nat) : Nat := (w 38 i).toInt.toNat
def LOKq (w : St) (S : Nat) : Prop := (w 6 15).toInt = (S : Int) ∧ S ≤ 100 ∧ ∀ j, j < S → (0 ≤ (w 44 j).toInt ∧ (w 44 j).toInt < 100) ∧ 0 ≤ (w 40 ((w 44 j).toInt.toNat)).toInt ∧ TNq w (ltk w j)
def OOKq (w : St) (n : Nat) : Prop := (w 6 7).toInt = (n : Int) ∧ n ≤ 100 ∧ (n : Int) ≤ (w 5 1).toInt ∧ (w 5 1).toInt ≤ 10100 ∧ ∀ i, i < n → 0 ≤ (w 38 i).toInt ∧ TNq w (otk w i)
def LFq (w : St) (S lo u : Nat) (v : Int) : Prop := (∃ j, lo ≤ j ∧ j < S ∧ NMw w (ltk w j) u ∧ (∀ j', j < j' → j' < S → ¬ NMw w (ltk w j') u) ∧ v = (w 44 j).toInt) ∨ ((∀ j, lo ≤ j → j < S → ¬ NMw w (ltk w j) u) ∧ v = -1)
def OFq (w : St) (n u : Nat) (v : Int) : Prop := (∃ i : Nat, i < n ∧ NMw w (otk w i) u ∧ (∀ i', i' < i → ¬ NMw w (otk w i') u) ∧ v = i) ∨ ((∀ i, i < n → ¬ NMw w (otk w i) u) ∧ v = -1)
def STy (j : Nat) (a b : St) : Prop := Ko [(4, 1), (6, 3), (6, 4), (7, 7)] [24, 43, 25, 39] a b ∧ LOW j a b
def STs (j : Nat) (a b : St) : Prop := Ko [(4, 1), (6, 3), (6, 4), (7, 7), (6, 5), (5, 9)] [24, 43, 17, 31, 32, 33] a b ∧ LOW j a b
section XCP
variable {w s t : St} {j : Nat} {k ty h z f i : Int} {x a b c d : Int32}
theorem sty_of (h : STx j w s) : STy j w s := ⟨ko_sub h.1 rfl rfl, h.2⟩
theorem sts_of (h : STx j w s) : STs j w s := ⟨ko_sub h.1 rfl rfl, h.2⟩
theorem sty_tr (h : STy j w s) (g : STy j s t) : STy j w t := ⟨ko_tr h.1 g.1, low_tr h.2 g.2⟩
theorem sts_tr (h : STs j w s) (g : STs j s t) : STs j w t := ⟨ko_tr h.1 g.1, low_tr h.2 g.2⟩
theorem low_fs {n : Nat} {fs : List (Nat × Nat)} {cs : List Nat} (hk : Kp fs cs w s) (h1 : ∀ c k, 65 ≤ c → fs.contains (c, k) = false) (h2 : ∀ c, 65 ≤ c → cs.contains c = false) : LOW n w s := fun i m _ => hk (65 + i) m (h1 _ _ (by omega)) (h2 _ (by omega))
theorem low25 {n : Nat} (hk : Kp [] [25] w s) : LOW n w s := fun i m _ => hk (65 + i) m rfl (by
  simp only [List.contains_cons, List.contains_nil, Bool.or_false, beq_eq_false_iff_ne, ne_eq]
  omega)
theorem low39 {n : Nat} (hk : Kp [] [39] w s) : LOW n w s := fun i m _ => hk (65 + i) m rfl (by
  simp only [List.contains_cons, List.contains_nil, Bool.or_false, beq_eq_false_iff_ne, ne_eq]
  omega)
theorem xl_sameName {Q : Int32 → Prop} {t u : Nat} (ht : a.toInt = (t : Int)) (hu : b.toInt = (u : Int)) (tn : TNq w t) (un : TNq w u) (kk : ∀ v : Int32, (v.toInt = 0 ∨ v.toInt = 1) → (v.toInt = 1 ↔ NMw w t u) → Q v) : pk_X10_sameName a b w Q := by
  obtain ⟨t1, t2, t3, t4⟩ := tn
  obtain ⟨u1, u2, u3, u4⟩ := un
  have e1 : atv 16002 (w 14) a = w 14 t := atv_at ht t1
  have e2 : atv 16002 (w 14) b = w 14 u := atv_at hu u1
  have e3 : atv 16002 (w 15) a = w 15 t := atv_at ht t1
  have e4 : atv 16002 (w 15) b = w 15 u := atv_at hu u1
  unfold pk_X10_sameName
  rw [e1, e2, e3, e4]
  refine ⟨fun e => ⟨fun y => 0 ≤ y.toInt ∧ y.toInt ≤ (w 14 t).toInt ∧ ∀ i : Nat, (i : Int) < y.toInt → (w 1 ((w 15 t).toInt.toNat + i)).toInt = (w 1 ((w 15 u).toInt.toNat + i)).toInt, ⟨by decide, t3, fun i hi => by rw [i0] at hi; omega⟩, ?_⟩, fun e => kk 0 (Or.inl rfl) ⟨fun hx => absurd hx (by decide), fun hx => absurd hx.1 e⟩⟩
  rintro y ⟨y1, y2, y3⟩
  have a1 : ((w 15 t) + y).toInt = (w 15 t).toInt + y.toInt := ad (by omega) (by omega)
  have a2 : ((w 15 u) + y).toInt = (w 15 u).toInt + y.toInt := ad (by omega) (by omega)
  have n1 : ((w 15 t) + y).toNatClampNeg = (w 15 t).toInt.toNat + y.toInt.toNat := by rw [nt', a1]; omega
  have n2 : ((w 15 u) + y).toNatClampNeg = (w 15 u).toInt.toNat + y.toInt.toNat := by rw [nt', a2]; omega
  rw [n1, n2]
  refine ⟨fun c1 => kk 1 (Or.inr rfl) ⟨fun _ => ⟨e, fun i hi => y3 i (by omega)⟩, fun _ => rfl⟩, fun c1 => ⟨fun c2 => by omega, fun c2 => ⟨fun c3 => by omega, fun c3 _ _ => ⟨fun c4 => ⟨?_, ?_, fun i hi => ?_⟩, fun c4 => kk 0 (Or.inl rfl) ⟨fun hx => absurd hx (by decide), fun hx => absurd (hx.2 y.toInt.toNat (by omega)) c4⟩⟩⟩⟩⟩
  · rw [ad1 (by omega)]
    omega
  · rw [ad1 (by omega)]
    omega
  · rw [ad1 (by omega)] at hi
    by_cases q : (i : Int) = y.toInt
    · have : i = y.toInt.toNat := by omega
      subst this
      exact c4
    · exact y3 i (by omega)
theorem xl_localFrom {Q : Int32 → Prop} {S lo u : Nat} (ha : a.toInt = (lo : Int)) (hu : b.toInt = (u : Int)) (un : TNq w u) (hS : LOKq w S) (kk : ∀ v : Int32, LFq w S lo u v.toInt → Q v) : pk_X11_localFrom a b w Q := by
  obtain ⟨s1, s2, s3⟩ := hS
  unfold pk_X11_localFrom
  have e0 : ((w 6 15) - (1 : Int32)).toInt = (S : Int) - 1 := by rw [sb1 (by omega), s1]
  refine ⟨fun y => -1 ≤ y.toInt ∧ y.toInt < S ∧ ∀ j : Nat, y.toInt < j → j < S → ¬ NMw w (ltk w j) u, ⟨by omega, by omega, fun j h1 h2 => by omega⟩, ?_⟩
  rintro y ⟨y1, y2, y3⟩
  refine ⟨fun c => kk _ (Or.inr ⟨fun j h1 h2 => y3 j (by omega) h2, by decide⟩), fun c => ?_⟩
  obtain ⟨m, hm⟩ : ∃ m : Nat, y.toInt = m := ⟨y.toInt.toNat, by omega⟩
  obtain ⟨⟨r1, r2⟩, r3, r4⟩ := s3 m (by omega)
  have e1 : atv 100 (w 44) y = w 44 m := atv_at hm (by omega)
  have e2 : atv 100 (w 40) (w 44 m) = w 40 ((w 44 m).toInt.toNat) := atv_at (j := (w 44 m).toInt.toNat) (by omega) (by omega)
  rw [e1, e2]
  refine xl_sameName (t := ltk w m) (by unfold ltk; omega) hu r4 un (fun v hv0 hv => ⟨fun c1 => ?_, fun c1 => kk _ (Or.inl ⟨m, by omega, by omega, hv.mp (by omega), fun j' h1 h2 => y3 j' (by omega) h2, rfl⟩)⟩)
  have e3 : (y + (-1)).toInt = y.toInt - 1 := dc1 (by omega)
  refine ⟨?_, ?_, fun j' h1 h2 => ?_⟩
  · rw [e3]
    clear e3
    omega
  · rw [e3]
    clear e3
    omega
  · rw [e3] at h1
    clear e3
    by_cases q : j' = m
    · subst q
      intro hx
      have := hv.mpr hx
      omega
    · exact y3 j' (by omega) h2
theorem xl_outerOf {Q : Int32 → Prop} {n u : Nat} (hu : b.toInt = (u : Int)) (un : TNq w u) (hO : OOKq w n) (kk : ∀ v : Int32, ∀ r, OFq w n u r → ((r < 0 ∧ v.toInt < 0) ∨ (0 ≤ r ∧ v.toInt = (w 5 1).toInt - n + r)) → Q v) : pk_X11_outerOf b w Q := by
  obtain ⟨s1, s2, s3, s4, s5⟩ := hO
  unfold pk_X11_outerOf
  refine ⟨fun y => 0 ≤ y.toInt ∧ y.toInt ≤ n ∧ ∀ i : Nat, (i : Int) < y.toInt → ¬ NMw w (otk w i) u, ⟨by decide, by rw [i0]; omega, fun i h => by rw [i0] at h; omega⟩, ?_⟩
  rintro y ⟨y1, y2, y3⟩
  refine ⟨fun c => kk _ (-1) (Or.inr ⟨fun i hi => y3 i (by omega), rfl⟩) (Or.inl ⟨by omega, by decide⟩), fun c => ?_⟩
  obtain ⟨m, hm⟩ : ∃ m : Nat, y.toInt = m := ⟨y.toInt.toNat, by omega⟩
  obtain ⟨r1, r2⟩ := s5 m (by omega)
  have e1 : atv 100 (w 38) y = w 38 m := atv_at hm (by omega)
  have e2 : ((w 5 1) - (w 6 7)).toInt = (w 5 1).toInt - n := by rw [sb (by omega) (by omega), s1]
  have e3 : (((w 5 1) - (w 6 7)) + y).toInt = (w 5 1).toInt - n + m := by rw [ad (by omega) (by omega), e2, hm]
  rw [e1]
  refine xl_sameName (t := otk w m) (by unfold otk; omega) hu r2 un (fun v hv0 hv => ⟨fun c1 => ⟨by rw [ad1 (by omega)]; omega, by rw [ad1 (by omega)]; omega, fun i hi => ?_⟩, fun c1 => kk _ m (Or.inl ⟨m, by omega, hv.mp (by omega), fun i hi => y3 i (by omega), rfl⟩) (Or.inr ⟨by omega, e3⟩)⟩)
  rw [ad1 (by omega)] at hi
  by_cases q : i = m
  · subst q
    intro hx
    have := hv.mpr hx
    omega
  · exact y3 i (by omega)
theorem xl_is {Q : Int32 → Prop} (kk : ∀ v : Int32, (v.toInt = 0 ∨ v.toInt = 1) → (v.toInt ≠ 0 ↔ ((atv 10100 (w 25) a) &&& b).toInt ≠ 0) → Q v) : pk_X8_is a b w Q := by
  unfold pk_X8_is
  exact ⟨fun c => kk 0 (Or.inl rfl) ⟨fun hx => absurd rfl hx, fun hx => absurd c hx⟩, fun c => kk 1 (Or.inr rfl) ⟨fun _ => c, fun _ => by decide⟩⟩
theorem xl_mark {Q : St → Prop} {dn : Nat} (hd : a.toInt = (dn : Int)) (hdn : dn < 10100) (kk : ∀ s, Kp [] [25] w s → (∀ m, s 25 m = if m = dn then (w 25 dn) ||| b else w 25 m) → Q s) : pk_X8_mark a b w Q := by
  unfold pk_X8_mark
  refine kk _ (kp_F kp_rf rfl) (fun m => ?_)
  rw [rdF_eq, setv_at hd hdn, atv_at hd hdn]
theorem xl_mark0 {Q : St → Prop} (hd : a.toInt < 0) (kk : Q w) : pk_X8_mark a b w Q := by
  unfold pk_X8_mark
  have e : setv 10100 (w 25) a ((atv 10100 (w 25) a) ||| b) = w 25 := setv_out (Or.inl hd)
  rw [e, upF_id]
  exact kk
theorem lf_in {S u v : Nat} (h : LFq w S 0 u (v : Int)) : ∃ j', j' < S ∧ (w 44 j').toInt.toNat = v := by
  rcases h with ⟨j', _, h1, _, _, h2⟩ | ⟨_, h2⟩
  · exact ⟨j', h1, by omega⟩
  · omega
/-- a name: a local, a variable outside of functions, or a fault -/
theorem xt_named {Q : St → Prop} {S n u : Nat} (hc : (w 7 7).toInt = (j : Int)) (hj : j < 500) (h0 : (w 6 3).toInt = 0) (hu : a.toInt = (u : Int)) (un : TNq w u) (hS : LOKq w S) (hO : OOKq w n) (hty : (∀ j', j' < S → -1 ≤ (w 41 ((w 44 j').toInt.toNat)).toInt ∧ (w 41 ((w 44 j').toInt.toNat)).toInt ≤ 9) ∧ (∀ i, i < n → -1 ≤ (w 26 ((w 5 1).toInt.toNat - n + i)).toInt ∧ (w 26 ((w 5 1).toInt.toNat - n + i)).toInt ≤ 9))
    (kl : ∀ s (v : Nat), LFq w S 0 u v → v < 100 → STx j w s → s 6 3 = w 6 3 → (s 7 7).toInt = (j : Int) + 1 → AVq s (65 + j) (if (w 42 v).toInt < 0 then 1 else 0) (if (w 42 v).toInt < 0 then (w 41 v).toInt else (w 41 v).toInt + 1) 1 0 0 0 v → Q s)
    (ko : ∀ s (r : Nat), LFq w S 0 u (-1) → OFq w n u r → ∀ dn : Nat, (dn : Int) = (w 5 1).toInt - n + r → dn < 10100 → ((w 25 dn) &&& (1 : Int32)).toInt = 0 → STy j w s → s 6 3 = w 6 3 → (s 7 7).toInt = (j : Int) + 1 → s 39 = w 39 → (∀ m, s 25 m = if m = dn then (w 25 dn) ||| (8 : Int32) else w 25 m) → AVq s (65 + j) (if (w 27 dn).toInt < 0 then 2 else 0) (if (w 27 dn).toInt < 0 then (w 26 dn).toInt else (w 26 dn).toInt + 1) 1 0 (if (w 27 dn).toInt < 0 then 0 else 2) 0 dn → Q s)
    (kb : ∀ s, (LFq w S 0 u (-1) ∧ (OFq w n u (-1) ∨ ∃ r : Nat, OFq w n u r ∧ ∀ dn : Nat, (dn : Int) = (w 5 1).toInt - n + r → ((w 25 dn) &&& (1 : Int32)).toInt ≠ 0)) → (s 6 3).toInt ≠ 0 → Q s) : pk_X2_named a w Q := by
  unfold pk_X2_named
  refine xl_localFrom (lo := 0) rfl hu un hS (fun lv hlv => ?_)
  have hO' := hO
  obtain ⟨o1, o2, o3, o4, o5⟩ := hO'
  -- what was found
  refine ⟨fun y => (0 ≤ lv.toInt ∧ y.toInt = -1) ∨ (lv.toInt < 0 ∧ ∃ r, OFq w n u r ∧ ((r < 0 ∧ y.toInt < 0) ∨ (0 ≤ r ∧ y.toInt = (w 5 1).toInt - n + r))), ?_, fun c => Or.inl ⟨c, by decide⟩, fun c => xl_outerOf hu un hO (fun v r hr hv => Or.inr ⟨c, r, hr, hv⟩)⟩
  rintro y hy
  have lvr : lv.toInt < 0 → lv.toInt = -1 := fun hx => by
    rcases hlv with ⟨j1, q1, q2, q3, q4, q5⟩ | ⟨q1, q2⟩
    · have := (hS.2.2 j1 q2).1.1
      omega
    · exact q2
  refine ⟨0 ≤ lv.toInt ∨ (lv.toInt < 0 ∧ 0 ≤ y.toInt ∧ ((atv 10100 (w 25) y) &&& (1 : Int32)).toInt = 0), ?_, fun c => Or.inl c, fun c => ⟨y.toInt < 0 ∨ ((atv 10100 (w 25) y) &&& (1 : Int32)).toInt ≠ 0, fun hb => xl_refuse (fun s ks fs => kb s ⟨by rw [← lvr c]; exact hlv, ?_⟩ fs), fun c2 => Or.inl c2, fun c2 => xl_is (fun v hv0 hv => ⟨fun c3 => Or.inr ⟨c, c2, ?_⟩, fun c3 => Or.inr (hv.mp c3)⟩)⟩⟩
  · intro hgood
    refine xl_push hc hj (fun s1 k1 e6 e7 a1 _ => ?_)
    rintro s2 rfl
    have e41 : s1 41 = w 41 := ko_rd k1.1 41 (by omega) rfl (fun _ => rfl)
    have e26 : s1 26 = w 26 := ko_rd k1.1 26 (by omega) rfl (fun _ => rfl)
    have e42 : s1 42 = w 42 := ko_rd k1.1 42 (by omega) rfl (fun _ => rfl)
    have e27 : s1 27 = w 27 := ko_rd k1.1 27 (by omega) rfl (fun _ => rfl)
    have e25 : s1 25 = w 25 := ko_rd k1.1 25 (by omega) rfl (fun _ => rfl)
    have e39 : s1 39 = w 39 := ko_rd k1.1 39 (by omega) rfl (fun _ => rfl)
    by_cases cl : 0 ≤ lv.toInt
    · obtain ⟨v, hv⟩ : ∃ v : Nat, lv.toInt = v := ⟨lv.toInt.toNat, by omega⟩
      have hv9 : v < 100 := by
        rcases hlv with ⟨j1, q1, q2, q3, q4, q5⟩ | ⟨q1, q2⟩
        · have := (hS.2.2 j1 q2).1.2
          omega
        · omega
      have hyn : y.toInt = -1 := by rcases hy with hy | hy <;> omega
      have ei : (if lv < y then y else lv) = lv := if_neg (fun hx => by have := i_lt.mp hx; omega)
      rw [ei]
      refine ⟨fun y1 => y1.toInt = 1, ?_, fun c => by omega, fun _ => by decide⟩
      rintro y1 hy1 s3 rfl
      refine ⟨fun y2 => y2 = w 41 v, ?_, fun c => by omega, fun _ => ?_⟩
      · rintro y2 rfl s4 rfl
        refine xl_mark0 (by omega) ⟨fun c => by omega, fun _ => ?_⟩
        obtain ⟨q0, q1, q2, q3, q4, q5, q6⟩ := a1
        have a4 : AVq (upC (upC (upC s1 (65 + j) 4 lv) (65 + j) 0 y1) (65 + j) 1 (w 41 v)) (65 + j) 1 (w 41 v).toInt 1 0 0 0 v := by
          refine ⟨?_, ?_, ?_, ?_, ?_, fun hf => absurd hf (by decide), fun _ => ?_⟩
          · rw [rdA_ne (by decide), rdA_eq rfl]
            exact hy1
          · rw [rdA_eq rfl]
          · rw [rdA_ne (by decide), rdA_ne (by decide), rdA_ne (by decide)]
            exact q2
          · rw [rdA_ne (by decide), rdA_ne (by decide), rdA_ne (by decide)]
            exact q3
          · rw [rdA_ne (by decide), rdA_ne (by decide), rdA_ne (by decide)]
            exact q4
          · rw [rdA_ne (by decide), rdA_ne (by decide), rdA_eq rfl]
            exact hv
        have k4 : STx j w (upC (upC (upC s1 (65 + j) 4 lv) (65 + j) 0 y1) (65 + j) 1 (w 41 v)) := stq_tr k1 (stq_tr (stq_op hj) (stq_tr (stq_op hj) (stq_op hj)))
        have e4i : upC (upC (upC s1 (65 + j) 4 lv) (65 + j) 0 y1) (65 + j) 1 (w 41 v) (65 + j) 4 = lv := by rw [rdA_ne (by decide), rdA_ne (by decide), rdA_eq rfl]
        have e442 : upC (upC (upC s1 (65 + j) 4 lv) (65 + j) 0 y1) (65 + j) 1 (w 41 v) 42 = w 42 := by rw [rdC_ne (by omega), rdC_ne (by omega), rdC_ne (by omega), e42]
        have e46 : upC (upC (upC s1 (65 + j) 4 lv) (65 + j) 0 y1) (65 + j) 1 (w 41 v) 6 3 = w 6 3 := by rw [rdC_ne (by omega), rdC_ne (by omega), rdC_ne (by omega), e6]
        have e47 : (upC (upC (upC s1 (65 + j) 4 lv) (65 + j) 0 y1) (65 + j) 1 (w 41 v) 7 7).toInt = (j : Int) + 1 := by rw [rdC_ne (by omega), rdC_ne (by omega), rdC_ne (by omega), e7]
        generalize upC (upC (upC s1 (65 + j) 4 lv) (65 + j) 0 y1) (65 + j) 1 (w 41 v) = s4 at a4 k4 e4i e442 e46 e47
        have ea : atv 100 (s4 42) (s4 (65 + j) 4) = w 42 v := by rw [e442, e4i]; exact atv_at hv hv9
        rw [ea]
        refine ⟨fun c => kl s4 v (by rw [← hv]; exact hlv) hv9 k4 e46 e47 ?_, fun c => xl_address a4 hj (by
          obtain ⟨j', j1, j2⟩ := lf_in (v := v) (by rw [← hv]; exact hlv)
          have := hty.1 j' j1
          rw [j2] at this
          omega) (fun s5 k5 e57 e56 a5 => kl s5 v (by rw [← hv]; exact hlv) hv9 (stq_tr k4 k5) (e56.trans e46) (by rw [e57]; exact e47) ?_)⟩
        · rw [if_pos c, if_pos c]
          exact a4
        · rw [if_neg (by omega), if_neg (by omega)]
          exact ⟨a5.1, a5.2.1, a5.2.2.1, a5.2.2.2.1, a5.2.2.2.2.1, fun hf => absurd hf (by decide), fun hi => absurd hi (by decide)⟩
      · have : upC (upC s1 (65 + j) 4 lv) (65 + j) 0 y1 41 = w 41 := by rw [rdC_ne (by omega), rdC_ne (by omega), e41]
        rw [this]
        exact atv_at hv hv9
    · have hg2 : 0 ≤ y.toInt ∧ ((atv 10100 (w 25) y) &&& (1 : Int32)).toInt = 0 := by rcases hgood with h | h; exact absurd h cl; exact h.2
      obtain ⟨r, hr, hrv⟩ : ∃ r, OFq w n u r ∧ 0 ≤ r ∧ y.toInt = (w 5 1).toInt - n + r := by
        rcases hy with hy | ⟨_, r, hr, hv | hv⟩
        · omega
        · omega
        · exact ⟨r, hr, hv⟩
      obtain ⟨rn, hrn⟩ : ∃ rn : Nat, r = rn := ⟨r.toNat, by omega⟩
      subst hrn
      obtain ⟨dn, hdn⟩ : ∃ dn : Nat, y.toInt = dn := ⟨y.toInt.toNat, by omega⟩
      have hrn9 : rn < n := by
        rcases hr with ⟨i', q1, _, _, q2⟩ | ⟨_, q2⟩ <;> omega
      have hdn9 : dn < 10100 := by omega
      have ei : (if lv < y then y else lv) = y := if_pos (i_lt.mpr (by omega))
      rw [ei]
      refine ⟨fun y1 => y1.toInt = 2, ?_, fun c => by decide, fun _ => by omega⟩
      rintro y1 hy1 s3 rfl
      refine ⟨fun y2 => y2 = w 26 dn, ?_, fun _ => ?_, fun c => by omega⟩
      · rintro y2 rfl s4 rfl
        refine xl_mark hdn hdn9 (fun s5 k5 m5 => ⟨fun _ => ?_, fun c => by omega⟩)
        obtain ⟨q0, q1, q2, q3, q4, q5, q6⟩ := a1
        have o5 : ∀ m, s5 (65 + j) m = upC (upC (upC s1 (65 + j) 4 y) (65 + j) 0 y1) (65 + j) 1 (w 26 dn) (65 + j) m := fun m => low25 (n := j + 1) k5 j m (by omega)
        have a5 : AVq s5 (65 + j) 2 (w 26 dn).toInt 1 0 0 0 dn := by
          refine ⟨?_, ?_, ?_, ?_, ?_, fun hf => absurd hf (by decide), fun _ => ?_⟩
          · rw [o5, rdA_ne (by decide), rdA_eq rfl]
            exact hy1
          · rw [o5, rdA_eq rfl]
          · rw [o5, rdA_ne (by decide), rdA_ne (by decide), rdA_ne (by decide)]
            exact q2
          · rw [o5, rdA_ne (by decide), rdA_ne (by decide), rdA_ne (by decide)]
            exact q3
          · rw [o5, rdA_ne (by decide), rdA_ne (by decide), rdA_ne (by decide)]
            exact q4
          · rw [o5, rdA_ne (by decide), rdA_ne (by decide), rdA_eq rfl]
            exact hdn
        have k6 : STy j w s5 := sty_tr (sty_of (stq_tr k1 (stq_tr (stq_op hj) (stq_tr (stq_op hj) (stq_op hj))))) ⟨ko_kp (kp_sub k5 rfl rfl), low25 k5⟩
        have e4i : s5 (65 + j) 4 = y := by rw [o5, rdA_ne (by decide), rdA_ne (by decide), rdA_eq rfl]
        have e527 : s5 27 = w 27 := by rw [show s5 27 = upC (upC (upC s1 (65 + j) 4 y) (65 + j) 0 y1) (65 + j) 1 (w 26 dn) 27 from funext (fun m => k5 27 m rfl rfl), rdC_ne (by omega), rdC_ne (by omega), rdC_ne (by omega), e27]
        have e539 : s5 39 = w 39 := by rw [show s5 39 = upC (upC (upC s1 (65 + j) 4 y) (65 + j) 0 y1) (65 + j) 1 (w 26 dn) 39 from funext (fun m => k5 39 m rfl rfl), rdC_ne (by omega), rdC_ne (by omega), rdC_ne (by omega), e39]
        have m25 : ∀ m, s5 25 m = if m = dn then (w 25 dn) ||| (8 : Int32) else w 25 m := fun m => by
          rw [m5 m]
          have : upC (upC (upC s1 (65 + j) 4 y) (65 + j) 0 y1) (65 + j) 1 (w 26 dn) 25 = w 25 := by rw [rdC_ne (by omega), rdC_ne (by omega), rdC_ne (by omega), e25]
          rw [this]
        have e56 : s5 6 3 = w 6 3 := by rw [k5 6 3 rfl rfl, rdC_ne (by omega), rdC_ne (by omega), rdC_ne (by omega), e6]
        have e57 : (s5 7 7).toInt = (j : Int) + 1 := by rw [k5 7 7 rfl rfl, rdC_ne (by omega), rdC_ne (by omega), rdC_ne (by omega), e7]
        have ea : atv 10100 (s5 27) (s5 (65 + j) 4) = w 27 dn := by rw [e527, e4i]; exact atv_at hdn hdn9
        have hf1 : ((w 25 dn) &&& (1 : Int32)).toInt = 0 := by
          have := hg2.2
          rwa [atv_at hdn hdn9] at this
        have hlm : LFq w S 0 u (-1) := by rw [← lvr (by omega)]; exact hlv
        rw [ea]
        refine ⟨fun c => ko s5 rn hlm hr dn (by omega) hdn9 hf1 k6 e56 e57 e539 m25 ?_, fun c => xl_address a5 hj (by
          have := hty.2 rn hrn9
          rw [show (w 5 1).toInt.toNat - n + rn = dn from by omega] at this
          omega) (fun s7 k7 e77 e76 a7 => ko s7 rn hlm hr dn (by omega) hdn9 hf1 (sty_tr k6 (sty_of k7)) (e76.trans e56) (by rw [e77]; exact e57) ?_ (fun m => ?_) ?_)⟩
        · rw [if_pos c, if_pos c, if_pos c]
          exact a5
        · rw [show s7 39 = s5 39 from ko_rd k7.1 39 (by omega) rfl (fun _ => rfl), e539]
        · rw [show s7 25 = s5 25 from ko_rd k7.1 25 (by omega) rfl (fun _ => rfl), m25]
        · rw [if_neg (by omega), if_neg (by omega), if_neg (by omega)]
          exact ⟨a7.1, a7.2.1, a7.2.2.1, a7.2.2.2.1, a7.2.2.2.2.1, fun hf => absurd hf (by decide), fun hi => absurd hi (by decide)⟩
      · have : upC (upC s1 (65 + j) 4 y) (65 + j) 0 y1 26 = w 26 := by rw [rdC_ne (by omega), rdC_ne (by omega), e26]
        rw [this]
        exact atv_at hdn hdn9
  · rcases hy with hy | ⟨_, r, hr, hv⟩
    · omega
    · rcases hv with hv | hv
      · left
        have : r = -1 := by
          rcases hr with ⟨i', _, _, _, q2⟩ | ⟨_, q2⟩ <;> omega
        rw [← this]
        exact hr
      · right
        have hb2 : ((atv 10100 (w 25) y) &&& (1 : Int32)).toInt ≠ 0 := by
          rcases hb with hb | hb
          · have hr9 : r < n := by
              rcases hr with ⟨i', q1, _, _, q2⟩ | ⟨_, q2⟩ <;> omega
            omega
          · exact hb
        obtain ⟨rn, hrn⟩ : ∃ rn : Nat, r = rn := ⟨r.toNat, by omega⟩
        subst hrn
        have hr9 : rn < n := by
          rcases hr with ⟨i', q1, _, _, q2⟩ | ⟨_, q2⟩ <;> omega
        refine ⟨rn, hr, fun dn hdn => ?_⟩
        rwa [atv_at (j := dn) (by omega) (by omega)] at hb2
  · by_cases q : ((atv 10100 (w 25) y) &&& (1 : Int32)).toInt = 0
    · exact q
    · have := hv.mpr q
      omega
end XCP
