/-! tokens: the reference's side, one token -/
section TN
variable {f : Nat → Int32} {N p e : Int} {σ τ s : St} {vs : List Nat} {L : List (Int32 × Int32 × Int)} {a1 a2 a3 a4 a5 x y a n k v : Int32}
theorem pm_among0 {Q : Int32 → Prop} (hf : σ 1 = f) (hB : ∀ j, -128 ≤ (f j).toInt ∧ (f j).toInt ≤ 127) (hp : a1.toInt = p) (hp0 : 0 ≤ p ∧ p ≤ a2.toInt ∧ a2.toInt ≤ N ∧ N ≤ 16000)
    (k : ∀ r : Int32, ((∃ w, WMq (byt f N) p (a2.toInt - p) w ∧ r.toInt = w) ∨ ((∀ w, ¬ WMq (byt f N) p (a2.toInt - p) w) ∧ r.toInt < 0)) → Q r) : pp_among a1 a2 0 σ τ vs Q := by
  have eN : (nI (SN 0)).toInt = 67 := by decide
  have eS : ((SN 0 : Nat) : Int) = 67 := by decide
  have en : (a2 - a1).toInt = a2.toInt - p := by rw [sb (by omega) (by omega), hp]
  unfold pp_among
  refine ⟨fun r x => ∃ w : Nat, w ≤ 12 ∧ r.toInt = w ∧ x.toInt = 1 + bWd w ∧ ∀ w', w' < w → ¬ WMq (byt f N) p (a2.toInt - p) w', ⟨0, by decide, by decide, by decide, fun w' h => by omega⟩, ?_⟩
  rintro r x ⟨w, h1, h2, h3, h4⟩
  by_cases hw : w = 12
  · subst hw
    have e12 : (bWd 12 : Int) = 66 := by decide
    exact ⟨fun _ => k _ (Or.inr ⟨fun w' hw' => h4 w' hw'.1 hw', by decide⟩), fun c1 => by omega⟩
  obtain ⟨t1, t2, _⟩ := wd_nx w (by omega)
  obtain ⟨t3, t5⟩ := rw_tab w (by omega)
  have t4 := wd_len w (by omega)
  refine ⟨fun c1 => by omega, fun c1 => ⟨fun e => 1 + (bWd w : Int) ≤ e.toInt ∧ e.toInt ≤ 1 + bWd w + lWd w, ⟨by omega, by omega⟩, ?_⟩⟩
  rintro e ⟨g1, g2⟩ g3
  have ee : e.toNatClampNeg = 1 + bWd w + (e.toInt.toNat - (1 + bWd w)) := by rw [nt']; omega
  refine ⟨fun d => ?_, fun d => ⟨by rw [ad1 (by omega)]; omega, ?_⟩⟩
  · have ec : e.toInt = 1 + bWd w + lWd w := by
      by_cases q : e.toInt = 1 + bWd w + lWd w
      · exact q
      · exact absurd (by rw [ee] at d; exact d) (rw_chr w (by omega) (e.toInt.toNat - (1 + bWd w)) (by omega) (by omega)).2.1
    have el : (e - x).toInt = lWd w := by rw [sb (by omega) (by omega)]; omega
    refine ⟨fun y => (y.toInt = 1 ↔ (lWd w : Int) = a2.toInt - p), fun y hy hj => ⟨fun z i => 0 ≤ i.toInt ∧ i.toInt ≤ 10 ∧ (z.toInt = 1 → (lWd w : Int) = a2.toInt - p ∧ i.toInt ≤ lWd w ∧ ∀ j : Nat, (j : Int) < i.toInt → byt f N (p + j) = (chI (gC 2 (bWd w + j))).toInt) ∧ (z.toInt = 0 → ¬ WMq (byt f N) p (a2.toInt - p) w), ⟨by decide, by decide, fun h => ⟨hj.mp h, by rw [i0]; omega, fun j hjj => by rw [i0] at hjj; omega⟩, fun h hm => ?_⟩, ?_⟩, fun c => ?_, fun c => ?_⟩
    · have := hj.mpr hm.2.1
      omega
    · rintro z i hz ⟨q1, q2, q3, q4⟩
      have nxt : ∀ i' : Int32, i'.toInt = 1 + bWd w + lWd w + 1 → (¬ WMq (byt f N) p (a2.toInt - p) w) → ∃ w : Nat, w ≤ 12 ∧ (r + 1).toInt = w ∧ i'.toInt = 1 + bWd w ∧ ∀ w', w' < w → ¬ WMq (byt f N) p (a2.toInt - p) w' := fun i' hi' hn => by
        refine ⟨w + 1, by omega, by rw [ad1 (by omega)]; omega, by rw [t2]; omega, fun w' hw' => ?_⟩
        by_cases q : w' = w
        · rw [q]
          exact hn
        · exact h4 w' (by omega)
      refine ⟨z.toInt = 0 ∨ (z.toInt = 1 ∧ (lWd w : Int) ≤ i.toInt), fun jj => ⟨fun c => nxt _ (by rw [ad1 (by omega)]; omega) (q4 c), fun c => ?_⟩, fun c => Or.inl c, fun c => ⟨fun c2 => ?_, fun c2 h3a h3b => ?_⟩⟩
      · have hz1 : z.toInt = 1 := by rcases jj with h | h <;> omega
        obtain ⟨v1, v2, v3⟩ := q3 hz1
        exact k _ (Or.inl ⟨w, ⟨by omega, v1, fun j hjj => v3 j (by omega)⟩, h2⟩)
      · have hz1 : z.toInt = 1 := by
          rcases hz with h | h
          · rw [h] at c; exact absurd rfl c
          · rw [h]; rfl
        obtain ⟨v1, v2, v3⟩ := q3 hz1
        exact Or.inr ⟨hz1, by omega⟩
      · have hz1 : z.toInt = 1 := by
          rcases hz with h | h
          · rw [h] at c; exact absurd rfl c
          · rw [h]; rfl
        obtain ⟨v1, v2, v3⟩ := q3 hz1
        have u1 : (i + 1).toInt = i.toInt + 1 := ad1 (by omega)
        have u2 : (a1 + i).toInt = p + i.toInt := by rw [ad (by omega) (by omega), hp]
        have u3 : (x + i).toInt = 1 + bWd w + i.toInt := by rw [ad (by omega) (by omega), h3]
        have u4 : (x + i).toNatClampNeg = 1 + bWd w + i.toInt.toNat := by rw [nt', u3]; omega
        have u5 : ((i.toInt.toNat : Nat) : Int) = i.toInt := Int.toNat_of_nonneg q1
        obtain ⟨w1, w2, w3, w4⟩ := rw_chr w (by omega) i.toInt.toNat (by omega) (by omega)
        have u6 : byt f N (p + i.toInt) = (chI (gC 2 (bWd w + i.toInt.toNat))).toInt ↔ (σ 1 (a1 + i).toNatClampNeg).toInt = (chI (SF 0 (x + i).toNatClampNeg)).toInt := by
          rw [u4, w1, byt, if_pos (by omega), hf, nt', u2]
          exact bq (hB _) (by omega)
        refine ⟨fun y => (y.toInt = 1 ↔ byt f N (p + i.toInt) = (chI (gC 2 (bWd w + i.toInt.toNat))).toInt) ∧ (y.toInt = 0 ∨ y.toInt = 1), fun y _ hy2 => ⟨by omega, by omega, fun h => ⟨v1, by omega, fun j hjj => ?_⟩, fun h hm => ?_⟩, fun d2 => ⟨⟨fun h => absurd h (by decide), fun h => absurd (u6.mp h) d2⟩, Or.inl rfl⟩, fun d2 => ⟨⟨fun _ => u6.mpr d2, fun _ => rfl⟩, Or.inr rfl⟩⟩
        · by_cases q : (j : Int) = i.toInt
          · have : j = i.toInt.toNat := by omega
            subst this
            rw [u5]
            exact hy2.1.mp h
          · exact v3 j (by omega)
        · have := hm.2.2 i.toInt.toNat (by omega)
          rw [u5] at this
          have := hy2.1.mpr this
          omega
    · rw [el, en] at c
      exact ⟨fun h => absurd h (by decide), fun h => absurd h c⟩
    · rw [el, en] at c
      exact ⟨fun _ => c, fun _ => rfl⟩
  · rw [ad1 (by omega)]
    have : e.toInt ≠ 1 + bWd w + lWd w := fun q => d (by rw [show e.toNatClampNeg = 1 + bWd w + lWd w from by rw [nt']; omega]; exact t3)
    omega
theorem pm_among1 {Q : Int32 → Prop} (hf : σ 1 = f) (hB : ∀ j, -128 ≤ (f j).toInt ∧ (f j).toInt ≤ 127) (hp : a1.toInt = p) (hp0 : 0 ≤ p ∧ p ≤ a2.toInt ∧ a2.toInt ≤ N ∧ N ≤ 16000)
    (k : ∀ r : Int32, ((∃ w, SMq (byt f N) p (a2.toInt - p) w ∧ r.toInt = rkT w) ∨ ((∀ w, ¬ SMq (byt f N) p (a2.toInt - p) w) ∧ r.toInt < 0)) → Q r) : pp_among a1 a2 1 σ τ vs Q := by
  have eN : (nI (SN 1)).toInt = 109 := by decide
  have eS : ((SN 1 : Nat) : Int) = 109 := by decide
  have en : (a2 - a1).toInt = a2.toInt - p := by rw [sb (by omega) (by omega), hp]
  unfold pp_among
  refine ⟨fun r x => ∃ w : Nat, w ≤ 43 ∧ r.toInt = w ∧ x.toInt = bRf w ∧ ∀ w', w' < w → ¬ SMq (byt f N) p (a2.toInt - p) (iRf w'), ⟨0, by decide, by decide, by decide, fun w' h => by omega⟩, ?_⟩
  rintro r x ⟨w, h1, h2, h3, h4⟩
  by_cases hw : w = 43
  · subst hw
    have e12 : (bRf 43 : Int) = 109 := by decide
    refine ⟨fun _ => k _ (Or.inr ⟨fun w' hw' => ?_, by decide⟩), fun c1 => by omega⟩
    obtain ⟨y1, y2⟩ := fr_tab w' hw'.1
    have := h4 (rkT w') y1
    rw [y2] at this
    exact this hw'
  obtain ⟨r1, r2, r3, t2, t3, t4, t5⟩ := rf_tab w (by omega)
  refine ⟨fun c1 => by omega, fun c1 => ⟨fun e => (bRf w : Int) ≤ e.toInt ∧ e.toInt ≤ bRf w + lSg (iRf w), ⟨by omega, by omega⟩, ?_⟩⟩
  rintro e ⟨g1, g2⟩ g3
  have ee : e.toNatClampNeg = bRf w + (e.toInt.toNat - bRf w) := by rw [nt']; omega
  refine ⟨fun d => ?_, fun d => ⟨by rw [ad1 (by omega)]; omega, ?_⟩⟩
  · have ec : e.toInt = bRf w + lSg (iRf w) := by
      by_cases q : e.toInt = bRf w + lSg (iRf w)
      · exact q
      · exact absurd (by rw [ee] at d; exact d) (rf_chr w (by omega) (e.toInt.toNat - bRf w) (by omega) (by omega)).2.1
    have el : (e - x).toInt = lSg (iRf w) := by rw [sb (by omega) (by omega)]; omega
    refine ⟨fun y => (y.toInt = 1 ↔ (lSg (iRf w) : Int) = a2.toInt - p), fun y hy hj => ⟨fun z i => 0 ≤ i.toInt ∧ i.toInt ≤ 10 ∧ (z.toInt = 1 → (lSg (iRf w) : Int) = a2.toInt - p ∧ i.toInt ≤ lSg (iRf w) ∧ ∀ j : Nat, (j : Int) < i.toInt → byt f N (p + j) = (chI (gC 3 (bSg (iRf w) + j))).toInt) ∧ (z.toInt = 0 → ¬ SMq (byt f N) p (a2.toInt - p) (iRf w)), ⟨by decide, by decide, fun h => ⟨hj.mp h, by rw [i0]; omega, fun j hjj => by rw [i0] at hjj; omega⟩, fun h hm => ?_⟩, ?_⟩, fun c => ?_, fun c => ?_⟩
    · have := hj.mpr hm.2.1
      omega
    · rintro z i hz ⟨q1, q2, q3, q4⟩
      have nxt : ∀ i' : Int32, i'.toInt = bRf w + lSg (iRf w) + 1 → (¬ SMq (byt f N) p (a2.toInt - p) (iRf w)) → ∃ w : Nat, w ≤ 43 ∧ (r + 1).toInt = w ∧ i'.toInt = bRf w ∧ ∀ w', w' < w → ¬ SMq (byt f N) p (a2.toInt - p) (iRf w') := fun i' hi' hn => by
        refine ⟨w + 1, by omega, by rw [ad1 (by omega)]; omega, by rw [t2]; omega, fun w' hw' => ?_⟩
        by_cases q : w' = w
        · rw [q]
          exact hn
        · exact h4 w' (by omega)
      refine ⟨z.toInt = 0 ∨ (z.toInt = 1 ∧ (lSg (iRf w) : Int) ≤ i.toInt), fun jj => ⟨fun c => nxt _ (by rw [ad1 (by omega)]; omega) (q4 c), fun c => ?_⟩, fun c => Or.inl c, fun c => ⟨fun c2 => ?_, fun c2 h3a h3b => ?_⟩⟩
      · have hz1 : z.toInt = 1 := by rcases jj with h | h <;> omega
        obtain ⟨v1, v2, v3⟩ := q3 hz1
        exact k _ (Or.inl ⟨iRf w, ⟨r1, v1, fun j hjj => v3 j (by omega)⟩, by rw [r2]; exact h2⟩)
      · have hz1 : z.toInt = 1 := by
          rcases hz with h | h
          · rw [h] at c; exact absurd rfl c
          · rw [h]; rfl
        obtain ⟨v1, v2, v3⟩ := q3 hz1
        exact Or.inr ⟨hz1, by omega⟩
      · have hz1 : z.toInt = 1 := by
          rcases hz with h | h
          · rw [h] at c; exact absurd rfl c
          · rw [h]; rfl
        obtain ⟨v1, v2, v3⟩ := q3 hz1
        have u1 : (i + 1).toInt = i.toInt + 1 := ad1 (by omega)
        have u2 : (a1 + i).toInt = p + i.toInt := by rw [ad (by omega) (by omega), hp]
        have u3 : (x + i).toInt = bRf w + i.toInt := by rw [ad (by omega) (by omega), h3]
        have u4 : (x + i).toNatClampNeg = bRf w + i.toInt.toNat := by rw [nt', u3]; omega
        have u5 : ((i.toInt.toNat : Nat) : Int) = i.toInt := Int.toNat_of_nonneg q1
        obtain ⟨w1, w2, w3, w4⟩ := rf_chr w (by omega) i.toInt.toNat (by omega) (by omega)
        have u6 : byt f N (p + i.toInt) = (chI (gC 3 (bSg (iRf w) + i.toInt.toNat))).toInt ↔ (σ 1 (a1 + i).toNatClampNeg).toInt = (chI (SF 1 (x + i).toNatClampNeg)).toInt := by
          rw [u4, w1, byt, if_pos (by omega), hf, nt', u2]
          exact bq (hB _) (by omega)
        refine ⟨fun y => (y.toInt = 1 ↔ byt f N (p + i.toInt) = (chI (gC 3 (bSg (iRf w) + i.toInt.toNat))).toInt) ∧ (y.toInt = 0 ∨ y.toInt = 1), fun y _ hy2 => ⟨by omega, by omega, fun h => ⟨v1, by omega, fun j hjj => ?_⟩, fun h hm => ?_⟩, fun d2 => ⟨⟨fun h => absurd h (by decide), fun h => absurd (u6.mp h) d2⟩, Or.inl rfl⟩, fun d2 => ⟨⟨fun _ => u6.mpr d2, fun _ => rfl⟩, Or.inr rfl⟩⟩
        · by_cases q : (j : Int) = i.toInt
          · have : j = i.toInt.toNat := by omega
            subst this
            rw [u5]
            exact hy2.1.mp h
          · exact v3 j (by omega)
        · have := hm.2.2 i.toInt.toNat (by omega)
          rw [u5] at this
          have := hy2.1.mpr this
          omega
    · rw [el, en] at c
      exact ⟨fun h => absurd h (by decide), fun h => absurd h c⟩
    · rw [el, en] at c
      exact ⟨fun _ => c, fun _ => rfl⟩
  · rw [ad1 (by omega)]
    have : e.toInt ≠ bRf w + lSg (iRf w) := fun q => d (by rw [show e.toNatClampNeg = bRf w + lSg (iRf w) from by rw [nt']; omega]; exact t3)
    omega
/-- a token is put -/
theorem pm_tadd {Q : St → St → List Nat → Prop} {Q2 : Int32 → St → St → List Nat → Prop} (hL : RMq σ L) (hl : L.length ≤ 16001) (ht : TOKq (byt f N) p k v x.toInt) (hx : x.toInt ≤ N) (h1 : a1.toInt = rkI k.toInt) (h2 : a2.toInt = p) (h3 : k.toInt = 2 → a3.toInt = p + v.toInt) (h4 : k.toInt = 3 ∨ k.toInt = 4 → a5 = v) (hq : ∀ s, Q2 x s τ vs → Q s τ vs)
    (k1 : ∀ s k v x, KRq σ s → TOKq (byt f N) p k v x.toInt → x.toInt ≤ N → RMq s (L ++ [(k, v, p)]) → (s 0 8).toInt = (L.length : Int) + 1 → (s 2 L.length).toInt = rkI k.toInt → Q2 x s τ vs) : pp_token a1 a2 a3 a4 a5 σ τ vs Q :=
  pm_tok0 (k := k) (v := v) (p := p) hL hl h1 h2 h3 h4 (fun s ks hs e1 e2 => hq s (k1 s k v x ks ht hx hs e2 (by rw [e1, h1])))
theorem pm_name {Q : Int32 → St → St → List Nat → Prop} (hf : σ 1 = f) (hB : ∀ j, -128 ≤ (f j).toInt ∧ (f j).toInt ≤ 127) (hN : (σ 0 9).toInt = N) (h16 : N ≤ 16000) (hp : a.toInt = p) (hL : RMq σ L) (hl : L.length ≤ 16001) (hb : LTq (byt f N p))
    (k1 : ∀ s k v x, KRq σ s → TOKq (byt f N) p k v x.toInt → x.toInt ≤ N → RMq s (L ++ [(k, v, p)]) → (s 0 8).toInt = (L.length : Int) + 1 → (s 2 L.length).toInt = rkI k.toInt → Q x s τ vs) (k0 : ∀ x s, KRq σ s → BADq (byt f N) p → FMq s L 1 → Q x s τ vs) : pp_nameEnd a a2 σ τ vs Q := by
  have hin := byt_in (f := f) (N := N) (i := p) (by omega)
  have e5 : ((5 : Int32)).toInt = 5 := by decide
  unfold pp_nameEnd
  refine ⟨fun x => p ≤ x.toInt ∧ x.toInt ≤ N ∧ ∀ i, p ≤ i → i < x.toInt → NDq (byt f N i), ⟨by omega, by omega, fun i h1 h2 => by omega⟩, ?_⟩
  rintro x ⟨g1, g2, g3⟩
  have nx : NDq (byt f N x.toInt) → (p ≤ (x + 1).toInt ∧ (x + 1).toInt ≤ N ∧ ∀ i, p ≤ i → i < (x + 1).toInt → NDq (byt f N i)) := fun h => by
    have hin2 := byt_in (f := f) (N := N) (i := x.toInt) (by omega)
    rw [ad1 (by omega)]
    refine ⟨by omega, by omega, fun i h1 h2 => ?_⟩
    by_cases q : i = x.toInt
    · rw [q]
      exact h
    · exact g3 i h1 (by omega)
  refine pm_look hf hN rfl (fun v hv => pm_isLetter (fun d => ⟨NDq (byt f N x.toInt), nx, fun _ => by omega, fun z => absurd z (by decide)⟩) (fun d => ⟨NDq (byt f N x.toInt), nx, fun z => absurd rfl z, fun _ => pm_look hf hN rfl (fun w hw => pm_isDigit (fun d2 => ⟨fun z => absurd z (by decide), fun _ => by omega⟩) (fun d2 => ⟨fun _ => ?_, fun z => absurd rfl z⟩))⟩))
  have en : ENq NDq (byt f N) p x.toInt := ⟨by omega, g3, by omega⟩
  have ex : (x - a).toInt = x.toInt - p := by rw [sb (by omega) (by omega), hp]
  refine ⟨fun c => pm_among0 (N := N) hf hB hp (by omega) (fun r hr => ?_), fun c => pm_bad hL hl (fun s ks hs => k0 _ s ks ⟨by omega, by rw [if_pos hb]; exact ⟨_, en, by omega⟩⟩ hs)⟩
  have tk : ∀ y : Int32, ((∃ w, WMq (byt f N) p (x.toInt - p) w ∧ y.toInt = 5 + w) ∨ ((∀ w, ¬ WMq (byt f N) p (x.toInt - p) w) ∧ y.toInt = 2)) → TOKq (byt f N) p y (x - a) x.toInt := fun y hy => by
    rw [TOKq, if_pos hb]
    exact ⟨en, by omega, ex, hy⟩
  refine ⟨fun y => ((∃ w, WMq (byt f N) p (x.toInt - p) w ∧ y.toInt = 5 + w) ∨ ((∀ w, ¬ WMq (byt f N) p (x.toInt - p) w) ∧ y.toInt = 2)), fun y hy => pm_tadd (Q2 := Q) hL hl (tk y hy) g2 ?_ hp (fun _ => by omega) (fun h => ?_) (fun s h => h) k1, fun c => ?_, fun c => ?_⟩
  · rw [rkI, if_pos]
    rcases hy with ⟨w, m, q⟩ | ⟨_, q⟩
    · have := m.1
      omega
    · omega
  · rcases hy with ⟨w, m, q⟩ | ⟨_, q⟩ <;> omega
  · rcases hr with ⟨w', m1, m2⟩ | ⟨m1, m2⟩
    · omega
    · exact Or.inr ⟨m1, by decide⟩
  · rcases hr with ⟨w', m1, m2⟩ | ⟨m1, m2⟩
    · have := m1.1
      exact Or.inl ⟨w', m1, by rw [ad (by omega) (by omega)]; omega⟩
    · omega
theorem pm_number {Q : Int32 → St → St → List Nat → Prop} (hf : σ 1 = f) (hN : (σ 0 9).toInt = N) (h16 : N ≤ 16000) (hp : a.toInt = p) (hL : RMq σ L) (hl : L.length ≤ 16001) (hb : DGq (byt f N p))
    (k1 : ∀ s k v x, KRq σ s → TOKq (byt f N) p k v x.toInt → x.toInt ≤ N → RMq s (L ++ [(k, v, p)]) → (s 0 8).toInt = (L.length : Int) + 1 → (s 2 L.length).toInt = rkI k.toInt → Q x s τ vs) (k0 : ∀ x s, KRq σ s → BADq (byt f N) p → FMq s L 1 → Q x s τ vs) : pp_numberEnd a a2 σ τ vs Q := by
  have hin := byt_in (f := f) (N := N) (i := p) (by omega)
  have nl : ¬ LTq (byt f N p) := by omega
  have eM : (2147483647 : Int64).toInt = 2147483647 := by decide
  have e10 : (10 : Int64).toInt = 10 := by decide
  have e48 : (48 : Int64).toInt = 48 := by decide
  have r3 : ((3 : Int32)).toInt = rkI ((3 : Int32)).toInt := by decide
  unfold pp_numberEnd
  refine pm_look hf hN hp (fun v hv => ⟨¬ HSq (byt f N) p, fun hh => ⟨fun x u => p ≤ x.toInt ∧ x.toInt ≤ N ∧ (∀ i, p ≤ i → i < x.toInt → DGq (byt f N i)) ∧ 0 ≤ u.toInt ∧ u.toInt ≤ 30000000000 ∧ ((u.toInt ≤ 2147483647 ∧ u.toInt = dvq (byt f N) p (x.toInt - p).toNat) ∨ (2147483647 < u.toInt ∧ 2147483647 < dvq (byt f N) p (x.toInt - p).toNat)), ⟨by omega, by omega, fun i h1 h2 => by omega, by decide, by decide, Or.inl ⟨by decide, by rw [show (a.toInt - p).toNat = 0 from by omega]; rfl⟩⟩, ?_⟩, fun c => ?_, fun c => ?_⟩)
  · rintro x u ⟨g1, g2, g3, g4, g5, g6⟩
    refine pm_look hf hN rfl (fun w hw => pm_isDigit (fun d => ⟨fun z => absurd z (by decide), fun _ => ?_⟩) (fun d => ⟨fun _ => ?_, fun z => absurd rfl z⟩))
    · have hin2 := byt_in (f := f) (N := N) (i := x.toInt) (by omega)
      have nd := dv_nn (b := byt f N) (p := p) (x.toInt - p).toNat (fun i h1 h2 => g3 i h1 (by omega))
      have ed : dvq (byt f N) p ((x + 1).toInt - p).toNat = dvq (byt f N) p (x.toInt - p).toNat * 10 + (byt f N x.toInt - 48) := by
        rw [ad1 (by omega), show (x.toInt + 1 - p).toNat = (x.toInt - p).toNat + 1 from by omega, dv_s, show p + (((x.toInt - p).toNat : Nat) : Int) = x.toInt from by omega]
      have cm : p ≤ (x + 1).toInt ∧ (x + 1).toInt ≤ N ∧ ∀ i, p ≤ i → i < (x + 1).toInt → DGq (byt f N i) := by
        rw [ad1 (by omega)]
        refine ⟨by omega, by omega, fun i h1 h2 => ?_⟩
        by_cases q : i = x.toInt
        · rw [q]
          omega
        · exact g3 i h1 (by omega)
      refine ⟨fun u2 => 0 ≤ u2.toInt ∧ u2.toInt ≤ 30000000000 ∧ ((u2.toInt ≤ 2147483647 ∧ u2.toInt = dvq (byt f N) p ((x + 1).toInt - p).toNat) ∨ (2147483647 < u2.toInt ∧ 2147483647 < dvq (byt f N) p ((x + 1).toInt - p).toNat)), fun u2 h => ⟨cm.1, cm.2.1, cm.2.2, h.1, h.2.1, h.2.2⟩, fun c => ?_, fun c => pm_look hf hN rfl (fun w2 hw2 => ?_)⟩
      · have q := lc_gt c
        rw [eM] at q
        refine ⟨g4, g5, Or.inr ⟨q, ?_⟩⟩
        rw [ed]
        omega
      · have q := lc_le c
        rw [eM] at q
        have m1 : ((10 : Int64) * u).toInt = 10 * u.toInt := by rw [Int64.toInt_mul, e10, Int.bmod_eq_of_le (by omega) (by omega)]
        have m2 : (((10 : Int64) * u) + w2.toInt64).toInt = 10 * u.toInt + byt f N x.toInt := by rw [Int64.toInt_add, m1, Int32.toInt_toInt64, hw2, Int.bmod_eq_of_le (by omega) (by omega)]
        have m3 : ((((10 : Int64) * u) + w2.toInt64) - (48 : Int64)).toInt = 10 * u.toInt + byt f N x.toInt - 48 := by rw [Int64.toInt_sub, m2, e48, Int.bmod_eq_of_le (by omega) (by omega)]
        dsimp only
        rw [m3, ed]
        exact ⟨by omega, by omega, by omega⟩
    · have en : ENq DGq (byt f N) p x.toInt := ⟨by omega, g3, by omega⟩
      refine ⟨fun c => ?_, fun c => ?_⟩
      · have q := lc_le c
        rw [eM] at q
        refine pm_tadd (Q2 := Q) (k := 3) (v := u.toInt32) hL hl ?_ g2 r3 hp (fun h => absurd h (by decide)) (fun _ => rfl) (fun s h => h) k1
        rw [TOKq, if_neg nl, if_pos hb, if_neg hh]
        refine ⟨en, by omega, by decide, ?_⟩
        rw [Int64.toInt_toInt32, Int.bmod_eq_of_le (by omega) (by omega)]
        omega
      · have q := lc_gt c
        rw [eM] at q
        refine pm_bad hL hl (fun s ks hs => k0 _ s ks ⟨by omega, ?_⟩ hs)
        rw [if_neg nl, if_pos hb, if_neg hh]
        exact ⟨_, en, by omega⟩
  · rintro ⟨h, _⟩
    omega
  · refine pm_look hf hN (i := p + 1) (by rw [ad0 i1 (by omega) (by omega), hp]) (fun v2 hv2 => ⟨fun c2 => by rintro ⟨_, h, _⟩; omega, fun c2 => pm_look hf hN (i := p + 2) (by rw [ad0 i2 (by omega) (by omega), hp]) (fun v3 hv3 => pm_sixteen (fun w hw => ⟨fun c3 => ?_, fun c3 => ?_⟩))⟩)
    · rintro ⟨_, _, h⟩
      rw [← hv3] at h
      have := hx_iff.mpr h
      omega
    · have hh : HSq (byt f N) p := ⟨by omega, by omega, by rw [← hv3]; exact hx_iff.mp (by omega)⟩
      have hin2 := byt_in (f := f) (N := N) (i := p + 2) (by omega)
      refine ⟨fun x u => p + 2 ≤ x.toInt ∧ x.toInt ≤ N ∧ (∀ i, p + 2 ≤ i → i < x.toInt → HXq (byt f N i)) ∧ u = hvq (byt f N) (p + 2) (x.toInt - p - 2).toNat, ⟨by rw [ad0 i2 (by omega) (by omega)]; omega, by rw [ad0 i2 (by omega) (by omega)]; omega, fun i h1 h2 => by rw [ad0 i2 (by omega) (by omega)] at h2; omega, by rw [ad0 i2 (by omega) (by omega), show (a.toInt + 2 - p - 2).toNat = 0 from by omega]; rfl⟩, ?_⟩
      rintro x u ⟨g1, g2, g3, g4⟩
      have ex : (x - a).toInt = x.toInt - p := by rw [sb (by omega) (by omega), hp]
      refine pm_look hf hN rfl (fun w1 hw1 => pm_sixteen (fun w2 hw2 => ⟨fun d => ?_, fun d => ?_⟩))
      · have nhx : ¬ HXq (byt f N x.toInt) := fun h => by
          rw [← hw1] at h
          have := hx_iff.mpr h
          omega
        have en : ENq HXq (byt f N) (p + 2) x.toInt := ⟨g1, g3, nhx⟩
        refine ⟨fun c => ?_, fun c => ?_⟩
        · refine pm_tadd (Q2 := Q) (k := 3) (v := u) hL hl ?_ g2 r3 hp (fun h => absurd h (by decide)) (fun _ => rfl) (fun s h => h) k1
          rw [TOKq, if_neg nl, if_pos hb, if_pos hh]
          exact ⟨en, by omega, by decide, g4⟩
        · refine pm_bad hL hl (fun s ks hs => k0 _ s ks ⟨by omega, ?_⟩ hs)
          rw [if_neg nl, if_pos hb, if_pos hh]
          exact ⟨_, en, by omega⟩
      · have hd : HXq (byt f N x.toInt) := by
          rw [← hw1]
          exact hx_iff.mp (by omega)
        have hin3 := byt_in (f := f) (N := N) (i := x.toInt) (by omega)
        refine pm_look hf hN rfl (fun w3 hw3 => pm_sixteen (fun w4 hw4 => ⟨?_, ?_, fun i h1 h2 => ?_, ?_⟩))
        · rw [ad1 (by omega)]
          omega
        · rw [ad1 (by omega)]
          omega
        · rw [ad1 (by omega)] at h2
          by_cases q : i = x.toInt
          · rw [q]
            exact hd
          · exact g3 i h1 (by omega)
        · rw [hw3] at hw4
          have h4 := hx_iff.mpr hd
          obtain ⟨n1, n2, n3⟩ := hx_nI hw4 (by omega)
          rw [ad1 (by omega), show (x.toInt + 1 - p - 2).toNat = (x.toInt - p - 2).toNat + 1 from by omega, hv_s, show p + 2 + (((x.toInt - p - 2).toNat : Nat) : Int) = x.toInt from by omega, ← g4, n3, n1, hex_or u n2]
theorem pm_char {Q : Int32 → St → St → List Nat → Prop} (hf : σ 1 = f) (hN : (σ 0 9).toInt = N) (h16 : N ≤ 16000) (hp : a.toInt = p) (hL : RMq σ L) (hl : L.length ≤ 16001) (hb : byt f N p = 39)
    (k1 : ∀ s k v x, KRq σ s → TOKq (byt f N) p k v x.toInt → x.toInt ≤ N → RMq s (L ++ [(k, v, p)]) → (s 0 8).toInt = (L.length : Int) + 1 → (s 2 L.length).toInt = rkI k.toInt → Q x s τ vs) (k0 : ∀ x s, KRq σ s → BADq (byt f N) p → FMq s L 1 → Q x s τ vs) : pp_codeEnd a a2 σ τ vs Q := by
  have hin := byt_in (f := f) (N := N) (i := p) (by omega)
  have e39 : ((39 : Int32)).toInt = 39 := by decide
  have r3 : ((3 : Int32)).toInt = rkI ((3 : Int32)).toInt := by decide
  have e1 : (a + (1 : Int32)).toInt = p + 1 := by rw [ad0 i1 (by omega) (by omega), hp]
  unfold pp_codeEnd
  refine pm_code hf hN h16 e1 (by omega) (fun v hv => pm_look hf hN e1 (fun w hw => ⟨fun y => y.toInt = 1 + wdq (byt f N) (p + 1), fun y hy => ?_, fun c => ?_, fun c => ?_⟩))
  · rw [e39] at hv
    have hr := wd_r (b := byt f N) (i := p + 1)
    have ey : (a + y).toInt = p + 1 + wdq (byt f N) (p + 1) := by rw [ad (by omega) (by omega)]; omega
    have ey2 : ((a + y) + (1 : Int32)).toInt = p + 2 + wdq (byt f N) (p + 1) := by rw [ad0 i1 (by omega) (by omega), ey]; omega
    refine ⟨cdq (byt f N) 39 (p + 1) < 0 ∨ byt f N (p + 1 + wdq (byt f N) (p + 1)) ≠ 39, fun j => ?_, fun c => by omega, fun c => pm_look hf hN ey (fun u hu => ⟨fun d => ?_, fun d => by omega⟩)⟩
    · refine pm_bad hL hl (fun s ks hs => k0 _ s ks ⟨by omega, ?_⟩ hs)
      rw [if_neg (by omega), if_neg (by omega), if_pos hb]
      exact j
    · have hin2 := byt_in (f := f) (N := N) (i := p + 1 + wdq (byt f N) (p + 1)) (by omega)
      refine pm_tadd (Q2 := Q) (k := 3) (v := v) hL hl ?_ (by omega) r3 hp (fun h => absurd h (by decide)) (fun _ => rfl) (fun s h => h) k1
      rw [TOKq, if_neg (by omega), if_neg (by omega), if_pos hb]
      exact ⟨by omega, by omega, ey2, by decide, hv⟩
  · rw [wdq, if_neg (by omega)]
    decide
  · rw [wdq, if_pos (by omega)]
    decide
theorem pm_str {Q : Int32 → St → St → List Nat → Prop} (hf : σ 1 = f) (hN : (σ 0 9).toInt = N) (h16 : N ≤ 16000) (hp : a.toInt = p) (hL : RMq σ L) (hl : L.length ≤ 16001) (hb : byt f N p = 34)
    (k1 : ∀ s k v x, KRq σ s → TOKq (byt f N) p k v x.toInt → x.toInt ≤ N → RMq s (L ++ [(k, v, p)]) → (s 0 8).toInt = (L.length : Int) + 1 → (s 2 L.length).toInt = rkI k.toInt → Q x s τ vs) (k0 : ∀ x s, KRq σ s → BADq (byt f N) p → FMq s L 1 → Q x s τ vs) : pp_stringEnd a a2 σ τ vs Q := by
  have hin := byt_in (f := f) (N := N) (i := p) (by omega)
  have e34 : ((34 : Int32)).toInt = 34 := by decide
  have r4 : ((4 : Int32)).toInt = rkI ((4 : Int32)).toInt := by decide
  unfold pp_stringEnd
  refine ⟨fun x c => ∃ n : Nat, c.toInt = n ∧ n ≤ 200 ∧ x.toInt = spq (byt f N) p n ∧ p < x.toInt ∧ x.toInt ≤ N ∧ ∀ j, j < n → byt f N (spq (byt f N) p j) ≠ 34 ∧ 0 ≤ cdq (byt f N) 34 (spq (byt f N) p j), ⟨0, rfl, by decide, ?_, by rw [ad0 i1 (by omega) (by omega)]; omega, by rw [ad0 i1 (by omega) (by omega)]; omega, fun j h => by omega⟩, ?_⟩
  · rw [ad0 i1 (by omega) (by omega), hp]
    rfl
  rintro x c ⟨n, g1, g2, g3, g4, g5, g6⟩
  refine pm_look hf hN rfl (fun v hv => ⟨fun d => ?_, fun d => pm_code hf hN h16 rfl (by omega) (fun v2 hv2 => ⟨cdq (byt f N) 34 x.toInt < 0 ∨ n = 200, fun j => ?_, fun d2 => by rw [e34] at hv2; omega, fun d2 => ⟨fun d3 => pm_look hf hN rfl (fun v3 hv3 => ⟨fun y => y.toInt = wdq (byt f N) x.toInt, fun y hy => ?_, fun c => ?_, fun c => ?_⟩), fun d3 => by omega⟩⟩)⟩)
  · have hin2 := byt_in (f := f) (N := N) (i := x.toInt) (by omega)
    have ew : (x + (1 : Int32)).toInt = x.toInt + 1 := ad0 i1 (by omega) (by omega)
    refine pm_tadd (Q2 := Q) (k := 4) (v := c) hL hl ?_ (by omega) r4 hp (fun h => absurd h (by decide)) (fun _ => rfl) (fun s h => h) k1
    rw [TOKq, if_neg (by omega), if_neg (by omega), if_neg (by omega), if_pos hb]
    exact ⟨n, ⟨by omega, g6, by rw [← g3]; omega⟩, by omega, by decide, g1⟩
  · refine pm_bad hL hl (fun s ks hs => k0 _ s ks ⟨by omega, ?_⟩ hs)
    rw [if_neg (by omega), if_neg (by omega), if_neg (by omega), if_pos hb]
    exact ⟨n, by omega, g6, by rw [← g3]; omega, by rw [← g3]; exact j⟩
  · rw [e34] at hv2
    have hu := cd_up (b := byt f N) rfl (by omega : 0 ≤ cdq (byt f N) 34 x.toInt)
    have hr := wd_r (b := byt f N) (i := x.toInt)
    have exy : (x + y).toInt = x.toInt + wdq (byt f N) x.toInt := by rw [ad (by omega) (by omega), hy]
    refine ⟨n + 1, by rw [ad1 (by omega)]; omega, by omega, by rw [sp_s, ← g3, exy], by omega, by omega, fun j hj => ?_⟩
    by_cases q : j = n
    · rw [q, ← g3]
      exact ⟨by omega, by omega⟩
    · exact g6 j (by omega)
  · rw [wdq, if_neg (by omega)]
    rfl
  · rw [wdq, if_pos (by omega)]
    rfl
theorem pm_sign {Q : Int32 → St → St → List Nat → Prop} (hf : σ 1 = f) (hB : ∀ j, -128 ≤ (f j).toInt ∧ (f j).toInt ≤ 127) (hN : (σ 0 9).toInt = N) (h16 : N ≤ 16000) (hp : a.toInt = p) (hL : RMq σ L) (hl : L.length ≤ 16001) (hb : 0 ≤ byt f N p) (n1 : ¬ LTq (byt f N p)) (n2 : ¬ DGq (byt f N p)) (n3 : byt f N p ≠ 39) (n4 : byt f N p ≠ 34)
    (k1 : ∀ s k v x, KRq σ s → TOKq (byt f N) p k v x.toInt → x.toInt ≤ N → RMq s (L ++ [(k, v, p)]) → (s 0 8).toInt = (L.length : Int) + 1 → (s 2 L.length).toInt = rkI k.toInt → Q x s τ vs) (k0 : ∀ x s, KRq σ s → BADq (byt f N) p → FMq s L 1 → Q x s τ vs) : pp_signEnd a a2 σ τ vs Q := by
  have hin := byt_in hb
  have e32 : ((32 : Int32)).toInt = 32 := by decide
  unfold pp_signEnd
  refine ⟨fun x => x.toInt ≤ 3 ∧ ∀ w n, SMq (byt f N) p n w → n ≤ x.toInt, ⟨by decide, fun w n hm => ?_⟩, ?_⟩
  · have hl2 := sg_len w hm.1
    have h3 := hm.2.1
    rw [i3]
    omega
  rintro x ⟨h1, h2⟩
  have sin : ∀ w n, SMq (byt f N) p n w → p + n ≤ N := fun w n hm => by
    have hw := hm.1
    have hl2 := sg_len w hw
    have h3 := hm.2.1
    have hc := sg_pos w hw (lSg w - 1) (by omega) (by omega)
    have hm2 := hm.2.2 (lSg w - 1) (by omega)
    have hin2 := byt_in (f := f) (N := N) (i := p + ((lSg w - 1 : Nat) : Int)) (by omega)
    omega
  refine ⟨fun c => pm_bad hL hl (fun s ks hs => k0 _ s ks ⟨hb, ?_⟩ hs), fun c => ?_⟩
  · rw [if_neg n1, if_neg n2, if_neg n3, if_neg n4]
    intro w n hm
    have := h2 w n hm
    have := sg_len w hm.1
    have := hm.2.1
    omega
  have ex : (a + x).toInt = p + x.toInt := by rw [ad (by omega) (by omega), hp]
  refine ⟨fun r => (∃ w, SMq (byt f N) p x.toInt w ∧ r.toInt = rkT w) ∨ ((∀ w, ¬ SMq (byt f N) p x.toInt w) ∧ r.toInt < 0), fun r hr => ⟨fun d => ?_, fun d => ⟨?_, fun w n hm => ?_⟩⟩, fun c2 => Or.inr ⟨fun w hm => ?_, by decide⟩, fun c2 => pm_among1 (N := N) hf hB hp (by omega) (fun r hr => ?_)⟩
  · rcases hr with ⟨w, r1, r2⟩ | ⟨r1, r2⟩
    · have hw := r1.1
      have hin2 := sin w _ r1
      have ee : (a + x).toInt - p = x.toInt := by omega
      have ft := fr_tab w hw
      have ek : ((20 : Int32) + nI w).toInt = 20 + w := by
        have e20 : ((20 : Int32)).toInt = 20 := by decide
        have ew : (nI w).toInt = (w : Int) := nI_toInt (by omega)
        rw [ad (by omega) (by omega)]
        omega
      refine pm_tadd (Q2 := Q) (k := (20 : Int32) + nI w) (v := 0) hL hl ?_ (by omega) ?_ hp (fun h => by omega) (fun h => by omega) (fun s h => h) k1
      · rw [TOKq, if_neg n1, if_neg n2, if_neg n3, if_neg n4, ee]
        exact ⟨w, r1, h2, ek, rfl⟩
      · rw [ek, rkI, if_neg (by omega), show ((20 + (w : Int)) - 20).toNat = w from by omega, ad (by omega) (by omega)]
        omega
    · omega
  · rw [dc1 (by omega)]
    omega
  · rw [dc1 (by omega)]
    have q := h2 w n hm
    by_cases e : n = x.toInt
    · rcases hr with ⟨w', r1, r2⟩ | ⟨r1, r2⟩
      · omega
      · rw [e] at hm
        exact absurd hm (r1 w)
    · omega
  · have := sin w _ hm
    omega
  · rw [show (a + x).toInt - p = x.toInt from by omega] at hr
    exact hr
theorem pm_one {Q : Int32 → St → St → List Nat → Prop} (hf : σ 1 = f) (hB : ∀ j, -128 ≤ (f j).toInt ∧ (f j).toInt ≤ 127) (hN : (σ 0 9).toInt = N) (h16 : N ≤ 16000) (hp : a.toInt = p) (hL : RMq σ L) (hl : L.length ≤ 16001) (hb : 0 ≤ byt f N p)
    (k1 : ∀ s k v x, KRq σ s → TOKq (byt f N) p k v x.toInt → x.toInt ≤ N → RMq s (L ++ [(k, v, p)]) → (s 0 8).toInt = (L.length : Int) + 1 → (s 2 L.length).toInt = rkI k.toInt → Q x s τ vs) (k0 : ∀ x s, KRq σ s → BADq (byt f N) p → FMq s L 1 → Q x s τ vs) : pp_one_0 a a2 σ τ vs Q := by
  unfold pp_one_0
  refine pm_look hf hN hp (fun v hv => pm_isLetter (fun d => ⟨fun z => absurd z (by decide), fun _ => pm_name hf hB hN h16 hp hL hl (by omega) k1 k0⟩) (fun d => ⟨fun _ => pm_isDigit (fun d2 => ⟨fun z => absurd z (by decide), fun _ => pm_number hf hN h16 hp hL hl (by omega) k1 k0⟩) (fun d2 => ⟨fun _ => ⟨fun d3 => ⟨fun d4 => pm_sign hf hB hN h16 hp hL hl hb (by omega) (by omega) (by omega) (by omega) k1 k0, fun d4 => pm_str hf hN h16 hp hL hl (by omega) k1 k0⟩, fun d3 => pm_char hf hN h16 hp hL hl (by omega) k1 k0⟩, fun z => absurd rfl z⟩), fun z => absurd rfl z⟩))
theorem tok_k {b : Int → Int} (h : TOKq b p k v e) : 2 ≤ k.toInt ∧ k.toInt ≤ 62 := by
  unfold TOKq at h
  by_cases c1 : LTq (b p)
  · rw [if_pos c1] at h
    rcases h.2.2.2 with ⟨w, q1, q2⟩ | ⟨q1, q2⟩
    · have := q1.1
      omega
    · omega
  rw [if_neg c1] at h
  by_cases c2 : DGq (b p)
  · rw [if_pos c2] at h
    by_cases c3 : HSq b p
    · rw [if_pos c3] at h
      have := h.2.2.1
      omega
    · rw [if_neg c3] at h
      have := h.2.2.1
      omega
  rw [if_neg c2] at h
  by_cases c3 : b p = 39
  · rw [if_pos c3] at h
    have := h.2.2.2.1
    omega
  rw [if_neg c3] at h
  by_cases c4 : b p = 34
  · rw [if_pos c4] at h
    obtain ⟨m, _, _, a, _⟩ := h
    omega
  rw [if_neg c4] at h
  obtain ⟨w, q1, _, q2, _⟩ := h
  have := q1.1
  omega
theorem rk_ge {i : Int} (h : 2 ≤ i) : 2 ≤ rkI i := by
  unfold rkI
  split
  · exact h
  · omega
/-- cut(): the tokens are those of the text -/
theorem pm_cut {Q : St → St → List Nat → Prop} (hf : σ 1 = f) (hB : ∀ j, -128 ≤ (f j).toInt ∧ (f j).toInt ≤ 127) (hN : (σ 0 9).toInt = N) (h0 : 0 ≤ N) (h16 : N ≤ 16000)
    (kk : ∀ s L q c, KRq σ s → RCHq (byt f N) (0, []) (q, L) → FINq (byt f N) q c → FMq s L c → Q s τ vs) : pp_cut σ τ vs Q := by
  unfold pp_cut
  generalize hu : upC σ 0 8 (0 : Int32) = u
  have ku : KRq σ u := by rw [← hu]; exact kp_f kp_rf rfl
  have uc : (u 0 8).toInt = 0 := by rw [← hu, rdA_eq rfl]; rfl
  refine ⟨fun x _ s t z => t = τ ∧ z = vs ∧ KRq σ s ∧ ∃ L, RCHq (byt f N) (0, []) (x.toInt, L) ∧ RMq s L ∧ (L.length : Int) ≤ x.toInt ∧ x.toInt ≤ N, ⟨rfl, rfl, ku, [], rch_0, ⟨uc, fun j k v q e => by cases e⟩, Int.le_refl _, h0⟩, ?_⟩
  rintro x ln s t z ⟨rfl, rfl, ks, L, g1, g2, g3, g4⟩
  have sf : s 1 = f := by rw [← hf]; exact funext (fun j => ks 1 j rfl rfl)
  have sN : (s 0 9).toInt = N := by rw [show s 0 9 = σ 0 9 from ks 0 9 rfl rfl]; exact hN
  have gn := g2.1
  refine ⟨fun c => pm_tok0 (k := 0) (v := 0) (p := (s 0 9).toInt) g2 (by omega) (by decide) rfl (fun h => absurd h (by decide)) (fun h => absurd h (by decide)) (fun r kr hr _ _ => kk r L _ 0 (kp_tr ks kr) g1 (Or.inl ⟨?_, rfl⟩) (fm_rm hr (by decide))), fun c => pm_look sf sN rfl (fun v hv => ?_)⟩
  · rw [byt, if_neg (by omega)]
    omega
  have hb : 0 ≤ byt f N x.toInt := byt_pos ⟨by omega, by omega⟩
  -- what stands behind one piece
  have J : ∀ (Qa : Int32 → Prop), (∀ w : Int32, ((w.toInt ≠ 0 ∧ AOq (byt f N x.toInt)) ∨ (w.toInt = 0 ∧ ¬ AOq (byt f N x.toInt))) → Qa w) → pp_isAllowed v s t z Qa := fun Qa h => pm_isAllowed (fun m => h 1 (Or.inl ⟨by decide, by omega⟩)) (fun m => h 0 (Or.inr ⟨rfl, by omega⟩))
  refine J _ (fun w35 hw35 => ⟨fun x5 r t1 z1 => t1 = t ∧ z1 = z ∧ KRq σ r ∧ ((∃ e L', x5.toInt = e ∧ RCHq (byt f N) (0, []) (e, L') ∧ RMq r L' ∧ (L'.length : Int) ≤ e ∧ e ≤ N ∧ ((r 0 8).toInt ≤ (s 0 8).toInt ∨ ((r 0 8).toInt = (L.length : Int) + 1 ∧ 2 ≤ (r 2 L.length).toInt))) ∨ (∃ q, RCHq (byt f N) (0, []) (q, L) ∧ FINq (byt f N) q 1 ∧ FMq r L 1)), ?_, ?_⟩)
  · rintro x5 r t1 z1 ⟨rfl, rfl, kr, h⟩
    have e1 : (r 0 8).toInt = (L.length : Int) + 1 → ((r 0 8) - (1 : Int32)).toNatClampNeg = L.length := fun h => by
      rw [nt', sbc i1 (by omega) (by omega), h]
      omega
    rcases h with ⟨e, L', q1, q2, q3, q4, q5, q6⟩ | ⟨q, q1, q2, q3⟩
    · refine ⟨True, fun _ => ⟨fun _ _ => True, trivial, ?_⟩, fun _ => trivial, fun c1 _ => ⟨fun _ => trivial, fun c2 => ?_⟩⟩
      · rintro y1 y2 -
        refine ⟨fun _ => ⟨rfl, rfl, kr, L', by rw [q1]; exact q2, q3, by omega, by omega⟩, fun _ => ?_⟩
        unfold pp_look
        exact ⟨fun _ => ⟨fun _ => True, fun _ _ => trivial, fun _ => trivial, fun _ => trivial⟩, fun _ _ => ⟨fun _ => True, fun _ _ => trivial, fun _ => trivial, fun _ => trivial⟩⟩
      · rcases q6 with q6 | ⟨q6, q7⟩
        · omega
        · rw [e1 q6] at c2
          omega
    · refine ⟨False, fun h => h.elim, fun c1 => ?_, fun c1 _ => ⟨fun c2 => ?_, fun _ => kk r L q 1 kr q1 q2 q3⟩⟩
      · have := q3.1
        omega
      · rw [e1 q3.1, q3.2.2] at c2
        exact c2 (by decide)
  · have bl : ∀ y : Int32, y.toInt ≤ N → BLq (byt f N) x.toInt y.toInt → (t = t ∧ z = z ∧ KRq σ s ∧ ((∃ e L', y.toInt = e ∧ RCHq (byt f N) (0, []) (e, L') ∧ RMq s L' ∧ (L'.length : Int) ≤ e ∧ e ≤ N ∧ ((s 0 8).toInt ≤ (s 0 8).toInt ∨ ((s 0 8).toInt = (L.length : Int) + 1 ∧ 2 ≤ (s 2 L.length).toInt))) ∨ (∃ q, RCHq (byt f N) (0, []) (q, L) ∧ FINq (byt f N) q 1 ∧ FMq s L 1))) := fun y hy hbl => by
      have := bl_up hbl
      exact ⟨rfl, rfl, ks, Or.inl ⟨y.toInt, L, rfl, rch_s g1 (Or.inl ⟨hbl, rfl⟩), g2, by omega, hy, Or.inl (Int.le_refl _)⟩⟩
    refine ⟨fun c1 => ?_, fun c1 => ?_⟩
    · refine ⟨¬ (byt f N x.toInt = 47 ∧ byt f N (x.toInt + 1) = 47), fun j1 => ⟨¬ CMq (byt f N) x.toInt, fun j2 => ?_, fun d => by omega, fun d => pm_look sf sN (i := x.toInt + 1) (ad0 i1 (by omega) (by omega)) (fun w hw => ⟨fun d2 => by omega, fun d2 => pm_remarkEnd sf sN h16 rfl (by omega) g2 (by omega) (by omega) (by omega) (fun y hy hbl => bl y hy hbl) (fun y r kr hbb hr => ⟨rfl, rfl, kp_tr ks kr, Or.inr ⟨_, g1, Or.inr ⟨Or.inl hbb, rfl⟩, hr⟩⟩)⟩)⟩, fun d => by omega, fun d => pm_look sf sN (i := x.toInt + 1) (ad0 i1 (by omega) (by omega)) (fun w hw => ⟨fun d2 => by omega, fun d2 => pm_lineEnd sf sN h16 rfl (by omega) g2 (by omega) (by omega) (by omega) (fun y hy hbl => bl y hy hbl) (fun y r kr hbb hr => ⟨rfl, rfl, kp_tr ks kr, Or.inr ⟨_, g1, Or.inr ⟨Or.inl hbb, rfl⟩, hr⟩⟩)⟩)⟩
      have nb : ¬ BKq v.toInt → ¬ BKq (byt f N x.toInt) := fun h => by omega
      refine pm_isBlank (fun m => ⟨fun _ => bl _ (by rw [ad0 i1 (by omega) (by omega)]; omega) ?_, fun z => absurd z (by decide)⟩) (fun m => ⟨fun z => absurd rfl z, fun _ => pm_one sf hB sN h16 rfl g2 (by omega) hb (fun r k v y kr ht hy hr e1 e2 => ⟨rfl, rfl, kp_tr ks kr, Or.inl ⟨y.toInt, _, rfl, rch_s g1 (Or.inr ⟨⟨hb, nb m, j2⟩, k, v, y.toInt, ht, rfl⟩), hr, ?_, hy, Or.inr ⟨e1, by rw [e2]; exact rk_ge (tok_k ht).1⟩⟩⟩) (fun y r kr hbad hr => ⟨rfl, rfl, kp_tr ks kr, Or.inr ⟨_, g1, Or.inr ⟨Or.inr ⟨⟨by omega, j2⟩, hbad⟩, rfl⟩, hr⟩⟩)⟩)
      · rw [ad0 i1 (by omega) (by omega), BLq, if_neg (by omega)]
        exact ⟨by omega, rfl⟩
      · have := tok_up ht
        rw [List.length_append]
        show ((L.length + 1 : Nat) : Int) ≤ y.toInt
        omega
    · have na : ¬ AOq (byt f N x.toInt) := by
        rcases hw35 with ⟨h, _⟩ | ⟨_, h⟩
        · exact absurd c1 h
        · exact h
      obtain ⟨m1, m2⟩ := na_bad hb na
      refine pm_tok0 (k := 1) (v := 0) (p := x.toInt) g2 (by omega) (by decide) rfl (fun h => absurd h (by decide)) (fun h => absurd h (by decide)) (fun r kr hr _ _ => ⟨rfl, rfl, kp_tr ks kr, Or.inr ⟨_, g1, Or.inr ⟨Or.inr ⟨m1, m2⟩, rfl⟩, fm_rm hr (by decide)⟩⟩)
end TN
