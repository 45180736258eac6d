/-! tokens: the class's side, one token -/
theorem lc_le {x y : Int64} (h : (lg_cmp x y).toInt ≤ 0) : x.toInt ≤ y.toInt := by
  have e0 : (0 : Int32).toInt = 0 := by decide
  exact Int64.le_iff_toInt_le.mp ((lg_cmp_le x y).mp (Int32.le_iff_toInt_le.mpr (by omega)))
theorem lc_gt {x y : Int64} (h : 0 < (lg_cmp x y).toInt) : y.toInt < x.toInt := by
  have e0 : (0 : Int32).toInt = 0 := by decide
  exact Int64.lt_iff_toInt_lt.mp ((lg_cmp_gt x y).mp (Int32.lt_iff_toInt_lt.mpr (by omega)))
theorem cd_eq {b : Int → Int} {q i : Int} (h : 0 ≤ cdq b q i) : 0 ≤ b i := by
  unfold cdq at h
  by_cases c : b i = 92
  · omega
  · rw [if_neg c] at h
    by_cases c2 : 32 ≤ b i ∧ b i ≤ 126 ∧ b i ≠ q
    · omega
    · rw [if_neg c2] at h
      omega
theorem cd_up {b : Int → Int} {f : Nat → Int32} {N q i : Int} (hb : b = byt f N) (h : 0 ≤ cdq b q i) : 0 ≤ i ∧ i + wdq b i ≤ N := by
  subst hb
  have h1 := byt_in (cd_eq h)
  unfold wdq
  by_cases c : byt f N i = 92
  · rw [if_pos c]
    unfold cdq at h
    rw [if_pos c] at h
    have : 0 ≤ byt f N (i + 1) := by
      by_cases d : byt f N (i + 1) = 34 ∨ byt f N (i + 1) = 39 ∨ byt f N (i + 1) = 92
      · omega
      · rw [if_neg d] at h
        by_cases d2 : byt f N (i + 1) = 48
        · omega
        · rw [if_neg d2] at h
          by_cases d3 : byt f N (i + 1) = 110
          · omega
          · rw [if_neg d3] at h
            omega
    have := byt_in this
    omega
  · rw [if_neg c]
    omega
theorem hx_iff {c : Int} : 0 ≤ hxq c ↔ HXq c := by
  unfold hxq
  constructor
  · intro h
    by_cases c1 : 48 ≤ c ∧ c ≤ 57
    · exact Or.inl c1
    rw [if_neg c1] at h
    by_cases c2 : 97 ≤ c ∧ c ≤ 102
    · exact Or.inr (Or.inl c2)
    rw [if_neg c2] at h
    by_cases c3 : 65 ≤ c ∧ c ≤ 70
    · exact Or.inr (Or.inr c3)
    rw [if_neg c3] at h
    omega
  · intro h
    by_cases c1 : 48 ≤ c ∧ c ≤ 57
    · rw [if_pos c1]
      omega
    rw [if_neg c1]
    by_cases c2 : 97 ≤ c ∧ c ≤ 102
    · rw [if_pos c2]
      omega
    rw [if_neg c2, if_pos (by omega)]
    omega
theorem hx_r {c : Int} : hxq c ≤ 15 := by
  unfold hxq
  repeat' split
  all_goals omega
theorem dv_nn {b : Int → Int} {p : Int} : ∀ n : Nat, (∀ i, p ≤ i → i < p + n → DGq (b i)) → 0 ≤ dvq b p n
  | 0, _ => Int.le_refl _
  | n + 1, h => by
    have := dv_nn n (fun i h1 h2 => h i h1 (by omega))
    have h2 := h (p + n) (by omega) (by omega)
    show 0 ≤ dvq b p n * 10 + (b (p + n) - 48)
    omega
theorem dv_s {b : Int → Int} {p : Int} {n : Nat} : dvq b p (n + 1) = dvq b p n * 10 + (b (p + n) - 48) := rfl
theorem hv_s {b : Int → Int} {p : Int} {n : Nat} : hvq b p (n + 1) = hvq b p n * 16 + Int32.ofInt (hxq (b (p + n))) := rfl
theorem sp_s {b : Int → Int} {p : Int} {n : Nat} : spq b p (n + 1) = spq b p n + wdq b (spq b p n) := rfl
section TD
variable {f : Nat → Int32} {N p e : Int} {σ s : St} {L : List (Int32 × Int32 × Int)} {a1 a2 a3 x y a n : Int32}
theorem pl_tadd {Q : Int32 → St → Prop} (hp : (σ 2 2).toInt = p) (hp0 : 0 ≤ p ∧ p ≤ N) (h16 : N ≤ 16000) (hL : RWq σ L) (hl : L.length ≤ 16001) (ht : TOKq (byt f N) p a1 a2 e) (he : e = p + a3.toInt) (heN : e ≤ N)
    (k1 : ∀ s k v e, KTq σ s → TOKq (byt f N) p k v e → e ≤ N → RWq s (L ++ [(k, v, p)]) → (s 2 2).toInt = e → Q 1 s) : pk_X10_add a1 a2 a3 σ Q := by
  have := tok_up ht
  exact pl_add0 hL hl hp (fun s ks hs h2 => k1 s a1 a2 e ks ht heN hs (by rw [h2, ad (by omega) (by omega)]; omega))
theorem pl_word {Q : Int32 → St → Prop} (hf : σ 1 = f) (hN : (σ 2 1).toInt = N) (h16 : N ≤ 16000) (hp : (σ 2 2).toInt = p) (hL : RWq σ L) (hl : L.length ≤ 16001) (hb : LTq (byt f N p))
    (k1 : ∀ s k v e, KTq σ s → TOKq (byt f N) p k v e → e ≤ N → RWq s (L ++ [(k, v, p)]) → (s 2 2).toInt = e → Q 1 s) (k0 : ∀ s, KTq σ s → BADq (byt f N) p → FNq s L 1 → Q 0 s) : pk_X10_word σ Q := by
  have hin := byt_in (f := f) (N := N) (i := p) (by omega)
  unfold pk_X10_word
  refine pl_byte hf hN h16 (i := p + 1) (by rw [ad0 i1 (by omega) (by omega), hp]) (fun v hv => ⟨fun w c => 1 ≤ w.toInt ∧ p + w.toInt ≤ N ∧ c.toInt = byt f N (p + w.toInt) ∧ ∀ i, p ≤ i → i < p + w.toInt → NDq (byt f N i), ⟨by decide, by rw [i1]; omega, by rw [i1]; exact hv, fun i h1 h2 => ?_⟩, ?_⟩)
  · rw [i1] at h2
    rw [show i = p from by omega]
    exact Or.inl hb
  rintro w c ⟨g1, g2, g3, g4⟩
  have up : (w + 1).toInt = w.toInt + 1 := ad1 (by omega)
  have nx : NDq (byt f N (p + w.toInt)) → pk_X10_byteAt (((σ 2 2) + w) + (1 : Int32)) σ (fun v44 => 1 ≤ (w + 1).toInt ∧ p + (w + 1).toInt ≤ N ∧ v44.toInt = byt f N (p + (w + 1).toInt) ∧ ∀ i, p ≤ i → i < p + (w + 1).toInt → NDq (byt f N i)) := fun h => by
    have hin2 := byt_in (f := f) (N := N) (i := p + w.toInt) (by omega)
    have e1 : ((σ 2 2) + w).toInt = p + w.toInt := by rw [ad (by omega) (by omega), hp]
    refine pl_byte hf hN h16 (i := p + (w + 1).toInt) (by rw [ad0 i1 (by omega) (by omega)]; omega) (fun v hv => ⟨by omega, by omega, hv, fun i h1 h2 => ?_⟩)
    by_cases q : i = p + w.toInt
    · rw [q]
      exact h
    · exact g4 i h1 (by omega)
  refine ⟨¬ NDq (byt f N (p + w.toInt)), fun j => ?_, fun c1 => by omega, fun c1 => pl_isLetter (fun d => ⟨NDq (byt f N (p + w.toInt)), nx, fun _ => by omega, fun z => absurd z (by decide)⟩) (fun d => ⟨NDq (byt f N (p + w.toInt)), nx, fun z => absurd rfl z, fun _ => pl_isDigit (fun d2 => ⟨fun z => absurd z (by decide), fun _ => by omega⟩) (fun d2 => ⟨fun _ => by omega, fun z => absurd rfl z⟩)⟩)⟩
  have en : ENq NDq (byt f N) p (p + w.toInt) := ⟨by omega, g4, j⟩
  have ew : p + w.toInt - p = w.toInt := by omega
  refine ⟨fun c1 => pl_listed0 hf hN h16 hp (by omega) (n := w) (fun r hr => ⟨fun y => (∃ w', WMq (byt f N) p w.toInt w' ∧ y.toInt = 5 + w') ∨ ((∀ w', ¬ WMq (byt f N) p w.toInt w') ∧ y.toInt = 2), fun y hy => pl_tadd hp (by omega) h16 hL hl (e := p + w.toInt) ?_ rfl g2 k1, fun c2 => ?_, fun c2 => ?_⟩), fun c1 => pl_bad hL hl (fun s ks hs => k0 s ks ⟨by omega, by rw [if_pos hb]; exact ⟨p + w.toInt, en, by omega⟩⟩ hs)⟩
  · rw [TOKq, if_pos hb, ew]
    exact ⟨en, c1, rfl, hy⟩
  · rcases hr with ⟨w', m1, m2⟩ | ⟨m1, m2⟩
    · have := m1.1
      have e5 : ((5 : Int32)).toInt = 5 := by decide
      exact Or.inl ⟨w', m1, by rw [ad (by omega) (by omega)]; omega⟩
    · omega
  · rcases hr with ⟨w', m1, m2⟩ | ⟨m1, m2⟩
    · omega
    · exact Or.inr ⟨m1, by decide⟩
theorem pl_digits {Q : Int32 → St → Prop} (hf : σ 1 = f) (hN : (σ 2 1).toInt = N) (h16 : N ≤ 16000) (hp : (σ 2 2).toInt = p) (hL : RWq σ L) (hl : L.length ≤ 16001) (hb : DGq (byt f N p)) (hh : ¬ HSq (byt f N) p)
    (k1 : ∀ s k v e, KTq σ s → TOKq (byt f N) p k v e → e ≤ N → RWq s (L ++ [(k, v, p)]) → (s 2 2).toInt = e → Q 1 s) (k0 : ∀ s, KTq σ s → BADq (byt f N) p → FNq s L 1 → Q 0 s) : pk_X10_digits σ Q := by
  have hin := byt_in (f := f) (N := N) (i := p) (by omega)
  have nl : ¬ LTq (byt f N p) := by omega
  have eB : (4294967296 : Int64).toInt = 4294967296 := by decide
  have eM : (2147483647 : Int64).toInt = 2147483647 := by decide
  have e10 : (10 : Int64).toInt = 10 := by decide
  unfold pk_X10_digits
  refine pl_byte hf hN h16 hp (fun v hv => ⟨fun x w c => 0 ≤ w.toInt ∧ p + w.toInt ≤ N ∧ c.toInt = byt f N (p + w.toInt) ∧ (∀ i, p ≤ i → i < p + w.toInt → DGq (byt f N i)) ∧ 0 ≤ x.toInt ∧ ((dvq (byt f N) p w.toInt.toNat ≤ 4294967296 ∧ x.toInt = dvq (byt f N) p w.toInt.toNat) ∨ (4294967296 < dvq (byt f N) p w.toInt.toNat ∧ x.toInt = 4294967296)), ⟨by decide, by rw [i0]; omega, by rw [i0, Int.add_zero]; exact hv, fun i h1 h2 => by rw [i0] at h2; omega, by decide, Or.inl ⟨by show (0 : Int) ≤ 4294967296; omega, rfl⟩⟩, ?_⟩)
  rintro x w c ⟨g1, g2, g3, g4, g5, g6⟩
  have up : (w + 1).toInt = w.toInt + 1 := ad1 (by omega)
  have ew : (p + w.toInt - p).toNat = w.toInt.toNat := by omega
  refine ⟨¬ DGq (byt f N (p + w.toInt)), fun j => ?_, fun c1 => by omega, fun c1 => pl_isDigit (fun d => ⟨fun z => absurd z (by decide), fun _ => ?_⟩) (fun d => ⟨fun _ => by omega, fun z => absurd rfl z⟩)⟩
  · have en : ENq DGq (byt f N) p (p + w.toInt) := ⟨by omega, g4, j⟩
    refine ⟨fun c1 => ?_, fun c1 => ?_⟩
    · have q := lc_le c1
      rw [eM] at q
      refine pl_tadd hp (by omega) h16 hL hl (e := p + w.toInt) ?_ rfl g2 k1
      rw [TOKq, if_neg nl, if_pos hb, if_neg hh, ew]
      refine ⟨en, by omega, by decide, ?_⟩
      rw [Int64.toInt_toInt32, Int.bmod_eq_of_le (by omega) (by omega)]
      omega
    · have q := lc_gt c1
      rw [eM] at q
      refine pl_bad hL hl (fun s ks hs => k0 s ks ⟨by omega, ?_⟩ hs)
      rw [if_neg nl, if_pos hb, if_neg hh]
      exact ⟨_, en, by rw [ew]; omega⟩
  · have hin2 := byt_in (f := f) (N := N) (i := p + w.toInt) (by omega)
    have e1 : ((σ 2 2) + w).toInt = p + w.toInt := by rw [ad (by omega) (by omega), hp]
    have e48 : ((48 : Int32)).toInt = 48 := by decide
    have ec : (c - (48 : Int32)).toInt64.toInt = byt f N (p + w.toInt) - 48 := by rw [Int32.toInt_toInt64, sbc e48 (by omega) (by omega), g3]
    have m1 : (x * (10 : Int64)).toInt = x.toInt * 10 := by rw [Int64.toInt_mul, e10, Int.bmod_eq_of_le (by omega) (by omega)]
    have m2 : ((x * (10 : Int64)) + (c - (48 : Int32)).toInt64).toInt = x.toInt * 10 + (byt f N (p + w.toInt) - 48) := by rw [Int64.toInt_add, m1, ec, Int.bmod_eq_of_le (by omega) (by omega)]
    have en : (w + 1).toInt.toNat = w.toInt.toNat + 1 := by omega
    have et : (w.toInt.toNat : Int) = w.toInt := Int.toNat_of_nonneg g1
    have ed : dvq (byt f N) p (w + 1).toInt.toNat = dvq (byt f N) p w.toInt.toNat * 10 + (byt f N (p + w.toInt) - 48) := by rw [en, dv_s, et]
    refine pl_byte hf hN h16 (i := p + (w + 1).toInt) (by rw [ad0 i1 (by omega) (by omega)]; omega) (fun v2 hv2 => ⟨by omega, by omega, hv2, fun i h1 h2 => ?_, ?_⟩)
    · by_cases q : i = p + w.toInt
      · rw [q, ← g3]
        exact d
      · exact g4 i h1 (by omega)
    · rw [ed]
      by_cases q : (4294967296 : Int64) < ((x * (10 : Int64)) + (c - (48 : Int32)).toInt64)
      · have q2 := Int64.lt_iff_toInt_lt.mp q
        rw [eB, m2] at q2
        rw [if_pos q, eB]
        exact ⟨by omega, Or.inr ⟨by omega, rfl⟩⟩
      · have q2 : ¬ (4294967296 : Int64).toInt < ((x * (10 : Int64)) + (c - (48 : Int32)).toInt64).toInt := fun h => q (Int64.lt_iff_toInt_lt.mpr h)
        rw [eB, m2] at q2
        rw [if_neg q, m2]
        exact ⟨by omega, Or.inl ⟨by omega, by omega⟩⟩
theorem pl_sixteens {Q : Int32 → St → Prop} (hf : σ 1 = f) (hN : (σ 2 1).toInt = N) (h16 : N ≤ 16000) (hp : (σ 2 2).toInt = p) (hL : RWq σ L) (hl : L.length ≤ 16001) (hh : HSq (byt f N) p)
    (k1 : ∀ s k v e, KTq σ s → TOKq (byt f N) p k v e → e ≤ N → RWq s (L ++ [(k, v, p)]) → (s 2 2).toInt = e → Q 1 s) (k0 : ∀ s, KTq σ s → BADq (byt f N) p → FNq s L 1 → Q 0 s) : pk_X10_sixteens σ Q := by
  have hin := byt_in (f := f) (N := N) (i := p) (by omega)
  have hin2 := byt_in (f := f) (N := N) (i := p + 2) (by omega)
  have nl : ¬ LTq (byt f N p) := by omega
  have hb : DGq (byt f N p) := by omega
  have oi : ∀ {c : Int32} {i : Int}, c.toInt = hxq i → c = Int32.ofInt (hxq i) := fun {c i} h => by rw [← h, Int32.ofInt_toInt]
  unfold pk_X10_sixteens
  refine pl_byte hf hN h16 (i := p + 2) (by rw [ad0 i2 (by omega) (by omega), hp]) (fun v hv => pl_sixteenth (fun h hh2 => ⟨fun x w c => 2 ≤ w.toInt ∧ p + w.toInt ≤ N ∧ c.toInt = hxq (byt f N (p + w.toInt)) ∧ (∀ i, p + 2 ≤ i → i < p + w.toInt → HXq (byt f N i)) ∧ x = hvq (byt f N) (p + 2) (w.toInt - 2).toNat, ⟨by decide, by rw [i2]; omega, by rw [i2, ← hv]; exact hh2, fun i h1 h2 => by rw [i2] at h2; omega, rfl⟩, ?_⟩))
  rintro x w c ⟨g1, g2, g3, g4, g5⟩
  have up : (w + 1).toInt = w.toInt + 1 := ad1 (by omega)
  have ew : p + w.toInt - p - 2 = w.toInt - 2 := by omega
  refine ⟨¬ HXq (byt f N (p + w.toInt)), fun j => ?_, fun c1 => by omega, fun c1 => ⟨fun d hx => ?_, fun d => ?_⟩⟩
  · have en : ENq HXq (byt f N) (p + 2) (p + w.toInt) := ⟨by omega, g4, j⟩
    refine ⟨fun c1 => ?_, fun c1 => ?_⟩
    · refine pl_tadd hp (by omega) h16 hL hl (e := p + w.toInt) ?_ rfl g2 k1
      rw [TOKq, if_neg nl, if_pos hb, if_pos hh, ew]
      exact ⟨en, by omega, by decide, g5⟩
    · refine pl_bad hL hl (fun s ks hs => k0 s ks ⟨by omega, ?_⟩ hs)
      rw [if_neg nl, if_pos hb, if_pos hh]
      exact ⟨_, en, by omega⟩
  · have := hx_iff.mpr hx
    omega
  · have hd : HXq (byt f N (p + w.toInt)) := hx_iff.mp (by omega)
    have hin3 := byt_in (f := f) (N := N) (i := p + w.toInt) (by omega)
    have e1 : ((σ 2 2) + w).toInt = p + w.toInt := by rw [ad (by omega) (by omega), hp]
    have en : ((w + 1).toInt - 2).toNat = (w.toInt - 2).toNat + 1 := by omega
    have et : p + 2 + (((w.toInt - 2).toNat : Nat) : Int) = p + w.toInt := by omega
    refine pl_byte hf hN h16 (i := p + (w + 1).toInt) (by rw [ad0 i1 (by omega) (by omega)]; omega) (fun v2 hv2 => pl_sixteenth (fun h2 hh3 => ⟨by omega, by omega, by rw [← hv2]; exact hh3, fun i h1 h2 => ?_, ?_⟩))
    · by_cases q : i = p + w.toInt
      · rw [q]
        exact hd
      · exact g4 i h1 (by omega)
    · rw [en, hv_s, et, ← g5, ← oi g3]
theorem pl_codeAt {Q : Int32 → Prop} {q : Int32} {i : Int} (hf : σ 1 = f) (hN : (σ 2 1).toInt = N) (h16 : N ≤ 16000) (hx : x.toInt = i) (hi : i ≤ 100000) (k : ∀ v : Int32, v.toInt = cdq (byt f N) q.toInt i → Q v) : pk_X10_codeAt x q σ Q := by
  have m1 : ((-1 : Int32)).toInt = -1 := by decide
  unfold pk_X10_codeAt
  refine pl_byte hf hN h16 hx (fun v hv => ⟨fun c => ?_, fun c => ⟨fun c1 => k _ ?_, fun c1 => ⟨fun c2 => k _ ?_, fun c2 => ⟨fun c3 => k _ ?_, fun c3 => k _ ?_⟩⟩⟩⟩)
  · have hin := byt_in (f := f) (N := N) (i := i) (by omega)
    have e92 : byt f N i = 92 := by omega
    refine pl_byte hf hN h16 (i := i + 1) (by rw [ad0 i1 (by omega) (by omega), hx]) (fun w hw => ⟨fun d => k _ ?_, fun d => ⟨fun d1 => k _ ?_, fun d1 => ⟨fun d2 => k _ ?_, fun d2 => ⟨fun d3 => k _ ?_, fun d3 => ⟨fun d4 => k _ ?_, fun d4 => k _ ?_⟩⟩⟩⟩⟩)
    · rw [cdq, if_pos e92, if_pos (by omega)]
      exact hw
    · rw [cdq, if_pos e92, if_pos (by omega)]
      exact hw
    · rw [cdq, if_pos e92, if_neg (by omega), if_pos (by omega)]
      rfl
    · rw [cdq, if_pos e92, if_pos (by omega)]
      exact hw
    · rw [cdq, if_pos e92, if_neg (by omega), if_neg (by omega), if_pos (by omega)]
      rfl
    · rw [cdq, if_pos e92, if_neg (by omega), if_neg (by omega), if_neg (by omega)]
      exact m1
  · rw [cdq, if_neg (by omega), if_neg (by omega)]
    exact m1
  · rw [cdq, if_neg (by omega), if_neg (by omega)]
    exact m1
  · rw [cdq, if_neg (by omega), if_pos (by omega)]
    exact hv
  · rw [cdq, if_neg (by omega), if_neg (by omega)]
    exact m1
theorem pl_widthAt {Q : Int32 → Prop} {i : Int} (hf : σ 1 = f) (hN : (σ 2 1).toInt = N) (h16 : N ≤ 16000) (hx : x.toInt = i) (k : ∀ v : Int32, v.toInt = wdq (byt f N) i → Q v) : pk_X10_widthAt x σ Q := by
  unfold pk_X10_widthAt
  refine pl_byte hf hN h16 hx (fun v hv => ⟨fun c => k _ ?_, fun c => k _ ?_⟩)
  · rw [wdq, if_neg (by omega)]
    rfl
  · rw [wdq, if_pos (by omega)]
    rfl
theorem wd_r {b : Int → Int} {i : Int} : 1 ≤ wdq b i ∧ wdq b i ≤ 2 := by
  unfold wdq
  split <;> omega
theorem pl_string {Q : Int32 → St → Prop} (hf : σ 1 = f) (hN : (σ 2 1).toInt = N) (h16 : N ≤ 16000) (hp : (σ 2 2).toInt = p) (hL : RWq σ L) (hl : L.length ≤ 16001) (hb : byt f N p = 34)
    (k1 : ∀ s k v e, KTq σ s → TOKq (byt f N) p k v e → e ≤ N → RWq s (L ++ [(k, v, p)]) → (s 2 2).toInt = e → Q 1 s) (k0 : ∀ s, KTq σ s → BADq (byt f N) p → FNq s L 1 → Q 0 s) : pk_X10_string σ Q := by
  have hin := byt_in (f := f) (N := N) (i := p) (by omega)
  have e34 : ((34 : Int32)).toInt = 34 := by decide
  unfold pk_X10_string
  refine ⟨fun w c => ∃ n : Nat, c.toInt = n ∧ n ≤ 201 ∧ p + w.toInt = spq (byt f N) p n ∧ 1 ≤ w.toInt ∧ p + w.toInt ≤ N ∧ ∀ j, j < n → byt f N (spq (byt f N) p j) ≠ 34 ∧ 0 ≤ cdq (byt f N) 34 (spq (byt f N) p j), ⟨0, rfl, by decide, rfl, by decide, by rw [i1]; omega, fun j h => by omega⟩, ?_⟩
  rintro w c ⟨n, g1, g2, g3, g4, g5, g6⟩
  have e1 : ((σ 2 2) + w).toInt = p + w.toInt := by rw [ad (by omega) (by omega), hp]
  refine ⟨n = 201 ∨ (n ≤ 200 ∧ byt f N (p + w.toInt) = 34), fun j => ⟨fun c1 => ?_, fun c1 => ?_⟩, fun c1 => by omega, fun c1 => pl_byte hf hN h16 e1 (fun v hv => ⟨fun d => by omega, fun d => pl_codeAt hf hN h16 e1 (by omega) (fun v2 hv2 => ⟨fun d2 => ?_, fun d2 => ?_⟩)⟩)⟩
  · have h34 : byt f N (p + w.toInt) = 34 := by omega
    have hin2 := byt_in (f := f) (N := N) (i := p + w.toInt) (by omega)
    have ew : (w + (1 : Int32)).toInt = w.toInt + 1 := ad0 i1 (by omega) (by omega)
    refine pl_tadd hp (by omega) h16 hL hl (e := p + w.toInt + 1) ?_ (by omega) (by omega) k1
    rw [TOKq, if_neg (by omega), if_neg (by omega), if_neg (by omega), if_pos hb]
    exact ⟨n, ⟨by omega, g6, by rw [← g3]; exact h34⟩, by omega, by decide, g1⟩
  · refine pl_bad hL hl (fun s ks hs => k0 s ks ⟨by omega, ?_⟩ hs)
    rw [if_neg (by omega), if_neg (by omega), if_neg (by omega), if_pos hb]
    exact ⟨200, Nat.le_refl _, fun j hj => g6 j (by omega), (g6 200 (by omega)).1, Or.inr rfl⟩
  · rw [e34] at hv2
    have hu := cd_up (b := byt f N) rfl (by omega : 0 ≤ cdq (byt f N) 34 (p + w.toInt))
    refine pl_widthAt hf hN h16 e1 (fun v3 hv3 => ⟨n + 1, by rw [ad1 (by omega)]; omega, by omega, ?_, ?_, ?_, fun j hj => ?_⟩)
    · rw [sp_s, ← g3, ad (by have := wd_r (b := byt f N) (i := p + w.toInt); omega) (by have := wd_r (b := byt f N) (i := p + w.toInt); omega)]
      omega
    · have := wd_r (b := byt f N) (i := p + w.toInt)
      rw [ad (by omega) (by omega)]
      omega
    · have := wd_r (b := byt f N) (i := p + w.toInt)
      rw [ad (by omega) (by omega)]
      omega
    · by_cases q : j = n
      · rw [q, ← g3]
        exact ⟨by omega, by omega⟩
      · exact g6 j (by omega)
  · rw [e34] at hv2
    refine pl_bad hL hl (fun s ks hs => k0 s ks ⟨by omega, ?_⟩ hs)
    rw [if_neg (by omega), if_neg (by omega), if_neg (by omega), if_pos hb]
    exact ⟨n, by omega, g6, by rw [← g3]; omega, Or.inl (by rw [← g3]; omega)⟩
theorem pl_character {Q : Int32 → St → Prop} (hf : σ 1 = f) (hN : (σ 2 1).toInt = N) (h16 : N ≤ 16000) (hp : (σ 2 2).toInt = p) (hL : RWq σ L) (hl : L.length ≤ 16001) (hb : byt f N p = 39)
    (k1 : ∀ s k v e, KTq σ s → TOKq (byt f N) p k v e → e ≤ N → RWq s (L ++ [(k, v, p)]) → (s 2 2).toInt = e → Q 1 s) (k0 : ∀ s, KTq σ s → BADq (byt f N) p → FNq s L 1 → Q 0 s) : pk_X10_character σ Q := by
  have hin := byt_in (f := f) (N := N) (i := p) (by omega)
  have e39 : ((39 : Int32)).toInt = 39 := by decide
  have e1 : ((σ 2 2) + (1 : Int32)).toInt = p + 1 := by rw [ad0 i1 (by omega) (by omega), hp]
  unfold pk_X10_character
  refine pl_codeAt hf hN h16 e1 (by omega) (fun v hv => pl_widthAt hf hN h16 e1 (fun w hw => ?_))
  rw [e39] at hv
  have hr := wd_r (b := byt f N) (i := p + 1)
  have ew : ((1 : Int32) + w).toInt = 1 + w.toInt := ad (by rw [i1]; omega) (by rw [i1]; omega)
  have ew2 : (((1 : Int32) + w) + (1 : Int32)).toInt = 2 + w.toInt := by rw [ad0 i1 (by omega) (by omega), ew]; omega
  refine ⟨cdq (byt f N) 39 (p + 1) < 0 ∨ byt f N (p + 1 + wdq (byt f N) (p + 1)) ≠ 39, fun j => ?_, fun c => by omega, fun c => pl_byte hf hN h16 (i := p + 1 + wdq (byt f N) (p + 1)) (by rw [ad (by omega) (by omega), ew]; omega) (fun u hu => ⟨fun d => ?_, fun d => by omega⟩)⟩
  · refine pl_bad hL hl (fun s ks hs => k0 s ks ⟨by omega, ?_⟩ hs)
    rw [if_neg (by omega), if_neg (by omega), if_pos hb]
    exact j
  · have hin2 := byt_in (f := f) (N := N) (i := p + 1 + wdq (byt f N) (p + 1)) (by omega)
    refine pl_tadd hp (by omega) h16 hL hl (e := p + 2 + wdq (byt f N) (p + 1)) ?_ (by omega) (by omega) k1
    rw [TOKq, if_neg (by omega), if_neg (by omega), if_pos hb]
    exact ⟨by omega, by omega, rfl, by decide, hv⟩
/-- the second byte of a sign of two or three -/
theorem sg_snd : ∀ w, w < 43 → 2 ≤ lSg w → (chI (gC 3 (bSg w + 1))).toInt = 61 ∨ (chI (gC 3 (bSg w + 1))).toInt = 60 ∨ (chI (gC 3 (bSg w + 1))).toInt = 62 ∨ (chI (gC 3 (bSg w + 1))).toInt = 43 ∨ (chI (gC 3 (bSg w + 1))).toInt = 45 ∨ (chI (gC 3 (bSg w + 1))).toInt = 38 ∨ (chI (gC 3 (bSg w + 1))).toInt = 124 := by decide +kernel
theorem sg_pos : ∀ w, w < 43 → ∀ i, i < 3 → i < lSg w → 33 ≤ (chI (gC 3 (bSg w + i))).toInt ∧ (chI (gC 3 (bSg w + i))).toInt ≤ 126 := by decide +kernel
theorem pl_mayGoOn {Q : Int32 → Prop} (k : ∀ w : Int32, (w.toInt = 0 ∧ ¬ (x.toInt = 61 ∨ x.toInt = 60 ∨ x.toInt = 62 ∨ x.toInt = 43 ∨ x.toInt = 45 ∨ x.toInt = 38 ∨ x.toInt = 124)) ∨ w.toInt = 1 → Q w) : pk_X10_mayGoOn x σ Q := by
  unfold pk_X10_mayGoOn
  refine ⟨fun _ => k _ (Or.inr (by decide)), fun _ => ⟨fun _ => k _ (Or.inr (by decide)), fun _ => ⟨fun _ => k _ (Or.inr (by decide)), fun _ => ⟨fun _ => k _ (Or.inr (by decide)), fun _ => ⟨fun _ => k _ (Or.inr (by decide)), fun _ => ⟨fun _ => k _ (Or.inr (by decide)), fun _ => ⟨fun _ => k _ (Or.inl ⟨by decide, by omega⟩), fun _ => k _ (Or.inr (by decide))⟩⟩⟩⟩⟩⟩⟩
theorem pl_sign {Q : Int32 → St → Prop} (hf : σ 1 = f) (hN : (σ 2 1).toInt = N) (h16 : N ≤ 16000) (hp : (σ 2 2).toInt = p) (hL : RWq σ L) (hl : L.length ≤ 16001) (hb : 0 ≤ byt f N p) (n1 : ¬ LTq (byt f N p)) (n2 : ¬ DGq (byt f N p)) (n3 : byt f N p ≠ 39) (n4 : byt f N p ≠ 34)
    (k1 : ∀ s k v e, KTq σ s → TOKq (byt f N) p k v e → e ≤ N → RWq s (L ++ [(k, v, p)]) → (s 2 2).toInt = e → Q 1 s) (k0 : ∀ s, KTq σ s → BADq (byt f N) p → FNq s L 1 → Q 0 s) : pk_X10_sign σ Q := by
  have hin := byt_in hb
  have e20 : ((20 : Int32)).toInt = 20 := by decide
  unfold pk_X10_sign
  refine pl_byte hf hN h16 (i := p + 1) (by rw [ad0 i1 (by omega) (by omega), hp]) (fun v hv => pl_mayGoOn (fun g hg => ⟨fun y => y.toInt ≤ 3 ∧ ∀ w n, SMq (byt f N) p n w → n ≤ y.toInt, fun y hy => ⟨fun x => x.toInt ≤ 3 ∧ ∀ w n, SMq (byt f N) p n w → n ≤ x.toInt, hy, ?_⟩, fun c => ⟨by decide, fun w n hm => ?_⟩, fun c => ⟨by decide, fun w n hm => ?_⟩⟩))
  · rintro x ⟨h1, h2⟩
    refine ⟨fun c => pl_bad hL hl (fun s ks hs => k0 s ks ⟨hb, ?_⟩ hs), fun c => pl_listed1 hf hN h16 hp (by omega) (n := x) (fun r hr => ⟨fun d => ⟨?_, fun w n hm => ?_⟩, fun d => ?_⟩)⟩
    · rw [if_neg n1, if_neg n2, if_neg n3, if_neg n4]
      intro w n hm
      have := h2 w n hm
      have := sg_len w hm.1
      have := hm.2.1
      omega
    · rw [dc1 (by omega)]
      omega
    · rw [dc1 (by omega)]
      have q := h2 w n hm
      by_cases e : n = x.toInt
      · rcases hr with ⟨w', r1, r2⟩ | ⟨r1, r2⟩
        · omega
        · rw [e] at hm
          exact absurd hm (r1 w)
      · omega
    · rcases hr with ⟨w, r1, r2⟩ | ⟨r1, r2⟩
      · have hw := r1.1
        have hl2 := sg_len w hw
        have h3 := r1.2.1
        have hc := sg_pos w hw (lSg w - 1) (by omega) (by omega)
        have hm := r1.2.2 (lSg w - 1) (by omega)
        have hin2 := byt_in (f := f) (N := N) (i := p + ((lSg w - 1 : Nat) : Int)) (by omega)
        have ee : p + x.toInt - p = x.toInt := by omega
        refine pl_tadd hp (by omega) h16 hL hl (e := p + x.toInt) ?_ rfl (by omega) k1
        rw [TOKq, if_neg n1, if_neg n2, if_neg n3, if_neg n4, ee]
        exact ⟨w, r1, h2, by rw [ad (by omega) (by omega)]; omega, rfl⟩
      · omega
  · have hw := hm.1
    have hl2 := sg_len w hw
    have h3 := hm.2.1
    by_cases q : 2 ≤ lSg w
    · have hc := sg_snd w hw q
      have h4 := hm.2.2 1 (by omega)
      have e1 : p + ((1 : Nat) : Int) = p + 1 := rfl
      rw [e1, ← hv] at h4
      rcases hg with ⟨_, hg⟩ | hg
      · omega
      · omega
    · rw [i1]
      omega
  · have hl2 := sg_len w hm.1
    have h3 := hm.2.1
    rw [i3]
    omega
theorem pl_token {Q : Int32 → St → Prop} (hf : σ 1 = f) (hN : (σ 2 1).toInt = N) (h16 : N ≤ 16000) (hp : (σ 2 2).toInt = p) (hp0 : 0 ≤ p ∧ p ≤ N) (hL : RWq σ L) (hl : L.length ≤ 16001)
    (k1 : ∀ s k v e, KTq σ s → TOKq (byt f N) p k v e → 0 ≤ byt f N p → e ≤ N → RWq s (L ++ [(k, v, p)]) → (s 2 2).toInt = e → Q 1 s) (k0 : ∀ s, KTq σ s → BADq (byt f N) p → FNq s L 1 → Q 0 s) (ke : ∀ s, KTq σ s → byt f N p < 0 → FNq s L 0 → Q 0 s) : pk_X10_token σ Q := by
  unfold pk_X10_token
  refine pl_byte hf hN h16 hp (fun v hv => ⟨fun c => ?_, fun c => pl_add0 hL hl hp (fun s ks hs _ => ke s ks (by omega) (fn_rw hs))⟩)
  have k1' := fun s k v e ks ht he hr hq => k1 s k v e ks ht (by omega) he hr hq
  refine pl_isLetter (fun d => ⟨fun z => absurd z (by decide), fun _ => pl_word hf hN h16 hp hL hl (by omega) k1' k0⟩) (fun d => ⟨fun _ => ?_, fun z => absurd rfl z⟩)
  refine pl_isDigit (fun d2 => ⟨fun z => absurd z (by decide), fun _ => ?_⟩) (fun d2 => ⟨fun _ => ⟨fun d3 => ⟨fun d4 => pl_sign hf hN h16 hp hL hl (by omega) (by omega) (by omega) (by omega) (by omega) k1' k0, fun d4 => pl_string hf hN h16 hp hL hl (by omega) k1' k0⟩, fun d3 => pl_character hf hN h16 hp hL hl (by omega) k1' k0⟩, fun z => absurd rfl z⟩)
  refine ⟨¬ HSq (byt f N) p, fun j => pl_digits hf hN h16 hp hL hl (by omega) j k1' k0, fun e => by omega, fun e => pl_byte hf hN h16 (i := p + 1) (by rw [ad0 i1 (by omega) (by omega), hp]) (fun v2 hv2 => ⟨fun e2 => by omega, fun e2 => pl_byte hf hN h16 (i := p + 2) (by rw [ad0 i2 (by omega) (by omega), hp]) (fun v3 hv3 => pl_sixteenth (fun w hw => ⟨fun e3 => ?_, fun e3 => pl_sixteens hf hN h16 hp hL hl ⟨by omega, by omega, ?_⟩ k1' k0⟩))⟩)⟩
  · rintro ⟨_, _, h⟩
    rw [← hv3] at h
    have := hx_iff.mpr h
    omega
  · rw [← hv3]
    exact hx_iff.mp (by omega)
/-- scan(): the tokens are those of the text -/
theorem pl_scan {Q : St → Prop} (ha : a.toInt = N) (h0 : 0 ≤ N) (h16 : N ≤ 16000) (hf : σ 1 = f)
    (k : ∀ s L q c, Kp [(2, 1), (2, 2), (2, 3), (2, 4)] [13, 14, 15, 16] σ s → RCHq (byt f N) (0, []) (q, L) → FINq (byt f N) q c → FNq s L c → L.length ≤ 16000 → Q s) : pk_X10_scan a σ Q := by
  unfold pk_X10_scan
  generalize hu : upC (upC (upC (upC σ 2 1 a) 2 2 (0 : Int32)) 2 3 (1 : Int32)) 2 4 (0 : Int32) = u
  have ku : Kp [(2, 1), (2, 2), (2, 3), (2, 4)] [13, 14, 15, 16] σ u := by rw [← hu]; exact kp_f (kp_f (kp_f (kp_f kp_rf rfl) rfl) rfl) rfl
  have us : (u 2 1).toInt = N := by rw [← hu, rdA_ne (by decide), rdA_ne (by decide), rdA_ne (by decide), rdA_eq rfl]; exact ha
  have up : (u 2 2).toInt = 0 := by rw [← hu, rdA_ne (by decide), rdA_ne (by decide), rdA_eq rfl]; rfl
  have uc : (u 2 4).toInt = 0 := by rw [← hu, rdA_eq rfl]; rfl
  have uf : u 1 = f := by rw [← hf]; exact funext (fun j => ku 1 j rfl rfl)
  refine ⟨fun m c s => KTq u s ∧ ((m.toInt = 1 ∧ ∃ q L, RCHq (byt f N) (0, []) (q, L) ∧ RWq s L ∧ (s 2 2).toInt = q ∧ (L.length : Int) ≤ q ∧ q ≤ N ∧ c.toInt = L.length) ∨ (m.toInt = 0 ∧ ∃ q L d, RCHq (byt f N) (0, []) (q, L) ∧ FINq (byt f N) q d ∧ FNq s L d ∧ (L.length : Int) ≤ N)), ⟨kp_rf, Or.inl ⟨rfl, 0, [], rch_0, ⟨uc, fun j k v q e => by cases e⟩, up, Int.le_refl _, h0, by decide⟩⟩, ?_⟩
  rintro m c s hm ⟨ks, h⟩
  have fin : (m.toInt = 0 ∧ ∃ q L d, RCHq (byt f N) (0, []) (q, L) ∧ FINq (byt f N) q d ∧ FNq s L d ∧ (L.length : Int) ≤ N) → Q s := fun ⟨_, q, L, d, h1, h2, h3, h4⟩ => k s L q d (kp_tr ku (kp_sub ks rfl rfl)) h1 h2 h3 (by omega)
  rcases h with ⟨h1, q, L, g1, g2, g3, g4, g5, g6⟩ | h
  · have sf : s 1 = f := by rw [← uf]; exact funext (fun j => ks 1 j rfl rfl)
    have sN : (s 2 1).toInt = N := by rw [show s 2 1 = u 2 1 from ks 2 1 rfl rfl]; exact us
    have ucc : (c + 1).toInt = c.toInt + 1 := ad1 (by omega)
    clear fin
    refine ⟨fun c1 => by omega, fun c1 => ⟨fun z => by omega, fun _ => pl_blanks sf sN h16 g3 (by omega) g2 (by omega) (fun s1 q1 k1 h1 h2 h3 h4 => ?_) (fun s1 q1 k1 h3 h4 h5 => ?_)⟩⟩
    · have gg := h3 (fun y => RCHq (byt f N) (0, []) y) g1 (fun y z h g => rch_s h g)
      have s1f : s1 1 = f := by rw [← sf]; exact funext (fun j => k1 1 j rfl rfl)
      have s1N : (s1 2 1).toInt = N := by rw [show s1 2 1 = s 2 1 from k1 2 1 rfl rfl]; exact sN
      have kk : ∀ r, KTq s1 r → KTq u r := fun r kr => kp_tr ks (kp_tr (kp_sub k1 rfl rfl) kr)
      refine ⟨fun y r => KTq u r ∧ ((y.toInt = 1 ∧ ∃ q L, RCHq (byt f N) (0, []) (q, L) ∧ RWq r L ∧ (r 2 2).toInt = q ∧ (L.length : Int) ≤ q ∧ q ≤ N ∧ (c + 1).toInt = L.length) ∨ (y.toInt = 0 ∧ ∃ q L d, RCHq (byt f N) (0, []) (q, L) ∧ FINq (byt f N) q d ∧ FNq r L d ∧ (L.length : Int) ≤ N)), fun y r _ hr => hr, fun r => KTq u r ∧ ∃ q L d, RCHq (byt f N) (0, []) (q, L) ∧ FINq (byt f N) q d ∧ FNq r L d ∧ (L.length : Int) ≤ N, fun r hr => ⟨hr.1, Or.inr ⟨rfl, hr.2⟩⟩, fun z => absurd z (by decide), fun _ => pl_token s1f s1N h16 h1 (by omega) (rw_kb g2 k1) (by omega) (fun r k v e kr ht hb he hw hq => ⟨fun z => absurd z (by decide), fun _ => ⟨kk r kr, Or.inl ⟨rfl, e, _, rch_s gg (Or.inr ⟨⟨hb, h4⟩, k, v, e, ht, rfl⟩), hw, hq, ?_, he, ?_⟩⟩⟩) (fun r kr hb hr => ⟨fun _ => ⟨kk r kr, q1, L, 1, gg, Or.inr ⟨Or.inr ⟨h4, hb⟩, rfl⟩, hr, by omega⟩, fun z => absurd rfl z⟩) (fun r kr hb hr => ⟨fun _ => ⟨kk r kr, q1, L, 0, gg, Or.inl ⟨hb, rfl⟩, hr, by omega⟩, fun z => absurd rfl z⟩)⟩
      · have := tok_up ht
        rw [List.length_append]
        show ((L.length + 1 : Nat) : Int) ≤ e
        omega
      · rw [List.length_append]
        show (c + 1).toInt = ((L.length + 1 : Nat) : Int)
        omega
    · have gg := h3 (fun y => RCHq (byt f N) (0, []) y) g1 (fun y z h g => rch_s h g)
      exact ⟨fun y r => KTq u r ∧ ((y.toInt = 1 ∧ ∃ q L, RCHq (byt f N) (0, []) (q, L) ∧ RWq r L ∧ (r 2 2).toInt = q ∧ (L.length : Int) ≤ q ∧ q ≤ N ∧ (c + 1).toInt = L.length) ∨ (y.toInt = 0 ∧ ∃ q L d, RCHq (byt f N) (0, []) (q, L) ∧ FINq (byt f N) q d ∧ FNq r L d ∧ (L.length : Int) ≤ N)), fun y r _ hr => hr, fun r => KTq u r ∧ ∃ q L d, RCHq (byt f N) (0, []) (q, L) ∧ FINq (byt f N) q d ∧ FNq r L d ∧ (L.length : Int) ≤ N, fun r hr => ⟨hr.1, Or.inr ⟨rfl, hr.2⟩⟩, fun _ => ⟨kp_tr ks k1, q1, L, 1, gg, Or.inr ⟨Or.inl h4, rfl⟩, h5, by omega⟩, fun z => absurd rfl z⟩
  · exact ⟨fun _ => fin h, fun _ => ⟨fun _ => fin h, fun z => absurd h.1 z⟩⟩
end TD
