/-! the kinds of tokens, scan() -/
section SCN2
variable {σ s z t ρ : St} {n m i j : Nat} {x y v a a1 a2 a3 : Int32}
theorem tr_cnt (tr : TRa σ n) : (n : Int) ≤ (σ 2 2).toInt := by
  obtain ⟨t1, t2, t3, t4, t5, t6, t7⟩ := tr
  have h : ∀ j, j < n → (j : Int) ≤ ((σ 15) j).toInt := by
    intro j
    induction j with
    | zero => intro h; have := (t6 0 h).1.1; omega
    | succ j ih =>
      intro h
      have h1 := ih (by omega)
      have h2 := (t7 j (by omega) _ (by rw [if_pos h])).1
      omega
  by_cases c : n = 0
  · omega
  · have h1 := h (n - 1) (by omega)
    have h2 := (t7 (n - 1) (by omega) (σ 2 2).toInt (by rw [if_neg (by omega)])).1
    omega
theorem sp_word {Q : Int32 → St → Prop} (tr : TRa σ n) (hn : n ≤ 16000) (hb : 0 ≤ (bvt σ (σ 2 2)).toInt) (k0 : ∀ s, KTk σ s → TEn s → Q 0 s) (k1 : ∀ s, KTk σ s → TRa s (n + 1) → Q 1 s) : wk_X10_word σ Q := by
  have t1 := tr.1
  have t2 := tr.2.1
  have p0 := (bvt_pos hb).2
  have m1 : ((-1 : Int32)).toInt < 0 := by decide
  unfold wk_X10_word
  refine sp_byteV ⟨fun q w b => q = (16010 - w.toInt).toNat ∧ (1 ≤ w.toInt ∧ (σ 2 2).toInt + w.toInt ≤ (σ 2 1).toInt) ∧ (0 ≤ b.toInt → (σ 2 2).toInt + w.toInt < (σ 2 1).toInt), ⟨_, rfl, ⟨by decide, by rw [i1]; omega⟩, fun h => ?_⟩, ?_⟩
  · have h2 := (bvt_pos h).2
    rwa [ad (by rw [i1]; omega) (by rw [i1]; omega)] at h2
  rintro q w b ⟨hq, hw, hb2⟩
  have up : (w + 1).toInt = w.toInt + 1 := ad1 (by omega)
  refine ⟨True, fun _ => ⟨fun c => sp_listed0 ⟨by omega, by omega⟩ (fun v hv => ⟨fun y => y.toInt = 2 ∨ (5 ≤ y.toInt ∧ y.toInt ≤ 16), fun y hy => sp_tadd tr hn (by omega) hw (fun _ => by omega) (fun e => by omega) k1, fun c => Or.inr ?_, fun _ => Or.inl rfl⟩), fun _ => sp_tbad tr hn (by omega) k0⟩, fun _ => trivial, fun c => sk_isLetter ?_ ?_⟩
  · have h1 := hv c
    have e : ((5 : Int32) + v).toInt = 5 + v.toInt := ad (by rw [show ((5 : Int32)).toInt = 5 from rfl]; omega) (by rw [show ((5 : Int32)).toInt = 5 from rfl]; omega)
    omega
  · refine ⟨(σ 2 2).toInt + w.toInt < (σ 2 1).toInt, fun h => sp_byteV ⟨_, by rw [up]; omega, rfl, by rw [up]; omega, fun h3 => ?_⟩, fun z => absurd rfl z, fun _ => sk_isDigit (fun _ => ⟨fun _ => trivial, fun z => absurd rfl z⟩) (fun c4 => ⟨fun _ => trivial, fun _ => hb2 (by omega)⟩)⟩
    have h2 := (bvt_pos h3).2
    have e1 : ((σ 2 2) + w).toInt = (σ 2 2).toInt + w.toInt := ad (by omega) (by omega)
    rw [ad0 i1 (by rw [e1]; omega) (by rw [e1]; omega), e1] at h2
    rw [up]
    omega
  · intro c4
    refine ⟨(σ 2 2).toInt + w.toInt < (σ 2 1).toInt, fun h => sp_byteV ⟨_, by rw [up]; omega, rfl, by rw [up]; omega, fun h3 => ?_⟩, fun _ => hb2 c4, fun z => absurd z (by decide)⟩
    have h2 := (bvt_pos h3).2
    have e1 : ((σ 2 2) + w).toInt = (σ 2 2).toInt + w.toInt := ad (by omega) (by omega)
    rw [ad0 i1 (by rw [e1]; omega) (by rw [e1]; omega), e1] at h2
    rw [up]
    omega
theorem sp_digits {Q : Int32 → St → Prop} (tr : TRa σ n) (hn : n ≤ 16000) (hb : 48 ≤ (bvt σ (σ 2 2)).toInt ∧ (bvt σ (σ 2 2)).toInt ≤ 57) (k0 : ∀ s, KTk σ s → TEn s → Q 0 s) (k1 : ∀ s, KTk σ s → TRa s (n + 1) → Q 1 s) : wk_X10_digits σ Q := by
  have t1 := tr.1
  have t2 := tr.2.1
  unfold wk_X10_digits
  refine sp_byteV ⟨fun q _ w b => q = (16010 - w.toInt).toNat ∧ (0 ≤ w.toInt ∧ (σ 2 2).toInt + w.toInt ≤ (σ 2 1).toInt) ∧ (0 ≤ b.toInt → (σ 2 2).toInt + w.toInt < (σ 2 1).toInt) ∧ (w.toInt < 1 → 48 ≤ b.toInt ∧ b.toInt ≤ 57), ⟨_, rfl, ⟨by decide, by rw [i0]; omega⟩, fun h => ?_, fun _ => hb⟩, ?_⟩
  · have h2 := (bvt_pos h).2
    rw [i0]
    omega
  rintro q g w b ⟨hq, hw, hb2, hb3⟩
  have up : (w + 1).toInt = w.toInt + 1 := ad1 (by omega)
  refine ⟨1 ≤ w.toInt, fun h1 => ⟨fun _ => sp_tadd tr hn ⟨by decide, by decide⟩ ⟨h1, hw.2⟩ (fun e => absurd e (by decide)) (fun e => absurd e (by decide)) k1, fun _ => sp_tbad tr hn (by omega) k0⟩, fun c => by omega, fun c => sk_isDigit (fun nd => ⟨fun _ => ?_, fun z => absurd rfl z⟩) (fun c4 => ⟨fun z => absurd z (by decide), fun _ => sp_byteV ⟨_, by rw [up]; omega, rfl, ?_, fun h3 => ?_, fun z => by rw [up] at z; omega⟩⟩)⟩
  · by_cases c1 : 1 ≤ w.toInt
    · exact c1
    · exact absurd (hb3 (by omega)) nd
  · have := hb2 (by omega)
    rw [up]
    omega
  · have h2 := (bvt_pos h3).2
    have e1 : ((σ 2 2) + w).toInt = (σ 2 2).toInt + w.toInt := ad (by omega) (by omega)
    rw [ad0 i1 (by rw [e1]; omega) (by rw [e1]; omega), e1] at h2
    rw [up]
    omega
theorem sp_sixteens {Q : Int32 → St → Prop} (tr : TRa σ n) (hn : n ≤ 16000) (hb : (σ 2 2).toInt + 2 ≤ (σ 2 1).toInt) (k0 : ∀ s, KTk σ s → TEn s → Q 0 s) (k1 : ∀ s, KTk σ s → TRa s (n + 1) → Q 1 s) : wk_X10_sixteens σ Q := by
  have t1 := tr.1
  have t2 := tr.2.1
  unfold wk_X10_sixteens
  refine sp_byteV (sp_sixteenth (fun v0 h0 => ⟨fun q _ w b => q = (16010 - w.toInt).toNat ∧ (2 ≤ w.toInt ∧ (σ 2 2).toInt + w.toInt ≤ (σ 2 1).toInt) ∧ (0 ≤ b.toInt → (σ 2 2).toInt + w.toInt < (σ 2 1).toInt), ⟨_, rfl, ⟨by decide, by rw [i2]; omega⟩, fun h => ?_⟩, ?_⟩))
  · have h2 := (bvt_pos (h0 h)).2
    rw [ad0 i2 (by omega) (by omega)] at h2
    rw [i2]
    omega
  rintro q g w b ⟨hq, hw, hb2⟩
  have up : (w + 1).toInt = w.toInt + 1 := ad1 (by omega)
  refine ⟨True, fun _ => ⟨fun _ => sp_tadd tr hn ⟨by decide, by decide⟩ ⟨by omega, hw.2⟩ (fun e => absurd e (by decide)) (fun e => absurd e (by decide)) k1, fun _ => sp_tbad tr hn (by omega) k0⟩, fun _ => trivial, fun c => ⟨fun _ => trivial, fun c4 => sp_byteV (sp_sixteenth (fun v1 h1 => ⟨_, by rw [up]; omega, rfl, ?_, fun h3 => ?_⟩))⟩⟩
  · have := hb2 c4
    rw [up]
    omega
  · have h2 := (bvt_pos (h1 h3)).2
    have e1 : ((σ 2 2) + w).toInt = (σ 2 2).toInt + w.toInt := ad (by omega) (by omega)
    rw [ad0 i1 (by rw [e1]; omega) (by rw [e1]; omega), e1] at h2
    rw [up]
    omega
theorem sp_string {Q : Int32 → St → Prop} (tr : TRa σ n) (hn : n ≤ 16000) (k0 : ∀ s, KTk σ s → TEn s → Q 0 s) (k1 : ∀ s, KTk σ s → TRa s (n + 1) → Q 1 s) : wk_X10_string σ Q := by
  have t1 := tr.1
  have t2 := tr.2.1
  unfold wk_X10_string
  refine ⟨fun q w c => q = (1000 - c.toInt).toNat ∧ (0 ≤ c.toInt ∧ c.toInt ≤ 201) ∧ (c.toInt + 1 ≤ w.toInt ∧ w.toInt ≤ 1 + 2 * c.toInt), ⟨_, rfl, by decide, by decide⟩, ?_⟩
  rintro q w c ⟨hq, hc, hw⟩
  have up : (w + 1).toInt = w.toInt + 1 := ad1 (by omega)
  have e1 : ((σ 2 2) + w).toInt = (σ 2 2).toInt + w.toInt := ad (by omega) (by omega)
  refine ⟨c.toInt ≤ 200 → (σ 2 2).toInt + w.toInt < (σ 2 1).toInt, fun h => ⟨fun c1 => sp_tadd tr hn ⟨by decide, by decide⟩ ?_ (fun e => absurd e (by decide)) (fun _ => ?_) k1, fun _ => sp_tbad tr hn (by omega) k0⟩, fun c1 c2 => by omega, fun c1 => sp_byteV ⟨fun e _ => ?_, fun _ => sp_codeAt (fun v3 => ⟨fun _ => ?_, fun _ => sp_tbad tr hn (by omega) k0⟩)⟩⟩
  · have := h c1
    rw [up]
    omega
  · rw [up]
    omega
  · have h2 := (bvt_pos (σ := σ) (x := (σ 2 2) + w) (by rw [e]; decide)).2
    omega
  · have uc : (c + 1).toInt = c.toInt + 1 := ad1 (by omega)
    have u2 : (w + (2 : Int32)).toInt = w.toInt + 2 := ad0 i2 (by omega) (by omega)
    exact sp_widthAt ⟨_, by rw [uc]; omega, rfl, by rw [uc]; omega, by rw [uc, up]; omega⟩ ⟨_, by rw [uc]; omega, rfl, by rw [uc]; omega, by rw [uc, u2]; omega⟩
theorem sp_character {Q : Int32 → St → Prop} (tr : TRa σ n) (hn : n ≤ 16000) (k0 : ∀ s, KTk σ s → TEn s → Q 0 s) (k1 : ∀ s, KTk σ s → TRa s (n + 1) → Q 1 s) : wk_X10_character σ Q := by
  have t1 := tr.1
  have t2 := tr.2.1
  have main : ∀ v21 v9 : Int32, v21.toInt = 1 ∨ v21.toInt = 2 → (∃ J45 : Prop, (J45 → wk_X10_bad (σ 2 2) σ (fun v50 s50 => Q v50 s50)) ∧ (v9.toInt < 0 → J45) ∧ (0 ≤ v9.toInt → wk_X10_byteAt ((σ 2 2) + ((1 : Int32) + v21)) σ (fun v37 => (v37.toInt = 39 → wk_X10_add (3 : Int32) v9 (((1 : Int32) + v21) + (1 : Int32)) σ (fun v62 s62 => Q v62 s62)) ∧ (v37.toInt ≠ 39 → J45)))) := by
    intro v21 v9 h
    refine ⟨True, fun _ => sp_tbad tr hn (by omega) k0, fun _ => trivial, fun _ => sp_byteV ⟨fun e => ?_, fun _ => trivial⟩⟩
    have e1 : ((1 : Int32) + v21).toInt = 1 + v21.toInt := ad (by rw [i1]; omega) (by rw [i1]; omega)
    have e2 : (((1 : Int32) + v21) + (1 : Int32)).toInt = 2 + v21.toInt := by rw [ad0 i1 (by omega) (by omega), e1]; omega
    have h2 := (bvt_pos (σ := σ) (x := (σ 2 2) + ((1 : Int32) + v21)) (by rw [e]; decide)).2
    rw [ad (by omega) (by omega), e1] at h2
    exact sp_tadd tr hn ⟨by decide, by decide⟩ (by rw [e2]; omega) (fun e => absurd e (by decide)) (fun e => absurd e (by decide)) k1
  unfold wk_X10_character
  exact sp_codeAt (fun v9 => sp_widthAt (main 1 v9 (Or.inl rfl)) (main 2 v9 (Or.inr rfl)))
theorem sp_mayGoOn {Q : Int32 → Prop} (k : ∀ w, Q w) : wk_X10_mayGoOn x σ Q := by
  unfold wk_X10_mayGoOn
  exact ⟨fun _ => k _, fun _ => ⟨fun _ => k _, fun _ => ⟨fun _ => k _, fun _ => ⟨fun _ => k _, fun _ => ⟨fun _ => k _, fun _ => ⟨fun _ => k _, fun _ => ⟨fun _ => k _, fun _ => k _⟩⟩⟩⟩⟩⟩⟩
theorem sg_dn (w : Int32) (h : 0 < w.toInt) : (w + (-1)).toInt = w.toInt - 1 := dc1 (by omega)
theorem sk_sign {Q : Int32 → St → Prop} (tr : TRa σ n) (hn : n ≤ 16000) (k0 : ∀ s, KTk σ s → TEn s → Q 0 s) (k1 : ∀ s, KTk σ s → TRa s (n + 1) → Q 1 s) : wk_X10_sign σ Q := by
  have t1 := tr.1
  have t2 := tr.2.1
  have tp : 0 ≤ (σ 2 2).toInt ∧ (σ 2 2).toInt ≤ (σ 2 1).toInt ∧ (σ 2 1).toInt ≤ 16000 := ⟨t2.1, t2.2, t1.2⟩
  unfold wk_X10_sign
  refine sp_byteV (sp_mayGoOn (fun v10 => ⟨fun y => y.toInt = 1 ∨ y.toInt = 3, fun y hy => ⟨fun q w => q = w.toNatClampNeg ∧ w.toInt ≤ 3, ⟨_, rfl, by omega⟩, ?_⟩, fun _ => Or.inl rfl, fun _ => Or.inr rfl⟩))
  rintro q w ⟨hq, hw⟩
  refine ⟨fun _ => sp_tbad tr hn (by omega) k0, fun c => sp_listed1 tp (by omega) (fun v hv => ⟨fun _ => ?_, fun c1 => ?_⟩)⟩
  · have e := sg_dn w c
    refine ⟨_, ?_, rfl, ?_⟩
    · rw [hq, nt', nt', e]
      clear e
      omega
    · rw [e]
      clear e
      omega
  · have h1 := hv c1
    have e : ((20 : Int32) + v).toInt = 20 + v.toInt := ad (by rw [show ((20 : Int32)).toInt = 20 from rfl]; omega) (by rw [show ((20 : Int32)).toInt = 20 from rfl]; omega)
    exact sp_tadd tr hn (by omega) (by omega) (fun e2 => by omega) (fun e2 => by omega) k1
theorem sk_token {Q : Int32 → St → Prop} (tr : TRa σ n) (hn : n ≤ 16000) (k0 : ∀ s, KTk σ s → TEn s → Q 0 s) (k1 : ∀ s, KTk σ s → TRa s (n + 1) → Q 1 s) : wk_X10_token σ Q := by
  have t1 := tr.1
  have t2 := tr.2.1
  unfold wk_X10_token
  refine sp_byteV ⟨fun c => sk_isLetter ⟨fun _ => sk_isDigit (fun _ => ⟨fun _ => ⟨fun _ => ⟨fun _ => sk_sign tr hn k0 k1, fun _ => sp_string tr hn k0 k1⟩, fun _ => sp_character tr hn k0 k1⟩, fun z => absurd rfl z⟩) (fun c4 => ⟨fun z => absurd z (by decide), fun _ => ?_⟩), fun z => absurd rfl z⟩ (fun _ => ⟨fun z => absurd z (by decide), fun _ => sp_word tr hn c k0 k1⟩), fun _ => sp_tend tr hn (Or.inl rfl) k0⟩
  have m1 : ∀ v73 : Int32, (0 ≤ v73.toInt → (σ 2 2).toInt + 2 ≤ (σ 2 1).toInt) → (v73.toInt < 0 → True) ∧ (0 ≤ v73.toInt → wk_X10_sixteens σ (fun v80 s80 => Q v80 s80)) := fun v73 h => ⟨fun _ => trivial, fun c5 => sp_sixteens tr hn (h c5) k0 k1⟩
  refine ⟨True, fun _ => sp_digits tr hn c4 k0 k1, fun _ => trivial, fun _ => sp_byteV ⟨fun _ => trivial, fun e => sp_byteV (sp_sixteenth (fun v73 _ => m1 v73 (fun _ => ?_)))⟩⟩
  have h2 := (bvt_pos (σ := σ) (x := (σ 2 2) + (1 : Int32)) (by rw [e]; decide)).2
  rw [ad0 i1 (by omega) (by omega)] at h2
  omega
theorem sp_scan {Q : St → Prop} (ha : 0 ≤ a.toInt ∧ a.toInt ≤ 16000) (hp : PLA σ) (hm : NMr σ) (k : ∀ s, Kp [(2, 1), (2, 2), (2, 3), (2, 4)] [13, 14, 15, 16] σ s → (s 2 1).toInt = a.toInt → TEn s → Q s) : wk_X10_scan a σ Q := by
  unfold wk_X10_scan
  generalize hu : upC (upC (upC (upC σ 2 1 a) 2 2 (0 : Int32)) 2 3 (1 : Int32)) 2 4 (0 : Int32) = u
  have ku : Kp [(2, 1), (2, 2), (2, 3), (2, 4)] [13, 14, 15, 16] σ u := by rw [← hu]; exact kp_f (kp_f (kp_f (kp_f kp_rf rfl) rfl) rfl) rfl
  have us : (u 2 1).toInt = a.toInt := by rw [← hu, rdA_ne (by decide), rdA_ne (by decide), rdA_ne (by decide), rdA_eq rfl]
  have up : (u 2 2).toInt = 0 := by rw [← hu, rdA_ne (by decide), rdA_ne (by decide), rdA_eq rfl]; rfl
  have uc : (u 2 4).toInt = 0 := by rw [← hu, rdA_eq rfl]; rfl
  have e13 : u 13 = σ 13 := by rw [← hu]; rfl
  have e14 : u 14 = σ 14 := by rw [← hu]; rfl
  have e15 : u 15 = σ 15 := by rw [← hu]; rfl
  have tr0 : TRa u 0 := by
    refine ⟨by rw [us]; exact ha, by rw [us, up]; omega, by unfold PLA; rw [e15]; exact hp, by unfold NMr; rw [e13, e14, e15]; exact hm, by rw [uc]; rfl, fun j hj => absurd hj (by omega), fun j hj => absurd hj (by omega)⟩
  clear e13 e14 e15 uc up hu hp hm
  refine ⟨fun q m c s => q = (16010 - c.toInt).toNat ∧ KTk u s ∧ (0 ≤ c.toInt ∧ c.toInt ≤ 16001) ∧ ((m.toInt = 1 ∧ ∃ n, TRa s n ∧ c.toInt = n) ∨ (m.toInt = 0 ∧ TEn s)), ⟨_, rfl, kp_rf, by decide, Or.inl ⟨rfl, 0, tr0, rfl⟩⟩, ?_⟩
  rintro q m c s - ⟨hq, ks, hc, h⟩
  have es : (s 2 1).toInt = a.toInt := by rw [show s 2 1 = u 2 1 from ks 2 1 rfl rfl]; exact us
  have fin : ∀ r, KTk u r → TEn r → Q r := fun r kr te => k r (kp_tr ku (kp_sub kr rfl rfl)) (by rw [show r 2 1 = u 2 1 from kr 2 1 rfl rfl]; exact us) te
  rcases h with ⟨hm, n, tr, hn⟩ | ⟨hm, te⟩
  · have cn := tr_cnt tr
    have t2 := tr.2.1
    refine ⟨fun c1 => by omega, fun c1 => ⟨fun z => by omega, fun _ => ?_⟩⟩
    have upc : (c + 1).toInt = c.toInt + 1 := ad1 (by omega)
    have go0 : ∀ r, KTk u r → TEn r → ∃ p, p < q ∧ (p = (16010 - (c + 1).toInt).toNat ∧ KTk u r ∧ (0 ≤ (c + 1).toInt ∧ (c + 1).toInt ≤ 16001) ∧ (((0 : Int32).toInt = 1 ∧ ∃ n, TRa r n ∧ (c + 1).toInt = n) ∨ ((0 : Int32).toInt = 0 ∧ TEn r))) := fun r kr te => ⟨_, by rw [upc]; omega, rfl, kr, by rw [upc]; omega, Or.inr ⟨rfl, te⟩⟩
    have go1 : ∀ r, KTk u r → TRa r (n + 1) → ∃ p, p < q ∧ (p = (16010 - (c + 1).toInt).toNat ∧ KTk u r ∧ (0 ≤ (c + 1).toInt ∧ (c + 1).toInt ≤ 16001) ∧ (((1 : Int32).toInt = 1 ∧ ∃ n, TRa r n ∧ (c + 1).toInt = n) ∨ ((1 : Int32).toInt = 0 ∧ TEn r))) := fun r kr te => ⟨_, by rw [upc]; omega, rfl, kr, by rw [upc]; omega, Or.inl ⟨rfl, n + 1, te, by rw [upc]; omega⟩⟩
    have hn' : n ≤ 16000 := by omega
    clear fin
    refine sp_skipBlanks tr hn' (fun r kr te => ?_) (fun r kr tr2 => ?_)
    · exact ⟨fun y0 s5 => y0 = 0 ∧ KTk u s5 ∧ TEn s5, fun y0 s5 _ hy => by rw [hy.1]; exact go0 s5 hy.2.1 hy.2.2, fun s4 => KTk u s4 ∧ TEn s4, fun s4 h4 => ⟨rfl, h4⟩, fun _ => ⟨kp_tr ks kr, te⟩, fun z => absurd rfl z⟩
    · refine ⟨fun y0 s5 => (y0 = 0 ∧ KTk u s5 ∧ TEn s5) ∨ (y0 = 1 ∧ KTk u s5 ∧ TRa s5 (n + 1)), fun y0 s5 _ hy => ?_, fun s4 => KTk u s4 ∧ TEn s4, fun s4 h4 => Or.inl ⟨rfl, h4⟩, fun z => absurd z (by decide), fun _ => sk_token tr2 hn' (fun v kv te => ⟨fun _ => ⟨kp_tr ks (kp_tr kr kv), te⟩, fun z => absurd rfl z⟩) (fun v kv t3 => ⟨fun z => absurd z (by decide), fun _ => Or.inr ⟨rfl, kp_tr ks (kp_tr kr kv), t3⟩⟩)⟩
      rcases hy with hy | hy
      · rw [hy.1]
        exact go0 s5 hy.2.1 hy.2.2
      · rw [hy.1]
        exact go1 s5 hy.2.1 hy.2.2
  · exact ⟨fun _ => fin s ks te, fun _ => ⟨fun _ => fin s ks te, fun z => absurd hm z⟩⟩
end SCN2
