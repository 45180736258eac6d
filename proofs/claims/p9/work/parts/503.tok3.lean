/-! the tokenizer: words, numbers, strings, signs, the whole cut -/
theorem SN_le {j : Nat} (h : j < 3) : 2 ≤ SN j ∧ SN j ≤ 200 := by
  rcases j with _ | _ | _ | j
  · decide
  · decide
  · decide
  · omega
theorem sf_last {j : Nat} (h : j < 3) : (chI (SF j (SN j - 1))).toInt = 32 := by
  rcases j with _ | _ | _ | j
  · decide +kernel
  · decide +kernel
  · decide +kernel
  · omega
section TOK3
variable {σ τ : St} {vs : List Nat} {k : Int32}
theorem sp_among {f t : Int32} {j : Nat} {Q : Int32 → Prop} (hj : j < 3) (h0 : 0 ≤ f.toInt) (h1 : f.toInt ≤ t.toInt) (h2 : t.toInt ≤ 16000) (h : ∀ r : Int32, -1 ≤ r.toInt → r.toInt ≤ 200 → Q r) : wp_among f t j σ τ vs Q := by
  obtain ⟨g1, g2⟩ := SN_le hj
  have eN : (nI (SN j)).toInt = SN j := nI_toInt (SN_lt hj)
  have e1 : (t - f).toInt = t.toInt - f.toInt := sb (by omega) (by omega)
  have e01 : ((1 : Int32)).toInt = 1 := by decide
  have e00 : ((0 : Int32)).toInt = 0 := by decide
  unfold wp_among
  refine ⟨fun n x4 x5 => (n : Int) = SN j - x5.toInt ∧ 0 ≤ x4.toInt ∧ x4.toInt ≤ x5.toInt ∧ 1 ≤ x5.toInt ∧ x5.toInt ≤ SN j, ⟨SN j - 1, by omega, by omega, by omega, by omega, by omega⟩, fun n x4 x5 ⟨q1, q2, q3, q4, q5⟩ => ⟨fun _ => h _ (by decide) (by decide), fun c => ?_⟩⟩
  rw [eN] at c
  refine ⟨fun m e => (m : Int) = SN j - e.toInt ∧ x5.toInt ≤ e.toInt ∧ e.toInt < SN j, ⟨(SN j - x5.toInt).toNat, by omega, Int.le_refl _, c⟩, fun m e ⟨p1, p2, p3⟩ => ⟨⟨by omega, p3⟩, fun c32 => ?_, fun c32 => ⟨m - 1, by omega, ?_⟩⟩⟩
  · have e2 : (e - x5).toInt = e.toInt - x5.toInt := sb (by omega) (by omega)
    refine ⟨fun y => y.toInt ≠ 0 → (e - x5).toInt = (t - f).toInt, fun y0 hz hy => ?_, fun _ q => absurd rfl q, fun q _ => q⟩
    refine ⟨fun n7 x7 x8 => (n7 : Int) = ((t.toInt - f.toInt) - x8.toInt).toNat ∧ 0 ≤ x8.toInt ∧ (x7.toInt ≠ 0 → (e - x5).toInt = (t - f).toInt), ⟨_, rfl, by decide, hy⟩, fun n7 x7 x8 hz7 ⟨r1, r2, r3⟩ => ?_⟩
    refine ⟨_, id, ?_⟩
    have hex : (x7.toInt = 0 → ∃ m_1, m_1 < n ∧ ((m_1 : Int) = SN j - (e + (1 : Int32)).toInt ∧ 0 ≤ (x4 + 1).toInt ∧ (x4 + 1).toInt ≤ (e + (1 : Int32)).toInt ∧ 1 ≤ (e + (1 : Int32)).toInt ∧ (e + (1 : Int32)).toInt ≤ SN j)) ∧ (x7.toInt ≠ 0 → Q x4) := by
      have e3 := ad1 (x := e) (by omega)
      have e4 := ad1 (x := x4) (by omega)
      exact ⟨fun _ => ⟨(SN j - e.toInt - 1).toNat, by omega, by omega, by omega, by omega, by omega, by omega⟩, fun _ => h _ (by omega) (by omega)⟩
    refine ⟨fun _ => hex, fun c7 => ⟨fun _ => hex, fun c8 => ?_⟩⟩
    clear hex
    have r4 := r3 c7
    have e5 : (f + x8).toInt = f.toInt + x8.toInt := ad (by omega) (by omega)
    have e6 : (x5 + x8).toInt = x5.toInt + x8.toInt := ad (by omega) (by omega)
    have e7 := ad1 (x := x8) (by omega)
    refine ⟨⟨by omega, by omega⟩, ⟨by omega, by omega⟩, fun y => y.toInt ≠ 0 → (e - x5).toInt = (t - f).toInt, fun y0 _ hy => ⟨((t.toInt - f.toInt) - x8.toInt - 1).toNat, by omega, by omega, by omega, hy⟩, fun _ q => absurd rfl q, fun _ _ => r4⟩
  · have e3 := ad1 (x := e) (by omega)
    have hne : e.toInt ≠ SN j - 1 := fun q => by
      have e9 : e.toNatClampNeg = SN j - 1 := by rw [nt', q]; omega
      rw [e9] at c32
      exact c32 (sf_last hj)
    omega
theorem sp_sixteen {c : Int32} {Q : Int32 → Prop} (h : ∀ r : Int32, (0 ≤ r.toInt → 48 ≤ c.toInt) → Q r) : wp_sixteen c σ τ vs Q := by
  unfold wp_sixteen
  refine sp_isDigit ⟨fun _ => ⟨True, fun _ => ⟨fun _ => h _ (fun q => absurd q (by decide)), fun _ => ⟨fun _ => h _ (fun q => absurd q (by decide)), fun _ => h _ (fun _ => by omega)⟩⟩, fun _ => trivial, fun _ => ⟨fun _ => trivial, fun _ => h _ (fun _ => by omega)⟩⟩, fun c1 => h _ (fun _ => (bI_ne c1).1)⟩
theorem sp_nameEnd {l : Int32} {Q : Int32 → St → St → List Nat → Prop} (hT : TI σ k.toInt) (h0 : 0 ≤ k.toInt) (hc : isLP (lookV σ k)) (hg : ∀ (r : Int32) s, GD σ s k.toInt r.toInt → Q r s τ vs) (hb : ∀ r s, BD σ s → Q r s τ vs) : wp_nameEnd k l σ τ vs Q := by
  have hs : (σ 0 9).toInt ≤ 16000 := hT.2.2.2.1
  have hk := look_lt' (σ := σ) (k := k) (by omega)
  have hn := hT.1
  have hn2 := hT.2.1
  unfold wp_nameEnd
  refine ⟨fun n x => (n : Int) = (σ 0 9).toInt - x.toInt ∧ k.toInt ≤ x.toInt ∧ x.toInt ≤ (σ 0 9).toInt, ⟨((σ 0 9).toInt - k.toInt).toNat, by omega, Int.le_refl _, by omega⟩, fun n x ⟨q1, q2, q3⟩ => sp_look (by omega) hs (sp_isLetter ?_)⟩
  refine ⟨x.toInt < (σ 0 9).toInt, fun c => ⟨n - 1, by omega, ?_⟩, fun c => ?_, fun c1 => sp_look (by omega) hs (sp_isDigit ⟨fun c2 => ?_, fun c2 => ?_⟩)⟩
  · have e := ad1 (x := x) (by omega)
    omega
  · have := bI_ne c
    exact look_lt' (by omega)
  · have hne : x.toInt ≠ k.toInt := fun q => by
      have := bI_eq c1
      rw [ieq q] at this
      exact this hc
    have e2 : (x - k).toInt = x.toInt - k.toInt := sb (by omega) (by omega)
    refine ⟨fun _ => sp_among (by decide) h0 q2 (by omega) (fun r r1 r2 => ?_), fun _ => sp_bad hT (Int.le_refl _) (by omega) (fun s hs => hb _ s hs)⟩
    refine ⟨fun y => 2 ≤ y.toInt ∧ y.toInt ≠ 4, fun y ⟨y1, y2⟩ => sp_token hn (by omega) (hg _ _ (GD_of hT y1 rfl (by omega) q3 (fun q => absurd q y2))), fun _ => by decide, fun _ => ?_⟩
    have e3 : ((5 : Int32) + r).toInt = 5 + r.toInt := by
      have : (5 : Int32).toInt = 5 := by decide
      rw [ad (by omega) (by omega), this]
    omega
  · have := bI_ne c2
    exact look_lt' (by omega)
theorem sp_numberEnd {l : Int32} {Q : Int32 → St → St → List Nat → Prop} (hT : TI σ k.toInt) (h0 : 0 ≤ k.toInt) (hc : isDP (lookV σ k)) (hg : ∀ (r : Int32) s, GD σ s k.toInt r.toInt → Q r s τ vs) (hb : ∀ r s, BD σ s → Q r s τ vs) : wp_numberEnd k l σ τ vs Q := by
  have hs : (σ 0 9).toInt ≤ 16000 := hT.2.2.2.1
  have hk := look_lt' (σ := σ) (k := k) (by omega)
  have hn := hT.1
  have hn2 := hT.2.1
  have e1 := ad1 (x := k) (by omega)
  have e2 : (k + (2 : Int32)).toInt = k.toInt + 2 := adc (by decide) (by omega) (by omega)
  unfold wp_numberEnd
  refine sp_look h0 hs ⟨True, fun _ => ?_, fun _ => trivial, fun _ => sp_look (by omega) hs ⟨fun _ => trivial, fun _ => sp_look (by omega) hs (sp_sixteen (fun r hr => ⟨fun _ => trivial, fun c => ?_⟩))⟩⟩
  · refine ⟨fun n x _ => (n : Int) = (σ 0 9).toInt - x.toInt ∧ k.toInt ≤ x.toInt ∧ x.toInt ≤ (σ 0 9).toInt, ⟨((σ 0 9).toInt - k.toInt).toNat, by omega, Int.le_refl _, by omega⟩, fun n x v ⟨q1, q2, q3⟩ => sp_look (by omega) hs (sp_isDigit ⟨fun c2 => ?_, fun c2 => ?_⟩)⟩
    · have hne : x.toInt ≠ k.toInt := fun q => by
        have := bI_eq c2
        rw [ieq q] at this
        exact this hc
      exact ⟨fun _ => sp_token hn (by omega) (hg _ _ (GD_of hT (by decide) rfl (by omega) q3 (fun q => absurd q (by decide)))), fun _ => sp_bad hT (Int.le_refl _) (by omega) (fun s hs => hb _ s hs)⟩
    · have h3 := bI_ne c2
      have h4 := look_lt' (σ := σ) (k := x) (by omega)
      have e3 := ad1 (x := x) (by omega)
      exact ⟨fun _ => True, fun _ _ => ⟨n - 1, by omega, by omega, by omega, by omega⟩, fun _ => trivial, fun _ => sp_look (by omega) hs trivial⟩
  · have h4 := hr c
    have h5 := look_lt' (σ := σ) (k := k + (2 : Int32)) (by omega)
    refine ⟨fun n x _ => (n : Int) = (σ 0 9).toInt - x.toInt ∧ k.toInt + 2 ≤ x.toInt ∧ x.toInt ≤ (σ 0 9).toInt, ⟨((σ 0 9).toInt - k.toInt - 2).toNat, by omega, by omega, by omega⟩, fun n x v ⟨q1, q2, q3⟩ => sp_look (by omega) hs (sp_sixteen (fun r2 hr2 => ⟨fun _ => ⟨fun _ => sp_token hn (by omega) (hg _ _ (GD_of hT (by decide) rfl (by omega) q3 (fun q => absurd q (by decide)))), fun _ => sp_bad hT (Int.le_refl _) (by omega) (fun s hs => hb _ s hs)⟩, fun c3 => sp_look (by omega) hs (sp_sixteen (fun r3 _ => ?_))⟩))⟩
    have h6 := hr2 c3
    have h7 := look_lt' (σ := σ) (k := x) (by omega)
    have e3 := ad1 (x := x) (by omega)
    exact ⟨n - 1, by omega, by omega, by omega, by omega⟩
theorem sp_code {q : Int32} {Q : Int32 → Prop} (hs : (σ 0 9).toInt ≤ 16000) (h0 : 0 ≤ k.toInt) (h1 : k.toInt ≤ 30000) (h : ∀ r : Int32, (0 ≤ r.toInt → k.toInt < (σ 0 9).toInt ∧ ((lookV σ k).toInt = 92 → k.toInt + 1 < (σ 0 9).toInt)) → Q r) : wp_code k q σ τ vs Q := by
  have e1 := ad1 (x := k) (by omega)
  unfold wp_code
  have bad : Q (-1) := h _ (fun q => absurd q (by decide))
  refine sp_look h0 hs ⟨fun c => ⟨fun _ => bad, fun c1 => ⟨fun _ => bad, fun c2 => ⟨fun _ => bad, fun _ => h _ (fun _ => ⟨look_lt' (by omega), fun q => absurd q c⟩)⟩⟩⟩, fun c => sp_look (by omega) hs ?_⟩
  have good : ∀ r : Int32, 0 ≤ (lookV σ (k + (1 : Int32))).toInt → Q r := fun r g => h r (fun _ => by
    have := look_lt' (σ := σ) (k := k + (1 : Int32)) (by omega)
    exact ⟨by omega, fun _ => by omega⟩)
  exact ⟨fun _ => ⟨fun _ => ⟨fun _ => good _ (by omega), fun _ => ⟨fun _ => good _ (by omega), fun _ => ⟨fun _ => bad, fun _ => good _ (by omega)⟩⟩⟩, fun _ => good _ (by omega)⟩, fun _ => good _ (by omega)⟩
theorem sp_codeEnd {l : Int32} {Q : Int32 → St → St → List Nat → Prop} (hT : TI σ k.toInt) (h0 : 0 ≤ k.toInt) (hk : k.toInt < (σ 0 9).toInt) (hg : ∀ (r : Int32) s, GD σ s k.toInt r.toInt → Q r s τ vs) (hb : ∀ r s, BD σ s → Q r s τ vs) : wp_codeEnd k l σ τ vs Q := by
  have hs : (σ 0 9).toInt ≤ 16000 := hT.2.2.2.1
  have hn := hT.1
  have hn2 := hT.2.1
  have e1 := ad1 (x := k) (by omega)
  unfold wp_codeEnd
  refine sp_code hs (by omega) (by omega) (fun r hr => sp_look (by omega) hs ⟨fun y => 2 ≤ y.toInt ∧ y.toInt ≤ 3, fun y ⟨y1, y2⟩ => ⟨True, fun _ => sp_bad hT (Int.le_refl _) (by omega) (fun s hs => hb _ s hs), fun _ => trivial, fun c => ?_⟩, fun _ => by decide, fun _ => by decide⟩)
  have e2 : (k + y).toInt = k.toInt + y.toInt := ad (by omega) (by omega)
  refine sp_look (by omega) hs ⟨fun c2 => ?_, fun _ => trivial⟩
  have h3 := look_lt' (σ := σ) (k := k + y) (by omega)
  have e3 := ad1 (x := k + y) (by omega)
  exact sp_token hn (by omega) (hg _ _ (GD_of hT (by decide) rfl (by omega) (by omega) (fun q => absurd q (by decide))))
theorem sp_stringEnd {l : Int32} {Q : Int32 → St → St → List Nat → Prop} (hT : TI σ k.toInt) (h0 : 0 ≤ k.toInt) (hk : k.toInt < (σ 0 9).toInt) (hg : ∀ (r : Int32) s, GD σ s k.toInt r.toInt → Q r s τ vs) (hb : ∀ r s, BD σ s → Q r s τ vs) : wp_stringEnd k l σ τ vs Q := by
  have hs : (σ 0 9).toInt ≤ 16000 := hT.2.2.2.1
  have hn := hT.1
  have hn2 := hT.2.1
  have e1 := ad1 (x := k) (by omega)
  have e00 : ((0 : Int32)).toInt = 0 := by decide
  unfold wp_stringEnd
  refine ⟨fun n e c => (n : Int) = (σ 0 9).toInt - e.toInt ∧ k.toInt + 1 + c.toInt ≤ e.toInt ∧ e.toInt ≤ (σ 0 9).toInt ∧ 0 ≤ c.toInt ∧ c.toInt ≤ 200, ⟨((σ 0 9).toInt - k.toInt - 1).toNat, by omega, by omega, by omega, by omega, by omega⟩, fun n e c ⟨q1, q2, q3, q4, q5⟩ => sp_look (by omega) hs ⟨fun c1 => ?_, fun c1 => sp_code hs (by omega) (by omega) (fun r hr => ⟨True, fun _ => sp_bad hT (Int.le_refl _) (by omega) (fun s hs => hb _ s hs), fun _ => trivial, fun c2 => ⟨fun c3 => sp_look (by omega) hs ?_, fun _ => trivial⟩⟩)⟩⟩
  · have h3 := look_lt' (σ := σ) (k := e) (by omega)
    have e3 := ad1 (x := e) (by omega)
    exact sp_token hn (by omega) (hg _ _ (GD_of hT (by decide) rfl (by omega) (by omega) (fun _ => by omega)))
  · obtain ⟨h4, h5⟩ := hr c2
    have e4 := ad1 (x := c) (by omega)
    refine ⟨fun y => 1 ≤ y.toInt ∧ e.toInt + y.toInt ≤ (σ 0 9).toInt, fun y ⟨y1, y2⟩ => ?_, fun _ => ?_, fun c5 => ?_⟩
    · have e5 : (e + y).toInt = e.toInt + y.toInt := ad (by omega) (by omega)
      exact ⟨((σ 0 9).toInt - (e.toInt + y.toInt)).toNat, by omega, by omega, by omega, by omega, by omega, by omega⟩
    · have : (1 : Int32).toInt = 1 := by decide
      omega
    · have : (2 : Int32).toInt = 2 := by decide
      have := h5 c5
      omega
theorem sp_signEnd {l : Int32} {Q : Int32 → St → St → List Nat → Prop} (hT : TI σ k.toInt) (h0 : 0 ≤ k.toInt) (hk : k.toInt < (σ 0 9).toInt) (hg : ∀ (r : Int32) s, GD σ s k.toInt r.toInt → Q r s τ vs) (hb : ∀ r s, BD σ s → Q r s τ vs) : wp_signEnd k l σ τ vs Q := by
  have hs : (σ 0 9).toInt ≤ 16000 := hT.2.2.2.1
  have hn := hT.1
  have hn2 := hT.2.1
  unfold wp_signEnd
  refine ⟨fun n x => (n : Int) = x.toInt ∧ 0 ≤ x.toInt ∧ x.toInt ≤ 3, ⟨3, by decide⟩, fun n x ⟨q1, q2, q3⟩ => ⟨fun _ => sp_bad hT (Int.le_refl _) (by omega) (fun s hs => hb _ s hs), fun c => ?_⟩⟩
  have e1 : (k + x).toInt = k.toInt + x.toInt := ad (by omega) (by omega)
  have e2 := dc1 (x := x) (by omega)
  refine ⟨fun y => y.toInt ≤ 200 ∧ (0 ≤ y.toInt → k.toInt + x.toInt ≤ (σ 0 9).toInt), fun y ⟨y1, y2⟩ => ⟨fun c1 => ?_, fun _ => ⟨(x.toInt - 1).toNat, by omega, by omega, by omega, by omega⟩⟩, fun _ => ⟨by decide, fun q => absurd q (by decide)⟩, fun c1 => sp_among (by decide) h0 (by omega) (by omega) (fun r r1 r2 => ⟨r2, fun _ => by omega⟩)⟩
  have e3 : ((32 : Int32) + y).toInt = 32 + y.toInt := by
    have : (32 : Int32).toInt = 32 := by decide
    rw [ad (by omega) (by omega), this]
  exact sp_token hn (by omega) (hg _ _ (GD_of hT (by omega) rfl (by omega) (by omega) (fun q => by omega)))
theorem sp_one {l : Int32} {Q : Int32 → St → St → List Nat → Prop} (hT : TI σ k.toInt) (h0 : 0 ≤ k.toInt) (hk : k.toInt < (σ 0 9).toInt) (hg : ∀ (r : Int32) s, GD σ s k.toInt r.toInt → Q r s τ vs) (hb : ∀ r s, BD σ s → Q r s τ vs) : wp_one_0 k l σ τ vs Q := by
  have hs : (σ 0 9).toInt ≤ 16000 := hT.2.2.2.1
  unfold wp_one_0
  exact sp_look h0 hs (sp_isLetter ⟨fun _ => sp_isDigit ⟨fun _ => ⟨fun _ => ⟨fun _ => sp_signEnd hT h0 hk hg hb, fun _ => sp_stringEnd hT h0 hk hg hb⟩, fun _ => sp_codeEnd hT h0 hk hg hb⟩, fun c => sp_numberEnd hT h0 (bI_ne c) hg hb⟩, fun c => sp_nameEnd hT h0 (bI_ne c) hg hb⟩)
theorem BD_of {b c l e : Int32} {k : Int} (hT : TI σ k) (h1 : k ≤ b.toInt ∧ b.toInt ≤ (σ 0 9).toInt) (h2 : 0 ≤ c.toInt ∧ c.toInt ≤ 16000) : BD σ (tkn σ 1 b c l e) := by
  have hT9 := hT
  obtain ⟨g1, g2, g3, g4, -⟩ := hT9
  refine ⟨TI_end hT (by decide) h1.1 h1.2 h2, by rw [tkn_n, ad1 (by omega)], ?_, tkn_kp⟩
  rw [tkn_kinds, if_pos rfl]
  decide
theorem sp_cut {Q : St → St → List Nat → Prop} (h0 : 0 ≤ (σ 0 9).toInt) (hs : (σ 0 9).toInt ≤ 16000) (h1 : AllIn 0 16000 (σ 3)) (h2 : AllIn 0 16000 (σ 4)) (h : ∀ s, TK s → KT σ s → Q s τ vs) : wp_cut σ τ vs Q := by
  unfold wp_cut
  refine ⟨fun n k _ s t z => (n : Int) = (s 0 9).toInt - k.toInt ∧ 0 ≤ k.toInt ∧ TI s k.toInt ∧ KT σ s ∧ t = τ ∧ z = vs, ⟨(σ 0 9).toInt.toNat, ?_⟩, ?_⟩
  · have e0 : (0 : Int32).toInt = 0 := by decide
    exact ⟨by show (((σ 0 9).toInt).toNat : Int) = (σ 0 9).toInt - _; omega, by decide, ⟨by show (0 : Int) ≤ (0 : Int32).toInt; decide, by show (0 : Int32).toInt ≤ (0 : Int32).toInt; decide, by show _ ≤ (σ 0 9).toInt; omega, hs, h1, h2, fun j hj => absurd hj (by show ¬ (j : Int) < (0 : Int32).toInt; omega), fun j hj => absurd hj (by show ¬ (j : Int) + 1 < (0 : Int32).toInt; omega)⟩, kp_f kp_rf rfl, rfl, rfl⟩
  · rintro n k l s t z ⟨q1, q2, hT, hK, rfl, rfl⟩
    have hn := hT.1
    have hn2 := hT.2.1
    have hks := hT.2.2.1
    have hs' := hT.2.2.2.1
    refine ⟨fun c => sp_token hn (by omega) (h _ (TI_end hT (by decide) hks (Int.le_refl _) (by omega)) (kp_tr hK tkn_kp)), fun c => sp_look q2 hs' (sp_isAllowed ?_)⟩
    have e1 := ad1 (x := k) (by omega)
    refine ⟨fun r s' t' z' => t' = t ∧ z' = z ∧ KT s s' ∧ ((s' = s ∧ k.toInt < r.toInt ∧ r.toInt ≤ (s 0 9).toInt) ∨ GD s s' k.toInt r.toInt ∨ BD s s'), ?_, fun c1 => ⟨True, fun _ => ⟨True, fun _ => sp_isBlank ⟨fun _ => ⟨rfl, rfl, kp_rf, Or.inl ⟨rfl, by omega, by omega⟩⟩, fun _ => sp_one hT q2 c (fun r s' g => ⟨rfl, rfl, g.2.2.2.2, Or.inr (Or.inl g)⟩) (fun r s' g => ⟨rfl, rfl, g.2.2.2, Or.inr (Or.inr g)⟩)⟩, fun _ => trivial, fun c3 => sp_look (by omega) hs' ⟨fun _ => trivial, fun c4 => sp_remarkEnd hT q2 (by have := look_lt' (σ := s) (k := k + (1 : Int32)) (by omega); omega) (fun r r1 r2 => ⟨rfl, rfl, kp_rf, Or.inl ⟨rfl, r1, r2⟩⟩) (fun r s' g => ⟨rfl, rfl, g.2.2.2, Or.inr (Or.inr g)⟩)⟩⟩, fun _ => trivial, fun c3 => sp_look (by omega) hs' ⟨fun _ => trivial, fun c4 => sp_lineEnd hT q2 c c3 (fun r r1 r2 => ⟨rfl, rfl, kp_rf, Or.inl ⟨rfl, r1, r2⟩⟩) (fun r s' g => ⟨rfl, rfl, g.2.2.2, Or.inr (Or.inr g)⟩)⟩⟩, fun c1 => sp_token hn (by omega) ⟨rfl, rfl, tkn_kp, Or.inr (Or.inr (BD_of hT (by omega) (by omega)))⟩⟩
    rintro r s' t' z' ⟨rfl, rfl, hK', hcase⟩
    have en := nt hn
    have esz : (s' 0 9) = (s 0 9) := hK' 0 9 rfl rfl
    refine ⟨TI s' r.toInt ∧ k.toInt < r.toInt, fun ⟨hT', hr⟩ => ?_, ?_, ?_⟩
    · have hr' := hT'.2.2.1
      have hs9 := hT'.2.2.2.1
      refine ⟨fun n j x => (n : Int) = (r.toInt - x.toInt).toNat ∧ 0 ≤ x.toInt, ⟨_, rfl, q2⟩, fun m j x ⟨p1, p2⟩ => ⟨fun c5 => ⟨((s' 0 9).toInt - r.toInt).toNat, by rw [esz] at hr' ⊢; omega, by omega, by omega, hT', kp_tr hK hK', rfl, rfl⟩, fun c5 => sp_look p2 hs9 ?_⟩⟩
      have e2 := ad1 (x := x) (by omega)
      exact ⟨fun _ => True, fun _ _ => ⟨(r.toInt - x.toInt - 1).toNat, by omega, by omega, by omega⟩, fun _ => trivial, fun _ => trivial⟩
    · intro c6
      rcases hcase with ⟨rfl, g1, g2⟩ | g | g
      · exact ⟨⟨hn, by omega, g2, hs', hT.2.2.2.2.1, hT.2.2.2.2.2.1, fun j hj => by have := hT.2.2.2.2.2.2.1 j hj; omega, hT.2.2.2.2.2.2.2⟩, g1⟩
      · exact ⟨g.1, g.2.1⟩
      · have := g.2.1; omega
    · intro c6
      rcases hcase with ⟨rfl, g1, g2⟩ | g | g
      · omega
      · have g3 := g.2.2.1
        have e3 : ((s' 0 8) - (1 : Int32)).toInt = (s' 0 8).toInt - 1 := sb1 (by omega)
        have e4 : ((s' 0 8) - (1 : Int32)).toNatClampNeg = (s 0 8).toNatClampNeg := by rw [nt', nt', e3]; omega
        have := hT.2.1
        refine ⟨⟨by omega, by omega⟩, fun _ => ⟨g.1, g.2.1⟩, fun c7 => ?_⟩
        rw [e4] at c7
        have := g.2.2.2.1
        omega
      · have g3 := g.2.1
        have e3 : ((s' 0 8) - (1 : Int32)).toInt = (s' 0 8).toInt - 1 := sb1 (by omega)
        have e4 : ((s' 0 8) - (1 : Int32)).toNatClampNeg = (s 0 8).toNatClampNeg := by rw [nt', nt', e3]; omega
        have := hT.2.1
        refine ⟨⟨by omega, by omega⟩, fun c7 => ?_, fun _ => h _ g.1 (kp_tr hK hK')⟩
        rw [e4] at c7
        exact absurd g.2.2.1 c7
end TOK3
