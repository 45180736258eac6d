/-! the other methods -/
section EZ
variable {σ s z t ρ : St} {m i j k o d K : Nat} {n : Int} {x y v a a1 a2 a3 a4 a5 : Int32} {C : Int32 → Prop} {b : Nat → Int32}
theorem dc8 {x : Int32} (h : -2147483600 < x.toInt) : (x + (-8)).toInt = x.toInt - 8 := by
  have r := s_rng x
  have e8 : ((-8 : Int32)).toInt = -8 := by decide
  rw [ad (by rw [e8]; omega) (by rw [e8]; omega), e8]
  omega
theorem tk_m {x : Int32} {n : Nat} (hn : n = (x.toInt + 8).toNat) (h : 0 ≤ x.toInt) : ((x + (-8)).toInt + 8).toNat < n := by
  rw [dc8 (by omega), hn]
  omega
theorem tk_h {x : Int32} {H h0 : Int} (h : 8 * (H - h0) ≤ 24 - x.toInt) (hx : 0 ≤ x.toInt) : 8 * (H + 1 - h0) ≤ 24 - (x + (-8)).toInt := by
  rw [dc8 (by omega)]
  omega
theorem tk_r {x : Int32} (h : -8 ≤ x.toInt ∧ x.toInt ≤ 24) (hx : 0 ≤ x.toInt) : -8 ≤ (x + (-8)).toInt ∧ (x + (-8)).toInt ≤ 24 := by
  rw [dc8 (by omega)]
  omega
theorem sp_takeBytes {Q : St → Prop} (hh : 0 ≤ (σ 0 1).toInt ∧ (σ 0 1).toInt ≤ 16000) (hb : ByteOK (σ 1)) (k : ∀ s, Kp [(0, 1)] [1] σ s → ByteOK (s 1) → (σ 0 1).toInt ≤ (s 0 1).toInt → (s 0 1).toInt ≤ (σ 0 1).toInt + 4 → (s 0 1).toInt ≤ 16000 → Q s) : wk_X12_takeBytes x σ Q := by
  unfold wk_X12_takeBytes
  refine ⟨fun m y s => m = (y.toInt + 8).toNat ∧ (-8 ≤ y.toInt ∧ y.toInt ≤ 24) ∧ 8 * ((s 0 1).toInt - (σ 0 1).toInt) ≤ 24 - y.toInt ∧ ((σ 0 1).toInt ≤ (s 0 1).toInt ∧ (s 0 1).toInt ≤ 16000) ∧ Kp [(0, 1)] [1] σ s ∧ ByteOK (s 1), ⟨_, rfl, by decide, by rw [show ((24 : Int32)).toInt = 24 from rfl]; omega, ⟨Int.le_refl _, hh.2⟩, kp_rf, hb⟩, ?_⟩
  rintro m y s ⟨hm, hy, h8, hl, ks, hbs⟩
  refine ⟨fun c => k s ks hbs hl.1 (by omega) hl.2, fun c => ⟨fun c1 => k s ks hbs hl.1 (by omega) hl.2, fun c1 => ⟨⟨by omega, c1⟩, _, tk_m hm c, rfl, tk_r hy c, ?_, ?_, kp_f (kp_a ks rfl) rfl, ?_⟩⟩⟩
  · rw [rdA_eq rfl, ad0 i1 (by omega) (by omega)]
    exact tk_h h8 c
  · rw [rdA_eq rfl, ad0 i1 (by omega) (by omega)]
    omega
  · rw [rdC_ne (by decide)]
    exact byte_up hbs
theorem sk_feed {Q : Int32 → St → Prop} (h : IVx σ o) (k : ∀ v t, IVx t o → Q v t) : wk_X12_feed a1 a2 a3 a4 a5 σ Q := by
  have h' := h
  obtain ⟨h1, h2, h3, h4, ⟨f1, f2, f3⟩, h6, ⟨g1, g2, g3, g4⟩, h8, h9, ha, hb, hc, hi⟩ := h'
  have e20 : ((20 : Int32)).toInt = 20 := rfl
  unfold wk_X12_feed
  refine ⟨fun _ => k _ _ h, fun c1 => ⟨fun c2 => ?_, fun _ => k _ _ h⟩⟩
  rw [ad0 e20 (by omega) (by omega)] at c1 c2
  refine sp_takeBytes ⟨by omega, by omega⟩ g3 (fun s1 k1 b1 l1 m1 n1 => ?_)
  refine sp_takeBytes ⟨by omega, by omega⟩ b1 (fun s2 k2 b2 l2 m2 n2 => ?_)
  refine sp_takeBytes ⟨by omega, by omega⟩ b2 (fun s3 k3 b3 l3 m3 n3 => ?_)
  refine sp_takeBytes ⟨by omega, by omega⟩ b3 (fun s4 k4 b4 l4 m4 n4 => ?_)
  refine sp_takeBytes ⟨by omega, by omega⟩ b4 (fun s5 k5 b5 l5 m5 n5 => ?_)
  have kk : Kp [(0, 1)] [1] σ s5 := kp_tr (kp_tr (kp_tr (kp_tr k1 k2) k3) k4) k5
  have e02 : s5 0 2 = σ 0 2 := kk 0 2 rfl rfl
  have e57 : s5 5 7 = σ 5 7 := kk 5 7 rfl rfl
  have e41 : s5 4 1 = σ 4 1 := kk 4 1 rfl rfl
  generalize hu : upC s5 0 2 ((s5 0 2) + (20 : Int32)) = u
  have ku : Kp [(0, 1), (0, 2)] [1] σ u := by rw [← hu]; exact kp_f (kp_sub kk rfl rfl) rfl
  have u1 : u 1 = s5 1 := by rw [← hu]; rfl
  have u01 : u 0 1 = s5 0 1 := by rw [← hu]; rfl
  have u02 : (u 0 2).toInt = (σ 0 2).toInt + 20 := by
    rw [← hu, rdA_eq rfl, e02]
    exact ad0 e20 (by omega) (by omega)
  have u41 : u 4 1 = σ 4 1 := ku 4 1 rfl rfl
  have u57 : u 5 7 = σ 5 7 := ku 5 7 rfl rfl
  clear hu
  have kc : ∀ c j, c ≠ 0 → c ≠ 1 → u c j = σ c j := fun c j c0 c1 => ku c j (by
    simp only [List.contains_cons, List.contains_nil, Bool.or_false, Bool.or_eq_false_iff, beq_eq_false_iff_ne, ne_eq, Prod.mk.injEq, not_and]
    omega) (by
    simp only [List.contains_cons, List.contains_nil, Bool.or_false, Bool.or_eq_false_iff, beq_eq_false_iff_ne, ne_eq]
    omega)
  have ivt : IVx (upF u 1 (σ 1)) o := iv_kp h (fun c j hc0 => by
    by_cases c1 : c = 1
    · rw [c1, rdF_eq]
    · rw [rdF_ne c1]
      exact kc c j (by omega) c1) (by
    unfold FDx
    rw [rdF_ne (by decide), rdF_ne (by decide), rdF_ne (by decide), u01, u02, u41, u57]
    omega) (fun j => by rw [rdF_ne (by decide), kc 15 j (by decide) (by decide)]; exact g1 j) (fun j hj => by
    rw [rdF_ne (by decide), kc 13 j (by decide) (by decide)] at hj
    rw [rdF_ne (by decide), rdF_ne (by decide), kc 14 j (by decide) (by decide), kc 15 j (by decide) (by decide)]
    exact g2 j hj)
  obtain ⟨q1, q2, q3, q4, q5, q6, ⟨p1, p2, p3, p4⟩, q8, q9, qa, qb, qc, qi⟩ := ivt
  exact k _ u ⟨q1, q2, q3, q4, q5, q6, ⟨p1, p2, by rw [u1]; exact b5, p4⟩, q8, q9, qa, qb, qc, qi⟩
theorem iv_few (h : IVx σ o) (K : ∀ c j, c ≠ 0 → c ≠ 60 → c ≠ 61 → c ≠ 62 → c ≠ 63 → c ≠ 64 → c ≠ 11 → (c = 12 → j = 18) → s c j = σ c j) (fd : FDx s) (hi : 0 ≤ (s 11 0).toInt) : IVx s o := by
  have hi' := h.2.2.2.2.2.2.2.2.2.2.2.2
  have q : IVx (upF s 11 (σ 11)) o := iv_kp h (fun c j hc => by
    by_cases c11 : c = 11
    · rw [c11, rdF_eq]
    · rw [rdF_ne c11]
      exact K c j (by omega) (by omega) (by omega) (by omega) (by omega) (by omega) c11 (by omega)) (by
    unfold FDx
    rw [rdF_ne (by decide), rdF_ne (by decide), rdF_ne (by decide)]
    exact fd) (fun j => by rw [rdF_ne (by decide), K 15 j (by decide) (by decide) (by decide) (by decide) (by decide) (by decide) (by decide) (fun z => absurd z (by decide))]; exact h.2.2.2.2.2.2.1.1 j) (fun j hj => by
    rw [rdF_ne (by decide), K 13 j (by decide) (by decide) (by decide) (by decide) (by decide) (by decide) (by decide) (fun z => absurd z (by decide))] at hj
    rw [rdF_ne (by decide), rdF_ne (by decide), K 14 j (by decide) (by decide) (by decide) (by decide) (by decide) (by decide) (by decide) (fun z => absurd z (by decide)), K 15 j (by decide) (by decide) (by decide) (by decide) (by decide) (by decide) (by decide) (fun z => absurd z (by decide))]
    exact h.2.2.2.2.2.2.1.2.1 j hj)
  obtain ⟨q1, q2, q3, q4, q5, q6, q7, q8, q9, qa, qb, qc, qi⟩ := q
  exact ⟨q1, q2, q3, q4, q5, q6, q7, q8, q9, qa, qb, qc, hi⟩
theorem sk_end {Q : Int32 → St → Prop} (h : IVx σ o) (k : ∀ v t, IVx t o → Q v t) : wk_X12_end a1 σ Q := by
  have f := h.2.2.2.2.1
  have hi := h.2.2.2.2.2.2.2.2.2.2.2.2
  unfold wk_X12_end
  refine ⟨fun _ => k _ _ h, fun c => ⟨fun c1 => k _ _ (iv_few h (fun c j c0 _ _ _ _ _ _ _ => by rw [rdC_ne c0]) ?_ hi), fun _ => k _ _ h⟩⟩
  have e1 : (upC σ 0 1 a1) 0 1 = a1 := rfl
  have e2 : (upC σ 0 1 a1) 0 2 = σ 0 2 := rfl
  have e3 : (upC σ 0 1 a1) 4 1 = σ 4 1 := rfl
  have e4 : (upC σ 0 1 a1) 5 7 = σ 5 7 := rfl
  unfold FDx at f ⊢
  rw [e1, e2, e3, e4]
  omega
theorem iv_held0 (h : IVx σ o) : IVx (upC σ 0 1 (0 : Int32)) o := by
  have f := h.2.2.2.2.1
  have hi := h.2.2.2.2.2.2.2.2.2.2.2.2
  refine iv_few h (fun c j c0 _ _ _ _ _ _ _ => by rw [rdC_ne c0]) ?_ hi
  have e1 : ((upC σ 0 1 (0 : Int32)) 0 1).toInt = 0 := rfl
  have e2 : (upC σ 0 1 (0 : Int32)) 0 2 = σ 0 2 := rfl
  have e3 : (upC σ 0 1 (0 : Int32)) 4 1 = σ 4 1 := rfl
  have e4 : (upC σ 0 1 (0 : Int32)) 5 7 = σ 5 7 := rfl
  unfold FDx at f ⊢
  rw [e1, e2, e3, e4]
  omega
theorem sk_input {Q : Int32 → St → Prop} (h : IVx σ o) (k : ∀ v t, IVx t o → Q v t) : wk_X12_input a1 σ Q := by
  have f := h.2.2.2.2.1
  have hi := h.2.2.2.2.2.2.2.2.2.2.2.2
  unfold wk_X12_input wk_X9_give
  refine ⟨fun _ => k _ _ h, fun c => ⟨fun c1 => ⟨⟨hi, c⟩, k _ _ (iv_few h (fun c j c0 c60 _ _ _ _ c11 _ => by rw [rdC_ne c11, rdC_ne c60]) ?_ ?_)⟩, fun _ => k _ _ h⟩⟩
  · unfold FDx
    rw [rdC_ne (by decide), rdC_ne (by decide), rdC_ne (by decide), rdC_ne (by decide), rdC_ne (by decide), rdC_ne (by decide)]
    exact f
  · rw [rdA_eq rfl, ad0 i1 (by omega) (by omega)]
    omega
theorem sp_hasI {Q : Int32 → Prop} (k0 : Q 0) (k1 : 1 ≤ a1.toInt → a1.toInt ≤ (σ 5 13).toInt → Q 1) : wk_X8_has a1 σ Q := by
  unfold wk_X8_has
  exact ⟨fun _ => k0, fun c => ⟨fun _ => k0, fun c1 => k1 c c1⟩⟩
theorem sk_run {Q : Int32 → St → Prop} (h : IVx σ o) (k : ∀ v t, IVx t o → Q v t) : wk_X12_run a1 σ Q := by
  have f := h.2.2.2.2.1
  unfold wk_X12_run
  refine ⟨fun hr => ⟨fun _ => k _ _ h, fun c => ⟨fun c1 => ?_, fun _ => k _ _ h⟩⟩, fun _ => k _ _ h⟩
  obtain ⟨Fs, hd, q1, q2, q3⟩ := h.2.2.2.2.2.2.2.2.2.1 hr
  have cl := clen_eq f.2.1.1
  have fb := f.1
  have fl := f.2.1.2
  refine sp_execute (N := clen σ) (Fs := Fs) (n := 0) ⟨by omega, fun hd' n hf => ?_⟩ cl ⟨c, c1⟩ q2 q3 rfl (fun r s ks s0 => k r s (iv_few h (fun c j c0 c60 c61 c62 c63 c64 c11 c12 => ks c j (by
    simp only [List.contains_cons, List.contains_nil, Bool.or_false, Bool.or_eq_false_iff, beq_eq_false_iff_ne, ne_eq, Prod.mk.injEq, not_and]
    omega) (by
    simp only [List.contains_cons, List.contains_nil, Bool.or_false, Bool.or_eq_false_iff, beq_eq_false_iff_ne, ne_eq]
    omega)) ?_ (by rw [s0]; exact Int.le_refl _)))
  · obtain ⟨L, g, F⟩ := q1 hd' n hf
    exact ⟨L, g, F.1⟩
  · unfold FDx
    rw [ks 0 1 rfl rfl, ks 0 2 rfl rfl, ks 4 1 rfl rfl, ks 5 7 rfl rfl]
    exact f
end EZ
