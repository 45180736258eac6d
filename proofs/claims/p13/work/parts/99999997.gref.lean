/-! outside of functions: the reference's own state -/
section GRF
variable {w s r s1 s2 s3 σ σ' σ1 τ t : St} {kd vl : Nat → Int} {n S m m' lo u d e i D : Nat} {sort lk ty kn st ex v : Int32} {rr cells : Int} {ext stc B : Prop} {vs z : List Nat}
theorem rg_fr (h : RGs kd vl n S m lo d σ) (k : Kp [(0, 10), (0, 12), (0, 13), (0, 37)] [11, 13, 17] σ s) (hD : ∃ D : Nat, (s 0 37).toInt = (D : Int) ∧ D ≤ 16000) (h12 : 0 ≤ (s 0 12).toInt) : RGs kd vl n S m lo d s := by
  obtain ⟨⟨h1, h2, h3, h4, h5, h6, h7, h8, h9, h10, h11, _⟩, q2, q3, q4, q5⟩ := h
  have gs : ∀ c, c ≠ 0 → c ≠ 11 → c ≠ 13 → c ≠ 17 → s c = σ c := fun c h0 h1 h2 h3 => funext (fun j => k c j (by
    simp only [List.contains_cons, List.contains_nil, Bool.or_false, Bool.or_eq_false_iff, beq_eq_false_iff_ne, ne_eq, Prod.mk.injEq, not_and]
    omega) (by
    simp only [List.contains_cons, List.contains_nil, Bool.or_false, Bool.or_eq_false_iff, beq_eq_false_iff_ne, ne_eq]
    omega))
  have g2 := gs 2 (by decide) (by decide) (by decide) (by decide)
  have g3 := gs 3 (by decide) (by decide) (by decide) (by decide)
  have g4 := gs 4 (by decide) (by decide) (by decide) (by decide)
  have g6 := gs 6 (by decide) (by decide) (by decide) (by decide)
  have g9 := gs 9 (by decide) (by decide) (by decide) (by decide)
  have g10 := gs 10 (by decide) (by decide) (by decide) (by decide)
  have g15 := gs 15 (by decide) (by decide) (by decide) (by decide)
  have g16 := gs 16 (by decide) (by decide) (by decide) (by decide)
  have g18 := gs 18 (by decide) (by decide) (by decide) (by decide)
  have g19 := gs 19 (by decide) (by decide) (by decide) (by decide)
  have g22 := gs 22 (by decide) (by decide) (by decide) (by decide)
  have g31 := gs 31 (by decide) (by decide) (by decide) (by decide)
  have g34 := gs 34 (by decide) (by decide) (by decide) (by decide)
  have g35 := gs 35 (by decide) (by decide) (by decide) (by decide)
  refine ⟨⟨?_, ?_, ?_, ?_, ?_, h6, ?_, ?_, ?_, ?_, hD, h12⟩, by rw [k 0 54 rfl rfl]; exact q2, by rw [k 0 49 rfl rfl]; exact q3, by rw [k 0 15 rfl rfl]; exact q4, by rw [g6]; exact q5⟩
  · unfold RTk at h1 ⊢; rw [g2]; exact h1
  · unfold TNm at h2 ⊢; rw [g3, g4]; exact h2
  · rw [g6]; exact h3
  · unfold LOKm TNm mtk at h4 ⊢; rw [g3, g4, g34, k 0 53 rfl rfl]; exact h4
  · unfold EOKm at h5 ⊢; rw [g18, g19, g22, k 0 35 rfl rfl, k 0 36 rfl rfl, k 0 31 rfl rfl]; exact h5
  · rw [g31, g35]; exact h7
  · rw [g10]; exact h8
  · rw [g35]; exact h9
  · rw [g9, g10, g15, g16]; exact h10
theorem rg_decl (h : RGs kd vl n S m lo d σ) (hm : m < 100) (hl : lo + m < 10000) (hu : u ≤ n) (ku : kd u = 2) (hd : DCf σ σ1 u (lo + m) m sort) (k1 : Kp [(0, 10), (0, 12), (0, 13), (0, 37)] [10, 11, 12, 13, 15, 16, 17] σ1 s) (r10 : ∀ j, j ≠ lo + m → s 10 j = σ 10 j) (r10n : -2 ≤ (s 10 (lo + m)).toInt ∧ (s 10 (lo + m)).toInt ≤ 8) (r10s : sort.toInt = 1 → 0 ≤ (s 10 (lo + m)).toInt) (r15 : ∀ j, j ≠ lo + m → s 15 j = σ 15 j) (r16 : ∀ x, s 16 x = σ 16 x ∨ (s 16 x).toInt ≠ -1) (r16n : sort.toInt ≠ 1 → ∀ j : Nat, (j : Int) < (s 15 (lo + m)).toInt → (s 16 (8 * (lo + m) + j)).toInt ≠ -1) (hD : ∃ D : Nat, (s 0 37).toInt = (D : Int) ∧ D ≤ 16000) (h12 : 0 ≤ (s 0 12).toInt) : RGs kd vl n S (m + 1) lo d s := by
  obtain ⟨⟨h1, h2, h3, h4, ⟨e1, e2, e3, e4, e5, e6, e7, e8⟩, h6, h7, h8, h9, h10, h11, _⟩, q2, q3, q4, q5⟩ := h
  have tu := h2 u hu ku
  have nn := dcf_n hd
  obtain ⟨k0, d36, d31, d31b, d9, d13, d14, d21, d18, d19, d20a, d20⟩ := hd
  have kx : ∀ c, c ≠ 0 → c ≠ 10 → c ≠ 11 → c ≠ 12 → c ≠ 13 → c ≠ 15 → c ≠ 16 → c ≠ 17 → s c = σ1 c := fun c h0 h1 h2 h3 h4 h5 h6 h7 => funext (fun j => k1 c j (by
    simp only [List.contains_cons, List.contains_nil, Bool.or_false, Bool.or_eq_false_iff, beq_eq_false_iff_ne, ne_eq, Prod.mk.injEq, not_and]
    omega) (by
    simp only [List.contains_cons, List.contains_nil, Bool.or_false, Bool.or_eq_false_iff, beq_eq_false_iff_ne, ne_eq]
    omega))
  have gs : ∀ c, c ≠ 0 → c ≠ 9 → c ≠ 13 → c ≠ 14 → c ≠ 21 → c ≠ 18 → c ≠ 19 → c ≠ 20 → c ≠ 10 → c ≠ 11 → c ≠ 12 → c ≠ 15 → c ≠ 16 → c ≠ 17 → s c = σ c := fun c b0 b9 b13 b14 b21 b18 b19 b20 b10 b11 b12 b15 b16 b17 => (kx c b0 b10 b11 b12 b13 b15 b16 b17).trans (nn c b0 b9 b13 b14 b21 b18 b19 b20)
  have g2 : s 2 = σ 2 := gs 2 (by decide) (by decide) (by decide) (by decide) (by decide) (by decide) (by decide) (by decide) (by decide) (by decide) (by decide) (by decide) (by decide) (by decide)
  have g3 : s 3 = σ 3 := gs 3 (by decide) (by decide) (by decide) (by decide) (by decide) (by decide) (by decide) (by decide) (by decide) (by decide) (by decide) (by decide) (by decide) (by decide)
  have g4 : s 4 = σ 4 := gs 4 (by decide) (by decide) (by decide) (by decide) (by decide) (by decide) (by decide) (by decide) (by decide) (by decide) (by decide) (by decide) (by decide) (by decide)
  have g6 : s 6 = σ 6 := gs 6 (by decide) (by decide) (by decide) (by decide) (by decide) (by decide) (by decide) (by decide) (by decide) (by decide) (by decide) (by decide) (by decide) (by decide)
  have g22 : s 22 = σ 22 := gs 22 (by decide) (by decide) (by decide) (by decide) (by decide) (by decide) (by decide) (by decide) (by decide) (by decide) (by decide) (by decide) (by decide) (by decide)
  have g31 : s 31 = σ 31 := gs 31 (by decide) (by decide) (by decide) (by decide) (by decide) (by decide) (by decide) (by decide) (by decide) (by decide) (by decide) (by decide) (by decide) (by decide)
  have g34 : s 34 = σ 34 := gs 34 (by decide) (by decide) (by decide) (by decide) (by decide) (by decide) (by decide) (by decide) (by decide) (by decide) (by decide) (by decide) (by decide) (by decide)
  have g35 : s 35 = σ 35 := gs 35 (by decide) (by decide) (by decide) (by decide) (by decide) (by decide) (by decide) (by decide) (by decide) (by decide) (by decide) (by decide) (by decide) (by decide)
  have g9 : s 9 = σ1 9 := kx 9 (by decide) (by decide) (by decide) (by decide) (by decide) (by decide) (by decide) (by decide)
  have g18 : s 18 = σ1 18 := kx 18 (by decide) (by decide) (by decide) (by decide) (by decide) (by decide) (by decide) (by decide)
  have g19 : s 19 = σ1 19 := kx 19 (by decide) (by decide) (by decide) (by decide) (by decide) (by decide) (by decide) (by decide)
  have ef : ∀ f, f ≠ 10 → f ≠ 12 → f ≠ 13 → f ≠ 37 → f ≠ 36 → f ≠ 31 → s 0 f = σ 0 f := fun f b1 b2 b3 b4 b5 b6 => (k1 0 f (by
    simp only [List.contains_cons, List.contains_nil, Bool.or_false, Bool.or_eq_false_iff, beq_eq_false_iff_ne, ne_eq, Prod.mk.injEq, not_and]
    omega) rfl).trans (k0 0 f (by
    simp only [List.contains_cons, List.contains_nil, Bool.or_false, Bool.or_eq_false_iff, beq_eq_false_iff_ne, ne_eq, Prod.mk.injEq, not_and]
    omega) rfl)
  have f36 : s 0 36 = σ1 0 36 := k1 0 36 rfl rfl
  have f31 : s 0 31 = σ1 0 31 := k1 0 31 rfl rfl
  have e19 : ((σ 4 u) - (σ 3 u)).toInt = (σ 4 u).toInt - (σ 3 u).toInt := by
    obtain ⟨t1, t2, t3, t4⟩ := tu
    exact sb (by omega) (by omega)
  obtain ⟨t1, t2, t3, t4⟩ := tu
  refine ⟨⟨?_, ?_, ?_, ?_, ⟨?_, ?_, by omega, by omega, fun e a1 a2 => ?_, ?_, ?_, fun e a1 a2 => ?_⟩, by omega, ?_, fun j => ?_, ?_, fun e a1 a2 => ?_, hD, h12⟩, ?_, ?_, ?_, by rw [g6]; exact q5⟩
  · unfold RTk at h1 ⊢; rw [g2]; exact h1
  · unfold TNm at h2 ⊢; rw [g3, g4]; exact h2
  · rw [g6]; exact h3
  · unfold LOKm TNm mtk at h4 ⊢; rw [g3, g4, g34, ef 53 (by decide) (by decide) (by decide) (by decide) (by decide) (by decide)]; exact h4
  · rw [g22, ef 35 (by decide) (by decide) (by decide) (by decide) (by decide) (by decide)]; exact e1
  · rw [f36, d36]; omega
  · rw [g18, g19, d18, d19]
    by_cases ce : e = lo + m
    · rw [if_pos ce, if_pos ce, e19]; omega
    · rw [if_neg ce, if_neg ce]; exact e5 e a1 (by omega)
  · rw [f31]; omega
  · rw [f31]; exact d31b
  · rw [g18, g19, d18, d19, f31]
    by_cases ce : e = lo + m
    · rw [if_pos ce, if_pos ce, e19]; omega
    · rw [if_neg ce, if_neg ce]
      have := e8 e a1 (by omega)
      omega
  · rw [g31, g35]; exact h7
  · by_cases cj : j = lo + m
    · rw [cj]; omega
    · rw [r10 j cj]; exact h8 j
  · rw [g35]; exact h9
  · rw [g9, d9]
    by_cases ce : e = lo + m
    · rw [if_pos ce, ce]
      exact ⟨⟨r10s, r10n.2⟩, r16n⟩
    · rw [if_neg ce, r10 e ce, r15 e ce]
      have h10' := h10 e a1 (by omega)
      refine ⟨h10'.1, fun h9' j hj => ?_⟩
      rcases r16 (8 * e + j) with h | h
      · rw [h]; exact h10'.2 h9' j hj
      · exact h
  · rw [ef 54 (by decide) (by decide) (by decide) (by decide) (by decide) (by decide)]; exact q2
  · rw [ef 49 (by decide) (by decide) (by decide) (by decide) (by decide) (by decide)]; exact q3
  · rw [ef 15 (by decide) (by decide) (by decide) (by decide) (by decide) (by decide)]; exact q4
/-- what lay() leaves, or nothing -/
def LYf (s2 s3 : St) (v ex : Int32) (D : Nat) (cells : Int) : Prop := (s3 = s2 ∧ (v.toInt < 0 ∨ ex.toInt ≠ 0)) ∨ (ex.toInt = 0 ∧ ∃ r : Nat, v.toInt = (r : Int) ∧ Kp [(0, 12), (0, 13), (0, 37)] [13, 17] s2 s3 ∧ FTq s2 s3 (16000 < (D : Int) + cells) ∧ (∀ j, s3 13 j = if j = r then 1 else s2 13 j) ∧ ((D : Int) + cells ≤ 16000 → (s3 0 37).toInt = (D : Int) + cells) ∧ (16000 < (D : Int) + cells → s3 0 37 = s2 0 37) ∧ ∀ j, s3 17 j = if j = r then s2 0 37 else s2 17 j)
def BDm (σ : St) (m lo : Nat) (ty kn st ex : Int32) (rr : Int) (B : Prop) (D : Nat) (cells : Int) : Prop := ((rr = -1 ∧ m = 100) ∨ ∃ r : Nat, rr = ((lo + r : Nat) : Int) ∧ ¬ JNm σ (lo + r) ty kn st ex) ∨ B ∨ (ex.toInt = 0 ∧ 16000 < (D : Int) + cells)
theorem gn_fin (hG : RGs kd vl n S m lo d σ) (hu : u ≤ n) (ku : kd u = 2) (hty : 0 ≤ ty.toInt ∧ ty.toInt ≤ 8) (hD : (σ 0 37).toInt = (D : Int)) (hD9 : D ≤ 16000) (hc : 1 ≤ cells) (hst : st = 0 ∨ st = 1) (hgn : GNf σ s lo m u v ty kn st ex rr) (k : Kp [(0, 12), (0, 13)] [] s s2) (f : FTq s s2 B) (hly : LYf s2 s3 v ex D cells) : ∃ m', RGs kd vl n S m' lo d s3 ∧ s3 0 10 = σ 0 10 ∧ s3 0 57 = σ 0 57 ∧ FTq σ s3 (BDm σ m lo ty kn st ex rr B D cells) ∧ (¬ BDm σ m lo ty kn st ex rr B D cells → GDf σ s3 u m lo m' ty kn (ex.toInt ≠ 0) (st.toInt ≠ 0) rr cells) := by
  have h0 := rgq_0 hG.1
  rcases hgn with ⟨hr, h100, hv, k1, f1⟩ | ⟨hr, hm, hl, hv, s1, hd, es⟩ | ⟨r, hr, hrm, k1, f1, r11, r11e, v1, v2⟩
  · have hly' : s3 = s2 := by
      rcases hly with h | ⟨_, q, hq, _⟩
      · exact h.1
      · omega
    rw [hly']
    have kz : Kp [(0, 12), (0, 13)] [] σ s2 := kp_tr k1 k
    have hbd : BDm σ m lo ty kn st ex rr B D cells := Or.inl (Or.inl ⟨hr, h100⟩)
    exact ⟨m, rg_ds hG (ds_k kz rfl rfl) f.1, kz 0 10 rfl rfl, kz 0 57 rfl rfl, ft_iff (ft_tr f1 f (k1 0 15 rfl rfl)) ⟨fun _ => hbd, fun _ => Or.inl trivial⟩, fun h => absurd hbd h⟩
  · have nv : ¬ v.toInt < 0 := by omega
    have evb : vp_nar .boolean st = st := by
      rcases hst with h | h <;> rw [h] <;> rfl
    rw [evb] at es
    have ks : Kp [(0, 10), (0, 12), (0, 13), (0, 37)] [10, 11, 12, 13, 15, 16, 17] s1 s := by
      rw [es]
      exact kp_a (kp_a (kp_a kp_rf rfl) rfl) rfl
    have nn := dcf_n hd
    have s1e : s1 10 = σ 10 := nn 10 (by decide) (by decide) (by decide) (by decide) (by decide) (by decide) (by decide) (by decide)
    have s11e : s1 11 = σ 11 := nn 11 (by decide) (by decide) (by decide) (by decide) (by decide) (by decide) (by decide) (by decide)
    have s12e : s1 12 = σ 12 := nn 12 (by decide) (by decide) (by decide) (by decide) (by decide) (by decide) (by decide) (by decide)
    have s15e : s1 15 = σ 15 := nn 15 (by decide) (by decide) (by decide) (by decide) (by decide) (by decide) (by decide) (by decide)
    have s16e : s1 16 = σ 16 := nn 16 (by decide) (by decide) (by decide) (by decide) (by decide) (by decide) (by decide) (by decide)
    have a10 : ∀ j, s 10 j = if j = lo + m then ty else σ 10 j := fun j => by rw [es, rdC_ne (by decide), rdC_ne (by decide), rdC_eq, s1e]
    have a11 : ∀ j, s 11 j = if j = lo + m then kn else σ 11 j := fun j => by rw [es, rdC_ne (by decide), rdC_eq, rdC_ne (by decide), s11e]
    have a12 : ∀ j, s 12 j = if j = lo + m then st else σ 12 j := fun j => by rw [es, rdC_eq, rdC_ne (by decide), rdC_ne (by decide), s12e]
    have a15 : s 15 = σ 15 := by rw [es, rdC_ne (by decide), rdC_ne (by decide), rdC_ne (by decide), s15e]
    have a16 : s 16 = σ 16 := by rw [es, rdC_ne (by decide), rdC_ne (by decide), rdC_ne (by decide), s16e]
    have a17 : s 17 = s1 17 := by rw [es, rdC_ne (by decide), rdC_ne (by decide), rdC_ne (by decide)]
    have a13 : s 13 = s1 13 := by rw [es, rdC_ne (by decide), rdC_ne (by decide), rdC_ne (by decide)]
    have fld : ∀ x, s 0 x = s1 0 x := fun x => by rw [es, rdC_ne (by decide), rdC_ne (by decide), rdC_ne (by decide)]
    have e12 : s 0 12 = σ 0 12 := (fld 12).trans (hd.1 0 12 rfl rfl)
    have e15 : s 0 15 = σ 0 15 := (fld 15).trans (hd.1 0 15 rfl rfl)
    have e37 : s 0 37 = σ 0 37 := (fld 37).trans (hd.1 0 37 rfl rfl)
    have e10 : s 0 10 = σ 0 10 := (fld 10).trans (hd.1 0 10 rfl rfl)
    have e57 : s 0 57 = σ 0 57 := (fld 57).trans (hd.1 0 57 rfl rfl)
    have hd' := hd
    obtain ⟨_, _, _, _, _, d13, _⟩ := hd'
    -- the end, whatever lay() did
    have fin : ∀ (s3 : St), Kp [(0, 12), (0, 13), (0, 37)] [13, 17] s s3 → FTq s s3 (B ∨ (ex.toInt = 0 ∧ 16000 < (D : Int) + cells)) → (∃ D : Nat, (s3 0 37).toInt = (D : Int) ∧ D ≤ 16000) → (∀ j, j ≠ lo + m → s3 13 j = s 13 j) → ((s3 13 (lo + m)).toInt ≠ 0 ↔ ¬ ex.toInt ≠ 0) → (∀ j, j ≠ lo + m → s3 17 j = s 17 j) → (ex.toInt = 0 → s3 17 (lo + m) = s 0 37) → (ex.toInt ≠ 0 → s3 0 37 = s 0 37) → (ex.toInt = 0 → (D : Int) + cells ≤ 16000 → (s3 0 37).toInt = (D : Int) + cells) → ∃ m', RGs kd vl n S m' lo d s3 ∧ s3 0 10 = σ 0 10 ∧ s3 0 57 = σ 0 57 ∧ FTq σ s3 (BDm σ m lo ty kn st ex rr B D cells) ∧ (¬ BDm σ m lo ty kn st ex rr B D cells → GDf σ s3 u m lo m' ty kn (ex.toInt ≠ 0) (st.toInt ≠ 0) rr cells) := fun s3 k3 f3 hD3 r13 r13n r17 r17n gx gn => by
      have kk1 : Kp [(0, 10), (0, 12), (0, 13), (0, 37)] [10, 11, 12, 13, 15, 16, 17] s1 s3 := kp_tr ks (kp_sub k3 rfl rfl)
      have b10 : ∀ j, s3 10 j = if j = lo + m then ty else σ 10 j := fun j => by rw [k3 10 j rfl rfl, a10]
      have b11 : ∀ j, s3 11 j = if j = lo + m then kn else σ 11 j := fun j => by rw [k3 11 j rfl rfl, a11]
      have b12 : ∀ j, s3 12 j = if j = lo + m then st else σ 12 j := fun j => by rw [k3 12 j rfl rfl, a12]
      have b15 : s3 15 = σ 15 := by rw [← a15]; exact funext (fun j => k3 15 j rfl rfl)
      have b16 : s3 16 = σ 16 := by rw [← a16]; exact funext (fun j => k3 16 j rfl rfl)
      have b13 : ∀ j, j ≠ lo + m → s3 13 j = σ 13 j := fun j hj => by rw [r13 j hj, a13, d13, if_neg hj]
      refine ⟨m + 1, rg_decl hG hm hl hu ku hd kk1 (fun j hj => by rw [b10, if_neg hj]) (by rw [b10, if_pos rfl]; omega) (fun _ => by rw [b10, if_pos rfl]; omega) (fun j _ => by rw [b15]) (fun x => Or.inl (by rw [b16])) (fun h => absurd rfl h) hD3 f3.1, by rw [k3 0 10 rfl rfl, e10], by rw [k3 0 57 rfl rfl, e57], ?_, fun nb => ⟨fun _ => ⟨rfl, s1, hd, kk1, b15, b16, b10, b11, fun j hj => by rw [b12, if_neg hj], ⟨by rw [b12, if_pos rfl], by rw [b12, if_pos rfl]; rcases hst with h | h <;> rw [h] <;> decide⟩, b13, r13n, fun j hj => by rw [r17 j hj, a17, nn 17 (by decide) (by decide) (by decide) (by decide) (by decide) (by decide) (by decide) (by decide)], fun h => by rw [r17n (Decidable.byContradiction h), e37]⟩, fun r hr2 => by omega, fun h => by rw [gx h, e37], fun h => ?_⟩⟩
      · refine ft_from e12 e15 (ft_iff f3 ?_)
        unfold BDm
        constructor
        · rintro h
          exact Or.inr h
        · rintro (h | h)
          · rcases h with h | ⟨r, h, _⟩
            · omega
            · omega
          · exact h
      · have h0' : ex.toInt = 0 := Decidable.byContradiction h
        rw [hD]
        refine gn h0' ?_
        have : ¬ (16000 < (D : Int) + cells) := fun hx => nb (Or.inr (Or.inr ⟨h0', hx⟩))
        omega
    rcases hly with ⟨e3, hx⟩ | ⟨hex, q, hq, k3, f3, g13, gD1, gD2, g17⟩
    · rw [e3]
      have hex : ex.toInt ≠ 0 := hx.elim (fun h => absurd h nv) id
      refine fin s2 (kp_sub k rfl rfl) (ft_iff f ⟨Or.inl, fun h => h.elim id (fun h => absurd h.1 hex)⟩) ⟨D, by rw [k 0 37 rfl rfl, e37]; exact hD, hD9⟩ (fun j _ => k 13 j rfl rfl) ⟨fun h => ?_, fun h => absurd hex h⟩ (fun j _ => k 17 j rfl rfl) (fun h => absurd h hex) (fun _ => k 0 37 rfl rfl) (fun h => absurd h hex)
      rw [k 13 (lo + m) rfl rfl, a13, d13, if_pos rfl] at h
      exact absurd rfl h
    · have eq : q = lo + m := by omega
      rw [eq] at g13 g17
      have e2D : (s2 0 37).toInt = (D : Int) := by rw [k 0 37 rfl rfl, e37]; exact hD
      refine fin s3 (kp_tr (kp_sub k rfl rfl) k3) (ft_iff (ft_tr f f3 (k 0 15 rfl rfl)) ⟨fun h => h.imp id (fun h => ⟨hex, h⟩), fun h => h.imp id (fun h => h.2)⟩) ?_ (fun j hj => by rw [g13, if_neg hj, k 13 j rfl rfl]) ⟨fun _ h => h hex, fun _ => by rw [g13, if_pos rfl]; decide⟩ (fun j hj => by rw [g17, if_neg hj, k 17 j rfl rfl]) (fun _ => by rw [g17, if_pos rfl, k 0 37 rfl rfl]) (fun h => absurd hex h) (fun _ h => gD1 h)
      by_cases c : (D : Int) + cells ≤ 16000
      · exact ⟨((D : Int) + cells).toNat, by rw [gD1 c]; omega, by omega⟩
      · exact ⟨D, by rw [gD2 (by omega)]; exact e2D, hD9⟩
  · have k2 : Kp [(0, 12), (0, 13)] [11] σ s2 := kp_tr k1 (kp_sub k rfl rfl)
    have f2 : FTq σ s2 (¬ JNm σ (lo + r) ty kn st ex ∨ B) := ft_tr f1 f (k1 0 15 rfl rfl)
    have b11 : ∀ j, s2 11 j = s 11 j := fun j => k 11 j rfl rfl
    have fin : ∀ (s3 : St), Kp [(0, 12), (0, 13), (0, 37)] [13, 17] s2 s3 → FTq σ s3 (BDm σ m lo ty kn st ex rr B D cells) → (∃ D : Nat, (s3 0 37).toInt = (D : Int) ∧ D ≤ 16000) → (∀ j, j ≠ lo + r → s3 13 j = s2 13 j) → (¬ BDm σ m lo ty kn st ex rr B D cells → ((s3 13 (lo + r)).toInt ≠ 0 ↔ ¬ ex.toInt ≠ 0 ∨ (σ 13 (lo + r)).toInt ≠ 0)) → (∀ j, j ≠ lo + r → s3 17 j = s2 17 j) → (¬ BDm σ m lo ty kn st ex rr B D cells → ex.toInt = 0 → s3 17 (lo + r) = s2 0 37) → (¬ BDm σ m lo ty kn st ex rr B D cells → ex.toInt ≠ 0 → s3 17 (lo + r) = s2 17 (lo + r)) → (ex.toInt ≠ 0 → s3 0 37 = s2 0 37) → (¬ BDm σ m lo ty kn st ex rr B D cells → ex.toInt = 0 → (s3 0 37).toInt = (D : Int) + cells) → ∃ m', RGs kd vl n S m' lo d s3 ∧ s3 0 10 = σ 0 10 ∧ s3 0 57 = σ 0 57 ∧ FTq σ s3 (BDm σ m lo ty kn st ex rr B D cells) ∧ (¬ BDm σ m lo ty kn st ex rr B D cells → GDf σ s3 u m lo m' ty kn (ex.toInt ≠ 0) (st.toInt ≠ 0) rr cells) := fun s3 k3 f3 hD3 r13 r13e r17 r17e r17x gx gn => by
      have kz : Kp [(0, 10), (0, 12), (0, 13), (0, 37)] [11, 13, 17] σ s3 := kp_tr (kp_sub k2 rfl rfl) (kp_sub k3 rfl rfl)
      have c11 : ∀ j, s3 11 j = s 11 j := fun j => by rw [k3 11 j rfl rfl, b11]
      refine ⟨m, rg_fr hG kz hD3 f3.1, by rw [k3 0 10 rfl rfl]; exact k2 0 10 rfl rfl, kz 0 57 rfl rfl, f3, fun nb => ⟨fun h => by omega, fun r' hr' => ?_, fun h => by rw [gx h]; exact k2 0 37 rfl rfl, fun h => by rw [hD]; exact gn nb (Decidable.byContradiction h)⟩⟩
      have er : r' = r := by omega
      rw [er]
      have jn : JNm σ (lo + r) ty kn st ex := Classical.byContradiction (fun h => nb (Or.inl (Or.inr ⟨r, hr, h⟩)))
      exact ⟨rfl, kz, fun j hj => by rw [c11]; exact r11 j hj, by rw [c11]; exact r11e jn, fun j hj => by rw [r13 j hj]; exact k2 13 j rfl rfl, r13e nb, fun j hj => by rw [r17 j hj]; exact k2 17 j rfl rfl, fun h => by rw [r17e nb (Decidable.byContradiction h)]; exact k2 0 37 rfl rfl, fun h => by rw [r17x nb h]; exact k2 17 (lo + r) rfl rfl⟩
    have njv : v.toInt < 0 → ¬ JNm σ (lo + r) ty kn st ex := fun h hx => by
      have := v1 hx.1.1
      omega
    have bd1 : BDm σ m lo ty kn st ex rr B D cells ↔ (¬ JNm σ (lo + r) ty kn st ex ∨ B) ∨ (ex.toInt = 0 ∧ 16000 < (D : Int) + cells) := by
      unfold BDm
      constructor
      · rintro ((h | ⟨q, h1, h2⟩) | h | h)
        · omega
        · have : q = r := by omega
          rw [this] at h2
          exact Or.inl (Or.inl h2)
        · exact Or.inl (Or.inr h)
        · exact Or.inr h
      · rintro ((h | h) | h)
        · exact Or.inl (Or.inr ⟨r, hr, h⟩)
        · exact Or.inr (Or.inl h)
        · exact Or.inr (Or.inr h)
    have e2D : (s2 0 37).toInt = (D : Int) := by rw [k2 0 37 rfl rfl]; exact hD
    rcases hly with ⟨e3, hx⟩ | ⟨hex, q, hq, k3, f3, g13, gD1, gD2, g17⟩
    · rw [e3]
      have imp : ¬ BDm σ m lo ty kn st ex rr B D cells → ex.toInt ≠ 0 := fun nb => hx.elim (fun h => absurd (bd1.2 (Or.inl (Or.inl (njv h)))) nb) id
      refine fin s2 kp_rf (ft_iff f2 ?_) ⟨D, e2D, hD9⟩ (fun j _ => rfl) (fun nb => ?_) (fun j _ => rfl) (fun nb h => absurd h (imp nb)) (fun _ _ => rfl) (fun _ => rfl) (fun nb h => absurd h (imp nb))
      · rw [bd1]
        exact ⟨Or.inl, fun h => h.elim id (fun h => Or.inl (hx.elim njv (fun h2 => absurd h.1 h2)))⟩
      · rw [k2 13 (lo + r) rfl rfl]
        exact ⟨Or.inr, fun h => h.elim (fun h => absurd (imp nb) h) id⟩
    · have eq : (σ 9 (lo + r)).toInt = 1 → q = lo + r := fun h => by have := v1 h; omega
      have e9 : (σ 9 (lo + r)).toInt = 1 := Decidable.byContradiction (fun h => by have := v2 h; omega)
      have eq2 := eq e9
      rw [eq2] at g13 g17
      refine fin s3 k3 (ft_iff (ft_tr f2 f3 (k2 0 15 rfl rfl)) ?_) ?_ (fun j hj => by rw [g13, if_neg hj]) (fun _ => ⟨fun _ => Or.inl (fun h => h hex), fun _ => by rw [g13, if_pos rfl]; decide⟩) (fun j hj => by rw [g17, if_neg hj]) (fun _ _ => by rw [g17, if_pos rfl]) (fun _ h => absurd hex h) (fun h => absurd hex h) (fun nb _ => gD1 ?_)
      · rw [bd1]
        exact ⟨fun h => h.imp id (fun h => ⟨hex, h⟩), fun h => h.imp id (fun h => h.2)⟩
      · by_cases c : (D : Int) + cells ≤ 16000
        · exact ⟨((D : Int) + cells).toNat, by rw [gD1 c]; omega, by omega⟩
        · exact ⟨D, by rw [gD2 (by omega)]; exact e2D, hD9⟩
      · have : ¬ (16000 < (D : Int) + cells) := fun hx => nb (bd1.2 (Or.inr ⟨hex, hx⟩))
        omega
end GRF
