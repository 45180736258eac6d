/-! the walk: a step of a statement -/
theorem nzr_nz {K : List Nat} : nzr K ≤ nz K := by
  unfold nz
  omega
theorem zc_0 {K : List Nat} : zc (0 :: K) = zc K + 1 := by
  unfold zc
  rw [List.filter_cons_of_pos (by decide)]
  rfl
theorem zc_s {c : Nat} {K : List Nat} (h : 1 ≤ c) : zc (c :: K) = zc K := by
  unfold zc
  rw [List.filter_cons_of_neg (by
    intro h2
    have := of_decide_eq_true h2
    omega)]
theorem ini_tp {K : List Nat} (h : tpK K) : ¬ inI K := by
  rintro ⟨c, K', e, hc⟩
  rcases h with h | ⟨K2, h⟩
  · rw [h] at e
    cases e
  · rw [h] at e
    have := (List.cons.inj e).1
    omega
theorem ini_bd {K : List Nat} (h : bdK K) : ¬ inI K := by
  rintro ⟨c, K', e, hc⟩
  rcases h with h | ⟨c2, K2, h, h2⟩
  · rw [h] at e
    cases e
  · rw [h] at e
    have := (List.cons.inj e).1
    omega
theorem ini_nz {K : List Nat} (h : nz K ≤ 100) : ¬ inI K := by
  rintro ⟨c, K', e, hc⟩
  rw [e] at h
  unfold nz at h
  have e2 : ((c :: K').filter (fun c => decide (9 ≤ c))).length = (K'.filter (fun c => decide (9 ≤ c))).length + 1 := by
    rw [List.filter_cons_of_pos (by exact decide_eq_true hc)]
    rfl
  rw [e2] at h
  omega
theorem ini_c {c : Nat} {K : List Nat} (h : c < 9) : ¬ inI (c :: K) := by
  rintro ⟨c2, K', e, hc⟩
  have := (List.cons.inj e).1
  omega
theorem zc_le {K : List Nat} : zc K ≤ K.length := List.length_filter_le _ _
def DZS (a : Int) (K K' : List Nat) : Prop := ¬ inI K ∧ (nzr K ≤ 25 → nzr K' ≤ 25) ∧ (wfK K → wfK K' ∧ ¬ inI K') ∧ (a ≠ 20 → a ≠ 21 → zc K' = zc K) ∧ (a = 20 → K' = 0 :: K) ∧ (a = 21 → K = 0 :: K') ∧ K'.length ≤ K.length + 1
theorem dz_st {a : Int} {f1 f2 : Int32} {K : List Nat} {A : List It} {z' : Zs} (h : dz a f1 f2 (1, K, A) z') (hr : 20 ≤ a ∧ a ≤ 38) : ∃ K', z' = (1, K', []) ∧ DZS a K K' := by
  have c : a = 20 ∨ a = 21 ∨ a = 22 ∨ a = 23 ∨ a = 24 ∨ a = 25 ∨ a = 26 ∨ a = 27 ∨ a = 28 ∨ a = 29 ∨ a = 30 ∨ a = 31 ∨ a = 32 ∨ a = 33 ∨ a = 34 ∨ a = 35 ∨ a = 36 ∨ a = 37 ∨ a = 38 ∨ a = 39 := by omega
  rcases c with c | c | c | c | c | c | c | c | c | c | c | c | c | c | c | c | c | c | c | c
  · obtain ⟨K1, e1, e2, q1, q2⟩ := dzi_20 h c
    obtain ⟨-, e3, -⟩ := zs_inj e1
    subst e3
    exact ⟨0 :: K1, e2, ini_bd q2, fun z => by rw [nz_0 (Or.inl rfl)]; exact z, fun w => ⟨⟨fun _ => q2, fun z => absurd z (by decide), w⟩, ini_c (by decide)⟩, fun z => absurd c z, fun _ => rfl, fun z => by omega, by first | omega | (simp only [List.length_cons]; omega)⟩
  · obtain ⟨K1, e1, e2⟩ := dzi_21 h c
    obtain ⟨-, e3, -⟩ := zs_inj e1
    subst e3
    exact ⟨K1, e2, ini_c (by decide), fun z => by rw [nz_0 (Or.inl rfl)] at z; exact z, fun w => ⟨w.2.2, ini_bd (w.1 rfl)⟩, fun _ z => absurd c z, fun z => by omega, fun _ => rfl, by first | omega | (simp only [List.length_cons]; omega)⟩
  · obtain ⟨K1, e1, e2, q⟩ := dzi_22 h c
    obtain ⟨-, e3, -⟩ := zs_inj e1
    subst e3
    exact ⟨K1, e2, ini_nz q, id, fun w => ⟨w, ini_nz q⟩, fun _ _ => rfl, fun z => by omega, fun z => by omega, by first | omega | (simp only [List.length_cons]; omega)⟩
  · obtain ⟨K1, e1, e2, q⟩ := dzi_23 h c
    obtain ⟨-, e3, -⟩ := zs_inj e1
    subst e3
    exact ⟨1 :: K1, e2, ini_tp q.2, fun _ => by rw [nz_c (by decide)]; have := nzr_nz (K := K1); have := q.1; omega, fun w => ⟨⟨fun z => absurd z (by decide), fun _ => q.2, w⟩, ini_c (by decide)⟩, fun _ _ => zc_s (by decide), fun z => by omega, fun z => by omega, by first | omega | (simp only [List.length_cons]; omega)⟩
  · obtain ⟨K1, e1, e2⟩ := dzi_24 h c
    obtain ⟨-, e3, -⟩ := zs_inj e1
    subst e3
    exact ⟨1 :: K1, e2.trans e1, ini_c (by decide), id, fun w => ⟨w, ini_c (by decide)⟩, fun _ _ => rfl, fun z => by omega, fun z => by omega, by first | omega | (simp only [List.length_cons]; omega)⟩
  · obtain ⟨K1, e1, e2⟩ := dzi_25 h c
    obtain ⟨-, e3, -⟩ := zs_inj e1
    subst e3
    exact ⟨K1, e2, ini_c (by decide), fun z => by rw [nz_c (by decide)] at z; omega, fun w => ⟨w.2.2, ini_tp (w.2.1 (by decide))⟩, fun _ _ => (zc_s (by decide)).symm, fun z => by omega, fun z => by omega, by first | omega | (simp only [List.length_cons]; omega)⟩
  · obtain ⟨K1, e1, e2, q⟩ := dzi_26 h c
    obtain ⟨-, e3, -⟩ := zs_inj e1
    subst e3
    exact ⟨2 :: K1, e2, ini_tp q.2, fun _ => by rw [nz_c (by decide)]; have := nzr_nz (K := K1); have := q.1; omega, fun w => ⟨⟨fun z => absurd z (by decide), fun _ => q.2, w⟩, ini_c (by decide)⟩, fun _ _ => zc_s (by decide), fun z => by omega, fun z => by omega, by first | omega | (simp only [List.length_cons]; omega)⟩
  · obtain ⟨K1, e1, e2⟩ := dzi_27 h c
    obtain ⟨-, e3, -⟩ := zs_inj e1
    subst e3
    exact ⟨3 :: K1, e2, ini_c (by decide), fun z => by rw [nz_c (by decide)] at z ⊢; exact z, fun w => ⟨⟨fun z => absurd z (by decide), fun _ => w.2.1 (by decide), w.2.2⟩, ini_c (by decide)⟩, fun _ _ => (zc_s (by decide)).trans (zc_s (by decide)).symm, fun z => by omega, fun z => by omega, by first | omega | (simp only [List.length_cons]; omega)⟩
  · obtain ⟨K1, e1, e2⟩ := dzi_28 h c
    obtain ⟨-, e3, -⟩ := zs_inj e1
    subst e3
    exact ⟨K1, e2, ini_c (by decide), fun z => by rw [nz_c (by decide)] at z; omega, fun w => ⟨w.2.2, ini_tp (w.2.1 (by decide))⟩, fun _ _ => (zc_s (by decide)).symm, fun z => by omega, fun z => by omega, by first | omega | (simp only [List.length_cons]; omega)⟩
  · obtain ⟨K1, e1, e2, q⟩ := dzi_29 h c
    obtain ⟨-, e3, -⟩ := zs_inj e1
    subst e3
    exact ⟨4 :: K1, e2, ini_tp q.2, fun _ => by rw [nz_c (by decide)]; have := nzr_nz (K := K1); have := q.1; omega, fun w => ⟨⟨fun z => absurd z (by decide), fun _ => q.2, w⟩, ini_c (by decide)⟩, fun _ _ => zc_s (by decide), fun z => by omega, fun z => by omega, by first | omega | (simp only [List.length_cons]; omega)⟩
  · obtain ⟨K1, e1, e2⟩ := dzi_30 h c
    obtain ⟨-, e3, -⟩ := zs_inj e1
    subst e3
    exact ⟨5 :: K1, e2, ini_c (by decide), fun z => by rw [nz_c (by decide)] at z ⊢; exact z, fun w => ⟨⟨fun z => absurd z (by decide), fun _ => w.2.1 (by decide), w.2.2⟩, ini_c (by decide)⟩, fun _ _ => (zc_s (by decide)).trans (zc_s (by decide)).symm, fun z => by omega, fun z => by omega, by first | omega | (simp only [List.length_cons]; omega)⟩
  · obtain ⟨K1, e1, e2⟩ := dzi_31 h c
    obtain ⟨-, e3, -⟩ := zs_inj e1
    subst e3
    exact ⟨K1, e2, ini_c (by decide), fun z => by rw [nz_c (by decide)] at z; omega, fun w => ⟨w.2.2, ini_tp (w.2.1 (by decide))⟩, fun _ _ => (zc_s (by decide)).symm, fun z => by omega, fun z => by omega, by first | omega | (simp only [List.length_cons]; omega)⟩
  · obtain ⟨K1, e1, e2, q⟩ := dzi_32 h c
    obtain ⟨-, e3, -⟩ := zs_inj e1
    subst e3
    exact ⟨6 :: K1, e2, ini_tp q.2, fun _ => by rw [nz_c (by decide)]; have := nzr_nz (K := K1); have := q.1; omega, fun w => ⟨⟨fun z => absurd z (by decide), fun _ => q.2, w⟩, ini_c (by decide)⟩, fun _ _ => zc_s (by decide), fun z => by omega, fun z => by omega, by first | omega | (simp only [List.length_cons]; omega)⟩
  · obtain ⟨K1, e1, e2⟩ := dzi_33 h c
    obtain ⟨-, e3, -⟩ := zs_inj e1
    subst e3
    exact ⟨7 :: K1, e2, ini_c (by decide), fun z => by rw [nz_c (by decide)] at z ⊢; exact z, fun w => ⟨⟨fun z => absurd z (by decide), fun _ => w.2.1 (by decide), w.2.2⟩, ini_c (by decide)⟩, fun _ _ => (zc_s (by decide)).trans (zc_s (by decide)).symm, fun z => by omega, fun z => by omega, by first | omega | (simp only [List.length_cons]; omega)⟩
  · obtain ⟨K1, e1, e2⟩ := dzi_34 h c
    obtain ⟨-, e3, -⟩ := zs_inj e1
    subst e3
    exact ⟨8 :: K1, e2, ini_c (by decide), fun z => by rw [nz_c (by decide)] at z ⊢; exact z, fun w => ⟨⟨fun z => absurd z (by decide), fun _ => w.2.1 (by decide), w.2.2⟩, ini_c (by decide)⟩, fun _ _ => (zc_s (by decide)).trans (zc_s (by decide)).symm, fun z => by omega, fun z => by omega, by first | omega | (simp only [List.length_cons]; omega)⟩
  · obtain ⟨K1, e1, e2⟩ := dzi_35 h c
    obtain ⟨-, e3, -⟩ := zs_inj e1
    subst e3
    exact ⟨K1, e2, ini_c (by decide), fun z => by rw [nz_c (by decide)] at z; omega, fun w => ⟨w.2.2, ini_tp (w.2.1 (by decide))⟩, fun _ _ => (zc_s (by decide)).symm, fun z => by omega, fun z => by omega, by first | omega | (simp only [List.length_cons]; omega)⟩
  · obtain ⟨K1, e1, e2, q⟩ := dzi_36 h (Or.inl c)
    obtain ⟨-, e3, -⟩ := zs_inj e1
    subst e3
    exact ⟨K1, e2.trans e1, ini_tp q.2, id, fun w => ⟨w, ini_tp q.2⟩, fun _ _ => rfl, fun z => by omega, fun z => by omega, by first | omega | (simp only [List.length_cons]; omega)⟩
  · obtain ⟨K1, e1, e2, q⟩ := dzi_36 h (Or.inr c)
    obtain ⟨-, e3, -⟩ := zs_inj e1
    subst e3
    exact ⟨K1, e2.trans e1, ini_tp q.2, id, fun w => ⟨w, ini_tp q.2⟩, fun _ _ => rfl, fun z => by omega, fun z => by omega, by first | omega | (simp only [List.length_cons]; omega)⟩
  · obtain ⟨K1, e1, e2, q⟩ := dzi_38 h c
    obtain ⟨-, e3, -⟩ := zs_inj e1
    subst e3
    exact ⟨K1, e2, ini_nz q, id, fun w => ⟨w, ini_nz q⟩, fun _ _ => rfl, fun z => by omega, fun z => by omega, by first | omega | (simp only [List.length_cons]; omega)⟩
  · exfalso
    have := (dz_rng h).2.2.1
    omega
section WS2
variable {σ s z t ρ : St} {g g' g1 : Gh} {X X0 Y : Nat → Prop} {b e e0 e' H H0 H' L L' m n N N' Nb c d p tt j i F hd : Nat} {K K2 M E G D : List Nat} {A B : List It} {x y v a : Int32}
theorem fn_oc (h : FNi σ 1 K Nb b) (hk : K.length ≤ 100000) (ha : (s = opSt σ ∧ M = 0 :: K) ∨ (s = clSt σ ∧ K = 0 :: M)) : FNi s 1 M Nb b := by
  obtain ⟨d, a1, a2, a3, a4, a5, a6, a7, a8, a9, b1, b2, b3, b4, b5⟩ := h
  rcases ha with ⟨rfl, rfl⟩ | ⟨rfl, rfl⟩
  · have zl0 := zc_le (K := K)
    have oc := op_cells (σ := σ)
    have r : ∀ j, j ≠ 15 → j ≠ 17 → opSt σ 6 j = σ 6 j := oc.2.1
    have s15 : opSt σ 6 15 = σ 6 15 := by
      unfold opSt
      rw [rdA_ne (by decide), rdF_ne (by decide)]
    have s17 : (opSt σ 6 17).toInt = (σ 6 17).toInt + 1 := by
      unfold opSt
      rw [rdC_eq]
      show ((σ 6 17) + (1 : Int32)).toInt = _
      exact ad0 i1 (by omega) (by omega)
    have s45 : opSt σ 45 = setv 52 (σ 45) (σ 6 17) (σ 6 15) := by
      unfold opSt
      rw [rdC_ne (by decide), rdF_eq]
    refine ⟨d, by rw [r 6 (by decide) (by decide)]; exact a1, ?_, ?_, ?_, ?_, ?_, a7, ?_, ?_, ?_, ?_, fun j j1 j2 => ?_, fun j hj => ?_, fun z => absurd z (by decide)⟩
    · rw [show opSt σ 5 1 = σ 5 1 from oc.1 5 1 (by decide) (by decide), r 7 (by decide) (by decide)]
      exact a2
    · rw [show opSt σ 5 1 = σ 5 1 from oc.1 5 1 (by decide) (by decide)]
      exact a3
    · rw [show opSt σ 25 d = σ 25 d from oc.1 25 d (by decide) (by decide)]
      exact a4
    · rw [show opSt σ 25 d = σ 25 d from oc.1 25 d (by decide) (by decide)]
      exact a5
    · rw [show opSt σ 28 d = σ 28 d from oc.1 28 d (by decide) (by decide)]
      exact a6
    · rw [show opSt σ 27 d = σ 27 d from oc.1 27 d (by decide) (by decide)]
      exact a8
    · rw [r 10 (by decide) (by decide)]
      exact a9
    · rw [r 10 (by decide) (by decide), s15]
      exact b1
    · rw [s17, b2, zc_0]
      omega
    · rw [r 10 (by decide) (by decide), s45]
      rcases setv_cases 52 (σ 45) (σ 6 17) (σ 6 15) with ⟨q1, q2⟩ | ⟨k, q1, q2, q3⟩
      · rw [q1]
        exact b3 j j1 (by omega)
      · rw [q3]
        show 0 ≤ (if j = k then σ 6 15 else σ 45 j).toInt ∧ (if j = k then σ 6 15 else σ 45 j).toInt ≤ _
        by_cases ej : j = k
        · rw [if_pos ej]
          exact b1
        · rw [if_neg ej]
          exact b3 j j1 (by omega)
    · rw [r 10 (by decide) (by decide)] at hj
      rw [show opSt σ 42 j = σ 42 j from oc.1 42 j (by decide) (by decide)]
      exact b4 j hj
  · have oc := cl_cells (σ := σ)
    have r : ∀ j, j ≠ 15 → j ≠ 17 → clSt σ 6 j = σ 6 j := oc.2.1
    rw [zc_0] at b2
    have zl := zc_le (K := M)
    simp only [List.length_cons] at hk
    have e17 : ((σ 6 17) - (1 : Int32)).toInt = 1 + zc M := by
      rw [sbc i1 (by omega) (by omega), b2]
      omega
    have s17 : (clSt σ 6 17).toInt = 1 + zc M := by
      unfold clSt
      rw [rdA_ne (by decide), rdA_eq rfl]
      exact e17
    have s15 : clSt σ 6 15 = atv 52 (σ 45) ((σ 6 17) - (1 : Int32)) := by
      unfold clSt
      exact rdA_eq rfl
    have s45 : clSt σ 45 = σ 45 := by
      unfold clSt
      rw [rdC_ne (by decide), rdC_ne (by decide)]
    refine ⟨d, by rw [r 6 (by decide) (by decide)]; exact a1, ?_, ?_, ?_, ?_, ?_, a7, ?_, ?_, ?_, s17, fun j j1 j2 => ?_, fun j hj => ?_, fun z => absurd z (by decide)⟩
    · rw [show clSt σ 5 1 = σ 5 1 from oc.1 5 1 (by decide) (by decide), r 7 (by decide) (by decide)]
      exact a2
    · rw [show clSt σ 5 1 = σ 5 1 from oc.1 5 1 (by decide) (by decide)]
      exact a3
    · rw [show clSt σ 25 d = σ 25 d from oc.1 25 d (by decide) (by decide)]
      exact a4
    · rw [show clSt σ 25 d = σ 25 d from oc.1 25 d (by decide) (by decide)]
      exact a5
    · rw [show clSt σ 28 d = σ 28 d from oc.1 28 d (by decide) (by decide)]
      exact a6
    · rw [show clSt σ 27 d = σ 27 d from oc.1 27 d (by decide) (by decide)]
      exact a8
    · rw [r 10 (by decide) (by decide)]
      exact a9
    · rw [r 10 (by decide) (by decide), s15]
      rcases atv_cases 52 (σ 45) ((σ 6 17) - (1 : Int32)) with ⟨q1, q2⟩ | ⟨k, q1, q2, q3⟩
      · rw [q1, i0]
        omega
      · rw [q3]
        exact b3 k q2 (by omega)
    · rw [r 10 (by decide) (by decide), s45]
      exact b3 j j1 (by omega)
    · rw [r 10 (by decide) (by decide)] at hj
      rw [show clSt σ 42 j = σ 42 j from oc.1 42 j (by decide) (by decide)]
      exact b4 j hj
/-- a step of a statement -/
theorem ws_s {Q : St → Prop} {f1 f2 : Int32} {z' : Zs} (wk : WKs ρ σ) (h : WSx ρ σ 1 K A Nb b e0 H0 g X) (cap : (σ 4 1).toInt ≤ 262150) (hx : x.toInt = i) (hi : i < 32100) (hk : K.length ≤ 100000) (ha : a = (σ 18) i) (hr : 20 ≤ act σ i ∧ act σ i < 40) (hd : dz (act σ i) ((σ 20) i) ((σ 21) i) (1, K, A) z') (hf : (σ 6 3).toInt = 0) (k : ∀ s K', z' = (1, K', []) → K'.length ≤ K.length + 1 → KXW σ s → WKs ρ s → ((s 6 3).toInt = 0 → ∃ e1 g' X', WSx ρ s 1 K' [] Nb b e1 0 g' X' ∧ clen s ≤ clen σ + 2 * plc σ A + cst σ i) → Q s) : wk_X7_take a x σ Q := by
  have rg := dz_rng hd
  obtain ⟨K', e, d1, d2, d3, d4, d5, d6, d7⟩ := dz_st hd (by omega)
  subst e
  obtain ⟨⟨n1, n2, n3⟩, h2, h3, h4, h5, h6, h7, h8⟩ := h
  obtain ⟨h71, h72⟩ := h7 (Nat.le_refl _)
  have H00 : H0 = 0 := by
    by_cases c : H0 = 0
    · exact c
    · exfalso
      obtain ⟨⟨K2, e2⟩, -⟩ := h72 c
      exact d1 ⟨10, K2, e2, by decide⟩
  subst H00
  have ob := h71
  obtain ⟨d, -, -, -, -, -, -, -, -, l9, l1, -, l3, -⟩ := ob
  refine ss_take hx hi ha hr hd h2 n3 cap hf h4 h5 (fun s st sc => ?_)
  obtain ⟨k1, m1, ⟨w1, w2⟩, c0, c1, hv⟩ := st
  have cc := clen_eq c0
  have fn' : FNi s 1 K' Nb b := by
    by_cases c20 : act σ i = 20
    · exact fn_oc h71 hk (Or.inl ⟨sc.2.1 c20, d5 c20⟩)
    · by_cases c21 : act σ i = 21
      · exact fn_oc h71 hk (Or.inr ⟨sc.2.2 c21, d6 c21⟩)
      · obtain ⟨q1, q2, q3⟩ := sc.1 c20 c21
        exact fn_k k1 m1 q1 q2 q3 (d4 c20 c21) (fun z => absurd z (by decide)) h71
  have sn : (s 6 15).toInt ≤ 1000 ∧ -1000 ≤ (s 6 15).toInt := by
    obtain ⟨d', -, -, -, -, -, -, -, -, p9, p1, -⟩ := fn'
    clear hv h6 h72 h8
    omega
  refine k s K' rfl d7 k1 (wk_w wk k1 m1 sn (fun j hj => w1 j (by omega)) (by omega) c0) (fun hf' => ?_)
  obtain ⟨f0, g', X', sb, cl⟩ := hv hf'
  exact ⟨clen s, g', X', ⟨⟨n1, n2, w2⟩, se_nil sb, uf_w k1 m1 (fun q hq => w1 q (by omega)) h3, d2 h4, (d3 h5).1, fun c => absurd c (by decide), fun _ => ⟨fn', fun z => absurd rfl z⟩, fun c => absurd c (d3 h5).2⟩, by rw [Nat.add_assoc]; exact cl⟩
end WS2
