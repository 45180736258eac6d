/-! cell -/
section CEL
variable {σ s τ t : St} {vs z : List Nat}
theorem sp_isTray {a n : Int32} {Q : Int32 → Prop} (hM : NMo σ) (ha : 0 ≤ a.toInt ∧ a.toInt < 10000) (hn : 0 ≤ n.toInt ∧ n.toInt ≤ 16000) (k : ∀ r, Q r) : wp_isTray a n σ τ vs Q := by
  have e0 : (0 : Int32).toInt = 0 := by decide
  unfold wp_isTray
  refine ⟨ha, fun c => ?_, fun _ => k _⟩
  refine ⟨fun m x => (m : Int) = n.toInt - x.toInt ∧ 0 ≤ x.toInt, ⟨n.toInt.toNat, by omega, by omega⟩, ?_⟩
  rintro m x ⟨q1, q2⟩
  refine ⟨fun _ => k _, fun c2 => ?_⟩
  obtain ⟨i1, i2⟩ := nf_ix hM (e := a) q2 (by omega)
  have e1 := ad1 (x := x) (by omega)
  exact ⟨ha, i1, by omega, fun _ => ⟨m - 1, by omega, by omega, by omega⟩, fun _ => k _⟩
theorem lib_tray {x2 : Int32} {k len : Nat} {Y : Prop} {N : Int32 → Prop} (ht : 0 ≤ (σ 0 1).toInt ∧ (σ 0 1).toInt ≤ 16000) (h2 : x2.toInt = k) (hl : k + len < 20) (h3 : ∀ j, j < len → (chI (SF 2 (k + j))).toInt ≠ 32) (kY : Y) (kN : ∀ x4 : Int32, x4.toInt = (k : Int) + len → N x4) (h4 : (chI (SF 2 (k + len))).toInt = 32) :
    ∃ L128 : Nat → Int32 → Prop, (∃ n, L128 n x2) ∧ ∀ (n128 : Nat) (x4_128 : Int32), L128 n128 x4_128 → (((0 ≤ x4_128.toInt ∧ x4_128.toInt < SN 2) ∧ ((chI (SF 2 x4_128.toNatClampNeg)).toInt = 32 → (∃ J160 : Int32 → Prop, (∀ (y0_160 : Int32), y0_160 = 0 ∨ y0_160 = 1 → J160 y0_160 → (∃ L165 : Nat → Int32 → Int32 → Prop, (∃ n, L165 n y0_160 (0 : Int32)) ∧ ∀ (n165 : Nat) (x5_165 : Int32) (x6_165 : Int32), x5_165 = 0 ∨ x5_165 = 1 → L165 n165 x5_165 x6_165 → ((∃ J209 : Prop, (J209  → ((x5_165.toInt = 0 → N x4_128) ∧ (x5_165.toInt ≠ 0 → Y))) ∧ (x5_165.toInt = 0 → J209) ∧ (x5_165.toInt ≠ 0 → ((σ 0 1).toInt ≤ x6_165.toInt → J209) ∧ (x6_165.toInt < (σ 0 1).toInt → ((0 ≤ (x2 + x6_165).toInt ∧ (x2 + x6_165).toInt < SN 2) ∧ ((0 ≤ x6_165.toInt ∧ x6_165.toInt < 16000) ∧ (∃ J201 : Int32 → Prop, (∀ (y0_201 : Int32), y0_201 = 0 ∨ y0_201 = 1 → J201 y0_201 → (∃ m, m < n165 ∧ L165 m y0_201 (x6_165 + 1))) ∧ ((chI (SF 2 (x2 + x6_165).toNatClampNeg)).toInt ≠ (σ 1 x6_165.toNatClampNeg).toInt → J201 (0 : Int32)) ∧ ((chI (SF 2 (x2 + x6_165).toNatClampNeg)).toInt = (σ 1 x6_165.toNatClampNeg).toInt → J201 (1 : Int32))))))))))) ∧ ((x4_128 - x2).toInt ≠ (σ 0 1).toInt → J160 (0 : Int32)) ∧ ((x4_128 - x2).toInt = (σ 0 1).toInt → J160 (1 : Int32)))) ∧ ((chI (SF 2 x4_128.toNatClampNeg)).toInt ≠ 32 → ∃ m, m < n128 ∧ L128 m (x4_128 + 1)))) := by
  have eN : ((SN 2 : Nat) : Int) = 20 := by decide
  have e0 : (0 : Int32).toInt = 0 := by decide
  refine ⟨fun n x => (n : Int) = (k : Int) + len - x.toInt ∧ (k : Int) ≤ x.toInt ∧ x.toInt ≤ (k : Int) + len, ⟨len, by omega, by omega, by omega⟩, ?_⟩
  rintro n x ⟨q1, q2, q3⟩
  have nx := nt (x := x) (by omega)
  have ex := ad1 (x := x) (by omega)
  refine ⟨by omega, fun c => ?_, fun c => ⟨n - 1, ?_⟩⟩
  · have hx : x.toInt = (k : Int) + len := by
      by_cases q : x.toInt = (k : Int) + len
      · exact q
      · have e9 : x.toNatClampNeg = k + (x.toNatClampNeg - k) := by omega
        rw [e9] at c
        exact absurd c (h3 _ (by omega))
    have es : (x - x2).toInt = len := by rw [sb (by omega) (by omega)]; omega
    rw [es]
    refine ⟨fun y => y.toInt ≠ 0 → (len : Int) = (σ 0 1).toInt, fun y hy hj => ?_, fun c2 q => absurd e0 q, fun c2 _ => c2⟩
    refine ⟨fun n5 x5 x6 => (n5 : Int) = len - x6.toInt ∧ (0 ≤ x6.toInt ∧ x6.toInt ≤ len) ∧ (x5.toInt ≠ 0 → (len : Int) = (σ 0 1).toInt), ⟨len, by omega, by omega, hj⟩, ?_⟩
    rintro n5 x5 x6 hx5 ⟨r1, r2, r3⟩
    have e6 := ad1 (x := x6) (by omega)
    refine ⟨True, fun _ => ⟨fun _ => kN x hx, fun _ => kY⟩, fun _ => trivial, fun c2 => ⟨fun _ => trivial, fun c3 => ?_⟩⟩
    have r4 := r3 c2
    have e2 : (x2 + x6).toInt = x2.toInt + x6.toInt := ad (by omega) (by omega)
    exact ⟨by omega, by omega, fun _ => True, fun y hy hJ => ⟨n5 - 1, by omega, by omega, by omega, fun _ => r4⟩, fun _ => trivial, fun _ => trivial⟩
  · have hx : x.toInt ≠ (k : Int) + len := fun q => by
      have e9 : x.toNatClampNeg = k + len := by omega
      rw [e9] at c
      exact c h4
    exact ⟨by omega, by omega, by omega, by omega⟩
theorem sp_cell {Q : Int32 → St → St → List Nat → Prop} (h : GLI σ τ vs) (k : ∀ r s, GLI s τ vs → (s 0 1).toInt = 0 → (s 0 2) = (σ 0 2) → Q r s τ vs) : wp_cell σ τ vs Q := by
  have z0 : (0 : Int32).toInt = 0 := by decide
  have e1' : (1 : Int32).toInt = 1 := by decide
  have ht := h.1.1
  have hM := h.2.2.1.2.2.2.2.2.1
  have fin : ∀ r, Q r (upC σ 0 1 (0 : Int32)) τ vs := fun r => k r _ (gi_tr h (kp_f kp_rf rfl) (by
    show 0 ≤ (0 : Int32).toInt ∧ (0 : Int32).toInt ≤ (σ 0 1).toInt
    omega)) z0 rfl
  unfold wp_cell
  refine ⟨fun c => ?_, fun _ => fin _⟩
  obtain ⟨⟨l1, l2⟩, l3⟩ := h.2.2.2.2.2.1
  obtain ⟨l4, -⟩ := l3 c
  have o2 := h.1.2.1
  refine ⟨fun m p => (m : Int) = (σ 0 70).toInt - p.toInt ∧ 0 ≤ p.toInt, ⟨(σ 0 70).toInt.toNat, by omega, by omega⟩, ?_⟩
  rintro m p ⟨q1, q2⟩
  have np := nt q2
  refine ⟨fun _ => ?_, fun c2 => ?_⟩
  · refine ⟨fun n x i => (n : Int) = 4 - i.toInt ∧ ((i.toInt = 0 ∧ x.toInt = (1 : Nat)) ∨ (i.toInt = 1 ∧ x.toInt = (5 : Nat)) ∨ (i.toInt = 2 ∧ x.toInt = (9 : Nat)) ∨ (i.toInt = 3 ∧ x.toInt = (15 : Nat)) ∨ i.toInt = 4), ⟨4, by omega, Or.inl ⟨z0, e1'⟩⟩, ?_⟩
    rintro n x i ⟨r1, r2⟩
    have ei : ∀ j : Int, i.toInt = j → j < 100 → (i + 1).toInt = j + 1 := fun j hj h1 => by rw [ad1 (by omega), hj]
    have ex : ∀ (y : Int32) (j : Int), y.toInt = j → j < 100 → (y + (1 : Int32)).toInt = j + 1 := fun y j hj h1 => by rw [ad1 (by omega), hj]
    refine ⟨fun _ => fin _, fun c3 => ?_⟩
    rcases r2 with ⟨a, b⟩ | ⟨a, b⟩ | ⟨a, b⟩ | ⟨a, b⟩ | a
    · exact lib_tray (k := 1) (len := 3) ht b (by decide) (by decide +kernel) (fin _) (fun x4 hx4 => ⟨3, by omega, by rw [ei 0 a (by decide)]; omega, Or.inr (Or.inl ⟨by rw [ei 0 a (by decide)]; decide, by rw [ex _ _ hx4 (by decide)]; decide⟩)⟩) (by decide +kernel)
    · exact lib_tray (k := 5) (len := 3) ht b (by decide) (by decide +kernel) (fin _) (fun x4 hx4 => ⟨2, by omega, by rw [ei 1 a (by decide)]; omega, Or.inr (Or.inr (Or.inl ⟨by rw [ei 1 a (by decide)]; decide, by rw [ex _ _ hx4 (by decide)]; decide⟩))⟩) (by decide +kernel)
    · exact lib_tray (k := 9) (len := 5) ht b (by decide) (by decide +kernel) (fin _) (fun x4 hx4 => ⟨1, by omega, by rw [ei 2 a (by decide)]; omega, Or.inr (Or.inr (Or.inr (Or.inl ⟨by rw [ei 2 a (by decide)]; decide, by rw [ex _ _ hx4 (by decide)]; decide⟩)))⟩) (by decide +kernel)
    · exact lib_tray (k := 15) (len := 4) ht b (by decide) (by decide +kernel) (fin _) (fun x4 hx4 => ⟨0, by omega, by rw [ei 3 a (by decide)]; omega, Or.inr (Or.inr (Or.inr (Or.inr (by rw [ei 3 a (by decide)]; decide))))⟩) (by decide +kernel)
    · omega
  · have lp := l4 p.toNatClampNeg (by omega)
    obtain ⟨e1, e2, e3, ⟨⟨o3, o4, o5, o6⟩, -⟩, e4, e5, e6⟩ := ob_rows h (a := (σ 41) p.toNatClampNeg) lp.1 lp.2
    have ef : ((σ 22) ((σ 41) p.toNatClampNeg - (1 : Int32)).toNatClampNeg).toInt = fO σ ((σ 41) p.toNatClampNeg - (1 : Int32)).toNatClampNeg := rfl
    have ep := ad1 (x := p) (by omega)
    refine ⟨by omega, by omega, fun m' f => m' = (fO σ (((σ 41) p.toNatClampNeg - (1 : Int32)).toNatClampNeg + 1) - f.toInt).toNat ∧ 0 ≤ f.toInt, ⟨_, rfl, by omega⟩, ?_⟩
    rintro m' f ⟨r1, r2⟩
    refine ⟨by omega, by omega, fun _ => ⟨m - 1, by omega, by omega, by omega⟩, fun c3 => ?_⟩
    rw [e4] at c3
    have ff : 0 ≤ f.toInt ∧ f.toInt < 10000 := by omega
    have e7 := ad1 (x := f) (by omega)
    have nx : ∃ m_1, m_1 < m' ∧ (m_1 = (fO σ (((σ 41) p.toNatClampNeg - (1 : Int32)).toNatClampNeg + 1) - (f + 1).toInt).toNat ∧ 0 ≤ (f + 1).toInt) := ⟨_, by omega, rfl, by omega⟩
    refine sp_isSymbol ff (fun _ _ => ⟨True, fun _ => nx, no1, fun _ => ?_⟩) (fun _ => ⟨True, fun _ => nx, fun _ => trivial, no0⟩)
    exact sp_isTray (σ := upC σ 0 1 (0 : Int32)) hM ff ht (fun r => ⟨fun _ => trivial, fun _ => ⟨ff, fun _ => fin _, fun _ => ⟨by omega, ff, fin _⟩⟩⟩)
end CEL
