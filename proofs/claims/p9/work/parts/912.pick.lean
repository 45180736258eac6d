/-! pick(), cell() and what only reads -/
section PCK
variable {σ s z t ρ : St} {m i j k o d K : Nat} {n : Int} {x y v a a1 a2 a3 a4 a5 : Int32} {C : Int32 → Prop} {b : Nat → Int32}
/-- no more of them than places -/
theorem pgh : ∀ (m n : Nat) (f : Nat → Nat), (∀ i, i < n → f i < m) → (∀ i j, i < j → j < n → f i ≠ f j) → n ≤ m
  | 0, n, f, h1, _ => by
    by_cases c : n = 0
    · omega
    · exact absurd (h1 0 (by omega)) (by omega)
  | m + 1, n, f, h1, h2 => by
    by_cases c : n = 0
    · omega
    -- the last one's place is filled by the greatest
    let g : Nat → Nat := fun i => if f i = m then f (n - 1) else f i
    have q := pgh m (n - 1) g (fun i hi => ?_) (fun i j hij hj => ?_)
    · omega
    · show (if f i = m then f (n - 1) else f i) < m
      have a1 := h1 i (by omega)
      have a2 := h1 (n - 1) (by omega)
      have a3 := h2 i (n - 1) (by omega) (by omega)
      by_cases e : f i = m
      · rw [if_pos e]; omega
      · rw [if_neg e]; omega
    · show (if f i = m then f (n - 1) else f i) ≠ (if f j = m then f (n - 1) else f j)
      have a1 := h2 i j hij (by omega)
      have a2 := h2 i (n - 1) (by omega) (by omega)
      have a3 := h2 j (n - 1) (by omega) (by omega)
      by_cases e : f i = m
      · rw [if_pos e]
        by_cases e2 : f j = m
        · omega
        · rw [if_neg e2]; omega
      · rw [if_neg e]
        by_cases e2 : f j = m
        · rw [if_pos e2]; omega
        · rw [if_neg e2]; exact a1
theorem sk_pick {Q : Int32 → St → Prop} (h : IVx σ o) (k : ∀ v t, IVx t o → Q v t) : wk_X12_pick a1 σ Q := by
  have pk := h.2.2.2.2.2.2.2.2.2.2.1
  have h1 := h.1
  obtain ⟨⟨p1, p1'⟩, p2, p3, p4⟩ := pk
  obtain ⟨P, hP⟩ : ∃ P : Nat, (σ 10 5).toInt = P := ⟨(σ 10 5).toInt.toNat, by omega⟩
  unfold wk_X12_pick
  refine sp_hasI ⟨fun _ => k _ _ h, fun z => absurd rfl z⟩ (fun c0 c1 => ⟨fun z => absurd z (by decide), fun _ => ?_⟩)
  unfold wk_X4_choose
  refine ⟨fun m x => m = ((σ 10 5).toInt - x.toInt).toNat ∧ 1 ≤ x.toInt ∧ ∀ j : Nat, 1 ≤ j → (j : Int) < x.toInt → (j : Int) < (σ 10 5).toInt → (σ 56 j).toInt ≠ a1.toInt, ⟨_, rfl, by decide, fun j j1 j2 => by rw [i1] at j2; omega⟩, ?_⟩
  rintro m x ⟨hm, hx, ha⟩
  refine ⟨fun c => ?_, fun c => ⟨fun ne => ?_, fun _ => k _ _ h⟩⟩
  · -- it is new
    have new : ∀ j : Nat, 1 ≤ j → (j : Int) < P → (σ 56 j).toInt ≠ a1.toInt := fun j j1 j2 => ha j j1 (by omega) (by omega)
    have cnt : P ≤ o := pgh o P (fun i => if i + 1 = P then a1.toInt.toNat - 1 else (σ 56 (i + 1)).toInt.toNat - 1) (fun i hi => by
      show (if i + 1 = P then a1.toInt.toNat - 1 else (σ 56 (i + 1)).toInt.toNat - 1) < o
      by_cases e : i + 1 = P
      · rw [if_pos e]; omega
      · rw [if_neg e]
        have := p3 (i + 1) (by omega) (by omega)
        omega) (fun i j hij hj => by
      show (if i + 1 = P then a1.toInt.toNat - 1 else (σ 56 (i + 1)).toInt.toNat - 1) ≠ (if j + 1 = P then a1.toInt.toNat - 1 else (σ 56 (j + 1)).toInt.toNat - 1)
      rw [if_neg (by omega)]
      have b1 := p3 (i + 1) (by omega) (by omega)
      by_cases e : j + 1 = P
      · rw [if_pos e]
        have := new (i + 1) (by omega) (by omega)
        omega
      · rw [if_neg e]
        have b2 := p3 (j + 1) (by omega) (by omega)
        have := p4 (i + 1) (j + 1) (by omega) (by omega) (by omega)
        omega)
    have ep : ((σ 10 5) + (1 : Int32)).toInt = (σ 10 5).toInt + 1 := ad0 i1 (by omega) (by omega)
    generalize hu : upC (upF σ 56 (setv 101 (σ 56) (σ 10 5) a1)) 10 5 ((σ 10 5) + (1 : Int32)) = u
    have ru : ∀ c, c ≠ 10 → c ≠ 56 → u c = σ c := fun c c10 c56 => by rw [← hu, rdC_ne c10, rdF_ne c56]
    have u5 : (u 10 5).toInt = (σ 10 5).toInt + 1 := by rw [← hu, rdA_eq rfl]; exact ep
    have u10 : ∀ q, q ≠ 5 → u 10 q = σ 10 q := fun q hq => by rw [← hu, rdA_ne hq, rdF_ne (by decide)]
    have u56 : u 56 = fun q => if q = P then a1 else σ 56 q := by rw [← hu, rdC_ne (by decide), rdF_eq, setv_at hP (by omega)]
    clear hu
    have rd : RDy u := fun hr => by
      rw [u10 2 (by decide)] at hr
      obtain ⟨Fs, hd, q1, q2, q3⟩ := h.2.2.2.2.2.2.2.2.2.1 hr
      refine ⟨Fs, hd, fun hd' n hf => ?_, by rw [u10 11 (by decide)]; exact q2, q3⟩
      obtain ⟨L, g, f⟩ := q1 hd' n hf
      exact ⟨L, g, fune_mono (fun j _ => by rw [ru 24 (by decide) (by decide)]) (cpi_mono (ru 59 (by decide) (by decide))) (by unfold clen; rw [ru 4 (by decide) (by decide)]; exact Nat.le_refl _) f⟩
    have pku : PKx u o := by
      refine ⟨by rw [u5]; omega, ?_, fun j j1 j2 => ?_, fun i j i1' i2 i3 => ?_⟩
      · rw [u56]
        show (if 0 = P then a1 else σ 56 0).toInt = 0
        rw [if_neg (by omega)]
        exact p2
      · rw [u5] at j2
        rw [u56]
        show 1 ≤ (if j = P then a1 else σ 56 j).toInt ∧ (if j = P then a1 else σ 56 j).toInt ≤ o
        by_cases e : j = P
        · rw [if_pos e]; omega
        · rw [if_neg e]; exact p3 j j1 (by omega)
      · rw [u5] at i3
        rw [u56]
        show (if i = P then a1 else σ 56 i).toInt ≠ (if j = P then a1 else σ 56 j).toInt
        rw [if_neg (show ¬ i = P by omega)]
        by_cases e : j = P
        · rw [if_pos e]; exact new i i1' (by omega)
        · rw [if_neg e]; exact p4 i j i1' i2 (by omega)
    exact k _ u (iv_10 h (fun c c1 c2 _ _ _ => ru c c1 c2) rd pku)
  · obtain ⟨X, hX⟩ : ∃ X : Nat, x.toInt = X := ⟨x.toInt.toNat, by omega⟩
    have up := up_lt c
    rw [atv_at hX (by omega)] at ne
    have c' : x.toInt < (σ 10 5).toInt := c
    refine ⟨_, by rw [up]; omega, rfl, by rw [up]; omega, fun j j1 j2 j3 => ?_⟩
    rw [up] at j2
    by_cases e : j = X
    · rw [e]; exact ne
    · exact ha j j1 (by omega) j3
theorem sp_isNamed1 {Q : Int32 → Prop} (hb : NEb σ) (h3 : a3.toInt ≤ 65600) (h4 : a4.toInt ≤ 65600) (k1 : Q 1) (k0 : Q 0) : wk_X8_isNamed_r1 a1 a3 a4 σ Q := by
  have b := neb_at hb (a1 - (1 : Int32))
  unfold wk_X8_isNamed_r1
  refine ⟨fun e => ?_, fun e => k0⟩
  refine ⟨fun m x => m = (a4.toInt - x.toInt).toNat ∧ 0 ≤ x.toInt, ⟨_, rfl, by decide⟩, ?_⟩
  rintro m x ⟨hm, h0⟩
  refine ⟨fun c => k1, fun c => ?_⟩
  have up := up_lt c
  have e1 : ((atv 10100 (σ 29) (a1 - (1 : Int32))) + x).toInt = (atv 10100 (σ 29) (a1 - (1 : Int32))).toInt + x.toInt := ad (by omega) (by omega)
  refine ⟨fun c1 => k0, fun c1 => ⟨fun c2 => k0, fun c2 => ?_⟩⟩
  have e2 : (a3 + x).toInt = a3.toInt + x.toInt := ad (by omega) (by omega)
  exact ⟨fun c3 => k0, fun c3 => ⟨⟨by omega, c1⟩, ⟨by omega, c3⟩, fun c4 => ⟨_, by rw [up]; omega, rfl, by rw [up]; omega⟩, fun c4 => k0⟩⟩
theorem sp_firstA {Q : Int32 → Prop} (k : ∀ v, Q v) : wk_X8_firstOf x σ Q := by
  unfold wk_X8_firstOf
  exact ⟨fun _ => k _, fun _ => k _⟩
theorem sp_find57 {Q : Int32 → Prop} (hb : NEb σ) (h3 : a4.toInt ≤ 65600) (h4 : a5.toInt ≤ 65600) (k : ∀ v, Q v) : wk_X4_find_r57_r1 a2 a4 a5 σ Q := by
  unfold wk_X4_find_r57_r1
  refine ⟨fun m x => m = (a2.toInt - x.toInt).toNat, ⟨_, rfl⟩, ?_⟩
  rintro m x hm
  refine ⟨fun c => k _, fun c => sp_firstA (fun v0 => ?_)⟩
  have up := up_lt c
  refine ⟨fun q y => q = ((atv 101 (σ 34) (atv 101 (σ 57) x)).toInt - y.toInt).toNat, ⟨_, rfl⟩, ?_⟩
  rintro q y hq
  refine ⟨fun c1 => ⟨_, by rw [up]; omega, rfl⟩, fun c1 => ?_⟩
  have upy := up_lt c1
  exact is_all (fun v52 _ _ _ => ⟨True, fun _ => ⟨_, by rw [upy]; omega, rfl⟩, fun _ => trivial, fun _ => is_all (fun v65 _ _ _ => ⟨fun _ => trivial, fun _ => sp_isNamed1 hb h3 h4 ⟨fun z => absurd z (by decide), fun _ => k _⟩ ⟨fun _ => trivial, fun z => absurd rfl z⟩⟩)⟩)
theorem sk_cell {Q : Int32 → St → Prop} (h : IVx σ o) (k : ∀ v t, IVx t o → Q v t) : wk_X12_cell σ Q := by
  have iv := iv_held0 h
  have f := h.2.2.2.2.1
  have nb := iv.2.2.2.2.2.1.2
  unfold wk_X12_cell
  generalize upC σ 0 1 (0 : Int32) = u at *
  unfold wk_X4_cellOf_r1
  have fin : ∀ y : Int32, (0 ≤ y.toInt → wk_X8_is y (1 : Int32) u (fun v39 => (v39.toInt = 0 → Q (atv 10100 (u 59) y) u) ∧ (v39.toInt ≠ 0 → Q (0 : Int32) u))) ∧ (y.toInt < 0 → Q ((-1) : Int32) u) := fun y => ⟨fun _ => is_all (fun v _ _ _ => ⟨fun _ => k _ _ iv, fun _ => k _ _ iv⟩), fun _ => k _ _ iv⟩
  exact ⟨fun _ => True, fun y _ => fin y, fun _ => trivial, fun _ => sp_find57 nb (by decide) (by have := f.1; omega) (fun v => trivial)⟩
/-! what only reads -/
theorem sk_symbolsOf {Q : Int32 → Prop} (k : ∀ v, Q v) : wk_X8_symbolsOf a1 σ Q := by
  unfold wk_X8_symbolsOf
  refine sp_firstA (fun v0 => ⟨fun m _ x => m = ((atv 101 (σ 34) a1).toInt - x.toInt).toNat, ⟨_, rfl⟩, ?_⟩)
  rintro m w x hm
  refine ⟨fun _ => k _, fun c => ?_⟩
  have up := up_lt c
  exact is_all (fun v _ _ _ => ⟨fun _ => True, fun _ _ _ => ⟨_, by rw [up]; omega, rfl⟩, fun _ => trivial, fun _ => trivial⟩)
theorem sk_count {Q : Int32 → Prop} (k : ∀ v, Q v) : wk_X12_count a1 a2 σ Q := by
  unfold wk_X12_count
  exact sp_hasI ⟨fun _ => k _, fun z => absurd rfl z⟩ (fun _ _ => ⟨fun z => absurd z (by decide), fun _ => ⟨fun _ => k _, fun _ => ⟨fun _ => ⟨fun _ => k _, fun _ => sk_symbolsOf k⟩, fun _ => k _⟩⟩⟩)
theorem sk_symbolAt {Q : Int32 → Prop} (k : ∀ v, Q v) : wk_X8_symbolAt a1 a2 σ Q := by
  unfold wk_X8_symbolAt
  have body : ∀ y : Int32, wk_X8_firstOf a1 σ (fun v20 => ∃ L25 : Nat → Int32 → Int32 → Prop, (∃ n, L25 n y v20) ∧ ∀ (n25 : Nat) (x3_25 : Int32) (x4_25 : Int32), L25 n25 x3_25 x4_25 → ((x3_25.toInt < 0 → Q ((-1) : Int32)) ∧ (0 ≤ x3_25.toInt → ((atv 101 (σ 34) a1).toInt ≤ x4_25.toInt → Q ((-1) : Int32)) ∧ (x4_25.toInt < (atv 101 (σ 34) a1).toInt → wk_X8_is x4_25 (2 : Int32) σ (fun v46 => (∃ J62 : Int32 → Prop, (∀ (x3_62 : Int32), J62 x3_62 → (∃ m, m < n25 ∧ L25 m x3_62 (x4_25 + 1))) ∧ (v46.toInt ≠ 0 → J62 x3_25) ∧ (v46.toInt = 0 → (x3_25.toInt ≠ 0 → J62 (x3_25 + (-1))) ∧ (x3_25.toInt = 0 → Q x4_25)))))))) := fun y => by
    refine sp_firstA (fun v0 => ⟨fun m _ x => m = ((atv 101 (σ 34) a1).toInt - x.toInt).toNat, ⟨_, rfl⟩, ?_⟩)
    rintro m w x hm
    refine ⟨fun _ => k _, fun _ => ⟨fun _ => k _, fun c => ?_⟩⟩
    have up := up_lt c
    exact is_all (fun v _ _ _ => ⟨fun _ => True, fun _ _ => ⟨_, by rw [up]; omega, rfl⟩, fun _ => trivial, fun _ => ⟨fun _ => trivial, fun _ => k _⟩⟩)
  exact sp_hasI ⟨fun _ => True, fun y _ => body y, True, fun _ => trivial, fun _ => trivial, fun z => absurd rfl z⟩ (fun _ _ => ⟨fun _ => True, fun y _ => body y, True, fun _ => trivial, fun _ => trivial, fun _ => ⟨fun _ => trivial, fun _ => trivial⟩⟩)
theorem sk_name {Q : Int32 → Prop} (hb : NEb σ) (k : ∀ v, Q v) : wk_X12_name a1 a2 a3 σ Q := by
  unfold wk_X12_name
  refine sk_symbolAt (fun v => ?_)
  unfold wk_X8_nameByte wk_X8_nameStart
  have b := neb_at hb (v - (1 : Int32))
  have b2 := neb_at hb v
  refine ⟨fun y => y.toInt ≤ 65600, fun y hy => ⟨fun _ => k _, fun c => ⟨fun _ => k _, fun c1 => ⟨fun _ => k _, fun c2 => ⟨⟨?_, c2⟩, k _⟩⟩⟩⟩, fun _ => ?_, fun _ => by decide⟩
  · rw [ad (by omega) (by omega)]
    omega
  · show ((atv 10100 (σ 29) v) - (atv 10100 (σ 29) (v - (1 : Int32)))).toInt ≤ 65600
    rw [sb (by omega) (by omega)]
    omega
theorem sk_symbol {Q : Int32 → Prop} (k : ∀ v, Q v) : wk_X12_symbol a1 a2 σ Q := by
  unfold wk_X12_symbol
  refine sk_symbolAt (fun v => ⟨fun _ => is_all (fun v22 _ _ _ => ⟨fun _ => True, fun y _ => is_all (fun v41 _ _ _ => ⟨fun _ => is_all (fun v59 _ _ _ => ⟨fun _ => k _, fun _ => k _⟩), fun _ => k _⟩), fun _ => trivial, fun _ => trivial⟩), fun _ => k _⟩)
theorem sk_fault {Q : Int32 → Prop} (k : ∀ v, Q v) : wk_X12_fault a1 σ Q := by
  unfold wk_X12_fault
  exact ⟨fun _ => ⟨fun _ => k _, fun _ => k _⟩, fun _ => k _⟩
theorem sk_objectAt {Q : Int32 → Prop} (h : (σ 5 13).toInt ≤ 100) (k : ∀ v, Q v) : wk_X8_objectAt a1 σ Q := by
  unfold wk_X8_objectAt
  refine ⟨fun m x => m = (200 - x.toInt).toNat ∧ 1 ≤ x.toInt, ⟨_, rfl, by decide⟩, ?_⟩
  rintro m x ⟨hm, hx⟩
  refine ⟨fun _ => k _, fun c => ⟨fun _ => k _, fun _ => ⟨fun _ => ?_, fun _ => k _⟩⟩⟩
  have up : (x + 1).toInt = x.toInt + 1 := ad1 (by omega)
  exact ⟨_, by rw [up]; omega, rfl, by rw [up]; omega⟩
theorem sk_trap {Q : Int32 → Prop} (h : (σ 5 13).toInt ≤ 100) (k : ∀ v, Q v) : wk_X12_trap a1 σ Q := by
  unfold wk_X12_trap
  exact ⟨fun _ => ⟨fun _ => k _, fun _ => k _⟩, fun _ => sk_objectAt h k⟩
theorem sk_out {Q : Int32 → Prop} (k : ∀ v, Q v) : wk_X12_out a1 σ Q := by
  unfold wk_X12_out wk_X9_byteAt
  exact ⟨fun _ => k _, fun c => ⟨fun _ => k _, fun _ => ⟨fun _ => k _, fun c2 => ⟨⟨c, c2⟩, k _⟩⟩⟩⟩
theorem sk_strays {Q : Int32 → Prop} (h : IVx σ o) (k : Q 0) : wk_X12_strays σ Q := by
  unfold wk_X12_strays
  rw [show σ 12 18 = 0 from Int32.toInt_inj.mp h.2.2.2.2.2.2.2.2.2.2.2.1]
  exact k
end PCK
