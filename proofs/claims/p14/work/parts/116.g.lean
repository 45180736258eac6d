section
/-! a variable's [ ]: both sides -/
/-- what a variable's [ ] has wrong, for the reference: x6 the [ or -1, x7 the size, x8 whether one is given; lack: it may lack -/
def SQm (x6 x7 x8 : Int) (lack : Prop) : Prop := 0 ≤ x6 ∧ ¬ (1 ≤ x7 ∧ x7 ≤ 4000) ∧ ¬ (x8 = 0 ∧ x7 = 0 ∧ lack)
def KNq (x6 x7 : Int) : Int := if 0 ≤ x6 then (if 1 ≤ x7 ∧ x7 ≤ 4000 then x7 else 0) else -1
def STb (a b : St) : Prop := Ko [(4, 1), (6, 3), (6, 4), (7, 7), (6, 5), (5, 9), (8, 6), (8, 7), (8, 8)] [24, 43, 17, 31, 32, 33, 25, 39] a b
/-- the class behind the [ ]: both sides alike, or a size that is no right one -/
def BKg (kd : Nat → Int) (n S m lo : Nat) (x6 x7 x8 : Int) (w w1 s : St) : Prop :=
  (REq kd n S m lo w1 s ∧ (w1 7 7).toInt = 0 ∧ STb w w1 ∧ EXw w1 = KNq x6 x7 ∧ ((w1 8 6).toInt = -1 ∨ 0 ≤ (w1 8 6).toInt) ∧ ∀ (y : Int32) (lack : Prop), (y.toInt ≠ 0 ↔ lack) → (SQb w1 y ↔ SQm x6 x7 x8 lack))
  ∨ (0 ≤ (w1 8 6).toInt ∧ (w1 8 7).toInt = 0 ∧ ∀ lack, SQm x6 x7 x8 lack)
/-- the size that stands behind, if an = does -/
def TSz (kd vl : Nat → Int) (pb : Nat) (sz : Int) : Prop := (kd pb = 30 → TLq kd vl true pb sz) ∧ (kd pb ≠ 30 → sz = 0)
/-- what a variable's [ ], if there is one, leaves -/
def BKv (kd vl : Nat → Int) (n S m lo d p : Nat) (σ τ : St) (vs : List Nat) (x6 x7 x8 : Int32) (s t : St) (z : List Nat) : Prop :=
  ∃ (pb : Nat) (gb : List Gsq) (giv : Int), (kd p = 24 → EVq (fun N => BKn kd N p) (some (pb, gb, giv))) ∧ (kd p ≠ 24 → pb = p) ∧ (0 ≤ x6.toInt ↔ kd p = 24) ∧ p ≤ pb ∧ GMt s n pb ∧ RGs kd vl n S m lo d s ∧ s 0 12 = σ 0 12 ∧ KEr σ s ∧ TFq τ vs t z ∧ (∀ sz, TSz kd vl pb sz → x8.toInt = 0 → x7.toInt = sz)
    ∧ ∀ sz, TSz kd vl pb sz → (σ 0 12).toInt = 0 → ∀ w, REq kd n S m lo w σ → (w 6 3).toInt = 0 → (w 7 7).toInt = 0 → (w 8 6).toInt = -1 → GWq (if kd p = 24 then gb ++ [gq (42, p, giv, sz)] else []) w (fun w1 => (w1 6 3).toInt = 0 ∧ BKg kd n S m lo x6.toInt x7.toInt x8.toInt w w1 s) False
section BRK
variable {w s r s8 s9 σ σ' σ1 τ t : St} {kd vl : Nat → Int} {n S m lo d p pb : Nat} {vs z : List Nat} {a1 a2 a3 a4 x6 x7 x8 : Int32} {F0 : Prop} {sz : Int}
/-- the size counted ahead is the size that the steps tell -/
theorem ts_told (h : TSz kd vl pb sz) (c30 : kd pb = 30) (h6 : 0 ≤ vl (pb + 1) + 1) {v : Int} (ka : ALq kd (pb + 1) → v = vl (pb + 1) + 1) (kb : kd (pb + 1) = 22 → TDq kd (pb + 1) 1 0 v) (kc : ¬ ALq kd (pb + 1) → kd (pb + 1) ≠ 22 → v = -1) : (if v < 0 then 0 else v) = sz ∧ 0 ≤ sz := by
  obtain ⟨h1, h2, h3⟩ := h.1 c30
  by_cases c22 : kd (pb + 1) = 22
  · obtain ⟨q, g, cnt, e, es, ec⟩ := h1 c22
    obtain ⟨N, hN⟩ := e
    have hit := td_it (n := 1) (hN N (Nat.le_refl N))
    have hit2 : TDq kd (pb + 1) 1 0 (1 + (cnt : Int) - 1) := td_o (Or.inr (Or.inl c22)) (by decide) hit
    have := ev_one (kb c22) hit2
    have e2 : v = 1 + (cnt : Int) - 1 := Option.some.inj this
    rw [if_neg (by omega)]
    constructor <;> omega
  · by_cases ca : ALq kd (pb + 1)
    · have := h2 ⟨rfl, ca⟩
      have := ka ca
      rw [if_neg (by omega)]
      constructor <;> omega
    · have := h3 c22 (fun h => ca h.2)
      have := kc ca c22
      rw [if_pos (by omega)]
      constructor <;> omega
theorem ke_15 (k : Kp [(0, 10), (0, 12), (0, 13), (0, 15), (0, 17), (0, 37), (0, 39)] [8, 33, 14, 25, 21] σ s) (e : s 0 15 = σ 0 15) : KEr σ s := fun c j h1 h2 => by
  by_cases ce : c = 0 ∧ j = 15
  · rw [ce.1, ce.2]; exact e
  · refine k c j ?_ h2
    simp only [List.contains_cons, List.contains_nil, Bool.or_false, Bool.or_eq_false_iff, beq_eq_false_iff_ne, ne_eq, Prod.mk.injEq, not_and] at h1 ⊢
    omega
/-- not given -/
theorem sq_not (h6 : (w 8 6).toInt = (p : Int)) (h7 : (w 8 7).toInt = (if sz ≤ 0 then -1 else sz)) (hs : x7.toInt = sz ∧ 0 ≤ sz) : EXw w = KNq (p : Int) x7.toInt ∧ ∀ (y : Int32) (lack : Prop), (y.toInt ≠ 0 ↔ lack) → (SQb w y ↔ SQm (p : Int) x7.toInt 0 lack) := by
  have p0 : (0 : Int) ≤ (p : Int) := by omega
  constructor
  · unfold EXw KNq
    rw [if_pos (by omega), if_pos p0, h7, hs.1]
    by_cases c : sz ≤ 0
    · rw [if_pos c, if_neg (by omega), if_neg (by omega)]
    · rw [if_neg c]
  · intro y lack hy
    unfold SQb SQm
    rw [h7, h6, hs.1]
    by_cases c : sz ≤ 0
    · rw [if_pos c]
      have : sz = 0 := by omega
      constructor
      · rintro ⟨_, h | h | h⟩
        · exact ⟨p0, by omega, fun hx => (hy.2 hx.2.2) h.2⟩
        · omega
        · omega
      · rintro ⟨_, _, h⟩
        exact ⟨p0, Or.inl ⟨rfl, Decidable.byContradiction (fun hx => h ⟨rfl, this, hy.1 hx⟩)⟩⟩
    · rw [if_neg c]
      constructor
      · rintro ⟨_, h | h | h⟩
        · omega
        · omega
        · exact ⟨p0, by omega, by omega⟩
      · rintro ⟨_, h, _⟩
        exact ⟨p0, Or.inr (Or.inr (by omega))⟩
/-- given -/
theorem sq_given {X : Int} {F : Int} (h6 : (w 8 6).toInt = (p : Int)) (h7 : F = 1 → (w 8 7).toInt = (if X < 0 then 0 else X)) (h70 : F ≠ 1 → (w 8 7).toInt = 0) (hs : x7.toInt = (if F = 1 ∧ 1 ≤ X then X else -1)) : EXw w = KNq (p : Int) x7.toInt ∧ ∀ (y : Int32) (lack : Prop), (y.toInt ≠ 0 ↔ lack) → (SQb w y ↔ SQm (p : Int) x7.toInt 1 lack) := by
  have p0 : (0 : Int) ≤ (p : Int) := by omega
  have h : ((w 8 7).toInt = x7.toInt ∧ 1 ≤ x7.toInt) ∨ ((w 8 7).toInt = 0 ∧ x7.toInt = -1) := by
    by_cases c : F = 1 ∧ 1 ≤ X
    · rw [if_pos c] at hs
      have := h7 c.1
      rw [if_neg (by omega)] at this
      exact Or.inl ⟨by omega, by omega⟩
    · rw [if_neg c] at hs
      refine Or.inr ⟨?_, hs⟩
      by_cases c1 : F = 1
      · have := h7 c1
        by_cases c2 : X < 0
        · rw [if_pos c2] at this
          exact this
        · rw [if_neg c2] at this
          have : ¬ 1 ≤ X := fun hx => c ⟨c1, hx⟩
          omega
      · exact h70 c1
  clear h7 h70 hs
  constructor
  · unfold EXw KNq
    rw [if_pos (by omega), if_pos p0]
    rcases h with ⟨h1, h2⟩ | ⟨h1, h2⟩
    · rw [h1]
    · rw [h1, h2, if_neg (by omega), if_neg (by omega)]
  · intro y lack hy
    unfold SQb SQm
    rw [h6]
    constructor
    · rintro ⟨_, g⟩
      refine ⟨p0, ?_, fun hx => absurd hx.1 (by decide)⟩
      rcases h with ⟨h1, h2⟩ | ⟨h1, h2⟩
      · rcases g with g | g | g <;> omega
      · omega
    · rintro ⟨_, g, _⟩
      refine ⟨p0, ?_⟩
      rcases h with ⟨h1, h2⟩ | ⟨h1, h2⟩
      · exact Or.inr (Or.inr (by omega))
      · exact Or.inr (Or.inl (by omega))
/-- the reference: a variable's [ ] -/
theorem mr_bracket {J95 : Int32 → Int32 → Int32 → St → St → List Nat → Prop} {v12 : Int32} (hv : v12.toInt ≠ 0 ↔ kd p = 24) (hG : RGs kd vl n S m lo d σ) (hg : GMt σ n p) (kk : ∀ x6 x7 x8 s t z, (x8 = 0 ∨ x8 = 1) → BKv kd vl n S m lo d p σ τ vs x6 x7 x8 s t z → J95 x6 x7 x8 s t z) (kn : kd p = 24 → EVq (fun N => BKn kd N p) none → F0) : ((v12.toInt = 0 → (J95 ((-1) : Int32) ((-1) : Int32) (1 : Int32) σ τ vs)) ∧ (v12.toInt ≠ 0 → (pp_is (25 : Int32) (upC σ 0 10 ((σ 0 10) + (1 : Int32))) τ vs (fun v37 => ∃ J48 : Int32 → Prop, (∀ (y0_48 : Int32), y0_48 = 0 ∨ y0_48 = 1 → (J48 y0_48 → (∃ J63 : Int32 → St → St → List Nat → Prop, (∀ (y0_63 : Int32) (s63 t63 : St) (z63 : List Nat), J63 y0_63 s63 t63 z63 → (pp_expect (25 : Int32) s63 t63 z63 (fun s68 t68 z68 => (y0_48.toInt ≠ 0 → (J95 (σ 0 10) y0_63 y0_48 s68 t68 z68)) ∧ (y0_48.toInt = 0 → (pp_is (30 : Int32) s68 t68 z68 (fun v79 => (v79.toInt = 0 → (J95 (σ 0 10) y0_63 y0_48 s68 t68 z68)) ∧ (v79.toInt ≠ 0 → (pp_told s68 t68 z68 (fun v86 => J95 (σ 0 10) (if v86 < (0 : Int32) then (0 : Int32) else v86) y0_48 s68 t68 z68))))))) (fun _ _ _ => F0))) ∧ ((y0_48.toInt = 0 → (J63 (0 : Int32) (upC σ 0 10 ((σ 0 10) + (1 : Int32))) τ vs)) ∧ (y0_48.toInt ≠ 0 → (pp_sizeAt (upC σ 0 10 ((σ 0 10) + (1 : Int32))) τ vs (fun v56 s56 t56 z56 => J63 v56 s56 t56 z56) (fun _ _ _ => F0))))))) ∧ ((v37.toInt ≠ 0 → (J48 (0 : Int32))) ∧ (v37.toInt = 0 → (J48 (1 : Int32)))))))) := by
  have tk := hG.1.1
  have hn := tk.1
  have hvl : ∀ q, q ≤ n → kd q = 4 → 0 ≤ vl q ∧ vl q ≤ 16000 := fun q h1 h2 => by
    have := hG.1.2.2.1 q h1 h2
    rw [hG.2.2.2.2 q h1] at this
    exact this
  refine ⟨fun c => ?_, fun c => ?_⟩
  · have n24 : kd p ≠ 24 := fun h => (hv.2 h) c
    refine kk _ _ _ _ _ _ (Or.inr rfl) ⟨p, [], 0, fun h => absurd h n24, fun _ => rfl, ⟨fun h => absurd h (by decide), fun h => absurd h n24⟩, Nat.le_refl p, hg, hG, rfl, kp_rf, tf_rf, fun _ _ h => absurd h (by decide), fun sz _ h0 w hR hf h77 h86 => ?_⟩
    rw [if_neg n24]
    refine ⟨hf, Or.inl ⟨hR, h77, ko_rf, ?_, Or.inl h86, fun y lack hy => ?_⟩⟩
    · unfold EXw KNq
      rw [if_neg (by omega), if_neg (by decide)]
    · unfold SQb SQm
      exact ⟨fun h => by omega, fun h => absurd h.1 (by decide)⟩
  have k24 : kd p = 24 := hv.1 c
  have ep : (σ 0 10).toInt = (p : Int) := hg.1
  have ka : Kp [(0, 10)] [] σ (upC σ 0 10 ((σ 0 10) + (1 : Int32))) := kp_f kp_rf rfl
  have ga : GMt (upC σ 0 10 ((σ 0 10) + (1 : Int32))) n (p + 1) := gm_up tk hg (by omega)
  generalize upC σ 0 10 ((σ 0 10) + (1 : Int32)) = σa at ka ga
  have ea : σa 0 12 = σ 0 12 := ka 0 12 rfl rfl
  have hGa := rg_ds hG (ds_k ka rfl rfl) (by rw [ea]; exact rgq_0 hG.1)
  refine mr_is1 hGa.1.1 ga (c := 25) (by decide) (by decide) (fun v37 hv37 => ?_)
  by_cases c25 : kd (p + 1) = 25
  · refine ⟨fun y => y = 0, fun y _ hy => ?_, fun _ => rfl, fun cx => absurd cx (hv37.2 c25)⟩
    rw [hy]
    refine ⟨fun v s t z => v = 0 ∧ s = σa ∧ t = τ ∧ z = vs, ?_, fun _ => ⟨rfl, rfl, rfl, rfl⟩, fun cx => absurd rfl cx⟩
    rintro v s t z ⟨e1, e2, e3, e4⟩
    rw [e1, e2, e3, e4]
    refine mr_expect hGa.1.1 ga (c := 25) (by decide) (by decide) (fun _ s1 k1 g1 => ⟨fun cx => absurd rfl cx, fun _ => ?_⟩) (fun cx => absurd c25 cx)
    have e1' : s1 0 12 = σa 0 12 := k1 0 12 rfl rfl
    replace g1 : GMt s1 n (p + 2) := g1
    have hG1 := rg_ds hGa (ds_k k1 rfl rfl) (by rw [e1']; exact rgq_0 hGa.1)
    have kz : Kp [(0, 10)] [] σ s1 := kp_tr ka k1
    have hbk : EVq (fun N => BKn kd N p) (some (p + 2, [], 0)) := ev_t c25 ev_c
    have fin : ∀ x7 : Int32, (∀ sz, TSz kd vl (p + 2) sz → x7.toInt = sz ∧ 0 ≤ sz) → J95 (σ 0 10) x7 0 s1 τ vs := fun x7 hx => by
      refine kk _ _ _ _ _ _ (Or.inl rfl) ⟨p + 2, [], 0, fun _ => hbk, fun h => absurd k24 h, ⟨fun _ => k24, fun _ => by omega⟩, by omega, g1, hG1, by rw [e1', ea], ke_k kz rfl rfl, tf_rf, fun sz hsz _ => (hx sz hsz).1, fun sz hsz h0 w hR hf h77 h86 => ?_⟩
      rw [if_pos k24]
      refine gv_d (x := (42, p, 0, sz)) (by simp) (fun _ => da_bracket0 (fun w1 k1w f6 f7 => ?_)) (fun hx => absurd hf hx)
      obtain ⟨b1, b2⟩ := sq_not f6 f7 (hx sz hsz)
      refine ⟨by rw [k1w 6 3 rfl rfl]; exact hf, Or.inl ⟨re_cd hR (cd_ko (ko_kp k1w) rfl rfl) (dd_k kz rfl rfl), by rw [k1w 7 7 rfl rfl]; exact h77, ko_sub (ko_kp k1w) rfl rfl, by rw [ep]; exact b1, Or.inr (by omega), by rw [ep]; exact b2⟩⟩
    refine mr_is1 hG1.1.1 g1 (c := 30) (by decide) (by decide) (fun v79 hv79 => ⟨fun c0 => fin 0 (fun sz h => ?_), fun c1 => ?_⟩)
    · have := h.2 (fun hx => (hv79.2 hx) c0)
      rw [this]
      exact ⟨rfl, by decide⟩
    · have c30 := hv79.1 c1
      have hp2n : p + 2 < n := by
        have h2 := tk.2.2.2.2
        have h3 := g1.2
        by_cases ce : p + 2 = n
        · rw [← ce, c30] at h2
          omega
        · omega
      have e6 : ∀ q, q ≤ n → (s1 6 q).toInt = vl q := hG1.2.2.2.2
      have tk1 := hG1.1.1
      have vb : kd (p + 2 + 1) = 4 → 0 ≤ vl (p + 2 + 1) ∧ vl (p + 2 + 1) ≤ 16000 := hvl _ (by omega)
      have ifc : ∀ v : Int32, (if v < (0 : Int32) then (0 : Int32) else v).toInt = if v.toInt < 0 then 0 else v.toInt := fun v => by
        by_cases cv : v < (0 : Int32)
        · rw [if_pos cv, if_pos (show v.toInt < 0 from Int32.lt_iff_toInt_lt.mp cv)]
          rfl
        · rw [if_neg cv, if_neg (show ¬ v.toInt < 0 from fun hx => cv (Int32.lt_iff_toInt_lt.mpr hx))]
      refine mr_told tk1 g1 hp2n (fun k4 => ?_) (fun hal v hv2 => fin _ (fun sz h => ?_)) (fun h22 v hv2 => fin _ (fun sz h => ?_)) (fun na n22 => fin _ (fun sz h => ?_))
      · have := vb k4
        rw [e6 _ (by omega)]
        omega
      · rw [ifc]
        have hb := vb hal.1
        rw [e6 _ (by omega)] at hv2
        exact ts_told h c30 (by omega) (fun _ => hv2) (fun hx => absurd hal.1 (by omega)) (fun hx => absurd hal hx)
      · rw [ifc]
        obtain ⟨h1, h2, h3⟩ := h.1 c30
        obtain ⟨q, g, cnt, e, es, ec⟩ := h1 h22
        obtain ⟨N, hN⟩ := e
        have hit := td_it (n := 1) (hN N (Nat.le_refl N))
        have hit2 : TDq kd (p + 2 + 1) 1 0 (1 + (cnt : Int) - 1) := td_o (Or.inr (Or.inl h22)) (by decide) hit
        have e2 : v.toInt = 1 + (cnt : Int) - 1 := Option.some.inj (ev_one hv2 hit2)
        rw [if_neg (by omega)]
        constructor <;> omega
      · rw [ifc]
        obtain ⟨h1, h2, h3⟩ := h.1 c30
        have := h3 n22 (fun hx => na hx.2)
        rw [this]
        exact ⟨rfl, by decide⟩
  · refine ⟨fun y => y = 1, fun y _ hy => ?_, fun cx => absurd (hv37.1 cx) c25, fun _ => rfl⟩
    rw [hy]
    refine ⟨fun v s t z => ∃ (p' : Nat) (l : List Stq), EVq (fun N => BKn kd N p) (if kd p' = 25 then some (p' + 1, [((40, p, 0, 0), l)], 1) else none) ∧ p < p' ∧ GMt s n p' ∧ RGs kd vl n S m lo d s ∧ s 0 12 = σ 0 12 ∧ KEr σ s ∧ TFq τ vs t z ∧ ∀ sz, (σ 0 12).toInt = 0 → ∀ w, REq kd n S m lo w σ → (w 6 3).toInt = 0 → (w 7 7).toInt = 0 → GWq ([((40, p, 0, 0), l)] ++ [gq (42, p, 1, sz)]) w (fun w1 => (w1 6 3).toInt = 0 ∧ BKg kd n S m lo (p : Int) v.toInt 1 w w1 s) False, ?_, fun cx => absurd cx (by decide), fun _ => ?_⟩
    · rintro v s t z ⟨p', l, h1, h2, h3, h4, h5, h6, h7, h8⟩
      refine mr_expect h4.1.1 h3 (c := 25) (by decide) (by decide) (fun c s1 k1 g1 => ⟨fun _ => ?_, fun cx => absurd cx (by decide)⟩) (fun c => kn k24 (by rw [if_neg c] at h1; exact h1))
      rw [if_pos c] at h1
      have e1 : s1 0 12 = s 0 12 := k1 0 12 rfl rfl
      have d1 := ds_k k1 rfl rfl
      refine kk _ _ _ _ _ _ (Or.inr rfl) ⟨p' + 1, _, 1, fun _ => h1, fun h => absurd k24 h, ⟨fun _ => k24, fun _ => by omega⟩, by omega, g1, rg_ds h4 d1 (by rw [e1]; exact rgq_0 h4.1), by rw [e1, h5], kp_tr h6 (ke_k k1 rfl rfl), h7, fun _ _ h => absurd h (by decide), fun sz _ h0 w hR hf h77 _ => ?_⟩
      rw [if_pos k24]
      refine gv_mono (h8 sz h0 w hR hf h77) (fun w1 hw1 => ⟨hw1.1, ?_⟩) id
      rw [ep]
      rcases hw1.2 with ⟨g1', g2', g3'⟩ | g
      · exact Or.inl ⟨re_cd g1' cd_rf d1.1, g2', g3'⟩
      · exact Or.inr g
    · refine es_sizeAt hGa ga (fun v s t z p' l σ1 s1 K T H Z F' X hv0 hp g1 hG1 e12 e57 htf hact h15 e12b dd1 dd2 hex hr1 hkp hvv => ?_) (fun hn => kn k24 (ev_f c25 (ev_b0 hn)))
      have e15 : s 0 15 = σ 0 15 := ieq (by rw [hG1.2.2.2.1, hG.2.2.2.1])
      have kpz : Kp [(0, 10), (0, 12), (0, 13), (0, 15), (0, 17), (0, 37), (0, 39)] [8, 33, 14, 25, 21] σ s := kp_tr (kp_sub ka rfl rfl) hkp
      refine ⟨p', l, ev_f c25 (ev_b hv0 ev_c), by omega, g1, hG1, by rw [e12, ea], ke_15 kpz e15, htf, fun sz h0 w hR hf h77 => ?_⟩
      have hR0 : REq kd n S m lo w σ1 := re_cd (re_cd hR cd_rf (dd_k ka rfl rfl)) cd_rf dd1
      refine gv_app (gv_c rfl (fun _ => ca_size hex h15 (by rw [e12b, ea]; exact h0) hR0 hf h77 (fun hF w1 f63 f88 _ => ?_) (fun w1 f63 f77 hR1 k1 f1 f0 => ?_)) (fun hx => absurd hf hx))
      · refine gv_d (x := (42, p, 1, sz)) (by simp) (fun _ => da_bracket1 (fun w2 k2 f6 f7 => ⟨by rw [k2 6 3 rfl rfl]; exact f63, Or.inr ⟨by omega, by rw [f7]; exact f88, fun lack => ?_⟩⟩)) (fun hx => absurd f63 hx)
        rw [hvv, if_neg (fun hx => hF hx.1)]
        exact ⟨by omega, by decide, fun hx => absurd hx.1 (by decide)⟩
      · refine gv_d (x := (42, p, 1, sz)) (by simp) (fun _ => da_bracket1 (fun w2 k2 f6 f7 => ?_)) (fun hx => absurd f63 hx)
        obtain ⟨b1, b2⟩ := sq_given f6 (fun h => by rw [f7]; exact f1 h) (fun h => by rw [f7]; exact f0 h) hvv
        exact ⟨by rw [k2 6 3 rfl rfl]; exact f63, Or.inl ⟨re_cd hR1 (cd_ko (ko_kp k2) rfl rfl) dd2, by rw [k2 7 7 rfl rfl]; exact f77, ko_tr (ko_sub k1 rfl rfl) (ko_sub (ko_kp k2) rfl rfl), b1, Or.inr (by omega), b2⟩⟩
end BRK
end

section
/-! a variable: what is told of its [ ]; what stands behind its = -/
section SQE
variable {w s r s8 s9 σ σ' σ1 sa τ t : St} {kd vl : Nat → Int} {n S m lo d p pb u Lc ty : Nat} {vs z : List Nat} {a1 a2 a3 a4 a5 x6 x7 x8 y0 y1 num : Int32} {F0 : Prop} {sz cells tyi : Int} {loc br row ext A B : Prop} {g : List Gsq} {gb : List Gsq} {giv lk : Int} {v : Int32}
theorem mr_square {J232 : St → St → List Nat → Prop} {lack : Prop} (tk : RTk s kd n) (hg : GMt s n pb) (h0 : 0 ≤ (s 0 12).toInt) (hl : lack ↔ a4.toInt ≠ 0 ∨ kd pb = 30) (hy : 0 ≤ x6.toInt → (y0.toInt ≠ 0 ↔ 1 ≤ x7.toInt ∧ x7.toInt ≤ 4000)) (kk : ∀ s', Kp [(0, 12), (0, 13)] [] s s' → FTq s s' (SQm x6.toInt x7.toInt x8.toInt lack) → J232 s' t z) : ((x6.toInt < 0 → (J232 s t z)) ∧ (0 ≤ x6.toInt → (∃ J192 : St → St → List Nat → Prop, (∀ (s192 t192 : St) (z192 : List Nat), J192 s192 t192 z192 → (∃ J227 : Int32 → Prop, (∀ (y1_227 : Int32), y1_227 = 0 ∨ y1_227 = 1 → (J227 y1_227 → (pp_must y1_227 x6 s192 t192 z192 (fun s229 t229 z229 => J232 s229 t229 z229)))) ∧ (∃ J222 : Prop, (J222 → (J227 (1 : Int32))) ∧ ((y0.toInt ≠ 0 → (J222)) ∧ (y0.toInt = 0 → (∃ J226 : Prop, (J226 → (J227 (0 : Int32))) ∧ ((x8.toInt ≠ 0 → (J226)) ∧ (x8.toInt = 0 → ((x7.toInt ≠ 0 → (J226)) ∧ (x7.toInt = 0 → ((a4.toInt ≠ 0 → (J222)) ∧ (a4.toInt = 0 → (pp_is (30 : Int32) s192 t192 z192 (fun v216 => (v216.toInt = 0 → (J226)) ∧ (v216.toInt ≠ 0 → (J222)))))))))))))))) ∧ ((x7.toInt ≤ 4000 → (J192 s t z)) ∧ (4000 < x7.toInt → (pp_tell (4 : Int32) x6 s t z (fun s189 t189 z189 => J192 s189 t189 z189))))))) := by
  refine ⟨fun c => kk s kp_rf (ft_iff (ft_rf h0) ⟨False.elim, fun h => absurd h.1 (by omega)⟩), fun c => ?_⟩
  have hy := hy c
  refine ⟨fun s' t' z' => t' = t ∧ z' = z ∧ Kp [(0, 12), (0, 13)] [] s s' ∧ FTq s s' (4000 < x7.toInt), ?_, fun c1 => ⟨rfl, rfl, kp_rf, ft_iff (ft_rf h0) ⟨False.elim, fun h => by omega⟩⟩, fun c1 => mr_tell h0 (by decide) (fun s1 k1 f1 => ⟨rfl, rfl, k1, ft_iff f1 ⟨fun _ => c1, fun _ => trivial⟩⟩)⟩
  rintro s1 t1 z1 ⟨e1, e2, k1, f1⟩
  rw [e1, e2]
  have tk1 : RTk s1 kd n := rtk_k k1 (fun _ => rfl) rfl tk
  have g1 : GMt s1 n pb := gm_k hg (k1 0 10 rfl rfl)
  refine ⟨fun y => (y.toInt ≠ 0 ↔ (1 ≤ x7.toInt ∧ x7.toInt ≤ 4000) ∨ (x8.toInt = 0 ∧ x7.toInt = 0 ∧ lack)), fun y _ hj => mr_must f1.1 (fun s2 k2 f2 => kk s2 (kp_tr k1 k2) (ft_iff (ft_tr f1 f2 (k1 0 15 rfl rfl)) ?_)), (1 ≤ x7.toInt ∧ x7.toInt ≤ 4000) ∨ (x8.toInt = 0 ∧ x7.toInt = 0 ∧ lack), fun hj => ⟨fun _ => hj, fun _ => by decide⟩, fun cy => Or.inl (hy.1 cy), fun cy => ⟨¬ ((1 ≤ x7.toInt ∧ x7.toInt ≤ 4000) ∨ (x8.toInt = 0 ∧ x7.toInt = 0 ∧ lack)), fun hj => ⟨fun h => absurd rfl h, fun h => absurd h hj⟩, fun c8 hx => hx.elim (fun h => (hy.2 h) cy) (fun h => c8 h.1), fun c8 => ⟨fun c7 hx => hx.elim (fun h => (hy.2 h) cy) (fun h => c7 h.2.1), fun c7 => ⟨fun c4 => Or.inr ⟨c8, c7, hl.2 (Or.inl c4)⟩, fun c4 => mr_is1 tk1 g1 (c := 30) (by decide) (by decide) (fun v hv => ⟨fun c0 hx => hx.elim (fun h => (hy.2 h) cy) (fun h => (hl.1 h.2.2).elim (fun h => h c4) (fun h => (hv.2 h) c0)), fun c1 => Or.inr ⟨c8, c7, hl.2 (Or.inr (hv.1 c1))⟩⟩)⟩⟩⟩⟩
  unfold SQm
  constructor
  · rintro (h | h)
    · exact ⟨c, fun hx => by omega, fun hx => by have := hx.2.1; omega⟩
    · exact ⟨c, fun hx => (hj.2 (Or.inl hx)) h, fun hx => (hj.2 (Or.inr hx)) h⟩
  · rintro ⟨_, h1, h2⟩
    exact Or.inr (Decidable.byContradiction (fun hx => (hj.1 hx).elim h1 h2))
theorem in_src (e : sa 0 12 = s 0 12) (dd : DDq s sa) (h : INq kd n S m lo loc br row ext tyi cells g sa σ') : INq kd n S m lo loc br row ext tyi cells g s σ' := fun h0 w hR => h (by rw [e]; exact h0) w (re_cd hR cd_rf dd)
/-- the reference: what stands behind the =, if one does -/
theorem es_set {Q : St → St → List Nat → Prop} (h1 : a2.toInt = (ty : Int)) (h5 : a5.toInt ≠ 0 ↔ loc) (hG : RGs kd vl n S m lo d s) (hg : GMt s n pb)
    (kk1 : kd pb = 30 → ∀ s' t' z' p' g sz br cells, (br = true ↔ 0 ≤ x6.toInt) → (br = true → cells = if y1.toInt < 1 then 1 else y1.toInt) → EVq (fun N => INn kd vl N br ty pb) (some (p', g, sz)) → TLq kd vl br pb sz → pb + 1 < p' → GMt s' n p' → RGs kd vl n S m lo d s' → MNq s s' → KEr s s' → TFq t z t' z' → INq kd n S m lo loc (br = true) (kd (pb + 1) = 22 ∨ ALq kd (pb + 1)) (a4.toInt ≠ 0) (ty : Int) cells g s s' → (br = true → ¬ (kd (pb + 1) = 22 ∨ ALq kd (pb + 1)) → (s' 0 12).toInt ≠ 0 ∧ ARq g) → Q s' t' z')
    (kk0 : kd pb ≠ 30 → Q s t z) (kn : kd pb = 30 → ∀ br, (br = true ↔ 0 ≤ x6.toInt) → EVq (fun N => INn kd vl N br ty pb) none → F0) : pp_is (30 : Int32) s t z (fun v288 => (v288.toInt ≠ 0 → (∃ J343 : Int32 → St → St → List Nat → Prop, (∀ (y0_343 : Int32) (s343 t343 : St) (z343 : List Nat), y0_343 = 0 ∨ y0_343 = 1 → (J343 y0_343 s343 t343 z343 → (∃ J361 : Int32 → Prop, (∀ (y1_361 : Int32), y1_361 = 0 ∨ y1_361 = 1 → (J361 y1_361 → (pp_must y1_361 (s 0 10) s343 t343 z343 (fun s363 t363 z363 => Q s363 t363 z363)))) ∧ (∃ J360 : Prop, (J360 → (J361 (0 : Int32))) ∧ ((y0_343.toInt = 0 → (J360)) ∧ (y0_343.toInt ≠ 0 → ((a4.toInt ≠ 0 → (J360)) ∧ (a4.toInt = 0 → (J361 (1 : Int32)))))))))) ∧ ((x6.toInt < 0 → (pp_oneInitial a2 num a5 (upC s 0 10 ((s 0 10) + (1 : Int32))) t z (fun v340 s340 t340 z340 => J343 v340 s340 t340 z340) (fun _ _ _ => F0))) ∧ (0 ≤ x6.toInt → (pp_rowInitial a2 (if y1 < (1 : Int32) then (1 : Int32) else y1) num a5 (upC s 0 10 ((s 0 10) + (1 : Int32))) t z (fun v328 s328 t328 z328 => J343 v328 s328 t328 z328) (fun _ _ _ => F0)))))) ∧ (v288.toInt = 0 → (Q s t z))) := by
  refine mr_is1 hG.1.1 hg (c := 30) (by decide) (by decide) (fun v hv => ⟨fun c => ?_, fun c => kk0 (fun h => (hv.2 h) c)⟩)
  have c30 := hv.1 c
  have ka : Kp [(0, 10)] [] s (upC s 0 10 ((s 0 10) + (1 : Int32))) := kp_f kp_rf rfl
  have ga : GMt (upC s 0 10 ((s 0 10) + (1 : Int32))) n (pb + 1) := gm_up hG.1.1 hg (by omega)
  generalize upC s 0 10 ((s 0 10) + (1 : Int32)) = sa at ka ga
  have ea : sa 0 12 = s 0 12 := ka 0 12 rfl rfl
  have hGa := rg_ds hG (ds_k ka rfl rfl) (by rw [ea]; exact rgq_0 hG.1)
  have ifc : (if y1 < (1 : Int32) then (1 : Int32) else y1).toInt = if y1.toInt < 1 then 1 else y1.toInt := by
    by_cases cv : y1 < (1 : Int32)
    · rw [if_pos cv, if_pos (show y1.toInt < 1 from Int32.lt_iff_toInt_lt.mp cv)]
      rfl
    · rw [if_neg cv, if_neg (show ¬ y1.toInt < 1 from fun hx => cv (Int32.lt_iff_toInt_lt.mpr hx))]
  refine ⟨fun y s' t' z' => ∃ (br : Bool) (cells : Int), (br = true ↔ 0 ≤ x6.toInt) ∧ (br = true → cells = if y1.toInt < 1 then 1 else y1.toInt) ∧ IPq kd vl n S m lo d br ty loc cells pb sa t z y s' t' z', ?_, fun c6 => es_oneInitial h1 h5 hGa ga (fun v s' t' z' h => ⟨false, 0, ⟨fun h => absurd h (by decide), fun h => by omega⟩, fun h => absurd h (by decide), h⟩) (kn c30 false ⟨fun h => absurd h (by decide), fun h => by omega⟩), fun c6 => es_rowInitial h1 h5 hGa ga (fun v s' t' z' h => ⟨true, _, ⟨fun _ => c6, fun _ => rfl⟩, fun _ => ifc, h⟩) (kn c30 true ⟨fun _ => c6, fun _ => rfl⟩)⟩
  rintro y s' t' z' hy ⟨br, cells, hb1, hb2, p', g, sz, j1, j2, j3, j4, j5, j6, j7, j8, j9, jr, j10⟩
  refine ⟨fun y1 => (y1.toInt = 0 ↔ y.toInt = 0 ∨ a4.toInt ≠ 0), fun y1 _ hj => mr_must (rgq_0 j5.1) (fun s2 k2 f2 => ?_), y.toInt = 0 ∨ a4.toInt ≠ 0, fun hj => ⟨fun _ => hj, fun _ => rfl⟩, fun c => Or.inl c, fun c => ⟨fun c4 => Or.inr c4, fun c4 => ⟨fun h => absurd h (by decide), fun h => h.elim (fun h => absurd h c) (fun h => absurd c4 h)⟩⟩⟩
  have ft : FTq s' s2 (y.toInt = 0 ∨ a4.toInt ≠ 0) := ft_iff f2 hj
  exact kk1 c30 s2 t' z' p' g sz br cells hb1 hb2 j1 j2 j3 (gm_k j4 (k2 0 10 rfl rfl)) (rg_ds j5 (ds_k k2 rfl rfl) f2.1) (fun hx => f2.2.2 (Or.inl (j6 (by rw [ea]; exact hx)))) (kp_tr (ke_k ka rfl rfl) (kp_tr j7 (ke_k k2 rfl rfl))) j8 (in_src ea (dd_k ka rfl rfl) (j10 _ s2 k2 ft)) (fun hb hr => ⟨bad_in j5.2.2.2.1 ft (Or.inl (by rw [(jr hb hr).1]; rfl)), (jr hb hr).2⟩)
/-- the reference: a name holds -/
theorem mr_hold {Q : St → St → List Nat → Prop} (h53 : (s 0 53).toInt = (S : Int)) (hS : S < 100) (kk : ∀ s', Kp [(0, 53)] [34, 35, 36] s s' → (s' 0 53).toInt = (S : Int) + 1 → (∀ j, s' 34 j = if j = S then a1 else s 34 j) → (∀ j, s' 35 j = if j = S then a2 else s 35 j) → (∀ j, s' 36 j = if j = S then s 0 54 else s 36 j) → Q s' t z) : pp_hold a1 a2 s t z Q := by
  unfold pp_hold
  have e : (s 0 53).toNatClampNeg = S := nat_of h53
  rw [e]
  refine fun _ _ _ => kk _ (kp_f (kp_a (kp_a (kp_a kp_rf rfl) rfl) rfl) rfl) ?_ (fun j => ?_) (fun j => ?_) (fun j => ?_)
  · rw [rdA_eq rfl, ad1 (by omega), h53]
  · rw [rdC_ne (by decide), rdC_ne (by decide), rdC_ne (by decide), rdC_eq]
  · rw [rdC_ne (by decide), rdC_ne (by decide), rdC_eq, rdC_ne (by decide)]
  · rw [rdC_ne (by decide), rdC_eq, rdC_ne (by decide), rdC_ne (by decide)]
/-- the grammar: a variable, from its [ ] and its initial -/
def bkl (kd : Nat → Int) (p : Nat) (gb : List Gsq) (giv sz : Int) : List Gsq := if kd p = 24 then gb ++ [gq (42, p, giv, sz)] else []
theorem v1_set {br : Bool} {p' : Nat} (b1 : kd p = 24 → EVq (fun N => BKn kd N p) (some (pb, gb, giv))) (b2 : kd p ≠ 24 → pb = p) (c30 : kd pb = 30) (e1 : br = true ↔ kd p = 24) (hev : EVq (fun N => INn kd vl N br ty pb) (some (p', g, sz))) : EVq (fun N => V1n kd vl N lk u ty p) (some (p', bkl kd p gb giv sz ++ [gq (43, u, (ty : Int), lk + 4)] ++ g)) := by
  unfold bkl
  by_cases c : kd p = 24
  · have : br = true := e1.2 c
    rw [if_pos c]
    rw [this] at hev
    exact ev_t c (ev_b (b1 c) (ev_t c30 (ev_b hev ev_c)))
  · have : br = false := by
      cases br with
      | true => exact absurd (e1.1 rfl) c
      | false => rfl
    rw [if_neg c]
    have ep := b2 c
    rw [this, ep] at hev
    rw [ep] at c30
    exact ev_f c (ev_t c30 (ev_b hev ev_c))
theorem v1_no (b1 : kd p = 24 → EVq (fun N => BKn kd N p) (some (pb, gb, giv))) (b2 : kd p ≠ 24 → pb = p) (c30 : kd pb ≠ 30) : EVq (fun N => V1n kd vl N lk u ty p) (some (pb, bkl kd p gb giv 0 ++ [gq (43, u, (ty : Int), lk)])) := by
  unfold bkl
  by_cases c : kd p = 24
  · rw [if_pos c]
    exact ev_t c (ev_b (b1 c) (ev_f c30 ev_c))
  · rw [if_neg c]
    have ep := b2 c
    rw [ep] at c30 ⊢
    exact ev_f c (ev_f c30 ev_c)
theorem v1_none {br : Bool} (b1 : kd p = 24 → EVq (fun N => BKn kd N p) (some (pb, gb, giv))) (b2 : kd p ≠ 24 → pb = p) (c30 : kd pb = 30) (e1 : br = true ↔ kd p = 24) (hev : EVq (fun N => INn kd vl N br ty pb) none) : EVq (fun N => V1n kd vl N lk u ty p) none := by
  by_cases c : kd p = 24
  · have : br = true := e1.2 c
    rw [this] at hev
    exact ev_t c (ev_b (b1 c) (ev_t c30 (ev_b0 hev)))
  · have : br = false := by
      cases br with
      | true => exact absurd (e1.1 rfl) c
      | false => rfl
    have ep := b2 c
    rw [this, ep] at hev
    rw [ep] at c30
    exact ev_f c (ev_t c30 (ev_b0 hev))
end SQE
end

section
/-! a local variable: both sides -/
/-- the reference behind a local's name -/
def LNf (σ s : St) (Lc : Nat) (v ty sz : Int32) (A : Prop) : Prop := Kp [(0, 12), (0, 13), (0, 49)] [31, 32, 33] σ s ∧ FTq σ s A ∧ (Lc < 100 → v.toInt = (Lc : Int) ∧ (s 0 49).toInt = (Lc : Int) + 1 ∧ (∀ j, s 31 j = if j = Lc then ty else σ 31 j) ∧ (∀ j, j ≠ Lc → s 32 j = σ 32 j) ∧ ((s 32 Lc).toInt < 0 ↔ sz.toInt < 0)) ∧ (Lc = 100 → v.toInt < 0 ∧ s 0 49 = σ 0 49 ∧ s 31 = σ 31 ∧ s 32 = σ 32)
/-- and where it holds -/
def LHf (σ s : St) (S Lc : Nat) (v tk ty sz : Int32) (A : Prop) : Prop := Kp [(0, 12), (0, 13), (0, 49), (0, 53), (0, 17), (0, 10)] [8, 31, 32, 33, 34, 35, 36] σ s ∧ s 0 10 = σ 0 10 ∧ FTq σ s A ∧ (Lc < 100 → v.toInt = (Lc : Int) ∧ (s 0 49).toInt = (Lc : Int) + 1 ∧ (s 0 53).toInt = (S : Int) + 1 ∧ (∀ j, s 31 j = if j = Lc then ty else σ 31 j) ∧ (∀ j, j ≠ Lc → s 32 j = σ 32 j) ∧ ((s 32 Lc).toInt < 0 ↔ sz.toInt < 0) ∧ (∀ j, s 34 j = if j = S then tk else σ 34 j) ∧ (∀ j, s 35 j = if j = S then v else σ 35 j) ∧ ∀ j, s 36 j = if j = S then σ 0 54 else σ 36 j) ∧ (Lc = 100 → DSw σ s ∧ A)
section VL2
variable {w s r s2 s95 s285 σ σ' τ t : St} {kd vl : Nat → Int} {n S m lo d p pb u Lc ty O : Nat} {vs z : List Nat} {a1 a2 a3 a4 a5 v tk tyv sz : Int32} {F0 : Prop} {A B : Prop} {g : List Gsq} {gb : List Gsq} {giv lk szi : Int} {x6 x7 x8 : Int}
theorem ln_k (h : LNf σ s Lc v tyv sz A) (k : Kp [(0, 12), (0, 13)] [] s s2) (f : FTq s s2 B) : LNf σ s2 Lc v tyv sz (A ∨ B) := by
  obtain ⟨h1, h2, h3, h4⟩ := h
  have e31 : s2 31 = s 31 := funext (fun j => k 31 j rfl rfl)
  have e32 : s2 32 = s 32 := funext (fun j => k 32 j rfl rfl)
  have e49 : s2 0 49 = s 0 49 := k 0 49 rfl rfl
  refine ⟨kp_tr h1 (kp_sub k rfl rfl), ft_tr h2 f (h1 0 15 rfl rfl), fun hl => ?_, fun hl => ?_⟩
  · rw [e31, e32, e49]; exact h3 hl
  · rw [e31, e32, e49]; exact h4 hl
theorem ds_ln (h : LNf σ s Lc v tyv sz A) (hl : Lc = 100) : DSw σ s := by
  obtain ⟨h1, _, _, h4⟩ := h
  obtain ⟨_, e49, e31, e32⟩ := h4 hl
  have k : Kp [(0, 12), (0, 13)] [33] σ s := fun c j hf hc => by
    by_cases c31 : c = 31
    · rw [c31]; exact congrFun e31 j
    by_cases c32 : c = 32
    · rw [c32]; exact congrFun e32 j
    by_cases c49 : c = 0 ∧ j = 49
    · rw [c49.1, c49.2]; exact e49
    · refine h1 c j ?_ ?_
      · simp only [List.contains_cons, List.contains_nil, Bool.or_false, Bool.or_eq_false_iff, beq_eq_false_iff_ne, ne_eq, Prod.mk.injEq, not_and] at hf ⊢
        omega
      · simp only [List.contains_cons, List.contains_nil, Bool.or_false, Bool.or_eq_false_iff, beq_eq_false_iff_ne, ne_eq] at hc ⊢
        omega
  exact ds_k k rfl rfl
theorem ro_parts (hR : RSo kd n S m lo d 0 w σ) (k : Ko [(4, 1), (6, 3), (6, 4), (7, 7), (6, 5), (5, 9), (8, 6), (8, 7), (8, 8), (8, 9), (8, 10), (8, 11), (8, 12), (8, 13), (8, 15), (8, 16)] [24, 43, 17, 31, 32, 33, 25, 39] w s) (hr : KEr σ σ') : SCq S d s σ' ∧ LCq S s σ' ∧ RTq s σ' := by
  obtain ⟨_, _, h3, h4, h6, h7⟩ := hR
  have e617 : s 6 17 = w 6 17 := k 6 17 (op_lt (by omega)) rfl rfl
  have e610 : s 6 10 = w 6 10 := k 6 10 (op_lt (by omega)) rfl rfl
  have e66 : s 6 6 = w 6 6 := k 6 6 (op_lt (by omega)) rfl rfl
  have e45 : s 45 = w 45 := ko_rd k 45 (by omega) rfl (fun _ => rfl)
  have e44 : s 44 = w 44 := ko_rd k 44 (by omega) rfl (fun _ => rfl)
  have e26 : s 26 = w 26 := ko_rd k 26 (by omega) rfl (fun _ => rfl)
  have e36 : σ' 36 = σ 36 := funext (fun j => hr 36 j rfl rfl)
  refine ⟨?_, ?_, ?_⟩
  · unfold SCq
    rw [e617, e45, e36, hr 0 54 rfl rfl]
    exact h3
  · unfold LCq
    rw [e610, hr 0 49 rfl rfl, e44]
    exact h4
  · unfold RTq
    rw [e66, e26, hr 0 55 rfl rfl, hr 0 56 rfl rfl]
    exact h6
/-- the class: wherever, a size that is none -/
theorem xl_outerAny {a : Int32} {Q : Int32 → Prop} (kk : ∀ v, Q v) : pk_X11_outerOf a w Q := by
  unfold pk_X11_outerOf
  exact ⟨fun _ => True, trivial, fun _ _ => ⟨fun _ => kk _, fun _ => xl_sameAny (fun _ => ⟨fun _ => trivial, fun _ => kk _⟩)⟩⟩
theorem xl_joinsAny {a b : Int32} {Q : Int32 → Prop} (kk : ∀ v, Q v) : pk_X1_joins a b w Q := by
  unfold pk_X1_joins
  refine xl_is (fun v _ _ => ⟨fun _ => True, fun _ _ _ => ⟨fun _ => True, fun _ _ _ => ⟨fun _ => True, fun _ _ _ => ⟨fun _ => kk _, fun _ => ⟨fun _ => kk _, fun _ => ⟨fun _ => kk _, fun _ => ⟨fun _ => kk _, fun _ => xl_is (fun v2 _ _ => ⟨fun _ => kk _, fun _ => kk _⟩)⟩⟩⟩⟩, True, fun _ => trivial, fun _ => trivial, fun _ => xl_is (fun v2 _ _ => ⟨fun _ => trivial, fun _ => trivial⟩)⟩, True, fun _ => trivial, fun _ => trivial, fun _ => ⟨fun _ => trivial, fun _ => ⟨fun _ => trivial, fun _ => trivial⟩⟩⟩, True, fun _ => trivial, fun _ => trivial, fun _ => ⟨fun _ => trivial, fun _ => ⟨fun _ => True, fun _ _ _ => ⟨fun _ => True, fun _ _ _ => ⟨fun _ => trivial, fun _ => trivial⟩, fun _ => trivial, fun _ => trivial⟩, fun _ => trivial, fun _ => trivial⟩⟩⟩)
theorem xl_checkOuterAny {a b c : Int32} {Q : St → Prop} (kk : ∀ s, Kp [(6, 3), (6, 4)] [] w s → Q s) : pk_X1_checkOuter a b c w Q := by
  unfold pk_X1_checkOuter
  exact ⟨fun s => Kp [(6, 3), (6, 4)] [] w s, fun s ks => ⟨fun _ => kk s ks, fun _ => ⟨fun _ => kk s ks, fun _ => xl_fail (by decide) (fun s2 k2 _ => kk s2 (kp_tr ks k2))⟩⟩, fun _ => kp_rf, fun _ => xl_fail (by decide) (fun s2 k2 _ => k2)⟩
theorem xo_bad {a b c : Int32} {Q : St → Prop} (hb : ∀ y, SQb w y) (k1 : ∀ s, (s 6 3).toInt ≠ 0 → Q s) : pk_X1_outer a b c w Q := by
  unfold pk_X1_outer
  refine xl_outerAny (fun v => ⟨fun _ => True, fun y _ _ => xl_checkOuterAny (fun s ks => ⟨fun _ => True, fun y2 _ _ => xc_square (fun s4 k4 h4 => ?_), True, fun _ => trivial, fun _ => trivial, fun _ => ⟨fun _ => trivial, fun _ => trivial⟩⟩), True, fun _ => trivial, fun _ => trivial, fun _ => xl_joinsAny (fun v2 => ⟨fun _ => trivial, fun _ => trivial⟩)⟩)
  have h63 : (s4 6 3).toInt ≠ 0 := h4.2 (Or.inr (by
    have := hb y2
    unfold SQb at this ⊢
    rw [ks 8 6 rfl rfl, ks 8 7 rfl rfl]
    exact this))
  exact ⟨fun _ => True, fun y3 _ => ⟨fun s => (s 6 3).toInt ≠ 0, fun s h => ⟨fun c => absurd c h, fun _ => k1 s h⟩, fun _ => h63, fun _ => xl_fail (by decide) (fun s2 _ h2 => h2)⟩, fun _ => ⟨fun _ => trivial, fun _ => trivial⟩, fun _ => trivial⟩
theorem xv_badAny {a b c : Int32} {Q : St → Prop} (h6 : 0 ≤ (w 8 6).toInt) (h7 : (w 8 7).toInt = 0) (k1 : ∀ s, (s 6 3).toInt ≠ 0 → Q s) : pk_X1_variable a b c w Q := by
  have sq : ∀ w2 y, Kp [(8, 9), (8, 11), (8, 12), (8, 13), (8, 15), (8, 16)] [] w w2 → SQb w2 y := fun w2 y k => by
    unfold SQb
    rw [k 8 6 rfl rfl, k 8 7 rfl rfl]
    exact ⟨h6, Or.inr (Or.inl ⟨by omega, by omega⟩)⟩
  have kq : ∀ s, (s 6 3).toInt ≠ 0 → Q (upC s 8 6 ((-1) : Int32)) := fun s h => k1 _ (by rw [rdC_ne (by decide)]; exact h)
  unfold pk_X1_variable
  exact ⟨fun _ => True, fun y _ _ => ⟨fun _ => True, fun x _ => ⟨fun _ => True, fun y2 _ _ => ⟨fun _ => True, fun y3 _ _ => ⟨fun _ => xo_bad (fun y => sq _ y (kp_f (kp_f (kp_f (kp_f (kp_f (kp_f kp_rf rfl) rfl) rfl) rfl) rfl) rfl)) kq, fun _ => xv_bad (sq _ _ (kp_f (kp_f (kp_f (kp_f (kp_f (kp_f kp_rf rfl) rfl) rfl) rfl) rfl) rfl)) kq⟩, fun _ => trivial, fun _ => trivial⟩, fun _ => trivial, fun _ => trivial⟩, fun _ => ⟨True, fun _ => trivial, fun _ => trivial, fun _ => ⟨fun _ => trivial, fun _ => trivial⟩⟩, fun _ => trivial⟩, fun _ => trivial, fun _ => trivial⟩
/-- the class's walk over a local variable, up to its initial -/
theorem vl_walk {rest : List Gsq} {Q : St → Prop} {B : Prop} (hlk : lk = 0 ∧ kd pb ≠ 30 ∨ lk = 4 ∧ kd pb = 30) (hu : u ≤ n) (ku : kd u = 2) (htk : tk.toInt = (u : Int)) (htv : tyv.toInt = (ty : Int)) (hty : ty ≤ 5) (hd : 1 ≤ d ∧ d ≤ 26) (l2 : S ≤ Lc ∧ Lc ≤ 100) (l49 : (s95 0 49).toInt = (Lc : Int))
    (hbk : (σ 0 12).toInt = 0 → ∀ w, REq kd n S m lo w σ → (w 6 3).toInt = 0 → (w 7 7).toInt = 0 → (w 8 6).toInt = -1 → GWq (bkl kd p gb giv szi) w (fun w1 => (w1 6 3).toInt = 0 ∧ BKg kd n S m lo x6 x7 x8 w w1 s95) False) (hke : KEr σ s95) (e12 : s95 0 12 = σ 0 12) (e15 : (s95 0 15).toInt = 0) (hsz : sz.toInt = KNq x6 x7)
    (hlh : LHf s95 s285 S Lc v tk tyv sz ((HHm s95 S d u ∨ Lc = 100) ∨ SQm x6 x7 x8 (kd pb = 30))) (hB : (s285 0 12).toInt ≠ 0 → B) (hq : ∀ s, (s 6 3).toInt ≠ 0 → B → Q s) (h0 : (σ 0 12).toInt = 0) (hR : RSo kd n S m lo d 0 w σ) (hf : (w 6 3).toInt = 0)
    (kk : ∀ r, (r 6 3).toInt = 0 → (s285 0 12).toInt = 0 → RSo kd n (S + 1) m lo d 0 r s285 → Lc < 100 → ¬ SQm x6 x7 x8 (kd pb = 30) → r 9 5 = w 9 5 → r 49 = w 49 → (r 8 11).toInt = (ty : Int) → (r 8 9).toInt ≠ 0 → (r 8 15).toInt = 0 → (r 8 16).toInt = 0 → (r 8 12).toInt = KNq x6 x7 → (r 8 13).toInt = 0 → GWq rest r Q B) : GWq (bkl kd p gb giv szi ++ ([gq (43, u, (ty : Int), lk)] ++ rest)) w Q B := by
  have f95 : (s95 0 12).toInt = 0 := by rw [e12]; exact h0
  refine gv_app (gv_mono (hbk h0 w hR.1 hf hR.2.1 hR.2.2.2.2.2) (fun w1 hw1 => ?_) False.elim)
  obtain ⟨f1, hg⟩ := hw1
  have bad : ∀ A2, A2 → (((HHm s95 S d u ∨ Lc = 100) ∨ SQm x6 x7 x8 (kd pb = 30)) ↔ A2) → B := fun A2 h e => hB (hlh.2.2.1.2.2 (Or.inr ⟨e.2 h, by omega⟩))
  rcases hg with ⟨b1, b2, b3, b4, b5, b6⟩ | ⟨b1, b2, b3⟩
  · obtain ⟨hC, hL, hT⟩ := ro_parts hR (ko_sub b3 rfl rfl) hke
    refine gv_app (gv_d (x := (43, u, (ty : Int), lk)) (by simp) (fun _ => da_var (fun a b c ea eb ec => xv_variable hT.1 (fun w2 y k2 g11 g12 g15 g16 g9 g13 hy => ?_))) (fun hx => absurd f1 hx))
    have hyl : y.toInt ≠ 0 ↔ kd pb = 30 := by
      rw [hy]
      rcases hlk with ⟨h, h2⟩ | ⟨h, h2⟩
      · have : c = 0 := ieq (by rw [ec, h]; rfl)
        rw [this]
        exact ⟨fun h => absurd rfl h, fun h => absurd h h2⟩
      · have : c = 4 := ieq (by rw [ec, h]; rfl)
        rw [this]
        exact ⟨fun _ => h2, fun _ => by decide⟩
    have c3 : ¬ (c &&& (3 : Int32)).toInt = 2 := by
      rcases hlk with ⟨h, h2⟩ | ⟨h, h2⟩
      · have : c = 0 := ieq (by rw [ec, h]; rfl)
        rw [this]; decide
      · have : c = 4 := ieq (by rw [ec, h]; rfl)
        rw [this]; decide
    have sq : SQb w2 y ↔ SQm x6 x7 x8 (kd pb = 30) := by
      rw [← b6 y _ hyl]
      unfold SQb
      rw [k2 8 6 rfl rfl, k2 8 7 rfl rfl]
    have eab : a = tk := ieq (by rw [ea, htk])
    have ebt : b = tyv := ieq (by rw [eb, htv])
    have hE2 : REq kd n S m lo w2 s95 := re_cd b1 (cd_ko (ko_kp k2) rfl rfl) dd_rf
    have hC2 : SCq S d w2 s95 := by
      unfold SCq at hC ⊢
      rw [k2 6 17 rfl rfl, show w2 45 = w1 45 from funext (fun j => k2 45 j rfl rfl)]
      exact hC
    obtain ⟨Lc', q1, q2, q3, q4, q5⟩ := hL
    have eL : Lc' = Lc := by omega
    rw [eL] at q1 q5
    have w210 : (w2 6 10).toInt = (Lc : Int) := by rw [k2 6 10 rfl rfl]; exact q1
    have f2 : (w2 6 3).toInt = 0 := by rw [k2 6 3 rfl rfl]; exact f1
    refine xv_local hE2 hC2 hd w210 l2 f2 ea hu ku (fun s h63 hb => ?_) (fun nb s ks h63 f810 f10 f15 f40 f41 f42 f44 => ?_)
    · have hBB : B := bad _ hb (by rw [sq, or_assoc])
      have e63 : ((upC s 8 6 ((-1) : Int32)) 6 3).toInt ≠ 0 := by rw [rdC_ne (by decide)]; exact h63
      exact gv_bad e63 hBB (fun s' h => hq s' h hBB)
    · rw [sq, ← or_assoc] at nb
      have hl : Lc < 100 := by
        have : ¬ Lc = 100 := fun h => nb (Or.inl (Or.inr h))
        omega
      obtain ⟨kr, e10, hft, hlt, _⟩ := hlh
      obtain ⟨hv, g49, g53, g31, g32, g32L, g34, g35, g36⟩ := hlt hl
      have n285 : (s285 0 12).toInt = 0 := Decidable.byContradiction (fun hx => (hft.2.1 hx).elim (fun h => h f95) (fun h => nb h.1))
      have k3 : Kp [(4, 1), (6, 3), (6, 4), (6, 10), (6, 15), (8, 10), (8, 6)] [24, 40, 41, 42, 43, 44] w2 (upC s 8 6 ((-1) : Int32)) := kp_f (kp_sub ks rfl rfl) rfl
      have a40 : ∀ j, (upC s 8 6 ((-1) : Int32)) 40 j = if j = Lc then tk else w2 40 j := fun j => by rw [rdC_ne (by decide), f40, eab]
      have a41 : ∀ j, (upC s 8 6 ((-1) : Int32)) 41 j = if j = Lc then tyv else w2 41 j := fun j => by rw [rdC_ne (by decide), f41, g11, ebt]
      have a42 : ∀ j, (upC s 8 6 ((-1) : Int32)) 42 j = if j = Lc then w2 8 12 else w2 42 j := fun j => by rw [rdC_ne (by decide), f42]
      have a44 : ∀ j, (upC s 8 6 ((-1) : Int32)) 44 j = if j = S then w2 6 10 else w2 44 j := fun j => by rw [rdC_ne (by decide), f44]
      have a10 : ((upC s 8 6 ((-1) : Int32)) 6 10).toInt = (Lc : Int) + 1 := by rw [rdC_ne (by decide)]; exact f10
      have a15 : ((upC s 8 6 ((-1) : Int32)) 6 15).toInt = (S : Int) + 1 := by rw [rdC_ne (by decide)]; exact f15
      have a63 : ((upC s 8 6 ((-1) : Int32)) 6 3).toInt = 0 := by rw [rdC_ne (by decide)]; exact h63
      have a86 : ((upC s 8 6 ((-1) : Int32)) 8 6).toInt = -1 := by rw [rdA_eq rfl]; rfl
      clear f40 f41 f42 f44 f10 f15 h63 ks
      generalize upC s 8 6 ((-1) : Int32) = s3 at k3 a40 a41 a42 a44 a10 a15 a63 a86
      have ko3 : Ko [(4, 1), (6, 3), (6, 4), (6, 10), (6, 15)] [24, 40, 41, 42, 43, 44, 8] w2 s3 := ko_sub (ko_kp k3) rfl rfl
      have e44 : w2 44 = w1 44 := funext (fun j => k2 44 j rfl rfl)
      have exz : (w2 8 12).toInt < 0 ↔ sz.toInt < 0 := by rw [g12, b4, hsz]
      have hE3 : REq kd n (S + 1) m lo s3 s285 := re_more (a := tk) (b := v) (ty := tyv) (ex := w2 8 12) (Lc := Lc) (u := u) hE2 ⟨l2.1, hl⟩ (fun j hj => by rw [e44]; exact q5 j hj) w210 (by omega) hu ku htk hv ko3 a15 a40 a41 a42 a44 kr g53 g31 g32 (g32L.trans exz.symm) g34 g35
      have hL2 : LCq S w2 s95 := ⟨Lc, w210, l49, l2.1, l2.2, fun j hj => by rw [e44]; exact q5 j hj⟩
      have hT2 : RTq w2 s95 := by
        unfold RTq at hT ⊢
        rw [k2 6 6 rfl rfl, show w2 26 = w1 26 from funext (fun j => k2 26 j rfl rfl)]
        exact hT
      have e77 : (s3 7 7).toInt = 0 := by rw [k3 7 7 rfl rfl, k2 7 7 rfl rfl]; exact b2
      have hRo : RSo kd n (S + 1) m lo d 0 s3 s285 := ro_more hE3 hC2 hL2 hT2 ⟨l2.1, hl⟩ w210 hd.1 ko3 e77 a86 a10 a44 kr g49 g36
      refine kk s3 a63 n285 hRo hl (fun h => nb (Or.inr h)) ?_ ?_ ?_ ?_ ?_ ?_ ?_ ?_
      · rw [k3 9 5 rfl rfl, k2 9 5 rfl rfl, b3 9 5 (op_lt (by decide)) rfl rfl]
      · rw [show s3 49 = w2 49 from funext (fun j => k3 49 j rfl rfl), show w2 49 = w1 49 from funext (fun j => k2 49 j rfl rfl), ko_rd b3 49 (by omega) rfl (fun _ => rfl)]
      · rw [k3 8 11 rfl rfl, g11, eb]
      · rw [k3 8 9 rfl rfl]; exact g9
      · rw [k3 8 15 rfl rfl]; exact g15
      · rw [k3 8 16 rfl rfl]; exact g16
      · rw [k3 8 12 rfl rfl, g12, b4]
      · rw [k3 8 13 rfl rfl]
        exact Decidable.byContradiction (fun h => c3 (g13.1 h))
  · have hBB : B := bad _ (b3 (kd pb = 30)) ⟨fun _ => b3 _, fun h => Or.inr h⟩
    exact gv_app (gv_d (x := (43, u, (ty : Int), lk)) (by simp) (fun _ => da_var (fun a b c _ _ _ => xv_badAny b1 b2 (fun s h => gv_bad h hBB (fun s' h' => hq s' h' hBB)))) (fun _ => hBB))
end VL2
end

section
/-! a local variable, whole; variables one behind the other -/
section VL3
variable {w s r s2 s95 s285 σ σ' τ t : St} {kd vl : Nat → Int} {n S m lo d p pb u Lc ty O : Nat} {vs z : List Nat} {a1 a2 a3 a4 a5 v tk tyv sz : Int32} {F0 : Prop} {A B : Prop} {g : List Gsq} {gb : List Gsq} {giv lk szi : Int} {x6 x7 x8 : Int}
theorem kn_br : KNq x6 x7 ≠ -1 ↔ 0 ≤ x6 := by
  unfold KNq
  by_cases c : 0 ≤ x6
  · rw [if_pos c]
    by_cases c2 : 1 ≤ x7 ∧ x7 ≤ 4000
    · rw [if_pos c2]
      exact ⟨fun _ => c, fun _ => by omega⟩
    · rw [if_neg c2]
      exact ⟨fun _ => c, fun _ => by decide⟩
  · rw [if_neg c]
    exact ⟨fun h => absurd rfl h, fun h => absurd h c⟩
theorem kn_cells {lack : Prop} (c : 0 ≤ x6) (nsq : ¬ SQm x6 x7 x8 lack) (h : x8 = 0 → 1 ≤ x7) : 1 ≤ KNq x6 x7 := by
  unfold KNq
  rw [if_pos c]
  by_cases c2 : 1 ≤ x7 ∧ x7 ≤ 4000
  · rw [if_pos c2]
    exact c2.1
  · exfalso
    exact nsq ⟨c, c2, fun hx => by
      have := h hx.1
      omega⟩
theorem tl_pos {br : Bool} (h : TLq kd vl br pb szi) (hb : br = true) (hvl : kd (pb + 1) = 4 → 0 ≤ vl (pb + 1)) (hr : kd (pb + 1) = 22 ∨ ALq kd (pb + 1)) : 1 ≤ szi := by
  rcases hr with c | c
  · obtain ⟨q, g, cnt, _, e, h1⟩ := h.1 c
    omega
  · have := h.2.1 ⟨hb, c⟩
    have := hvl c.1
    omega
theorem lh_rg (hG : RGs kd vl n S m lo d s95) (hlh : LHf s95 s285 S Lc v tk tyv sz A) (l2 : S ≤ Lc ∧ Lc ≤ 100) (l49 : (s95 0 49).toInt = (Lc : Int)) (hty : 0 ≤ tyv.toInt ∧ tyv.toInt ≤ 8) (hu : u ≤ n) (ku : kd u = 2) (htk : tk.toInt = (u : Int)) : ∃ S', RGs kd vl n S' m lo d s285 ∧ (Lc < 100 → S' = S + 1) := by
  obtain ⟨kr, e10, hft, hlt, hle⟩ := hlh
  by_cases hl : Lc < 100
  · obtain ⟨hv, g49, g53, g31, g32, g32L, g34, g35, g36⟩ := hlt hl
    exact ⟨S + 1, rg_more hG (by omega) hl l49 l2.1 hty hu ku htk hv kr hft.1 g49 g53 g31 g34 g35, fun _ => rfl⟩
  · exact ⟨S, rg_ds hG (hle (by omega)).1 hft.1, fun h => absurd h hl⟩
/-- a local variable: both sides -/
theorem es_vlocal {Q : St → St → List Nat → Prop} (h1 : a1.toInt = (u : Int)) (hu : u ≤ n) (ku : kd u = 2) (h2 : a2.toInt = (ty : Int)) (hty : ty ≤ 5) (h4 : a4.toInt = 0) (h5 : a5.toInt ≠ 0) (hd : 1 ≤ d ∧ d ≤ 26) (hG : RGs kd vl n S m lo d σ) (hg : GMt σ n p)
    (kk : ∀ s t z p' S' g, EVq (fun N => V1n kd vl N 0 u ty p) (some (p', g)) → p ≤ p' → GMt s n p' → RGs kd vl n S' m lo d s → MNq σ s → s 0 57 = σ 0 57 → TFq τ vs t z → (∀ O, WSq kd n m lo d O S S' g σ s) → Q s t z)
    (kn : EVq (fun N => V1n kd vl N 0 u ty p) none → F0) : pp_variable a1 a2 a3 a4 a5 σ τ vs Q (fun _ _ _ => F0) := by
  obtain ⟨Lc, l1, l2, l3⟩ := hG.2.2.1
  unfold pp_variable
  refine mr_is1 hG.1.1 hg (c := 24) (by decide) (by decide) (fun v12 hv12 => ⟨fun x6 x7 x8 s t z => BKv kd vl n S m lo d p σ τ vs x6 x7 x8 s t z, ?_, mr_bracket hv12 hG hg (fun x6 x7 x8 s t z _ h => h) (fun k24 hn => kn (ev_t k24 (ev_b0 hn)))⟩)
  rintro x6 x7 x8 s95 t95 z95 _ ⟨pb, gb, giv, b1, b2, b3, b4, b5, b6, b7, b8, b9, bx, b10⟩
  have l49 : (s95 0 49).toInt = (Lc : Int) := by rw [b8 0 49 rfl rfl]; exact l1
  have h54 : (s95 0 54).toInt = (d : Int) := b6.2.1
  have hlok := b6.1.2.2.2.1
  refine ⟨fun y => 0 ≤ x6.toInt → (y.toInt ≠ 0 ↔ 1 ≤ x7.toInt ∧ x7.toInt ≤ 4000), fun y0 _ hy0 => ⟨fun y1 => y1.toInt = KNq x6.toInt x7.toInt, fun y1 hy1 => ?_, fun c => ⟨fun c0 => ?_, fun c0 => ?_⟩, fun c => ?_⟩, 0 ≤ x6.toInt → 1 ≤ x7.toInt ∧ x7.toInt ≤ 4000, fun hj c => ⟨fun _ => hj c, fun _ => by decide⟩, fun c hx => by omega, fun c => ⟨¬ (1 ≤ x7.toInt ∧ x7.toInt ≤ 4000), fun hj _ => ⟨fun h => absurd rfl h, fun h => absurd h hj⟩, fun c2 h => by omega, fun c2 => ⟨fun c3 h => by omega, fun c3 _ => ⟨c2, c3⟩⟩⟩⟩
  · refine ⟨fun v s t z => t = t95 ∧ z = z95 ∧ LNf s95 s Lc v a2 y1 (HHm s95 S d u ∨ Lc = 100), ?_, fun c => absurd c h5, fun _ => mr_localName (rgq_0 b6.1) h1 (b6.1.2.1 u hu ku) hlok h54 l49 l3 (fun v s k f q1 q2 => ⟨rfl, rfl, k, f, q1, q2⟩)⟩
    rintro v s170 t170 z170 ⟨et, ez, hln⟩
    rw [et, ez]
    refine ⟨fun s t z => t = t95 ∧ z = z95 ∧ LNf s95 s Lc v a2 y1 ((HHm s95 S d u ∨ Lc = 100) ∨ SQm x6.toInt x7.toInt x8.toInt (kd pb = 30)), ?_, mr_square (J232 := fun s t z => t = t95 ∧ z = z95 ∧ LNf s95 s Lc v a2 y1 ((HHm s95 S d u ∨ Lc = 100) ∨ SQm x6.toInt x7.toInt x8.toInt (kd pb = 30))) (lack := kd pb = 30) (rtk_k hln.1 (fun _ => rfl) rfl b6.1.1) (gm_k b5 (hln.1 0 10 rfl rfl)) hln.2.1.1 ⟨fun h => Or.inr h, fun h => h.elim (fun h => absurd h4 h) id⟩ hy0 (fun s' k' f' => ⟨rfl, rfl, ln_k hln k' f'⟩)⟩
    rintro s232 t232 z232 ⟨et2, ez2, hln2⟩
    rw [et2, ez2]
    refine ⟨fun s t z => t = t95 ∧ z = z95 ∧ LNf s95 s Lc v a2 y1 ((HHm s95 S d u ∨ Lc = 100) ∨ SQm x6.toInt x7.toInt x8.toInt (kd pb = 30)), ?_, fun _ => ⟨rfl, rfl, hln2⟩, fun c => absurd c h5⟩
    rintro s260 t260 z260 ⟨et3, ez3, hln3⟩
    rw [et3, ez3]
    refine ⟨fun s t z => t = t95 ∧ z = z95 ∧ LHf s95 s S Lc v a1 a2 y1 ((HHm s95 S d u ∨ Lc = 100) ∨ SQm x6.toInt x7.toInt x8.toInt (kd pb = 30)), ?_, fun c => absurd c h5, fun _ => ⟨fun cv => ⟨rfl, rfl, ?_⟩, fun cv => ?_⟩⟩
    · rintro s285 t285 z285 ⟨et4, ez4, hlh⟩
      rw [et4, ez4]
      have g285 : GMt s285 n pb := gm_k b5 hlh.2.1
      obtain ⟨S', hG285, hS'⟩ := lh_rg b6 hlh ⟨l2, l3⟩ l49 ⟨by omega, by omega⟩ hu ku h1
      have hm285 : MNq σ s285 := fun hx => hlh.2.2.1.2.2 (Or.inl (by rw [b7]; exact hx))
      have e57 : s285 0 57 = σ 0 57 := by rw [hlh.1 0 57 rfl rfl, b8 0 57 rfl rfl]
      have hvl : ∀ q, q ≤ n → kd q = 4 → 0 ≤ vl q := fun q q1 q2 => by
        have := (hG.1.2.2.1 q q1 q2).1
        rw [hG.2.2.2.2 q q1] at this
        exact this
      refine es_set (loc := True) h2 ⟨fun _ => trivial, fun _ => h5⟩ hG285 g285 (fun c30 s' t' z' p' g szi br cells e1 hcl hev htl hp g1 hG1 hm hke htf hin _ => ?_) (fun n30 => ?_) (fun c30 br e1 hn => kn (v1_none b1 b2 c30 (e1.trans b3) hn))
      · refine kk s' t' z' p' S' (bkl kd p gb giv szi ++ [gq (43, u, (ty : Int), 0 + 4)] ++ g) (v1_set b1 b2 c30 (e1.trans b3) hev) (by omega) g1 hG1 (fun hx => hm (hm285 hx)) (by rw [hke 0 57 rfl rfl]; exact e57) (tf_tr b9 htf) (fun O => ?_)
        intro h0 w hR hf
        rw [List.append_assoc]
        have hts : 0 ≤ x6.toInt → TSz kd vl pb szi := fun c => ⟨fun _ => by
          have : br = true := e1.2 c
          rw [this] at htl
          exact htl, fun h => absurd c30 h⟩
        have hbk : (σ 0 12).toInt = 0 → ∀ w, REq kd n S m lo w σ → (w 6 3).toInt = 0 → (w 7 7).toInt = 0 → (w 8 6).toInt = -1 → GWq (bkl kd p gb giv szi) w (fun w1 => (w1 6 3).toInt = 0 ∧ BKg kd n S m lo x6.toInt x7.toInt x8.toInt w w1 s95) False := by
          by_cases c : 0 ≤ x6.toInt
          · exact b10 szi (hts c)
          · have n24 : ¬ kd p = 24 := fun h => c (b3.2 h)
            intro h0' w' q1 q2 q3 q4
            unfold bkl
            rw [if_neg n24]
            by_cases ct : ∃ sz, TSz kd vl pb sz
            · obtain ⟨sz, hsz⟩ := ct
              have hx := b10 sz hsz h0' w' q1 q2 q3 q4
              rw [if_neg n24] at hx
              exact hx
            · exfalso
              refine ct ⟨if kd (pb + 1) = 22 then szi else if ALq kd (pb + 1) then vl (pb + 1) + 1 else 0, fun _ => ⟨fun h => ?_, fun h => ?_, fun h h3 => ?_⟩, fun h => absurd c30 h⟩
              · rw [if_pos h]
                exact htl.1 h
              · rw [if_neg (fun hx => by have := h.2.1; omega), if_pos h.2]
              · rw [if_neg h, if_neg (fun hx => h3 ⟨rfl, hx⟩)]
        refine vl_walk (lk := 0 + 4) (pb := pb) (Or.inr ⟨rfl, c30⟩) hu ku h1 h2 hty hd ⟨l2, l3⟩ l49 hbk b8 b7 b6.2.2.2.1 hy1 hlh hm (fun s hs hb => ⟨fun _ => hb, fun hx => absurd hx hs⟩) h0 hR.1 hf (fun r r63 n285 hRo hl nsq e95 e49 f11 f9 f15 f16 f12 f13 => ?_)
        have eS := hS' hl
        rw [eS] at hin
        have hin2 := hin n285 r hRo.1 r63 hRo.2.1 f11 ⟨fun _ => trivial, fun _ => f9⟩ f15 f16 (by rw [f12, kn_br]; exact e1.symm) (fun hbr => by
          have hb := hbr.1
          have c6 := e1.1 hb
          rw [f12, hcl hb, hy1]
          have : 1 ≤ KNq x6.toInt x7.toInt := kn_cells c6 nsq (fun h8 => by
            have := bx szi (hts c6) h8
            have := tl_pos htl hb (fun h => hvl _ (by have := g1.2; omega) h) hbr.2
            omega)
          rw [if_neg (by omega)]) ⟨fun h => absurd f13 h, fun h => absurd h4 h⟩
        refine gv_mono hin2 (fun s2 hs2 => ⟨hs2.1, fun c => ?_⟩) id
        obtain ⟨k1, k2, k3, k4⟩ := hs2.2 c
        obtain ⟨hC, hL, hT⟩ := ro_parts hRo (ko_sub k4 rfl rfl) hke
        rw [eS]
        refine ⟨k1, ⟨⟨k2, by rw [k3]; rfl, hC, hL, hT, by rw [k4 8 6 (op_lt (by decide)) rfl rfl]; exact hRo.2.2.2.2.2⟩, lp_at hR.2 ?_ (fun i hi => ?_) (by rw [hke 0 57 rfl rfl]; exact e57)⟩, fun i hi => ?_⟩
        · rw [k4 9 5 (op_lt (by decide)) rfl rfl, e95]
          exact hR.2.1
        · rw [ko_rd k4 49 (by omega) rfl (fun _ => rfl), e49]
        · rw [ko_rd k4 49 (by omega) rfl (fun _ => rfl), e49]
      · refine kk s285 t95 z95 pb S' (bkl kd p gb giv 0 ++ [gq (43, u, (ty : Int), 0)]) (v1_no b1 b2 n30) b4 g285 hG285 hm285 e57 b9 (fun O => ?_)
        intro h0 w hR hf
        have hts : TSz kd vl pb 0 := ⟨fun h => absurd h n30, fun _ => rfl⟩
        refine vl_walk (lk := 0) (pb := pb) (rest := []) (Or.inl ⟨rfl, n30⟩) hu ku h1 h2 hty hd ⟨l2, l3⟩ l49 (b10 0 hts) b8 b7 b6.2.2.2.1 hy1 hlh id (fun s hs hb => ⟨fun _ => hb, fun hx => absurd hx hs⟩) h0 hR.1 hf (fun r r63 n285 hRo hl nsq e95 e49 f11 f9 f15 f16 f12 f13 => ?_)
        have eS := hS' hl
        rw [eS]
        exact ⟨fun hx => absurd r63 hx, fun _ => ⟨n285, ⟨hRo, lp_at hR.2 (by rw [e95]; exact hR.2.1) (fun i hi => by rw [e49]) e57⟩, fun i hi => by rw [e49]⟩⟩
    · have hl : Lc = 100 := by
        by_cases c : Lc < 100
        · have := (hln3.2.2.1 c).1
          omega
        · omega
      exact ⟨kp_sub hln3.1 rfl rfl, hln3.1 0 10 rfl rfl, hln3.2.1, fun c => by omega, fun _ => ⟨ds_ln hln3 hl, Or.inl (Or.inr hl)⟩⟩
    · have hl : Lc < 100 := by
        by_cases c : Lc = 100
        · have := (hln3.2.2.2 c).1
          omega
        · omega
      obtain ⟨q1, q2, q3, q4, q5⟩ := hln3.2.2.1 hl
      refine mr_hold (S := S) (by rw [hln3.1 0 53 rfl rfl]; exact hlok.1) (by omega) (fun s274 k274 f53 f34 f35 f36 => mr_put1 (fun s282 k282 => ⟨rfl, rfl, ?_⟩))
      have kz : Kp [(0, 53), (0, 17)] [34, 35, 36, 8] s260 s282 := kp_tr (kp_sub k274 rfl rfl) (kp_sub k282 rfl rfl)
      have e12 : s282 0 12 = s260 0 12 := kz 0 12 rfl rfl
      refine ⟨kp_tr (kp_sub hln3.1 rfl rfl) (kp_sub kz rfl rfl), by rw [kz 0 10 rfl rfl, hln3.1 0 10 rfl rfl], ft_k hln3.2.1 e12, fun _ => ⟨q1, ?_, ?_, fun j => ?_, fun j hj => ?_, ?_, fun j => ?_, fun j => ?_, fun j => ?_⟩, fun c => by omega⟩
      · rw [kz 0 49 rfl rfl]; exact q2
      · rw [k282 0 53 rfl rfl]; exact f53
      · rw [kz 31 j rfl rfl]; exact q3 j
      · rw [kz 32 j rfl rfl]; exact q4 j hj
      · rw [kz 32 Lc rfl rfl]; exact q5
      · rw [k282 34 j rfl rfl, f34, hln3.1 34 j rfl rfl]
      · rw [k282 35 j rfl rfl, f35, hln3.1 35 j rfl rfl]
      · rw [k282 36 j rfl rfl, f36, hln3.1 36 j rfl rfl, hln3.1 0 54 rfl rfl]
  · show ((0 : Int32)).toInt = KNq x6.toInt x7.toInt
    unfold KNq
    rw [if_pos c, if_neg (fun h => ((hy0 c).2 h) c0)]
    rfl
  · show x7.toInt = KNq x6.toInt x7.toInt
    unfold KNq
    rw [if_pos c, if_pos ((hy0 c).1 c0)]
  · show ((-1 : Int32)).toInt = KNq x6.toInt x7.toInt
    unfold KNq
    rw [if_neg (by omega)]
    rfl
end VL3
end

section
/-! variables, one behind the other -/
/-- from behind the int -/
def VNn (kd vl : Nat → Int) (N : Nat) (lk : Int) (p : Nat) : Option (Nat × List Gsq) := (SRq kd 5 p).bind fun t => if kd t.2 = 2 then VSn kd vl N lk t.2 t.1 (t.2 + 1) else none
section VNL
variable {w s r σ σ' τ t : St} {kd vl : Nat → Int} {n S m lo d p p' q ty u p0 : Nat} {vs z : List Nat} {g g' : List Gsq} {lk : Int} {R : Option (Nat × List Gsq)} {F0 : Prop} {a1 a2 a3 : Int32}
theorem vn_0 (hs : SRq kd 5 p = none) : EVq (fun N => VNn kd vl N lk p) none := ⟨0, fun N _ => by
  show VNn kd vl N lk p = none
  unfold VNn
  rw [hs]
  rfl⟩
theorem vn_1 (hs : SRq kd 5 p = some (ty, q)) (c : kd q ≠ 2) : EVq (fun N => VNn kd vl N lk p) none := ⟨0, fun N _ => by
  show VNn kd vl N lk p = none
  unfold VNn
  rw [hs]
  exact if_neg c⟩
theorem vn_up {f : Nat → Option (Nat × List Gsq)} (hs : SRq kd 5 p = some (ty, q)) (c : kd q = 2) (hf : ∀ N, VSn kd vl (N + 1) lk q ty (q + 1) = f N) (h : EVq f R) : EVq (fun N => VNn kd vl N lk p) R := by
  obtain ⟨N, h⟩ := h
  refine ⟨N + 1, fun k hk => ?_⟩
  obtain ⟨k', rfl⟩ : ∃ k', k = k' + 1 := ⟨k - 1, by omega⟩
  show VNn kd vl (k' + 1) lk p = R
  unfold VNn
  rw [hs]
  show (if kd q = 2 then VSn kd vl (k' + 1) lk q ty (q + 1) else none) = R
  rw [if_pos c, hf]
  exact h k' (by omega)
theorem vn_2 (hs : SRq kd 5 p = some (ty, q)) (c : kd q = 2) (h : EVq (fun N => V1n kd vl N lk q ty (q + 1)) none) : EVq (fun N => VNn kd vl N lk p) none := vn_up hs c (fun _ => rfl) (ev_b0 h)
theorem vn_3 (hs : SRq kd 5 p = some (ty, q)) (c : kd q = 2) (h : EVq (fun N => V1n kd vl N lk q ty (q + 1)) (some (p', g'))) (c26 : kd p' = 26) (hR : EVq (fun N => VNn kd vl N lk (p' + 1)) R) : EVq (fun N => VNn kd vl N lk p) (R.map (fun r => (r.1, g' ++ r.2))) := by
  refine vn_up hs c (fun _ => rfl) (ev_b h (ev_t c26 ?_))
  obtain ⟨N, hN⟩ := hR
  refine ⟨N, fun k hk => ?_⟩
  have := hN k hk
  show ((SRq kd 5 (p' + 1)).bind fun t => if kd t.2 = 2 then (VSn kd vl k lk t.2 t.1 (t.2 + 1)).bind fun q => some (q.1, g' ++ q.2) else none) = R.map (fun r => (r.1, g' ++ r.2))
  rw [← this]
  show _ = (VNn kd vl k lk (p' + 1)).map (fun r => (r.1, g' ++ r.2))
  unfold VNn
  cases SRq kd 5 (p' + 1) with
  | none => rfl
  | some t =>
    show (if kd t.2 = 2 then (VSn kd vl k lk t.2 t.1 (t.2 + 1)).bind fun q => some (q.1, g' ++ q.2) else none) = (if kd t.2 = 2 then VSn kd vl k lk t.2 t.1 (t.2 + 1) else none).map (fun r => (r.1, g' ++ r.2))
    by_cases c2 : kd t.2 = 2
    · rw [if_pos c2, if_pos c2]
      cases VSn kd vl k lk t.2 t.1 (t.2 + 1) with
      | none => rfl
      | some r => rfl
    · rw [if_neg c2, if_neg c2]
      rfl
theorem vn_4 (hs : SRq kd 5 p = some (ty, q)) (c : kd q = 2) (h : EVq (fun N => V1n kd vl N lk q ty (q + 1)) (some (p', g'))) (c27 : kd p' = 27) : EVq (fun N => VNn kd vl N lk p) (some (p' + 1, g')) := vn_up hs c (fun _ => rfl) (ev_b h (ev_f (by show ¬ kd p' = 26; omega) (ev_t c27 ev_c)))
theorem vn_5 (hs : SRq kd 5 p = some (ty, q)) (c : kd q = 2) (h : EVq (fun N => V1n kd vl N lk q ty (q + 1)) (some (p', g'))) (c26 : kd p' ≠ 26) (c27 : kd p' ≠ 27) : EVq (fun N => VNn kd vl N lk p) none := vn_up hs c (fun _ => rfl) (ev_b h (ev_f c26 (ev_f c27 ev_c)))
/-- the loop, for whatever is kept from one variable to the next -/
theorem vars_loop {I : Nat → List Gsq → St → St → List Nat → Prop} {Q : St → St → List Nat → Prop} (hI : ∀ p g s t z, I p g s t z → RTk s kd n ∧ GMt s n p) (hmv : ∀ p p' g s s' t z, I p g s t z → Kp [(0, 10)] [] s s' → GMt s' n p' → I p' g s' t z)
    (hvar : ∀ p g s t z (a v : Int32) (u ty : Nat) (Q : St → St → List Nat → Prop), I p g s t z → a.toInt = (u : Int) → v.toInt = (ty : Int) → ty ≤ 5 → kd u = 2 → u ≤ n → u + 1 = p → (∀ p' g' s' t' z', EVq (fun N => V1n kd vl N lk u ty p) (some (p', g')) → p ≤ p' → I p' (g ++ g') s' t' z' → Q s' t' z') → (EVq (fun N => V1n kd vl N lk u ty p) none → F0) → pp_variable a v a1 a2 a3 s t z Q (fun _ _ _ => F0))
    (h0 : I p0 [] σ τ vs) (kk : ∀ p' g s t z, EVq (fun N => VNn kd vl N lk p0) (some (p', g)) → p0 < p' → I p' g s t z → Q s t z) (kn : EVq (fun N => VNn kd vl N lk p0) none → F0) : pp_variables a1 a2 a3 σ τ vs Q (fun _ _ _ => F0) := by
  unfold pp_variables
  refine ⟨fun x s t z => ∃ (p1 : Nat) (g : List Gsq), p0 ≤ p1 ∧ I p1 g s t z ∧ (x.toInt ≠ 0 → ∀ R, EVq (fun N => VNn kd vl N lk p1) R → EVq (fun N => VNn kd vl N lk p0) (R.map (fun r => (r.1, g ++ r.2)))) ∧ (x.toInt = 0 → (kd p1 = 27 → EVq (fun N => VNn kd vl N lk p0) (some (p1 + 1, g))) ∧ (kd p1 ≠ 27 → EVq (fun N => VNn kd vl N lk p0) none)), ⟨p0, [], Nat.le_refl p0, h0, fun _ R h => ?_, fun h => absurd h (by decide)⟩, ?_⟩
  · cases R with
    | none => exact h
    | some r => exact h
  rintro x s t z _ ⟨p1, g, hp, hI1, hx1, hx0⟩
  obtain ⟨tk, g1⟩ := hI _ _ _ _ _ hI1
  refine ⟨fun c => mr_expect tk g1 (c := 27) (by decide) (by decide) (fun c27 s1 k1 gg => kk (p1 + 1) g s1 t z ((hx0 c).1 c27) (by omega) (hmv p1 (p1 + 1) g s s1 t z hI1 k1 gg)) (fun c27 => kn ((hx0 c).2 c27)), fun c => ?_⟩
  refine mr_stars tk g1 (fun y s9 i q hy hi hs hq g9 k9 => ?_) (fun hs => kn (hx1 c none (vn_0 hs)))
  have hI9 := hmv p1 q g s s9 t z hI1 k9 g9
  obtain ⟨tk9, _⟩ := hI _ _ _ _ _ hI9
  have e9 : (s9 0 10).toNatClampNeg = q := nat_of g9.1
  have r2 := rk_to tk9 g9.2 2 (by decide) (j := 2) (by decide)
  rw [e9]
  refine fun _ => ⟨fun c2 => ?_, fun c2 => ?_⟩
  · have k2 := r2.1 c2
    have ka : Kp [(0, 10)] [] s9 (upC s9 0 10 ((s9 0 10) + (1 : Int32))) := kp_f kp_rf rfl
    have ga := gm_up tk9 g9 (by omega)
    refine hvar (q + 1) g _ t z (s9 0 10) y q i _ (hmv q (q + 1) g s9 _ t z hI9 ka ga) g9.1 hy hi k2 g9.2 rfl (fun p' g' s' t' z' hev hp' hI' => ?_) (fun hn => kn (hx1 c none (vn_2 hs k2 hn)))
    obtain ⟨tk', gg'⟩ := hI _ _ _ _ _ hI'
    refine mr_accept1 tk' gg' (c := 26) (by decide) (by decide) (fun v s1 p2 hv k1 g1' f1 f0 => ⟨p2, g ++ g', ?_, hmv p' p2 _ s' s1 t' z' hI' k1 g1', fun cv R hR => ?_, fun cv => ?_⟩)
    · by_cases cc : kd p' = 26
      · rw [f1 cc]; omega
      · rw [f0 cc]; omega
    · have c26 := hv.1 cv
      rw [f1 c26] at hR
      have := hx1 c _ (vn_3 hs k2 hev c26 hR)
      cases R with
      | none => exact this
      | some r =>
        rw [show ((some r).map (fun r : Nat × List Gsq => (r.1, g ++ g' ++ r.2))) = some (r.1, g ++ (g' ++ r.2)) from by simp [List.append_assoc]]
        exact this
    · have c26 : kd p' ≠ 26 := fun h => (hv.2 h) cv
      rw [f0 c26]
      exact ⟨fun c27 => hx1 c _ (vn_4 hs k2 hev c27), fun c27 => hx1 c _ (vn_5 hs k2 hev c26 c27)⟩
  · unfold pp_wrong pp_wrongAt
    exact fun _ => kn (hx1 c none (vn_1 hs (fun h => c2 (r2.2 h))))
/-- variables of a function: the row of the reference's statements -/
theorem es_vwr : VWr kd vl n m lo := by
  intro d p h1 hd c5 S σ τ vs Q F hG hg h57 kk kn
  have hd' : ¬ 25 < d := by omega
  have ka : Kp [(0, 10)] [] σ (upC σ 0 10 ((σ 0 10) + (1 : Int32))) := kp_f kp_rf rfl
  have ga := gm_up hG.1.1 hg (by omega)
  show pp_variables (0 : Int32) (0 : Int32) (1 : Int32) (upC σ 0 10 ((σ 0 10) + (1 : Int32))) τ vs Q (fun _ _ _ => F)
  generalize upC σ 0 10 ((σ 0 10) + (1 : Int32)) = σa at ka ga
  have ea : σa 0 12 = σ 0 12 := ka 0 12 rfl rfl
  have hGa := rg_ds hG (ds_k ka rfl rfl) (by rw [ea]; exact rgq_0 hG.1)
  have e57a : σa 0 57 = σ 0 57 := ka 0 57 rfl rfl
  refine vars_loop (n := n) (lk := 0) (p0 := p + 1) (I := fun p g s t z => ∃ S', GMt s n p ∧ RGs kd vl n S' m lo d s ∧ MNq σa s ∧ s 0 57 = σa 0 57 ∧ TFq τ vs t z ∧ ∀ O, WSq kd n m lo d O S S' g σa s) (fun p g s t z h => ?_) (fun p p' g s s' t z h k g' => ?_) (fun p g s t z a v u ty Q h hau hvt hty ku hu hup k1 k0 => ?_) ⟨S, ga, hGa, id, rfl, tf_rf, fun O => ws_nil ds_rf rfl rfl⟩ (fun p' g s t z hev hp hI => ?_) (fun hn => kn (st_5 hd' c5 hn))
  · obtain ⟨S', h1, h2, _⟩ := h
    exact ⟨h2.1.1, h1⟩
  · obtain ⟨S', h1, h2, h3, h4, h5, h6⟩ := h
    have e : s' 0 12 = s 0 12 := k 0 12 rfl rfl
    have dd := ds_k k rfl rfl
    exact ⟨S', g', rg_ds h2 dd (by rw [e]; exact rgq_0 h2.1), fun hx => by rw [e]; exact h3 hx, (k 0 57 rfl rfl).trans h4, h5, fun O => ws_ref (h6 O) dd e (k 0 57 rfl rfl)⟩
  · obtain ⟨S', i1, i2, i3, i4, i5, i6⟩ := h
    refine es_vlocal hau hu ku hvt hty rfl (by decide) ⟨h1, by omega⟩ i2 i1 (fun s' t' z' p' S2 g' hev hp' g1 hG1 hm e57 htf hw => ?_) k0
    exact k1 p' g' s' t' z' hev hp' ⟨S2, g1, hG1, fun hx => hm (i3 hx), e57.trans i4, tf_tr i5 htf, fun O => ws_app (i6 O) (hw O) hm⟩
  · obtain ⟨S', i1, i2, i3, i4, i5, i6⟩ := hI
    refine kk s t z ⟨p', S', g, st_5 hd' c5 hev, by omega, i1, i2, fun hx => i3 (by rw [ea]; exact hx), i4.trans e57a, i5, fun O _ => ws_src (ds_k ka rfl rfl) ea e57a (i6 O)⟩
/-- a statement of a function's body, d deep; nothing wanted -/
theorem es_stmt1 {a : Int32} (ha : a.toInt = (d : Int)) (h1 : 1 ≤ d) (hd : d ≤ 26) : SWr kd vl n m lo 0 d p (ppS_statement a) := es_stmt es_vwr ha h1 hd
end VNL
end

section
/-! outside of functions: the reference's names -/
/-- one more is declared: e-th of all, i-th of its unit -/
def DCf (σ s : St) (u e i : Nat) (sort : Int32) : Prop :=
  Kp [(0, 36), (0, 31)] [9, 13, 14, 21, 18, 19, 20] σ s ∧ (s 0 36).toInt = (e : Int) + 1 ∧ (s 0 31).toInt = (σ 0 31).toInt + ((σ 4 u).toInt - (σ 3 u).toInt) ∧ (s 0 31).toInt ≤ 65536
  ∧ (∀ j, s 9 j = if j = e then sort else σ 9 j) ∧ (∀ j, s 13 j = if j = e then 0 else σ 13 j) ∧ (∀ j, s 14 j = if j = e then 0 else σ 14 j) ∧ (∀ j, s 21 j = if j = i then -1 else σ 21 j) ∧ (∀ j, s 18 j = if j = e then σ 0 31 else σ 18 j) ∧ (∀ j, s 19 j = if j = e then (σ 4 u) - (σ 3 u) else σ 19 j)
  ∧ (∀ j : Nat, (j : Int) < (σ 0 31).toInt → s 20 j = σ 20 j) ∧ (∀ k : Nat, (k : Int) < (σ 4 u).toInt - (σ 3 u).toInt → s 20 ((σ 0 31).toInt.toNat + k) = vp_nar .byte (σ 1 ((σ 3 u).toInt.toNat + k)))
section RGN
variable {σ s s1 s2 σ' τ t : St} {kd vl : Nat → Int} {n S m lo d p u r D : Nat} {vs z : List Nat} {a1 a2 a3 a4 a5 : Int32} {Q : Int32 → St → St → List Nat → Prop}
theorem nb0 : vp_nar .boolean (0 : Int32) = 0 := rfl
theorem mr_declare (ha : a1.toInt = (u : Int)) (tu : TNm σ u) (hE : EOKm σ lo (lo + m)) (hm : m ≤ 100) (h0 : 0 ≤ (σ 0 12).toInt)
    (kf : m = 100 → ∀ s, KFr σ s → FTq σ s True → Q (-1) s τ vs)
    (kk : m < 100 → lo + m < 10000 → ∀ (v : Int32) s, v.toInt = ((lo + m : Nat) : Int) → DCf σ s u (lo + m) m a2 → Q v s τ vs) : pp_declare a1 a2 σ τ vs Q := by
  obtain ⟨e1, e2, e3, e4, e5, e6, e7, e8⟩ := hE
  obtain ⟨t1, t2, t3, t4⟩ := tu
  unfold pp_declare
  have eu : a1.toNatClampNeg = u := nat_of ha
  have ee : (σ 0 36).toNatClampNeg = lo + m := nat_of e2
  have es : ((σ 0 36) - (σ 22 (σ 0 35).toNatClampNeg)).toInt = (m : Int) := by rw [sb (by omega) (by omega), e2, e1]; omega
  have ei : ((σ 0 36) - (σ 22 (σ 0 35).toNatClampNeg)).toNatClampNeg = m := nat_of es
  rw [es, ei, ee, eu, nb0]
  refine fun _ => ⟨fun c r1 _ _ _ _ _ _ _ _ _ => ?_, fun c => mr_tell h0 (by decide) (fun s k f => kf (by omega) s k f)⟩
  have main : ∀ S0 : St, Kp [(0, 36)] [9, 13, 14, 21, 18, 19] σ S0 → (S0 0 36).toInt = ((lo + m : Nat) : Int) + 1 → (∀ j, S0 9 j = if j = lo + m then a2 else σ 9 j) → (∀ j, S0 13 j = if j = lo + m then 0 else σ 13 j) → (∀ j, S0 14 j = if j = lo + m then 0 else σ 14 j) → (∀ j, S0 21 j = if j = m then -1 else σ 21 j) → (∀ j, S0 18 j = if j = lo + m then σ 0 31 else σ 18 j) → (∀ j, S0 19 j = if j = lo + m then (σ 4 u) - (σ 3 u) else σ 19 j) →
      ∃ L117 : Int32 → St → St → List Nat → Prop, (L117 (σ 3 u) S0 τ vs) ∧ ∀ (x : Int32) (s t : St) (z : List Nat), L117 x s t z → ((0 ≤ a1.toInt ∧ a1.toInt < 16002) → (((s 4 u).toInt ≤ x.toInt → (Q (σ 0 36) s t z)) ∧ (x.toInt < (s 4 u).toInt → ((0 ≤ x.toInt ∧ x.toInt < 16000) → ((0 ≤ (s 0 31).toInt ∧ (s 0 31).toInt < 65536) → (L117 (x + 1) (upC (upC s 20 (s 0 31).toNatClampNeg (vp_nar .byte (s 1 x.toNatClampNeg))) 0 31 ((s 0 31) + (1 : Int32))) t z)))))) := fun S0 k0 f36 f9 f13 f14 f21 f18 f19 => by
    refine ⟨fun x s t z => t = τ ∧ z = vs ∧ ∃ k : Nat, x.toInt = (σ 3 u).toInt + k ∧ (k : Int) ≤ (σ 4 u).toInt - (σ 3 u).toInt ∧ Kp [(0, 31)] [20] S0 s ∧ (s 0 31).toInt = (σ 0 31).toInt + k ∧ (s 0 31).toInt ≤ 65536 ∧ (∀ j : Nat, (j : Int) < (σ 0 31).toInt → s 20 j = σ 20 j) ∧ ∀ q : Nat, q < k → s 20 ((σ 0 31).toInt.toNat + q) = vp_nar .byte (σ 1 ((σ 3 u).toInt.toNat + q)), ⟨rfl, rfl, 0, by omega, by omega, kp_rf, ?_, ?_, fun j _ => k0 20 j rfl rfl, fun q hq => absurd hq (Nat.not_lt_zero q)⟩, ?_⟩
    · rw [k0 0 31 rfl rfl]; omega
    · rw [k0 0 31 rfl rfl]; exact e7
    rintro x s t z ⟨et, ez, k, h1, h2, h3, h4, h5, h6, h7⟩
    rw [et, ez]
    have e4' : s 4 u = σ 4 u := (h3 4 u rfl rfl).trans (k0 4 u rfl rfl)
    rw [e4']
    refine fun _ => ⟨fun c1 => ?_, fun c1 _ r2 => ⟨rfl, rfl, k + 1, ?_, ?_, kp_f (kp_a h3 rfl) rfl, ?_, ?_, fun j hj => ?_, fun q hq => ?_⟩⟩
    · have ek : (k : Int) = (σ 4 u).toInt - (σ 3 u).toInt := by omega
      have ex : ∀ c, c ≠ 0 → c ≠ 20 → s c = S0 c := fun c c0 c20 => funext (fun j => h3 c j (by
        simp only [List.contains_cons, List.contains_nil, Bool.or_false, beq_eq_false_iff_ne, ne_eq, Prod.mk.injEq, not_and]
        omega) (by
        simp only [List.contains_cons, List.contains_nil, Bool.or_false, beq_eq_false_iff_ne, ne_eq]
        omega))
      refine kk (by omega) (by omega) _ s e2 ⟨kp_tr (kp_sub k0 rfl rfl) (kp_sub h3 rfl rfl), ?_, by omega, h5, ?_, ?_, ?_, ?_, ?_, ?_, h6, fun q hq => h7 q (by omega)⟩
      · rw [h3 0 36 rfl rfl]; exact f36
      · rw [ex 9 (by decide) (by decide)]; exact f9
      · rw [ex 13 (by decide) (by decide)]; exact f13
      · rw [ex 14 (by decide) (by decide)]; exact f14
      · rw [ex 21 (by decide) (by decide)]; exact f21
      · rw [ex 18 (by decide) (by decide)]; exact f18
      · rw [ex 19 (by decide) (by decide)]; exact f19
    · show (x + (1 : Int32)).toInt = _
      rw [ad1 (by omega), h1]
      omega
    · omega
    · rw [rdA_eq rfl, ad1 (by omega), h4]
      omega
    · rw [rdA_eq rfl, ad1 (by omega)]
      omega
    · have en : (s 0 31).toNatClampNeg = (σ 0 31).toInt.toNat + k := nat_of (by rw [h4]; omega)
      rw [rdC_ne (by decide), en, rdA_ne (by omega)]
      exact h6 j hj
    · have en : (s 0 31).toNatClampNeg = (σ 0 31).toInt.toNat + k := nat_of (by rw [h4]; omega)
      have ex : x.toNatClampNeg = (σ 3 u).toInt.toNat + k := nat_of (by rw [h1]; omega)
      have es1 : s 1 = σ 1 := funext (fun j => (h3 1 j rfl rfl).trans (k0 1 j rfl rfl))
      rw [rdC_ne (by decide), en, ex, es1]
      by_cases cq : q = k
      · rw [rdA_eq (by omega), cq]
      · rw [rdA_ne (by omega)]
        exact h7 q (by omega)
  refine main _ (kp_a (kp_a (kp_a (kp_a (kp_a (kp_a (kp_f kp_rf rfl) rfl) rfl) rfl) rfl) rfl) rfl) ?_ (fun j => ?_) (fun j => ?_) (fun j => ?_) (fun j => ?_) (fun j => ?_) (fun j => ?_)
  · rw [rdC_ne (by decide), rdC_ne (by decide), rdC_ne (by decide), rdC_ne (by decide), rdC_ne (by decide), rdC_ne (by decide), rdA_eq rfl, ad1 (by omega), e2]
  · rw [rdC_ne (by decide), rdC_ne (by decide), rdC_ne (by decide), rdC_ne (by decide), rdC_ne (by decide), rdC_eq, rdC_ne (by decide)]
  · rw [rdC_ne (by decide), rdC_ne (by decide), rdC_ne (by decide), rdC_ne (by decide), rdC_eq, rdC_ne (by decide), rdC_ne (by decide)]
  · rw [rdC_ne (by decide), rdC_ne (by decide), rdC_ne (by decide), rdC_eq, rdC_ne (by decide), rdC_ne (by decide), rdC_ne (by decide)]
  · rw [rdC_ne (by decide), rdC_ne (by decide), rdC_eq, rdC_ne (by decide), rdC_ne (by decide), rdC_ne (by decide), rdC_ne (by decide)]
  · rw [rdC_ne (by decide), rdC_eq, rdC_ne (by decide), rdC_ne (by decide), rdC_ne (by decide), rdC_ne (by decide), rdC_ne (by decide)]
  · rw [rdC_eq, rdC_ne (by decide), rdC_ne (by decide), rdC_ne (by decide), rdC_ne (by decide), rdC_ne (by decide), rdC_ne (by decide)]
/-- may be declared once more -/
def JNm (σ : St) (e : Nat) (ty sz st ex : Int32) : Prop := ((σ 9 e).toInt = 1 ∧ (σ 10 e).toInt = ty.toInt ∧ ((σ 11 e).toInt < 0 ↔ sz.toInt < 0) ∧ (sz.toInt ≤ 0 ∨ (σ 11 e).toInt = 0 ∨ (σ 11 e).toInt = sz.toInt)) ∧ (σ 12 e).toInt = 0 ∧ st.toInt = 0 ∧ (ex.toInt ≠ 0 ∨ (σ 13 e).toInt = 0)
/-- what a name outside leaves; rr what it meant -/
def GNf (σ s : St) (lo m u : Nat) (v ty sz st ex : Int32) (rr : Int) : Prop :=
  (rr = -1 ∧ m = 100 ∧ v.toInt < 0 ∧ KFr σ s ∧ FTq σ s True)
  ∨ (rr = -1 ∧ m < 100 ∧ lo + m < 10000 ∧ v.toInt = ((lo + m : Nat) : Int) ∧ ∃ s1, DCf σ s1 u (lo + m) m 1 ∧ s = upC (upC (upC s1 10 (lo + m) ty) 11 (lo + m) sz) 12 (lo + m) (vp_nar .boolean st))
  ∨ ∃ r : Nat, rr = ((lo + r : Nat) : Int) ∧ r < m ∧ Kp [(0, 12), (0, 13)] [11] σ s ∧ FTq σ s (¬ JNm σ (lo + r) ty sz st ex) ∧ (∀ j, j ≠ lo + r → s 11 j = σ 11 j) ∧ (JNm σ (lo + r) ty sz st ex → s 11 (lo + r) = if 0 < sz.toInt then sz else σ 11 (lo + r)) ∧ ((σ 9 (lo + r)).toInt = 1 → v.toInt = ((lo + r : Nat) : Int)) ∧ ((σ 9 (lo + r)).toInt ≠ 1 → v.toInt < 0)
theorem mr_globalName (ha : a1.toInt = (u : Int)) (tu : TNm σ u) (hE : EOKm σ lo (lo + m)) (hm : m ≤ 100) (h0 : 0 ≤ (σ 0 12).toInt) (kk : ∀ rr v s, EFm σ lo (lo + m) u rr → GNf σ s lo m u v a2 a3 a4 a5 rr → Q v s τ vs) : pp_globalName a1 a2 a3 a4 a5 σ τ vs Q := by
  unfold pp_globalName
  refine mr_entity ha tu hE (fun v he => ⟨fun c rg => ?_, fun c => ?_⟩)
  · obtain ⟨r, hr, er⟩ : ∃ r : Nat, r < m ∧ v.toInt = ((lo + r : Nat) : Int) := by
      rcases he with ⟨e, h1, h2, h3, h4, h5⟩ | ⟨h1, h2⟩
      · exact ⟨e - lo, by omega, by omega⟩
      · omega
    have en : v.toNatClampNeg = lo + r := nat_of er
    rw [en]
    have h12 : ∀ (s : St) (t z y), Kp [(0, 12), (0, 13)] [11] σ s → t = τ → z = vs → FTq σ s (¬ JNm σ (lo + r) a2 a3 a4 a5) → (∀ j, j ≠ lo + r → s 11 j = σ 11 j) → (JNm σ (lo + r) a2 a3 a4 a5 → s 11 (lo + r) = if 0 < a3.toInt then a3 else σ 11 (lo + r)) → y = ((σ 9 (lo + r)).toInt) → ((y ≠ 1 → Q ((-1) : Int32) s t z) ∧ (y = 1 → Q v s t z)) := fun s t z y k et ez f h1 h2 ey => by
      rw [et, ez, ey]
      exact ⟨fun c9 => kk _ _ s he (Or.inr (Or.inr ⟨r, er, hr, k, f, h1, h2, fun h => absurd h c9, fun _ => by decide⟩)), fun c9 => kk _ _ s he (Or.inr (Or.inr ⟨r, er, hr, k, f, h1, h2, fun _ => er, fun h => absurd c9 h⟩))⟩
    refine ⟨fun y => (y.toInt ≠ 0 ↔ ((σ 9 (lo + r)).toInt = 1 ∧ (σ 10 (lo + r)).toInt = a2.toInt ∧ ((σ 11 (lo + r)).toInt < 0 ↔ a3.toInt < 0) ∧ (a3.toInt ≤ 0 ∨ (σ 11 (lo + r)).toInt = 0 ∨ (σ 11 (lo + r)).toInt = a3.toInt))), fun y0 _ hy => ?_, ¬ ((σ 9 (lo + r)).toInt = 1 ∧ (σ 10 (lo + r)).toInt = a2.toInt ∧ ((σ 11 (lo + r)).toInt < 0 ↔ a3.toInt < 0) ∧ (a3.toInt ≤ 0 ∨ (σ 11 (lo + r)).toInt = 0 ∨ (σ 11 (lo + r)).toInt = a3.toInt)), fun hj => ⟨fun hx => absurd rfl hx, fun hx => absurd hx hj⟩, fun c1 hx => c1 hx.1, fun c1 _ => ⟨fun c2 hx => c2 hx.2.1, fun c2 _ => ⟨fun y => (y.toInt = 0 ∨ y.toInt = 1) ∧ (y.toInt = 1 ↔ (σ 11 (lo + r)).toInt < 0), fun y92 _ h92 => ⟨fun y => (y.toInt = 0 ∨ y.toInt = 1) ∧ (y.toInt = 1 ↔ a3.toInt < 0), fun y101 _ h101 => ⟨fun c3 hx => ?_, fun c3 => ?_⟩, fun c3 => ⟨Or.inl rfl, ⟨fun h => absurd h (by decide), fun h => by omega⟩⟩, fun c3 => ⟨Or.inr rfl, ⟨fun _ => c3, fun _ => rfl⟩⟩⟩, fun c3 => ⟨Or.inl rfl, ⟨fun h => absurd h (by decide), fun h => by omega⟩⟩, fun c3 => ⟨Or.inr rfl, ⟨fun _ => c3, fun _ => rfl⟩⟩⟩⟩⟩
    · refine ⟨fun y => (y.toInt ≠ 0 ↔ JNm σ (lo + r) a2 a3 a4 a5), fun y1 _ hy1 => mr_must h0 (fun s178 k178 f178 => ?_), ¬ JNm σ (lo + r) a2 a3 a4 a5, fun hj => ⟨fun hx => absurd rfl hx, fun hx => absurd hx hj⟩, fun cy hx => (hy.2 hx.1) cy, fun cy _ => ⟨fun c1 hx => c1 hx.2.1, fun c1 => ⟨fun c2 hx => c2 hx.2.2.1, fun c2 => ⟨JNm σ (lo + r) a2 a3 a4 a5, fun hj => ⟨fun _ => hj, fun _ => by decide⟩, fun c3 => ⟨hy.1 cy, c1, c2, Or.inl c3⟩, fun c3 _ => ⟨fun c4 hx => hx.2.2.2.elim (fun h => h c3) (fun h => c4 h), fun c4 => ⟨hy.1 cy, c1, c2, Or.inr c4⟩⟩⟩⟩⟩⟩
      have fJ : FTq σ s178 (¬ JNm σ (lo + r) a2 a3 a4 a5) := ft_iff f178 ⟨fun h hx => (hy1.2 hx) h, fun h => Decidable.byContradiction (fun hx => h (hy1.1 hx))⟩
      refine ⟨fun s t z => t = τ ∧ z = vs ∧ Kp [(0, 12), (0, 13)] [11] σ s ∧ FTq σ s (¬ JNm σ (lo + r) a2 a3 a4 a5) ∧ (∀ j, j ≠ lo + r → s 11 j = σ 11 j) ∧ (JNm σ (lo + r) a2 a3 a4 a5 → s 11 (lo + r) = if 0 < a3.toInt then a3 else σ 11 (lo + r)), ?_, fun cy => ⟨rfl, rfl, kp_sub k178 rfl rfl, fJ, fun j _ => k178 11 j rfl rfl, fun hx => absurd cy (hy.2 hx.1)⟩, fun cy => ⟨fun c3 => ⟨rfl, rfl, kp_sub k178 rfl rfl, fJ, fun j _ => k178 11 j rfl rfl, fun hx => ?_⟩, fun c3 _ => ⟨rfl, rfl, kp_a (kp_sub k178 rfl rfl) rfl, ft_k fJ (by rw [rdC_ne (by decide)]), fun j hj => ?_, fun hx => ?_⟩⟩⟩
      · rintro s t z ⟨et, ez, k, f, g1, g2⟩
        exact fun _ => h12 s t z _ k et ez f g1 g2 (by rw [k 9 (lo + r) rfl rfl])
      · rw [k178 11 (lo + r) rfl rfl, if_neg (by omega)]
      · rw [rdA_ne hj]
        exact k178 11 j rfl rfl
      · rw [rdA_eq rfl, if_pos c3]
    · have := hx.2.2.1
      rcases h92.1 with q1 | q1
      · rcases h101.1 with q2 | q2
        · omega
        · have i1 := h92.2
          have i2 := h101.2
          have := i2.1 q2
          have : y92.toInt = 1 := i1.2 (hx.2.2.1.2 this)
          omega
      · have i1 := h92.2
        have i2 := h101.2
        have := i1.1 q1
        have : y101.toInt = 1 := i2.2 (hx.2.2.1.1 this)
        omega
    · have e3 : (σ 11 (lo + r)).toInt < 0 ↔ a3.toInt < 0 := by rw [← h92.2, ← h101.2, c3]
      refine ⟨(σ 9 (lo + r)).toInt = 1 ∧ (σ 10 (lo + r)).toInt = a2.toInt ∧ ((σ 11 (lo + r)).toInt < 0 ↔ a3.toInt < 0) ∧ (a3.toInt ≤ 0 ∨ (σ 11 (lo + r)).toInt = 0 ∨ (σ 11 (lo + r)).toInt = a3.toInt), fun hj => ⟨fun _ => hj, fun _ => by decide⟩, fun c4 => ⟨c1, c2, e3, Or.inl c4⟩, fun c4 _ => ⟨fun c5 => ⟨c1, c2, e3, Or.inr (Or.inl c5)⟩, fun c5 _ => ⟨fun c6 hx => ?_, fun c6 => ⟨c1, c2, e3, Or.inr (Or.inr c6)⟩⟩⟩⟩
      rcases hx.2.2.2 with h | h | h
      · omega
      · exact c5 h
      · exact c6 h
  · have hrr : v.toInt = -1 := by
      rcases he with ⟨e, h1, h2, h3, h4, h5⟩ | ⟨h1, h2⟩
      · omega
      · exact h2
    refine mr_declare ha tu hE hm h0 (fun e100 s k f => ⟨fun cx => absurd cx (by decide), fun _ => kk _ _ s he (Or.inl ⟨hrr, e100, by decide, k, f⟩)⟩) (fun hm1 hlm v15 s1 hv15 hd => ?_)
    have en : v15.toNatClampNeg = lo + m := nat_of hv15
    rw [en]
    exact ⟨fun _ _ _ _ => kk _ _ _ he (Or.inr (Or.inl ⟨hrr, hm1, hlm, hv15, s1, hd, rfl⟩)), fun cx => by omega⟩
/-- its cells -/
theorem mr_lay {Q : St → St → List Nat → Prop} (h0 : 0 ≤ (σ 0 12).toInt) (hv : a1.toInt = (r : Int)) (hD : (σ 0 37).toInt = (D : Int)) (hD9 : D ≤ 16000) (h3 : 1 ≤ a3.toInt ∧ a3.toInt ≤ 4000) (kk : ∀ s, Kp [(0, 12), (0, 13), (0, 37)] [13, 17] σ s → FTq σ s (16000 < (D : Int) + a3.toInt) → (∀ j, s 13 j = if j = r then 1 else σ 13 j) → ((D : Int) + a3.toInt ≤ 16000 → (s 0 37).toInt = (D : Int) + a3.toInt) → (16000 < (D : Int) + a3.toInt → s 0 37 = σ 0 37) → Q s τ vs) : pp_lay a1 a2 a3 σ τ vs Q := by
  unfold pp_lay
  have er : a1.toNatClampNeg = r := nat_of hv
  have ed : ((σ 0 37) + a3).toInt = (D : Int) + a3.toInt := by rw [ad (by omega) (by omega), hD]
  have nb1 : vp_nar .boolean (1 : Int32) = 1 := rfl
  rw [er, ed, nb1]
  refine fun _ _ => ⟨fun c => kk _ (kp_f (kp_a (kp_a kp_rf rfl) rfl) rfl) (ft_iff (ft_same h0 ?_) ⟨False.elim, fun h => by omega⟩) (fun j => ?_) (fun _ => ?_) (fun h => by omega), fun c => mr_tell ?_ (by decide) (fun s k f => kk s (kp_tr (b := upC (upC σ 13 r 1) 17 r (σ 0 37)) (kp_a (kp_a kp_rf rfl) rfl) (kp_sub k rfl rfl)) (ft_from ?_ ?_ (ft_iff f ⟨fun _ => c, fun _ => trivial⟩)) (fun j => ?_) (fun h => by omega) (fun _ => ?_))⟩
  · rw [rdA_ne (by decide), rdC_ne (by decide), rdC_ne (by decide)]
  · rw [rdC_ne (by decide), rdC_ne (by decide), rdC_eq]
  · rw [rdA_eq rfl, ed]
  · rw [rdC_ne (by decide), rdC_ne (by decide)]
    exact h0
  · rw [rdC_ne (by decide), rdC_ne (by decide)]
  · rw [rdC_ne (by decide), rdC_ne (by decide)]
  · rw [k 13 j rfl rfl, rdC_ne (by decide), rdC_eq]
  · rw [k 0 37 rfl rfl, rdC_ne (by decide), rdC_ne (by decide)]
end RGN
end

section
/-! outside of functions: the class's names -/
section FLG
theorem or_no {x a b : Int32} (key : ∀ i : Nat, i < 32 → (a.toBitVec.getLsbD i && b.toBitVec.getLsbD i) = false) : ((x ||| a) &&& b) = x &&& b := by
  apply Int32.toBitVec_inj.mp
  simp only [Int32.toBitVec_and, Int32.toBitVec_or]
  apply BitVec.eq_of_getLsbD_eq
  intro i hi
  have k := key i hi
  simp only [BitVec.getLsbD_and, BitVec.getLsbD_or]
  revert k
  generalize a.toBitVec.getLsbD i = a
  generalize b.toBitVec.getLsbD i = b
  generalize x.toBitVec.getLsbD i = d
  cases a <;> cases b <;> cases d <;> decide
theorem or_yes {x a b : Int32} (key : ∀ i : Nat, i < 32 → (!b.toBitVec.getLsbD i || a.toBitVec.getLsbD i) = true) : ((x ||| a) &&& b) = b := by
  apply Int32.toBitVec_inj.mp
  simp only [Int32.toBitVec_and, Int32.toBitVec_or]
  apply BitVec.eq_of_getLsbD_eq
  intro i hi
  have k := key i hi
  simp only [BitVec.getLsbD_and, BitVec.getLsbD_or]
  revert k
  generalize a.toBitVec.getLsbD i = a
  generalize b.toBitVec.getLsbD i = b
  generalize x.toBitVec.getLsbD i = d
  cases a <;> cases b <;> cases d <;> decide
theorem fl_no {w s : St} {d : Nat} {a b : Int32} (h : s 25 d = (w 25 d) ||| a) (key : ∀ i : Nat, i < 32 → (a.toBitVec.getLsbD i && b.toBitVec.getLsbD i) = false) : FLq s d b ↔ FLq w d b := by
  unfold FLq
  rw [h, or_no key]
theorem fl_yes {w s : St} {d : Nat} {a b : Int32} (h : s 25 d = (w 25 d) ||| a) (key : ∀ i : Nat, i < 32 → (!b.toBitVec.getLsbD i || a.toBitVec.getLsbD i) = true) (hb : b.toInt ≠ 0) : FLq s d b := by
  unfold FLq
  rw [h, or_yes key]
  exact hb
theorem fl_zero {s : St} {d : Nat} {b : Int32} (h : s 25 d = 0) : ¬ FLq s d b := by
  unfold FLq
  rw [h]
  exact fun hx => hx (by simp)
theorem fl_same {w s : St} {d : Nat} {b : Int32} (h : s 25 d = w 25 d) : FLq s d b ↔ FLq w d b := by
  unfold FLq
  rw [h]
end FLG
/-- may be declared once more, for the class -/
def JNw (w : St) (d : Nat) (b : Int32) : Prop := (¬ FLq w d 1 ∧ (w 26 d).toInt = (w 8 11).toInt ∧ ((w 27 d).toInt = -1 ↔ (w 8 12).toInt = -1)) ∧ ((w 27 d).toInt ≤ 0 ∨ (w 8 12).toInt ≤ 0 ∨ (w 27 d).toInt = (w 8 12).toInt) ∧ (b.toInt ≠ 1 ∧ ¬ FLq w d 2) ∧ ((w 8 13).toInt ≠ 0 ∨ ¬ FLq w d 4)
def CLw (w : St) : Int := if (w 8 13).toInt ≠ 0 then 0 else if (w 8 12).toInt = -1 then 1 else (w 8 12).toInt
/-- one more is declared -/
def CDf (w s : St) (u m dn : Nat) : Prop := Kp [(6, 7), (5, 7), (5, 1)] [38, 39, 30, 29, 25, 28] w s ∧ (s 6 7).toInt = (m : Int) + 1 ∧ (s 5 1).toInt = (dn : Int) + 1 ∧ (s 5 7).toInt = (w 5 7).toInt + (w 14 u).toInt ∧ (∀ j, (s 38 j).toInt = if j = m then (u : Int) else (w 38 j).toInt) ∧ (∀ j, s 39 j = if j = m then -1 else w 39 j) ∧ (∀ j, s 25 j = if j = dn then 0 else w 25 j) ∧ ByteOK (w 1)
section XGL
variable {w s r σ σ' : St} {kd : Nat → Int} {n S m lo u dn : Nat} {a b c : Int32} {Q : St → Prop} {rr : Int}
theorem xo_find {Q : Int32 → Prop} (hE : REq kd n S m lo w σ) (ha : a.toInt = (u : Int)) (hu : u ≤ n) (ku : kd u = 2) (hrr : EFm σ lo (lo + m) u rr) (kk : ∀ v : Int32, (rr = -1 → v.toInt < 0) → (∀ r : Nat, rr = ((lo + r : Nat) : Int) → v.toInt = (((w 5 1).toInt.toNat - m + r : Nat) : Int)) → (rr = -1 ∨ ∃ r : Nat, r < m ∧ rr = ((lo + r : Nat) : Int)) → Q v) : pk_X11_outerOf a w Q := by
  obtain ⟨a1, a2⟩ := ou_alike hE.1 hE.2.2.1 hu ku
  have ho3 := hE.2.2.1.2.2.1
  refine xl_outerOf ha (tn_class hE.1 (by have := hE.1.1.1; omega) hu ku) (ou_class hE.1 hE.2.2.1) (fun v r' h1 h2 => ?_)
  have key : (r' = -1 ∧ rr = -1) ∨ ∃ i : Nat, r' = (i : Int) ∧ i < m ∧ rr = ((lo + i : Nat) : Int) := by
    have h1' := h1
    rcases h1' with ⟨i, i1, i2, i3, i4⟩ | ⟨i1, i2⟩
    · have h3 := h1
      rw [i4] at h3
      have := ((a2 i).1 h3).2
      exact Or.inr ⟨i, i4, i1, ef_one hrr this⟩
    · rw [i2] at h1
      exact Or.inl ⟨i2, ef_one hrr (a1.1 h1)⟩
  refine kk v (fun h => ?_) (fun r hr => ?_) ?_
  · rcases key with ⟨k1, k2⟩ | ⟨i, k1, k2, k3⟩
    · rcases h2 with h2 | h2
      · exact h2.2
      · omega
    · omega
  · rcases key with ⟨k1, k2⟩ | ⟨i, k1, k2, k3⟩
    · omega
    · have : i = r := by omega
      rw [this] at k1 k2
      rcases h2 with h2 | h2
      · omega
      · rw [h2.2, k1]
        omega
  · rcases key with ⟨k1, k2⟩ | ⟨i, k1, k2, k3⟩
    · exact Or.inl k2
    · exact Or.inr ⟨i, k2, k3⟩
theorem xl_joins {Q : Int32 → Prop} (hd : a.toInt = (dn : Int)) (hdn : dn < 10100) (k1 : JNw w dn b → Q 1) (k0 : ¬ JNw w dn b → Q 0) : pk_X1_joins a b w Q := by
  unfold pk_X1_joins
  have e25 : atv 10100 (w 25) a = w 25 dn := atv_at hd hdn
  have e26 : atv 10100 (w 26) a = w 26 dn := atv_at hd hdn
  have e27 : atv 10100 (w 27) a = w 27 dn := atv_at hd hdn
  rw [e26, e27]
  refine xl_is (fun v18 _ h18 => ?_)
  rw [e25] at h18
  have f1 : v18.toInt ≠ 0 ↔ FLq w dn 1 := h18
  refine ⟨fun y => (y.toInt ≠ 0 ↔ (¬ FLq w dn 1 ∧ (w 26 dn).toInt = (w 8 11).toInt ∧ ((w 27 dn).toInt = -1 ↔ (w 8 12).toInt = -1))), fun y73 _ h73 => ⟨fun y => (y.toInt ≠ 0 ↔ ((w 27 dn).toInt ≤ 0 ∨ (w 8 12).toInt ≤ 0 ∨ (w 27 dn).toInt = (w 8 12).toInt)), fun y99 _ h99 => ⟨fun y => (y.toInt ≠ 0 ↔ (b.toInt ≠ 1 ∧ ¬ FLq w dn 2)), fun y123 _ h123 => ⟨fun c => k0 (fun h => (h73.2 h.1) c), fun c73 => ⟨fun c => k0 (fun h => (h99.2 h.2.1) c), fun c99 => ⟨fun c => k0 (fun h => (h123.2 h.2.2.1) c), fun c123 => ⟨fun c => k1 ⟨h73.1 c73, h99.1 c99, h123.1 c123, Or.inl c⟩, fun c => xl_is (fun v153 _ h153 => ?_)⟩⟩⟩⟩, ¬ (b.toInt ≠ 1 ∧ ¬ FLq w dn 2), fun hj => ⟨fun h => absurd rfl h, fun h => absurd h hj⟩, fun c h => h.1 c, fun c => xl_is (fun v112 _ h112 => ?_)⟩, (w 27 dn).toInt ≤ 0 ∨ (w 8 12).toInt ≤ 0 ∨ (w 27 dn).toInt = (w 8 12).toInt, fun hj => ⟨fun _ => hj, fun _ => by decide⟩, fun c => Or.inl c, fun c => ⟨fun c2 => Or.inr (Or.inl c2), fun c2 => ⟨fun c3 => ⟨fun h => absurd rfl h, fun h => ?_⟩, fun c3 => Or.inr (Or.inr c3)⟩⟩⟩, ¬ (¬ FLq w dn 1 ∧ (w 26 dn).toInt = (w 8 11).toInt ∧ ((w 27 dn).toInt = -1 ↔ (w 8 12).toInt = -1)), fun hj => ⟨fun h => absurd rfl h, fun h => absurd h hj⟩, fun c h => h.1 (f1.1 c), fun c => ⟨fun c2 h => c2 h.2.1, fun c2 => ⟨fun y => (y.toInt = 0 ∨ y.toInt = 1) ∧ (y.toInt = 1 ↔ (w 27 dn).toInt = -1), fun y52 _ h52 => ⟨fun y => (y.toInt = 0 ∨ y.toInt = 1) ∧ (y.toInt = 1 ↔ (w 8 12).toInt = -1), fun y65 _ h65 => ⟨fun c3 h => ?_, fun c3 => ⟨fun _ => ⟨fun h => (f1.2 h) c, c2, ?_⟩, fun _ => by decide⟩⟩, fun c3 => ⟨Or.inl rfl, ⟨fun h => absurd h (by decide), fun h => absurd h c3⟩⟩, fun c3 => ⟨Or.inr rfl, ⟨fun _ => c3, fun _ => rfl⟩⟩⟩, fun c3 => ⟨Or.inl rfl, ⟨fun h => absurd h (by decide), fun h => absurd h c3⟩⟩, fun c3 => ⟨Or.inr rfl, ⟨fun _ => c3, fun _ => rfl⟩⟩⟩⟩⟩
  · rw [e25] at h153
    have f4 : v153.toInt ≠ 0 ↔ FLq w dn 4 := h153
    exact ⟨fun c4 => k0 (fun h => h.2.2.2.elim (fun h => h c) (fun h => h (f4.1 c4))), fun c4 => k1 ⟨h73.1 c73, h99.1 c99, h123.1 c123, Or.inr (fun h => (f4.2 h) c4)⟩⟩
  · rw [e25] at h112
    have f2 : v112.toInt ≠ 0 ↔ FLq w dn 2 := h112
    exact ⟨fun c4 h => h.2 (f2.1 c4), fun c4 => ⟨fun _ => ⟨c, fun h => (f2.2 h) c4⟩, fun _ => by decide⟩⟩
  · rcases h with h | h | h
    · omega
    · omega
    · exact absurd h c3
  · have i := h.2.2
    have i1 := h52.2
    have i2 := h65.2
    have n1 := h52.1
    have n2 := h65.1
    by_cases q : (w 27 dn).toInt = -1
    · have := i1.2 q
      have := i2.2 (i.1 q)
      omega
    · have q2 : ¬ (w 8 12).toInt = -1 := fun h => q (i.2 h)
      have : ¬ y52.toInt = 1 := fun h => q (i1.1 h)
      have : ¬ y65.toInt = 1 := fun h => q2 (i2.1 h)
      omega
  · rw [← h52.2, ← h65.2, c3]
theorem xl_checkOuter (kk : ∀ s, Kp [(6, 3), (6, 4)] [] w s → ((s 6 3).toInt ≠ 0 ↔ (w 6 3).toInt ≠ 0 ∨ c.toInt = 0 ∨ (b.toInt < 0 ∧ 100 ≤ (w 6 7).toInt)) → Q s) : pk_X1_checkOuter a b c w Q := by
  unfold pk_X1_checkOuter
  refine ⟨fun s => Kp [(6, 3), (6, 4)] [] w s ∧ ((s 6 3).toInt ≠ 0 ↔ (w 6 3).toInt ≠ 0 ∨ c.toInt = 0), ?_, fun h => ⟨kp_rf, ⟨fun g => Or.inl g, fun g => g.elim id (fun g => absurd g h)⟩⟩, fun h => xl_fail (by decide) (fun s ks hs => ⟨ks, fun _ => Or.inr h, fun _ => hs⟩)⟩
  rintro s ⟨ks, hs⟩
  have e67 : s 6 7 = w 6 7 := ks 6 7 rfl rfl
  refine ⟨fun h => kk s ks ?_, fun h => ⟨fun h2 => kk s ks ?_, fun h2 => xl_fail (by decide) (fun s2 k2 f2 => kk s2 (kp_tr ks k2) ⟨fun _ => Or.inr (Or.inr ⟨h, by rw [← e67]; exact h2⟩), fun _ => f2⟩)⟩⟩
  · rw [hs]
    exact ⟨fun g => g.elim Or.inl (fun g => Or.inr (Or.inl g)), fun g => g.elim Or.inl (fun g => g.elim Or.inr (fun g => by omega))⟩
  · rw [hs]
    rw [e67] at h2
    exact ⟨fun g => g.elim Or.inl (fun g => Or.inr (Or.inl g)), fun g => g.elim Or.inl (fun g => g.elim Or.inr (fun g => by omega))⟩
theorem xl_declareOuter {Q : Int32 → St → Prop} (hE : REq kd n S m lo w σ) (ha : a.toInt = (u : Int)) (hu : u ≤ n) (ku : kd u = 2) (hm : m < 100) (hlm : lo + m < 10000) (h31 : (σ 0 31).toInt + ((σ 4 u).toInt - (σ 3 u).toInt) ≤ 65536) (kk : ∀ (v : Int32) (s : St) (dn : Nat), (dn : Int) = (w 5 1).toInt → v.toInt = (dn : Int) → dn < 10100 → CDf w s u m dn → Q v s) : pk_X11_declareOuter a w Q := by
  obtain ⟨hT, hL, ⟨o1, o2, o3, ⟨o4, o4b⟩, o5, o6⟩, hD, hY⟩ := hE
  have hn := hT.1.1
  obtain ⟨t1, t2, t3, t4, t5, t6⟩ := hT.2.2.2.1 u hu ku
  have e15 : atv 16002 (w 15) a = w 15 u := atv_at ha (by omega)
  have e14 : atv 16002 (w 14) a = w 14 u := atv_at ha (by omega)
  unfold pk_X11_declareOuter pk_X8_declare_r1
  rw [e15, e14]
  have k0 : Kp [(6, 7)] [38, 39] w (upC (upF (upF w 38 (setv 100 (w 38) (w 6 7) a)) 39 (setv 100 ((upF w 38 (setv 100 (w 38) (w 6 7) a)) 39) (w 6 7) ((-1) : Int32))) 6 7 ((w 6 7) + (1 : Int32))) := kp_f (kp_F (kp_F kp_rf rfl) rfl) rfl
  have f67 : ((upC (upF (upF w 38 (setv 100 (w 38) (w 6 7) a)) 39 (setv 100 ((upF w 38 (setv 100 (w 38) (w 6 7) a)) 39) (w 6 7) ((-1) : Int32))) 6 7 ((w 6 7) + (1 : Int32))) 6 7).toInt = (m : Int) + 1 := by rw [rdA_eq rfl, ad1 (by omega), o1]
  have f38 : ∀ j, ((upC (upF (upF w 38 (setv 100 (w 38) (w 6 7) a)) 39 (setv 100 ((upF w 38 (setv 100 (w 38) (w 6 7) a)) 39) (w 6 7) ((-1) : Int32))) 6 7 ((w 6 7) + (1 : Int32))) 38 j).toInt = if j = m then (u : Int) else (w 38 j).toInt := fun j => by
    rw [rdC_ne (by decide), rdF_ne (by decide), rdF_eq, setv_at o1 hm]
    by_cases cj : j = m
    · simp [cj, ha]
    · simp [cj]
  have f39 : ∀ j, (upC (upF (upF w 38 (setv 100 (w 38) (w 6 7) a)) 39 (setv 100 ((upF w 38 (setv 100 (w 38) (w 6 7) a)) 39) (w 6 7) ((-1) : Int32))) 6 7 ((w 6 7) + (1 : Int32))) 39 j = if j = m then -1 else w 39 j := fun j => by
    rw [rdC_ne (by decide), rdF_eq, setv_at o1 hm, rdF_ne (by decide)]
  generalize upC (upF (upF w 38 (setv 100 (w 38) (w 6 7) a)) 39 (setv 100 ((upF w 38 (setv 100 (w 38) (w 6 7) a)) 39) (w 6 7) ((-1) : Int32))) 6 7 ((w 6 7) + (1 : Int32)) = s1 at k0 f67 f38 f39
  have e51 : s1 5 1 = w 5 1 := k0 5 1 rfl rfl
  have e57 : s1 5 7 = w 5 7 := k0 5 7 rfl rfl
  have h31b := o5.2.2.2.2.2.1
  have e57i : ((w 5 7) + (w 14 u)).toInt = (w 5 7).toInt + (w 14 u).toInt := ad (by omega) (by omega)
  have e15i : ((w 15 u) + (w 14 u)).toInt = (w 15 u).toInt + (w 14 u).toInt := ad (by omega) (by omega)
  rw [e51, e57, e57i, e15i]
  refine ⟨fun h => by omega, fun _ => ⟨fun h => by omega, fun _ => ⟨fun h => by omega, fun _ => ⟨fun h => by omega, fun _ => ⟨fun _ hb hr => ?_, fun h => by omega⟩⟩⟩⟩⟩
  obtain ⟨dn, hdn⟩ : ∃ dn : Nat, (dn : Int) = (w 5 1).toInt := ⟨(w 5 1).toInt.toNat, by omega⟩
  have ed : (w 5 1).toInt = (dn : Int) := hdn.symm
  have en : (w 5 1).toNatClampNeg = dn := nat_of ed
  have hd9 : dn < 10100 := by omega
  rw [en]
  refine kk _ _ dn hdn ed hd9 ⟨?_, ?_, ?_, ?_, fun j => ?_, fun j => ?_, fun j => ?_, ?_⟩
  · exact kp_F (kp_F (kp_f (kp_a (kp_f (kp_F (kp_sub k0 rfl rfl) rfl) rfl) rfl) rfl) rfl) rfl
  · rw [rdF_ne (by decide), rdF_ne (by decide), rdC_ne (by decide), rdC_ne (by decide), rdC_ne (by decide), rdF_ne (by decide)]
    exact f67
  · rw [rdF_ne (by decide), rdF_ne (by decide), rdA_eq rfl, ad1 (by omega), ed]
  · rw [rdF_ne (by decide), rdF_ne (by decide), rdA_ne (by decide), rdC_ne (by decide), rdA_eq rfl, e57i]
  · rw [rdF_ne (by decide), rdF_ne (by decide), rdC_ne (by decide), rdC_ne (by decide), rdC_ne (by decide), rdF_ne (by decide)]
    exact f38 j
  · rw [rdF_ne (by decide), rdF_ne (by decide), rdC_ne (by decide), rdC_ne (by decide), rdC_ne (by decide), rdF_ne (by decide)]
    exact f39 j
  · rw [rdF_ne (by decide), rdF_eq, setv_at ed hd9, rdC_ne (by decide), rdC_ne (by decide), rdC_ne (by decide), rdF_ne (by decide), show s1 25 = w 25 from funext (fun j => k0 25 j rfl rfl)]
  · have hbo := hb.2.2.2.2.2
    rw [show s1 1 = w 1 from funext (fun j => k0 1 j rfl rfl)] at hbo
    exact hbo
end XGL
end

