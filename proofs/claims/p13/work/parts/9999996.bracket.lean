/-! a variable's [ ]: both sides -/
/-- what a variable's [ ] has wrong, for the reference: x6 the [ or -1, x7 the size, x8 whether one is given; lack: it may lack -/
def SQm (x6 x7 x8 : Int) (lack : Prop) : Prop := 0 ≤ x6 ∧ ¬ (1 ≤ x7 ∧ x7 ≤ 4000) ∧ ¬ (x8 = 0 ∧ x7 = 0 ∧ lack)
def KNq (x6 x7 : Int) : Int := if 0 ≤ x6 then (if 1 ≤ x7 ∧ x7 ≤ 4000 then x7 else 0) else -1
def STb (a b : St) : Prop := Ko [(4, 1), (6, 3), (6, 4), (7, 7), (6, 5), (5, 9), (8, 6), (8, 7), (8, 8)] [24, 43, 17, 31, 32, 33, 25, 39] a b
/-- the class behind the [ ]: both sides alike, or a size that is no right one -/
def BKg (kd : Nat → Int) (n S m lo : Nat) (x6 x7 x8 : Int) (w w1 s : St) : Prop :=
  (REq kd n S m lo w1 s ∧ (w1 7 7).toInt = 0 ∧ STb w w1 ∧ EXw w1 = KNq x6 x7 ∧ ((w1 8 6).toInt = -1 ∨ 0 ≤ (w1 8 6).toInt) ∧ ∀ (y : Int32) (lack : Prop), (y.toInt ≠ 0 ↔ lack) → (SQb w1 y ↔ SQm x6 x7 x8 lack))
  ∨ (0 ≤ (w1 8 6).toInt ∧ (w1 8 7).toInt = 0 ∧ ∀ lack, SQm x6 x7 x8 lack)
/-- the size that stands behind, if an = does -/
def TSz (kd vl : Nat → Int) (pb : Nat) (sz : Int) : Prop := (kd pb = 30 → TLq kd vl true pb sz) ∧ (kd pb ≠ 30 → sz = 0)
/-- what a variable's [ ], if there is one, leaves -/
def BKv (kd vl : Nat → Int) (n S m lo d p : Nat) (σ τ : St) (vs : List Nat) (x6 x7 x8 : Int32) (s t : St) (z : List Nat) : Prop :=
  ∃ (pb : Nat) (gb : List Gsq) (giv : Int), (kd p = 24 → EVq (fun N => BKn kd N p) (some (pb, gb, giv))) ∧ (kd p ≠ 24 → pb = p) ∧ (0 ≤ x6.toInt ↔ kd p = 24) ∧ p ≤ pb ∧ GMt s n pb ∧ RGs kd vl n S m lo d s ∧ s 0 12 = σ 0 12 ∧ KEr σ s ∧ TFq τ vs t z ∧ (∀ sz, TSz kd vl pb sz → x8.toInt = 0 → x7.toInt = sz)
    ∧ ∀ sz, TSz kd vl pb sz → (σ 0 12).toInt = 0 → ∀ w, REq kd n S m lo w σ → (w 6 3).toInt = 0 → (w 7 7).toInt = 0 → (w 8 6).toInt = -1 → GWq (if kd p = 24 then gb ++ [gq (42, p, giv, sz)] else []) w (fun w1 => (w1 6 3).toInt = 0 ∧ BKg kd n S m lo x6.toInt x7.toInt x8.toInt w w1 s) False
section BRK
variable {w s r s8 s9 σ σ' σ1 τ t : St} {kd vl : Nat → Int} {n S m lo d p pb : Nat} {vs z : List Nat} {a1 a2 a3 a4 x6 x7 x8 : Int32} {F0 : Prop} {sz : Int}
/-- the size counted ahead is the size that the steps tell -/
theorem ts_told (h : TSz kd vl pb sz) (c30 : kd pb = 30) (h6 : 0 ≤ vl (pb + 1) + 1) {v : Int} (ka : ALq kd (pb + 1) → v = vl (pb + 1) + 1) (kb : kd (pb + 1) = 22 → TDq kd (pb + 1) 1 0 v) (kc : ¬ ALq kd (pb + 1) → kd (pb + 1) ≠ 22 → v = -1) : (if v < 0 then 0 else v) = sz ∧ 0 ≤ sz := by
  obtain ⟨h1, h2, h3⟩ := h.1 c30
  by_cases c22 : kd (pb + 1) = 22
  · obtain ⟨q, g, cnt, e, es, ec⟩ := h1 c22
    obtain ⟨N, hN⟩ := e
    have hit := td_it (n := 1) (hN N (Nat.le_refl N))
    have hit2 : TDq kd (pb + 1) 1 0 (1 + (cnt : Int) - 1) := td_o (Or.inr (Or.inl c22)) (by decide) hit
    have := ev_one (kb c22) hit2
    have e2 : v = 1 + (cnt : Int) - 1 := Option.some.inj this
    rw [if_neg (by omega)]
    constructor <;> omega
  · by_cases ca : ALq kd (pb + 1)
    · have := h2 ⟨rfl, ca⟩
      have := ka ca
      rw [if_neg (by omega)]
      constructor <;> omega
    · have := h3 c22 (fun h => ca h.2)
      have := kc ca c22
      rw [if_pos (by omega)]
      constructor <;> omega
theorem ke_15 (k : Kp [(0, 10), (0, 12), (0, 13), (0, 15), (0, 17), (0, 37), (0, 39)] [8, 33, 14, 25, 21] σ s) (e : s 0 15 = σ 0 15) : KEr σ s := fun c j h1 h2 => by
  by_cases ce : c = 0 ∧ j = 15
  · rw [ce.1, ce.2]; exact e
  · refine k c j ?_ h2
    simp only [List.contains_cons, List.contains_nil, Bool.or_false, Bool.or_eq_false_iff, beq_eq_false_iff_ne, ne_eq, Prod.mk.injEq, not_and] at h1 ⊢
    omega
/-- not given -/
theorem sq_not (h6 : (w 8 6).toInt = (p : Int)) (h7 : (w 8 7).toInt = (if sz ≤ 0 then -1 else sz)) (hs : x7.toInt = sz ∧ 0 ≤ sz) : EXw w = KNq (p : Int) x7.toInt ∧ ∀ (y : Int32) (lack : Prop), (y.toInt ≠ 0 ↔ lack) → (SQb w y ↔ SQm (p : Int) x7.toInt 0 lack) := by
  have p0 : (0 : Int) ≤ (p : Int) := by omega
  constructor
  · unfold EXw KNq
    rw [if_pos (by omega), if_pos p0, h7, hs.1]
    by_cases c : sz ≤ 0
    · rw [if_pos c, if_neg (by omega), if_neg (by omega)]
    · rw [if_neg c]
  · intro y lack hy
    unfold SQb SQm
    rw [h7, h6, hs.1]
    by_cases c : sz ≤ 0
    · rw [if_pos c]
      have : sz = 0 := by omega
      constructor
      · rintro ⟨_, h | h | h⟩
        · exact ⟨p0, by omega, fun hx => (hy.2 hx.2.2) h.2⟩
        · omega
        · omega
      · rintro ⟨_, _, h⟩
        exact ⟨p0, Or.inl ⟨rfl, Decidable.byContradiction (fun hx => h ⟨rfl, this, hy.1 hx⟩)⟩⟩
    · rw [if_neg c]
      constructor
      · rintro ⟨_, h | h | h⟩
        · omega
        · omega
        · exact ⟨p0, by omega, by omega⟩
      · rintro ⟨_, h, _⟩
        exact ⟨p0, Or.inr (Or.inr (by omega))⟩
/-- given -/
theorem sq_given {X : Int} {F : Int} (h6 : (w 8 6).toInt = (p : Int)) (h7 : F = 1 → (w 8 7).toInt = (if X < 0 then 0 else X)) (h70 : F ≠ 1 → (w 8 7).toInt = 0) (hs : x7.toInt = (if F = 1 ∧ 1 ≤ X then X else -1)) : EXw w = KNq (p : Int) x7.toInt ∧ ∀ (y : Int32) (lack : Prop), (y.toInt ≠ 0 ↔ lack) → (SQb w y ↔ SQm (p : Int) x7.toInt 1 lack) := by
  have p0 : (0 : Int) ≤ (p : Int) := by omega
  have h : ((w 8 7).toInt = x7.toInt ∧ 1 ≤ x7.toInt) ∨ ((w 8 7).toInt = 0 ∧ x7.toInt = -1) := by
    by_cases c : F = 1 ∧ 1 ≤ X
    · rw [if_pos c] at hs
      have := h7 c.1
      rw [if_neg (by omega)] at this
      exact Or.inl ⟨by omega, by omega⟩
    · rw [if_neg c] at hs
      refine Or.inr ⟨?_, hs⟩
      by_cases c1 : F = 1
      · have := h7 c1
        by_cases c2 : X < 0
        · rw [if_pos c2] at this
          exact this
        · rw [if_neg c2] at this
          have : ¬ 1 ≤ X := fun hx => c ⟨c1, hx⟩
          omega
      · exact h70 c1
  clear h7 h70 hs
  constructor
  · unfold EXw KNq
    rw [if_pos (by omega), if_pos p0]
    rcases h with ⟨h1, h2⟩ | ⟨h1, h2⟩
    · rw [h1]
    · rw [h1, h2, if_neg (by omega), if_neg (by omega)]
  · intro y lack hy
    unfold SQb SQm
    rw [h6]
    constructor
    · rintro ⟨_, g⟩
      refine ⟨p0, ?_, fun hx => absurd hx.1 (by decide)⟩
      rcases h with ⟨h1, h2⟩ | ⟨h1, h2⟩
      · rcases g with g | g | g <;> omega
      · omega
    · rintro ⟨_, g, _⟩
      refine ⟨p0, ?_⟩
      rcases h with ⟨h1, h2⟩ | ⟨h1, h2⟩
      · exact Or.inr (Or.inr (by omega))
      · exact Or.inr (Or.inl (by omega))
/-- the reference: a variable's [ ] -/
theorem mr_bracket {J95 : Int32 → Int32 → Int32 → St → St → List Nat → Prop} {v12 : Int32} (hv : v12.toInt ≠ 0 ↔ kd p = 24) (hG : RGs kd vl n S m lo d σ) (hg : GMt σ n p) (kk : ∀ x6 x7 x8 s t z, (x8 = 0 ∨ x8 = 1) → BKv kd vl n S m lo d p σ τ vs x6 x7 x8 s t z → J95 x6 x7 x8 s t z) (kn : kd p = 24 → EVq (fun N => BKn kd N p) none → F0) : ((v12.toInt = 0 → (J95 ((-1) : Int32) ((-1) : Int32) (1 : Int32) σ τ vs)) ∧ (v12.toInt ≠ 0 → (pp_is (25 : Int32) (upC σ 0 10 ((σ 0 10) + (1 : Int32))) τ vs (fun v37 => ∃ J48 : Int32 → Prop, (∀ (y0_48 : Int32), y0_48 = 0 ∨ y0_48 = 1 → (J48 y0_48 → (∃ J63 : Int32 → St → St → List Nat → Prop, (∀ (y0_63 : Int32) (s63 t63 : St) (z63 : List Nat), J63 y0_63 s63 t63 z63 → (pp_expect (25 : Int32) s63 t63 z63 (fun s68 t68 z68 => (y0_48.toInt ≠ 0 → (J95 (σ 0 10) y0_63 y0_48 s68 t68 z68)) ∧ (y0_48.toInt = 0 → (pp_is (30 : Int32) s68 t68 z68 (fun v79 => (v79.toInt = 0 → (J95 (σ 0 10) y0_63 y0_48 s68 t68 z68)) ∧ (v79.toInt ≠ 0 → (pp_told s68 t68 z68 (fun v86 => J95 (σ 0 10) (if v86 < (0 : Int32) then (0 : Int32) else v86) y0_48 s68 t68 z68))))))) (fun _ _ _ => F0))) ∧ ((y0_48.toInt = 0 → (J63 (0 : Int32) (upC σ 0 10 ((σ 0 10) + (1 : Int32))) τ vs)) ∧ (y0_48.toInt ≠ 0 → (pp_sizeAt (upC σ 0 10 ((σ 0 10) + (1 : Int32))) τ vs (fun v56 s56 t56 z56 => J63 v56 s56 t56 z56) (fun _ _ _ => F0))))))) ∧ ((v37.toInt ≠ 0 → (J48 (0 : Int32))) ∧ (v37.toInt = 0 → (J48 (1 : Int32)))))))) := by
  have tk := hG.1.1
  have hn := tk.1
  have hvl : ∀ q, q ≤ n → kd q = 4 → 0 ≤ vl q ∧ vl q ≤ 16000 := fun q h1 h2 => by
    have := hG.1.2.2.1 q h1 h2
    rw [hG.2.2.2.2 q h1] at this
    exact this
  refine ⟨fun c => ?_, fun c => ?_⟩
  · have n24 : kd p ≠ 24 := fun h => (hv.2 h) c
    refine kk _ _ _ _ _ _ (Or.inr rfl) ⟨p, [], 0, fun h => absurd h n24, fun _ => rfl, ⟨fun h => absurd h (by decide), fun h => absurd h n24⟩, Nat.le_refl p, hg, hG, rfl, kp_rf, tf_rf, fun _ _ h => absurd h (by decide), fun sz _ h0 w hR hf h77 h86 => ?_⟩
    rw [if_neg n24]
    refine ⟨hf, Or.inl ⟨hR, h77, ko_rf, ?_, Or.inl h86, fun y lack hy => ?_⟩⟩
    · unfold EXw KNq
      rw [if_neg (by omega), if_neg (by decide)]
    · unfold SQb SQm
      exact ⟨fun h => by omega, fun h => absurd h.1 (by decide)⟩
  have k24 : kd p = 24 := hv.1 c
  have ep : (σ 0 10).toInt = (p : Int) := hg.1
  have ka : Kp [(0, 10)] [] σ (upC σ 0 10 ((σ 0 10) + (1 : Int32))) := kp_f kp_rf rfl
  have ga : GMt (upC σ 0 10 ((σ 0 10) + (1 : Int32))) n (p + 1) := gm_up tk hg (by omega)
  generalize upC σ 0 10 ((σ 0 10) + (1 : Int32)) = σa at ka ga
  have ea : σa 0 12 = σ 0 12 := ka 0 12 rfl rfl
  have hGa := rg_ds hG (ds_k ka rfl rfl) (by rw [ea]; exact rgq_0 hG.1)
  refine mr_is1 hGa.1.1 ga (c := 25) (by decide) (by decide) (fun v37 hv37 => ?_)
  by_cases c25 : kd (p + 1) = 25
  · refine ⟨fun y => y = 0, fun y _ hy => ?_, fun _ => rfl, fun cx => absurd cx (hv37.2 c25)⟩
    rw [hy]
    refine ⟨fun v s t z => v = 0 ∧ s = σa ∧ t = τ ∧ z = vs, ?_, fun _ => ⟨rfl, rfl, rfl, rfl⟩, fun cx => absurd rfl cx⟩
    rintro v s t z ⟨e1, e2, e3, e4⟩
    rw [e1, e2, e3, e4]
    refine mr_expect hGa.1.1 ga (c := 25) (by decide) (by decide) (fun _ s1 k1 g1 => ⟨fun cx => absurd rfl cx, fun _ => ?_⟩) (fun cx => absurd c25 cx)
    have e1' : s1 0 12 = σa 0 12 := k1 0 12 rfl rfl
    replace g1 : GMt s1 n (p + 2) := g1
    have hG1 := rg_ds hGa (ds_k k1 rfl rfl) (by rw [e1']; exact rgq_0 hGa.1)
    have kz : Kp [(0, 10)] [] σ s1 := kp_tr ka k1
    have hbk : EVq (fun N => BKn kd N p) (some (p + 2, [], 0)) := ev_t c25 ev_c
    have fin : ∀ x7 : Int32, (∀ sz, TSz kd vl (p + 2) sz → x7.toInt = sz ∧ 0 ≤ sz) → J95 (σ 0 10) x7 0 s1 τ vs := fun x7 hx => by
      refine kk _ _ _ _ _ _ (Or.inl rfl) ⟨p + 2, [], 0, fun _ => hbk, fun h => absurd k24 h, ⟨fun _ => k24, fun _ => by omega⟩, by omega, g1, hG1, by rw [e1', ea], ke_k kz rfl rfl, tf_rf, fun sz hsz _ => (hx sz hsz).1, fun sz hsz h0 w hR hf h77 h86 => ?_⟩
      rw [if_pos k24]
      refine gv_d (x := (42, p, 0, sz)) (by simp) (fun _ => da_bracket0 (fun w1 k1w f6 f7 => ?_)) (fun hx => absurd hf hx)
      obtain ⟨b1, b2⟩ := sq_not f6 f7 (hx sz hsz)
      refine ⟨by rw [k1w 6 3 rfl rfl]; exact hf, Or.inl ⟨re_cd hR (cd_ko (ko_kp k1w) rfl rfl) (dd_k kz rfl rfl), by rw [k1w 7 7 rfl rfl]; exact h77, ko_sub (ko_kp k1w) rfl rfl, by rw [ep]; exact b1, Or.inr (by omega), by rw [ep]; exact b2⟩⟩
    refine mr_is1 hG1.1.1 g1 (c := 30) (by decide) (by decide) (fun v79 hv79 => ⟨fun c0 => fin 0 (fun sz h => ?_), fun c1 => ?_⟩)
    · have := h.2 (fun hx => (hv79.2 hx) c0)
      rw [this]
      exact ⟨rfl, by decide⟩
    · have c30 := hv79.1 c1
      have hp2n : p + 2 < n := by
        have h2 := tk.2.2.2.2
        have h3 := g1.2
        by_cases ce : p + 2 = n
        · rw [← ce, c30] at h2
          omega
        · omega
      have e6 : ∀ q, q ≤ n → (s1 6 q).toInt = vl q := hG1.2.2.2.2
      have tk1 := hG1.1.1
      have vb : kd (p + 2 + 1) = 4 → 0 ≤ vl (p + 2 + 1) ∧ vl (p + 2 + 1) ≤ 16000 := hvl _ (by omega)
      have ifc : ∀ v : Int32, (if v < (0 : Int32) then (0 : Int32) else v).toInt = if v.toInt < 0 then 0 else v.toInt := fun v => by
        by_cases cv : v < (0 : Int32)
        · rw [if_pos cv, if_pos (show v.toInt < 0 from Int32.lt_iff_toInt_lt.mp cv)]
          rfl
        · rw [if_neg cv, if_neg (show ¬ v.toInt < 0 from fun hx => cv (Int32.lt_iff_toInt_lt.mpr hx))]
      refine mr_told tk1 g1 hp2n (fun k4 => ?_) (fun hal v hv2 => fin _ (fun sz h => ?_)) (fun h22 v hv2 => fin _ (fun sz h => ?_)) (fun na n22 => fin _ (fun sz h => ?_))
      · have := vb k4
        rw [e6 _ (by omega)]
        omega
      · rw [ifc]
        have hb := vb hal.1
        rw [e6 _ (by omega)] at hv2
        exact ts_told h c30 (by omega) (fun _ => hv2) (fun hx => absurd hal.1 (by omega)) (fun hx => absurd hal hx)
      · rw [ifc]
        obtain ⟨h1, h2, h3⟩ := h.1 c30
        obtain ⟨q, g, cnt, e, es, ec⟩ := h1 h22
        obtain ⟨N, hN⟩ := e
        have hit := td_it (n := 1) (hN N (Nat.le_refl N))
        have hit2 : TDq kd (p + 2 + 1) 1 0 (1 + (cnt : Int) - 1) := td_o (Or.inr (Or.inl h22)) (by decide) hit
        have e2 : v.toInt = 1 + (cnt : Int) - 1 := Option.some.inj (ev_one hv2 hit2)
        rw [if_neg (by omega)]
        constructor <;> omega
      · rw [ifc]
        obtain ⟨h1, h2, h3⟩ := h.1 c30
        have := h3 n22 (fun hx => na hx.2)
        rw [this]
        exact ⟨rfl, by decide⟩
  · refine ⟨fun y => y = 1, fun y _ hy => ?_, fun cx => absurd (hv37.1 cx) c25, fun _ => rfl⟩
    rw [hy]
    refine ⟨fun v s t z => ∃ (p' : Nat) (l : List Stq), EVq (fun N => BKn kd N p) (if kd p' = 25 then some (p' + 1, [((40, p, 0, 0), l)], 1) else none) ∧ p < p' ∧ GMt s n p' ∧ RGs kd vl n S m lo d s ∧ s 0 12 = σ 0 12 ∧ KEr σ s ∧ TFq τ vs t z ∧ ∀ sz, (σ 0 12).toInt = 0 → ∀ w, REq kd n S m lo w σ → (w 6 3).toInt = 0 → (w 7 7).toInt = 0 → GWq ([((40, p, 0, 0), l)] ++ [gq (42, p, 1, sz)]) w (fun w1 => (w1 6 3).toInt = 0 ∧ BKg kd n S m lo (p : Int) v.toInt 1 w w1 s) False, ?_, fun cx => absurd cx (by decide), fun _ => ?_⟩
    · rintro v s t z ⟨p', l, h1, h2, h3, h4, h5, h6, h7, h8⟩
      refine mr_expect h4.1.1 h3 (c := 25) (by decide) (by decide) (fun c s1 k1 g1 => ⟨fun _ => ?_, fun cx => absurd cx (by decide)⟩) (fun c => kn k24 (by rw [if_neg c] at h1; exact h1))
      rw [if_pos c] at h1
      have e1 : s1 0 12 = s 0 12 := k1 0 12 rfl rfl
      have d1 := ds_k k1 rfl rfl
      refine kk _ _ _ _ _ _ (Or.inr rfl) ⟨p' + 1, _, 1, fun _ => h1, fun h => absurd k24 h, ⟨fun _ => k24, fun _ => by omega⟩, by omega, g1, rg_ds h4 d1 (by rw [e1]; exact rgq_0 h4.1), by rw [e1, h5], kp_tr h6 (ke_k k1 rfl rfl), h7, fun _ _ h => absurd h (by decide), fun sz _ h0 w hR hf h77 _ => ?_⟩
      rw [if_pos k24]
      refine gv_mono (h8 sz h0 w hR hf h77) (fun w1 hw1 => ⟨hw1.1, ?_⟩) id
      rw [ep]
      rcases hw1.2 with ⟨g1', g2', g3'⟩ | g
      · exact Or.inl ⟨re_cd g1' cd_rf d1.1, g2', g3'⟩
      · exact Or.inr g
    · refine es_sizeAt hGa ga (fun v s t z p' l σ1 s1 K T H Z F' X hv0 hp g1 hG1 e12 e57 htf hact h15 e12b dd1 dd2 hex hr1 hkp hvv => ?_) (fun hn => kn k24 (ev_f c25 (ev_b0 hn)))
      have e15 : s 0 15 = σ 0 15 := ieq (by rw [hG1.2.2.2.1, hG.2.2.2.1])
      have kpz : Kp [(0, 10), (0, 12), (0, 13), (0, 15), (0, 17), (0, 37), (0, 39)] [8, 33, 14, 25, 21] σ s := kp_tr (kp_sub ka rfl rfl) hkp
      refine ⟨p', l, ev_f c25 (ev_b hv0 ev_c), by omega, g1, hG1, by rw [e12, ea], ke_15 kpz e15, htf, fun sz h0 w hR hf h77 => ?_⟩
      have hR0 : REq kd n S m lo w σ1 := re_cd (re_cd hR cd_rf (dd_k ka rfl rfl)) cd_rf dd1
      refine gv_app (gv_c rfl (fun _ => ca_size hex h15 (by rw [e12b, ea]; exact h0) hR0 hf h77 (fun hF w1 f63 f88 _ => ?_) (fun w1 f63 f77 hR1 k1 f1 f0 => ?_)) (fun hx => absurd hf hx))
      · refine gv_d (x := (42, p, 1, sz)) (by simp) (fun _ => da_bracket1 (fun w2 k2 f6 f7 => ⟨by rw [k2 6 3 rfl rfl]; exact f63, Or.inr ⟨by omega, by rw [f7]; exact f88, fun lack => ?_⟩⟩)) (fun hx => absurd f63 hx)
        rw [hvv, if_neg (fun hx => hF hx.1)]
        exact ⟨by omega, by decide, fun hx => absurd hx.1 (by decide)⟩
      · refine gv_d (x := (42, p, 1, sz)) (by simp) (fun _ => da_bracket1 (fun w2 k2 f6 f7 => ?_)) (fun hx => absurd f63 hx)
        obtain ⟨b1, b2⟩ := sq_given f6 (fun h => by rw [f7]; exact f1 h) (fun h => by rw [f7]; exact f0 h) hvv
        exact ⟨by rw [k2 6 3 rfl rfl]; exact f63, Or.inl ⟨re_cd hR1 (cd_ko (ko_kp k2) rfl rfl) dd2, by rw [k2 7 7 rfl rfl]; exact f77, ko_tr (ko_sub k1 rfl rfl) (ko_sub (ko_kp k2) rfl rfl), b1, Or.inr (by omega), b2⟩⟩
end BRK
