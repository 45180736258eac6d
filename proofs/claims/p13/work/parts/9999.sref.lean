/-! the reference's statements: what is wanted, what is left -/
def onq (sel d : Nat) : Nat := if sel = 2 then d + 1 else d
def ESq (kd vl : Nat → Int) (n m lo sel d S p : Nat) (σ τ : St) (vs : List Nat) (s t : St) (z : List Nat) : Prop :=
  ∃ (p' S' : Nat) (g : List Gsq), EVq (fun N => STn kd vl N sel d p) (some (p', g)) ∧ p < p' ∧ GMt s n p' ∧ RGs kd vl n S' m lo d s ∧ MNq σ s ∧ s 0 57 = σ 0 57 ∧ TFq τ vs t z ∧ ∀ O, O < onq sel d → WSq kd n m lo d O S S' g σ s
/-- a method of the group: sel as the grammar's, d deep, from p on -/
def SWr (kd vl : Nat → Int) (n m lo sel d p : Nat) (f : St → St → List Nat → (St → St → List Nat → Prop) → (St → St → List Nat → Prop) → Prop) : Prop :=
  ∀ (S : Nat) (σ τ : St) (vs : List Nat) (Q : St → St → List Nat → Prop) (F : Prop), RGs kd vl n S m lo d σ → GMt σ n p → (0 ≤ (σ 0 57).toInt ∧ (σ 0 57).toInt < (onq sel d : Int)) → (∀ s t z, ESq kd vl n m lo sel d S p σ τ vs s t z → Q s t z) → (EVq (fun N => STn kd vl N sel d p) none → F) → f σ τ vs Q (fun _ _ _ => F)
/-- a condition's expression: what stands behind it is handed a value; the state s tells whether it is bad -/
def CDo (kd : Nat → Int) (n S m lo d : Nat) (l : List Stq) (σ s : St) : Prop := (σ 0 12).toInt = 0 → ∀ w, RSo kd n S m lo d 0 w σ → (w 6 3).toInt = 0 → ∀ (rest : List Gsq) (Q : St → Prop) (B : Prop), ((s 0 12).toInt ≠ 0 → B) → (∀ r, (r 6 3).toInt ≠ 0 → B → Q r) → (∀ r K T H Z F X i, (r 6 3).toInt = 0 → RSo kd n S m lo d 1 r s → STe 0 w r → AVq r 65 K T H Z F X i → (0 ≤ K ∧ K ≤ 3) → ((s 0 12).toInt ≠ 0 ↔ T = -1) → GWq rest r Q B) → GWq (gqs l ++ rest) w Q B
/-- the walk from O open to O2 open -/
def WOq (kd : Nat → Int) (n S m lo d O O2 : Nat) (g : List Gsq) (σ σ' : St) (b : Prop) : Prop :=
  (σ 0 12).toInt = 0 → ∀ w, RSo kd n S m lo d 0 w σ → (w 9 5).toInt = (O : Int) → (w 6 3).toInt = 0 → GWq g w (fun s => ((s 6 3).toInt ≠ 0 → (σ' 0 12).toInt ≠ 0) ∧ ((s 6 3).toInt = 0 → (σ' 0 12).toInt = 0 ∧ RSo kd n S m lo d 0 s σ' ∧ (s 9 5).toInt = (O2 : Int) ∧ (∀ i, i < O → i < O2 → s 49 i = w 49 i) ∧ (O < O2 → ((s 49 O).toInt ≠ 0 ↔ b)))) ((σ' 0 12).toInt ≠ 0)
section SRF
variable {w s r s8 σ σ' σ0 σ1 σ2 σ3 τ t : St} {kd vl : Nat → Int} {n S S1 S2 m lo d O O1 O2 p : Nat} {vs z : List Nat} {g g1 g2 g3 : List Gsq} {l : List Stq} {y : Stq} {b b2 b3 : Prop} {K T H Z F : Int} {X : Int32} {F0 : Prop}
theorem wo_cd (hy : 20 ≤ y.1 ∧ y.1 < 40) (hc : CDo kd n S m lo d l σ σ') (st : ∀ r K T H Z F X i, (r 9 5).toInt = (O : Int) → (r 7 7).toInt = 1 → (r 6 3).toInt = 0 → AVq r 65 K T H Z F X i → (0 ≤ K ∧ K ≤ 3) → SAq y r (CQq O O2 b T r)) : WOq kd n S m lo d O O2 (gqs l ++ [gq y]) σ σ' b := by
  intro h0 w hR hO hf
  refine hc h0 w hR hf _ _ _ id (fun r hr hb => ⟨fun _ => hb, fun hx => absurd hx hr⟩) (fun r K T H Z F X i r0 hR1 hste hA hk hT => ?_)
  refine gv_s hy (fun c0 => st_mono (st r K T H Z F X i (by rw [ste_95 hste]; exact hO) hR1.2.1 r0 hA hk) (fun s2 hs2 => ?_)) (fun hx => absurd r0 hx)
  obtain ⟨o, e7, e6⟩ := hs2
  refine ⟨fun hx => hT.2 (e6.1 hx), fun hx => ⟨?_, ro_cs hR1 (cs_w o.1) ds_rf (by rw [e7]; rfl), o.2.1, fun i h1 h2 => ?_, o.2.2.2⟩⟩
  · exact Decidable.byContradiction (fun hn => (e6.2 (hT.1 hn)) hx)
  · rw [o.2.2.1 i h1 h2, ste_49 hste]
theorem wo_st (hy : 20 ≤ y.1 ∧ y.1 < 40) (st : ∀ w, (w 9 5).toInt = (O : Int) → SAq y w (NQq O O2 b w)) (r : DSw σ σ') (e12 : σ' 0 12 = σ 0 12) : WOq kd n S m lo d O O2 [gq y] σ σ' b := by
  intro h0 w hR hO hf
  refine gv_s hy (fun _ => st_mono (st w hO) (fun s hs => ?_)) (fun hx => absurd hf hx)
  obtain ⟨o, e6, e7⟩ := hs
  exact ⟨fun hx => absurd (by rw [e6]; exact hf) hx, fun _ => ⟨by rw [e12]; exact h0, ro_cs hR (cs_w o.1) r (by rw [e7]; exact hR.2.1), o.2.1, o.2.2.1, o.2.2.2⟩⟩
theorem wo_app (h1 : WOq kd n S m lo d O O1 g σ σ1 b) (h2 : WOq kd n S m lo d O1 O2 g2 σ1 σ2 b2) (hm : MNq σ1 σ2) (hO : O = O1 ∧ (b ↔ b2) ∨ O1 = O2 ∨ O1 = O + 1 ∧ O2 = O) : WOq kd n S m lo d O O2 (g ++ g2) σ σ2 b := by
  intro h0 w hR hw hf
  refine gv_app (gv_mono (h1 h0 w hR hw hf) (fun s hs => ?_) hm)
  by_cases c0 : (s 6 3).toInt = 0
  · obtain ⟨a1, a2, a3, a4, a5⟩ := hs.2 c0
    refine gv_mono (h2 a1 s a2 a3 c0) (fun r hr => ⟨hr.1, fun c => ?_⟩) id
    obtain ⟨k1, k2, k3, k4, k5⟩ := hr.2 c
    clear hs hr h1 h2
    refine ⟨k1, k2, k3, fun i i1 i2 => ?_, fun hl => ?_⟩
    · have : i < O1 := by rcases hO with ⟨e, _⟩ | e | e <;> omega
      rw [k4 i this i2, a4 i i1 this]
    · rcases hO with ⟨e, e2⟩ | e | e
      · rw [e2, e]
        exact k5 (by omega)
      · rw [k4 O (by omega) hl]
        exact a5 (by omega)
      · omega
  · have := hm (hs.1 c0)
    exact gv_bad c0 this (fun s' h => ⟨fun _ => this, fun hx => absurd hx h⟩)
/-- the reference goes on without a fault, before or behind -/
theorem wo_src (h : DSw σ σ1) (e12 : σ1 0 12 = σ 0 12) (hw : WOq kd n S m lo d O O2 g σ1 σ2 b) : WOq kd n S m lo d O O2 g σ σ2 b := fun h0 w hR hO hf =>
  hw (by rw [e12]; exact h0) w (ro_cs hR cs_rf h hR.2.1) hO hf
theorem wo_ref (hw : WOq kd n S m lo d O O2 g σ σ1 b) (h : DSw σ1 σ2) (e12 : σ2 0 12 = σ1 0 12) : WOq kd n S m lo d O O2 g σ σ2 b := fun h0 w hR hO hf => by
  rw [e12]
  refine gv_mono (hw h0 w hR hO hf) (fun s hs => ⟨hs.1, fun c => ?_⟩) id
  obtain ⟨k1, k2, k3⟩ := hs.2 c
  exact ⟨k1, ro_cs k2 cs_rf h k2.2.1, k3⟩
theorem wo_nil (h : DSw σ σ') (e12 : σ' 0 12 = σ 0 12) : WOq kd n S m lo d O O [] σ σ' b := fun h0 w hR hO hf =>
  ⟨fun hx => absurd hf hx, fun _ => ⟨by rw [e12]; exact h0, ro_cs hR cs_rf h hR.2.1, hO, fun _ _ _ => rfl, fun h => absurd h (Nat.lt_irrefl O)⟩⟩
theorem lp_at (h : LPq O w σ) (e95 : (s 9 5).toInt = (O : Int)) (e49 : ∀ i, i < O → s 49 i = w 49 i) (e57 : σ' 0 57 = σ 0 57) : LPq O s σ' := by
  refine ⟨e95, ?_⟩
  rw [e57, ← h.2]
  exact ⟨fun ⟨i, h1, h2⟩ => ⟨i, h1, by rw [← e49 i h1]; exact h2⟩, fun ⟨i, h1, h2⟩ => ⟨i, h1, by rw [e49 i h1]; exact h2⟩⟩
theorem ws_of (h : WOq kd n S m lo d O O g σ σ' b) (e57 : σ' 0 57 = σ 0 57) : WSq kd n m lo d O S S g σ σ' := fun h0 w hR hf =>
  gv_mono (h h0 w hR.1 hR.2.1 hf) (fun s hs => ⟨hs.1, fun c => by
    obtain ⟨k1, k2, k3, k4, _⟩ := hs.2 c
    exact ⟨k1, ⟨k2, lp_at hR.2 k3 (fun i hi => k4 i hi hi) e57⟩, fun i hi => k4 i hi hi⟩⟩) id
/-- what opens, a body, what ends -/
theorem ws_loop (h1 : WOq kd n S m lo d O (O + 1) g1 σ σ1 b) (h2 : WSq kd n m lo d (O + 1) S S2 g2 σ1 σ2) (h3 : WOq kd n S2 m lo d (O + 1) O g3 σ2 σ3 b3) (m12 : MNq σ1 σ2) (m23 : MNq σ2 σ3) (e1 : (b ∧ 0 < (σ1 0 57).toInt) ∨ (¬ b ∧ σ1 0 57 = σ 0 57)) (e2 : σ3 0 57 = σ 0 57) : WSq kd n m lo d O S S2 (g1 ++ g2 ++ g3) σ σ3 := by
  intro h0 w hR hf
  rw [List.append_assoc]
  have m13 : MNq σ1 σ3 := fun hx => m23 (m12 hx)
  refine gv_app (gv_mono (h1 h0 w hR.1 hR.2.1 hf) (fun s hs => ?_) m13)
  by_cases c0 : (s 6 3).toInt = 0
  · obtain ⟨a1, a2, a3, a4, a5⟩ := hs.2 c0
    have hL : LPq (O + 1) s σ1 := by
      refine ⟨a3, ?_⟩
      have a5' := a5 (Nat.lt_succ_self O)
      rcases e1 with ⟨hb, hp⟩ | ⟨hb, he⟩
      · exact ⟨fun _ => hp, fun _ => ⟨O, Nat.lt_succ_self O, a5'.2 hb⟩⟩
      · rw [he, ← hR.2.2]
        refine ⟨fun ⟨i, i1, i2⟩ => ?_, fun ⟨i, i1, i2⟩ => ⟨i, Nat.lt_succ_of_lt i1, by rw [a4 i i1 (Nat.lt_succ_of_lt i1)]; exact i2⟩⟩
        by_cases ci : i = O
        · rw [ci] at i2
          exact absurd (a5'.1 i2) hb
        · have i3 : i < O := by clear hs a5' a5 h1 h2 h3; omega
          exact ⟨i, i3, by rw [← a4 i i3 i1]; exact i2⟩
    refine gv_app (gv_mono (h2 a1 s ⟨a2, hL⟩ c0) (fun s2 hs2 => ?_) m23)
    by_cases c2 : (s2 6 3).toInt = 0
    · obtain ⟨b1, b2', b4⟩ := hs2.2 c2
      refine gv_mono (h3 b1 s2 b2'.1 b2'.2.1 c2) (fun r hr => ⟨hr.1, fun c => ?_⟩) id
      obtain ⟨k1, k2, k3, k4, _⟩ := hr.2 c
      have kp : ∀ i, i < O → r 49 i = w 49 i := fun i hi => by rw [k4 i (Nat.lt_succ_of_lt hi) hi, b4 i (Nat.lt_succ_of_lt hi), a4 i hi (Nat.lt_succ_of_lt hi)]
      exact ⟨k1, ⟨k2, lp_at hR.2 k3 kp e2⟩, kp⟩
    · have := m23 (hs2.1 c2)
      exact gv_bad c2 this (fun s' h => ⟨fun _ => this, fun hx => absurd hx h⟩)
  · have := m13 (hs.1 c0)
    exact gv_bad c0 this (fun s' h => ⟨fun _ => this, fun hx => absurd hx h⟩)
theorem es_expr {Q : Nat → St → St → List Nat → Prop} (hG : RGs kd vl n S m lo d σ) (hg : GMt σ n p) (kk : ∀ u s t z p' l K T H Z F I X, EVq (fun N => EXn kd N p) (some (p', gqs l)) → p < p' → GMt s n p' → RGs kd vl n S m lo d s → KEr σ s → MNq σ s → TFq τ vs t z → u ∈ z → u ∉ vs → MVq t u K T H Z F X I → VRq K T H Z F → (∀ y, y ∈ l → 1 ≤ y.1 ∧ y.1 ≤ 16) → EXq kd n S m lo 0 l σ s K T H Z F X → Q u s t z) (kn : EVq (fun N => EXn kd N p) none → F0) : ppE_expression (1 : Int32) σ τ vs Q (fun _ _ _ => F0) :=
  er_expr p σ τ vs Q F0 hG.1 hg (fun u s t z he => by
    obtain ⟨p', l, h1, h2, h3, h4, h5, h6, h7, h8, h9, K, T, H, Z, F', I, X, g1, g2, g3, g4⟩ := he
    have hv : PVq kd 0 1 0 p [] (some (p', l)) := h1 []
    exact kk u s t z p' l K T H Z F' I X (ex_ev hv) h2 h3 (rg_ke hG h4 h6) h4 h5 h7 h8 h9 g1 g2 (pv_act hv) (g4 0 (by
      unfold ROq rmq
      rw [if_pos rfl]
      omega))) (fun hn => kn (ex_ev0 (hn [])))
theorem es_plain {Q : St → St → List Nat → Prop} (hG : RGs kd vl n S m lo d σ) (hg : GMt σ n p) (kk : ∀ s t z p' l, EVq (fun N => EXn kd N p) (some (p', gqs l)) → p < p' → GMt s n p' → RGs kd vl n S m lo d s → MNq σ s → s 0 57 = σ 0 57 → TFq τ vs t z → (∀ O q b, WOq kd n S m lo d O O (gqs l ++ [gq (stp 22 q)]) σ s b) → Q s t z) (kn : EVq (fun N => EXn kd N p) none → F0) : pp_plain σ τ vs Q (fun _ _ _ => F0) := by
  unfold pp_plain
  refine es_expr hG hg (fun u s t z p' l K T H Z F' I X hev hp g1 hG1 hr hm htf hu hun hmv hvr hact hex => ?_) kn
  have fin : ∀ s' t', Kp [(0, 17)] [8] s s' → TFq τ vs t' z → Q s' t' z := fun s' t' ks tf => by
    have hd := ds_k ks rfl rfl
    have e12 : s' 0 12 = s 0 12 := ks 0 12 rfl rfl
    refine kk s' t' z p' l hev hp (gm_k g1 (ks 0 10 rfl rfl)) (rg_ds hG1 hd (by rw [e12]; exact rgq_0 hG1.1)) (fun hx => by rw [e12]; exact hm hx) ((ks 0 57 rfl rfl).trans (hr 0 57 rfl rfl)) tf (fun O q b => ?_)
    refine wo_ref (σ1 := s) (fun h0 w hR hO hf => ?_) hd e12
    refine wx_ex (rest := [gq (stp 22 q)]) hex hact hG.2.2.2.1 hr h0 hR hf id (fun r hr hb => ⟨fun _ => hb, fun hx => absurd hx hr⟩) (fun r i r0 s0 T2 H6 hR1 hste hA => ?_)
    refine gv_s (by simp [stp]) (fun c0 => st_mono (sa_22 (O := O) (bb := b) (by rw [ste_95 hste]; exact hO) hR1.2.1 hA hvr.1) (fun s2 hs2 => ?_)) (fun hx => absurd r0 hx)
    obtain ⟨o, e6, e7⟩ := hs2
    exact ⟨fun hx => absurd (by rw [e6]; exact r0) hx, fun _ => ⟨s0, ro_cs hR1 (cs_w o.1) ds_rf (by rw [e7]; rfl), o.2.1, fun i h1 h2 => by rw [o.2.2.1 i h1 h2, ste_49 hste], o.2.2.2⟩⟩
  unfold pp_read_2
  exact fun _ => ⟨fun c => mr_read hmv (fun _ s2 t2 kw hne _ => ⟨fun c0 => absurd rfl c0, fun _ => mr_put0 (fun s3 k3 => fin s3 t2 (kp_tr kw k3) (tf_read htf hun hne))⟩), fun c => fin s t kp_rf htf⟩
theorem cd_of (hex : EXq kd n S m lo 0 l σ s8 K T H Z F X) (hact : ∀ y, y ∈ l → 1 ≤ y.1 ∧ y.1 ≤ 16) (h15 : (σ 0 15).toInt = 0) (hr : KEr σ s8) (hvr : VRq K T H Z F) (kz : Kp [(0, 10), (0, 12), (0, 13), (0, 17)] [8] s8 s) (hB : MNq s8 s) (hT : (s8 0 12).toInt = 0 → T ≠ -2 → ((s 0 12).toInt ≠ 0 ↔ T = -1)) (k0 : DSw σ0 σ) (e12 : σ 0 12 = σ0 0 12) : CDo kd n S m lo d l σ0 s := fun h0 w hR hf rest Q B hb hq kk =>
  wx_ex (rest := rest) hex hact h15 hr (by rw [e12]; exact h0) (ro_cs hR cs_rf k0 hR.2.1) hf (fun hx => hb (hB hx)) hq (fun r i r0 s0 T2 H6 hR1 hste hA => kk r K T H Z F X i r0 (ro_cs hR1 cs_rf (ds_k kz rfl rfl) hR1.2.1) hste hA hvr.1 (hT s0 T2))
theorem ft_any {a : Int32} (f : FTq σ s (a.toInt = 0)) (h15 : (σ 0 15).toInt = 0) (hv : a.toInt ≠ 0 ↔ 0 ≤ T) (hT : -2 ≤ T) (h0 : (σ 0 12).toInt = 0) (h2 : T ≠ -2) : (s 0 12).toInt ≠ 0 ↔ T = -1 := by
  rw [f.2]
  constructor
  · rintro (h | ⟨h, _⟩)
    · exact absurd h0 h
    · have : ¬ (0 ≤ T) := fun hx => (hv.2 hx) h
      omega
  · intro h
    refine Or.inr ⟨Decidable.byContradiction (fun hx => ?_), by omega⟩
    have := hv.1 hx
    omega
theorem es_condition {Q : St → St → List Nat → Prop} {a1 : Int32} (hG : RGs kd vl n S m lo d σ) (hg : GMt σ n p) (kk : ∀ s t z p' l, (∀ act wd, EVq (fun N => CNn kd N act wd p) (some (p', gqs l ++ [gq (stp act wd)]))) → p < p' → GMt s n p' → RGs kd vl n S m lo d s → MNq σ s → s 0 57 = σ 0 57 → TFq τ vs t z → CDo kd n S m lo d l σ s → Q s t z) (kn : (∀ act wd, EVq (fun N => CNn kd N act wd p) none) → F0) : pp_condition a1 σ τ vs Q (fun _ _ _ => F0) := by
  unfold pp_condition
  refine mr_expect hG.1.1 hg (c := 20) (by decide) (by decide) (fun k20 s3 ks3 g3 => ?_) (fun k20 => kn (fun act wd => ev_f k20 ev_c))
  have d3 := ds_k ks3 rfl rfl
  have e3 : s3 0 12 = σ 0 12 := ks3 0 12 rfl rfl
  have hG3 := rg_ds hG d3 (by rw [e3]; exact rgq_0 hG.1)
  refine es_expr hG3 g3 (fun u s8 t8 z8 p' l K T H Z F' I X hev hp g8 hG8 hr hm htf hu hun hmv hvr hact hex => ?_) (fun hn => kn (fun act wd => ev_t k20 (ev_b0 hn)))
  refine mr_read hmv (fun _ s14 t14 kw hne hmv2 => ?_)
  have hG14 := rg_ds hG8 (ds_k kw rfl rfl) (by rw [kw 0 12 rfl rfl]; exact rgq_0 hG8.1)
  have g14 : GMt s14 n p' := gm_k g8 (kw 0 10 rfl rfl)
  refine mr_expect hG14.1.1 g14 (c := 21) (by decide) (by decide) (fun k21 s20 ks20 g20 => ?_) (fun k21 => kn (fun act wd => ev_t k20 (ev_b hev (ev_f k21 ev_c))))
  have k820 : Kp [(0, 10), (0, 17)] [8] s8 s20 := kp_tr (kp_sub kw rfl rfl) (kp_sub ks20 rfl rfl)
  have e20 : s20 0 12 = s8 0 12 := k820 0 12 rfl rfl
  have e15 : (s20 0 15).toInt = 0 := by rw [k820 0 15 rfl rfl]; exact hG8.2.2.2.1
  refine mr_isA hmv2 (fun v _ hv => mr_must (by rw [e20]; exact rgq_0 hG8.1) (fun s29 k29 f29 => ?_))
  have kz : Kp [(0, 10), (0, 12), (0, 13), (0, 17)] [8] s8 s29 := kp_tr (kp_sub k820 rfl rfl) (kp_sub k29 rfl rfl)
  have hB : MNq s8 s29 := fun hx => f29.2.2 (Or.inl (by rw [e20]; exact hx))
  refine kk s29 t14 z8 (p' + 1) l (fun act wd => ev_t k20 (ev_b hev (ev_t k21 ev_c))) (by omega) (gm_k g20 (k29 0 10 rfl rfl)) (rg_ds hG8 (ds_k kz rfl rfl) f29.1) (fun hx => hB (hm (by rw [e3]; exact hx))) ?_ (tf_read htf hun hne) ?_
  · rw [kz 0 57 rfl rfl, hr 0 57 rfl rfl, ks3 0 57 rfl rfl]
  · exact cd_of hex hact hG3.2.2.2.1 hr hvr kz hB (fun h0 h2 => ft_any f29 e15 hv hvr.2.1.1 (by rw [e20]; exact h0) h2) d3 e3
end SRF
