/-! both sides: what statements keep alike -/
def SCq (S d : Nat) (w σ : St) : Prop := (w 6 17).toInt = (d : Int) ∧ (σ 0 54).toInt = (d : Int) ∧ (∀ i, i < d → 0 ≤ (w 45 i).toInt ∧ (w 45 i).toInt ≤ (S : Int) ∧ ∀ j : Nat, j < S → ((w 45 i).toInt ≤ (j : Int) ↔ (i : Int) + 1 ≤ (σ 36 j).toInt)) ∧ ∀ j, j < S → (σ 36 j).toInt ≤ (d : Int)
def LCq (S : Nat) (w σ : St) : Prop := ∃ Lc : Nat, (w 6 10).toInt = (Lc : Int) ∧ (σ 0 49).toInt = (Lc : Int) ∧ S ≤ Lc ∧ Lc ≤ 100 ∧ ∀ j, j < S → (w 44 j).toInt < (Lc : Int)
def LPq (O : Nat) (w σ : St) : Prop := (w 9 5).toInt = (O : Int) ∧ ((∃ i, i < O ∧ (w 49 i).toInt ≠ 0) ↔ 0 < (σ 0 57).toInt)
def RTq (w σ : St) : Prop := 0 ≤ (w 6 6).toInt ∧ (atv 10100 (w 26) (w 6 6)).toInt = (σ 0 56).toInt ∧ ((σ 0 55).toInt ≠ 0 ↔ (σ 0 56).toInt = -1)
/-- within a function: S locals in sight, d deep, c operands; O open -/
def RSo (kd : Nat → Int) (n S m lo d c : Nat) (w σ : St) : Prop := REq kd n S m lo w σ ∧ (w 7 7).toInt = (c : Int) ∧ SCq S d w σ ∧ LCq S w σ ∧ RTq w σ ∧ (w 8 6).toInt = -1
def RSq (kd : Nat → Int) (n S m lo d O c : Nat) (w σ : St) : Prop := RSo kd n S m lo d c w σ ∧ LPq O w σ
/-- what the reference wants of its own state there -/
def RGs (kd vl : Nat → Int) (n S m lo d : Nat) (σ : St) : Prop := RGm kd n S m lo σ ∧ (σ 0 54).toInt = (d : Int) ∧ (∃ Lc : Nat, (σ 0 49).toInt = (Lc : Int) ∧ S ≤ Lc ∧ Lc ≤ 100) ∧ (σ 0 15).toInt = 0 ∧ ∀ p, p ≤ n → (σ 6 p).toInt = vl p
def CSw (w s : St) : Prop := CDq w s ∧ s 6 17 = w 6 17 ∧ s 6 10 = w 6 10 ∧ s 6 6 = w 6 6 ∧ s 45 = w 45 ∧ s 8 6 = w 8 6
def DSw (a b : St) : Prop := DDq a b ∧ b 0 54 = a 0 54 ∧ b 0 49 = a 0 49 ∧ b 0 55 = a 0 55 ∧ b 0 56 = a 0 56 ∧ b 36 = a 36 ∧ b 0 15 = a 0 15
/-- the class's walk over the steps of statements leaves the like -/
def WSq (kd : Nat → Int) (n m lo d O S S' : Nat) (g : List Gsq) (σ σ' : St) : Prop :=
  (σ 0 12).toInt = 0 → ∀ w, RSq kd n S m lo d O 0 w σ → (w 6 3).toInt = 0 → GWq g w (fun s => ((s 6 3).toInt ≠ 0 → (σ' 0 12).toInt ≠ 0) ∧ ((s 6 3).toInt = 0 → (σ' 0 12).toInt = 0 ∧ RSq kd n S' m lo d O 0 s σ' ∧ ∀ i, i < O → s 49 i = w 49 i)) ((σ' 0 12).toInt ≠ 0)
section SRL
variable {w s r σ σ' σ1 σ2 : St} {kd vl : Nat → Int} {n S m lo d O O2 c c2 p S1 S2 : Nat} {g g2 : List Gsq} {l : List Stq} {Q : St → Prop} {B : Prop} {K T H Z F : Int} {X : Int32}
theorem cs_rf : CSw w w := ⟨cd_rf, rfl, rfl, rfl, rfl, rfl⟩
theorem cs_tr (h : CSw w s) (g : CSw s r) : CSw w r := ⟨cd_tr h.1 g.1, g.2.1.trans h.2.1, g.2.2.1.trans h.2.2.1, g.2.2.2.1.trans h.2.2.2.1, g.2.2.2.2.1.trans h.2.2.2.2.1, g.2.2.2.2.2.trans h.2.2.2.2.2⟩
theorem ds_rf : DSw σ σ := ⟨dd_rf, rfl, rfl, rfl, rfl, rfl, rfl⟩
theorem ds_tr (h : DSw σ σ1) (g : DSw σ1 σ2) : DSw σ σ2 := ⟨dd_tr h.1 g.1, g.2.1.trans h.2.1, g.2.2.1.trans h.2.2.1, g.2.2.2.1.trans h.2.2.2.1, g.2.2.2.2.1.trans h.2.2.2.2.1, g.2.2.2.2.2.1.trans h.2.2.2.2.2.1, g.2.2.2.2.2.2.trans h.2.2.2.2.2.2⟩
theorem cs_w (h : STw w s) : CSw w s := ⟨cd_ko h rfl rfl, h 6 17 (op_lt (by omega)) rfl rfl, h 6 10 (op_lt (by omega)) rfl rfl, h 6 6 (op_lt (by omega)) rfl rfl, ko_rd h 45 (by omega) rfl (fun _ => rfl), h 8 6 (op_lt (by omega)) rfl rfl⟩
theorem sw_x {j : Nat} (h : STx j w s) : STw w s := ko_sub h.1 rfl rfl
/-- the reference: puts, faults, places -/
theorem ds_k {fs : List (Nat × Nat)} {cs : List Nat} (h : Kp fs cs σ σ') (s1 : fs.all (fun x => [(0, 10), (0, 12), (0, 13), (0, 17), (0, 39), (0, 57), (0, 58), (0, 59), (0, 60)].contains x || [8, 33, 25].contains x.1) = true) (s2 : cs.all (fun x => [8, 33, 25].contains x) = true) : DSw σ σ' := by
  have h' : Kp [(0, 10), (0, 12), (0, 13), (0, 17), (0, 39), (0, 57), (0, 58), (0, 59), (0, 60)] [8, 33, 25] σ σ' := kp_sub h s1 s2
  exact ⟨dd_k h' rfl rfl, h' 0 54 rfl rfl, h' 0 49 rfl rfl, h' 0 55 rfl rfl, h' 0 56 rfl rfl, funext (fun j => h' 36 j rfl rfl), h' 0 15 rfl rfl⟩
theorem sc_cs (h : SCq S d w σ) (k : CSw w s) (r : DSw σ σ') : SCq S d s σ' := by
  unfold SCq
  rw [k.2.1, k.2.2.2.2.1, r.2.1, r.2.2.2.2.2.1]
  exact h
theorem lc_cs (h : LCq S w σ) (k : CSw w s) (r : DSw σ σ') : LCq S s σ' := by
  unfold LCq
  rw [k.2.2.1, r.2.2.1, k.1.1 44 rfl]
  exact h
theorem rt_cs (h : RTq w σ) (k : CSw w s) (r : DSw σ σ') : RTq s σ' := by
  unfold RTq
  rw [k.2.2.2.1, k.1.1 26 rfl, r.2.2.2.1, r.2.2.2.2.1]
  exact h
theorem lp_cs (h : LPq O w σ) (e95 : s 9 5 = w 9 5) (e49 : ∀ i, i < O → s 49 i = w 49 i) (e57 : σ' 0 57 = σ 0 57) : LPq O s σ' := by
  refine ⟨by rw [e95]; exact h.1, ?_⟩
  rw [e57, ← h.2]
  exact ⟨fun ⟨i, h1, h2⟩ => ⟨i, h1, by rw [← e49 i h1]; exact h2⟩, fun ⟨i, h1, h2⟩ => ⟨i, h1, by rw [e49 i h1]; exact h2⟩⟩
theorem ro_cs (h : RSo kd n S m lo d c w σ) (k : CSw w s) (r : DSw σ σ') (e7 : (s 7 7).toInt = (c2 : Int)) : RSo kd n S m lo d c2 s σ' :=
  ⟨re_cd h.1 k.1 r.1, e7, sc_cs h.2.2.1 k r, lc_cs h.2.2.2.1 k r, rt_cs h.2.2.2.2.1 k r, by rw [k.2.2.2.2.2]; exact h.2.2.2.2.2⟩
theorem rg_ds (h : RGs kd vl n S m lo d σ) (r : DSw σ σ') (f : 0 ≤ (σ' 0 12).toInt) : RGs kd vl n S m lo d σ' := by
  obtain ⟨h1, h2, h3, h4, h5⟩ := h
  refine ⟨rgm_dd h1 r.1 f, by rw [r.2.1]; exact h2, ?_, by rw [r.2.2.2.2.2.2]; exact h4, by rw [r.1.1 6 rfl]; exact h5⟩
  rw [r.2.2.1]
  exact h3
theorem rg_ke (h : RGs kd vl n S m lo d σ) (hr : KEr σ σ') (hG : RGm kd n S m lo σ') : RGs kd vl n S m lo d σ' := by
  obtain ⟨h1, h2, h3, h4, h5⟩ := h
  refine ⟨hG, by rw [hr 0 54 rfl rfl]; exact h2, ?_, by rw [hr 0 15 rfl rfl]; exact h4, ?_⟩
  · rw [hr 0 49 rfl rfl]
    exact h3
  · rw [show σ' 6 = σ 6 from funext (fun j => hr 6 j rfl rfl)]
    exact h5
/-- behind an expression -/
theorem ro_ste (h : RSo kd n S m lo d c w σ) (hR : REq kd n S m lo s σ') (k : STe 0 w s) (hr : KEr σ σ') (e7 : (s 7 7).toInt = (c2 : Int)) : RSo kd n S m lo d c2 s σ' := by
  obtain ⟨_, _, h3, h4, h6, h7⟩ := h
  have e617 : s 6 17 = w 6 17 := k.1 6 17 (op_lt (by omega)) rfl rfl
  have e610 : s 6 10 = w 6 10 := k.1 6 10 (op_lt (by omega)) rfl rfl
  have e66 : s 6 6 = w 6 6 := k.1 6 6 (op_lt (by omega)) rfl rfl
  have e86 : s 8 6 = w 8 6 := k.1 8 6 (op_lt (by omega)) rfl rfl
  have e45 : s 45 = w 45 := ko_rd k.1 45 (by omega) rfl (fun _ => rfl)
  have e44 : s 44 = w 44 := ko_rd k.1 44 (by omega) rfl (fun _ => rfl)
  have e26 : s 26 = w 26 := ko_rd k.1 26 (by omega) rfl (fun _ => rfl)
  have e36 : σ' 36 = σ 36 := funext (fun j => hr 36 j rfl rfl)
  refine ⟨hR, e7, ?_, ?_, ?_, ?_⟩
  · unfold SCq
    rw [e617, e45, e36, hr 0 54 rfl rfl]
    exact h3
  · unfold LCq
    rw [e610, hr 0 49 rfl rfl, e44]
    exact h4
  · unfold RTq
    rw [e66, e26, hr 0 55 rfl rfl, hr 0 56 rfl rfl]
    exact h6
  · rw [e86]
    exact h7
theorem ste_49 (k : STe 0 w s) : s 49 = w 49 := ko_rd k.1 49 (by omega) rfl (fun _ => rfl)
theorem ste_95 (k : STe 0 w s) : s 9 5 = w 9 5 := k.1 9 5 (op_lt (by omega)) rfl rfl
theorem bd_0 (h15 : (σ 0 15).toInt = 0) (h : BDr σ σ' F) : (σ' 0 12).toInt ≠ 0 := by
  rcases h with h | h
  · exact h.2
  · omega
/-- an expression, then what comes behind it -/
theorem wx_ex {rest : List Gsq} (hE : EXq kd n S m lo 0 l σ σ1 K T H Z F X) (hact : ∀ y, y ∈ l → 1 ≤ y.1 ∧ y.1 ≤ 16) (h15 : (σ 0 15).toInt = 0) (hr : KEr σ σ1) (h0 : (σ 0 12).toInt = 0) (hR : RSo kd n S m lo d 0 w σ) (hf : (w 6 3).toInt = 0) (hb : (σ1 0 12).toInt ≠ 0 → B) (hq : ∀ s, (s 6 3).toInt ≠ 0 → B → Q s)
    (kk : ∀ s i, (s 6 3).toInt = 0 → (σ1 0 12).toInt = 0 → T ≠ -2 → H ≤ 60 → RSo kd n S m lo d 1 s σ1 → STe 0 w s → AVq s 65 K T H Z F X i → GWq rest s Q B) : GWq (gqs l ++ rest) w Q B := by
  refine gv_app (gv_x hact (xw_mono (hE h0 w hR.1 hf hR.2.1) (fun s hs => ?_) (fun hx => hb (bd_0 h15 hx))))
  by_cases c0 : (s 6 3).toInt = 0
  · obtain ⟨g1, g2, g3, g4, g5, g6, i, g7⟩ := hs.2 c0
    exact kk s i c0 g1 g2 g3 (ro_ste hR g4 g5 hr (by rw [g6]; rfl)) g5 g7
  · have := hb (bd_0 h15 (hs.1 c0))
    exact gv_bad c0 this (fun s' h => hq s' h this)
theorem ws_app (h1 : WSq kd n m lo d O S S1 g σ σ1) (h2 : WSq kd n m lo d O S1 S2 g2 σ1 σ2) (hm : MNq σ1 σ2) : WSq kd n m lo d O S S2 (g ++ g2) σ σ2 := by
  intro h0 w hR hf
  refine gv_app (gv_mono (h1 h0 w hR hf) (fun s hs => ?_) hm)
  by_cases c0 : (s 6 3).toInt = 0
  · obtain ⟨g1, g2', g3⟩ := hs.2 c0
    refine gv_mono (h2 g1 s g2' c0) (fun r hr => ⟨hr.1, fun c => ?_⟩) id
    obtain ⟨k1, k2, k3⟩ := hr.2 c
    exact ⟨k1, k2, fun i hi => (k3 i hi).trans (g3 i hi)⟩
  · have := hm (hs.1 c0)
    exact gv_bad c0 this (fun s' h => ⟨fun _ => this, fun hx => absurd hx h⟩)
theorem ws_nil (h : DSw σ σ') (e12 : σ' 0 12 = σ 0 12) (e57 : σ' 0 57 = σ 0 57) : WSq kd n m lo d O S S [] σ σ' := fun h0 w hR hf =>
  ⟨fun hx => absurd hf hx, fun _ => ⟨by rw [e12]; exact h0, ⟨ro_cs hR.1 cs_rf h hR.1.2.1, lp_cs hR.2 rfl (fun _ _ => rfl) e57⟩, fun _ _ => rfl⟩⟩
/-- the reference goes on without a fault -/
theorem ws_src (h : DSw σ σ1) (e12 : σ1 0 12 = σ 0 12) (e57 : σ1 0 57 = σ 0 57) (hw : WSq kd n m lo d O S S1 g σ1 σ2) : WSq kd n m lo d O S S1 g σ σ2 := fun h0 w hR hf =>
  hw (by rw [e12]; exact h0) w (⟨ro_cs hR.1 cs_rf h hR.1.2.1, lp_cs hR.2 rfl (fun _ _ => rfl) e57⟩) hf
theorem ws_ref (hw : WSq kd n m lo d O S S1 g σ σ1) (h : DSw σ1 σ2) (e12 : σ2 0 12 = σ1 0 12) (e57 : σ2 0 57 = σ1 0 57) : WSq kd n m lo d O S S1 g σ σ2 := fun h0 w hR hf => by
  rw [e12]
  refine gv_mono (hw h0 w hR hf) (fun s hs => ⟨hs.1, fun c => ?_⟩) id
  obtain ⟨k1, k2, k3⟩ := hs.2 c
  exact ⟨k1, ⟨ro_cs k2.1 cs_rf h k2.1.2.1, lp_cs k2.2 rfl (fun _ _ => rfl) e57⟩, k3⟩
end SRL
