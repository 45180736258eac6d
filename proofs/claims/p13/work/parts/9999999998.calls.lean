/-! the calls, both sides -/
section CLX
variable {w σ s t τ : St} {vs z : List Nat} {a a1 a2 a3 a4 a5 : Int32} {o : Nat}
theorem by_rng {f : Nat → Int32} (h : ByteOK f) (j : Nat) : -128 ≤ (f j).toInt ∧ (f j).toInt ≤ 127 := by
  have h1 : (decide (-128 ≤ f j) && decide (f j ≤ 127)) = true := h j
  have e1 : (-128 : Int32).toInt = -128 := by decide
  have e2 : (127 : Int32).toInt = 127 := by decide
  rw [Bool.and_eq_true, decide_eq_true_eq, decide_eq_true_eq, i_le, i_le, e1, e2] at h1
  exact h1
theorem rl_by (h : IVx w o) (r : RLp w σ) (j : Nat) : -128 ≤ (σ 1 j).toInt ∧ (σ 1 j).toInt ≤ 127 := by
  rw [← r.2.2.2.2.2 j]
  exact by_rng h.2.2.2.2.2.2.1.2.2.1 j
theorem rl_0 : RLp sc0 sm0 := ⟨by decide, by decide, by decide, by decide, by decide, fun j => rfl⟩
theorem rl_feed (r : RLp w σ) (c : FDt a1 a2 a3 a4 a5 w t) (m : FDt a1 a2 a3 a4 a5 σ s) : RLp t s := by
  obtain ⟨r1, r2, r3, r4, r5, r6⟩ := r
  by_cases b : 16000 < (w 0 1).toInt + 20
  · rw [c.1 b, m.1 (by omega)]
    exact ⟨r1, r2, r3, r4, r5, r6⟩
  · obtain ⟨c1, c2, c3, c4⟩ := c.2 (by omega)
    obtain ⟨m1, m2, m3, m4⟩ := m.2 (by omega)
    refine ⟨by rw [c3 5 13 (by decide) (by decide) (by decide), m3 0 35 (by decide) (by decide) (by decide)]; exact r1, by rw [c3 5 1 (by decide) (by decide) (by decide), m3 0 36 (by decide) (by decide) (by decide)]; exact r2, by rw [c3 5 7 (by decide) (by decide) (by decide), m3 0 31 (by decide) (by decide) (by decide)]; exact r3, by omega, by omega, fun j => ?_⟩
    rw [c4, m4, r4]
    by_cases hc : (σ 0 1).toInt ≤ j ∧ (j : Int) < (σ 0 1).toInt + 20
    · rw [if_pos hc, if_pos hc]
    · rw [if_neg hc, if_neg hc]
      exact r6 j
theorem rl_end (r : RLp w σ) (c : ENt a w t) (m : ENt a σ s) : RLp t s := by
  obtain ⟨r1, r2, r3, r4, r5, r6⟩ := r
  unfold ENt at c m
  rw [r4] at c
  by_cases hc : 0 ≤ a.toInt ∧ a.toInt ≤ (σ 0 1).toInt
  · rw [if_pos hc] at c m
    rw [c, m]
    exact ⟨by rw [rdC_ne (by decide), rdA_ne (by decide)]; exact r1, by rw [rdC_ne (by decide), rdA_ne (by decide)]; exact r2, by rw [rdC_ne (by decide), rdA_ne (by decide)]; exact r3, by rw [rdA_eq rfl, rdA_eq rfl], by rw [rdA_ne (by decide), rdA_ne (by decide)]; exact r5, fun j => by rw [rdC_ne (by decide), rdC_ne (by decide)]; exact r6 j⟩
  · rw [if_neg hc] at c m
    rw [c, m]
    exact ⟨r1, r2, r3, r4, r5, r6⟩
theorem rl_frame (r : RLp w σ) (c : FQs w t) (m : FMs σ s) : RLp t s := by
  obtain ⟨r1, r2, r3, r4, r5, r6⟩ := r
  obtain ⟨⟨m1, _⟩, m2, m3, m4, m5, m6⟩ := m
  have c5 : t 5 = w 5 := c 5 (by unfold FQw; decide)
  have c0 : t 0 = w 0 := c 0 (by unfold FQw; decide)
  have c1 : t 1 = w 1 := c 1 (by unfold FQw; decide)
  exact ⟨by rw [c5, m5]; exact r1, by rw [c5, m6]; exact r2, by rw [c5, m4]; exact r3, by rw [c0, m2]; exact r4, by rw [c0, m3]; exact r5, fun j => by rw [c1, m1]; exact r6 j⟩
theorem rl_cell (r : RLp w σ) (c : t = upC w 0 1 (0 : Int32)) (h1 : (s 0 1).toInt = 0) (h2 : s 0 2 = σ 0 2) (m : FCs σ s) : RLp t s := by
  obtain ⟨r1, r2, r3, r4, r5, r6⟩ := r
  obtain ⟨m1, m2, m3, m4⟩ := m
  rw [c]
  exact ⟨by rw [rdC_ne (by decide), m3]; exact r1, by rw [rdC_ne (by decide), m4]; exact r2, by rw [rdC_ne (by decide), m2]; exact r3, by rw [rdA_eq rfl, h1]; rfl, by rw [rdA_ne (by decide), h2]; exact r5, fun j => by rw [rdC_ne (by decide), m1]; exact r6 j⟩
-- the class
theorem cq_feed (h : IVx w o) (hF : (w 0 2).toInt ≤ 60000) : wk_X12_feed a1 a2 a3 a4 a5 w (fun _ t => (∃ o, IVx t o) ∧ FDt a1 a2 a3 a4 a5 w t) := mg_wk_X12_feed (fun _ _ p q => ⟨⟨_, p⟩, q⟩) (sk_feed (Q := fun _ t => IVx t o) h (fun _ _ it => it)) (px_feed (Q := fun _ t => FDt a1 a2 a3 a4 a5 w t) h hF (fun _ _ q => q))
theorem cq_end (h : IVx w o) : wk_X12_end a w (fun _ t => (∃ o, IVx t o) ∧ ENt a w t) := mg_wk_X12_end (fun _ _ p q => ⟨⟨_, p⟩, q⟩) (sk_end (Q := fun _ t => IVx t o) h (fun _ _ it => it)) (px_end (Q := fun _ t => ENt a w t) (fun _ _ q => q))
theorem cq_pick (h : IVx w o) : wk_X12_pick a w (fun _ t => (∃ o, IVx t o) ∧ FQs w t) := mg_wk_X12_pick (fun _ _ p q => ⟨⟨_, p⟩, q⟩) (sk_pick (Q := fun _ t => IVx t o) h (fun _ _ it => it)) (fq_pk_X12_pick (Q := fun _ t => FQs w t) fq_rf (fun _ _ q => q))
theorem cq_link (h : IVx w o) : wk_X12_link w (fun _ t => (∃ o, IVx t o) ∧ FQs w t) := mg_wk_X12_link (fun _ _ p q => ⟨⟨_, p⟩, q⟩) (sk_link (Q := fun _ t => IVx t o) h (fun _ _ it => it)) (fq_pk_X12_link (Q := fun _ t => FQs w t) fq_rf (fun _ _ q => q))
theorem cq_run (h : IVx w o) : wk_X12_run a w (fun _ t => (∃ o, IVx t o) ∧ FQs w t) := mg_wk_X12_run (fun _ _ p q => ⟨⟨_, p⟩, q⟩) (sk_run (Q := fun _ t => IVx t o) h (fun _ _ it => it)) (fq_pk_X12_run (Q := fun _ t => FQs w t) fq_rf (fun _ _ q => q))
theorem cq_input (h : IVx w o) : wk_X12_input a w (fun _ t => (∃ o, IVx t o) ∧ FQs w t) := mg_wk_X12_input (fun _ _ p q => ⟨⟨_, p⟩, q⟩) (sk_input (Q := fun _ t => IVx t o) h (fun _ _ it => it)) (fq_pk_X12_input (Q := fun _ t => FQs w t) fq_rf (fun _ _ q => q))
theorem px_cell : pk_X12_cell w (fun _ t => t = upC w 0 1 (0 : Int32)) := by
  unfold pk_X12_cell
  exact fq_pk_X4_cellOf_r1 (fun _ => rfl)
theorem cq_cell (h : IVx w o) : wk_X12_cell w (fun _ t => (∃ o, IVx t o) ∧ t = upC w 0 1 (0 : Int32)) := mg_wk_X12_cell (fun _ _ p q => ⟨⟨_, p⟩, q⟩) (sk_cell (Q := fun _ t => IVx t o) h (fun _ _ it => it)) px_cell
theorem cq_compile (h : IVx w o) (r : RLp w σ) : wk_X12_compile a w (fun _ t => (∃ o, IVx t o) ∧ ∀ s : St, CMPq a σ s → (s 0 1).toInt = 0 → s 0 2 = σ 0 2 → RLp t s) := mf_wk_X12_compile (Q1 := fun _ t => ∃ o, IVx t o) (Q2 := fun s _ t => CMPq a σ s → (s 0 1).toInt = 0 → s 0 2 = σ 0 2 → RLp t s) (fun v t p q => ⟨p, q⟩) (sk_compile (Q := fun _ t => ∃ o, IVx t o) h (fun v t o' it => ⟨o', it⟩)) (fun s => by
  by_cases c : CMPq a σ s
  · exact pl_compile h r c (fun v t e1 e2 e3 e4 e5 e6 _ h1 h2 => ⟨e1, e2, e3, by rw [e4, h1], by rw [e5, h2]; exact r.2.2.2.2.1, fun j => by rw [e6, c.1]; exact r.2.2.2.2.2 j⟩)
  · exact wl_wk_X12_compile (fun v t _ hc => absurd hc c) (sk_compile (Q := fun _ _ => True) h (fun _ _ _ _ => trivial)))
-- the reference
theorem wx_feed {Q : Int32 → St → St → List Nat → Prop} (h : GLI σ τ vs) (hF : (σ 0 2).toInt ≤ 10220) (h0 : 0 ≤ (σ 0 2).toInt) (k : ∀ r s, GLI s τ vs → (s 0 2).toInt ≤ (σ 0 2).toInt + 20 → FDt a1 a2 a3 a4 a5 σ s → Q r s τ vs) : wp_feed a1 a2 a3 a4 a5 σ τ vs Q := mg_wp_feed (fun r s t z p q => by
  obtain ⟨et, ez, g, f⟩ := p
  rw [et, ez]
  exact k r s g f q) (sp_feed (Q := fun _ s t z => t = τ ∧ z = vs ∧ GLI s τ vs ∧ (s 0 2).toInt ≤ (σ 0 2).toInt + 20) h hF h0 (fun _ => ⟨rfl, rfl, h, by omega⟩) (fun _ r s _ _ f g => ⟨rfl, rfl, g, by omega⟩)) (rx_feed (Q := fun _ s _ _ => FDt a1 a2 a3 a4 a5 σ s) h hF (fun _ _ _ _ q => q))
theorem wx_end {Q : Int32 → St → St → List Nat → Prop} (h : GLI σ τ vs) (k : ∀ r s, GLI s τ vs → s 0 2 = σ 0 2 → ENt a σ s → Q r s τ vs) : wp_end a σ τ vs Q := mg_wp_end (fun r s t z p q => by
  obtain ⟨et, ez, g, f⟩ := p
  rw [et, ez]
  exact k r s g f q) (sp_end (Q := fun _ s t z => t = τ ∧ z = vs ∧ GLI s τ vs ∧ s 0 2 = σ 0 2) h (fun _ => ⟨rfl, rfl, h, rfl⟩) (fun _ _ s _ f g => ⟨rfl, rfl, g, f⟩)) (rx_end (Q := fun _ s _ _ => ENt a σ s) (fun _ _ _ _ q => q))
theorem wx_compile {Q : Int32 → St → St → List Nat → Prop} (h : GLI σ τ vs) (hF : (σ 0 2).toInt ≤ 10240) (hB : ∀ j, -128 ≤ (σ 1 j).toInt ∧ (σ 1 j).toInt ≤ 127) (k : ∀ r s t z, GLI s t z → (s 0 1).toInt = 0 → s 0 2 = σ 0 2 → CMPq a σ s → Q r s t z) : wp_compile a σ τ vs Q := mg_wp_compile (fun r s t z p q => k r s t z p.1 p.2.1 p.2.2 q) (sp_compile (Q := fun _ s t z => GLI s t z ∧ (s 0 1).toInt = 0 ∧ s 0 2 = σ 0 2) h hF (fun _ s t z g h1 h2 => ⟨g, h1, h2⟩)) (es_compile (Q := fun _ s _ _ => CMPq a σ s) h hF hB (fun _ _ _ _ q => q))
theorem wx_cell {Q : Int32 → St → St → List Nat → Prop} (h : GLI σ τ vs) (k : ∀ r s, GLI s τ vs → (s 0 1).toInt = 0 → s 0 2 = σ 0 2 → FCs σ s → Q r s τ vs) : wp_cell σ τ vs Q := mg_wp_cell (fun r s t z p q => by
  obtain ⟨et, ez, g, f, f2⟩ := p
  rw [et, ez]
  exact k r s g f f2 q) (sp_cell (Q := fun _ s t z => t = τ ∧ z = vs ∧ GLI s τ vs ∧ (s 0 1).toInt = 0 ∧ s 0 2 = σ 0 2) h (fun _ s g h1 h2 => ⟨rfl, rfl, g, h1, h2⟩)) (fc_pp_cell (Q := fun _ s _ _ => FCs σ s) fc_rf (fun _ _ _ _ q => q))
theorem wx_pick {Q : Int32 → St → St → List Nat → Prop} (h : GLI σ τ vs) (k : ∀ r s, GLI s τ vs → s 0 2 = σ 0 2 → FMs σ s → Q r s τ vs) : wp_pick a σ τ vs Q := mg_wp_pick (fun r s t z p q => by
  obtain ⟨et, ez, g, f⟩ := p
  rw [et, ez]
  exact k r s g f q) (sp_pick (Q := fun _ s t z => t = τ ∧ z = vs ∧ GLI s τ vs ∧ s 0 2 = σ 0 2) h (fun _ s g _ h2 => ⟨rfl, rfl, g, h2⟩)) (fm_pp_pick (Q := fun _ s _ _ => FMs σ s) fm_rf (fun _ _ _ _ q => q))
theorem wx_link {Q : Int32 → St → St → List Nat → Prop} (h : GLI σ τ vs) (hF : (σ 0 2).toInt ≤ 10240) (k : ∀ r s, GLI s τ vs → s 0 2 = σ 0 2 → FMs σ s → Q r s τ vs) : wp_link σ τ vs Q := mg_wp_link (fun r s t z p q => by
  obtain ⟨et, ez, g, f⟩ := p
  rw [et, ez]
  exact k r s g f q) (sp_link (Q := fun _ s t z => t = τ ∧ z = vs ∧ GLI s τ vs ∧ s 0 2 = σ 0 2) h hF (fun _ s g _ h2 => ⟨rfl, rfl, g, h2⟩)) (fm_pp_link (Q := fun _ s _ _ => FMs σ s) fm_rf (fun _ _ _ _ q => q))
theorem wx_run {Q : Int32 → St → St → List Nat → Prop} (h : GLI σ τ vs) (hF : (σ 0 2).toInt ≤ 10240) (k : ∀ r s, GLI s τ vs → s 0 2 = σ 0 2 → FMs σ s → Q r s τ vs) : wp_run a σ τ vs Q := mg_wp_run (fun r s t z p q => by
  obtain ⟨et, ez, g, f⟩ := p
  rw [et, ez]
  exact k r s g f q) (sp_run (Q := fun _ s t z => t = τ ∧ z = vs ∧ GLI s τ vs ∧ s 0 2 = σ 0 2) h hF (fun _ s g _ h2 => ⟨rfl, rfl, g, h2⟩)) (fm_pp_run (Q := fun _ s _ _ => FMs σ s) fm_rf (fun _ _ _ _ q => q))
theorem wx_input {Q : Int32 → St → St → List Nat → Prop} (h : GLI σ τ vs) (k : ∀ r s, GLI s τ vs → s 0 2 = σ 0 2 → FMs σ s → Q r s τ vs) : wp_input a σ τ vs Q := mg_wp_input (fun r s t z p q => by
  obtain ⟨et, ez, g, f⟩ := p
  rw [et, ez]
  exact k r s g f q) (sp_input (Q := fun _ s t z => t = τ ∧ z = vs ∧ GLI s τ vs ∧ s 0 2 = σ 0 2) h (fun _ s g _ h2 => ⟨rfl, rfl, g, h2⟩)) (fm_pp_input (Q := fun _ s _ _ => FMs σ s) fm_rf (fun _ _ _ _ q => q))
end CLX
