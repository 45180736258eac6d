/-! all calls: the rows that the laws of p7 and p10 take -/
section RWA
variable {w σ s t τ : St} {vs z : List Nat} {a b v v2 : Int32} {o o' : Nat}
theorem rla_pick (hG : GLI σ τ vs) (h : RLa w σ) (ht : ∃ o, IVx t o) (c : FQs w t) (p : PCw w a v t) (m : FMs σ s) (g : FGs σ s) (q : PCm σ a v2 s) : v2 = v ∧ RLa t s := by
  obtain ⟨o', ht⟩ := ht
  obtain ⟨e, k⟩ := pc_eq hG.2.2.2.2.1.1.1 h.1 h.2.2 ht p q
  exact ⟨e.symm, rl_frame h.1 c m, rle_frame h.2.1 c m g, k⟩
theorem ca_pick (h : IVx w o) : wk_X12_pick a w (fun v t => (∃ o, IVx t o) ∧ FQs w t ∧ PCw w a v t) := mg_wk_X12_pick (fun _ _ p q => ⟨p.1, p.2, q⟩) (cq_pick h) (px_pick (Q := fun v t => PCw w a v t) h (fun _ _ q => q))
theorem ca_link (h : IVx w o) : wk_X12_link w (fun _ t => (∃ o, IVx t o) ∧ FQs w t ∧ (t 10 5).toInt = 1) := mg_wk_X12_link (fun _ _ p q => ⟨p.1, p.2, q⟩) (cq_link h) (px_link (Q := fun _ t => (t 10 5).toInt = 1) (fun _ _ q => q))
theorem ca_run (h : IVx w o) : wk_X12_run a w (fun _ t => (∃ o, IVx t o) ∧ FQs w t ∧ FWs w t) := mg_wk_X12_run (fun _ _ p q => ⟨p.1, p.2, q⟩) (cq_run h) (fw_pk_X12_run (Q := fun _ t => FWs w t) fw_rf (fun _ _ q => q))
theorem ca_input (h : IVx w o) : wk_X12_input a w (fun _ t => (∃ o, IVx t o) ∧ FQs w t ∧ FWs w t) := mg_wk_X12_input (fun _ _ p q => ⟨p.1, p.2, q⟩) (cq_input h) (fw_pk_X12_input (Q := fun _ t => FWs w t) fw_rf (fun _ _ q => q))
theorem ca_compile (h : IVx w o) (hG : GLI σ τ vs) (r : RLa w σ) : wk_X12_compile a w (fun _ t => (∃ o, IVx t o) ∧ ∀ s : St, CMPx a σ s → (s 0 1).toInt = 0 → s 0 2 = σ 0 2 → RLa t s) := mg_wk_X12_compile (fun _ t p q => ⟨p.1, fun s c h1 h2 => ⟨(p.2 s c h1 h2).1, (p.2 s c h1 h2).2, pk_kept r.2.2 (by rw [q.1]) q.2 (cmp_pk c).1 (cmp_pk c).2⟩⟩) (cy_compile h hG r.1 r.2.1) (pl_c10 (Q := fun _ t => t 10 = w 10 ∧ t 56 = w 56) h (fun _ _ a b => ⟨a, b⟩))
theorem ra_pick {Q : Int32 → St → St → List Nat → Prop} (h : GLI σ τ vs) (k : ∀ r s, GLI s τ vs → s 0 2 = σ 0 2 → FMs σ s → FGs σ s → PCm σ a r s → Q r s τ vs) : wp_pick a σ τ vs Q := mg_wp_pick (fun r s t z p q => by
  obtain ⟨et, ez, g, f, f2, f3⟩ := p
  rw [et, ez]
  exact k r s g f f2 f3 q) (wy_pick (Q := fun _ s t z => t = τ ∧ z = vs ∧ GLI s τ vs ∧ s 0 2 = σ 0 2 ∧ FMs σ s ∧ FGs σ s) h (fun _ s g h2 h3 h4 => ⟨rfl, rfl, g, h2, h3, h4⟩)) (rx_pick (Q := fun v s _ _ => PCm σ a v s) h.2.2.2.2.1.1.1 (fun _ _ _ _ q => q))
theorem ra_link {Q : Int32 → St → St → List Nat → Prop} (h : GLI σ τ vs) (hF : (σ 0 2).toInt ≤ 10240) (k : ∀ r s, GLI s τ vs → s 0 2 = σ 0 2 → FMs σ s → FGs σ s → (s 0 67).toInt = 0 → Q r s τ vs) : wp_link σ τ vs Q := mg_wp_link (fun r s t z p q => by
  obtain ⟨et, ez, g, f, f2, f3⟩ := p
  rw [et, ez]
  exact k r s g f f2 f3 q) (wy_link (Q := fun _ s t z => t = τ ∧ z = vs ∧ GLI s τ vs ∧ s 0 2 = σ 0 2 ∧ FMs σ s ∧ FGs σ s) h hF (fun _ s g h2 h3 h4 => ⟨rfl, rfl, g, h2, h3, h4⟩)) (rx_link (Q := fun _ s _ _ => (s 0 67).toInt = 0) (fun _ _ _ _ q => q))
theorem ra_run {Q : Int32 → St → St → List Nat → Prop} (h : GLI σ τ vs) (hF : (σ 0 2).toInt ≤ 10240) (k : ∀ r s, GLI s τ vs → s 0 2 = σ 0 2 → FMs σ s → FGs σ s → FHs σ s → Q r s τ vs) : wp_run a σ τ vs Q := mg_wp_run (fun r s t z p q => by
  obtain ⟨et, ez, g, f, f2, f3⟩ := p
  rw [et, ez]
  exact k r s g f f2 f3 q) (wy_run (Q := fun _ s t z => t = τ ∧ z = vs ∧ GLI s τ vs ∧ s 0 2 = σ 0 2 ∧ FMs σ s ∧ FGs σ s) h hF (fun _ s g h2 h3 h4 => ⟨rfl, rfl, g, h2, h3, h4⟩)) (fh_pp_run (Q := fun _ s _ _ => FHs σ s) fh_rf (fun _ _ _ _ q => q))
theorem ra_input {Q : Int32 → St → St → List Nat → Prop} (h : GLI σ τ vs) (k : ∀ r s, GLI s τ vs → s 0 2 = σ 0 2 → FMs σ s → FGs σ s → FHs σ s → Q r s τ vs) : wp_input a σ τ vs Q := mg_wp_input (fun r s t z p q => by
  obtain ⟨et, ez, g, f, f2, f3⟩ := p
  rw [et, ez]
  exact k r s g f f2 f3 q) (wy_input (Q := fun _ s t z => t = τ ∧ z = vs ∧ GLI s τ vs ∧ s 0 2 = σ 0 2 ∧ FMs σ s ∧ FGs σ s) h (fun _ s g h2 h3 h4 => ⟨rfl, rfl, g, h2, h3, h4⟩)) (fh_pp_input (Q := fun _ s _ _ => FHs σ s) fh_rf (fun _ _ _ _ q => q))
theorem ra_cell {Q : Int32 → St → St → List Nat → Prop} (h : GLI σ τ vs) (k : ∀ r s, GLI s τ vs → (s 0 1).toInt = 0 → s 0 2 = σ 0 2 → FCs σ s → FGs σ s → FHs σ s → Q r s τ vs) : wp_cell σ τ vs Q := mg_wp_cell (fun r s t z p q => by
  obtain ⟨et, ez, g, f, f2, f3, f4⟩ := p
  rw [et, ez]
  exact k r s g f f2 f3 f4 q) (wy_cell (Q := fun _ s t z => t = τ ∧ z = vs ∧ GLI s τ vs ∧ (s 0 1).toInt = 0 ∧ s 0 2 = σ 0 2 ∧ FCs σ s ∧ FGs σ s) h (fun _ s g h1 h2 h3 h4 => ⟨rfl, rfl, g, h1, h2, h3, h4⟩)) (fh_pp_cell (Q := fun _ s _ _ => FHs σ s) fh_rf (fun _ _ _ _ q => q))
end RWA
