/-! the calls, both sides: what is declared stays alike -/
section CLY
variable {w σ s s1 t τ : St} {vs z : List Nat} {a a1 a2 a3 a4 a5 : Int32} {o : Nat}
theorem cmp_of (hE : σ 0 36 = σ 22 (σ 0 35).toNatClampNeg) (h : CMPx a σ s) (ho : 0 ≤ (σ 0 35).toInt ∧ (σ 0 35).toInt ≤ 100) : CMPq a σ s := by
  rcases h with ⟨hx, es⟩ | ⟨hx, lo, σ0, s1, v1, hS, eL, e31, e1, hR, kx, ol, hfin⟩
  · refine ⟨?_, Or.inl ⟨hx, ?_, ?_, ?_⟩⟩
    · rw [es, rdC_ne (by decide), rdC_ne (by decide), rdC_ne (by decide)]
    · rw [es]; rfl
    · rw [es]; rfl
    · rw [es]; rfl
  · have c1 : s1 1 = σ 1 := funext (fun j => kx 1 j rfl rfl)
    have f35 : s1 0 35 = σ 0 35 := kx 0 35 rfl rfl
    have f22 : s1 22 = σ 22 := funext (fun j => kx 22 j rfl rfl)
    rcases hfin with ⟨hv, es⟩ | ⟨hv, es⟩
    · refine ⟨?_, Or.inr ⟨hx, lo, σ0, s1, v1, hS, eL, e31, e1, hR, Or.inl ⟨hv, ?_, ?_, ?_⟩⟩⟩
      · rw [es, rdC_ne (by decide), rdC_ne (by decide), rdC_ne (by decide), rdC_ne (by decide)]; exact c1
      · rw [es, rdC_ne (by decide), rdC_ne (by decide), rdA_eq rfl, ad1 (by rw [f35]; omega), f35]
      · rw [es, rdC_ne (by decide), rdC_ne (by decide), rdA_ne (by decide), rdC_ne (by decide)]
      · rw [es, rdC_ne (by decide), rdC_ne (by decide), rdA_ne (by decide), rdC_ne (by decide)]
    · refine ⟨?_, Or.inr ⟨hx, lo, σ0, s1, v1, hS, eL, e31, e1, hR, Or.inr ⟨hv, ?_, ?_, ?_⟩⟩⟩
      · rw [es, rdC_ne (by decide), rdC_ne (by decide), rdC_ne (by decide), rdC_ne (by decide), rdC_ne (by decide)]; exact c1
      · rw [es, rdA_ne (by decide), rdA_ne (by decide), rdA_ne (by decide), rdA_ne (by decide), rdA_ne (by decide)]; exact f35
      · rw [es, rdA_eq rfl, f22, f35]; exact hE.symm
      · rw [es, rdA_ne (by decide), rdA_ne (by decide), rdA_ne (by decide), rdA_eq rfl]
theorem rle_0 : RLe sc0 sm0 := by
  have e0 : (sc0 5 13).toInt = 0 := by decide
  refine ⟨fun k hk => ?_, fun k hk => ?_, fun e he => ?_⟩
  · rw [e0] at hk
    have : k = 0 := by omega
    rw [this]
    decide
  · rw [e0] at hk
    omega
  · have e1 : (sm0 0 36).toInt = 0 := by decide
    rw [e1] at he
    omega
theorem rle_eq (h : RLe w σ) (e5 : t 5 13 = w 5 13) (e34 : t 34 = w 34) (e37 : t 37 = w 37) (e25 : t 25 = w 25) (sm : SAx σ s) : RLe t s := rle_same h e5 (fun k _ => by rw [e34]) e37 (fun e _ => ⟨fl_eq e25, fl_eq e25, fl_eq e25⟩) sm
theorem sax_g (g : ∀ c, 2 ≤ c → c ≤ 39 → s c = σ c) (e : s 0 36 = σ 0 36) : SAx σ s := ⟨g 22 (by decide) (by decide), g 23 (by decide) (by decide), e, fun e _ => by
  rw [g 9 (by decide) (by decide), g 10 (by decide) (by decide), g 12 (by decide) (by decide), g 13 (by decide) (by decide), g 15 (by decide) (by decide)]
  exact ⟨rfl, rfl, rfl, rfl, rfl⟩⟩
theorem fd_cells (c : FDt a1 a2 a3 a4 a5 w t) : (∀ c, 2 ≤ c → t c = w c) ∧ ∀ j, 3 ≤ j → t 0 j = w 0 j := by
  by_cases b : 16000 < (w 0 1).toInt + 20
  · rw [c.1 b]
    exact ⟨fun _ _ => rfl, fun _ _ => rfl⟩
  · obtain ⟨_, _, c3, _⟩ := c.2 (by omega)
    refine ⟨fun c hc => funext (fun j => c3 c j (by omega) (fun h => ?_) (fun h => ?_)), fun j hj => c3 0 j (by decide) (fun h => ?_) (fun h => ?_)⟩
    · have := congrArg Prod.fst h; simp only at this; omega
    · have := congrArg Prod.fst h; simp only at this; omega
    · have := congrArg Prod.snd h; simp only at this; omega
    · have := congrArg Prod.snd h; simp only at this; omega
theorem en_cells (c : ENt a w t) : (∀ c, 2 ≤ c → t c = w c) ∧ ∀ j, 3 ≤ j → t 0 j = w 0 j := by
  unfold ENt at c
  by_cases hc : 0 ≤ a.toInt ∧ a.toInt ≤ (w 0 1).toInt
  · rw [if_pos hc] at c
    rw [c]
    exact ⟨fun c hc => rdC_ne (by omega), fun j hj => rdA_ne (by omega)⟩
  · rw [if_neg hc] at c
    rw [c]
    exact ⟨fun _ _ => rfl, fun _ _ => rfl⟩
theorem rle_cells (h : RLe w σ) (c : (∀ c, 2 ≤ c → t c = w c) ∧ ∀ j, 3 ≤ j → t 0 j = w 0 j) (m : (∀ c, 2 ≤ c → s c = σ c) ∧ ∀ j, 3 ≤ j → s 0 j = σ 0 j) : RLe t s := rle_eq h (by rw [c.1 5 (by decide)]) (c.1 34 (by decide)) (c.1 37 (by decide)) (c.1 25 (by decide)) (sax_g (fun c h2 _ => m.1 c h2) (m.2 36 (by decide)))
theorem rle_feed (h : RLe w σ) (c : FDt a1 a2 a3 a4 a5 w t) (m : FDt a1 a2 a3 a4 a5 σ s) : RLe t s := rle_cells h (fd_cells c) (fd_cells m)
theorem rle_end (h : RLe w σ) (c : ENt a w t) (m : ENt a σ s) : RLe t s := rle_cells h (en_cells c) (en_cells m)
theorem rle_frame (h : RLe w σ) (c : FQs w t) (m : FMs σ s) (g : FGs σ s) : RLe t s := rle_eq h (by rw [c 5 (by unfold FQw; decide)]) (c 34 (by unfold FQw; decide)) (c 37 (by unfold FQw; decide)) (c 25 (by unfold FQw; decide)) (sax_g (fun c h1 h2 => g c (by omega) h2) m.2.2.2.2.2)
theorem rle_cell (h : RLe w σ) (c : t = upC w 0 1 (0 : Int32)) (m : FCs σ s) (g : FGs σ s) : RLe t s := by
  have r : ∀ c, c ≠ 0 → t c = w c := fun q hq => by rw [c, rdC_ne hq]
  exact rle_eq h (by rw [r 5 (by decide)]) (r 34 (by decide)) (r 37 (by decide)) (r 25 (by decide)) (sax_g (fun c h1 h2 => g c (by omega) h2) m.2.2.2)
-- the class
theorem cy_compile (h : IVx w o) (hG : GLI σ τ vs) (r : RLp w σ) (re : RLe w σ) : wk_X12_compile a w (fun _ t => (∃ o, IVx t o) ∧ ∀ s : St, CMPx a σ s → (s 0 1).toInt = 0 → s 0 2 = σ 0 2 → RLp t s ∧ RLe t s) := mf_wk_X12_compile (Q1 := fun _ t => ∃ o, IVx t o) (Q2 := fun s _ t => CMPx a σ s → (s 0 1).toInt = 0 → s 0 2 = σ 0 2 → RLp t s ∧ RLe t s) (fun v t p q => ⟨p, q⟩) (sk_compile (Q := fun _ t => ∃ o, IVx t o) h (fun v t o' it => ⟨o', it⟩)) (fun s => by
  by_cases c : CMPx a σ s
  · have hE := hG.2.1.1
    have c2 := cmp_of hE c hG.1.2.1
    exact cj_wk_X12_compile (Q1 := fun _ t => (s 0 1).toInt = 0 → s 0 2 = σ 0 2 → RLp t s) (Q2 := fun _ t => RLe t s) (fun v t p q _ h1 h2 => ⟨p h1 h2, q⟩) (pl_compile h r c2 (fun v t e1 e2 e3 e4 e5 e6 h1 h2 => ⟨e1, e2, e3, by rw [e4, h1], by rw [e5, h2]; exact r.2.2.2.2.1, fun j => by rw [e6, c2.1]; exact r.2.2.2.2.2 j⟩)) (pl_compilex h r re hE c (fun v t q => q))
  · exact wl_wk_X12_compile (fun v t _ hc => absurd hc c) (sk_compile (Q := fun _ _ => True) h (fun _ _ _ _ => trivial)))
theorem cy_count {b : Int32} (h : IVx w o) : wk_X12_count a b w (fun v => CNw w a b v) := mg_wk_X12_count (fun _ _ q => q) (sk_count (Q := fun _ => True) (fun _ => trivial)) (px_count (Q := fun v => CNw w a b v) h (fun _ q => q))
-- the reference
theorem wy_compile {Q : Int32 → St → St → List Nat → Prop} (h : GLI σ τ vs) (hF : (σ 0 2).toInt ≤ 10240) (hB : ∀ j, -128 ≤ (σ 1 j).toInt ∧ (σ 1 j).toInt ≤ 127) (k : ∀ r s t z, GLI s t z → (s 0 1).toInt = 0 → s 0 2 = σ 0 2 → CMPx a σ s → Q r s t z) : wp_compile a σ τ vs Q := mg_wp_compile (fun r s t z p q => k r s t z p.1 p.2.1 p.2.2 q) (sp_compile (Q := fun _ s t z => GLI s t z ∧ (s 0 1).toInt = 0 ∧ s 0 2 = σ 0 2) h hF (fun _ s t z g h1 h2 => ⟨g, h1, h2⟩)) (es_compilex (Q := fun _ s _ _ => CMPx a σ s) h hF hB (fun _ _ _ _ q => q))
theorem wy_cell {Q : Int32 → St → St → List Nat → Prop} (h : GLI σ τ vs) (k : ∀ r s, GLI s τ vs → (s 0 1).toInt = 0 → s 0 2 = σ 0 2 → FCs σ s → FGs σ s → Q r s τ vs) : wp_cell σ τ vs Q := mg_wp_cell (fun r s t z p q => by
  obtain ⟨et, ez, g, f, f2, f3⟩ := p
  rw [et, ez]
  exact k r s g f f2 f3 q) (wx_cell (Q := fun _ s t z => t = τ ∧ z = vs ∧ GLI s τ vs ∧ (s 0 1).toInt = 0 ∧ s 0 2 = σ 0 2 ∧ FCs σ s) h (fun _ s g h1 h2 h3 => ⟨rfl, rfl, g, h1, h2, h3⟩)) (fg_pp_cell (Q := fun _ s _ _ => FGs σ s) fg_rf (fun _ _ _ _ q => q))
theorem wy_pick {Q : Int32 → St → St → List Nat → Prop} (h : GLI σ τ vs) (k : ∀ r s, GLI s τ vs → s 0 2 = σ 0 2 → FMs σ s → FGs σ s → Q r s τ vs) : wp_pick a σ τ vs Q := mg_wp_pick (fun r s t z p q => by
  obtain ⟨et, ez, g, f, f2⟩ := p
  rw [et, ez]
  exact k r s g f f2 q) (wx_pick (Q := fun _ s t z => t = τ ∧ z = vs ∧ GLI s τ vs ∧ s 0 2 = σ 0 2 ∧ FMs σ s) h (fun _ s g h2 h3 => ⟨rfl, rfl, g, h2, h3⟩)) (fg_pp_pick (Q := fun _ s _ _ => FGs σ s) fg_rf (fun _ _ _ _ q => q))
theorem wy_link {Q : Int32 → St → St → List Nat → Prop} (h : GLI σ τ vs) (hF : (σ 0 2).toInt ≤ 10240) (k : ∀ r s, GLI s τ vs → s 0 2 = σ 0 2 → FMs σ s → FGs σ s → Q r s τ vs) : wp_link σ τ vs Q := mg_wp_link (fun r s t z p q => by
  obtain ⟨et, ez, g, f, f2⟩ := p
  rw [et, ez]
  exact k r s g f f2 q) (wx_link (Q := fun _ s t z => t = τ ∧ z = vs ∧ GLI s τ vs ∧ s 0 2 = σ 0 2 ∧ FMs σ s) h hF (fun _ s g h2 h3 => ⟨rfl, rfl, g, h2, h3⟩)) (fg_pp_link (Q := fun _ s _ _ => FGs σ s) fg_rf (fun _ _ _ _ q => q))
theorem wy_run {Q : Int32 → St → St → List Nat → Prop} (h : GLI σ τ vs) (hF : (σ 0 2).toInt ≤ 10240) (k : ∀ r s, GLI s τ vs → s 0 2 = σ 0 2 → FMs σ s → FGs σ s → Q r s τ vs) : wp_run a σ τ vs Q := mg_wp_run (fun r s t z p q => by
  obtain ⟨et, ez, g, f, f2⟩ := p
  rw [et, ez]
  exact k r s g f f2 q) (wx_run (Q := fun _ s t z => t = τ ∧ z = vs ∧ GLI s τ vs ∧ s 0 2 = σ 0 2 ∧ FMs σ s) h hF (fun _ s g h2 h3 => ⟨rfl, rfl, g, h2, h3⟩)) (fg_pp_run (Q := fun _ s _ _ => FGs σ s) fg_rf (fun _ _ _ _ q => q))
theorem wy_input {Q : Int32 → St → St → List Nat → Prop} (h : GLI σ τ vs) (k : ∀ r s, GLI s τ vs → s 0 2 = σ 0 2 → FMs σ s → FGs σ s → Q r s τ vs) : wp_input a σ τ vs Q := mg_wp_input (fun r s t z p q => by
  obtain ⟨et, ez, g, f, f2⟩ := p
  rw [et, ez]
  exact k r s g f f2 q) (wx_input (Q := fun _ s t z => t = τ ∧ z = vs ∧ GLI s τ vs ∧ s 0 2 = σ 0 2 ∧ FMs σ s) h (fun _ s g h2 h3 => ⟨rfl, rfl, g, h2, h3⟩)) (fg_pp_input (Q := fun _ s _ _ => FGs σ s) fg_rf (fun _ _ _ _ q => q))
theorem hd_of (h : IVx w o) (hG : GLI σ τ vs) (r : RLp w σ) (re : RLe w σ) (A : Nat) (hA : (A : Int) + 1 ≤ (σ 0 35).toInt) : 0 ≤ (σ 22 A).toInt ∧ (σ 22 A).toInt ≤ (σ 22 (A + 1)).toInt ∧ (σ 22 (A + 1)).toInt ≤ 10000 := by
  obtain ⟨⟨h1, h1'⟩, h2, h3, -⟩ := h
  have e35 := r.1
  have d0 := de_le h2
  have w1 := re.1 A (by omega)
  have w2 := re.1 (A + 1) (by omega)
  have q1 := d0 A (by omega)
  have q2 := d0 (A + 1) (by omega)
  have q3 := h2.2 A (by omega)
  omega
theorem wy_count {b : Int32} (h : IVx w o) (hG : GLI σ τ vs) (r : RLp w σ) (re : RLe w σ) : wp_count a b σ τ vs (fun v => CNm σ a b v) := mg_wp_count (fun _ _ q => q) (sp_count (Q := fun _ => True) hG (fun _ => trivial)) (rx_count (Q := fun v => CNm σ a b v) hG (hd_of h hG r re) (fun _ q => q))
end CLY
