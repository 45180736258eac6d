/-! all calls: all of what is declared stays alike -/
def RLb (w σ : St) : Prop := RLa w σ ∧ RLf w σ
section CLB
variable {w σ s s1 t τ : St} {vs z : List Nat} {a b c a1 a2 a3 a4 a5 v v2 : Int32} {o : Nat}
theorem rlf_0 : RLf sc0 sm0 := by
  refine ⟨⟨fun d _ => ⟨rfl, rfl, rfl, rfl, rfl⟩, fun i _ => rfl⟩, fun e he => ?_, fun A hA => ?_, fun e => Or.inl ?_⟩
  · rw [show (sm0 0 36).toInt = 0 from by decide] at he
    omega
  · rw [show (sm0 0 35).toInt = 0 from by decide] at hA
    omega
  · exact rfl
theorem rlb_0 : RLb sc0 sm0 := ⟨rla_0, rlf_0⟩
theorem rlf_cells (h : RLf w σ) (c : (∀ c, 2 ≤ c → t c = w c) ∧ ∀ j, 3 ≤ j → t 0 j = w 0 j) (m : (∀ c, 2 ≤ c → s c = σ c) ∧ ∀ j, 3 ≤ j → s 0 j = σ 0 j) : RLf t s := rlf_same h (fun q h1 h2 => c.1 q (by omega)) (by rw [c.1 5 (by decide)]) (fun q hq => m.1 q (by omega)) (m.2 31 (by decide)) (m.2 35 (by decide)) (m.2 36 (by decide))
theorem rlb_feed (h : RLb w σ) (c : FDt a1 a2 a3 a4 a5 w t) (m : FDt a1 a2 a3 a4 a5 σ s) : RLb t s := ⟨rla_feed h.1 c m, rlf_cells h.2 (fd_cells c) (fd_cells m)⟩
theorem rlb_end (h : RLb w σ) (c : ENt a w t) (m : ENt a σ s) : RLb t s := ⟨rla_end h.1 c m, rlf_cells h.2 (en_cells c) (en_cells m)⟩
theorem rlf_frame (h : RLf w σ) (c : FQs w t) (m : FMs σ s) (g : FGs σ s) : RLf t s := rlf_same h (fun q h1 h2 => c q (by
    unfold FQw
    simp only [List.contains_cons, List.contains_nil, Bool.or_false, Bool.or_eq_true, beq_iff_eq]
    omega)) (by rw [c 5 (by unfold FQw; decide)]) (fun q hq => g q (by omega) (by omega)) m.2.2.2.1 m.2.2.2.2.1 m.2.2.2.2.2
theorem rlb_frame (h : RLb w σ) (c : FQs w t) (c2 : FWs w t) (m : FMs σ s) (g : FGs σ s) (f : FHs σ s) : RLb t s := ⟨rla_frame h.1 c c2 m g f, rlf_frame h.2 c m g⟩
theorem rlb_link (h : RLb w σ) (c : FQs w t) (c2 : (t 10 5).toInt = 1) (m : FMs σ s) (g : FGs σ s) (f : (s 0 67).toInt = 0) : RLb t s := ⟨rla_link h.1 c c2 m g f, rlf_frame h.2 c m g⟩
theorem rlb_cell (h : RLb w σ) (c : t = upC w 0 1 (0 : Int32)) (h1 : (s 0 1).toInt = 0) (h2 : s 0 2 = σ 0 2) (m : FCs σ s) (g : FGs σ s) (f : FHs σ s) : RLb t s := by
  have r : ∀ c, c ≠ 0 → t c = w c := fun q hq => by rw [c, rdC_ne hq]
  exact ⟨rla_cell h.1 c h1 h2 m g f, rlf_same h.2 (fun q h1 h2 => r q (by omega)) (by rw [r 5 (by decide)]) (fun q hq => g q (by omega) (by omega)) m.2.1 m.2.2.1 m.2.2.2⟩
theorem rlb_pick (hG : GLI σ τ vs) (h : RLb w σ) (ht : ∃ o, IVx t o) (c : FQs w t) (p : PCw w a v t) (m : FMs σ s) (g : FGs σ s) (q : PCm σ a v2 s) : v2 = v ∧ RLb t s := by
  obtain ⟨e, r⟩ := rla_pick hG h.1 ht c p m g q
  exact ⟨e, r, rlf_frame h.2 c m g⟩
theorem cb_compile (h : IVx w o) (hG : GLI σ τ vs) (r : RLb w σ) : wk_X12_compile a w (fun _ t => (∃ o, IVx t o) ∧ ∀ s : St, CMPz a σ s → (s 0 1).toInt = 0 → s 0 2 = σ 0 2 → RLb t s) := mf_wk_X12_compile (Q1 := fun _ t => (∃ o, IVx t o) ∧ ∀ s : St, CMPx a σ s → (s 0 1).toInt = 0 → s 0 2 = σ 0 2 → RLa t s) (Q2 := fun s _ t => CMPz a σ s → (t 5 7).toInt = (s 0 31).toInt + 15 → RLf t s) (fun v t p q => ⟨p.1, fun s c h1 h2 => ⟨p.2 s (cmz_x c) h1 h2, q s c (p.2 s (cmz_x c) h1 h2).1.2.2.1⟩⟩) (ca_compile h hG r.1) (fun s => by
  by_cases c : CMPz a σ s
  · have hE := hG.2.1.1
    exact pl_compilez h r.1.1 r.1.2.1 r.2 hE c (fun v t q _ => q)
  · exact wl_wk_X12_compile (fun v t _ hc => absurd hc c) (sk_compile (Q := fun _ _ => True) h (fun _ _ _ _ => trivial)))
theorem wb_compile {Q : Int32 → St → St → List Nat → Prop} (h : GLI σ τ vs) (hF : (σ 0 2).toInt ≤ 10240) (hB : ∀ j, -128 ≤ (σ 1 j).toInt ∧ (σ 1 j).toInt ≤ 127) (hb13 : B13 σ) (k : ∀ r s t z, GLI s t z → (s 0 1).toInt = 0 → s 0 2 = σ 0 2 → CMPz a σ s → Q r s t z) : wp_compile a σ τ vs Q := mg_wp_compile (fun r s t z p q => k r s t z p.1 p.2.1 p.2.2 q) (sp_compile (Q := fun _ s t z => GLI s t z ∧ (s 0 1).toInt = 0 ∧ s 0 2 = σ 0 2) h hF (fun _ s t z g h1 h2 => ⟨g, h1, h2⟩)) (es_compilez (Q := fun _ s _ _ => CMPz a σ s) h hF hB hb13 (fun _ _ _ _ q => q))
theorem cb_symbol (h : IVx w o) : wk_X12_symbol a b w (fun v => SYw w a b v) := mg_wk_X12_symbol (fun _ _ q => q) (sk_symbol (Q := fun _ => True) (fun _ => trivial)) (px_symbol (Q := fun v => SYw w a b v) h (fun _ q => q))
theorem wb_symbol (h : IVx w o) (hG : GLI σ τ vs) (r : RLp w σ) (re : RLe w σ) : wp_symbol a b σ τ vs (fun v => SYr σ a b v) := mg_wp_symbol (fun _ _ q => q) (sp_symbol (Q := fun _ => True) hG (fun _ => trivial)) (rx_symbol (Q := fun v => SYr σ a b v) hG (hd_of h hG r re) (fun _ q => q))
theorem cb_name (h : IVx w o) : wk_X12_name a b c w (fun v => NMw2 w a b c v) := mg_wk_X12_name (fun _ _ q => q) (sk_name (Q := fun _ => True) h.2.2.2.2.2.1.2 (fun _ => trivial)) (px_name (Q := fun v => NMw2 w a b c v) h (fun _ q => q))
theorem wb_name (h : IVx w o) (hG : GLI σ τ vs) (r : RLp w σ) (re : RLe w σ) : wp_name a b c σ τ vs (fun v => NMr2 σ a b c v) := mg_wp_name (fun _ _ q => q) (sp_name (Q := fun _ => True) hG (fun _ => trivial)) (rx_name (Q := fun v => NMr2 σ a b c v) hG (hd_of h hG r re) (fun _ q => q))
end CLB
