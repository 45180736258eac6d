/-! all calls: what link() and run() leave stays alike -/
def RLc (w σ : St) : Prop := RLb w σ ∧ LKa w σ
section CLC
variable {w σ s s1 t τ : St} {vs z : List Nat} {a b c a1 a2 a3 a4 a5 v v2 : Int32} {o : Nat}
theorem pl_cim {Q : Int32 → St → Prop} (h : IVx w o) (k : ∀ v t, (∀ c, (c = 10 ∨ c = 11 ∨ c = 12 ∨ (55 ≤ c ∧ c ≤ 64)) → t c = w c) → Q v t) : pk_X12_compile a w Q := by
  obtain ⟨⟨h1, h1'⟩, h2, h3, h4, ⟨f1, f2, f3⟩, h6, ⟨g1, g2, g3, g4⟩, h8, h9, ha, hb, hc, hi⟩ := h
  have d0 := de_le h2
  unfold pk_X12_compile
  generalize hσ1 : upC (upC w 0 1 (0 : Int32)) 0 3 ((-1) : Int32) = w1
  have r1' : ∀ c, c ≠ 0 → w1 c = w c := fun c hc0 => by rw [← hσ1, rdC_ne hc0, rdC_ne hc0]
  have q01 : (w1 0 1).toInt = 0 := by rw [← hσ1]; rfl
  have q02 : w1 0 2 = w 0 2 := by rw [← hσ1]; rfl
  clear hσ1
  have early : ∀ v, Q v w1 := fun v => k v w1 (fun c hc => r1' c (by omega))
  refine ⟨fun _ => early _, fun _ => ⟨fun _ => early _, fun _ => ⟨fun c100 => ?_, fun _ => early _⟩⟩⟩
  refine wl_wk_X10_scan (fun s4 p1 => ?_) (sp_scan (Q := fun s4 => Kp [(2, 1), (2, 2), (2, 3), (2, 4)] [13, 14, 15, 16] w1 s4 ∧ (s4 2 1).toInt = (w 0 1).toInt ∧ TEn s4) ⟨f1.1, f1.2.1⟩ (by unfold PLA; rw [r1' 15 (by decide)]; exact g1) (by unfold NMr; rw [r1' 13 (by decide), r1' 14 (by decide), r1' 15 (by decide)]; exact g2) (fun s4 k4 z4 te => ⟨k4, z4, te⟩))
  obtain ⟨k4, z4, te⟩ := p1
  obtain ⟨tk, pl4, nm4⟩ := te
  have kc : ∀ s5, KG s4 s5 → ∀ c j, c ≠ 2 → c ≠ 3 → ¬ (13 ≤ c ∧ c ≤ 23) → s5 c j = w1 c j := fun s5 k5 c j c2 c3 c4 => by
    have e1 : s5 c j = s4 c j := k5 c j (by
      simp only [List.contains_cons, List.contains_nil, Bool.or_false, Bool.or_eq_false_iff, beq_eq_false_iff_ne, ne_eq, Prod.mk.injEq, not_and]
      omega) (by
      simp only [List.contains_cons, List.contains_nil, Bool.or_false, Bool.or_eq_false_iff, beq_eq_false_iff_ne, ne_eq]
      omega)
    have e2 : s4 c j = w1 c j := k4 c j (by
      simp only [List.contains_cons, List.contains_nil, Bool.or_false, Bool.or_eq_false_iff, beq_eq_false_iff_ne, ne_eq, Prod.mk.injEq, not_and]
      omega) (by
      simp only [List.contains_cons, List.contains_nil, Bool.or_false, Bool.or_eq_false_iff, beq_eq_false_iff_ne, ne_eq]
      omega)
    exact e1.trans e2
  have t13 : ∀ s5, KG s4 s5 → s5 13 = s4 13 ∧ s5 14 = s4 14 ∧ s5 15 = s4 15 := fun s5 k5 => ⟨funext (fun j => k5 13 j rfl rfl), funext (fun j => k5 14 j rfl rfl), funext (fun j => k5 15 j rfl rfl)⟩
  refine wl_wk_X3_read (fun v s5 p1 => ?_) (sp_gread (Q := fun v s => KG s4 s ∧ (v = 0 ∨ (v = 1 ∧ RDk s))) tk (fun s k5 => ⟨k5, Or.inl rfl⟩) (fun s k5 rd => ⟨k5, Or.inr ⟨rfl, rd⟩⟩))
  obtain ⟨k5, prd⟩ := p1
  have w5 := kc s5 k5
  have row : ∀ c, c ≠ 2 → c ≠ 3 → ¬ (13 ≤ c ∧ c ≤ 23) → s5 c = w1 c := fun c c2 c3 c4 => funext (fun j => w5 c j c2 c3 c4)
  have v5 : s5 5 = w 5 := (row 5 (by decide) (by decide) (by omega)).trans (r1' 5 (by decide))
  have v4 : s5 4 = w 4 := (row 4 (by decide) (by decide) (by omega)).trans (r1' 4 (by decide))
  have v0 : s5 0 = w1 0 := row 0 (by decide) (by decide) (by omega)
  have v1' : s5 1 = w 1 := (row 1 (by decide) (by decide) (by omega)).trans (r1' 1 (by decide))
  have v25 : s5 25 = w 25 := (row 25 (by decide) (by decide) (by omega)).trans (r1' 25 (by decide))
  have v27 : s5 27 = w 27 := (row 27 (by decide) (by decide) (by omega)).trans (r1' 27 (by decide))
  have v29 : s5 29 = w 29 := (row 29 (by decide) (by decide) (by omega)).trans (r1' 29 (by decide))
  have vc : ∀ c, (c = 10 ∨ c = 11 ∨ c = 12 ∨ (55 ≤ c ∧ c ≤ 64)) → s5 c = w c := fun c hc => (row c (by omega) (by omega) (by omega)).trans (r1' c (by omega))
  have v34 : s5 34 = w 34 := (row 34 (by decide) (by decide) (by omega)).trans (r1' 34 (by decide))
  refine ⟨fun cv => ?_, fun cv => k _ _ (fun c hc => by rw [rdC_ne (by omega), vc c hc])⟩
  have rd : RDk s5 := by
    rcases prd with hv | ⟨_, rd⟩
    · rw [hv] at cv; exact absurd rfl cv
    · exact rd
  obtain ⟨x13, x14, x15⟩ := t13 s5 k5
  have a_pl : PLA s5 := by unfold PLA; rw [x15]; exact pl4
  have a_nm : NMr s5 := by unfold NMr; rw [x13, x14, x15]; exact nm4
  have sz : (s5 2 1).toInt = (w 0 1).toInt := by rw [show s5 2 1 = s4 2 1 from k5 2 1 rfl rfl]; exact z4
  have dd := d0 o (Nat.le_refl _)
  have a_sz : (s5 2 1).toInt ≤ 16000 := by rw [sz]; exact f1.2.1
  have a_by : ByteOK (s5 1) := by rw [v1']; exact g3
  have a_hd : 0 ≤ (s5 5 1).toInt ∧ (s5 5 1).toInt ≤ 10000 := by rw [v5]; omega
  have a_l0 : 0 ≤ (s5 4 1).toInt := by rw [v4]; exact f2.1
  have a_lb : (s5 4 1).toInt + 4 * (s5 2 1).toInt ≤ 262144 := by rw [v4, sz]; omega
  have a_hn : 0 ≤ (s5 5 7).toInt ∧ (s5 5 7).toInt + (s5 2 1).toInt ≤ 65600 := by rw [v5, sz]; omega
  have a_nme : NME s5 := by unfold NME; rw [v5, v29]; exact h6
  have a_fx : ∀ j, FLb ((s5 25) j) 1 → spar ((s5 27) j) ≤ 8 := by rw [v25, v27]; exact g4
  refine wl_wk_X7_walk (fun s p1 => ?_) (sp_walk (Q := fun s => ∃ ρ, Kp [(6, 2), (6, 3), (6, 4), (6, 5), (6, 7), (6, 6), (6, 10), (6, 15), (6, 17), (8, 6), (8, 8), (7, 7), (9, 5)] [] s5 ρ ∧ WDx ρ s) rd a_sz a_nm a_pl a_by a_hd a_l0 a_lb a_hn a_nme a_fx (fun ρ s kρ o0 wd hz => ⟨ρ, kρ, wd⟩))
  obtain ⟨ρ, kρ, wd⟩ := p1
  have kw := wd.1.1
  have sc : ∀ c, (c = 10 ∨ c = 11 ∨ c = 12 ∨ (55 ≤ c ∧ c ≤ 64)) → s c = w c := fun c hc => funext (fun j => by
    rcases (by omega : c = 10 ∨ c = 11 ∨ c = 12 ∨ c = 55 ∨ c = 56 ∨ c = 57 ∨ c = 58 ∨ c = 59 ∨ c = 60 ∨ c = 61 ∨ c = 62 ∨ c = 63 ∨ c = 64) with h | h | h | h | h | h | h | h | h | h | h | h | h <;> subst h
    · rw [kw 10 j (op_lt (by decide)) rfl rfl, kρ 10 j rfl rfl, vc 10 (by omega)]
    · rw [kw 11 j (op_lt (by decide)) rfl rfl, kρ 11 j rfl rfl, vc 11 (by omega)]
    · rw [kw 12 j (op_lt (by decide)) rfl rfl, kρ 12 j rfl rfl, vc 12 (by omega)]
    · rw [kw 55 j (op_mid (by decide) (by decide)) rfl rfl, kρ 55 j rfl rfl, vc 55 (by omega)]
    · rw [kw 56 j (op_mid (by decide) (by decide)) rfl rfl, kρ 56 j rfl rfl, vc 56 (by omega)]
    · rw [kw 57 j (op_mid (by decide) (by decide)) rfl rfl, kρ 57 j rfl rfl, vc 57 (by omega)]
    · rw [kw 58 j (op_mid (by decide) (by decide)) rfl rfl, kρ 58 j rfl rfl, vc 58 (by omega)]
    · rw [kw 59 j (op_mid (by decide) (by decide)) rfl rfl, kρ 59 j rfl rfl, vc 59 (by omega)]
    · rw [kw 60 j (op_mid (by decide) (by decide)) rfl rfl, kρ 60 j rfl rfl, vc 60 (by omega)]
    · rw [kw 61 j (op_mid (by decide) (by decide)) rfl rfl, kρ 61 j rfl rfl, vc 61 (by omega)]
    · rw [kw 62 j (op_mid (by decide) (by decide)) rfl rfl, kρ 62 j rfl rfl, vc 62 (by omega)]
    · rw [kw 63 j (op_mid (by decide) (by decide)) rfl rfl, kρ 63 j rfl rfl, vc 63 (by omega)]
    · rw [kw 64 j (op_mid (by decide) (by decide)) rfl rfl, kρ 64 j rfl rfl, vc 64 (by omega)])
  refine ⟨fun f0 => ?_, fun f0 => ?_⟩
  · unfold pk_X8_keep
    generalize ht : upF _ 37 _ = t
    have trow : ∀ c, c ≠ 5 → c ≠ 34 → c ≠ 35 → c ≠ 36 → c ≠ 37 → t c = s c := fun c c5 c34 c35 c36 c37 => by rw [← ht, rdF_ne c37, rdF_ne c36, rdF_ne c35, rdF_ne c34, rdC_ne c5]
    clear ht
    exact k _ t (fun c hc => (trow c (by omega) (by omega) (by omega) (by omega) (by omega)).trans (sc c hc))
  · unfold pk_X8_forget pk_X8_nameStart pk_X0_cut
    dsimp only
    exact k _ _ (fun c hc => by rw [rdC_ne (by omega), rdC_ne (by omega), rdC_ne (by omega), rdC_ne (by omega), rdC_ne (by omega)]; exact sc c hc)
theorem lka_same (h : LKa w σ) (e55 : t 55 = w 55) (e2 : t 10 2 = w 10 2) (e3 : t 10 3 = w 10 3) (e4 : t 10 4 = w 10 4) (e11 : (t 11 0).toInt = (s 0 88).toInt) (f : FKs σ s) : LKa t s := by
  obtain ⟨h1, h2, h3, h4, h5⟩ := h
  exact ⟨fun i hi => by rw [e55]; exact h1 i hi, by rw [e2, f.1]; exact h2, by rw [e3, f.2.1]; exact h3, by rw [e4, f.2.2]; exact h4, e11⟩
theorem lka_0 : LKa sc0 sm0 := ⟨fun _ _ => rfl, by decide, by decide, by decide, by decide⟩
theorem rlc_0 : RLc sc0 sm0 := ⟨rlb_0, lka_0⟩
theorem lka_cells (h : LKa w σ) (c : (∀ c, 2 ≤ c → t c = w c) ∧ ∀ j, 3 ≤ j → t 0 j = w 0 j) (m : (∀ c, 2 ≤ c → s c = σ c) ∧ ∀ j, 3 ≤ j → s 0 j = σ 0 j) : LKa t s := lka_same h (c.1 55 (by decide)) (by rw [c.1 10 (by decide)]) (by rw [c.1 10 (by decide)]) (by rw [c.1 10 (by decide)]) (by rw [c.1 11 (by decide), m.2 88 (by decide)]; exact h.2.2.2.2) ⟨m.2 70 (by decide), m.2 71 (by decide), m.2 72 (by decide)⟩
theorem rlc_feed (h : RLc w σ) (c : FDt a1 a2 a3 a4 a5 w t) (m : FDt a1 a2 a3 a4 a5 σ s) : RLc t s := ⟨rlb_feed h.1 c m, lka_cells h.2 (fd_cells c) (fd_cells m)⟩
theorem rlc_end (h : RLc w σ) (c : ENt a w t) (m : ENt a σ s) : RLc t s := ⟨rlb_end h.1 c m, lka_cells h.2 (en_cells c) (en_cells m)⟩
theorem fq_row (c : FQs w t) : t 55 = w 55 := c 55 (by unfold FQw; decide)
theorem fw_row (c : FWs w t) : t 10 = w 10 := c 10 (by unfold FWw; decide)
theorem rlc_cell (h : RLc w σ) (c : t = upC w 0 1 (0 : Int32)) (h1 : (s 0 1).toInt = 0) (h2 : s 0 2 = σ 0 2) (m : FCs σ s) (g : FGs σ s) (f : FHs σ s) (fk : FKs σ s) (fn : FNs σ s) : RLc t s := by
  have r : ∀ c, c ≠ 0 → t c = w c := fun q hq => by rw [c, rdC_ne hq]
  exact ⟨rlb_cell h.1 c h1 h2 m g f, lka_same h.2 (r 55 (by decide)) (by rw [r 10 (by decide)]) (by rw [r 10 (by decide)]) (by rw [r 10 (by decide)]) (by rw [r 11 (by decide), fn]; exact h.2.2.2.2.2) fk⟩
/-- pick() -/
theorem px_pickf {Q : Int32 → St → Prop} (k : ∀ v t, (t 10 2 = w 10 2 ∧ t 10 3 = w 10 3 ∧ t 10 4 = w 10 4 ∧ t 11 0 = w 11 0) → Q v t) : pk_X12_pick a w Q := by
  unfold pk_X12_pick pk_X8_has pk_X4_choose
  have same : ∀ v, Q v w := fun v => k v w ⟨rfl, rfl, rfl, rfl⟩
  have body : ∃ L2 : Int32 → Prop, (L2 (1 : Int32)) ∧ ∀ (x2_2 : Int32), L2 x2_2 → (((w 10 5).toInt ≤ x2_2.toInt → (Q (((w 10 5) + (1 : Int32)) - (1 : Int32)) (upC (upF w 56 (setv 101 (w 56) (w 10 5) a)) 10 5 ((w 10 5) + (1 : Int32))))) ∧ (x2_2.toInt < (w 10 5).toInt → (((atv 101 (w 56) x2_2).toInt ≠ a.toInt → (L2 (x2_2 + 1))) ∧ ((atv 101 (w 56) x2_2).toInt = a.toInt → (Q ((-1) : Int32) w))))) := ⟨fun _ => True, trivial, fun x _ => ⟨fun _ => k _ _ ⟨by rw [rdA_ne (by decide), rdF_ne (by decide)], by rw [rdA_ne (by decide), rdF_ne (by decide)], by rw [rdA_ne (by decide), rdF_ne (by decide)], by rw [rdC_ne (by decide), rdF_ne (by decide)]⟩, fun _ => ⟨fun _ => trivial, fun _ => same _⟩⟩⟩
  exact ⟨fun _ => ⟨fun _ => same _, fun _ => body⟩, fun _ => ⟨fun _ => ⟨fun _ => same _, fun _ => body⟩, fun _ => ⟨fun _ => same _, fun _ => body⟩⟩⟩
theorem ce_pick (h : IVx w o) : wk_X12_pick a w (fun v t => (∃ o, IVx t o) ∧ FQs w t ∧ PCw w a v t ∧ (t 10 2 = w 10 2 ∧ t 10 3 = w 10 3 ∧ t 10 4 = w 10 4 ∧ t 11 0 = w 11 0)) := mg_wk_X12_pick (fun _ _ p q => ⟨p.1, p.2.1, p.2.2, q⟩) (ca_pick h) (px_pickf (Q := fun _ t => t 10 2 = w 10 2 ∧ t 10 3 = w 10 3 ∧ t 10 4 = w 10 4 ∧ t 11 0 = w 11 0) (fun _ _ q => q))
theorem re_pick {Q : Int32 → St → St → List Nat → Prop} (h : GLI σ τ vs) (k : ∀ r s, GLI s τ vs → s 0 2 = σ 0 2 → FMs σ s → FGs σ s → PCm σ a r s ∧ FKs σ s ∧ FNs σ s → Q r s τ vs) : wp_pick a σ τ vs Q := mg_wp_pick (fun r s t z p q => by
  obtain ⟨et, ez, g, f, f2, f3, f4⟩ := p
  rw [et, ez]
  exact k r s g f f2 f3 ⟨f4, q⟩) (ra_pick (Q := fun r s t z => t = τ ∧ z = vs ∧ GLI s τ vs ∧ s 0 2 = σ 0 2 ∧ FMs σ s ∧ FGs σ s ∧ PCm σ a r s) h (fun r s g h2 h3 h4 h5 => ⟨rfl, rfl, g, h2, h3, h4, h5⟩)) (cj_wp_pick (Q := fun _ s _ _ => FKs σ s ∧ FNs σ s) (fun v s t z p q => ⟨p, q⟩) (fk_pp_pick (Q := fun _ s _ _ => FKs σ s) fk_rf (fun _ _ _ _ q => q)) (fn_pp_pick (Q := fun _ s _ _ => FNs σ s) fn_rf (fun _ _ _ _ q => q)))
theorem rlc_pick (hG : GLI σ τ vs) (h : RLc w σ) (ht : ∃ o, IVx t o) (c : FQs w t) (p : PCw w a v t ∧ (t 10 2 = w 10 2 ∧ t 10 3 = w 10 3 ∧ t 10 4 = w 10 4 ∧ t 11 0 = w 11 0)) (m : FMs σ s) (g : FGs σ s) (q : PCm σ a v2 s ∧ FKs σ s ∧ FNs σ s) : v2 = v ∧ RLc t s := by
  obtain ⟨e, r⟩ := rlb_pick hG h.1 ht c p.1 m g q.1
  exact ⟨e, r, lka_same h.2 (fq_row c) p.2.1 p.2.2.1 p.2.2.2.1 (by rw [p.2.2.2.2, q.2.2]; exact h.2.2.2.2.2) q.2.1⟩
/-- input() -/
def IUq (x v y : Int32) : Prop := (4096 ≤ x.toInt → v = -1 ∧ y = x) ∧ (x.toInt < 4096 → v = x + 1 ∧ y = x + 1)
theorem px_inputx : pk_X12_input a w (fun v t => IUq (w 11 0) v (t 11 0)) := by
  unfold pk_X12_input pk_X9_give
  exact ⟨fun c => ⟨fun _ => ⟨rfl, rfl⟩, fun c2 => by omega⟩, fun c => ⟨fun _ _ => ⟨fun c2 => by omega, fun _ => ⟨rfl, rfl⟩⟩, fun c2 => ⟨fun _ => ⟨rfl, rfl⟩, fun c3 => by omega⟩⟩⟩
theorem rx_inputx (h : GLI σ τ vs) : pp_input a σ τ vs (fun r s _ _ => IUq (σ 0 88) r (s 0 88)) := by
  have b := h.2.2.2.2.2.2.1
  unfold pp_input
  exact ⟨fun c _ => ⟨fun c2 => by omega, fun _ => ⟨rfl, rfl⟩⟩, fun c => ⟨fun _ => ⟨rfl, rfl⟩, fun c2 => by omega⟩⟩
theorem ce_input (h : IVx w o) : wk_X12_input a w (fun v t => (∃ o, IVx t o) ∧ FQs w t ∧ FWs w t ∧ IUq (w 11 0) v (t 11 0)) := mg_wk_X12_input (fun _ _ p q => ⟨p.1, p.2.1, p.2.2, q⟩) (ca_input h) px_inputx
theorem re_input {Q : Int32 → St → St → List Nat → Prop} (h : GLI σ τ vs) (k : ∀ r s, GLI s τ vs → s 0 2 = σ 0 2 → FMs σ s → FGs σ s → FHs σ s → IUq (σ 0 88) r (s 0 88) ∧ FKs σ s → Q r s τ vs) : wp_input a σ τ vs Q := mg_wp_input (fun r s t z p q => by
  obtain ⟨et, ez, g, f, f2, f3, f4⟩ := p
  rw [et, ez]
  exact k r s g f f2 f3 f4 q) (ra_input (Q := fun _ s t z => t = τ ∧ z = vs ∧ GLI s τ vs ∧ s 0 2 = σ 0 2 ∧ FMs σ s ∧ FGs σ s ∧ FHs σ s) h (fun r s g h2 h3 h4 h5 => ⟨rfl, rfl, g, h2, h3, h4, h5⟩)) (cj_wp_input (Q := fun v s _ _ => IUq (σ 0 88) v (s 0 88) ∧ FKs σ s) (fun v s t z p q => ⟨p, q⟩) (rx_inputx h) (fk_pp_input (Q := fun _ s _ _ => FKs σ s) fk_rf (fun _ _ _ _ q => q)))
theorem in_eq {x x2 y y2 : Int32} (hx : x.toInt = x2.toInt) (c : IUq x v y) (m : IUq x2 v2 y2) : v2 = v ∧ y.toInt = y2.toInt := by
  have e : x = x2 := ieq hx
  subst e
  by_cases h : 4096 ≤ x.toInt
  · obtain ⟨c1, c2⟩ := c.1 h
    obtain ⟨m1, m2⟩ := m.1 h
    exact ⟨by rw [c1, m1], by rw [c2, m2]⟩
  · obtain ⟨c1, c2⟩ := c.2 (by omega)
    obtain ⟨m1, m2⟩ := m.2 (by omega)
    exact ⟨by rw [c1, m1], by rw [c2, m2]⟩
theorem rlc_input (h : RLc w σ) (c : FQs w t) (c2 : FWs w t ∧ IUq (w 11 0) v (t 11 0)) (m : FMs σ s) (g : FGs σ s) (f : FHs σ s) (q : IUq (σ 0 88) v2 (s 0 88) ∧ FKs σ s) : v2 = v ∧ RLc t s := by
  obtain ⟨e, e2⟩ := in_eq h.2.2.2.2.2 c2.2 q.1
  have r := fw_row c2.1
  exact ⟨e, rlb_frame h.1 c c2.1 m g f, lka_same h.2 (fq_row c) (by rw [r]) (by rw [r]) (by rw [r]) e2 q.2⟩
/-- run() -/
def RNq (r : Prop) (a x y : Int32) : Prop := (¬ (r ∧ 0 ≤ a.toInt ∧ a.toInt ≤ 20000) → y = x) ∧ ((r ∧ 0 ≤ a.toInt ∧ a.toInt ≤ 20000) → y = 0)
theorem ce_run (h : IVx w o) : wk_X12_run a w (fun _ t => (∃ o, IVx t o) ∧ FQs w t ∧ FWs w t ∧ RNq ((w 10 2).toInt ≠ 0) a (w 11 0) (t 11 0)) := mg_wk_X12_run (fun _ _ p q => ⟨p.1, p.2.1, p.2.2, q⟩) (ca_run h) (r8_pk_run (Q := fun _ t => RNq ((w 10 2).toInt ≠ 0) a (w 11 0) (t 11 0)) (fun hn _ => ⟨fun _ => rfl, fun hc => absurd hc hn⟩) (fun hc _ t ht => ⟨fun hn => absurd hc hn, fun _ => ht⟩))
theorem re_run {Q : Int32 → St → St → List Nat → Prop} (h : GLI σ τ vs) (hF : (σ 0 2).toInt ≤ 10240) (k : ∀ r s, GLI s τ vs → s 0 2 = σ 0 2 → FMs σ s → FGs σ s → FHs σ s → RNq (0 ≤ (σ 0 70).toInt) a (σ 0 88) (s 0 88) ∧ FKs σ s → Q r s τ vs) : wp_run a σ τ vs Q := mg_wp_run (fun r s t z p q => by
  obtain ⟨et, ez, g, f, f2, f3, f4⟩ := p
  rw [et, ez]
  exact k r s g f f2 f3 f4 q) (ra_run (Q := fun _ s t z => t = τ ∧ z = vs ∧ GLI s τ vs ∧ s 0 2 = σ 0 2 ∧ FMs σ s ∧ FGs σ s ∧ FHs σ s) h hF (fun r s g h2 h3 h4 h5 => ⟨rfl, rfl, g, h2, h3, h4, h5⟩)) (cj_wp_run (Q := fun _ s _ _ => RNq (0 ≤ (σ 0 70).toInt) a (σ 0 88) (s 0 88) ∧ FKs σ s) (fun v s t z p q => ⟨p, q⟩) (r8_pp_run (Q := fun _ s _ _ => RNq (0 ≤ (σ 0 70).toInt) a (σ 0 88) (s 0 88)) (fun hn _ => ⟨fun _ => rfl, fun hc => absurd hc hn⟩) (fun hc _ s _ _ hs => ⟨fun hn => absurd hc hn, fun _ => hs⟩)) (fk_pp_run (Q := fun _ s _ _ => FKs σ s) fk_rf (fun _ _ _ _ q => q)))
theorem rlc_run (h : RLc w σ) (c : FQs w t) (c2 : FWs w t ∧ RNq ((w 10 2).toInt ≠ 0) a (w 11 0) (t 11 0)) (m : FMs σ s) (g : FGs σ s) (f : FHs σ s) (q : RNq (0 ≤ (σ 0 70).toInt) a (σ 0 88) (s 0 88) ∧ FKs σ s) : RLc t s := by
  have r := fw_row c2.1
  have hr := h.2.2.1
  refine ⟨rlb_frame h.1 c c2.1 m g f, lka_same h.2 (fq_row c) (by rw [r]) (by rw [r]) (by rw [r]) ?_ q.2⟩
  by_cases hc : (w 10 2).toInt ≠ 0 ∧ 0 ≤ a.toInt ∧ a.toInt ≤ 20000
  · rw [c2.2.2 hc, q.1.2 ⟨hr.1 hc.1, hc.2⟩]
  · rw [c2.2.1 hc, q.1.1 (fun hm => hc ⟨hr.2 hm.1, hm.2⟩)]
    exact h.2.2.2.2.2
/-- link() -/
theorem ce_link (h : IVx w o) (K : LKx w σ τ vs o) : wk_X12_link w (fun v t => (∃ o, IVx t o) ∧ FQs w t ∧ (t 10 5).toInt = 1 ∧ LNc w v t) := mg_wk_X12_link (fun _ _ p q => ⟨p.1, p.2.1, p.2.2, q⟩) (ca_link h) (px_linkx (Q := fun v t => LNc w v t) h (ds_eq K).2 (fun _ _ q => q))
theorem re_link {Q : Int32 → St → St → List Nat → Prop} (h : GLI σ τ vs) (hF : (σ 0 2).toInt ≤ 10240) (k : ∀ r s, GLI s τ vs → s 0 2 = σ 0 2 → FMs σ s → FGs σ s → (s 0 67).toInt = 0 ∧ LNm σ r s → Q r s τ vs) : wp_link σ τ vs Q := mg_wp_link (fun r s t z p q => by
  obtain ⟨et, ez, g, f, f2, f3, f4⟩ := p
  rw [et, ez]
  exact k r s g f f2 f3 ⟨f4, q⟩) (ra_link (Q := fun _ s t z => t = τ ∧ z = vs ∧ GLI s τ vs ∧ s 0 2 = σ 0 2 ∧ FMs σ s ∧ FGs σ s ∧ (s 0 67).toInt = 0) h hF (fun r s g h2 h3 h4 h5 => ⟨rfl, rfl, g, h2, h3, h4, h5⟩)) (rx_linkx (Q := fun v s _ _ => LNm σ v s) h hF (fun _ _ q => q))
theorem lkx_of (h : IVx w o) (hG : GLI σ τ vs) (r : RLc w σ) : LKx w σ τ vs o := ⟨h, hG, r.1.1.1, r.1.1.2.1, r.1.1.2.2, r.1.2⟩
theorem rlc_link (K : LKx w σ τ vs o) (h : RLc w σ) (c : FQs w t) (c2 : (t 10 5).toInt = 1 ∧ LNc w v t) (m : FMs σ s) (g : FGs σ s) (f : (s 0 67).toInt = 0 ∧ LNm σ v2 s) : v2 = v ∧ RLc t s := by
  obtain ⟨e, k⟩ := ln_eq K h.2 c2.2 f.2
  exact ⟨e.symm, rlb_link h.1 c c2.1 m g f.1, k⟩
/-- compile() -/
theorem cmz_lk (h : CMPz a σ s) : FKs σ s ∧ FNs σ s := by
  rcases h with ⟨_, es⟩ | ⟨_, lo, σ0, s1, v1, _, _, _, _, _, kx, _, _, hfin⟩
  · rw [es]
    exact ⟨⟨rfl, rfl, rfl⟩, rfl⟩
  · have q : ∀ j, 70 ≤ j → j ≤ 72 ∨ j = 88 → s 0 j = σ 0 j := fun j j1 j2 => by
      have e : s1 0 j = σ 0 j := kx 0 j (by
        simp only [List.contains_cons, List.contains_nil, Bool.or_false, Bool.or_eq_false_iff, beq_eq_false_iff_ne, ne_eq, Prod.mk.injEq, not_and]
        omega) rfl
      rcases hfin with ⟨_, es⟩ | ⟨_, es⟩
      · rw [es, rdC_ne (by decide), rdC_ne (by decide), rdA_ne (by omega), rdC_ne (by decide)]
        exact e
      · rw [es, rdA_ne (by omega), rdA_ne (by omega), rdA_ne (by omega), rdA_ne (by omega), rdA_ne (by omega)]
        exact e
    exact ⟨⟨q 70 (by decide) (by decide), q 71 (by decide) (by decide), q 72 (by decide) (by decide)⟩, q 88 (by decide) (by decide)⟩
theorem ce_compile (h : IVx w o) (hG : GLI σ τ vs) (r : RLc w σ) : wk_X12_compile a w (fun _ t => (∃ o, IVx t o) ∧ ∀ s : St, CMPz a σ s → (s 0 1).toInt = 0 → s 0 2 = σ 0 2 → RLc t s) := mg_wk_X12_compile (fun _ t p q => ⟨p.1, fun s c h1 h2 => ⟨p.2 s c h1 h2, lka_same r.2 (q 55 (by omega)) (by rw [q 10 (by omega)]) (by rw [q 10 (by omega)]) (by rw [q 10 (by omega)]) (by rw [q 11 (by omega), (cmz_lk c).2]; exact r.2.2.2.2.2) (cmz_lk c).1⟩⟩) (cb_compile h hG r.1) (pl_cim (Q := fun _ t => ∀ c, (c = 10 ∨ c = 11 ∨ c = 12 ∨ (55 ≤ c ∧ c ≤ 64)) → t c = w c) h (fun _ _ q => q))
/-- cell(), the reference -/
theorem re_cell {Q : Int32 → St → St → List Nat → Prop} (h : GLI σ τ vs) (k : ∀ r s, GLI s τ vs → (s 0 1).toInt = 0 → s 0 2 = σ 0 2 → FCs σ s → FGs σ s → FHs σ s → FKs σ s → FNs σ s → Q r s τ vs) : wp_cell σ τ vs Q := mg_wp_cell (fun r s t z p q => by
  obtain ⟨et, ez, g, f, f2, f3, f4, f5⟩ := p
  rw [et, ez]
  exact k r s g f f2 f3 f4 f5 q.1 q.2) (ra_cell (Q := fun _ s t z => t = τ ∧ z = vs ∧ GLI s τ vs ∧ (s 0 1).toInt = 0 ∧ s 0 2 = σ 0 2 ∧ FCs σ s ∧ FGs σ s ∧ FHs σ s) h (fun r s g h1 h2 h3 h4 h5 => ⟨rfl, rfl, g, h1, h2, h3, h4, h5⟩)) (cj_wp_cell (Q := fun _ s _ _ => FKs σ s ∧ FNs σ s) (fun v s t z p q => ⟨p, q⟩) (fk_pp_cell (Q := fun _ s _ _ => FKs σ s) fk_rf (fun _ _ _ _ q => q)) (fn_pp_cell (Q := fun _ s _ _ => FNs σ s) fn_rf (fun _ _ _ _ q => q)))
/-- fault() -/
def FAw (x0 x1 a : Int32) : Int32 := if a.toInt = 0 then x0 else if a.toInt = 1 then x1 else -1
theorem ce_fault : wk_X12_fault a w (fun v => v = FAw (w 10 3) (w 10 4) a) := by
  unfold wk_X12_fault FAw
  exact ⟨fun c => ⟨fun c1 => by rw [if_neg c, if_neg c1], fun c1 => by rw [if_neg c, if_pos c1]⟩, fun c => by rw [if_pos c]⟩
theorem re_fault : wp_fault a σ τ vs (fun v => v = FAw (σ 0 71) (σ 0 72) a) := by
  unfold wp_fault FAw
  exact ⟨fun c => ⟨fun c1 => by rw [if_neg c, if_neg c1], fun c1 => by rw [if_neg c, if_pos c1]⟩, fun c => by rw [if_pos c]⟩
theorem fa_eq (h : RLc w σ) (c : v = FAw (w 10 3) (w 10 4) a) (m : v2 = FAw (σ 0 71) (σ 0 72) a) : v2 = v := by
  rw [c, m, ieq h.2.2.2.1, ieq h.2.2.2.2.1]
end CLC
