/-! compile() and what is picked; all calls, both sides -/
section PLC
variable {w σ s s' t τ : St} {vs z : List Nat} {a a1 a2 a3 a4 a5 v : Int32} {o : Nat}
theorem pl_c10 {Q : Int32 → St → Prop} (h : IVx w o) (k : ∀ v t, t 10 = w 10 → t 56 = w 56 → Q v t) : pk_X12_compile a w Q := by
  obtain ⟨⟨h1, h1'⟩, h2, h3, h4, ⟨f1, f2, f3⟩, h6, ⟨g1, g2, g3, g4⟩, h8, h9, ha, hb, hc, hi⟩ := h
  have d0 := de_le h2
  unfold pk_X12_compile
  generalize hσ1 : upC (upC w 0 1 (0 : Int32)) 0 3 ((-1) : Int32) = w1
  have r1' : ∀ c, c ≠ 0 → w1 c = w c := fun c hc0 => by rw [← hσ1, rdC_ne hc0, rdC_ne hc0]
  have q01 : (w1 0 1).toInt = 0 := by rw [← hσ1]; rfl
  have q02 : w1 0 2 = w 0 2 := by rw [← hσ1]; rfl
  clear hσ1
  have early : ∀ v, Q v w1 := fun v => k v w1 (r1' 10 (by decide)) (r1' 56 (by decide))
  refine ⟨fun _ => early _, fun _ => ⟨fun _ => early _, fun _ => ⟨fun c100 => ?_, fun _ => early _⟩⟩⟩
  refine wl_wk_X10_scan (fun s4 p1 => ?_) (sp_scan (Q := fun s4 => Kp [(2, 1), (2, 2), (2, 3), (2, 4)] [13, 14, 15, 16] w1 s4 ∧ (s4 2 1).toInt = (w 0 1).toInt ∧ TEn s4) ⟨f1.1, f1.2.1⟩ (by unfold PLA; rw [r1' 15 (by decide)]; exact g1) (by unfold NMr; rw [r1' 13 (by decide), r1' 14 (by decide), r1' 15 (by decide)]; exact g2) (fun s4 k4 z4 te => ⟨k4, z4, te⟩))
  obtain ⟨k4, z4, te⟩ := p1
  obtain ⟨tk, pl4, nm4⟩ := te
  have kc : ∀ s5, KG s4 s5 → ∀ c j, c ≠ 2 → c ≠ 3 → ¬ (13 ≤ c ∧ c ≤ 23) → s5 c j = w1 c j := fun s5 k5 c j c2 c3 c4 => by
    have e1 : s5 c j = s4 c j := k5 c j (by
      simp only [List.contains_cons, List.contains_nil, Bool.or_false, Bool.or_eq_false_iff, beq_eq_false_iff_ne, ne_eq, Prod.mk.injEq, not_and]
      omega) (by
      simp only [List.contains_cons, List.contains_nil, Bool.or_false, Bool.or_eq_false_iff, beq_eq_false_iff_ne, ne_eq]
      omega)
    have e2 : s4 c j = w1 c j := k4 c j (by
      simp only [List.contains_cons, List.contains_nil, Bool.or_false, Bool.or_eq_false_iff, beq_eq_false_iff_ne, ne_eq, Prod.mk.injEq, not_and]
      omega) (by
      simp only [List.contains_cons, List.contains_nil, Bool.or_false, Bool.or_eq_false_iff, beq_eq_false_iff_ne, ne_eq]
      omega)
    exact e1.trans e2
  have t13 : ∀ s5, KG s4 s5 → s5 13 = s4 13 ∧ s5 14 = s4 14 ∧ s5 15 = s4 15 := fun s5 k5 => ⟨funext (fun j => k5 13 j rfl rfl), funext (fun j => k5 14 j rfl rfl), funext (fun j => k5 15 j rfl rfl)⟩
  refine wl_wk_X3_read (fun v s5 p1 => ?_) (sp_gread (Q := fun v s => KG s4 s ∧ (v = 0 ∨ (v = 1 ∧ RDk s))) tk (fun s k5 => ⟨k5, Or.inl rfl⟩) (fun s k5 rd => ⟨k5, Or.inr ⟨rfl, rd⟩⟩))
  obtain ⟨k5, prd⟩ := p1
  have w5 := kc s5 k5
  have row : ∀ c, c ≠ 2 → c ≠ 3 → ¬ (13 ≤ c ∧ c ≤ 23) → s5 c = w1 c := fun c c2 c3 c4 => funext (fun j => w5 c j c2 c3 c4)
  have v5 : s5 5 = w 5 := (row 5 (by decide) (by decide) (by omega)).trans (r1' 5 (by decide))
  have v4 : s5 4 = w 4 := (row 4 (by decide) (by decide) (by omega)).trans (r1' 4 (by decide))
  have v0 : s5 0 = w1 0 := row 0 (by decide) (by decide) (by omega)
  have v1' : s5 1 = w 1 := (row 1 (by decide) (by decide) (by omega)).trans (r1' 1 (by decide))
  have v25 : s5 25 = w 25 := (row 25 (by decide) (by decide) (by omega)).trans (r1' 25 (by decide))
  have v27 : s5 27 = w 27 := (row 27 (by decide) (by decide) (by omega)).trans (r1' 27 (by decide))
  have v29 : s5 29 = w 29 := (row 29 (by decide) (by decide) (by omega)).trans (r1' 29 (by decide))
  have v10 : s5 10 = w 10 := (row 10 (by decide) (by decide) (by omega)).trans (r1' 10 (by decide))
  have v56 : s5 56 = w 56 := (row 56 (by decide) (by decide) (by omega)).trans (r1' 56 (by decide))
  have v34 : s5 34 = w 34 := (row 34 (by decide) (by decide) (by omega)).trans (r1' 34 (by decide))
  refine ⟨fun cv => ?_, fun cv => k _ _ (by rw [rdC_ne (by decide), v10]) (by rw [rdC_ne (by decide), v56])⟩
  have rd : RDk s5 := by
    rcases prd with hv | ⟨_, rd⟩
    · rw [hv] at cv; exact absurd rfl cv
    · exact rd
  obtain ⟨x13, x14, x15⟩ := t13 s5 k5
  have a_pl : PLA s5 := by unfold PLA; rw [x15]; exact pl4
  have a_nm : NMr s5 := by unfold NMr; rw [x13, x14, x15]; exact nm4
  have sz : (s5 2 1).toInt = (w 0 1).toInt := by rw [show s5 2 1 = s4 2 1 from k5 2 1 rfl rfl]; exact z4
  have dd := d0 o (Nat.le_refl _)
  have a_sz : (s5 2 1).toInt ≤ 16000 := by rw [sz]; exact f1.2.1
  have a_by : ByteOK (s5 1) := by rw [v1']; exact g3
  have a_hd : 0 ≤ (s5 5 1).toInt ∧ (s5 5 1).toInt ≤ 10000 := by rw [v5]; omega
  have a_l0 : 0 ≤ (s5 4 1).toInt := by rw [v4]; exact f2.1
  have a_lb : (s5 4 1).toInt + 4 * (s5 2 1).toInt ≤ 262144 := by rw [v4, sz]; omega
  have a_hn : 0 ≤ (s5 5 7).toInt ∧ (s5 5 7).toInt + (s5 2 1).toInt ≤ 65600 := by rw [v5, sz]; omega
  have a_nme : NME s5 := by unfold NME; rw [v5, v29]; exact h6
  have a_fx : ∀ j, FLb ((s5 25) j) 1 → spar ((s5 27) j) ≤ 8 := by rw [v25, v27]; exact g4
  refine wl_wk_X7_walk (fun s p1 => ?_) (sp_walk (Q := fun s => ∃ ρ, Kp [(6, 2), (6, 3), (6, 4), (6, 5), (6, 7), (6, 6), (6, 10), (6, 15), (6, 17), (8, 6), (8, 8), (7, 7), (9, 5)] [] s5 ρ ∧ WDx ρ s) rd a_sz a_nm a_pl a_by a_hd a_l0 a_lb a_hn a_nme a_fx (fun ρ s kρ o0 wd hz => ⟨ρ, kρ, wd⟩))
  obtain ⟨ρ, kρ, wd⟩ := p1
  have kw := wd.1.1
  have s10 : s 10 = w 10 := funext (fun j => by rw [kw 10 j (op_lt (by decide)) rfl rfl, kρ 10 j rfl rfl, v10])
  have s56 : s 56 = w 56 := funext (fun j => by rw [kw 56 j (op_mid (by decide) (by decide)) rfl rfl, kρ 56 j rfl rfl, v56])
  refine ⟨fun f0 => ?_, fun f0 => ?_⟩
  · unfold pk_X8_keep
    generalize ht : upF _ 37 _ = t
    have trow : ∀ c, c ≠ 5 → c ≠ 34 → c ≠ 35 → c ≠ 36 → c ≠ 37 → t c = s c := fun c c5 c34 c35 c36 c37 => by rw [← ht, rdF_ne c37, rdF_ne c36, rdF_ne c35, rdF_ne c34, rdC_ne c5]
    clear ht
    exact k _ t ((trow 10 (by decide) (by decide) (by decide) (by decide) (by decide)).trans s10) ((trow 56 (by decide) (by decide) (by decide) (by decide) (by decide)).trans s56)
  · unfold pk_X8_forget pk_X8_nameStart pk_X0_cut
    dsimp only
    refine k _ _ ?_ ?_
    · rw [rdC_ne (by decide), rdC_ne (by decide), rdC_ne (by decide), rdC_ne (by decide), rdC_ne (by decide)]; exact s10
    · rw [rdC_ne (by decide), rdC_ne (by decide), rdC_ne (by decide), rdC_ne (by decide), rdC_ne (by decide)]; exact s56
/-- alike between calls: all that p6, p7, p10 want -/
def RLa (w σ : St) : Prop := RLp w σ ∧ RLe w σ ∧ PKr w σ
theorem rla_0 : RLa sc0 sm0 := ⟨rl_0, rle_0, pk_0⟩
theorem cmp_pk (h : CMPx a σ s) : s 0 67 = σ 0 67 ∧ s 40 = σ 40 := by
  rcases h with ⟨_, es⟩ | ⟨_, lo, σ0, s1, v1, _, _, _, _, _, kx, _, hfin⟩
  · rw [es]
    exact ⟨rfl, by rw [rdC_ne (by decide), rdC_ne (by decide), rdC_ne (by decide)]⟩
  · have f67 : s1 0 67 = σ 0 67 := kx 0 67 rfl rfl
    have f40 : s1 40 = σ 40 := funext (fun j => kx 40 j rfl rfl)
    rcases hfin with ⟨_, es⟩ | ⟨_, es⟩
    · rw [es]
      exact ⟨f67, by rw [rdC_ne (by decide), rdC_ne (by decide), rdC_ne (by decide), rdC_ne (by decide)]; exact f40⟩
    · rw [es]
      exact ⟨f67, by rw [rdC_ne (by decide), rdC_ne (by decide), rdC_ne (by decide), rdC_ne (by decide), rdC_ne (by decide)]; exact f40⟩
theorem rla_feed (h : RLa w σ) (c : FDt a1 a2 a3 a4 a5 w t) (m : FDt a1 a2 a3 a4 a5 σ s) : RLa t s := ⟨rl_feed h.1 c m, rle_feed h.2.1 c m, pk_kept h.2.2 (by rw [(fd_cells c).1 10 (by decide)]) ((fd_cells c).1 56 (by decide)) ((fd_cells m).2 67 (by decide)) ((fd_cells m).1 40 (by decide))⟩
theorem rla_end (h : RLa w σ) (c : ENt a w t) (m : ENt a σ s) : RLa t s := ⟨rl_end h.1 c m, rle_end h.2.1 c m, pk_kept h.2.2 (by rw [(en_cells c).1 10 (by decide)]) ((en_cells c).1 56 (by decide)) ((en_cells m).2 67 (by decide)) ((en_cells m).1 40 (by decide))⟩
theorem rla_frame (h : RLa w σ) (c : FQs w t) (c2 : FWs w t) (m : FMs σ s) (g : FGs σ s) (f : FHs σ s) : RLa t s := ⟨rl_frame h.1 c m, rle_frame h.2.1 c m g, pk_kept h.2.2 (by rw [c2 10 (by unfold FWw; decide)]) (c2 56 (by unfold FWw; decide)) f.1 f.2⟩
theorem rla_link (h : RLa w σ) (c : FQs w t) (c2 : (t 10 5).toInt = 1) (m : FMs σ s) (g : FGs σ s) (f : (s 0 67).toInt = 0) : RLa t s := ⟨rl_frame h.1 c m, rle_frame h.2.1 c m g, pk_none c2 f⟩
theorem rla_cell (h : RLa w σ) (c : t = upC w 0 1 (0 : Int32)) (h1 : (s 0 1).toInt = 0) (h2 : s 0 2 = σ 0 2) (m : FCs σ s) (g : FGs σ s) (f : FHs σ s) : RLa t s := ⟨rl_cell h.1 c h1 h2 m, rle_cell h.2.1 c m g, pk_kept h.2.2 (by rw [c, rdC_ne (by decide)]) (by rw [c, rdC_ne (by decide)]) f.1 f.2⟩
end PLC
