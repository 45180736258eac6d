/-! compile(), both sides -/
/-- alike between calls -/
def RLp (w σ : St) : Prop := (w 5 13).toInt = (σ 0 35).toInt ∧ (w 5 1).toInt = (σ 0 36).toInt + 4 ∧ (w 5 7).toInt = (σ 0 31).toInt + 15 ∧ (w 0 1).toInt = (σ 0 1).toInt ∧ (w 0 2).toInt = (σ 0 2).toInt ∧ ∀ j, (w 1 j).toInt = (σ 1 j).toInt
def SAM (σ s : St) : Prop := s 0 35 = σ 0 35 ∧ s 0 36 = σ 0 36 ∧ s 0 31 = σ 0 31
/-- what the reference's compile() leaves -/
def CMPq (a : Int32) (σ s : St) : Prop := s 1 = σ 1 ∧ (((a.toInt < 0 ∨ 3 < a.toInt ∨ (σ 0 35).toInt = 100) ∧ SAM σ s) ∨ ((0 ≤ a.toInt ∧ a.toInt ≤ 3 ∧ (σ 0 35).toInt ≠ 100) ∧ ∃ (lo : Nat) (σ0 s1 : St) (v1 : Int32), S0q lo σ0 ∧ (σ 0 36).toInt = (lo : Int) ∧ σ0 0 31 = σ 0 31 ∧ σ0 1 = σ 1 ∧ RDq (σ 1) (σ 0 1).toInt lo σ0 v1 s1 ∧ ((v1.toInt = 0 ∧ (s 0 35).toInt = (σ 0 35).toInt + 1 ∧ s 0 36 = s1 0 36 ∧ s 0 31 = s1 0 31) ∨ (v1.toInt ≠ 0 ∧ SAM σ s))))
section CPB
variable {w σ s s' σ0 τ t : St} {vs z : List Nat} {a : Int32} {o : Nat}
theorem rd_fr (h : RS0 σ τ vs) : wp_read_0 σ τ vs (fun v s _ _ => (v = 0 ∨ v.toInt < 0) ∧ s 0 35 = σ 0 35 ∧ s 22 = σ 22 ∧ s 1 = σ 1) := sp_read0 h (fun σ1 s t z hP kr il _ _ => ⟨Or.inl rfl, (il.1.1 0 35 rfl rfl).trans (kr 0 35 rfl rfl), funext (fun j => (il.1.1 22 j rfl rfl).trans (kr 22 j rfl rfl)), funext (fun j => (il.1.1 1 j rfl rfl).trans (kr 1 j rfl rfl))⟩) (fun v σ1 s t z hv hP kr ut => by
  obtain ⟨⟨s0, u1, hs⟩, -⟩ := ut
  refine ⟨Or.inr hv, ?_, ?_, ?_⟩
  · rw [hs, rdA_ne (by decide)]; exact (u1.1 0 35 rfl rfl).trans (kr 0 35 rfl rfl)
  · rw [hs, rdC_ne (by decide)]; exact funext (fun j => (u1.1 22 j rfl rfl).trans (kr 22 j rfl rfl))
  · rw [hs, rdC_ne (by decide)]; exact funext (fun j => (u1.1 1 j rfl rfl).trans (kr 1 j rfl rfl)))
theorem es_compile {Q : Int32 → St → St → List Nat → Prop} (h : GLI σ τ vs) (hF : (σ 0 2).toInt ≤ 10240) (hB : ∀ j, -128 ≤ (σ 1 j).toInt ∧ (σ 1 j).toInt ≤ 127) (kk : ∀ v s t z, CMPq a σ s → Q v s t z) : pp_compile a σ τ vs Q := by
  have h9 := h
  obtain ⟨⟨⟨t1, t2⟩, ⟨o1, o2⟩, ⟨n1, n2⟩, -⟩, hE, hA, -⟩ := h9
  unfold pp_compile
  have e1 : upC (upC (upC σ 0 9 (σ 0 1)) 0 1 (0 : Int32)) 0 14 ((-1) : Int32) 1 = σ 1 := by rw [rdC_ne (by decide), rdC_ne (by decide), rdC_ne (by decide)]
  refine ⟨fun c => kk _ _ _ _ ⟨e1, Or.inl ⟨Or.inl c, rfl, rfl, rfl⟩⟩, fun c0 => ⟨fun c => kk _ _ _ _ ⟨e1, Or.inl ⟨Or.inr (Or.inl c), rfl, rfl, rfl⟩⟩, fun c3 => ⟨fun ho _ _ => ?_, fun c => kk _ _ _ _ ⟨e1, Or.inl ⟨Or.inr (Or.inr c), rfl, rfl, rfl⟩⟩⟩⟩⟩
  have ho' : (σ 0 35).toInt < 100 := by omega
  clear e1
  generalize h0 : (upC (upC (upC (upC (upC (upC (upC (upC (upC (upC (upC σ 0 9 (σ 0 1)) 0 1 (0 : Int32)) 0 14 ((-1) : Int32)) 22 (σ 0 35).toNatClampNeg (σ 0 36)) 24 (σ 0 35).toNatClampNeg (σ 0 39)) 0 37 (0 : Int32)) 0 12 (0 : Int32)) 0 15 (0 : Int32)) 0 53 (0 : Int32)) 0 54 (0 : Int32)) 0 49 (0 : Int32)) = σ0
  have k0 : K0c σ σ0 := by
    have ka : Kp [(0, 9), (0, 1), (0, 14), (0, 37), (0, 12), (0, 15), (0, 53), (0, 54), (0, 49)] [22, 24] σ σ0 := by
      rw [← h0]
      exact kp_f (kp_f (kp_f (kp_f (kp_f (kp_f (kp_a (kp_a (kp_f (kp_f (kp_f kp_rf rfl) rfl) rfl) rfl) rfl) rfl) rfl) rfl) rfl) rfl) rfl
    intro c j q1 q2
    by_cases c22 : c = 22
    · subst c22
      rw [← h0]
      simp only [rdC, Nat.reduceEqDiff, if_true, if_false]
      by_cases e : j = (σ 0 35).toNatClampNeg
      · rw [if_pos e, e]; exact hE.1
      · rw [if_neg e]
    · by_cases c24 : c = 24
      · subst c24
        rw [← h0]
        simp only [rdC, Nat.reduceEqDiff, if_true, if_false]
        by_cases e : j = (σ 0 35).toNatClampNeg
        · rw [if_pos e, e]; exact hE.2.1
        · rw [if_neg e]
      · refine ka c j q1 ?_
        simp
        exact ⟨c22, c24⟩
  have z9 : σ0 0 9 = σ 0 1 := by rw [← h0]; rfl
  have z37 : σ0 0 37 = 0 := by rw [← h0]; rfl
  have z12 : σ0 0 12 = 0 := by rw [← h0]; rfl
  have z15 : σ0 0 15 = 0 := by rw [← h0]; rfl
  have z53 : σ0 0 53 = 0 := by rw [← h0]; rfl
  have z54 : σ0 0 54 = 0 := by rw [← h0]; rfl
  have z49 : σ0 0 49 = 0 := by rw [← h0]; rfl
  obtain ⟨rs, -, -⟩ := rs0_gi (σ0 := σ0) h hF ho' k0 z9 z37 z12 z15 z53 z49
  clear h0
  have y : ∀ c, c ≠ 0 → σ0 c = σ c := fun c c0 => funext (fun j => k0 c j (by
    simp only [List.contains_cons, List.contains_nil, Bool.or_false, Bool.or_eq_false_iff, beq_eq_false_iff_ne, ne_eq, Prod.mk.injEq, not_and]
    omega) rfl)
  have f35 : σ0 0 35 = σ 0 35 := k0 0 35 rfl rfl
  have f36 : σ0 0 36 = σ 0 36 := k0 0 36 rfl rfl
  have f31 : σ0 0 31 = σ 0 31 := k0 0 31 rfl rfl
  obtain ⟨g1, g2, g3, g4⟩ := hE
  obtain ⟨-, -, a35, -, -, -, a31, a10, -⟩ := hA
  have eL : (σ 0 36).toInt = (((σ 0 36).toInt.toNat : Nat) : Int) := by omega
  generalize (σ 0 36).toInt.toNat = lo at eL
  have hS : S0q lo σ0 := by
    refine ⟨by rw [z53]; rfl, by rw [z54]; rfl, by rw [z49]; rfl, by rw [z15]; rfl, by rw [z12]; rfl, by rw [z37]; rfl, ⟨?_, by rw [f36]; exact eL, Nat.le_refl _, by omega, fun e h1 h2 => absurd h2 (Nat.not_lt.mpr h1), by rw [f31]; omega, by rw [f31]; omega, fun e h1 h2 => absurd h2 (Nat.not_lt.mpr h1)⟩, fun j => ?_, fun j => ?_, fun j => ?_⟩
    · rw [f35, y 22 (by decide), ← g1]; exact eL
    · rw [y 31 (by decide)]; exact a31 j
    · rw [y 10 (by decide)]; have := a10 j; omega
    · rw [y 35 (by decide)]; have := a35 j; omega
  refine cj_wp_read_0 (fun v s t z p1 p2 => ?_) (wl_wp_read_0 (fun v s t z p => p) (rd_fr rs)) (es_read (Q := fun v s _ _ => RDq (σ 1) (σ 0 1).toInt lo σ0 v s) (f := σ 1) (N := (σ 0 1).toInt) (σ := σ0) (y 1 (by decide)) hB (by rw [z9]) t1 t2 hS (fun v s t z hr => hr))
  obtain ⟨hv, e35, e22, e1⟩ := p1
  rw [f35] at e35
  rw [y 22 (by decide)] at e22
  rw [y 1 (by decide)] at e1
  refine ⟨fun c _ _ _ => kk _ _ _ _ ⟨?_, Or.inr ⟨⟨c0, c3, ho⟩, lo, σ0, s, v, hS, eL, f31, y 1 (by decide), p2, Or.inl ⟨?_, ?_, rfl, rfl⟩⟩⟩, fun c _ => kk _ _ _ _ ⟨?_, Or.inr ⟨⟨c0, c3, ho⟩, lo, σ0, s, v, hS, eL, f31, y 1 (by decide), p2, Or.inr ⟨by omega, ?_, ?_, rfl⟩⟩⟩⟩
  · rw [rdC_ne (by decide), rdC_ne (by decide), rdC_ne (by decide), rdC_ne (by decide)]; exact e1
  · rcases hv with h | h
    · rw [h]; rfl
    · omega
  · show ((s 0 35) + (1 : Int32)).toInt = _
    rw [ad1 (by rw [e35]; omega), e35]
  · rw [rdC_ne (by decide), rdC_ne (by decide), rdC_ne (by decide), rdC_ne (by decide), rdC_ne (by decide)]; exact e1
  · show s 0 35 = _
    exact e35
  · show s 22 (s 0 35).toNatClampNeg = _
    rw [e22, e35, ← g1]
/-- the class's, as the reference's left it -/
theorem pl_compile {Q : Int32 → St → Prop} (h : IVx w o) (rl : RLp w σ) (cm : CMPq a σ s') (k : ∀ v t, (t 5 13).toInt = (s' 0 35).toInt → (t 5 1).toInt = (s' 0 36).toInt + 4 → (t 5 7).toInt = (s' 0 31).toInt + 15 → (t 0 1).toInt = 0 → t 0 2 = w 0 2 → t 1 = w 1 → Q v t) : pk_X12_compile a w Q := by
  obtain ⟨r1, r2, r3, r4, r5, r6⟩ := rl
  obtain ⟨⟨h1, h1'⟩, h2, h3, h4, ⟨f1, f2, f3⟩, h6, ⟨g1, g2, g3, g4⟩, h8, h9, ha, hb, hc, hi⟩ := h
  have d0 := de_le h2
  have same : SAM σ s' → ∀ v t, t 5 13 = w 5 13 → (t 5 1).toInt = (w 5 1).toInt → (t 5 7).toInt = (w 5 7).toInt → (t 0 1).toInt = 0 → t 0 2 = w 0 2 → t 1 = w 1 → Q v t := fun sm v t e1 e2 e3 e4 e5 e6 => k v t (by rw [e1, sm.1]; exact r1) (by rw [e2, sm.2.1]; exact r2) (by rw [e3, sm.2.2]; exact r3) e4 e5 e6
  unfold pk_X12_compile
  generalize hσ1 : upC (upC w 0 1 (0 : Int32)) 0 3 ((-1) : Int32) = w1
  have r1' : ∀ c, c ≠ 0 → w1 c = w c := fun c hc0 => by rw [← hσ1, rdC_ne hc0, rdC_ne hc0]
  have q01 : (w1 0 1).toInt = 0 := by rw [← hσ1]; rfl
  have q02 : w1 0 2 = w 0 2 := by rw [← hσ1]; rfl
  clear hσ1
  have early : SAM σ s' → ∀ v, Q v w1 := fun sm v => same sm v w1 (by rw [r1' 5 (by decide)]) (by rw [r1' 5 (by decide)]) (by rw [r1' 5 (by decide)]) q01 q02 (r1' 1 (by decide))
  obtain ⟨-, cm⟩ := cm
  have bad : (a.toInt < 0 ∨ 3 < a.toInt ∨ 100 ≤ (w 5 13).toInt) → SAM σ s' := fun hx => by
    rcases cm with ⟨_, sm⟩ | ⟨⟨x1, x2, x3⟩, _⟩
    · exact sm
    · omega
  refine ⟨fun c => early (bad (Or.inl c)) _, fun c0 => ⟨fun c => early (bad (Or.inr (Or.inl c))) _, fun c3 => ⟨fun c100 => ?_, fun c => early (bad (Or.inr (Or.inr c))) _⟩⟩⟩
  clear bad early
  rcases cm with ⟨hx, _⟩ | ⟨_, lo, σ0, s1, v1, hS, eL, e31, e1, hR, hfin⟩
  · omega
  obtain ⟨kd, vl, n, L, q, c, σ1, hr, hfi, hT, hM, kσ, hev⟩ := hR
  have hN0 : 0 ≤ (σ 0 1).toInt ∧ (σ 0 1).toInt ≤ 16000 := by omega
  have ew : w 1 = σ 1 := funext (fun j => ieq (r6 j))
  refine cj_wk_X10_scan (fun s4 p1 p2 => ?_) (wl_wk_X10_scan (fun s4 p => p) (sp_scan (Q := fun s4 => Kp [(2, 1), (2, 2), (2, 3), (2, 4)] [13, 14, 15, 16] w1 s4 ∧ (s4 2 1).toInt = (w 0 1).toInt ∧ TEn s4) ⟨f1.1, f1.2.1⟩ (by unfold PLA; rw [r1' 15 (by decide)]; exact g1) (by unfold NMr; rw [r1' 13 (by decide), r1' 14 (by decide), r1' 15 (by decide)]; exact g2) (fun s4 k4 z4 te => ⟨k4, z4, te⟩))) (pl_scan (Q := fun s4 => ∃ L q c, RCHq (byt (σ 1) (σ 0 1).toInt) (0, []) (q, L) ∧ FINq (byt (σ 1) (σ 0 1).toInt) q c ∧ FNq s4 L c) (N := (σ 0 1).toInt) r4 hN0.1 hN0.2 ((r1' 1 (by decide)).trans ew) (fun s L q c kp hr hf hn hl => ⟨L, q, c, hr, hf, hn⟩))
  obtain ⟨k4, z4, te⟩ := p1
  obtain ⟨L', q', c', hr', hf', hC⟩ := p2
  obtain ⟨eql, eqc⟩ := rch_one hr hfi hr' hf'
  have eL' : L' = L := (congrArg Prod.snd eql).symm
  rw [eL', ← eqc] at hC
  have tkv := tl_cls hN0 hr hfi hC hT
  obtain ⟨tk, pl4, nm4⟩ := te
  have kc : ∀ s5, KG s4 s5 → ∀ c j, c ≠ 2 → c ≠ 3 → ¬ (13 ≤ c ∧ c ≤ 23) → s5 c j = w1 c j := fun s5 k5 c j c2 c3 c4 => by
    have e1 : s5 c j = s4 c j := k5 c j (by
      simp only [List.contains_cons, List.contains_nil, Bool.or_false, Bool.or_eq_false_iff, beq_eq_false_iff_ne, ne_eq, Prod.mk.injEq, not_and]
      omega) (by
      simp only [List.contains_cons, List.contains_nil, Bool.or_false, Bool.or_eq_false_iff, beq_eq_false_iff_ne, ne_eq]
      omega)
    have e2 : s4 c j = w1 c j := k4 c j (by
      simp only [List.contains_cons, List.contains_nil, Bool.or_false, Bool.or_eq_false_iff, beq_eq_false_iff_ne, ne_eq, Prod.mk.injEq, not_and]
      omega) (by
      simp only [List.contains_cons, List.contains_nil, Bool.or_false, Bool.or_eq_false_iff, beq_eq_false_iff_ne, ne_eq]
      omega)
    exact e1.trans e2
  have t13 : ∀ s5, KG s4 s5 → s5 13 = s4 13 ∧ s5 14 = s4 14 ∧ s5 15 = s4 15 := fun s5 k5 => ⟨funext (fun j => k5 13 j rfl rfl), funext (fun j => k5 14 j rfl rfl), funext (fun j => k5 15 j rfl rfl)⟩
  refine cj_wk_X3_read (fun v s5 p1 p2 => ?_) (wl_wk_X3_read (fun v s p => p) (sp_gread (Q := fun v s => KG s4 s ∧ (v = 0 ∨ (v = 1 ∧ RDk s))) tk (fun s k5 => ⟨k5, Or.inl rfl⟩) (fun s k5 rd => ⟨k5, Or.inr ⟨rfl, rd⟩⟩))) (gt_read (Q := fun v s => (v = 1 ∧ ∃ g, EVq (fun n => UNn kd vl n 0) (some g) ∧ TBL s (fltq 0 g)) ∨ (v = 0 ∧ EVq (fun n => UNn kd vl n 0) none)) tkv (fun s g e _ tb _ => Or.inl ⟨rfl, g, e, tb⟩) (fun s _ e => Or.inr ⟨rfl, e⟩))
  obtain ⟨k5, prd⟩ := p1
  have w5 := kc s5 k5
  have row : ∀ c, c ≠ 2 → c ≠ 3 → ¬ (13 ≤ c ∧ c ≤ 23) → s5 c = w1 c := fun c c2 c3 c4 => funext (fun j => w5 c j c2 c3 c4)
  have v5 : s5 5 = w 5 := (row 5 (by decide) (by decide) (by omega)).trans (r1' 5 (by decide))
  have v4 : s5 4 = w 4 := (row 4 (by decide) (by decide) (by omega)).trans (r1' 4 (by decide))
  have v0 : s5 0 = w1 0 := row 0 (by decide) (by decide) (by omega)
  have v1' : s5 1 = w 1 := (row 1 (by decide) (by decide) (by omega)).trans (r1' 1 (by decide))
  have v25 : s5 25 = w 25 := (row 25 (by decide) (by decide) (by omega)).trans (r1' 25 (by decide))
  have v27 : s5 27 = w 27 := (row 27 (by decide) (by decide) (by omega)).trans (r1' 27 (by decide))
  have v29 : s5 29 = w 29 := (row 29 (by decide) (by decide) (by omega)).trans (r1' 29 (by decide))
  have v34 : s5 34 = w 34 := (row 34 (by decide) (by decide) (by omega)).trans (r1' 34 (by decide))
  refine ⟨fun cv => ?_, fun cv => ?_⟩
  rotate_left
  · -- no unit
    rcases p2 with ⟨hv, _⟩ | ⟨_, hn⟩
    · rw [hv] at cv; exact absurd cv (by decide)
    · have sm : SAM σ s' := by
        rcases hev with ⟨hv1, _⟩ | ⟨g, hg, _⟩
        · rcases hfin with ⟨h0, _⟩ | ⟨_, sm⟩
          · rw [hv1] at h0; exact absurd h0 (by decide)
          · exact sm
        · have := ev_one hg hn
          cases this
      refine same sm _ _ ?_ ?_ ?_ ?_ ?_ ?_
      · rw [rdC_ne (by decide), v5]
      · rw [rdC_ne (by decide), v5]
      · rw [rdC_ne (by decide), v5]
      · rw [rdA_ne (by decide), v0]; exact q01
      · rw [rdA_ne (by decide), v0]; exact q02
      · rw [rdC_ne (by decide), v1']
  rcases p2 with ⟨_, g, hg, tb⟩ | ⟨hv, _⟩
  rotate_left
  · rw [hv] at cv; exact absurd rfl cv
  have rd : RDk s5 := by
    rcases prd with hv | ⟨_, rd⟩
    · rw [hv] at cv; exact absurd rfl cv
    · exact rd
  have hu : UNw kd n lo g σ1 v1 s1 := by
    rcases hev with ⟨_, hn⟩ | ⟨g', hg', hu⟩
    · have := ev_one hg hn
      cases this
    · have := Option.some.inj (ev_one hg' hg)
      rw [this] at hu
      exact hu
  obtain ⟨x13, x14, x15⟩ := t13 s5 k5
  have a_pl : PLA s5 := by unfold PLA; rw [x15]; exact pl4
  have a_nm : NMr s5 := by unfold NMr; rw [x13, x14, x15]; exact nm4
  have sz : (s5 2 1).toInt = (w 0 1).toInt := by rw [show s5 2 1 = s4 2 1 from k5 2 1 rfl rfl]; exact z4
  have dd := d0 o (Nat.le_refl _)
  have a_sz : (s5 2 1).toInt ≤ 16000 := by rw [sz]; exact f1.2.1
  have a_by : ByteOK (s5 1) := by rw [v1']; exact g3
  have a_hd : 0 ≤ (s5 5 1).toInt ∧ (s5 5 1).toInt ≤ 10000 := by rw [v5]; omega
  have a_l0 : 0 ≤ (s5 4 1).toInt := by rw [v4]; exact f2.1
  have a_lb : (s5 4 1).toInt + 4 * (s5 2 1).toInt ≤ 262144 := by rw [v4, sz]; omega
  have a_hn : 0 ≤ (s5 5 7).toInt ∧ (s5 5 7).toInt + (s5 2 1).toInt ≤ 65600 := by rw [v5, sz]; omega
  have a_nme : NME s5 := by unfold NME; rw [v5, v29]; exact h6
  have a_fx : ∀ j, FLb ((s5 25) j) 1 → spar ((s5 27) j) ≤ 8 := by rw [v25, v27]; exact g4
  have hS1 := s0_k kσ hS
  have c1 : σ1 1 = σ 1 := (funext (fun j => kσ 1 j rfl rfl)).trans e1
  have c31 : σ1 0 31 = σ 0 31 := (kσ 0 31 rfl rfl).trans e31
  have hC5 : FNq s5 L c := by
    obtain ⟨m1, m2, m3⟩ := hC
    refine ⟨by rw [show s5 2 4 = s4 2 4 from k5 2 4 rfl rfl]; exact m1, fun j k v q hj => ?_, by rw [x13]; exact m3⟩
    rw [x13, x14, x15]
    exact m2 j k v q hj
  refine cj_wk_X7_walk (fun s p1 p2 => ?_) (wl_wk_X7_walk (fun s p => p) (sp_walk (Q := fun s => ∃ ρ, Kp [(6, 2), (6, 3), (6, 4), (6, 5), (6, 7), (6, 6), (6, 10), (6, 15), (6, 17), (8, 6), (8, 8), (7, 7), (9, 5)] [] s5 ρ ∧ WDx ρ s) rd a_sz a_nm a_pl a_by a_hd a_l0 a_lb a_hn a_nme a_fx (fun ρ s kρ o0 wd hz => ⟨ρ, kρ, wd⟩))) (cw_walk (Q := fun r => ((r 6 3).toInt ≠ 0 → v1.toInt ≠ 0) ∧ ((r 6 3).toInt = 0 → v1.toInt = 0 ∧ ∃ m, URq kd n m lo r s1)) (B := v1.toInt ≠ 0) rd a_sz a_nm a_pl a_by a_hd a_l0 a_lb a_hn a_nme a_fx tb (fun ρ kρ z63 z65 z67 z66 z615 z86 z77 z95 => hu ρ (ur_start (tl_both hN0 hr hfi hM ?_ hT ?_) hS1 z615 z67 ?_ ?_ z65 z77 z66 z86 z95) z63) (fun b r hr => ⟨fun _ => b, fun hx => absurd hx hr⟩))
  rotate_left
  · obtain ⟨m1, m2, m3⟩ := hC5
    have y13 : ρ 13 = s5 13 := funext (fun j => kρ 13 j rfl rfl)
    have y14 : ρ 14 = s5 14 := funext (fun j => kρ 14 j rfl rfl)
    have y15 : ρ 15 = s5 15 := funext (fun j => kρ 15 j rfl rfl)
    refine ⟨by rw [kρ 2 4 rfl rfl]; exact m1, fun j k v q hj => ?_, by rw [y13]; exact m3⟩
    rw [y13, y14, y15]
    exact m2 j k v q hj
  · intro i _
    rw [kρ 1 i rfl rfl, v1', c1]
    exact r6 i
  · rw [kρ 5 1 rfl rfl, v5]; omega
  · rw [kρ 5 7 rfl rfl, v5, c31]; exact r3
  obtain ⟨ρ, kρ, wd⟩ := p1
  have kw := wd.1.1
  have s01 : (s 0 1).toInt = 0 := by rw [kw 0 1 (op_lt (by decide)) rfl rfl, kρ 0 1 rfl rfl, v0]; exact q01
  have s02 : s 0 2 = w 0 2 := by rw [kw 0 2 (op_lt (by decide)) rfl rfl, kρ 0 2 rfl rfl, v0]; exact q02
  have s1w : s 1 = w 1 := funext (fun j => by rw [kw 1 j (op_lt (by decide)) rfl rfl, kρ 1 j rfl rfl, v1'])
  have s513 : s 5 13 = w 5 13 := by rw [kw 5 13 (op_lt (by decide)) rfl rfl, kρ 5 13 rfl rfl, v5]
  refine ⟨fun f0 => ?_, fun f0 => ?_⟩
  · obtain ⟨hv0, m, hUR⟩ := p2.2 f0
    have hO := hUR.1.2.2.1
    rcases hfin with ⟨_, e35, e36, e31'⟩ | ⟨hv1, _⟩
    rotate_left
    · exact absurd hv0 hv1
    unfold pk_X8_keep
    generalize ht : upF _ 37 _ = t
    have trow : ∀ c, c ≠ 5 → c ≠ 34 → c ≠ 35 → c ≠ 36 → c ≠ 37 → t c = s c := fun c c5 c34 c35 c36 c37 => by rw [← ht, rdF_ne c37, rdF_ne c36, rdF_ne c35, rdF_ne c34, rdC_ne c5]
    have t5 : ∀ q, q ≠ 13 → t 5 q = s 5 q := fun q hq => by rw [← ht, rdF_ne (by decide), rdF_ne (by decide), rdF_ne (by decide), rdF_ne (by decide), rdA_ne hq]
    have t513 : t 5 13 = (s 5 13) + (1 : Int32) := by rw [← ht, rdF_ne (by decide), rdF_ne (by decide), rdF_ne (by decide), rdF_ne (by decide), rdA_eq rfl]
    clear ht
    have t0 := trow 0 (by decide) (by decide) (by decide) (by decide) (by decide)
    refine k _ t ?_ ?_ ?_ ?_ ?_ ?_
    · rw [t513, s513, ad1 (by omega), e35]; omega
    · rw [t5 1 (by decide), e36, hO.2.2.2.1.1, hO.2.2.2.2.1.2.1]; omega
    · rw [t5 7 (by decide), e31']; exact hO.2.2.2.1.2
    · rw [t0]; exact s01
    · rw [t0]; exact s02
    · rw [trow 1 (by decide) (by decide) (by decide) (by decide) (by decide)]; exact s1w
  · have hv1 := p2.1 f0
    have sm : SAM σ s' := by
      rcases hfin with ⟨h0, _⟩ | ⟨_, sm⟩
      · exact absurd h0 hv1
      · exact sm
    have e513 : (s 5 13).toInt = o := by rw [s513]; exact h1
    have e34 : s 34 o = w 34 o := by rw [kw 34 o (op_lt (by decide)) rfl rfl, kρ 34 o rfl rfl, v34]
    obtain ⟨D, hD⟩ : ∃ D : Nat, (w 34 o).toInt = (D : Int) + 1 := ⟨((w 34 o).toInt - 1).toNat, by omega⟩
    have eD : ((w 34 o) - (1 : Int32)).toInt = D := by rw [sb (by rw [i1]; omega) (by rw [i1]; omega), i1]; omega
    have n57 : (s 29 D).toInt = (w 5 7).toInt := by
      have hd : (D : Int) < (ρ 5 1).toInt := by rw [kρ 5 1 rfl rfl, v5]; omega
      rw [(wd.1.2.2.1.2.1 D hd).2.2.2.1, kρ 29 D rfl rfl, v29]
      exact h6.1 D (by omega)
    unfold pk_X8_forget pk_X8_nameStart pk_X0_cut
    rw [atv_at e513 (by omega), atv_at e513 (by omega), atv_at e513 (by omega), e34, rdC_ne (show (29 : Nat) ≠ 5 by decide), atv_at eD (by omega)]
    dsimp only
    refine same sm _ _ ?_ ?_ ?_ ?_ ?_ ?_
    · rw [rdC_ne (by decide), rdC_ne (by decide), rdA_ne (by decide), rdA_ne (by decide), rdA_ne (by decide)]; exact s513
    · rw [rdC_ne (by decide), rdC_ne (by decide), rdA_ne (by decide), rdA_ne (by decide), rdA_eq rfl]; exact h3.symm
    · rw [rdC_ne (by decide), rdC_ne (by decide), rdA_ne (by decide), rdA_eq rfl]; exact n57
    · rw [rdA_ne (by decide), rdC_ne (by decide), rdC_ne (by decide), rdC_ne (by decide), rdC_ne (by decide)]; exact s01
    · rw [rdA_ne (by decide), rdC_ne (by decide), rdC_ne (by decide), rdC_ne (by decide), rdC_ne (by decide)]; exact s02
    · rw [rdC_ne (by decide), rdC_ne (by decide), rdC_ne (by decide), rdC_ne (by decide), rdC_ne (by decide)]; exact s1w
end CPB
