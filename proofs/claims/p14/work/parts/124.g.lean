section
/-! compile(), the class's side: what is declared stays alike -/
def SAx (σ s : St) : Prop := s 22 = σ 22 ∧ s 23 = σ 23 ∧ s 0 36 = σ 0 36 ∧ OLe σ s
section PLX
variable {w σ s s' s1 σ0 τ t : St} {vs z : List Nat} {a : Int32} {o : Nat}
theorem sax_0 : SAx σ (upC (upC (upC σ 0 9 (σ 0 1)) 0 1 (0 : Int32)) 0 14 ((-1) : Int32)) := by
  have r : ∀ c, c ≠ 0 → (upC (upC (upC σ 0 9 (σ 0 1)) 0 1 (0 : Int32)) 0 14 ((-1) : Int32)) c = σ c := fun c c0 => by rw [rdC_ne c0, rdC_ne c0, rdC_ne c0]
  refine ⟨r 22 (by decide), r 23 (by decide), rfl, fun e _ => ?_⟩
  rw [r 9 (by decide), r 10 (by decide), r 12 (by decide), r 13 (by decide), r 15 (by decide)]
  exact ⟨rfl, rfl, rfl, rfl, rfl⟩
theorem sax_1 (kx : KRx σ s1) (ol : OLe σ s1) (hE : σ 0 36 = σ 22 (σ 0 35).toNatClampNeg) : SAx σ (upC (upC (upC (upC (upC s1 0 17 (σ 0 17)) 0 31 (σ 0 31)) 0 45 (σ 0 45)) 0 39 (σ 0 39)) 0 36 (s1 22 (s1 0 35).toNatClampNeg)) := by
  have r : ∀ c, c ≠ 0 → (upC (upC (upC (upC (upC s1 0 17 (σ 0 17)) 0 31 (σ 0 31)) 0 45 (σ 0 45)) 0 39 (σ 0 39)) 0 36 (s1 22 (s1 0 35).toNatClampNeg)) c = s1 c := fun c c0 => by rw [rdC_ne c0, rdC_ne c0, rdC_ne c0, rdC_ne c0, rdC_ne c0]
  refine ⟨(r 22 (by decide)).trans (funext (fun j => kx 22 j rfl rfl)), (r 23 (by decide)).trans (funext (fun j => kx 23 j rfl rfl)), ?_, fun e he => ?_⟩
  · rw [rdA_eq rfl, show s1 0 35 = σ 0 35 from kx 0 35 rfl rfl, show s1 22 (σ 0 35).toNatClampNeg = σ 22 (σ 0 35).toNatClampNeg from kx 22 _ rfl rfl]
    exact hE.symm
  · rw [r 9 (by decide), r 10 (by decide), r 12 (by decide), r 13 (by decide), r 15 (by decide)]
    exact ol e he
theorem rle_same (h : RLe w σ) (e13 : t 5 13 = w 5 13) (e34 : ∀ k : Nat, (k : Int) ≤ (w 5 13).toInt → t 34 k = w 34 k) (e37 : t 37 = w 37) (e25 : ∀ e : Nat, (e : Int) < (σ 0 36).toInt → (FLq t (e + 4) 1 ↔ FLq w (e + 4) 1) ∧ (FLq t (e + 4) 2 ↔ FLq w (e + 4) 2) ∧ (FLq t (e + 4) 4 ↔ FLq w (e + 4) 4)) (sm : SAx σ s) : RLe t s := by
  obtain ⟨m22, m23, m36, ol⟩ := sm
  refine ⟨fun k hk => ?_, fun k hk => ?_, fun e he => ?_⟩
  · rw [e13] at hk
    rw [e34 k hk, m22]
    exact h.1 k hk
  · rw [e13] at hk
    rw [e37, m23]
    exact h.2.1 k hk
  · rw [m36] at he
    obtain ⟨x1, x2, x4⟩ := e25 e he
    obtain ⟨y9, _, y12, y13, _⟩ := ol e he
    obtain ⟨q1, q2, q4, q9⟩ := h.2.2 e he
    rw [y9, y12, y13]
    exact ⟨x1.trans q1, x2.trans q2, x4.trans q4, q9⟩
/-- the class's, as the reference's left it: what is declared -/
theorem pl_compilex {Q : Int32 → St → Prop} (h : IVx w o) (rl : RLp w σ) (re : RLe w σ) (hE : σ 0 36 = σ 22 (σ 0 35).toNatClampNeg) (cm : CMPx a σ s') (k : ∀ v t, RLe t s' → Q v t) : pk_X12_compile a w Q := by
  obtain ⟨r1, r2, r3, r4, r5, r6⟩ := rl
  obtain ⟨⟨h1, h1'⟩, h2, h3, h4, ⟨f1, f2, f3⟩, h6, ⟨g1, g2, g3, g4⟩, h8, h9, ha, hb, hc, hi⟩ := h
  have d0 := de_le h2
  have same : SAx σ s' → ∀ v t, t 5 13 = w 5 13 → (∀ k : Nat, (k : Int) ≤ (w 5 13).toInt → t 34 k = w 34 k) → t 37 = w 37 → (∀ e : Nat, (e : Int) < (σ 0 36).toInt → (FLq t (e + 4) 1 ↔ FLq w (e + 4) 1) ∧ (FLq t (e + 4) 2 ↔ FLq w (e + 4) 2) ∧ (FLq t (e + 4) 4 ↔ FLq w (e + 4) 4)) → Q v t := fun sm v t e1 e2 e3 e4 => k v t (rle_same re e1 e2 e3 e4 sm)
  unfold pk_X12_compile
  generalize hσ1 : upC (upC w 0 1 (0 : Int32)) 0 3 ((-1) : Int32) = w1
  have r1' : ∀ c, c ≠ 0 → w1 c = w c := fun c hc0 => by rw [← hσ1, rdC_ne hc0, rdC_ne hc0]
  have q01 : (w1 0 1).toInt = 0 := by rw [← hσ1]; rfl
  have q02 : w1 0 2 = w 0 2 := by rw [← hσ1]; rfl
  clear hσ1
  have early : SAx σ s' → ∀ v, Q v w1 := fun sm v => same sm v w1 (by rw [r1' 5 (by decide)]) (fun k _ => by rw [r1' 34 (by decide)]) (r1' 37 (by decide)) (fun e _ => ⟨fl_eq (r1' 25 (by decide)), fl_eq (r1' 25 (by decide)), fl_eq (r1' 25 (by decide))⟩)
  have bad : (a.toInt < 0 ∨ 3 < a.toInt ∨ 100 ≤ (w 5 13).toInt) → SAx σ s' := fun hx => by
    rcases cm with ⟨_, sm⟩ | ⟨⟨x1, x2, x3⟩, _⟩
    · rw [sm]; exact sax_0
    · omega
  refine ⟨fun c => early (bad (Or.inl c)) _, fun c0 => ⟨fun c => early (bad (Or.inr (Or.inl c))) _, fun c3 => ⟨fun c100 => ?_, fun c => early (bad (Or.inr (Or.inr c))) _⟩⟩⟩
  clear bad early
  rcases cm with ⟨hx, _⟩ | ⟨_, lo, σ0, s1, v1, hS, eL, e31, e1, hR, kx, ol, hfin⟩
  · omega
  obtain ⟨kd, vl, n, L, q, c, σ1, hr, hfi, hT, hM, kσ, hev⟩ := hR
  have hN0 : 0 ≤ (σ 0 1).toInt ∧ (σ 0 1).toInt ≤ 16000 := by omega
  have ew : w 1 = σ 1 := funext (fun j => ieq (r6 j))
  refine cj_wk_X10_scan (fun s4 p1 p2 => ?_) (wl_wk_X10_scan (fun s4 p => p) (sp_scan (Q := fun s4 => Kp [(2, 1), (2, 2), (2, 3), (2, 4)] [13, 14, 15, 16] w1 s4 ∧ (s4 2 1).toInt = (w 0 1).toInt ∧ TEn s4) ⟨f1.1, f1.2.1⟩ (by unfold PLA; rw [r1' 15 (by decide)]; exact g1) (by unfold NMr; rw [r1' 13 (by decide), r1' 14 (by decide), r1' 15 (by decide)]; exact g2) (fun s4 k4 z4 te => ⟨k4, z4, te⟩))) (pl_scan (Q := fun s4 => ∃ L q c, RCHq (byt (σ 1) (σ 0 1).toInt) (0, []) (q, L) ∧ FINq (byt (σ 1) (σ 0 1).toInt) q c ∧ FNq s4 L c) (N := (σ 0 1).toInt) r4 hN0.1 hN0.2 ((r1' 1 (by decide)).trans ew) (fun s L q c kp hr hf hn hl => ⟨L, q, c, hr, hf, hn⟩))
  obtain ⟨k4, z4, te⟩ := p1
  obtain ⟨L', q', c', hr', hf', hC⟩ := p2
  obtain ⟨eql, eqc⟩ := rch_one hr hfi hr' hf'
  have eL' : L' = L := (congrArg Prod.snd eql).symm
  rw [eL', ← eqc] at hC
  have tkv := tl_cls hN0 hr hfi hC hT
  obtain ⟨tk, pl4, nm4⟩ := te
  have kc : ∀ s5, KG s4 s5 → ∀ c j, c ≠ 2 → c ≠ 3 → ¬ (13 ≤ c ∧ c ≤ 23) → s5 c j = w1 c j := fun s5 k5 c j c2 c3 c4 => by
    have e1 : s5 c j = s4 c j := k5 c j (by
      simp only [List.contains_cons, List.contains_nil, Bool.or_false, Bool.or_eq_false_iff, beq_eq_false_iff_ne, ne_eq, Prod.mk.injEq, not_and]
      omega) (by
      simp only [List.contains_cons, List.contains_nil, Bool.or_false, Bool.or_eq_false_iff, beq_eq_false_iff_ne, ne_eq]
      omega)
    have e2 : s4 c j = w1 c j := k4 c j (by
      simp only [List.contains_cons, List.contains_nil, Bool.or_false, Bool.or_eq_false_iff, beq_eq_false_iff_ne, ne_eq, Prod.mk.injEq, not_and]
      omega) (by
      simp only [List.contains_cons, List.contains_nil, Bool.or_false, Bool.or_eq_false_iff, beq_eq_false_iff_ne, ne_eq]
      omega)
    exact e1.trans e2
  have t13 : ∀ s5, KG s4 s5 → s5 13 = s4 13 ∧ s5 14 = s4 14 ∧ s5 15 = s4 15 := fun s5 k5 => ⟨funext (fun j => k5 13 j rfl rfl), funext (fun j => k5 14 j rfl rfl), funext (fun j => k5 15 j rfl rfl)⟩
  refine cj_wk_X3_read (fun v s5 p1 p2 => ?_) (wl_wk_X3_read (fun v s p => p) (sp_gread (Q := fun v s => KG s4 s ∧ (v = 0 ∨ (v = 1 ∧ RDk s))) tk (fun s k5 => ⟨k5, Or.inl rfl⟩) (fun s k5 rd => ⟨k5, Or.inr ⟨rfl, rd⟩⟩))) (gt_read (Q := fun v s => (v = 1 ∧ ∃ g, EVq (fun n => UNn kd vl n 0) (some g) ∧ TBL s (fltq 0 g)) ∨ (v = 0 ∧ EVq (fun n => UNn kd vl n 0) none)) tkv (fun s g e _ tb _ => Or.inl ⟨rfl, g, e, tb⟩) (fun s _ e => Or.inr ⟨rfl, e⟩))
  obtain ⟨k5, prd⟩ := p1
  have w5 := kc s5 k5
  have row : ∀ c, c ≠ 2 → c ≠ 3 → ¬ (13 ≤ c ∧ c ≤ 23) → s5 c = w1 c := fun c c2 c3 c4 => funext (fun j => w5 c j c2 c3 c4)
  have v5 : s5 5 = w 5 := (row 5 (by decide) (by decide) (by omega)).trans (r1' 5 (by decide))
  have v4 : s5 4 = w 4 := (row 4 (by decide) (by decide) (by omega)).trans (r1' 4 (by decide))
  have v0 : s5 0 = w1 0 := row 0 (by decide) (by decide) (by omega)
  have v1' : s5 1 = w 1 := (row 1 (by decide) (by decide) (by omega)).trans (r1' 1 (by decide))
  have v25 : s5 25 = w 25 := (row 25 (by decide) (by decide) (by omega)).trans (r1' 25 (by decide))
  have v27 : s5 27 = w 27 := (row 27 (by decide) (by decide) (by omega)).trans (r1' 27 (by decide))
  have v29 : s5 29 = w 29 := (row 29 (by decide) (by decide) (by omega)).trans (r1' 29 (by decide))
  have v37 : s5 37 = w 37 := (row 37 (by decide) (by decide) (by omega)).trans (r1' 37 (by decide))
  have v34 : s5 34 = w 34 := (row 34 (by decide) (by decide) (by omega)).trans (r1' 34 (by decide))
  refine ⟨fun cv => ?_, fun cv => ?_⟩
  rotate_left
  · -- no unit
    rcases p2 with ⟨hv, _⟩ | ⟨_, hn⟩
    · rw [hv] at cv; exact absurd cv (by decide)
    · have sm : SAx σ s' := by
        rcases hev with ⟨hv1, _⟩ | ⟨g, hg, _⟩
        · rcases hfin with ⟨h0, _⟩ | ⟨_, sm⟩
          · rw [hv1] at h0; exact absurd h0 (by decide)
          · rw [sm]; exact sax_1 kx ol hE
        · have := ev_one hg hn
          cases this
      refine same sm _ _ (by rw [rdC_ne (by decide), v5]) (fun k _ => by rw [rdC_ne (by decide), v34]) (by rw [rdC_ne (by decide), v37]) (fun e _ => ?_)
      have x25 : (upC s5 0 3 (atv 16002 (s5 15) (s5 3 3))) 25 = w 25 := by rw [rdC_ne (by decide), v25]
      exact ⟨fl_eq x25, fl_eq x25, fl_eq x25⟩
  rcases p2 with ⟨_, g, hg, tb⟩ | ⟨hv, _⟩
  rotate_left
  · rw [hv] at cv; exact absurd rfl cv
  have rd : RDk s5 := by
    rcases prd with hv | ⟨_, rd⟩
    · rw [hv] at cv; exact absurd rfl cv
    · exact rd
  have hu : UNw kd n lo g σ1 v1 s1 := by
    rcases hev with ⟨_, hn⟩ | ⟨g', hg', hu⟩
    · have := ev_one hg hn
      cases this
    · have := Option.some.inj (ev_one hg' hg)
      rw [this] at hu
      exact hu
  obtain ⟨x13, x14, x15⟩ := t13 s5 k5
  have a_pl : PLA s5 := by unfold PLA; rw [x15]; exact pl4
  have a_nm : NMr s5 := by unfold NMr; rw [x13, x14, x15]; exact nm4
  have sz : (s5 2 1).toInt = (w 0 1).toInt := by rw [show s5 2 1 = s4 2 1 from k5 2 1 rfl rfl]; exact z4
  have dd := d0 o (Nat.le_refl _)
  have a_sz : (s5 2 1).toInt ≤ 16000 := by rw [sz]; exact f1.2.1
  have a_by : ByteOK (s5 1) := by rw [v1']; exact g3
  have a_hd : 0 ≤ (s5 5 1).toInt ∧ (s5 5 1).toInt ≤ 10000 := by rw [v5]; omega
  have a_l0 : 0 ≤ (s5 4 1).toInt := by rw [v4]; exact f2.1
  have a_lb : (s5 4 1).toInt + 4 * (s5 2 1).toInt ≤ 262144 := by rw [v4, sz]; omega
  have a_hn : 0 ≤ (s5 5 7).toInt ∧ (s5 5 7).toInt + (s5 2 1).toInt ≤ 65600 := by rw [v5, sz]; omega
  have a_nme : NME s5 := by unfold NME; rw [v5, v29]; exact h6
  have a_fx : ∀ j, FLb ((s5 25) j) 1 → spar ((s5 27) j) ≤ 8 := by rw [v25, v27]; exact g4
  have hS1 := s0_k kσ hS
  have c1 : σ1 1 = σ 1 := (funext (fun j => kσ 1 j rfl rfl)).trans e1
  have c31 : σ1 0 31 = σ 0 31 := (kσ 0 31 rfl rfl).trans e31
  have hC5 : FNq s5 L c := by
    obtain ⟨m1, m2, m3⟩ := hC
    refine ⟨by rw [show s5 2 4 = s4 2 4 from k5 2 4 rfl rfl]; exact m1, fun j k v q hj => ?_, by rw [x13]; exact m3⟩
    rw [x13, x14, x15]
    exact m2 j k v q hj
  refine cj_wk_X7_walk (fun s p1 p2 => ?_) (wl_wk_X7_walk (fun s p => p) (sp_walk (Q := fun s => ∃ ρ, Kp [(6, 2), (6, 3), (6, 4), (6, 5), (6, 7), (6, 6), (6, 10), (6, 15), (6, 17), (8, 6), (8, 8), (7, 7), (9, 5)] [] s5 ρ ∧ WDx ρ s) rd a_sz a_nm a_pl a_by a_hd a_l0 a_lb a_hn a_nme a_fx (fun ρ s kρ o0 wd hz => ⟨ρ, kρ, wd⟩))) (cw_walk (Q := fun r => ((r 6 3).toInt ≠ 0 → v1.toInt ≠ 0) ∧ ((r 6 3).toInt = 0 → v1.toInt = 0 ∧ ∃ m, URq kd n m lo r s1)) (B := v1.toInt ≠ 0) rd a_sz a_nm a_pl a_by a_hd a_l0 a_lb a_hn a_nme a_fx tb (fun ρ kρ z63 z65 z67 z66 z615 z86 z77 z95 => hu ρ (ur_start (tl_both hN0 hr hfi hM ?_ hT ?_) hS1 z615 z67 ?_ ?_ z65 z77 z66 z86 z95) z63) (fun b r hr => ⟨fun _ => b, fun hx => absurd hx hr⟩))
  rotate_left
  · obtain ⟨m1, m2, m3⟩ := hC5
    have y13 : ρ 13 = s5 13 := funext (fun j => kρ 13 j rfl rfl)
    have y14 : ρ 14 = s5 14 := funext (fun j => kρ 14 j rfl rfl)
    have y15 : ρ 15 = s5 15 := funext (fun j => kρ 15 j rfl rfl)
    refine ⟨by rw [kρ 2 4 rfl rfl]; exact m1, fun j k v q hj => ?_, by rw [y13]; exact m3⟩
    rw [y13, y14, y15]
    exact m2 j k v q hj
  · intro i _
    rw [kρ 1 i rfl rfl, v1', c1]
    exact r6 i
  · rw [kρ 5 1 rfl rfl, v5]; omega
  · rw [kρ 5 7 rfl rfl, v5, c31]; exact r3
  obtain ⟨ρ, kρ, wd⟩ := p1
  have kw := wd.1.1
  have s513 : s 5 13 = w 5 13 := by rw [kw 5 13 (op_lt (by decide)) rfl rfl, kρ 5 13 rfl rfl, v5]
  have s34 : ∀ k, s 34 k = w 34 k := fun k => by rw [kw 34 k (op_lt (by decide)) rfl rfl, kρ 34 k rfl rfl, v34]
  have s37 : s 37 = w 37 := funext (fun k => by rw [kw 37 k (op_lt (by decide)) rfl rfl, kρ 37 k rfl rfl, v37])
  have e513 : (s 5 13).toInt = o := by rw [s513]; exact h1
  have oldf : ∀ e : Nat, (e : Int) < (σ 0 36).toInt → (FLq s (e + 4) 1 ↔ FLq w (e + 4) 1) ∧ (FLq s (e + 4) 2 ↔ FLq w (e + 4) 2) ∧ (FLq s (e + 4) 4 ↔ FLq w (e + 4) 4) := fun e he => by
    have hd : ((e + 4 : Nat) : Int) < (ρ 5 1).toInt := by rw [kρ 5 1 rfl rfl, v5]; omega
    obtain ⟨_, _, _, _, x1, x2, x4, _⟩ := wd.1.2.2.1.2.1 (e + 4) hd
    have y25 : ρ 25 = w 25 := (funext (fun j => kρ 25 j rfl rfl)).trans v25
    rw [y25] at x1 x2 x4
    unfold FLq
    rw [x1, x2, x4]
    exact ⟨Iff.rfl, Iff.rfl, Iff.rfl⟩
  refine ⟨fun f0 => ?_, fun f0 => ?_⟩
  · obtain ⟨hv0, m, hUR⟩ := p2.2 f0
    have hO := hUR.1.2.2.1
    obtain ⟨D, hD1, hD2, _⟩ := hUR.1.2.2.2.1
    rcases hfin with ⟨_, es'⟩ | ⟨hv1, _⟩
    rotate_left
    · exact absurd hv0 hv1
    have e514 : ((s 5 13) + (1 : Int32)).toInt = ((o + 1 : Nat) : Int) := by rw [ad1 (by omega), e513]; rfl
    have f35 : s1 0 35 = σ 0 35 := kx 0 35 rfl rfl
    have n35 : (s1 0 35).toNatClampNeg = o := nat_of (by rw [f35, ← r1, h1])
    have n351 : ((s1 0 35) + (1 : Int32)).toNatClampNeg = o + 1 := nat_of (by rw [ad1 (by rw [f35, ← r1, h1]; omega), f35, ← r1, h1]; rfl)
    rw [n35, n351] at es'
    unfold pk_X8_keep
    generalize ht : upF _ 37 _ = t
    have t513 : t 5 13 = (s 5 13) + (1 : Int32) := by rw [← ht, rdF_ne (by decide), rdF_ne (by decide), rdF_ne (by decide), rdF_ne (by decide), rdA_eq rfl]
    have t25 : t 25 = s 25 := by rw [← ht, rdF_ne (by decide), rdF_ne (by decide), rdF_ne (by decide), rdF_ne (by decide), rdC_ne (by decide)]
    have t34 : t 34 = fun q => if q = o + 1 then s 5 1 else s 34 q := by rw [← ht, rdF_ne (by decide), rdF_ne (by decide), rdF_ne (by decide), rdF_eq, setv_at e514 (by omega), rdC_ne (by decide)]
    have t37 : t 37 = fun q => if q = o + 1 then s 6 5 else s 37 q := by rw [← ht, rdF_eq, setv_at e514 (by omega), rdF_ne (by decide), rdF_ne (by decide), rdF_ne (by decide), rdC_ne (by decide)]
    clear ht
    have u22 : ∀ q, s' 22 q = if q = o + 1 then s1 0 36 else s1 22 q := fun q => by rw [es', rdC_ne (by decide), rdC_eq, rdC_ne (by decide), rdC_ne (by decide)]
    have u23 : ∀ q, s' 23 q = if q = o then s1 0 37 else s1 23 q := fun q => by rw [es', rdC_ne (by decide), rdC_ne (by decide), rdC_ne (by decide), rdC_eq]
    have u36 : s' 0 36 = s1 0 36 := by rw [es', rdC_ne (by decide), rdC_ne (by decide), rdA_ne (by decide), rdC_ne (by decide)]
    have urow : ∀ c, c ≠ 0 → c ≠ 22 → c ≠ 23 → c ≠ 24 → s' c = s1 c := fun c c0 c22 c23 c24 => by rw [es', rdC_ne c24, rdC_ne c22, rdC_ne c0, rdC_ne c23]
    have z22 : ∀ q, s1 22 q = σ 22 q := fun q => kx 22 q rfl rfl
    have z23 : ∀ q, s1 23 q = σ 23 q := fun q => kx 23 q rfl rfl
    have e36 := hO.2.2.2.2.1.2.1
    have e51 := hO.2.2.2.1.1
    clear es'
    refine k _ t ⟨fun k hk => ?_, fun k hk => ?_, fun e he => ?_⟩
    · rw [t513, e514] at hk
      rw [t34, u22]
      show (if k = o + 1 then s 5 1 else s 34 k).toInt = _
      by_cases c : k = o + 1
      · rw [if_pos c, if_pos c, e51, e36]; omega
      · rw [if_neg c, if_neg c, s34, z22]
        exact re.1 k (by omega)
    · rw [t513, e514] at hk
      rw [t37, u23]
      show (if k + 1 = o + 1 then s 6 5 else s 37 (k + 1)).toInt = _
      by_cases c : k = o
      · rw [if_pos (by omega), if_pos c, hD1, hD2]
      · rw [if_neg (by omega), if_neg c, s37, z23]
        exact re.2.1 k (by omega)
    · rw [u36, e36] at he
      rw [urow 9 (by decide) (by decide) (by decide) (by decide), urow 12 (by decide) (by decide) (by decide) (by decide), urow 13 (by decide) (by decide) (by decide) (by decide)]
      unfold FLq
      rw [t25]
      by_cases c : e < lo
      · have he' : (e : Int) < (σ 0 36).toInt := by omega
        obtain ⟨x1, x2, x4⟩ := oldf e he'
        obtain ⟨y9, _, y12, y13, _⟩ := ol e he'
        rw [y9, y12, y13]
        obtain ⟨q1, q2, q4, q9⟩ := re.2.2 e he'
        exact ⟨x1.trans q1, x2.trans q2, x4.trans q4, q9⟩
      · obtain ⟨i, hi⟩ : ∃ i, e = lo + i := ⟨e - lo, by omega⟩
        have him : i < m := by omega
        have ho := hO.2.2.2.2.2 i him
        have ed : (s 5 1).toInt.toNat - m + i = e + 4 := by omega
        rw [ed, ← hi] at ho
        obtain ⟨_, _, _, _, q1, q9, _, _, _, _, _, q2, q4, _, _, _, _⟩ := ho
        exact ⟨q1, q2, q4, q9⟩
  · have hv1 := p2.1 f0
    have sm : SAx σ s' := by
      rcases hfin with ⟨h0, _⟩ | ⟨_, sm⟩
      · exact absurd h0 hv1
      · rw [sm]; exact sax_1 kx ol hE
    unfold pk_X8_forget pk_X8_nameStart pk_X0_cut
    dsimp only
    refine same sm _ _ ?_ (fun k _ => ?_) ?_ (fun e he => ?_)
    · rw [rdC_ne (by decide), rdC_ne (by decide), rdA_ne (by decide), rdA_ne (by decide), rdA_ne (by decide)]; exact s513
    · rw [rdC_ne (by decide), rdC_ne (by decide), rdC_ne (by decide), rdC_ne (by decide), rdC_ne (by decide)]; exact s34 k
    · rw [rdC_ne (by decide), rdC_ne (by decide), rdC_ne (by decide), rdC_ne (by decide), rdC_ne (by decide)]; exact s37
    · unfold FLq
      rw [rdC_ne (by decide), rdC_ne (by decide), rdC_ne (by decide), rdC_ne (by decide), rdC_ne (by decide)]
      exact oldf e he
end PLX
end

section
/-! count(), both sides -/
/-- how many of n from lo on have nothing -/
def czn (f : Nat → Int) (lo : Nat) : Nat → Nat
  | 0 => 0
  | n + 1 => czn f lo n + if f (lo + n) = 0 then 1 else 0
def CNw (w : St) (a b v : Int32) : Prop := (¬ (1 ≤ a.toInt ∧ a.toInt ≤ (w 5 13).toInt ∧ 0 ≤ b.toInt ∧ b.toInt ≤ 1) → v = -1) ∧ ∀ A : Nat, a.toInt = (A : Int) + 1 → a.toInt ≤ (w 5 13).toInt → (b.toInt = 1 → v = w 37 (A + 1)) ∧ (b.toInt = 0 → v.toInt = ((czn (fun d => ((w 25 d) &&& 2).toInt) (w 34 A).toInt.toNat ((w 34 (A + 1)).toInt.toNat - (w 34 A).toInt.toNat) : Nat) : Int))
def CNm (σ : St) (a b v : Int32) : Prop := (¬ (1 ≤ a.toInt ∧ a.toInt ≤ (σ 0 35).toInt ∧ 0 ≤ b.toInt ∧ b.toInt ≤ 1) → v = -1) ∧ ∀ A : Nat, a.toInt = (A : Int) + 1 → a.toInt ≤ (σ 0 35).toInt → (b.toInt = 1 → v = σ 23 A) ∧ (b.toInt = 0 → v.toInt = ((czn (fun e => (σ 12 e).toInt) (σ 22 A).toInt.toNat ((σ 22 (A + 1)).toInt.toNat - (σ 22 A).toInt.toNat) : Nat) : Int))
section CNT
variable {w σ s t τ : St} {vs z : List Nat} {a b x x2 x3 y : Int32} {o n lo N A : Nat} {f g : Nat → Int}
theorem cz_s : czn f lo (n + 1) = czn f lo n + if f (lo + n) = 0 then 1 else 0 := rfl
theorem cz_le : ∀ {n : Nat}, czn f lo n ≤ n
  | 0 => Nat.le_refl 0
  | n + 1 => by
    have : czn f lo n ≤ n := cz_le
    rw [cz_s]
    by_cases c : f (lo + n) = 0
    · rw [if_pos c]; omega
    · rw [if_neg c]; omega
theorem cz_eq {lo2 : Nat} : ∀ {n : Nat}, (∀ i, i < n → (f (lo + i) = 0 ↔ g (lo2 + i) = 0)) → czn f lo n = czn g lo2 n
  | 0, _ => rfl
  | n + 1, h => by
    rw [cz_s, cz_s, cz_eq (n := n) (fun i hi => h i (Nat.lt_succ_of_lt hi))]
    have h1 := h n (Nat.lt_succ_self n)
    by_cases c : f (lo + n) = 0
    · rw [if_pos c, if_pos (h1.1 c)]
    · rw [if_neg c, if_neg (fun c2 => c (h1.2 c2))]
theorem px_count {Q : Int32 → Prop} (h : IVx w o) (k : ∀ v, CNw w a b v → Q v) : pk_X12_count a b w Q := by
  obtain ⟨⟨h1, h1'⟩, h2, h3, -⟩ := h
  have d0 := de_le h2
  have e1 : (1 : Int32).toInt = 1 := i1
  have bad : ∀ v : Int32, v = -1 → ¬ (1 ≤ a.toInt ∧ a.toInt ≤ (w 5 13).toInt ∧ 0 ≤ b.toInt ∧ b.toInt ≤ 1) → Q v := fun v hv hn => by
    refine k v ⟨fun _ => hv, fun A hA hA2 => ⟨fun hb => absurd ⟨by omega, hA2, by omega, by omega⟩ hn, fun hb => absurd ⟨by omega, hA2, by omega, by omega⟩ hn⟩⟩
  unfold pk_X12_count pk_X8_has
  refine ⟨fun c => ⟨fun _ => bad _ rfl (by omega), fun hx => absurd rfl hx⟩, fun c1 => ⟨fun c2 => ⟨fun _ => bad _ rfl (by omega), fun hx => absurd rfl hx⟩, fun c2 => ⟨fun hx => absurd hx (by decide), fun _ => ⟨fun c3 => bad _ rfl (by omega), fun c3 => ⟨fun c4 => ⟨fun c5 => ?_, fun c5 => ?_⟩, fun c4 => bad _ rfl (by omega)⟩⟩⟩⟩⟩
  · obtain ⟨A, hA⟩ : ∃ A : Nat, a.toInt = (A : Int) + 1 := ⟨(a.toInt - 1).toNat, by omega⟩
    have at37 : atv 101 (w 37) a = w 37 (A + 1) := atv_at (by rw [hA]; rfl) (by omega)
    rw [at37]
    refine k _ ⟨fun hn => absurd ⟨c1, c2, c3, c4⟩ hn, fun B hB _ => ⟨fun _ => ?_, fun hb => absurd hb c5⟩⟩
    have : B = A := by omega
    rw [this]
  · obtain ⟨A, hA⟩ : ∃ A : Nat, a.toInt = (A : Int) + 1 := ⟨(a.toInt - 1).toNat, by omega⟩
    have hAo : A + 1 ≤ o := by omega
    have a34 : atv 101 (w 34) a = w 34 (A + 1) := atv_at (by rw [hA]; rfl) (by omega)
    have a33 : atv 101 (w 34) (a - (1 : Int32)) = w 34 A := atv_at (by rw [sb (by omega) (by omega), e1]; omega) (by omega)
    have q1 := d0 A (by omega)
    have q2 := d0 (A + 1) hAo
    have q3 := h2.2 A (by omega)
    unfold pk_X8_symbolsOf pk_X8_firstOf
    rw [a33, a34]
    refine ⟨fun _ => ?_, fun hx => by omega⟩
    refine ⟨fun x2 x3 => ∃ n : Nat, x3.toInt = (((w 34 A).toInt.toNat + n : Nat) : Int) ∧ n ≤ (w 34 (A + 1)).toInt.toNat - (w 34 A).toInt.toNat ∧ x2.toInt = ((czn (fun d => ((w 25 d) &&& 2).toInt) (w 34 A).toInt.toNat n : Nat) : Int), ⟨0, by omega, Nat.zero_le _, rfl⟩, ?_⟩
    rintro x2 x3 ⟨n, hx3, hn, hx2⟩
    refine ⟨fun c => ?_, fun c => ?_⟩
    · have en : n = (w 34 (A + 1)).toInt.toNat - (w 34 A).toInt.toNat := by omega
      rw [en] at hx2
      refine k _ ⟨fun hn => absurd ⟨c1, c2, c3, c4⟩ hn, fun B hB _ => ⟨fun hb => by omega, fun _ => ?_⟩⟩
      have : B = A := by omega
      rw [this]
      exact hx2
    · have af : atv 10100 (w 25) x3 = w 25 ((w 34 A).toInt.toNat + n) := atv_at hx3 (by omega)
      have hle := cz_le (f := fun d => ((w 25 d) &&& 2).toInt) (lo := (w 34 A).toInt.toNat) (n := n)
      refine xl_is (fun v _ hv => ⟨fun y => y.toInt = if ((w 25 ((w 34 A).toInt.toNat + n)) &&& 2).toInt = 0 then 1 else 0, fun y _ hy => ⟨n + 1, ?_, by omega, ?_⟩, fun hz => ?_, fun hz => ?_⟩)
      · rw [ad1 (by omega), hx3]; rfl
      · have yr : 0 ≤ y.toInt ∧ y.toInt ≤ 1 := by rw [hy]; split <;> decide
        rw [ad (by omega) (by omega), hx2, hy, cz_s]
        show _ = (((czn (fun d => ((w 25 d) &&& 2).toInt) (w 34 A).toInt.toNat n + if ((w 25 ((w 34 A).toInt.toNat + n)) &&& 2).toInt = 0 then 1 else 0 : Nat)) : Int)
        by_cases cc : ((w 25 ((w 34 A).toInt.toNat + n)) &&& 2).toInt = 0
        · rw [if_pos cc, if_pos cc]; rfl
        · rw [if_neg cc, if_neg cc]; rfl
      · rw [af] at hv
        rw [if_pos (Classical.byContradiction (fun hc => (hv.2 hc) hz))]
        rfl
      · rw [af] at hv
        rw [if_neg (hv.1 hz)]
        rfl
theorem rx_count {Q : Int32 → Prop} (h : GLI σ τ vs) (hd : ∀ A : Nat, ((A : Int) + 1) ≤ (σ 0 35).toInt → 0 ≤ (σ 22 A).toInt ∧ (σ 22 A).toInt ≤ (σ 22 (A + 1)).toInt ∧ (σ 22 (A + 1)).toInt ≤ 10000) (k : ∀ v, CNm σ a b v → Q v) : pp_count a b σ τ vs Q := by
  obtain ⟨⟨-, ⟨o1, o2⟩, -⟩, -⟩ := h
  have e1 : (1 : Int32).toInt = 1 := i1
  have bad : ∀ v : Int32, v = -1 → ¬ (1 ≤ a.toInt ∧ a.toInt ≤ (σ 0 35).toInt ∧ 0 ≤ b.toInt ∧ b.toInt ≤ 1) → Q v := fun v hv hn => by
    refine k v ⟨fun _ => hv, fun A hA hA2 => ⟨fun hb => absurd ⟨by omega, hA2, by omega, by omega⟩ hn, fun hb => absurd ⟨by omega, hA2, by omega, by omega⟩ hn⟩⟩
  unfold pp_count pp_isObject
  refine ⟨fun c => ⟨fun hx => absurd rfl hx, fun _ => bad _ rfl (by omega)⟩, fun c1 => ⟨fun c2 => ⟨fun hx => absurd rfl hx, fun _ => bad _ rfl (by omega)⟩, fun c2 => ⟨fun _ => ?_, fun hx => absurd hx (by decide)⟩⟩⟩
  obtain ⟨A, hA⟩ : ∃ A : Nat, a.toInt = (A : Int) + 1 := ⟨(a.toInt - 1).toNat, by omega⟩
  have na1 : (a - (1 : Int32)).toNatClampNeg = A := nat_of (by rw [sb (by omega) (by omega), e1]; omega)
  have na : a.toNatClampNeg = A + 1 := nat_of (by rw [hA]; rfl)
  obtain ⟨q1, q2, q3⟩ := hd A (by omega)
  refine ⟨fun c5 => ⟨fun c6 => bad _ rfl (by omega), fun c6 _ => ?_⟩, fun c5 => ?_⟩
  · rw [na1]
    refine k _ ⟨fun hn => absurd ⟨c1, c2, by omega, by omega⟩ hn, fun B hB _ => ⟨fun _ => ?_, fun hb => absurd hb c5⟩⟩
    have : B = A := by omega
    rw [this]
  · unfold pp_symbols
    rw [na1, na]
    refine fun _ => ⟨fun x2 x3 => ∃ n : Nat, x3.toInt = (((σ 22 A).toInt.toNat + n : Nat) : Int) ∧ n ≤ (σ 22 (A + 1)).toInt.toNat - (σ 22 A).toInt.toNat ∧ x2.toInt = ((czn (fun e => (σ 12 e).toInt) (σ 22 A).toInt.toNat n : Nat) : Int), ⟨0, by omega, Nat.zero_le _, rfl⟩, ?_⟩
    rintro x2 x3 ⟨n, hx3, hn, hx2⟩
    refine fun _ => ⟨fun c => ?_, fun c => ?_⟩
    · have en : n = (σ 22 (A + 1)).toInt.toNat - (σ 22 A).toInt.toNat := by omega
      rw [en] at hx2
      refine k _ ⟨fun hn => absurd ⟨c1, c2, by omega, by omega⟩ hn, fun B hB _ => ⟨fun hb => by omega, fun _ => ?_⟩⟩
      have : B = A := by omega
      rw [this]
      exact hx2
    · have n3 : x3.toNatClampNeg = (σ 22 A).toInt.toNat + n := nat_of hx3
      have hle := cz_le (f := fun e => (σ 12 e).toInt) (lo := (σ 22 A).toInt.toNat) (n := n)
      rw [n3]
      refine fun _ => ⟨fun x => x.toInt = ((czn (fun e => (σ 12 e).toInt) (σ 22 A).toInt.toNat (n + 1) : Nat) : Int), fun x hx => ⟨n + 1, ?_, by omega, hx⟩, fun hz => ?_, fun hz => ?_⟩
      · rw [ad1 (by omega), hx3]; rfl
      · rw [cz_s, if_neg hz]; exact hx2
      · show (x2 + 1).toInt = _
        rw [cz_s, if_pos hz, ad1 (by omega), hx2]
        rfl
/-- the answers are one -/
theorem cnt_eq {v v2 : Int32} (h : IVx w o) (r : RLp w σ) (re : RLe w σ) (c : CNw w a b v) (m : CNm σ a b v2) : v = v2 := by
  obtain ⟨⟨h1, h1'⟩, h2, h3, -⟩ := h
  have d0 := de_le h2
  have e35 := r.1
  by_cases hv : 1 ≤ a.toInt ∧ a.toInt ≤ (w 5 13).toInt ∧ 0 ≤ b.toInt ∧ b.toInt ≤ 1
  · obtain ⟨A, hA⟩ : ∃ A : Nat, a.toInt = (A : Int) + 1 := ⟨(a.toInt - 1).toNat, by omega⟩
    obtain ⟨c1, c0⟩ := c.2 A hA hv.2.1
    obtain ⟨m1, m0⟩ := m.2 A hA (by omega)
    have hAo : A + 1 ≤ o := by omega
    by_cases hb : b.toInt = 1
    · rw [c1 hb, m1 hb]
      exact ieq (re.2.1 A (by omega))
    · have hb0 : b.toInt = 0 := by omega
      refine ieq ?_
      rw [c0 hb0, m0 hb0]
      have w1 := re.1 A (by omega)
      have w2 := re.1 (A + 1) (by omega)
      have mo := de_mono h2 (Nat.le_refl o) (A + 1) hAo
      have q1 := d0 A (by omega)
      have q3 := h2.2 A (by omega)
      have r2 := r.2.1
      have en : (w 34 (A + 1)).toInt.toNat - (w 34 A).toInt.toNat = (σ 22 (A + 1)).toInt.toNat - (σ 22 A).toInt.toNat := by omega
      rw [en]
      refine congrArg (fun n : Nat => (n : Int)) (cz_eq (fun i hi => ?_))
      have he : (((σ 22 A).toInt.toNat + i : Nat) : Int) < (σ 0 36).toInt := by omega
      have q := (re.2.2 _ he).2.1
      have ei : (w 34 A).toInt.toNat + i = (σ 22 A).toInt.toNat + i + 4 := by omega
      show ((w 25 ((w 34 A).toInt.toNat + i)) &&& 2).toInt = 0 ↔ (σ 12 ((σ 22 A).toInt.toNat + i)).toInt = 0
      rw [ei]
      unfold FLq at q
      exact ⟨fun hz => Classical.byContradiction (fun hc => (q.2 hc) hz), fun hz => Classical.byContradiction (fun hc => (q.1 hc) hz)⟩
  · rw [c.1 hv, m.1 (by rw [← e35]; exact hv)]
end CNT
end

section
/-! frames of the reference: no array below 40 is written -/
def FGs (w s : St) : Prop := ∀ c, 1 ≤ c → c ≤ 39 → s c = w c
theorem fg_rf {w : St} : FGs w w := fun _ _ _ => rfl
theorem fg_c {w s : St} {c k : Nat} {v : Int32} (h : FGs w s) (hc : c = 0 ∨ 40 ≤ c) : FGs w (upC s c k v) := fun q h1 h2 => by
  rw [rdC_ne (by omega)]
  exact h q h1 h2
theorem fg_pp_isObject {a1 : Int32} {σ : St} {τ : St} {vs : List Nat} {Q : Int32 → Prop} (k : ∀ (v0 : Int32), Q v0) : pp_isObject a1 σ τ vs Q := by
  unfold pp_isObject
  exact ⟨(fun _ => (k _)), (fun _ => ⟨(fun _ => (k _)), (fun _ => (k _))⟩)⟩
theorem fg_pp_pick {w : St} {a1 : Int32} {σ : St} {τ : St} {vs : List Nat} {Q : Int32 → St → St → List Nat → Prop} (hs : FGs w σ) (k : ∀ (v0 : Int32) (v1 : St) (v2 : St) (v3 : List Nat), FGs w v1 → Q v0 v1 v2 v3) : pp_pick a1 σ τ vs Q := by
  unfold pp_pick
  exact (fg_pp_isObject (fun v2 => ⟨(fun _ => ⟨(fun x1_ => True), ⟨trivial, (fun x2_12 => fun j2_ => ⟨(fun _ => (fun _ => (k _ _ _ _ (fg_c (fg_c hs (by decide)) (by decide))))), (fun _ => (fun _ => ⟨(fun _ => trivial), (fun _ => (k _ _ _ _ hs))⟩))⟩)⟩⟩), (fun _ => (k _ _ _ _ hs))⟩))
theorem fg_pp_isSymbol {a1 : Int32} {a2 : Int32} {σ : St} {τ : St} {vs : List Nat} {Q : Int32 → Prop} (k : ∀ (v0 : Int32), Q v0) : pp_isSymbol a1 a2 σ τ vs Q := by
  unfold pp_isSymbol
  exact (fun _ => ⟨(fun _ => (k _)), (fun _ => (fun _ => ⟨(fun _ => (k _)), (fun _ => (k _))⟩))⟩)
theorem fg_pp_mainOf {a1 : Int32} {σ : St} {τ : St} {vs : List Nat} {Q : Int32 → Prop} (k : ∀ (v0 : Int32), Q v0) : pp_mainOf a1 σ τ vs Q := by
  unfold pp_mainOf
  exact ⟨(fun x1_ => True), ⟨trivial, (fun x2_2 => fun j2_ => ⟨(fun _ => (k _)), (fun _ => (fun _ => (fun _ => ⟨(fun x3_ => True), ⟨trivial, (fun x3_21 => fun j4_ => fun _ => fun _ => ⟨(fun _ => trivial), (fun _ => (fun _ => ⟨(fun x5_ => True), ⟨(fun y0_121 => fun _ => fun j6_ => ⟨True, ⟨(fun j7_ => trivial), ⟨(fun _ => trivial), (fun _ => (fg_pp_isSymbol (fun v131 => ⟨(fun _ => trivial), (fun _ => (fun _ => ⟨(fun _ => trivial), (fun _ => (fun _ => ⟨(fun _ => trivial), (fun _ => (fun _ => ⟨(fun _ => trivial), (fun _ => (fun _ => (k _)))⟩))⟩))⟩))⟩)))⟩⟩⟩), ⟨True, ⟨(fun j8_ => trivial), ⟨(fun _ => trivial), (fun _ => (fun _ => (fun _ => ⟨(fun _ => trivial), (fun _ => (fun _ => (fun _ => ⟨(fun _ => trivial), (fun _ => (fun _ => (fun _ => ⟨(fun _ => trivial), (fun _ => (fun _ => (fun _ => ⟨(fun _ => trivial), (fun _ => trivial)⟩)))⟩)))⟩)))⟩)))⟩⟩⟩⟩⟩))⟩)⟩⟩)))⟩)⟩⟩
theorem fg_pp_isAlike {a1 : Int32} {a2 : Int32} {σ : St} {τ : St} {vs : List Nat} {Q : Int32 → Prop} (k : ∀ (v0 : Int32), Q v0) : pp_isAlike a1 a2 σ τ vs Q := by
  unfold pp_isAlike
  exact (fun _ => (fun _ => ⟨(fun _ => ⟨(fun x1_ => True), ⟨trivial, (fun x3_19 => fun j2_ => fun _ => ⟨(fun _ => (k _)), (fun _ => (fun _ => (fun _ => (fun _ => (fun _ => ⟨(fun _ => trivial), (fun _ => (k _))⟩)))))⟩)⟩⟩), (fun _ => (k _))⟩))
theorem fg_pp_find {w : St} {a1 : Int32} {a2 : Int32} {σ : St} {τ : St} {vs : List Nat} {Q : Int32 → St → St → List Nat → Prop} (hs : FGs w σ) (k : ∀ (v0 : Int32) (v1 : St) (v2 : St) (v3 : List Nat), FGs w v1 → Q v0 v1 v2 v3) : pp_find a1 a2 σ τ vs Q := by
  unfold pp_find
  exact ⟨(fun x1_ => True), ⟨trivial, (fun x3_2 => fun j2_ => ⟨(fun _ => (k _ _ _ _ hs)), (fun _ => (fun _ => (fun _ => ⟨(fun x3_ => True), ⟨trivial, (fun x4_22 => fun j4_ => fun _ => fun _ => ⟨(fun _ => trivial), (fun _ => (fg_pp_isSymbol (fun v42 => ⟨True, ⟨(fun j5_ => trivial), ⟨(fun _ => trivial), (fun _ => (fg_pp_isAlike (fun v52 => ⟨(fun _ => (k _ _ _ _ (fg_c (fg_c hs (by decide)) (by decide)))), (fun _ => trivial)⟩)))⟩⟩⟩)))⟩)⟩⟩)))⟩)⟩⟩
theorem fg_pp_library_0 {a1 : Int32} {σ : St} {τ : St} {vs : List Nat} {Q : Int32 → Prop} (k : ∀ (v0 : Int32), Q v0) : pp_library_0 a1 σ τ vs Q := by
  unfold pp_library_0
  exact ⟨(fun x1_ x2_ => True), ⟨trivial, (fun x2_4 x3_4 => fun j3_ => ⟨(fun _ => (k _)), (fun _ => ⟨(fun x4_ => True), ⟨trivial, (fun x4_12 => fun j5_ => fun _ => ⟨(fun _ => (fun _ => ⟨(fun x6_ => True), ⟨(fun y0_49 => fun _ => fun j7_ => ⟨(fun x8_ x9_ => True), ⟨trivial, (fun x5_54 x6_54 => fun _ => fun j10_ => ⟨True, ⟨(fun j11_ => ⟨(fun _ => trivial), (fun _ => (k _))⟩), ⟨(fun _ => trivial), (fun _ => ⟨(fun _ => trivial), (fun _ => (fun _ => (fun _ => (fun _ => ⟨(fun x12_ => True), ⟨(fun y0_100 => fun _ => fun j13_ => trivial), ⟨(fun _ => trivial), (fun _ => trivial)⟩⟩⟩))))⟩)⟩⟩⟩)⟩⟩), ⟨(fun _ => trivial), (fun _ => trivial)⟩⟩⟩)), (fun _ => trivial)⟩)⟩⟩)⟩)⟩⟩
theorem fg_pp_aimOf {w : St} {a1 : Int32} {a2 : Int32} {a3 : Int32} {σ : St} {τ : St} {vs : List Nat} {Q : Int32 → St → St → List Nat → Prop} (hs : FGs w σ) (k : ∀ (v0 : Int32) (v1 : St) (v2 : St) (v3 : List Nat), FGs w v1 → Q v0 v1 v2 v3) : pp_aimOf a1 a2 a3 σ τ vs Q := by
  unfold pp_aimOf
  exact (fun _ => ⟨(fun _ => (fun _ => ⟨(fun x1_ => True), ⟨(fun y0_60 => fun j2_ => ⟨(fun _ => (fun _ => ⟨(fun _ => (k _ _ _ _ hs)), (fun _ => (fg_pp_find hs (fun v84 s84 t84 z84 p3_ => ⟨(fun _ => (fun _ => ⟨(fun _ => (fun _ => (k _ _ _ _ p3_))), (fun _ => (fun _ => (fun _ => (k _ _ _ _ p3_))))⟩)), (fun _ => (k _ _ _ _ p3_))⟩)))⟩)), (fun _ => (k _ _ _ _ hs))⟩), ⟨(fun _ => (fg_pp_library_0 (fun v57 => trivial))), (fun _ => trivial)⟩⟩⟩)), (fun _ => (fun _ => ⟨(fun _ => (fun _ => (k _ _ _ _ hs))), (fun _ => (fun _ => (fun _ => (k _ _ _ _ hs))))⟩))⟩)
theorem fg_pp_layAll {w : St} {a1 : Int32} {σ : St} {τ : St} {vs : List Nat} {Q : St → St → List Nat → Prop} (hs : FGs w σ) (k : ∀ (v0 : St) (v1 : St) (v2 : List Nat), FGs w v0 → Q v0 v1 v2) : pp_layAll a1 σ τ vs Q := by
  unfold pp_layAll
  exact ⟨(fun x1_ x2_ x3_ x4_ x5_ => FGs w x3_), ⟨hs, (fun x2_5 x3_5 s5 t5 z5 => fun j6_ => ⟨(fun _ => ⟨(fun x7_ x8_ x9_ x10_ => FGs w x8_), ⟨j6_, (fun x3_55 s55 t55 z55 => fun j11_ => ⟨(fun _ => ⟨(fun x12_ x13_ x14_ x15_ => FGs w x13_), ⟨j11_, (fun x3_79 s79 t79 z79 => fun j16_ => ⟨(fun _ => (k _ _ _ (fg_c j16_ (by decide)))), (fun _ => (fun _ => (fun _ => ⟨(fun x17_ x18_ x19_ x20_ => FGs w x18_), ⟨j16_, (fun x5_103 s103 t103 z103 => fun j21_ => fun _ => ⟨(fun _ => (fun _ => ⟨(fun x22_ x23_ x24_ x25_ => FGs w x23_), ⟨j21_, (fun x5_147 s147 t147 z147 => fun j26_ => fun _ => ⟨(fun _ => (fun _ => (fun _ => (fg_c j26_ (by decide))))), (fun _ => (fun _ => ⟨(fun x27_ => True), ⟨(fun y0_217 => fun j28_ => fun _ => fun _ => fun _ => fun _ => (fg_c j26_ (by decide))), ⟨(fun _ => ⟨(fun _ => trivial), (fun _ => (fun _ => trivial))⟩), (fun _ => (fun _ => (fun _ => trivial)))⟩⟩⟩))⟩)⟩⟩)), (fun _ => (fg_pp_aimOf j21_ (fun v128 s128 t128 z128 p29_ => (fun _ => (fg_c p29_ (by decide))))))⟩)⟩⟩)))⟩)⟩⟩), (fun _ => (fun _ => (fg_c j11_ (by decide))))⟩)⟩⟩), (fun _ => (fun _ => (fun _ => (fun _ => (fun _ => (fun _ => (fg_c (fg_c j6_ (by decide)) (by decide))))))))⟩)⟩⟩
theorem fg_pp_hasType {a1 : Int32} {a2 : Int32} {σ : St} {τ : St} {vs : List Nat} {Q : Int32 → Prop} (k : ∀ (v0 : Int32), Q v0) : pp_hasType a1 a2 σ τ vs Q := by
  unfold pp_hasType
  exact (fun _ => (fun _ => ⟨(fun _ => (k _)), (fun _ => (fun _ => (fun _ => ⟨(fun _ => (fun _ => ⟨(fun _ => (fun _ => (fun _ => ⟨(fun _ => ⟨(fun x1_ => True), ⟨trivial, (fun x3_122 => fun j2_ => fun _ => ⟨(fun _ => (k _)), (fun _ => (fun _ => (fun _ => ⟨(fun _ => trivial), (fun _ => (k _))⟩)))⟩)⟩⟩), (fun _ => (k _))⟩))), (fun _ => (fun _ => ⟨(fun x3_ => True), ⟨(fun y0_56 => fun _ => fun j4_ => fun _ => ⟨(fun x5_ => True), ⟨(fun y1_70 => fun _ => fun j6_ => ⟨(fun _ => (k _)), (fun _ => (fun _ => ⟨(fun _ => (k _)), (fun _ => (fun _ => (fun _ => ⟨(fun _ => (k _)), (fun _ => (k _))⟩)))⟩))⟩), ⟨(fun _ => trivial), (fun _ => trivial)⟩⟩⟩), ⟨(fun _ => trivial), (fun _ => trivial)⟩⟩⟩))⟩)), (fun _ => (k _))⟩)))⟩))
theorem fg_pp_hasLibraryType {a1 : Int32} {a2 : Int32} {σ : St} {τ : St} {vs : List Nat} {Q : Int32 → Prop} (k : ∀ (v0 : Int32), Q v0) : pp_hasLibraryType a1 a2 σ τ vs Q := by
  unfold pp_hasLibraryType
  exact (fun _ => ⟨(fun _ => ⟨(fun _ => (fun _ => ⟨(fun _ => (k _)), (fun _ => (fun _ => ⟨(fun _ => (k _)), (fun _ => (fun _ => ⟨(fun _ => (k _)), (fun _ => (k _))⟩))⟩))⟩)), (fun _ => (fun _ => ⟨(fun _ => (k _)), (fun _ => (fun _ => ⟨(fun _ => (k _)), (fun _ => (k _))⟩))⟩))⟩), (fun _ => (k _))⟩)
theorem fg_pp_holds {w : St} {a1 : Int32} {a2 : Int32} {a3 : Int32} {a4 : Int32} {σ : St} {τ : St} {vs : List Nat} {Q : Int32 → St → St → List Nat → Prop} (hs : FGs w σ) (k : ∀ (v0 : Int32) (v1 : St) (v2 : St) (v3 : List Nat), FGs w v1 → Q v0 v1 v2 v3) : pp_holds a1 a2 a3 a4 σ τ vs Q := by
  unfold pp_holds
  exact (fg_pp_library_0 (fun v2 => ⟨(fun _ => (fg_pp_isSymbol (fun v45 => ⟨(fun _ => ⟨(fun _ => ⟨(fun _ => (fg_pp_find hs (fun v114 s114 t114 z114 p1_ => ⟨(fun _ => (k _ _ _ _ p1_)), (fun _ => (fg_pp_hasType (fun v126 => ⟨(fun _ => (k _ _ _ _ p1_)), (fun _ => (k _ _ _ _ p1_))⟩)))⟩))), (fun _ => (fg_pp_hasLibraryType (fun v98 => ⟨(fun _ => (k _ _ _ _ hs)), (fun _ => (k _ _ _ _ hs))⟩)))⟩), (fun _ => (fun _ => ⟨(fun _ => (k _ _ _ _ hs)), (fun _ => ⟨(fun _ => (k _ _ _ _ hs)), (fun _ => (fg_pp_find hs (fun v77 s77 t77 z77 p2_ => ⟨(fun _ => (k _ _ _ _ p2_)), (fun _ => (k _ _ _ _ p2_))⟩)))⟩)⟩))⟩), (fun _ => (k _ _ _ _ hs))⟩))), (fun _ => (fg_pp_isSymbol (fun v16 => ⟨(fun _ => (k _ _ _ _ hs)), (fun _ => ⟨(fun _ => (k _ _ _ _ hs)), (fun _ => (fg_pp_find hs (fun v30 s30 t30 z30 p3_ => ⟨(fun _ => (k _ _ _ _ p3_)), (fun _ => (k _ _ _ _ p3_))⟩)))⟩)⟩)))⟩))
theorem fg_pp_isFault {w : St} {a1 : Int32} {a2 : Int32} {σ : St} {τ : St} {vs : List Nat} {Q : Int32 → St → St → List Nat → Prop} (hs : FGs w σ) (k : ∀ (v0 : Int32) (v1 : St) (v2 : St) (v3 : List Nat), FGs w v1 → Q v0 v1 v2 v3) : pp_isFault a1 a2 σ τ vs Q := by
  unfold pp_isFault
  exact ⟨(fun x1_ x2_ x3_ x4_ => FGs w x2_), ⟨hs, (fun x3_2 s2 t2 z2 => fun j5_ => ⟨(fun _ => (k _ _ _ _ j5_)), (fun _ => (fun _ => (fun _ => ⟨(fun x6_ x7_ x8_ x9_ x10_ => FGs w x8_), ⟨j5_, (fun x4_25 x5_25 s25 t25 z25 => fun j11_ => fun _ => fun _ => ⟨(fun _ => j11_), (fun _ => (fun _ => ⟨(fun x12_ x13_ x14_ x15_ => FGs w x13_), ⟨(fun x4_82 s82 t82 z82 => fun j16_ => j16_), ⟨(fun _ => (fg_pp_holds j11_ (fun v60 s60 t60 z60 p17_ => ⟨(fun _ => p17_), (fun _ => (k _ _ _ _ (fg_c (fg_c p17_ (by decide)) (by decide))))⟩))), (fun _ => j11_)⟩⟩⟩))⟩)⟩⟩)))⟩)⟩⟩
theorem fg_pp_link {w : St} {σ : St} {τ : St} {vs : List Nat} {Q : Int32 → St → St → List Nat → Prop} (hs : FGs w σ) (k : ∀ (v0 : Int32) (v1 : St) (v2 : St) (v3 : List Nat), FGs w v1 → Q v0 v1 v2 v3) : pp_link σ τ vs Q := by
  unfold pp_link
  exact ⟨(fun x1_ x2_ x3_ x4_ => FGs w x2_), ⟨(fg_c (fg_c (fg_c hs (by decide)) (by decide)) (by decide)), (fun x2_23 s23 t23 z23 => fun j5_ => ⟨(fun _ => (fg_pp_mainOf (fun v49 => ⟨(fun _ => ⟨(fun x6_ x7_ => True), ⟨trivial, (fun x3_65 x4_65 => fun j8_ => ⟨(fun _ => ⟨(fun _ => (fg_pp_layAll (fg_c j5_ (by decide)) (fun s111 t111 z111 p9_ => (k _ _ _ _ p9_)))), (fun _ => (k _ _ _ _ j5_))⟩), (fun _ => (fun _ => (fun _ => trivial)))⟩)⟩⟩), (fun _ => (k _ _ _ _ j5_))⟩))), (fun _ => (fg_pp_isFault j5_ (fun v32 s32 t32 z32 p10_ => ⟨(fun _ => p10_), (fun _ => (k _ _ _ _ p10_))⟩)))⟩)⟩⟩
theorem fg_pp_parametersOf {a1 : Int32} {σ : St} {τ : St} {vs : List Nat} {Q : Int32 → Prop} (k : ∀ (v0 : Int32), Q v0) : pp_parametersOf a1 σ τ vs Q := by
  unfold pp_parametersOf
  exact (fun _ => (k _))
theorem fg_pp_rowOf {a1 : Int32} {σ : St} {τ : St} {vs : List Nat} {Q : Int32 → Prop} (k : ∀ (v0 : Int32), Q v0) : pp_rowOf a1 σ τ vs Q := by
  unfold pp_rowOf
  exact (fun _ => (fun _ => (k _)))
theorem fg_pp_setLocal {w : St} {a1 : Int32} {a2 : Int32} {σ : St} {τ : St} {vs : List Nat} {Q : St → St → List Nat → Prop} (hs : FGs w σ) (k : ∀ (v0 : St) (v1 : St) (v2 : List Nat), FGs w v0 → Q v0 v1 v2) : pp_setLocal a1 a2 σ τ vs Q := by
  unfold pp_setLocal
  exact (fg_pp_rowOf (fun v6 => (fun _ => ⟨(fun _ => (fun _ => (k _ _ _ (fg_c hs (by decide))))), (fun _ => (fun _ => (fun _ => (k _ _ _ (fg_c hs (by decide))))))⟩)))
theorem fg_pp_ends {w : St} {a1 : Int32} {a2 : Int32} {a3 : Int32} {σ : St} {τ : St} {vs : List Nat} {Q : St → St → List Nat → Prop} (hs : FGs w σ) (k : ∀ (v0 : St) (v1 : St) (v2 : List Nat), FGs w v0 → Q v0 v1 v2) : pp_ends a1 a2 a3 σ τ vs Q := by
  unfold pp_ends
  exact (k _ _ _ (fg_c (fg_c (fg_c hs (by decide)) (by decide)) (by decide)))
theorem fg_pp_enter {w : St} {a1 : Int32} {a2 : Int32} {a3 : Int32} {a4 : Int32} {σ : St} {τ : St} {vs : List Nat} {Q : St → St → List Nat → Prop} (hs : FGs w σ) (k : ∀ (v0 : St) (v1 : St) (v2 : List Nat), FGs w v0 → Q v0 v1 v2) : pp_enter a1 a2 a3 a4 σ τ vs Q := by
  unfold pp_enter
  exact ⟨(fun _ => ⟨(fun x1_ => True), ⟨(fun y0_53 => fun j2_ => fun _ => ⟨(fun _ => (fun _ => (fun _ => (fun _ => (fg_pp_parametersOf (fun v125 => ⟨(fun x3_ x4_ x5_ x6_ => FGs w x4_), ⟨(fg_c (fg_c (fg_c (fg_c (fg_c hs (by decide)) (by decide)) (by decide)) (by decide)) (by decide)), (fun x7_133 s133 t133 z133 => fun j7_ => fun _ => ⟨(fun _ => ⟨(fun x8_ x9_ x10_ x11_ => FGs w x9_), ⟨(fg_c j7_ (by decide)), (fun x7_182 s182 t182 z182 => fun j12_ => ⟨(fun _ => (k _ _ _ j12_)), (fun _ => (fun _ => (fg_pp_setLocal j12_ (fun s204 t204 z204 p13_ => p13_))))⟩)⟩⟩), (fun _ => (fun _ => (fg_c j7_ (by decide))))⟩)⟩⟩)))))), (fun _ => (fg_pp_ends (fg_c hs (by decide)) (fun s78 t78 z78 p14_ => (k _ _ _ p14_))))⟩), ⟨(fun _ => (fun _ => trivial)), (fun _ => trivial)⟩⟩⟩), (fun _ => (fg_pp_ends hs (fun s16 t16 z16 p15_ => (k _ _ _ p15_))))⟩
theorem fg_pp_push {w : St} {a1 : Int32} {σ : St} {τ : St} {vs : List Nat} {Q : St → St → List Nat → Prop} (hs : FGs w σ) (k : ∀ (v0 : St) (v1 : St) (v2 : List Nat), FGs w v0 → Q v0 v1 v2) : pp_push a1 σ τ vs Q := by
  unfold pp_push
  exact (fun _ => (k _ _ _ (fg_c (fg_c hs (by decide)) (by decide))))
theorem fg_pp_pop {w : St} {σ : St} {τ : St} {vs : List Nat} {Q : Int32 → St → St → List Nat → Prop} (hs : FGs w σ) (k : ∀ (v0 : Int32) (v1 : St) (v2 : St) (v3 : List Nat), FGs w v1 → Q v0 v1 v2 v3) : pp_pop σ τ vs Q := by
  unfold pp_pop
  exact (fun _ => (k _ _ _ _ (fg_c hs (by decide))))
theorem fg_pp_leave {w : St} {a1 : Int32} {σ : St} {τ : St} {vs : List Nat} {Q : Int32 → St → St → List Nat → Prop} (hs : FGs w σ) (k : ∀ (v0 : Int32) (v1 : St) (v2 : St) (v3 : List Nat), FGs w v1 → Q v0 v1 v2 v3) : pp_leave a1 σ τ vs Q := by
  unfold pp_leave
  exact ⟨(fun x1_ x2_ x3_ x4_ => FGs w x2_), ⟨(fun y0_12 s12 t12 z12 => fun j5_ => ⟨(fun _ => ⟨(fun _ => (fun _ => (k _ _ _ _ (fg_c j5_ (by decide))))), (fun _ => (fg_pp_push (fg_c j5_ (by decide)) (fun s48 t48 z48 p6_ => (fun _ => (k _ _ _ _ p6_)))))⟩), (fun _ => (k _ _ _ _ (fg_c (fg_c (fg_c j5_ (by decide)) (by decide)) (by decide))))⟩), ⟨(fun _ => hs), (fun _ => (fg_pp_pop hs (fun v5 s5 t5 z5 p7_ => p7_)))⟩⟩⟩
theorem fg_pp_isCell {a0 : Int32} {σ : St} {τ : St} {vs : List Nat} {Q : Int32 → Prop} (k : ∀ (v0 : Int32), Q v0) : pp_isCell a0 σ τ vs Q := by
  unfold pp_isCell
  exact ⟨(fun _ => (k _)), (fun _ => ⟨(fun _ => (k _)), (fun _ => (k _))⟩)⟩
theorem fg_pp_trapped {w : St} {a1 : Int32} {a2 : Int32} {σ : St} {τ : St} {vs : List Nat} {Q : St → St → List Nat → Prop} (hs : FGs w σ) (k : ∀ (v0 : St) (v1 : St) (v2 : List Nat), FGs w v0 → Q v0 v1 v2) : pp_trapped a1 a2 σ τ vs Q := by
  unfold pp_trapped
  exact (fun _ => (fun _ => (fg_pp_ends hs (fun s21 t21 z21 p1_ => (k _ _ _ p1_)))))
theorem fg_pp_compared {a0 : Int32} {a1 : Int32} {a2 : Int32} {σ : St} {τ : St} {vs : List Nat} {Q : Int32 → Prop} (k : ∀ (v0 : Int32), Q v0) : pp_compared a0 a1 a2 σ τ vs Q := by
  unfold pp_compared
  exact ⟨(fun _ => ⟨(fun _ => ⟨(fun _ => ⟨(fun _ => (k _)), (fun _ => (k _))⟩), (fun _ => ⟨(fun _ => (k _)), (fun _ => (k _))⟩)⟩), (fun _ => ⟨(fun _ => (k _)), (fun _ => (k _))⟩)⟩), (fun _ => ⟨(fun _ => (k _)), (fun _ => (k _))⟩)⟩
theorem fg_pp_work {a0 : Int32} {a1 : Int32} {a2 : Int32} {σ : St} {τ : St} {vs : List Nat} {Q : Int32 → Prop} (k : ∀ (v0 : Int32), Q v0) : pp_work a0 a1 a2 σ τ vs Q := by
  unfold pp_work
  exact ⟨True, ⟨(fun j1_ => ⟨(fun x2_ => True), ⟨(fun y0_233 => fun j3_ => ⟨(fun x4_ => True), ⟨(fun y1_248 => fun j5_ => ⟨(fun x6_ => True), ⟨(fun y2_263 => fun j7_ => (fg_pp_compared (fun v263 => ⟨(fun _ => (k _)), (fun _ => (k _))⟩))), ⟨(fun _ => trivial), (fun _ => trivial)⟩⟩⟩), ⟨(fun _ => trivial), (fun _ => trivial)⟩⟩⟩), ⟨(fun _ => trivial), (fun _ => trivial)⟩⟩⟩), ⟨(fun _ => ⟨(fun _ => (k _)), (fun _ => (k _))⟩), (fun _ => ⟨(fun _ => ⟨(fun _ => (k _)), (fun _ => (k _))⟩), (fun _ => ⟨(fun _ => trivial), (fun _ => ⟨(fun _ => trivial), (fun _ => ⟨(fun _ => (k _)), (fun _ => ⟨(fun _ => (k _)), (fun _ => ⟨(fun _ => trivial), (fun _ => ⟨(fun _ => trivial), (fun _ => ⟨(fun _ => trivial), (fun _ => ⟨(fun _ => trivial), (fun _ => ⟨(fun _ => trivial), (fun _ => ⟨(fun _ => trivial), (fun _ => ⟨(fun _ => trivial), (fun _ => ⟨(fun _ => trivial), (fun _ => ⟨(fun _ => trivial), (fun _ => ⟨(fun _ => trivial), (fun _ => ⟨(fun _ => trivial), (fun _ => ⟨(fun _ => trivial), (fun _ => ⟨(fun _ => trivial), (fun _ => ⟨(fun _ => (k _)), (fun _ => ⟨(fun _ => (k _)), (fun _ => ⟨(fun _ => (k _)), (fun _ => ⟨(fun _ => trivial), (fun _ => ⟨(fun _ => trivial), (fun _ => ⟨(fun _ => (k _)), (fun _ => ⟨(fun _ => (k _)), (fun _ => ⟨(fun _ => (k _)), (fun _ => ⟨(fun _ => ⟨(fun _ => (fun _ => (k _))), (fun _ => (k _))⟩), (fun _ => ⟨(fun _ => ⟨(fun _ => (fun _ => (k _))), (fun _ => (k _))⟩), (fun _ => trivial)⟩)⟩)⟩)⟩)⟩)⟩)⟩)⟩)⟩)⟩)⟩)⟩)⟩)⟩)⟩)⟩)⟩)⟩)⟩)⟩)⟩)⟩)⟩)⟩)⟩)⟩)⟩)⟩)⟩⟩⟩
theorem fg_pp_emit {w : St} {a1 : Int32} {a2 : Int32} {σ : St} {τ : St} {vs : List Nat} {Q : St → St → List Nat → Prop} (hs : FGs w σ) (k : ∀ (v0 : St) (v1 : St) (v2 : List Nat), FGs w v0 → Q v0 v1 v2) : pp_emit a1 a2 σ τ vs Q := by
  unfold pp_emit
  exact ⟨(fun _ => (fun _ => (k _ _ _ (fg_c (fg_c hs (by decide)) (by decide))))), (fun _ => ⟨(fun _ => (k _ _ _ hs)), (fun _ => (fg_pp_trapped hs (fun s21 t21 z21 p1_ => (k _ _ _ p1_))))⟩)⟩
theorem fg_pp_print {w : St} {a1 : Int32} {a2 : Int32} {σ : St} {τ : St} {vs : List Nat} {Q : St → St → List Nat → Prop} (hs : FGs w σ) (k : ∀ (v0 : St) (v1 : St) (v2 : List Nat), FGs w v0 → Q v0 v1 v2) : pp_print a1 a2 σ τ vs Q := by
  unfold pp_print
  exact ⟨(fun x1_ x2_ x3_ x4_ => FGs w x2_), ⟨(fun x3_19 s19 t19 z19 => fun j5_ => ⟨(fun x6_ => True), ⟨trivial, (fun x5_22 => fun j7_ => fun _ => ⟨(fun _ => ⟨(fun x8_ x9_ x10_ x11_ => FGs w x9_), ⟨j5_, (fun x5_44 s44 t44 z44 => fun j12_ => ⟨(fun _ => (k _ _ _ j12_)), (fun _ => (fun _ => (fg_pp_emit j12_ (fun s66 t66 z66 p13_ => p13_))))⟩)⟩⟩), (fun _ => trivial)⟩)⟩⟩), ⟨(fun _ => hs), (fun _ => (fg_pp_emit hs (fun s13 t13 z13 p14_ => p14_)))⟩⟩⟩
theorem fg_pp_library_1 {w : St} {a1 : Int32} {a2 : Int32} {σ : St} {τ : St} {vs : List Nat} {Q : St → St → List Nat → Prop} (hs : FGs w σ) (k : ∀ (v0 : St) (v1 : St) (v2 : List Nat), FGs w v0 → Q v0 v1 v2) : pp_library_1 a1 a2 σ τ vs Q := by
  unfold pp_library_1
  exact ⟨(fun _ => (fg_pp_pop hs (fun v59 s59 t59 z59 p1_ => ⟨(fun _ => ⟨(fun _ => (k _ _ _ (fg_c (fg_c p1_ (by decide)) (by decide)))), (fun _ => (fg_pp_print p1_ (fun s85 t85 z85 p2_ => (k _ _ _ p2_))))⟩), (fun _ => (fg_pp_emit p1_ (fun s71 t71 z71 p3_ => (k _ _ _ p3_))))⟩))), (fun _ => ⟨(fun x4_ => True), ⟨(fun y1_33 => fun j5_ => (fg_pp_push hs (fun s33 t33 z33 p6_ => ⟨(fun _ => (k _ _ _ p6_)), (fun _ => (k _ _ _ (fg_c p6_ (by decide))))⟩))), ⟨(fun _ => trivial), (fun _ => (fun _ => trivial))⟩⟩⟩)⟩
theorem fg_pp_call_1 {w : St} {a1 : Int32} {a2 : Int32} {a3 : Int32} {σ : St} {τ : St} {vs : List Nat} {Q : Int32 → St → St → List Nat → Prop} (hs : FGs w σ) (k : ∀ (v0 : Int32) (v1 : St) (v2 : St) (v3 : List Nat), FGs w v1 → Q v0 v1 v2 v3) : pp_call_1 a1 a2 a3 σ τ vs Q := by
  unfold pp_call_1
  exact (fun _ => (fun _ => (fun _ => (fun _ => ⟨(fun _ => (fg_pp_enter hs (fun s63 t63 z63 p1_ => ⟨(fun _ => (k _ _ _ _ p1_)), (fun _ => (fun _ => (k _ _ _ _ p1_)))⟩))), (fun _ => (fg_pp_library_1 hs (fun s45 t45 z45 p2_ => (k _ _ _ _ p2_))))⟩))))
theorem fg_pp_getLocal {a1 : Int32} {σ : St} {τ : St} {vs : List Nat} {Q : Int32 → Prop} (k : ∀ (v0 : Int32), Q v0) : pp_getLocal a1 σ τ vs Q := by
  unfold pp_getLocal
  exact (fg_pp_rowOf (fun v6 => (fun _ => ⟨(fun _ => (fun _ => (k _))), (fun _ => (fun _ => (fun _ => (k _))))⟩)))
theorem fg_pp_stepMore {w : St} {a1 : Int32} {a2 : Int32} {σ : St} {τ : St} {vs : List Nat} {Q : Int32 → St → St → List Nat → Prop} (hs : FGs w σ) (k : ∀ (v0 : Int32) (v1 : St) (v2 : St) (v3 : List Nat), FGs w v1 → Q v0 v1 v2 v3) : pp_stepMore a1 a2 σ τ vs Q := by
  unfold pp_stepMore
  exact (fun _ => ⟨True, ⟨(fun j1_ => (fun _ => ⟨(fun x2_ => True), ⟨(fun y1_401 => fun _ => fun j3_ => (fg_pp_leave hs (fun v401 s401 t401 z401 p4_ => (k _ _ _ _ p4_)))), ⟨(fun _ => trivial), (fun _ => trivial)⟩⟩⟩)), ⟨(fun _ => (fg_pp_pop hs (fun v97 s97 t97 z97 p5_ => (fg_pp_isCell (fun v102 => ⟨(fun _ => (fg_pp_trapped p5_ (fun s124 t124 z124 p6_ => (k _ _ _ _ p6_)))), (fun _ => (fun _ => (fg_pp_push p5_ (fun s115 t115 z115 p7_ => (k _ _ _ _ p7_)))))⟩))))), (fun _ => ⟨(fun _ => (fg_pp_pop hs (fun v132 s132 t132 z132 p8_ => (fg_pp_pop p8_ (fun v137 s137 t137 z137 p9_ => (fg_pp_isCell (fun v144 => ⟨(fun x10_ x11_ x12_ => FGs w x10_), ⟨(fun s167 t167 z167 => fun j13_ => (fg_pp_push j13_ (fun s169 t169 z169 p14_ => (k _ _ _ _ p14_)))), ⟨(fun _ => (fg_pp_trapped p9_ (fun s164 t164 z164 p15_ => p15_))), (fun _ => (fun _ => (fg_c p9_ (by decide))))⟩⟩⟩))))))), (fun _ => ⟨(fun _ => trivial), (fun _ => ⟨(fun _ => trivial), (fun _ => ⟨(fun _ => trivial), (fun _ => ⟨(fun _ => trivial), (fun _ => ⟨(fun _ => (fg_pp_pop hs (fun v177 s177 t177 z177 p16_ => (fg_pp_pop p16_ (fun v182 s182 t182 z182 p17_ => ⟨True, ⟨(fun j18_ => (fg_pp_work (fun v224 => (fg_pp_push p17_ (fun s227 t227 z227 p19_ => (k _ _ _ _ p19_)))))), ⟨True, ⟨(fun j20_ => ⟨(fun _ => trivial), (fun _ => (fun _ => (fg_pp_trapped p17_ (fun s213 t213 z213 p21_ => (k _ _ _ _ p21_)))))⟩), ⟨(fun _ => trivial), (fun _ => ⟨(fun _ => trivial), (fun _ => trivial)⟩)⟩⟩⟩⟩⟩))))), (fun _ => ⟨(fun _ => trivial), (fun _ => ⟨(fun _ => trivial), (fun _ => ⟨(fun _ => trivial), (fun _ => ⟨(fun _ => trivial), (fun _ => ⟨(fun _ => trivial), (fun _ => ⟨(fun _ => trivial), (fun _ => ⟨(fun _ => trivial), (fun _ => ⟨(fun _ => (fun _ => (fg_pp_call_1 hs (fun v380 s380 t380 z380 p22_ => (k _ _ _ _ p22_))))), (fun _ => ⟨(fun _ => trivial), (fun _ => ⟨(fun _ => trivial), (fun _ => ⟨(fun _ => (fg_pp_pop hs (fun v235 s235 t235 z235 p23_ => (fg_pp_isCell (fun v240 => ⟨(fun _ => (fun _ => (fun _ => (fun _ => (fun _ => ⟨(fun x24_ => True), ⟨(fun y1_308 => fun j25_ => (fg_pp_push (fg_c p23_ (by decide)) (fun s308 t308 z308 p26_ => (k _ _ _ _ p26_)))), ⟨(fun _ => (fun _ => (fun _ => trivial))), (fun _ => (fun _ => trivial))⟩⟩⟩))))), (fun _ => (fg_pp_trapped p23_ (fun s249 t249 z249 p27_ => (k _ _ _ _ p27_))))⟩))))), (fun _ => ⟨(fun _ => (fg_pp_getLocal (fun v317 => (fun _ => (fg_pp_setLocal hs (fun s333 t333 z333 p28_ => (fun _ => ⟨(fun x29_ => True), ⟨(fun y1_362 => fun j30_ => (fg_pp_push p28_ (fun s362 t362 z362 p31_ => (k _ _ _ _ p31_)))), ⟨(fun _ => (fun _ => trivial)), (fun _ => trivial)⟩⟩⟩))))))), (fun _ => trivial)⟩)⟩)⟩)⟩)⟩)⟩)⟩)⟩)⟩)⟩)⟩)⟩)⟩)⟩)⟩)⟩)⟩)⟩)⟩⟩⟩)
theorem fg_pp_clear {w : St} {a1 : Int32} {σ : St} {τ : St} {vs : List Nat} {Q : St → St → List Nat → Prop} (hs : FGs w σ) (k : ∀ (v0 : St) (v1 : St) (v2 : List Nat), FGs w v0 → Q v0 v1 v2) : pp_clear a1 σ τ vs Q := by
  unfold pp_clear
  exact (fg_pp_rowOf (fun v6 => (fun _ => (fun _ => (fg_pp_rowOf (fun v30 => (fun _ => ⟨(fun x1_ x2_ x3_ x4_ => FGs w x2_), ⟨hs, (fun x4_39 s39 t39 z39 => fun j5_ => ⟨(fun _ => ⟨(fun _ => (k _ _ _ j5_)), (fun _ => (fg_pp_setLocal j5_ (fun s68 t68 z68 p6_ => (k _ _ _ p6_))))⟩), (fun _ => (fun _ => (fg_c j5_ (by decide))))⟩)⟩⟩)))))))
theorem fg_pp_step {w : St} {a1 : Int32} {σ : St} {τ : St} {vs : List Nat} {Q : Int32 → St → St → List Nat → Prop} (hs : FGs w σ) (k : ∀ (v0 : Int32) (v1 : St) (v2 : St) (v3 : List Nat), FGs w v1 → Q v0 v1 v2 v3) : pp_step a1 σ τ vs Q := by
  unfold pp_step
  exact (fun _ => (fun _ => ⟨True, ⟨(fun j1_ => (fg_pp_stepMore hs (fun v445 s445 t445 z445 p2_ => (k _ _ _ _ p2_)))), ⟨(fun _ => (fg_pp_push hs (fun s130 t130 z130 p3_ => (k _ _ _ _ p3_)))), (fun _ => ⟨(fun _ => (fun _ => (fun _ => (fun _ => (fun _ => (fg_pp_push hs (fun s166 t166 z166 p4_ => (k _ _ _ _ p4_)))))))), (fun _ => ⟨(fun _ => (fun _ => (fun _ => (fun _ => (fg_pp_push hs (fun s197 t197 z197 p5_ => (k _ _ _ _ p5_))))))), (fun _ => ⟨(fun _ => (fg_pp_getLocal (fun v207 => (fg_pp_push hs (fun s210 t210 z210 p6_ => (k _ _ _ _ p6_)))))), (fun _ => ⟨(fun _ => (fun _ => (fg_pp_rowOf (fun v235 => (fun _ => (fg_pp_push hs (fun s240 t240 z240 p7_ => (k _ _ _ _ p7_)))))))), (fun _ => ⟨(fun _ => trivial), (fun _ => ⟨(fun _ => trivial), (fun _ => ⟨(fun _ => (fun _ => (fg_pp_setLocal hs (fun s260 t260 z260 p8_ => (k _ _ _ _ p8_))))), (fun _ => ⟨(fun _ => (fg_pp_clear hs (fun s269 t269 z269 p9_ => (k _ _ _ _ p9_)))), (fun _ => ⟨(fun _ => (fun _ => (fg_pp_push hs (fun s288 t288 z288 p10_ => (k _ _ _ _ p10_))))), (fun _ => ⟨(fun _ => (k _ _ _ _ (fg_c hs (by decide)))), (fun _ => ⟨(fun _ => trivial), (fun _ => ⟨(fun _ => (fg_pp_pop hs (fun v311 s311 t311 z311 p11_ => (fg_pp_push p11_ (fun s315 t315 z315 p12_ => (k _ _ _ _ p12_)))))), (fun _ => ⟨(fun _ => (fg_pp_pop hs (fun v324 s324 t324 z324 p13_ => (fg_pp_push p13_ (fun s329 t329 z329 p14_ => (k _ _ _ _ p14_)))))), (fun _ => ⟨(fun _ => (fg_pp_pop hs (fun v338 s338 t338 z338 p15_ => ⟨(fun x16_ => True), ⟨(fun y1_349 => fun _ => fun j17_ => (fg_pp_push p15_ (fun s349 t349 z349 p18_ => (k _ _ _ _ p18_)))), ⟨(fun _ => trivial), (fun _ => trivial)⟩⟩⟩))), (fun _ => ⟨(fun _ => (k _ _ _ _ hs)), (fun _ => ⟨(fun _ => (fg_pp_pop hs (fun v379 s379 t379 z379 p19_ => ⟨(fun _ => (k _ _ _ _ p19_)), (fun _ => (k _ _ _ _ p19_))⟩))), (fun _ => ⟨(fun _ => (fg_pp_pop hs (fun v394 s394 t394 z394 p20_ => ⟨(fun _ => (k _ _ _ _ p20_)), (fun _ => (k _ _ _ _ p20_))⟩))), (fun _ => ⟨(fun _ => ⟨(fun _ => (k _ _ _ _ (fg_c hs (by decide)))), (fun _ => (fg_pp_trapped hs (fun s422 t422 z422 p21_ => (k _ _ _ _ p21_))))⟩), (fun _ => ⟨(fun _ => trivial), (fun _ => ⟨(fun _ => trivial), (fun _ => ⟨(fun _ => trivial), (fun _ => ⟨(fun _ => trivial), (fun _ => ⟨(fun _ => trivial), (fun _ => ⟨(fun _ => (fg_pp_pop hs (fun v358 s358 t358 z358 p22_ => ⟨(fun x23_ => True), ⟨(fun y1_369 => fun _ => fun j24_ => (fg_pp_push p22_ (fun s369 t369 z369 p25_ => (k _ _ _ _ p25_)))), ⟨(fun _ => trivial), (fun _ => trivial)⟩⟩⟩))), (fun _ => trivial)⟩)⟩)⟩)⟩)⟩)⟩)⟩)⟩)⟩)⟩)⟩)⟩)⟩)⟩)⟩)⟩)⟩)⟩)⟩)⟩)⟩)⟩)⟩)⟩)⟩⟩⟩))
theorem fg_pp_run {w : St} {a1 : Int32} {σ : St} {τ : St} {vs : List Nat} {Q : Int32 → St → St → List Nat → Prop} (hs : FGs w σ) (k : ∀ (v0 : Int32) (v1 : St) (v2 : St) (v3 : List Nat), FGs w v1 → Q v0 v1 v2 v3) : pp_run a1 σ τ vs Q := by
  unfold pp_run
  exact ⟨(fun _ => ⟨(fun _ => (k _ _ _ _ hs)), (fun _ => ⟨(fun _ => ⟨(fun x1_ x2_ x3_ x4_ => FGs w x2_), ⟨hs, (fun x2_25 s25 t25 z25 => fun j5_ => ⟨(fun _ => (fg_pp_enter (fg_c (fg_c (fg_c (fg_c (fg_c (fg_c (fg_c (fg_c (fg_c (fg_c (fg_c j5_ (by decide)) (by decide)) (by decide)) (by decide)) (by decide)) (by decide)) (by decide)) (by decide)) (by decide)) (by decide)) (by decide)) (fun s125 t125 z125 p6_ => ⟨(fun x7_ => True), ⟨(fun y0_148 => fun j8_ => ⟨(fun x9_ x10_ x11_ x12_ => FGs w x10_), ⟨p6_, (fun x2_149 s149 t149 z149 => fun j13_ => ⟨(fun _ => (k _ _ _ _ (fg_c j13_ (by decide)))), (fun _ => (fg_pp_step j13_ (fun v158 s158 t158 z158 p14_ => p14_)))⟩)⟩⟩), ⟨(fun _ => trivial), (fun _ => (fun _ => trivial))⟩⟩⟩))), (fun _ => ⟨(fun x15_ => True), ⟨(fun y2_55 => fun j16_ => fun _ => (fg_c j5_ (by decide))), ⟨(fun _ => trivial), (fun _ => (fun _ => trivial))⟩⟩⟩)⟩)⟩⟩), (fun _ => (k _ _ _ _ hs))⟩)⟩), (fun _ => (k _ _ _ _ hs))⟩
theorem fg_pp_input {w : St} {a1 : Int32} {σ : St} {τ : St} {vs : List Nat} {Q : Int32 → St → St → List Nat → Prop} (hs : FGs w σ) (k : ∀ (v0 : Int32) (v1 : St) (v2 : St) (v3 : List Nat), FGs w v1 → Q v0 v1 v2 v3) : pp_input a1 σ τ vs Q := by
  unfold pp_input
  exact ⟨(fun _ => (fun _ => (k _ _ _ _ (fg_c (fg_c hs (by decide)) (by decide))))), (fun _ => (k _ _ _ _ hs))⟩
theorem fg_pp_isTray {a1 : Int32} {a2 : Int32} {σ : St} {τ : St} {vs : List Nat} {Q : Int32 → Prop} (k : ∀ (v0 : Int32), Q v0) : pp_isTray a1 a2 σ τ vs Q := by
  unfold pp_isTray
  exact (fun _ => ⟨(fun _ => ⟨(fun x1_ => True), ⟨trivial, (fun x3_14 => fun j2_ => ⟨(fun _ => (k _)), (fun _ => (fun _ => (fun _ => (fun _ => ⟨(fun _ => trivial), (fun _ => (k _))⟩))))⟩)⟩⟩), (fun _ => (k _))⟩)
theorem fg_pp_cell {w : St} {σ : St} {τ : St} {vs : List Nat} {Q : Int32 → St → St → List Nat → Prop} (hs : FGs w σ) (k : ∀ (v0 : Int32) (v1 : St) (v2 : St) (v3 : List Nat), FGs w v1 → Q v0 v1 v2 v3) : pp_cell σ τ vs Q := by
  unfold pp_cell
  exact ⟨(fun _ => ⟨(fun x1_ => True), ⟨trivial, (fun x2_21 => fun j2_ => ⟨(fun _ => ⟨(fun x3_ x4_ => True), ⟨trivial, (fun x2_120 x3_120 => fun j5_ => ⟨(fun _ => (k _ _ _ _ (fg_c hs (by decide)))), (fun _ => ⟨(fun x6_ => True), ⟨trivial, (fun x4_128 => fun j7_ => fun _ => ⟨(fun _ => ⟨(fun x8_ => True), ⟨(fun y0_160 => fun _ => fun j9_ => ⟨(fun x10_ x11_ => True), ⟨trivial, (fun x5_165 x6_165 => fun _ => fun j12_ => ⟨True, ⟨(fun j13_ => ⟨(fun _ => trivial), (fun _ => (k _ _ _ _ (fg_c hs (by decide))))⟩), ⟨(fun _ => trivial), (fun _ => ⟨(fun _ => trivial), (fun _ => (fun _ => (fun _ => ⟨(fun x14_ => True), ⟨(fun y0_201 => fun _ => fun j15_ => trivial), ⟨(fun _ => trivial), (fun _ => trivial)⟩⟩⟩)))⟩)⟩⟩⟩)⟩⟩), ⟨(fun _ => trivial), (fun _ => trivial)⟩⟩⟩), (fun _ => trivial)⟩)⟩⟩)⟩)⟩⟩), (fun _ => (fun _ => (fun _ => ⟨(fun x16_ => True), ⟨trivial, (fun x3_43 => fun j17_ => fun _ => fun _ => ⟨(fun _ => trivial), (fun _ => (fg_pp_isSymbol (fun v61 => ⟨True, ⟨(fun j18_ => trivial), ⟨(fun _ => trivial), (fun _ => (fg_pp_isTray (fun v70 => ⟨(fun _ => trivial), (fun _ => (fun _ => ⟨(fun _ => (k _ _ _ _ (fg_c hs (by decide)))), (fun _ => (fun _ => (fun _ => (k _ _ _ _ (fg_c hs (by decide))))))⟩))⟩)))⟩⟩⟩)))⟩)⟩⟩)))⟩)⟩⟩), (fun _ => (k _ _ _ _ (fg_c hs (by decide))))⟩
end

section
/-! the calls, both sides: what is declared stays alike -/
section CLY
variable {w σ s s1 t τ : St} {vs z : List Nat} {a a1 a2 a3 a4 a5 : Int32} {o : Nat}
theorem cmp_of (hE : σ 0 36 = σ 22 (σ 0 35).toNatClampNeg) (h : CMPx a σ s) (ho : 0 ≤ (σ 0 35).toInt ∧ (σ 0 35).toInt ≤ 100) : CMPq a σ s := by
  rcases h with ⟨hx, es⟩ | ⟨hx, lo, σ0, s1, v1, hS, eL, e31, e1, hR, kx, ol, hfin⟩
  · refine ⟨?_, Or.inl ⟨hx, ?_, ?_, ?_⟩⟩
    · rw [es, rdC_ne (by decide), rdC_ne (by decide), rdC_ne (by decide)]
    · rw [es]; rfl
    · rw [es]; rfl
    · rw [es]; rfl
  · have c1 : s1 1 = σ 1 := funext (fun j => kx 1 j rfl rfl)
    have f35 : s1 0 35 = σ 0 35 := kx 0 35 rfl rfl
    have f22 : s1 22 = σ 22 := funext (fun j => kx 22 j rfl rfl)
    rcases hfin with ⟨hv, es⟩ | ⟨hv, es⟩
    · refine ⟨?_, Or.inr ⟨hx, lo, σ0, s1, v1, hS, eL, e31, e1, hR, Or.inl ⟨hv, ?_, ?_, ?_⟩⟩⟩
      · rw [es, rdC_ne (by decide), rdC_ne (by decide), rdC_ne (by decide), rdC_ne (by decide)]; exact c1
      · rw [es, rdC_ne (by decide), rdC_ne (by decide), rdA_eq rfl, ad1 (by rw [f35]; omega), f35]
      · rw [es, rdC_ne (by decide), rdC_ne (by decide), rdA_ne (by decide), rdC_ne (by decide)]
      · rw [es, rdC_ne (by decide), rdC_ne (by decide), rdA_ne (by decide), rdC_ne (by decide)]
    · refine ⟨?_, Or.inr ⟨hx, lo, σ0, s1, v1, hS, eL, e31, e1, hR, Or.inr ⟨hv, ?_, ?_, ?_⟩⟩⟩
      · rw [es, rdC_ne (by decide), rdC_ne (by decide), rdC_ne (by decide), rdC_ne (by decide), rdC_ne (by decide)]; exact c1
      · rw [es, rdA_ne (by decide), rdA_ne (by decide), rdA_ne (by decide), rdA_ne (by decide), rdA_ne (by decide)]; exact f35
      · rw [es, rdA_eq rfl, f22, f35]; exact hE.symm
      · rw [es, rdA_ne (by decide), rdA_ne (by decide), rdA_ne (by decide), rdA_eq rfl]
theorem rle_0 : RLe sc0 sm0 := by
  have e0 : (sc0 5 13).toInt = 0 := by decide
  refine ⟨fun k hk => ?_, fun k hk => ?_, fun e he => ?_⟩
  · rw [e0] at hk
    have : k = 0 := by omega
    rw [this]
    decide
  · rw [e0] at hk
    omega
  · have e1 : (sm0 0 36).toInt = 0 := by decide
    rw [e1] at he
    omega
theorem rle_eq (h : RLe w σ) (e5 : t 5 13 = w 5 13) (e34 : t 34 = w 34) (e37 : t 37 = w 37) (e25 : t 25 = w 25) (sm : SAx σ s) : RLe t s := rle_same h e5 (fun k _ => by rw [e34]) e37 (fun e _ => ⟨fl_eq e25, fl_eq e25, fl_eq e25⟩) sm
theorem sax_g (g : ∀ c, 2 ≤ c → c ≤ 39 → s c = σ c) (e : s 0 36 = σ 0 36) : SAx σ s := ⟨g 22 (by decide) (by decide), g 23 (by decide) (by decide), e, fun e _ => by
  rw [g 9 (by decide) (by decide), g 10 (by decide) (by decide), g 12 (by decide) (by decide), g 13 (by decide) (by decide), g 15 (by decide) (by decide)]
  exact ⟨rfl, rfl, rfl, rfl, rfl⟩⟩
theorem fd_cells (c : FDt a1 a2 a3 a4 a5 w t) : (∀ c, 2 ≤ c → t c = w c) ∧ ∀ j, 3 ≤ j → t 0 j = w 0 j := by
  by_cases b : 16000 < (w 0 1).toInt + 20
  · rw [c.1 b]
    exact ⟨fun _ _ => rfl, fun _ _ => rfl⟩
  · obtain ⟨_, _, c3, _⟩ := c.2 (by omega)
    refine ⟨fun c hc => funext (fun j => c3 c j (by omega) (fun h => ?_) (fun h => ?_)), fun j hj => c3 0 j (by decide) (fun h => ?_) (fun h => ?_)⟩
    · have := congrArg Prod.fst h; simp only at this; omega
    · have := congrArg Prod.fst h; simp only at this; omega
    · have := congrArg Prod.snd h; simp only at this; omega
    · have := congrArg Prod.snd h; simp only at this; omega
theorem en_cells (c : ENt a w t) : (∀ c, 2 ≤ c → t c = w c) ∧ ∀ j, 3 ≤ j → t 0 j = w 0 j := by
  unfold ENt at c
  by_cases hc : 0 ≤ a.toInt ∧ a.toInt ≤ (w 0 1).toInt
  · rw [if_pos hc] at c
    rw [c]
    exact ⟨fun c hc => rdC_ne (by omega), fun j hj => rdA_ne (by omega)⟩
  · rw [if_neg hc] at c
    rw [c]
    exact ⟨fun _ _ => rfl, fun _ _ => rfl⟩
theorem rle_cells (h : RLe w σ) (c : (∀ c, 2 ≤ c → t c = w c) ∧ ∀ j, 3 ≤ j → t 0 j = w 0 j) (m : (∀ c, 2 ≤ c → s c = σ c) ∧ ∀ j, 3 ≤ j → s 0 j = σ 0 j) : RLe t s := rle_eq h (by rw [c.1 5 (by decide)]) (c.1 34 (by decide)) (c.1 37 (by decide)) (c.1 25 (by decide)) (sax_g (fun c h2 _ => m.1 c h2) (m.2 36 (by decide)))
theorem rle_feed (h : RLe w σ) (c : FDt a1 a2 a3 a4 a5 w t) (m : FDt a1 a2 a3 a4 a5 σ s) : RLe t s := rle_cells h (fd_cells c) (fd_cells m)
theorem rle_end (h : RLe w σ) (c : ENt a w t) (m : ENt a σ s) : RLe t s := rle_cells h (en_cells c) (en_cells m)
theorem rle_frame (h : RLe w σ) (c : FQs w t) (m : FMs σ s) (g : FGs σ s) : RLe t s := rle_eq h (by rw [c 5 (by unfold FQw; decide)]) (c 34 (by unfold FQw; decide)) (c 37 (by unfold FQw; decide)) (c 25 (by unfold FQw; decide)) (sax_g (fun c h1 h2 => g c (by omega) h2) m.2.2.2.2.2)
theorem rle_cell (h : RLe w σ) (c : t = upC w 0 1 (0 : Int32)) (m : FCs σ s) (g : FGs σ s) : RLe t s := by
  have r : ∀ c, c ≠ 0 → t c = w c := fun q hq => by rw [c, rdC_ne hq]
  exact rle_eq h (by rw [r 5 (by decide)]) (r 34 (by decide)) (r 37 (by decide)) (r 25 (by decide)) (sax_g (fun c h1 h2 => g c (by omega) h2) m.2.2.2)
-- the class
theorem cy_compile (h : IVx w o) (hG : GLI σ τ vs) (r : RLp w σ) (re : RLe w σ) : wk_X12_compile a w (fun _ t => (∃ o, IVx t o) ∧ ∀ s : St, CMPx a σ s → (s 0 1).toInt = 0 → s 0 2 = σ 0 2 → RLp t s ∧ RLe t s) := mf_wk_X12_compile (Q1 := fun _ t => ∃ o, IVx t o) (Q2 := fun s _ t => CMPx a σ s → (s 0 1).toInt = 0 → s 0 2 = σ 0 2 → RLp t s ∧ RLe t s) (fun v t p q => ⟨p, q⟩) (sk_compile (Q := fun _ t => ∃ o, IVx t o) h (fun v t o' it => ⟨o', it⟩)) (fun s => by
  by_cases c : CMPx a σ s
  · have hE := hG.2.1.1
    have c2 := cmp_of hE c hG.1.2.1
    exact cj_wk_X12_compile (Q1 := fun _ t => (s 0 1).toInt = 0 → s 0 2 = σ 0 2 → RLp t s) (Q2 := fun _ t => RLe t s) (fun v t p q _ h1 h2 => ⟨p h1 h2, q⟩) (pl_compile h r c2 (fun v t e1 e2 e3 e4 e5 e6 h1 h2 => ⟨e1, e2, e3, by rw [e4, h1], by rw [e5, h2]; exact r.2.2.2.2.1, fun j => by rw [e6, c2.1]; exact r.2.2.2.2.2 j⟩)) (pl_compilex h r re hE c (fun v t q => q))
  · exact wl_wk_X12_compile (fun v t _ hc => absurd hc c) (sk_compile (Q := fun _ _ => True) h (fun _ _ _ _ => trivial)))
theorem cy_count {b : Int32} (h : IVx w o) : wk_X12_count a b w (fun v => CNw w a b v) := mg_wk_X12_count (fun _ _ q => q) (sk_count (Q := fun _ => True) (fun _ => trivial)) (px_count (Q := fun v => CNw w a b v) h (fun _ q => q))
-- the reference
theorem wy_compile {Q : Int32 → St → St → List Nat → Prop} (h : GLI σ τ vs) (hF : (σ 0 2).toInt ≤ 10240) (hB : ∀ j, -128 ≤ (σ 1 j).toInt ∧ (σ 1 j).toInt ≤ 127) (k : ∀ r s t z, GLI s t z → (s 0 1).toInt = 0 → s 0 2 = σ 0 2 → CMPx a σ s → Q r s t z) : wp_compile a σ τ vs Q := mg_wp_compile (fun r s t z p q => k r s t z p.1 p.2.1 p.2.2 q) (sp_compile (Q := fun _ s t z => GLI s t z ∧ (s 0 1).toInt = 0 ∧ s 0 2 = σ 0 2) h hF (fun _ s t z g h1 h2 => ⟨g, h1, h2⟩)) (es_compilex (Q := fun _ s _ _ => CMPx a σ s) h hF hB (fun _ _ _ _ q => q))
theorem wy_cell {Q : Int32 → St → St → List Nat → Prop} (h : GLI σ τ vs) (k : ∀ r s, GLI s τ vs → (s 0 1).toInt = 0 → s 0 2 = σ 0 2 → FCs σ s → FGs σ s → Q r s τ vs) : wp_cell σ τ vs Q := mg_wp_cell (fun r s t z p q => by
  obtain ⟨et, ez, g, f, f2, f3⟩ := p
  rw [et, ez]
  exact k r s g f f2 f3 q) (wx_cell (Q := fun _ s t z => t = τ ∧ z = vs ∧ GLI s τ vs ∧ (s 0 1).toInt = 0 ∧ s 0 2 = σ 0 2 ∧ FCs σ s) h (fun _ s g h1 h2 h3 => ⟨rfl, rfl, g, h1, h2, h3⟩)) (fg_pp_cell (Q := fun _ s _ _ => FGs σ s) fg_rf (fun _ _ _ _ q => q))
theorem wy_pick {Q : Int32 → St → St → List Nat → Prop} (h : GLI σ τ vs) (k : ∀ r s, GLI s τ vs → s 0 2 = σ 0 2 → FMs σ s → FGs σ s → Q r s τ vs) : wp_pick a σ τ vs Q := mg_wp_pick (fun r s t z p q => by
  obtain ⟨et, ez, g, f, f2⟩ := p
  rw [et, ez]
  exact k r s g f f2 q) (wx_pick (Q := fun _ s t z => t = τ ∧ z = vs ∧ GLI s τ vs ∧ s 0 2 = σ 0 2 ∧ FMs σ s) h (fun _ s g h2 h3 => ⟨rfl, rfl, g, h2, h3⟩)) (fg_pp_pick (Q := fun _ s _ _ => FGs σ s) fg_rf (fun _ _ _ _ q => q))
theorem wy_link {Q : Int32 → St → St → List Nat → Prop} (h : GLI σ τ vs) (hF : (σ 0 2).toInt ≤ 10240) (k : ∀ r s, GLI s τ vs → s 0 2 = σ 0 2 → FMs σ s → FGs σ s → Q r s τ vs) : wp_link σ τ vs Q := mg_wp_link (fun r s t z p q => by
  obtain ⟨et, ez, g, f, f2⟩ := p
  rw [et, ez]
  exact k r s g f f2 q) (wx_link (Q := fun _ s t z => t = τ ∧ z = vs ∧ GLI s τ vs ∧ s 0 2 = σ 0 2 ∧ FMs σ s) h hF (fun _ s g h2 h3 => ⟨rfl, rfl, g, h2, h3⟩)) (fg_pp_link (Q := fun _ s _ _ => FGs σ s) fg_rf (fun _ _ _ _ q => q))
theorem wy_run {Q : Int32 → St → St → List Nat → Prop} (h : GLI σ τ vs) (hF : (σ 0 2).toInt ≤ 10240) (k : ∀ r s, GLI s τ vs → s 0 2 = σ 0 2 → FMs σ s → FGs σ s → Q r s τ vs) : wp_run a σ τ vs Q := mg_wp_run (fun r s t z p q => by
  obtain ⟨et, ez, g, f, f2⟩ := p
  rw [et, ez]
  exact k r s g f f2 q) (wx_run (Q := fun _ s t z => t = τ ∧ z = vs ∧ GLI s τ vs ∧ s 0 2 = σ 0 2 ∧ FMs σ s) h hF (fun _ s g h2 h3 => ⟨rfl, rfl, g, h2, h3⟩)) (fg_pp_run (Q := fun _ s _ _ => FGs σ s) fg_rf (fun _ _ _ _ q => q))
theorem wy_input {Q : Int32 → St → St → List Nat → Prop} (h : GLI σ τ vs) (k : ∀ r s, GLI s τ vs → s 0 2 = σ 0 2 → FMs σ s → FGs σ s → Q r s τ vs) : wp_input a σ τ vs Q := mg_wp_input (fun r s t z p q => by
  obtain ⟨et, ez, g, f, f2⟩ := p
  rw [et, ez]
  exact k r s g f f2 q) (wx_input (Q := fun _ s t z => t = τ ∧ z = vs ∧ GLI s τ vs ∧ s 0 2 = σ 0 2 ∧ FMs σ s) h (fun _ s g h2 h3 => ⟨rfl, rfl, g, h2, h3⟩)) (fg_pp_input (Q := fun _ s _ _ => FGs σ s) fg_rf (fun _ _ _ _ q => q))
theorem hd_of (h : IVx w o) (hG : GLI σ τ vs) (r : RLp w σ) (re : RLe w σ) (A : Nat) (hA : (A : Int) + 1 ≤ (σ 0 35).toInt) : 0 ≤ (σ 22 A).toInt ∧ (σ 22 A).toInt ≤ (σ 22 (A + 1)).toInt ∧ (σ 22 (A + 1)).toInt ≤ 10000 := by
  obtain ⟨⟨h1, h1'⟩, h2, h3, -⟩ := h
  have e35 := r.1
  have d0 := de_le h2
  have w1 := re.1 A (by omega)
  have w2 := re.1 (A + 1) (by omega)
  have q1 := d0 A (by omega)
  have q2 := d0 (A + 1) (by omega)
  have q3 := h2.2 A (by omega)
  omega
theorem wy_count {b : Int32} (h : IVx w o) (hG : GLI σ τ vs) (r : RLp w σ) (re : RLe w σ) : wp_count a b σ τ vs (fun v => CNm σ a b v) := mg_wp_count (fun _ _ q => q) (sp_count (Q := fun _ => True) hG (fun _ => trivial)) (rx_count (Q := fun v => CNm σ a b v) hG (hd_of h hG r re) (fun _ q => q))
end CLY
end

