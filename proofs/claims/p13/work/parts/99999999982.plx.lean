/-! compile(), the class's side: what is declared stays alike -/
def SAx (σ s : St) : Prop := s 22 = σ 22 ∧ s 23 = σ 23 ∧ s 0 36 = σ 0 36 ∧ OLe σ s
section PLX
variable {w σ s s' s1 σ0 τ t : St} {vs z : List Nat} {a : Int32} {o : Nat}
theorem sax_0 : SAx σ (upC (upC (upC σ 0 9 (σ 0 1)) 0 1 (0 : Int32)) 0 14 ((-1) : Int32)) := by
  have r : ∀ c, c ≠ 0 → (upC (upC (upC σ 0 9 (σ 0 1)) 0 1 (0 : Int32)) 0 14 ((-1) : Int32)) c = σ c := fun c c0 => by rw [rdC_ne c0, rdC_ne c0, rdC_ne c0]
  refine ⟨r 22 (by decide), r 23 (by decide), rfl, fun e _ => ?_⟩
  rw [r 9 (by decide), r 10 (by decide), r 12 (by decide), r 13 (by decide), r 15 (by decide)]
  exact ⟨rfl, rfl, rfl, rfl, rfl⟩
theorem sax_1 (kx : KRx σ s1) (ol : OLe σ s1) (hE : σ 0 36 = σ 22 (σ 0 35).toNatClampNeg) : SAx σ (upC (upC (upC (upC (upC s1 0 17 (σ 0 17)) 0 31 (σ 0 31)) 0 45 (σ 0 45)) 0 39 (σ 0 39)) 0 36 (s1 22 (s1 0 35).toNatClampNeg)) := by
  have r : ∀ c, c ≠ 0 → (upC (upC (upC (upC (upC s1 0 17 (σ 0 17)) 0 31 (σ 0 31)) 0 45 (σ 0 45)) 0 39 (σ 0 39)) 0 36 (s1 22 (s1 0 35).toNatClampNeg)) c = s1 c := fun c c0 => by rw [rdC_ne c0, rdC_ne c0, rdC_ne c0, rdC_ne c0, rdC_ne c0]
  refine ⟨(r 22 (by decide)).trans (funext (fun j => kx 22 j rfl rfl)), (r 23 (by decide)).trans (funext (fun j => kx 23 j rfl rfl)), ?_, fun e he => ?_⟩
  · rw [rdA_eq rfl, show s1 0 35 = σ 0 35 from kx 0 35 rfl rfl, show s1 22 (σ 0 35).toNatClampNeg = σ 22 (σ 0 35).toNatClampNeg from kx 22 _ rfl rfl]
    exact hE.symm
  · rw [r 9 (by decide), r 10 (by decide), r 12 (by decide), r 13 (by decide), r 15 (by decide)]
    exact ol e he
theorem rle_same (h : RLe w σ) (e13 : t 5 13 = w 5 13) (e34 : ∀ k : Nat, (k : Int) ≤ (w 5 13).toInt → t 34 k = w 34 k) (e37 : t 37 = w 37) (e25 : ∀ e : Nat, (e : Int) < (σ 0 36).toInt → (FLq t (e + 4) 1 ↔ FLq w (e + 4) 1) ∧ (FLq t (e + 4) 2 ↔ FLq w (e + 4) 2) ∧ (FLq t (e + 4) 4 ↔ FLq w (e + 4) 4)) (sm : SAx σ s) : RLe t s := by
  obtain ⟨m22, m23, m36, ol⟩ := sm
  refine ⟨fun k hk => ?_, fun k hk => ?_, fun e he => ?_⟩
  · rw [e13] at hk
    rw [e34 k hk, m22]
    exact h.1 k hk
  · rw [e13] at hk
    rw [e37, m23]
    exact h.2.1 k hk
  · rw [m36] at he
    obtain ⟨x1, x2, x4⟩ := e25 e he
    obtain ⟨y9, _, y12, y13, _⟩ := ol e he
    obtain ⟨q1, q2, q4, q9⟩ := h.2.2 e he
    rw [y9, y12, y13]
    exact ⟨x1.trans q1, x2.trans q2, x4.trans q4, q9⟩
/-- the class's, as the reference's left it: what is declared -/
theorem pl_compilex {Q : Int32 → St → Prop} (h : IVx w o) (rl : RLp w σ) (re : RLe w σ) (hE : σ 0 36 = σ 22 (σ 0 35).toNatClampNeg) (cm : CMPx a σ s') (k : ∀ v t, RLe t s' → Q v t) : pk_X12_compile a w Q := by
  obtain ⟨r1, r2, r3, r4, r5, r6⟩ := rl
  obtain ⟨⟨h1, h1'⟩, h2, h3, h4, ⟨f1, f2, f3⟩, h6, ⟨g1, g2, g3, g4⟩, h8, h9, ha, hb, hc, hi⟩ := h
  have d0 := de_le h2
  have same : SAx σ s' → ∀ v t, t 5 13 = w 5 13 → (∀ k : Nat, (k : Int) ≤ (w 5 13).toInt → t 34 k = w 34 k) → t 37 = w 37 → (∀ e : Nat, (e : Int) < (σ 0 36).toInt → (FLq t (e + 4) 1 ↔ FLq w (e + 4) 1) ∧ (FLq t (e + 4) 2 ↔ FLq w (e + 4) 2) ∧ (FLq t (e + 4) 4 ↔ FLq w (e + 4) 4)) → Q v t := fun sm v t e1 e2 e3 e4 => k v t (rle_same re e1 e2 e3 e4 sm)
  unfold pk_X12_compile
  generalize hσ1 : upC (upC w 0 1 (0 : Int32)) 0 3 ((-1) : Int32) = w1
  have r1' : ∀ c, c ≠ 0 → w1 c = w c := fun c hc0 => by rw [← hσ1, rdC_ne hc0, rdC_ne hc0]
  have q01 : (w1 0 1).toInt = 0 := by rw [← hσ1]; rfl
  have q02 : w1 0 2 = w 0 2 := by rw [← hσ1]; rfl
  clear hσ1
  have early : SAx σ s' → ∀ v, Q v w1 := fun sm v => same sm v w1 (by rw [r1' 5 (by decide)]) (fun k _ => by rw [r1' 34 (by decide)]) (r1' 37 (by decide)) (fun e _ => ⟨fl_eq (r1' 25 (by decide)), fl_eq (r1' 25 (by decide)), fl_eq (r1' 25 (by decide))⟩)
  have bad : (a.toInt < 0 ∨ 3 < a.toInt ∨ 100 ≤ (w 5 13).toInt) → SAx σ s' := fun hx => by
    rcases cm with ⟨_, sm⟩ | ⟨⟨x1, x2, x3⟩, _⟩
    · rw [sm]; exact sax_0
    · omega
  refine ⟨fun c => early (bad (Or.inl c)) _, fun c0 => ⟨fun c => early (bad (Or.inr (Or.inl c))) _, fun c3 => ⟨fun c100 => ?_, fun c => early (bad (Or.inr (Or.inr c))) _⟩⟩⟩
  clear bad early
  rcases cm with ⟨hx, _⟩ | ⟨_, lo, σ0, s1, v1, hS, eL, e31, e1, hR, kx, ol, hfin⟩
  · omega
  obtain ⟨kd, vl, n, L, q, c, σ1, hr, hfi, hT, hM, kσ, hev⟩ := hR
  have hN0 : 0 ≤ (σ 0 1).toInt ∧ (σ 0 1).toInt ≤ 16000 := by omega
  have ew : w 1 = σ 1 := funext (fun j => ieq (r6 j))
  refine cj_wk_X10_scan (fun s4 p1 p2 => ?_) (wl_wk_X10_scan (fun s4 p => p) (sp_scan (Q := fun s4 => Kp [(2, 1), (2, 2), (2, 3), (2, 4)] [13, 14, 15, 16] w1 s4 ∧ (s4 2 1).toInt = (w 0 1).toInt ∧ TEn s4) ⟨f1.1, f1.2.1⟩ (by unfold PLA; rw [r1' 15 (by decide)]; exact g1) (by unfold NMr; rw [r1' 13 (by decide), r1' 14 (by decide), r1' 15 (by decide)]; exact g2) (fun s4 k4 z4 te => ⟨k4, z4, te⟩))) (pl_scan (Q := fun s4 => ∃ L q c, RCHq (byt (σ 1) (σ 0 1).toInt) (0, []) (q, L) ∧ FINq (byt (σ 1) (σ 0 1).toInt) q c ∧ FNq s4 L c) (N := (σ 0 1).toInt) r4 hN0.1 hN0.2 ((r1' 1 (by decide)).trans ew) (fun s L q c kp hr hf hn hl => ⟨L, q, c, hr, hf, hn⟩))
  obtain ⟨k4, z4, te⟩ := p1
  obtain ⟨L', q', c', hr', hf', hC⟩ := p2
  obtain ⟨eql, eqc⟩ := rch_one hr hfi hr' hf'
  have eL' : L' = L := (congrArg Prod.snd eql).symm
  rw [eL', ← eqc] at hC
  have tkv := tl_cls hN0 hr hfi hC hT
  obtain ⟨tk, pl4, nm4⟩ := te
  have kc : ∀ s5, KG s4 s5 → ∀ c j, c ≠ 2 → c ≠ 3 → ¬ (13 ≤ c ∧ c ≤ 23) → s5 c j = w1 c j := fun s5 k5 c j c2 c3 c4 => by
    have e1 : s5 c j = s4 c j := k5 c j (by
      simp only [List.contains_cons, List.contains_nil, Bool.or_false, Bool.or_eq_false_iff, beq_eq_false_iff_ne, ne_eq, Prod.mk.injEq, not_and]
      omega) (by
      simp only [List.contains_cons, List.contains_nil, Bool.or_false, Bool.or_eq_false_iff, beq_eq_false_iff_ne, ne_eq]
      omega)
    have e2 : s4 c j = w1 c j := k4 c j (by
      simp only [List.contains_cons, List.contains_nil, Bool.or_false, Bool.or_eq_false_iff, beq_eq_false_iff_ne, ne_eq, Prod.mk.injEq, not_and]
      omega) (by
      simp only [List.contains_cons, List.contains_nil, Bool.or_false, Bool.or_eq_false_iff, beq_eq_false_iff_ne, ne_eq]
      omega)
    exact e1.trans e2
  have t13 : ∀ s5, KG s4 s5 → s5 13 = s4 13 ∧ s5 14 = s4 14 ∧ s5 15 = s4 15 := fun s5 k5 => ⟨funext (fun j => k5 13 j rfl rfl), funext (fun j => k5 14 j rfl rfl), funext (fun j => k5 15 j rfl rfl)⟩
  refine cj_wk_X3_read (fun v s5 p1 p2 => ?_) (wl_wk_X3_read (fun v s p => p) (sp_gread (Q := fun v s => KG s4 s ∧ (v = 0 ∨ (v = 1 ∧ RDk s))) tk (fun s k5 => ⟨k5, Or.inl rfl⟩) (fun s k5 rd => ⟨k5, Or.inr ⟨rfl, rd⟩⟩))) (gt_read (Q := fun v s => (v = 1 ∧ ∃ g, EVq (fun n => UNn kd vl n 0) (some g) ∧ TBL s (fltq 0 g)) ∨ (v = 0 ∧ EVq (fun n => UNn kd vl n 0) none)) tkv (fun s g e _ tb _ => Or.inl ⟨rfl, g, e, tb⟩) (fun s _ e => Or.inr ⟨rfl, e⟩))
  obtain ⟨k5, prd⟩ := p1
  have w5 := kc s5 k5
  have row : ∀ c, c ≠ 2 → c ≠ 3 → ¬ (13 ≤ c ∧ c ≤ 23) → s5 c = w1 c := fun c c2 c3 c4 => funext (fun j => w5 c j c2 c3 c4)
  have v5 : s5 5 = w 5 := (row 5 (by decide) (by decide) (by omega)).trans (r1' 5 (by decide))
  have v4 : s5 4 = w 4 := (row 4 (by decide) (by decide) (by omega)).trans (r1' 4 (by decide))
  have v0 : s5 0 = w1 0 := row 0 (by decide) (by decide) (by omega)
  have v1' : s5 1 = w 1 := (row 1 (by decide) (by decide) (by omega)).trans (r1' 1 (by decide))
  have v25 : s5 25 = w 25 := (row 25 (by decide) (by decide) (by omega)).trans (r1' 25 (by decide))
  have v27 : s5 27 = w 27 := (row 27 (by decide) (by decide) (by omega)).trans (r1' 27 (by decide))
  have v29 : s5 29 = w 29 := (row 29 (by decide) (by decide) (by omega)).trans (r1' 29 (by decide))
  have v37 : s5 37 = w 37 := (row 37 (by decide) (by decide) (by omega)).trans (r1' 37 (by decide))
  have v34 : s5 34 = w 34 := (row 34 (by decide) (by decide) (by omega)).trans (r1' 34 (by decide))
  refine ⟨fun cv => ?_, fun cv => ?_⟩
  rotate_left
  · -- no unit
    rcases p2 with ⟨hv, _⟩ | ⟨_, hn⟩
    · rw [hv] at cv; exact absurd cv (by decide)
    · have sm : SAx σ s' := by
        rcases hev with ⟨hv1, _⟩ | ⟨g, hg, _⟩
        · rcases hfin with ⟨h0, _⟩ | ⟨_, sm⟩
          · rw [hv1] at h0; exact absurd h0 (by decide)
          · rw [sm]; exact sax_1 kx ol hE
        · have := ev_one hg hn
          cases this
      refine same sm _ _ (by rw [rdC_ne (by decide), v5]) (fun k _ => by rw [rdC_ne (by decide), v34]) (by rw [rdC_ne (by decide), v37]) (fun e _ => ?_)
      have x25 : (upC s5 0 3 (atv 16002 (s5 15) (s5 3 3))) 25 = w 25 := by rw [rdC_ne (by decide), v25]
      exact ⟨fl_eq x25, fl_eq x25, fl_eq x25⟩
  rcases p2 with ⟨_, g, hg, tb⟩ | ⟨hv, _⟩
  rotate_left
  · rw [hv] at cv; exact absurd rfl cv
  have rd : RDk s5 := by
    rcases prd with hv | ⟨_, rd⟩
    · rw [hv] at cv; exact absurd rfl cv
    · exact rd
  have hu : UNw kd n lo g σ1 v1 s1 := by
    rcases hev with ⟨_, hn⟩ | ⟨g', hg', hu⟩
    · have := ev_one hg hn
      cases this
    · have := Option.some.inj (ev_one hg' hg)
      rw [this] at hu
      exact hu
  obtain ⟨x13, x14, x15⟩ := t13 s5 k5
  have a_pl : PLA s5 := by unfold PLA; rw [x15]; exact pl4
  have a_nm : NMr s5 := by unfold NMr; rw [x13, x14, x15]; exact nm4
  have sz : (s5 2 1).toInt = (w 0 1).toInt := by rw [show s5 2 1 = s4 2 1 from k5 2 1 rfl rfl]; exact z4
  have dd := d0 o (Nat.le_refl _)
  have a_sz : (s5 2 1).toInt ≤ 16000 := by rw [sz]; exact f1.2.1
  have a_by : ByteOK (s5 1) := by rw [v1']; exact g3
  have a_hd : 0 ≤ (s5 5 1).toInt ∧ (s5 5 1).toInt ≤ 10000 := by rw [v5]; omega
  have a_l0 : 0 ≤ (s5 4 1).toInt := by rw [v4]; exact f2.1
  have a_lb : (s5 4 1).toInt + 4 * (s5 2 1).toInt ≤ 262144 := by rw [v4, sz]; omega
  have a_hn : 0 ≤ (s5 5 7).toInt ∧ (s5 5 7).toInt + (s5 2 1).toInt ≤ 65600 := by rw [v5, sz]; omega
  have a_nme : NME s5 := by unfold NME; rw [v5, v29]; exact h6
  have a_fx : ∀ j, FLb ((s5 25) j) 1 → spar ((s5 27) j) ≤ 8 := by rw [v25, v27]; exact g4
  have hS1 := s0_k kσ hS
  have c1 : σ1 1 = σ 1 := (funext (fun j => kσ 1 j rfl rfl)).trans e1
  have c31 : σ1 0 31 = σ 0 31 := (kσ 0 31 rfl rfl).trans e31
  have hC5 : FNq s5 L c := by
    obtain ⟨m1, m2, m3⟩ := hC
    refine ⟨by rw [show s5 2 4 = s4 2 4 from k5 2 4 rfl rfl]; exact m1, fun j k v q hj => ?_, by rw [x13]; exact m3⟩
    rw [x13, x14, x15]
    exact m2 j k v q hj
  refine cj_wk_X7_walk (fun s p1 p2 => ?_) (wl_wk_X7_walk (fun s p => p) (sp_walk (Q := fun s => ∃ ρ, Kp [(6, 2), (6, 3), (6, 4), (6, 5), (6, 7), (6, 6), (6, 10), (6, 15), (6, 17), (8, 6), (8, 8), (7, 7), (9, 5)] [] s5 ρ ∧ WDx ρ s) rd a_sz a_nm a_pl a_by a_hd a_l0 a_lb a_hn a_nme a_fx (fun ρ s kρ o0 wd hz => ⟨ρ, kρ, wd⟩))) (cw_walk (Q := fun r => ((r 6 3).toInt ≠ 0 → v1.toInt ≠ 0) ∧ ((r 6 3).toInt = 0 → v1.toInt = 0 ∧ ∃ m, URq kd n m lo r s1)) (B := v1.toInt ≠ 0) rd a_sz a_nm a_pl a_by a_hd a_l0 a_lb a_hn a_nme a_fx tb (fun ρ kρ z63 z65 z67 z66 z615 z86 z77 z95 => hu ρ (ur_start (tl_both hN0 hr hfi hM ?_ hT ?_) hS1 z615 z67 ?_ ?_ z65 z77 z66 z86 z95) z63) (fun b r hr => ⟨fun _ => b, fun hx => absurd hx hr⟩))
  rotate_left
  · obtain ⟨m1, m2, m3⟩ := hC5
    have y13 : ρ 13 = s5 13 := funext (fun j => kρ 13 j rfl rfl)
    have y14 : ρ 14 = s5 14 := funext (fun j => kρ 14 j rfl rfl)
    have y15 : ρ 15 = s5 15 := funext (fun j => kρ 15 j rfl rfl)
    refine ⟨by rw [kρ 2 4 rfl rfl]; exact m1, fun j k v q hj => ?_, by rw [y13]; exact m3⟩
    rw [y13, y14, y15]
    exact m2 j k v q hj
  · intro i _
    rw [kρ 1 i rfl rfl, v1', c1]
    exact r6 i
  · rw [kρ 5 1 rfl rfl, v5]; omega
  · rw [kρ 5 7 rfl rfl, v5, c31]; exact r3
  obtain ⟨ρ, kρ, wd⟩ := p1
  have kw := wd.1.1
  have s513 : s 5 13 = w 5 13 := by rw [kw 5 13 (op_lt (by decide)) rfl rfl, kρ 5 13 rfl rfl, v5]
  have s34 : ∀ k, s 34 k = w 34 k := fun k => by rw [kw 34 k (op_lt (by decide)) rfl rfl, kρ 34 k rfl rfl, v34]
  have s37 : s 37 = w 37 := funext (fun k => by rw [kw 37 k (op_lt (by decide)) rfl rfl, kρ 37 k rfl rfl, v37])
  have e513 : (s 5 13).toInt = o := by rw [s513]; exact h1
  have oldf : ∀ e : Nat, (e : Int) < (σ 0 36).toInt → (FLq s (e + 4) 1 ↔ FLq w (e + 4) 1) ∧ (FLq s (e + 4) 2 ↔ FLq w (e + 4) 2) ∧ (FLq s (e + 4) 4 ↔ FLq w (e + 4) 4) := fun e he => by
    have hd : ((e + 4 : Nat) : Int) < (ρ 5 1).toInt := by rw [kρ 5 1 rfl rfl, v5]; omega
    obtain ⟨_, _, _, _, x1, x2, x4, _⟩ := wd.1.2.2.1.2.1 (e + 4) hd
    have y25 : ρ 25 = w 25 := (funext (fun j => kρ 25 j rfl rfl)).trans v25
    rw [y25] at x1 x2 x4
    unfold FLq
    rw [x1, x2, x4]
    exact ⟨Iff.rfl, Iff.rfl, Iff.rfl⟩
  refine ⟨fun f0 => ?_, fun f0 => ?_⟩
  · obtain ⟨hv0, m, hUR⟩ := p2.2 f0
    have hO := hUR.1.2.2.1
    obtain ⟨D, hD1, hD2, _⟩ := hUR.1.2.2.2.1
    rcases hfin with ⟨_, es'⟩ | ⟨hv1, _⟩
    rotate_left
    · exact absurd hv0 hv1
    have e514 : ((s 5 13) + (1 : Int32)).toInt = ((o + 1 : Nat) : Int) := by rw [ad1 (by omega), e513]; rfl
    have f35 : s1 0 35 = σ 0 35 := kx 0 35 rfl rfl
    have n35 : (s1 0 35).toNatClampNeg = o := nat_of (by rw [f35, ← r1, h1])
    have n351 : ((s1 0 35) + (1 : Int32)).toNatClampNeg = o + 1 := nat_of (by rw [ad1 (by rw [f35, ← r1, h1]; omega), f35, ← r1, h1]; rfl)
    rw [n35, n351] at es'
    unfold pk_X8_keep
    generalize ht : upF _ 37 _ = t
    have t513 : t 5 13 = (s 5 13) + (1 : Int32) := by rw [← ht, rdF_ne (by decide), rdF_ne (by decide), rdF_ne (by decide), rdF_ne (by decide), rdA_eq rfl]
    have t25 : t 25 = s 25 := by rw [← ht, rdF_ne (by decide), rdF_ne (by decide), rdF_ne (by decide), rdF_ne (by decide), rdC_ne (by decide)]
    have t34 : t 34 = fun q => if q = o + 1 then s 5 1 else s 34 q := by rw [← ht, rdF_ne (by decide), rdF_ne (by decide), rdF_ne (by decide), rdF_eq, setv_at e514 (by omega), rdC_ne (by decide)]
    have t37 : t 37 = fun q => if q = o + 1 then s 6 5 else s 37 q := by rw [← ht, rdF_eq, setv_at e514 (by omega), rdF_ne (by decide), rdF_ne (by decide), rdF_ne (by decide), rdC_ne (by decide)]
    clear ht
    have u22 : ∀ q, s' 22 q = if q = o + 1 then s1 0 36 else s1 22 q := fun q => by rw [es', rdC_ne (by decide), rdC_eq, rdC_ne (by decide), rdC_ne (by decide)]
    have u23 : ∀ q, s' 23 q = if q = o then s1 0 37 else s1 23 q := fun q => by rw [es', rdC_ne (by decide), rdC_ne (by decide), rdC_ne (by decide), rdC_eq]
    have u36 : s' 0 36 = s1 0 36 := by rw [es', rdC_ne (by decide), rdC_ne (by decide), rdA_ne (by decide), rdC_ne (by decide)]
    have urow : ∀ c, c ≠ 0 → c ≠ 22 → c ≠ 23 → c ≠ 24 → s' c = s1 c := fun c c0 c22 c23 c24 => by rw [es', rdC_ne c24, rdC_ne c22, rdC_ne c0, rdC_ne c23]
    have z22 : ∀ q, s1 22 q = σ 22 q := fun q => kx 22 q rfl rfl
    have z23 : ∀ q, s1 23 q = σ 23 q := fun q => kx 23 q rfl rfl
    have e36 := hO.2.2.2.2.1.2.1
    have e51 := hO.2.2.2.1.1
    clear es'
    refine k _ t ⟨fun k hk => ?_, fun k hk => ?_, fun e he => ?_⟩
    · rw [t513, e514] at hk
      rw [t34, u22]
      show (if k = o + 1 then s 5 1 else s 34 k).toInt = _
      by_cases c : k = o + 1
      · rw [if_pos c, if_pos c, e51, e36]; omega
      · rw [if_neg c, if_neg c, s34, z22]
        exact re.1 k (by omega)
    · rw [t513, e514] at hk
      rw [t37, u23]
      show (if k + 1 = o + 1 then s 6 5 else s 37 (k + 1)).toInt = _
      by_cases c : k = o
      · rw [if_pos (by omega), if_pos c, hD1, hD2]
      · rw [if_neg (by omega), if_neg c, s37, z23]
        exact re.2.1 k (by omega)
    · rw [u36, e36] at he
      rw [urow 9 (by decide) (by decide) (by decide) (by decide), urow 12 (by decide) (by decide) (by decide) (by decide), urow 13 (by decide) (by decide) (by decide) (by decide)]
      unfold FLq
      rw [t25]
      by_cases c : e < lo
      · have he' : (e : Int) < (σ 0 36).toInt := by omega
        obtain ⟨x1, x2, x4⟩ := oldf e he'
        obtain ⟨y9, _, y12, y13, _⟩ := ol e he'
        rw [y9, y12, y13]
        obtain ⟨q1, q2, q4, q9⟩ := re.2.2 e he'
        exact ⟨x1.trans q1, x2.trans q2, x4.trans q4, q9⟩
      · obtain ⟨i, hi⟩ : ∃ i, e = lo + i := ⟨e - lo, by omega⟩
        have him : i < m := by omega
        have ho := hO.2.2.2.2.2 i him
        have ed : (s 5 1).toInt.toNat - m + i = e + 4 := by omega
        rw [ed, ← hi] at ho
        obtain ⟨_, _, _, _, q1, q9, _, _, _, _, _, q2, q4, _, _, _, _⟩ := ho
        exact ⟨q1, q2, q4, q9⟩
  · have hv1 := p2.1 f0
    have sm : SAx σ s' := by
      rcases hfin with ⟨h0, _⟩ | ⟨_, sm⟩
      · exact absurd h0 hv1
      · rw [sm]; exact sax_1 kx ol hE
    unfold pk_X8_forget pk_X8_nameStart pk_X0_cut
    dsimp only
    refine same sm _ _ ?_ (fun k _ => ?_) ?_ (fun e he => ?_)
    · rw [rdC_ne (by decide), rdC_ne (by decide), rdA_ne (by decide), rdA_ne (by decide), rdA_ne (by decide)]; exact s513
    · rw [rdC_ne (by decide), rdC_ne (by decide), rdC_ne (by decide), rdC_ne (by decide), rdC_ne (by decide)]; exact s34 k
    · rw [rdC_ne (by decide), rdC_ne (by decide), rdC_ne (by decide), rdC_ne (by decide), rdC_ne (by decide)]; exact s37
    · unfold FLq
      rw [rdC_ne (by decide), rdC_ne (by decide), rdC_ne (by decide), rdC_ne (by decide), rdC_ne (by decide)]
      exact oldf e he
end PLX
