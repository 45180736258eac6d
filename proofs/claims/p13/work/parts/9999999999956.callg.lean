/-! all calls: what link() laid stays alike -/
def KPd (w t : St) : Prop := (∀ d : Nat, (d : Int) < (w 5 1).toInt → t 25 d = w 25 d ∧ t 26 d = w 26 d ∧ t 27 d = w 27 d ∧ t 28 d = w 28 d ∧ t 29 d = w 29 d) ∧ t 37 0 = w 37 0 ∧ ∀ c, (c = 10 ∨ c = 11 ∨ c = 12 ∨ (55 ≤ c ∧ c ≤ 64)) → t c = w c
def KPm (σ s : St) : Prop := (∀ e : Nat, (e : Int) < (σ 0 36).toInt → ∀ c, [9, 10, 11, 12, 13, 14, 15, 17, 18, 19].contains c = true → s c e = σ c e) ∧ (∀ i : Nat, (i : Int) < (σ 0 31).toInt → s 20 i = σ 20 i) ∧ (∀ k : Nat, (k : Int) ≤ (σ 0 35).toInt → s 22 k = σ 22 k) ∧ (∀ k : Nat, (k : Int) < (σ 0 35).toInt → s 23 k = σ 23 k) ∧ (σ 0 35).toInt ≤ (s 0 35).toInt ∧ FZs σ s ∧ s 0 70 = σ 0 70
def RLg (w σ : St) : Prop := RLc w σ ∧ LYr w σ ∧ (w 37 0).toInt = 0
section CLG
variable {w σ s s1 t τ : St} {vs z : List Nat} {a b c a1 a2 a3 a4 a5 v v2 : Int32} {o : Nat}
theorem pl_keepd {Q : Int32 → St → Prop} (h : IVx w o) (k : ∀ v t, KPd w t → Q v t) : pk_X12_compile a w Q := by
  obtain ⟨⟨h1, h1'⟩, h2, h3, h4, ⟨f1, f2, f3⟩, h6, ⟨g1, g2, g3, g4⟩, h8, h9, ha, hb, hc, hi⟩ := h
  have d0 := de_le h2
  unfold pk_X12_compile
  generalize hσ1 : upC (upC w 0 1 (0 : Int32)) 0 3 ((-1) : Int32) = w1
  have r1' : ∀ c, c ≠ 0 → w1 c = w c := fun c hc0 => by rw [← hσ1, rdC_ne hc0, rdC_ne hc0]
  have q01 : (w1 0 1).toInt = 0 := by rw [← hσ1]; rfl
  have q02 : w1 0 2 = w 0 2 := by rw [← hσ1]; rfl
  clear hσ1
  have early : ∀ v, Q v w1 := fun v => k v w1 ⟨fun d _ => by rw [r1' 25 (by decide), r1' 26 (by decide), r1' 27 (by decide), r1' 28 (by decide), r1' 29 (by decide)]; exact ⟨rfl, rfl, rfl, rfl, rfl⟩, by rw [r1' 37 (by decide)], fun c hc => r1' c (by omega)⟩
  refine ⟨fun _ => early _, fun _ => ⟨fun _ => early _, fun _ => ⟨fun c100 => ?_, fun _ => early _⟩⟩⟩
  refine wl_wk_X10_scan (fun s4 p1 => ?_) (sp_scan (Q := fun s4 => Kp [(2, 1), (2, 2), (2, 3), (2, 4)] [13, 14, 15, 16] w1 s4 ∧ (s4 2 1).toInt = (w 0 1).toInt ∧ TEn s4) ⟨f1.1, f1.2.1⟩ (by unfold PLA; rw [r1' 15 (by decide)]; exact g1) (by unfold NMr; rw [r1' 13 (by decide), r1' 14 (by decide), r1' 15 (by decide)]; exact g2) (fun s4 k4 z4 te => ⟨k4, z4, te⟩))
  obtain ⟨k4, z4, te⟩ := p1
  obtain ⟨tk, pl4, nm4⟩ := te
  have kc : ∀ s5, KG s4 s5 → ∀ c j, c ≠ 2 → c ≠ 3 → ¬ (13 ≤ c ∧ c ≤ 23) → s5 c j = w1 c j := fun s5 k5 c j c2 c3 c4 => by
    have e1 : s5 c j = s4 c j := k5 c j (by
      simp only [List.contains_cons, List.contains_nil, Bool.or_false, Bool.or_eq_false_iff, beq_eq_false_iff_ne, ne_eq, Prod.mk.injEq, not_and]
      omega) (by
      simp only [List.contains_cons, List.contains_nil, Bool.or_false, Bool.or_eq_false_iff, beq_eq_false_iff_ne, ne_eq]
      omega)
    have e2 : s4 c j = w1 c j := k4 c j (by
      simp only [List.contains_cons, List.contains_nil, Bool.or_false, Bool.or_eq_false_iff, beq_eq_false_iff_ne, ne_eq, Prod.mk.injEq, not_and]
      omega) (by
      simp only [List.contains_cons, List.contains_nil, Bool.or_false, Bool.or_eq_false_iff, beq_eq_false_iff_ne, ne_eq]
      omega)
    exact e1.trans e2
  have t13 : ∀ s5, KG s4 s5 → s5 13 = s4 13 ∧ s5 14 = s4 14 ∧ s5 15 = s4 15 := fun s5 k5 => ⟨funext (fun j => k5 13 j rfl rfl), funext (fun j => k5 14 j rfl rfl), funext (fun j => k5 15 j rfl rfl)⟩
  refine wl_wk_X3_read (fun v s5 p1 => ?_) (sp_gread (Q := fun v s => KG s4 s ∧ (v = 0 ∨ (v = 1 ∧ RDk s))) tk (fun s k5 => ⟨k5, Or.inl rfl⟩) (fun s k5 rd => ⟨k5, Or.inr ⟨rfl, rd⟩⟩))
  obtain ⟨k5, prd⟩ := p1
  have w5 := kc s5 k5
  have row : ∀ c, c ≠ 2 → c ≠ 3 → ¬ (13 ≤ c ∧ c ≤ 23) → s5 c = w1 c := fun c c2 c3 c4 => funext (fun j => w5 c j c2 c3 c4)
  have v5 : s5 5 = w 5 := (row 5 (by decide) (by decide) (by omega)).trans (r1' 5 (by decide))
  have v4 : s5 4 = w 4 := (row 4 (by decide) (by decide) (by omega)).trans (r1' 4 (by decide))
  have v0 : s5 0 = w1 0 := row 0 (by decide) (by decide) (by omega)
  have v1' : s5 1 = w 1 := (row 1 (by decide) (by decide) (by omega)).trans (r1' 1 (by decide))
  have v25 : s5 25 = w 25 := (row 25 (by decide) (by decide) (by omega)).trans (r1' 25 (by decide))
  have v27 : s5 27 = w 27 := (row 27 (by decide) (by decide) (by omega)).trans (r1' 27 (by decide))
  have v29 : s5 29 = w 29 := (row 29 (by decide) (by decide) (by omega)).trans (r1' 29 (by decide))
  have vc : ∀ c, (c = 10 ∨ c = 11 ∨ c = 12 ∨ (55 ≤ c ∧ c ≤ 64)) → s5 c = w c := fun c hc => (row c (by omega) (by omega) (by omega)).trans (r1' c (by omega))
  have v34 : s5 34 = w 34 := (row 34 (by decide) (by decide) (by omega)).trans (r1' 34 (by decide))
  have v26 : s5 26 = w 26 := (row 26 (by decide) (by decide) (by omega)).trans (r1' 26 (by decide))
  have v28 : s5 28 = w 28 := (row 28 (by decide) (by decide) (by omega)).trans (r1' 28 (by decide))
  have v37 : s5 37 = w 37 := (row 37 (by decide) (by decide) (by omega)).trans (r1' 37 (by decide))
  refine ⟨fun cv => ?_, fun cv => k _ _ ⟨fun d _ => by rw [rdC_ne (by decide), rdC_ne (by decide), rdC_ne (by decide), rdC_ne (by decide), rdC_ne (by decide), v25, v26, v27, v28, v29]; exact ⟨rfl, rfl, rfl, rfl, rfl⟩, by rw [rdC_ne (by decide), v37], fun c hc => by rw [rdC_ne (by omega), vc c hc]⟩⟩
  have rd : RDk s5 := by
    rcases prd with hv | ⟨_, rd⟩
    · rw [hv] at cv; exact absurd rfl cv
    · exact rd
  obtain ⟨x13, x14, x15⟩ := t13 s5 k5
  have a_pl : PLA s5 := by unfold PLA; rw [x15]; exact pl4
  have a_nm : NMr s5 := by unfold NMr; rw [x13, x14, x15]; exact nm4
  have sz : (s5 2 1).toInt = (w 0 1).toInt := by rw [show s5 2 1 = s4 2 1 from k5 2 1 rfl rfl]; exact z4
  have dd := d0 o (Nat.le_refl _)
  have a_sz : (s5 2 1).toInt ≤ 16000 := by rw [sz]; exact f1.2.1
  have a_by : ByteOK (s5 1) := by rw [v1']; exact g3
  have a_hd : 0 ≤ (s5 5 1).toInt ∧ (s5 5 1).toInt ≤ 10000 := by rw [v5]; omega
  have a_l0 : 0 ≤ (s5 4 1).toInt := by rw [v4]; exact f2.1
  have a_lb : (s5 4 1).toInt + 4 * (s5 2 1).toInt ≤ 262144 := by rw [v4, sz]; omega
  have a_hn : 0 ≤ (s5 5 7).toInt ∧ (s5 5 7).toInt + (s5 2 1).toInt ≤ 65600 := by rw [v5, sz]; omega
  have a_nme : NME s5 := by unfold NME; rw [v5, v29]; exact h6
  have a_fx : ∀ j, FLb ((s5 25) j) 1 → spar ((s5 27) j) ≤ 8 := by rw [v25, v27]; exact g4
  obtain ⟨D, hD0⟩ : ∃ D : Nat, (w 5 1).toInt = (D : Int) := ⟨(w 5 1).toInt.toNat, by omega⟩
  have hD5 : (s5 5 1).toInt = (D : Int) := by rw [v5]; exact hD0
  have hN5 : (s5 5 7).toInt = ((w 5 7).toInt.toNat : Int) := by rw [v5]; have := f3.1; omega
  have hE5 : (s5 29 (D - 1)).toInt = ((w 5 7).toInt.toNat : Int) := by
    rw [v29, h6.1 (D - 1) (by omega)]
    have := f3.1
    omega
  have W := ol_pk_X7_walk (Q := fun s => OLs D (w 5 7).toInt.toNat s5 s) (a := a) hD5 (by omega) hN5 (by omega) hE5 (fun s h => h)
  refine cj_wk_X7_walk (fun s p1 hol => ?_) (wl_wk_X7_walk (fun s p => p) (sp_walk (Q := fun s => ∃ ρ, Kp [(6, 2), (6, 3), (6, 4), (6, 5), (6, 7), (6, 6), (6, 10), (6, 15), (6, 17), (8, 6), (8, 8), (7, 7), (9, 5)] [] s5 ρ ∧ WDx ρ s) rd a_sz a_nm a_pl a_by a_hd a_l0 a_lb a_hn a_nme a_fx (fun ρ s kρ o0 wd hz => ⟨ρ, kρ, wd⟩))) W
  obtain ⟨ρ, kρ, wd⟩ := p1
  have kw := wd.1.1
  have sc : ∀ c, (c = 10 ∨ c = 11 ∨ c = 12 ∨ (55 ≤ c ∧ c ≤ 64)) → s c = w c := fun c hc => funext (fun j => by
    rcases (by omega : c = 10 ∨ c = 11 ∨ c = 12 ∨ c = 55 ∨ c = 56 ∨ c = 57 ∨ c = 58 ∨ c = 59 ∨ c = 60 ∨ c = 61 ∨ c = 62 ∨ c = 63 ∨ c = 64) with h | h | h | h | h | h | h | h | h | h | h | h | h <;> subst h
    · rw [kw 10 j (op_lt (by decide)) rfl rfl, kρ 10 j rfl rfl, vc 10 (by omega)]
    · rw [kw 11 j (op_lt (by decide)) rfl rfl, kρ 11 j rfl rfl, vc 11 (by omega)]
    · rw [kw 12 j (op_lt (by decide)) rfl rfl, kρ 12 j rfl rfl, vc 12 (by omega)]
    · rw [kw 55 j (op_mid (by decide) (by decide)) rfl rfl, kρ 55 j rfl rfl, vc 55 (by omega)]
    · rw [kw 56 j (op_mid (by decide) (by decide)) rfl rfl, kρ 56 j rfl rfl, vc 56 (by omega)]
    · rw [kw 57 j (op_mid (by decide) (by decide)) rfl rfl, kρ 57 j rfl rfl, vc 57 (by omega)]
    · rw [kw 58 j (op_mid (by decide) (by decide)) rfl rfl, kρ 58 j rfl rfl, vc 58 (by omega)]
    · rw [kw 59 j (op_mid (by decide) (by decide)) rfl rfl, kρ 59 j rfl rfl, vc 59 (by omega)]
    · rw [kw 60 j (op_mid (by decide) (by decide)) rfl rfl, kρ 60 j rfl rfl, vc 60 (by omega)]
    · rw [kw 61 j (op_mid (by decide) (by decide)) rfl rfl, kρ 61 j rfl rfl, vc 61 (by omega)]
    · rw [kw 62 j (op_mid (by decide) (by decide)) rfl rfl, kρ 62 j rfl rfl, vc 62 (by omega)]
    · rw [kw 63 j (op_mid (by decide) (by decide)) rfl rfl, kρ 63 j rfl rfl, vc 63 (by omega)]
    · rw [kw 64 j (op_mid (by decide) (by decide)) rfl rfl, kρ 64 j rfl rfl, vc 64 (by omega)])
  have hdiff : (s 5 1).toInt - (s 6 7).toInt = (D : Int) := by
    have hx := wd.1.2.2.1.1
    rw [kρ 5 1 rfl rfl] at hx
    omega
  obtain ⟨-, -, orow, -⟩ := hol.2.2 hdiff
  have keepd : ∀ d : Nat, (d : Int) < (w 5 1).toInt → s 25 d = w 25 d ∧ s 26 d = w 26 d ∧ s 27 d = w 27 d ∧ s 28 d = w 28 d ∧ s 29 d = w 29 d := fun d hd => by
    have hx := orow d (by omega)
    rw [v25, v26, v27, v28, v29] at hx
    exact hx
  have s37 : s 37 = w 37 := funext (fun k => by rw [kw 37 k (op_lt (by decide)) rfl rfl, kρ 37 k rfl rfl, v37])
  have e513 : (s 5 13).toInt = o := by rw [kw 5 13 (op_lt (by decide)) rfl rfl, kρ 5 13 rfl rfl, v5]; exact h1
  refine ⟨fun f0 => ?_, fun f0 => ?_⟩
  · unfold pk_X8_keep
    generalize ht : upF _ 37 _ = t
    have trow : ∀ c, c ≠ 5 → c ≠ 34 → c ≠ 35 → c ≠ 36 → c ≠ 37 → t c = s c := fun c c5 c34 c35 c36 c37 => by rw [← ht, rdF_ne c37, rdF_ne c36, rdF_ne c35, rdF_ne c34, rdC_ne c5]
    have e514 : ((s 5 13) + (1 : Int32)).toInt = ((o + 1 : Nat) : Int) := by rw [ad1 (by omega), e513]; rfl
    have t37 : t 37 0 = s 37 0 := by
      rw [← ht, rdF_eq, setv_at e514 (by omega)]
      show (if (0 : Nat) = o + 1 then _ else _) = _
      rw [if_neg (by omega), rdF_ne (by decide), rdF_ne (by decide), rdF_ne (by decide), rdC_ne (by decide)]
    clear ht
    refine k _ t ⟨fun d hd => ?_, by rw [t37, s37], fun c hc => (trow c (by omega) (by omega) (by omega) (by omega) (by omega)).trans (sc c hc)⟩
    rw [trow 25 (by decide) (by decide) (by decide) (by decide) (by decide), trow 26 (by decide) (by decide) (by decide) (by decide) (by decide), trow 27 (by decide) (by decide) (by decide) (by decide) (by decide), trow 28 (by decide) (by decide) (by decide) (by decide) (by decide), trow 29 (by decide) (by decide) (by decide) (by decide) (by decide)]
    exact keepd d hd
  · unfold pk_X8_forget pk_X8_nameStart pk_X0_cut
    dsimp only
    refine k _ _ ⟨fun d hd => ?_, by rw [rdC_ne (by decide), rdC_ne (by decide), rdC_ne (by decide), rdC_ne (by decide), rdC_ne (by decide), s37], fun c hc => by rw [rdC_ne (by omega), rdC_ne (by omega), rdC_ne (by omega), rdC_ne (by omega), rdC_ne (by omega)]; exact sc c hc⟩
    rw [rdC_ne (by decide), rdC_ne (by decide), rdC_ne (by decide), rdC_ne (by decide), rdC_ne (by decide), rdC_ne (by decide), rdC_ne (by decide), rdC_ne (by decide), rdC_ne (by decide), rdC_ne (by decide), rdC_ne (by decide), rdC_ne (by decide), rdC_ne (by decide), rdC_ne (by decide), rdC_ne (by decide), rdC_ne (by decide), rdC_ne (by decide), rdC_ne (by decide), rdC_ne (by decide), rdC_ne (by decide), rdC_ne (by decide), rdC_ne (by decide), rdC_ne (by decide), rdC_ne (by decide), rdC_ne (by decide)]
    exact keepd d hd
theorem c10_in {c : Nat} (h : [9, 10, 11, 12, 13, 14, 15, 17, 18, 19].contains c = true) : 9 ≤ c ∧ c ≤ 19 := by
  have := List.contains_iff_mem.mp h
  simp at this
  omega
theorem cmz_kp (hG : GLI σ τ vs) (h : CMPz a σ s) : KPm σ s := by
  have o2 := hG.1.2.1
  rcases h with ⟨_, es⟩ | ⟨hc, lo, σ0, s1, v1, _, eL, _, _, _, kx, _, hom, hfin⟩
  · have r : ∀ c, c ≠ 0 → s c = σ c := fun c c0 => by rw [es, rdC_ne c0, rdC_ne c0, rdC_ne c0]
    refine ⟨fun e _ c hc => by rw [r c (by have := c10_in hc; omega)], fun i _ => by rw [r 20 (by decide)], fun k _ => by rw [r 22 (by decide)], fun k _ => by rw [r 23 (by decide)], ?_, ⟨r 41 (by decide), r 42 (by decide), r 43 (by decide), r 44 (by decide), r 45 (by decide)⟩, ?_⟩
    · rw [es]
      exact Int.le_refl _
    · rw [es]
      rfl
  · obtain ⟨_, ⟨o1, o22⟩, _, ⟨orm, _⟩, o20⟩ := hom
    have k23 : s1 23 = σ 23 := funext (fun j => kx 23 j rfl rfl)
    have z : FZs σ s1 := ⟨funext (fun j => kx 41 j rfl rfl), funext (fun j => kx 42 j rfl rfl), funext (fun j => kx 43 j rfl rfl), funext (fun j => kx 44 j rfl rfl), funext (fun j => kx 45 j rfl rfl)⟩
    have k70 : s1 0 70 = σ 0 70 := kx 0 70 rfl rfl
    have n351 : ((s1 0 35) + (1 : Int32)).toInt = (σ 0 35).toInt + 1 := by rw [o1, ad1 (by omega)]
    rcases hfin with ⟨_, es⟩ | ⟨_, es⟩
    · have r : ∀ c, c ≠ 0 → c ≠ 22 → c ≠ 23 → c ≠ 24 → s c = s1 c := fun c c0 c22 c23 c24 => by rw [es, rdC_ne c24, rdC_ne c22, rdC_ne c0, rdC_ne c23]
      refine ⟨fun e he c hc => ?_, fun i hi => ?_, fun k hk => ?_, fun k hk => ?_, ?_, ⟨(r 41 (by decide) (by decide) (by decide) (by decide)).trans z.1, (r 42 (by decide) (by decide) (by decide) (by decide)).trans z.2.1, (r 43 (by decide) (by decide) (by decide) (by decide)).trans z.2.2.1, (r 44 (by decide) (by decide) (by decide) (by decide)).trans z.2.2.2.1, (r 45 (by decide) (by decide) (by decide) (by decide)).trans z.2.2.2.2⟩, ?_⟩
      · have h9 := c10_in hc
        rw [r c (by omega) (by omega) (by omega) (by omega)]
        exact (orm e (by omega)).1 c hc
      · rw [r 20 (by decide) (by decide) (by decide) (by decide)]
        exact o20 i (by omega)
      · rw [es, rdC_ne (by decide), rdC]
        rw [if_pos rfl]
        show (if k = ((s1 0 35) + (1 : Int32)).toNatClampNeg then s1 0 36 else (upC (upC s1 23 (s1 0 35).toNatClampNeg (s1 0 37)) 0 35 ((s1 0 35) + (1 : Int32))) 22 k) = _
        rw [if_neg (by rw [nt', n351]; omega), rdC_ne (by decide), rdC_ne (by decide), o22]
      · rw [es, rdC_ne (by decide), rdC_ne (by decide), rdC_ne (by decide), rdC_eq]
        show (if k = (s1 0 35).toNatClampNeg then s1 0 37 else s1 23 k) = _
        rw [if_neg (by rw [nt', o1]; omega), k23]
      · rw [es, rdC_ne (by decide), rdC_ne (by decide), rdA_eq rfl, n351]
        omega
      · rw [es, rdC_ne (by decide), rdC_ne (by decide), rdA_ne (by decide), rdC_ne (by decide), k70]
    · have r : ∀ c, c ≠ 0 → s c = s1 c := fun c c0 => by rw [es, rdC_ne c0, rdC_ne c0, rdC_ne c0, rdC_ne c0, rdC_ne c0]
      refine ⟨fun e he c hc => ?_, fun i hi => ?_, fun k hk => ?_, fun k hk => ?_, ?_, ⟨(r 41 (by decide)).trans z.1, (r 42 (by decide)).trans z.2.1, (r 43 (by decide)).trans z.2.2.1, (r 44 (by decide)).trans z.2.2.2.1, (r 45 (by decide)).trans z.2.2.2.2⟩, ?_⟩
      · have h9 := c10_in hc
        rw [r c (by omega)]
        exact (orm e (by omega)).1 c hc
      · rw [r 20 (by decide)]
        exact o20 i (by omega)
      · rw [r 22 (by decide), o22]
      · rw [r 23 (by decide), k23]
      · rw [es, rdA_ne (by decide), rdA_ne (by decide), rdA_ne (by decide), rdA_ne (by decide), rdA_ne (by decide), o1]
        exact Int.le_refl _
      · rw [es, rdA_ne (by decide), rdA_ne (by decide), rdA_ne (by decide), rdA_ne (by decide), rdA_ne (by decide), k70]
theorem lyr_keep (hd : ∀ A : Nat, (A : Int) < (σ 0 35).toInt → (σ 22 (A + 1)).toInt ≤ (σ 0 36).toInt) (rf : RLf w σ) (h : LYr w σ) (kw : t 57 = w 57 ∧ t 58 = w 58 ∧ t 59 = w 59 ∧ t 10 2 = w 10 2 ∧ t 10 7 = w 10 7) (k28 : ∀ d : Nat, (d : Int) < (σ 0 36).toInt + 4 → t 28 d = w 28 d) (km : KPm σ s) : LYr t s := by
  obtain ⟨ke, k20, k22, k23, k35, ⟨e41, e42, e43, e44, _⟩, f70⟩ := km
  obtain ⟨t57, t58, t59, t2, t7⟩ := kw
  intro hr
  rw [t2] at hr
  obtain ⟨⟨a1, a2, a3⟩, b, c, d⟩ := h hr
  have lp : ∀ p, LPo s p = LPo σ p := fun p => by unfold LPo; rw [e41]
  have lt : ∀ p : Nat, (p : Int) < (σ 0 70).toInt → (LPo σ p : Int) + 1 ≤ (σ 0 35).toInt := fun p hp => by
    have := (c p hp).2.1
    unfold LPo
    omega
  have ino : ∀ p : Nat, (p : Int) < (σ 0 70).toInt → ∀ e, InO s (LPo σ p) e ↔ InO σ (LPo σ p) e := fun p hp e => by
    have := lt p hp
    unfold InO fO
    rw [k22 (LPo σ p) (by omega), k22 (LPo σ p + 1) (by omega)]
  have e36 : ∀ p : Nat, (p : Int) < (σ 0 70).toInt → ∀ e, InO σ (LPo σ p) e → (e : Int) < (σ 0 36).toInt := fun p hp e he => by
    have h1 := he.2
    have h2 := hd (LPo σ p) (by have := lt p hp; omega)
    unfold fO at h1
    omega
  rw [f70]
  refine ⟨⟨by rw [t7]; exact a1, a2, a3⟩, by rw [t57]; exact b, fun p hp => ?_, fun p p' hp hp' e => ?_⟩
  · obtain ⟨c1, c2, c3, c4, c5, c6, c7⟩ := c p hp
    have lpp := lt p hp
    unfold LYp
    rw [lp, e41, e42, e44, t57, t58, k23 (LPo σ p) (by omega)]
    refine ⟨c1, ⟨c2.1, by omega⟩, c3, c4, c5, fun e he => ?_, fun e he h12 h13 j hj hb => ?_⟩
    · rw [ino p hp] at he
      have h36 := e36 p hp e he
      have K := fun c hc => ke e h36 c hc
      obtain ⟨x, y⟩ := c6 e he
      have k28e : t 28 (e + 4) = w 28 (e + 4) := k28 (e + 4) (by omega)
      unfold LYe LTy
      rw [K 9 rfl, K 10 rfl, K 12 rfl, K 13 rfl, K 14 rfl, K 15 rfl, K 17 rfl, e42, e43, t59, k28e, f70]
      refine ⟨x, fun h13 h12 h14 => ?_⟩
      rcases y h13 h12 h14 with g | ⟨q, f, q1, fi, f12, f13, a, b', c'⟩
      · exact Or.inl g
      · have f36 := e36 q q1 f fi
        have KF := fun c hc => ke f f36 c hc
        refine Or.inr ⟨q, f, q1, by rw [lp, ino q q1]; exact fi, by rw [KF 12 rfl]; exact f12, by rw [KF 13 rfl]; exact f13, ?_, b', c'⟩
        unfold HTy at a ⊢
        rw [K 9 rfl, K 10 rfl, K 15 rfl, KF 9 rfl, KF 10 rfl, KF 15 rfl]
        exact a
    · rw [ino p hp] at he
      have h36 := e36 p hp e he
      have K := fun c hc => ke e h36 c hc
      rw [K 12 rfl] at h12
      rw [K 13 rfl] at h13
      obtain ⟨_, _, _, _, n1, n2, n3, n4, n5, n6, n7⟩ := rf.2.1 e h36
      obtain ⟨b1, b2⟩ := hb
      rw [K 19 rfl] at b1
      refine c7 e he h12 h13 j hj ⟨b1, fun i hi => ?_⟩
      have q := b2 i hi
      unfold nfm at q ⊢
      rw [K 18 rfl, k20 _ (by omega)] at q
      exact q
  · rw [lp, lp] at e
    exact d p p' hp hp' e
theorem hdl (h : IVx w o) (r : RLg w σ) : ∀ A : Nat, (A : Int) < (σ 0 35).toInt → (σ 22 (A + 1)).toInt ≤ (σ 0 36).toInt := fun A hA => ((hd_le h r.1.1.1.1 r.1.1.1.2.1).2 A hA).2
theorem kpm_cells (m : (∀ c, 2 ≤ c → s c = σ c) ∧ ∀ j, 3 ≤ j → s 0 j = σ 0 j) : KPm σ s := ⟨fun e _ c hc => by rw [m.1 c (by have := c10_in hc; omega)], fun i _ => by rw [m.1 20 (by decide)], fun k _ => by rw [m.1 22 (by decide)], fun k _ => by rw [m.1 23 (by decide)], by rw [m.2 35 (by decide)]; exact Int.le_refl _, ⟨m.1 41 (by decide), m.1 42 (by decide), m.1 43 (by decide), m.1 44 (by decide), m.1 45 (by decide)⟩, m.2 70 (by decide)⟩
theorem kpm_fr (g : FGs σ s) (m : s 0 35 = σ 0 35) (f : FKs σ s) (z : FZs σ s) : KPm σ s := ⟨fun e _ c hc => by have := c10_in hc; rw [g c (by omega) (by omega)], fun i _ => by rw [g 20 (by decide) (by decide)], fun k _ => by rw [g 22 (by decide) (by decide)], fun k _ => by rw [g 23 (by decide) (by decide)], by rw [m]; exact Int.le_refl _, z, f.1⟩
theorem rlg_0 : RLg sc0 sm0 := ⟨rlc_0, fun h => absurd (by decide) h, by decide⟩
theorem rlg_cells (h : IVx w o) (r : RLg w σ) (c : (∀ c, 2 ≤ c → t c = w c) ∧ ∀ j, 3 ≤ j → t 0 j = w 0 j) (m : (∀ c, 2 ≤ c → s c = σ c) ∧ ∀ j, 3 ≤ j → s 0 j = σ 0 j) : LYr t s ∧ (t 37 0).toInt = 0 := ⟨lyr_keep (hdl h r) r.1.1.2 r.2.1 ⟨c.1 57 (by decide), c.1 58 (by decide), c.1 59 (by decide), by rw [c.1 10 (by decide)], by rw [c.1 10 (by decide)]⟩ (fun d _ => by rw [c.1 28 (by decide)]) (kpm_cells m), by rw [c.1 37 (by decide)]; exact r.2.2⟩
theorem rlg_feed (h : IVx w o) (r : RLg w σ) (c : FDt a1 a2 a3 a4 a5 w t) (m : FDt a1 a2 a3 a4 a5 σ s) : RLg t s := ⟨rlc_feed r.1 c m, rlg_cells h r (fd_cells c) (fd_cells m)⟩
theorem rlg_end (h : IVx w o) (r : RLg w σ) (c : ENt a w t) (m : ENt a σ s) : RLg t s := ⟨rlc_end r.1 c m, rlg_cells h r (en_cells c) (en_cells m)⟩
/-- pick() -/
theorem px_pick57 {Q : Int32 → St → Prop} (k : ∀ v t, (t 57 = w 57 ∧ t 58 = w 58 ∧ t 59 = w 59 ∧ t 10 7 = w 10 7) → Q v t) : pk_X12_pick a w Q := by
  unfold pk_X12_pick pk_X8_has pk_X4_choose
  have same : ∀ v, Q v w := fun v => k v w ⟨rfl, rfl, rfl, rfl⟩
  have body : ∃ L2 : Int32 → Prop, (L2 (1 : Int32)) ∧ ∀ (x2_2 : Int32), L2 x2_2 → (((w 10 5).toInt ≤ x2_2.toInt → (Q (((w 10 5) + (1 : Int32)) - (1 : Int32)) (upC (upF w 56 (setv 101 (w 56) (w 10 5) a)) 10 5 ((w 10 5) + (1 : Int32))))) ∧ (x2_2.toInt < (w 10 5).toInt → (((atv 101 (w 56) x2_2).toInt ≠ a.toInt → (L2 (x2_2 + 1))) ∧ ((atv 101 (w 56) x2_2).toInt = a.toInt → (Q ((-1) : Int32) w))))) := ⟨fun _ => True, trivial, fun x _ => ⟨fun _ => k _ _ ⟨by rw [rdC_ne (by decide), rdF_ne (by decide)], by rw [rdC_ne (by decide), rdF_ne (by decide)], by rw [rdC_ne (by decide), rdF_ne (by decide)], by rw [rdA_ne (by decide), rdF_ne (by decide)]⟩, fun _ => ⟨fun _ => trivial, fun _ => same _⟩⟩⟩
  exact ⟨fun _ => ⟨fun _ => same _, fun _ => body⟩, fun _ => ⟨fun _ => ⟨fun _ => same _, fun _ => body⟩, fun _ => ⟨fun _ => same _, fun _ => body⟩⟩⟩
theorem cg_pick (h : IVx w o) : wk_X12_pick a w (fun v t => (∃ o, IVx t o) ∧ FQs w t ∧ (PCw w a v t ∧ (t 10 2 = w 10 2 ∧ t 10 3 = w 10 3 ∧ t 10 4 = w 10 4 ∧ t 11 0 = w 11 0)) ∧ (t 57 = w 57 ∧ t 58 = w 58 ∧ t 59 = w 59 ∧ t 10 7 = w 10 7)) := mg_wk_X12_pick (fun _ _ p q => ⟨p.1, p.2.1, p.2.2, q⟩) (ce_pick h) (px_pick57 (Q := fun _ t => t 57 = w 57 ∧ t 58 = w 58 ∧ t 59 = w 59 ∧ t 10 7 = w 10 7) (fun _ _ q => q))
theorem rz_pick {Q : Int32 → St → St → List Nat → Prop} (h : GLI σ τ vs) (k : ∀ r s, GLI s τ vs → s 0 2 = σ 0 2 → FMs σ s → FGs σ s → (PCm σ a r s ∧ FKs σ s ∧ FNs σ s) ∧ FZs σ s → Q r s τ vs) : wp_pick a σ τ vs Q := mg_wp_pick (fun r s t z p q => by
  obtain ⟨et, ez, g, f, f2, f3, f4⟩ := p
  rw [et, ez]
  exact k r s g f f2 f3 ⟨f4, q⟩) (re_pick (Q := fun r s t z => t = τ ∧ z = vs ∧ GLI s τ vs ∧ s 0 2 = σ 0 2 ∧ FMs σ s ∧ FGs σ s ∧ PCm σ a r s ∧ FKs σ s ∧ FNs σ s) h (fun r s g h2 h3 h4 h5 => ⟨rfl, rfl, g, h2, h3, h4, h5⟩)) (fz_pp_pick (Q := fun _ s _ _ => FZs σ s) fz_rf (fun _ _ _ _ q => q))
theorem rlg_pick (hI : IVx w o) (hG : GLI σ τ vs) (h : RLg w σ) (ht : ∃ o, IVx t o) (c : FQs w t) (p : (PCw w a v t ∧ (t 10 2 = w 10 2 ∧ t 10 3 = w 10 3 ∧ t 10 4 = w 10 4 ∧ t 11 0 = w 11 0)) ∧ (t 57 = w 57 ∧ t 58 = w 58 ∧ t 59 = w 59 ∧ t 10 7 = w 10 7)) (m : FMs σ s) (g : FGs σ s) (q : (PCm σ a v2 s ∧ FKs σ s ∧ FNs σ s) ∧ FZs σ s) : v2 = v ∧ RLg t s := by
  obtain ⟨e, r⟩ := rlc_pick hG h.1 ht c p.1 m g q.1
  have fq : ∀ c', ¬ FQw c' → t c' = w c' := c
  exact ⟨e, r, lyr_keep (hdl hI h) h.1.1.2 h.2.1 ⟨p.2.1, p.2.2.1, p.2.2.2.1, p.1.2.1, p.2.2.2.2⟩ (fun d _ => by rw [fq 28 (by unfold FQw; decide)]) (kpm_fr g m.2.2.2.2.1 q.1.2.1 q.2), by rw [fq 37 (by unfold FQw; decide)]; exact h.2.2⟩
/-- run(), input() -/
theorem lyr_fw (hI : IVx w o) (h : RLg w σ) (c2 : FWs w t) (m : FMs σ s) (g : FGs σ s) (f : FKs σ s) (z : FZs σ s) : LYr t s ∧ (t 37 0).toInt = 0 := ⟨lyr_keep (hdl hI h) h.1.1.2 h.2.1 ⟨c2 57 (by unfold FWw; decide), c2 58 (by unfold FWw; decide), c2 59 (by unfold FWw; decide), by rw [c2 10 (by unfold FWw; decide)], by rw [c2 10 (by unfold FWw; decide)]⟩ (fun d _ => by rw [c2 28 (by unfold FWw; decide)]) (kpm_fr g m.2.2.2.2.1 f z), by rw [c2 37 (by unfold FWw; decide)]; exact h.2.2⟩
theorem rz_input {Q : Int32 → St → St → List Nat → Prop} (h : GLI σ τ vs) (k : ∀ r s, GLI s τ vs → s 0 2 = σ 0 2 → FMs σ s → FGs σ s → FHs σ s → (IUq (σ 0 88) r (s 0 88) ∧ FKs σ s) ∧ FZs σ s → Q r s τ vs) : wp_input a σ τ vs Q := mg_wp_input (fun r s t z p q => by
  obtain ⟨et, ez, g, f, f2, f3, f4, f5⟩ := p
  rw [et, ez]
  exact k r s g f f2 f3 f4 ⟨f5, q⟩) (re_input (Q := fun r s t z => t = τ ∧ z = vs ∧ GLI s τ vs ∧ s 0 2 = σ 0 2 ∧ FMs σ s ∧ FGs σ s ∧ FHs σ s ∧ IUq (σ 0 88) r (s 0 88) ∧ FKs σ s) h (fun r s g h2 h3 h4 h5 h6 => ⟨rfl, rfl, g, h2, h3, h4, h5, h6⟩)) (fz_pp_input (Q := fun _ s _ _ => FZs σ s) fz_rf (fun _ _ _ _ q => q))
theorem rlg_input (hI : IVx w o) (h : RLg w σ) (c : FQs w t) (c2 : FWs w t ∧ IUq (w 11 0) v (t 11 0)) (m : FMs σ s) (g : FGs σ s) (f : FHs σ s) (q : (IUq (σ 0 88) v2 (s 0 88) ∧ FKs σ s) ∧ FZs σ s) : v2 = v ∧ RLg t s := by
  obtain ⟨e, r⟩ := rlc_input h.1 c c2 m g f q.1
  exact ⟨e, r, lyr_fw hI h c2.1 m g q.1.2 q.2⟩
theorem rz_run {Q : Int32 → St → St → List Nat → Prop} (h : GLI σ τ vs) (hF : (σ 0 2).toInt ≤ 10240) (k : ∀ r s, GLI s τ vs → s 0 2 = σ 0 2 → FMs σ s → FGs σ s → FHs σ s → (RNq (0 ≤ (σ 0 70).toInt) a (σ 0 88) (s 0 88) ∧ FKs σ s) ∧ FZs σ s → Q r s τ vs) : wp_run a σ τ vs Q := mg_wp_run (fun r s t z p q => by
  obtain ⟨et, ez, g, f, f2, f3, f4, f5⟩ := p
  rw [et, ez]
  exact k r s g f f2 f3 f4 ⟨f5, q⟩) (re_run (Q := fun r s t z => t = τ ∧ z = vs ∧ GLI s τ vs ∧ s 0 2 = σ 0 2 ∧ FMs σ s ∧ FGs σ s ∧ FHs σ s ∧ RNq (0 ≤ (σ 0 70).toInt) a (σ 0 88) (s 0 88) ∧ FKs σ s) h hF (fun r s g h2 h3 h4 h5 h6 => ⟨rfl, rfl, g, h2, h3, h4, h5, h6⟩)) (fz_pp_run (Q := fun _ s _ _ => FZs σ s) fz_rf (fun _ _ _ _ q => q))
theorem rlg_run (hI : IVx w o) (h : RLg w σ) (c : FQs w t) (c2 : FWs w t ∧ RNq ((w 10 2).toInt ≠ 0) a (w 11 0) (t 11 0)) (m : FMs σ s) (g : FGs σ s) (f : FHs σ s) (q : (RNq (0 ≤ (σ 0 70).toInt) a (σ 0 88) (s 0 88) ∧ FKs σ s) ∧ FZs σ s) : RLg t s := ⟨rlc_run h.1 c c2 m g f q.1, lyr_fw hI h c2.1 m g q.1.2 q.2⟩
/-- cell() -/
theorem cg_cell (h : IVx w o) : wk_X12_cell w (fun v t => (∃ o, IVx t o) ∧ t = upC w 0 1 (0 : Int32) ∧ CZc w v) := mg_wk_X12_cell (fun _ _ p q => ⟨p.1, p.2, q⟩) (cq_cell h) (px_cellx (Q := fun v _ => CZc w v) h (fun _ q => q))
theorem rz_cell {Q : Int32 → St → St → List Nat → Prop} (h : GLI σ τ vs) (k : ∀ r s, GLI s τ vs → (s 0 1).toInt = 0 → s 0 2 = σ 0 2 → FCs σ s → FGs σ s → FHs σ s → FKs σ s → FNs σ s → FZs σ s ∧ CZm σ r → Q r s τ vs) : wp_cell σ τ vs Q := mg_wp_cell (fun r s t z p q => by
  obtain ⟨et, ez, g, f, f2, f3, f4, f5, f6, f7⟩ := p
  rw [et, ez]
  exact k r s g f f2 f3 f4 f5 f6 f7 q) (re_cell (Q := fun _ s t z => t = τ ∧ z = vs ∧ GLI s τ vs ∧ (s 0 1).toInt = 0 ∧ s 0 2 = σ 0 2 ∧ FCs σ s ∧ FGs σ s ∧ FHs σ s ∧ FKs σ s ∧ FNs σ s) h (fun r s g h1 h2 h3 h4 h5 h6 h7 => ⟨rfl, rfl, g, h1, h2, h3, h4, h5, h6, h7⟩)) (cj_wp_cell (Q := fun v s _ _ => FZs σ s ∧ CZm σ v) (fun v s t z p q => ⟨p, q⟩) (fz_pp_cell (Q := fun _ s _ _ => FZs σ s) fz_rf (fun _ _ _ _ q => q)) (rx_cellx (Q := fun v _ _ _ => CZm σ v) h (fun _ _ q => q)))
theorem rlg_cell (hI : IVx w o) (hG : GLI σ τ vs) (h : RLg w σ) (c : t = upC w 0 1 (0 : Int32) ∧ CZc w v) (h1 : (s 0 1).toInt = 0) (h2 : s 0 2 = σ 0 2) (m : FCs σ s) (g : FGs σ s) (f : FHs σ s) (fk : FKs σ s) (fn : FNs σ s) (q : FZs σ s ∧ CZm σ v2) : v2 = v ∧ RLg t s := by
  have r : ∀ c, c ≠ 0 → t c = w c := fun q hq => by rw [c.1, rdC_ne hq]
  exact ⟨cl_eq (lkx_of hI hG h.1) h.2.1 h.1.2.2.1 c.2 q.2, rlc_cell h.1 c.1 h1 h2 m g f fk fn, lyr_keep (hdl hI h) h.1.1.2 h.2.1 ⟨r 57 (by decide), r 58 (by decide), r 59 (by decide), by rw [r 10 (by decide)], by rw [r 10 (by decide)]⟩ (fun d _ => by rw [r 28 (by decide)]) (kpm_fr g m.2.2.1 fk q.1), by rw [r 37 (by decide)]; exact h.2.2⟩
/-- compile() -/
theorem cg_compile (h : IVx w o) (hG : GLI σ τ vs) (r : RLg w σ) : wk_X12_compile a w (fun _ t => (∃ o, IVx t o) ∧ ∀ s : St, CMPz a σ s → (s 0 1).toInt = 0 → s 0 2 = σ 0 2 → RLg t s) := mg_wk_X12_compile (fun _ t p q => ⟨p.1, fun s c h1 h2 => ⟨p.2 s c h1 h2, lyr_keep (hdl h r) r.1.1.2 r.2.1 ⟨q.2.2 57 (by omega), q.2.2 58 (by omega), q.2.2 59 (by omega), by rw [q.2.2 10 (by omega)], by rw [q.2.2 10 (by omega)]⟩ (fun d hd => (q.1 d (by have := r.1.1.1.1.2.1; omega)).2.2.2.1) (cmz_kp hG c), by rw [q.2.1]; exact r.2.2⟩⟩) (ce_compile h hG r.1) (pl_keepd (Q := fun _ t => KPd w t) h (fun _ _ q => q))
/-- link() -/
theorem rlg_link (K : LKx w σ τ vs o) (h : RLg w σ) (c : FQs w t) (c2 : (t 10 5).toInt = 1 ∧ LNc w v t) (m : FMs σ s) (g : FGs σ s) (f : (s 0 67).toInt = 0 ∧ LNm σ v2 s) : v2 = v ∧ RLg t s := by
  obtain ⟨e, r⟩ := rlc_link K h.1 c c2 m g f
  have fq : ∀ c', ¬ FQw c' → t c' = w c' := c
  refine ⟨e, r, ?_, by rw [fq 37 (by unfold FQw; decide)]; exact h.2.2⟩
  have hdx := hdl K.1 h
  have rf := h.1.1.2
  have l0 : ∀ c, c ≠ 10 → LN0 w c = w c := ln0_rows
  have m0 : ∀ c, c ≠ 0 → LM0 σ c = σ c := lm0_rows
  -- nothing laid
  have bad : (∀ c, c ≠ 10 → t c = w c) → t 10 2 = w 10 2 → t 10 7 = w 10 7 → FZs σ s → s 0 70 = σ 0 70 → LYr t s := fun ht t2 t7 hz h70 => lyr_keep hdx rf h.2.1 ⟨ht 57 (by decide), ht 58 (by decide), ht 59 (by decide), t2, t7⟩ (fun d _ => by rw [ht 28 (by decide)]) ⟨fun e _ c hc => by have := c10_in hc; rw [g c (by omega) (by omega)], fun i _ => by rw [g 20 (by decide) (by decide)], fun k _ => by rw [g 22 (by decide) (by decide)], fun k _ => by rw [g 23 (by decide) (by decide)], by rw [m.2.2.2.2.1]; exact Int.le_refl _, hz, h70⟩
  have kz : ∀ s', Kp [(0, 73), (0, 74)] [] (LM0 σ) s' → FZs σ s' ∧ s' 0 70 = σ 0 70 := fun s' k => by
    have q : ∀ c, c ≠ 0 → s' c = σ c := fun c hc => (k7_rows k c hc).trans (m0 c hc)
    exact ⟨⟨q 41 (by decide), q 42 (by decide), q 43 (by decide), q 44 (by decide), q 45 (by decide)⟩, (k 0 70 rfl rfl).trans rfl⟩
  have neg0 : ∀ b : Int32, 31 ≤ b.toInt → b.toInt ≤ 40 → -b = (0 : Int32) → False := fun b b1 b2 e => by
    have z0 : ((0 : Int32)).toInt = 0 := rfl
    have h := congrArg Int32.toInt e
    rw [← Int32.zero_sub, sb (by rw [z0]; omega) (by rw [z0]; omega), z0] at h
    omega
  -- the reference's end, where it fails
  have mbad : v2 ≠ 0 → FZs σ s ∧ s 0 70 = σ 0 70 := fun hv => by
    rcases f.2 with ⟨kind, p, e', c', s', _, _, _, _, _, k', es⟩ | ⟨_, ⟨_, _, k'⟩ | ⟨f', _, ⟨_, _, k'⟩ | ⟨_, ev, _⟩⟩⟩
    · obtain ⟨a1, a2⟩ := kz s' k'
      rw [es]
      exact ⟨fz_c (fz_c a1 (by decide)) (by decide), by rw [rdA_ne (by decide), rdA_ne (by decide)]; exact a2⟩
    · exact kz s k'
    · exact kz s k'
    · exact absurd ev hv
  rcases c2.2 with ⟨kind, x, d, cc, c1, c3, c4, c5, c6⟩ | ⟨hno, mm, hm, c3⟩
  · obtain ⟨z1, z2⟩ := mbad (by rw [e, c5]; exact fun z => neg0 kind c1.1 (by omega) z)
    refine bad (fun c hc => ?_) ?_ ?_ z1 z2
    · rw [c6, rdC_ne hc, rdC_ne hc, rdC_ne hc, l0 c hc]
    · rw [c6]; rfl
    · rw [c6]; rfl
  · rcases c3 with ⟨_, ev, et⟩ | ⟨_, ⟨_, ev, et⟩ | ⟨hds, ev, s9, kx, ly, et⟩⟩
    · obtain ⟨z1, z2⟩ := mbad (by rw [e, ev]; decide)
      refine bad (fun c hc => ?_) ?_ ?_ z1 z2
      · rw [et, rdC_ne hc, l0 c hc]
      · rw [et]; rfl
      · rw [et]; rfl
    · obtain ⟨z1, z2⟩ := mbad (by rw [e, ev]; decide)
      refine bad (fun c hc => ?_) ?_ ?_ z1 z2
      · rw [et, rdC_ne hc, l0 c hc]
      · rw [et]; rfl
      · rw [et]; rfl
    · have hv2 : v2 = 0 := by rw [e, ev]
      rcases f.2 with ⟨kind, p, e', c', s', k1, _, _, _, ev', _, _⟩ | ⟨hnom, ⟨_, ev', _⟩ | ⟨f', _, ⟨_, ev', _⟩ | ⟨hs, _, s1, s2, k1, k2, lm, es⟩⟩⟩
      · rw [hv2] at ev'
        exact absurd ev'.symm (fun z => neg0 kind k1.1 (by omega) z)
      · rw [hv2] at ev'
        exact absurd ev' (by decide)
      · rw [hv2] at ev'
        exact absurd ev' (by decide)
      · have r1 : ∀ c, c ≠ 0 → upC s1 0 78 (σ 17 f') c = σ c := fun c hc => by rw [rdC_ne hc]; exact (k7_rows k1 c hc).trans (m0 c hc)
        refine lay_eq K h.2.2 hnom hs kx ly lm (fun c hc => ?_) ?_ (fun c h1 h2 => ?_) (fun c h1 h2 => ?_) ?_ m.2.2.2.2.1
        · rw [et, rdC_ne hc, rdC_ne hc, rdC_ne hc]
        · rw [et, rdA_ne (by decide), rdA_ne (by decide), rdA_ne (by decide)]
        · by_cases c39 : c ≤ 39
          · exact g c h1 c39
          · have c40 : c = 40 := by omega
            rw [c40, es, rdC_ne (by decide), show s2 40 = upC s1 0 78 (σ 17 f') 40 from funext (fun j => k2 40 j rfl rfl), r1 40 (by decide)]
        · rw [es, rdC_ne (by omega)]
        · rw [es]
          rfl
end CLG
